theorem hd_X5_thrown : yX5_thrown.cls = RX5 ∧ yX5_thrown.cls ≠ "java/lang/invoke/MethodHandle" ∧ yX5_thrown.cls ≠ "java/lang/invoke/VarHandle" ∧ (parseMethodDescriptor yX5_thrown.desc).map (fun d => d.parameters.length) = some 0 := by decide +kernel
def p_X5_thrown (uL : tX5) : Option Int32 :=
  some uL.1
set_option maxHeartbeats 4000000 in
set_option maxRecDepth 100000 in
theorem c_X5_thrown (l : Launch) (dC : Nat → ClassId) (dI : Nat → Nat → Nat) (cI cZ : ClassId) (l0 l4 l5 l6 l8 l10 l11 l12 l13 l14 l15 l16 : Nat) (uL : tX5) {z : Int32} (hok : p_X5_thrown uL = some z) : Met l yX5_thrown (Cond.code yX5_thrown cX5_thrown 1 (some .int) :: lw_all) { frames := 0, cells := 0, slots := 0, locals := 0 } (prR (dC, dI) vwCl (TYS cI cZ) ((wX5 cI cZ l0 l4 l5 l6 l8 l10 l11 l12 l13 l14 l15 l16 uL)) [.ref l0]) (vp_Si (fun r => r = z)) 0 0 (fun _ => False) := by
  refine oM (by decide) (Nat.le_of_ble_eq_true rfl) ?_
  intro p e s m args below meth c S hr hlk hnm hB ls hl
  have hx := S.1
  have hb := S.2.1
  have hml := S.2.2.1
  have hown : s.vm.findClass RX5 = some m.cls := S.2.2.2.1
  have hts := S.2.2.2.2
  have S : CallFix p m c cX5_thrown 1 s args lw_all RX5 := S
  have hl : lv_has ls 1 [(0, .ref l0)] := hl
  obtain ⟨hP, hK⟩ := hB
  have hP : va_P (dC, dI) vwCl ((wX5 cI cZ l0 l4 l5 l6 l8 l10 l11 l12 l13 l14 l15 l16 uL)) s.heap := hP
  unfold p_X5_thrown at hok
  refine lv_aload_n hx hb dX5_thrown_0 rfl (lv_at hl 0 rfl) ?_
  refine va_get (D := (dC, dI)) (ci := 5) (v := .int uL.1) (C := RX5) (T := TX5) (N := 18) hx hb hts inX5 hown hK hP 0 rfl rfl 0 (by decide) (hts _ qf_X5_50) (fun _ h9 => h9) rfl dX5_thrown_1 ?_
  exact eRi S hr hlk (Option.some.inj hok) dX5_thrown_4
theorem hd_X5_fail : yX5_fail.cls = RX5 ∧ yX5_fail.cls ≠ "java/lang/invoke/MethodHandle" ∧ yX5_fail.cls ≠ "java/lang/invoke/VarHandle" ∧ (parseMethodDescriptor yX5_fail.desc).map (fun d => d.parameters.length) = some 1 := by decide +kernel
def p_X5_fail (uL : tX5) (a1 : Int32) : Option (Int32 × tX5) :=
  some ((0 : Int32), (a1, uL.2.1, uL.2.2.1, uL.2.2.2.1, uL.2.2.2.2.1, uL.2.2.2.2.2.1, uL.2.2.2.2.2.2.1, uL.2.2.2.2.2.2.2.1, uL.2.2.2.2.2.2.2.2.1, uL.2.2.2.2.2.2.2.2.2.1, uL.2.2.2.2.2.2.2.2.2.2.1, uL.2.2.2.2.2.2.2.2.2.2.2.1, uL.2.2.2.2.2.2.2.2.2.2.2.2.1, uL.2.2.2.2.2.2.2.2.2.2.2.2.2.1, uL.2.2.2.2.2.2.2.2.2.2.2.2.2.2.1, uL.2.2.2.2.2.2.2.2.2.2.2.2.2.2.2.1, uL.2.2.2.2.2.2.2.2.2.2.2.2.2.2.2.2.1, uL.2.2.2.2.2.2.2.2.2.2.2.2.2.2.2.2.2))
set_option maxHeartbeats 4000000 in
set_option maxRecDepth 100000 in
theorem c_X5_fail (l : Launch) (dC : Nat → ClassId) (dI : Nat → Nat → Nat) (cI cZ : ClassId) (l0 l4 l5 l6 l8 l10 l11 l12 l13 l14 l15 l16 : Nat) (sz : Nat) (uL : tX5) (a1 : Int32) {z : (Int32 × tX5)} (hok : p_X5_fail uL a1 = some z) : Met l yX5_fail (Cond.code yX5_fail cX5_fail 2 (some .int) :: lw_all) { frames := 0, cells := 0, slots := 0, locals := 0 } (prW (dC, dI) vwCl (TYS cI cZ) ((wX5 cI cZ l0 l4 l5 l6 l8 l10 l11 l12 l13 l14 l15 l16 uL)) sz [.ref l0, .int a1]) (va_Qi (fun (r : Int32) (_ : Unit) => r = z.1) (fun _ t => va_P (dC, dI) vwCl ((wX5 cI cZ l0 l4 l5 l6 l8 l10 l11 l12 l13 l14 l15 l16 z.2)) t.heap) (va_A ((wX5 cI cZ l0 l4 l5 l6 l8 l10 l11 l12 l13 l14 l15 l16 uL)) sz)) 0 0 (va_A ((wX5 cI cZ l0 l4 l5 l6 l8 l10 l11 l12 l13 l14 l15 l16 uL)) sz) := by
  refine oM (by decide) (Nat.le_of_ble_eq_true rfl) ?_
  intro p e s m args below meth c S hr hlk hnm hB ls hl
  have hx := S.1
  have hb := S.2.1
  have hml := S.2.2.1
  have hown : s.vm.findClass RX5 = some m.cls := S.2.2.2.1
  have hts := S.2.2.2.2
  have S : CallFix p m c cX5_fail 2 s args lw_all RX5 := S
  have hl : lv_has ls 2 [(0, .ref l0), (1, .int a1)] := hl
  obtain ⟨hsz, hP, hK, hD0⟩ := hB
  subst hsz
  have hD := hD0.self (sz := s.heap.size)
  generalize hAe : va_A ((wX5 cI cZ l0 l4 l5 l6 l8 l10 l11 l12 l13 l14 l15 l16 uL)) s.heap.size = A at hD ⊢
  have hA : ∀ q : Nat, s.heap.size ≤ q → A q := fun q h => by rw [← hAe]; exact Or.inr h
  have hS : va_S A s.heap s.heap [] := va_S.rf
  have hP : va_P (dC, dI) vwCl ((wX5 cI cZ l0 l4 l5 l6 l8 l10 l11 l12 l13 l14 l15 l16 uL)) s.heap := hP
  unfold p_X5_fail at hok
  refine lv_aload_n hx hb dX5_fail_0 rfl (lv_at hl 0 rfl) ?_
  refine lv_iload_n hx hb dX5_fail_1 rfl (lv_at hl 1 rfl) ?_
  refine va_put (D := (dC, dI)) (ci := 5) (v := .int a1) (ty := .int) (C := RX5) (T := TX5) (N := 18) hx hb hts inX5 tyX5 tyX5_ok nmX5 hown hK hP hD hS 0 rfl rfl 0 (by decide) (hts _ qf_X5_50) (fun _ h9 => h9) rfl (tyX5_ok 0 (by decide)) rfl rfl (Nat.le_of_ble_eq_true rfl) dX5_fail_2 (fun H locs hP _ hS => ?_)
  have hP : va_P (dC, dI) vwCl ((wX5 cI cZ l0 l4 l5 l6 l8 l10 l11 l12 l13 l14 l15 l16 (a1, uL.2.1, uL.2.2.1, uL.2.2.2.1, uL.2.2.2.2.1, uL.2.2.2.2.2.1, uL.2.2.2.2.2.2.1, uL.2.2.2.2.2.2.2.1, uL.2.2.2.2.2.2.2.2.1, uL.2.2.2.2.2.2.2.2.2.1, uL.2.2.2.2.2.2.2.2.2.2.1, uL.2.2.2.2.2.2.2.2.2.2.2.1, uL.2.2.2.2.2.2.2.2.2.2.2.2.1, uL.2.2.2.2.2.2.2.2.2.2.2.2.2.1, uL.2.2.2.2.2.2.2.2.2.2.2.2.2.2.1, uL.2.2.2.2.2.2.2.2.2.2.2.2.2.2.2.1, uL.2.2.2.2.2.2.2.2.2.2.2.2.2.2.2.2.1, uL.2.2.2.2.2.2.2.2.2.2.2.2.2.2.2.2.2))) H := hP
  have hD : va_D A ((wX5 cI cZ l0 l4 l5 l6 l8 l10 l11 l12 l13 l14 l15 l16 (a1, uL.2.1, uL.2.2.1, uL.2.2.2.1, uL.2.2.2.2.1, uL.2.2.2.2.2.1, uL.2.2.2.2.2.2.1, uL.2.2.2.2.2.2.2.1, uL.2.2.2.2.2.2.2.2.1, uL.2.2.2.2.2.2.2.2.2.1, uL.2.2.2.2.2.2.2.2.2.2.1, uL.2.2.2.2.2.2.2.2.2.2.2.1, uL.2.2.2.2.2.2.2.2.2.2.2.2.1, uL.2.2.2.2.2.2.2.2.2.2.2.2.2.1, uL.2.2.2.2.2.2.2.2.2.2.2.2.2.2.1, uL.2.2.2.2.2.2.2.2.2.2.2.2.2.2.2.1, uL.2.2.2.2.2.2.2.2.2.2.2.2.2.2.2.2.1, uL.2.2.2.2.2.2.2.2.2.2.2.2.2.2.2.2.2))) := D_L hD
  refine lv_iconst (v := (0 : Int32)) hx hb dX5_fail_5 (by decide) ?_
  have hok := Option.some.inj hok
  subst hok
  exact eWi S hr hlk rfl hP hS (Nat.le_of_ble_eq_true rfl) (Nat.le_of_ble_eq_true rfl) dX5_fail_6
theorem hd_X5_told : yX5_told.cls = RX5 ∧ yX5_told.cls ≠ "java/lang/invoke/MethodHandle" ∧ yX5_told.cls ≠ "java/lang/invoke/VarHandle" ∧ (parseMethodDescriptor yX5_told.desc).map (fun d => d.parameters.length) = some 1 := by decide +kernel
def p_X5_told (uL : tX5) (a1 : Int32) : Option (Int32 × tX5) :=
  some (a1, ((0 : Int32), uL.2.1, uL.2.2.1, uL.2.2.2.1, uL.2.2.2.2.1, uL.2.2.2.2.2.1, uL.2.2.2.2.2.2.1, uL.2.2.2.2.2.2.2.1, uL.2.2.2.2.2.2.2.2.1, uL.2.2.2.2.2.2.2.2.2.1, uL.2.2.2.2.2.2.2.2.2.2.1, uL.2.2.2.2.2.2.2.2.2.2.2.1, uL.2.2.2.2.2.2.2.2.2.2.2.2.1, uL.2.2.2.2.2.2.2.2.2.2.2.2.2.1, uL.2.2.2.2.2.2.2.2.2.2.2.2.2.2.1, uL.2.2.2.2.2.2.2.2.2.2.2.2.2.2.2.1, uL.2.2.2.2.2.2.2.2.2.2.2.2.2.2.2.2.1, uL.2.2.2.2.2.2.2.2.2.2.2.2.2.2.2.2.2))
set_option maxHeartbeats 4000000 in
set_option maxRecDepth 100000 in
theorem c_X5_told (l : Launch) (dC : Nat → ClassId) (dI : Nat → Nat → Nat) (cI cZ : ClassId) (l0 l4 l5 l6 l8 l10 l11 l12 l13 l14 l15 l16 : Nat) (sz : Nat) (uL : tX5) (a1 : Int32) {z : (Int32 × tX5)} (hok : p_X5_told uL a1 = some z) : Met l yX5_told (Cond.code yX5_told cX5_told 2 (some .int) :: lw_all) { frames := 0, cells := 0, slots := 0, locals := 0 } (prW (dC, dI) vwCl (TYS cI cZ) ((wX5 cI cZ l0 l4 l5 l6 l8 l10 l11 l12 l13 l14 l15 l16 uL)) sz [.ref l0, .int a1]) (va_Qi (fun (r : Int32) (_ : Unit) => r = z.1) (fun _ t => va_P (dC, dI) vwCl ((wX5 cI cZ l0 l4 l5 l6 l8 l10 l11 l12 l13 l14 l15 l16 z.2)) t.heap) (va_A ((wX5 cI cZ l0 l4 l5 l6 l8 l10 l11 l12 l13 l14 l15 l16 uL)) sz)) 0 0 (va_A ((wX5 cI cZ l0 l4 l5 l6 l8 l10 l11 l12 l13 l14 l15 l16 uL)) sz) := by
  refine oM (by decide) (Nat.le_of_ble_eq_true rfl) ?_
  intro p e s m args below meth c S hr hlk hnm hB ls hl
  have hx := S.1
  have hb := S.2.1
  have hml := S.2.2.1
  have hown : s.vm.findClass RX5 = some m.cls := S.2.2.2.1
  have hts := S.2.2.2.2
  have S : CallFix p m c cX5_told 2 s args lw_all RX5 := S
  have hl : lv_has ls 2 [(0, .ref l0), (1, .int a1)] := hl
  obtain ⟨hsz, hP, hK, hD0⟩ := hB
  subst hsz
  have hD := hD0.self (sz := s.heap.size)
  generalize hAe : va_A ((wX5 cI cZ l0 l4 l5 l6 l8 l10 l11 l12 l13 l14 l15 l16 uL)) s.heap.size = A at hD ⊢
  have hA : ∀ q : Nat, s.heap.size ≤ q → A q := fun q h => by rw [← hAe]; exact Or.inr h
  have hS : va_S A s.heap s.heap [] := va_S.rf
  have hP : va_P (dC, dI) vwCl ((wX5 cI cZ l0 l4 l5 l6 l8 l10 l11 l12 l13 l14 l15 l16 uL)) s.heap := hP
  unfold p_X5_told at hok
  refine lv_aload_n hx hb dX5_told_0 rfl (lv_at hl 0 rfl) ?_
  refine lv_iconst (v := (0 : Int32)) hx hb dX5_told_1 (by decide) ?_
  refine va_put (D := (dC, dI)) (ci := 5) (v := .int (0 : Int32)) (ty := .int) (C := RX5) (T := TX5) (N := 18) hx hb hts inX5 tyX5 tyX5_ok nmX5 hown hK hP hD hS 0 rfl rfl 0 (by decide) (hts _ qf_X5_50) (fun _ h9 => h9) rfl (tyX5_ok 0 (by decide)) rfl rfl (Nat.le_of_ble_eq_true rfl) dX5_told_2 (fun H locs hP _ hS => ?_)
  have hP : va_P (dC, dI) vwCl ((wX5 cI cZ l0 l4 l5 l6 l8 l10 l11 l12 l13 l14 l15 l16 ((0 : Int32), uL.2.1, uL.2.2.1, uL.2.2.2.1, uL.2.2.2.2.1, uL.2.2.2.2.2.1, uL.2.2.2.2.2.2.1, uL.2.2.2.2.2.2.2.1, uL.2.2.2.2.2.2.2.2.1, uL.2.2.2.2.2.2.2.2.2.1, uL.2.2.2.2.2.2.2.2.2.2.1, uL.2.2.2.2.2.2.2.2.2.2.2.1, uL.2.2.2.2.2.2.2.2.2.2.2.2.1, uL.2.2.2.2.2.2.2.2.2.2.2.2.2.1, uL.2.2.2.2.2.2.2.2.2.2.2.2.2.2.1, uL.2.2.2.2.2.2.2.2.2.2.2.2.2.2.2.1, uL.2.2.2.2.2.2.2.2.2.2.2.2.2.2.2.2.1, uL.2.2.2.2.2.2.2.2.2.2.2.2.2.2.2.2.2))) H := hP
  have hD : va_D A ((wX5 cI cZ l0 l4 l5 l6 l8 l10 l11 l12 l13 l14 l15 l16 ((0 : Int32), uL.2.1, uL.2.2.1, uL.2.2.2.1, uL.2.2.2.2.1, uL.2.2.2.2.2.1, uL.2.2.2.2.2.2.1, uL.2.2.2.2.2.2.2.1, uL.2.2.2.2.2.2.2.2.1, uL.2.2.2.2.2.2.2.2.2.1, uL.2.2.2.2.2.2.2.2.2.2.1, uL.2.2.2.2.2.2.2.2.2.2.2.1, uL.2.2.2.2.2.2.2.2.2.2.2.2.1, uL.2.2.2.2.2.2.2.2.2.2.2.2.2.1, uL.2.2.2.2.2.2.2.2.2.2.2.2.2.2.1, uL.2.2.2.2.2.2.2.2.2.2.2.2.2.2.2.1, uL.2.2.2.2.2.2.2.2.2.2.2.2.2.2.2.2.1, uL.2.2.2.2.2.2.2.2.2.2.2.2.2.2.2.2.2))) := D_L hD
  refine lv_iload_n hx hb dX5_told_5 rfl (lv_at hl 1 rfl) ?_
  have hok := Option.some.inj hok
  subst hok
  exact eWi S hr hlk rfl hP hS (Nat.le_of_ble_eq_true rfl) (Nat.le_of_ble_eq_true rfl) dX5_told_6
theorem hd_X5_isIn : yX5_isIn.cls ≠ "java/lang/invoke/MethodHandle" ∧ yX5_isIn.cls ≠ "java/lang/invoke/VarHandle" ∧ (parseMethodDescriptor yX5_isIn.desc).map (fun d => d.parameters.length) = some 3 := by decide +kernel
def p_X5_isIn (a1 : Int32) (a2 : Int32) (a3 : Int32) : Option Int32 :=
  if a1 < a2 then
    some (0 : Int32)
  else
    if a3 < a1 then
      some (0 : Int32)
    else
      some (1 : Int32)
set_option maxHeartbeats 4000000 in
set_option maxRecDepth 100000 in
theorem c_X5_isIn (l : Launch) (dC : Nat → ClassId) (dI : Nat → Nat → Nat) (cI cZ : ClassId) (a1 : Int32) (a2 : Int32) (a3 : Int32) {z : Int32} (hok : p_X5_isIn a1 a2 a3 = some z) : Met l yX5_isIn (Cond.code yX5_isIn cX5_isIn 3 (some .boolean) :: lw_all) { frames := 0, cells := 0, slots := 0, locals := 0 } (prR (dC, dI) vwCl (TYS cI cZ) (([] : va_W)) [.int a1, .int a2, .int a3]) (vp_Si (fun r => r = z)) 0 0 (fun _ => False) := by
  refine oM (by decide) (Nat.le_of_ble_eq_true rfl) ?_
  intro p e s m args below meth c S hr hlk hnm hB ls hl
  have hx := S.1
  have hb := S.2.1
  have hml := S.2.2.1
  have hown : s.vm.findClass RX5 = some m.cls := S.2.2.2.1
  have hts := S.2.2.2.2
  have S : CallFix p m c cX5_isIn 3 s args lw_all RX5 := S
  have hl : lv_has ls 3 [(0, .int a1), (1, .int a2), (2, .int a3)] := hl
  obtain ⟨hP, hK⟩ := hB
  have hP : va_P (dC, dI) vwCl (([] : va_W)) s.heap := hP
  unfold p_X5_isIn at hok
  refine lv_iload_n hx hb dX5_isIn_0 rfl (lv_at hl 0 rfl) ?_
  refine lv_iload_n hx hb dX5_isIn_1 rfl (lv_at hl 1 rfl) ?_
  refine lv_icmp_lt (tgt := 14) hx hb dX5_isIn_2 (by decide) (fun hc => ?_) (fun hc => ?_)
  · have hok := ip hok hc
    refine lv_iconst (v := (0 : Int32)) hx hb dX5_isIn_14 (by decide) ?_
    exact eRz S hr hlk (by decide) (Option.some.inj hok) dX5_isIn_15
  · have hok := iq hok hc
    refine lv_iload_n hx hb dX5_isIn_5 rfl (lv_at hl 0 rfl) ?_
    refine lv_iload_n hx hb dX5_isIn_6 rfl (lv_at hl 2 rfl) ?_
    refine lv_icmp_gt (tgt := 14) hx hb dX5_isIn_7 (by decide) (fun hc => ?_) (fun hc => ?_)
    · have hok := ip hok hc
      refine lv_iconst (v := (0 : Int32)) hx hb dX5_isIn_14 (by decide) ?_
      exact eRz S hr hlk (by decide) (Option.some.inj hok) dX5_isIn_15
    · have hok := iq hok hc
      refine lv_iconst (v := (1 : Int32)) hx hb dX5_isIn_10 (by decide) ?_
      refine lv_goto (tgt := 15) hx hb dX5_isIn_11 (by decide) ?_
      exact eRz S hr hlk (by decide) (Option.some.inj hok) dX5_isIn_15
theorem hd_X5_isFloor : yX5_isFloor.cls = RX5 ∧ yX5_isFloor.cls ≠ "java/lang/invoke/MethodHandle" ∧ yX5_isFloor.cls ≠ "java/lang/invoke/VarHandle" ∧ (parseMethodDescriptor yX5_isFloor.desc).map (fun d => d.parameters.length) = some 1 := by decide +kernel
def p_X5_isFloor (uL : tX5) (a1 : Int32) : Option Int32 :=
  bd (p_X5_isIn a1 (0 : Int32) (uL.2.1 - (1 : Int32))) (fun v1 =>
  gq (v1 &&& 1 = v1) (
  some v1))
set_option maxHeartbeats 4000000 in
set_option maxRecDepth 100000 in
theorem c_X5_isFloor (l : Launch) (dC : Nat → ClassId) (dI : Nat → Nat → Nat) (cI cZ : ClassId) (l0 l4 l5 l6 l8 l10 l11 l12 l13 l14 l15 l16 : Nat) (uL : tX5) (a1 : Int32) {z : Int32} (hok : p_X5_isFloor uL a1 = some z) : Met l yX5_isFloor (Cond.code yX5_isFloor cX5_isFloor 2 (some .boolean) :: lw_all) { frames := 1, cells := 0, slots := 0, locals := 22 } (prR (dC, dI) vwCl (TYS cI cZ) ((wX5 cI cZ l0 l4 l5 l6 l8 l10 l11 l12 l13 l14 l15 l16 uL)) [.ref l0, .int a1]) (vp_Si (fun r => r = z)) 0 0 (fun _ => False) := by
  refine oM (by decide) (Nat.le_of_ble_eq_true rfl) ?_
  intro p e s m args below meth c S hr hlk hnm hB ls hl
  have hx := S.1
  have hb := S.2.1
  have hml := S.2.2.1
  have hown : s.vm.findClass RX5 = some m.cls := S.2.2.2.1
  have hts := S.2.2.2.2
  have S : CallFix p m c cX5_isFloor 2 s args lw_all RX5 := S
  have hl : lv_has ls 2 [(0, .ref l0), (1, .int a1)] := hl
  obtain ⟨hP, hK⟩ := hB
  have hP : va_P (dC, dI) vwCl ((wX5 cI cZ l0 l4 l5 l6 l8 l10 l11 l12 l13 l14 l15 l16 uL)) s.heap := hP
  unfold p_X5_isFloor at hok
  refine lv_iload_n hx hb dX5_isFloor_0 rfl (lv_at hl 1 rfl) ?_
  refine lv_iconst (v := (0 : Int32)) hx hb dX5_isFloor_1 (by decide) ?_
  refine lv_aload_n hx hb dX5_isFloor_2 rfl (lv_at hl 0 rfl) ?_
  refine va_get (D := (dC, dI)) (ci := 5) (v := .int uL.2.1) (C := RX5) (T := TX5) (N := 18) hx hb hts inX5 hown hK hP 0 rfl rfl 1 (by decide) (hts _ qf_X5_7) (fun _ h9 => h9) rfl dX5_isFloor_3 ?_
  refine lv_iconst (v := (1 : Int32)) hx hb dX5_isFloor_6 (by decide) ?_
  refine lv_isub hx hb dX5_isFloor_7 ?_
  obtain ⟨v1, hc1, hok⟩ := bd_some hok
  refine cRSi [.int a1, .int (0 : Int32), .int (uL.2.1 - (1 : Int32))] S hK va_Pnil (c_X5_isIn l dC dI cI cZ a1 (0 : Int32) (uL.2.1 - (1 : Int32)) hc1) (lw_S qm_X5_53 qt_X5_isIn qn_X5 qc_X5_isIn) hd_X5_isIn ⟨rfl, rfl⟩ ⟨Nat.le_of_ble_eq_true rfl, Nat.le_of_ble_eq_true rfl⟩ ⟨Nat.le_of_ble_eq_true rfl, Nat.le_of_ble_eq_true rfl⟩ rfl hl.1 (Nat.le_of_ble_eq_true rfl) rfl dX5_isFloor_8 ?_
  obtain ⟨hn2, hok⟩ := gq_some hok
  exact eRz S hr hlk hn2 (Option.some.inj hok) dX5_isFloor_11
theorem hd_X5_isTopic : yX5_isTopic.cls ≠ "java/lang/invoke/MethodHandle" ∧ yX5_isTopic.cls ≠ "java/lang/invoke/VarHandle" ∧ (parseMethodDescriptor yX5_isTopic.desc).map (fun d => d.parameters.length) = some 1 := by decide +kernel
def p_X5_isTopic (a1 : Int32) : Option Int32 :=
  bd (p_X5_isIn a1 (0 : Int32) (7 : Int32)) (fun v1 =>
  gq (v1 &&& 1 = v1) (
  some v1))
set_option maxHeartbeats 4000000 in
set_option maxRecDepth 100000 in
theorem c_X5_isTopic (l : Launch) (dC : Nat → ClassId) (dI : Nat → Nat → Nat) (cI cZ : ClassId) (a1 : Int32) {z : Int32} (hok : p_X5_isTopic a1 = some z) : Met l yX5_isTopic (Cond.code yX5_isTopic cX5_isTopic 1 (some .boolean) :: lw_all) { frames := 1, cells := 0, slots := 0, locals := 22 } (prR (dC, dI) vwCl (TYS cI cZ) (([] : va_W)) [.int a1]) (vp_Si (fun r => r = z)) 0 0 (fun _ => False) := by
  refine oM (by decide) (Nat.le_of_ble_eq_true rfl) ?_
  intro p e s m args below meth c S hr hlk hnm hB ls hl
  have hx := S.1
  have hb := S.2.1
  have hml := S.2.2.1
  have hown : s.vm.findClass RX5 = some m.cls := S.2.2.2.1
  have hts := S.2.2.2.2
  have S : CallFix p m c cX5_isTopic 1 s args lw_all RX5 := S
  have hl : lv_has ls 1 [(0, .int a1)] := hl
  obtain ⟨hP, hK⟩ := hB
  have hP : va_P (dC, dI) vwCl (([] : va_W)) s.heap := hP
  unfold p_X5_isTopic at hok
  refine lv_iload_n hx hb dX5_isTopic_0 rfl (lv_at hl 0 rfl) ?_
  refine lv_iconst (v := (0 : Int32)) hx hb dX5_isTopic_1 (by decide) ?_
  refine lv_bipush (v := (7 : Int32)) hx hb dX5_isTopic_2 (by decide) ?_
  obtain ⟨v1, hc1, hok⟩ := bd_some hok
  refine cRSi [.int a1, .int (0 : Int32), .int (7 : Int32)] S hK va_Pnil (c_X5_isIn l dC dI cI cZ a1 (0 : Int32) (7 : Int32) hc1) (lw_S qm_X5_53 qt_X5_isIn qn_X5 qc_X5_isIn) hd_X5_isIn ⟨rfl, rfl⟩ ⟨Nat.le_of_ble_eq_true rfl, Nat.le_of_ble_eq_true rfl⟩ ⟨Nat.le_of_ble_eq_true rfl, Nat.le_of_ble_eq_true rfl⟩ rfl hl.1 (Nat.le_of_ble_eq_true rfl) rfl dX5_isTopic_4 ?_
  obtain ⟨hn2, hok⟩ := gq_some hok
  exact eRz S hr hlk hn2 (Option.some.inj hok) dX5_isTopic_7
theorem hd_X5_isReader : yX5_isReader.cls = RX5 ∧ yX5_isReader.cls ≠ "java/lang/invoke/MethodHandle" ∧ yX5_isReader.cls ≠ "java/lang/invoke/VarHandle" ∧ (parseMethodDescriptor yX5_isReader.desc).map (fun d => d.parameters.length) = some 1 := by decide +kernel
def p_X5_isReader (uL : tX5) (a1 : Int32) : Option Int32 :=
  bd (p_X5_isIn a1 (0 : Int32) (uL.2.2.2.2.2.2.2.1 - (1 : Int32))) (fun v1 =>
  gq (v1 &&& 1 = v1) (
  some v1))
set_option maxHeartbeats 4000000 in
set_option maxRecDepth 100000 in
theorem c_X5_isReader (l : Launch) (dC : Nat → ClassId) (dI : Nat → Nat → Nat) (cI cZ : ClassId) (l0 l4 l5 l6 l8 l10 l11 l12 l13 l14 l15 l16 : Nat) (uL : tX5) (a1 : Int32) {z : Int32} (hok : p_X5_isReader uL a1 = some z) : Met l yX5_isReader (Cond.code yX5_isReader cX5_isReader 2 (some .boolean) :: lw_all) { frames := 1, cells := 0, slots := 0, locals := 22 } (prR (dC, dI) vwCl (TYS cI cZ) ((wX5 cI cZ l0 l4 l5 l6 l8 l10 l11 l12 l13 l14 l15 l16 uL)) [.ref l0, .int a1]) (vp_Si (fun r => r = z)) 0 0 (fun _ => False) := by
  refine oM (by decide) (Nat.le_of_ble_eq_true rfl) ?_
  intro p e s m args below meth c S hr hlk hnm hB ls hl
  have hx := S.1
  have hb := S.2.1
  have hml := S.2.2.1
  have hown : s.vm.findClass RX5 = some m.cls := S.2.2.2.1
  have hts := S.2.2.2.2
  have S : CallFix p m c cX5_isReader 2 s args lw_all RX5 := S
  have hl : lv_has ls 2 [(0, .ref l0), (1, .int a1)] := hl
  obtain ⟨hP, hK⟩ := hB
  have hP : va_P (dC, dI) vwCl ((wX5 cI cZ l0 l4 l5 l6 l8 l10 l11 l12 l13 l14 l15 l16 uL)) s.heap := hP
  unfold p_X5_isReader at hok
  refine lv_iload_n hx hb dX5_isReader_0 rfl (lv_at hl 1 rfl) ?_
  refine lv_iconst (v := (0 : Int32)) hx hb dX5_isReader_1 (by decide) ?_
  refine lv_aload_n hx hb dX5_isReader_2 rfl (lv_at hl 0 rfl) ?_
  refine va_get (D := (dC, dI)) (ci := 5) (v := .int uL.2.2.2.2.2.2.2.1) (C := RX5) (T := TX5) (N := 18) hx hb hts inX5 hown hK hP 0 rfl rfl 7 (by decide) (hts _ qf_X5_57) (fun _ h9 => h9) rfl dX5_isReader_3 ?_
  refine lv_iconst (v := (1 : Int32)) hx hb dX5_isReader_6 (by decide) ?_
  refine lv_isub hx hb dX5_isReader_7 ?_
  obtain ⟨v1, hc1, hok⟩ := bd_some hok
  refine cRSi [.int a1, .int (0 : Int32), .int (uL.2.2.2.2.2.2.2.1 - (1 : Int32))] S hK va_Pnil (c_X5_isIn l dC dI cI cZ a1 (0 : Int32) (uL.2.2.2.2.2.2.2.1 - (1 : Int32)) hc1) (lw_S qm_X5_53 qt_X5_isIn qn_X5 qc_X5_isIn) hd_X5_isIn ⟨rfl, rfl⟩ ⟨Nat.le_of_ble_eq_true rfl, Nat.le_of_ble_eq_true rfl⟩ ⟨Nat.le_of_ble_eq_true rfl, Nat.le_of_ble_eq_true rfl⟩ rfl hl.1 (Nat.le_of_ble_eq_true rfl) rfl dX5_isReader_8 ?_
  obtain ⟨hn2, hok⟩ := gq_some hok
  exact eRz S hr hlk hn2 (Option.some.inj hok) dX5_isReader_11
theorem hd_X5_isMirror : yX5_isMirror.cls = RX5 ∧ yX5_isMirror.cls ≠ "java/lang/invoke/MethodHandle" ∧ yX5_isMirror.cls ≠ "java/lang/invoke/VarHandle" ∧ (parseMethodDescriptor yX5_isMirror.desc).map (fun d => d.parameters.length) = some 1 := by decide +kernel
def p_X5_isMirror (uL : tX5) (a1 : Int32) : Option Int32 :=
  bd (p_X5_isIn a1 (0 : Int32) (uL.2.2.2.2.2.2.2.2.2.1 - (1 : Int32))) (fun v1 =>
  gq (v1 &&& 1 = v1) (
  some v1))
set_option maxHeartbeats 4000000 in
set_option maxRecDepth 100000 in
theorem c_X5_isMirror (l : Launch) (dC : Nat → ClassId) (dI : Nat → Nat → Nat) (cI cZ : ClassId) (l0 l4 l5 l6 l8 l10 l11 l12 l13 l14 l15 l16 : Nat) (uL : tX5) (a1 : Int32) {z : Int32} (hok : p_X5_isMirror uL a1 = some z) : Met l yX5_isMirror (Cond.code yX5_isMirror cX5_isMirror 2 (some .boolean) :: lw_all) { frames := 1, cells := 0, slots := 0, locals := 22 } (prR (dC, dI) vwCl (TYS cI cZ) ((wX5 cI cZ l0 l4 l5 l6 l8 l10 l11 l12 l13 l14 l15 l16 uL)) [.ref l0, .int a1]) (vp_Si (fun r => r = z)) 0 0 (fun _ => False) := by
  refine oM (by decide) (Nat.le_of_ble_eq_true rfl) ?_
  intro p e s m args below meth c S hr hlk hnm hB ls hl
  have hx := S.1
  have hb := S.2.1
  have hml := S.2.2.1
  have hown : s.vm.findClass RX5 = some m.cls := S.2.2.2.1
  have hts := S.2.2.2.2
  have S : CallFix p m c cX5_isMirror 2 s args lw_all RX5 := S
  have hl : lv_has ls 2 [(0, .ref l0), (1, .int a1)] := hl
  obtain ⟨hP, hK⟩ := hB
  have hP : va_P (dC, dI) vwCl ((wX5 cI cZ l0 l4 l5 l6 l8 l10 l11 l12 l13 l14 l15 l16 uL)) s.heap := hP
  unfold p_X5_isMirror at hok
  refine lv_iload_n hx hb dX5_isMirror_0 rfl (lv_at hl 1 rfl) ?_
  refine lv_iconst (v := (0 : Int32)) hx hb dX5_isMirror_1 (by decide) ?_
  refine lv_aload_n hx hb dX5_isMirror_2 rfl (lv_at hl 0 rfl) ?_
  refine va_get (D := (dC, dI)) (ci := 5) (v := .int uL.2.2.2.2.2.2.2.2.2.1) (C := RX5) (T := TX5) (N := 18) hx hb hts inX5 hown hK hP 0 rfl rfl 9 (by decide) (hts _ qf_X5_60) (fun _ h9 => h9) rfl dX5_isMirror_3 ?_
  refine lv_iconst (v := (1 : Int32)) hx hb dX5_isMirror_6 (by decide) ?_
  refine lv_isub hx hb dX5_isMirror_7 ?_
  obtain ⟨v1, hc1, hok⟩ := bd_some hok
  refine cRSi [.int a1, .int (0 : Int32), .int (uL.2.2.2.2.2.2.2.2.2.1 - (1 : Int32))] S hK va_Pnil (c_X5_isIn l dC dI cI cZ a1 (0 : Int32) (uL.2.2.2.2.2.2.2.2.2.1 - (1 : Int32)) hc1) (lw_S qm_X5_53 qt_X5_isIn qn_X5 qc_X5_isIn) hd_X5_isIn ⟨rfl, rfl⟩ ⟨Nat.le_of_ble_eq_true rfl, Nat.le_of_ble_eq_true rfl⟩ ⟨Nat.le_of_ble_eq_true rfl, Nat.le_of_ble_eq_true rfl⟩ rfl hl.1 (Nat.le_of_ble_eq_true rfl) rfl dX5_isMirror_8 ?_
  obtain ⟨hn2, hok⟩ := gq_some hok
  exact eRz S hr hlk hn2 (Option.some.inj hok) dX5_isMirror_11
theorem hd_X5_isInstalment : yX5_isInstalment.cls = RX5 ∧ yX5_isInstalment.cls ≠ "java/lang/invoke/MethodHandle" ∧ yX5_isInstalment.cls ≠ "java/lang/invoke/VarHandle" ∧ (parseMethodDescriptor yX5_isInstalment.desc).map (fun d => d.parameters.length) = some 1 := by decide +kernel
def p_X5_isInstalment (uL : tX5) (a1 : Int32) : Option Int32 :=
  bd (p_X5_isIn a1 (0 : Int32) ((uL.2.2.2.2.2.2.2.2.2.2.2.2.2.2.2.1 8) - (1 : Int32))) (fun v1 =>
  gq (v1 &&& 1 = v1) (
  some v1))
set_option maxHeartbeats 4000000 in
set_option maxRecDepth 100000 in
theorem c_X5_isInstalment (l : Launch) (dC : Nat → ClassId) (dI : Nat → Nat → Nat) (cI cZ : ClassId) (l0 l4 l5 l6 l8 l10 l11 l12 l13 l14 l15 l16 : Nat) (uL : tX5) (a1 : Int32) {z : Int32} (hok : p_X5_isInstalment uL a1 = some z) : Met l yX5_isInstalment (Cond.code yX5_isInstalment cX5_isInstalment 2 (some .boolean) :: lw_all) { frames := 1, cells := 0, slots := 0, locals := 22 } (prR (dC, dI) vwCl (TYS cI cZ) ((wX5 cI cZ l0 l4 l5 l6 l8 l10 l11 l12 l13 l14 l15 l16 uL)) [.ref l0, .int a1]) (vp_Si (fun r => r = z)) 0 0 (fun _ => False) := by
  refine oM (by decide) (Nat.le_of_ble_eq_true rfl) ?_
  intro p e s m args below meth c S hr hlk hnm hB ls hl
  have hx := S.1
  have hb := S.2.1
  have hml := S.2.2.1
  have hown : s.vm.findClass RX5 = some m.cls := S.2.2.2.1
  have hts := S.2.2.2.2
  have S : CallFix p m c cX5_isInstalment 2 s args lw_all RX5 := S
  have hl : lv_has ls 2 [(0, .ref l0), (1, .int a1)] := hl
  obtain ⟨hP, hK⟩ := hB
  have hP : va_P (dC, dI) vwCl ((wX5 cI cZ l0 l4 l5 l6 l8 l10 l11 l12 l13 l14 l15 l16 uL)) s.heap := hP
  unfold p_X5_isInstalment at hok
  refine lv_iload_n hx hb dX5_isInstalment_0 rfl (lv_at hl 1 rfl) ?_
  refine lv_iconst (v := (0 : Int32)) hx hb dX5_isInstalment_1 (by decide) ?_
  refine lv_aload_n hx hb dX5_isInstalment_2 rfl (lv_at hl 0 rfl) ?_
  refine va_get (D := (dC, dI)) (ci := 5) (v := .ref l15) (C := RX5) (T := TX5) (N := 18) hx hb hts inX5 hown hK hP 0 rfl rfl 15 (by decide) (hts _ qf_X5_44) (fun _ h9 => h9) rfl dX5_isInstalment_3 ?_
  refine lv_bipush (v := (8 : Int32)) hx hb dX5_isInstalment_6 (by decide) ?_
  refine va_ialdK hx hb hK hP 10 0 rfl rfl (j := 8) (by decide) (vp_inK (by decide)) dX5_isInstalment_8 ?_
  refine lv_iconst (v := (1 : Int32)) hx hb dX5_isInstalment_9 (by decide) ?_
  refine lv_isub hx hb dX5_isInstalment_10 ?_
  obtain ⟨v1, hc1, hok⟩ := bd_some hok
  refine cRSi [.int a1, .int (0 : Int32), .int ((uL.2.2.2.2.2.2.2.2.2.2.2.2.2.2.2.1 8) - (1 : Int32))] S hK va_Pnil (c_X5_isIn l dC dI cI cZ a1 (0 : Int32) ((uL.2.2.2.2.2.2.2.2.2.2.2.2.2.2.2.1 8) - (1 : Int32)) hc1) (lw_S qm_X5_53 qt_X5_isIn qn_X5 qc_X5_isIn) hd_X5_isIn ⟨rfl, rfl⟩ ⟨Nat.le_of_ble_eq_true rfl, Nat.le_of_ble_eq_true rfl⟩ ⟨Nat.le_of_ble_eq_true rfl, Nat.le_of_ble_eq_true rfl⟩ rfl hl.1 (Nat.le_of_ble_eq_true rfl) rfl dX5_isInstalment_11 ?_
  obtain ⟨hn2, hok⟩ := gq_some hok
  exact eRz S hr hlk hn2 (Option.some.inj hok) dX5_isInstalment_14
theorem hd_X5_has : yX5_has.cls ≠ "java/lang/invoke/MethodHandle" ∧ yX5_has.cls ≠ "java/lang/invoke/VarHandle" ∧ (parseMethodDescriptor yX5_has.desc).map (fun d => d.parameters.length) = some 2 := by decide +kernel
def p_X5_has (a1 : Int32) (a2 : Int32) : Option Int32 :=
  if ((a1 >>> (a2 &&& 31)) &&& (1 : Int32)) = (1 : Int32) then
    some (1 : Int32)
  else
    some (0 : Int32)
set_option maxHeartbeats 4000000 in
set_option maxRecDepth 100000 in
theorem c_X5_has (l : Launch) (dC : Nat → ClassId) (dI : Nat → Nat → Nat) (cI cZ : ClassId) (a1 : Int32) (a2 : Int32) {z : Int32} (hok : p_X5_has a1 a2 = some z) : Met l yX5_has (Cond.code yX5_has cX5_has 2 (some .boolean) :: lw_all) { frames := 0, cells := 0, slots := 0, locals := 0 } (prR (dC, dI) vwCl (TYS cI cZ) (([] : va_W)) [.int a1, .int a2]) (vp_Si (fun r => r = z)) 0 0 (fun _ => False) := by
  refine oM (by decide) (Nat.le_of_ble_eq_true rfl) ?_
  intro p e s m args below meth c S hr hlk hnm hB ls hl
  have hx := S.1
  have hb := S.2.1
  have hml := S.2.2.1
  have hown : s.vm.findClass RX5 = some m.cls := S.2.2.2.1
  have hts := S.2.2.2.2
  have S : CallFix p m c cX5_has 2 s args lw_all RX5 := S
  have hl : lv_has ls 2 [(0, .int a1), (1, .int a2)] := hl
  obtain ⟨hP, hK⟩ := hB
  have hP : va_P (dC, dI) vwCl (([] : va_W)) s.heap := hP
  unfold p_X5_has at hok
  refine lv_iload_n hx hb dX5_has_0 rfl (lv_at hl 0 rfl) ?_
  refine lv_iload_n hx hb dX5_has_1 rfl (lv_at hl 1 rfl) ?_
  refine lv_ishr hx hb dX5_has_2 ?_
  refine lv_iconst (v := (1 : Int32)) hx hb dX5_has_3 (by decide) ?_
  refine lv_iand hx hb dX5_has_4 ?_
  refine lv_iconst (v := (1 : Int32)) hx hb dX5_has_5 (by decide) ?_
  refine lv_icmp_ne (tgt := 13) hx hb dX5_has_6 (by decide) (fun hc => ?_) (fun hc => ?_)
  · have hok := iq hok hc
    refine lv_iconst (v := (0 : Int32)) hx hb dX5_has_13 (by decide) ?_
    exact eRz S hr hlk (by decide) (Option.some.inj hok) dX5_has_14
  · have hok := ip hok hc
    refine lv_iconst (v := (1 : Int32)) hx hb dX5_has_9 (by decide) ?_
    refine lv_goto (tgt := 14) hx hb dX5_has_10 (by decide) ?_
    exact eRz S hr hlk (by decide) (Option.some.inj hok) dX5_has_14
theorem hd_X5_keep : yX5_keep.cls = RX5 ∧ yX5_keep.cls ≠ "java/lang/invoke/MethodHandle" ∧ yX5_keep.cls ≠ "java/lang/invoke/VarHandle" ∧ (parseMethodDescriptor yX5_keep.desc).map (fun d => d.parameters.length) = some 0 := by decide +kernel
def p_X5_keep (uL : tX5) : Option tX5 :=
  some (uL.1, uL.2.1, uL.2.2.1, uL.2.2.2.1, uL.2.2.2.2.1, uL.2.2.2.2.2.1, uL.2.2.2.2.2.2.1, uL.2.2.2.2.2.2.2.1, uL.2.2.2.2.2.2.2.2.1, uL.2.2.2.2.2.2.2.2.2.1, uL.2.2.2.2.2.2.2.2.2.2.1, uL.2.2.2.2.2.2.2.2.2.2.2.1, uL.2.2.2.2.2.2.2.2.2.2.2.2.1, uL.2.2.2.2.2.2.2.2.2.2.2.2.2.1, uL.2.2.2.2.2.2.2.2.2.2.2.2.2.2.1, uL.2.2.2.2.2.2.2.2.2.2.2.2.2.2.2.1, (va_cpy uL.2.2.2.2.2.2.2.2.2.2.2.2.2.2.2.1 uL.2.2.2.2.2.2.2.2.2.2.2.2.2.2.2.2.1 0 0 41), uL.2.2.2.2.2.2.2.2.2.2.2.2.2.2.2.2.2)
set_option maxHeartbeats 4000000 in
set_option maxRecDepth 100000 in
theorem c_X5_keep (l : Launch) (dC : Nat → ClassId) (dI : Nat → Nat → Nat) (cI cZ : ClassId) (l0 l4 l5 l6 l8 l10 l11 l12 l13 l14 l15 l16 : Nat) (sz : Nat) (uL : tX5) {z : tX5} (hok : p_X5_keep uL = some z) : Met l yX5_keep (Cond.code yX5_keep cX5_keep 1 none :: lw_all) { frames := 1, cells := 0, slots := 0, locals := 40 } (prW (dC, dI) vwCl (TYS cI cZ) ((wX5 cI cZ l0 l4 l5 l6 l8 l10 l11 l12 l13 l14 l15 l16 uL)) sz [.ref l0]) (va_Qv (fun _ : Unit => True) (fun _ t => va_P (dC, dI) vwCl ((wX5 cI cZ l0 l4 l5 l6 l8 l10 l11 l12 l13 l14 l15 l16 z)) t.heap) (va_A ((wX5 cI cZ l0 l4 l5 l6 l8 l10 l11 l12 l13 l14 l15 l16 uL)) sz)) 0 0 (va_A ((wX5 cI cZ l0 l4 l5 l6 l8 l10 l11 l12 l13 l14 l15 l16 uL)) sz) := by
  refine oM (by decide) (Nat.le_of_ble_eq_true rfl) ?_
  intro p e s m args below meth c S hr hlk hnm hB ls hl
  have hx := S.1
  have hb := S.2.1
  have hml := S.2.2.1
  have hown : s.vm.findClass RX5 = some m.cls := S.2.2.2.1
  have hts := S.2.2.2.2
  have S : CallFix p m c cX5_keep 1 s args lw_all RX5 := S
  have hl : lv_has ls 1 [(0, .ref l0)] := hl
  obtain ⟨hsz, hP, hK, hD0⟩ := hB
  subst hsz
  have hD := hD0.self (sz := s.heap.size)
  generalize hAe : va_A ((wX5 cI cZ l0 l4 l5 l6 l8 l10 l11 l12 l13 l14 l15 l16 uL)) s.heap.size = A at hD ⊢
  have hA : ∀ q : Nat, s.heap.size ≤ q → A q := fun q h => by rw [← hAe]; exact Or.inr h
  have hS : va_S A s.heap s.heap [] := va_S.rf
  have hP : va_P (dC, dI) vwCl ((wX5 cI cZ l0 l4 l5 l6 l8 l10 l11 l12 l13 l14 l15 l16 uL)) s.heap := hP
  unfold p_X5_keep at hok
  refine lv_aload_n hx hb dX5_keep_0 rfl (lv_at hl 0 rfl) ?_
  refine va_get (D := (dC, dI)) (ci := 5) (v := .ref l15) (C := RX5) (T := TX5) (N := 18) hx hb hts inX5 hown hK hP 0 rfl rfl 15 (by decide) (hts _ qf_X5_44) (fun _ h9 => h9) rfl dX5_keep_1 ?_
  refine lv_iconst (v := (0 : Int32)) hx hb dX5_keep_4 (by decide) ?_
  refine lv_aload_n hx hb dX5_keep_5 rfl (lv_at hl 0 rfl) ?_
  refine va_get (D := (dC, dI)) (ci := 5) (v := .ref l16) (C := RX5) (T := TX5) (N := 18) hx hb hts inX5 hown hK hP 0 rfl rfl 16 (by decide) (hts _ qf_X5_47) (fun _ h9 => h9) rfl dX5_keep_6 ?_
  refine lv_iconst (v := (0 : Int32)) hx hb dX5_keep_9 (by decide) ?_
  refine lv_bipush (v := (41 : Int32)) hx hb dX5_keep_10 (by decide) ?_
  refine va_copyK hx hb (hml.trans hl.1.symm) hown (hts _ qm_X5_63) (hts _ qz_native_arraycopyName) (hts _ qt_arraycopyName) (hts _ qn_System) hK hP hD hS 10 11 0 0 rfl rfl rfl rfl (n := 41) (by decide) (by decide) (by decide) (Nat.le_of_ble_eq_true rfl) (Nat.le_of_ble_eq_true rfl) dX5_keep_12 (fun H locs hP _ hS => ?_)
  have hP : va_P (dC, dI) vwCl ((wX5 cI cZ l0 l4 l5 l6 l8 l10 l11 l12 l13 l14 l15 l16 (uL.1, uL.2.1, uL.2.2.1, uL.2.2.2.1, uL.2.2.2.2.1, uL.2.2.2.2.2.1, uL.2.2.2.2.2.2.1, uL.2.2.2.2.2.2.2.1, uL.2.2.2.2.2.2.2.2.1, uL.2.2.2.2.2.2.2.2.2.1, uL.2.2.2.2.2.2.2.2.2.2.1, uL.2.2.2.2.2.2.2.2.2.2.2.1, uL.2.2.2.2.2.2.2.2.2.2.2.2.1, uL.2.2.2.2.2.2.2.2.2.2.2.2.2.1, uL.2.2.2.2.2.2.2.2.2.2.2.2.2.2.1, uL.2.2.2.2.2.2.2.2.2.2.2.2.2.2.2.1, (va_cpy uL.2.2.2.2.2.2.2.2.2.2.2.2.2.2.2.1 uL.2.2.2.2.2.2.2.2.2.2.2.2.2.2.2.2.1 0 0 41), uL.2.2.2.2.2.2.2.2.2.2.2.2.2.2.2.2.2))) H := hP
  have hD : va_D A ((wX5 cI cZ l0 l4 l5 l6 l8 l10 l11 l12 l13 l14 l15 l16 (uL.1, uL.2.1, uL.2.2.1, uL.2.2.2.1, uL.2.2.2.2.1, uL.2.2.2.2.2.1, uL.2.2.2.2.2.2.1, uL.2.2.2.2.2.2.2.1, uL.2.2.2.2.2.2.2.2.1, uL.2.2.2.2.2.2.2.2.2.1, uL.2.2.2.2.2.2.2.2.2.2.1, uL.2.2.2.2.2.2.2.2.2.2.2.1, uL.2.2.2.2.2.2.2.2.2.2.2.2.1, uL.2.2.2.2.2.2.2.2.2.2.2.2.2.1, uL.2.2.2.2.2.2.2.2.2.2.2.2.2.2.1, uL.2.2.2.2.2.2.2.2.2.2.2.2.2.2.2.1, (va_cpy uL.2.2.2.2.2.2.2.2.2.2.2.2.2.2.2.1 uL.2.2.2.2.2.2.2.2.2.2.2.2.2.2.2.2.1 0 0 41), uL.2.2.2.2.2.2.2.2.2.2.2.2.2.2.2.2.2))) := D_L hD
  have hok := Option.some.inj hok
  subst hok
  exact eWv S hr hlk hP hS (Nat.le_of_ble_eq_true rfl) (Nat.le_of_ble_eq_true rfl) dX5_keep_15
theorem hd_X5_bringBack : yX5_bringBack.cls = RX5 ∧ yX5_bringBack.cls ≠ "java/lang/invoke/MethodHandle" ∧ yX5_bringBack.cls ≠ "java/lang/invoke/VarHandle" ∧ (parseMethodDescriptor yX5_bringBack.desc).map (fun d => d.parameters.length) = some 0 := by decide +kernel
def p_X5_bringBack (uL : tX5) : Option tX5 :=
  some (uL.1, uL.2.1, uL.2.2.1, uL.2.2.2.1, uL.2.2.2.2.1, uL.2.2.2.2.2.1, uL.2.2.2.2.2.2.1, uL.2.2.2.2.2.2.2.1, uL.2.2.2.2.2.2.2.2.1, uL.2.2.2.2.2.2.2.2.2.1, uL.2.2.2.2.2.2.2.2.2.2.1, uL.2.2.2.2.2.2.2.2.2.2.2.1, uL.2.2.2.2.2.2.2.2.2.2.2.2.1, uL.2.2.2.2.2.2.2.2.2.2.2.2.2.1, uL.2.2.2.2.2.2.2.2.2.2.2.2.2.2.1, (va_cpy uL.2.2.2.2.2.2.2.2.2.2.2.2.2.2.2.2.1 uL.2.2.2.2.2.2.2.2.2.2.2.2.2.2.2.1 0 0 41), uL.2.2.2.2.2.2.2.2.2.2.2.2.2.2.2.2.1, uL.2.2.2.2.2.2.2.2.2.2.2.2.2.2.2.2.2)
set_option maxHeartbeats 4000000 in
set_option maxRecDepth 100000 in
theorem c_X5_bringBack (l : Launch) (dC : Nat → ClassId) (dI : Nat → Nat → Nat) (cI cZ : ClassId) (l0 l4 l5 l6 l8 l10 l11 l12 l13 l14 l15 l16 : Nat) (sz : Nat) (uL : tX5) {z : tX5} (hok : p_X5_bringBack uL = some z) : Met l yX5_bringBack (Cond.code yX5_bringBack cX5_bringBack 1 none :: lw_all) { frames := 1, cells := 0, slots := 0, locals := 40 } (prW (dC, dI) vwCl (TYS cI cZ) ((wX5 cI cZ l0 l4 l5 l6 l8 l10 l11 l12 l13 l14 l15 l16 uL)) sz [.ref l0]) (va_Qv (fun _ : Unit => True) (fun _ t => va_P (dC, dI) vwCl ((wX5 cI cZ l0 l4 l5 l6 l8 l10 l11 l12 l13 l14 l15 l16 z)) t.heap) (va_A ((wX5 cI cZ l0 l4 l5 l6 l8 l10 l11 l12 l13 l14 l15 l16 uL)) sz)) 0 0 (va_A ((wX5 cI cZ l0 l4 l5 l6 l8 l10 l11 l12 l13 l14 l15 l16 uL)) sz) := by
  refine oM (by decide) (Nat.le_of_ble_eq_true rfl) ?_
  intro p e s m args below meth c S hr hlk hnm hB ls hl
  have hx := S.1
  have hb := S.2.1
  have hml := S.2.2.1
  have hown : s.vm.findClass RX5 = some m.cls := S.2.2.2.1
  have hts := S.2.2.2.2
  have S : CallFix p m c cX5_bringBack 1 s args lw_all RX5 := S
  have hl : lv_has ls 1 [(0, .ref l0)] := hl
  obtain ⟨hsz, hP, hK, hD0⟩ := hB
  subst hsz
  have hD := hD0.self (sz := s.heap.size)
  generalize hAe : va_A ((wX5 cI cZ l0 l4 l5 l6 l8 l10 l11 l12 l13 l14 l15 l16 uL)) s.heap.size = A at hD ⊢
  have hA : ∀ q : Nat, s.heap.size ≤ q → A q := fun q h => by rw [← hAe]; exact Or.inr h
  have hS : va_S A s.heap s.heap [] := va_S.rf
  have hP : va_P (dC, dI) vwCl ((wX5 cI cZ l0 l4 l5 l6 l8 l10 l11 l12 l13 l14 l15 l16 uL)) s.heap := hP
  unfold p_X5_bringBack at hok
  refine lv_aload_n hx hb dX5_bringBack_0 rfl (lv_at hl 0 rfl) ?_
  refine va_get (D := (dC, dI)) (ci := 5) (v := .ref l16) (C := RX5) (T := TX5) (N := 18) hx hb hts inX5 hown hK hP 0 rfl rfl 16 (by decide) (hts _ qf_X5_47) (fun _ h9 => h9) rfl dX5_bringBack_1 ?_
  refine lv_iconst (v := (0 : Int32)) hx hb dX5_bringBack_4 (by decide) ?_
  refine lv_aload_n hx hb dX5_bringBack_5 rfl (lv_at hl 0 rfl) ?_
  refine va_get (D := (dC, dI)) (ci := 5) (v := .ref l15) (C := RX5) (T := TX5) (N := 18) hx hb hts inX5 hown hK hP 0 rfl rfl 15 (by decide) (hts _ qf_X5_44) (fun _ h9 => h9) rfl dX5_bringBack_6 ?_
  refine lv_iconst (v := (0 : Int32)) hx hb dX5_bringBack_9 (by decide) ?_
  refine lv_bipush (v := (41 : Int32)) hx hb dX5_bringBack_10 (by decide) ?_
  refine va_copyK hx hb (hml.trans hl.1.symm) hown (hts _ qm_X5_63) (hts _ qz_native_arraycopyName) (hts _ qt_arraycopyName) (hts _ qn_System) hK hP hD hS 11 10 0 0 rfl rfl rfl rfl (n := 41) (by decide) (by decide) (by decide) (Nat.le_of_ble_eq_true rfl) (Nat.le_of_ble_eq_true rfl) dX5_bringBack_12 (fun H locs hP _ hS => ?_)
  have hP : va_P (dC, dI) vwCl ((wX5 cI cZ l0 l4 l5 l6 l8 l10 l11 l12 l13 l14 l15 l16 (uL.1, uL.2.1, uL.2.2.1, uL.2.2.2.1, uL.2.2.2.2.1, uL.2.2.2.2.2.1, uL.2.2.2.2.2.2.1, uL.2.2.2.2.2.2.2.1, uL.2.2.2.2.2.2.2.2.1, uL.2.2.2.2.2.2.2.2.2.1, uL.2.2.2.2.2.2.2.2.2.2.1, uL.2.2.2.2.2.2.2.2.2.2.2.1, uL.2.2.2.2.2.2.2.2.2.2.2.2.1, uL.2.2.2.2.2.2.2.2.2.2.2.2.2.1, uL.2.2.2.2.2.2.2.2.2.2.2.2.2.2.1, (va_cpy uL.2.2.2.2.2.2.2.2.2.2.2.2.2.2.2.2.1 uL.2.2.2.2.2.2.2.2.2.2.2.2.2.2.2.1 0 0 41), uL.2.2.2.2.2.2.2.2.2.2.2.2.2.2.2.2.1, uL.2.2.2.2.2.2.2.2.2.2.2.2.2.2.2.2.2))) H := hP
  have hD : va_D A ((wX5 cI cZ l0 l4 l5 l6 l8 l10 l11 l12 l13 l14 l15 l16 (uL.1, uL.2.1, uL.2.2.1, uL.2.2.2.1, uL.2.2.2.2.1, uL.2.2.2.2.2.1, uL.2.2.2.2.2.2.1, uL.2.2.2.2.2.2.2.1, uL.2.2.2.2.2.2.2.2.1, uL.2.2.2.2.2.2.2.2.2.1, uL.2.2.2.2.2.2.2.2.2.2.1, uL.2.2.2.2.2.2.2.2.2.2.2.1, uL.2.2.2.2.2.2.2.2.2.2.2.2.1, uL.2.2.2.2.2.2.2.2.2.2.2.2.2.1, uL.2.2.2.2.2.2.2.2.2.2.2.2.2.2.1, (va_cpy uL.2.2.2.2.2.2.2.2.2.2.2.2.2.2.2.2.1 uL.2.2.2.2.2.2.2.2.2.2.2.2.2.2.2.1 0 0 41), uL.2.2.2.2.2.2.2.2.2.2.2.2.2.2.2.2.1, uL.2.2.2.2.2.2.2.2.2.2.2.2.2.2.2.2.2))) := D_L hD
  have hok := Option.some.inj hok
  subst hok
  exact eWv S hr hlk hP hS (Nat.le_of_ble_eq_true rfl) (Nat.le_of_ble_eq_true rfl) dX5_bringBack_15
theorem hd_X5_reads : yX5_reads.cls = RX5 ∧ yX5_reads.cls ≠ "java/lang/invoke/MethodHandle" ∧ yX5_reads.cls ≠ "java/lang/invoke/VarHandle" ∧ (parseMethodDescriptor yX5_reads.desc).map (fun d => d.parameters.length) = some 1 := by decide +kernel
def p_X5_reads (uL : tX5) (a1 : Int32) : Option Int32 :=
  bd (p_X5_has (uL.2.2.2.2.2.2.2.2.2.2.2.2.2.2.2.1 7) a1) (fun v1 =>
  gq (v1 &&& 1 = v1) (
  some v1))
set_option maxHeartbeats 4000000 in
set_option maxRecDepth 100000 in
theorem c_X5_reads (l : Launch) (dC : Nat → ClassId) (dI : Nat → Nat → Nat) (cI cZ : ClassId) (l0 l4 l5 l6 l8 l10 l11 l12 l13 l14 l15 l16 : Nat) (uL : tX5) (a1 : Int32) {z : Int32} (hok : p_X5_reads uL a1 = some z) : Met l yX5_reads (Cond.code yX5_reads cX5_reads 2 (some .boolean) :: lw_all) { frames := 1, cells := 0, slots := 0, locals := 21 } (prR (dC, dI) vwCl (TYS cI cZ) ((wX5 cI cZ l0 l4 l5 l6 l8 l10 l11 l12 l13 l14 l15 l16 uL)) [.ref l0, .int a1]) (vp_Si (fun r => r = z)) 0 0 (fun _ => False) := by
  refine oM (by decide) (Nat.le_of_ble_eq_true rfl) ?_
  intro p e s m args below meth c S hr hlk hnm hB ls hl
  have hx := S.1
  have hb := S.2.1
  have hml := S.2.2.1
  have hown : s.vm.findClass RX5 = some m.cls := S.2.2.2.1
  have hts := S.2.2.2.2
  have S : CallFix p m c cX5_reads 2 s args lw_all RX5 := S
  have hl : lv_has ls 2 [(0, .ref l0), (1, .int a1)] := hl
  obtain ⟨hP, hK⟩ := hB
  have hP : va_P (dC, dI) vwCl ((wX5 cI cZ l0 l4 l5 l6 l8 l10 l11 l12 l13 l14 l15 l16 uL)) s.heap := hP
  unfold p_X5_reads at hok
  refine lv_aload_n hx hb dX5_reads_0 rfl (lv_at hl 0 rfl) ?_
  refine va_get (D := (dC, dI)) (ci := 5) (v := .ref l15) (C := RX5) (T := TX5) (N := 18) hx hb hts inX5 hown hK hP 0 rfl rfl 15 (by decide) (hts _ qf_X5_44) (fun _ h9 => h9) rfl dX5_reads_1 ?_
  refine lv_bipush (v := (7 : Int32)) hx hb dX5_reads_4 (by decide) ?_
  refine va_ialdK hx hb hK hP 10 0 rfl rfl (j := 7) (by decide) (vp_inK (by decide)) dX5_reads_6 ?_
  refine lv_iload_n hx hb dX5_reads_7 rfl (lv_at hl 1 rfl) ?_
  obtain ⟨v1, hc1, hok⟩ := bd_some hok
  refine cRSi [.int (uL.2.2.2.2.2.2.2.2.2.2.2.2.2.2.2.1 7), .int a1] S hK va_Pnil (c_X5_has l dC dI cI cZ (uL.2.2.2.2.2.2.2.2.2.2.2.2.2.2.2.1 7) a1 hc1) (lw_S qm_X5_69 qt_X5_has qn_X5 qc_X5_has) hd_X5_has ⟨rfl, rfl⟩ ⟨Nat.le_of_ble_eq_true rfl, Nat.le_of_ble_eq_true rfl⟩ ⟨Nat.le_of_ble_eq_true rfl, Nat.le_of_ble_eq_true rfl⟩ rfl hl.1 (Nat.le_of_ble_eq_true rfl) rfl dX5_reads_8 ?_
  obtain ⟨hn2, hok⟩ := gq_some hok
  exact eRz S hr hlk hn2 (Option.some.inj hok) dX5_reads_11
theorem hd_X5_print : yX5_print.cls = RX5 ∧ yX5_print.cls ≠ "java/lang/invoke/MethodHandle" ∧ yX5_print.cls ≠ "java/lang/invoke/VarHandle" ∧ (parseMethodDescriptor yX5_print.desc).map (fun d => d.parameters.length) = some 1 := by decide +kernel
def p_X5_print_J135 (rec78 : tX5 → Int32 → Int32 → Int32 → Option tX5) (uL : tX5) (l135_1 : Int32) (l135_2 : Int32) (l135_3 : Int32) (s135_0 : Int32) (s135_1 : Int32) (s135_2 : Int32) (s135_3 : Int32) : Option tX5 :=
  gd s135_3 41 (
  rec78 (uL.1, uL.2.1, uL.2.2.1, uL.2.2.2.1, uL.2.2.2.2.1, uL.2.2.2.2.2.1, uL.2.2.2.2.2.2.1, uL.2.2.2.2.2.2.2.1, uL.2.2.2.2.2.2.2.2.1, uL.2.2.2.2.2.2.2.2.2.1, uL.2.2.2.2.2.2.2.2.2.2.1, uL.2.2.2.2.2.2.2.2.2.2.2.1, uL.2.2.2.2.2.2.2.2.2.2.2.2.1, uL.2.2.2.2.2.2.2.2.2.2.2.2.2.1, uL.2.2.2.2.2.2.2.2.2.2.2.2.2.2.1, (upd uL.2.2.2.2.2.2.2.2.2.2.2.2.2.2.2.1 s135_3.toNatClampNeg (if (s135_1 + s135_0) < s135_2 then (s135_1 + s135_0) else s135_2)), uL.2.2.2.2.2.2.2.2.2.2.2.2.2.2.2.2.1, uL.2.2.2.2.2.2.2.2.2.2.2.2.2.2.2.2.2) l135_1 l135_2 (l135_3 + 1))
def p_X5_print_L78 : Nat → tX5 → Int32 → Int32 → Int32 → Option tX5
  | 0, _, _, _, _ => none
  | n + 1, uL, l78_1, l78_2, l78_3 =>
    if uL.2.2.2.2.2.2.2.1 ≤ l78_3 then
      some uL
    else
      bd (p_X5_reads uL l78_3) (fun v3 =>
      if v3 = 0 then
        (p_X5_print_L78 n) uL l78_1 l78_2 (l78_3 + 1)
      else
        gd ((33 : Int32) + l78_3) 41 (
        gd l78_1 108 (
        gd l78_3 8 (
        if (uL.2.2.2.2.2.1 l78_1.toNatClampNeg) = (uL.2.2.2.2.2.2.2.2.1 l78_3.toNatClampNeg) then
          p_X5_print_J135 (p_X5_print_L78 n) uL l78_1 l78_2 l78_3 l78_2 (uL.2.2.2.2.2.2.2.2.2.2.2.2.2.2.2.1 ((33 : Int32) + l78_3).toNatClampNeg) (99 : Int32) ((33 : Int32) + l78_3)
        else
          p_X5_print_J135 (p_X5_print_L78 n) uL l78_1 l78_2 l78_3 (l78_2 / (3 : Int32)) (uL.2.2.2.2.2.2.2.2.2.2.2.2.2.2.2.1 ((33 : Int32) + l78_3).toNatClampNeg) (99 : Int32) ((33 : Int32) + l78_3)))))
def p_X5_print (uL : tX5) (a1 : Int32) : Option tX5 :=
  gd a1 108 (
  gd ((upd uL.2.2.2.2.2.2.2.2.2.2.2.2.2.2.2.1 5 (0 : Int32)) 8) 108 (
  p_X5_print_L78 200 (uL.1, uL.2.1, uL.2.2.1, uL.2.2.2.1, uL.2.2.2.2.1, uL.2.2.2.2.2.1, uL.2.2.2.2.2.2.1, uL.2.2.2.2.2.2.2.1, uL.2.2.2.2.2.2.2.2.1, uL.2.2.2.2.2.2.2.2.2.1, uL.2.2.2.2.2.2.2.2.2.2.1, uL.2.2.2.2.2.2.2.2.2.2.2.1, (upd uL.2.2.2.2.2.2.2.2.2.2.2.2.1 ((upd uL.2.2.2.2.2.2.2.2.2.2.2.2.2.2.2.1 5 (0 : Int32)) 8).toNatClampNeg a1), (upd uL.2.2.2.2.2.2.2.2.2.2.2.2.2.1 ((upd uL.2.2.2.2.2.2.2.2.2.2.2.2.2.2.2.1 5 (0 : Int32)) 8).toNatClampNeg ((uL.2.2.2.2.2.2.1 a1.toNatClampNeg) + (uL.2.2.2.2.2.2.2.2.2.2.2.2.2.2.2.1 5))), (upd uL.2.2.2.2.2.2.2.2.2.2.2.2.2.2.1 ((upd uL.2.2.2.2.2.2.2.2.2.2.2.2.2.2.2.1 5 (0 : Int32)) 8).toNatClampNeg ((upd uL.2.2.2.2.2.2.2.2.2.2.2.2.2.2.2.1 5 (0 : Int32)) 0)), (upd (upd uL.2.2.2.2.2.2.2.2.2.2.2.2.2.2.2.1 5 (0 : Int32)) 8 (((upd uL.2.2.2.2.2.2.2.2.2.2.2.2.2.2.2.1 5 (0 : Int32)) 8) + (1 : Int32))), uL.2.2.2.2.2.2.2.2.2.2.2.2.2.2.2.2.1, uL.2.2.2.2.2.2.2.2.2.2.2.2.2.2.2.2.2) a1 ((uL.2.2.2.2.2.2.1 a1.toNatClampNeg) + (uL.2.2.2.2.2.2.2.2.2.2.2.2.2.2.2.1 5)) (0 : Int32)))
set_option maxHeartbeats 4000000 in
set_option maxRecDepth 100000 in
theorem c_X5_print (l : Launch) (dC : Nat → ClassId) (dI : Nat → Nat → Nat) (cI cZ : ClassId) (l0 l4 l5 l6 l8 l10 l11 l12 l13 l14 l15 l16 : Nat) (sz : Nat) (uL : tX5) (a1 : Int32) {z : tX5} (hok : p_X5_print uL a1 = some z) : Met l yX5_print (Cond.code yX5_print cX5_print 4 none :: lw_all) { frames := 2, cells := 0, slots := 0, locals := 42 } (prW (dC, dI) vwCl (TYS cI cZ) ((wX5 cI cZ l0 l4 l5 l6 l8 l10 l11 l12 l13 l14 l15 l16 uL)) sz [.ref l0, .int a1]) (va_Qv (fun _ : Unit => True) (fun _ t => va_P (dC, dI) vwCl ((wX5 cI cZ l0 l4 l5 l6 l8 l10 l11 l12 l13 l14 l15 l16 z)) t.heap) (va_A ((wX5 cI cZ l0 l4 l5 l6 l8 l10 l11 l12 l13 l14 l15 l16 uL)) sz)) 0 0 (va_A ((wX5 cI cZ l0 l4 l5 l6 l8 l10 l11 l12 l13 l14 l15 l16 uL)) sz) := by
  refine oM (by decide) (Nat.le_of_ble_eq_true rfl) ?_
  intro p e s m args below meth c S hr hlk hnm hB ls hl
  have hx := S.1
  have hb := S.2.1
  have hml := S.2.2.1
  have hown : s.vm.findClass RX5 = some m.cls := S.2.2.2.1
  have hts := S.2.2.2.2
  have S : CallFix p m c cX5_print 4 s args lw_all RX5 := S
  have hl : lv_has ls 4 [(0, .ref l0), (1, .int a1)] := hl
  obtain ⟨hsz, hP, hK, hD0⟩ := hB
  subst hsz
  have hD := hD0.self (sz := s.heap.size)
  generalize hAe : va_A ((wX5 cI cZ l0 l4 l5 l6 l8 l10 l11 l12 l13 l14 l15 l16 uL)) s.heap.size = A at hD ⊢
  have hA : ∀ q : Nat, s.heap.size ≤ q → A q := fun q h => by rw [← hAe]; exact Or.inr h
  have hS : va_S A s.heap s.heap [] := va_S.rf
  have hP : va_P (dC, dI) vwCl ((wX5 cI cZ l0 l4 l5 l6 l8 l10 l11 l12 l13 l14 l15 l16 uL)) s.heap := hP
  have L78 : ∀ n78 : Nat, ∀ (uL : tX5) (l78_1 : Int32) (l78_2 : Int32) (l78_3 : Int32) (H : Heap) (locs : List Loc) (hP : va_P (dC, dI) vwCl ((wX5 cI cZ l0 l4 l5 l6 l8 l10 l11 l12 l13 l14 l15 l16 uL)) H) (hD : va_D A ((wX5 cI cZ l0 l4 l5 l6 l8 l10 l11 l12 l13 l14 l15 l16 uL))) (hS : va_S A s.heap H locs) (ls : Array Slot) (hl : lv_has ls 4 [(0, .ref l0), (1, .int l78_1), (2, .int l78_2), (3, .int l78_3)]) (hok : p_X5_print_L78 n78 uL l78_1 l78_2 l78_3 = some z), W p l e { frames := 2, cells := 0, slots := 0, locals := 42 } s m args below meth c H locs 0 0 (MQ below (va_Qv (fun _ : Unit => True) (fun _ t => va_P (dC, dI) vwCl ((wX5 cI cZ l0 l4 l5 l6 l8 l10 l11 l12 l13 l14 l15 l16 z)) t.heap) A) args s 0 0 A) (F0 m 78 ls []) := by
    intro n78
    induction n78 with
    | zero =>
      intro uL l78_1 l78_2 l78_3 H locs hP hD hS ls hl hok
      rw [p_X5_print_L78] at hok
      cases hok
    | succ n78 ih78 =>
      have J135 : ∀ (uL : tX5) (l135_1 : Int32) (l135_2 : Int32) (l135_3 : Int32) (s135_0 : Int32) (s135_1 : Int32) (s135_2 : Int32) (s135_3 : Int32) (H : Heap) (locs : List Loc) (hP : va_P (dC, dI) vwCl ((wX5 cI cZ l0 l4 l5 l6 l8 l10 l11 l12 l13 l14 l15 l16 uL)) H) (hD : va_D A ((wX5 cI cZ l0 l4 l5 l6 l8 l10 l11 l12 l13 l14 l15 l16 uL))) (hS : va_S A s.heap H locs) (ls : Array Slot) (hl : lv_has ls 4 [(0, .ref l0), (1, .int l135_1), (2, .int l135_2), (3, .int l135_3)]) (hok : p_X5_print_J135 (p_X5_print_L78 n78) uL l135_1 l135_2 l135_3 s135_0 s135_1 s135_2 s135_3 = some z), W p l e { frames := 2, cells := 0, slots := 0, locals := 42 } s m args below meth c H locs 0 0 (MQ below (va_Qv (fun _ : Unit => True) (fun _ t => va_P (dC, dI) vwCl ((wX5 cI cZ l0 l4 l5 l6 l8 l10 l11 l12 l13 l14 l15 l16 z)) t.heap) A) args s 0 0 A) (F0 m 135 ls [.int s135_0, .int s135_1, .int s135_2, .int s135_3, .ref l15]) := by
        intro uL l135_1 l135_2 l135_3 s135_0 s135_1 s135_2 s135_3 H locs hP hD hS ls hl hok
        unfold p_X5_print_J135 at hok
        refine lv_iadd hx hb dX5_print_135 ?_
        refine va_mmin hx hb (hml.trans hl.1.symm) hown (hts _ qm_X5_77) (hts _ qt_Math_min) (hts _ qn_Math) (hts _ qc_Math_min) (Nat.le_of_ble_eq_true rfl) (Nat.le_of_ble_eq_true rfl) (Nat.le_of_ble_eq_true rfl) (Nat.le_of_ble_eq_true rfl) dX5_print_136 ?_
        obtain ⟨hi7, hok⟩ := gd_some hok
        refine va_iast hx hb hK hP hD hS 10 0 rfl rfl hi7 dX5_print_139 (fun H locs hP _ hS => ?_)
        have hP : va_P (dC, dI) vwCl ((wX5 cI cZ l0 l4 l5 l6 l8 l10 l11 l12 l13 l14 l15 l16 (uL.1, uL.2.1, uL.2.2.1, uL.2.2.2.1, uL.2.2.2.2.1, uL.2.2.2.2.2.1, uL.2.2.2.2.2.2.1, uL.2.2.2.2.2.2.2.1, uL.2.2.2.2.2.2.2.2.1, uL.2.2.2.2.2.2.2.2.2.1, uL.2.2.2.2.2.2.2.2.2.2.1, uL.2.2.2.2.2.2.2.2.2.2.2.1, uL.2.2.2.2.2.2.2.2.2.2.2.2.1, uL.2.2.2.2.2.2.2.2.2.2.2.2.2.1, uL.2.2.2.2.2.2.2.2.2.2.2.2.2.2.1, (upd uL.2.2.2.2.2.2.2.2.2.2.2.2.2.2.2.1 s135_3.toNatClampNeg (if (s135_1 + s135_0) < s135_2 then (s135_1 + s135_0) else s135_2)), uL.2.2.2.2.2.2.2.2.2.2.2.2.2.2.2.2.1, uL.2.2.2.2.2.2.2.2.2.2.2.2.2.2.2.2.2))) H := hP
        have hD : va_D A ((wX5 cI cZ l0 l4 l5 l6 l8 l10 l11 l12 l13 l14 l15 l16 (uL.1, uL.2.1, uL.2.2.1, uL.2.2.2.1, uL.2.2.2.2.1, uL.2.2.2.2.2.1, uL.2.2.2.2.2.2.1, uL.2.2.2.2.2.2.2.1, uL.2.2.2.2.2.2.2.2.1, uL.2.2.2.2.2.2.2.2.2.1, uL.2.2.2.2.2.2.2.2.2.2.1, uL.2.2.2.2.2.2.2.2.2.2.2.1, uL.2.2.2.2.2.2.2.2.2.2.2.2.1, uL.2.2.2.2.2.2.2.2.2.2.2.2.2.1, uL.2.2.2.2.2.2.2.2.2.2.2.2.2.2.1, (upd uL.2.2.2.2.2.2.2.2.2.2.2.2.2.2.2.1 s135_3.toNatClampNeg (if (s135_1 + s135_0) < s135_2 then (s135_1 + s135_0) else s135_2)), uL.2.2.2.2.2.2.2.2.2.2.2.2.2.2.2.2.1, uL.2.2.2.2.2.2.2.2.2.2.2.2.2.2.2.2.2))) := D_L hD
        refine lv_iinc (v := (l135_3 + 1)) (lv' := [(3, .int (l135_3 + 1)), (0, .ref l0), (1, .int l135_1), (2, .int l135_2)]) hx hb dX5_print_140 hl (k := 3) rfl rfl (by decide) rfl (fun ls hl => ?_)
        refine lv_goto (tgt := 78) hx hb dX5_print_143 (by decide) ?_
        exact ih78 (uL.1, uL.2.1, uL.2.2.1, uL.2.2.2.1, uL.2.2.2.2.1, uL.2.2.2.2.2.1, uL.2.2.2.2.2.2.1, uL.2.2.2.2.2.2.2.1, uL.2.2.2.2.2.2.2.2.1, uL.2.2.2.2.2.2.2.2.2.1, uL.2.2.2.2.2.2.2.2.2.2.1, uL.2.2.2.2.2.2.2.2.2.2.2.1, uL.2.2.2.2.2.2.2.2.2.2.2.2.1, uL.2.2.2.2.2.2.2.2.2.2.2.2.2.1, uL.2.2.2.2.2.2.2.2.2.2.2.2.2.2.1, (upd uL.2.2.2.2.2.2.2.2.2.2.2.2.2.2.2.1 s135_3.toNatClampNeg (if (s135_1 + s135_0) < s135_2 then (s135_1 + s135_0) else s135_2)), uL.2.2.2.2.2.2.2.2.2.2.2.2.2.2.2.2.1, uL.2.2.2.2.2.2.2.2.2.2.2.2.2.2.2.2.2) l135_1 l135_2 (l135_3 + 1) _ _ hP hD hS _ (lv_sub hl [1, 2, 3, 0] rfl) hok
      intro uL l78_1 l78_2 l78_3 H locs hP hD hS ls hl hok
      rw [p_X5_print_L78] at hok
      refine lv_iload_n hx hb dX5_print_78 rfl (lv_at hl 3 rfl) ?_
      refine lv_aload_n hx hb dX5_print_79 rfl (lv_at hl 0 rfl) ?_
      refine va_get (D := (dC, dI)) (ci := 5) (v := .int uL.2.2.2.2.2.2.2.1) (C := RX5) (T := TX5) (N := 18) hx hb hts inX5 hown hK hP 0 rfl rfl 7 (by decide) (hts _ qf_X5_57) (fun _ h9 => h9) rfl dX5_print_80 ?_
      refine lv_icmp_ge (tgt := 146) hx hb dX5_print_83 (by decide) (fun hc => ?_) (fun hc => ?_)
      · have hok := ip hok hc
        have hok := Option.some.inj hok
        subst hok
        exact eWv S hr hlk hP hS (Nat.le_of_ble_eq_true rfl) (Nat.le_of_ble_eq_true rfl) dX5_print_146
      · have hok := iq hok hc
        refine lv_aload_n hx hb dX5_print_86 rfl (lv_at hl 0 rfl) ?_
        refine lv_iload_n hx hb dX5_print_87 rfl (lv_at hl 3 rfl) ?_
        obtain ⟨v3, hc3, hok⟩ := bd_some hok
        refine cRVi (ci := 5) (q0 := 0) [.int l78_3] S hK hP (c_X5_reads l dC dI cI cZ l0 l4 l5 l6 l8 l10 l11 l12 l13 l14 l15 l16 uL l78_3 hc3) (lw_V qm_X5_73 qi_X5_reads qs_X5_reads qn_X5 qc_X5_reads) hd_X5_reads ⟨rfl, rfl⟩ ⟨Nat.le_of_ble_eq_true rfl, Nat.le_of_ble_eq_true rfl⟩ ⟨Nat.le_of_ble_eq_true rfl, Nat.le_of_ble_eq_true rfl⟩ rfl rfl rfl hl.1 (Nat.le_of_ble_eq_true rfl) rfl dX5_print_88 ?_
        refine lv_if_eq (tgt := 140) hx hb dX5_print_91 (by decide) (fun hc => ?_) (fun hc => ?_)
        · have hok := ip hok hc
          refine lv_iinc (v := (l78_3 + 1)) (lv' := [(3, .int (l78_3 + 1)), (0, .ref l0), (1, .int l78_1), (2, .int l78_2)]) hx hb dX5_print_140 hl (k := 3) rfl rfl (by decide) rfl (fun ls hl => ?_)
          refine lv_goto (tgt := 78) hx hb dX5_print_143 (by decide) ?_
          exact ih78 uL l78_1 l78_2 (l78_3 + 1) _ _ hP hD hS _ (lv_sub hl [1, 2, 3, 0] rfl) hok
        · have hok := iq hok hc
          refine lv_aload_n hx hb dX5_print_94 rfl (lv_at hl 0 rfl) ?_
          refine va_get (D := (dC, dI)) (ci := 5) (v := .ref l15) (C := RX5) (T := TX5) (N := 18) hx hb hts inX5 hown hK hP 0 rfl rfl 15 (by decide) (hts _ qf_X5_44) (fun _ h9 => h9) rfl dX5_print_95 ?_
          refine lv_bipush (v := (33 : Int32)) hx hb dX5_print_98 (by decide) ?_
          refine lv_iload_n hx hb dX5_print_100 rfl (lv_at hl 3 rfl) ?_
          refine lv_iadd hx hb dX5_print_101 ?_
          refine lv_bipush (v := (99 : Int32)) hx hb dX5_print_102 (by decide) ?_
          refine lv_aload_n hx hb dX5_print_104 rfl (lv_at hl 0 rfl) ?_
          refine va_get (D := (dC, dI)) (ci := 5) (v := .ref l15) (C := RX5) (T := TX5) (N := 18) hx hb hts inX5 hown hK hP 0 rfl rfl 15 (by decide) (hts _ qf_X5_44) (fun _ h9 => h9) rfl dX5_print_105 ?_
          refine lv_bipush (v := (33 : Int32)) hx hb dX5_print_108 (by decide) ?_
          refine lv_iload_n hx hb dX5_print_110 rfl (lv_at hl 3 rfl) ?_
          refine lv_iadd hx hb dX5_print_111 ?_
          obtain ⟨hi4, hok⟩ := gd_some hok
          refine va_iald hx hb hK hP 10 0 rfl rfl hi4 dX5_print_112 ?_
          refine lv_aload_n hx hb dX5_print_113 rfl (lv_at hl 0 rfl) ?_
          refine va_get (D := (dC, dI)) (ci := 5) (v := .ref l5) (C := RX5) (T := TX5) (N := 18) hx hb hts inX5 hown hK hP 0 rfl rfl 5 (by decide) (hts _ qf_X5_20) (fun _ h9 => h9) rfl dX5_print_114 ?_
          refine lv_iload_n hx hb dX5_print_117 rfl (lv_at hl 1 rfl) ?_
          obtain ⟨hi5, hok⟩ := gd_some hok
          refine va_iald hx hb hK hP 2 0 rfl rfl hi5 dX5_print_118 ?_
          refine lv_aload_n hx hb dX5_print_119 rfl (lv_at hl 0 rfl) ?_
          refine va_get (D := (dC, dI)) (ci := 5) (v := .ref l8) (C := RX5) (T := TX5) (N := 18) hx hb hts inX5 hown hK hP 0 rfl rfl 8 (by decide) (hts _ qf_X5_26) (fun _ h9 => h9) rfl dX5_print_120 ?_
          refine lv_iload_n hx hb dX5_print_123 rfl (lv_at hl 3 rfl) ?_
          obtain ⟨hi6, hok⟩ := gd_some hok
          refine va_iald hx hb hK hP 4 0 rfl rfl hi6 dX5_print_124 ?_
          refine lv_icmp_ne (tgt := 132) hx hb dX5_print_125 (by decide) (fun hc => ?_) (fun hc => ?_)
          · have hok := iq hok hc
            refine lv_iload_n hx hb dX5_print_132 rfl (lv_at hl 2 rfl) ?_
            refine lv_iconst (v := (3 : Int32)) hx hb dX5_print_133 (by decide) ?_
            refine lv_idiv hx hb dX5_print_134 (by decide) ?_
            exact J135 uL l78_1 l78_2 l78_3 (l78_2 / (3 : Int32)) (uL.2.2.2.2.2.2.2.2.2.2.2.2.2.2.2.1 ((33 : Int32) + l78_3).toNatClampNeg) (99 : Int32) ((33 : Int32) + l78_3) _ _ hP hD hS _ hl hok
          · have hok := ip hok hc
            refine lv_iload_n hx hb dX5_print_128 rfl (lv_at hl 2 rfl) ?_
            refine lv_goto (tgt := 135) hx hb dX5_print_129 (by decide) ?_
            exact J135 uL l78_1 l78_2 l78_3 l78_2 (uL.2.2.2.2.2.2.2.2.2.2.2.2.2.2.2.1 ((33 : Int32) + l78_3).toNatClampNeg) (99 : Int32) ((33 : Int32) + l78_3) _ _ hP hD hS _ hl hok
  unfold p_X5_print at hok
  refine lv_aload_n hx hb dX5_print_0 rfl (lv_at hl 0 rfl) ?_
  refine va_get (D := (dC, dI)) (ci := 5) (v := .ref l6) (C := RX5) (T := TX5) (N := 18) hx hb hts inX5 hown hK hP 0 rfl rfl 6 (by decide) (hts _ qf_X5_23) (fun _ h9 => h9) rfl dX5_print_1 ?_
  refine lv_iload_n hx hb dX5_print_4 rfl (lv_at hl 1 rfl) ?_
  obtain ⟨hi1, hok⟩ := gd_some hok
  refine va_iald hx hb hK hP 3 0 rfl rfl hi1 dX5_print_5 ?_
  refine lv_aload_n hx hb dX5_print_6 rfl (lv_at hl 0 rfl) ?_
  refine va_get (D := (dC, dI)) (ci := 5) (v := .ref l15) (C := RX5) (T := TX5) (N := 18) hx hb hts inX5 hown hK hP 0 rfl rfl 15 (by decide) (hts _ qf_X5_44) (fun _ h9 => h9) rfl dX5_print_7 ?_
  refine lv_iconst (v := (5 : Int32)) hx hb dX5_print_10 (by decide) ?_
  refine va_ialdK hx hb hK hP 10 0 rfl rfl (j := 5) (by decide) (vp_inK (by decide)) dX5_print_11 ?_
  refine lv_iadd hx hb dX5_print_12 ?_
  refine lv_istore_n (lv' := [(2, .int ((uL.2.2.2.2.2.2.1 a1.toNatClampNeg) + (uL.2.2.2.2.2.2.2.2.2.2.2.2.2.2.2.1 5))), (0, .ref l0), (1, .int a1)]) hx hb dX5_print_13 rfl hl (by decide) rfl (fun ls hl => ?_)
  refine lv_aload_n hx hb dX5_print_14 rfl (lv_at hl 1 rfl) ?_
  refine va_get (D := (dC, dI)) (ci := 5) (v := .ref l15) (C := RX5) (T := TX5) (N := 18) hx hb hts inX5 hown hK hP 0 rfl rfl 15 (by decide) (hts _ qf_X5_44) (fun _ h9 => h9) rfl dX5_print_15 ?_
  refine lv_iconst (v := (5 : Int32)) hx hb dX5_print_18 (by decide) ?_
  refine lv_iconst (v := (0 : Int32)) hx hb dX5_print_19 (by decide) ?_
  refine va_iastK hx hb hK hP hD hS 10 0 rfl rfl (j := 5) (by decide) (vp_inK (by decide)) dX5_print_20 (fun H locs hP _ hS => ?_)
  have hP : va_P (dC, dI) vwCl ((wX5 cI cZ l0 l4 l5 l6 l8 l10 l11 l12 l13 l14 l15 l16 (uL.1, uL.2.1, uL.2.2.1, uL.2.2.2.1, uL.2.2.2.2.1, uL.2.2.2.2.2.1, uL.2.2.2.2.2.2.1, uL.2.2.2.2.2.2.2.1, uL.2.2.2.2.2.2.2.2.1, uL.2.2.2.2.2.2.2.2.2.1, uL.2.2.2.2.2.2.2.2.2.2.1, uL.2.2.2.2.2.2.2.2.2.2.2.1, uL.2.2.2.2.2.2.2.2.2.2.2.2.1, uL.2.2.2.2.2.2.2.2.2.2.2.2.2.1, uL.2.2.2.2.2.2.2.2.2.2.2.2.2.2.1, (upd uL.2.2.2.2.2.2.2.2.2.2.2.2.2.2.2.1 5 (0 : Int32)), uL.2.2.2.2.2.2.2.2.2.2.2.2.2.2.2.2.1, uL.2.2.2.2.2.2.2.2.2.2.2.2.2.2.2.2.2))) H := hP
  have hD : va_D A ((wX5 cI cZ l0 l4 l5 l6 l8 l10 l11 l12 l13 l14 l15 l16 (uL.1, uL.2.1, uL.2.2.1, uL.2.2.2.1, uL.2.2.2.2.1, uL.2.2.2.2.2.1, uL.2.2.2.2.2.2.1, uL.2.2.2.2.2.2.2.1, uL.2.2.2.2.2.2.2.2.1, uL.2.2.2.2.2.2.2.2.2.1, uL.2.2.2.2.2.2.2.2.2.2.1, uL.2.2.2.2.2.2.2.2.2.2.2.1, uL.2.2.2.2.2.2.2.2.2.2.2.2.1, uL.2.2.2.2.2.2.2.2.2.2.2.2.2.1, uL.2.2.2.2.2.2.2.2.2.2.2.2.2.2.1, (upd uL.2.2.2.2.2.2.2.2.2.2.2.2.2.2.2.1 5 (0 : Int32)), uL.2.2.2.2.2.2.2.2.2.2.2.2.2.2.2.2.1, uL.2.2.2.2.2.2.2.2.2.2.2.2.2.2.2.2.2))) := D_L hD
  refine lv_aload_n hx hb dX5_print_21 rfl (lv_at hl 1 rfl) ?_
  refine va_get (D := (dC, dI)) (ci := 5) (v := .ref l12) (C := RX5) (T := TX5) (N := 18) hx hb hts inX5 hown hK hP 0 rfl rfl 12 (by decide) (hts _ qf_X5_35) (fun _ h9 => h9) rfl dX5_print_22 ?_
  refine lv_aload_n hx hb dX5_print_25 rfl (lv_at hl 1 rfl) ?_
  refine va_get (D := (dC, dI)) (ci := 5) (v := .ref l15) (C := RX5) (T := TX5) (N := 18) hx hb hts inX5 hown hK hP 0 rfl rfl 15 (by decide) (hts _ qf_X5_44) (fun _ h9 => h9) rfl dX5_print_26 ?_
  refine lv_bipush (v := (8 : Int32)) hx hb dX5_print_29 (by decide) ?_
  refine va_ialdK hx hb hK hP 10 0 rfl rfl (j := 8) (by decide) (vp_inK (by decide)) dX5_print_31 ?_
  refine lv_iload_n hx hb dX5_print_32 rfl (lv_at hl 2 rfl) ?_
  obtain ⟨hi2, hok⟩ := gd_some hok
  refine va_iast hx hb hK hP hD hS 7 0 rfl rfl hi2 dX5_print_33 (fun H locs hP _ hS => ?_)
  have hP : va_P (dC, dI) vwCl ((wX5 cI cZ l0 l4 l5 l6 l8 l10 l11 l12 l13 l14 l15 l16 (uL.1, uL.2.1, uL.2.2.1, uL.2.2.2.1, uL.2.2.2.2.1, uL.2.2.2.2.2.1, uL.2.2.2.2.2.2.1, uL.2.2.2.2.2.2.2.1, uL.2.2.2.2.2.2.2.2.1, uL.2.2.2.2.2.2.2.2.2.1, uL.2.2.2.2.2.2.2.2.2.2.1, uL.2.2.2.2.2.2.2.2.2.2.2.1, (upd uL.2.2.2.2.2.2.2.2.2.2.2.2.1 ((upd uL.2.2.2.2.2.2.2.2.2.2.2.2.2.2.2.1 5 (0 : Int32)) 8).toNatClampNeg a1), uL.2.2.2.2.2.2.2.2.2.2.2.2.2.1, uL.2.2.2.2.2.2.2.2.2.2.2.2.2.2.1, (upd uL.2.2.2.2.2.2.2.2.2.2.2.2.2.2.2.1 5 (0 : Int32)), uL.2.2.2.2.2.2.2.2.2.2.2.2.2.2.2.2.1, uL.2.2.2.2.2.2.2.2.2.2.2.2.2.2.2.2.2))) H := hP
  have hD : va_D A ((wX5 cI cZ l0 l4 l5 l6 l8 l10 l11 l12 l13 l14 l15 l16 (uL.1, uL.2.1, uL.2.2.1, uL.2.2.2.1, uL.2.2.2.2.1, uL.2.2.2.2.2.1, uL.2.2.2.2.2.2.1, uL.2.2.2.2.2.2.2.1, uL.2.2.2.2.2.2.2.2.1, uL.2.2.2.2.2.2.2.2.2.1, uL.2.2.2.2.2.2.2.2.2.2.1, uL.2.2.2.2.2.2.2.2.2.2.2.1, (upd uL.2.2.2.2.2.2.2.2.2.2.2.2.1 ((upd uL.2.2.2.2.2.2.2.2.2.2.2.2.2.2.2.1 5 (0 : Int32)) 8).toNatClampNeg a1), uL.2.2.2.2.2.2.2.2.2.2.2.2.2.1, uL.2.2.2.2.2.2.2.2.2.2.2.2.2.2.1, (upd uL.2.2.2.2.2.2.2.2.2.2.2.2.2.2.2.1 5 (0 : Int32)), uL.2.2.2.2.2.2.2.2.2.2.2.2.2.2.2.2.1, uL.2.2.2.2.2.2.2.2.2.2.2.2.2.2.2.2.2))) := D_L hD
  refine lv_aload_n hx hb dX5_print_34 rfl (lv_at hl 1 rfl) ?_
  refine va_get (D := (dC, dI)) (ci := 5) (v := .ref l13) (C := RX5) (T := TX5) (N := 18) hx hb hts inX5 hown hK hP 0 rfl rfl 13 (by decide) (hts _ qf_X5_38) (fun _ h9 => h9) rfl dX5_print_35 ?_
  refine lv_aload_n hx hb dX5_print_38 rfl (lv_at hl 1 rfl) ?_
  refine va_get (D := (dC, dI)) (ci := 5) (v := .ref l15) (C := RX5) (T := TX5) (N := 18) hx hb hts inX5 hown hK hP 0 rfl rfl 15 (by decide) (hts _ qf_X5_44) (fun _ h9 => h9) rfl dX5_print_39 ?_
  refine lv_bipush (v := (8 : Int32)) hx hb dX5_print_42 (by decide) ?_
  refine va_ialdK hx hb hK hP 10 0 rfl rfl (j := 8) (by decide) (vp_inK (by decide)) dX5_print_44 ?_
  refine lv_iload_n hx hb dX5_print_45 rfl (lv_at hl 0 rfl) ?_
  refine va_iast hx hb hK hP hD hS 8 0 rfl rfl hi2 dX5_print_46 (fun H locs hP _ hS => ?_)
  have hP : va_P (dC, dI) vwCl ((wX5 cI cZ l0 l4 l5 l6 l8 l10 l11 l12 l13 l14 l15 l16 (uL.1, uL.2.1, uL.2.2.1, uL.2.2.2.1, uL.2.2.2.2.1, uL.2.2.2.2.2.1, uL.2.2.2.2.2.2.1, uL.2.2.2.2.2.2.2.1, uL.2.2.2.2.2.2.2.2.1, uL.2.2.2.2.2.2.2.2.2.1, uL.2.2.2.2.2.2.2.2.2.2.1, uL.2.2.2.2.2.2.2.2.2.2.2.1, (upd uL.2.2.2.2.2.2.2.2.2.2.2.2.1 ((upd uL.2.2.2.2.2.2.2.2.2.2.2.2.2.2.2.1 5 (0 : Int32)) 8).toNatClampNeg a1), (upd uL.2.2.2.2.2.2.2.2.2.2.2.2.2.1 ((upd uL.2.2.2.2.2.2.2.2.2.2.2.2.2.2.2.1 5 (0 : Int32)) 8).toNatClampNeg ((uL.2.2.2.2.2.2.1 a1.toNatClampNeg) + (uL.2.2.2.2.2.2.2.2.2.2.2.2.2.2.2.1 5))), uL.2.2.2.2.2.2.2.2.2.2.2.2.2.2.1, (upd uL.2.2.2.2.2.2.2.2.2.2.2.2.2.2.2.1 5 (0 : Int32)), uL.2.2.2.2.2.2.2.2.2.2.2.2.2.2.2.2.1, uL.2.2.2.2.2.2.2.2.2.2.2.2.2.2.2.2.2))) H := hP
  have hD : va_D A ((wX5 cI cZ l0 l4 l5 l6 l8 l10 l11 l12 l13 l14 l15 l16 (uL.1, uL.2.1, uL.2.2.1, uL.2.2.2.1, uL.2.2.2.2.1, uL.2.2.2.2.2.1, uL.2.2.2.2.2.2.1, uL.2.2.2.2.2.2.2.1, uL.2.2.2.2.2.2.2.2.1, uL.2.2.2.2.2.2.2.2.2.1, uL.2.2.2.2.2.2.2.2.2.2.1, uL.2.2.2.2.2.2.2.2.2.2.2.1, (upd uL.2.2.2.2.2.2.2.2.2.2.2.2.1 ((upd uL.2.2.2.2.2.2.2.2.2.2.2.2.2.2.2.1 5 (0 : Int32)) 8).toNatClampNeg a1), (upd uL.2.2.2.2.2.2.2.2.2.2.2.2.2.1 ((upd uL.2.2.2.2.2.2.2.2.2.2.2.2.2.2.2.1 5 (0 : Int32)) 8).toNatClampNeg ((uL.2.2.2.2.2.2.1 a1.toNatClampNeg) + (uL.2.2.2.2.2.2.2.2.2.2.2.2.2.2.2.1 5))), uL.2.2.2.2.2.2.2.2.2.2.2.2.2.2.1, (upd uL.2.2.2.2.2.2.2.2.2.2.2.2.2.2.2.1 5 (0 : Int32)), uL.2.2.2.2.2.2.2.2.2.2.2.2.2.2.2.2.1, uL.2.2.2.2.2.2.2.2.2.2.2.2.2.2.2.2.2))) := D_L hD
  refine lv_aload_n hx hb dX5_print_47 rfl (lv_at hl 1 rfl) ?_
  refine va_get (D := (dC, dI)) (ci := 5) (v := .ref l14) (C := RX5) (T := TX5) (N := 18) hx hb hts inX5 hown hK hP 0 rfl rfl 14 (by decide) (hts _ qf_X5_41) (fun _ h9 => h9) rfl dX5_print_48 ?_
  refine lv_aload_n hx hb dX5_print_51 rfl (lv_at hl 1 rfl) ?_
  refine va_get (D := (dC, dI)) (ci := 5) (v := .ref l15) (C := RX5) (T := TX5) (N := 18) hx hb hts inX5 hown hK hP 0 rfl rfl 15 (by decide) (hts _ qf_X5_44) (fun _ h9 => h9) rfl dX5_print_52 ?_
  refine lv_bipush (v := (8 : Int32)) hx hb dX5_print_55 (by decide) ?_
  refine va_ialdK hx hb hK hP 10 0 rfl rfl (j := 8) (by decide) (vp_inK (by decide)) dX5_print_57 ?_
  refine lv_aload_n hx hb dX5_print_58 rfl (lv_at hl 1 rfl) ?_
  refine va_get (D := (dC, dI)) (ci := 5) (v := .ref l15) (C := RX5) (T := TX5) (N := 18) hx hb hts inX5 hown hK hP 0 rfl rfl 15 (by decide) (hts _ qf_X5_44) (fun _ h9 => h9) rfl dX5_print_59 ?_
  refine lv_iconst (v := (0 : Int32)) hx hb dX5_print_62 (by decide) ?_
  refine va_ialdK hx hb hK hP 10 0 rfl rfl (j := 0) (by decide) (vp_inK (by decide)) dX5_print_63 ?_
  refine va_iast hx hb hK hP hD hS 9 0 rfl rfl hi2 dX5_print_64 (fun H locs hP _ hS => ?_)
  have hP : va_P (dC, dI) vwCl ((wX5 cI cZ l0 l4 l5 l6 l8 l10 l11 l12 l13 l14 l15 l16 (uL.1, uL.2.1, uL.2.2.1, uL.2.2.2.1, uL.2.2.2.2.1, uL.2.2.2.2.2.1, uL.2.2.2.2.2.2.1, uL.2.2.2.2.2.2.2.1, uL.2.2.2.2.2.2.2.2.1, uL.2.2.2.2.2.2.2.2.2.1, uL.2.2.2.2.2.2.2.2.2.2.1, uL.2.2.2.2.2.2.2.2.2.2.2.1, (upd uL.2.2.2.2.2.2.2.2.2.2.2.2.1 ((upd uL.2.2.2.2.2.2.2.2.2.2.2.2.2.2.2.1 5 (0 : Int32)) 8).toNatClampNeg a1), (upd uL.2.2.2.2.2.2.2.2.2.2.2.2.2.1 ((upd uL.2.2.2.2.2.2.2.2.2.2.2.2.2.2.2.1 5 (0 : Int32)) 8).toNatClampNeg ((uL.2.2.2.2.2.2.1 a1.toNatClampNeg) + (uL.2.2.2.2.2.2.2.2.2.2.2.2.2.2.2.1 5))), (upd uL.2.2.2.2.2.2.2.2.2.2.2.2.2.2.1 ((upd uL.2.2.2.2.2.2.2.2.2.2.2.2.2.2.2.1 5 (0 : Int32)) 8).toNatClampNeg ((upd uL.2.2.2.2.2.2.2.2.2.2.2.2.2.2.2.1 5 (0 : Int32)) 0)), (upd uL.2.2.2.2.2.2.2.2.2.2.2.2.2.2.2.1 5 (0 : Int32)), uL.2.2.2.2.2.2.2.2.2.2.2.2.2.2.2.2.1, uL.2.2.2.2.2.2.2.2.2.2.2.2.2.2.2.2.2))) H := hP
  have hD : va_D A ((wX5 cI cZ l0 l4 l5 l6 l8 l10 l11 l12 l13 l14 l15 l16 (uL.1, uL.2.1, uL.2.2.1, uL.2.2.2.1, uL.2.2.2.2.1, uL.2.2.2.2.2.1, uL.2.2.2.2.2.2.1, uL.2.2.2.2.2.2.2.1, uL.2.2.2.2.2.2.2.2.1, uL.2.2.2.2.2.2.2.2.2.1, uL.2.2.2.2.2.2.2.2.2.2.1, uL.2.2.2.2.2.2.2.2.2.2.2.1, (upd uL.2.2.2.2.2.2.2.2.2.2.2.2.1 ((upd uL.2.2.2.2.2.2.2.2.2.2.2.2.2.2.2.1 5 (0 : Int32)) 8).toNatClampNeg a1), (upd uL.2.2.2.2.2.2.2.2.2.2.2.2.2.1 ((upd uL.2.2.2.2.2.2.2.2.2.2.2.2.2.2.2.1 5 (0 : Int32)) 8).toNatClampNeg ((uL.2.2.2.2.2.2.1 a1.toNatClampNeg) + (uL.2.2.2.2.2.2.2.2.2.2.2.2.2.2.2.1 5))), (upd uL.2.2.2.2.2.2.2.2.2.2.2.2.2.2.1 ((upd uL.2.2.2.2.2.2.2.2.2.2.2.2.2.2.2.1 5 (0 : Int32)) 8).toNatClampNeg ((upd uL.2.2.2.2.2.2.2.2.2.2.2.2.2.2.2.1 5 (0 : Int32)) 0)), (upd uL.2.2.2.2.2.2.2.2.2.2.2.2.2.2.2.1 5 (0 : Int32)), uL.2.2.2.2.2.2.2.2.2.2.2.2.2.2.2.2.1, uL.2.2.2.2.2.2.2.2.2.2.2.2.2.2.2.2.2))) := D_L hD
  refine lv_aload_n hx hb dX5_print_65 rfl (lv_at hl 1 rfl) ?_
  refine va_get (D := (dC, dI)) (ci := 5) (v := .ref l15) (C := RX5) (T := TX5) (N := 18) hx hb hts inX5 hown hK hP 0 rfl rfl 15 (by decide) (hts _ qf_X5_44) (fun _ h9 => h9) rfl dX5_print_66 ?_
  refine lv_bipush (v := (8 : Int32)) hx hb dX5_print_69 (by decide) ?_
  refine lv_dup2_11 hx hb dX5_print_71 rfl rfl ?_
  refine va_ialdK hx hb hK hP 10 0 rfl rfl (j := 8) (by decide) (vp_inK (by decide)) dX5_print_72 ?_
  refine lv_iconst (v := (1 : Int32)) hx hb dX5_print_73 (by decide) ?_
  refine lv_iadd hx hb dX5_print_74 ?_
  refine va_iastK hx hb hK hP hD hS 10 0 rfl rfl (j := 8) (by decide) (vp_inK (by decide)) dX5_print_75 (fun H locs hP _ hS => ?_)
  have hP : va_P (dC, dI) vwCl ((wX5 cI cZ l0 l4 l5 l6 l8 l10 l11 l12 l13 l14 l15 l16 (uL.1, uL.2.1, uL.2.2.1, uL.2.2.2.1, uL.2.2.2.2.1, uL.2.2.2.2.2.1, uL.2.2.2.2.2.2.1, uL.2.2.2.2.2.2.2.1, uL.2.2.2.2.2.2.2.2.1, uL.2.2.2.2.2.2.2.2.2.1, uL.2.2.2.2.2.2.2.2.2.2.1, uL.2.2.2.2.2.2.2.2.2.2.2.1, (upd uL.2.2.2.2.2.2.2.2.2.2.2.2.1 ((upd uL.2.2.2.2.2.2.2.2.2.2.2.2.2.2.2.1 5 (0 : Int32)) 8).toNatClampNeg a1), (upd uL.2.2.2.2.2.2.2.2.2.2.2.2.2.1 ((upd uL.2.2.2.2.2.2.2.2.2.2.2.2.2.2.2.1 5 (0 : Int32)) 8).toNatClampNeg ((uL.2.2.2.2.2.2.1 a1.toNatClampNeg) + (uL.2.2.2.2.2.2.2.2.2.2.2.2.2.2.2.1 5))), (upd uL.2.2.2.2.2.2.2.2.2.2.2.2.2.2.1 ((upd uL.2.2.2.2.2.2.2.2.2.2.2.2.2.2.2.1 5 (0 : Int32)) 8).toNatClampNeg ((upd uL.2.2.2.2.2.2.2.2.2.2.2.2.2.2.2.1 5 (0 : Int32)) 0)), (upd (upd uL.2.2.2.2.2.2.2.2.2.2.2.2.2.2.2.1 5 (0 : Int32)) 8 (((upd uL.2.2.2.2.2.2.2.2.2.2.2.2.2.2.2.1 5 (0 : Int32)) 8) + (1 : Int32))), uL.2.2.2.2.2.2.2.2.2.2.2.2.2.2.2.2.1, uL.2.2.2.2.2.2.2.2.2.2.2.2.2.2.2.2.2))) H := hP
  have hD : va_D A ((wX5 cI cZ l0 l4 l5 l6 l8 l10 l11 l12 l13 l14 l15 l16 (uL.1, uL.2.1, uL.2.2.1, uL.2.2.2.1, uL.2.2.2.2.1, uL.2.2.2.2.2.1, uL.2.2.2.2.2.2.1, uL.2.2.2.2.2.2.2.1, uL.2.2.2.2.2.2.2.2.1, uL.2.2.2.2.2.2.2.2.2.1, uL.2.2.2.2.2.2.2.2.2.2.1, uL.2.2.2.2.2.2.2.2.2.2.2.1, (upd uL.2.2.2.2.2.2.2.2.2.2.2.2.1 ((upd uL.2.2.2.2.2.2.2.2.2.2.2.2.2.2.2.1 5 (0 : Int32)) 8).toNatClampNeg a1), (upd uL.2.2.2.2.2.2.2.2.2.2.2.2.2.1 ((upd uL.2.2.2.2.2.2.2.2.2.2.2.2.2.2.2.1 5 (0 : Int32)) 8).toNatClampNeg ((uL.2.2.2.2.2.2.1 a1.toNatClampNeg) + (uL.2.2.2.2.2.2.2.2.2.2.2.2.2.2.2.1 5))), (upd uL.2.2.2.2.2.2.2.2.2.2.2.2.2.2.1 ((upd uL.2.2.2.2.2.2.2.2.2.2.2.2.2.2.2.1 5 (0 : Int32)) 8).toNatClampNeg ((upd uL.2.2.2.2.2.2.2.2.2.2.2.2.2.2.2.1 5 (0 : Int32)) 0)), (upd (upd uL.2.2.2.2.2.2.2.2.2.2.2.2.2.2.2.1 5 (0 : Int32)) 8 (((upd uL.2.2.2.2.2.2.2.2.2.2.2.2.2.2.2.1 5 (0 : Int32)) 8) + (1 : Int32))), uL.2.2.2.2.2.2.2.2.2.2.2.2.2.2.2.2.1, uL.2.2.2.2.2.2.2.2.2.2.2.2.2.2.2.2.2))) := D_L hD
  refine lv_iconst (v := (0 : Int32)) hx hb dX5_print_76 (by decide) ?_
  refine lv_istore_n (lv' := [(3, .int (0 : Int32)), (2, .int ((uL.2.2.2.2.2.2.1 a1.toNatClampNeg) + (uL.2.2.2.2.2.2.2.2.2.2.2.2.2.2.2.1 5))), (0, .ref l0), (1, .int a1)]) hx hb dX5_print_77 rfl hl (by decide) rfl (fun ls hl => ?_)
  exact L78 200 (uL.1, uL.2.1, uL.2.2.1, uL.2.2.2.1, uL.2.2.2.2.1, uL.2.2.2.2.2.1, uL.2.2.2.2.2.2.1, uL.2.2.2.2.2.2.2.1, uL.2.2.2.2.2.2.2.2.1, uL.2.2.2.2.2.2.2.2.2.1, uL.2.2.2.2.2.2.2.2.2.2.1, uL.2.2.2.2.2.2.2.2.2.2.2.1, (upd uL.2.2.2.2.2.2.2.2.2.2.2.2.1 ((upd uL.2.2.2.2.2.2.2.2.2.2.2.2.2.2.2.1 5 (0 : Int32)) 8).toNatClampNeg a1), (upd uL.2.2.2.2.2.2.2.2.2.2.2.2.2.1 ((upd uL.2.2.2.2.2.2.2.2.2.2.2.2.2.2.2.1 5 (0 : Int32)) 8).toNatClampNeg ((uL.2.2.2.2.2.2.1 a1.toNatClampNeg) + (uL.2.2.2.2.2.2.2.2.2.2.2.2.2.2.2.1 5))), (upd uL.2.2.2.2.2.2.2.2.2.2.2.2.2.2.1 ((upd uL.2.2.2.2.2.2.2.2.2.2.2.2.2.2.2.1 5 (0 : Int32)) 8).toNatClampNeg ((upd uL.2.2.2.2.2.2.2.2.2.2.2.2.2.2.2.1 5 (0 : Int32)) 0)), (upd (upd uL.2.2.2.2.2.2.2.2.2.2.2.2.2.2.2.1 5 (0 : Int32)) 8 (((upd uL.2.2.2.2.2.2.2.2.2.2.2.2.2.2.2.1 5 (0 : Int32)) 8) + (1 : Int32))), uL.2.2.2.2.2.2.2.2.2.2.2.2.2.2.2.2.1, uL.2.2.2.2.2.2.2.2.2.2.2.2.2.2.2.2.2) a1 ((uL.2.2.2.2.2.2.1 a1.toNatClampNeg) + (uL.2.2.2.2.2.2.2.2.2.2.2.2.2.2.2.1 5)) (0 : Int32) _ _ hP hD hS _ (lv_sub hl [2, 3, 1, 0] rfl) hok
theorem hd_X5_stop : yX5_stop.cls = RX5 ∧ yX5_stop.cls ≠ "java/lang/invoke/MethodHandle" ∧ yX5_stop.cls ≠ "java/lang/invoke/VarHandle" ∧ (parseMethodDescriptor yX5_stop.desc).map (fun d => d.parameters.length) = some 0 := by decide +kernel
def p_X5_stop (uL : tX5) : Option tX5 :=
  gd ((9 : Int32) + (uL.2.2.2.2.2.2.2.2.2.2.2.2.2.2.2.1 1)) 41 (
  gd (uL.2.2.2.2.2.2.2.2.2.2.2.2.2.2.2.1 1) 12 (
  if ((upd uL.2.2.2.2.2.2.2.2.2.2.2.2.2.2.2.1 6 ((uL.2.2.2.2.2.2.2.2.2.2.2.2.2.2.2.1 6) &&& (((1 : Int32) <<< ((uL.2.2.2.2.2.2.2.2.2.2.2.2.2.2.2.1 1) &&& 31)) ^^^ (-1 : Int32)))) ((9 : Int32) + (uL.2.2.2.2.2.2.2.2.2.2.2.2.2.2.2.1 1)).toNatClampNeg) = (uL.2.2.2.2.1 (uL.2.2.2.2.2.2.2.2.2.2.2.2.2.2.2.1 1).toNatClampNeg) then
    some (uL.1, uL.2.1, uL.2.2.1, uL.2.2.2.1, uL.2.2.2.2.1, uL.2.2.2.2.2.1, uL.2.2.2.2.2.2.1, uL.2.2.2.2.2.2.2.1, uL.2.2.2.2.2.2.2.2.1, uL.2.2.2.2.2.2.2.2.2.1, uL.2.2.2.2.2.2.2.2.2.2.1, uL.2.2.2.2.2.2.2.2.2.2.2.1, uL.2.2.2.2.2.2.2.2.2.2.2.2.1, uL.2.2.2.2.2.2.2.2.2.2.2.2.2.1, uL.2.2.2.2.2.2.2.2.2.2.2.2.2.2.1, (upd uL.2.2.2.2.2.2.2.2.2.2.2.2.2.2.2.1 6 ((uL.2.2.2.2.2.2.2.2.2.2.2.2.2.2.2.1 6) &&& (((1 : Int32) <<< ((uL.2.2.2.2.2.2.2.2.2.2.2.2.2.2.2.1 1) &&& 31)) ^^^ (-1 : Int32)))), uL.2.2.2.2.2.2.2.2.2.2.2.2.2.2.2.2.1, (uL.2.2.2.2.2.2.2.2.2.2.2.2.2.2.2.1 1))
  else
    gd (((9 : Int32) * (uL.2.2.2.2.2.2.2.2.2.2.2.2.2.2.2.1 1)) + ((upd uL.2.2.2.2.2.2.2.2.2.2.2.2.2.2.2.1 6 ((uL.2.2.2.2.2.2.2.2.2.2.2.2.2.2.2.1 6) &&& (((1 : Int32) <<< ((uL.2.2.2.2.2.2.2.2.2.2.2.2.2.2.2.1 1) &&& 31)) ^^^ (-1 : Int32)))) ((9 : Int32) + (uL.2.2.2.2.2.2.2.2.2.2.2.2.2.2.2.1 1)).toNatClampNeg)) 108 (
    bd (p_X5_has uL.2.2.2.1 (uL.2.2.2.2.2.1 (((9 : Int32) * (uL.2.2.2.2.2.2.2.2.2.2.2.2.2.2.2.1 1)) + ((upd uL.2.2.2.2.2.2.2.2.2.2.2.2.2.2.2.1 6 ((uL.2.2.2.2.2.2.2.2.2.2.2.2.2.2.2.1 6) &&& (((1 : Int32) <<< ((uL.2.2.2.2.2.2.2.2.2.2.2.2.2.2.2.1 1) &&& 31)) ^^^ (-1 : Int32)))) ((9 : Int32) + (uL.2.2.2.2.2.2.2.2.2.2.2.2.2.2.2.1 1)).toNatClampNeg)).toNatClampNeg)) (fun v4 =>
    if v4 = 0 then
      bd (p_X5_print (uL.1, uL.2.1, uL.2.2.1, uL.2.2.2.1, uL.2.2.2.2.1, uL.2.2.2.2.2.1, uL.2.2.2.2.2.2.1, uL.2.2.2.2.2.2.2.1, uL.2.2.2.2.2.2.2.2.1, uL.2.2.2.2.2.2.2.2.2.1, uL.2.2.2.2.2.2.2.2.2.2.1, uL.2.2.2.2.2.2.2.2.2.2.2.1, uL.2.2.2.2.2.2.2.2.2.2.2.2.1, uL.2.2.2.2.2.2.2.2.2.2.2.2.2.1, uL.2.2.2.2.2.2.2.2.2.2.2.2.2.2.1, (upd (upd uL.2.2.2.2.2.2.2.2.2.2.2.2.2.2.2.1 6 ((uL.2.2.2.2.2.2.2.2.2.2.2.2.2.2.2.1 6) &&& (((1 : Int32) <<< ((uL.2.2.2.2.2.2.2.2.2.2.2.2.2.2.2.1 1) &&& 31)) ^^^ (-1 : Int32)))) ((9 : Int32) + (uL.2.2.2.2.2.2.2.2.2.2.2.2.2.2.2.1 1)).toNatClampNeg (((upd uL.2.2.2.2.2.2.2.2.2.2.2.2.2.2.2.1 6 ((uL.2.2.2.2.2.2.2.2.2.2.2.2.2.2.2.1 6) &&& (((1 : Int32) <<< ((uL.2.2.2.2.2.2.2.2.2.2.2.2.2.2.2.1 1) &&& 31)) ^^^ (-1 : Int32)))) ((9 : Int32) + (uL.2.2.2.2.2.2.2.2.2.2.2.2.2.2.2.1 1)).toNatClampNeg) + (1 : Int32))), uL.2.2.2.2.2.2.2.2.2.2.2.2.2.2.2.2.1, (uL.2.2.2.2.2.2.2.2.2.2.2.2.2.2.2.1 1)) (((9 : Int32) * (uL.2.2.2.2.2.2.2.2.2.2.2.2.2.2.2.1 1)) + ((upd uL.2.2.2.2.2.2.2.2.2.2.2.2.2.2.2.1 6 ((uL.2.2.2.2.2.2.2.2.2.2.2.2.2.2.2.1 6) &&& (((1 : Int32) <<< ((uL.2.2.2.2.2.2.2.2.2.2.2.2.2.2.2.1 1) &&& 31)) ^^^ (-1 : Int32)))) ((9 : Int32) + (uL.2.2.2.2.2.2.2.2.2.2.2.2.2.2.2.1 1)).toNatClampNeg))) (fun v5 =>
      some v5)
    else
      gd ((21 : Int32) + (uL.2.2.2.2.2.2.2.2.2.2.2.2.2.2.2.1 1)) 41 (
      some (uL.1, uL.2.1, uL.2.2.1, uL.2.2.2.1, uL.2.2.2.2.1, uL.2.2.2.2.2.1, uL.2.2.2.2.2.2.1, uL.2.2.2.2.2.2.2.1, uL.2.2.2.2.2.2.2.2.1, uL.2.2.2.2.2.2.2.2.2.1, uL.2.2.2.2.2.2.2.2.2.2.1, uL.2.2.2.2.2.2.2.2.2.2.2.1, uL.2.2.2.2.2.2.2.2.2.2.2.2.1, uL.2.2.2.2.2.2.2.2.2.2.2.2.2.1, uL.2.2.2.2.2.2.2.2.2.2.2.2.2.2.1, (upd (upd (upd uL.2.2.2.2.2.2.2.2.2.2.2.2.2.2.2.1 6 ((uL.2.2.2.2.2.2.2.2.2.2.2.2.2.2.2.1 6) &&& (((1 : Int32) <<< ((uL.2.2.2.2.2.2.2.2.2.2.2.2.2.2.2.1 1) &&& 31)) ^^^ (-1 : Int32)))) ((9 : Int32) + (uL.2.2.2.2.2.2.2.2.2.2.2.2.2.2.2.1 1)).toNatClampNeg (((upd uL.2.2.2.2.2.2.2.2.2.2.2.2.2.2.2.1 6 ((uL.2.2.2.2.2.2.2.2.2.2.2.2.2.2.2.1 6) &&& (((1 : Int32) <<< ((uL.2.2.2.2.2.2.2.2.2.2.2.2.2.2.2.1 1) &&& 31)) ^^^ (-1 : Int32)))) ((9 : Int32) + (uL.2.2.2.2.2.2.2.2.2.2.2.2.2.2.2.1 1)).toNatClampNeg) + (1 : Int32))) ((21 : Int32) + (uL.2.2.2.2.2.2.2.2.2.2.2.2.2.2.2.1 1)).toNatClampNeg (((upd (upd uL.2.2.2.2.2.2.2.2.2.2.2.2.2.2.2.1 6 ((uL.2.2.2.2.2.2.2.2.2.2.2.2.2.2.2.1 6) &&& (((1 : Int32) <<< ((uL.2.2.2.2.2.2.2.2.2.2.2.2.2.2.2.1 1) &&& 31)) ^^^ (-1 : Int32)))) ((9 : Int32) + (uL.2.2.2.2.2.2.2.2.2.2.2.2.2.2.2.1 1)).toNatClampNeg (((upd uL.2.2.2.2.2.2.2.2.2.2.2.2.2.2.2.1 6 ((uL.2.2.2.2.2.2.2.2.2.2.2.2.2.2.2.1 6) &&& (((1 : Int32) <<< ((uL.2.2.2.2.2.2.2.2.2.2.2.2.2.2.2.1 1) &&& 31)) ^^^ (-1 : Int32)))) ((9 : Int32) + (uL.2.2.2.2.2.2.2.2.2.2.2.2.2.2.2.1 1)).toNatClampNeg) + (1 : Int32))) ((21 : Int32) + (uL.2.2.2.2.2.2.2.2.2.2.2.2.2.2.2.1 1)).toNatClampNeg) + (1 : Int32))), uL.2.2.2.2.2.2.2.2.2.2.2.2.2.2.2.2.1, (uL.2.2.2.2.2.2.2.2.2.2.2.2.2.2.2.1 1)))))))
set_option maxHeartbeats 4000000 in
set_option maxRecDepth 100000 in
theorem c_X5_stop (l : Launch) (dC : Nat → ClassId) (dI : Nat → Nat → Nat) (cI cZ : ClassId) (l0 l4 l5 l6 l8 l10 l11 l12 l13 l14 l15 l16 : Nat) (sz : Nat) (uL : tX5) {z : tX5} (hok : p_X5_stop uL = some z) : Met l yX5_stop (Cond.code yX5_stop cX5_stop 3 none :: lw_all) { frames := 3, cells := 0, slots := 0, locals := 65 } (prW (dC, dI) vwCl (TYS cI cZ) ((wX5 cI cZ l0 l4 l5 l6 l8 l10 l11 l12 l13 l14 l15 l16 uL)) sz [.ref l0]) (va_Qv (fun _ : Unit => True) (fun _ t => va_P (dC, dI) vwCl ((wX5 cI cZ l0 l4 l5 l6 l8 l10 l11 l12 l13 l14 l15 l16 z)) t.heap) (va_A ((wX5 cI cZ l0 l4 l5 l6 l8 l10 l11 l12 l13 l14 l15 l16 uL)) sz)) 0 0 (va_A ((wX5 cI cZ l0 l4 l5 l6 l8 l10 l11 l12 l13 l14 l15 l16 uL)) sz) := by
  refine oM (by decide) (Nat.le_of_ble_eq_true rfl) ?_
  intro p e s m args below meth c S hr hlk hnm hB ls hl
  have hx := S.1
  have hb := S.2.1
  have hml := S.2.2.1
  have hown : s.vm.findClass RX5 = some m.cls := S.2.2.2.1
  have hts := S.2.2.2.2
  have S : CallFix p m c cX5_stop 3 s args lw_all RX5 := S
  have hl : lv_has ls 3 [(0, .ref l0)] := hl
  obtain ⟨hsz, hP, hK, hD0⟩ := hB
  subst hsz
  have hD := hD0.self (sz := s.heap.size)
  generalize hAe : va_A ((wX5 cI cZ l0 l4 l5 l6 l8 l10 l11 l12 l13 l14 l15 l16 uL)) s.heap.size = A at hD ⊢
  have hA : ∀ q : Nat, s.heap.size ≤ q → A q := fun q h => by rw [← hAe]; exact Or.inr h
  have hS : va_S A s.heap s.heap [] := va_S.rf
  have hP : va_P (dC, dI) vwCl ((wX5 cI cZ l0 l4 l5 l6 l8 l10 l11 l12 l13 l14 l15 l16 uL)) s.heap := hP
  unfold p_X5_stop at hok
  refine lv_aload_n hx hb dX5_stop_0 rfl (lv_at hl 0 rfl) ?_
  refine va_get (D := (dC, dI)) (ci := 5) (v := .ref l15) (C := RX5) (T := TX5) (N := 18) hx hb hts inX5 hown hK hP 0 rfl rfl 15 (by decide) (hts _ qf_X5_44) (fun _ h9 => h9) rfl dX5_stop_1 ?_
  refine lv_iconst (v := (1 : Int32)) hx hb dX5_stop_4 (by decide) ?_
  refine va_ialdK hx hb hK hP 10 0 rfl rfl (j := 1) (by decide) (vp_inK (by decide)) dX5_stop_5 ?_
  refine lv_istore_n (lv' := [(1, .int (uL.2.2.2.2.2.2.2.2.2.2.2.2.2.2.2.1 1)), (0, .ref l0)]) hx hb dX5_stop_6 rfl hl (by decide) rfl (fun ls hl => ?_)
  refine lv_aload_n hx hb dX5_stop_7 rfl (lv_at hl 1 rfl) ?_
  refine lv_iload_n hx hb dX5_stop_8 rfl (lv_at hl 0 rfl) ?_
  refine va_put (D := (dC, dI)) (ci := 5) (v := .int (uL.2.2.2.2.2.2.2.2.2.2.2.2.2.2.2.1 1)) (ty := .int) (C := RX5) (T := TX5) (N := 18) hx hb hts inX5 tyX5 tyX5_ok nmX5 hown hK hP hD hS 0 rfl rfl 17 (by decide) (hts _ qf_X5_83) (fun _ h9 => h9) rfl (tyX5_ok 17 (by decide)) rfl rfl (Nat.le_of_ble_eq_true rfl) dX5_stop_9 (fun H locs hP _ hS => ?_)
  have hP : va_P (dC, dI) vwCl ((wX5 cI cZ l0 l4 l5 l6 l8 l10 l11 l12 l13 l14 l15 l16 (uL.1, uL.2.1, uL.2.2.1, uL.2.2.2.1, uL.2.2.2.2.1, uL.2.2.2.2.2.1, uL.2.2.2.2.2.2.1, uL.2.2.2.2.2.2.2.1, uL.2.2.2.2.2.2.2.2.1, uL.2.2.2.2.2.2.2.2.2.1, uL.2.2.2.2.2.2.2.2.2.2.1, uL.2.2.2.2.2.2.2.2.2.2.2.1, uL.2.2.2.2.2.2.2.2.2.2.2.2.1, uL.2.2.2.2.2.2.2.2.2.2.2.2.2.1, uL.2.2.2.2.2.2.2.2.2.2.2.2.2.2.1, uL.2.2.2.2.2.2.2.2.2.2.2.2.2.2.2.1, uL.2.2.2.2.2.2.2.2.2.2.2.2.2.2.2.2.1, (uL.2.2.2.2.2.2.2.2.2.2.2.2.2.2.2.1 1)))) H := hP
  have hD : va_D A ((wX5 cI cZ l0 l4 l5 l6 l8 l10 l11 l12 l13 l14 l15 l16 (uL.1, uL.2.1, uL.2.2.1, uL.2.2.2.1, uL.2.2.2.2.1, uL.2.2.2.2.2.1, uL.2.2.2.2.2.2.1, uL.2.2.2.2.2.2.2.1, uL.2.2.2.2.2.2.2.2.1, uL.2.2.2.2.2.2.2.2.2.1, uL.2.2.2.2.2.2.2.2.2.2.1, uL.2.2.2.2.2.2.2.2.2.2.2.1, uL.2.2.2.2.2.2.2.2.2.2.2.2.1, uL.2.2.2.2.2.2.2.2.2.2.2.2.2.1, uL.2.2.2.2.2.2.2.2.2.2.2.2.2.2.1, uL.2.2.2.2.2.2.2.2.2.2.2.2.2.2.2.1, uL.2.2.2.2.2.2.2.2.2.2.2.2.2.2.2.2.1, (uL.2.2.2.2.2.2.2.2.2.2.2.2.2.2.2.1 1)))) := D_L hD
  refine lv_aload_n hx hb dX5_stop_12 rfl (lv_at hl 1 rfl) ?_
  refine va_get (D := (dC, dI)) (ci := 5) (v := .ref l15) (C := RX5) (T := TX5) (N := 18) hx hb hts inX5 hown hK hP 0 rfl rfl 15 (by decide) (hts _ qf_X5_44) (fun _ h9 => h9) rfl dX5_stop_13 ?_
  refine lv_bipush (v := (6 : Int32)) hx hb dX5_stop_16 (by decide) ?_
  refine lv_dup2_11 hx hb dX5_stop_18 rfl rfl ?_
  refine va_ialdK hx hb hK hP 10 0 rfl rfl (j := 6) (by decide) (vp_inK (by decide)) dX5_stop_19 ?_
  refine lv_iconst (v := (1 : Int32)) hx hb dX5_stop_20 (by decide) ?_
  refine lv_iload_n hx hb dX5_stop_21 rfl (lv_at hl 0 rfl) ?_
  refine lv_ishl hx hb dX5_stop_22 ?_
  refine lv_iconst (v := (-1 : Int32)) hx hb dX5_stop_23 (by decide) ?_
  refine lv_ixor hx hb dX5_stop_24 ?_
  refine lv_iand hx hb dX5_stop_25 ?_
  refine va_iastK hx hb hK hP hD hS 10 0 rfl rfl (j := 6) (by decide) (vp_inK (by decide)) dX5_stop_26 (fun H locs hP _ hS => ?_)
  have hP : va_P (dC, dI) vwCl ((wX5 cI cZ l0 l4 l5 l6 l8 l10 l11 l12 l13 l14 l15 l16 (uL.1, uL.2.1, uL.2.2.1, uL.2.2.2.1, uL.2.2.2.2.1, uL.2.2.2.2.2.1, uL.2.2.2.2.2.2.1, uL.2.2.2.2.2.2.2.1, uL.2.2.2.2.2.2.2.2.1, uL.2.2.2.2.2.2.2.2.2.1, uL.2.2.2.2.2.2.2.2.2.2.1, uL.2.2.2.2.2.2.2.2.2.2.2.1, uL.2.2.2.2.2.2.2.2.2.2.2.2.1, uL.2.2.2.2.2.2.2.2.2.2.2.2.2.1, uL.2.2.2.2.2.2.2.2.2.2.2.2.2.2.1, (upd uL.2.2.2.2.2.2.2.2.2.2.2.2.2.2.2.1 6 ((uL.2.2.2.2.2.2.2.2.2.2.2.2.2.2.2.1 6) &&& (((1 : Int32) <<< ((uL.2.2.2.2.2.2.2.2.2.2.2.2.2.2.2.1 1) &&& 31)) ^^^ (-1 : Int32)))), uL.2.2.2.2.2.2.2.2.2.2.2.2.2.2.2.2.1, (uL.2.2.2.2.2.2.2.2.2.2.2.2.2.2.2.1 1)))) H := hP
  have hD : va_D A ((wX5 cI cZ l0 l4 l5 l6 l8 l10 l11 l12 l13 l14 l15 l16 (uL.1, uL.2.1, uL.2.2.1, uL.2.2.2.1, uL.2.2.2.2.1, uL.2.2.2.2.2.1, uL.2.2.2.2.2.2.1, uL.2.2.2.2.2.2.2.1, uL.2.2.2.2.2.2.2.2.1, uL.2.2.2.2.2.2.2.2.2.1, uL.2.2.2.2.2.2.2.2.2.2.1, uL.2.2.2.2.2.2.2.2.2.2.2.1, uL.2.2.2.2.2.2.2.2.2.2.2.2.1, uL.2.2.2.2.2.2.2.2.2.2.2.2.2.1, uL.2.2.2.2.2.2.2.2.2.2.2.2.2.2.1, (upd uL.2.2.2.2.2.2.2.2.2.2.2.2.2.2.2.1 6 ((uL.2.2.2.2.2.2.2.2.2.2.2.2.2.2.2.1 6) &&& (((1 : Int32) <<< ((uL.2.2.2.2.2.2.2.2.2.2.2.2.2.2.2.1 1) &&& 31)) ^^^ (-1 : Int32)))), uL.2.2.2.2.2.2.2.2.2.2.2.2.2.2.2.2.1, (uL.2.2.2.2.2.2.2.2.2.2.2.2.2.2.2.1 1)))) := D_L hD
  refine lv_aload_n hx hb dX5_stop_27 rfl (lv_at hl 1 rfl) ?_
  refine va_get (D := (dC, dI)) (ci := 5) (v := .ref l15) (C := RX5) (T := TX5) (N := 18) hx hb hts inX5 hown hK hP 0 rfl rfl 15 (by decide) (hts _ qf_X5_44) (fun _ h9 => h9) rfl dX5_stop_28 ?_
  refine lv_bipush (v := (9 : Int32)) hx hb dX5_stop_31 (by decide) ?_
  refine lv_iload_n hx hb dX5_stop_33 rfl (lv_at hl 0 rfl) ?_
  refine lv_iadd hx hb dX5_stop_34 ?_
  obtain ⟨hi1, hok⟩ := gd_some hok
  refine va_iald hx hb hK hP 10 0 rfl rfl hi1 dX5_stop_35 ?_
  refine lv_aload_n hx hb dX5_stop_36 rfl (lv_at hl 1 rfl) ?_
  refine va_get (D := (dC, dI)) (ci := 5) (v := .ref l4) (C := RX5) (T := TX5) (N := 18) hx hb hts inX5 hown hK hP 0 rfl rfl 4 (by decide) (hts _ qf_X5_16) (fun _ h9 => h9) rfl dX5_stop_37 ?_
  refine lv_iload_n hx hb dX5_stop_40 rfl (lv_at hl 0 rfl) ?_
  obtain ⟨hi2, hok⟩ := gd_some hok
  refine va_iald hx hb hK hP 1 0 rfl rfl hi2 dX5_stop_41 ?_
  refine lv_icmp_ne (tgt := 46) hx hb dX5_stop_42 (by decide) (fun hc => ?_) (fun hc => ?_)
  · have hok := iq hok hc
    refine lv_bipush (v := (9 : Int32)) hx hb dX5_stop_46 (by decide) ?_
    refine lv_iload_n hx hb dX5_stop_48 rfl (lv_at hl 0 rfl) ?_
    refine lv_imul hx hb dX5_stop_49 ?_
    refine lv_aload_n hx hb dX5_stop_50 rfl (lv_at hl 1 rfl) ?_
    refine va_get (D := (dC, dI)) (ci := 5) (v := .ref l15) (C := RX5) (T := TX5) (N := 18) hx hb hts inX5 hown hK hP 0 rfl rfl 15 (by decide) (hts _ qf_X5_44) (fun _ h9 => h9) rfl dX5_stop_51 ?_
    refine lv_bipush (v := (9 : Int32)) hx hb dX5_stop_54 (by decide) ?_
    refine lv_iload_n hx hb dX5_stop_56 rfl (lv_at hl 0 rfl) ?_
    refine lv_iadd hx hb dX5_stop_57 ?_
    refine va_iald hx hb hK hP 10 0 rfl rfl hi1 dX5_stop_58 ?_
    refine lv_iadd hx hb dX5_stop_59 ?_
    refine lv_istore_n (lv' := [(2, .int (((9 : Int32) * (uL.2.2.2.2.2.2.2.2.2.2.2.2.2.2.2.1 1)) + ((upd uL.2.2.2.2.2.2.2.2.2.2.2.2.2.2.2.1 6 ((uL.2.2.2.2.2.2.2.2.2.2.2.2.2.2.2.1 6) &&& (((1 : Int32) <<< ((uL.2.2.2.2.2.2.2.2.2.2.2.2.2.2.2.1 1) &&& 31)) ^^^ (-1 : Int32)))) ((9 : Int32) + (uL.2.2.2.2.2.2.2.2.2.2.2.2.2.2.2.1 1)).toNatClampNeg))), (1, .int (uL.2.2.2.2.2.2.2.2.2.2.2.2.2.2.2.1 1)), (0, .ref l0)]) hx hb dX5_stop_60 rfl hl (by decide) rfl (fun ls hl => ?_)
    refine lv_aload_n hx hb dX5_stop_61 rfl (lv_at hl 2 rfl) ?_
    refine va_get (D := (dC, dI)) (ci := 5) (v := .ref l15) (C := RX5) (T := TX5) (N := 18) hx hb hts inX5 hown hK hP 0 rfl rfl 15 (by decide) (hts _ qf_X5_44) (fun _ h9 => h9) rfl dX5_stop_62 ?_
    refine lv_bipush (v := (9 : Int32)) hx hb dX5_stop_65 (by decide) ?_
    refine lv_iload_n hx hb dX5_stop_67 rfl (lv_at hl 1 rfl) ?_
    refine lv_iadd hx hb dX5_stop_68 ?_
    refine lv_dup2_11 hx hb dX5_stop_69 rfl rfl ?_
    refine va_iald hx hb hK hP 10 0 rfl rfl hi1 dX5_stop_70 ?_
    refine lv_iconst (v := (1 : Int32)) hx hb dX5_stop_71 (by decide) ?_
    refine lv_iadd hx hb dX5_stop_72 ?_
    refine va_iast hx hb hK hP hD hS 10 0 rfl rfl hi1 dX5_stop_73 (fun H locs hP _ hS => ?_)
    have hP : va_P (dC, dI) vwCl ((wX5 cI cZ l0 l4 l5 l6 l8 l10 l11 l12 l13 l14 l15 l16 (uL.1, uL.2.1, uL.2.2.1, uL.2.2.2.1, uL.2.2.2.2.1, uL.2.2.2.2.2.1, uL.2.2.2.2.2.2.1, uL.2.2.2.2.2.2.2.1, uL.2.2.2.2.2.2.2.2.1, uL.2.2.2.2.2.2.2.2.2.1, uL.2.2.2.2.2.2.2.2.2.2.1, uL.2.2.2.2.2.2.2.2.2.2.2.1, uL.2.2.2.2.2.2.2.2.2.2.2.2.1, uL.2.2.2.2.2.2.2.2.2.2.2.2.2.1, uL.2.2.2.2.2.2.2.2.2.2.2.2.2.2.1, (upd (upd uL.2.2.2.2.2.2.2.2.2.2.2.2.2.2.2.1 6 ((uL.2.2.2.2.2.2.2.2.2.2.2.2.2.2.2.1 6) &&& (((1 : Int32) <<< ((uL.2.2.2.2.2.2.2.2.2.2.2.2.2.2.2.1 1) &&& 31)) ^^^ (-1 : Int32)))) ((9 : Int32) + (uL.2.2.2.2.2.2.2.2.2.2.2.2.2.2.2.1 1)).toNatClampNeg (((upd uL.2.2.2.2.2.2.2.2.2.2.2.2.2.2.2.1 6 ((uL.2.2.2.2.2.2.2.2.2.2.2.2.2.2.2.1 6) &&& (((1 : Int32) <<< ((uL.2.2.2.2.2.2.2.2.2.2.2.2.2.2.2.1 1) &&& 31)) ^^^ (-1 : Int32)))) ((9 : Int32) + (uL.2.2.2.2.2.2.2.2.2.2.2.2.2.2.2.1 1)).toNatClampNeg) + (1 : Int32))), uL.2.2.2.2.2.2.2.2.2.2.2.2.2.2.2.2.1, (uL.2.2.2.2.2.2.2.2.2.2.2.2.2.2.2.1 1)))) H := hP
    have hD : va_D A ((wX5 cI cZ l0 l4 l5 l6 l8 l10 l11 l12 l13 l14 l15 l16 (uL.1, uL.2.1, uL.2.2.1, uL.2.2.2.1, uL.2.2.2.2.1, uL.2.2.2.2.2.1, uL.2.2.2.2.2.2.1, uL.2.2.2.2.2.2.2.1, uL.2.2.2.2.2.2.2.2.1, uL.2.2.2.2.2.2.2.2.2.1, uL.2.2.2.2.2.2.2.2.2.2.1, uL.2.2.2.2.2.2.2.2.2.2.2.1, uL.2.2.2.2.2.2.2.2.2.2.2.2.1, uL.2.2.2.2.2.2.2.2.2.2.2.2.2.1, uL.2.2.2.2.2.2.2.2.2.2.2.2.2.2.1, (upd (upd uL.2.2.2.2.2.2.2.2.2.2.2.2.2.2.2.1 6 ((uL.2.2.2.2.2.2.2.2.2.2.2.2.2.2.2.1 6) &&& (((1 : Int32) <<< ((uL.2.2.2.2.2.2.2.2.2.2.2.2.2.2.2.1 1) &&& 31)) ^^^ (-1 : Int32)))) ((9 : Int32) + (uL.2.2.2.2.2.2.2.2.2.2.2.2.2.2.2.1 1)).toNatClampNeg (((upd uL.2.2.2.2.2.2.2.2.2.2.2.2.2.2.2.1 6 ((uL.2.2.2.2.2.2.2.2.2.2.2.2.2.2.2.1 6) &&& (((1 : Int32) <<< ((uL.2.2.2.2.2.2.2.2.2.2.2.2.2.2.2.1 1) &&& 31)) ^^^ (-1 : Int32)))) ((9 : Int32) + (uL.2.2.2.2.2.2.2.2.2.2.2.2.2.2.2.1 1)).toNatClampNeg) + (1 : Int32))), uL.2.2.2.2.2.2.2.2.2.2.2.2.2.2.2.2.1, (uL.2.2.2.2.2.2.2.2.2.2.2.2.2.2.2.1 1)))) := D_L hD
    refine lv_aload_n hx hb dX5_stop_74 rfl (lv_at hl 2 rfl) ?_
    refine va_get (D := (dC, dI)) (ci := 5) (v := .int uL.2.2.2.1) (C := RX5) (T := TX5) (N := 18) hx hb hts inX5 hown hK hP 0 rfl rfl 3 (by decide) (hts _ qf_X5_86) (fun _ h9 => h9) rfl dX5_stop_75 ?_
    refine lv_aload_n hx hb dX5_stop_78 rfl (lv_at hl 2 rfl) ?_
    refine va_get (D := (dC, dI)) (ci := 5) (v := .ref l5) (C := RX5) (T := TX5) (N := 18) hx hb hts inX5 hown hK hP 0 rfl rfl 5 (by decide) (hts _ qf_X5_20) (fun _ h9 => h9) rfl dX5_stop_79 ?_
    refine lv_iload_n hx hb dX5_stop_82 rfl (lv_at hl 0 rfl) ?_
    obtain ⟨hi3, hok⟩ := gd_some hok
    refine va_iald hx hb hK hP 2 0 rfl rfl hi3 dX5_stop_83 ?_
    obtain ⟨v4, hc4, hok⟩ := bd_some hok
    refine cRSi [.int uL.2.2.2.1, .int (uL.2.2.2.2.2.1 (((9 : Int32) * (uL.2.2.2.2.2.2.2.2.2.2.2.2.2.2.2.1 1)) + ((upd uL.2.2.2.2.2.2.2.2.2.2.2.2.2.2.2.1 6 ((uL.2.2.2.2.2.2.2.2.2.2.2.2.2.2.2.1 6) &&& (((1 : Int32) <<< ((uL.2.2.2.2.2.2.2.2.2.2.2.2.2.2.2.1 1) &&& 31)) ^^^ (-1 : Int32)))) ((9 : Int32) + (uL.2.2.2.2.2.2.2.2.2.2.2.2.2.2.2.1 1)).toNatClampNeg)).toNatClampNeg)] S hK va_Pnil (c_X5_has l dC dI cI cZ uL.2.2.2.1 (uL.2.2.2.2.2.1 (((9 : Int32) * (uL.2.2.2.2.2.2.2.2.2.2.2.2.2.2.2.1 1)) + ((upd uL.2.2.2.2.2.2.2.2.2.2.2.2.2.2.2.1 6 ((uL.2.2.2.2.2.2.2.2.2.2.2.2.2.2.2.1 6) &&& (((1 : Int32) <<< ((uL.2.2.2.2.2.2.2.2.2.2.2.2.2.2.2.1 1) &&& 31)) ^^^ (-1 : Int32)))) ((9 : Int32) + (uL.2.2.2.2.2.2.2.2.2.2.2.2.2.2.2.1 1)).toNatClampNeg)).toNatClampNeg) hc4) (lw_S qm_X5_69 qt_X5_has qn_X5 qc_X5_has) hd_X5_has ⟨rfl, rfl⟩ ⟨Nat.le_of_ble_eq_true rfl, Nat.le_of_ble_eq_true rfl⟩ ⟨Nat.le_of_ble_eq_true rfl, Nat.le_of_ble_eq_true rfl⟩ rfl hl.1 (Nat.le_of_ble_eq_true rfl) rfl dX5_stop_84 ?_
    refine lv_if_eq (tgt := 106) hx hb dX5_stop_87 (by decide) (fun hc => ?_) (fun hc => ?_)
    · have hok := ip hok hc
      refine lv_aload_n hx hb dX5_stop_106 rfl (lv_at hl 2 rfl) ?_
      refine lv_iload_n hx hb dX5_stop_107 rfl (lv_at hl 0 rfl) ?_
      obtain ⟨v5, hc5, hok⟩ := bd_some hok
      refine cWVv (ci := 5) (q0 := 0) [.int (((9 : Int32) * (uL.2.2.2.2.2.2.2.2.2.2.2.2.2.2.2.1 1)) + ((upd uL.2.2.2.2.2.2.2.2.2.2.2.2.2.2.2.1 6 ((uL.2.2.2.2.2.2.2.2.2.2.2.2.2.2.2.1 6) &&& (((1 : Int32) <<< ((uL.2.2.2.2.2.2.2.2.2.2.2.2.2.2.2.1 1) &&& 31)) ^^^ (-1 : Int32)))) ((9 : Int32) + (uL.2.2.2.2.2.2.2.2.2.2.2.2.2.2.2.1 1)).toNatClampNeg))] S hK hP hD hS hA (c_X5_print l dC dI cI cZ l0 l4 l5 l6 l8 l10 l11 l12 l13 l14 l15 l16 _ (uL.1, uL.2.1, uL.2.2.1, uL.2.2.2.1, uL.2.2.2.2.1, uL.2.2.2.2.2.1, uL.2.2.2.2.2.2.1, uL.2.2.2.2.2.2.2.1, uL.2.2.2.2.2.2.2.2.1, uL.2.2.2.2.2.2.2.2.2.1, uL.2.2.2.2.2.2.2.2.2.2.1, uL.2.2.2.2.2.2.2.2.2.2.2.1, uL.2.2.2.2.2.2.2.2.2.2.2.2.1, uL.2.2.2.2.2.2.2.2.2.2.2.2.2.1, uL.2.2.2.2.2.2.2.2.2.2.2.2.2.2.1, (upd (upd uL.2.2.2.2.2.2.2.2.2.2.2.2.2.2.2.1 6 ((uL.2.2.2.2.2.2.2.2.2.2.2.2.2.2.2.1 6) &&& (((1 : Int32) <<< ((uL.2.2.2.2.2.2.2.2.2.2.2.2.2.2.2.1 1) &&& 31)) ^^^ (-1 : Int32)))) ((9 : Int32) + (uL.2.2.2.2.2.2.2.2.2.2.2.2.2.2.2.1 1)).toNatClampNeg (((upd uL.2.2.2.2.2.2.2.2.2.2.2.2.2.2.2.1 6 ((uL.2.2.2.2.2.2.2.2.2.2.2.2.2.2.2.1 6) &&& (((1 : Int32) <<< ((uL.2.2.2.2.2.2.2.2.2.2.2.2.2.2.2.1 1) &&& 31)) ^^^ (-1 : Int32)))) ((9 : Int32) + (uL.2.2.2.2.2.2.2.2.2.2.2.2.2.2.2.1 1)).toNatClampNeg) + (1 : Int32))), uL.2.2.2.2.2.2.2.2.2.2.2.2.2.2.2.2.1, (uL.2.2.2.2.2.2.2.2.2.2.2.2.2.2.2.1 1)) (((9 : Int32) * (uL.2.2.2.2.2.2.2.2.2.2.2.2.2.2.2.1 1)) + ((upd uL.2.2.2.2.2.2.2.2.2.2.2.2.2.2.2.1 6 ((uL.2.2.2.2.2.2.2.2.2.2.2.2.2.2.2.1 6) &&& (((1 : Int32) <<< ((uL.2.2.2.2.2.2.2.2.2.2.2.2.2.2.2.1 1) &&& 31)) ^^^ (-1 : Int32)))) ((9 : Int32) + (uL.2.2.2.2.2.2.2.2.2.2.2.2.2.2.2.1 1)).toNatClampNeg)) hc5) (lw_V qm_X5_89 qi_X5_print qs_X5_print qn_X5 qc_X5_print) hd_X5_print ⟨rfl, rfl⟩ ⟨Nat.le_of_ble_eq_true rfl, Nat.le_of_ble_eq_true rfl⟩ ⟨Nat.le_of_ble_eq_true rfl, Nat.le_of_ble_eq_true rfl⟩ rfl rfl rfl hl.1 (Nat.le_of_ble_eq_true rfl) rfl dX5_stop_108 (D_L hD) (fun H locs hP hD hS => ?_)
      have hok := Option.some.inj hok
      subst hok
      exact eWv S hr hlk hP hS (Nat.le_of_ble_eq_true rfl) (Nat.le_of_ble_eq_true rfl) dX5_stop_111
    · have hok := iq hok hc
      refine lv_aload_n hx hb dX5_stop_90 rfl (lv_at hl 2 rfl) ?_
      refine va_get (D := (dC, dI)) (ci := 5) (v := .ref l15) (C := RX5) (T := TX5) (N := 18) hx hb hts inX5 hown hK hP 0 rfl rfl 15 (by decide) (hts _ qf_X5_44) (fun _ h9 => h9) rfl dX5_stop_91 ?_
      refine lv_bipush (v := (21 : Int32)) hx hb dX5_stop_94 (by decide) ?_
      refine lv_iload_n hx hb dX5_stop_96 rfl (lv_at hl 1 rfl) ?_
      refine lv_iadd hx hb dX5_stop_97 ?_
      refine lv_dup2_11 hx hb dX5_stop_98 rfl rfl ?_
      obtain ⟨hi6, hok⟩ := gd_some hok
      refine va_iald hx hb hK hP 10 0 rfl rfl hi6 dX5_stop_99 ?_
      refine lv_iconst (v := (1 : Int32)) hx hb dX5_stop_100 (by decide) ?_
      refine lv_iadd hx hb dX5_stop_101 ?_
      refine va_iast hx hb hK hP hD hS 10 0 rfl rfl hi6 dX5_stop_102 (fun H locs hP _ hS => ?_)
      have hP : va_P (dC, dI) vwCl ((wX5 cI cZ l0 l4 l5 l6 l8 l10 l11 l12 l13 l14 l15 l16 (uL.1, uL.2.1, uL.2.2.1, uL.2.2.2.1, uL.2.2.2.2.1, uL.2.2.2.2.2.1, uL.2.2.2.2.2.2.1, uL.2.2.2.2.2.2.2.1, uL.2.2.2.2.2.2.2.2.1, uL.2.2.2.2.2.2.2.2.2.1, uL.2.2.2.2.2.2.2.2.2.2.1, uL.2.2.2.2.2.2.2.2.2.2.2.1, uL.2.2.2.2.2.2.2.2.2.2.2.2.1, uL.2.2.2.2.2.2.2.2.2.2.2.2.2.1, uL.2.2.2.2.2.2.2.2.2.2.2.2.2.2.1, (upd (upd (upd uL.2.2.2.2.2.2.2.2.2.2.2.2.2.2.2.1 6 ((uL.2.2.2.2.2.2.2.2.2.2.2.2.2.2.2.1 6) &&& (((1 : Int32) <<< ((uL.2.2.2.2.2.2.2.2.2.2.2.2.2.2.2.1 1) &&& 31)) ^^^ (-1 : Int32)))) ((9 : Int32) + (uL.2.2.2.2.2.2.2.2.2.2.2.2.2.2.2.1 1)).toNatClampNeg (((upd uL.2.2.2.2.2.2.2.2.2.2.2.2.2.2.2.1 6 ((uL.2.2.2.2.2.2.2.2.2.2.2.2.2.2.2.1 6) &&& (((1 : Int32) <<< ((uL.2.2.2.2.2.2.2.2.2.2.2.2.2.2.2.1 1) &&& 31)) ^^^ (-1 : Int32)))) ((9 : Int32) + (uL.2.2.2.2.2.2.2.2.2.2.2.2.2.2.2.1 1)).toNatClampNeg) + (1 : Int32))) ((21 : Int32) + (uL.2.2.2.2.2.2.2.2.2.2.2.2.2.2.2.1 1)).toNatClampNeg (((upd (upd uL.2.2.2.2.2.2.2.2.2.2.2.2.2.2.2.1 6 ((uL.2.2.2.2.2.2.2.2.2.2.2.2.2.2.2.1 6) &&& (((1 : Int32) <<< ((uL.2.2.2.2.2.2.2.2.2.2.2.2.2.2.2.1 1) &&& 31)) ^^^ (-1 : Int32)))) ((9 : Int32) + (uL.2.2.2.2.2.2.2.2.2.2.2.2.2.2.2.1 1)).toNatClampNeg (((upd uL.2.2.2.2.2.2.2.2.2.2.2.2.2.2.2.1 6 ((uL.2.2.2.2.2.2.2.2.2.2.2.2.2.2.2.1 6) &&& (((1 : Int32) <<< ((uL.2.2.2.2.2.2.2.2.2.2.2.2.2.2.2.1 1) &&& 31)) ^^^ (-1 : Int32)))) ((9 : Int32) + (uL.2.2.2.2.2.2.2.2.2.2.2.2.2.2.2.1 1)).toNatClampNeg) + (1 : Int32))) ((21 : Int32) + (uL.2.2.2.2.2.2.2.2.2.2.2.2.2.2.2.1 1)).toNatClampNeg) + (1 : Int32))), uL.2.2.2.2.2.2.2.2.2.2.2.2.2.2.2.2.1, (uL.2.2.2.2.2.2.2.2.2.2.2.2.2.2.2.1 1)))) H := hP
      have hD : va_D A ((wX5 cI cZ l0 l4 l5 l6 l8 l10 l11 l12 l13 l14 l15 l16 (uL.1, uL.2.1, uL.2.2.1, uL.2.2.2.1, uL.2.2.2.2.1, uL.2.2.2.2.2.1, uL.2.2.2.2.2.2.1, uL.2.2.2.2.2.2.2.1, uL.2.2.2.2.2.2.2.2.1, uL.2.2.2.2.2.2.2.2.2.1, uL.2.2.2.2.2.2.2.2.2.2.1, uL.2.2.2.2.2.2.2.2.2.2.2.1, uL.2.2.2.2.2.2.2.2.2.2.2.2.1, uL.2.2.2.2.2.2.2.2.2.2.2.2.2.1, uL.2.2.2.2.2.2.2.2.2.2.2.2.2.2.1, (upd (upd (upd uL.2.2.2.2.2.2.2.2.2.2.2.2.2.2.2.1 6 ((uL.2.2.2.2.2.2.2.2.2.2.2.2.2.2.2.1 6) &&& (((1 : Int32) <<< ((uL.2.2.2.2.2.2.2.2.2.2.2.2.2.2.2.1 1) &&& 31)) ^^^ (-1 : Int32)))) ((9 : Int32) + (uL.2.2.2.2.2.2.2.2.2.2.2.2.2.2.2.1 1)).toNatClampNeg (((upd uL.2.2.2.2.2.2.2.2.2.2.2.2.2.2.2.1 6 ((uL.2.2.2.2.2.2.2.2.2.2.2.2.2.2.2.1 6) &&& (((1 : Int32) <<< ((uL.2.2.2.2.2.2.2.2.2.2.2.2.2.2.2.1 1) &&& 31)) ^^^ (-1 : Int32)))) ((9 : Int32) + (uL.2.2.2.2.2.2.2.2.2.2.2.2.2.2.2.1 1)).toNatClampNeg) + (1 : Int32))) ((21 : Int32) + (uL.2.2.2.2.2.2.2.2.2.2.2.2.2.2.2.1 1)).toNatClampNeg (((upd (upd uL.2.2.2.2.2.2.2.2.2.2.2.2.2.2.2.1 6 ((uL.2.2.2.2.2.2.2.2.2.2.2.2.2.2.2.1 6) &&& (((1 : Int32) <<< ((uL.2.2.2.2.2.2.2.2.2.2.2.2.2.2.2.1 1) &&& 31)) ^^^ (-1 : Int32)))) ((9 : Int32) + (uL.2.2.2.2.2.2.2.2.2.2.2.2.2.2.2.1 1)).toNatClampNeg (((upd uL.2.2.2.2.2.2.2.2.2.2.2.2.2.2.2.1 6 ((uL.2.2.2.2.2.2.2.2.2.2.2.2.2.2.2.1 6) &&& (((1 : Int32) <<< ((uL.2.2.2.2.2.2.2.2.2.2.2.2.2.2.2.1 1) &&& 31)) ^^^ (-1 : Int32)))) ((9 : Int32) + (uL.2.2.2.2.2.2.2.2.2.2.2.2.2.2.2.1 1)).toNatClampNeg) + (1 : Int32))) ((21 : Int32) + (uL.2.2.2.2.2.2.2.2.2.2.2.2.2.2.2.1 1)).toNatClampNeg) + (1 : Int32))), uL.2.2.2.2.2.2.2.2.2.2.2.2.2.2.2.2.1, (uL.2.2.2.2.2.2.2.2.2.2.2.2.2.2.2.1 1)))) := D_L hD
      refine lv_goto (tgt := 111) hx hb dX5_stop_103 (by decide) ?_
      have hok := Option.some.inj hok
      subst hok
      exact eWv S hr hlk hP hS (Nat.le_of_ble_eq_true rfl) (Nat.le_of_ble_eq_true rfl) dX5_stop_111
  · have hok := ip hok hc
    have hok := Option.some.inj hok
    subst hok
    exact eWv S hr hlk hP hS (Nat.le_of_ble_eq_true rfl) (Nat.le_of_ble_eq_true rfl) dX5_stop_45
theorem hd_X5_isWay : yX5_isWay.cls = RX5 ∧ yX5_isWay.cls ≠ "java/lang/invoke/MethodHandle" ∧ yX5_isWay.cls ≠ "java/lang/invoke/VarHandle" ∧ (parseMethodDescriptor yX5_isWay.desc).map (fun d => d.parameters.length) = some 1 := by decide +kernel
def p_X5_isWay_L9 : Nat → tX5 → Int32 → Int32 → Option Int32
  | 0, _, _, _ => none
  | n + 1, uL, l9_1, l9_2 =>
    bd (p_X5_isFloor uL l9_2) (fun v1 =>
    if v1 = 0 then
      some (0 : Int32)
    else
      if l9_1 = 0 then
        some (0 : Int32)
      else
        bd (p_X5_has (uL.2.2.2.2.2.2.2.2.2.2.2.2.2.2.2.1 6) l9_2) (fun v2 =>
        if v2 = 0 then
          (p_X5_isWay_L9 n) uL l9_1 (l9_2 + l9_1)
        else
          some (1 : Int32)))
def p_X5_isWay (uL : tX5) (a1 : Int32) : Option Int32 :=
  p_X5_isWay_L9 200 uL a1 ((uL.2.2.2.2.2.2.2.2.2.2.2.2.2.2.2.1 1) + a1)
set_option maxHeartbeats 4000000 in
set_option maxRecDepth 100000 in
theorem c_X5_isWay (l : Launch) (dC : Nat → ClassId) (dI : Nat → Nat → Nat) (cI cZ : ClassId) (l0 l4 l5 l6 l8 l10 l11 l12 l13 l14 l15 l16 : Nat) (uL : tX5) (a1 : Int32) {z : Int32} (hok : p_X5_isWay uL a1 = some z) : Met l yX5_isWay (Cond.code yX5_isWay cX5_isWay 3 (some .boolean) :: lw_all) { frames := 2, cells := 0, slots := 0, locals := 43 } (prR (dC, dI) vwCl (TYS cI cZ) ((wX5 cI cZ l0 l4 l5 l6 l8 l10 l11 l12 l13 l14 l15 l16 uL)) [.ref l0, .int a1]) (vp_Si (fun r => r = z)) 0 0 (fun _ => False) := by
  refine oM (by decide) (Nat.le_of_ble_eq_true rfl) ?_
  intro p e s m args below meth c S hr hlk hnm hB ls hl
  have hx := S.1
  have hb := S.2.1
  have hml := S.2.2.1
  have hown : s.vm.findClass RX5 = some m.cls := S.2.2.2.1
  have hts := S.2.2.2.2
  have S : CallFix p m c cX5_isWay 3 s args lw_all RX5 := S
  have hl : lv_has ls 3 [(0, .ref l0), (1, .int a1)] := hl
  obtain ⟨hP, hK⟩ := hB
  have hP : va_P (dC, dI) vwCl ((wX5 cI cZ l0 l4 l5 l6 l8 l10 l11 l12 l13 l14 l15 l16 uL)) s.heap := hP
  have L9 : ∀ n9 : Nat, ∀ (l9_1 : Int32) (l9_2 : Int32) (ls : Array Slot) (hl : lv_has ls 3 [(0, .ref l0), (1, .int l9_1), (2, .int l9_2)]) (hok : p_X5_isWay_L9 n9 uL l9_1 l9_2 = some z), W p l e { frames := 2, cells := 0, slots := 0, locals := 43 } s m args below meth c s.heap [] 0 0 (MQ below (vp_Si (fun r => r = z)) args s 0 0 (fun _ => False)) (F0 m 9 ls []) := by
    intro n9
    induction n9 with
    | zero =>
      intro l9_1 l9_2 ls hl hok
      rw [p_X5_isWay_L9] at hok
      cases hok
    | succ n9 ih9 =>
      intro l9_1 l9_2 ls hl hok
      rw [p_X5_isWay_L9] at hok
      refine lv_aload_n hx hb dX5_isWay_9 rfl (lv_at hl 0 rfl) ?_
      refine lv_iload_n hx hb dX5_isWay_10 rfl (lv_at hl 2 rfl) ?_
      obtain ⟨v1, hc1, hok⟩ := bd_some hok
      refine cRVi (ci := 5) (q0 := 0) [.int l9_2] S hK hP (c_X5_isFloor l dC dI cI cZ l0 l4 l5 l6 l8 l10 l11 l12 l13 l14 l15 l16 uL l9_2 hc1) (lw_V qm_X5_93 qi_X5_isFloor qs_X5_isFloor qn_X5 qc_X5_isFloor) hd_X5_isFloor ⟨rfl, rfl⟩ ⟨Nat.le_of_ble_eq_true rfl, Nat.le_of_ble_eq_true rfl⟩ ⟨Nat.le_of_ble_eq_true rfl, Nat.le_of_ble_eq_true rfl⟩ rfl rfl rfl hl.1 (Nat.le_of_ble_eq_true rfl) rfl dX5_isWay_11 ?_
      refine lv_if_eq (tgt := 44) hx hb dX5_isWay_14 (by decide) (fun hc => ?_) (fun hc => ?_)
      · have hok := ip hok hc
        refine lv_iconst (v := (0 : Int32)) hx hb dX5_isWay_44 (by decide) ?_
        exact eRz S hr hlk (by decide) (Option.some.inj hok) dX5_isWay_45
      · have hok := iq hok hc
        refine lv_iload_n hx hb dX5_isWay_17 rfl (lv_at hl 1 rfl) ?_
        refine lv_if_eq (tgt := 44) hx hb dX5_isWay_18 (by decide) (fun hc => ?_) (fun hc => ?_)
        · have hok := ip hok hc
          refine lv_iconst (v := (0 : Int32)) hx hb dX5_isWay_44 (by decide) ?_
          exact eRz S hr hlk (by decide) (Option.some.inj hok) dX5_isWay_45
        · have hok := iq hok hc
          refine lv_aload_n hx hb dX5_isWay_21 rfl (lv_at hl 0 rfl) ?_
          refine va_get (D := (dC, dI)) (ci := 5) (v := .ref l15) (C := RX5) (T := TX5) (N := 18) hx hb hts inX5 hown hK hP 0 rfl rfl 15 (by decide) (hts _ qf_X5_44) (fun _ h9 => h9) rfl dX5_isWay_22 ?_
          refine lv_bipush (v := (6 : Int32)) hx hb dX5_isWay_25 (by decide) ?_
          refine va_ialdK hx hb hK hP 10 0 rfl rfl (j := 6) (by decide) (vp_inK (by decide)) dX5_isWay_27 ?_
          refine lv_iload_n hx hb dX5_isWay_28 rfl (lv_at hl 2 rfl) ?_
          obtain ⟨v2, hc2, hok⟩ := bd_some hok
          refine cRSi [.int (uL.2.2.2.2.2.2.2.2.2.2.2.2.2.2.2.1 6), .int l9_2] S hK va_Pnil (c_X5_has l dC dI cI cZ (uL.2.2.2.2.2.2.2.2.2.2.2.2.2.2.2.1 6) l9_2 hc2) (lw_S qm_X5_69 qt_X5_has qn_X5 qc_X5_has) hd_X5_has ⟨rfl, rfl⟩ ⟨Nat.le_of_ble_eq_true rfl, Nat.le_of_ble_eq_true rfl⟩ ⟨Nat.le_of_ble_eq_true rfl, Nat.le_of_ble_eq_true rfl⟩ rfl hl.1 (Nat.le_of_ble_eq_true rfl) rfl dX5_isWay_29 ?_
          refine lv_if_eq (tgt := 37) hx hb dX5_isWay_32 (by decide) (fun hc => ?_) (fun hc => ?_)
          · have hok := ip hok hc
            refine lv_iload_n hx hb dX5_isWay_37 rfl (lv_at hl 2 rfl) ?_
            refine lv_iload_n hx hb dX5_isWay_38 rfl (lv_at hl 1 rfl) ?_
            refine lv_iadd hx hb dX5_isWay_39 ?_
            refine lv_istore_n (lv' := [(2, .int (l9_2 + l9_1)), (0, .ref l0), (1, .int l9_1)]) hx hb dX5_isWay_40 rfl hl (by decide) rfl (fun ls hl => ?_)
            refine lv_goto (tgt := 9) hx hb dX5_isWay_41 (by decide) ?_
            exact ih9 l9_1 (l9_2 + l9_1) _ (lv_sub hl [1, 2, 0] rfl) hok
          · have hok := iq hok hc
            refine lv_iconst (v := (1 : Int32)) hx hb dX5_isWay_35 (by decide) ?_
            exact eRz S hr hlk (by decide) (Option.some.inj hok) dX5_isWay_36
  unfold p_X5_isWay at hok
  refine lv_aload_n hx hb dX5_isWay_0 rfl (lv_at hl 0 rfl) ?_
  refine va_get (D := (dC, dI)) (ci := 5) (v := .ref l15) (C := RX5) (T := TX5) (N := 18) hx hb hts inX5 hown hK hP 0 rfl rfl 15 (by decide) (hts _ qf_X5_44) (fun _ h9 => h9) rfl dX5_isWay_1 ?_
  refine lv_iconst (v := (1 : Int32)) hx hb dX5_isWay_4 (by decide) ?_
  refine va_ialdK hx hb hK hP 10 0 rfl rfl (j := 1) (by decide) (vp_inK (by decide)) dX5_isWay_5 ?_
  refine lv_iload_n hx hb dX5_isWay_6 rfl (lv_at hl 1 rfl) ?_
  refine lv_iadd hx hb dX5_isWay_7 ?_
  refine lv_istore_n (lv' := [(2, .int ((uL.2.2.2.2.2.2.2.2.2.2.2.2.2.2.2.1 1) + a1)), (0, .ref l0), (1, .int a1)]) hx hb dX5_isWay_8 rfl hl (by decide) rfl (fun ls hl => ?_)
  exact L9 200 a1 ((uL.2.2.2.2.2.2.2.2.2.2.2.2.2.2.2.1 1) + a1) _ (lv_sub hl [1, 2, 0] rfl) hok
theorem hd_X5_wayToNearest : yX5_wayToNearest.cls = RX5 ∧ yX5_wayToNearest.cls ≠ "java/lang/invoke/MethodHandle" ∧ yX5_wayToNearest.cls ≠ "java/lang/invoke/VarHandle" ∧ (parseMethodDescriptor yX5_wayToNearest.desc).map (fun d => d.parameters.length) = some 0 := by decide +kernel
def p_X5_wayToNearest_J48 (rec2 : tX5 → Int32 → Option Int32) (uL : tX5) (l48_1 : Int32) : Option Int32 :=
  bd (p_X5_isFloor uL ((uL.2.2.2.2.2.2.2.2.2.2.2.2.2.2.2.1 1) - l48_1)) (fun v3 =>
  if v3 = 0 then
    rec2 uL (l48_1 + 1)
  else
    bd (p_X5_has (uL.2.2.2.2.2.2.2.2.2.2.2.2.2.2.2.1 6) ((uL.2.2.2.2.2.2.2.2.2.2.2.2.2.2.2.1 1) - l48_1)) (fun v4 =>
    if v4 = 0 then
      rec2 uL (l48_1 + 1)
    else
      some (-1 : Int32)))
def p_X5_wayToNearest_L2 : Nat → tX5 → Int32 → Option Int32
  | 0, _, _ => none
  | n + 1, uL, l2_1 =>
    if uL.2.1 ≤ l2_1 then
      some (0 : Int32)
    else
      bd (p_X5_isFloor uL ((uL.2.2.2.2.2.2.2.2.2.2.2.2.2.2.2.1 1) + l2_1)) (fun v1 =>
      if v1 = 0 then
        p_X5_wayToNearest_J48 (p_X5_wayToNearest_L2 n) uL l2_1
      else
        bd (p_X5_has (uL.2.2.2.2.2.2.2.2.2.2.2.2.2.2.2.1 6) ((uL.2.2.2.2.2.2.2.2.2.2.2.2.2.2.2.1 1) + l2_1)) (fun v2 =>
        if v2 = 0 then
          p_X5_wayToNearest_J48 (p_X5_wayToNearest_L2 n) uL l2_1
        else
          some (1 : Int32)))
def p_X5_wayToNearest (uL : tX5) : Option Int32 :=
  p_X5_wayToNearest_L2 200 uL (1 : Int32)
set_option maxHeartbeats 4000000 in
set_option maxRecDepth 100000 in
theorem c_X5_wayToNearest (l : Launch) (dC : Nat → ClassId) (dI : Nat → Nat → Nat) (cI cZ : ClassId) (l0 l4 l5 l6 l8 l10 l11 l12 l13 l14 l15 l16 : Nat) (uL : tX5) {z : Int32} (hok : p_X5_wayToNearest uL = some z) : Met l yX5_wayToNearest (Cond.code yX5_wayToNearest cX5_wayToNearest 2 (some .int) :: lw_all) { frames := 2, cells := 0, slots := 0, locals := 43 } (prR (dC, dI) vwCl (TYS cI cZ) ((wX5 cI cZ l0 l4 l5 l6 l8 l10 l11 l12 l13 l14 l15 l16 uL)) [.ref l0]) (vp_Si (fun r => r = z)) 0 0 (fun _ => False) := by
  refine oM (by decide) (Nat.le_of_ble_eq_true rfl) ?_
  intro p e s m args below meth c S hr hlk hnm hB ls hl
  have hx := S.1
  have hb := S.2.1
  have hml := S.2.2.1
  have hown : s.vm.findClass RX5 = some m.cls := S.2.2.2.1
  have hts := S.2.2.2.2
  have S : CallFix p m c cX5_wayToNearest 2 s args lw_all RX5 := S
  have hl : lv_has ls 2 [(0, .ref l0)] := hl
  obtain ⟨hP, hK⟩ := hB
  have hP : va_P (dC, dI) vwCl ((wX5 cI cZ l0 l4 l5 l6 l8 l10 l11 l12 l13 l14 l15 l16 uL)) s.heap := hP
  have L2 : ∀ n2 : Nat, ∀ (l2_1 : Int32) (ls : Array Slot) (hl : lv_has ls 2 [(0, .ref l0), (1, .int l2_1)]) (hok : p_X5_wayToNearest_L2 n2 uL l2_1 = some z), W p l e { frames := 2, cells := 0, slots := 0, locals := 43 } s m args below meth c s.heap [] 0 0 (MQ below (vp_Si (fun r => r = z)) args s 0 0 (fun _ => False)) (F0 m 2 ls []) := by
    intro n2
    induction n2 with
    | zero =>
      intro l2_1 ls hl hok
      rw [p_X5_wayToNearest_L2] at hok
      cases hok
    | succ n2 ih2 =>
      have J48 : ∀ (l48_1 : Int32) (ls : Array Slot) (hl : lv_has ls 2 [(0, .ref l0), (1, .int l48_1)]) (hok : p_X5_wayToNearest_J48 (p_X5_wayToNearest_L2 n2) uL l48_1 = some z), W p l e { frames := 2, cells := 0, slots := 0, locals := 43 } s m args below meth c s.heap [] 0 0 (MQ below (vp_Si (fun r => r = z)) args s 0 0 (fun _ => False)) (F0 m 48 ls []) := by
        intro l48_1 ls hl hok
        unfold p_X5_wayToNearest_J48 at hok
        refine lv_aload_n hx hb dX5_wayToNearest_48 rfl (lv_at hl 0 rfl) ?_
        refine lv_aload_n hx hb dX5_wayToNearest_49 rfl (lv_at hl 0 rfl) ?_
        refine va_get (D := (dC, dI)) (ci := 5) (v := .ref l15) (C := RX5) (T := TX5) (N := 18) hx hb hts inX5 hown hK hP 0 rfl rfl 15 (by decide) (hts _ qf_X5_44) (fun _ h9 => h9) rfl dX5_wayToNearest_50 ?_
        refine lv_iconst (v := (1 : Int32)) hx hb dX5_wayToNearest_53 (by decide) ?_
        refine va_ialdK hx hb hK hP 10 0 rfl rfl (j := 1) (by decide) (vp_inK (by decide)) dX5_wayToNearest_54 ?_
        refine lv_iload_n hx hb dX5_wayToNearest_55 rfl (lv_at hl 1 rfl) ?_
        refine lv_isub hx hb dX5_wayToNearest_56 ?_
        obtain ⟨v3, hc3, hok⟩ := bd_some hok
        refine cRVi (ci := 5) (q0 := 0) [.int ((uL.2.2.2.2.2.2.2.2.2.2.2.2.2.2.2.1 1) - l48_1)] S hK hP (c_X5_isFloor l dC dI cI cZ l0 l4 l5 l6 l8 l10 l11 l12 l13 l14 l15 l16 uL ((uL.2.2.2.2.2.2.2.2.2.2.2.2.2.2.2.1 1) - l48_1) hc3) (lw_V qm_X5_93 qi_X5_isFloor qs_X5_isFloor qn_X5 qc_X5_isFloor) hd_X5_isFloor ⟨rfl, rfl⟩ ⟨Nat.le_of_ble_eq_true rfl, Nat.le_of_ble_eq_true rfl⟩ ⟨Nat.le_of_ble_eq_true rfl, Nat.le_of_ble_eq_true rfl⟩ rfl rfl rfl hl.1 (Nat.le_of_ble_eq_true rfl) rfl dX5_wayToNearest_57 ?_
        refine lv_if_eq (tgt := 86) hx hb dX5_wayToNearest_60 (by decide) (fun hc => ?_) (fun hc => ?_)
        · have hok := ip hok hc
          refine lv_iinc (v := (l48_1 + 1)) (lv' := [(1, .int (l48_1 + 1)), (0, .ref l0)]) hx hb dX5_wayToNearest_86 hl (k := 1) rfl rfl (by decide) rfl (fun ls hl => ?_)
          refine lv_goto (tgt := 2) hx hb dX5_wayToNearest_89 (by decide) ?_
          exact ih2 (l48_1 + 1) _ (lv_sub hl [1, 0] rfl) hok
        · have hok := iq hok hc
          refine lv_aload_n hx hb dX5_wayToNearest_63 rfl (lv_at hl 0 rfl) ?_
          refine va_get (D := (dC, dI)) (ci := 5) (v := .ref l15) (C := RX5) (T := TX5) (N := 18) hx hb hts inX5 hown hK hP 0 rfl rfl 15 (by decide) (hts _ qf_X5_44) (fun _ h9 => h9) rfl dX5_wayToNearest_64 ?_
          refine lv_bipush (v := (6 : Int32)) hx hb dX5_wayToNearest_67 (by decide) ?_
          refine va_ialdK hx hb hK hP 10 0 rfl rfl (j := 6) (by decide) (vp_inK (by decide)) dX5_wayToNearest_69 ?_
          refine lv_aload_n hx hb dX5_wayToNearest_70 rfl (lv_at hl 0 rfl) ?_
          refine va_get (D := (dC, dI)) (ci := 5) (v := .ref l15) (C := RX5) (T := TX5) (N := 18) hx hb hts inX5 hown hK hP 0 rfl rfl 15 (by decide) (hts _ qf_X5_44) (fun _ h9 => h9) rfl dX5_wayToNearest_71 ?_
          refine lv_iconst (v := (1 : Int32)) hx hb dX5_wayToNearest_74 (by decide) ?_
          refine va_ialdK hx hb hK hP 10 0 rfl rfl (j := 1) (by decide) (vp_inK (by decide)) dX5_wayToNearest_75 ?_
          refine lv_iload_n hx hb dX5_wayToNearest_76 rfl (lv_at hl 1 rfl) ?_
          refine lv_isub hx hb dX5_wayToNearest_77 ?_
          obtain ⟨v4, hc4, hok⟩ := bd_some hok
          refine cRSi [.int (uL.2.2.2.2.2.2.2.2.2.2.2.2.2.2.2.1 6), .int ((uL.2.2.2.2.2.2.2.2.2.2.2.2.2.2.2.1 1) - l48_1)] S hK va_Pnil (c_X5_has l dC dI cI cZ (uL.2.2.2.2.2.2.2.2.2.2.2.2.2.2.2.1 6) ((uL.2.2.2.2.2.2.2.2.2.2.2.2.2.2.2.1 1) - l48_1) hc4) (lw_S qm_X5_69 qt_X5_has qn_X5 qc_X5_has) hd_X5_has ⟨rfl, rfl⟩ ⟨Nat.le_of_ble_eq_true rfl, Nat.le_of_ble_eq_true rfl⟩ ⟨Nat.le_of_ble_eq_true rfl, Nat.le_of_ble_eq_true rfl⟩ rfl hl.1 (Nat.le_of_ble_eq_true rfl) rfl dX5_wayToNearest_78 ?_
          refine lv_if_eq (tgt := 86) hx hb dX5_wayToNearest_81 (by decide) (fun hc => ?_) (fun hc => ?_)
          · have hok := ip hok hc
            refine lv_iinc (v := (l48_1 + 1)) (lv' := [(1, .int (l48_1 + 1)), (0, .ref l0)]) hx hb dX5_wayToNearest_86 hl (k := 1) rfl rfl (by decide) rfl (fun ls hl => ?_)
            refine lv_goto (tgt := 2) hx hb dX5_wayToNearest_89 (by decide) ?_
            exact ih2 (l48_1 + 1) _ (lv_sub hl [1, 0] rfl) hok
          · have hok := iq hok hc
            refine lv_iconst (v := (-1 : Int32)) hx hb dX5_wayToNearest_84 (by decide) ?_
            exact eRi S hr hlk (Option.some.inj hok) dX5_wayToNearest_85
      intro l2_1 ls hl hok
      rw [p_X5_wayToNearest_L2] at hok
      refine lv_iload_n hx hb dX5_wayToNearest_2 rfl (lv_at hl 1 rfl) ?_
      refine lv_aload_n hx hb dX5_wayToNearest_3 rfl (lv_at hl 0 rfl) ?_
      refine va_get (D := (dC, dI)) (ci := 5) (v := .int uL.2.1) (C := RX5) (T := TX5) (N := 18) hx hb hts inX5 hown hK hP 0 rfl rfl 1 (by decide) (hts _ qf_X5_7) (fun _ h9 => h9) rfl dX5_wayToNearest_4 ?_
      refine lv_icmp_ge (tgt := 92) hx hb dX5_wayToNearest_7 (by decide) (fun hc => ?_) (fun hc => ?_)
      · have hok := ip hok hc
        refine lv_iconst (v := (0 : Int32)) hx hb dX5_wayToNearest_92 (by decide) ?_
        exact eRi S hr hlk (Option.some.inj hok) dX5_wayToNearest_93
      · have hok := iq hok hc
        refine lv_aload_n hx hb dX5_wayToNearest_10 rfl (lv_at hl 0 rfl) ?_
        refine lv_aload_n hx hb dX5_wayToNearest_11 rfl (lv_at hl 0 rfl) ?_
        refine va_get (D := (dC, dI)) (ci := 5) (v := .ref l15) (C := RX5) (T := TX5) (N := 18) hx hb hts inX5 hown hK hP 0 rfl rfl 15 (by decide) (hts _ qf_X5_44) (fun _ h9 => h9) rfl dX5_wayToNearest_12 ?_
        refine lv_iconst (v := (1 : Int32)) hx hb dX5_wayToNearest_15 (by decide) ?_
        refine va_ialdK hx hb hK hP 10 0 rfl rfl (j := 1) (by decide) (vp_inK (by decide)) dX5_wayToNearest_16 ?_
        refine lv_iload_n hx hb dX5_wayToNearest_17 rfl (lv_at hl 1 rfl) ?_
        refine lv_iadd hx hb dX5_wayToNearest_18 ?_
        obtain ⟨v1, hc1, hok⟩ := bd_some hok
        refine cRVi (ci := 5) (q0 := 0) [.int ((uL.2.2.2.2.2.2.2.2.2.2.2.2.2.2.2.1 1) + l2_1)] S hK hP (c_X5_isFloor l dC dI cI cZ l0 l4 l5 l6 l8 l10 l11 l12 l13 l14 l15 l16 uL ((uL.2.2.2.2.2.2.2.2.2.2.2.2.2.2.2.1 1) + l2_1) hc1) (lw_V qm_X5_93 qi_X5_isFloor qs_X5_isFloor qn_X5 qc_X5_isFloor) hd_X5_isFloor ⟨rfl, rfl⟩ ⟨Nat.le_of_ble_eq_true rfl, Nat.le_of_ble_eq_true rfl⟩ ⟨Nat.le_of_ble_eq_true rfl, Nat.le_of_ble_eq_true rfl⟩ rfl rfl rfl hl.1 (Nat.le_of_ble_eq_true rfl) rfl dX5_wayToNearest_19 ?_
        refine lv_if_eq (tgt := 48) hx hb dX5_wayToNearest_22 (by decide) (fun hc => ?_) (fun hc => ?_)
        · have hok := ip hok hc
          exact J48 l2_1 _ hl hok
        · have hok := iq hok hc
          refine lv_aload_n hx hb dX5_wayToNearest_25 rfl (lv_at hl 0 rfl) ?_
          refine va_get (D := (dC, dI)) (ci := 5) (v := .ref l15) (C := RX5) (T := TX5) (N := 18) hx hb hts inX5 hown hK hP 0 rfl rfl 15 (by decide) (hts _ qf_X5_44) (fun _ h9 => h9) rfl dX5_wayToNearest_26 ?_
          refine lv_bipush (v := (6 : Int32)) hx hb dX5_wayToNearest_29 (by decide) ?_
          refine va_ialdK hx hb hK hP 10 0 rfl rfl (j := 6) (by decide) (vp_inK (by decide)) dX5_wayToNearest_31 ?_
          refine lv_aload_n hx hb dX5_wayToNearest_32 rfl (lv_at hl 0 rfl) ?_
          refine va_get (D := (dC, dI)) (ci := 5) (v := .ref l15) (C := RX5) (T := TX5) (N := 18) hx hb hts inX5 hown hK hP 0 rfl rfl 15 (by decide) (hts _ qf_X5_44) (fun _ h9 => h9) rfl dX5_wayToNearest_33 ?_
          refine lv_iconst (v := (1 : Int32)) hx hb dX5_wayToNearest_36 (by decide) ?_
          refine va_ialdK hx hb hK hP 10 0 rfl rfl (j := 1) (by decide) (vp_inK (by decide)) dX5_wayToNearest_37 ?_
          refine lv_iload_n hx hb dX5_wayToNearest_38 rfl (lv_at hl 1 rfl) ?_
          refine lv_iadd hx hb dX5_wayToNearest_39 ?_
          obtain ⟨v2, hc2, hok⟩ := bd_some hok
          refine cRSi [.int (uL.2.2.2.2.2.2.2.2.2.2.2.2.2.2.2.1 6), .int ((uL.2.2.2.2.2.2.2.2.2.2.2.2.2.2.2.1 1) + l2_1)] S hK va_Pnil (c_X5_has l dC dI cI cZ (uL.2.2.2.2.2.2.2.2.2.2.2.2.2.2.2.1 6) ((uL.2.2.2.2.2.2.2.2.2.2.2.2.2.2.2.1 1) + l2_1) hc2) (lw_S qm_X5_69 qt_X5_has qn_X5 qc_X5_has) hd_X5_has ⟨rfl, rfl⟩ ⟨Nat.le_of_ble_eq_true rfl, Nat.le_of_ble_eq_true rfl⟩ ⟨Nat.le_of_ble_eq_true rfl, Nat.le_of_ble_eq_true rfl⟩ rfl hl.1 (Nat.le_of_ble_eq_true rfl) rfl dX5_wayToNearest_40 ?_
          refine lv_if_eq (tgt := 48) hx hb dX5_wayToNearest_43 (by decide) (fun hc => ?_) (fun hc => ?_)
          · have hok := ip hok hc
            exact J48 l2_1 _ hl hok
          · have hok := iq hok hc
            refine lv_iconst (v := (1 : Int32)) hx hb dX5_wayToNearest_46 (by decide) ?_
            exact eRi S hr hlk (Option.some.inj hok) dX5_wayToNearest_47
  unfold p_X5_wayToNearest at hok
  refine lv_iconst (v := (1 : Int32)) hx hb dX5_wayToNearest_0 (by decide) ?_
  refine lv_istore_n (lv' := [(1, .int (1 : Int32)), (0, .ref l0)]) hx hb dX5_wayToNearest_1 rfl hl (by decide) rfl (fun ls hl => ?_)
  exact L2 200 (1 : Int32) _ (lv_sub hl [1, 0] rfl) hok
theorem hd_X5_ride : yX5_ride.cls = RX5 ∧ yX5_ride.cls ≠ "java/lang/invoke/MethodHandle" ∧ yX5_ride.cls ≠ "java/lang/invoke/VarHandle" ∧ (parseMethodDescriptor yX5_ride.desc).map (fun d => d.parameters.length) = some 0 := by decide +kernel
def p_X5_ride_J78 (uL : tX5) : Option tX5 :=
  bd (p_X5_has (uL.2.2.2.2.2.2.2.2.2.2.2.2.2.2.2.1 6) (uL.2.2.2.2.2.2.2.2.2.2.2.2.2.2.2.1 1)) (fun v4 =>
  if v4 = 0 then
    some uL
  else
    bd (p_X5_stop uL) (fun v5 =>
    some v5))
def p_X5_ride_J53 (uL : tX5) : Option tX5 :=
  p_X5_ride_J78 (uL.1, uL.2.1, uL.2.2.1, uL.2.2.2.1, uL.2.2.2.2.1, uL.2.2.2.2.2.1, uL.2.2.2.2.2.2.1, uL.2.2.2.2.2.2.2.1, uL.2.2.2.2.2.2.2.2.1, uL.2.2.2.2.2.2.2.2.2.1, uL.2.2.2.2.2.2.2.2.2.2.1, uL.2.2.2.2.2.2.2.2.2.2.2.1, uL.2.2.2.2.2.2.2.2.2.2.2.2.1, uL.2.2.2.2.2.2.2.2.2.2.2.2.2.1, uL.2.2.2.2.2.2.2.2.2.2.2.2.2.2.1, (upd (upd uL.2.2.2.2.2.2.2.2.2.2.2.2.2.2.2.1 1 ((uL.2.2.2.2.2.2.2.2.2.2.2.2.2.2.2.1 1) + (uL.2.2.2.2.2.2.2.2.2.2.2.2.2.2.2.1 2))) 4 (((upd uL.2.2.2.2.2.2.2.2.2.2.2.2.2.2.2.1 1 ((uL.2.2.2.2.2.2.2.2.2.2.2.2.2.2.2.1 1) + (uL.2.2.2.2.2.2.2.2.2.2.2.2.2.2.2.1 2))) 4) + (1 : Int32))), uL.2.2.2.2.2.2.2.2.2.2.2.2.2.2.2.2.1, uL.2.2.2.2.2.2.2.2.2.2.2.2.2.2.2.2.2)
def p_X5_ride (uL : tX5) : Option tX5 :=
  if (uL.2.2.2.2.2.2.2.2.2.2.2.2.2.2.2.1 6) = 0 then
    some uL
  else
    bd (p_X5_has (uL.2.2.2.2.2.2.2.2.2.2.2.2.2.2.2.1 6) (uL.2.2.2.2.2.2.2.2.2.2.2.2.2.2.2.1 1)) (fun v1 =>
    if v1 = 0 then
      bd (p_X5_isWay uL (uL.2.2.2.2.2.2.2.2.2.2.2.2.2.2.2.1 2)) (fun v2 =>
      if v2 = 0 then
        bd (p_X5_wayToNearest uL) (fun v3 =>
        p_X5_ride_J53 (uL.1, uL.2.1, uL.2.2.1, uL.2.2.2.1, uL.2.2.2.2.1, uL.2.2.2.2.2.1, uL.2.2.2.2.2.2.1, uL.2.2.2.2.2.2.2.1, uL.2.2.2.2.2.2.2.2.1, uL.2.2.2.2.2.2.2.2.2.1, uL.2.2.2.2.2.2.2.2.2.2.1, uL.2.2.2.2.2.2.2.2.2.2.2.1, uL.2.2.2.2.2.2.2.2.2.2.2.2.1, uL.2.2.2.2.2.2.2.2.2.2.2.2.2.1, uL.2.2.2.2.2.2.2.2.2.2.2.2.2.2.1, (upd uL.2.2.2.2.2.2.2.2.2.2.2.2.2.2.2.1 2 v3), uL.2.2.2.2.2.2.2.2.2.2.2.2.2.2.2.2.1, uL.2.2.2.2.2.2.2.2.2.2.2.2.2.2.2.2.2))
      else
        p_X5_ride_J53 uL)
    else
      p_X5_ride_J78 uL)
set_option maxHeartbeats 4000000 in
set_option maxRecDepth 100000 in
theorem c_X5_ride (l : Launch) (dC : Nat → ClassId) (dI : Nat → Nat → Nat) (cI cZ : ClassId) (l0 l4 l5 l6 l8 l10 l11 l12 l13 l14 l15 l16 : Nat) (sz : Nat) (uL : tX5) {z : tX5} (hok : p_X5_ride uL = some z) : Met l yX5_ride (Cond.code yX5_ride cX5_ride 1 none :: lw_all) { frames := 4, cells := 0, slots := 0, locals := 87 } (prW (dC, dI) vwCl (TYS cI cZ) ((wX5 cI cZ l0 l4 l5 l6 l8 l10 l11 l12 l13 l14 l15 l16 uL)) sz [.ref l0]) (va_Qv (fun _ : Unit => True) (fun _ t => va_P (dC, dI) vwCl ((wX5 cI cZ l0 l4 l5 l6 l8 l10 l11 l12 l13 l14 l15 l16 z)) t.heap) (va_A ((wX5 cI cZ l0 l4 l5 l6 l8 l10 l11 l12 l13 l14 l15 l16 uL)) sz)) 0 0 (va_A ((wX5 cI cZ l0 l4 l5 l6 l8 l10 l11 l12 l13 l14 l15 l16 uL)) sz) := by
  refine oM (by decide) (Nat.le_of_ble_eq_true rfl) ?_
  intro p e s m args below meth c S hr hlk hnm hB ls hl
  have hx := S.1
  have hb := S.2.1
  have hml := S.2.2.1
  have hown : s.vm.findClass RX5 = some m.cls := S.2.2.2.1
  have hts := S.2.2.2.2
  have S : CallFix p m c cX5_ride 1 s args lw_all RX5 := S
  have hl : lv_has ls 1 [(0, .ref l0)] := hl
  obtain ⟨hsz, hP, hK, hD0⟩ := hB
  subst hsz
  have hD := hD0.self (sz := s.heap.size)
  generalize hAe : va_A ((wX5 cI cZ l0 l4 l5 l6 l8 l10 l11 l12 l13 l14 l15 l16 uL)) s.heap.size = A at hD ⊢
  have hA : ∀ q : Nat, s.heap.size ≤ q → A q := fun q h => by rw [← hAe]; exact Or.inr h
  have hS : va_S A s.heap s.heap [] := va_S.rf
  have hP : va_P (dC, dI) vwCl ((wX5 cI cZ l0 l4 l5 l6 l8 l10 l11 l12 l13 l14 l15 l16 uL)) s.heap := hP
  have J78 : ∀ (uL : tX5) (H : Heap) (locs : List Loc) (hP : va_P (dC, dI) vwCl ((wX5 cI cZ l0 l4 l5 l6 l8 l10 l11 l12 l13 l14 l15 l16 uL)) H) (hD : va_D A ((wX5 cI cZ l0 l4 l5 l6 l8 l10 l11 l12 l13 l14 l15 l16 uL))) (hS : va_S A s.heap H locs) (ls : Array Slot) (hl : lv_has ls 1 [(0, .ref l0)]) (hok : p_X5_ride_J78 uL = some z), W p l e { frames := 4, cells := 0, slots := 0, locals := 87 } s m args below meth c H locs 0 0 (MQ below (va_Qv (fun _ : Unit => True) (fun _ t => va_P (dC, dI) vwCl ((wX5 cI cZ l0 l4 l5 l6 l8 l10 l11 l12 l13 l14 l15 l16 z)) t.heap) A) args s 0 0 A) (F0 m 78 ls []) := by
    intro uL H locs hP hD hS ls hl hok
    unfold p_X5_ride_J78 at hok
    refine lv_aload_n hx hb dX5_ride_78 rfl (lv_at hl 0 rfl) ?_
    refine va_get (D := (dC, dI)) (ci := 5) (v := .ref l15) (C := RX5) (T := TX5) (N := 18) hx hb hts inX5 hown hK hP 0 rfl rfl 15 (by decide) (hts _ qf_X5_44) (fun _ h9 => h9) rfl dX5_ride_79 ?_
    refine lv_bipush (v := (6 : Int32)) hx hb dX5_ride_82 (by decide) ?_
    refine va_ialdK hx hb hK hP 10 0 rfl rfl (j := 6) (by decide) (vp_inK (by decide)) dX5_ride_84 ?_
    refine lv_aload_n hx hb dX5_ride_85 rfl (lv_at hl 0 rfl) ?_
    refine va_get (D := (dC, dI)) (ci := 5) (v := .ref l15) (C := RX5) (T := TX5) (N := 18) hx hb hts inX5 hown hK hP 0 rfl rfl 15 (by decide) (hts _ qf_X5_44) (fun _ h9 => h9) rfl dX5_ride_86 ?_
    refine lv_iconst (v := (1 : Int32)) hx hb dX5_ride_89 (by decide) ?_
    refine va_ialdK hx hb hK hP 10 0 rfl rfl (j := 1) (by decide) (vp_inK (by decide)) dX5_ride_90 ?_
    obtain ⟨v4, hc4, hok⟩ := bd_some hok
    refine cRSi [.int (uL.2.2.2.2.2.2.2.2.2.2.2.2.2.2.2.1 6), .int (uL.2.2.2.2.2.2.2.2.2.2.2.2.2.2.2.1 1)] S hK va_Pnil (c_X5_has l dC dI cI cZ (uL.2.2.2.2.2.2.2.2.2.2.2.2.2.2.2.1 6) (uL.2.2.2.2.2.2.2.2.2.2.2.2.2.2.2.1 1) hc4) (lw_S qm_X5_69 qt_X5_has qn_X5 qc_X5_has) hd_X5_has ⟨rfl, rfl⟩ ⟨Nat.le_of_ble_eq_true rfl, Nat.le_of_ble_eq_true rfl⟩ ⟨Nat.le_of_ble_eq_true rfl, Nat.le_of_ble_eq_true rfl⟩ rfl hl.1 (Nat.le_of_ble_eq_true rfl) rfl dX5_ride_91 ?_
    refine lv_if_eq (tgt := 101) hx hb dX5_ride_94 (by decide) (fun hc => ?_) (fun hc => ?_)
    · have hok := ip hok hc
      have hok := Option.some.inj hok
      subst hok
      exact eWv S hr hlk hP hS (Nat.le_of_ble_eq_true rfl) (Nat.le_of_ble_eq_true rfl) dX5_ride_101
    · have hok := iq hok hc
      refine lv_aload_n hx hb dX5_ride_97 rfl (lv_at hl 0 rfl) ?_
      obtain ⟨v5, hc5, hok⟩ := bd_some hok
      refine cWVv (ci := 5) (q0 := 0) [] S hK hP hD hS hA (c_X5_stop l dC dI cI cZ l0 l4 l5 l6 l8 l10 l11 l12 l13 l14 l15 l16 _ uL hc5) (lw_V qm_X5_103 qi_X5_stop qs_X5_stop qn_X5 qc_X5_stop) hd_X5_stop ⟨rfl, rfl⟩ ⟨Nat.le_of_ble_eq_true rfl, Nat.le_of_ble_eq_true rfl⟩ ⟨Nat.le_of_ble_eq_true rfl, Nat.le_of_ble_eq_true rfl⟩ rfl rfl rfl hl.1 (Nat.le_of_ble_eq_true rfl) rfl dX5_ride_98 (D_L hD) (fun H locs hP hD hS => ?_)
      have hok := Option.some.inj hok
      subst hok
      exact eWv S hr hlk hP hS (Nat.le_of_ble_eq_true rfl) (Nat.le_of_ble_eq_true rfl) dX5_ride_101
  have J53 : ∀ (uL : tX5) (H : Heap) (locs : List Loc) (hP : va_P (dC, dI) vwCl ((wX5 cI cZ l0 l4 l5 l6 l8 l10 l11 l12 l13 l14 l15 l16 uL)) H) (hD : va_D A ((wX5 cI cZ l0 l4 l5 l6 l8 l10 l11 l12 l13 l14 l15 l16 uL))) (hS : va_S A s.heap H locs) (ls : Array Slot) (hl : lv_has ls 1 [(0, .ref l0)]) (hok : p_X5_ride_J53 uL = some z), W p l e { frames := 4, cells := 0, slots := 0, locals := 87 } s m args below meth c H locs 0 0 (MQ below (va_Qv (fun _ : Unit => True) (fun _ t => va_P (dC, dI) vwCl ((wX5 cI cZ l0 l4 l5 l6 l8 l10 l11 l12 l13 l14 l15 l16 z)) t.heap) A) args s 0 0 A) (F0 m 53 ls []) := by
    intro uL H locs hP hD hS ls hl hok
    unfold p_X5_ride_J53 at hok
    refine lv_aload_n hx hb dX5_ride_53 rfl (lv_at hl 0 rfl) ?_
    refine va_get (D := (dC, dI)) (ci := 5) (v := .ref l15) (C := RX5) (T := TX5) (N := 18) hx hb hts inX5 hown hK hP 0 rfl rfl 15 (by decide) (hts _ qf_X5_44) (fun _ h9 => h9) rfl dX5_ride_54 ?_
    refine lv_iconst (v := (1 : Int32)) hx hb dX5_ride_57 (by decide) ?_
    refine lv_dup2_11 hx hb dX5_ride_58 rfl rfl ?_
    refine va_ialdK hx hb hK hP 10 0 rfl rfl (j := 1) (by decide) (vp_inK (by decide)) dX5_ride_59 ?_
    refine lv_aload_n hx hb dX5_ride_60 rfl (lv_at hl 0 rfl) ?_
    refine va_get (D := (dC, dI)) (ci := 5) (v := .ref l15) (C := RX5) (T := TX5) (N := 18) hx hb hts inX5 hown hK hP 0 rfl rfl 15 (by decide) (hts _ qf_X5_44) (fun _ h9 => h9) rfl dX5_ride_61 ?_
    refine lv_iconst (v := (2 : Int32)) hx hb dX5_ride_64 (by decide) ?_
    refine va_ialdK hx hb hK hP 10 0 rfl rfl (j := 2) (by decide) (vp_inK (by decide)) dX5_ride_65 ?_
    refine lv_iadd hx hb dX5_ride_66 ?_
    refine va_iastK hx hb hK hP hD hS 10 0 rfl rfl (j := 1) (by decide) (vp_inK (by decide)) dX5_ride_67 (fun H locs hP _ hS => ?_)
    have hP : va_P (dC, dI) vwCl ((wX5 cI cZ l0 l4 l5 l6 l8 l10 l11 l12 l13 l14 l15 l16 (uL.1, uL.2.1, uL.2.2.1, uL.2.2.2.1, uL.2.2.2.2.1, uL.2.2.2.2.2.1, uL.2.2.2.2.2.2.1, uL.2.2.2.2.2.2.2.1, uL.2.2.2.2.2.2.2.2.1, uL.2.2.2.2.2.2.2.2.2.1, uL.2.2.2.2.2.2.2.2.2.2.1, uL.2.2.2.2.2.2.2.2.2.2.2.1, uL.2.2.2.2.2.2.2.2.2.2.2.2.1, uL.2.2.2.2.2.2.2.2.2.2.2.2.2.1, uL.2.2.2.2.2.2.2.2.2.2.2.2.2.2.1, (upd uL.2.2.2.2.2.2.2.2.2.2.2.2.2.2.2.1 1 ((uL.2.2.2.2.2.2.2.2.2.2.2.2.2.2.2.1 1) + (uL.2.2.2.2.2.2.2.2.2.2.2.2.2.2.2.1 2))), uL.2.2.2.2.2.2.2.2.2.2.2.2.2.2.2.2.1, uL.2.2.2.2.2.2.2.2.2.2.2.2.2.2.2.2.2))) H := hP
    have hD : va_D A ((wX5 cI cZ l0 l4 l5 l6 l8 l10 l11 l12 l13 l14 l15 l16 (uL.1, uL.2.1, uL.2.2.1, uL.2.2.2.1, uL.2.2.2.2.1, uL.2.2.2.2.2.1, uL.2.2.2.2.2.2.1, uL.2.2.2.2.2.2.2.1, uL.2.2.2.2.2.2.2.2.1, uL.2.2.2.2.2.2.2.2.2.1, uL.2.2.2.2.2.2.2.2.2.2.1, uL.2.2.2.2.2.2.2.2.2.2.2.1, uL.2.2.2.2.2.2.2.2.2.2.2.2.1, uL.2.2.2.2.2.2.2.2.2.2.2.2.2.1, uL.2.2.2.2.2.2.2.2.2.2.2.2.2.2.1, (upd uL.2.2.2.2.2.2.2.2.2.2.2.2.2.2.2.1 1 ((uL.2.2.2.2.2.2.2.2.2.2.2.2.2.2.2.1 1) + (uL.2.2.2.2.2.2.2.2.2.2.2.2.2.2.2.1 2))), uL.2.2.2.2.2.2.2.2.2.2.2.2.2.2.2.2.1, uL.2.2.2.2.2.2.2.2.2.2.2.2.2.2.2.2.2))) := D_L hD
    refine lv_aload_n hx hb dX5_ride_68 rfl (lv_at hl 0 rfl) ?_
    refine va_get (D := (dC, dI)) (ci := 5) (v := .ref l15) (C := RX5) (T := TX5) (N := 18) hx hb hts inX5 hown hK hP 0 rfl rfl 15 (by decide) (hts _ qf_X5_44) (fun _ h9 => h9) rfl dX5_ride_69 ?_
    refine lv_iconst (v := (4 : Int32)) hx hb dX5_ride_72 (by decide) ?_
    refine lv_dup2_11 hx hb dX5_ride_73 rfl rfl ?_
    refine va_ialdK hx hb hK hP 10 0 rfl rfl (j := 4) (by decide) (vp_inK (by decide)) dX5_ride_74 ?_
    refine lv_iconst (v := (1 : Int32)) hx hb dX5_ride_75 (by decide) ?_
    refine lv_iadd hx hb dX5_ride_76 ?_
    refine va_iastK hx hb hK hP hD hS 10 0 rfl rfl (j := 4) (by decide) (vp_inK (by decide)) dX5_ride_77 (fun H locs hP _ hS => ?_)
    have hP : va_P (dC, dI) vwCl ((wX5 cI cZ l0 l4 l5 l6 l8 l10 l11 l12 l13 l14 l15 l16 (uL.1, uL.2.1, uL.2.2.1, uL.2.2.2.1, uL.2.2.2.2.1, uL.2.2.2.2.2.1, uL.2.2.2.2.2.2.1, uL.2.2.2.2.2.2.2.1, uL.2.2.2.2.2.2.2.2.1, uL.2.2.2.2.2.2.2.2.2.1, uL.2.2.2.2.2.2.2.2.2.2.1, uL.2.2.2.2.2.2.2.2.2.2.2.1, uL.2.2.2.2.2.2.2.2.2.2.2.2.1, uL.2.2.2.2.2.2.2.2.2.2.2.2.2.1, uL.2.2.2.2.2.2.2.2.2.2.2.2.2.2.1, (upd (upd uL.2.2.2.2.2.2.2.2.2.2.2.2.2.2.2.1 1 ((uL.2.2.2.2.2.2.2.2.2.2.2.2.2.2.2.1 1) + (uL.2.2.2.2.2.2.2.2.2.2.2.2.2.2.2.1 2))) 4 (((upd uL.2.2.2.2.2.2.2.2.2.2.2.2.2.2.2.1 1 ((uL.2.2.2.2.2.2.2.2.2.2.2.2.2.2.2.1 1) + (uL.2.2.2.2.2.2.2.2.2.2.2.2.2.2.2.1 2))) 4) + (1 : Int32))), uL.2.2.2.2.2.2.2.2.2.2.2.2.2.2.2.2.1, uL.2.2.2.2.2.2.2.2.2.2.2.2.2.2.2.2.2))) H := hP
    have hD : va_D A ((wX5 cI cZ l0 l4 l5 l6 l8 l10 l11 l12 l13 l14 l15 l16 (uL.1, uL.2.1, uL.2.2.1, uL.2.2.2.1, uL.2.2.2.2.1, uL.2.2.2.2.2.1, uL.2.2.2.2.2.2.1, uL.2.2.2.2.2.2.2.1, uL.2.2.2.2.2.2.2.2.1, uL.2.2.2.2.2.2.2.2.2.1, uL.2.2.2.2.2.2.2.2.2.2.1, uL.2.2.2.2.2.2.2.2.2.2.2.1, uL.2.2.2.2.2.2.2.2.2.2.2.2.1, uL.2.2.2.2.2.2.2.2.2.2.2.2.2.1, uL.2.2.2.2.2.2.2.2.2.2.2.2.2.2.1, (upd (upd uL.2.2.2.2.2.2.2.2.2.2.2.2.2.2.2.1 1 ((uL.2.2.2.2.2.2.2.2.2.2.2.2.2.2.2.1 1) + (uL.2.2.2.2.2.2.2.2.2.2.2.2.2.2.2.1 2))) 4 (((upd uL.2.2.2.2.2.2.2.2.2.2.2.2.2.2.2.1 1 ((uL.2.2.2.2.2.2.2.2.2.2.2.2.2.2.2.1 1) + (uL.2.2.2.2.2.2.2.2.2.2.2.2.2.2.2.1 2))) 4) + (1 : Int32))), uL.2.2.2.2.2.2.2.2.2.2.2.2.2.2.2.2.1, uL.2.2.2.2.2.2.2.2.2.2.2.2.2.2.2.2.2))) := D_L hD
    exact J78 (uL.1, uL.2.1, uL.2.2.1, uL.2.2.2.1, uL.2.2.2.2.1, uL.2.2.2.2.2.1, uL.2.2.2.2.2.2.1, uL.2.2.2.2.2.2.2.1, uL.2.2.2.2.2.2.2.2.1, uL.2.2.2.2.2.2.2.2.2.1, uL.2.2.2.2.2.2.2.2.2.2.1, uL.2.2.2.2.2.2.2.2.2.2.2.1, uL.2.2.2.2.2.2.2.2.2.2.2.2.1, uL.2.2.2.2.2.2.2.2.2.2.2.2.2.1, uL.2.2.2.2.2.2.2.2.2.2.2.2.2.2.1, (upd (upd uL.2.2.2.2.2.2.2.2.2.2.2.2.2.2.2.1 1 ((uL.2.2.2.2.2.2.2.2.2.2.2.2.2.2.2.1 1) + (uL.2.2.2.2.2.2.2.2.2.2.2.2.2.2.2.1 2))) 4 (((upd uL.2.2.2.2.2.2.2.2.2.2.2.2.2.2.2.1 1 ((uL.2.2.2.2.2.2.2.2.2.2.2.2.2.2.2.1 1) + (uL.2.2.2.2.2.2.2.2.2.2.2.2.2.2.2.1 2))) 4) + (1 : Int32))), uL.2.2.2.2.2.2.2.2.2.2.2.2.2.2.2.2.1, uL.2.2.2.2.2.2.2.2.2.2.2.2.2.2.2.2.2) _ _ hP hD hS _ hl hok
  unfold p_X5_ride at hok
  refine lv_aload_n hx hb dX5_ride_0 rfl (lv_at hl 0 rfl) ?_
  refine va_get (D := (dC, dI)) (ci := 5) (v := .ref l15) (C := RX5) (T := TX5) (N := 18) hx hb hts inX5 hown hK hP 0 rfl rfl 15 (by decide) (hts _ qf_X5_44) (fun _ h9 => h9) rfl dX5_ride_1 ?_
  refine lv_bipush (v := (6 : Int32)) hx hb dX5_ride_4 (by decide) ?_
  refine va_ialdK hx hb hK hP 10 0 rfl rfl (j := 6) (by decide) (vp_inK (by decide)) dX5_ride_6 ?_
  refine lv_if_ne (tgt := 11) hx hb dX5_ride_7 (by decide) (fun hc => ?_) (fun hc => ?_)
  · have hok := iq hok hc
    refine lv_aload_n hx hb dX5_ride_11 rfl (lv_at hl 0 rfl) ?_
    refine va_get (D := (dC, dI)) (ci := 5) (v := .ref l15) (C := RX5) (T := TX5) (N := 18) hx hb hts inX5 hown hK hP 0 rfl rfl 15 (by decide) (hts _ qf_X5_44) (fun _ h9 => h9) rfl dX5_ride_12 ?_
    refine lv_bipush (v := (6 : Int32)) hx hb dX5_ride_15 (by decide) ?_
    refine va_ialdK hx hb hK hP 10 0 rfl rfl (j := 6) (by decide) (vp_inK (by decide)) dX5_ride_17 ?_
    refine lv_aload_n hx hb dX5_ride_18 rfl (lv_at hl 0 rfl) ?_
    refine va_get (D := (dC, dI)) (ci := 5) (v := .ref l15) (C := RX5) (T := TX5) (N := 18) hx hb hts inX5 hown hK hP 0 rfl rfl 15 (by decide) (hts _ qf_X5_44) (fun _ h9 => h9) rfl dX5_ride_19 ?_
    refine lv_iconst (v := (1 : Int32)) hx hb dX5_ride_22 (by decide) ?_
    refine va_ialdK hx hb hK hP 10 0 rfl rfl (j := 1) (by decide) (vp_inK (by decide)) dX5_ride_23 ?_
    obtain ⟨v1, hc1, hok⟩ := bd_some hok
    refine cRSi [.int (uL.2.2.2.2.2.2.2.2.2.2.2.2.2.2.2.1 6), .int (uL.2.2.2.2.2.2.2.2.2.2.2.2.2.2.2.1 1)] S hK va_Pnil (c_X5_has l dC dI cI cZ (uL.2.2.2.2.2.2.2.2.2.2.2.2.2.2.2.1 6) (uL.2.2.2.2.2.2.2.2.2.2.2.2.2.2.2.1 1) hc1) (lw_S qm_X5_69 qt_X5_has qn_X5 qc_X5_has) hd_X5_has ⟨rfl, rfl⟩ ⟨Nat.le_of_ble_eq_true rfl, Nat.le_of_ble_eq_true rfl⟩ ⟨Nat.le_of_ble_eq_true rfl, Nat.le_of_ble_eq_true rfl⟩ rfl hl.1 (Nat.le_of_ble_eq_true rfl) rfl dX5_ride_24 ?_
    refine lv_if_ne (tgt := 78) hx hb dX5_ride_27 (by decide) (fun hc => ?_) (fun hc => ?_)
    · have hok := iq hok hc
      exact J78 uL _ _ hP hD hS _ hl hok
    · have hok := ip hok hc
      refine lv_aload_n hx hb dX5_ride_30 rfl (lv_at hl 0 rfl) ?_
      refine lv_aload_n hx hb dX5_ride_31 rfl (lv_at hl 0 rfl) ?_
      refine va_get (D := (dC, dI)) (ci := 5) (v := .ref l15) (C := RX5) (T := TX5) (N := 18) hx hb hts inX5 hown hK hP 0 rfl rfl 15 (by decide) (hts _ qf_X5_44) (fun _ h9 => h9) rfl dX5_ride_32 ?_
      refine lv_iconst (v := (2 : Int32)) hx hb dX5_ride_35 (by decide) ?_
      refine va_ialdK hx hb hK hP 10 0 rfl rfl (j := 2) (by decide) (vp_inK (by decide)) dX5_ride_36 ?_
      obtain ⟨v2, hc2, hok⟩ := bd_some hok
      refine cRVi (ci := 5) (q0 := 0) [.int (uL.2.2.2.2.2.2.2.2.2.2.2.2.2.2.2.1 2)] S hK hP (c_X5_isWay l dC dI cI cZ l0 l4 l5 l6 l8 l10 l11 l12 l13 l14 l15 l16 uL (uL.2.2.2.2.2.2.2.2.2.2.2.2.2.2.2.1 2) hc2) (lw_V qm_X5_96 qi_X5_isWay qs_X5_isWay qn_X5 qc_X5_isWay) hd_X5_isWay ⟨rfl, rfl⟩ ⟨Nat.le_of_ble_eq_true rfl, Nat.le_of_ble_eq_true rfl⟩ ⟨Nat.le_of_ble_eq_true rfl, Nat.le_of_ble_eq_true rfl⟩ rfl rfl rfl hl.1 (Nat.le_of_ble_eq_true rfl) rfl dX5_ride_37 ?_
      refine lv_if_ne (tgt := 53) hx hb dX5_ride_40 (by decide) (fun hc => ?_) (fun hc => ?_)
      · have hok := iq hok hc
        exact J53 uL _ _ hP hD hS _ hl hok
      · have hok := ip hok hc
        refine lv_aload_n hx hb dX5_ride_43 rfl (lv_at hl 0 rfl) ?_
        refine va_get (D := (dC, dI)) (ci := 5) (v := .ref l15) (C := RX5) (T := TX5) (N := 18) hx hb hts inX5 hown hK hP 0 rfl rfl 15 (by decide) (hts _ qf_X5_44) (fun _ h9 => h9) rfl dX5_ride_44 ?_
        refine lv_iconst (v := (2 : Int32)) hx hb dX5_ride_47 (by decide) ?_
        refine lv_aload_n hx hb dX5_ride_48 rfl (lv_at hl 0 rfl) ?_
        obtain ⟨v3, hc3, hok⟩ := bd_some hok
        refine cRVi (ci := 5) (q0 := 0) [] S hK hP (c_X5_wayToNearest l dC dI cI cZ l0 l4 l5 l6 l8 l10 l11 l12 l13 l14 l15 l16 uL hc3) (lw_V qm_X5_99 qi_X5_wayToNearest qs_X5_wayToNearest qn_X5 qc_X5_wayToNearest) hd_X5_wayToNearest ⟨rfl, rfl⟩ ⟨Nat.le_of_ble_eq_true rfl, Nat.le_of_ble_eq_true rfl⟩ ⟨Nat.le_of_ble_eq_true rfl, Nat.le_of_ble_eq_true rfl⟩ rfl rfl rfl hl.1 (Nat.le_of_ble_eq_true rfl) rfl dX5_ride_49 ?_
        refine va_iastK hx hb hK hP hD hS 10 0 rfl rfl (j := 2) (by decide) (vp_inK (by decide)) dX5_ride_52 (fun H locs hP _ hS => ?_)
        have hP : va_P (dC, dI) vwCl ((wX5 cI cZ l0 l4 l5 l6 l8 l10 l11 l12 l13 l14 l15 l16 (uL.1, uL.2.1, uL.2.2.1, uL.2.2.2.1, uL.2.2.2.2.1, uL.2.2.2.2.2.1, uL.2.2.2.2.2.2.1, uL.2.2.2.2.2.2.2.1, uL.2.2.2.2.2.2.2.2.1, uL.2.2.2.2.2.2.2.2.2.1, uL.2.2.2.2.2.2.2.2.2.2.1, uL.2.2.2.2.2.2.2.2.2.2.2.1, uL.2.2.2.2.2.2.2.2.2.2.2.2.1, uL.2.2.2.2.2.2.2.2.2.2.2.2.2.1, uL.2.2.2.2.2.2.2.2.2.2.2.2.2.2.1, (upd uL.2.2.2.2.2.2.2.2.2.2.2.2.2.2.2.1 2 v3), uL.2.2.2.2.2.2.2.2.2.2.2.2.2.2.2.2.1, uL.2.2.2.2.2.2.2.2.2.2.2.2.2.2.2.2.2))) H := hP
        have hD : va_D A ((wX5 cI cZ l0 l4 l5 l6 l8 l10 l11 l12 l13 l14 l15 l16 (uL.1, uL.2.1, uL.2.2.1, uL.2.2.2.1, uL.2.2.2.2.1, uL.2.2.2.2.2.1, uL.2.2.2.2.2.2.1, uL.2.2.2.2.2.2.2.1, uL.2.2.2.2.2.2.2.2.1, uL.2.2.2.2.2.2.2.2.2.1, uL.2.2.2.2.2.2.2.2.2.2.1, uL.2.2.2.2.2.2.2.2.2.2.2.1, uL.2.2.2.2.2.2.2.2.2.2.2.2.1, uL.2.2.2.2.2.2.2.2.2.2.2.2.2.1, uL.2.2.2.2.2.2.2.2.2.2.2.2.2.2.1, (upd uL.2.2.2.2.2.2.2.2.2.2.2.2.2.2.2.1 2 v3), uL.2.2.2.2.2.2.2.2.2.2.2.2.2.2.2.2.1, uL.2.2.2.2.2.2.2.2.2.2.2.2.2.2.2.2.2))) := D_L hD
        exact J53 (uL.1, uL.2.1, uL.2.2.1, uL.2.2.2.1, uL.2.2.2.2.1, uL.2.2.2.2.2.1, uL.2.2.2.2.2.2.1, uL.2.2.2.2.2.2.2.1, uL.2.2.2.2.2.2.2.2.1, uL.2.2.2.2.2.2.2.2.2.1, uL.2.2.2.2.2.2.2.2.2.2.1, uL.2.2.2.2.2.2.2.2.2.2.2.1, uL.2.2.2.2.2.2.2.2.2.2.2.2.1, uL.2.2.2.2.2.2.2.2.2.2.2.2.2.1, uL.2.2.2.2.2.2.2.2.2.2.2.2.2.2.1, (upd uL.2.2.2.2.2.2.2.2.2.2.2.2.2.2.2.1 2 v3), uL.2.2.2.2.2.2.2.2.2.2.2.2.2.2.2.2.1, uL.2.2.2.2.2.2.2.2.2.2.2.2.2.2.2.2.2) _ _ hP hD hS _ hl hok
  · have hok := ip hok hc
    have hok := Option.some.inj hok
    subst hok
    exact eWv S hr hlk hP hS (Nat.le_of_ble_eq_true rfl) (Nat.le_of_ble_eq_true rfl) dX5_ride_10
theorem hd_X5_hourOn : yX5_hourOn.cls = RX5 ∧ yX5_hourOn.cls ≠ "java/lang/invoke/MethodHandle" ∧ yX5_hourOn.cls ≠ "java/lang/invoke/VarHandle" ∧ (parseMethodDescriptor yX5_hourOn.desc).map (fun d => d.parameters.length) = some 0 := by decide +kernel
def p_X5_hourOn_J212 (uL : tX5) : Option tX5 :=
  some (uL.1, uL.2.1, uL.2.2.1, uL.2.2.2.1, uL.2.2.2.2.1, uL.2.2.2.2.2.1, uL.2.2.2.2.2.2.1, uL.2.2.2.2.2.2.2.1, uL.2.2.2.2.2.2.2.2.1, uL.2.2.2.2.2.2.2.2.2.1, uL.2.2.2.2.2.2.2.2.2.2.1, uL.2.2.2.2.2.2.2.2.2.2.2.1, uL.2.2.2.2.2.2.2.2.2.2.2.2.1, uL.2.2.2.2.2.2.2.2.2.2.2.2.2.1, uL.2.2.2.2.2.2.2.2.2.2.2.2.2.2.1, (upd uL.2.2.2.2.2.2.2.2.2.2.2.2.2.2.2.1 0 ((uL.2.2.2.2.2.2.2.2.2.2.2.2.2.2.2.1 0) + (1 : Int32))), uL.2.2.2.2.2.2.2.2.2.2.2.2.2.2.2.2.1, uL.2.2.2.2.2.2.2.2.2.2.2.2.2.2.2.2.2)
def p_X5_hourOn_J169 (uL : tX5) : Option tX5 :=
  if (uL.2.2.2.2.2.2.2.2.2.2.2.2.2.2.2.1 3) = 0 then
    if (uL.2.2.2.2.2.2.2.2.2.2.2.2.2.2.2.1 4) < uL.2.2.1 then
      p_X5_hourOn_J212 uL
    else
      p_X5_hourOn_J212 (uL.1, uL.2.1, uL.2.2.1, uL.2.2.2.1, uL.2.2.2.2.1, uL.2.2.2.2.2.1, uL.2.2.2.2.2.2.1, uL.2.2.2.2.2.2.2.1, uL.2.2.2.2.2.2.2.2.1, uL.2.2.2.2.2.2.2.2.2.1, uL.2.2.2.2.2.2.2.2.2.2.1, uL.2.2.2.2.2.2.2.2.2.2.2.1, uL.2.2.2.2.2.2.2.2.2.2.2.2.1, uL.2.2.2.2.2.2.2.2.2.2.2.2.2.1, uL.2.2.2.2.2.2.2.2.2.2.2.2.2.2.1, (upd (upd uL.2.2.2.2.2.2.2.2.2.2.2.2.2.2.2.1 3 ((uL.2.2.1 / (4 : Int32)) + (1 : Int32))) 4 (0 : Int32)), uL.2.2.2.2.2.2.2.2.2.2.2.2.2.2.2.2.1, uL.2.2.2.2.2.2.2.2.2.2.2.2.2.2.2.2.2)
  else
    p_X5_hourOn_J212 uL
def p_X5_hourOn_J152 (uL : tX5) : Option tX5 :=
  if (uL.2.2.2.2.2.2.2.2.2.2.2.2.2.2.2.1 6) = 0 then
    p_X5_hourOn_J169 (uL.1, uL.2.1, uL.2.2.1, uL.2.2.2.1, uL.2.2.2.2.1, uL.2.2.2.2.2.1, uL.2.2.2.2.2.2.1, uL.2.2.2.2.2.2.2.1, uL.2.2.2.2.2.2.2.2.1, uL.2.2.2.2.2.2.2.2.2.1, uL.2.2.2.2.2.2.2.2.2.2.1, uL.2.2.2.2.2.2.2.2.2.2.2.1, uL.2.2.2.2.2.2.2.2.2.2.2.2.1, uL.2.2.2.2.2.2.2.2.2.2.2.2.2.1, uL.2.2.2.2.2.2.2.2.2.2.2.2.2.2.1, (upd uL.2.2.2.2.2.2.2.2.2.2.2.2.2.2.2.1 2 (0 : Int32)), uL.2.2.2.2.2.2.2.2.2.2.2.2.2.2.2.2.1, uL.2.2.2.2.2.2.2.2.2.2.2.2.2.2.2.2.2)
  else
    p_X5_hourOn_J169 uL
def p_X5_hourOn_L73 : Nat → tX5 → Int32 → Int32 → Option tX5
  | 0, _, _, _ => none
  | n + 1, uL, l73_1, l73_2 =>
    if uL.2.2.2.2.2.2.2.1 ≤ l73_2 then
      p_X5_hourOn_J152 uL
    else
      if (uL.2.2.2.2.2.2.2.2.2.2.2.2.2.2.2.1 8) = l73_1 then
        bd (p_X5_reads uL l73_2) (fun v4 =>
        if v4 = 0 then
          (p_X5_hourOn_L73 n) uL l73_1 (l73_2 + 1)
        else
          gd ((33 : Int32) + l73_2) 41 (
          if (uL.2.2.2.2.2.2.2.2.2.2.2.2.2.2.2.1 ((33 : Int32) + l73_2).toNatClampNeg) = 0 then
            (p_X5_hourOn_L73 n) (uL.1, uL.2.1, uL.2.2.1, uL.2.2.2.1, uL.2.2.2.2.1, uL.2.2.2.2.2.1, uL.2.2.2.2.2.2.1, uL.2.2.2.2.2.2.2.1, uL.2.2.2.2.2.2.2.2.1, uL.2.2.2.2.2.2.2.2.2.1, uL.2.2.2.2.2.2.2.2.2.2.1, uL.2.2.2.2.2.2.2.2.2.2.2.1, uL.2.2.2.2.2.2.2.2.2.2.2.2.1, uL.2.2.2.2.2.2.2.2.2.2.2.2.2.1, uL.2.2.2.2.2.2.2.2.2.2.2.2.2.2.1, (upd uL.2.2.2.2.2.2.2.2.2.2.2.2.2.2.2.1 7 ((uL.2.2.2.2.2.2.2.2.2.2.2.2.2.2.2.1 7) &&& (((1 : Int32) <<< (l73_2 &&& 31)) ^^^ (-1 : Int32)))), uL.2.2.2.2.2.2.2.2.2.2.2.2.2.2.2.2.1, uL.2.2.2.2.2.2.2.2.2.2.2.2.2.2.2.2.2) l73_1 (l73_2 + 1)
          else
            (p_X5_hourOn_L73 n) (uL.1, uL.2.1, uL.2.2.1, uL.2.2.2.1, uL.2.2.2.2.1, uL.2.2.2.2.2.1, uL.2.2.2.2.2.2.1, uL.2.2.2.2.2.2.2.1, uL.2.2.2.2.2.2.2.2.1, uL.2.2.2.2.2.2.2.2.2.1, uL.2.2.2.2.2.2.2.2.2.2.1, uL.2.2.2.2.2.2.2.2.2.2.2.1, uL.2.2.2.2.2.2.2.2.2.2.2.2.1, uL.2.2.2.2.2.2.2.2.2.2.2.2.2.1, uL.2.2.2.2.2.2.2.2.2.2.2.2.2.2.1, (upd uL.2.2.2.2.2.2.2.2.2.2.2.2.2.2.2.1 ((33 : Int32) + l73_2).toNatClampNeg ((uL.2.2.2.2.2.2.2.2.2.2.2.2.2.2.2.1 ((33 : Int32) + l73_2).toNatClampNeg) - (1 : Int32))), uL.2.2.2.2.2.2.2.2.2.2.2.2.2.2.2.2.1, uL.2.2.2.2.2.2.2.2.2.2.2.2.2.2.2.2.2) l73_1 (l73_2 + 1)))
      else
        p_X5_hourOn_J152 uL
def p_X5_hourOn_J61 (uL : tX5) (l61_1 : Int32) (s61_0 : Int32) (s61_1 : Int32) (s61_2 : Int32) (s61_3 : Int32) : Option tX5 :=
  gd s61_3 41 (
  p_X5_hourOn_L73 200 (uL.1, uL.2.1, uL.2.2.1, uL.2.2.2.1, uL.2.2.2.2.1, uL.2.2.2.2.2.1, uL.2.2.2.2.2.2.1, uL.2.2.2.2.2.2.2.1, uL.2.2.2.2.2.2.2.2.1, uL.2.2.2.2.2.2.2.2.2.1, uL.2.2.2.2.2.2.2.2.2.2.1, uL.2.2.2.2.2.2.2.2.2.2.2.1, uL.2.2.2.2.2.2.2.2.2.2.2.2.1, uL.2.2.2.2.2.2.2.2.2.2.2.2.2.1, uL.2.2.2.2.2.2.2.2.2.2.2.2.2.2.1, (upd uL.2.2.2.2.2.2.2.2.2.2.2.2.2.2.2.1 s61_3.toNatClampNeg (s61_2 + (s61_1 + s61_0))), uL.2.2.2.2.2.2.2.2.2.2.2.2.2.2.2.2.1, uL.2.2.2.2.2.2.2.2.2.2.2.2.2.2.2.2.2) l61_1 (0 : Int32))
def p_X5_hourOn (uL : tX5) : Option tX5 :=
  if (uL.2.2.2.2.2.2.2.2.2.2.2.2.2.2.2.1 3) ≤ 0 then
    bd (p_X5_ride (uL.1, uL.2.1, uL.2.2.1, uL.2.2.2.1, uL.2.2.2.2.1, uL.2.2.2.2.2.1, uL.2.2.2.2.2.2.1, uL.2.2.2.2.2.2.2.1, uL.2.2.2.2.2.2.2.2.1, uL.2.2.2.2.2.2.2.2.2.1, uL.2.2.2.2.2.2.2.2.2.2.1, uL.2.2.2.2.2.2.2.2.2.2.2.1, uL.2.2.2.2.2.2.2.2.2.2.2.2.1, uL.2.2.2.2.2.2.2.2.2.2.2.2.2.1, uL.2.2.2.2.2.2.2.2.2.2.2.2.2.2.1, uL.2.2.2.2.2.2.2.2.2.2.2.2.2.2.2.1, uL.2.2.2.2.2.2.2.2.2.2.2.2.2.2.2.2.1, (-1 : Int32))) (fun v1 =>
    p_X5_hourOn_L73 200 v1 (uL.2.2.2.2.2.2.2.2.2.2.2.2.2.2.2.1 8) (0 : Int32))
  else
    if (uL.2.2.2.2.2.2.2.2.2.2.2.2.2.2.2.1 8) = 0 then
      p_X5_hourOn_J61 (uL.1, uL.2.1, uL.2.2.1, uL.2.2.2.1, uL.2.2.2.2.1, uL.2.2.2.2.2.1, uL.2.2.2.2.2.2.1, uL.2.2.2.2.2.2.2.1, uL.2.2.2.2.2.2.2.2.1, uL.2.2.2.2.2.2.2.2.2.1, uL.2.2.2.2.2.2.2.2.2.2.1, uL.2.2.2.2.2.2.2.2.2.2.2.1, uL.2.2.2.2.2.2.2.2.2.2.2.2.1, uL.2.2.2.2.2.2.2.2.2.2.2.2.2.1, uL.2.2.2.2.2.2.2.2.2.2.2.2.2.2.1, (upd uL.2.2.2.2.2.2.2.2.2.2.2.2.2.2.2.1 3 ((uL.2.2.2.2.2.2.2.2.2.2.2.2.2.2.2.1 3) - (1 : Int32))), uL.2.2.2.2.2.2.2.2.2.2.2.2.2.2.2.2.1, (-1 : Int32)) (uL.2.2.2.2.2.2.2.2.2.2.2.2.2.2.2.1 8) (0 : Int32) (1 : Int32) ((upd uL.2.2.2.2.2.2.2.2.2.2.2.2.2.2.2.1 3 ((uL.2.2.2.2.2.2.2.2.2.2.2.2.2.2.2.1 3) - (1 : Int32))) 5) (5 : Int32)
    else
      gd ((uL.2.2.2.2.2.2.2.2.2.2.2.2.2.2.2.1 8) - (1 : Int32)) 108 (
      gd (uL.2.2.2.2.2.2.2.2.2.2.2.2.1 ((uL.2.2.2.2.2.2.2.2.2.2.2.2.2.2.2.1 8) - (1 : Int32)).toNatClampNeg) 108 (
      p_X5_hourOn_J61 (uL.1, uL.2.1, uL.2.2.1, uL.2.2.2.1, uL.2.2.2.2.1, uL.2.2.2.2.2.1, uL.2.2.2.2.2.2.1, uL.2.2.2.2.2.2.2.1, uL.2.2.2.2.2.2.2.2.1, uL.2.2.2.2.2.2.2.2.2.1, uL.2.2.2.2.2.2.2.2.2.2.1, uL.2.2.2.2.2.2.2.2.2.2.2.1, uL.2.2.2.2.2.2.2.2.2.2.2.2.1, uL.2.2.2.2.2.2.2.2.2.2.2.2.2.1, uL.2.2.2.2.2.2.2.2.2.2.2.2.2.2.1, (upd uL.2.2.2.2.2.2.2.2.2.2.2.2.2.2.2.1 3 ((uL.2.2.2.2.2.2.2.2.2.2.2.2.2.2.2.1 3) - (1 : Int32))), uL.2.2.2.2.2.2.2.2.2.2.2.2.2.2.2.2.1, (-1 : Int32)) (uL.2.2.2.2.2.2.2.2.2.2.2.2.2.2.2.1 8) (uL.2.2.2.2.2.2.1 (uL.2.2.2.2.2.2.2.2.2.2.2.2.1 ((uL.2.2.2.2.2.2.2.2.2.2.2.2.2.2.2.1 8) - (1 : Int32)).toNatClampNeg).toNatClampNeg) (1 : Int32) ((upd uL.2.2.2.2.2.2.2.2.2.2.2.2.2.2.2.1 3 ((uL.2.2.2.2.2.2.2.2.2.2.2.2.2.2.2.1 3) - (1 : Int32))) 5) (5 : Int32)))
set_option maxHeartbeats 4000000 in
set_option maxRecDepth 100000 in
theorem c_X5_hourOn (l : Launch) (dC : Nat → ClassId) (dI : Nat → Nat → Nat) (cI cZ : ClassId) (l0 l4 l5 l6 l8 l10 l11 l12 l13 l14 l15 l16 : Nat) (sz : Nat) (uL : tX5) {z : tX5} (hok : p_X5_hourOn uL = some z) : Met l yX5_hourOn (Cond.code yX5_hourOn cX5_hourOn 3 none :: lw_all) { frames := 5, cells := 0, slots := 0, locals := 107 } (prW (dC, dI) vwCl (TYS cI cZ) ((wX5 cI cZ l0 l4 l5 l6 l8 l10 l11 l12 l13 l14 l15 l16 uL)) sz [.ref l0]) (va_Qv (fun _ : Unit => True) (fun _ t => va_P (dC, dI) vwCl ((wX5 cI cZ l0 l4 l5 l6 l8 l10 l11 l12 l13 l14 l15 l16 z)) t.heap) (va_A ((wX5 cI cZ l0 l4 l5 l6 l8 l10 l11 l12 l13 l14 l15 l16 uL)) sz)) 0 0 (va_A ((wX5 cI cZ l0 l4 l5 l6 l8 l10 l11 l12 l13 l14 l15 l16 uL)) sz) := by
  refine oM (by decide) (Nat.le_of_ble_eq_true rfl) ?_
  intro p e s m args below meth c S hr hlk hnm hB ls hl
  have hx := S.1
  have hb := S.2.1
  have hml := S.2.2.1
  have hown : s.vm.findClass RX5 = some m.cls := S.2.2.2.1
  have hts := S.2.2.2.2
  have S : CallFix p m c cX5_hourOn 3 s args lw_all RX5 := S
  have hl : lv_has ls 3 [(0, .ref l0)] := hl
  obtain ⟨hsz, hP, hK, hD0⟩ := hB
  subst hsz
  have hD := hD0.self (sz := s.heap.size)
  generalize hAe : va_A ((wX5 cI cZ l0 l4 l5 l6 l8 l10 l11 l12 l13 l14 l15 l16 uL)) s.heap.size = A at hD ⊢
  have hA : ∀ q : Nat, s.heap.size ≤ q → A q := fun q h => by rw [← hAe]; exact Or.inr h
  have hS : va_S A s.heap s.heap [] := va_S.rf
  have hP : va_P (dC, dI) vwCl ((wX5 cI cZ l0 l4 l5 l6 l8 l10 l11 l12 l13 l14 l15 l16 uL)) s.heap := hP
  have J212 : ∀ (uL : tX5) (H : Heap) (locs : List Loc) (hP : va_P (dC, dI) vwCl ((wX5 cI cZ l0 l4 l5 l6 l8 l10 l11 l12 l13 l14 l15 l16 uL)) H) (hD : va_D A ((wX5 cI cZ l0 l4 l5 l6 l8 l10 l11 l12 l13 l14 l15 l16 uL))) (hS : va_S A s.heap H locs) (ls : Array Slot) (hl : lv_has ls 3 [(0, .ref l0)]) (hok : p_X5_hourOn_J212 uL = some z), W p l e { frames := 5, cells := 0, slots := 0, locals := 107 } s m args below meth c H locs 0 0 (MQ below (va_Qv (fun _ : Unit => True) (fun _ t => va_P (dC, dI) vwCl ((wX5 cI cZ l0 l4 l5 l6 l8 l10 l11 l12 l13 l14 l15 l16 z)) t.heap) A) args s 0 0 A) (F0 m 212 ls []) := by
    intro uL H locs hP hD hS ls hl hok
    unfold p_X5_hourOn_J212 at hok
    refine lv_aload_n hx hb dX5_hourOn_212 rfl (lv_at hl 0 rfl) ?_
    refine va_get (D := (dC, dI)) (ci := 5) (v := .ref l15) (C := RX5) (T := TX5) (N := 18) hx hb hts inX5 hown hK hP 0 rfl rfl 15 (by decide) (hts _ qf_X5_44) (fun _ h9 => h9) rfl dX5_hourOn_213 ?_
    refine lv_iconst (v := (0 : Int32)) hx hb dX5_hourOn_216 (by decide) ?_
    refine lv_dup2_11 hx hb dX5_hourOn_217 rfl rfl ?_
    refine va_ialdK hx hb hK hP 10 0 rfl rfl (j := 0) (by decide) (vp_inK (by decide)) dX5_hourOn_218 ?_
    refine lv_iconst (v := (1 : Int32)) hx hb dX5_hourOn_219 (by decide) ?_
    refine lv_iadd hx hb dX5_hourOn_220 ?_
    refine va_iastK hx hb hK hP hD hS 10 0 rfl rfl (j := 0) (by decide) (vp_inK (by decide)) dX5_hourOn_221 (fun H locs hP _ hS => ?_)
    have hP : va_P (dC, dI) vwCl ((wX5 cI cZ l0 l4 l5 l6 l8 l10 l11 l12 l13 l14 l15 l16 (uL.1, uL.2.1, uL.2.2.1, uL.2.2.2.1, uL.2.2.2.2.1, uL.2.2.2.2.2.1, uL.2.2.2.2.2.2.1, uL.2.2.2.2.2.2.2.1, uL.2.2.2.2.2.2.2.2.1, uL.2.2.2.2.2.2.2.2.2.1, uL.2.2.2.2.2.2.2.2.2.2.1, uL.2.2.2.2.2.2.2.2.2.2.2.1, uL.2.2.2.2.2.2.2.2.2.2.2.2.1, uL.2.2.2.2.2.2.2.2.2.2.2.2.2.1, uL.2.2.2.2.2.2.2.2.2.2.2.2.2.2.1, (upd uL.2.2.2.2.2.2.2.2.2.2.2.2.2.2.2.1 0 ((uL.2.2.2.2.2.2.2.2.2.2.2.2.2.2.2.1 0) + (1 : Int32))), uL.2.2.2.2.2.2.2.2.2.2.2.2.2.2.2.2.1, uL.2.2.2.2.2.2.2.2.2.2.2.2.2.2.2.2.2))) H := hP
    have hD : va_D A ((wX5 cI cZ l0 l4 l5 l6 l8 l10 l11 l12 l13 l14 l15 l16 (uL.1, uL.2.1, uL.2.2.1, uL.2.2.2.1, uL.2.2.2.2.1, uL.2.2.2.2.2.1, uL.2.2.2.2.2.2.1, uL.2.2.2.2.2.2.2.1, uL.2.2.2.2.2.2.2.2.1, uL.2.2.2.2.2.2.2.2.2.1, uL.2.2.2.2.2.2.2.2.2.2.1, uL.2.2.2.2.2.2.2.2.2.2.2.1, uL.2.2.2.2.2.2.2.2.2.2.2.2.1, uL.2.2.2.2.2.2.2.2.2.2.2.2.2.1, uL.2.2.2.2.2.2.2.2.2.2.2.2.2.2.1, (upd uL.2.2.2.2.2.2.2.2.2.2.2.2.2.2.2.1 0 ((uL.2.2.2.2.2.2.2.2.2.2.2.2.2.2.2.1 0) + (1 : Int32))), uL.2.2.2.2.2.2.2.2.2.2.2.2.2.2.2.2.1, uL.2.2.2.2.2.2.2.2.2.2.2.2.2.2.2.2.2))) := D_L hD
    have hok := Option.some.inj hok
    subst hok
    exact eWv S hr hlk hP hS (Nat.le_of_ble_eq_true rfl) (Nat.le_of_ble_eq_true rfl) dX5_hourOn_222
  have J169 : ∀ (uL : tX5) (H : Heap) (locs : List Loc) (hP : va_P (dC, dI) vwCl ((wX5 cI cZ l0 l4 l5 l6 l8 l10 l11 l12 l13 l14 l15 l16 uL)) H) (hD : va_D A ((wX5 cI cZ l0 l4 l5 l6 l8 l10 l11 l12 l13 l14 l15 l16 uL))) (hS : va_S A s.heap H locs) (ls : Array Slot) (hl : lv_has ls 3 [(0, .ref l0)]) (hok : p_X5_hourOn_J169 uL = some z), W p l e { frames := 5, cells := 0, slots := 0, locals := 107 } s m args below meth c H locs 0 0 (MQ below (va_Qv (fun _ : Unit => True) (fun _ t => va_P (dC, dI) vwCl ((wX5 cI cZ l0 l4 l5 l6 l8 l10 l11 l12 l13 l14 l15 l16 z)) t.heap) A) args s 0 0 A) (F0 m 169 ls []) := by
    intro uL H locs hP hD hS ls hl hok
    unfold p_X5_hourOn_J169 at hok
    refine lv_aload_n hx hb dX5_hourOn_169 rfl (lv_at hl 0 rfl) ?_
    refine va_get (D := (dC, dI)) (ci := 5) (v := .ref l15) (C := RX5) (T := TX5) (N := 18) hx hb hts inX5 hown hK hP 0 rfl rfl 15 (by decide) (hts _ qf_X5_44) (fun _ h9 => h9) rfl dX5_hourOn_170 ?_
    refine lv_iconst (v := (3 : Int32)) hx hb dX5_hourOn_173 (by decide) ?_
    refine va_ialdK hx hb hK hP 10 0 rfl rfl (j := 3) (by decide) (vp_inK (by decide)) dX5_hourOn_174 ?_
    refine lv_if_ne (tgt := 212) hx hb dX5_hourOn_175 (by decide) (fun hc => ?_) (fun hc => ?_)
    · have hok := iq hok hc
      exact J212 uL _ _ hP hD hS _ hl hok
    · have hok := ip hok hc
      refine lv_aload_n hx hb dX5_hourOn_178 rfl (lv_at hl 0 rfl) ?_
      refine va_get (D := (dC, dI)) (ci := 5) (v := .ref l15) (C := RX5) (T := TX5) (N := 18) hx hb hts inX5 hown hK hP 0 rfl rfl 15 (by decide) (hts _ qf_X5_44) (fun _ h9 => h9) rfl dX5_hourOn_179 ?_
      refine lv_iconst (v := (4 : Int32)) hx hb dX5_hourOn_182 (by decide) ?_
      refine va_ialdK hx hb hK hP 10 0 rfl rfl (j := 4) (by decide) (vp_inK (by decide)) dX5_hourOn_183 ?_
      refine lv_aload_n hx hb dX5_hourOn_184 rfl (lv_at hl 0 rfl) ?_
      refine va_get (D := (dC, dI)) (ci := 5) (v := .int uL.2.2.1) (C := RX5) (T := TX5) (N := 18) hx hb hts inX5 hown hK hP 0 rfl rfl 2 (by decide) (hts _ qf_X5_13) (fun _ h9 => h9) rfl dX5_hourOn_185 ?_
      refine lv_icmp_lt (tgt := 212) hx hb dX5_hourOn_188 (by decide) (fun hc => ?_) (fun hc => ?_)
      · have hok := ip hok hc
        exact J212 uL _ _ hP hD hS _ hl hok
      · have hok := iq hok hc
        refine lv_aload_n hx hb dX5_hourOn_191 rfl (lv_at hl 0 rfl) ?_
        refine va_get (D := (dC, dI)) (ci := 5) (v := .ref l15) (C := RX5) (T := TX5) (N := 18) hx hb hts inX5 hown hK hP 0 rfl rfl 15 (by decide) (hts _ qf_X5_44) (fun _ h9 => h9) rfl dX5_hourOn_192 ?_
        refine lv_iconst (v := (3 : Int32)) hx hb dX5_hourOn_195 (by decide) ?_
        refine lv_aload_n hx hb dX5_hourOn_196 rfl (lv_at hl 0 rfl) ?_
        refine va_get (D := (dC, dI)) (ci := 5) (v := .int uL.2.2.1) (C := RX5) (T := TX5) (N := 18) hx hb hts inX5 hown hK hP 0 rfl rfl 2 (by decide) (hts _ qf_X5_13) (fun _ h9 => h9) rfl dX5_hourOn_197 ?_
        refine lv_iconst (v := (4 : Int32)) hx hb dX5_hourOn_200 (by decide) ?_
        refine lv_idiv hx hb dX5_hourOn_201 (by decide) ?_
        refine lv_iconst (v := (1 : Int32)) hx hb dX5_hourOn_202 (by decide) ?_
        refine lv_iadd hx hb dX5_hourOn_203 ?_
        refine va_iastK hx hb hK hP hD hS 10 0 rfl rfl (j := 3) (by decide) (vp_inK (by decide)) dX5_hourOn_204 (fun H locs hP _ hS => ?_)
        have hP : va_P (dC, dI) vwCl ((wX5 cI cZ l0 l4 l5 l6 l8 l10 l11 l12 l13 l14 l15 l16 (uL.1, uL.2.1, uL.2.2.1, uL.2.2.2.1, uL.2.2.2.2.1, uL.2.2.2.2.2.1, uL.2.2.2.2.2.2.1, uL.2.2.2.2.2.2.2.1, uL.2.2.2.2.2.2.2.2.1, uL.2.2.2.2.2.2.2.2.2.1, uL.2.2.2.2.2.2.2.2.2.2.1, uL.2.2.2.2.2.2.2.2.2.2.2.1, uL.2.2.2.2.2.2.2.2.2.2.2.2.1, uL.2.2.2.2.2.2.2.2.2.2.2.2.2.1, uL.2.2.2.2.2.2.2.2.2.2.2.2.2.2.1, (upd uL.2.2.2.2.2.2.2.2.2.2.2.2.2.2.2.1 3 ((uL.2.2.1 / (4 : Int32)) + (1 : Int32))), uL.2.2.2.2.2.2.2.2.2.2.2.2.2.2.2.2.1, uL.2.2.2.2.2.2.2.2.2.2.2.2.2.2.2.2.2))) H := hP
        have hD : va_D A ((wX5 cI cZ l0 l4 l5 l6 l8 l10 l11 l12 l13 l14 l15 l16 (uL.1, uL.2.1, uL.2.2.1, uL.2.2.2.1, uL.2.2.2.2.1, uL.2.2.2.2.2.1, uL.2.2.2.2.2.2.1, uL.2.2.2.2.2.2.2.1, uL.2.2.2.2.2.2.2.2.1, uL.2.2.2.2.2.2.2.2.2.1, uL.2.2.2.2.2.2.2.2.2.2.1, uL.2.2.2.2.2.2.2.2.2.2.2.1, uL.2.2.2.2.2.2.2.2.2.2.2.2.1, uL.2.2.2.2.2.2.2.2.2.2.2.2.2.1, uL.2.2.2.2.2.2.2.2.2.2.2.2.2.2.1, (upd uL.2.2.2.2.2.2.2.2.2.2.2.2.2.2.2.1 3 ((uL.2.2.1 / (4 : Int32)) + (1 : Int32))), uL.2.2.2.2.2.2.2.2.2.2.2.2.2.2.2.2.1, uL.2.2.2.2.2.2.2.2.2.2.2.2.2.2.2.2.2))) := D_L hD
        refine lv_aload_n hx hb dX5_hourOn_205 rfl (lv_at hl 0 rfl) ?_
        refine va_get (D := (dC, dI)) (ci := 5) (v := .ref l15) (C := RX5) (T := TX5) (N := 18) hx hb hts inX5 hown hK hP 0 rfl rfl 15 (by decide) (hts _ qf_X5_44) (fun _ h9 => h9) rfl dX5_hourOn_206 ?_
        refine lv_iconst (v := (4 : Int32)) hx hb dX5_hourOn_209 (by decide) ?_
        refine lv_iconst (v := (0 : Int32)) hx hb dX5_hourOn_210 (by decide) ?_
        refine va_iastK hx hb hK hP hD hS 10 0 rfl rfl (j := 4) (by decide) (vp_inK (by decide)) dX5_hourOn_211 (fun H locs hP _ hS => ?_)
        have hP : va_P (dC, dI) vwCl ((wX5 cI cZ l0 l4 l5 l6 l8 l10 l11 l12 l13 l14 l15 l16 (uL.1, uL.2.1, uL.2.2.1, uL.2.2.2.1, uL.2.2.2.2.1, uL.2.2.2.2.2.1, uL.2.2.2.2.2.2.1, uL.2.2.2.2.2.2.2.1, uL.2.2.2.2.2.2.2.2.1, uL.2.2.2.2.2.2.2.2.2.1, uL.2.2.2.2.2.2.2.2.2.2.1, uL.2.2.2.2.2.2.2.2.2.2.2.1, uL.2.2.2.2.2.2.2.2.2.2.2.2.1, uL.2.2.2.2.2.2.2.2.2.2.2.2.2.1, uL.2.2.2.2.2.2.2.2.2.2.2.2.2.2.1, (upd (upd uL.2.2.2.2.2.2.2.2.2.2.2.2.2.2.2.1 3 ((uL.2.2.1 / (4 : Int32)) + (1 : Int32))) 4 (0 : Int32)), uL.2.2.2.2.2.2.2.2.2.2.2.2.2.2.2.2.1, uL.2.2.2.2.2.2.2.2.2.2.2.2.2.2.2.2.2))) H := hP
        have hD : va_D A ((wX5 cI cZ l0 l4 l5 l6 l8 l10 l11 l12 l13 l14 l15 l16 (uL.1, uL.2.1, uL.2.2.1, uL.2.2.2.1, uL.2.2.2.2.1, uL.2.2.2.2.2.1, uL.2.2.2.2.2.2.1, uL.2.2.2.2.2.2.2.1, uL.2.2.2.2.2.2.2.2.1, uL.2.2.2.2.2.2.2.2.2.1, uL.2.2.2.2.2.2.2.2.2.2.1, uL.2.2.2.2.2.2.2.2.2.2.2.1, uL.2.2.2.2.2.2.2.2.2.2.2.2.1, uL.2.2.2.2.2.2.2.2.2.2.2.2.2.1, uL.2.2.2.2.2.2.2.2.2.2.2.2.2.2.1, (upd (upd uL.2.2.2.2.2.2.2.2.2.2.2.2.2.2.2.1 3 ((uL.2.2.1 / (4 : Int32)) + (1 : Int32))) 4 (0 : Int32)), uL.2.2.2.2.2.2.2.2.2.2.2.2.2.2.2.2.1, uL.2.2.2.2.2.2.2.2.2.2.2.2.2.2.2.2.2))) := D_L hD
        exact J212 (uL.1, uL.2.1, uL.2.2.1, uL.2.2.2.1, uL.2.2.2.2.1, uL.2.2.2.2.2.1, uL.2.2.2.2.2.2.1, uL.2.2.2.2.2.2.2.1, uL.2.2.2.2.2.2.2.2.1, uL.2.2.2.2.2.2.2.2.2.1, uL.2.2.2.2.2.2.2.2.2.2.1, uL.2.2.2.2.2.2.2.2.2.2.2.1, uL.2.2.2.2.2.2.2.2.2.2.2.2.1, uL.2.2.2.2.2.2.2.2.2.2.2.2.2.1, uL.2.2.2.2.2.2.2.2.2.2.2.2.2.2.1, (upd (upd uL.2.2.2.2.2.2.2.2.2.2.2.2.2.2.2.1 3 ((uL.2.2.1 / (4 : Int32)) + (1 : Int32))) 4 (0 : Int32)), uL.2.2.2.2.2.2.2.2.2.2.2.2.2.2.2.2.1, uL.2.2.2.2.2.2.2.2.2.2.2.2.2.2.2.2.2) _ _ hP hD hS _ hl hok
  have J152 : ∀ (uL : tX5) (H : Heap) (locs : List Loc) (hP : va_P (dC, dI) vwCl ((wX5 cI cZ l0 l4 l5 l6 l8 l10 l11 l12 l13 l14 l15 l16 uL)) H) (hD : va_D A ((wX5 cI cZ l0 l4 l5 l6 l8 l10 l11 l12 l13 l14 l15 l16 uL))) (hS : va_S A s.heap H locs) (ls : Array Slot) (hl : lv_has ls 3 [(0, .ref l0)]) (hok : p_X5_hourOn_J152 uL = some z), W p l e { frames := 5, cells := 0, slots := 0, locals := 107 } s m args below meth c H locs 0 0 (MQ below (va_Qv (fun _ : Unit => True) (fun _ t => va_P (dC, dI) vwCl ((wX5 cI cZ l0 l4 l5 l6 l8 l10 l11 l12 l13 l14 l15 l16 z)) t.heap) A) args s 0 0 A) (F0 m 152 ls []) := by
    intro uL H locs hP hD hS ls hl hok
    unfold p_X5_hourOn_J152 at hok
    refine lv_aload_n hx hb dX5_hourOn_152 rfl (lv_at hl 0 rfl) ?_
    refine va_get (D := (dC, dI)) (ci := 5) (v := .ref l15) (C := RX5) (T := TX5) (N := 18) hx hb hts inX5 hown hK hP 0 rfl rfl 15 (by decide) (hts _ qf_X5_44) (fun _ h9 => h9) rfl dX5_hourOn_153 ?_
    refine lv_bipush (v := (6 : Int32)) hx hb dX5_hourOn_156 (by decide) ?_
    refine va_ialdK hx hb hK hP 10 0 rfl rfl (j := 6) (by decide) (vp_inK (by decide)) dX5_hourOn_158 ?_
    refine lv_if_ne (tgt := 169) hx hb dX5_hourOn_159 (by decide) (fun hc => ?_) (fun hc => ?_)
    · have hok := iq hok hc
      exact J169 uL _ _ hP hD hS _ hl hok
    · have hok := ip hok hc
      refine lv_aload_n hx hb dX5_hourOn_162 rfl (lv_at hl 0 rfl) ?_
      refine va_get (D := (dC, dI)) (ci := 5) (v := .ref l15) (C := RX5) (T := TX5) (N := 18) hx hb hts inX5 hown hK hP 0 rfl rfl 15 (by decide) (hts _ qf_X5_44) (fun _ h9 => h9) rfl dX5_hourOn_163 ?_
      refine lv_iconst (v := (2 : Int32)) hx hb dX5_hourOn_166 (by decide) ?_
      refine lv_iconst (v := (0 : Int32)) hx hb dX5_hourOn_167 (by decide) ?_
      refine va_iastK hx hb hK hP hD hS 10 0 rfl rfl (j := 2) (by decide) (vp_inK (by decide)) dX5_hourOn_168 (fun H locs hP _ hS => ?_)
      have hP : va_P (dC, dI) vwCl ((wX5 cI cZ l0 l4 l5 l6 l8 l10 l11 l12 l13 l14 l15 l16 (uL.1, uL.2.1, uL.2.2.1, uL.2.2.2.1, uL.2.2.2.2.1, uL.2.2.2.2.2.1, uL.2.2.2.2.2.2.1, uL.2.2.2.2.2.2.2.1, uL.2.2.2.2.2.2.2.2.1, uL.2.2.2.2.2.2.2.2.2.1, uL.2.2.2.2.2.2.2.2.2.2.1, uL.2.2.2.2.2.2.2.2.2.2.2.1, uL.2.2.2.2.2.2.2.2.2.2.2.2.1, uL.2.2.2.2.2.2.2.2.2.2.2.2.2.1, uL.2.2.2.2.2.2.2.2.2.2.2.2.2.2.1, (upd uL.2.2.2.2.2.2.2.2.2.2.2.2.2.2.2.1 2 (0 : Int32)), uL.2.2.2.2.2.2.2.2.2.2.2.2.2.2.2.2.1, uL.2.2.2.2.2.2.2.2.2.2.2.2.2.2.2.2.2))) H := hP
      have hD : va_D A ((wX5 cI cZ l0 l4 l5 l6 l8 l10 l11 l12 l13 l14 l15 l16 (uL.1, uL.2.1, uL.2.2.1, uL.2.2.2.1, uL.2.2.2.2.1, uL.2.2.2.2.2.1, uL.2.2.2.2.2.2.1, uL.2.2.2.2.2.2.2.1, uL.2.2.2.2.2.2.2.2.1, uL.2.2.2.2.2.2.2.2.2.1, uL.2.2.2.2.2.2.2.2.2.2.1, uL.2.2.2.2.2.2.2.2.2.2.2.1, uL.2.2.2.2.2.2.2.2.2.2.2.2.1, uL.2.2.2.2.2.2.2.2.2.2.2.2.2.1, uL.2.2.2.2.2.2.2.2.2.2.2.2.2.2.1, (upd uL.2.2.2.2.2.2.2.2.2.2.2.2.2.2.2.1 2 (0 : Int32)), uL.2.2.2.2.2.2.2.2.2.2.2.2.2.2.2.2.1, uL.2.2.2.2.2.2.2.2.2.2.2.2.2.2.2.2.2))) := D_L hD
      exact J169 (uL.1, uL.2.1, uL.2.2.1, uL.2.2.2.1, uL.2.2.2.2.1, uL.2.2.2.2.2.1, uL.2.2.2.2.2.2.1, uL.2.2.2.2.2.2.2.1, uL.2.2.2.2.2.2.2.2.1, uL.2.2.2.2.2.2.2.2.2.1, uL.2.2.2.2.2.2.2.2.2.2.1, uL.2.2.2.2.2.2.2.2.2.2.2.1, uL.2.2.2.2.2.2.2.2.2.2.2.2.1, uL.2.2.2.2.2.2.2.2.2.2.2.2.2.1, uL.2.2.2.2.2.2.2.2.2.2.2.2.2.2.1, (upd uL.2.2.2.2.2.2.2.2.2.2.2.2.2.2.2.1 2 (0 : Int32)), uL.2.2.2.2.2.2.2.2.2.2.2.2.2.2.2.2.1, uL.2.2.2.2.2.2.2.2.2.2.2.2.2.2.2.2.2) _ _ hP hD hS _ hl hok
  have L73 : ∀ n73 : Nat, ∀ (uL : tX5) (l73_1 : Int32) (l73_2 : Int32) (H : Heap) (locs : List Loc) (hP : va_P (dC, dI) vwCl ((wX5 cI cZ l0 l4 l5 l6 l8 l10 l11 l12 l13 l14 l15 l16 uL)) H) (hD : va_D A ((wX5 cI cZ l0 l4 l5 l6 l8 l10 l11 l12 l13 l14 l15 l16 uL))) (hS : va_S A s.heap H locs) (ls : Array Slot) (hl : lv_has ls 3 [(0, .ref l0), (1, .int l73_1), (2, .int l73_2)]) (hok : p_X5_hourOn_L73 n73 uL l73_1 l73_2 = some z), W p l e { frames := 5, cells := 0, slots := 0, locals := 107 } s m args below meth c H locs 0 0 (MQ below (va_Qv (fun _ : Unit => True) (fun _ t => va_P (dC, dI) vwCl ((wX5 cI cZ l0 l4 l5 l6 l8 l10 l11 l12 l13 l14 l15 l16 z)) t.heap) A) args s 0 0 A) (F0 m 73 ls []) := by
    intro n73
    induction n73 with
    | zero =>
      intro uL l73_1 l73_2 H locs hP hD hS ls hl hok
      rw [p_X5_hourOn_L73] at hok
      cases hok
    | succ n73 ih73 =>
      intro uL l73_1 l73_2 H locs hP hD hS ls hl hok
      rw [p_X5_hourOn_L73] at hok
      refine lv_iload_n hx hb dX5_hourOn_73 rfl (lv_at hl 2 rfl) ?_
      refine lv_aload_n hx hb dX5_hourOn_74 rfl (lv_at hl 0 rfl) ?_
      refine va_get (D := (dC, dI)) (ci := 5) (v := .int uL.2.2.2.2.2.2.2.1) (C := RX5) (T := TX5) (N := 18) hx hb hts inX5 hown hK hP 0 rfl rfl 7 (by decide) (hts _ qf_X5_57) (fun _ h9 => h9) rfl dX5_hourOn_75 ?_
      refine lv_icmp_ge (tgt := 152) hx hb dX5_hourOn_78 (by decide) (fun hc => ?_) (fun hc => ?_)
      · have hok := ip hok hc
        exact J152 uL _ _ hP hD hS _ (lv_sub hl [0] rfl) hok
      · have hok := iq hok hc
        refine lv_aload_n hx hb dX5_hourOn_81 rfl (lv_at hl 0 rfl) ?_
        refine va_get (D := (dC, dI)) (ci := 5) (v := .ref l15) (C := RX5) (T := TX5) (N := 18) hx hb hts inX5 hown hK hP 0 rfl rfl 15 (by decide) (hts _ qf_X5_44) (fun _ h9 => h9) rfl dX5_hourOn_82 ?_
        refine lv_bipush (v := (8 : Int32)) hx hb dX5_hourOn_85 (by decide) ?_
        refine va_ialdK hx hb hK hP 10 0 rfl rfl (j := 8) (by decide) (vp_inK (by decide)) dX5_hourOn_87 ?_
        refine lv_iload_n hx hb dX5_hourOn_88 rfl (lv_at hl 1 rfl) ?_
        refine lv_icmp_ne (tgt := 152) hx hb dX5_hourOn_89 (by decide) (fun hc => ?_) (fun hc => ?_)
        · have hok := iq hok hc
          exact J152 uL _ _ hP hD hS _ (lv_sub hl [0] rfl) hok
        · have hok := ip hok hc
          refine lv_aload_n hx hb dX5_hourOn_92 rfl (lv_at hl 0 rfl) ?_
          refine lv_iload_n hx hb dX5_hourOn_93 rfl (lv_at hl 2 rfl) ?_
          obtain ⟨v4, hc4, hok⟩ := bd_some hok
          refine cRVi (ci := 5) (q0 := 0) [.int l73_2] S hK hP (c_X5_reads l dC dI cI cZ l0 l4 l5 l6 l8 l10 l11 l12 l13 l14 l15 l16 uL l73_2 hc4) (lw_V qm_X5_73 qi_X5_reads qs_X5_reads qn_X5 qc_X5_reads) hd_X5_reads ⟨rfl, rfl⟩ ⟨Nat.le_of_ble_eq_true rfl, Nat.le_of_ble_eq_true rfl⟩ ⟨Nat.le_of_ble_eq_true rfl, Nat.le_of_ble_eq_true rfl⟩ rfl rfl rfl hl.1 (Nat.le_of_ble_eq_true rfl) rfl dX5_hourOn_94 ?_
          refine lv_if_ne (tgt := 103) hx hb dX5_hourOn_97 (by decide) (fun hc => ?_) (fun hc => ?_)
          · have hok := iq hok hc
            refine lv_aload_n hx hb dX5_hourOn_103 rfl (lv_at hl 0 rfl) ?_
            refine va_get (D := (dC, dI)) (ci := 5) (v := .ref l15) (C := RX5) (T := TX5) (N := 18) hx hb hts inX5 hown hK hP 0 rfl rfl 15 (by decide) (hts _ qf_X5_44) (fun _ h9 => h9) rfl dX5_hourOn_104 ?_
            refine lv_bipush (v := (33 : Int32)) hx hb dX5_hourOn_107 (by decide) ?_
            refine lv_iload_n hx hb dX5_hourOn_109 rfl (lv_at hl 2 rfl) ?_
            refine lv_iadd hx hb dX5_hourOn_110 ?_
            obtain ⟨hi5, hok⟩ := gd_some hok
            refine va_iald hx hb hK hP 10 0 rfl rfl hi5 dX5_hourOn_111 ?_
            refine lv_if_ne (tgt := 133) hx hb dX5_hourOn_112 (by decide) (fun hc => ?_) (fun hc => ?_)
            · have hok := iq hok hc
              refine lv_aload_n hx hb dX5_hourOn_133 rfl (lv_at hl 0 rfl) ?_
              refine va_get (D := (dC, dI)) (ci := 5) (v := .ref l15) (C := RX5) (T := TX5) (N := 18) hx hb hts inX5 hown hK hP 0 rfl rfl 15 (by decide) (hts _ qf_X5_44) (fun _ h9 => h9) rfl dX5_hourOn_134 ?_
              refine lv_bipush (v := (33 : Int32)) hx hb dX5_hourOn_137 (by decide) ?_
              refine lv_iload_n hx hb dX5_hourOn_139 rfl (lv_at hl 2 rfl) ?_
              refine lv_iadd hx hb dX5_hourOn_140 ?_
              refine lv_dup2_11 hx hb dX5_hourOn_141 rfl rfl ?_
              refine va_iald hx hb hK hP 10 0 rfl rfl hi5 dX5_hourOn_142 ?_
              refine lv_iconst (v := (1 : Int32)) hx hb dX5_hourOn_143 (by decide) ?_
              refine lv_isub hx hb dX5_hourOn_144 ?_
              refine va_iast hx hb hK hP hD hS 10 0 rfl rfl hi5 dX5_hourOn_145 (fun H locs hP _ hS => ?_)
              have hP : va_P (dC, dI) vwCl ((wX5 cI cZ l0 l4 l5 l6 l8 l10 l11 l12 l13 l14 l15 l16 (uL.1, uL.2.1, uL.2.2.1, uL.2.2.2.1, uL.2.2.2.2.1, uL.2.2.2.2.2.1, uL.2.2.2.2.2.2.1, uL.2.2.2.2.2.2.2.1, uL.2.2.2.2.2.2.2.2.1, uL.2.2.2.2.2.2.2.2.2.1, uL.2.2.2.2.2.2.2.2.2.2.1, uL.2.2.2.2.2.2.2.2.2.2.2.1, uL.2.2.2.2.2.2.2.2.2.2.2.2.1, uL.2.2.2.2.2.2.2.2.2.2.2.2.2.1, uL.2.2.2.2.2.2.2.2.2.2.2.2.2.2.1, (upd uL.2.2.2.2.2.2.2.2.2.2.2.2.2.2.2.1 ((33 : Int32) + l73_2).toNatClampNeg ((uL.2.2.2.2.2.2.2.2.2.2.2.2.2.2.2.1 ((33 : Int32) + l73_2).toNatClampNeg) - (1 : Int32))), uL.2.2.2.2.2.2.2.2.2.2.2.2.2.2.2.2.1, uL.2.2.2.2.2.2.2.2.2.2.2.2.2.2.2.2.2))) H := hP
              have hD : va_D A ((wX5 cI cZ l0 l4 l5 l6 l8 l10 l11 l12 l13 l14 l15 l16 (uL.1, uL.2.1, uL.2.2.1, uL.2.2.2.1, uL.2.2.2.2.1, uL.2.2.2.2.2.1, uL.2.2.2.2.2.2.1, uL.2.2.2.2.2.2.2.1, uL.2.2.2.2.2.2.2.2.1, uL.2.2.2.2.2.2.2.2.2.1, uL.2.2.2.2.2.2.2.2.2.2.1, uL.2.2.2.2.2.2.2.2.2.2.2.1, uL.2.2.2.2.2.2.2.2.2.2.2.2.1, uL.2.2.2.2.2.2.2.2.2.2.2.2.2.1, uL.2.2.2.2.2.2.2.2.2.2.2.2.2.2.1, (upd uL.2.2.2.2.2.2.2.2.2.2.2.2.2.2.2.1 ((33 : Int32) + l73_2).toNatClampNeg ((uL.2.2.2.2.2.2.2.2.2.2.2.2.2.2.2.1 ((33 : Int32) + l73_2).toNatClampNeg) - (1 : Int32))), uL.2.2.2.2.2.2.2.2.2.2.2.2.2.2.2.2.1, uL.2.2.2.2.2.2.2.2.2.2.2.2.2.2.2.2.2))) := D_L hD
              refine lv_iinc (v := (l73_2 + 1)) (lv' := [(2, .int (l73_2 + 1)), (0, .ref l0), (1, .int l73_1)]) hx hb dX5_hourOn_146 hl (k := 2) rfl rfl (by decide) rfl (fun ls hl => ?_)
              refine lv_goto (tgt := 73) hx hb dX5_hourOn_149 (by decide) ?_
              exact ih73 (uL.1, uL.2.1, uL.2.2.1, uL.2.2.2.1, uL.2.2.2.2.1, uL.2.2.2.2.2.1, uL.2.2.2.2.2.2.1, uL.2.2.2.2.2.2.2.1, uL.2.2.2.2.2.2.2.2.1, uL.2.2.2.2.2.2.2.2.2.1, uL.2.2.2.2.2.2.2.2.2.2.1, uL.2.2.2.2.2.2.2.2.2.2.2.1, uL.2.2.2.2.2.2.2.2.2.2.2.2.1, uL.2.2.2.2.2.2.2.2.2.2.2.2.2.1, uL.2.2.2.2.2.2.2.2.2.2.2.2.2.2.1, (upd uL.2.2.2.2.2.2.2.2.2.2.2.2.2.2.2.1 ((33 : Int32) + l73_2).toNatClampNeg ((uL.2.2.2.2.2.2.2.2.2.2.2.2.2.2.2.1 ((33 : Int32) + l73_2).toNatClampNeg) - (1 : Int32))), uL.2.2.2.2.2.2.2.2.2.2.2.2.2.2.2.2.1, uL.2.2.2.2.2.2.2.2.2.2.2.2.2.2.2.2.2) l73_1 (l73_2 + 1) _ _ hP hD hS _ (lv_sub hl [1, 2, 0] rfl) hok
            · have hok := ip hok hc
              refine lv_aload_n hx hb dX5_hourOn_115 rfl (lv_at hl 0 rfl) ?_
              refine va_get (D := (dC, dI)) (ci := 5) (v := .ref l15) (C := RX5) (T := TX5) (N := 18) hx hb hts inX5 hown hK hP 0 rfl rfl 15 (by decide) (hts _ qf_X5_44) (fun _ h9 => h9) rfl dX5_hourOn_116 ?_
              refine lv_bipush (v := (7 : Int32)) hx hb dX5_hourOn_119 (by decide) ?_
              refine lv_dup2_11 hx hb dX5_hourOn_121 rfl rfl ?_
              refine va_ialdK hx hb hK hP 10 0 rfl rfl (j := 7) (by decide) (vp_inK (by decide)) dX5_hourOn_122 ?_
              refine lv_iconst (v := (1 : Int32)) hx hb dX5_hourOn_123 (by decide) ?_
              refine lv_iload_n hx hb dX5_hourOn_124 rfl (lv_at hl 2 rfl) ?_
              refine lv_ishl hx hb dX5_hourOn_125 ?_
              refine lv_iconst (v := (-1 : Int32)) hx hb dX5_hourOn_126 (by decide) ?_
              refine lv_ixor hx hb dX5_hourOn_127 ?_
              refine lv_iand hx hb dX5_hourOn_128 ?_
              refine va_iastK hx hb hK hP hD hS 10 0 rfl rfl (j := 7) (by decide) (vp_inK (by decide)) dX5_hourOn_129 (fun H locs hP _ hS => ?_)
              have hP : va_P (dC, dI) vwCl ((wX5 cI cZ l0 l4 l5 l6 l8 l10 l11 l12 l13 l14 l15 l16 (uL.1, uL.2.1, uL.2.2.1, uL.2.2.2.1, uL.2.2.2.2.1, uL.2.2.2.2.2.1, uL.2.2.2.2.2.2.1, uL.2.2.2.2.2.2.2.1, uL.2.2.2.2.2.2.2.2.1, uL.2.2.2.2.2.2.2.2.2.1, uL.2.2.2.2.2.2.2.2.2.2.1, uL.2.2.2.2.2.2.2.2.2.2.2.1, uL.2.2.2.2.2.2.2.2.2.2.2.2.1, uL.2.2.2.2.2.2.2.2.2.2.2.2.2.1, uL.2.2.2.2.2.2.2.2.2.2.2.2.2.2.1, (upd uL.2.2.2.2.2.2.2.2.2.2.2.2.2.2.2.1 7 ((uL.2.2.2.2.2.2.2.2.2.2.2.2.2.2.2.1 7) &&& (((1 : Int32) <<< (l73_2 &&& 31)) ^^^ (-1 : Int32)))), uL.2.2.2.2.2.2.2.2.2.2.2.2.2.2.2.2.1, uL.2.2.2.2.2.2.2.2.2.2.2.2.2.2.2.2.2))) H := hP
              have hD : va_D A ((wX5 cI cZ l0 l4 l5 l6 l8 l10 l11 l12 l13 l14 l15 l16 (uL.1, uL.2.1, uL.2.2.1, uL.2.2.2.1, uL.2.2.2.2.1, uL.2.2.2.2.2.1, uL.2.2.2.2.2.2.1, uL.2.2.2.2.2.2.2.1, uL.2.2.2.2.2.2.2.2.1, uL.2.2.2.2.2.2.2.2.2.1, uL.2.2.2.2.2.2.2.2.2.2.1, uL.2.2.2.2.2.2.2.2.2.2.2.1, uL.2.2.2.2.2.2.2.2.2.2.2.2.1, uL.2.2.2.2.2.2.2.2.2.2.2.2.2.1, uL.2.2.2.2.2.2.2.2.2.2.2.2.2.2.1, (upd uL.2.2.2.2.2.2.2.2.2.2.2.2.2.2.2.1 7 ((uL.2.2.2.2.2.2.2.2.2.2.2.2.2.2.2.1 7) &&& (((1 : Int32) <<< (l73_2 &&& 31)) ^^^ (-1 : Int32)))), uL.2.2.2.2.2.2.2.2.2.2.2.2.2.2.2.2.1, uL.2.2.2.2.2.2.2.2.2.2.2.2.2.2.2.2.2))) := D_L hD
              refine lv_goto (tgt := 146) hx hb dX5_hourOn_130 (by decide) ?_
              refine lv_iinc (v := (l73_2 + 1)) (lv' := [(2, .int (l73_2 + 1)), (0, .ref l0), (1, .int l73_1)]) hx hb dX5_hourOn_146 hl (k := 2) rfl rfl (by decide) rfl (fun ls hl => ?_)
              refine lv_goto (tgt := 73) hx hb dX5_hourOn_149 (by decide) ?_
              exact ih73 (uL.1, uL.2.1, uL.2.2.1, uL.2.2.2.1, uL.2.2.2.2.1, uL.2.2.2.2.2.1, uL.2.2.2.2.2.2.1, uL.2.2.2.2.2.2.2.1, uL.2.2.2.2.2.2.2.2.1, uL.2.2.2.2.2.2.2.2.2.1, uL.2.2.2.2.2.2.2.2.2.2.1, uL.2.2.2.2.2.2.2.2.2.2.2.1, uL.2.2.2.2.2.2.2.2.2.2.2.2.1, uL.2.2.2.2.2.2.2.2.2.2.2.2.2.1, uL.2.2.2.2.2.2.2.2.2.2.2.2.2.2.1, (upd uL.2.2.2.2.2.2.2.2.2.2.2.2.2.2.2.1 7 ((uL.2.2.2.2.2.2.2.2.2.2.2.2.2.2.2.1 7) &&& (((1 : Int32) <<< (l73_2 &&& 31)) ^^^ (-1 : Int32)))), uL.2.2.2.2.2.2.2.2.2.2.2.2.2.2.2.2.1, uL.2.2.2.2.2.2.2.2.2.2.2.2.2.2.2.2.2) l73_1 (l73_2 + 1) _ _ hP hD hS _ (lv_sub hl [1, 2, 0] rfl) hok
          · have hok := ip hok hc
            refine lv_goto (tgt := 146) hx hb dX5_hourOn_100 (by decide) ?_
            refine lv_iinc (v := (l73_2 + 1)) (lv' := [(2, .int (l73_2 + 1)), (0, .ref l0), (1, .int l73_1)]) hx hb dX5_hourOn_146 hl (k := 2) rfl rfl (by decide) rfl (fun ls hl => ?_)
            refine lv_goto (tgt := 73) hx hb dX5_hourOn_149 (by decide) ?_
            exact ih73 uL l73_1 (l73_2 + 1) _ _ hP hD hS _ (lv_sub hl [1, 2, 0] rfl) hok
  have J61 : ∀ (uL : tX5) (l61_1 : Int32) (s61_0 : Int32) (s61_1 : Int32) (s61_2 : Int32) (s61_3 : Int32) (H : Heap) (locs : List Loc) (hP : va_P (dC, dI) vwCl ((wX5 cI cZ l0 l4 l5 l6 l8 l10 l11 l12 l13 l14 l15 l16 uL)) H) (hD : va_D A ((wX5 cI cZ l0 l4 l5 l6 l8 l10 l11 l12 l13 l14 l15 l16 uL))) (hS : va_S A s.heap H locs) (ls : Array Slot) (hl : lv_has ls 3 [(0, .ref l0), (1, .int l61_1)]) (hok : p_X5_hourOn_J61 uL l61_1 s61_0 s61_1 s61_2 s61_3 = some z), W p l e { frames := 5, cells := 0, slots := 0, locals := 107 } s m args below meth c H locs 0 0 (MQ below (va_Qv (fun _ : Unit => True) (fun _ t => va_P (dC, dI) vwCl ((wX5 cI cZ l0 l4 l5 l6 l8 l10 l11 l12 l13 l14 l15 l16 z)) t.heap) A) args s 0 0 A) (F0 m 61 ls [.int s61_0, .int s61_1, .int s61_2, .int s61_3, .ref l15]) := by
    intro uL l61_1 s61_0 s61_1 s61_2 s61_3 H locs hP hD hS ls hl hok
    unfold p_X5_hourOn_J61 at hok
    refine lv_iadd hx hb dX5_hourOn_61 ?_
    refine lv_iadd hx hb dX5_hourOn_62 ?_
    obtain ⟨hi6, hok⟩ := gd_some hok
    refine va_iast hx hb hK hP hD hS 10 0 rfl rfl hi6 dX5_hourOn_63 (fun H locs hP _ hS => ?_)
    have hP : va_P (dC, dI) vwCl ((wX5 cI cZ l0 l4 l5 l6 l8 l10 l11 l12 l13 l14 l15 l16 (uL.1, uL.2.1, uL.2.2.1, uL.2.2.2.1, uL.2.2.2.2.1, uL.2.2.2.2.2.1, uL.2.2.2.2.2.2.1, uL.2.2.2.2.2.2.2.1, uL.2.2.2.2.2.2.2.2.1, uL.2.2.2.2.2.2.2.2.2.1, uL.2.2.2.2.2.2.2.2.2.2.1, uL.2.2.2.2.2.2.2.2.2.2.2.1, uL.2.2.2.2.2.2.2.2.2.2.2.2.1, uL.2.2.2.2.2.2.2.2.2.2.2.2.2.1, uL.2.2.2.2.2.2.2.2.2.2.2.2.2.2.1, (upd uL.2.2.2.2.2.2.2.2.2.2.2.2.2.2.2.1 s61_3.toNatClampNeg (s61_2 + (s61_1 + s61_0))), uL.2.2.2.2.2.2.2.2.2.2.2.2.2.2.2.2.1, uL.2.2.2.2.2.2.2.2.2.2.2.2.2.2.2.2.2))) H := hP
    have hD : va_D A ((wX5 cI cZ l0 l4 l5 l6 l8 l10 l11 l12 l13 l14 l15 l16 (uL.1, uL.2.1, uL.2.2.1, uL.2.2.2.1, uL.2.2.2.2.1, uL.2.2.2.2.2.1, uL.2.2.2.2.2.2.1, uL.2.2.2.2.2.2.2.1, uL.2.2.2.2.2.2.2.2.1, uL.2.2.2.2.2.2.2.2.2.1, uL.2.2.2.2.2.2.2.2.2.2.1, uL.2.2.2.2.2.2.2.2.2.2.2.1, uL.2.2.2.2.2.2.2.2.2.2.2.2.1, uL.2.2.2.2.2.2.2.2.2.2.2.2.2.1, uL.2.2.2.2.2.2.2.2.2.2.2.2.2.2.1, (upd uL.2.2.2.2.2.2.2.2.2.2.2.2.2.2.2.1 s61_3.toNatClampNeg (s61_2 + (s61_1 + s61_0))), uL.2.2.2.2.2.2.2.2.2.2.2.2.2.2.2.2.1, uL.2.2.2.2.2.2.2.2.2.2.2.2.2.2.2.2.2))) := D_L hD
    refine lv_goto (tgt := 71) hx hb dX5_hourOn_64 (by decide) ?_
    refine lv_iconst (v := (0 : Int32)) hx hb dX5_hourOn_71 (by decide) ?_
    refine lv_istore_n (lv' := [(2, .int (0 : Int32)), (0, .ref l0), (1, .int l61_1)]) hx hb dX5_hourOn_72 rfl hl (by decide) rfl (fun ls hl => ?_)
    exact L73 200 (uL.1, uL.2.1, uL.2.2.1, uL.2.2.2.1, uL.2.2.2.2.1, uL.2.2.2.2.2.1, uL.2.2.2.2.2.2.1, uL.2.2.2.2.2.2.2.1, uL.2.2.2.2.2.2.2.2.1, uL.2.2.2.2.2.2.2.2.2.1, uL.2.2.2.2.2.2.2.2.2.2.1, uL.2.2.2.2.2.2.2.2.2.2.2.1, uL.2.2.2.2.2.2.2.2.2.2.2.2.1, uL.2.2.2.2.2.2.2.2.2.2.2.2.2.1, uL.2.2.2.2.2.2.2.2.2.2.2.2.2.2.1, (upd uL.2.2.2.2.2.2.2.2.2.2.2.2.2.2.2.1 s61_3.toNatClampNeg (s61_2 + (s61_1 + s61_0))), uL.2.2.2.2.2.2.2.2.2.2.2.2.2.2.2.2.1, uL.2.2.2.2.2.2.2.2.2.2.2.2.2.2.2.2.2) l61_1 (0 : Int32) _ _ hP hD hS _ (lv_sub hl [1, 2, 0] rfl) hok
  unfold p_X5_hourOn at hok
  refine lv_aload_n hx hb dX5_hourOn_0 rfl (lv_at hl 0 rfl) ?_
  refine lv_iconst (v := (-1 : Int32)) hx hb dX5_hourOn_1 (by decide) ?_
  refine va_put (D := (dC, dI)) (ci := 5) (v := .int (-1 : Int32)) (ty := .int) (C := RX5) (T := TX5) (N := 18) hx hb hts inX5 tyX5 tyX5_ok nmX5 hown hK hP hD hS 0 rfl rfl 17 (by decide) (hts _ qf_X5_83) (fun _ h9 => h9) rfl (tyX5_ok 17 (by decide)) rfl rfl (Nat.le_of_ble_eq_true rfl) dX5_hourOn_2 (fun H locs hP _ hS => ?_)
  have hP : va_P (dC, dI) vwCl ((wX5 cI cZ l0 l4 l5 l6 l8 l10 l11 l12 l13 l14 l15 l16 (uL.1, uL.2.1, uL.2.2.1, uL.2.2.2.1, uL.2.2.2.2.1, uL.2.2.2.2.2.1, uL.2.2.2.2.2.2.1, uL.2.2.2.2.2.2.2.1, uL.2.2.2.2.2.2.2.2.1, uL.2.2.2.2.2.2.2.2.2.1, uL.2.2.2.2.2.2.2.2.2.2.1, uL.2.2.2.2.2.2.2.2.2.2.2.1, uL.2.2.2.2.2.2.2.2.2.2.2.2.1, uL.2.2.2.2.2.2.2.2.2.2.2.2.2.1, uL.2.2.2.2.2.2.2.2.2.2.2.2.2.2.1, uL.2.2.2.2.2.2.2.2.2.2.2.2.2.2.2.1, uL.2.2.2.2.2.2.2.2.2.2.2.2.2.2.2.2.1, (-1 : Int32)))) H := hP
  have hD : va_D A ((wX5 cI cZ l0 l4 l5 l6 l8 l10 l11 l12 l13 l14 l15 l16 (uL.1, uL.2.1, uL.2.2.1, uL.2.2.2.1, uL.2.2.2.2.1, uL.2.2.2.2.2.1, uL.2.2.2.2.2.2.1, uL.2.2.2.2.2.2.2.1, uL.2.2.2.2.2.2.2.2.1, uL.2.2.2.2.2.2.2.2.2.1, uL.2.2.2.2.2.2.2.2.2.2.1, uL.2.2.2.2.2.2.2.2.2.2.2.1, uL.2.2.2.2.2.2.2.2.2.2.2.2.1, uL.2.2.2.2.2.2.2.2.2.2.2.2.2.1, uL.2.2.2.2.2.2.2.2.2.2.2.2.2.2.1, uL.2.2.2.2.2.2.2.2.2.2.2.2.2.2.2.1, uL.2.2.2.2.2.2.2.2.2.2.2.2.2.2.2.2.1, (-1 : Int32)))) := D_L hD
  refine lv_aload_n hx hb dX5_hourOn_5 rfl (lv_at hl 0 rfl) ?_
  refine va_get (D := (dC, dI)) (ci := 5) (v := .ref l15) (C := RX5) (T := TX5) (N := 18) hx hb hts inX5 hown hK hP 0 rfl rfl 15 (by decide) (hts _ qf_X5_44) (fun _ h9 => h9) rfl dX5_hourOn_6 ?_
  refine lv_bipush (v := (8 : Int32)) hx hb dX5_hourOn_9 (by decide) ?_
  refine va_ialdK hx hb hK hP 10 0 rfl rfl (j := 8) (by decide) (vp_inK (by decide)) dX5_hourOn_11 ?_
  refine lv_istore_n (lv' := [(1, .int (uL.2.2.2.2.2.2.2.2.2.2.2.2.2.2.2.1 8)), (0, .ref l0)]) hx hb dX5_hourOn_12 rfl hl (by decide) rfl (fun ls hl => ?_)
  refine lv_aload_n hx hb dX5_hourOn_13 rfl (lv_at hl 1 rfl) ?_
  refine va_get (D := (dC, dI)) (ci := 5) (v := .ref l15) (C := RX5) (T := TX5) (N := 18) hx hb hts inX5 hown hK hP 0 rfl rfl 15 (by decide) (hts _ qf_X5_44) (fun _ h9 => h9) rfl dX5_hourOn_14 ?_
  refine lv_iconst (v := (3 : Int32)) hx hb dX5_hourOn_17 (by decide) ?_
  refine va_ialdK hx hb hK hP 10 0 rfl rfl (j := 3) (by decide) (vp_inK (by decide)) dX5_hourOn_18 ?_
  refine lv_if_le (tgt := 67) hx hb dX5_hourOn_19 (by decide) (fun hc => ?_) (fun hc => ?_)
  · have hok := ip hok hc
    refine lv_aload_n hx hb dX5_hourOn_67 rfl (lv_at hl 1 rfl) ?_
    obtain ⟨v1, hc1, hok⟩ := bd_some hok
    refine cWVv (ci := 5) (q0 := 0) [] S hK hP hD hS hA (c_X5_ride l dC dI cI cZ l0 l4 l5 l6 l8 l10 l11 l12 l13 l14 l15 l16 _ (uL.1, uL.2.1, uL.2.2.1, uL.2.2.2.1, uL.2.2.2.2.1, uL.2.2.2.2.2.1, uL.2.2.2.2.2.2.1, uL.2.2.2.2.2.2.2.1, uL.2.2.2.2.2.2.2.2.1, uL.2.2.2.2.2.2.2.2.2.1, uL.2.2.2.2.2.2.2.2.2.2.1, uL.2.2.2.2.2.2.2.2.2.2.2.1, uL.2.2.2.2.2.2.2.2.2.2.2.2.1, uL.2.2.2.2.2.2.2.2.2.2.2.2.2.1, uL.2.2.2.2.2.2.2.2.2.2.2.2.2.2.1, uL.2.2.2.2.2.2.2.2.2.2.2.2.2.2.2.1, uL.2.2.2.2.2.2.2.2.2.2.2.2.2.2.2.2.1, (-1 : Int32)) hc1) (lw_V qm_X5_106 qi_X5_ride qs_X5_ride qn_X5 qc_X5_ride) hd_X5_ride ⟨rfl, rfl⟩ ⟨Nat.le_of_ble_eq_true rfl, Nat.le_of_ble_eq_true rfl⟩ ⟨Nat.le_of_ble_eq_true rfl, Nat.le_of_ble_eq_true rfl⟩ rfl rfl rfl hl.1 (Nat.le_of_ble_eq_true rfl) rfl dX5_hourOn_68 (D_L hD) (fun H locs hP hD hS => ?_)
    refine lv_iconst (v := (0 : Int32)) hx hb dX5_hourOn_71 (by decide) ?_
    refine lv_istore_n (lv' := [(2, .int (0 : Int32)), (1, .int (uL.2.2.2.2.2.2.2.2.2.2.2.2.2.2.2.1 8)), (0, .ref l0)]) hx hb dX5_hourOn_72 rfl hl (by decide) rfl (fun ls hl => ?_)
    exact L73 200 v1 (uL.2.2.2.2.2.2.2.2.2.2.2.2.2.2.2.1 8) (0 : Int32) _ _ hP hD hS _ (lv_sub hl [2, 1, 0] rfl) hok
  · have hok := iq hok hc
    refine lv_aload_n hx hb dX5_hourOn_22 rfl (lv_at hl 1 rfl) ?_
    refine va_get (D := (dC, dI)) (ci := 5) (v := .ref l15) (C := RX5) (T := TX5) (N := 18) hx hb hts inX5 hown hK hP 0 rfl rfl 15 (by decide) (hts _ qf_X5_44) (fun _ h9 => h9) rfl dX5_hourOn_23 ?_
    refine lv_iconst (v := (3 : Int32)) hx hb dX5_hourOn_26 (by decide) ?_
    refine lv_dup2_11 hx hb dX5_hourOn_27 rfl rfl ?_
    refine va_ialdK hx hb hK hP 10 0 rfl rfl (j := 3) (by decide) (vp_inK (by decide)) dX5_hourOn_28 ?_
    refine lv_iconst (v := (1 : Int32)) hx hb dX5_hourOn_29 (by decide) ?_
    refine lv_isub hx hb dX5_hourOn_30 ?_
    refine va_iastK hx hb hK hP hD hS 10 0 rfl rfl (j := 3) (by decide) (vp_inK (by decide)) dX5_hourOn_31 (fun H locs hP _ hS => ?_)
    have hP : va_P (dC, dI) vwCl ((wX5 cI cZ l0 l4 l5 l6 l8 l10 l11 l12 l13 l14 l15 l16 (uL.1, uL.2.1, uL.2.2.1, uL.2.2.2.1, uL.2.2.2.2.1, uL.2.2.2.2.2.1, uL.2.2.2.2.2.2.1, uL.2.2.2.2.2.2.2.1, uL.2.2.2.2.2.2.2.2.1, uL.2.2.2.2.2.2.2.2.2.1, uL.2.2.2.2.2.2.2.2.2.2.1, uL.2.2.2.2.2.2.2.2.2.2.2.1, uL.2.2.2.2.2.2.2.2.2.2.2.2.1, uL.2.2.2.2.2.2.2.2.2.2.2.2.2.1, uL.2.2.2.2.2.2.2.2.2.2.2.2.2.2.1, (upd uL.2.2.2.2.2.2.2.2.2.2.2.2.2.2.2.1 3 ((uL.2.2.2.2.2.2.2.2.2.2.2.2.2.2.2.1 3) - (1 : Int32))), uL.2.2.2.2.2.2.2.2.2.2.2.2.2.2.2.2.1, (-1 : Int32)))) H := hP
    have hD : va_D A ((wX5 cI cZ l0 l4 l5 l6 l8 l10 l11 l12 l13 l14 l15 l16 (uL.1, uL.2.1, uL.2.2.1, uL.2.2.2.1, uL.2.2.2.2.1, uL.2.2.2.2.2.1, uL.2.2.2.2.2.2.1, uL.2.2.2.2.2.2.2.1, uL.2.2.2.2.2.2.2.2.1, uL.2.2.2.2.2.2.2.2.2.1, uL.2.2.2.2.2.2.2.2.2.2.1, uL.2.2.2.2.2.2.2.2.2.2.2.1, uL.2.2.2.2.2.2.2.2.2.2.2.2.1, uL.2.2.2.2.2.2.2.2.2.2.2.2.2.1, uL.2.2.2.2.2.2.2.2.2.2.2.2.2.2.1, (upd uL.2.2.2.2.2.2.2.2.2.2.2.2.2.2.2.1 3 ((uL.2.2.2.2.2.2.2.2.2.2.2.2.2.2.2.1 3) - (1 : Int32))), uL.2.2.2.2.2.2.2.2.2.2.2.2.2.2.2.2.1, (-1 : Int32)))) := D_L hD
    refine lv_aload_n hx hb dX5_hourOn_32 rfl (lv_at hl 1 rfl) ?_
    refine va_get (D := (dC, dI)) (ci := 5) (v := .ref l15) (C := RX5) (T := TX5) (N := 18) hx hb hts inX5 hown hK hP 0 rfl rfl 15 (by decide) (hts _ qf_X5_44) (fun _ h9 => h9) rfl dX5_hourOn_33 ?_
    refine lv_iconst (v := (5 : Int32)) hx hb dX5_hourOn_36 (by decide) ?_
    refine lv_dup2_11 hx hb dX5_hourOn_37 rfl rfl ?_
    refine va_ialdK hx hb hK hP 10 0 rfl rfl (j := 5) (by decide) (vp_inK (by decide)) dX5_hourOn_38 ?_
    refine lv_iconst (v := (1 : Int32)) hx hb dX5_hourOn_39 (by decide) ?_
    refine lv_iload_n hx hb dX5_hourOn_40 rfl (lv_at hl 0 rfl) ?_
    refine lv_if_ne (tgt := 48) hx hb dX5_hourOn_41 (by decide) (fun hc => ?_) (fun hc => ?_)
    · have hok := iq hok hc
      refine lv_aload_n hx hb dX5_hourOn_48 rfl (lv_at hl 1 rfl) ?_
      refine va_get (D := (dC, dI)) (ci := 5) (v := .ref l6) (C := RX5) (T := TX5) (N := 18) hx hb hts inX5 hown hK hP 0 rfl rfl 6 (by decide) (hts _ qf_X5_23) (fun _ h9 => h9) rfl dX5_hourOn_49 ?_
      refine lv_aload_n hx hb dX5_hourOn_52 rfl (lv_at hl 1 rfl) ?_
      refine va_get (D := (dC, dI)) (ci := 5) (v := .ref l12) (C := RX5) (T := TX5) (N := 18) hx hb hts inX5 hown hK hP 0 rfl rfl 12 (by decide) (hts _ qf_X5_35) (fun _ h9 => h9) rfl dX5_hourOn_53 ?_
      refine lv_iload_n hx hb dX5_hourOn_56 rfl (lv_at hl 0 rfl) ?_
      refine lv_iconst (v := (1 : Int32)) hx hb dX5_hourOn_57 (by decide) ?_
      refine lv_isub hx hb dX5_hourOn_58 ?_
      obtain ⟨hi2, hok⟩ := gd_some hok
      refine va_iald hx hb hK hP 7 0 rfl rfl hi2 dX5_hourOn_59 ?_
      obtain ⟨hi3, hok⟩ := gd_some hok
      refine va_iald hx hb hK hP 3 0 rfl rfl hi3 dX5_hourOn_60 ?_
      exact J61 (uL.1, uL.2.1, uL.2.2.1, uL.2.2.2.1, uL.2.2.2.2.1, uL.2.2.2.2.2.1, uL.2.2.2.2.2.2.1, uL.2.2.2.2.2.2.2.1, uL.2.2.2.2.2.2.2.2.1, uL.2.2.2.2.2.2.2.2.2.1, uL.2.2.2.2.2.2.2.2.2.2.1, uL.2.2.2.2.2.2.2.2.2.2.2.1, uL.2.2.2.2.2.2.2.2.2.2.2.2.1, uL.2.2.2.2.2.2.2.2.2.2.2.2.2.1, uL.2.2.2.2.2.2.2.2.2.2.2.2.2.2.1, (upd uL.2.2.2.2.2.2.2.2.2.2.2.2.2.2.2.1 3 ((uL.2.2.2.2.2.2.2.2.2.2.2.2.2.2.2.1 3) - (1 : Int32))), uL.2.2.2.2.2.2.2.2.2.2.2.2.2.2.2.2.1, (-1 : Int32)) (uL.2.2.2.2.2.2.2.2.2.2.2.2.2.2.2.1 8) (uL.2.2.2.2.2.2.1 (uL.2.2.2.2.2.2.2.2.2.2.2.2.1 ((uL.2.2.2.2.2.2.2.2.2.2.2.2.2.2.2.1 8) - (1 : Int32)).toNatClampNeg).toNatClampNeg) (1 : Int32) ((upd uL.2.2.2.2.2.2.2.2.2.2.2.2.2.2.2.1 3 ((uL.2.2.2.2.2.2.2.2.2.2.2.2.2.2.2.1 3) - (1 : Int32))) 5) (5 : Int32) _ _ hP hD hS _ (lv_sub hl [1, 0] rfl) hok
    · have hok := ip hok hc
      refine lv_iconst (v := (0 : Int32)) hx hb dX5_hourOn_44 (by decide) ?_
      refine lv_goto (tgt := 61) hx hb dX5_hourOn_45 (by decide) ?_
      exact J61 (uL.1, uL.2.1, uL.2.2.1, uL.2.2.2.1, uL.2.2.2.2.1, uL.2.2.2.2.2.1, uL.2.2.2.2.2.2.1, uL.2.2.2.2.2.2.2.1, uL.2.2.2.2.2.2.2.2.1, uL.2.2.2.2.2.2.2.2.2.1, uL.2.2.2.2.2.2.2.2.2.2.1, uL.2.2.2.2.2.2.2.2.2.2.2.1, uL.2.2.2.2.2.2.2.2.2.2.2.2.1, uL.2.2.2.2.2.2.2.2.2.2.2.2.2.1, uL.2.2.2.2.2.2.2.2.2.2.2.2.2.2.1, (upd uL.2.2.2.2.2.2.2.2.2.2.2.2.2.2.2.1 3 ((uL.2.2.2.2.2.2.2.2.2.2.2.2.2.2.2.1 3) - (1 : Int32))), uL.2.2.2.2.2.2.2.2.2.2.2.2.2.2.2.2.1, (-1 : Int32)) (uL.2.2.2.2.2.2.2.2.2.2.2.2.2.2.2.1 8) (0 : Int32) (1 : Int32) ((upd uL.2.2.2.2.2.2.2.2.2.2.2.2.2.2.2.1 3 ((uL.2.2.2.2.2.2.2.2.2.2.2.2.2.2.2.1 3) - (1 : Int32))) 5) (5 : Int32) _ _ hP hD hS _ (lv_sub hl [1, 0] rfl) hok
theorem hd_X5_hoursOn : yX5_hoursOn.cls = RX5 ∧ yX5_hoursOn.cls ≠ "java/lang/invoke/MethodHandle" ∧ yX5_hoursOn.cls ≠ "java/lang/invoke/VarHandle" ∧ (parseMethodDescriptor yX5_hoursOn.desc).map (fun d => d.parameters.length) = some 1 := by decide +kernel
def p_X5_hoursOn_L2 : Nat → tX5 → Int32 → Int32 → Option tX5
  | 0, _, _, _ => none
  | n + 1, uL, l2_1, l2_2 =>
    if l2_1 ≤ l2_2 then
      some uL
    else
      bd (p_X5_hourOn uL) (fun v1 =>
      (p_X5_hoursOn_L2 n) v1 l2_1 (l2_2 + 1))
def p_X5_hoursOn (uL : tX5) (a1 : Int32) : Option tX5 :=
  p_X5_hoursOn_L2 200 uL a1 (0 : Int32)
set_option maxHeartbeats 4000000 in
set_option maxRecDepth 100000 in
theorem c_X5_hoursOn (l : Launch) (dC : Nat → ClassId) (dI : Nat → Nat → Nat) (cI cZ : ClassId) (l0 l4 l5 l6 l8 l10 l11 l12 l13 l14 l15 l16 : Nat) (sz : Nat) (uL : tX5) (a1 : Int32) {z : tX5} (hok : p_X5_hoursOn uL a1 = some z) : Met l yX5_hoursOn (Cond.code yX5_hoursOn cX5_hoursOn 3 none :: lw_all) { frames := 6, cells := 0, slots := 0, locals := 129 } (prW (dC, dI) vwCl (TYS cI cZ) ((wX5 cI cZ l0 l4 l5 l6 l8 l10 l11 l12 l13 l14 l15 l16 uL)) sz [.ref l0, .int a1]) (va_Qv (fun _ : Unit => True) (fun _ t => va_P (dC, dI) vwCl ((wX5 cI cZ l0 l4 l5 l6 l8 l10 l11 l12 l13 l14 l15 l16 z)) t.heap) (va_A ((wX5 cI cZ l0 l4 l5 l6 l8 l10 l11 l12 l13 l14 l15 l16 uL)) sz)) 0 0 (va_A ((wX5 cI cZ l0 l4 l5 l6 l8 l10 l11 l12 l13 l14 l15 l16 uL)) sz) := by
  refine oM (by decide) (Nat.le_of_ble_eq_true rfl) ?_
  intro p e s m args below meth c S hr hlk hnm hB ls hl
  have hx := S.1
  have hb := S.2.1
  have hml := S.2.2.1
  have hown : s.vm.findClass RX5 = some m.cls := S.2.2.2.1
  have hts := S.2.2.2.2
  have S : CallFix p m c cX5_hoursOn 3 s args lw_all RX5 := S
  have hl : lv_has ls 3 [(0, .ref l0), (1, .int a1)] := hl
  obtain ⟨hsz, hP, hK, hD0⟩ := hB
  subst hsz
  have hD := hD0.self (sz := s.heap.size)
  generalize hAe : va_A ((wX5 cI cZ l0 l4 l5 l6 l8 l10 l11 l12 l13 l14 l15 l16 uL)) s.heap.size = A at hD ⊢
  have hA : ∀ q : Nat, s.heap.size ≤ q → A q := fun q h => by rw [← hAe]; exact Or.inr h
  have hS : va_S A s.heap s.heap [] := va_S.rf
  have hP : va_P (dC, dI) vwCl ((wX5 cI cZ l0 l4 l5 l6 l8 l10 l11 l12 l13 l14 l15 l16 uL)) s.heap := hP
  have L2 : ∀ n2 : Nat, ∀ (uL : tX5) (l2_1 : Int32) (l2_2 : Int32) (H : Heap) (locs : List Loc) (hP : va_P (dC, dI) vwCl ((wX5 cI cZ l0 l4 l5 l6 l8 l10 l11 l12 l13 l14 l15 l16 uL)) H) (hD : va_D A ((wX5 cI cZ l0 l4 l5 l6 l8 l10 l11 l12 l13 l14 l15 l16 uL))) (hS : va_S A s.heap H locs) (ls : Array Slot) (hl : lv_has ls 3 [(0, .ref l0), (1, .int l2_1), (2, .int l2_2)]) (hok : p_X5_hoursOn_L2 n2 uL l2_1 l2_2 = some z), W p l e { frames := 6, cells := 0, slots := 0, locals := 129 } s m args below meth c H locs 0 0 (MQ below (va_Qv (fun _ : Unit => True) (fun _ t => va_P (dC, dI) vwCl ((wX5 cI cZ l0 l4 l5 l6 l8 l10 l11 l12 l13 l14 l15 l16 z)) t.heap) A) args s 0 0 A) (F0 m 2 ls []) := by
    intro n2
    induction n2 with
    | zero =>
      intro uL l2_1 l2_2 H locs hP hD hS ls hl hok
      rw [p_X5_hoursOn_L2] at hok
      cases hok
    | succ n2 ih2 =>
      intro uL l2_1 l2_2 H locs hP hD hS ls hl hok
      rw [p_X5_hoursOn_L2] at hok
      refine lv_iload_n hx hb dX5_hoursOn_2 rfl (lv_at hl 2 rfl) ?_
      refine lv_iload_n hx hb dX5_hoursOn_3 rfl (lv_at hl 1 rfl) ?_
      refine lv_icmp_ge (tgt := 17) hx hb dX5_hoursOn_4 (by decide) (fun hc => ?_) (fun hc => ?_)
      · have hok := ip hok hc
        have hok := Option.some.inj hok
        subst hok
        exact eWv S hr hlk hP hS (Nat.le_of_ble_eq_true rfl) (Nat.le_of_ble_eq_true rfl) dX5_hoursOn_17
      · have hok := iq hok hc
        refine lv_aload_n hx hb dX5_hoursOn_7 rfl (lv_at hl 0 rfl) ?_
        obtain ⟨v1, hc1, hok⟩ := bd_some hok
        refine cWVv (ci := 5) (q0 := 0) [] S hK hP hD hS hA (c_X5_hourOn l dC dI cI cZ l0 l4 l5 l6 l8 l10 l11 l12 l13 l14 l15 l16 _ uL hc1) (lw_V qm_X5_109 qi_X5_hourOn qs_X5_hourOn qn_X5 qc_X5_hourOn) hd_X5_hourOn ⟨rfl, rfl⟩ ⟨Nat.le_of_ble_eq_true rfl, Nat.le_of_ble_eq_true rfl⟩ ⟨Nat.le_of_ble_eq_true rfl, Nat.le_of_ble_eq_true rfl⟩ rfl rfl rfl hl.1 (Nat.le_of_ble_eq_true rfl) rfl dX5_hoursOn_8 (D_L hD) (fun H locs hP hD hS => ?_)
        refine lv_iinc (v := (l2_2 + 1)) (lv' := [(2, .int (l2_2 + 1)), (0, .ref l0), (1, .int l2_1)]) hx hb dX5_hoursOn_11 hl (k := 2) rfl rfl (by decide) rfl (fun ls hl => ?_)
        refine lv_goto (tgt := 2) hx hb dX5_hoursOn_14 (by decide) ?_
        exact ih2 v1 l2_1 (l2_2 + 1) _ _ hP hD hS _ (lv_sub hl [1, 2, 0] rfl) hok
  unfold p_X5_hoursOn at hok
  refine lv_iconst (v := (0 : Int32)) hx hb dX5_hoursOn_0 (by decide) ?_
  refine lv_istore_n (lv' := [(2, .int (0 : Int32)), (0, .ref l0), (1, .int a1)]) hx hb dX5_hoursOn_1 rfl hl (by decide) rfl (fun ls hl => ?_)
  exact L2 200 uL a1 (0 : Int32) _ _ hP hD hS _ (lv_sub hl [1, 2, 0] rfl) hok
theorem hd_X5_ones : yX5_ones.cls ≠ "java/lang/invoke/MethodHandle" ∧ yX5_ones.cls ≠ "java/lang/invoke/VarHandle" ∧ (parseMethodDescriptor yX5_ones.desc).map (fun d => d.parameters.length) = some 1 := by decide +kernel
def p_X5_ones_L4 : Nat → Int32 → Int32 → Option Int32
  | 0, _, _ => none
  | n + 1, l4_1, l4_2 =>
    if l4_2 ≤ 0 then
      some l4_1
    else
      (p_X5_ones_L4 n) (l4_1 + (l4_2 &&& (1 : Int32))) (l4_2 >>> ((1 : Int32) &&& 31))
def p_X5_ones (a1 : Int32) : Option Int32 :=
  p_X5_ones_L4 200 (0 : Int32) a1
set_option maxHeartbeats 4000000 in
set_option maxRecDepth 100000 in
theorem c_X5_ones (l : Launch) (dC : Nat → ClassId) (dI : Nat → Nat → Nat) (cI cZ : ClassId) (a1 : Int32) {z : Int32} (hok : p_X5_ones a1 = some z) : Met l yX5_ones (Cond.code yX5_ones cX5_ones 3 (some .int) :: lw_all) { frames := 0, cells := 0, slots := 0, locals := 0 } (prR (dC, dI) vwCl (TYS cI cZ) (([] : va_W)) [.int a1]) (vp_Si (fun r => r = z)) 0 0 (fun _ => False) := by
  refine oM (by decide) (Nat.le_of_ble_eq_true rfl) ?_
  intro p e s m args below meth c S hr hlk hnm hB ls hl
  have hx := S.1
  have hb := S.2.1
  have hml := S.2.2.1
  have hown : s.vm.findClass RX5 = some m.cls := S.2.2.2.1
  have hts := S.2.2.2.2
  have S : CallFix p m c cX5_ones 3 s args lw_all RX5 := S
  have hl : lv_has ls 3 [(0, .int a1)] := hl
  obtain ⟨hP, hK⟩ := hB
  have hP : va_P (dC, dI) vwCl (([] : va_W)) s.heap := hP
  have L4 : ∀ n4 : Nat, ∀ (l4_1 : Int32) (l4_2 : Int32) (ls : Array Slot) (hl : lv_has ls 3 [(1, .int l4_1), (2, .int l4_2)]) (hok : p_X5_ones_L4 n4 l4_1 l4_2 = some z), W p l e { frames := 0, cells := 0, slots := 0, locals := 0 } s m args below meth c s.heap [] 0 0 (MQ below (vp_Si (fun r => r = z)) args s 0 0 (fun _ => False)) (F0 m 4 ls []) := by
    intro n4
    induction n4 with
    | zero =>
      intro l4_1 l4_2 ls hl hok
      rw [p_X5_ones_L4] at hok
      cases hok
    | succ n4 ih4 =>
      intro l4_1 l4_2 ls hl hok
      rw [p_X5_ones_L4] at hok
      refine lv_iload_n hx hb dX5_ones_4 rfl (lv_at hl 1 rfl) ?_
      refine lv_if_le (tgt := 21) hx hb dX5_ones_5 (by decide) (fun hc => ?_) (fun hc => ?_)
      · have hok := ip hok hc
        refine lv_iload_n hx hb dX5_ones_21 rfl (lv_at hl 0 rfl) ?_
        exact eRi S hr hlk (Option.some.inj hok) dX5_ones_22
      · have hok := iq hok hc
        refine lv_iload_n hx hb dX5_ones_8 rfl (lv_at hl 0 rfl) ?_
        refine lv_iload_n hx hb dX5_ones_9 rfl (lv_at hl 1 rfl) ?_
        refine lv_iconst (v := (1 : Int32)) hx hb dX5_ones_10 (by decide) ?_
        refine lv_iand hx hb dX5_ones_11 ?_
        refine lv_iadd hx hb dX5_ones_12 ?_
        refine lv_istore_n (lv' := [(1, .int (l4_1 + (l4_2 &&& (1 : Int32)))), (2, .int l4_2)]) hx hb dX5_ones_13 rfl hl (by decide) rfl (fun ls hl => ?_)
        refine lv_iload_n hx hb dX5_ones_14 rfl (lv_at hl 1 rfl) ?_
        refine lv_iconst (v := (1 : Int32)) hx hb dX5_ones_15 (by decide) ?_
        refine lv_ishr hx hb dX5_ones_16 ?_
        refine lv_istore_n (lv' := [(2, .int (l4_2 >>> ((1 : Int32) &&& 31))), (1, .int (l4_1 + (l4_2 &&& (1 : Int32))))]) hx hb dX5_ones_17 rfl hl (by decide) rfl (fun ls hl => ?_)
        refine lv_goto (tgt := 4) hx hb dX5_ones_18 (by decide) ?_
        exact ih4 (l4_1 + (l4_2 &&& (1 : Int32))) (l4_2 >>> ((1 : Int32) &&& 31)) _ (lv_sub hl [1, 0] rfl) hok
  unfold p_X5_ones at hok
  refine lv_iconst (v := (0 : Int32)) hx hb dX5_ones_0 (by decide) ?_
  refine lv_istore_n (lv' := [(1, .int (0 : Int32)), (0, .int a1)]) hx hb dX5_ones_1 rfl hl (by decide) rfl (fun ls hl => ?_)
  refine lv_iload_n hx hb dX5_ones_2 rfl (lv_at hl 1 rfl) ?_
  refine lv_istore_n (lv' := [(2, .int a1), (1, .int (0 : Int32)), (0, .int a1)]) hx hb dX5_ones_3 rfl hl (by decide) rfl (fun ls hl => ?_)
  exact L4 200 (0 : Int32) a1 _ (lv_sub hl [1, 0] rfl) hok
theorem hd_X5_cut : yX5_cut.cls = RX5 ∧ yX5_cut.cls ≠ "java/lang/invoke/MethodHandle" ∧ yX5_cut.cls ≠ "java/lang/invoke/VarHandle" ∧ (parseMethodDescriptor yX5_cut.desc).map (fun d => d.parameters.length) = some 0 := by decide +kernel
def p_X5_cut_L4 : Nat → tX5 → Int32 → Int32 → Option Int32
  | 0, _, _, _ => none
  | n + 1, uL, l4_1, l4_2 =>
    if uL.2.1 ≤ l4_2 then
      some l4_1
    else
      gd ((21 : Int32) + l4_2) 41 (
      (p_X5_cut_L4 n) uL (l4_1 + (uL.2.2.2.2.2.2.2.2.2.2.2.2.2.2.2.1 ((21 : Int32) + l4_2).toNatClampNeg)) (l4_2 + 1))
def p_X5_cut (uL : tX5) : Option Int32 :=
  p_X5_cut_L4 200 uL (0 : Int32) (0 : Int32)
set_option maxHeartbeats 4000000 in
set_option maxRecDepth 100000 in
theorem c_X5_cut (l : Launch) (dC : Nat → ClassId) (dI : Nat → Nat → Nat) (cI cZ : ClassId) (l0 l4 l5 l6 l8 l10 l11 l12 l13 l14 l15 l16 : Nat) (uL : tX5) {z : Int32} (hok : p_X5_cut uL = some z) : Met l yX5_cut (Cond.code yX5_cut cX5_cut 3 (some .int) :: lw_all) { frames := 0, cells := 0, slots := 0, locals := 0 } (prR (dC, dI) vwCl (TYS cI cZ) ((wX5 cI cZ l0 l4 l5 l6 l8 l10 l11 l12 l13 l14 l15 l16 uL)) [.ref l0]) (vp_Si (fun r => r = z)) 0 0 (fun _ => False) := by
  refine oM (by decide) (Nat.le_of_ble_eq_true rfl) ?_
  intro p e s m args below meth c S hr hlk hnm hB ls hl
  have hx := S.1
  have hb := S.2.1
  have hml := S.2.2.1
  have hown : s.vm.findClass RX5 = some m.cls := S.2.2.2.1
  have hts := S.2.2.2.2
  have S : CallFix p m c cX5_cut 3 s args lw_all RX5 := S
  have hl : lv_has ls 3 [(0, .ref l0)] := hl
  obtain ⟨hP, hK⟩ := hB
  have hP : va_P (dC, dI) vwCl ((wX5 cI cZ l0 l4 l5 l6 l8 l10 l11 l12 l13 l14 l15 l16 uL)) s.heap := hP
  have L4 : ∀ n4 : Nat, ∀ (l4_1 : Int32) (l4_2 : Int32) (ls : Array Slot) (hl : lv_has ls 3 [(0, .ref l0), (1, .int l4_1), (2, .int l4_2)]) (hok : p_X5_cut_L4 n4 uL l4_1 l4_2 = some z), W p l e { frames := 0, cells := 0, slots := 0, locals := 0 } s m args below meth c s.heap [] 0 0 (MQ below (vp_Si (fun r => r = z)) args s 0 0 (fun _ => False)) (F0 m 4 ls []) := by
    intro n4
    induction n4 with
    | zero =>
      intro l4_1 l4_2 ls hl hok
      rw [p_X5_cut_L4] at hok
      cases hok
    | succ n4 ih4 =>
      intro l4_1 l4_2 ls hl hok
      rw [p_X5_cut_L4] at hok
      refine lv_iload_n hx hb dX5_cut_4 rfl (lv_at hl 2 rfl) ?_
      refine lv_aload_n hx hb dX5_cut_5 rfl (lv_at hl 0 rfl) ?_
      refine va_get (D := (dC, dI)) (ci := 5) (v := .int uL.2.1) (C := RX5) (T := TX5) (N := 18) hx hb hts inX5 hown hK hP 0 rfl rfl 1 (by decide) (hts _ qf_X5_7) (fun _ h9 => h9) rfl dX5_cut_6 ?_
      refine lv_icmp_ge (tgt := 30) hx hb dX5_cut_9 (by decide) (fun hc => ?_) (fun hc => ?_)
      · have hok := ip hok hc
        refine lv_iload_n hx hb dX5_cut_30 rfl (lv_at hl 1 rfl) ?_
        exact eRi S hr hlk (Option.some.inj hok) dX5_cut_31
      · have hok := iq hok hc
        refine lv_iload_n hx hb dX5_cut_12 rfl (lv_at hl 1 rfl) ?_
        refine lv_aload_n hx hb dX5_cut_13 rfl (lv_at hl 0 rfl) ?_
        refine va_get (D := (dC, dI)) (ci := 5) (v := .ref l15) (C := RX5) (T := TX5) (N := 18) hx hb hts inX5 hown hK hP 0 rfl rfl 15 (by decide) (hts _ qf_X5_44) (fun _ h9 => h9) rfl dX5_cut_14 ?_
        refine lv_bipush (v := (21 : Int32)) hx hb dX5_cut_17 (by decide) ?_
        refine lv_iload_n hx hb dX5_cut_19 rfl (lv_at hl 2 rfl) ?_
        refine lv_iadd hx hb dX5_cut_20 ?_
        obtain ⟨hi1, hok⟩ := gd_some hok
        refine va_iald hx hb hK hP 10 0 rfl rfl hi1 dX5_cut_21 ?_
        refine lv_iadd hx hb dX5_cut_22 ?_
        refine lv_istore_n (lv' := [(1, .int (l4_1 + (uL.2.2.2.2.2.2.2.2.2.2.2.2.2.2.2.1 ((21 : Int32) + l4_2).toNatClampNeg))), (0, .ref l0), (2, .int l4_2)]) hx hb dX5_cut_23 rfl hl (by decide) rfl (fun ls hl => ?_)
        refine lv_iinc (v := (l4_2 + 1)) (lv' := [(2, .int (l4_2 + 1)), (1, .int (l4_1 + (uL.2.2.2.2.2.2.2.2.2.2.2.2.2.2.2.1 ((21 : Int32) + l4_2).toNatClampNeg))), (0, .ref l0)]) hx hb dX5_cut_24 hl (k := 2) rfl rfl (by decide) rfl (fun ls hl => ?_)
        refine lv_goto (tgt := 4) hx hb dX5_cut_27 (by decide) ?_
        exact ih4 (l4_1 + (uL.2.2.2.2.2.2.2.2.2.2.2.2.2.2.2.1 ((21 : Int32) + l4_2).toNatClampNeg)) (l4_2 + 1) _ (lv_sub hl [2, 1, 0] rfl) hok
  unfold p_X5_cut at hok
  refine lv_iconst (v := (0 : Int32)) hx hb dX5_cut_0 (by decide) ?_
  refine lv_istore_n (lv' := [(1, .int (0 : Int32)), (0, .ref l0)]) hx hb dX5_cut_1 rfl hl (by decide) rfl (fun ls hl => ?_)
  refine lv_iconst (v := (0 : Int32)) hx hb dX5_cut_2 (by decide) ?_
  refine lv_istore_n (lv' := [(2, .int (0 : Int32)), (1, .int (0 : Int32)), (0, .ref l0)]) hx hb dX5_cut_3 rfl hl (by decide) rfl (fun ls hl => ?_)
  exact L4 200 (0 : Int32) (0 : Int32) _ (lv_sub hl [2, 1, 0] rfl) hok
theorem hd_X5_warmth : yX5_warmth.cls = RX5 ∧ yX5_warmth.cls ≠ "java/lang/invoke/MethodHandle" ∧ yX5_warmth.cls ≠ "java/lang/invoke/VarHandle" ∧ (parseMethodDescriptor yX5_warmth.desc).map (fun d => d.parameters.length) = some 0 := by decide +kernel
def p_X5_warmth_J34 (rec4 : tX5 → Int32 → Int32 → Option Int32) (uL : tX5) (l34_2 : Int32) (s34_0 : Int32) (s34_1 : Int32) : Option Int32 :=
  rec4 uL (s34_1 + s34_0) (l34_2 + 1)
def p_X5_warmth_L4 : Nat → tX5 → Int32 → Int32 → Option Int32
  | 0, _, _, _ => none
  | n + 1, uL, l4_1, l4_2 =>
    if uL.2.2.2.2.2.2.2.1 ≤ l4_2 then
      some l4_1
    else
      bd (p_X5_reads uL l4_2) (fun v1 =>
      if v1 = 0 then
        p_X5_warmth_J34 (p_X5_warmth_L4 n) uL l4_2 (0 : Int32) l4_1
      else
        gd ((33 : Int32) + l4_2) 41 (
        p_X5_warmth_J34 (p_X5_warmth_L4 n) uL l4_2 (uL.2.2.2.2.2.2.2.2.2.2.2.2.2.2.2.1 ((33 : Int32) + l4_2).toNatClampNeg) l4_1))
def p_X5_warmth (uL : tX5) : Option Int32 :=
  p_X5_warmth_L4 200 uL (0 : Int32) (0 : Int32)
set_option maxHeartbeats 4000000 in
set_option maxRecDepth 100000 in
theorem c_X5_warmth (l : Launch) (dC : Nat → ClassId) (dI : Nat → Nat → Nat) (cI cZ : ClassId) (l0 l4 l5 l6 l8 l10 l11 l12 l13 l14 l15 l16 : Nat) (uL : tX5) {z : Int32} (hok : p_X5_warmth uL = some z) : Met l yX5_warmth (Cond.code yX5_warmth cX5_warmth 3 (some .int) :: lw_all) { frames := 2, cells := 0, slots := 0, locals := 42 } (prR (dC, dI) vwCl (TYS cI cZ) ((wX5 cI cZ l0 l4 l5 l6 l8 l10 l11 l12 l13 l14 l15 l16 uL)) [.ref l0]) (vp_Si (fun r => r = z)) 0 0 (fun _ => False) := by
  refine oM (by decide) (Nat.le_of_ble_eq_true rfl) ?_
  intro p e s m args below meth c S hr hlk hnm hB ls hl
  have hx := S.1
  have hb := S.2.1
  have hml := S.2.2.1
  have hown : s.vm.findClass RX5 = some m.cls := S.2.2.2.1
  have hts := S.2.2.2.2
  have S : CallFix p m c cX5_warmth 3 s args lw_all RX5 := S
  have hl : lv_has ls 3 [(0, .ref l0)] := hl
  obtain ⟨hP, hK⟩ := hB
  have hP : va_P (dC, dI) vwCl ((wX5 cI cZ l0 l4 l5 l6 l8 l10 l11 l12 l13 l14 l15 l16 uL)) s.heap := hP
  have L4 : ∀ n4 : Nat, ∀ (l4_1 : Int32) (l4_2 : Int32) (ls : Array Slot) (hl : lv_has ls 3 [(0, .ref l0), (1, .int l4_1), (2, .int l4_2)]) (hok : p_X5_warmth_L4 n4 uL l4_1 l4_2 = some z), W p l e { frames := 2, cells := 0, slots := 0, locals := 42 } s m args below meth c s.heap [] 0 0 (MQ below (vp_Si (fun r => r = z)) args s 0 0 (fun _ => False)) (F0 m 4 ls []) := by
    intro n4
    induction n4 with
    | zero =>
      intro l4_1 l4_2 ls hl hok
      rw [p_X5_warmth_L4] at hok
      cases hok
    | succ n4 ih4 =>
      have J34 : ∀ (l34_2 : Int32) (s34_0 : Int32) (s34_1 : Int32) (ls : Array Slot) (hl : lv_has ls 3 [(0, .ref l0), (2, .int l34_2)]) (hok : p_X5_warmth_J34 (p_X5_warmth_L4 n4) uL l34_2 s34_0 s34_1 = some z), W p l e { frames := 2, cells := 0, slots := 0, locals := 42 } s m args below meth c s.heap [] 0 0 (MQ below (vp_Si (fun r => r = z)) args s 0 0 (fun _ => False)) (F0 m 34 ls [.int s34_0, .int s34_1]) := by
        intro l34_2 s34_0 s34_1 ls hl hok
        unfold p_X5_warmth_J34 at hok
        refine lv_iadd hx hb dX5_warmth_34 ?_
        refine lv_istore_n (lv' := [(1, .int (s34_1 + s34_0)), (0, .ref l0), (2, .int l34_2)]) hx hb dX5_warmth_35 rfl hl (by decide) rfl (fun ls hl => ?_)
        refine lv_iinc (v := (l34_2 + 1)) (lv' := [(2, .int (l34_2 + 1)), (1, .int (s34_1 + s34_0)), (0, .ref l0)]) hx hb dX5_warmth_36 hl (k := 2) rfl rfl (by decide) rfl (fun ls hl => ?_)
        refine lv_goto (tgt := 4) hx hb dX5_warmth_39 (by decide) ?_
        exact ih4 (s34_1 + s34_0) (l34_2 + 1) _ (lv_sub hl [2, 1, 0] rfl) hok
      intro l4_1 l4_2 ls hl hok
      rw [p_X5_warmth_L4] at hok
      refine lv_iload_n hx hb dX5_warmth_4 rfl (lv_at hl 2 rfl) ?_
      refine lv_aload_n hx hb dX5_warmth_5 rfl (lv_at hl 0 rfl) ?_
      refine va_get (D := (dC, dI)) (ci := 5) (v := .int uL.2.2.2.2.2.2.2.1) (C := RX5) (T := TX5) (N := 18) hx hb hts inX5 hown hK hP 0 rfl rfl 7 (by decide) (hts _ qf_X5_57) (fun _ h9 => h9) rfl dX5_warmth_6 ?_
      refine lv_icmp_ge (tgt := 42) hx hb dX5_warmth_9 (by decide) (fun hc => ?_) (fun hc => ?_)
      · have hok := ip hok hc
        refine lv_iload_n hx hb dX5_warmth_42 rfl (lv_at hl 1 rfl) ?_
        exact eRi S hr hlk (Option.some.inj hok) dX5_warmth_43
      · have hok := iq hok hc
        refine lv_iload_n hx hb dX5_warmth_12 rfl (lv_at hl 1 rfl) ?_
        refine lv_aload_n hx hb dX5_warmth_13 rfl (lv_at hl 0 rfl) ?_
        refine lv_iload_n hx hb dX5_warmth_14 rfl (lv_at hl 2 rfl) ?_
        obtain ⟨v1, hc1, hok⟩ := bd_some hok
        refine cRVi (ci := 5) (q0 := 0) [.int l4_2] S hK hP (c_X5_reads l dC dI cI cZ l0 l4 l5 l6 l8 l10 l11 l12 l13 l14 l15 l16 uL l4_2 hc1) (lw_V qm_X5_73 qi_X5_reads qs_X5_reads qn_X5 qc_X5_reads) hd_X5_reads ⟨rfl, rfl⟩ ⟨Nat.le_of_ble_eq_true rfl, Nat.le_of_ble_eq_true rfl⟩ ⟨Nat.le_of_ble_eq_true rfl, Nat.le_of_ble_eq_true rfl⟩ rfl rfl rfl hl.1 (Nat.le_of_ble_eq_true rfl) rfl dX5_warmth_15 ?_
        refine lv_if_eq (tgt := 33) hx hb dX5_warmth_18 (by decide) (fun hc => ?_) (fun hc => ?_)
        · have hok := ip hok hc
          refine lv_iconst (v := (0 : Int32)) hx hb dX5_warmth_33 (by decide) ?_
          exact J34 l4_2 (0 : Int32) l4_1 _ (lv_sub hl [0, 2] rfl) hok
        · have hok := iq hok hc
          refine lv_aload_n hx hb dX5_warmth_21 rfl (lv_at hl 0 rfl) ?_
          refine va_get (D := (dC, dI)) (ci := 5) (v := .ref l15) (C := RX5) (T := TX5) (N := 18) hx hb hts inX5 hown hK hP 0 rfl rfl 15 (by decide) (hts _ qf_X5_44) (fun _ h9 => h9) rfl dX5_warmth_22 ?_
          refine lv_bipush (v := (33 : Int32)) hx hb dX5_warmth_25 (by decide) ?_
          refine lv_iload_n hx hb dX5_warmth_27 rfl (lv_at hl 2 rfl) ?_
          refine lv_iadd hx hb dX5_warmth_28 ?_
          obtain ⟨hi2, hok⟩ := gd_some hok
          refine va_iald hx hb hK hP 10 0 rfl rfl hi2 dX5_warmth_29 ?_
          refine lv_goto (tgt := 34) hx hb dX5_warmth_30 (by decide) ?_
          exact J34 l4_2 (uL.2.2.2.2.2.2.2.2.2.2.2.2.2.2.2.1 ((33 : Int32) + l4_2).toNatClampNeg) l4_1 _ (lv_sub hl [0, 2] rfl) hok
  unfold p_X5_warmth at hok
  refine lv_iconst (v := (0 : Int32)) hx hb dX5_warmth_0 (by decide) ?_
  refine lv_istore_n (lv' := [(1, .int (0 : Int32)), (0, .ref l0)]) hx hb dX5_warmth_1 rfl hl (by decide) rfl (fun ls hl => ?_)
  refine lv_iconst (v := (0 : Int32)) hx hb dX5_warmth_2 (by decide) ?_
  refine lv_istore_n (lv' := [(2, .int (0 : Int32)), (1, .int (0 : Int32)), (0, .ref l0)]) hx hb dX5_warmth_3 rfl hl (by decide) rfl (fun ls hl => ?_)
  exact L4 200 (0 : Int32) (0 : Int32) _ (lv_sub hl [2, 1, 0] rfl) hok
theorem hd_X5_begin : yX5_begin.cls = RX5 ∧ yX5_begin.cls ≠ "java/lang/invoke/MethodHandle" ∧ yX5_begin.cls ≠ "java/lang/invoke/VarHandle" ∧ (parseMethodDescriptor yX5_begin.desc).map (fun d => d.parameters.length) = some 1 := by decide +kernel
def p_X5_begin_L69 : Nat → tX5 → Int32 → Option (Int32 × tX5)
  | 0, _, _ => none
  | n + 1, uL, l69_2 =>
    if (6 : Int32) < l69_2 then
      bd (p_X5_ones ((upd uL.2.2.2.2.2.2.2.2.2.2.2.2.2.2.2.1 8 (0 : Int32)) 7)) (fun v6 =>
      some (v6, (uL.1, uL.2.1, uL.2.2.1, uL.2.2.2.1, uL.2.2.2.2.1, uL.2.2.2.2.2.1, uL.2.2.2.2.2.2.1, uL.2.2.2.2.2.2.2.1, uL.2.2.2.2.2.2.2.2.1, uL.2.2.2.2.2.2.2.2.2.1, uL.2.2.2.2.2.2.2.2.2.2.1, uL.2.2.2.2.2.2.2.2.2.2.2.1, uL.2.2.2.2.2.2.2.2.2.2.2.2.1, uL.2.2.2.2.2.2.2.2.2.2.2.2.2.1, uL.2.2.2.2.2.2.2.2.2.2.2.2.2.2.1, (upd uL.2.2.2.2.2.2.2.2.2.2.2.2.2.2.2.1 8 (0 : Int32)), uL.2.2.2.2.2.2.2.2.2.2.2.2.2.2.2.2.1, uL.2.2.2.2.2.2.2.2.2.2.2.2.2.2.2.2.2)))
    else
      gd l69_2 41 (
      (p_X5_begin_L69 n) (uL.1, uL.2.1, uL.2.2.1, uL.2.2.2.1, uL.2.2.2.2.1, uL.2.2.2.2.2.1, uL.2.2.2.2.2.2.1, uL.2.2.2.2.2.2.2.1, uL.2.2.2.2.2.2.2.2.1, uL.2.2.2.2.2.2.2.2.2.1, uL.2.2.2.2.2.2.2.2.2.2.1, uL.2.2.2.2.2.2.2.2.2.2.2.1, uL.2.2.2.2.2.2.2.2.2.2.2.2.1, uL.2.2.2.2.2.2.2.2.2.2.2.2.2.1, uL.2.2.2.2.2.2.2.2.2.2.2.2.2.2.1, (upd uL.2.2.2.2.2.2.2.2.2.2.2.2.2.2.2.1 l69_2.toNatClampNeg (0 : Int32)), uL.2.2.2.2.2.2.2.2.2.2.2.2.2.2.2.2.1, uL.2.2.2.2.2.2.2.2.2.2.2.2.2.2.2.2.2) (l69_2 + 1))
def p_X5_begin_L28 : Nat → tX5 → Int32 → Option (Int32 × tX5)
  | 0, _, _ => none
  | n + 1, uL, l28_2 =>
    if (12 : Int32) ≤ l28_2 then
      p_X5_begin_L69 200 uL (1 : Int32)
    else
      gd l28_2 12 (
      gd ((9 : Int32) + l28_2) 41 (
      gd ((21 : Int32) + l28_2) 41 (
      (p_X5_begin_L28 n) (uL.1, uL.2.1, uL.2.2.1, uL.2.2.2.1, (upd uL.2.2.2.2.1 l28_2.toNatClampNeg (0 : Int32)), uL.2.2.2.2.2.1, uL.2.2.2.2.2.2.1, uL.2.2.2.2.2.2.2.1, uL.2.2.2.2.2.2.2.2.1, uL.2.2.2.2.2.2.2.2.2.1, uL.2.2.2.2.2.2.2.2.2.2.1, uL.2.2.2.2.2.2.2.2.2.2.2.1, uL.2.2.2.2.2.2.2.2.2.2.2.2.1, uL.2.2.2.2.2.2.2.2.2.2.2.2.2.1, uL.2.2.2.2.2.2.2.2.2.2.2.2.2.2.1, (upd (upd uL.2.2.2.2.2.2.2.2.2.2.2.2.2.2.2.1 ((9 : Int32) + l28_2).toNatClampNeg (0 : Int32)) ((21 : Int32) + l28_2).toNatClampNeg (0 : Int32)), uL.2.2.2.2.2.2.2.2.2.2.2.2.2.2.2.2.1, uL.2.2.2.2.2.2.2.2.2.2.2.2.2.2.2.2.2) (l28_2 + 1))))
def p_X5_begin (uL : tX5) (a1 : Int32) : Option (Int32 × tX5) :=
  bd (p_X5_isIn a1 (2 : Int32) (12 : Int32)) (fun v1 =>
  if v1 = 0 then
    bd (p_X5_fail ((0 : Int32), uL.2.1, uL.2.2.1, uL.2.2.2.1, uL.2.2.2.2.1, uL.2.2.2.2.2.1, uL.2.2.2.2.2.2.1, uL.2.2.2.2.2.2.2.1, uL.2.2.2.2.2.2.2.2.1, uL.2.2.2.2.2.2.2.2.2.1, uL.2.2.2.2.2.2.2.2.2.2.1, uL.2.2.2.2.2.2.2.2.2.2.2.1, uL.2.2.2.2.2.2.2.2.2.2.2.2.1, uL.2.2.2.2.2.2.2.2.2.2.2.2.2.1, uL.2.2.2.2.2.2.2.2.2.2.2.2.2.2.1, uL.2.2.2.2.2.2.2.2.2.2.2.2.2.2.2.1, uL.2.2.2.2.2.2.2.2.2.2.2.2.2.2.2.2.1, uL.2.2.2.2.2.2.2.2.2.2.2.2.2.2.2.2.2) (1 : Int32)) (fun v2 =>
    some (v2.1, v2.2))
  else
    p_X5_begin_L28 200 ((0 : Int32), a1, uL.2.2.1, uL.2.2.2.1, uL.2.2.2.2.1, uL.2.2.2.2.2.1, uL.2.2.2.2.2.2.1, uL.2.2.2.2.2.2.2.1, uL.2.2.2.2.2.2.2.2.1, uL.2.2.2.2.2.2.2.2.2.1, uL.2.2.2.2.2.2.2.2.2.2.1, uL.2.2.2.2.2.2.2.2.2.2.2.1, uL.2.2.2.2.2.2.2.2.2.2.2.2.1, uL.2.2.2.2.2.2.2.2.2.2.2.2.2.1, uL.2.2.2.2.2.2.2.2.2.2.2.2.2.2.1, uL.2.2.2.2.2.2.2.2.2.2.2.2.2.2.2.1, uL.2.2.2.2.2.2.2.2.2.2.2.2.2.2.2.2.1, uL.2.2.2.2.2.2.2.2.2.2.2.2.2.2.2.2.2) (0 : Int32))
set_option maxHeartbeats 4000000 in
set_option maxRecDepth 100000 in
theorem c_X5_begin (l : Launch) (dC : Nat → ClassId) (dI : Nat → Nat → Nat) (cI cZ : ClassId) (l0 l4 l5 l6 l8 l10 l11 l12 l13 l14 l15 l16 : Nat) (sz : Nat) (uL : tX5) (a1 : Int32) {z : (Int32 × tX5)} (hok : p_X5_begin uL a1 = some z) : Met l yX5_begin (Cond.code yX5_begin cX5_begin 3 (some .int) :: lw_all) { frames := 1, cells := 0, slots := 0, locals := 22 } (prW (dC, dI) vwCl (TYS cI cZ) ((wX5 cI cZ l0 l4 l5 l6 l8 l10 l11 l12 l13 l14 l15 l16 uL)) sz [.ref l0, .int a1]) (va_Qi (fun (r : Int32) (_ : Unit) => r = z.1) (fun _ t => va_P (dC, dI) vwCl ((wX5 cI cZ l0 l4 l5 l6 l8 l10 l11 l12 l13 l14 l15 l16 z.2)) t.heap) (va_A ((wX5 cI cZ l0 l4 l5 l6 l8 l10 l11 l12 l13 l14 l15 l16 uL)) sz)) 0 0 (va_A ((wX5 cI cZ l0 l4 l5 l6 l8 l10 l11 l12 l13 l14 l15 l16 uL)) sz) := by
  refine oM (by decide) (Nat.le_of_ble_eq_true rfl) ?_
  intro p e s m args below meth c S hr hlk hnm hB ls hl
  have hx := S.1
  have hb := S.2.1
  have hml := S.2.2.1
  have hown : s.vm.findClass RX5 = some m.cls := S.2.2.2.1
  have hts := S.2.2.2.2
  have S : CallFix p m c cX5_begin 3 s args lw_all RX5 := S
  have hl : lv_has ls 3 [(0, .ref l0), (1, .int a1)] := hl
  obtain ⟨hsz, hP, hK, hD0⟩ := hB
  subst hsz
  have hD := hD0.self (sz := s.heap.size)
  generalize hAe : va_A ((wX5 cI cZ l0 l4 l5 l6 l8 l10 l11 l12 l13 l14 l15 l16 uL)) s.heap.size = A at hD ⊢
  have hA : ∀ q : Nat, s.heap.size ≤ q → A q := fun q h => by rw [← hAe]; exact Or.inr h
  have hS : va_S A s.heap s.heap [] := va_S.rf
  have hP : va_P (dC, dI) vwCl ((wX5 cI cZ l0 l4 l5 l6 l8 l10 l11 l12 l13 l14 l15 l16 uL)) s.heap := hP
  have L69 : ∀ n69 : Nat, ∀ (uL : tX5) (l69_2 : Int32) (H : Heap) (locs : List Loc) (hP : va_P (dC, dI) vwCl ((wX5 cI cZ l0 l4 l5 l6 l8 l10 l11 l12 l13 l14 l15 l16 uL)) H) (hD : va_D A ((wX5 cI cZ l0 l4 l5 l6 l8 l10 l11 l12 l13 l14 l15 l16 uL))) (hS : va_S A s.heap H locs) (ls : Array Slot) (hl : lv_has ls 3 [(0, .ref l0), (2, .int l69_2)]) (hok : p_X5_begin_L69 n69 uL l69_2 = some z), W p l e { frames := 1, cells := 0, slots := 0, locals := 22 } s m args below meth c H locs 0 0 (MQ below (va_Qi (fun (r : Int32) (_ : Unit) => r = z.1) (fun _ t => va_P (dC, dI) vwCl ((wX5 cI cZ l0 l4 l5 l6 l8 l10 l11 l12 l13 l14 l15 l16 z.2)) t.heap) A) args s 0 0 A) (F0 m 69 ls []) := by
    intro n69
    induction n69 with
    | zero =>
      intro uL l69_2 H locs hP hD hS ls hl hok
      rw [p_X5_begin_L69] at hok
      cases hok
    | succ n69 ih69 =>
      intro uL l69_2 H locs hP hD hS ls hl hok
      rw [p_X5_begin_L69] at hok
      refine lv_iload_n hx hb dX5_begin_69 rfl (lv_at hl 1 rfl) ?_
      refine lv_bipush (v := (6 : Int32)) hx hb dX5_begin_70 (by decide) ?_
      refine lv_icmp_gt (tgt := 88) hx hb dX5_begin_72 (by decide) (fun hc => ?_) (fun hc => ?_)
      · have hok := ip hok hc
        refine lv_aload_n hx hb dX5_begin_88 rfl (lv_at hl 0 rfl) ?_
        refine va_get (D := (dC, dI)) (ci := 5) (v := .ref l15) (C := RX5) (T := TX5) (N := 18) hx hb hts inX5 hown hK hP 0 rfl rfl 15 (by decide) (hts _ qf_X5_44) (fun _ h9 => h9) rfl dX5_begin_89 ?_
        refine lv_bipush (v := (8 : Int32)) hx hb dX5_begin_92 (by decide) ?_
        refine lv_iconst (v := (0 : Int32)) hx hb dX5_begin_94 (by decide) ?_
        refine va_iastK hx hb hK hP hD hS 10 0 rfl rfl (j := 8) (by decide) (vp_inK (by decide)) dX5_begin_95 (fun H locs hP _ hS => ?_)
        have hP : va_P (dC, dI) vwCl ((wX5 cI cZ l0 l4 l5 l6 l8 l10 l11 l12 l13 l14 l15 l16 (uL.1, uL.2.1, uL.2.2.1, uL.2.2.2.1, uL.2.2.2.2.1, uL.2.2.2.2.2.1, uL.2.2.2.2.2.2.1, uL.2.2.2.2.2.2.2.1, uL.2.2.2.2.2.2.2.2.1, uL.2.2.2.2.2.2.2.2.2.1, uL.2.2.2.2.2.2.2.2.2.2.1, uL.2.2.2.2.2.2.2.2.2.2.2.1, uL.2.2.2.2.2.2.2.2.2.2.2.2.1, uL.2.2.2.2.2.2.2.2.2.2.2.2.2.1, uL.2.2.2.2.2.2.2.2.2.2.2.2.2.2.1, (upd uL.2.2.2.2.2.2.2.2.2.2.2.2.2.2.2.1 8 (0 : Int32)), uL.2.2.2.2.2.2.2.2.2.2.2.2.2.2.2.2.1, uL.2.2.2.2.2.2.2.2.2.2.2.2.2.2.2.2.2))) H := hP
        have hD : va_D A ((wX5 cI cZ l0 l4 l5 l6 l8 l10 l11 l12 l13 l14 l15 l16 (uL.1, uL.2.1, uL.2.2.1, uL.2.2.2.1, uL.2.2.2.2.1, uL.2.2.2.2.2.1, uL.2.2.2.2.2.2.1, uL.2.2.2.2.2.2.2.1, uL.2.2.2.2.2.2.2.2.1, uL.2.2.2.2.2.2.2.2.2.1, uL.2.2.2.2.2.2.2.2.2.2.1, uL.2.2.2.2.2.2.2.2.2.2.2.1, uL.2.2.2.2.2.2.2.2.2.2.2.2.1, uL.2.2.2.2.2.2.2.2.2.2.2.2.2.1, uL.2.2.2.2.2.2.2.2.2.2.2.2.2.2.1, (upd uL.2.2.2.2.2.2.2.2.2.2.2.2.2.2.2.1 8 (0 : Int32)), uL.2.2.2.2.2.2.2.2.2.2.2.2.2.2.2.2.1, uL.2.2.2.2.2.2.2.2.2.2.2.2.2.2.2.2.2))) := D_L hD
        refine lv_aload_n hx hb dX5_begin_96 rfl (lv_at hl 0 rfl) ?_
        refine va_get (D := (dC, dI)) (ci := 5) (v := .ref l15) (C := RX5) (T := TX5) (N := 18) hx hb hts inX5 hown hK hP 0 rfl rfl 15 (by decide) (hts _ qf_X5_44) (fun _ h9 => h9) rfl dX5_begin_97 ?_
        refine lv_bipush (v := (7 : Int32)) hx hb dX5_begin_100 (by decide) ?_
        refine va_ialdK hx hb hK hP 10 0 rfl rfl (j := 7) (by decide) (vp_inK (by decide)) dX5_begin_102 ?_
        obtain ⟨v6, hc6, hok⟩ := bd_some hok
        refine cRSi [.int ((upd uL.2.2.2.2.2.2.2.2.2.2.2.2.2.2.2.1 8 (0 : Int32)) 7)] S hK va_Pnil (c_X5_ones l dC dI cI cZ ((upd uL.2.2.2.2.2.2.2.2.2.2.2.2.2.2.2.1 8 (0 : Int32)) 7) hc6) (lw_S qm_X5_116 qt_X5_ones qn_X5 qc_X5_ones) hd_X5_ones ⟨rfl, rfl⟩ ⟨Nat.le_of_ble_eq_true rfl, Nat.le_of_ble_eq_true rfl⟩ ⟨Nat.le_of_ble_eq_true rfl, Nat.le_of_ble_eq_true rfl⟩ rfl hl.1 (Nat.le_of_ble_eq_true rfl) rfl dX5_begin_103 ?_
        have hok := Option.some.inj hok
        subst hok
        exact eWi S hr hlk rfl hP hS (Nat.le_of_ble_eq_true rfl) (Nat.le_of_ble_eq_true rfl) dX5_begin_106
      · have hok := iq hok hc
        refine lv_aload_n hx hb dX5_begin_75 rfl (lv_at hl 0 rfl) ?_
        refine va_get (D := (dC, dI)) (ci := 5) (v := .ref l15) (C := RX5) (T := TX5) (N := 18) hx hb hts inX5 hown hK hP 0 rfl rfl 15 (by decide) (hts _ qf_X5_44) (fun _ h9 => h9) rfl dX5_begin_76 ?_
        refine lv_iload_n hx hb dX5_begin_79 rfl (lv_at hl 1 rfl) ?_
        refine lv_iconst (v := (0 : Int32)) hx hb dX5_begin_80 (by decide) ?_
        obtain ⟨hi7, hok⟩ := gd_some hok
        refine va_iast hx hb hK hP hD hS 10 0 rfl rfl hi7 dX5_begin_81 (fun H locs hP _ hS => ?_)
        have hP : va_P (dC, dI) vwCl ((wX5 cI cZ l0 l4 l5 l6 l8 l10 l11 l12 l13 l14 l15 l16 (uL.1, uL.2.1, uL.2.2.1, uL.2.2.2.1, uL.2.2.2.2.1, uL.2.2.2.2.2.1, uL.2.2.2.2.2.2.1, uL.2.2.2.2.2.2.2.1, uL.2.2.2.2.2.2.2.2.1, uL.2.2.2.2.2.2.2.2.2.1, uL.2.2.2.2.2.2.2.2.2.2.1, uL.2.2.2.2.2.2.2.2.2.2.2.1, uL.2.2.2.2.2.2.2.2.2.2.2.2.1, uL.2.2.2.2.2.2.2.2.2.2.2.2.2.1, uL.2.2.2.2.2.2.2.2.2.2.2.2.2.2.1, (upd uL.2.2.2.2.2.2.2.2.2.2.2.2.2.2.2.1 l69_2.toNatClampNeg (0 : Int32)), uL.2.2.2.2.2.2.2.2.2.2.2.2.2.2.2.2.1, uL.2.2.2.2.2.2.2.2.2.2.2.2.2.2.2.2.2))) H := hP
        have hD : va_D A ((wX5 cI cZ l0 l4 l5 l6 l8 l10 l11 l12 l13 l14 l15 l16 (uL.1, uL.2.1, uL.2.2.1, uL.2.2.2.1, uL.2.2.2.2.1, uL.2.2.2.2.2.1, uL.2.2.2.2.2.2.1, uL.2.2.2.2.2.2.2.1, uL.2.2.2.2.2.2.2.2.1, uL.2.2.2.2.2.2.2.2.2.1, uL.2.2.2.2.2.2.2.2.2.2.1, uL.2.2.2.2.2.2.2.2.2.2.2.1, uL.2.2.2.2.2.2.2.2.2.2.2.2.1, uL.2.2.2.2.2.2.2.2.2.2.2.2.2.1, uL.2.2.2.2.2.2.2.2.2.2.2.2.2.2.1, (upd uL.2.2.2.2.2.2.2.2.2.2.2.2.2.2.2.1 l69_2.toNatClampNeg (0 : Int32)), uL.2.2.2.2.2.2.2.2.2.2.2.2.2.2.2.2.1, uL.2.2.2.2.2.2.2.2.2.2.2.2.2.2.2.2.2))) := D_L hD
        refine lv_iinc (v := (l69_2 + 1)) (lv' := [(2, .int (l69_2 + 1)), (0, .ref l0)]) hx hb dX5_begin_82 hl (k := 1) rfl rfl (by decide) rfl (fun ls hl => ?_)
        refine lv_goto (tgt := 69) hx hb dX5_begin_85 (by decide) ?_
        exact ih69 (uL.1, uL.2.1, uL.2.2.1, uL.2.2.2.1, uL.2.2.2.2.1, uL.2.2.2.2.2.1, uL.2.2.2.2.2.2.1, uL.2.2.2.2.2.2.2.1, uL.2.2.2.2.2.2.2.2.1, uL.2.2.2.2.2.2.2.2.2.1, uL.2.2.2.2.2.2.2.2.2.2.1, uL.2.2.2.2.2.2.2.2.2.2.2.1, uL.2.2.2.2.2.2.2.2.2.2.2.2.1, uL.2.2.2.2.2.2.2.2.2.2.2.2.2.1, uL.2.2.2.2.2.2.2.2.2.2.2.2.2.2.1, (upd uL.2.2.2.2.2.2.2.2.2.2.2.2.2.2.2.1 l69_2.toNatClampNeg (0 : Int32)), uL.2.2.2.2.2.2.2.2.2.2.2.2.2.2.2.2.1, uL.2.2.2.2.2.2.2.2.2.2.2.2.2.2.2.2.2) (l69_2 + 1) _ _ hP hD hS _ (lv_sub hl [1, 0] rfl) hok
  have L28 : ∀ n28 : Nat, ∀ (uL : tX5) (l28_2 : Int32) (H : Heap) (locs : List Loc) (hP : va_P (dC, dI) vwCl ((wX5 cI cZ l0 l4 l5 l6 l8 l10 l11 l12 l13 l14 l15 l16 uL)) H) (hD : va_D A ((wX5 cI cZ l0 l4 l5 l6 l8 l10 l11 l12 l13 l14 l15 l16 uL))) (hS : va_S A s.heap H locs) (ls : Array Slot) (hl : lv_has ls 3 [(0, .ref l0), (2, .int l28_2)]) (hok : p_X5_begin_L28 n28 uL l28_2 = some z), W p l e { frames := 1, cells := 0, slots := 0, locals := 22 } s m args below meth c H locs 0 0 (MQ below (va_Qi (fun (r : Int32) (_ : Unit) => r = z.1) (fun _ t => va_P (dC, dI) vwCl ((wX5 cI cZ l0 l4 l5 l6 l8 l10 l11 l12 l13 l14 l15 l16 z.2)) t.heap) A) args s 0 0 A) (F0 m 28 ls []) := by
    intro n28
    induction n28 with
    | zero =>
      intro uL l28_2 H locs hP hD hS ls hl hok
      rw [p_X5_begin_L28] at hok
      cases hok
    | succ n28 ih28 =>
      intro uL l28_2 H locs hP hD hS ls hl hok
      rw [p_X5_begin_L28] at hok
      refine lv_iload_n hx hb dX5_begin_28 rfl (lv_at hl 1 rfl) ?_
      refine lv_bipush (v := (12 : Int32)) hx hb dX5_begin_29 (by decide) ?_
      refine lv_icmp_ge (tgt := 67) hx hb dX5_begin_31 (by decide) (fun hc => ?_) (fun hc => ?_)
      · have hok := ip hok hc
        refine lv_iconst (v := (1 : Int32)) hx hb dX5_begin_67 (by decide) ?_
        refine lv_istore_n (lv' := [(2, .int (1 : Int32)), (0, .ref l0)]) hx hb dX5_begin_68 rfl hl (by decide) rfl (fun ls hl => ?_)
        exact L69 200 uL (1 : Int32) _ _ hP hD hS _ (lv_sub hl [1, 0] rfl) hok
      · have hok := iq hok hc
        refine lv_aload_n hx hb dX5_begin_34 rfl (lv_at hl 0 rfl) ?_
        refine va_get (D := (dC, dI)) (ci := 5) (v := .ref l4) (C := RX5) (T := TX5) (N := 18) hx hb hts inX5 hown hK hP 0 rfl rfl 4 (by decide) (hts _ qf_X5_16) (fun _ h9 => h9) rfl dX5_begin_35 ?_
        refine lv_iload_n hx hb dX5_begin_38 rfl (lv_at hl 1 rfl) ?_
        refine lv_iconst (v := (0 : Int32)) hx hb dX5_begin_39 (by decide) ?_
        obtain ⟨hi3, hok⟩ := gd_some hok
        refine va_iast hx hb hK hP hD hS 1 0 rfl rfl hi3 dX5_begin_40 (fun H locs hP _ hS => ?_)
        have hP : va_P (dC, dI) vwCl ((wX5 cI cZ l0 l4 l5 l6 l8 l10 l11 l12 l13 l14 l15 l16 (uL.1, uL.2.1, uL.2.2.1, uL.2.2.2.1, (upd uL.2.2.2.2.1 l28_2.toNatClampNeg (0 : Int32)), uL.2.2.2.2.2.1, uL.2.2.2.2.2.2.1, uL.2.2.2.2.2.2.2.1, uL.2.2.2.2.2.2.2.2.1, uL.2.2.2.2.2.2.2.2.2.1, uL.2.2.2.2.2.2.2.2.2.2.1, uL.2.2.2.2.2.2.2.2.2.2.2.1, uL.2.2.2.2.2.2.2.2.2.2.2.2.1, uL.2.2.2.2.2.2.2.2.2.2.2.2.2.1, uL.2.2.2.2.2.2.2.2.2.2.2.2.2.2.1, uL.2.2.2.2.2.2.2.2.2.2.2.2.2.2.2.1, uL.2.2.2.2.2.2.2.2.2.2.2.2.2.2.2.2.1, uL.2.2.2.2.2.2.2.2.2.2.2.2.2.2.2.2.2))) H := hP
        have hD : va_D A ((wX5 cI cZ l0 l4 l5 l6 l8 l10 l11 l12 l13 l14 l15 l16 (uL.1, uL.2.1, uL.2.2.1, uL.2.2.2.1, (upd uL.2.2.2.2.1 l28_2.toNatClampNeg (0 : Int32)), uL.2.2.2.2.2.1, uL.2.2.2.2.2.2.1, uL.2.2.2.2.2.2.2.1, uL.2.2.2.2.2.2.2.2.1, uL.2.2.2.2.2.2.2.2.2.1, uL.2.2.2.2.2.2.2.2.2.2.1, uL.2.2.2.2.2.2.2.2.2.2.2.1, uL.2.2.2.2.2.2.2.2.2.2.2.2.1, uL.2.2.2.2.2.2.2.2.2.2.2.2.2.1, uL.2.2.2.2.2.2.2.2.2.2.2.2.2.2.1, uL.2.2.2.2.2.2.2.2.2.2.2.2.2.2.2.1, uL.2.2.2.2.2.2.2.2.2.2.2.2.2.2.2.2.1, uL.2.2.2.2.2.2.2.2.2.2.2.2.2.2.2.2.2))) := D_L hD
        refine lv_aload_n hx hb dX5_begin_41 rfl (lv_at hl 0 rfl) ?_
        refine va_get (D := (dC, dI)) (ci := 5) (v := .ref l15) (C := RX5) (T := TX5) (N := 18) hx hb hts inX5 hown hK hP 0 rfl rfl 15 (by decide) (hts _ qf_X5_44) (fun _ h9 => h9) rfl dX5_begin_42 ?_
        refine lv_bipush (v := (9 : Int32)) hx hb dX5_begin_45 (by decide) ?_
        refine lv_iload_n hx hb dX5_begin_47 rfl (lv_at hl 1 rfl) ?_
        refine lv_iadd hx hb dX5_begin_48 ?_
        refine lv_iconst (v := (0 : Int32)) hx hb dX5_begin_49 (by decide) ?_
        obtain ⟨hi4, hok⟩ := gd_some hok
        refine va_iast hx hb hK hP hD hS 10 0 rfl rfl hi4 dX5_begin_50 (fun H locs hP _ hS => ?_)
        have hP : va_P (dC, dI) vwCl ((wX5 cI cZ l0 l4 l5 l6 l8 l10 l11 l12 l13 l14 l15 l16 (uL.1, uL.2.1, uL.2.2.1, uL.2.2.2.1, (upd uL.2.2.2.2.1 l28_2.toNatClampNeg (0 : Int32)), uL.2.2.2.2.2.1, uL.2.2.2.2.2.2.1, uL.2.2.2.2.2.2.2.1, uL.2.2.2.2.2.2.2.2.1, uL.2.2.2.2.2.2.2.2.2.1, uL.2.2.2.2.2.2.2.2.2.2.1, uL.2.2.2.2.2.2.2.2.2.2.2.1, uL.2.2.2.2.2.2.2.2.2.2.2.2.1, uL.2.2.2.2.2.2.2.2.2.2.2.2.2.1, uL.2.2.2.2.2.2.2.2.2.2.2.2.2.2.1, (upd uL.2.2.2.2.2.2.2.2.2.2.2.2.2.2.2.1 ((9 : Int32) + l28_2).toNatClampNeg (0 : Int32)), uL.2.2.2.2.2.2.2.2.2.2.2.2.2.2.2.2.1, uL.2.2.2.2.2.2.2.2.2.2.2.2.2.2.2.2.2))) H := hP
        have hD : va_D A ((wX5 cI cZ l0 l4 l5 l6 l8 l10 l11 l12 l13 l14 l15 l16 (uL.1, uL.2.1, uL.2.2.1, uL.2.2.2.1, (upd uL.2.2.2.2.1 l28_2.toNatClampNeg (0 : Int32)), uL.2.2.2.2.2.1, uL.2.2.2.2.2.2.1, uL.2.2.2.2.2.2.2.1, uL.2.2.2.2.2.2.2.2.1, uL.2.2.2.2.2.2.2.2.2.1, uL.2.2.2.2.2.2.2.2.2.2.1, uL.2.2.2.2.2.2.2.2.2.2.2.1, uL.2.2.2.2.2.2.2.2.2.2.2.2.1, uL.2.2.2.2.2.2.2.2.2.2.2.2.2.1, uL.2.2.2.2.2.2.2.2.2.2.2.2.2.2.1, (upd uL.2.2.2.2.2.2.2.2.2.2.2.2.2.2.2.1 ((9 : Int32) + l28_2).toNatClampNeg (0 : Int32)), uL.2.2.2.2.2.2.2.2.2.2.2.2.2.2.2.2.1, uL.2.2.2.2.2.2.2.2.2.2.2.2.2.2.2.2.2))) := D_L hD
        refine lv_aload_n hx hb dX5_begin_51 rfl (lv_at hl 0 rfl) ?_
        refine va_get (D := (dC, dI)) (ci := 5) (v := .ref l15) (C := RX5) (T := TX5) (N := 18) hx hb hts inX5 hown hK hP 0 rfl rfl 15 (by decide) (hts _ qf_X5_44) (fun _ h9 => h9) rfl dX5_begin_52 ?_
        refine lv_bipush (v := (21 : Int32)) hx hb dX5_begin_55 (by decide) ?_
        refine lv_iload_n hx hb dX5_begin_57 rfl (lv_at hl 1 rfl) ?_
        refine lv_iadd hx hb dX5_begin_58 ?_
        refine lv_iconst (v := (0 : Int32)) hx hb dX5_begin_59 (by decide) ?_
        obtain ⟨hi5, hok⟩ := gd_some hok
        refine va_iast hx hb hK hP hD hS 10 0 rfl rfl hi5 dX5_begin_60 (fun H locs hP _ hS => ?_)
        have hP : va_P (dC, dI) vwCl ((wX5 cI cZ l0 l4 l5 l6 l8 l10 l11 l12 l13 l14 l15 l16 (uL.1, uL.2.1, uL.2.2.1, uL.2.2.2.1, (upd uL.2.2.2.2.1 l28_2.toNatClampNeg (0 : Int32)), uL.2.2.2.2.2.1, uL.2.2.2.2.2.2.1, uL.2.2.2.2.2.2.2.1, uL.2.2.2.2.2.2.2.2.1, uL.2.2.2.2.2.2.2.2.2.1, uL.2.2.2.2.2.2.2.2.2.2.1, uL.2.2.2.2.2.2.2.2.2.2.2.1, uL.2.2.2.2.2.2.2.2.2.2.2.2.1, uL.2.2.2.2.2.2.2.2.2.2.2.2.2.1, uL.2.2.2.2.2.2.2.2.2.2.2.2.2.2.1, (upd (upd uL.2.2.2.2.2.2.2.2.2.2.2.2.2.2.2.1 ((9 : Int32) + l28_2).toNatClampNeg (0 : Int32)) ((21 : Int32) + l28_2).toNatClampNeg (0 : Int32)), uL.2.2.2.2.2.2.2.2.2.2.2.2.2.2.2.2.1, uL.2.2.2.2.2.2.2.2.2.2.2.2.2.2.2.2.2))) H := hP
        have hD : va_D A ((wX5 cI cZ l0 l4 l5 l6 l8 l10 l11 l12 l13 l14 l15 l16 (uL.1, uL.2.1, uL.2.2.1, uL.2.2.2.1, (upd uL.2.2.2.2.1 l28_2.toNatClampNeg (0 : Int32)), uL.2.2.2.2.2.1, uL.2.2.2.2.2.2.1, uL.2.2.2.2.2.2.2.1, uL.2.2.2.2.2.2.2.2.1, uL.2.2.2.2.2.2.2.2.2.1, uL.2.2.2.2.2.2.2.2.2.2.1, uL.2.2.2.2.2.2.2.2.2.2.2.1, uL.2.2.2.2.2.2.2.2.2.2.2.2.1, uL.2.2.2.2.2.2.2.2.2.2.2.2.2.1, uL.2.2.2.2.2.2.2.2.2.2.2.2.2.2.1, (upd (upd uL.2.2.2.2.2.2.2.2.2.2.2.2.2.2.2.1 ((9 : Int32) + l28_2).toNatClampNeg (0 : Int32)) ((21 : Int32) + l28_2).toNatClampNeg (0 : Int32)), uL.2.2.2.2.2.2.2.2.2.2.2.2.2.2.2.2.1, uL.2.2.2.2.2.2.2.2.2.2.2.2.2.2.2.2.2))) := D_L hD
        refine lv_iinc (v := (l28_2 + 1)) (lv' := [(2, .int (l28_2 + 1)), (0, .ref l0)]) hx hb dX5_begin_61 hl (k := 1) rfl rfl (by decide) rfl (fun ls hl => ?_)
        refine lv_goto (tgt := 28) hx hb dX5_begin_64 (by decide) ?_
        exact ih28 (uL.1, uL.2.1, uL.2.2.1, uL.2.2.2.1, (upd uL.2.2.2.2.1 l28_2.toNatClampNeg (0 : Int32)), uL.2.2.2.2.2.1, uL.2.2.2.2.2.2.1, uL.2.2.2.2.2.2.2.1, uL.2.2.2.2.2.2.2.2.1, uL.2.2.2.2.2.2.2.2.2.1, uL.2.2.2.2.2.2.2.2.2.2.1, uL.2.2.2.2.2.2.2.2.2.2.2.1, uL.2.2.2.2.2.2.2.2.2.2.2.2.1, uL.2.2.2.2.2.2.2.2.2.2.2.2.2.1, uL.2.2.2.2.2.2.2.2.2.2.2.2.2.2.1, (upd (upd uL.2.2.2.2.2.2.2.2.2.2.2.2.2.2.2.1 ((9 : Int32) + l28_2).toNatClampNeg (0 : Int32)) ((21 : Int32) + l28_2).toNatClampNeg (0 : Int32)), uL.2.2.2.2.2.2.2.2.2.2.2.2.2.2.2.2.1, uL.2.2.2.2.2.2.2.2.2.2.2.2.2.2.2.2.2) (l28_2 + 1) _ _ hP hD hS _ (lv_sub hl [1, 0] rfl) hok
  unfold p_X5_begin at hok
  refine lv_aload_n hx hb dX5_begin_0 rfl (lv_at hl 0 rfl) ?_
  refine lv_iconst (v := (0 : Int32)) hx hb dX5_begin_1 (by decide) ?_
  refine va_put (D := (dC, dI)) (ci := 5) (v := .int (0 : Int32)) (ty := .int) (C := RX5) (T := TX5) (N := 18) hx hb hts inX5 tyX5 tyX5_ok nmX5 hown hK hP hD hS 0 rfl rfl 0 (by decide) (hts _ qf_X5_50) (fun _ h9 => h9) rfl (tyX5_ok 0 (by decide)) rfl rfl (Nat.le_of_ble_eq_true rfl) dX5_begin_2 (fun H locs hP _ hS => ?_)
  have hP : va_P (dC, dI) vwCl ((wX5 cI cZ l0 l4 l5 l6 l8 l10 l11 l12 l13 l14 l15 l16 ((0 : Int32), uL.2.1, uL.2.2.1, uL.2.2.2.1, uL.2.2.2.2.1, uL.2.2.2.2.2.1, uL.2.2.2.2.2.2.1, uL.2.2.2.2.2.2.2.1, uL.2.2.2.2.2.2.2.2.1, uL.2.2.2.2.2.2.2.2.2.1, uL.2.2.2.2.2.2.2.2.2.2.1, uL.2.2.2.2.2.2.2.2.2.2.2.1, uL.2.2.2.2.2.2.2.2.2.2.2.2.1, uL.2.2.2.2.2.2.2.2.2.2.2.2.2.1, uL.2.2.2.2.2.2.2.2.2.2.2.2.2.2.1, uL.2.2.2.2.2.2.2.2.2.2.2.2.2.2.2.1, uL.2.2.2.2.2.2.2.2.2.2.2.2.2.2.2.2.1, uL.2.2.2.2.2.2.2.2.2.2.2.2.2.2.2.2.2))) H := hP
  have hD : va_D A ((wX5 cI cZ l0 l4 l5 l6 l8 l10 l11 l12 l13 l14 l15 l16 ((0 : Int32), uL.2.1, uL.2.2.1, uL.2.2.2.1, uL.2.2.2.2.1, uL.2.2.2.2.2.1, uL.2.2.2.2.2.2.1, uL.2.2.2.2.2.2.2.1, uL.2.2.2.2.2.2.2.2.1, uL.2.2.2.2.2.2.2.2.2.1, uL.2.2.2.2.2.2.2.2.2.2.1, uL.2.2.2.2.2.2.2.2.2.2.2.1, uL.2.2.2.2.2.2.2.2.2.2.2.2.1, uL.2.2.2.2.2.2.2.2.2.2.2.2.2.1, uL.2.2.2.2.2.2.2.2.2.2.2.2.2.2.1, uL.2.2.2.2.2.2.2.2.2.2.2.2.2.2.2.1, uL.2.2.2.2.2.2.2.2.2.2.2.2.2.2.2.2.1, uL.2.2.2.2.2.2.2.2.2.2.2.2.2.2.2.2.2))) := D_L hD
  refine lv_iload_n hx hb dX5_begin_5 rfl (lv_at hl 1 rfl) ?_
  refine lv_iconst (v := (2 : Int32)) hx hb dX5_begin_6 (by decide) ?_
  refine lv_bipush (v := (12 : Int32)) hx hb dX5_begin_7 (by decide) ?_
  obtain ⟨v1, hc1, hok⟩ := bd_some hok
  refine cRSi [.int a1, .int (2 : Int32), .int (12 : Int32)] S hK va_Pnil (c_X5_isIn l dC dI cI cZ a1 (2 : Int32) (12 : Int32) hc1) (lw_S qm_X5_53 qt_X5_isIn qn_X5 qc_X5_isIn) hd_X5_isIn ⟨rfl, rfl⟩ ⟨Nat.le_of_ble_eq_true rfl, Nat.le_of_ble_eq_true rfl⟩ ⟨Nat.le_of_ble_eq_true rfl, Nat.le_of_ble_eq_true rfl⟩ rfl hl.1 (Nat.le_of_ble_eq_true rfl) rfl dX5_begin_9 ?_
  refine lv_if_ne (tgt := 21) hx hb dX5_begin_12 (by decide) (fun hc => ?_) (fun hc => ?_)
  · have hok := iq hok hc
    refine lv_aload_n hx hb dX5_begin_21 rfl (lv_at hl 0 rfl) ?_
    refine lv_iload_n hx hb dX5_begin_22 rfl (lv_at hl 1 rfl) ?_
    refine va_put (D := (dC, dI)) (ci := 5) (v := .int a1) (ty := .int) (C := RX5) (T := TX5) (N := 18) hx hb hts inX5 tyX5 tyX5_ok nmX5 hown hK hP hD hS 0 rfl rfl 1 (by decide) (hts _ qf_X5_7) (fun _ h9 => h9) rfl (tyX5_ok 1 (by decide)) rfl rfl (Nat.le_of_ble_eq_true rfl) dX5_begin_23 (fun H locs hP _ hS => ?_)
    have hP : va_P (dC, dI) vwCl ((wX5 cI cZ l0 l4 l5 l6 l8 l10 l11 l12 l13 l14 l15 l16 ((0 : Int32), a1, uL.2.2.1, uL.2.2.2.1, uL.2.2.2.2.1, uL.2.2.2.2.2.1, uL.2.2.2.2.2.2.1, uL.2.2.2.2.2.2.2.1, uL.2.2.2.2.2.2.2.2.1, uL.2.2.2.2.2.2.2.2.2.1, uL.2.2.2.2.2.2.2.2.2.2.1, uL.2.2.2.2.2.2.2.2.2.2.2.1, uL.2.2.2.2.2.2.2.2.2.2.2.2.1, uL.2.2.2.2.2.2.2.2.2.2.2.2.2.1, uL.2.2.2.2.2.2.2.2.2.2.2.2.2.2.1, uL.2.2.2.2.2.2.2.2.2.2.2.2.2.2.2.1, uL.2.2.2.2.2.2.2.2.2.2.2.2.2.2.2.2.1, uL.2.2.2.2.2.2.2.2.2.2.2.2.2.2.2.2.2))) H := hP
    have hD : va_D A ((wX5 cI cZ l0 l4 l5 l6 l8 l10 l11 l12 l13 l14 l15 l16 ((0 : Int32), a1, uL.2.2.1, uL.2.2.2.1, uL.2.2.2.2.1, uL.2.2.2.2.2.1, uL.2.2.2.2.2.2.1, uL.2.2.2.2.2.2.2.1, uL.2.2.2.2.2.2.2.2.1, uL.2.2.2.2.2.2.2.2.2.1, uL.2.2.2.2.2.2.2.2.2.2.1, uL.2.2.2.2.2.2.2.2.2.2.2.1, uL.2.2.2.2.2.2.2.2.2.2.2.2.1, uL.2.2.2.2.2.2.2.2.2.2.2.2.2.1, uL.2.2.2.2.2.2.2.2.2.2.2.2.2.2.1, uL.2.2.2.2.2.2.2.2.2.2.2.2.2.2.2.1, uL.2.2.2.2.2.2.2.2.2.2.2.2.2.2.2.2.1, uL.2.2.2.2.2.2.2.2.2.2.2.2.2.2.2.2.2))) := D_L hD
    refine lv_iconst (v := (0 : Int32)) hx hb dX5_begin_26 (by decide) ?_
    refine lv_istore_n (lv' := [(2, .int (0 : Int32)), (0, .ref l0), (1, .int a1)]) hx hb dX5_begin_27 rfl hl (by decide) rfl (fun ls hl => ?_)
    exact L28 200 ((0 : Int32), a1, uL.2.2.1, uL.2.2.2.1, uL.2.2.2.2.1, uL.2.2.2.2.2.1, uL.2.2.2.2.2.2.1, uL.2.2.2.2.2.2.2.1, uL.2.2.2.2.2.2.2.2.1, uL.2.2.2.2.2.2.2.2.2.1, uL.2.2.2.2.2.2.2.2.2.2.1, uL.2.2.2.2.2.2.2.2.2.2.2.1, uL.2.2.2.2.2.2.2.2.2.2.2.2.1, uL.2.2.2.2.2.2.2.2.2.2.2.2.2.1, uL.2.2.2.2.2.2.2.2.2.2.2.2.2.2.1, uL.2.2.2.2.2.2.2.2.2.2.2.2.2.2.2.1, uL.2.2.2.2.2.2.2.2.2.2.2.2.2.2.2.2.1, uL.2.2.2.2.2.2.2.2.2.2.2.2.2.2.2.2.2) (0 : Int32) _ _ hP hD hS _ (lv_sub hl [1, 0] rfl) hok
  · have hok := ip hok hc
    refine lv_aload_n hx hb dX5_begin_15 rfl (lv_at hl 0 rfl) ?_
    refine lv_iconst (v := (1 : Int32)) hx hb dX5_begin_16 (by decide) ?_
    obtain ⟨v2, hc2, hok⟩ := bd_some hok
    refine cWVi (ci := 5) (q0 := 0) [.int (1 : Int32)] S hK hP hD hS hA (c_X5_fail l dC dI cI cZ l0 l4 l5 l6 l8 l10 l11 l12 l13 l14 l15 l16 _ ((0 : Int32), uL.2.1, uL.2.2.1, uL.2.2.2.1, uL.2.2.2.2.1, uL.2.2.2.2.2.1, uL.2.2.2.2.2.2.1, uL.2.2.2.2.2.2.2.1, uL.2.2.2.2.2.2.2.2.1, uL.2.2.2.2.2.2.2.2.2.1, uL.2.2.2.2.2.2.2.2.2.2.1, uL.2.2.2.2.2.2.2.2.2.2.2.1, uL.2.2.2.2.2.2.2.2.2.2.2.2.1, uL.2.2.2.2.2.2.2.2.2.2.2.2.2.1, uL.2.2.2.2.2.2.2.2.2.2.2.2.2.2.1, uL.2.2.2.2.2.2.2.2.2.2.2.2.2.2.2.1, uL.2.2.2.2.2.2.2.2.2.2.2.2.2.2.2.2.1, uL.2.2.2.2.2.2.2.2.2.2.2.2.2.2.2.2.2) (1 : Int32) hc2) (lw_V qm_X5_112 qi_X5_fail qs_X5_fail qn_X5 qc_X5_fail) hd_X5_fail ⟨rfl, rfl⟩ ⟨Nat.le_of_ble_eq_true rfl, Nat.le_of_ble_eq_true rfl⟩ ⟨Nat.le_of_ble_eq_true rfl, Nat.le_of_ble_eq_true rfl⟩ rfl rfl rfl hl.1 (Nat.le_of_ble_eq_true rfl) rfl dX5_begin_17 (D_L hD) (fun H locs hP hD hS => ?_)
    have hok := Option.some.inj hok
    subst hok
    exact eWi S hr hlk rfl hP hS (Nat.le_of_ble_eq_true rfl) (Nat.le_of_ble_eq_true rfl) dX5_begin_20
theorem hd_X5_addParagraph : yX5_addParagraph.cls = RX5 ∧ yX5_addParagraph.cls ≠ "java/lang/invoke/MethodHandle" ∧ yX5_addParagraph.cls ≠ "java/lang/invoke/VarHandle" ∧ (parseMethodDescriptor yX5_addParagraph.desc).map (fun d => d.parameters.length) = some 3 := by decide +kernel
def p_X5_addParagraph_J36 (uL : tX5) : Option (Int32 × tX5) :=
  bd (p_X5_fail uL (2 : Int32)) (fun v8 =>
  some (v8.1, v8.2))
def p_X5_addParagraph (uL : tX5) (a1 : Int32) (a2 : Int32) (a3 : Int32) : Option (Int32 × tX5) :=
  bd (p_X5_isFloor ((0 : Int32), uL.2.1, uL.2.2.1, uL.2.2.2.1, uL.2.2.2.2.1, uL.2.2.2.2.2.1, uL.2.2.2.2.2.2.1, uL.2.2.2.2.2.2.2.1, uL.2.2.2.2.2.2.2.2.1, uL.2.2.2.2.2.2.2.2.2.1, uL.2.2.2.2.2.2.2.2.2.2.1, uL.2.2.2.2.2.2.2.2.2.2.2.1, uL.2.2.2.2.2.2.2.2.2.2.2.2.1, uL.2.2.2.2.2.2.2.2.2.2.2.2.2.1, uL.2.2.2.2.2.2.2.2.2.2.2.2.2.2.1, uL.2.2.2.2.2.2.2.2.2.2.2.2.2.2.2.1, uL.2.2.2.2.2.2.2.2.2.2.2.2.2.2.2.2.1, uL.2.2.2.2.2.2.2.2.2.2.2.2.2.2.2.2.2) a1) (fun v1 =>
  if v1 = 0 then
    bd (p_X5_fail ((0 : Int32), uL.2.1, uL.2.2.1, uL.2.2.2.1, uL.2.2.2.2.1, uL.2.2.2.2.2.1, uL.2.2.2.2.2.2.1, uL.2.2.2.2.2.2.2.1, uL.2.2.2.2.2.2.2.2.1, uL.2.2.2.2.2.2.2.2.2.1, uL.2.2.2.2.2.2.2.2.2.2.1, uL.2.2.2.2.2.2.2.2.2.2.2.1, uL.2.2.2.2.2.2.2.2.2.2.2.2.1, uL.2.2.2.2.2.2.2.2.2.2.2.2.2.1, uL.2.2.2.2.2.2.2.2.2.2.2.2.2.2.1, uL.2.2.2.2.2.2.2.2.2.2.2.2.2.2.2.1, uL.2.2.2.2.2.2.2.2.2.2.2.2.2.2.2.2.1, uL.2.2.2.2.2.2.2.2.2.2.2.2.2.2.2.2.2) (1 : Int32)) (fun v7 =>
    some (v7.1, v7.2))
  else
    bd (p_X5_isTopic a2) (fun v2 =>
    if v2 = 0 then
      p_X5_addParagraph_J36 ((0 : Int32), uL.2.1, uL.2.2.1, uL.2.2.2.1, uL.2.2.2.2.1, uL.2.2.2.2.2.1, uL.2.2.2.2.2.2.1, uL.2.2.2.2.2.2.2.1, uL.2.2.2.2.2.2.2.2.1, uL.2.2.2.2.2.2.2.2.2.1, uL.2.2.2.2.2.2.2.2.2.2.1, uL.2.2.2.2.2.2.2.2.2.2.2.1, uL.2.2.2.2.2.2.2.2.2.2.2.2.1, uL.2.2.2.2.2.2.2.2.2.2.2.2.2.1, uL.2.2.2.2.2.2.2.2.2.2.2.2.2.2.1, uL.2.2.2.2.2.2.2.2.2.2.2.2.2.2.2.1, uL.2.2.2.2.2.2.2.2.2.2.2.2.2.2.2.2.1, uL.2.2.2.2.2.2.2.2.2.2.2.2.2.2.2.2.2)
    else
      bd (p_X5_isIn a3 (0 : Int32) (9 : Int32)) (fun v3 =>
      if v3 = 0 then
        p_X5_addParagraph_J36 ((0 : Int32), uL.2.1, uL.2.2.1, uL.2.2.2.1, uL.2.2.2.2.1, uL.2.2.2.2.2.1, uL.2.2.2.2.2.2.1, uL.2.2.2.2.2.2.2.1, uL.2.2.2.2.2.2.2.2.1, uL.2.2.2.2.2.2.2.2.2.1, uL.2.2.2.2.2.2.2.2.2.2.1, uL.2.2.2.2.2.2.2.2.2.2.2.1, uL.2.2.2.2.2.2.2.2.2.2.2.2.1, uL.2.2.2.2.2.2.2.2.2.2.2.2.2.1, uL.2.2.2.2.2.2.2.2.2.2.2.2.2.2.1, uL.2.2.2.2.2.2.2.2.2.2.2.2.2.2.2.1, uL.2.2.2.2.2.2.2.2.2.2.2.2.2.2.2.2.1, uL.2.2.2.2.2.2.2.2.2.2.2.2.2.2.2.2.2)
      else
        gd a1 12 (
        if (uL.2.2.2.2.1 a1.toNatClampNeg) = (9 : Int32) then
          bd (p_X5_fail ((0 : Int32), uL.2.1, uL.2.2.1, uL.2.2.2.1, uL.2.2.2.2.1, uL.2.2.2.2.2.1, uL.2.2.2.2.2.2.1, uL.2.2.2.2.2.2.2.1, uL.2.2.2.2.2.2.2.2.1, uL.2.2.2.2.2.2.2.2.2.1, uL.2.2.2.2.2.2.2.2.2.2.1, uL.2.2.2.2.2.2.2.2.2.2.2.1, uL.2.2.2.2.2.2.2.2.2.2.2.2.1, uL.2.2.2.2.2.2.2.2.2.2.2.2.2.1, uL.2.2.2.2.2.2.2.2.2.2.2.2.2.2.1, uL.2.2.2.2.2.2.2.2.2.2.2.2.2.2.2.1, uL.2.2.2.2.2.2.2.2.2.2.2.2.2.2.2.2.1, uL.2.2.2.2.2.2.2.2.2.2.2.2.2.2.2.2.2) (3 : Int32)) (fun v6 =>
          some (v6.1, v6.2))
        else
          gd (((9 : Int32) * a1) + (uL.2.2.2.2.1 a1.toNatClampNeg)) 108 (
          some ((((upd uL.2.2.2.2.1 a1.toNatClampNeg ((uL.2.2.2.2.1 a1.toNatClampNeg) + (1 : Int32))) a1.toNatClampNeg) - (1 : Int32)), ((0 : Int32), uL.2.1, uL.2.2.1, uL.2.2.2.1, (upd uL.2.2.2.2.1 a1.toNatClampNeg ((uL.2.2.2.2.1 a1.toNatClampNeg) + (1 : Int32))), (upd uL.2.2.2.2.2.1 (((9 : Int32) * a1) + (uL.2.2.2.2.1 a1.toNatClampNeg)).toNatClampNeg a2), (upd uL.2.2.2.2.2.2.1 (((9 : Int32) * a1) + (uL.2.2.2.2.1 a1.toNatClampNeg)).toNatClampNeg a3), uL.2.2.2.2.2.2.2.1, uL.2.2.2.2.2.2.2.2.1, uL.2.2.2.2.2.2.2.2.2.1, uL.2.2.2.2.2.2.2.2.2.2.1, uL.2.2.2.2.2.2.2.2.2.2.2.1, uL.2.2.2.2.2.2.2.2.2.2.2.2.1, uL.2.2.2.2.2.2.2.2.2.2.2.2.2.1, uL.2.2.2.2.2.2.2.2.2.2.2.2.2.2.1, uL.2.2.2.2.2.2.2.2.2.2.2.2.2.2.2.1, uL.2.2.2.2.2.2.2.2.2.2.2.2.2.2.2.2.1, uL.2.2.2.2.2.2.2.2.2.2.2.2.2.2.2.2.2)))))))
set_option maxHeartbeats 4000000 in
set_option maxRecDepth 100000 in
theorem c_X5_addParagraph (l : Launch) (dC : Nat → ClassId) (dI : Nat → Nat → Nat) (cI cZ : ClassId) (l0 l4 l5 l6 l8 l10 l11 l12 l13 l14 l15 l16 : Nat) (sz : Nat) (uL : tX5) (a1 : Int32) (a2 : Int32) (a3 : Int32) {z : (Int32 × tX5)} (hok : p_X5_addParagraph uL a1 a2 a3 = some z) : Met l yX5_addParagraph (Cond.code yX5_addParagraph cX5_addParagraph 5 (some .int) :: lw_all) { frames := 2, cells := 0, slots := 0, locals := 43 } (prW (dC, dI) vwCl (TYS cI cZ) ((wX5 cI cZ l0 l4 l5 l6 l8 l10 l11 l12 l13 l14 l15 l16 uL)) sz [.ref l0, .int a1, .int a2, .int a3]) (va_Qi (fun (r : Int32) (_ : Unit) => r = z.1) (fun _ t => va_P (dC, dI) vwCl ((wX5 cI cZ l0 l4 l5 l6 l8 l10 l11 l12 l13 l14 l15 l16 z.2)) t.heap) (va_A ((wX5 cI cZ l0 l4 l5 l6 l8 l10 l11 l12 l13 l14 l15 l16 uL)) sz)) 0 0 (va_A ((wX5 cI cZ l0 l4 l5 l6 l8 l10 l11 l12 l13 l14 l15 l16 uL)) sz) := by
  refine oM (by decide) (Nat.le_of_ble_eq_true rfl) ?_
  intro p e s m args below meth c S hr hlk hnm hB ls hl
  have hx := S.1
  have hb := S.2.1
  have hml := S.2.2.1
  have hown : s.vm.findClass RX5 = some m.cls := S.2.2.2.1
  have hts := S.2.2.2.2
  have S : CallFix p m c cX5_addParagraph 5 s args lw_all RX5 := S
  have hl : lv_has ls 5 [(0, .ref l0), (1, .int a1), (2, .int a2), (3, .int a3)] := hl
  obtain ⟨hsz, hP, hK, hD0⟩ := hB
  subst hsz
  have hD := hD0.self (sz := s.heap.size)
  generalize hAe : va_A ((wX5 cI cZ l0 l4 l5 l6 l8 l10 l11 l12 l13 l14 l15 l16 uL)) s.heap.size = A at hD ⊢
  have hA : ∀ q : Nat, s.heap.size ≤ q → A q := fun q h => by rw [← hAe]; exact Or.inr h
  have hS : va_S A s.heap s.heap [] := va_S.rf
  have hP : va_P (dC, dI) vwCl ((wX5 cI cZ l0 l4 l5 l6 l8 l10 l11 l12 l13 l14 l15 l16 uL)) s.heap := hP
  have J36 : ∀ (uL : tX5) (H : Heap) (locs : List Loc) (hP : va_P (dC, dI) vwCl ((wX5 cI cZ l0 l4 l5 l6 l8 l10 l11 l12 l13 l14 l15 l16 uL)) H) (hD : va_D A ((wX5 cI cZ l0 l4 l5 l6 l8 l10 l11 l12 l13 l14 l15 l16 uL))) (hS : va_S A s.heap H locs) (ls : Array Slot) (hl : lv_has ls 5 [(0, .ref l0)]) (hok : p_X5_addParagraph_J36 uL = some z), W p l e { frames := 2, cells := 0, slots := 0, locals := 43 } s m args below meth c H locs 0 0 (MQ below (va_Qi (fun (r : Int32) (_ : Unit) => r = z.1) (fun _ t => va_P (dC, dI) vwCl ((wX5 cI cZ l0 l4 l5 l6 l8 l10 l11 l12 l13 l14 l15 l16 z.2)) t.heap) A) args s 0 0 A) (F0 m 36 ls []) := by
    intro uL H locs hP hD hS ls hl hok
    unfold p_X5_addParagraph_J36 at hok
    refine lv_aload_n hx hb dX5_addParagraph_36 rfl (lv_at hl 0 rfl) ?_
    refine lv_iconst (v := (2 : Int32)) hx hb dX5_addParagraph_37 (by decide) ?_
    obtain ⟨v8, hc8, hok⟩ := bd_some hok
    refine cWVi (ci := 5) (q0 := 0) [.int (2 : Int32)] S hK hP hD hS hA (c_X5_fail l dC dI cI cZ l0 l4 l5 l6 l8 l10 l11 l12 l13 l14 l15 l16 _ uL (2 : Int32) hc8) (lw_V qm_X5_112 qi_X5_fail qs_X5_fail qn_X5 qc_X5_fail) hd_X5_fail ⟨rfl, rfl⟩ ⟨Nat.le_of_ble_eq_true rfl, Nat.le_of_ble_eq_true rfl⟩ ⟨Nat.le_of_ble_eq_true rfl, Nat.le_of_ble_eq_true rfl⟩ rfl rfl rfl hl.1 (Nat.le_of_ble_eq_true rfl) rfl dX5_addParagraph_38 (D_L hD) (fun H locs hP hD hS => ?_)
    have hok := Option.some.inj hok
    subst hok
    exact eWi S hr hlk rfl hP hS (Nat.le_of_ble_eq_true rfl) (Nat.le_of_ble_eq_true rfl) dX5_addParagraph_41
  unfold p_X5_addParagraph at hok
  refine lv_aload_n hx hb dX5_addParagraph_0 rfl (lv_at hl 0 rfl) ?_
  refine lv_iconst (v := (0 : Int32)) hx hb dX5_addParagraph_1 (by decide) ?_
  refine va_put (D := (dC, dI)) (ci := 5) (v := .int (0 : Int32)) (ty := .int) (C := RX5) (T := TX5) (N := 18) hx hb hts inX5 tyX5 tyX5_ok nmX5 hown hK hP hD hS 0 rfl rfl 0 (by decide) (hts _ qf_X5_50) (fun _ h9 => h9) rfl (tyX5_ok 0 (by decide)) rfl rfl (Nat.le_of_ble_eq_true rfl) dX5_addParagraph_2 (fun H locs hP _ hS => ?_)
  have hP : va_P (dC, dI) vwCl ((wX5 cI cZ l0 l4 l5 l6 l8 l10 l11 l12 l13 l14 l15 l16 ((0 : Int32), uL.2.1, uL.2.2.1, uL.2.2.2.1, uL.2.2.2.2.1, uL.2.2.2.2.2.1, uL.2.2.2.2.2.2.1, uL.2.2.2.2.2.2.2.1, uL.2.2.2.2.2.2.2.2.1, uL.2.2.2.2.2.2.2.2.2.1, uL.2.2.2.2.2.2.2.2.2.2.1, uL.2.2.2.2.2.2.2.2.2.2.2.1, uL.2.2.2.2.2.2.2.2.2.2.2.2.1, uL.2.2.2.2.2.2.2.2.2.2.2.2.2.1, uL.2.2.2.2.2.2.2.2.2.2.2.2.2.2.1, uL.2.2.2.2.2.2.2.2.2.2.2.2.2.2.2.1, uL.2.2.2.2.2.2.2.2.2.2.2.2.2.2.2.2.1, uL.2.2.2.2.2.2.2.2.2.2.2.2.2.2.2.2.2))) H := hP
  have hD : va_D A ((wX5 cI cZ l0 l4 l5 l6 l8 l10 l11 l12 l13 l14 l15 l16 ((0 : Int32), uL.2.1, uL.2.2.1, uL.2.2.2.1, uL.2.2.2.2.1, uL.2.2.2.2.2.1, uL.2.2.2.2.2.2.1, uL.2.2.2.2.2.2.2.1, uL.2.2.2.2.2.2.2.2.1, uL.2.2.2.2.2.2.2.2.2.1, uL.2.2.2.2.2.2.2.2.2.2.1, uL.2.2.2.2.2.2.2.2.2.2.2.1, uL.2.2.2.2.2.2.2.2.2.2.2.2.1, uL.2.2.2.2.2.2.2.2.2.2.2.2.2.1, uL.2.2.2.2.2.2.2.2.2.2.2.2.2.2.1, uL.2.2.2.2.2.2.2.2.2.2.2.2.2.2.2.1, uL.2.2.2.2.2.2.2.2.2.2.2.2.2.2.2.2.1, uL.2.2.2.2.2.2.2.2.2.2.2.2.2.2.2.2.2))) := D_L hD
  refine lv_aload_n hx hb dX5_addParagraph_5 rfl (lv_at hl 0 rfl) ?_
  refine lv_iload_n hx hb dX5_addParagraph_6 rfl (lv_at hl 1 rfl) ?_
  obtain ⟨v1, hc1, hok⟩ := bd_some hok
  refine cRVi (ci := 5) (q0 := 0) [.int a1] S hK hP (c_X5_isFloor l dC dI cI cZ l0 l4 l5 l6 l8 l10 l11 l12 l13 l14 l15 l16 ((0 : Int32), uL.2.1, uL.2.2.1, uL.2.2.2.1, uL.2.2.2.2.1, uL.2.2.2.2.2.1, uL.2.2.2.2.2.2.1, uL.2.2.2.2.2.2.2.1, uL.2.2.2.2.2.2.2.2.1, uL.2.2.2.2.2.2.2.2.2.1, uL.2.2.2.2.2.2.2.2.2.2.1, uL.2.2.2.2.2.2.2.2.2.2.2.1, uL.2.2.2.2.2.2.2.2.2.2.2.2.1, uL.2.2.2.2.2.2.2.2.2.2.2.2.2.1, uL.2.2.2.2.2.2.2.2.2.2.2.2.2.2.1, uL.2.2.2.2.2.2.2.2.2.2.2.2.2.2.2.1, uL.2.2.2.2.2.2.2.2.2.2.2.2.2.2.2.2.1, uL.2.2.2.2.2.2.2.2.2.2.2.2.2.2.2.2.2) a1 hc1) (lw_V qm_X5_93 qi_X5_isFloor qs_X5_isFloor qn_X5 qc_X5_isFloor) hd_X5_isFloor ⟨rfl, rfl⟩ ⟨Nat.le_of_ble_eq_true rfl, Nat.le_of_ble_eq_true rfl⟩ ⟨Nat.le_of_ble_eq_true rfl, Nat.le_of_ble_eq_true rfl⟩ rfl rfl rfl hl.1 (Nat.le_of_ble_eq_true rfl) rfl dX5_addParagraph_7 ?_
  refine lv_if_ne (tgt := 19) hx hb dX5_addParagraph_10 (by decide) (fun hc => ?_) (fun hc => ?_)
  · have hok := iq hok hc
    refine lv_iload_n hx hb dX5_addParagraph_19 rfl (lv_at hl 2 rfl) ?_
    obtain ⟨v2, hc2, hok⟩ := bd_some hok
    refine cRSi [.int a2] S hK va_Pnil (c_X5_isTopic l dC dI cI cZ a2 hc2) (lw_S qm_X5_119 qt_X5_isTopic qn_X5 qc_X5_isTopic) hd_X5_isTopic ⟨rfl, rfl⟩ ⟨Nat.le_of_ble_eq_true rfl, Nat.le_of_ble_eq_true rfl⟩ ⟨Nat.le_of_ble_eq_true rfl, Nat.le_of_ble_eq_true rfl⟩ rfl hl.1 (Nat.le_of_ble_eq_true rfl) rfl dX5_addParagraph_20 ?_
    refine lv_if_eq (tgt := 36) hx hb dX5_addParagraph_23 (by decide) (fun hc => ?_) (fun hc => ?_)
    · have hok := ip hok hc
      exact J36 ((0 : Int32), uL.2.1, uL.2.2.1, uL.2.2.2.1, uL.2.2.2.2.1, uL.2.2.2.2.2.1, uL.2.2.2.2.2.2.1, uL.2.2.2.2.2.2.2.1, uL.2.2.2.2.2.2.2.2.1, uL.2.2.2.2.2.2.2.2.2.1, uL.2.2.2.2.2.2.2.2.2.2.1, uL.2.2.2.2.2.2.2.2.2.2.2.1, uL.2.2.2.2.2.2.2.2.2.2.2.2.1, uL.2.2.2.2.2.2.2.2.2.2.2.2.2.1, uL.2.2.2.2.2.2.2.2.2.2.2.2.2.2.1, uL.2.2.2.2.2.2.2.2.2.2.2.2.2.2.2.1, uL.2.2.2.2.2.2.2.2.2.2.2.2.2.2.2.2.1, uL.2.2.2.2.2.2.2.2.2.2.2.2.2.2.2.2.2) _ _ hP hD hS _ (lv_sub hl [0] rfl) hok
    · have hok := iq hok hc
      refine lv_iload_n hx hb dX5_addParagraph_26 rfl (lv_at hl 3 rfl) ?_
      refine lv_iconst (v := (0 : Int32)) hx hb dX5_addParagraph_27 (by decide) ?_
      refine lv_bipush (v := (9 : Int32)) hx hb dX5_addParagraph_28 (by decide) ?_
      obtain ⟨v3, hc3, hok⟩ := bd_some hok
      refine cRSi [.int a3, .int (0 : Int32), .int (9 : Int32)] S hK va_Pnil (c_X5_isIn l dC dI cI cZ a3 (0 : Int32) (9 : Int32) hc3) (lw_S qm_X5_53 qt_X5_isIn qn_X5 qc_X5_isIn) hd_X5_isIn ⟨rfl, rfl⟩ ⟨Nat.le_of_ble_eq_true rfl, Nat.le_of_ble_eq_true rfl⟩ ⟨Nat.le_of_ble_eq_true rfl, Nat.le_of_ble_eq_true rfl⟩ rfl hl.1 (Nat.le_of_ble_eq_true rfl) rfl dX5_addParagraph_30 ?_
      refine lv_if_ne (tgt := 42) hx hb dX5_addParagraph_33 (by decide) (fun hc => ?_) (fun hc => ?_)
      · have hok := iq hok hc
        refine lv_aload_n hx hb dX5_addParagraph_42 rfl (lv_at hl 0 rfl) ?_
        refine va_get (D := (dC, dI)) (ci := 5) (v := .ref l4) (C := RX5) (T := TX5) (N := 18) hx hb hts inX5 hown hK hP 0 rfl rfl 4 (by decide) (hts _ qf_X5_16) (fun _ h9 => h9) rfl dX5_addParagraph_43 ?_
        refine lv_iload_n hx hb dX5_addParagraph_46 rfl (lv_at hl 1 rfl) ?_
        obtain ⟨hi4, hok⟩ := gd_some hok
        refine va_iald hx hb hK hP 1 0 rfl rfl hi4 dX5_addParagraph_47 ?_
        refine lv_bipush (v := (9 : Int32)) hx hb dX5_addParagraph_48 (by decide) ?_
        refine lv_icmp_ne (tgt := 59) hx hb dX5_addParagraph_50 (by decide) (fun hc => ?_) (fun hc => ?_)
        · have hok := iq hok hc
          refine lv_bipush (v := (9 : Int32)) hx hb dX5_addParagraph_59 (by decide) ?_
          refine lv_iload_n hx hb dX5_addParagraph_61 rfl (lv_at hl 1 rfl) ?_
          refine lv_imul hx hb dX5_addParagraph_62 ?_
          refine lv_aload_n hx hb dX5_addParagraph_63 rfl (lv_at hl 0 rfl) ?_
          refine va_get (D := (dC, dI)) (ci := 5) (v := .ref l4) (C := RX5) (T := TX5) (N := 18) hx hb hts inX5 hown hK hP 0 rfl rfl 4 (by decide) (hts _ qf_X5_16) (fun _ h9 => h9) rfl dX5_addParagraph_64 ?_
          refine lv_iload_n hx hb dX5_addParagraph_67 rfl (lv_at hl 1 rfl) ?_
          refine va_iald hx hb hK hP 1 0 rfl rfl hi4 dX5_addParagraph_68 ?_
          refine lv_iadd hx hb dX5_addParagraph_69 ?_
          refine lv_istore (lv' := [(4, .int (((9 : Int32) * a1) + (uL.2.2.2.2.1 a1.toNatClampNeg))), (0, .ref l0), (1, .int a1), (2, .int a2), (3, .int a3)]) hx hb dX5_addParagraph_70 hl (by decide) rfl (fun ls hl => ?_)
          refine lv_aload_n hx hb dX5_addParagraph_72 rfl (lv_at hl 1 rfl) ?_
          refine va_get (D := (dC, dI)) (ci := 5) (v := .ref l5) (C := RX5) (T := TX5) (N := 18) hx hb hts inX5 hown hK hP 0 rfl rfl 5 (by decide) (hts _ qf_X5_20) (fun _ h9 => h9) rfl dX5_addParagraph_73 ?_
          refine lv_iload hx hb dX5_addParagraph_76 (lv_at hl 0 rfl) ?_
          refine lv_iload_n hx hb dX5_addParagraph_78 rfl (lv_at hl 3 rfl) ?_
          obtain ⟨hi5, hok⟩ := gd_some hok
          refine va_iast hx hb hK hP hD hS 2 0 rfl rfl hi5 dX5_addParagraph_79 (fun H locs hP _ hS => ?_)
          have hP : va_P (dC, dI) vwCl ((wX5 cI cZ l0 l4 l5 l6 l8 l10 l11 l12 l13 l14 l15 l16 ((0 : Int32), uL.2.1, uL.2.2.1, uL.2.2.2.1, uL.2.2.2.2.1, (upd uL.2.2.2.2.2.1 (((9 : Int32) * a1) + (uL.2.2.2.2.1 a1.toNatClampNeg)).toNatClampNeg a2), uL.2.2.2.2.2.2.1, uL.2.2.2.2.2.2.2.1, uL.2.2.2.2.2.2.2.2.1, uL.2.2.2.2.2.2.2.2.2.1, uL.2.2.2.2.2.2.2.2.2.2.1, uL.2.2.2.2.2.2.2.2.2.2.2.1, uL.2.2.2.2.2.2.2.2.2.2.2.2.1, uL.2.2.2.2.2.2.2.2.2.2.2.2.2.1, uL.2.2.2.2.2.2.2.2.2.2.2.2.2.2.1, uL.2.2.2.2.2.2.2.2.2.2.2.2.2.2.2.1, uL.2.2.2.2.2.2.2.2.2.2.2.2.2.2.2.2.1, uL.2.2.2.2.2.2.2.2.2.2.2.2.2.2.2.2.2))) H := hP
          have hD : va_D A ((wX5 cI cZ l0 l4 l5 l6 l8 l10 l11 l12 l13 l14 l15 l16 ((0 : Int32), uL.2.1, uL.2.2.1, uL.2.2.2.1, uL.2.2.2.2.1, (upd uL.2.2.2.2.2.1 (((9 : Int32) * a1) + (uL.2.2.2.2.1 a1.toNatClampNeg)).toNatClampNeg a2), uL.2.2.2.2.2.2.1, uL.2.2.2.2.2.2.2.1, uL.2.2.2.2.2.2.2.2.1, uL.2.2.2.2.2.2.2.2.2.1, uL.2.2.2.2.2.2.2.2.2.2.1, uL.2.2.2.2.2.2.2.2.2.2.2.1, uL.2.2.2.2.2.2.2.2.2.2.2.2.1, uL.2.2.2.2.2.2.2.2.2.2.2.2.2.1, uL.2.2.2.2.2.2.2.2.2.2.2.2.2.2.1, uL.2.2.2.2.2.2.2.2.2.2.2.2.2.2.2.1, uL.2.2.2.2.2.2.2.2.2.2.2.2.2.2.2.2.1, uL.2.2.2.2.2.2.2.2.2.2.2.2.2.2.2.2.2))) := D_L hD
          refine lv_aload_n hx hb dX5_addParagraph_80 rfl (lv_at hl 1 rfl) ?_
          refine va_get (D := (dC, dI)) (ci := 5) (v := .ref l6) (C := RX5) (T := TX5) (N := 18) hx hb hts inX5 hown hK hP 0 rfl rfl 6 (by decide) (hts _ qf_X5_23) (fun _ h9 => h9) rfl dX5_addParagraph_81 ?_
          refine lv_iload hx hb dX5_addParagraph_84 (lv_at hl 0 rfl) ?_
          refine lv_iload_n hx hb dX5_addParagraph_86 rfl (lv_at hl 4 rfl) ?_
          refine va_iast hx hb hK hP hD hS 3 0 rfl rfl hi5 dX5_addParagraph_87 (fun H locs hP _ hS => ?_)
          have hP : va_P (dC, dI) vwCl ((wX5 cI cZ l0 l4 l5 l6 l8 l10 l11 l12 l13 l14 l15 l16 ((0 : Int32), uL.2.1, uL.2.2.1, uL.2.2.2.1, uL.2.2.2.2.1, (upd uL.2.2.2.2.2.1 (((9 : Int32) * a1) + (uL.2.2.2.2.1 a1.toNatClampNeg)).toNatClampNeg a2), (upd uL.2.2.2.2.2.2.1 (((9 : Int32) * a1) + (uL.2.2.2.2.1 a1.toNatClampNeg)).toNatClampNeg a3), uL.2.2.2.2.2.2.2.1, uL.2.2.2.2.2.2.2.2.1, uL.2.2.2.2.2.2.2.2.2.1, uL.2.2.2.2.2.2.2.2.2.2.1, uL.2.2.2.2.2.2.2.2.2.2.2.1, uL.2.2.2.2.2.2.2.2.2.2.2.2.1, uL.2.2.2.2.2.2.2.2.2.2.2.2.2.1, uL.2.2.2.2.2.2.2.2.2.2.2.2.2.2.1, uL.2.2.2.2.2.2.2.2.2.2.2.2.2.2.2.1, uL.2.2.2.2.2.2.2.2.2.2.2.2.2.2.2.2.1, uL.2.2.2.2.2.2.2.2.2.2.2.2.2.2.2.2.2))) H := hP
          have hD : va_D A ((wX5 cI cZ l0 l4 l5 l6 l8 l10 l11 l12 l13 l14 l15 l16 ((0 : Int32), uL.2.1, uL.2.2.1, uL.2.2.2.1, uL.2.2.2.2.1, (upd uL.2.2.2.2.2.1 (((9 : Int32) * a1) + (uL.2.2.2.2.1 a1.toNatClampNeg)).toNatClampNeg a2), (upd uL.2.2.2.2.2.2.1 (((9 : Int32) * a1) + (uL.2.2.2.2.1 a1.toNatClampNeg)).toNatClampNeg a3), uL.2.2.2.2.2.2.2.1, uL.2.2.2.2.2.2.2.2.1, uL.2.2.2.2.2.2.2.2.2.1, uL.2.2.2.2.2.2.2.2.2.2.1, uL.2.2.2.2.2.2.2.2.2.2.2.1, uL.2.2.2.2.2.2.2.2.2.2.2.2.1, uL.2.2.2.2.2.2.2.2.2.2.2.2.2.1, uL.2.2.2.2.2.2.2.2.2.2.2.2.2.2.1, uL.2.2.2.2.2.2.2.2.2.2.2.2.2.2.2.1, uL.2.2.2.2.2.2.2.2.2.2.2.2.2.2.2.2.1, uL.2.2.2.2.2.2.2.2.2.2.2.2.2.2.2.2.2))) := D_L hD
          refine lv_aload_n hx hb dX5_addParagraph_88 rfl (lv_at hl 1 rfl) ?_
          refine va_get (D := (dC, dI)) (ci := 5) (v := .ref l4) (C := RX5) (T := TX5) (N := 18) hx hb hts inX5 hown hK hP 0 rfl rfl 4 (by decide) (hts _ qf_X5_16) (fun _ h9 => h9) rfl dX5_addParagraph_89 ?_
          refine lv_iload_n hx hb dX5_addParagraph_92 rfl (lv_at hl 2 rfl) ?_
          refine lv_dup2_11 hx hb dX5_addParagraph_93 rfl rfl ?_
          refine va_iald hx hb hK hP 1 0 rfl rfl hi4 dX5_addParagraph_94 ?_
          refine lv_iconst (v := (1 : Int32)) hx hb dX5_addParagraph_95 (by decide) ?_
          refine lv_iadd hx hb dX5_addParagraph_96 ?_
          refine va_iast hx hb hK hP hD hS 1 0 rfl rfl hi4 dX5_addParagraph_97 (fun H locs hP _ hS => ?_)
          have hP : va_P (dC, dI) vwCl ((wX5 cI cZ l0 l4 l5 l6 l8 l10 l11 l12 l13 l14 l15 l16 ((0 : Int32), uL.2.1, uL.2.2.1, uL.2.2.2.1, (upd uL.2.2.2.2.1 a1.toNatClampNeg ((uL.2.2.2.2.1 a1.toNatClampNeg) + (1 : Int32))), (upd uL.2.2.2.2.2.1 (((9 : Int32) * a1) + (uL.2.2.2.2.1 a1.toNatClampNeg)).toNatClampNeg a2), (upd uL.2.2.2.2.2.2.1 (((9 : Int32) * a1) + (uL.2.2.2.2.1 a1.toNatClampNeg)).toNatClampNeg a3), uL.2.2.2.2.2.2.2.1, uL.2.2.2.2.2.2.2.2.1, uL.2.2.2.2.2.2.2.2.2.1, uL.2.2.2.2.2.2.2.2.2.2.1, uL.2.2.2.2.2.2.2.2.2.2.2.1, uL.2.2.2.2.2.2.2.2.2.2.2.2.1, uL.2.2.2.2.2.2.2.2.2.2.2.2.2.1, uL.2.2.2.2.2.2.2.2.2.2.2.2.2.2.1, uL.2.2.2.2.2.2.2.2.2.2.2.2.2.2.2.1, uL.2.2.2.2.2.2.2.2.2.2.2.2.2.2.2.2.1, uL.2.2.2.2.2.2.2.2.2.2.2.2.2.2.2.2.2))) H := hP
          have hD : va_D A ((wX5 cI cZ l0 l4 l5 l6 l8 l10 l11 l12 l13 l14 l15 l16 ((0 : Int32), uL.2.1, uL.2.2.1, uL.2.2.2.1, (upd uL.2.2.2.2.1 a1.toNatClampNeg ((uL.2.2.2.2.1 a1.toNatClampNeg) + (1 : Int32))), (upd uL.2.2.2.2.2.1 (((9 : Int32) * a1) + (uL.2.2.2.2.1 a1.toNatClampNeg)).toNatClampNeg a2), (upd uL.2.2.2.2.2.2.1 (((9 : Int32) * a1) + (uL.2.2.2.2.1 a1.toNatClampNeg)).toNatClampNeg a3), uL.2.2.2.2.2.2.2.1, uL.2.2.2.2.2.2.2.2.1, uL.2.2.2.2.2.2.2.2.2.1, uL.2.2.2.2.2.2.2.2.2.2.1, uL.2.2.2.2.2.2.2.2.2.2.2.1, uL.2.2.2.2.2.2.2.2.2.2.2.2.1, uL.2.2.2.2.2.2.2.2.2.2.2.2.2.1, uL.2.2.2.2.2.2.2.2.2.2.2.2.2.2.1, uL.2.2.2.2.2.2.2.2.2.2.2.2.2.2.2.1, uL.2.2.2.2.2.2.2.2.2.2.2.2.2.2.2.2.1, uL.2.2.2.2.2.2.2.2.2.2.2.2.2.2.2.2.2))) := D_L hD
          refine lv_aload_n hx hb dX5_addParagraph_98 rfl (lv_at hl 1 rfl) ?_
          refine va_get (D := (dC, dI)) (ci := 5) (v := .ref l4) (C := RX5) (T := TX5) (N := 18) hx hb hts inX5 hown hK hP 0 rfl rfl 4 (by decide) (hts _ qf_X5_16) (fun _ h9 => h9) rfl dX5_addParagraph_99 ?_
          refine lv_iload_n hx hb dX5_addParagraph_102 rfl (lv_at hl 2 rfl) ?_
          refine va_iald hx hb hK hP 1 0 rfl rfl hi4 dX5_addParagraph_103 ?_
          refine lv_iconst (v := (1 : Int32)) hx hb dX5_addParagraph_104 (by decide) ?_
          refine lv_isub hx hb dX5_addParagraph_105 ?_
          have hok := Option.some.inj hok
          subst hok
          exact eWi S hr hlk rfl hP hS (Nat.le_of_ble_eq_true rfl) (Nat.le_of_ble_eq_true rfl) dX5_addParagraph_106
        · have hok := ip hok hc
          refine lv_aload_n hx hb dX5_addParagraph_53 rfl (lv_at hl 0 rfl) ?_
          refine lv_iconst (v := (3 : Int32)) hx hb dX5_addParagraph_54 (by decide) ?_
          obtain ⟨v6, hc6, hok⟩ := bd_some hok
          refine cWVi (ci := 5) (q0 := 0) [.int (3 : Int32)] S hK hP hD hS hA (c_X5_fail l dC dI cI cZ l0 l4 l5 l6 l8 l10 l11 l12 l13 l14 l15 l16 _ ((0 : Int32), uL.2.1, uL.2.2.1, uL.2.2.2.1, uL.2.2.2.2.1, uL.2.2.2.2.2.1, uL.2.2.2.2.2.2.1, uL.2.2.2.2.2.2.2.1, uL.2.2.2.2.2.2.2.2.1, uL.2.2.2.2.2.2.2.2.2.1, uL.2.2.2.2.2.2.2.2.2.2.1, uL.2.2.2.2.2.2.2.2.2.2.2.1, uL.2.2.2.2.2.2.2.2.2.2.2.2.1, uL.2.2.2.2.2.2.2.2.2.2.2.2.2.1, uL.2.2.2.2.2.2.2.2.2.2.2.2.2.2.1, uL.2.2.2.2.2.2.2.2.2.2.2.2.2.2.2.1, uL.2.2.2.2.2.2.2.2.2.2.2.2.2.2.2.2.1, uL.2.2.2.2.2.2.2.2.2.2.2.2.2.2.2.2.2) (3 : Int32) hc6) (lw_V qm_X5_112 qi_X5_fail qs_X5_fail qn_X5 qc_X5_fail) hd_X5_fail ⟨rfl, rfl⟩ ⟨Nat.le_of_ble_eq_true rfl, Nat.le_of_ble_eq_true rfl⟩ ⟨Nat.le_of_ble_eq_true rfl, Nat.le_of_ble_eq_true rfl⟩ rfl rfl rfl hl.1 (Nat.le_of_ble_eq_true rfl) rfl dX5_addParagraph_55 (D_L hD) (fun H locs hP hD hS => ?_)
          have hok := Option.some.inj hok
          subst hok
          exact eWi S hr hlk rfl hP hS (Nat.le_of_ble_eq_true rfl) (Nat.le_of_ble_eq_true rfl) dX5_addParagraph_58
      · have hok := ip hok hc
        exact J36 ((0 : Int32), uL.2.1, uL.2.2.1, uL.2.2.2.1, uL.2.2.2.2.1, uL.2.2.2.2.2.1, uL.2.2.2.2.2.2.1, uL.2.2.2.2.2.2.2.1, uL.2.2.2.2.2.2.2.2.1, uL.2.2.2.2.2.2.2.2.2.1, uL.2.2.2.2.2.2.2.2.2.2.1, uL.2.2.2.2.2.2.2.2.2.2.2.1, uL.2.2.2.2.2.2.2.2.2.2.2.2.1, uL.2.2.2.2.2.2.2.2.2.2.2.2.2.1, uL.2.2.2.2.2.2.2.2.2.2.2.2.2.2.1, uL.2.2.2.2.2.2.2.2.2.2.2.2.2.2.2.1, uL.2.2.2.2.2.2.2.2.2.2.2.2.2.2.2.2.1, uL.2.2.2.2.2.2.2.2.2.2.2.2.2.2.2.2.2) _ _ hP hD hS _ (lv_sub hl [0] rfl) hok
  · have hok := ip hok hc
    refine lv_aload_n hx hb dX5_addParagraph_13 rfl (lv_at hl 0 rfl) ?_
    refine lv_iconst (v := (1 : Int32)) hx hb dX5_addParagraph_14 (by decide) ?_
    obtain ⟨v7, hc7, hok⟩ := bd_some hok
    refine cWVi (ci := 5) (q0 := 0) [.int (1 : Int32)] S hK hP hD hS hA (c_X5_fail l dC dI cI cZ l0 l4 l5 l6 l8 l10 l11 l12 l13 l14 l15 l16 _ ((0 : Int32), uL.2.1, uL.2.2.1, uL.2.2.2.1, uL.2.2.2.2.1, uL.2.2.2.2.2.1, uL.2.2.2.2.2.2.1, uL.2.2.2.2.2.2.2.1, uL.2.2.2.2.2.2.2.2.1, uL.2.2.2.2.2.2.2.2.2.1, uL.2.2.2.2.2.2.2.2.2.2.1, uL.2.2.2.2.2.2.2.2.2.2.2.1, uL.2.2.2.2.2.2.2.2.2.2.2.2.1, uL.2.2.2.2.2.2.2.2.2.2.2.2.2.1, uL.2.2.2.2.2.2.2.2.2.2.2.2.2.2.1, uL.2.2.2.2.2.2.2.2.2.2.2.2.2.2.2.1, uL.2.2.2.2.2.2.2.2.2.2.2.2.2.2.2.2.1, uL.2.2.2.2.2.2.2.2.2.2.2.2.2.2.2.2.2) (1 : Int32) hc7) (lw_V qm_X5_112 qi_X5_fail qs_X5_fail qn_X5 qc_X5_fail) hd_X5_fail ⟨rfl, rfl⟩ ⟨Nat.le_of_ble_eq_true rfl, Nat.le_of_ble_eq_true rfl⟩ ⟨Nat.le_of_ble_eq_true rfl, Nat.le_of_ble_eq_true rfl⟩ rfl rfl rfl hl.1 (Nat.le_of_ble_eq_true rfl) rfl dX5_addParagraph_15 (D_L hD) (fun H locs hP hD hS => ?_)
    have hok := Option.some.inj hok
    subst hok
    exact eWi S hr hlk rfl hP hS (Nat.le_of_ble_eq_true rfl) (Nat.le_of_ble_eq_true rfl) dX5_addParagraph_18
theorem hd_X5_turnTopic : yX5_turnTopic.cls = RX5 ∧ yX5_turnTopic.cls ≠ "java/lang/invoke/MethodHandle" ∧ yX5_turnTopic.cls ≠ "java/lang/invoke/VarHandle" ∧ (parseMethodDescriptor yX5_turnTopic.desc).map (fun d => d.parameters.length) = some 1 := by decide +kernel
def p_X5_turnTopic_J13 (uL : tX5) (l13_1 : Int32) (s13_0 : Int32) : Option (Int32 × tX5) :=
  if s13_0 ≤ 0 then
    bd (p_X5_has (uL.2.2.2.1 ^^^ ((1 : Int32) <<< (l13_1 &&& 31))) l13_1) (fun v2 =>
    gq (v2 &&& 1 = v2) (
    some (v2, (s13_0, uL.2.1, uL.2.2.1, (uL.2.2.2.1 ^^^ ((1 : Int32) <<< (l13_1 &&& 31))), uL.2.2.2.2.1, uL.2.2.2.2.2.1, uL.2.2.2.2.2.2.1, uL.2.2.2.2.2.2.2.1, uL.2.2.2.2.2.2.2.2.1, uL.2.2.2.2.2.2.2.2.2.1, uL.2.2.2.2.2.2.2.2.2.2.1, uL.2.2.2.2.2.2.2.2.2.2.2.1, uL.2.2.2.2.2.2.2.2.2.2.2.2.1, uL.2.2.2.2.2.2.2.2.2.2.2.2.2.1, uL.2.2.2.2.2.2.2.2.2.2.2.2.2.2.1, uL.2.2.2.2.2.2.2.2.2.2.2.2.2.2.2.1, uL.2.2.2.2.2.2.2.2.2.2.2.2.2.2.2.2.1, uL.2.2.2.2.2.2.2.2.2.2.2.2.2.2.2.2.2))))
  else
    some ((0 : Int32), (s13_0, uL.2.1, uL.2.2.1, uL.2.2.2.1, uL.2.2.2.2.1, uL.2.2.2.2.2.1, uL.2.2.2.2.2.2.1, uL.2.2.2.2.2.2.2.1, uL.2.2.2.2.2.2.2.2.1, uL.2.2.2.2.2.2.2.2.2.1, uL.2.2.2.2.2.2.2.2.2.2.1, uL.2.2.2.2.2.2.2.2.2.2.2.1, uL.2.2.2.2.2.2.2.2.2.2.2.2.1, uL.2.2.2.2.2.2.2.2.2.2.2.2.2.1, uL.2.2.2.2.2.2.2.2.2.2.2.2.2.2.1, uL.2.2.2.2.2.2.2.2.2.2.2.2.2.2.2.1, uL.2.2.2.2.2.2.2.2.2.2.2.2.2.2.2.2.1, uL.2.2.2.2.2.2.2.2.2.2.2.2.2.2.2.2.2))
def p_X5_turnTopic (uL : tX5) (a1 : Int32) : Option (Int32 × tX5) :=
  bd (p_X5_isTopic a1) (fun v1 =>
  if v1 = 0 then
    p_X5_turnTopic_J13 uL a1 (1 : Int32)
  else
    p_X5_turnTopic_J13 uL a1 (0 : Int32))
set_option maxHeartbeats 4000000 in
set_option maxRecDepth 100000 in
theorem c_X5_turnTopic (l : Launch) (dC : Nat → ClassId) (dI : Nat → Nat → Nat) (cI cZ : ClassId) (l0 l4 l5 l6 l8 l10 l11 l12 l13 l14 l15 l16 : Nat) (sz : Nat) (uL : tX5) (a1 : Int32) {z : (Int32 × tX5)} (hok : p_X5_turnTopic uL a1 = some z) : Met l yX5_turnTopic (Cond.code yX5_turnTopic cX5_turnTopic 2 (some .boolean) :: lw_all) { frames := 2, cells := 0, slots := 0, locals := 42 } (prW (dC, dI) vwCl (TYS cI cZ) ((wX5 cI cZ l0 l4 l5 l6 l8 l10 l11 l12 l13 l14 l15 l16 uL)) sz [.ref l0, .int a1]) (va_Qi (fun (r : Int32) (_ : Unit) => r = z.1) (fun _ t => va_P (dC, dI) vwCl ((wX5 cI cZ l0 l4 l5 l6 l8 l10 l11 l12 l13 l14 l15 l16 z.2)) t.heap) (va_A ((wX5 cI cZ l0 l4 l5 l6 l8 l10 l11 l12 l13 l14 l15 l16 uL)) sz)) 0 0 (va_A ((wX5 cI cZ l0 l4 l5 l6 l8 l10 l11 l12 l13 l14 l15 l16 uL)) sz) := by
  refine oM (by decide) (Nat.le_of_ble_eq_true rfl) ?_
  intro p e s m args below meth c S hr hlk hnm hB ls hl
  have hx := S.1
  have hb := S.2.1
  have hml := S.2.2.1
  have hown : s.vm.findClass RX5 = some m.cls := S.2.2.2.1
  have hts := S.2.2.2.2
  have S : CallFix p m c cX5_turnTopic 2 s args lw_all RX5 := S
  have hl : lv_has ls 2 [(0, .ref l0), (1, .int a1)] := hl
  obtain ⟨hsz, hP, hK, hD0⟩ := hB
  subst hsz
  have hD := hD0.self (sz := s.heap.size)
  generalize hAe : va_A ((wX5 cI cZ l0 l4 l5 l6 l8 l10 l11 l12 l13 l14 l15 l16 uL)) s.heap.size = A at hD ⊢
  have hA : ∀ q : Nat, s.heap.size ≤ q → A q := fun q h => by rw [← hAe]; exact Or.inr h
  have hS : va_S A s.heap s.heap [] := va_S.rf
  have hP : va_P (dC, dI) vwCl ((wX5 cI cZ l0 l4 l5 l6 l8 l10 l11 l12 l13 l14 l15 l16 uL)) s.heap := hP
  have J13 : ∀ (uL : tX5) (l13_1 : Int32) (s13_0 : Int32) (H : Heap) (locs : List Loc) (hP : va_P (dC, dI) vwCl ((wX5 cI cZ l0 l4 l5 l6 l8 l10 l11 l12 l13 l14 l15 l16 uL)) H) (hD : va_D A ((wX5 cI cZ l0 l4 l5 l6 l8 l10 l11 l12 l13 l14 l15 l16 uL))) (hS : va_S A s.heap H locs) (ls : Array Slot) (hl : lv_has ls 2 [(0, .ref l0), (1, .int l13_1)]) (hok : p_X5_turnTopic_J13 uL l13_1 s13_0 = some z), W p l e { frames := 2, cells := 0, slots := 0, locals := 42 } s m args below meth c H locs 0 0 (MQ below (va_Qi (fun (r : Int32) (_ : Unit) => r = z.1) (fun _ t => va_P (dC, dI) vwCl ((wX5 cI cZ l0 l4 l5 l6 l8 l10 l11 l12 l13 l14 l15 l16 z.2)) t.heap) A) args s 0 0 A) (F0 m 13 ls [.int s13_0, .ref l0]) := by
    intro uL l13_1 s13_0 H locs hP hD hS ls hl hok
    unfold p_X5_turnTopic_J13 at hok
    refine va_put (D := (dC, dI)) (ci := 5) (v := .int s13_0) (ty := .int) (C := RX5) (T := TX5) (N := 18) hx hb hts inX5 tyX5 tyX5_ok nmX5 hown hK hP hD hS 0 rfl rfl 0 (by decide) (hts _ qf_X5_50) (fun _ h9 => h9) rfl (tyX5_ok 0 (by decide)) rfl rfl (Nat.le_of_ble_eq_true rfl) dX5_turnTopic_13 (fun H locs hP _ hS => ?_)
    have hP : va_P (dC, dI) vwCl ((wX5 cI cZ l0 l4 l5 l6 l8 l10 l11 l12 l13 l14 l15 l16 (s13_0, uL.2.1, uL.2.2.1, uL.2.2.2.1, uL.2.2.2.2.1, uL.2.2.2.2.2.1, uL.2.2.2.2.2.2.1, uL.2.2.2.2.2.2.2.1, uL.2.2.2.2.2.2.2.2.1, uL.2.2.2.2.2.2.2.2.2.1, uL.2.2.2.2.2.2.2.2.2.2.1, uL.2.2.2.2.2.2.2.2.2.2.2.1, uL.2.2.2.2.2.2.2.2.2.2.2.2.1, uL.2.2.2.2.2.2.2.2.2.2.2.2.2.1, uL.2.2.2.2.2.2.2.2.2.2.2.2.2.2.1, uL.2.2.2.2.2.2.2.2.2.2.2.2.2.2.2.1, uL.2.2.2.2.2.2.2.2.2.2.2.2.2.2.2.2.1, uL.2.2.2.2.2.2.2.2.2.2.2.2.2.2.2.2.2))) H := hP
    have hD : va_D A ((wX5 cI cZ l0 l4 l5 l6 l8 l10 l11 l12 l13 l14 l15 l16 (s13_0, uL.2.1, uL.2.2.1, uL.2.2.2.1, uL.2.2.2.2.1, uL.2.2.2.2.2.1, uL.2.2.2.2.2.2.1, uL.2.2.2.2.2.2.2.1, uL.2.2.2.2.2.2.2.2.1, uL.2.2.2.2.2.2.2.2.2.1, uL.2.2.2.2.2.2.2.2.2.2.1, uL.2.2.2.2.2.2.2.2.2.2.2.1, uL.2.2.2.2.2.2.2.2.2.2.2.2.1, uL.2.2.2.2.2.2.2.2.2.2.2.2.2.1, uL.2.2.2.2.2.2.2.2.2.2.2.2.2.2.1, uL.2.2.2.2.2.2.2.2.2.2.2.2.2.2.2.1, uL.2.2.2.2.2.2.2.2.2.2.2.2.2.2.2.2.1, uL.2.2.2.2.2.2.2.2.2.2.2.2.2.2.2.2.2))) := D_L hD
    refine lv_aload_n hx hb dX5_turnTopic_16 rfl (lv_at hl 0 rfl) ?_
    refine va_get (D := (dC, dI)) (ci := 5) (v := .int s13_0) (C := RX5) (T := TX5) (N := 18) hx hb hts inX5 hown hK hP 0 rfl rfl 0 (by decide) (hts _ qf_X5_50) (fun _ h9 => h9) rfl dX5_turnTopic_17 ?_
    refine lv_if_le (tgt := 25) hx hb dX5_turnTopic_20 (by decide) (fun hc => ?_) (fun hc => ?_)
    · have hok := ip hok hc
      refine lv_aload_n hx hb dX5_turnTopic_25 rfl (lv_at hl 0 rfl) ?_
      refine lv_dup hx hb dX5_turnTopic_26 rfl ?_
      refine va_get (D := (dC, dI)) (ci := 5) (v := .int uL.2.2.2.1) (C := RX5) (T := TX5) (N := 18) hx hb hts inX5 hown hK hP 0 rfl rfl 3 (by decide) (hts _ qf_X5_86) (fun _ h9 => h9) rfl dX5_turnTopic_27 ?_
      refine lv_iconst (v := (1 : Int32)) hx hb dX5_turnTopic_30 (by decide) ?_
      refine lv_iload_n hx hb dX5_turnTopic_31 rfl (lv_at hl 1 rfl) ?_
      refine lv_ishl hx hb dX5_turnTopic_32 ?_
      refine lv_ixor hx hb dX5_turnTopic_33 ?_
      refine va_put (D := (dC, dI)) (ci := 5) (v := .int (uL.2.2.2.1 ^^^ ((1 : Int32) <<< (l13_1 &&& 31)))) (ty := .int) (C := RX5) (T := TX5) (N := 18) hx hb hts inX5 tyX5 tyX5_ok nmX5 hown hK hP hD hS 0 rfl rfl 3 (by decide) (hts _ qf_X5_86) (fun _ h9 => h9) rfl (tyX5_ok 3 (by decide)) rfl rfl (Nat.le_of_ble_eq_true rfl) dX5_turnTopic_34 (fun H locs hP _ hS => ?_)
      have hP : va_P (dC, dI) vwCl ((wX5 cI cZ l0 l4 l5 l6 l8 l10 l11 l12 l13 l14 l15 l16 (s13_0, uL.2.1, uL.2.2.1, (uL.2.2.2.1 ^^^ ((1 : Int32) <<< (l13_1 &&& 31))), uL.2.2.2.2.1, uL.2.2.2.2.2.1, uL.2.2.2.2.2.2.1, uL.2.2.2.2.2.2.2.1, uL.2.2.2.2.2.2.2.2.1, uL.2.2.2.2.2.2.2.2.2.1, uL.2.2.2.2.2.2.2.2.2.2.1, uL.2.2.2.2.2.2.2.2.2.2.2.1, uL.2.2.2.2.2.2.2.2.2.2.2.2.1, uL.2.2.2.2.2.2.2.2.2.2.2.2.2.1, uL.2.2.2.2.2.2.2.2.2.2.2.2.2.2.1, uL.2.2.2.2.2.2.2.2.2.2.2.2.2.2.2.1, uL.2.2.2.2.2.2.2.2.2.2.2.2.2.2.2.2.1, uL.2.2.2.2.2.2.2.2.2.2.2.2.2.2.2.2.2))) H := hP
      have hD : va_D A ((wX5 cI cZ l0 l4 l5 l6 l8 l10 l11 l12 l13 l14 l15 l16 (s13_0, uL.2.1, uL.2.2.1, (uL.2.2.2.1 ^^^ ((1 : Int32) <<< (l13_1 &&& 31))), uL.2.2.2.2.1, uL.2.2.2.2.2.1, uL.2.2.2.2.2.2.1, uL.2.2.2.2.2.2.2.1, uL.2.2.2.2.2.2.2.2.1, uL.2.2.2.2.2.2.2.2.2.1, uL.2.2.2.2.2.2.2.2.2.2.1, uL.2.2.2.2.2.2.2.2.2.2.2.1, uL.2.2.2.2.2.2.2.2.2.2.2.2.1, uL.2.2.2.2.2.2.2.2.2.2.2.2.2.1, uL.2.2.2.2.2.2.2.2.2.2.2.2.2.2.1, uL.2.2.2.2.2.2.2.2.2.2.2.2.2.2.2.1, uL.2.2.2.2.2.2.2.2.2.2.2.2.2.2.2.2.1, uL.2.2.2.2.2.2.2.2.2.2.2.2.2.2.2.2.2))) := D_L hD
      refine lv_aload_n hx hb dX5_turnTopic_37 rfl (lv_at hl 0 rfl) ?_
      refine va_get (D := (dC, dI)) (ci := 5) (v := .int (uL.2.2.2.1 ^^^ ((1 : Int32) <<< (l13_1 &&& 31)))) (C := RX5) (T := TX5) (N := 18) hx hb hts inX5 hown hK hP 0 rfl rfl 3 (by decide) (hts _ qf_X5_86) (fun _ h9 => h9) rfl dX5_turnTopic_38 ?_
      refine lv_iload_n hx hb dX5_turnTopic_41 rfl (lv_at hl 1 rfl) ?_
      obtain ⟨v2, hc2, hok⟩ := bd_some hok
      refine cRSi [.int (uL.2.2.2.1 ^^^ ((1 : Int32) <<< (l13_1 &&& 31))), .int l13_1] S hK va_Pnil (c_X5_has l dC dI cI cZ (uL.2.2.2.1 ^^^ ((1 : Int32) <<< (l13_1 &&& 31))) l13_1 hc2) (lw_S qm_X5_69 qt_X5_has qn_X5 qc_X5_has) hd_X5_has ⟨rfl, rfl⟩ ⟨Nat.le_of_ble_eq_true rfl, Nat.le_of_ble_eq_true rfl⟩ ⟨Nat.le_of_ble_eq_true rfl, Nat.le_of_ble_eq_true rfl⟩ rfl hl.1 (Nat.le_of_ble_eq_true rfl) rfl dX5_turnTopic_42 ?_
      obtain ⟨hn3, hok⟩ := gq_some hok
      have hok := Option.some.inj hok
      subst hok
      exact eWz S hr hlk hn3 rfl hP hS (Nat.le_of_ble_eq_true rfl) (Nat.le_of_ble_eq_true rfl) dX5_turnTopic_45
    · have hok := iq hok hc
      refine lv_iconst (v := (0 : Int32)) hx hb dX5_turnTopic_23 (by decide) ?_
      have hok := Option.some.inj hok
      subst hok
      exact eWz S hr hlk (by decide) rfl hP hS (Nat.le_of_ble_eq_true rfl) (Nat.le_of_ble_eq_true rfl) dX5_turnTopic_24
  unfold p_X5_turnTopic at hok
  refine lv_aload_n hx hb dX5_turnTopic_0 rfl (lv_at hl 0 rfl) ?_
  refine lv_iload_n hx hb dX5_turnTopic_1 rfl (lv_at hl 1 rfl) ?_
  obtain ⟨v1, hc1, hok⟩ := bd_some hok
  refine cRSi [.int a1] S hK va_Pnil (c_X5_isTopic l dC dI cI cZ a1 hc1) (lw_S qm_X5_119 qt_X5_isTopic qn_X5 qc_X5_isTopic) hd_X5_isTopic ⟨rfl, rfl⟩ ⟨Nat.le_of_ble_eq_true rfl, Nat.le_of_ble_eq_true rfl⟩ ⟨Nat.le_of_ble_eq_true rfl, Nat.le_of_ble_eq_true rfl⟩ rfl hl.1 (Nat.le_of_ble_eq_true rfl) rfl dX5_turnTopic_2 ?_
  refine lv_if_eq (tgt := 12) hx hb dX5_turnTopic_5 (by decide) (fun hc => ?_) (fun hc => ?_)
  · have hok := ip hok hc
    refine lv_iconst (v := (1 : Int32)) hx hb dX5_turnTopic_12 (by decide) ?_
    exact J13 uL a1 (1 : Int32) _ _ hP hD hS _ hl hok
  · have hok := iq hok hc
    refine lv_iconst (v := (0 : Int32)) hx hb dX5_turnTopic_8 (by decide) ?_
    refine lv_goto (tgt := 13) hx hb dX5_turnTopic_9 (by decide) ?_
    exact J13 uL a1 (0 : Int32) _ _ hP hD hS _ hl hok
theorem hd_X5_setLimit : yX5_setLimit.cls = RX5 ∧ yX5_setLimit.cls ≠ "java/lang/invoke/MethodHandle" ∧ yX5_setLimit.cls ≠ "java/lang/invoke/VarHandle" ∧ (parseMethodDescriptor yX5_setLimit.desc).map (fun d => d.parameters.length) = some 1 := by decide +kernel
def p_X5_setLimit (uL : tX5) (a1 : Int32) : Option (Int32 × tX5) :=
  bd (p_X5_isIn a1 (1 : Int32) (99 : Int32)) (fun v1 =>
  if v1 = 0 then
    bd (p_X5_fail ((0 : Int32), uL.2.1, uL.2.2.1, uL.2.2.2.1, uL.2.2.2.2.1, uL.2.2.2.2.2.1, uL.2.2.2.2.2.2.1, uL.2.2.2.2.2.2.2.1, uL.2.2.2.2.2.2.2.2.1, uL.2.2.2.2.2.2.2.2.2.1, uL.2.2.2.2.2.2.2.2.2.2.1, uL.2.2.2.2.2.2.2.2.2.2.2.1, uL.2.2.2.2.2.2.2.2.2.2.2.2.1, uL.2.2.2.2.2.2.2.2.2.2.2.2.2.1, uL.2.2.2.2.2.2.2.2.2.2.2.2.2.2.1, uL.2.2.2.2.2.2.2.2.2.2.2.2.2.2.2.1, uL.2.2.2.2.2.2.2.2.2.2.2.2.2.2.2.2.1, uL.2.2.2.2.2.2.2.2.2.2.2.2.2.2.2.2.2) (1 : Int32)) (fun v2 =>
    some (v2.1, v2.2))
  else
    some (uL.2.2.1, ((0 : Int32), uL.2.1, a1, uL.2.2.2.1, uL.2.2.2.2.1, uL.2.2.2.2.2.1, uL.2.2.2.2.2.2.1, uL.2.2.2.2.2.2.2.1, uL.2.2.2.2.2.2.2.2.1, uL.2.2.2.2.2.2.2.2.2.1, uL.2.2.2.2.2.2.2.2.2.2.1, uL.2.2.2.2.2.2.2.2.2.2.2.1, uL.2.2.2.2.2.2.2.2.2.2.2.2.1, uL.2.2.2.2.2.2.2.2.2.2.2.2.2.1, uL.2.2.2.2.2.2.2.2.2.2.2.2.2.2.1, uL.2.2.2.2.2.2.2.2.2.2.2.2.2.2.2.1, uL.2.2.2.2.2.2.2.2.2.2.2.2.2.2.2.2.1, uL.2.2.2.2.2.2.2.2.2.2.2.2.2.2.2.2.2)))
set_option maxHeartbeats 4000000 in
set_option maxRecDepth 100000 in
theorem c_X5_setLimit (l : Launch) (dC : Nat → ClassId) (dI : Nat → Nat → Nat) (cI cZ : ClassId) (l0 l4 l5 l6 l8 l10 l11 l12 l13 l14 l15 l16 : Nat) (sz : Nat) (uL : tX5) (a1 : Int32) {z : (Int32 × tX5)} (hok : p_X5_setLimit uL a1 = some z) : Met l yX5_setLimit (Cond.code yX5_setLimit cX5_setLimit 3 (some .int) :: lw_all) { frames := 1, cells := 0, slots := 0, locals := 22 } (prW (dC, dI) vwCl (TYS cI cZ) ((wX5 cI cZ l0 l4 l5 l6 l8 l10 l11 l12 l13 l14 l15 l16 uL)) sz [.ref l0, .int a1]) (va_Qi (fun (r : Int32) (_ : Unit) => r = z.1) (fun _ t => va_P (dC, dI) vwCl ((wX5 cI cZ l0 l4 l5 l6 l8 l10 l11 l12 l13 l14 l15 l16 z.2)) t.heap) (va_A ((wX5 cI cZ l0 l4 l5 l6 l8 l10 l11 l12 l13 l14 l15 l16 uL)) sz)) 0 0 (va_A ((wX5 cI cZ l0 l4 l5 l6 l8 l10 l11 l12 l13 l14 l15 l16 uL)) sz) := by
  refine oM (by decide) (Nat.le_of_ble_eq_true rfl) ?_
  intro p e s m args below meth c S hr hlk hnm hB ls hl
  have hx := S.1
  have hb := S.2.1
  have hml := S.2.2.1
  have hown : s.vm.findClass RX5 = some m.cls := S.2.2.2.1
  have hts := S.2.2.2.2
  have S : CallFix p m c cX5_setLimit 3 s args lw_all RX5 := S
  have hl : lv_has ls 3 [(0, .ref l0), (1, .int a1)] := hl
  obtain ⟨hsz, hP, hK, hD0⟩ := hB
  subst hsz
  have hD := hD0.self (sz := s.heap.size)
  generalize hAe : va_A ((wX5 cI cZ l0 l4 l5 l6 l8 l10 l11 l12 l13 l14 l15 l16 uL)) s.heap.size = A at hD ⊢
  have hA : ∀ q : Nat, s.heap.size ≤ q → A q := fun q h => by rw [← hAe]; exact Or.inr h
  have hS : va_S A s.heap s.heap [] := va_S.rf
  have hP : va_P (dC, dI) vwCl ((wX5 cI cZ l0 l4 l5 l6 l8 l10 l11 l12 l13 l14 l15 l16 uL)) s.heap := hP
  unfold p_X5_setLimit at hok
  refine lv_aload_n hx hb dX5_setLimit_0 rfl (lv_at hl 0 rfl) ?_
  refine lv_iconst (v := (0 : Int32)) hx hb dX5_setLimit_1 (by decide) ?_
  refine va_put (D := (dC, dI)) (ci := 5) (v := .int (0 : Int32)) (ty := .int) (C := RX5) (T := TX5) (N := 18) hx hb hts inX5 tyX5 tyX5_ok nmX5 hown hK hP hD hS 0 rfl rfl 0 (by decide) (hts _ qf_X5_50) (fun _ h9 => h9) rfl (tyX5_ok 0 (by decide)) rfl rfl (Nat.le_of_ble_eq_true rfl) dX5_setLimit_2 (fun H locs hP _ hS => ?_)
  have hP : va_P (dC, dI) vwCl ((wX5 cI cZ l0 l4 l5 l6 l8 l10 l11 l12 l13 l14 l15 l16 ((0 : Int32), uL.2.1, uL.2.2.1, uL.2.2.2.1, uL.2.2.2.2.1, uL.2.2.2.2.2.1, uL.2.2.2.2.2.2.1, uL.2.2.2.2.2.2.2.1, uL.2.2.2.2.2.2.2.2.1, uL.2.2.2.2.2.2.2.2.2.1, uL.2.2.2.2.2.2.2.2.2.2.1, uL.2.2.2.2.2.2.2.2.2.2.2.1, uL.2.2.2.2.2.2.2.2.2.2.2.2.1, uL.2.2.2.2.2.2.2.2.2.2.2.2.2.1, uL.2.2.2.2.2.2.2.2.2.2.2.2.2.2.1, uL.2.2.2.2.2.2.2.2.2.2.2.2.2.2.2.1, uL.2.2.2.2.2.2.2.2.2.2.2.2.2.2.2.2.1, uL.2.2.2.2.2.2.2.2.2.2.2.2.2.2.2.2.2))) H := hP
  have hD : va_D A ((wX5 cI cZ l0 l4 l5 l6 l8 l10 l11 l12 l13 l14 l15 l16 ((0 : Int32), uL.2.1, uL.2.2.1, uL.2.2.2.1, uL.2.2.2.2.1, uL.2.2.2.2.2.1, uL.2.2.2.2.2.2.1, uL.2.2.2.2.2.2.2.1, uL.2.2.2.2.2.2.2.2.1, uL.2.2.2.2.2.2.2.2.2.1, uL.2.2.2.2.2.2.2.2.2.2.1, uL.2.2.2.2.2.2.2.2.2.2.2.1, uL.2.2.2.2.2.2.2.2.2.2.2.2.1, uL.2.2.2.2.2.2.2.2.2.2.2.2.2.1, uL.2.2.2.2.2.2.2.2.2.2.2.2.2.2.1, uL.2.2.2.2.2.2.2.2.2.2.2.2.2.2.2.1, uL.2.2.2.2.2.2.2.2.2.2.2.2.2.2.2.2.1, uL.2.2.2.2.2.2.2.2.2.2.2.2.2.2.2.2.2))) := D_L hD
  refine lv_iload_n hx hb dX5_setLimit_5 rfl (lv_at hl 1 rfl) ?_
  refine lv_iconst (v := (1 : Int32)) hx hb dX5_setLimit_6 (by decide) ?_
  refine lv_bipush (v := (99 : Int32)) hx hb dX5_setLimit_7 (by decide) ?_
  obtain ⟨v1, hc1, hok⟩ := bd_some hok
  refine cRSi [.int a1, .int (1 : Int32), .int (99 : Int32)] S hK va_Pnil (c_X5_isIn l dC dI cI cZ a1 (1 : Int32) (99 : Int32) hc1) (lw_S qm_X5_53 qt_X5_isIn qn_X5 qc_X5_isIn) hd_X5_isIn ⟨rfl, rfl⟩ ⟨Nat.le_of_ble_eq_true rfl, Nat.le_of_ble_eq_true rfl⟩ ⟨Nat.le_of_ble_eq_true rfl, Nat.le_of_ble_eq_true rfl⟩ rfl hl.1 (Nat.le_of_ble_eq_true rfl) rfl dX5_setLimit_9 ?_
  refine lv_if_ne (tgt := 21) hx hb dX5_setLimit_12 (by decide) (fun hc => ?_) (fun hc => ?_)
  · have hok := iq hok hc
    refine lv_aload_n hx hb dX5_setLimit_21 rfl (lv_at hl 0 rfl) ?_
    refine va_get (D := (dC, dI)) (ci := 5) (v := .int uL.2.2.1) (C := RX5) (T := TX5) (N := 18) hx hb hts inX5 hown hK hP 0 rfl rfl 2 (by decide) (hts _ qf_X5_13) (fun _ h9 => h9) rfl dX5_setLimit_22 ?_
    refine lv_istore_n (lv' := [(2, .int uL.2.2.1), (0, .ref l0), (1, .int a1)]) hx hb dX5_setLimit_25 rfl hl (by decide) rfl (fun ls hl => ?_)
    refine lv_aload_n hx hb dX5_setLimit_26 rfl (lv_at hl 1 rfl) ?_
    refine lv_iload_n hx hb dX5_setLimit_27 rfl (lv_at hl 2 rfl) ?_
    refine va_put (D := (dC, dI)) (ci := 5) (v := .int a1) (ty := .int) (C := RX5) (T := TX5) (N := 18) hx hb hts inX5 tyX5 tyX5_ok nmX5 hown hK hP hD hS 0 rfl rfl 2 (by decide) (hts _ qf_X5_13) (fun _ h9 => h9) rfl (tyX5_ok 2 (by decide)) rfl rfl (Nat.le_of_ble_eq_true rfl) dX5_setLimit_28 (fun H locs hP _ hS => ?_)
    have hP : va_P (dC, dI) vwCl ((wX5 cI cZ l0 l4 l5 l6 l8 l10 l11 l12 l13 l14 l15 l16 ((0 : Int32), uL.2.1, a1, uL.2.2.2.1, uL.2.2.2.2.1, uL.2.2.2.2.2.1, uL.2.2.2.2.2.2.1, uL.2.2.2.2.2.2.2.1, uL.2.2.2.2.2.2.2.2.1, uL.2.2.2.2.2.2.2.2.2.1, uL.2.2.2.2.2.2.2.2.2.2.1, uL.2.2.2.2.2.2.2.2.2.2.2.1, uL.2.2.2.2.2.2.2.2.2.2.2.2.1, uL.2.2.2.2.2.2.2.2.2.2.2.2.2.1, uL.2.2.2.2.2.2.2.2.2.2.2.2.2.2.1, uL.2.2.2.2.2.2.2.2.2.2.2.2.2.2.2.1, uL.2.2.2.2.2.2.2.2.2.2.2.2.2.2.2.2.1, uL.2.2.2.2.2.2.2.2.2.2.2.2.2.2.2.2.2))) H := hP
    have hD : va_D A ((wX5 cI cZ l0 l4 l5 l6 l8 l10 l11 l12 l13 l14 l15 l16 ((0 : Int32), uL.2.1, a1, uL.2.2.2.1, uL.2.2.2.2.1, uL.2.2.2.2.2.1, uL.2.2.2.2.2.2.1, uL.2.2.2.2.2.2.2.1, uL.2.2.2.2.2.2.2.2.1, uL.2.2.2.2.2.2.2.2.2.1, uL.2.2.2.2.2.2.2.2.2.2.1, uL.2.2.2.2.2.2.2.2.2.2.2.1, uL.2.2.2.2.2.2.2.2.2.2.2.2.1, uL.2.2.2.2.2.2.2.2.2.2.2.2.2.1, uL.2.2.2.2.2.2.2.2.2.2.2.2.2.2.1, uL.2.2.2.2.2.2.2.2.2.2.2.2.2.2.2.1, uL.2.2.2.2.2.2.2.2.2.2.2.2.2.2.2.2.1, uL.2.2.2.2.2.2.2.2.2.2.2.2.2.2.2.2.2))) := D_L hD
    refine lv_iload_n hx hb dX5_setLimit_31 rfl (lv_at hl 0 rfl) ?_
    have hok := Option.some.inj hok
    subst hok
    exact eWi S hr hlk rfl hP hS (Nat.le_of_ble_eq_true rfl) (Nat.le_of_ble_eq_true rfl) dX5_setLimit_32
  · have hok := ip hok hc
    refine lv_aload_n hx hb dX5_setLimit_15 rfl (lv_at hl 0 rfl) ?_
    refine lv_iconst (v := (1 : Int32)) hx hb dX5_setLimit_16 (by decide) ?_
    obtain ⟨v2, hc2, hok⟩ := bd_some hok
    refine cWVi (ci := 5) (q0 := 0) [.int (1 : Int32)] S hK hP hD hS hA (c_X5_fail l dC dI cI cZ l0 l4 l5 l6 l8 l10 l11 l12 l13 l14 l15 l16 _ ((0 : Int32), uL.2.1, uL.2.2.1, uL.2.2.2.1, uL.2.2.2.2.1, uL.2.2.2.2.2.1, uL.2.2.2.2.2.2.1, uL.2.2.2.2.2.2.2.1, uL.2.2.2.2.2.2.2.2.1, uL.2.2.2.2.2.2.2.2.2.1, uL.2.2.2.2.2.2.2.2.2.2.1, uL.2.2.2.2.2.2.2.2.2.2.2.1, uL.2.2.2.2.2.2.2.2.2.2.2.2.1, uL.2.2.2.2.2.2.2.2.2.2.2.2.2.1, uL.2.2.2.2.2.2.2.2.2.2.2.2.2.2.1, uL.2.2.2.2.2.2.2.2.2.2.2.2.2.2.2.1, uL.2.2.2.2.2.2.2.2.2.2.2.2.2.2.2.2.1, uL.2.2.2.2.2.2.2.2.2.2.2.2.2.2.2.2.2) (1 : Int32) hc2) (lw_V qm_X5_112 qi_X5_fail qs_X5_fail qn_X5 qc_X5_fail) hd_X5_fail ⟨rfl, rfl⟩ ⟨Nat.le_of_ble_eq_true rfl, Nat.le_of_ble_eq_true rfl⟩ ⟨Nat.le_of_ble_eq_true rfl, Nat.le_of_ble_eq_true rfl⟩ rfl rfl rfl hl.1 (Nat.le_of_ble_eq_true rfl) rfl dX5_setLimit_17 (D_L hD) (fun H locs hP hD hS => ?_)
    have hok := Option.some.inj hok
    subst hok
    exact eWi S hr hlk rfl hP hS (Nat.le_of_ble_eq_true rfl) (Nat.le_of_ble_eq_true rfl) dX5_setLimit_20
theorem hd_X5_addReader : yX5_addReader.cls = RX5 ∧ yX5_addReader.cls ≠ "java/lang/invoke/MethodHandle" ∧ yX5_addReader.cls ≠ "java/lang/invoke/VarHandle" ∧ (parseMethodDescriptor yX5_addReader.desc).map (fun d => d.parameters.length) = some 2 := by decide +kernel
def p_X5_addReader_J22 (uL : tX5) : Option (Int32 × tX5) :=
  bd (p_X5_fail uL (1 : Int32)) (fun v6 =>
  some (v6.1, v6.2))
def p_X5_addReader (uL : tX5) (a1 : Int32) (a2 : Int32) : Option (Int32 × tX5) :=
  bd (p_X5_isTopic a1) (fun v1 =>
  if v1 = 0 then
    p_X5_addReader_J22 ((0 : Int32), uL.2.1, uL.2.2.1, uL.2.2.2.1, uL.2.2.2.2.1, uL.2.2.2.2.2.1, uL.2.2.2.2.2.2.1, uL.2.2.2.2.2.2.2.1, uL.2.2.2.2.2.2.2.2.1, uL.2.2.2.2.2.2.2.2.2.1, uL.2.2.2.2.2.2.2.2.2.2.1, uL.2.2.2.2.2.2.2.2.2.2.2.1, uL.2.2.2.2.2.2.2.2.2.2.2.2.1, uL.2.2.2.2.2.2.2.2.2.2.2.2.2.1, uL.2.2.2.2.2.2.2.2.2.2.2.2.2.2.1, uL.2.2.2.2.2.2.2.2.2.2.2.2.2.2.2.1, uL.2.2.2.2.2.2.2.2.2.2.2.2.2.2.2.2.1, uL.2.2.2.2.2.2.2.2.2.2.2.2.2.2.2.2.2)
  else
    bd (p_X5_isIn a2 (1 : Int32) (20 : Int32)) (fun v2 =>
    if v2 = 0 then
      p_X5_addReader_J22 ((0 : Int32), uL.2.1, uL.2.2.1, uL.2.2.2.1, uL.2.2.2.2.1, uL.2.2.2.2.2.1, uL.2.2.2.2.2.2.1, uL.2.2.2.2.2.2.2.1, uL.2.2.2.2.2.2.2.2.1, uL.2.2.2.2.2.2.2.2.2.1, uL.2.2.2.2.2.2.2.2.2.2.1, uL.2.2.2.2.2.2.2.2.2.2.2.1, uL.2.2.2.2.2.2.2.2.2.2.2.2.1, uL.2.2.2.2.2.2.2.2.2.2.2.2.2.1, uL.2.2.2.2.2.2.2.2.2.2.2.2.2.2.1, uL.2.2.2.2.2.2.2.2.2.2.2.2.2.2.2.1, uL.2.2.2.2.2.2.2.2.2.2.2.2.2.2.2.2.1, uL.2.2.2.2.2.2.2.2.2.2.2.2.2.2.2.2.2)
    else
      if uL.2.2.2.2.2.2.2.1 = (8 : Int32) then
        bd (p_X5_fail ((0 : Int32), uL.2.1, uL.2.2.1, uL.2.2.2.1, uL.2.2.2.2.1, uL.2.2.2.2.2.1, uL.2.2.2.2.2.2.1, uL.2.2.2.2.2.2.2.1, uL.2.2.2.2.2.2.2.2.1, uL.2.2.2.2.2.2.2.2.2.1, uL.2.2.2.2.2.2.2.2.2.2.1, uL.2.2.2.2.2.2.2.2.2.2.2.1, uL.2.2.2.2.2.2.2.2.2.2.2.2.1, uL.2.2.2.2.2.2.2.2.2.2.2.2.2.1, uL.2.2.2.2.2.2.2.2.2.2.2.2.2.2.1, uL.2.2.2.2.2.2.2.2.2.2.2.2.2.2.2.1, uL.2.2.2.2.2.2.2.2.2.2.2.2.2.2.2.2.1, uL.2.2.2.2.2.2.2.2.2.2.2.2.2.2.2.2.2) (2 : Int32)) (fun v5 =>
        some (v5.1, v5.2))
      else
        gd uL.2.2.2.2.2.2.2.1 8 (
        gd ((33 : Int32) + uL.2.2.2.2.2.2.2.1) 41 (
        some (((uL.2.2.2.2.2.2.2.1 + (1 : Int32)) - (1 : Int32)), ((0 : Int32), uL.2.1, uL.2.2.1, uL.2.2.2.1, uL.2.2.2.2.1, uL.2.2.2.2.2.1, uL.2.2.2.2.2.2.1, (uL.2.2.2.2.2.2.2.1 + (1 : Int32)), (upd uL.2.2.2.2.2.2.2.2.1 uL.2.2.2.2.2.2.2.1.toNatClampNeg a1), uL.2.2.2.2.2.2.2.2.2.1, uL.2.2.2.2.2.2.2.2.2.2.1, uL.2.2.2.2.2.2.2.2.2.2.2.1, uL.2.2.2.2.2.2.2.2.2.2.2.2.1, uL.2.2.2.2.2.2.2.2.2.2.2.2.2.1, uL.2.2.2.2.2.2.2.2.2.2.2.2.2.2.1, (upd (upd uL.2.2.2.2.2.2.2.2.2.2.2.2.2.2.2.1 ((33 : Int32) + uL.2.2.2.2.2.2.2.1).toNatClampNeg a2) 7 (((upd uL.2.2.2.2.2.2.2.2.2.2.2.2.2.2.2.1 ((33 : Int32) + uL.2.2.2.2.2.2.2.1).toNatClampNeg a2) 7) ||| ((1 : Int32) <<< (uL.2.2.2.2.2.2.2.1 &&& 31)))), uL.2.2.2.2.2.2.2.2.2.2.2.2.2.2.2.2.1, uL.2.2.2.2.2.2.2.2.2.2.2.2.2.2.2.2.2))))))
set_option maxHeartbeats 4000000 in
set_option maxRecDepth 100000 in
theorem c_X5_addReader (l : Launch) (dC : Nat → ClassId) (dI : Nat → Nat → Nat) (cI cZ : ClassId) (l0 l4 l5 l6 l8 l10 l11 l12 l13 l14 l15 l16 : Nat) (sz : Nat) (uL : tX5) (a1 : Int32) (a2 : Int32) {z : (Int32 × tX5)} (hok : p_X5_addReader uL a1 a2 = some z) : Met l yX5_addReader (Cond.code yX5_addReader cX5_addReader 3 (some .int) :: lw_all) { frames := 2, cells := 0, slots := 0, locals := 42 } (prW (dC, dI) vwCl (TYS cI cZ) ((wX5 cI cZ l0 l4 l5 l6 l8 l10 l11 l12 l13 l14 l15 l16 uL)) sz [.ref l0, .int a1, .int a2]) (va_Qi (fun (r : Int32) (_ : Unit) => r = z.1) (fun _ t => va_P (dC, dI) vwCl ((wX5 cI cZ l0 l4 l5 l6 l8 l10 l11 l12 l13 l14 l15 l16 z.2)) t.heap) (va_A ((wX5 cI cZ l0 l4 l5 l6 l8 l10 l11 l12 l13 l14 l15 l16 uL)) sz)) 0 0 (va_A ((wX5 cI cZ l0 l4 l5 l6 l8 l10 l11 l12 l13 l14 l15 l16 uL)) sz) := by
  refine oM (by decide) (Nat.le_of_ble_eq_true rfl) ?_
  intro p e s m args below meth c S hr hlk hnm hB ls hl
  have hx := S.1
  have hb := S.2.1
  have hml := S.2.2.1
  have hown : s.vm.findClass RX5 = some m.cls := S.2.2.2.1
  have hts := S.2.2.2.2
  have S : CallFix p m c cX5_addReader 3 s args lw_all RX5 := S
  have hl : lv_has ls 3 [(0, .ref l0), (1, .int a1), (2, .int a2)] := hl
  obtain ⟨hsz, hP, hK, hD0⟩ := hB
  subst hsz
  have hD := hD0.self (sz := s.heap.size)
  generalize hAe : va_A ((wX5 cI cZ l0 l4 l5 l6 l8 l10 l11 l12 l13 l14 l15 l16 uL)) s.heap.size = A at hD ⊢
  have hA : ∀ q : Nat, s.heap.size ≤ q → A q := fun q h => by rw [← hAe]; exact Or.inr h
  have hS : va_S A s.heap s.heap [] := va_S.rf
  have hP : va_P (dC, dI) vwCl ((wX5 cI cZ l0 l4 l5 l6 l8 l10 l11 l12 l13 l14 l15 l16 uL)) s.heap := hP
  have J22 : ∀ (uL : tX5) (H : Heap) (locs : List Loc) (hP : va_P (dC, dI) vwCl ((wX5 cI cZ l0 l4 l5 l6 l8 l10 l11 l12 l13 l14 l15 l16 uL)) H) (hD : va_D A ((wX5 cI cZ l0 l4 l5 l6 l8 l10 l11 l12 l13 l14 l15 l16 uL))) (hS : va_S A s.heap H locs) (ls : Array Slot) (hl : lv_has ls 3 [(0, .ref l0)]) (hok : p_X5_addReader_J22 uL = some z), W p l e { frames := 2, cells := 0, slots := 0, locals := 42 } s m args below meth c H locs 0 0 (MQ below (va_Qi (fun (r : Int32) (_ : Unit) => r = z.1) (fun _ t => va_P (dC, dI) vwCl ((wX5 cI cZ l0 l4 l5 l6 l8 l10 l11 l12 l13 l14 l15 l16 z.2)) t.heap) A) args s 0 0 A) (F0 m 22 ls []) := by
    intro uL H locs hP hD hS ls hl hok
    unfold p_X5_addReader_J22 at hok
    refine lv_aload_n hx hb dX5_addReader_22 rfl (lv_at hl 0 rfl) ?_
    refine lv_iconst (v := (1 : Int32)) hx hb dX5_addReader_23 (by decide) ?_
    obtain ⟨v6, hc6, hok⟩ := bd_some hok
    refine cWVi (ci := 5) (q0 := 0) [.int (1 : Int32)] S hK hP hD hS hA (c_X5_fail l dC dI cI cZ l0 l4 l5 l6 l8 l10 l11 l12 l13 l14 l15 l16 _ uL (1 : Int32) hc6) (lw_V qm_X5_112 qi_X5_fail qs_X5_fail qn_X5 qc_X5_fail) hd_X5_fail ⟨rfl, rfl⟩ ⟨Nat.le_of_ble_eq_true rfl, Nat.le_of_ble_eq_true rfl⟩ ⟨Nat.le_of_ble_eq_true rfl, Nat.le_of_ble_eq_true rfl⟩ rfl rfl rfl hl.1 (Nat.le_of_ble_eq_true rfl) rfl dX5_addReader_24 (D_L hD) (fun H locs hP hD hS => ?_)
    have hok := Option.some.inj hok
    subst hok
    exact eWi S hr hlk rfl hP hS (Nat.le_of_ble_eq_true rfl) (Nat.le_of_ble_eq_true rfl) dX5_addReader_27
  unfold p_X5_addReader at hok
  refine lv_aload_n hx hb dX5_addReader_0 rfl (lv_at hl 0 rfl) ?_
  refine lv_iconst (v := (0 : Int32)) hx hb dX5_addReader_1 (by decide) ?_
  refine va_put (D := (dC, dI)) (ci := 5) (v := .int (0 : Int32)) (ty := .int) (C := RX5) (T := TX5) (N := 18) hx hb hts inX5 tyX5 tyX5_ok nmX5 hown hK hP hD hS 0 rfl rfl 0 (by decide) (hts _ qf_X5_50) (fun _ h9 => h9) rfl (tyX5_ok 0 (by decide)) rfl rfl (Nat.le_of_ble_eq_true rfl) dX5_addReader_2 (fun H locs hP _ hS => ?_)
  have hP : va_P (dC, dI) vwCl ((wX5 cI cZ l0 l4 l5 l6 l8 l10 l11 l12 l13 l14 l15 l16 ((0 : Int32), uL.2.1, uL.2.2.1, uL.2.2.2.1, uL.2.2.2.2.1, uL.2.2.2.2.2.1, uL.2.2.2.2.2.2.1, uL.2.2.2.2.2.2.2.1, uL.2.2.2.2.2.2.2.2.1, uL.2.2.2.2.2.2.2.2.2.1, uL.2.2.2.2.2.2.2.2.2.2.1, uL.2.2.2.2.2.2.2.2.2.2.2.1, uL.2.2.2.2.2.2.2.2.2.2.2.2.1, uL.2.2.2.2.2.2.2.2.2.2.2.2.2.1, uL.2.2.2.2.2.2.2.2.2.2.2.2.2.2.1, uL.2.2.2.2.2.2.2.2.2.2.2.2.2.2.2.1, uL.2.2.2.2.2.2.2.2.2.2.2.2.2.2.2.2.1, uL.2.2.2.2.2.2.2.2.2.2.2.2.2.2.2.2.2))) H := hP
  have hD : va_D A ((wX5 cI cZ l0 l4 l5 l6 l8 l10 l11 l12 l13 l14 l15 l16 ((0 : Int32), uL.2.1, uL.2.2.1, uL.2.2.2.1, uL.2.2.2.2.1, uL.2.2.2.2.2.1, uL.2.2.2.2.2.2.1, uL.2.2.2.2.2.2.2.1, uL.2.2.2.2.2.2.2.2.1, uL.2.2.2.2.2.2.2.2.2.1, uL.2.2.2.2.2.2.2.2.2.2.1, uL.2.2.2.2.2.2.2.2.2.2.2.1, uL.2.2.2.2.2.2.2.2.2.2.2.2.1, uL.2.2.2.2.2.2.2.2.2.2.2.2.2.1, uL.2.2.2.2.2.2.2.2.2.2.2.2.2.2.1, uL.2.2.2.2.2.2.2.2.2.2.2.2.2.2.2.1, uL.2.2.2.2.2.2.2.2.2.2.2.2.2.2.2.2.1, uL.2.2.2.2.2.2.2.2.2.2.2.2.2.2.2.2.2))) := D_L hD
  refine lv_iload_n hx hb dX5_addReader_5 rfl (lv_at hl 1 rfl) ?_
  obtain ⟨v1, hc1, hok⟩ := bd_some hok
  refine cRSi [.int a1] S hK va_Pnil (c_X5_isTopic l dC dI cI cZ a1 hc1) (lw_S qm_X5_119 qt_X5_isTopic qn_X5 qc_X5_isTopic) hd_X5_isTopic ⟨rfl, rfl⟩ ⟨Nat.le_of_ble_eq_true rfl, Nat.le_of_ble_eq_true rfl⟩ ⟨Nat.le_of_ble_eq_true rfl, Nat.le_of_ble_eq_true rfl⟩ rfl hl.1 (Nat.le_of_ble_eq_true rfl) rfl dX5_addReader_6 ?_
  refine lv_if_eq (tgt := 22) hx hb dX5_addReader_9 (by decide) (fun hc => ?_) (fun hc => ?_)
  · have hok := ip hok hc
    exact J22 ((0 : Int32), uL.2.1, uL.2.2.1, uL.2.2.2.1, uL.2.2.2.2.1, uL.2.2.2.2.2.1, uL.2.2.2.2.2.2.1, uL.2.2.2.2.2.2.2.1, uL.2.2.2.2.2.2.2.2.1, uL.2.2.2.2.2.2.2.2.2.1, uL.2.2.2.2.2.2.2.2.2.2.1, uL.2.2.2.2.2.2.2.2.2.2.2.1, uL.2.2.2.2.2.2.2.2.2.2.2.2.1, uL.2.2.2.2.2.2.2.2.2.2.2.2.2.1, uL.2.2.2.2.2.2.2.2.2.2.2.2.2.2.1, uL.2.2.2.2.2.2.2.2.2.2.2.2.2.2.2.1, uL.2.2.2.2.2.2.2.2.2.2.2.2.2.2.2.2.1, uL.2.2.2.2.2.2.2.2.2.2.2.2.2.2.2.2.2) _ _ hP hD hS _ (lv_sub hl [0] rfl) hok
  · have hok := iq hok hc
    refine lv_iload_n hx hb dX5_addReader_12 rfl (lv_at hl 2 rfl) ?_
    refine lv_iconst (v := (1 : Int32)) hx hb dX5_addReader_13 (by decide) ?_
    refine lv_bipush (v := (20 : Int32)) hx hb dX5_addReader_14 (by decide) ?_
    obtain ⟨v2, hc2, hok⟩ := bd_some hok
    refine cRSi [.int a2, .int (1 : Int32), .int (20 : Int32)] S hK va_Pnil (c_X5_isIn l dC dI cI cZ a2 (1 : Int32) (20 : Int32) hc2) (lw_S qm_X5_53 qt_X5_isIn qn_X5 qc_X5_isIn) hd_X5_isIn ⟨rfl, rfl⟩ ⟨Nat.le_of_ble_eq_true rfl, Nat.le_of_ble_eq_true rfl⟩ ⟨Nat.le_of_ble_eq_true rfl, Nat.le_of_ble_eq_true rfl⟩ rfl hl.1 (Nat.le_of_ble_eq_true rfl) rfl dX5_addReader_16 ?_
    refine lv_if_ne (tgt := 28) hx hb dX5_addReader_19 (by decide) (fun hc => ?_) (fun hc => ?_)
    · have hok := iq hok hc
      refine lv_aload_n hx hb dX5_addReader_28 rfl (lv_at hl 0 rfl) ?_
      refine va_get (D := (dC, dI)) (ci := 5) (v := .int uL.2.2.2.2.2.2.2.1) (C := RX5) (T := TX5) (N := 18) hx hb hts inX5 hown hK hP 0 rfl rfl 7 (by decide) (hts _ qf_X5_57) (fun _ h9 => h9) rfl dX5_addReader_29 ?_
      refine lv_bipush (v := (8 : Int32)) hx hb dX5_addReader_32 (by decide) ?_
      refine lv_icmp_ne (tgt := 43) hx hb dX5_addReader_34 (by decide) (fun hc => ?_) (fun hc => ?_)
      · have hok := iq hok hc
        refine lv_aload_n hx hb dX5_addReader_43 rfl (lv_at hl 0 rfl) ?_
        refine va_get (D := (dC, dI)) (ci := 5) (v := .ref l8) (C := RX5) (T := TX5) (N := 18) hx hb hts inX5 hown hK hP 0 rfl rfl 8 (by decide) (hts _ qf_X5_26) (fun _ h9 => h9) rfl dX5_addReader_44 ?_
        refine lv_aload_n hx hb dX5_addReader_47 rfl (lv_at hl 0 rfl) ?_
        refine va_get (D := (dC, dI)) (ci := 5) (v := .int uL.2.2.2.2.2.2.2.1) (C := RX5) (T := TX5) (N := 18) hx hb hts inX5 hown hK hP 0 rfl rfl 7 (by decide) (hts _ qf_X5_57) (fun _ h9 => h9) rfl dX5_addReader_48 ?_
        refine lv_iload_n hx hb dX5_addReader_51 rfl (lv_at hl 1 rfl) ?_
        obtain ⟨hi3, hok⟩ := gd_some hok
        refine va_iast hx hb hK hP hD hS 4 0 rfl rfl hi3 dX5_addReader_52 (fun H locs hP _ hS => ?_)
        have hP : va_P (dC, dI) vwCl ((wX5 cI cZ l0 l4 l5 l6 l8 l10 l11 l12 l13 l14 l15 l16 ((0 : Int32), uL.2.1, uL.2.2.1, uL.2.2.2.1, uL.2.2.2.2.1, uL.2.2.2.2.2.1, uL.2.2.2.2.2.2.1, uL.2.2.2.2.2.2.2.1, (upd uL.2.2.2.2.2.2.2.2.1 uL.2.2.2.2.2.2.2.1.toNatClampNeg a1), uL.2.2.2.2.2.2.2.2.2.1, uL.2.2.2.2.2.2.2.2.2.2.1, uL.2.2.2.2.2.2.2.2.2.2.2.1, uL.2.2.2.2.2.2.2.2.2.2.2.2.1, uL.2.2.2.2.2.2.2.2.2.2.2.2.2.1, uL.2.2.2.2.2.2.2.2.2.2.2.2.2.2.1, uL.2.2.2.2.2.2.2.2.2.2.2.2.2.2.2.1, uL.2.2.2.2.2.2.2.2.2.2.2.2.2.2.2.2.1, uL.2.2.2.2.2.2.2.2.2.2.2.2.2.2.2.2.2))) H := hP
        have hD : va_D A ((wX5 cI cZ l0 l4 l5 l6 l8 l10 l11 l12 l13 l14 l15 l16 ((0 : Int32), uL.2.1, uL.2.2.1, uL.2.2.2.1, uL.2.2.2.2.1, uL.2.2.2.2.2.1, uL.2.2.2.2.2.2.1, uL.2.2.2.2.2.2.2.1, (upd uL.2.2.2.2.2.2.2.2.1 uL.2.2.2.2.2.2.2.1.toNatClampNeg a1), uL.2.2.2.2.2.2.2.2.2.1, uL.2.2.2.2.2.2.2.2.2.2.1, uL.2.2.2.2.2.2.2.2.2.2.2.1, uL.2.2.2.2.2.2.2.2.2.2.2.2.1, uL.2.2.2.2.2.2.2.2.2.2.2.2.2.1, uL.2.2.2.2.2.2.2.2.2.2.2.2.2.2.1, uL.2.2.2.2.2.2.2.2.2.2.2.2.2.2.2.1, uL.2.2.2.2.2.2.2.2.2.2.2.2.2.2.2.2.1, uL.2.2.2.2.2.2.2.2.2.2.2.2.2.2.2.2.2))) := D_L hD
        refine lv_aload_n hx hb dX5_addReader_53 rfl (lv_at hl 0 rfl) ?_
        refine va_get (D := (dC, dI)) (ci := 5) (v := .ref l15) (C := RX5) (T := TX5) (N := 18) hx hb hts inX5 hown hK hP 0 rfl rfl 15 (by decide) (hts _ qf_X5_44) (fun _ h9 => h9) rfl dX5_addReader_54 ?_
        refine lv_bipush (v := (33 : Int32)) hx hb dX5_addReader_57 (by decide) ?_
        refine lv_aload_n hx hb dX5_addReader_59 rfl (lv_at hl 0 rfl) ?_
        refine va_get (D := (dC, dI)) (ci := 5) (v := .int uL.2.2.2.2.2.2.2.1) (C := RX5) (T := TX5) (N := 18) hx hb hts inX5 hown hK hP 0 rfl rfl 7 (by decide) (hts _ qf_X5_57) (fun _ h9 => h9) rfl dX5_addReader_60 ?_
        refine lv_iadd hx hb dX5_addReader_63 ?_
        refine lv_iload_n hx hb dX5_addReader_64 rfl (lv_at hl 2 rfl) ?_
        obtain ⟨hi4, hok⟩ := gd_some hok
        refine va_iast hx hb hK hP hD hS 10 0 rfl rfl hi4 dX5_addReader_65 (fun H locs hP _ hS => ?_)
        have hP : va_P (dC, dI) vwCl ((wX5 cI cZ l0 l4 l5 l6 l8 l10 l11 l12 l13 l14 l15 l16 ((0 : Int32), uL.2.1, uL.2.2.1, uL.2.2.2.1, uL.2.2.2.2.1, uL.2.2.2.2.2.1, uL.2.2.2.2.2.2.1, uL.2.2.2.2.2.2.2.1, (upd uL.2.2.2.2.2.2.2.2.1 uL.2.2.2.2.2.2.2.1.toNatClampNeg a1), uL.2.2.2.2.2.2.2.2.2.1, uL.2.2.2.2.2.2.2.2.2.2.1, uL.2.2.2.2.2.2.2.2.2.2.2.1, uL.2.2.2.2.2.2.2.2.2.2.2.2.1, uL.2.2.2.2.2.2.2.2.2.2.2.2.2.1, uL.2.2.2.2.2.2.2.2.2.2.2.2.2.2.1, (upd uL.2.2.2.2.2.2.2.2.2.2.2.2.2.2.2.1 ((33 : Int32) + uL.2.2.2.2.2.2.2.1).toNatClampNeg a2), uL.2.2.2.2.2.2.2.2.2.2.2.2.2.2.2.2.1, uL.2.2.2.2.2.2.2.2.2.2.2.2.2.2.2.2.2))) H := hP
        have hD : va_D A ((wX5 cI cZ l0 l4 l5 l6 l8 l10 l11 l12 l13 l14 l15 l16 ((0 : Int32), uL.2.1, uL.2.2.1, uL.2.2.2.1, uL.2.2.2.2.1, uL.2.2.2.2.2.1, uL.2.2.2.2.2.2.1, uL.2.2.2.2.2.2.2.1, (upd uL.2.2.2.2.2.2.2.2.1 uL.2.2.2.2.2.2.2.1.toNatClampNeg a1), uL.2.2.2.2.2.2.2.2.2.1, uL.2.2.2.2.2.2.2.2.2.2.1, uL.2.2.2.2.2.2.2.2.2.2.2.1, uL.2.2.2.2.2.2.2.2.2.2.2.2.1, uL.2.2.2.2.2.2.2.2.2.2.2.2.2.1, uL.2.2.2.2.2.2.2.2.2.2.2.2.2.2.1, (upd uL.2.2.2.2.2.2.2.2.2.2.2.2.2.2.2.1 ((33 : Int32) + uL.2.2.2.2.2.2.2.1).toNatClampNeg a2), uL.2.2.2.2.2.2.2.2.2.2.2.2.2.2.2.2.1, uL.2.2.2.2.2.2.2.2.2.2.2.2.2.2.2.2.2))) := D_L hD
        refine lv_aload_n hx hb dX5_addReader_66 rfl (lv_at hl 0 rfl) ?_
        refine va_get (D := (dC, dI)) (ci := 5) (v := .ref l15) (C := RX5) (T := TX5) (N := 18) hx hb hts inX5 hown hK hP 0 rfl rfl 15 (by decide) (hts _ qf_X5_44) (fun _ h9 => h9) rfl dX5_addReader_67 ?_
        refine lv_bipush (v := (7 : Int32)) hx hb dX5_addReader_70 (by decide) ?_
        refine lv_dup2_11 hx hb dX5_addReader_72 rfl rfl ?_
        refine va_ialdK hx hb hK hP 10 0 rfl rfl (j := 7) (by decide) (vp_inK (by decide)) dX5_addReader_73 ?_
        refine lv_iconst (v := (1 : Int32)) hx hb dX5_addReader_74 (by decide) ?_
        refine lv_aload_n hx hb dX5_addReader_75 rfl (lv_at hl 0 rfl) ?_
        refine va_get (D := (dC, dI)) (ci := 5) (v := .int uL.2.2.2.2.2.2.2.1) (C := RX5) (T := TX5) (N := 18) hx hb hts inX5 hown hK hP 0 rfl rfl 7 (by decide) (hts _ qf_X5_57) (fun _ h9 => h9) rfl dX5_addReader_76 ?_
        refine lv_ishl hx hb dX5_addReader_79 ?_
        refine lv_ior hx hb dX5_addReader_80 ?_
        refine va_iastK hx hb hK hP hD hS 10 0 rfl rfl (j := 7) (by decide) (vp_inK (by decide)) dX5_addReader_81 (fun H locs hP _ hS => ?_)
        have hP : va_P (dC, dI) vwCl ((wX5 cI cZ l0 l4 l5 l6 l8 l10 l11 l12 l13 l14 l15 l16 ((0 : Int32), uL.2.1, uL.2.2.1, uL.2.2.2.1, uL.2.2.2.2.1, uL.2.2.2.2.2.1, uL.2.2.2.2.2.2.1, uL.2.2.2.2.2.2.2.1, (upd uL.2.2.2.2.2.2.2.2.1 uL.2.2.2.2.2.2.2.1.toNatClampNeg a1), uL.2.2.2.2.2.2.2.2.2.1, uL.2.2.2.2.2.2.2.2.2.2.1, uL.2.2.2.2.2.2.2.2.2.2.2.1, uL.2.2.2.2.2.2.2.2.2.2.2.2.1, uL.2.2.2.2.2.2.2.2.2.2.2.2.2.1, uL.2.2.2.2.2.2.2.2.2.2.2.2.2.2.1, (upd (upd uL.2.2.2.2.2.2.2.2.2.2.2.2.2.2.2.1 ((33 : Int32) + uL.2.2.2.2.2.2.2.1).toNatClampNeg a2) 7 (((upd uL.2.2.2.2.2.2.2.2.2.2.2.2.2.2.2.1 ((33 : Int32) + uL.2.2.2.2.2.2.2.1).toNatClampNeg a2) 7) ||| ((1 : Int32) <<< (uL.2.2.2.2.2.2.2.1 &&& 31)))), uL.2.2.2.2.2.2.2.2.2.2.2.2.2.2.2.2.1, uL.2.2.2.2.2.2.2.2.2.2.2.2.2.2.2.2.2))) H := hP
        have hD : va_D A ((wX5 cI cZ l0 l4 l5 l6 l8 l10 l11 l12 l13 l14 l15 l16 ((0 : Int32), uL.2.1, uL.2.2.1, uL.2.2.2.1, uL.2.2.2.2.1, uL.2.2.2.2.2.1, uL.2.2.2.2.2.2.1, uL.2.2.2.2.2.2.2.1, (upd uL.2.2.2.2.2.2.2.2.1 uL.2.2.2.2.2.2.2.1.toNatClampNeg a1), uL.2.2.2.2.2.2.2.2.2.1, uL.2.2.2.2.2.2.2.2.2.2.1, uL.2.2.2.2.2.2.2.2.2.2.2.1, uL.2.2.2.2.2.2.2.2.2.2.2.2.1, uL.2.2.2.2.2.2.2.2.2.2.2.2.2.1, uL.2.2.2.2.2.2.2.2.2.2.2.2.2.2.1, (upd (upd uL.2.2.2.2.2.2.2.2.2.2.2.2.2.2.2.1 ((33 : Int32) + uL.2.2.2.2.2.2.2.1).toNatClampNeg a2) 7 (((upd uL.2.2.2.2.2.2.2.2.2.2.2.2.2.2.2.1 ((33 : Int32) + uL.2.2.2.2.2.2.2.1).toNatClampNeg a2) 7) ||| ((1 : Int32) <<< (uL.2.2.2.2.2.2.2.1 &&& 31)))), uL.2.2.2.2.2.2.2.2.2.2.2.2.2.2.2.2.1, uL.2.2.2.2.2.2.2.2.2.2.2.2.2.2.2.2.2))) := D_L hD
        refine lv_aload_n hx hb dX5_addReader_82 rfl (lv_at hl 0 rfl) ?_
        refine lv_dup hx hb dX5_addReader_83 rfl ?_
        refine va_get (D := (dC, dI)) (ci := 5) (v := .int uL.2.2.2.2.2.2.2.1) (C := RX5) (T := TX5) (N := 18) hx hb hts inX5 hown hK hP 0 rfl rfl 7 (by decide) (hts _ qf_X5_57) (fun _ h9 => h9) rfl dX5_addReader_84 ?_
        refine lv_iconst (v := (1 : Int32)) hx hb dX5_addReader_87 (by decide) ?_
        refine lv_iadd hx hb dX5_addReader_88 ?_
        refine va_put (D := (dC, dI)) (ci := 5) (v := .int (uL.2.2.2.2.2.2.2.1 + (1 : Int32))) (ty := .int) (C := RX5) (T := TX5) (N := 18) hx hb hts inX5 tyX5 tyX5_ok nmX5 hown hK hP hD hS 0 rfl rfl 7 (by decide) (hts _ qf_X5_57) (fun _ h9 => h9) rfl (tyX5_ok 7 (by decide)) rfl rfl (Nat.le_of_ble_eq_true rfl) dX5_addReader_89 (fun H locs hP _ hS => ?_)
        have hP : va_P (dC, dI) vwCl ((wX5 cI cZ l0 l4 l5 l6 l8 l10 l11 l12 l13 l14 l15 l16 ((0 : Int32), uL.2.1, uL.2.2.1, uL.2.2.2.1, uL.2.2.2.2.1, uL.2.2.2.2.2.1, uL.2.2.2.2.2.2.1, (uL.2.2.2.2.2.2.2.1 + (1 : Int32)), (upd uL.2.2.2.2.2.2.2.2.1 uL.2.2.2.2.2.2.2.1.toNatClampNeg a1), uL.2.2.2.2.2.2.2.2.2.1, uL.2.2.2.2.2.2.2.2.2.2.1, uL.2.2.2.2.2.2.2.2.2.2.2.1, uL.2.2.2.2.2.2.2.2.2.2.2.2.1, uL.2.2.2.2.2.2.2.2.2.2.2.2.2.1, uL.2.2.2.2.2.2.2.2.2.2.2.2.2.2.1, (upd (upd uL.2.2.2.2.2.2.2.2.2.2.2.2.2.2.2.1 ((33 : Int32) + uL.2.2.2.2.2.2.2.1).toNatClampNeg a2) 7 (((upd uL.2.2.2.2.2.2.2.2.2.2.2.2.2.2.2.1 ((33 : Int32) + uL.2.2.2.2.2.2.2.1).toNatClampNeg a2) 7) ||| ((1 : Int32) <<< (uL.2.2.2.2.2.2.2.1 &&& 31)))), uL.2.2.2.2.2.2.2.2.2.2.2.2.2.2.2.2.1, uL.2.2.2.2.2.2.2.2.2.2.2.2.2.2.2.2.2))) H := hP
        have hD : va_D A ((wX5 cI cZ l0 l4 l5 l6 l8 l10 l11 l12 l13 l14 l15 l16 ((0 : Int32), uL.2.1, uL.2.2.1, uL.2.2.2.1, uL.2.2.2.2.1, uL.2.2.2.2.2.1, uL.2.2.2.2.2.2.1, (uL.2.2.2.2.2.2.2.1 + (1 : Int32)), (upd uL.2.2.2.2.2.2.2.2.1 uL.2.2.2.2.2.2.2.1.toNatClampNeg a1), uL.2.2.2.2.2.2.2.2.2.1, uL.2.2.2.2.2.2.2.2.2.2.1, uL.2.2.2.2.2.2.2.2.2.2.2.1, uL.2.2.2.2.2.2.2.2.2.2.2.2.1, uL.2.2.2.2.2.2.2.2.2.2.2.2.2.1, uL.2.2.2.2.2.2.2.2.2.2.2.2.2.2.1, (upd (upd uL.2.2.2.2.2.2.2.2.2.2.2.2.2.2.2.1 ((33 : Int32) + uL.2.2.2.2.2.2.2.1).toNatClampNeg a2) 7 (((upd uL.2.2.2.2.2.2.2.2.2.2.2.2.2.2.2.1 ((33 : Int32) + uL.2.2.2.2.2.2.2.1).toNatClampNeg a2) 7) ||| ((1 : Int32) <<< (uL.2.2.2.2.2.2.2.1 &&& 31)))), uL.2.2.2.2.2.2.2.2.2.2.2.2.2.2.2.2.1, uL.2.2.2.2.2.2.2.2.2.2.2.2.2.2.2.2.2))) := D_L hD
        refine lv_aload_n hx hb dX5_addReader_92 rfl (lv_at hl 0 rfl) ?_
        refine va_get (D := (dC, dI)) (ci := 5) (v := .int (uL.2.2.2.2.2.2.2.1 + (1 : Int32))) (C := RX5) (T := TX5) (N := 18) hx hb hts inX5 hown hK hP 0 rfl rfl 7 (by decide) (hts _ qf_X5_57) (fun _ h9 => h9) rfl dX5_addReader_93 ?_
        refine lv_iconst (v := (1 : Int32)) hx hb dX5_addReader_96 (by decide) ?_
        refine lv_isub hx hb dX5_addReader_97 ?_
        have hok := Option.some.inj hok
        subst hok
        exact eWi S hr hlk rfl hP hS (Nat.le_of_ble_eq_true rfl) (Nat.le_of_ble_eq_true rfl) dX5_addReader_98
      · have hok := ip hok hc
        refine lv_aload_n hx hb dX5_addReader_37 rfl (lv_at hl 0 rfl) ?_
        refine lv_iconst (v := (2 : Int32)) hx hb dX5_addReader_38 (by decide) ?_
        obtain ⟨v5, hc5, hok⟩ := bd_some hok
        refine cWVi (ci := 5) (q0 := 0) [.int (2 : Int32)] S hK hP hD hS hA (c_X5_fail l dC dI cI cZ l0 l4 l5 l6 l8 l10 l11 l12 l13 l14 l15 l16 _ ((0 : Int32), uL.2.1, uL.2.2.1, uL.2.2.2.1, uL.2.2.2.2.1, uL.2.2.2.2.2.1, uL.2.2.2.2.2.2.1, uL.2.2.2.2.2.2.2.1, uL.2.2.2.2.2.2.2.2.1, uL.2.2.2.2.2.2.2.2.2.1, uL.2.2.2.2.2.2.2.2.2.2.1, uL.2.2.2.2.2.2.2.2.2.2.2.1, uL.2.2.2.2.2.2.2.2.2.2.2.2.1, uL.2.2.2.2.2.2.2.2.2.2.2.2.2.1, uL.2.2.2.2.2.2.2.2.2.2.2.2.2.2.1, uL.2.2.2.2.2.2.2.2.2.2.2.2.2.2.2.1, uL.2.2.2.2.2.2.2.2.2.2.2.2.2.2.2.2.1, uL.2.2.2.2.2.2.2.2.2.2.2.2.2.2.2.2.2) (2 : Int32) hc5) (lw_V qm_X5_112 qi_X5_fail qs_X5_fail qn_X5 qc_X5_fail) hd_X5_fail ⟨rfl, rfl⟩ ⟨Nat.le_of_ble_eq_true rfl, Nat.le_of_ble_eq_true rfl⟩ ⟨Nat.le_of_ble_eq_true rfl, Nat.le_of_ble_eq_true rfl⟩ rfl rfl rfl hl.1 (Nat.le_of_ble_eq_true rfl) rfl dX5_addReader_39 (D_L hD) (fun H locs hP hD hS => ?_)
        have hok := Option.some.inj hok
        subst hok
        exact eWi S hr hlk rfl hP hS (Nat.le_of_ble_eq_true rfl) (Nat.le_of_ble_eq_true rfl) dX5_addReader_42
    · have hok := ip hok hc
      exact J22 ((0 : Int32), uL.2.1, uL.2.2.1, uL.2.2.2.1, uL.2.2.2.2.1, uL.2.2.2.2.2.1, uL.2.2.2.2.2.2.1, uL.2.2.2.2.2.2.2.1, uL.2.2.2.2.2.2.2.2.1, uL.2.2.2.2.2.2.2.2.2.1, uL.2.2.2.2.2.2.2.2.2.2.1, uL.2.2.2.2.2.2.2.2.2.2.2.1, uL.2.2.2.2.2.2.2.2.2.2.2.2.1, uL.2.2.2.2.2.2.2.2.2.2.2.2.2.1, uL.2.2.2.2.2.2.2.2.2.2.2.2.2.2.1, uL.2.2.2.2.2.2.2.2.2.2.2.2.2.2.2.1, uL.2.2.2.2.2.2.2.2.2.2.2.2.2.2.2.2.1, uL.2.2.2.2.2.2.2.2.2.2.2.2.2.2.2.2.2) _ _ hP hD hS _ (lv_sub hl [0] rfl) hok
theorem hd_X5_addMirror : yX5_addMirror.cls = RX5 ∧ yX5_addMirror.cls ≠ "java/lang/invoke/MethodHandle" ∧ yX5_addMirror.cls ≠ "java/lang/invoke/VarHandle" ∧ (parseMethodDescriptor yX5_addMirror.desc).map (fun d => d.parameters.length) = some 2 := by decide +kernel
def p_X5_addMirror_J24 (uL : tX5) : Option (Int32 × tX5) :=
  bd (p_X5_fail uL (1 : Int32)) (fun v5 =>
  some (v5.1, v5.2))
def p_X5_addMirror (uL : tX5) (a1 : Int32) (a2 : Int32) : Option (Int32 × tX5) :=
  bd (p_X5_isTopic a1) (fun v1 =>
  if v1 = 0 then
    p_X5_addMirror_J24 ((0 : Int32), uL.2.1, uL.2.2.1, uL.2.2.2.1, uL.2.2.2.2.1, uL.2.2.2.2.2.1, uL.2.2.2.2.2.2.1, uL.2.2.2.2.2.2.2.1, uL.2.2.2.2.2.2.2.2.1, uL.2.2.2.2.2.2.2.2.2.1, uL.2.2.2.2.2.2.2.2.2.2.1, uL.2.2.2.2.2.2.2.2.2.2.2.1, uL.2.2.2.2.2.2.2.2.2.2.2.2.1, uL.2.2.2.2.2.2.2.2.2.2.2.2.2.1, uL.2.2.2.2.2.2.2.2.2.2.2.2.2.2.1, uL.2.2.2.2.2.2.2.2.2.2.2.2.2.2.2.1, uL.2.2.2.2.2.2.2.2.2.2.2.2.2.2.2.2.1, uL.2.2.2.2.2.2.2.2.2.2.2.2.2.2.2.2.2)
  else
    bd (p_X5_isTopic a2) (fun v2 =>
    if v2 = 0 then
      p_X5_addMirror_J24 ((0 : Int32), uL.2.1, uL.2.2.1, uL.2.2.2.1, uL.2.2.2.2.1, uL.2.2.2.2.2.1, uL.2.2.2.2.2.2.1, uL.2.2.2.2.2.2.2.1, uL.2.2.2.2.2.2.2.2.1, uL.2.2.2.2.2.2.2.2.2.1, uL.2.2.2.2.2.2.2.2.2.2.1, uL.2.2.2.2.2.2.2.2.2.2.2.1, uL.2.2.2.2.2.2.2.2.2.2.2.2.1, uL.2.2.2.2.2.2.2.2.2.2.2.2.2.1, uL.2.2.2.2.2.2.2.2.2.2.2.2.2.2.1, uL.2.2.2.2.2.2.2.2.2.2.2.2.2.2.2.1, uL.2.2.2.2.2.2.2.2.2.2.2.2.2.2.2.2.1, uL.2.2.2.2.2.2.2.2.2.2.2.2.2.2.2.2.2)
    else
      if a1 = a2 then
        p_X5_addMirror_J24 ((0 : Int32), uL.2.1, uL.2.2.1, uL.2.2.2.1, uL.2.2.2.2.1, uL.2.2.2.2.2.1, uL.2.2.2.2.2.2.1, uL.2.2.2.2.2.2.2.1, uL.2.2.2.2.2.2.2.2.1, uL.2.2.2.2.2.2.2.2.2.1, uL.2.2.2.2.2.2.2.2.2.2.1, uL.2.2.2.2.2.2.2.2.2.2.2.1, uL.2.2.2.2.2.2.2.2.2.2.2.2.1, uL.2.2.2.2.2.2.2.2.2.2.2.2.2.1, uL.2.2.2.2.2.2.2.2.2.2.2.2.2.2.1, uL.2.2.2.2.2.2.2.2.2.2.2.2.2.2.2.1, uL.2.2.2.2.2.2.2.2.2.2.2.2.2.2.2.2.1, uL.2.2.2.2.2.2.2.2.2.2.2.2.2.2.2.2.2)
      else
        if uL.2.2.2.2.2.2.2.2.2.1 = (4 : Int32) then
          bd (p_X5_fail ((0 : Int32), uL.2.1, uL.2.2.1, uL.2.2.2.1, uL.2.2.2.2.1, uL.2.2.2.2.2.1, uL.2.2.2.2.2.2.1, uL.2.2.2.2.2.2.2.1, uL.2.2.2.2.2.2.2.2.1, uL.2.2.2.2.2.2.2.2.2.1, uL.2.2.2.2.2.2.2.2.2.2.1, uL.2.2.2.2.2.2.2.2.2.2.2.1, uL.2.2.2.2.2.2.2.2.2.2.2.2.1, uL.2.2.2.2.2.2.2.2.2.2.2.2.2.1, uL.2.2.2.2.2.2.2.2.2.2.2.2.2.2.1, uL.2.2.2.2.2.2.2.2.2.2.2.2.2.2.2.1, uL.2.2.2.2.2.2.2.2.2.2.2.2.2.2.2.2.1, uL.2.2.2.2.2.2.2.2.2.2.2.2.2.2.2.2.2) (2 : Int32)) (fun v4 =>
          some (v4.1, v4.2))
        else
          gd uL.2.2.2.2.2.2.2.2.2.1 4 (
          some (((uL.2.2.2.2.2.2.2.2.2.1 + (1 : Int32)) - (1 : Int32)), ((0 : Int32), uL.2.1, uL.2.2.1, uL.2.2.2.1, uL.2.2.2.2.1, uL.2.2.2.2.2.1, uL.2.2.2.2.2.2.1, uL.2.2.2.2.2.2.2.1, uL.2.2.2.2.2.2.2.2.1, (uL.2.2.2.2.2.2.2.2.2.1 + (1 : Int32)), (upd uL.2.2.2.2.2.2.2.2.2.2.1 uL.2.2.2.2.2.2.2.2.2.1.toNatClampNeg a1), (upd uL.2.2.2.2.2.2.2.2.2.2.2.1 uL.2.2.2.2.2.2.2.2.2.1.toNatClampNeg a2), uL.2.2.2.2.2.2.2.2.2.2.2.2.1, uL.2.2.2.2.2.2.2.2.2.2.2.2.2.1, uL.2.2.2.2.2.2.2.2.2.2.2.2.2.2.1, uL.2.2.2.2.2.2.2.2.2.2.2.2.2.2.2.1, uL.2.2.2.2.2.2.2.2.2.2.2.2.2.2.2.2.1, uL.2.2.2.2.2.2.2.2.2.2.2.2.2.2.2.2.2)))))
set_option maxHeartbeats 4000000 in
set_option maxRecDepth 100000 in
theorem c_X5_addMirror (l : Launch) (dC : Nat → ClassId) (dI : Nat → Nat → Nat) (cI cZ : ClassId) (l0 l4 l5 l6 l8 l10 l11 l12 l13 l14 l15 l16 : Nat) (sz : Nat) (uL : tX5) (a1 : Int32) (a2 : Int32) {z : (Int32 × tX5)} (hok : p_X5_addMirror uL a1 a2 = some z) : Met l yX5_addMirror (Cond.code yX5_addMirror cX5_addMirror 3 (some .int) :: lw_all) { frames := 2, cells := 0, slots := 0, locals := 42 } (prW (dC, dI) vwCl (TYS cI cZ) ((wX5 cI cZ l0 l4 l5 l6 l8 l10 l11 l12 l13 l14 l15 l16 uL)) sz [.ref l0, .int a1, .int a2]) (va_Qi (fun (r : Int32) (_ : Unit) => r = z.1) (fun _ t => va_P (dC, dI) vwCl ((wX5 cI cZ l0 l4 l5 l6 l8 l10 l11 l12 l13 l14 l15 l16 z.2)) t.heap) (va_A ((wX5 cI cZ l0 l4 l5 l6 l8 l10 l11 l12 l13 l14 l15 l16 uL)) sz)) 0 0 (va_A ((wX5 cI cZ l0 l4 l5 l6 l8 l10 l11 l12 l13 l14 l15 l16 uL)) sz) := by
  refine oM (by decide) (Nat.le_of_ble_eq_true rfl) ?_
  intro p e s m args below meth c S hr hlk hnm hB ls hl
  have hx := S.1
  have hb := S.2.1
  have hml := S.2.2.1
  have hown : s.vm.findClass RX5 = some m.cls := S.2.2.2.1
  have hts := S.2.2.2.2
  have S : CallFix p m c cX5_addMirror 3 s args lw_all RX5 := S
  have hl : lv_has ls 3 [(0, .ref l0), (1, .int a1), (2, .int a2)] := hl
  obtain ⟨hsz, hP, hK, hD0⟩ := hB
  subst hsz
  have hD := hD0.self (sz := s.heap.size)
  generalize hAe : va_A ((wX5 cI cZ l0 l4 l5 l6 l8 l10 l11 l12 l13 l14 l15 l16 uL)) s.heap.size = A at hD ⊢
  have hA : ∀ q : Nat, s.heap.size ≤ q → A q := fun q h => by rw [← hAe]; exact Or.inr h
  have hS : va_S A s.heap s.heap [] := va_S.rf
  have hP : va_P (dC, dI) vwCl ((wX5 cI cZ l0 l4 l5 l6 l8 l10 l11 l12 l13 l14 l15 l16 uL)) s.heap := hP
  have J24 : ∀ (uL : tX5) (H : Heap) (locs : List Loc) (hP : va_P (dC, dI) vwCl ((wX5 cI cZ l0 l4 l5 l6 l8 l10 l11 l12 l13 l14 l15 l16 uL)) H) (hD : va_D A ((wX5 cI cZ l0 l4 l5 l6 l8 l10 l11 l12 l13 l14 l15 l16 uL))) (hS : va_S A s.heap H locs) (ls : Array Slot) (hl : lv_has ls 3 [(0, .ref l0)]) (hok : p_X5_addMirror_J24 uL = some z), W p l e { frames := 2, cells := 0, slots := 0, locals := 42 } s m args below meth c H locs 0 0 (MQ below (va_Qi (fun (r : Int32) (_ : Unit) => r = z.1) (fun _ t => va_P (dC, dI) vwCl ((wX5 cI cZ l0 l4 l5 l6 l8 l10 l11 l12 l13 l14 l15 l16 z.2)) t.heap) A) args s 0 0 A) (F0 m 24 ls []) := by
    intro uL H locs hP hD hS ls hl hok
    unfold p_X5_addMirror_J24 at hok
    refine lv_aload_n hx hb dX5_addMirror_24 rfl (lv_at hl 0 rfl) ?_
    refine lv_iconst (v := (1 : Int32)) hx hb dX5_addMirror_25 (by decide) ?_
    obtain ⟨v5, hc5, hok⟩ := bd_some hok
    refine cWVi (ci := 5) (q0 := 0) [.int (1 : Int32)] S hK hP hD hS hA (c_X5_fail l dC dI cI cZ l0 l4 l5 l6 l8 l10 l11 l12 l13 l14 l15 l16 _ uL (1 : Int32) hc5) (lw_V qm_X5_112 qi_X5_fail qs_X5_fail qn_X5 qc_X5_fail) hd_X5_fail ⟨rfl, rfl⟩ ⟨Nat.le_of_ble_eq_true rfl, Nat.le_of_ble_eq_true rfl⟩ ⟨Nat.le_of_ble_eq_true rfl, Nat.le_of_ble_eq_true rfl⟩ rfl rfl rfl hl.1 (Nat.le_of_ble_eq_true rfl) rfl dX5_addMirror_26 (D_L hD) (fun H locs hP hD hS => ?_)
    have hok := Option.some.inj hok
    subst hok
    exact eWi S hr hlk rfl hP hS (Nat.le_of_ble_eq_true rfl) (Nat.le_of_ble_eq_true rfl) dX5_addMirror_29
  unfold p_X5_addMirror at hok
  refine lv_aload_n hx hb dX5_addMirror_0 rfl (lv_at hl 0 rfl) ?_
  refine lv_iconst (v := (0 : Int32)) hx hb dX5_addMirror_1 (by decide) ?_
  refine va_put (D := (dC, dI)) (ci := 5) (v := .int (0 : Int32)) (ty := .int) (C := RX5) (T := TX5) (N := 18) hx hb hts inX5 tyX5 tyX5_ok nmX5 hown hK hP hD hS 0 rfl rfl 0 (by decide) (hts _ qf_X5_50) (fun _ h9 => h9) rfl (tyX5_ok 0 (by decide)) rfl rfl (Nat.le_of_ble_eq_true rfl) dX5_addMirror_2 (fun H locs hP _ hS => ?_)
  have hP : va_P (dC, dI) vwCl ((wX5 cI cZ l0 l4 l5 l6 l8 l10 l11 l12 l13 l14 l15 l16 ((0 : Int32), uL.2.1, uL.2.2.1, uL.2.2.2.1, uL.2.2.2.2.1, uL.2.2.2.2.2.1, uL.2.2.2.2.2.2.1, uL.2.2.2.2.2.2.2.1, uL.2.2.2.2.2.2.2.2.1, uL.2.2.2.2.2.2.2.2.2.1, uL.2.2.2.2.2.2.2.2.2.2.1, uL.2.2.2.2.2.2.2.2.2.2.2.1, uL.2.2.2.2.2.2.2.2.2.2.2.2.1, uL.2.2.2.2.2.2.2.2.2.2.2.2.2.1, uL.2.2.2.2.2.2.2.2.2.2.2.2.2.2.1, uL.2.2.2.2.2.2.2.2.2.2.2.2.2.2.2.1, uL.2.2.2.2.2.2.2.2.2.2.2.2.2.2.2.2.1, uL.2.2.2.2.2.2.2.2.2.2.2.2.2.2.2.2.2))) H := hP
  have hD : va_D A ((wX5 cI cZ l0 l4 l5 l6 l8 l10 l11 l12 l13 l14 l15 l16 ((0 : Int32), uL.2.1, uL.2.2.1, uL.2.2.2.1, uL.2.2.2.2.1, uL.2.2.2.2.2.1, uL.2.2.2.2.2.2.1, uL.2.2.2.2.2.2.2.1, uL.2.2.2.2.2.2.2.2.1, uL.2.2.2.2.2.2.2.2.2.1, uL.2.2.2.2.2.2.2.2.2.2.1, uL.2.2.2.2.2.2.2.2.2.2.2.1, uL.2.2.2.2.2.2.2.2.2.2.2.2.1, uL.2.2.2.2.2.2.2.2.2.2.2.2.2.1, uL.2.2.2.2.2.2.2.2.2.2.2.2.2.2.1, uL.2.2.2.2.2.2.2.2.2.2.2.2.2.2.2.1, uL.2.2.2.2.2.2.2.2.2.2.2.2.2.2.2.2.1, uL.2.2.2.2.2.2.2.2.2.2.2.2.2.2.2.2.2))) := D_L hD
  refine lv_iload_n hx hb dX5_addMirror_5 rfl (lv_at hl 1 rfl) ?_
  obtain ⟨v1, hc1, hok⟩ := bd_some hok
  refine cRSi [.int a1] S hK va_Pnil (c_X5_isTopic l dC dI cI cZ a1 hc1) (lw_S qm_X5_119 qt_X5_isTopic qn_X5 qc_X5_isTopic) hd_X5_isTopic ⟨rfl, rfl⟩ ⟨Nat.le_of_ble_eq_true rfl, Nat.le_of_ble_eq_true rfl⟩ ⟨Nat.le_of_ble_eq_true rfl, Nat.le_of_ble_eq_true rfl⟩ rfl hl.1 (Nat.le_of_ble_eq_true rfl) rfl dX5_addMirror_6 ?_
  refine lv_if_eq (tgt := 24) hx hb dX5_addMirror_9 (by decide) (fun hc => ?_) (fun hc => ?_)
  · have hok := ip hok hc
    exact J24 ((0 : Int32), uL.2.1, uL.2.2.1, uL.2.2.2.1, uL.2.2.2.2.1, uL.2.2.2.2.2.1, uL.2.2.2.2.2.2.1, uL.2.2.2.2.2.2.2.1, uL.2.2.2.2.2.2.2.2.1, uL.2.2.2.2.2.2.2.2.2.1, uL.2.2.2.2.2.2.2.2.2.2.1, uL.2.2.2.2.2.2.2.2.2.2.2.1, uL.2.2.2.2.2.2.2.2.2.2.2.2.1, uL.2.2.2.2.2.2.2.2.2.2.2.2.2.1, uL.2.2.2.2.2.2.2.2.2.2.2.2.2.2.1, uL.2.2.2.2.2.2.2.2.2.2.2.2.2.2.2.1, uL.2.2.2.2.2.2.2.2.2.2.2.2.2.2.2.2.1, uL.2.2.2.2.2.2.2.2.2.2.2.2.2.2.2.2.2) _ _ hP hD hS _ (lv_sub hl [0] rfl) hok
  · have hok := iq hok hc
    refine lv_iload_n hx hb dX5_addMirror_12 rfl (lv_at hl 2 rfl) ?_
    obtain ⟨v2, hc2, hok⟩ := bd_some hok
    refine cRSi [.int a2] S hK va_Pnil (c_X5_isTopic l dC dI cI cZ a2 hc2) (lw_S qm_X5_119 qt_X5_isTopic qn_X5 qc_X5_isTopic) hd_X5_isTopic ⟨rfl, rfl⟩ ⟨Nat.le_of_ble_eq_true rfl, Nat.le_of_ble_eq_true rfl⟩ ⟨Nat.le_of_ble_eq_true rfl, Nat.le_of_ble_eq_true rfl⟩ rfl hl.1 (Nat.le_of_ble_eq_true rfl) rfl dX5_addMirror_13 ?_
    refine lv_if_eq (tgt := 24) hx hb dX5_addMirror_16 (by decide) (fun hc => ?_) (fun hc => ?_)
    · have hok := ip hok hc
      exact J24 ((0 : Int32), uL.2.1, uL.2.2.1, uL.2.2.2.1, uL.2.2.2.2.1, uL.2.2.2.2.2.1, uL.2.2.2.2.2.2.1, uL.2.2.2.2.2.2.2.1, uL.2.2.2.2.2.2.2.2.1, uL.2.2.2.2.2.2.2.2.2.1, uL.2.2.2.2.2.2.2.2.2.2.1, uL.2.2.2.2.2.2.2.2.2.2.2.1, uL.2.2.2.2.2.2.2.2.2.2.2.2.1, uL.2.2.2.2.2.2.2.2.2.2.2.2.2.1, uL.2.2.2.2.2.2.2.2.2.2.2.2.2.2.1, uL.2.2.2.2.2.2.2.2.2.2.2.2.2.2.2.1, uL.2.2.2.2.2.2.2.2.2.2.2.2.2.2.2.2.1, uL.2.2.2.2.2.2.2.2.2.2.2.2.2.2.2.2.2) _ _ hP hD hS _ (lv_sub hl [0] rfl) hok
    · have hok := iq hok hc
      refine lv_iload_n hx hb dX5_addMirror_19 rfl (lv_at hl 1 rfl) ?_
      refine lv_iload_n hx hb dX5_addMirror_20 rfl (lv_at hl 2 rfl) ?_
      refine lv_icmp_ne (tgt := 30) hx hb dX5_addMirror_21 (by decide) (fun hc => ?_) (fun hc => ?_)
      · have hok := iq hok hc
        refine lv_aload_n hx hb dX5_addMirror_30 rfl (lv_at hl 0 rfl) ?_
        refine va_get (D := (dC, dI)) (ci := 5) (v := .int uL.2.2.2.2.2.2.2.2.2.1) (C := RX5) (T := TX5) (N := 18) hx hb hts inX5 hown hK hP 0 rfl rfl 9 (by decide) (hts _ qf_X5_60) (fun _ h9 => h9) rfl dX5_addMirror_31 ?_
        refine lv_iconst (v := (4 : Int32)) hx hb dX5_addMirror_34 (by decide) ?_
        refine lv_icmp_ne (tgt := 44) hx hb dX5_addMirror_35 (by decide) (fun hc => ?_) (fun hc => ?_)
        · have hok := iq hok hc
          refine lv_aload_n hx hb dX5_addMirror_44 rfl (lv_at hl 0 rfl) ?_
          refine va_get (D := (dC, dI)) (ci := 5) (v := .ref l10) (C := RX5) (T := TX5) (N := 18) hx hb hts inX5 hown hK hP 0 rfl rfl 10 (by decide) (hts _ qf_X5_29) (fun _ h9 => h9) rfl dX5_addMirror_45 ?_
          refine lv_aload_n hx hb dX5_addMirror_48 rfl (lv_at hl 0 rfl) ?_
          refine va_get (D := (dC, dI)) (ci := 5) (v := .int uL.2.2.2.2.2.2.2.2.2.1) (C := RX5) (T := TX5) (N := 18) hx hb hts inX5 hown hK hP 0 rfl rfl 9 (by decide) (hts _ qf_X5_60) (fun _ h9 => h9) rfl dX5_addMirror_49 ?_
          refine lv_iload_n hx hb dX5_addMirror_52 rfl (lv_at hl 1 rfl) ?_
          obtain ⟨hi3, hok⟩ := gd_some hok
          refine va_iast hx hb hK hP hD hS 5 0 rfl rfl hi3 dX5_addMirror_53 (fun H locs hP _ hS => ?_)
          have hP : va_P (dC, dI) vwCl ((wX5 cI cZ l0 l4 l5 l6 l8 l10 l11 l12 l13 l14 l15 l16 ((0 : Int32), uL.2.1, uL.2.2.1, uL.2.2.2.1, uL.2.2.2.2.1, uL.2.2.2.2.2.1, uL.2.2.2.2.2.2.1, uL.2.2.2.2.2.2.2.1, uL.2.2.2.2.2.2.2.2.1, uL.2.2.2.2.2.2.2.2.2.1, (upd uL.2.2.2.2.2.2.2.2.2.2.1 uL.2.2.2.2.2.2.2.2.2.1.toNatClampNeg a1), uL.2.2.2.2.2.2.2.2.2.2.2.1, uL.2.2.2.2.2.2.2.2.2.2.2.2.1, uL.2.2.2.2.2.2.2.2.2.2.2.2.2.1, uL.2.2.2.2.2.2.2.2.2.2.2.2.2.2.1, uL.2.2.2.2.2.2.2.2.2.2.2.2.2.2.2.1, uL.2.2.2.2.2.2.2.2.2.2.2.2.2.2.2.2.1, uL.2.2.2.2.2.2.2.2.2.2.2.2.2.2.2.2.2))) H := hP
          have hD : va_D A ((wX5 cI cZ l0 l4 l5 l6 l8 l10 l11 l12 l13 l14 l15 l16 ((0 : Int32), uL.2.1, uL.2.2.1, uL.2.2.2.1, uL.2.2.2.2.1, uL.2.2.2.2.2.1, uL.2.2.2.2.2.2.1, uL.2.2.2.2.2.2.2.1, uL.2.2.2.2.2.2.2.2.1, uL.2.2.2.2.2.2.2.2.2.1, (upd uL.2.2.2.2.2.2.2.2.2.2.1 uL.2.2.2.2.2.2.2.2.2.1.toNatClampNeg a1), uL.2.2.2.2.2.2.2.2.2.2.2.1, uL.2.2.2.2.2.2.2.2.2.2.2.2.1, uL.2.2.2.2.2.2.2.2.2.2.2.2.2.1, uL.2.2.2.2.2.2.2.2.2.2.2.2.2.2.1, uL.2.2.2.2.2.2.2.2.2.2.2.2.2.2.2.1, uL.2.2.2.2.2.2.2.2.2.2.2.2.2.2.2.2.1, uL.2.2.2.2.2.2.2.2.2.2.2.2.2.2.2.2.2))) := D_L hD
          refine lv_aload_n hx hb dX5_addMirror_54 rfl (lv_at hl 0 rfl) ?_
          refine va_get (D := (dC, dI)) (ci := 5) (v := .ref l11) (C := RX5) (T := TX5) (N := 18) hx hb hts inX5 hown hK hP 0 rfl rfl 11 (by decide) (hts _ qf_X5_32) (fun _ h9 => h9) rfl dX5_addMirror_55 ?_
          refine lv_aload_n hx hb dX5_addMirror_58 rfl (lv_at hl 0 rfl) ?_
          refine va_get (D := (dC, dI)) (ci := 5) (v := .int uL.2.2.2.2.2.2.2.2.2.1) (C := RX5) (T := TX5) (N := 18) hx hb hts inX5 hown hK hP 0 rfl rfl 9 (by decide) (hts _ qf_X5_60) (fun _ h9 => h9) rfl dX5_addMirror_59 ?_
          refine lv_iload_n hx hb dX5_addMirror_62 rfl (lv_at hl 2 rfl) ?_
          refine va_iast hx hb hK hP hD hS 6 0 rfl rfl hi3 dX5_addMirror_63 (fun H locs hP _ hS => ?_)
          have hP : va_P (dC, dI) vwCl ((wX5 cI cZ l0 l4 l5 l6 l8 l10 l11 l12 l13 l14 l15 l16 ((0 : Int32), uL.2.1, uL.2.2.1, uL.2.2.2.1, uL.2.2.2.2.1, uL.2.2.2.2.2.1, uL.2.2.2.2.2.2.1, uL.2.2.2.2.2.2.2.1, uL.2.2.2.2.2.2.2.2.1, uL.2.2.2.2.2.2.2.2.2.1, (upd uL.2.2.2.2.2.2.2.2.2.2.1 uL.2.2.2.2.2.2.2.2.2.1.toNatClampNeg a1), (upd uL.2.2.2.2.2.2.2.2.2.2.2.1 uL.2.2.2.2.2.2.2.2.2.1.toNatClampNeg a2), uL.2.2.2.2.2.2.2.2.2.2.2.2.1, uL.2.2.2.2.2.2.2.2.2.2.2.2.2.1, uL.2.2.2.2.2.2.2.2.2.2.2.2.2.2.1, uL.2.2.2.2.2.2.2.2.2.2.2.2.2.2.2.1, uL.2.2.2.2.2.2.2.2.2.2.2.2.2.2.2.2.1, uL.2.2.2.2.2.2.2.2.2.2.2.2.2.2.2.2.2))) H := hP
          have hD : va_D A ((wX5 cI cZ l0 l4 l5 l6 l8 l10 l11 l12 l13 l14 l15 l16 ((0 : Int32), uL.2.1, uL.2.2.1, uL.2.2.2.1, uL.2.2.2.2.1, uL.2.2.2.2.2.1, uL.2.2.2.2.2.2.1, uL.2.2.2.2.2.2.2.1, uL.2.2.2.2.2.2.2.2.1, uL.2.2.2.2.2.2.2.2.2.1, (upd uL.2.2.2.2.2.2.2.2.2.2.1 uL.2.2.2.2.2.2.2.2.2.1.toNatClampNeg a1), (upd uL.2.2.2.2.2.2.2.2.2.2.2.1 uL.2.2.2.2.2.2.2.2.2.1.toNatClampNeg a2), uL.2.2.2.2.2.2.2.2.2.2.2.2.1, uL.2.2.2.2.2.2.2.2.2.2.2.2.2.1, uL.2.2.2.2.2.2.2.2.2.2.2.2.2.2.1, uL.2.2.2.2.2.2.2.2.2.2.2.2.2.2.2.1, uL.2.2.2.2.2.2.2.2.2.2.2.2.2.2.2.2.1, uL.2.2.2.2.2.2.2.2.2.2.2.2.2.2.2.2.2))) := D_L hD
          refine lv_aload_n hx hb dX5_addMirror_64 rfl (lv_at hl 0 rfl) ?_
          refine lv_dup hx hb dX5_addMirror_65 rfl ?_
          refine va_get (D := (dC, dI)) (ci := 5) (v := .int uL.2.2.2.2.2.2.2.2.2.1) (C := RX5) (T := TX5) (N := 18) hx hb hts inX5 hown hK hP 0 rfl rfl 9 (by decide) (hts _ qf_X5_60) (fun _ h9 => h9) rfl dX5_addMirror_66 ?_
          refine lv_iconst (v := (1 : Int32)) hx hb dX5_addMirror_69 (by decide) ?_
          refine lv_iadd hx hb dX5_addMirror_70 ?_
          refine va_put (D := (dC, dI)) (ci := 5) (v := .int (uL.2.2.2.2.2.2.2.2.2.1 + (1 : Int32))) (ty := .int) (C := RX5) (T := TX5) (N := 18) hx hb hts inX5 tyX5 tyX5_ok nmX5 hown hK hP hD hS 0 rfl rfl 9 (by decide) (hts _ qf_X5_60) (fun _ h9 => h9) rfl (tyX5_ok 9 (by decide)) rfl rfl (Nat.le_of_ble_eq_true rfl) dX5_addMirror_71 (fun H locs hP _ hS => ?_)
          have hP : va_P (dC, dI) vwCl ((wX5 cI cZ l0 l4 l5 l6 l8 l10 l11 l12 l13 l14 l15 l16 ((0 : Int32), uL.2.1, uL.2.2.1, uL.2.2.2.1, uL.2.2.2.2.1, uL.2.2.2.2.2.1, uL.2.2.2.2.2.2.1, uL.2.2.2.2.2.2.2.1, uL.2.2.2.2.2.2.2.2.1, (uL.2.2.2.2.2.2.2.2.2.1 + (1 : Int32)), (upd uL.2.2.2.2.2.2.2.2.2.2.1 uL.2.2.2.2.2.2.2.2.2.1.toNatClampNeg a1), (upd uL.2.2.2.2.2.2.2.2.2.2.2.1 uL.2.2.2.2.2.2.2.2.2.1.toNatClampNeg a2), uL.2.2.2.2.2.2.2.2.2.2.2.2.1, uL.2.2.2.2.2.2.2.2.2.2.2.2.2.1, uL.2.2.2.2.2.2.2.2.2.2.2.2.2.2.1, uL.2.2.2.2.2.2.2.2.2.2.2.2.2.2.2.1, uL.2.2.2.2.2.2.2.2.2.2.2.2.2.2.2.2.1, uL.2.2.2.2.2.2.2.2.2.2.2.2.2.2.2.2.2))) H := hP
          have hD : va_D A ((wX5 cI cZ l0 l4 l5 l6 l8 l10 l11 l12 l13 l14 l15 l16 ((0 : Int32), uL.2.1, uL.2.2.1, uL.2.2.2.1, uL.2.2.2.2.1, uL.2.2.2.2.2.1, uL.2.2.2.2.2.2.1, uL.2.2.2.2.2.2.2.1, uL.2.2.2.2.2.2.2.2.1, (uL.2.2.2.2.2.2.2.2.2.1 + (1 : Int32)), (upd uL.2.2.2.2.2.2.2.2.2.2.1 uL.2.2.2.2.2.2.2.2.2.1.toNatClampNeg a1), (upd uL.2.2.2.2.2.2.2.2.2.2.2.1 uL.2.2.2.2.2.2.2.2.2.1.toNatClampNeg a2), uL.2.2.2.2.2.2.2.2.2.2.2.2.1, uL.2.2.2.2.2.2.2.2.2.2.2.2.2.1, uL.2.2.2.2.2.2.2.2.2.2.2.2.2.2.1, uL.2.2.2.2.2.2.2.2.2.2.2.2.2.2.2.1, uL.2.2.2.2.2.2.2.2.2.2.2.2.2.2.2.2.1, uL.2.2.2.2.2.2.2.2.2.2.2.2.2.2.2.2.2))) := D_L hD
          refine lv_aload_n hx hb dX5_addMirror_74 rfl (lv_at hl 0 rfl) ?_
          refine va_get (D := (dC, dI)) (ci := 5) (v := .int (uL.2.2.2.2.2.2.2.2.2.1 + (1 : Int32))) (C := RX5) (T := TX5) (N := 18) hx hb hts inX5 hown hK hP 0 rfl rfl 9 (by decide) (hts _ qf_X5_60) (fun _ h9 => h9) rfl dX5_addMirror_75 ?_
          refine lv_iconst (v := (1 : Int32)) hx hb dX5_addMirror_78 (by decide) ?_
          refine lv_isub hx hb dX5_addMirror_79 ?_
          have hok := Option.some.inj hok
          subst hok
          exact eWi S hr hlk rfl hP hS (Nat.le_of_ble_eq_true rfl) (Nat.le_of_ble_eq_true rfl) dX5_addMirror_80
        · have hok := ip hok hc
          refine lv_aload_n hx hb dX5_addMirror_38 rfl (lv_at hl 0 rfl) ?_
          refine lv_iconst (v := (2 : Int32)) hx hb dX5_addMirror_39 (by decide) ?_
          obtain ⟨v4, hc4, hok⟩ := bd_some hok
          refine cWVi (ci := 5) (q0 := 0) [.int (2 : Int32)] S hK hP hD hS hA (c_X5_fail l dC dI cI cZ l0 l4 l5 l6 l8 l10 l11 l12 l13 l14 l15 l16 _ ((0 : Int32), uL.2.1, uL.2.2.1, uL.2.2.2.1, uL.2.2.2.2.1, uL.2.2.2.2.2.1, uL.2.2.2.2.2.2.1, uL.2.2.2.2.2.2.2.1, uL.2.2.2.2.2.2.2.2.1, uL.2.2.2.2.2.2.2.2.2.1, uL.2.2.2.2.2.2.2.2.2.2.1, uL.2.2.2.2.2.2.2.2.2.2.2.1, uL.2.2.2.2.2.2.2.2.2.2.2.2.1, uL.2.2.2.2.2.2.2.2.2.2.2.2.2.1, uL.2.2.2.2.2.2.2.2.2.2.2.2.2.2.1, uL.2.2.2.2.2.2.2.2.2.2.2.2.2.2.2.1, uL.2.2.2.2.2.2.2.2.2.2.2.2.2.2.2.2.1, uL.2.2.2.2.2.2.2.2.2.2.2.2.2.2.2.2.2) (2 : Int32) hc4) (lw_V qm_X5_112 qi_X5_fail qs_X5_fail qn_X5 qc_X5_fail) hd_X5_fail ⟨rfl, rfl⟩ ⟨Nat.le_of_ble_eq_true rfl, Nat.le_of_ble_eq_true rfl⟩ ⟨Nat.le_of_ble_eq_true rfl, Nat.le_of_ble_eq_true rfl⟩ rfl rfl rfl hl.1 (Nat.le_of_ble_eq_true rfl) rfl dX5_addMirror_40 (D_L hD) (fun H locs hP hD hS => ?_)
          have hok := Option.some.inj hok
          subst hok
          exact eWi S hr hlk rfl hP hS (Nat.le_of_ble_eq_true rfl) (Nat.le_of_ble_eq_true rfl) dX5_addMirror_43
      · have hok := ip hok hc
        exact J24 ((0 : Int32), uL.2.1, uL.2.2.1, uL.2.2.2.1, uL.2.2.2.2.1, uL.2.2.2.2.2.1, uL.2.2.2.2.2.2.1, uL.2.2.2.2.2.2.2.1, uL.2.2.2.2.2.2.2.2.1, uL.2.2.2.2.2.2.2.2.2.1, uL.2.2.2.2.2.2.2.2.2.2.1, uL.2.2.2.2.2.2.2.2.2.2.2.1, uL.2.2.2.2.2.2.2.2.2.2.2.2.1, uL.2.2.2.2.2.2.2.2.2.2.2.2.2.1, uL.2.2.2.2.2.2.2.2.2.2.2.2.2.2.1, uL.2.2.2.2.2.2.2.2.2.2.2.2.2.2.2.1, uL.2.2.2.2.2.2.2.2.2.2.2.2.2.2.2.2.1, uL.2.2.2.2.2.2.2.2.2.2.2.2.2.2.2.2.2) _ _ hP hD hS _ (lv_sub hl [0] rfl) hok
theorem hd_X5_call : yX5_call.cls = RX5 ∧ yX5_call.cls ≠ "java/lang/invoke/MethodHandle" ∧ yX5_call.cls ≠ "java/lang/invoke/VarHandle" ∧ (parseMethodDescriptor yX5_call.desc).map (fun d => d.parameters.length) = some 1 := by decide +kernel
def p_X5_call_J45 (uL : tX5) (l45_1 : Int32) (s45_0 : Int32) : Option (Int32 × tX5) :=
  gq (s45_0 &&& 1 = s45_0) (
  some (s45_0, (uL.1, uL.2.1, uL.2.2.1, uL.2.2.2.1, uL.2.2.2.2.1, uL.2.2.2.2.2.1, uL.2.2.2.2.2.2.1, uL.2.2.2.2.2.2.2.1, uL.2.2.2.2.2.2.2.2.1, uL.2.2.2.2.2.2.2.2.2.1, uL.2.2.2.2.2.2.2.2.2.2.1, uL.2.2.2.2.2.2.2.2.2.2.2.1, uL.2.2.2.2.2.2.2.2.2.2.2.2.1, uL.2.2.2.2.2.2.2.2.2.2.2.2.2.1, uL.2.2.2.2.2.2.2.2.2.2.2.2.2.2.1, (upd uL.2.2.2.2.2.2.2.2.2.2.2.2.2.2.2.1 6 ((uL.2.2.2.2.2.2.2.2.2.2.2.2.2.2.2.1 6) ||| ((1 : Int32) <<< (l45_1 &&& 31)))), uL.2.2.2.2.2.2.2.2.2.2.2.2.2.2.2.2.1, uL.2.2.2.2.2.2.2.2.2.2.2.2.2.2.2.2.2)))
def p_X5_call_J14 (uL : tX5) (l14_1 : Int32) (s14_0 : Int32) : Option (Int32 × tX5) :=
  if s14_0 ≤ 0 then
    bd (p_X5_has (uL.2.2.2.2.2.2.2.2.2.2.2.2.2.2.2.1 6) l14_1) (fun v2 =>
    if v2 = 0 then
      p_X5_call_J45 (s14_0, uL.2.1, uL.2.2.1, uL.2.2.2.1, uL.2.2.2.2.1, uL.2.2.2.2.2.1, uL.2.2.2.2.2.2.1, uL.2.2.2.2.2.2.2.1, uL.2.2.2.2.2.2.2.2.1, uL.2.2.2.2.2.2.2.2.2.1, uL.2.2.2.2.2.2.2.2.2.2.1, uL.2.2.2.2.2.2.2.2.2.2.2.1, uL.2.2.2.2.2.2.2.2.2.2.2.2.1, uL.2.2.2.2.2.2.2.2.2.2.2.2.2.1, uL.2.2.2.2.2.2.2.2.2.2.2.2.2.2.1, uL.2.2.2.2.2.2.2.2.2.2.2.2.2.2.2.1, uL.2.2.2.2.2.2.2.2.2.2.2.2.2.2.2.2.1, uL.2.2.2.2.2.2.2.2.2.2.2.2.2.2.2.2.2) l14_1 (1 : Int32)
    else
      p_X5_call_J45 (s14_0, uL.2.1, uL.2.2.1, uL.2.2.2.1, uL.2.2.2.2.1, uL.2.2.2.2.2.1, uL.2.2.2.2.2.2.1, uL.2.2.2.2.2.2.2.1, uL.2.2.2.2.2.2.2.2.1, uL.2.2.2.2.2.2.2.2.2.1, uL.2.2.2.2.2.2.2.2.2.2.1, uL.2.2.2.2.2.2.2.2.2.2.2.1, uL.2.2.2.2.2.2.2.2.2.2.2.2.1, uL.2.2.2.2.2.2.2.2.2.2.2.2.2.1, uL.2.2.2.2.2.2.2.2.2.2.2.2.2.2.1, uL.2.2.2.2.2.2.2.2.2.2.2.2.2.2.2.1, uL.2.2.2.2.2.2.2.2.2.2.2.2.2.2.2.2.1, uL.2.2.2.2.2.2.2.2.2.2.2.2.2.2.2.2.2) l14_1 (0 : Int32))
  else
    some ((0 : Int32), (s14_0, uL.2.1, uL.2.2.1, uL.2.2.2.1, uL.2.2.2.2.1, uL.2.2.2.2.2.1, uL.2.2.2.2.2.2.1, uL.2.2.2.2.2.2.2.1, uL.2.2.2.2.2.2.2.2.1, uL.2.2.2.2.2.2.2.2.2.1, uL.2.2.2.2.2.2.2.2.2.2.1, uL.2.2.2.2.2.2.2.2.2.2.2.1, uL.2.2.2.2.2.2.2.2.2.2.2.2.1, uL.2.2.2.2.2.2.2.2.2.2.2.2.2.1, uL.2.2.2.2.2.2.2.2.2.2.2.2.2.2.1, uL.2.2.2.2.2.2.2.2.2.2.2.2.2.2.2.1, uL.2.2.2.2.2.2.2.2.2.2.2.2.2.2.2.2.1, uL.2.2.2.2.2.2.2.2.2.2.2.2.2.2.2.2.2))
def p_X5_call (uL : tX5) (a1 : Int32) : Option (Int32 × tX5) :=
  bd (p_X5_isFloor uL a1) (fun v1 =>
  if v1 = 0 then
    p_X5_call_J14 uL a1 (1 : Int32)
  else
    p_X5_call_J14 uL a1 (0 : Int32))
set_option maxHeartbeats 4000000 in
set_option maxRecDepth 100000 in
theorem c_X5_call (l : Launch) (dC : Nat → ClassId) (dI : Nat → Nat → Nat) (cI cZ : ClassId) (l0 l4 l5 l6 l8 l10 l11 l12 l13 l14 l15 l16 : Nat) (sz : Nat) (uL : tX5) (a1 : Int32) {z : (Int32 × tX5)} (hok : p_X5_call uL a1 = some z) : Met l yX5_call (Cond.code yX5_call cX5_call 3 (some .boolean) :: lw_all) { frames := 2, cells := 0, slots := 0, locals := 43 } (prW (dC, dI) vwCl (TYS cI cZ) ((wX5 cI cZ l0 l4 l5 l6 l8 l10 l11 l12 l13 l14 l15 l16 uL)) sz [.ref l0, .int a1]) (va_Qi (fun (r : Int32) (_ : Unit) => r = z.1) (fun _ t => va_P (dC, dI) vwCl ((wX5 cI cZ l0 l4 l5 l6 l8 l10 l11 l12 l13 l14 l15 l16 z.2)) t.heap) (va_A ((wX5 cI cZ l0 l4 l5 l6 l8 l10 l11 l12 l13 l14 l15 l16 uL)) sz)) 0 0 (va_A ((wX5 cI cZ l0 l4 l5 l6 l8 l10 l11 l12 l13 l14 l15 l16 uL)) sz) := by
  refine oM (by decide) (Nat.le_of_ble_eq_true rfl) ?_
  intro p e s m args below meth c S hr hlk hnm hB ls hl
  have hx := S.1
  have hb := S.2.1
  have hml := S.2.2.1
  have hown : s.vm.findClass RX5 = some m.cls := S.2.2.2.1
  have hts := S.2.2.2.2
  have S : CallFix p m c cX5_call 3 s args lw_all RX5 := S
  have hl : lv_has ls 3 [(0, .ref l0), (1, .int a1)] := hl
  obtain ⟨hsz, hP, hK, hD0⟩ := hB
  subst hsz
  have hD := hD0.self (sz := s.heap.size)
  generalize hAe : va_A ((wX5 cI cZ l0 l4 l5 l6 l8 l10 l11 l12 l13 l14 l15 l16 uL)) s.heap.size = A at hD ⊢
  have hA : ∀ q : Nat, s.heap.size ≤ q → A q := fun q h => by rw [← hAe]; exact Or.inr h
  have hS : va_S A s.heap s.heap [] := va_S.rf
  have hP : va_P (dC, dI) vwCl ((wX5 cI cZ l0 l4 l5 l6 l8 l10 l11 l12 l13 l14 l15 l16 uL)) s.heap := hP
  have J45 : ∀ (uL : tX5) (l45_1 : Int32) (s45_0 : Int32) (H : Heap) (locs : List Loc) (hP : va_P (dC, dI) vwCl ((wX5 cI cZ l0 l4 l5 l6 l8 l10 l11 l12 l13 l14 l15 l16 uL)) H) (hD : va_D A ((wX5 cI cZ l0 l4 l5 l6 l8 l10 l11 l12 l13 l14 l15 l16 uL))) (hS : va_S A s.heap H locs) (ls : Array Slot) (hl : lv_has ls 3 [(0, .ref l0), (1, .int l45_1)]) (hok : p_X5_call_J45 uL l45_1 s45_0 = some z), W p l e { frames := 2, cells := 0, slots := 0, locals := 43 } s m args below meth c H locs 0 0 (MQ below (va_Qi (fun (r : Int32) (_ : Unit) => r = z.1) (fun _ t => va_P (dC, dI) vwCl ((wX5 cI cZ l0 l4 l5 l6 l8 l10 l11 l12 l13 l14 l15 l16 z.2)) t.heap) A) args s 0 0 A) (F0 m 45 ls [.int s45_0]) := by
    intro uL l45_1 s45_0 H locs hP hD hS ls hl hok
    unfold p_X5_call_J45 at hok
    refine lv_istore_n (lv' := [(2, .int s45_0), (0, .ref l0), (1, .int l45_1)]) hx hb dX5_call_45 rfl hl (by decide) rfl (fun ls hl => ?_)
    refine lv_aload_n hx hb dX5_call_46 rfl (lv_at hl 1 rfl) ?_
    refine va_get (D := (dC, dI)) (ci := 5) (v := .ref l15) (C := RX5) (T := TX5) (N := 18) hx hb hts inX5 hown hK hP 0 rfl rfl 15 (by decide) (hts _ qf_X5_44) (fun _ h9 => h9) rfl dX5_call_47 ?_
    refine lv_bipush (v := (6 : Int32)) hx hb dX5_call_50 (by decide) ?_
    refine lv_dup2_11 hx hb dX5_call_52 rfl rfl ?_
    refine va_ialdK hx hb hK hP 10 0 rfl rfl (j := 6) (by decide) (vp_inK (by decide)) dX5_call_53 ?_
    refine lv_iconst (v := (1 : Int32)) hx hb dX5_call_54 (by decide) ?_
    refine lv_iload_n hx hb dX5_call_55 rfl (lv_at hl 2 rfl) ?_
    refine lv_ishl hx hb dX5_call_56 ?_
    refine lv_ior hx hb dX5_call_57 ?_
    refine va_iastK hx hb hK hP hD hS 10 0 rfl rfl (j := 6) (by decide) (vp_inK (by decide)) dX5_call_58 (fun H locs hP _ hS => ?_)
    have hP : va_P (dC, dI) vwCl ((wX5 cI cZ l0 l4 l5 l6 l8 l10 l11 l12 l13 l14 l15 l16 (uL.1, uL.2.1, uL.2.2.1, uL.2.2.2.1, uL.2.2.2.2.1, uL.2.2.2.2.2.1, uL.2.2.2.2.2.2.1, uL.2.2.2.2.2.2.2.1, uL.2.2.2.2.2.2.2.2.1, uL.2.2.2.2.2.2.2.2.2.1, uL.2.2.2.2.2.2.2.2.2.2.1, uL.2.2.2.2.2.2.2.2.2.2.2.1, uL.2.2.2.2.2.2.2.2.2.2.2.2.1, uL.2.2.2.2.2.2.2.2.2.2.2.2.2.1, uL.2.2.2.2.2.2.2.2.2.2.2.2.2.2.1, (upd uL.2.2.2.2.2.2.2.2.2.2.2.2.2.2.2.1 6 ((uL.2.2.2.2.2.2.2.2.2.2.2.2.2.2.2.1 6) ||| ((1 : Int32) <<< (l45_1 &&& 31)))), uL.2.2.2.2.2.2.2.2.2.2.2.2.2.2.2.2.1, uL.2.2.2.2.2.2.2.2.2.2.2.2.2.2.2.2.2))) H := hP
    have hD : va_D A ((wX5 cI cZ l0 l4 l5 l6 l8 l10 l11 l12 l13 l14 l15 l16 (uL.1, uL.2.1, uL.2.2.1, uL.2.2.2.1, uL.2.2.2.2.1, uL.2.2.2.2.2.1, uL.2.2.2.2.2.2.1, uL.2.2.2.2.2.2.2.1, uL.2.2.2.2.2.2.2.2.1, uL.2.2.2.2.2.2.2.2.2.1, uL.2.2.2.2.2.2.2.2.2.2.1, uL.2.2.2.2.2.2.2.2.2.2.2.1, uL.2.2.2.2.2.2.2.2.2.2.2.2.1, uL.2.2.2.2.2.2.2.2.2.2.2.2.2.1, uL.2.2.2.2.2.2.2.2.2.2.2.2.2.2.1, (upd uL.2.2.2.2.2.2.2.2.2.2.2.2.2.2.2.1 6 ((uL.2.2.2.2.2.2.2.2.2.2.2.2.2.2.2.1 6) ||| ((1 : Int32) <<< (l45_1 &&& 31)))), uL.2.2.2.2.2.2.2.2.2.2.2.2.2.2.2.2.1, uL.2.2.2.2.2.2.2.2.2.2.2.2.2.2.2.2.2))) := D_L hD
    refine lv_iload_n hx hb dX5_call_59 rfl (lv_at hl 0 rfl) ?_
    obtain ⟨hn3, hok⟩ := gq_some hok
    have hok := Option.some.inj hok
    subst hok
    exact eWz S hr hlk hn3 rfl hP hS (Nat.le_of_ble_eq_true rfl) (Nat.le_of_ble_eq_true rfl) dX5_call_60
  have J14 : ∀ (uL : tX5) (l14_1 : Int32) (s14_0 : Int32) (H : Heap) (locs : List Loc) (hP : va_P (dC, dI) vwCl ((wX5 cI cZ l0 l4 l5 l6 l8 l10 l11 l12 l13 l14 l15 l16 uL)) H) (hD : va_D A ((wX5 cI cZ l0 l4 l5 l6 l8 l10 l11 l12 l13 l14 l15 l16 uL))) (hS : va_S A s.heap H locs) (ls : Array Slot) (hl : lv_has ls 3 [(0, .ref l0), (1, .int l14_1)]) (hok : p_X5_call_J14 uL l14_1 s14_0 = some z), W p l e { frames := 2, cells := 0, slots := 0, locals := 43 } s m args below meth c H locs 0 0 (MQ below (va_Qi (fun (r : Int32) (_ : Unit) => r = z.1) (fun _ t => va_P (dC, dI) vwCl ((wX5 cI cZ l0 l4 l5 l6 l8 l10 l11 l12 l13 l14 l15 l16 z.2)) t.heap) A) args s 0 0 A) (F0 m 14 ls [.int s14_0, .ref l0]) := by
    intro uL l14_1 s14_0 H locs hP hD hS ls hl hok
    unfold p_X5_call_J14 at hok
    refine va_put (D := (dC, dI)) (ci := 5) (v := .int s14_0) (ty := .int) (C := RX5) (T := TX5) (N := 18) hx hb hts inX5 tyX5 tyX5_ok nmX5 hown hK hP hD hS 0 rfl rfl 0 (by decide) (hts _ qf_X5_50) (fun _ h9 => h9) rfl (tyX5_ok 0 (by decide)) rfl rfl (Nat.le_of_ble_eq_true rfl) dX5_call_14 (fun H locs hP _ hS => ?_)
    have hP : va_P (dC, dI) vwCl ((wX5 cI cZ l0 l4 l5 l6 l8 l10 l11 l12 l13 l14 l15 l16 (s14_0, uL.2.1, uL.2.2.1, uL.2.2.2.1, uL.2.2.2.2.1, uL.2.2.2.2.2.1, uL.2.2.2.2.2.2.1, uL.2.2.2.2.2.2.2.1, uL.2.2.2.2.2.2.2.2.1, uL.2.2.2.2.2.2.2.2.2.1, uL.2.2.2.2.2.2.2.2.2.2.1, uL.2.2.2.2.2.2.2.2.2.2.2.1, uL.2.2.2.2.2.2.2.2.2.2.2.2.1, uL.2.2.2.2.2.2.2.2.2.2.2.2.2.1, uL.2.2.2.2.2.2.2.2.2.2.2.2.2.2.1, uL.2.2.2.2.2.2.2.2.2.2.2.2.2.2.2.1, uL.2.2.2.2.2.2.2.2.2.2.2.2.2.2.2.2.1, uL.2.2.2.2.2.2.2.2.2.2.2.2.2.2.2.2.2))) H := hP
    have hD : va_D A ((wX5 cI cZ l0 l4 l5 l6 l8 l10 l11 l12 l13 l14 l15 l16 (s14_0, uL.2.1, uL.2.2.1, uL.2.2.2.1, uL.2.2.2.2.1, uL.2.2.2.2.2.1, uL.2.2.2.2.2.2.1, uL.2.2.2.2.2.2.2.1, uL.2.2.2.2.2.2.2.2.1, uL.2.2.2.2.2.2.2.2.2.1, uL.2.2.2.2.2.2.2.2.2.2.1, uL.2.2.2.2.2.2.2.2.2.2.2.1, uL.2.2.2.2.2.2.2.2.2.2.2.2.1, uL.2.2.2.2.2.2.2.2.2.2.2.2.2.1, uL.2.2.2.2.2.2.2.2.2.2.2.2.2.2.1, uL.2.2.2.2.2.2.2.2.2.2.2.2.2.2.2.1, uL.2.2.2.2.2.2.2.2.2.2.2.2.2.2.2.2.1, uL.2.2.2.2.2.2.2.2.2.2.2.2.2.2.2.2.2))) := D_L hD
    refine lv_aload_n hx hb dX5_call_17 rfl (lv_at hl 0 rfl) ?_
    refine va_get (D := (dC, dI)) (ci := 5) (v := .int s14_0) (C := RX5) (T := TX5) (N := 18) hx hb hts inX5 hown hK hP 0 rfl rfl 0 (by decide) (hts _ qf_X5_50) (fun _ h9 => h9) rfl dX5_call_18 ?_
    refine lv_if_le (tgt := 26) hx hb dX5_call_21 (by decide) (fun hc => ?_) (fun hc => ?_)
    · have hok := ip hok hc
      refine lv_aload_n hx hb dX5_call_26 rfl (lv_at hl 0 rfl) ?_
      refine va_get (D := (dC, dI)) (ci := 5) (v := .ref l15) (C := RX5) (T := TX5) (N := 18) hx hb hts inX5 hown hK hP 0 rfl rfl 15 (by decide) (hts _ qf_X5_44) (fun _ h9 => h9) rfl dX5_call_27 ?_
      refine lv_bipush (v := (6 : Int32)) hx hb dX5_call_30 (by decide) ?_
      refine va_ialdK hx hb hK hP 10 0 rfl rfl (j := 6) (by decide) (vp_inK (by decide)) dX5_call_32 ?_
      refine lv_iload_n hx hb dX5_call_33 rfl (lv_at hl 1 rfl) ?_
      obtain ⟨v2, hc2, hok⟩ := bd_some hok
      refine cRSi [.int (uL.2.2.2.2.2.2.2.2.2.2.2.2.2.2.2.1 6), .int l14_1] S hK va_Pnil (c_X5_has l dC dI cI cZ (uL.2.2.2.2.2.2.2.2.2.2.2.2.2.2.2.1 6) l14_1 hc2) (lw_S qm_X5_69 qt_X5_has qn_X5 qc_X5_has) hd_X5_has ⟨rfl, rfl⟩ ⟨Nat.le_of_ble_eq_true rfl, Nat.le_of_ble_eq_true rfl⟩ ⟨Nat.le_of_ble_eq_true rfl, Nat.le_of_ble_eq_true rfl⟩ rfl hl.1 (Nat.le_of_ble_eq_true rfl) rfl dX5_call_34 ?_
      refine lv_if_ne (tgt := 44) hx hb dX5_call_37 (by decide) (fun hc => ?_) (fun hc => ?_)
      · have hok := iq hok hc
        refine lv_iconst (v := (0 : Int32)) hx hb dX5_call_44 (by decide) ?_
        exact J45 (s14_0, uL.2.1, uL.2.2.1, uL.2.2.2.1, uL.2.2.2.2.1, uL.2.2.2.2.2.1, uL.2.2.2.2.2.2.1, uL.2.2.2.2.2.2.2.1, uL.2.2.2.2.2.2.2.2.1, uL.2.2.2.2.2.2.2.2.2.1, uL.2.2.2.2.2.2.2.2.2.2.1, uL.2.2.2.2.2.2.2.2.2.2.2.1, uL.2.2.2.2.2.2.2.2.2.2.2.2.1, uL.2.2.2.2.2.2.2.2.2.2.2.2.2.1, uL.2.2.2.2.2.2.2.2.2.2.2.2.2.2.1, uL.2.2.2.2.2.2.2.2.2.2.2.2.2.2.2.1, uL.2.2.2.2.2.2.2.2.2.2.2.2.2.2.2.2.1, uL.2.2.2.2.2.2.2.2.2.2.2.2.2.2.2.2.2) l14_1 (0 : Int32) _ _ hP hD hS _ hl hok
      · have hok := ip hok hc
        refine lv_iconst (v := (1 : Int32)) hx hb dX5_call_40 (by decide) ?_
        refine lv_goto (tgt := 45) hx hb dX5_call_41 (by decide) ?_
        exact J45 (s14_0, uL.2.1, uL.2.2.1, uL.2.2.2.1, uL.2.2.2.2.1, uL.2.2.2.2.2.1, uL.2.2.2.2.2.2.1, uL.2.2.2.2.2.2.2.1, uL.2.2.2.2.2.2.2.2.1, uL.2.2.2.2.2.2.2.2.2.1, uL.2.2.2.2.2.2.2.2.2.2.1, uL.2.2.2.2.2.2.2.2.2.2.2.1, uL.2.2.2.2.2.2.2.2.2.2.2.2.1, uL.2.2.2.2.2.2.2.2.2.2.2.2.2.1, uL.2.2.2.2.2.2.2.2.2.2.2.2.2.2.1, uL.2.2.2.2.2.2.2.2.2.2.2.2.2.2.2.1, uL.2.2.2.2.2.2.2.2.2.2.2.2.2.2.2.2.1, uL.2.2.2.2.2.2.2.2.2.2.2.2.2.2.2.2.2) l14_1 (1 : Int32) _ _ hP hD hS _ hl hok
    · have hok := iq hok hc
      refine lv_iconst (v := (0 : Int32)) hx hb dX5_call_24 (by decide) ?_
      have hok := Option.some.inj hok
      subst hok
      exact eWz S hr hlk (by decide) rfl hP hS (Nat.le_of_ble_eq_true rfl) (Nat.le_of_ble_eq_true rfl) dX5_call_25
  unfold p_X5_call at hok
  refine lv_aload_n hx hb dX5_call_0 rfl (lv_at hl 0 rfl) ?_
  refine lv_aload_n hx hb dX5_call_1 rfl (lv_at hl 0 rfl) ?_
  refine lv_iload_n hx hb dX5_call_2 rfl (lv_at hl 1 rfl) ?_
  obtain ⟨v1, hc1, hok⟩ := bd_some hok
  refine cRVi (ci := 5) (q0 := 0) [.int a1] S hK hP (c_X5_isFloor l dC dI cI cZ l0 l4 l5 l6 l8 l10 l11 l12 l13 l14 l15 l16 uL a1 hc1) (lw_V qm_X5_93 qi_X5_isFloor qs_X5_isFloor qn_X5 qc_X5_isFloor) hd_X5_isFloor ⟨rfl, rfl⟩ ⟨Nat.le_of_ble_eq_true rfl, Nat.le_of_ble_eq_true rfl⟩ ⟨Nat.le_of_ble_eq_true rfl, Nat.le_of_ble_eq_true rfl⟩ rfl rfl rfl hl.1 (Nat.le_of_ble_eq_true rfl) rfl dX5_call_3 ?_
  refine lv_if_eq (tgt := 13) hx hb dX5_call_6 (by decide) (fun hc => ?_) (fun hc => ?_)
  · have hok := ip hok hc
    refine lv_iconst (v := (1 : Int32)) hx hb dX5_call_13 (by decide) ?_
    exact J14 uL a1 (1 : Int32) _ _ hP hD hS _ hl hok
  · have hok := iq hok hc
    refine lv_iconst (v := (0 : Int32)) hx hb dX5_call_9 (by decide) ?_
    refine lv_goto (tgt := 14) hx hb dX5_call_10 (by decide) ?_
    exact J14 uL a1 (0 : Int32) _ _ hP hD hS _ hl hok
theorem hd_X5_repair : yX5_repair.cls = RX5 ∧ yX5_repair.cls ≠ "java/lang/invoke/MethodHandle" ∧ yX5_repair.cls ≠ "java/lang/invoke/VarHandle" ∧ (parseMethodDescriptor yX5_repair.desc).map (fun d => d.parameters.length) = some 0 := by decide +kernel
def p_X5_repair (uL : tX5) : Option (Int32 × tX5) :=
  some ((uL.2.2.2.2.2.2.2.2.2.2.2.2.2.2.2.1 3), ((0 : Int32), uL.2.1, uL.2.2.1, uL.2.2.2.1, uL.2.2.2.2.1, uL.2.2.2.2.2.1, uL.2.2.2.2.2.2.1, uL.2.2.2.2.2.2.2.1, uL.2.2.2.2.2.2.2.2.1, uL.2.2.2.2.2.2.2.2.2.1, uL.2.2.2.2.2.2.2.2.2.2.1, uL.2.2.2.2.2.2.2.2.2.2.2.1, uL.2.2.2.2.2.2.2.2.2.2.2.2.1, uL.2.2.2.2.2.2.2.2.2.2.2.2.2.1, uL.2.2.2.2.2.2.2.2.2.2.2.2.2.2.1, (upd (upd uL.2.2.2.2.2.2.2.2.2.2.2.2.2.2.2.1 3 (0 : Int32)) 4 (0 : Int32)), uL.2.2.2.2.2.2.2.2.2.2.2.2.2.2.2.2.1, uL.2.2.2.2.2.2.2.2.2.2.2.2.2.2.2.2.2))
set_option maxHeartbeats 4000000 in
set_option maxRecDepth 100000 in
theorem c_X5_repair (l : Launch) (dC : Nat → ClassId) (dI : Nat → Nat → Nat) (cI cZ : ClassId) (l0 l4 l5 l6 l8 l10 l11 l12 l13 l14 l15 l16 : Nat) (sz : Nat) (uL : tX5) {z : (Int32 × tX5)} (hok : p_X5_repair uL = some z) : Met l yX5_repair (Cond.code yX5_repair cX5_repair 2 (some .int) :: lw_all) { frames := 0, cells := 0, slots := 0, locals := 0 } (prW (dC, dI) vwCl (TYS cI cZ) ((wX5 cI cZ l0 l4 l5 l6 l8 l10 l11 l12 l13 l14 l15 l16 uL)) sz [.ref l0]) (va_Qi (fun (r : Int32) (_ : Unit) => r = z.1) (fun _ t => va_P (dC, dI) vwCl ((wX5 cI cZ l0 l4 l5 l6 l8 l10 l11 l12 l13 l14 l15 l16 z.2)) t.heap) (va_A ((wX5 cI cZ l0 l4 l5 l6 l8 l10 l11 l12 l13 l14 l15 l16 uL)) sz)) 0 0 (va_A ((wX5 cI cZ l0 l4 l5 l6 l8 l10 l11 l12 l13 l14 l15 l16 uL)) sz) := by
  refine oM (by decide) (Nat.le_of_ble_eq_true rfl) ?_
  intro p e s m args below meth c S hr hlk hnm hB ls hl
  have hx := S.1
  have hb := S.2.1
  have hml := S.2.2.1
  have hown : s.vm.findClass RX5 = some m.cls := S.2.2.2.1
  have hts := S.2.2.2.2
  have S : CallFix p m c cX5_repair 2 s args lw_all RX5 := S
  have hl : lv_has ls 2 [(0, .ref l0)] := hl
  obtain ⟨hsz, hP, hK, hD0⟩ := hB
  subst hsz
  have hD := hD0.self (sz := s.heap.size)
  generalize hAe : va_A ((wX5 cI cZ l0 l4 l5 l6 l8 l10 l11 l12 l13 l14 l15 l16 uL)) s.heap.size = A at hD ⊢
  have hA : ∀ q : Nat, s.heap.size ≤ q → A q := fun q h => by rw [← hAe]; exact Or.inr h
  have hS : va_S A s.heap s.heap [] := va_S.rf
  have hP : va_P (dC, dI) vwCl ((wX5 cI cZ l0 l4 l5 l6 l8 l10 l11 l12 l13 l14 l15 l16 uL)) s.heap := hP
  unfold p_X5_repair at hok
  refine lv_aload_n hx hb dX5_repair_0 rfl (lv_at hl 0 rfl) ?_
  refine lv_iconst (v := (0 : Int32)) hx hb dX5_repair_1 (by decide) ?_
  refine va_put (D := (dC, dI)) (ci := 5) (v := .int (0 : Int32)) (ty := .int) (C := RX5) (T := TX5) (N := 18) hx hb hts inX5 tyX5 tyX5_ok nmX5 hown hK hP hD hS 0 rfl rfl 0 (by decide) (hts _ qf_X5_50) (fun _ h9 => h9) rfl (tyX5_ok 0 (by decide)) rfl rfl (Nat.le_of_ble_eq_true rfl) dX5_repair_2 (fun H locs hP _ hS => ?_)
  have hP : va_P (dC, dI) vwCl ((wX5 cI cZ l0 l4 l5 l6 l8 l10 l11 l12 l13 l14 l15 l16 ((0 : Int32), uL.2.1, uL.2.2.1, uL.2.2.2.1, uL.2.2.2.2.1, uL.2.2.2.2.2.1, uL.2.2.2.2.2.2.1, uL.2.2.2.2.2.2.2.1, uL.2.2.2.2.2.2.2.2.1, uL.2.2.2.2.2.2.2.2.2.1, uL.2.2.2.2.2.2.2.2.2.2.1, uL.2.2.2.2.2.2.2.2.2.2.2.1, uL.2.2.2.2.2.2.2.2.2.2.2.2.1, uL.2.2.2.2.2.2.2.2.2.2.2.2.2.1, uL.2.2.2.2.2.2.2.2.2.2.2.2.2.2.1, uL.2.2.2.2.2.2.2.2.2.2.2.2.2.2.2.1, uL.2.2.2.2.2.2.2.2.2.2.2.2.2.2.2.2.1, uL.2.2.2.2.2.2.2.2.2.2.2.2.2.2.2.2.2))) H := hP
  have hD : va_D A ((wX5 cI cZ l0 l4 l5 l6 l8 l10 l11 l12 l13 l14 l15 l16 ((0 : Int32), uL.2.1, uL.2.2.1, uL.2.2.2.1, uL.2.2.2.2.1, uL.2.2.2.2.2.1, uL.2.2.2.2.2.2.1, uL.2.2.2.2.2.2.2.1, uL.2.2.2.2.2.2.2.2.1, uL.2.2.2.2.2.2.2.2.2.1, uL.2.2.2.2.2.2.2.2.2.2.1, uL.2.2.2.2.2.2.2.2.2.2.2.1, uL.2.2.2.2.2.2.2.2.2.2.2.2.1, uL.2.2.2.2.2.2.2.2.2.2.2.2.2.1, uL.2.2.2.2.2.2.2.2.2.2.2.2.2.2.1, uL.2.2.2.2.2.2.2.2.2.2.2.2.2.2.2.1, uL.2.2.2.2.2.2.2.2.2.2.2.2.2.2.2.2.1, uL.2.2.2.2.2.2.2.2.2.2.2.2.2.2.2.2.2))) := D_L hD
  refine lv_aload_n hx hb dX5_repair_5 rfl (lv_at hl 0 rfl) ?_
  refine va_get (D := (dC, dI)) (ci := 5) (v := .ref l15) (C := RX5) (T := TX5) (N := 18) hx hb hts inX5 hown hK hP 0 rfl rfl 15 (by decide) (hts _ qf_X5_44) (fun _ h9 => h9) rfl dX5_repair_6 ?_
  refine lv_iconst (v := (3 : Int32)) hx hb dX5_repair_9 (by decide) ?_
  refine va_ialdK hx hb hK hP 10 0 rfl rfl (j := 3) (by decide) (vp_inK (by decide)) dX5_repair_10 ?_
  refine lv_istore_n (lv' := [(1, .int (uL.2.2.2.2.2.2.2.2.2.2.2.2.2.2.2.1 3)), (0, .ref l0)]) hx hb dX5_repair_11 rfl hl (by decide) rfl (fun ls hl => ?_)
  refine lv_aload_n hx hb dX5_repair_12 rfl (lv_at hl 1 rfl) ?_
  refine va_get (D := (dC, dI)) (ci := 5) (v := .ref l15) (C := RX5) (T := TX5) (N := 18) hx hb hts inX5 hown hK hP 0 rfl rfl 15 (by decide) (hts _ qf_X5_44) (fun _ h9 => h9) rfl dX5_repair_13 ?_
  refine lv_iconst (v := (3 : Int32)) hx hb dX5_repair_16 (by decide) ?_
  refine lv_iconst (v := (0 : Int32)) hx hb dX5_repair_17 (by decide) ?_
  refine va_iastK hx hb hK hP hD hS 10 0 rfl rfl (j := 3) (by decide) (vp_inK (by decide)) dX5_repair_18 (fun H locs hP _ hS => ?_)
  have hP : va_P (dC, dI) vwCl ((wX5 cI cZ l0 l4 l5 l6 l8 l10 l11 l12 l13 l14 l15 l16 ((0 : Int32), uL.2.1, uL.2.2.1, uL.2.2.2.1, uL.2.2.2.2.1, uL.2.2.2.2.2.1, uL.2.2.2.2.2.2.1, uL.2.2.2.2.2.2.2.1, uL.2.2.2.2.2.2.2.2.1, uL.2.2.2.2.2.2.2.2.2.1, uL.2.2.2.2.2.2.2.2.2.2.1, uL.2.2.2.2.2.2.2.2.2.2.2.1, uL.2.2.2.2.2.2.2.2.2.2.2.2.1, uL.2.2.2.2.2.2.2.2.2.2.2.2.2.1, uL.2.2.2.2.2.2.2.2.2.2.2.2.2.2.1, (upd uL.2.2.2.2.2.2.2.2.2.2.2.2.2.2.2.1 3 (0 : Int32)), uL.2.2.2.2.2.2.2.2.2.2.2.2.2.2.2.2.1, uL.2.2.2.2.2.2.2.2.2.2.2.2.2.2.2.2.2))) H := hP
  have hD : va_D A ((wX5 cI cZ l0 l4 l5 l6 l8 l10 l11 l12 l13 l14 l15 l16 ((0 : Int32), uL.2.1, uL.2.2.1, uL.2.2.2.1, uL.2.2.2.2.1, uL.2.2.2.2.2.1, uL.2.2.2.2.2.2.1, uL.2.2.2.2.2.2.2.1, uL.2.2.2.2.2.2.2.2.1, uL.2.2.2.2.2.2.2.2.2.1, uL.2.2.2.2.2.2.2.2.2.2.1, uL.2.2.2.2.2.2.2.2.2.2.2.1, uL.2.2.2.2.2.2.2.2.2.2.2.2.1, uL.2.2.2.2.2.2.2.2.2.2.2.2.2.1, uL.2.2.2.2.2.2.2.2.2.2.2.2.2.2.1, (upd uL.2.2.2.2.2.2.2.2.2.2.2.2.2.2.2.1 3 (0 : Int32)), uL.2.2.2.2.2.2.2.2.2.2.2.2.2.2.2.2.1, uL.2.2.2.2.2.2.2.2.2.2.2.2.2.2.2.2.2))) := D_L hD
  refine lv_aload_n hx hb dX5_repair_19 rfl (lv_at hl 1 rfl) ?_
  refine va_get (D := (dC, dI)) (ci := 5) (v := .ref l15) (C := RX5) (T := TX5) (N := 18) hx hb hts inX5 hown hK hP 0 rfl rfl 15 (by decide) (hts _ qf_X5_44) (fun _ h9 => h9) rfl dX5_repair_20 ?_
  refine lv_iconst (v := (4 : Int32)) hx hb dX5_repair_23 (by decide) ?_
  refine lv_iconst (v := (0 : Int32)) hx hb dX5_repair_24 (by decide) ?_
  refine va_iastK hx hb hK hP hD hS 10 0 rfl rfl (j := 4) (by decide) (vp_inK (by decide)) dX5_repair_25 (fun H locs hP _ hS => ?_)
  have hP : va_P (dC, dI) vwCl ((wX5 cI cZ l0 l4 l5 l6 l8 l10 l11 l12 l13 l14 l15 l16 ((0 : Int32), uL.2.1, uL.2.2.1, uL.2.2.2.1, uL.2.2.2.2.1, uL.2.2.2.2.2.1, uL.2.2.2.2.2.2.1, uL.2.2.2.2.2.2.2.1, uL.2.2.2.2.2.2.2.2.1, uL.2.2.2.2.2.2.2.2.2.1, uL.2.2.2.2.2.2.2.2.2.2.1, uL.2.2.2.2.2.2.2.2.2.2.2.1, uL.2.2.2.2.2.2.2.2.2.2.2.2.1, uL.2.2.2.2.2.2.2.2.2.2.2.2.2.1, uL.2.2.2.2.2.2.2.2.2.2.2.2.2.2.1, (upd (upd uL.2.2.2.2.2.2.2.2.2.2.2.2.2.2.2.1 3 (0 : Int32)) 4 (0 : Int32)), uL.2.2.2.2.2.2.2.2.2.2.2.2.2.2.2.2.1, uL.2.2.2.2.2.2.2.2.2.2.2.2.2.2.2.2.2))) H := hP
  have hD : va_D A ((wX5 cI cZ l0 l4 l5 l6 l8 l10 l11 l12 l13 l14 l15 l16 ((0 : Int32), uL.2.1, uL.2.2.1, uL.2.2.2.1, uL.2.2.2.2.1, uL.2.2.2.2.2.1, uL.2.2.2.2.2.2.1, uL.2.2.2.2.2.2.2.1, uL.2.2.2.2.2.2.2.2.1, uL.2.2.2.2.2.2.2.2.2.1, uL.2.2.2.2.2.2.2.2.2.2.1, uL.2.2.2.2.2.2.2.2.2.2.2.1, uL.2.2.2.2.2.2.2.2.2.2.2.2.1, uL.2.2.2.2.2.2.2.2.2.2.2.2.2.1, uL.2.2.2.2.2.2.2.2.2.2.2.2.2.2.1, (upd (upd uL.2.2.2.2.2.2.2.2.2.2.2.2.2.2.2.1 3 (0 : Int32)) 4 (0 : Int32)), uL.2.2.2.2.2.2.2.2.2.2.2.2.2.2.2.2.1, uL.2.2.2.2.2.2.2.2.2.2.2.2.2.2.2.2.2))) := D_L hD
  refine lv_iload_n hx hb dX5_repair_26 rfl (lv_at hl 0 rfl) ?_
  have hok := Option.some.inj hok
  subst hok
  exact eWi S hr hlk rfl hP hS (Nat.le_of_ble_eq_true rfl) (Nat.le_of_ble_eq_true rfl) dX5_repair_27
theorem hd_X5_passHours : yX5_passHours.cls = RX5 ∧ yX5_passHours.cls ≠ "java/lang/invoke/MethodHandle" ∧ yX5_passHours.cls ≠ "java/lang/invoke/VarHandle" ∧ (parseMethodDescriptor yX5_passHours.desc).map (fun d => d.parameters.length) = some 1 := by decide +kernel
def p_X5_passHours (uL : tX5) (a1 : Int32) : Option (Int32 × tX5) :=
  bd (p_X5_isIn a1 (1 : Int32) (60 : Int32)) (fun v1 =>
  if v1 = 0 then
    bd (p_X5_fail ((0 : Int32), uL.2.1, uL.2.2.1, uL.2.2.2.1, uL.2.2.2.2.1, uL.2.2.2.2.2.1, uL.2.2.2.2.2.2.1, uL.2.2.2.2.2.2.2.1, uL.2.2.2.2.2.2.2.2.1, uL.2.2.2.2.2.2.2.2.2.1, uL.2.2.2.2.2.2.2.2.2.2.1, uL.2.2.2.2.2.2.2.2.2.2.2.1, uL.2.2.2.2.2.2.2.2.2.2.2.2.1, uL.2.2.2.2.2.2.2.2.2.2.2.2.2.1, uL.2.2.2.2.2.2.2.2.2.2.2.2.2.2.1, uL.2.2.2.2.2.2.2.2.2.2.2.2.2.2.2.1, uL.2.2.2.2.2.2.2.2.2.2.2.2.2.2.2.2.1, uL.2.2.2.2.2.2.2.2.2.2.2.2.2.2.2.2.2) (1 : Int32)) (fun v3 =>
    some (v3.1, v3.2))
  else
    bd (p_X5_hoursOn ((0 : Int32), uL.2.1, uL.2.2.1, uL.2.2.2.1, uL.2.2.2.2.1, uL.2.2.2.2.2.1, uL.2.2.2.2.2.2.1, uL.2.2.2.2.2.2.2.1, uL.2.2.2.2.2.2.2.2.1, uL.2.2.2.2.2.2.2.2.2.1, uL.2.2.2.2.2.2.2.2.2.2.1, uL.2.2.2.2.2.2.2.2.2.2.2.1, uL.2.2.2.2.2.2.2.2.2.2.2.2.1, uL.2.2.2.2.2.2.2.2.2.2.2.2.2.1, uL.2.2.2.2.2.2.2.2.2.2.2.2.2.2.1, uL.2.2.2.2.2.2.2.2.2.2.2.2.2.2.2.1, uL.2.2.2.2.2.2.2.2.2.2.2.2.2.2.2.2.1, uL.2.2.2.2.2.2.2.2.2.2.2.2.2.2.2.2.2) a1) (fun v2 =>
    some (((v2.2.2.2.2.2.2.2.2.2.2.2.2.2.2.2.1 8) - (uL.2.2.2.2.2.2.2.2.2.2.2.2.2.2.2.1 8)), v2)))
set_option maxHeartbeats 4000000 in
set_option maxRecDepth 100000 in
theorem c_X5_passHours (l : Launch) (dC : Nat → ClassId) (dI : Nat → Nat → Nat) (cI cZ : ClassId) (l0 l4 l5 l6 l8 l10 l11 l12 l13 l14 l15 l16 : Nat) (sz : Nat) (uL : tX5) (a1 : Int32) {z : (Int32 × tX5)} (hok : p_X5_passHours uL a1 = some z) : Met l yX5_passHours (Cond.code yX5_passHours cX5_passHours 3 (some .int) :: lw_all) { frames := 7, cells := 0, slots := 0, locals := 151 } (prW (dC, dI) vwCl (TYS cI cZ) ((wX5 cI cZ l0 l4 l5 l6 l8 l10 l11 l12 l13 l14 l15 l16 uL)) sz [.ref l0, .int a1]) (va_Qi (fun (r : Int32) (_ : Unit) => r = z.1) (fun _ t => va_P (dC, dI) vwCl ((wX5 cI cZ l0 l4 l5 l6 l8 l10 l11 l12 l13 l14 l15 l16 z.2)) t.heap) (va_A ((wX5 cI cZ l0 l4 l5 l6 l8 l10 l11 l12 l13 l14 l15 l16 uL)) sz)) 0 0 (va_A ((wX5 cI cZ l0 l4 l5 l6 l8 l10 l11 l12 l13 l14 l15 l16 uL)) sz) := by
  refine oM (by decide) (Nat.le_of_ble_eq_true rfl) ?_
  intro p e s m args below meth c S hr hlk hnm hB ls hl
  have hx := S.1
  have hb := S.2.1
  have hml := S.2.2.1
  have hown : s.vm.findClass RX5 = some m.cls := S.2.2.2.1
  have hts := S.2.2.2.2
  have S : CallFix p m c cX5_passHours 3 s args lw_all RX5 := S
  have hl : lv_has ls 3 [(0, .ref l0), (1, .int a1)] := hl
  obtain ⟨hsz, hP, hK, hD0⟩ := hB
  subst hsz
  have hD := hD0.self (sz := s.heap.size)
  generalize hAe : va_A ((wX5 cI cZ l0 l4 l5 l6 l8 l10 l11 l12 l13 l14 l15 l16 uL)) s.heap.size = A at hD ⊢
  have hA : ∀ q : Nat, s.heap.size ≤ q → A q := fun q h => by rw [← hAe]; exact Or.inr h
  have hS : va_S A s.heap s.heap [] := va_S.rf
  have hP : va_P (dC, dI) vwCl ((wX5 cI cZ l0 l4 l5 l6 l8 l10 l11 l12 l13 l14 l15 l16 uL)) s.heap := hP
  unfold p_X5_passHours at hok
  refine lv_aload_n hx hb dX5_passHours_0 rfl (lv_at hl 0 rfl) ?_
  refine lv_iconst (v := (0 : Int32)) hx hb dX5_passHours_1 (by decide) ?_
  refine va_put (D := (dC, dI)) (ci := 5) (v := .int (0 : Int32)) (ty := .int) (C := RX5) (T := TX5) (N := 18) hx hb hts inX5 tyX5 tyX5_ok nmX5 hown hK hP hD hS 0 rfl rfl 0 (by decide) (hts _ qf_X5_50) (fun _ h9 => h9) rfl (tyX5_ok 0 (by decide)) rfl rfl (Nat.le_of_ble_eq_true rfl) dX5_passHours_2 (fun H locs hP _ hS => ?_)
  have hP : va_P (dC, dI) vwCl ((wX5 cI cZ l0 l4 l5 l6 l8 l10 l11 l12 l13 l14 l15 l16 ((0 : Int32), uL.2.1, uL.2.2.1, uL.2.2.2.1, uL.2.2.2.2.1, uL.2.2.2.2.2.1, uL.2.2.2.2.2.2.1, uL.2.2.2.2.2.2.2.1, uL.2.2.2.2.2.2.2.2.1, uL.2.2.2.2.2.2.2.2.2.1, uL.2.2.2.2.2.2.2.2.2.2.1, uL.2.2.2.2.2.2.2.2.2.2.2.1, uL.2.2.2.2.2.2.2.2.2.2.2.2.1, uL.2.2.2.2.2.2.2.2.2.2.2.2.2.1, uL.2.2.2.2.2.2.2.2.2.2.2.2.2.2.1, uL.2.2.2.2.2.2.2.2.2.2.2.2.2.2.2.1, uL.2.2.2.2.2.2.2.2.2.2.2.2.2.2.2.2.1, uL.2.2.2.2.2.2.2.2.2.2.2.2.2.2.2.2.2))) H := hP
  have hD : va_D A ((wX5 cI cZ l0 l4 l5 l6 l8 l10 l11 l12 l13 l14 l15 l16 ((0 : Int32), uL.2.1, uL.2.2.1, uL.2.2.2.1, uL.2.2.2.2.1, uL.2.2.2.2.2.1, uL.2.2.2.2.2.2.1, uL.2.2.2.2.2.2.2.1, uL.2.2.2.2.2.2.2.2.1, uL.2.2.2.2.2.2.2.2.2.1, uL.2.2.2.2.2.2.2.2.2.2.1, uL.2.2.2.2.2.2.2.2.2.2.2.1, uL.2.2.2.2.2.2.2.2.2.2.2.2.1, uL.2.2.2.2.2.2.2.2.2.2.2.2.2.1, uL.2.2.2.2.2.2.2.2.2.2.2.2.2.2.1, uL.2.2.2.2.2.2.2.2.2.2.2.2.2.2.2.1, uL.2.2.2.2.2.2.2.2.2.2.2.2.2.2.2.2.1, uL.2.2.2.2.2.2.2.2.2.2.2.2.2.2.2.2.2))) := D_L hD
  refine lv_iload_n hx hb dX5_passHours_5 rfl (lv_at hl 1 rfl) ?_
  refine lv_iconst (v := (1 : Int32)) hx hb dX5_passHours_6 (by decide) ?_
  refine lv_bipush (v := (60 : Int32)) hx hb dX5_passHours_7 (by decide) ?_
  obtain ⟨v1, hc1, hok⟩ := bd_some hok
  refine cRSi [.int a1, .int (1 : Int32), .int (60 : Int32)] S hK va_Pnil (c_X5_isIn l dC dI cI cZ a1 (1 : Int32) (60 : Int32) hc1) (lw_S qm_X5_53 qt_X5_isIn qn_X5 qc_X5_isIn) hd_X5_isIn ⟨rfl, rfl⟩ ⟨Nat.le_of_ble_eq_true rfl, Nat.le_of_ble_eq_true rfl⟩ ⟨Nat.le_of_ble_eq_true rfl, Nat.le_of_ble_eq_true rfl⟩ rfl hl.1 (Nat.le_of_ble_eq_true rfl) rfl dX5_passHours_9 ?_
  refine lv_if_ne (tgt := 21) hx hb dX5_passHours_12 (by decide) (fun hc => ?_) (fun hc => ?_)
  · have hok := iq hok hc
    refine lv_aload_n hx hb dX5_passHours_21 rfl (lv_at hl 0 rfl) ?_
    refine va_get (D := (dC, dI)) (ci := 5) (v := .ref l15) (C := RX5) (T := TX5) (N := 18) hx hb hts inX5 hown hK hP 0 rfl rfl 15 (by decide) (hts _ qf_X5_44) (fun _ h9 => h9) rfl dX5_passHours_22 ?_
    refine lv_bipush (v := (8 : Int32)) hx hb dX5_passHours_25 (by decide) ?_
    refine va_ialdK hx hb hK hP 10 0 rfl rfl (j := 8) (by decide) (vp_inK (by decide)) dX5_passHours_27 ?_
    refine lv_istore_n (lv' := [(2, .int (uL.2.2.2.2.2.2.2.2.2.2.2.2.2.2.2.1 8)), (0, .ref l0), (1, .int a1)]) hx hb dX5_passHours_28 rfl hl (by decide) rfl (fun ls hl => ?_)
    refine lv_aload_n hx hb dX5_passHours_29 rfl (lv_at hl 1 rfl) ?_
    refine lv_iload_n hx hb dX5_passHours_30 rfl (lv_at hl 2 rfl) ?_
    obtain ⟨v2, hc2, hok⟩ := bd_some hok
    refine cWVv (ci := 5) (q0 := 0) [.int a1] S hK hP hD hS hA (c_X5_hoursOn l dC dI cI cZ l0 l4 l5 l6 l8 l10 l11 l12 l13 l14 l15 l16 _ ((0 : Int32), uL.2.1, uL.2.2.1, uL.2.2.2.1, uL.2.2.2.2.1, uL.2.2.2.2.2.1, uL.2.2.2.2.2.2.1, uL.2.2.2.2.2.2.2.1, uL.2.2.2.2.2.2.2.2.1, uL.2.2.2.2.2.2.2.2.2.1, uL.2.2.2.2.2.2.2.2.2.2.1, uL.2.2.2.2.2.2.2.2.2.2.2.1, uL.2.2.2.2.2.2.2.2.2.2.2.2.1, uL.2.2.2.2.2.2.2.2.2.2.2.2.2.1, uL.2.2.2.2.2.2.2.2.2.2.2.2.2.2.1, uL.2.2.2.2.2.2.2.2.2.2.2.2.2.2.2.1, uL.2.2.2.2.2.2.2.2.2.2.2.2.2.2.2.2.1, uL.2.2.2.2.2.2.2.2.2.2.2.2.2.2.2.2.2) a1 hc2) (lw_V qm_X5_122 qi_X5_hoursOn qs_X5_hoursOn qn_X5 qc_X5_hoursOn) hd_X5_hoursOn ⟨rfl, rfl⟩ ⟨Nat.le_of_ble_eq_true rfl, Nat.le_of_ble_eq_true rfl⟩ ⟨Nat.le_of_ble_eq_true rfl, Nat.le_of_ble_eq_true rfl⟩ rfl rfl rfl hl.1 (Nat.le_of_ble_eq_true rfl) rfl dX5_passHours_31 (D_L hD) (fun H locs hP hD hS => ?_)
    refine lv_aload_n hx hb dX5_passHours_34 rfl (lv_at hl 1 rfl) ?_
    refine va_get (D := (dC, dI)) (ci := 5) (v := .ref l15) (C := RX5) (T := TX5) (N := 18) hx hb hts inX5 hown hK hP 0 rfl rfl 15 (by decide) (hts _ qf_X5_44) (fun _ h9 => h9) rfl dX5_passHours_35 ?_
    refine lv_bipush (v := (8 : Int32)) hx hb dX5_passHours_38 (by decide) ?_
    refine va_ialdK hx hb hK hP 10 0 rfl rfl (j := 8) (by decide) (vp_inK (by decide)) dX5_passHours_40 ?_
    refine lv_iload_n hx hb dX5_passHours_41 rfl (lv_at hl 0 rfl) ?_
    refine lv_isub hx hb dX5_passHours_42 ?_
    have hok := Option.some.inj hok
    subst hok
    exact eWi S hr hlk rfl hP hS (Nat.le_of_ble_eq_true rfl) (Nat.le_of_ble_eq_true rfl) dX5_passHours_43
  · have hok := ip hok hc
    refine lv_aload_n hx hb dX5_passHours_15 rfl (lv_at hl 0 rfl) ?_
    refine lv_iconst (v := (1 : Int32)) hx hb dX5_passHours_16 (by decide) ?_
    obtain ⟨v3, hc3, hok⟩ := bd_some hok
    refine cWVi (ci := 5) (q0 := 0) [.int (1 : Int32)] S hK hP hD hS hA (c_X5_fail l dC dI cI cZ l0 l4 l5 l6 l8 l10 l11 l12 l13 l14 l15 l16 _ ((0 : Int32), uL.2.1, uL.2.2.1, uL.2.2.2.1, uL.2.2.2.2.1, uL.2.2.2.2.2.1, uL.2.2.2.2.2.2.1, uL.2.2.2.2.2.2.2.1, uL.2.2.2.2.2.2.2.2.1, uL.2.2.2.2.2.2.2.2.2.1, uL.2.2.2.2.2.2.2.2.2.2.1, uL.2.2.2.2.2.2.2.2.2.2.2.1, uL.2.2.2.2.2.2.2.2.2.2.2.2.1, uL.2.2.2.2.2.2.2.2.2.2.2.2.2.1, uL.2.2.2.2.2.2.2.2.2.2.2.2.2.2.1, uL.2.2.2.2.2.2.2.2.2.2.2.2.2.2.2.1, uL.2.2.2.2.2.2.2.2.2.2.2.2.2.2.2.2.1, uL.2.2.2.2.2.2.2.2.2.2.2.2.2.2.2.2.2) (1 : Int32) hc3) (lw_V qm_X5_112 qi_X5_fail qs_X5_fail qn_X5 qc_X5_fail) hd_X5_fail ⟨rfl, rfl⟩ ⟨Nat.le_of_ble_eq_true rfl, Nat.le_of_ble_eq_true rfl⟩ ⟨Nat.le_of_ble_eq_true rfl, Nat.le_of_ble_eq_true rfl⟩ rfl rfl rfl hl.1 (Nat.le_of_ble_eq_true rfl) rfl dX5_passHours_17 (D_L hD) (fun H locs hP hD hS => ?_)
    have hok := Option.some.inj hok
    subst hok
    exact eWi S hr hlk rfl hP hS (Nat.le_of_ble_eq_true rfl) (Nat.le_of_ble_eq_true rfl) dX5_passHours_20
theorem hd_X5_floors : yX5_floors.cls = RX5 ∧ yX5_floors.cls ≠ "java/lang/invoke/MethodHandle" ∧ yX5_floors.cls ≠ "java/lang/invoke/VarHandle" ∧ (parseMethodDescriptor yX5_floors.desc).map (fun d => d.parameters.length) = some 0 := by decide +kernel
def p_X5_floors (uL : tX5) : Option (Int32 × tX5) :=
  bd (p_X5_told uL uL.2.1) (fun v1 =>
  some (v1.1, v1.2))
set_option maxHeartbeats 4000000 in
set_option maxRecDepth 100000 in
theorem c_X5_floors (l : Launch) (dC : Nat → ClassId) (dI : Nat → Nat → Nat) (cI cZ : ClassId) (l0 l4 l5 l6 l8 l10 l11 l12 l13 l14 l15 l16 : Nat) (sz : Nat) (uL : tX5) {z : (Int32 × tX5)} (hok : p_X5_floors uL = some z) : Met l yX5_floors (Cond.code yX5_floors cX5_floors 1 (some .int) :: lw_all) { frames := 1, cells := 0, slots := 0, locals := 21 } (prW (dC, dI) vwCl (TYS cI cZ) ((wX5 cI cZ l0 l4 l5 l6 l8 l10 l11 l12 l13 l14 l15 l16 uL)) sz [.ref l0]) (va_Qi (fun (r : Int32) (_ : Unit) => r = z.1) (fun _ t => va_P (dC, dI) vwCl ((wX5 cI cZ l0 l4 l5 l6 l8 l10 l11 l12 l13 l14 l15 l16 z.2)) t.heap) (va_A ((wX5 cI cZ l0 l4 l5 l6 l8 l10 l11 l12 l13 l14 l15 l16 uL)) sz)) 0 0 (va_A ((wX5 cI cZ l0 l4 l5 l6 l8 l10 l11 l12 l13 l14 l15 l16 uL)) sz) := by
  refine oM (by decide) (Nat.le_of_ble_eq_true rfl) ?_
  intro p e s m args below meth c S hr hlk hnm hB ls hl
  have hx := S.1
  have hb := S.2.1
  have hml := S.2.2.1
  have hown : s.vm.findClass RX5 = some m.cls := S.2.2.2.1
  have hts := S.2.2.2.2
  have S : CallFix p m c cX5_floors 1 s args lw_all RX5 := S
  have hl : lv_has ls 1 [(0, .ref l0)] := hl
  obtain ⟨hsz, hP, hK, hD0⟩ := hB
  subst hsz
  have hD := hD0.self (sz := s.heap.size)
  generalize hAe : va_A ((wX5 cI cZ l0 l4 l5 l6 l8 l10 l11 l12 l13 l14 l15 l16 uL)) s.heap.size = A at hD ⊢
  have hA : ∀ q : Nat, s.heap.size ≤ q → A q := fun q h => by rw [← hAe]; exact Or.inr h
  have hS : va_S A s.heap s.heap [] := va_S.rf
  have hP : va_P (dC, dI) vwCl ((wX5 cI cZ l0 l4 l5 l6 l8 l10 l11 l12 l13 l14 l15 l16 uL)) s.heap := hP
  unfold p_X5_floors at hok
  refine lv_aload_n hx hb dX5_floors_0 rfl (lv_at hl 0 rfl) ?_
  refine lv_aload_n hx hb dX5_floors_1 rfl (lv_at hl 0 rfl) ?_
  refine va_get (D := (dC, dI)) (ci := 5) (v := .int uL.2.1) (C := RX5) (T := TX5) (N := 18) hx hb hts inX5 hown hK hP 0 rfl rfl 1 (by decide) (hts _ qf_X5_7) (fun _ h9 => h9) rfl dX5_floors_2 ?_
  obtain ⟨v1, hc1, hok⟩ := bd_some hok
  refine cWVi (ci := 5) (q0 := 0) [.int uL.2.1] S hK hP hD hS hA (c_X5_told l dC dI cI cZ l0 l4 l5 l6 l8 l10 l11 l12 l13 l14 l15 l16 _ uL uL.2.1 hc1) (lw_V qm_X5_125 qi_X5_told qs_X5_told qn_X5 qc_X5_told) hd_X5_told ⟨rfl, rfl⟩ ⟨Nat.le_of_ble_eq_true rfl, Nat.le_of_ble_eq_true rfl⟩ ⟨Nat.le_of_ble_eq_true rfl, Nat.le_of_ble_eq_true rfl⟩ rfl rfl rfl hl.1 (Nat.le_of_ble_eq_true rfl) rfl dX5_floors_5 (D_L hD) (fun H locs hP hD hS => ?_)
  have hok := Option.some.inj hok
  subst hok
  exact eWi S hr hlk rfl hP hS (Nat.le_of_ble_eq_true rfl) (Nat.le_of_ble_eq_true rfl) dX5_floors_8
theorem hd_X5_hours : yX5_hours.cls = RX5 ∧ yX5_hours.cls ≠ "java/lang/invoke/MethodHandle" ∧ yX5_hours.cls ≠ "java/lang/invoke/VarHandle" ∧ (parseMethodDescriptor yX5_hours.desc).map (fun d => d.parameters.length) = some 0 := by decide +kernel
def p_X5_hours (uL : tX5) : Option (Int32 × tX5) :=
  bd (p_X5_told uL (uL.2.2.2.2.2.2.2.2.2.2.2.2.2.2.2.1 0)) (fun v1 =>
  some (v1.1, v1.2))
set_option maxHeartbeats 4000000 in
set_option maxRecDepth 100000 in
theorem c_X5_hours (l : Launch) (dC : Nat → ClassId) (dI : Nat → Nat → Nat) (cI cZ : ClassId) (l0 l4 l5 l6 l8 l10 l11 l12 l13 l14 l15 l16 : Nat) (sz : Nat) (uL : tX5) {z : (Int32 × tX5)} (hok : p_X5_hours uL = some z) : Met l yX5_hours (Cond.code yX5_hours cX5_hours 1 (some .int) :: lw_all) { frames := 1, cells := 0, slots := 0, locals := 21 } (prW (dC, dI) vwCl (TYS cI cZ) ((wX5 cI cZ l0 l4 l5 l6 l8 l10 l11 l12 l13 l14 l15 l16 uL)) sz [.ref l0]) (va_Qi (fun (r : Int32) (_ : Unit) => r = z.1) (fun _ t => va_P (dC, dI) vwCl ((wX5 cI cZ l0 l4 l5 l6 l8 l10 l11 l12 l13 l14 l15 l16 z.2)) t.heap) (va_A ((wX5 cI cZ l0 l4 l5 l6 l8 l10 l11 l12 l13 l14 l15 l16 uL)) sz)) 0 0 (va_A ((wX5 cI cZ l0 l4 l5 l6 l8 l10 l11 l12 l13 l14 l15 l16 uL)) sz) := by
  refine oM (by decide) (Nat.le_of_ble_eq_true rfl) ?_
  intro p e s m args below meth c S hr hlk hnm hB ls hl
  have hx := S.1
  have hb := S.2.1
  have hml := S.2.2.1
  have hown : s.vm.findClass RX5 = some m.cls := S.2.2.2.1
  have hts := S.2.2.2.2
  have S : CallFix p m c cX5_hours 1 s args lw_all RX5 := S
  have hl : lv_has ls 1 [(0, .ref l0)] := hl
  obtain ⟨hsz, hP, hK, hD0⟩ := hB
  subst hsz
  have hD := hD0.self (sz := s.heap.size)
  generalize hAe : va_A ((wX5 cI cZ l0 l4 l5 l6 l8 l10 l11 l12 l13 l14 l15 l16 uL)) s.heap.size = A at hD ⊢
  have hA : ∀ q : Nat, s.heap.size ≤ q → A q := fun q h => by rw [← hAe]; exact Or.inr h
  have hS : va_S A s.heap s.heap [] := va_S.rf
  have hP : va_P (dC, dI) vwCl ((wX5 cI cZ l0 l4 l5 l6 l8 l10 l11 l12 l13 l14 l15 l16 uL)) s.heap := hP
  unfold p_X5_hours at hok
  refine lv_aload_n hx hb dX5_hours_0 rfl (lv_at hl 0 rfl) ?_
  refine lv_aload_n hx hb dX5_hours_1 rfl (lv_at hl 0 rfl) ?_
  refine va_get (D := (dC, dI)) (ci := 5) (v := .ref l15) (C := RX5) (T := TX5) (N := 18) hx hb hts inX5 hown hK hP 0 rfl rfl 15 (by decide) (hts _ qf_X5_44) (fun _ h9 => h9) rfl dX5_hours_2 ?_
  refine lv_iconst (v := (0 : Int32)) hx hb dX5_hours_5 (by decide) ?_
  refine va_ialdK hx hb hK hP 10 0 rfl rfl (j := 0) (by decide) (vp_inK (by decide)) dX5_hours_6 ?_
  obtain ⟨v1, hc1, hok⟩ := bd_some hok
  refine cWVi (ci := 5) (q0 := 0) [.int (uL.2.2.2.2.2.2.2.2.2.2.2.2.2.2.2.1 0)] S hK hP hD hS hA (c_X5_told l dC dI cI cZ l0 l4 l5 l6 l8 l10 l11 l12 l13 l14 l15 l16 _ uL (uL.2.2.2.2.2.2.2.2.2.2.2.2.2.2.2.1 0) hc1) (lw_V qm_X5_125 qi_X5_told qs_X5_told qn_X5 qc_X5_told) hd_X5_told ⟨rfl, rfl⟩ ⟨Nat.le_of_ble_eq_true rfl, Nat.le_of_ble_eq_true rfl⟩ ⟨Nat.le_of_ble_eq_true rfl, Nat.le_of_ble_eq_true rfl⟩ rfl rfl rfl hl.1 (Nat.le_of_ble_eq_true rfl) rfl dX5_hours_7 (D_L hD) (fun H locs hP hD hS => ?_)
  have hok := Option.some.inj hok
  subst hok
  exact eWi S hr hlk rfl hP hS (Nat.le_of_ble_eq_true rfl) (Nat.le_of_ble_eq_true rfl) dX5_hours_10
theorem hd_X5_liftAt : yX5_liftAt.cls = RX5 ∧ yX5_liftAt.cls ≠ "java/lang/invoke/MethodHandle" ∧ yX5_liftAt.cls ≠ "java/lang/invoke/VarHandle" ∧ (parseMethodDescriptor yX5_liftAt.desc).map (fun d => d.parameters.length) = some 0 := by decide +kernel
def p_X5_liftAt (uL : tX5) : Option (Int32 × tX5) :=
  bd (p_X5_told uL (uL.2.2.2.2.2.2.2.2.2.2.2.2.2.2.2.1 1)) (fun v1 =>
  some (v1.1, v1.2))
set_option maxHeartbeats 4000000 in
set_option maxRecDepth 100000 in
theorem c_X5_liftAt (l : Launch) (dC : Nat → ClassId) (dI : Nat → Nat → Nat) (cI cZ : ClassId) (l0 l4 l5 l6 l8 l10 l11 l12 l13 l14 l15 l16 : Nat) (sz : Nat) (uL : tX5) {z : (Int32 × tX5)} (hok : p_X5_liftAt uL = some z) : Met l yX5_liftAt (Cond.code yX5_liftAt cX5_liftAt 1 (some .int) :: lw_all) { frames := 1, cells := 0, slots := 0, locals := 21 } (prW (dC, dI) vwCl (TYS cI cZ) ((wX5 cI cZ l0 l4 l5 l6 l8 l10 l11 l12 l13 l14 l15 l16 uL)) sz [.ref l0]) (va_Qi (fun (r : Int32) (_ : Unit) => r = z.1) (fun _ t => va_P (dC, dI) vwCl ((wX5 cI cZ l0 l4 l5 l6 l8 l10 l11 l12 l13 l14 l15 l16 z.2)) t.heap) (va_A ((wX5 cI cZ l0 l4 l5 l6 l8 l10 l11 l12 l13 l14 l15 l16 uL)) sz)) 0 0 (va_A ((wX5 cI cZ l0 l4 l5 l6 l8 l10 l11 l12 l13 l14 l15 l16 uL)) sz) := by
  refine oM (by decide) (Nat.le_of_ble_eq_true rfl) ?_
  intro p e s m args below meth c S hr hlk hnm hB ls hl
  have hx := S.1
  have hb := S.2.1
  have hml := S.2.2.1
  have hown : s.vm.findClass RX5 = some m.cls := S.2.2.2.1
  have hts := S.2.2.2.2
  have S : CallFix p m c cX5_liftAt 1 s args lw_all RX5 := S
  have hl : lv_has ls 1 [(0, .ref l0)] := hl
  obtain ⟨hsz, hP, hK, hD0⟩ := hB
  subst hsz
  have hD := hD0.self (sz := s.heap.size)
  generalize hAe : va_A ((wX5 cI cZ l0 l4 l5 l6 l8 l10 l11 l12 l13 l14 l15 l16 uL)) s.heap.size = A at hD ⊢
  have hA : ∀ q : Nat, s.heap.size ≤ q → A q := fun q h => by rw [← hAe]; exact Or.inr h
  have hS : va_S A s.heap s.heap [] := va_S.rf
  have hP : va_P (dC, dI) vwCl ((wX5 cI cZ l0 l4 l5 l6 l8 l10 l11 l12 l13 l14 l15 l16 uL)) s.heap := hP
  unfold p_X5_liftAt at hok
  refine lv_aload_n hx hb dX5_liftAt_0 rfl (lv_at hl 0 rfl) ?_
  refine lv_aload_n hx hb dX5_liftAt_1 rfl (lv_at hl 0 rfl) ?_
  refine va_get (D := (dC, dI)) (ci := 5) (v := .ref l15) (C := RX5) (T := TX5) (N := 18) hx hb hts inX5 hown hK hP 0 rfl rfl 15 (by decide) (hts _ qf_X5_44) (fun _ h9 => h9) rfl dX5_liftAt_2 ?_
  refine lv_iconst (v := (1 : Int32)) hx hb dX5_liftAt_5 (by decide) ?_
  refine va_ialdK hx hb hK hP 10 0 rfl rfl (j := 1) (by decide) (vp_inK (by decide)) dX5_liftAt_6 ?_
  obtain ⟨v1, hc1, hok⟩ := bd_some hok
  refine cWVi (ci := 5) (q0 := 0) [.int (uL.2.2.2.2.2.2.2.2.2.2.2.2.2.2.2.1 1)] S hK hP hD hS hA (c_X5_told l dC dI cI cZ l0 l4 l5 l6 l8 l10 l11 l12 l13 l14 l15 l16 _ uL (uL.2.2.2.2.2.2.2.2.2.2.2.2.2.2.2.1 1) hc1) (lw_V qm_X5_125 qi_X5_told qs_X5_told qn_X5 qc_X5_told) hd_X5_told ⟨rfl, rfl⟩ ⟨Nat.le_of_ble_eq_true rfl, Nat.le_of_ble_eq_true rfl⟩ ⟨Nat.le_of_ble_eq_true rfl, Nat.le_of_ble_eq_true rfl⟩ rfl rfl rfl hl.1 (Nat.le_of_ble_eq_true rfl) rfl dX5_liftAt_7 (D_L hD) (fun H locs hP hD hS => ?_)
  have hok := Option.some.inj hok
  subst hok
  exact eWi S hr hlk rfl hP hS (Nat.le_of_ble_eq_true rfl) (Nat.le_of_ble_eq_true rfl) dX5_liftAt_10
theorem hd_X5_goes : yX5_goes.cls = RX5 ∧ yX5_goes.cls ≠ "java/lang/invoke/MethodHandle" ∧ yX5_goes.cls ≠ "java/lang/invoke/VarHandle" ∧ (parseMethodDescriptor yX5_goes.desc).map (fun d => d.parameters.length) = some 0 := by decide +kernel
def p_X5_goes (uL : tX5) : Option (Int32 × tX5) :=
  bd (p_X5_told uL (uL.2.2.2.2.2.2.2.2.2.2.2.2.2.2.2.1 2)) (fun v1 =>
  some (v1.1, v1.2))
set_option maxHeartbeats 4000000 in
set_option maxRecDepth 100000 in
theorem c_X5_goes (l : Launch) (dC : Nat → ClassId) (dI : Nat → Nat → Nat) (cI cZ : ClassId) (l0 l4 l5 l6 l8 l10 l11 l12 l13 l14 l15 l16 : Nat) (sz : Nat) (uL : tX5) {z : (Int32 × tX5)} (hok : p_X5_goes uL = some z) : Met l yX5_goes (Cond.code yX5_goes cX5_goes 1 (some .int) :: lw_all) { frames := 1, cells := 0, slots := 0, locals := 21 } (prW (dC, dI) vwCl (TYS cI cZ) ((wX5 cI cZ l0 l4 l5 l6 l8 l10 l11 l12 l13 l14 l15 l16 uL)) sz [.ref l0]) (va_Qi (fun (r : Int32) (_ : Unit) => r = z.1) (fun _ t => va_P (dC, dI) vwCl ((wX5 cI cZ l0 l4 l5 l6 l8 l10 l11 l12 l13 l14 l15 l16 z.2)) t.heap) (va_A ((wX5 cI cZ l0 l4 l5 l6 l8 l10 l11 l12 l13 l14 l15 l16 uL)) sz)) 0 0 (va_A ((wX5 cI cZ l0 l4 l5 l6 l8 l10 l11 l12 l13 l14 l15 l16 uL)) sz) := by
  refine oM (by decide) (Nat.le_of_ble_eq_true rfl) ?_
  intro p e s m args below meth c S hr hlk hnm hB ls hl
  have hx := S.1
  have hb := S.2.1
  have hml := S.2.2.1
  have hown : s.vm.findClass RX5 = some m.cls := S.2.2.2.1
  have hts := S.2.2.2.2
  have S : CallFix p m c cX5_goes 1 s args lw_all RX5 := S
  have hl : lv_has ls 1 [(0, .ref l0)] := hl
  obtain ⟨hsz, hP, hK, hD0⟩ := hB
  subst hsz
  have hD := hD0.self (sz := s.heap.size)
  generalize hAe : va_A ((wX5 cI cZ l0 l4 l5 l6 l8 l10 l11 l12 l13 l14 l15 l16 uL)) s.heap.size = A at hD ⊢
  have hA : ∀ q : Nat, s.heap.size ≤ q → A q := fun q h => by rw [← hAe]; exact Or.inr h
  have hS : va_S A s.heap s.heap [] := va_S.rf
  have hP : va_P (dC, dI) vwCl ((wX5 cI cZ l0 l4 l5 l6 l8 l10 l11 l12 l13 l14 l15 l16 uL)) s.heap := hP
  unfold p_X5_goes at hok
  refine lv_aload_n hx hb dX5_goes_0 rfl (lv_at hl 0 rfl) ?_
  refine lv_aload_n hx hb dX5_goes_1 rfl (lv_at hl 0 rfl) ?_
  refine va_get (D := (dC, dI)) (ci := 5) (v := .ref l15) (C := RX5) (T := TX5) (N := 18) hx hb hts inX5 hown hK hP 0 rfl rfl 15 (by decide) (hts _ qf_X5_44) (fun _ h9 => h9) rfl dX5_goes_2 ?_
  refine lv_iconst (v := (2 : Int32)) hx hb dX5_goes_5 (by decide) ?_
  refine va_ialdK hx hb hK hP 10 0 rfl rfl (j := 2) (by decide) (vp_inK (by decide)) dX5_goes_6 ?_
  obtain ⟨v1, hc1, hok⟩ := bd_some hok
  refine cWVi (ci := 5) (q0 := 0) [.int (uL.2.2.2.2.2.2.2.2.2.2.2.2.2.2.2.1 2)] S hK hP hD hS hA (c_X5_told l dC dI cI cZ l0 l4 l5 l6 l8 l10 l11 l12 l13 l14 l15 l16 _ uL (uL.2.2.2.2.2.2.2.2.2.2.2.2.2.2.2.1 2) hc1) (lw_V qm_X5_125 qi_X5_told qs_X5_told qn_X5 qc_X5_told) hd_X5_told ⟨rfl, rfl⟩ ⟨Nat.le_of_ble_eq_true rfl, Nat.le_of_ble_eq_true rfl⟩ ⟨Nat.le_of_ble_eq_true rfl, Nat.le_of_ble_eq_true rfl⟩ rfl rfl rfl hl.1 (Nat.le_of_ble_eq_true rfl) rfl dX5_goes_7 (D_L hD) (fun H locs hP hD hS => ?_)
  have hok := Option.some.inj hok
  subst hok
  exact eWi S hr hlk rfl hP hS (Nat.le_of_ble_eq_true rfl) (Nat.le_of_ble_eq_true rfl) dX5_goes_10
theorem hd_X5_isCalled : yX5_isCalled.cls = RX5 ∧ yX5_isCalled.cls ≠ "java/lang/invoke/MethodHandle" ∧ yX5_isCalled.cls ≠ "java/lang/invoke/VarHandle" ∧ (parseMethodDescriptor yX5_isCalled.desc).map (fun d => d.parameters.length) = some 1 := by decide +kernel
def p_X5_isCalled_J14 (uL : tX5) (l14_1 : Int32) (s14_0 : Int32) : Option (Int32 × tX5) :=
  if s14_0 = 0 then
    bd (p_X5_has (uL.2.2.2.2.2.2.2.2.2.2.2.2.2.2.2.1 6) l14_1) (fun v2 =>
    if v2 = 0 then
      some ((0 : Int32), (s14_0, uL.2.1, uL.2.2.1, uL.2.2.2.1, uL.2.2.2.2.1, uL.2.2.2.2.2.1, uL.2.2.2.2.2.2.1, uL.2.2.2.2.2.2.2.1, uL.2.2.2.2.2.2.2.2.1, uL.2.2.2.2.2.2.2.2.2.1, uL.2.2.2.2.2.2.2.2.2.2.1, uL.2.2.2.2.2.2.2.2.2.2.2.1, uL.2.2.2.2.2.2.2.2.2.2.2.2.1, uL.2.2.2.2.2.2.2.2.2.2.2.2.2.1, uL.2.2.2.2.2.2.2.2.2.2.2.2.2.2.1, uL.2.2.2.2.2.2.2.2.2.2.2.2.2.2.2.1, uL.2.2.2.2.2.2.2.2.2.2.2.2.2.2.2.2.1, uL.2.2.2.2.2.2.2.2.2.2.2.2.2.2.2.2.2))
    else
      some ((1 : Int32), (s14_0, uL.2.1, uL.2.2.1, uL.2.2.2.1, uL.2.2.2.2.1, uL.2.2.2.2.2.1, uL.2.2.2.2.2.2.1, uL.2.2.2.2.2.2.2.1, uL.2.2.2.2.2.2.2.2.1, uL.2.2.2.2.2.2.2.2.2.1, uL.2.2.2.2.2.2.2.2.2.2.1, uL.2.2.2.2.2.2.2.2.2.2.2.1, uL.2.2.2.2.2.2.2.2.2.2.2.2.1, uL.2.2.2.2.2.2.2.2.2.2.2.2.2.1, uL.2.2.2.2.2.2.2.2.2.2.2.2.2.2.1, uL.2.2.2.2.2.2.2.2.2.2.2.2.2.2.2.1, uL.2.2.2.2.2.2.2.2.2.2.2.2.2.2.2.2.1, uL.2.2.2.2.2.2.2.2.2.2.2.2.2.2.2.2.2)))
  else
    some ((0 : Int32), (s14_0, uL.2.1, uL.2.2.1, uL.2.2.2.1, uL.2.2.2.2.1, uL.2.2.2.2.2.1, uL.2.2.2.2.2.2.1, uL.2.2.2.2.2.2.2.1, uL.2.2.2.2.2.2.2.2.1, uL.2.2.2.2.2.2.2.2.2.1, uL.2.2.2.2.2.2.2.2.2.2.1, uL.2.2.2.2.2.2.2.2.2.2.2.1, uL.2.2.2.2.2.2.2.2.2.2.2.2.1, uL.2.2.2.2.2.2.2.2.2.2.2.2.2.1, uL.2.2.2.2.2.2.2.2.2.2.2.2.2.2.1, uL.2.2.2.2.2.2.2.2.2.2.2.2.2.2.2.1, uL.2.2.2.2.2.2.2.2.2.2.2.2.2.2.2.2.1, uL.2.2.2.2.2.2.2.2.2.2.2.2.2.2.2.2.2))
def p_X5_isCalled (uL : tX5) (a1 : Int32) : Option (Int32 × tX5) :=
  bd (p_X5_isFloor uL a1) (fun v1 =>
  if v1 = 0 then
    p_X5_isCalled_J14 uL a1 (1 : Int32)
  else
    p_X5_isCalled_J14 uL a1 (0 : Int32))
set_option maxHeartbeats 4000000 in
set_option maxRecDepth 100000 in
theorem c_X5_isCalled (l : Launch) (dC : Nat → ClassId) (dI : Nat → Nat → Nat) (cI cZ : ClassId) (l0 l4 l5 l6 l8 l10 l11 l12 l13 l14 l15 l16 : Nat) (sz : Nat) (uL : tX5) (a1 : Int32) {z : (Int32 × tX5)} (hok : p_X5_isCalled uL a1 = some z) : Met l yX5_isCalled (Cond.code yX5_isCalled cX5_isCalled 2 (some .boolean) :: lw_all) { frames := 2, cells := 0, slots := 0, locals := 43 } (prW (dC, dI) vwCl (TYS cI cZ) ((wX5 cI cZ l0 l4 l5 l6 l8 l10 l11 l12 l13 l14 l15 l16 uL)) sz [.ref l0, .int a1]) (va_Qi (fun (r : Int32) (_ : Unit) => r = z.1) (fun _ t => va_P (dC, dI) vwCl ((wX5 cI cZ l0 l4 l5 l6 l8 l10 l11 l12 l13 l14 l15 l16 z.2)) t.heap) (va_A ((wX5 cI cZ l0 l4 l5 l6 l8 l10 l11 l12 l13 l14 l15 l16 uL)) sz)) 0 0 (va_A ((wX5 cI cZ l0 l4 l5 l6 l8 l10 l11 l12 l13 l14 l15 l16 uL)) sz) := by
  refine oM (by decide) (Nat.le_of_ble_eq_true rfl) ?_
  intro p e s m args below meth c S hr hlk hnm hB ls hl
  have hx := S.1
  have hb := S.2.1
  have hml := S.2.2.1
  have hown : s.vm.findClass RX5 = some m.cls := S.2.2.2.1
  have hts := S.2.2.2.2
  have S : CallFix p m c cX5_isCalled 2 s args lw_all RX5 := S
  have hl : lv_has ls 2 [(0, .ref l0), (1, .int a1)] := hl
  obtain ⟨hsz, hP, hK, hD0⟩ := hB
  subst hsz
  have hD := hD0.self (sz := s.heap.size)
  generalize hAe : va_A ((wX5 cI cZ l0 l4 l5 l6 l8 l10 l11 l12 l13 l14 l15 l16 uL)) s.heap.size = A at hD ⊢
  have hA : ∀ q : Nat, s.heap.size ≤ q → A q := fun q h => by rw [← hAe]; exact Or.inr h
  have hS : va_S A s.heap s.heap [] := va_S.rf
  have hP : va_P (dC, dI) vwCl ((wX5 cI cZ l0 l4 l5 l6 l8 l10 l11 l12 l13 l14 l15 l16 uL)) s.heap := hP
  have J14 : ∀ (uL : tX5) (l14_1 : Int32) (s14_0 : Int32) (H : Heap) (locs : List Loc) (hP : va_P (dC, dI) vwCl ((wX5 cI cZ l0 l4 l5 l6 l8 l10 l11 l12 l13 l14 l15 l16 uL)) H) (hD : va_D A ((wX5 cI cZ l0 l4 l5 l6 l8 l10 l11 l12 l13 l14 l15 l16 uL))) (hS : va_S A s.heap H locs) (ls : Array Slot) (hl : lv_has ls 2 [(0, .ref l0), (1, .int l14_1)]) (hok : p_X5_isCalled_J14 uL l14_1 s14_0 = some z), W p l e { frames := 2, cells := 0, slots := 0, locals := 43 } s m args below meth c H locs 0 0 (MQ below (va_Qi (fun (r : Int32) (_ : Unit) => r = z.1) (fun _ t => va_P (dC, dI) vwCl ((wX5 cI cZ l0 l4 l5 l6 l8 l10 l11 l12 l13 l14 l15 l16 z.2)) t.heap) A) args s 0 0 A) (F0 m 14 ls [.int s14_0, .ref l0]) := by
    intro uL l14_1 s14_0 H locs hP hD hS ls hl hok
    unfold p_X5_isCalled_J14 at hok
    refine va_put (D := (dC, dI)) (ci := 5) (v := .int s14_0) (ty := .int) (C := RX5) (T := TX5) (N := 18) hx hb hts inX5 tyX5 tyX5_ok nmX5 hown hK hP hD hS 0 rfl rfl 0 (by decide) (hts _ qf_X5_50) (fun _ h9 => h9) rfl (tyX5_ok 0 (by decide)) rfl rfl (Nat.le_of_ble_eq_true rfl) dX5_isCalled_14 (fun H locs hP _ hS => ?_)
    have hP : va_P (dC, dI) vwCl ((wX5 cI cZ l0 l4 l5 l6 l8 l10 l11 l12 l13 l14 l15 l16 (s14_0, uL.2.1, uL.2.2.1, uL.2.2.2.1, uL.2.2.2.2.1, uL.2.2.2.2.2.1, uL.2.2.2.2.2.2.1, uL.2.2.2.2.2.2.2.1, uL.2.2.2.2.2.2.2.2.1, uL.2.2.2.2.2.2.2.2.2.1, uL.2.2.2.2.2.2.2.2.2.2.1, uL.2.2.2.2.2.2.2.2.2.2.2.1, uL.2.2.2.2.2.2.2.2.2.2.2.2.1, uL.2.2.2.2.2.2.2.2.2.2.2.2.2.1, uL.2.2.2.2.2.2.2.2.2.2.2.2.2.2.1, uL.2.2.2.2.2.2.2.2.2.2.2.2.2.2.2.1, uL.2.2.2.2.2.2.2.2.2.2.2.2.2.2.2.2.1, uL.2.2.2.2.2.2.2.2.2.2.2.2.2.2.2.2.2))) H := hP
    have hD : va_D A ((wX5 cI cZ l0 l4 l5 l6 l8 l10 l11 l12 l13 l14 l15 l16 (s14_0, uL.2.1, uL.2.2.1, uL.2.2.2.1, uL.2.2.2.2.1, uL.2.2.2.2.2.1, uL.2.2.2.2.2.2.1, uL.2.2.2.2.2.2.2.1, uL.2.2.2.2.2.2.2.2.1, uL.2.2.2.2.2.2.2.2.2.1, uL.2.2.2.2.2.2.2.2.2.2.1, uL.2.2.2.2.2.2.2.2.2.2.2.1, uL.2.2.2.2.2.2.2.2.2.2.2.2.1, uL.2.2.2.2.2.2.2.2.2.2.2.2.2.1, uL.2.2.2.2.2.2.2.2.2.2.2.2.2.2.1, uL.2.2.2.2.2.2.2.2.2.2.2.2.2.2.2.1, uL.2.2.2.2.2.2.2.2.2.2.2.2.2.2.2.2.1, uL.2.2.2.2.2.2.2.2.2.2.2.2.2.2.2.2.2))) := D_L hD
    refine lv_aload_n hx hb dX5_isCalled_17 rfl (lv_at hl 0 rfl) ?_
    refine va_get (D := (dC, dI)) (ci := 5) (v := .int s14_0) (C := RX5) (T := TX5) (N := 18) hx hb hts inX5 hown hK hP 0 rfl rfl 0 (by decide) (hts _ qf_X5_50) (fun _ h9 => h9) rfl dX5_isCalled_18 ?_
    refine lv_if_ne (tgt := 42) hx hb dX5_isCalled_21 (by decide) (fun hc => ?_) (fun hc => ?_)
    · have hok := iq hok hc
      refine lv_iconst (v := (0 : Int32)) hx hb dX5_isCalled_42 (by decide) ?_
      have hok := Option.some.inj hok
      subst hok
      exact eWz S hr hlk (by decide) rfl hP hS (Nat.le_of_ble_eq_true rfl) (Nat.le_of_ble_eq_true rfl) dX5_isCalled_43
    · have hok := ip hok hc
      refine lv_aload_n hx hb dX5_isCalled_24 rfl (lv_at hl 0 rfl) ?_
      refine va_get (D := (dC, dI)) (ci := 5) (v := .ref l15) (C := RX5) (T := TX5) (N := 18) hx hb hts inX5 hown hK hP 0 rfl rfl 15 (by decide) (hts _ qf_X5_44) (fun _ h9 => h9) rfl dX5_isCalled_25 ?_
      refine lv_bipush (v := (6 : Int32)) hx hb dX5_isCalled_28 (by decide) ?_
      refine va_ialdK hx hb hK hP 10 0 rfl rfl (j := 6) (by decide) (vp_inK (by decide)) dX5_isCalled_30 ?_
      refine lv_iload_n hx hb dX5_isCalled_31 rfl (lv_at hl 1 rfl) ?_
      obtain ⟨v2, hc2, hok⟩ := bd_some hok
      refine cRSi [.int (uL.2.2.2.2.2.2.2.2.2.2.2.2.2.2.2.1 6), .int l14_1] S hK va_Pnil (c_X5_has l dC dI cI cZ (uL.2.2.2.2.2.2.2.2.2.2.2.2.2.2.2.1 6) l14_1 hc2) (lw_S qm_X5_69 qt_X5_has qn_X5 qc_X5_has) hd_X5_has ⟨rfl, rfl⟩ ⟨Nat.le_of_ble_eq_true rfl, Nat.le_of_ble_eq_true rfl⟩ ⟨Nat.le_of_ble_eq_true rfl, Nat.le_of_ble_eq_true rfl⟩ rfl hl.1 (Nat.le_of_ble_eq_true rfl) rfl dX5_isCalled_32 ?_
      refine lv_if_eq (tgt := 42) hx hb dX5_isCalled_35 (by decide) (fun hc => ?_) (fun hc => ?_)
      · have hok := ip hok hc
        refine lv_iconst (v := (0 : Int32)) hx hb dX5_isCalled_42 (by decide) ?_
        have hok := Option.some.inj hok
        subst hok
        exact eWz S hr hlk (by decide) rfl hP hS (Nat.le_of_ble_eq_true rfl) (Nat.le_of_ble_eq_true rfl) dX5_isCalled_43
      · have hok := iq hok hc
        refine lv_iconst (v := (1 : Int32)) hx hb dX5_isCalled_38 (by decide) ?_
        refine lv_goto (tgt := 43) hx hb dX5_isCalled_39 (by decide) ?_
        have hok := Option.some.inj hok
        subst hok
        exact eWz S hr hlk (by decide) rfl hP hS (Nat.le_of_ble_eq_true rfl) (Nat.le_of_ble_eq_true rfl) dX5_isCalled_43
  unfold p_X5_isCalled at hok
  refine lv_aload_n hx hb dX5_isCalled_0 rfl (lv_at hl 0 rfl) ?_
  refine lv_aload_n hx hb dX5_isCalled_1 rfl (lv_at hl 0 rfl) ?_
  refine lv_iload_n hx hb dX5_isCalled_2 rfl (lv_at hl 1 rfl) ?_
  obtain ⟨v1, hc1, hok⟩ := bd_some hok
  refine cRVi (ci := 5) (q0 := 0) [.int a1] S hK hP (c_X5_isFloor l dC dI cI cZ l0 l4 l5 l6 l8 l10 l11 l12 l13 l14 l15 l16 uL a1 hc1) (lw_V qm_X5_93 qi_X5_isFloor qs_X5_isFloor qn_X5 qc_X5_isFloor) hd_X5_isFloor ⟨rfl, rfl⟩ ⟨Nat.le_of_ble_eq_true rfl, Nat.le_of_ble_eq_true rfl⟩ ⟨Nat.le_of_ble_eq_true rfl, Nat.le_of_ble_eq_true rfl⟩ rfl rfl rfl hl.1 (Nat.le_of_ble_eq_true rfl) rfl dX5_isCalled_3 ?_
  refine lv_if_eq (tgt := 13) hx hb dX5_isCalled_6 (by decide) (fun hc => ?_) (fun hc => ?_)
  · have hok := ip hok hc
    refine lv_iconst (v := (1 : Int32)) hx hb dX5_isCalled_13 (by decide) ?_
    exact J14 uL a1 (1 : Int32) _ _ hP hD hS _ hl hok
  · have hok := iq hok hc
    refine lv_iconst (v := (0 : Int32)) hx hb dX5_isCalled_9 (by decide) ?_
    refine lv_goto (tgt := 14) hx hb dX5_isCalled_10 (by decide) ?_
    exact J14 uL a1 (0 : Int32) _ _ hP hD hS _ hl hok
theorem hd_X5_calls : yX5_calls.cls = RX5 ∧ yX5_calls.cls ≠ "java/lang/invoke/MethodHandle" ∧ yX5_calls.cls ≠ "java/lang/invoke/VarHandle" ∧ (parseMethodDescriptor yX5_calls.desc).map (fun d => d.parameters.length) = some 0 := by decide +kernel
def p_X5_calls (uL : tX5) : Option (Int32 × tX5) :=
  bd (p_X5_ones (uL.2.2.2.2.2.2.2.2.2.2.2.2.2.2.2.1 6)) (fun v1 =>
  bd (p_X5_told uL v1) (fun v2 =>
  some (v2.1, v2.2)))
set_option maxHeartbeats 4000000 in
set_option maxRecDepth 100000 in
theorem c_X5_calls (l : Launch) (dC : Nat → ClassId) (dI : Nat → Nat → Nat) (cI cZ : ClassId) (l0 l4 l5 l6 l8 l10 l11 l12 l13 l14 l15 l16 : Nat) (sz : Nat) (uL : tX5) {z : (Int32 × tX5)} (hok : p_X5_calls uL = some z) : Met l yX5_calls (Cond.code yX5_calls cX5_calls 1 (some .int) :: lw_all) { frames := 1, cells := 0, slots := 0, locals := 22 } (prW (dC, dI) vwCl (TYS cI cZ) ((wX5 cI cZ l0 l4 l5 l6 l8 l10 l11 l12 l13 l14 l15 l16 uL)) sz [.ref l0]) (va_Qi (fun (r : Int32) (_ : Unit) => r = z.1) (fun _ t => va_P (dC, dI) vwCl ((wX5 cI cZ l0 l4 l5 l6 l8 l10 l11 l12 l13 l14 l15 l16 z.2)) t.heap) (va_A ((wX5 cI cZ l0 l4 l5 l6 l8 l10 l11 l12 l13 l14 l15 l16 uL)) sz)) 0 0 (va_A ((wX5 cI cZ l0 l4 l5 l6 l8 l10 l11 l12 l13 l14 l15 l16 uL)) sz) := by
  refine oM (by decide) (Nat.le_of_ble_eq_true rfl) ?_
  intro p e s m args below meth c S hr hlk hnm hB ls hl
  have hx := S.1
  have hb := S.2.1
  have hml := S.2.2.1
  have hown : s.vm.findClass RX5 = some m.cls := S.2.2.2.1
  have hts := S.2.2.2.2
  have S : CallFix p m c cX5_calls 1 s args lw_all RX5 := S
  have hl : lv_has ls 1 [(0, .ref l0)] := hl
  obtain ⟨hsz, hP, hK, hD0⟩ := hB
  subst hsz
  have hD := hD0.self (sz := s.heap.size)
  generalize hAe : va_A ((wX5 cI cZ l0 l4 l5 l6 l8 l10 l11 l12 l13 l14 l15 l16 uL)) s.heap.size = A at hD ⊢
  have hA : ∀ q : Nat, s.heap.size ≤ q → A q := fun q h => by rw [← hAe]; exact Or.inr h
  have hS : va_S A s.heap s.heap [] := va_S.rf
  have hP : va_P (dC, dI) vwCl ((wX5 cI cZ l0 l4 l5 l6 l8 l10 l11 l12 l13 l14 l15 l16 uL)) s.heap := hP
  unfold p_X5_calls at hok
  refine lv_aload_n hx hb dX5_calls_0 rfl (lv_at hl 0 rfl) ?_
  refine lv_aload_n hx hb dX5_calls_1 rfl (lv_at hl 0 rfl) ?_
  refine va_get (D := (dC, dI)) (ci := 5) (v := .ref l15) (C := RX5) (T := TX5) (N := 18) hx hb hts inX5 hown hK hP 0 rfl rfl 15 (by decide) (hts _ qf_X5_44) (fun _ h9 => h9) rfl dX5_calls_2 ?_
  refine lv_bipush (v := (6 : Int32)) hx hb dX5_calls_5 (by decide) ?_
  refine va_ialdK hx hb hK hP 10 0 rfl rfl (j := 6) (by decide) (vp_inK (by decide)) dX5_calls_7 ?_
  obtain ⟨v1, hc1, hok⟩ := bd_some hok
  refine cRSi [.int (uL.2.2.2.2.2.2.2.2.2.2.2.2.2.2.2.1 6)] S hK va_Pnil (c_X5_ones l dC dI cI cZ (uL.2.2.2.2.2.2.2.2.2.2.2.2.2.2.2.1 6) hc1) (lw_S qm_X5_116 qt_X5_ones qn_X5 qc_X5_ones) hd_X5_ones ⟨rfl, rfl⟩ ⟨Nat.le_of_ble_eq_true rfl, Nat.le_of_ble_eq_true rfl⟩ ⟨Nat.le_of_ble_eq_true rfl, Nat.le_of_ble_eq_true rfl⟩ rfl hl.1 (Nat.le_of_ble_eq_true rfl) rfl dX5_calls_8 ?_
  obtain ⟨v2, hc2, hok⟩ := bd_some hok
  refine cWVi (ci := 5) (q0 := 0) [.int v1] S hK hP hD hS hA (c_X5_told l dC dI cI cZ l0 l4 l5 l6 l8 l10 l11 l12 l13 l14 l15 l16 _ uL v1 hc2) (lw_V qm_X5_125 qi_X5_told qs_X5_told qn_X5 qc_X5_told) hd_X5_told ⟨rfl, rfl⟩ ⟨Nat.le_of_ble_eq_true rfl, Nat.le_of_ble_eq_true rfl⟩ ⟨Nat.le_of_ble_eq_true rfl, Nat.le_of_ble_eq_true rfl⟩ rfl rfl rfl hl.1 (Nat.le_of_ble_eq_true rfl) rfl dX5_calls_11 (D_L hD) (fun H locs hP hD hS => ?_)
  have hok := Option.some.inj hok
  subst hok
  exact eWi S hr hlk rfl hP hS (Nat.le_of_ble_eq_true rfl) (Nat.le_of_ble_eq_true rfl) dX5_calls_14
theorem hd_X5_stuckFor : yX5_stuckFor.cls = RX5 ∧ yX5_stuckFor.cls ≠ "java/lang/invoke/MethodHandle" ∧ yX5_stuckFor.cls ≠ "java/lang/invoke/VarHandle" ∧ (parseMethodDescriptor yX5_stuckFor.desc).map (fun d => d.parameters.length) = some 0 := by decide +kernel
def p_X5_stuckFor (uL : tX5) : Option (Int32 × tX5) :=
  bd (p_X5_told uL (uL.2.2.2.2.2.2.2.2.2.2.2.2.2.2.2.1 3)) (fun v1 =>
  some (v1.1, v1.2))
set_option maxHeartbeats 4000000 in
set_option maxRecDepth 100000 in
theorem c_X5_stuckFor (l : Launch) (dC : Nat → ClassId) (dI : Nat → Nat → Nat) (cI cZ : ClassId) (l0 l4 l5 l6 l8 l10 l11 l12 l13 l14 l15 l16 : Nat) (sz : Nat) (uL : tX5) {z : (Int32 × tX5)} (hok : p_X5_stuckFor uL = some z) : Met l yX5_stuckFor (Cond.code yX5_stuckFor cX5_stuckFor 1 (some .int) :: lw_all) { frames := 1, cells := 0, slots := 0, locals := 21 } (prW (dC, dI) vwCl (TYS cI cZ) ((wX5 cI cZ l0 l4 l5 l6 l8 l10 l11 l12 l13 l14 l15 l16 uL)) sz [.ref l0]) (va_Qi (fun (r : Int32) (_ : Unit) => r = z.1) (fun _ t => va_P (dC, dI) vwCl ((wX5 cI cZ l0 l4 l5 l6 l8 l10 l11 l12 l13 l14 l15 l16 z.2)) t.heap) (va_A ((wX5 cI cZ l0 l4 l5 l6 l8 l10 l11 l12 l13 l14 l15 l16 uL)) sz)) 0 0 (va_A ((wX5 cI cZ l0 l4 l5 l6 l8 l10 l11 l12 l13 l14 l15 l16 uL)) sz) := by
  refine oM (by decide) (Nat.le_of_ble_eq_true rfl) ?_
  intro p e s m args below meth c S hr hlk hnm hB ls hl
  have hx := S.1
  have hb := S.2.1
  have hml := S.2.2.1
  have hown : s.vm.findClass RX5 = some m.cls := S.2.2.2.1
  have hts := S.2.2.2.2
  have S : CallFix p m c cX5_stuckFor 1 s args lw_all RX5 := S
  have hl : lv_has ls 1 [(0, .ref l0)] := hl
  obtain ⟨hsz, hP, hK, hD0⟩ := hB
  subst hsz
  have hD := hD0.self (sz := s.heap.size)
  generalize hAe : va_A ((wX5 cI cZ l0 l4 l5 l6 l8 l10 l11 l12 l13 l14 l15 l16 uL)) s.heap.size = A at hD ⊢
  have hA : ∀ q : Nat, s.heap.size ≤ q → A q := fun q h => by rw [← hAe]; exact Or.inr h
  have hS : va_S A s.heap s.heap [] := va_S.rf
  have hP : va_P (dC, dI) vwCl ((wX5 cI cZ l0 l4 l5 l6 l8 l10 l11 l12 l13 l14 l15 l16 uL)) s.heap := hP
  unfold p_X5_stuckFor at hok
  refine lv_aload_n hx hb dX5_stuckFor_0 rfl (lv_at hl 0 rfl) ?_
  refine lv_aload_n hx hb dX5_stuckFor_1 rfl (lv_at hl 0 rfl) ?_
  refine va_get (D := (dC, dI)) (ci := 5) (v := .ref l15) (C := RX5) (T := TX5) (N := 18) hx hb hts inX5 hown hK hP 0 rfl rfl 15 (by decide) (hts _ qf_X5_44) (fun _ h9 => h9) rfl dX5_stuckFor_2 ?_
  refine lv_iconst (v := (3 : Int32)) hx hb dX5_stuckFor_5 (by decide) ?_
  refine va_ialdK hx hb hK hP 10 0 rfl rfl (j := 3) (by decide) (vp_inK (by decide)) dX5_stuckFor_6 ?_
  obtain ⟨v1, hc1, hok⟩ := bd_some hok
  refine cWVi (ci := 5) (q0 := 0) [.int (uL.2.2.2.2.2.2.2.2.2.2.2.2.2.2.2.1 3)] S hK hP hD hS hA (c_X5_told l dC dI cI cZ l0 l4 l5 l6 l8 l10 l11 l12 l13 l14 l15 l16 _ uL (uL.2.2.2.2.2.2.2.2.2.2.2.2.2.2.2.1 3) hc1) (lw_V qm_X5_125 qi_X5_told qs_X5_told qn_X5 qc_X5_told) hd_X5_told ⟨rfl, rfl⟩ ⟨Nat.le_of_ble_eq_true rfl, Nat.le_of_ble_eq_true rfl⟩ ⟨Nat.le_of_ble_eq_true rfl, Nat.le_of_ble_eq_true rfl⟩ rfl rfl rfl hl.1 (Nat.le_of_ble_eq_true rfl) rfl dX5_stuckFor_7 (D_L hD) (fun H locs hP hD hS => ?_)
  have hok := Option.some.inj hok
  subst hok
  exact eWi S hr hlk rfl hP hS (Nat.le_of_ble_eq_true rfl) (Nat.le_of_ble_eq_true rfl) dX5_stuckFor_10
theorem hd_X5_wear : yX5_wear.cls = RX5 ∧ yX5_wear.cls ≠ "java/lang/invoke/MethodHandle" ∧ yX5_wear.cls ≠ "java/lang/invoke/VarHandle" ∧ (parseMethodDescriptor yX5_wear.desc).map (fun d => d.parameters.length) = some 0 := by decide +kernel
def p_X5_wear (uL : tX5) : Option (Int32 × tX5) :=
  bd (p_X5_told uL (uL.2.2.2.2.2.2.2.2.2.2.2.2.2.2.2.1 4)) (fun v1 =>
  some (v1.1, v1.2))
set_option maxHeartbeats 4000000 in
set_option maxRecDepth 100000 in
theorem c_X5_wear (l : Launch) (dC : Nat → ClassId) (dI : Nat → Nat → Nat) (cI cZ : ClassId) (l0 l4 l5 l6 l8 l10 l11 l12 l13 l14 l15 l16 : Nat) (sz : Nat) (uL : tX5) {z : (Int32 × tX5)} (hok : p_X5_wear uL = some z) : Met l yX5_wear (Cond.code yX5_wear cX5_wear 1 (some .int) :: lw_all) { frames := 1, cells := 0, slots := 0, locals := 21 } (prW (dC, dI) vwCl (TYS cI cZ) ((wX5 cI cZ l0 l4 l5 l6 l8 l10 l11 l12 l13 l14 l15 l16 uL)) sz [.ref l0]) (va_Qi (fun (r : Int32) (_ : Unit) => r = z.1) (fun _ t => va_P (dC, dI) vwCl ((wX5 cI cZ l0 l4 l5 l6 l8 l10 l11 l12 l13 l14 l15 l16 z.2)) t.heap) (va_A ((wX5 cI cZ l0 l4 l5 l6 l8 l10 l11 l12 l13 l14 l15 l16 uL)) sz)) 0 0 (va_A ((wX5 cI cZ l0 l4 l5 l6 l8 l10 l11 l12 l13 l14 l15 l16 uL)) sz) := by
  refine oM (by decide) (Nat.le_of_ble_eq_true rfl) ?_
  intro p e s m args below meth c S hr hlk hnm hB ls hl
  have hx := S.1
  have hb := S.2.1
  have hml := S.2.2.1
  have hown : s.vm.findClass RX5 = some m.cls := S.2.2.2.1
  have hts := S.2.2.2.2
  have S : CallFix p m c cX5_wear 1 s args lw_all RX5 := S
  have hl : lv_has ls 1 [(0, .ref l0)] := hl
  obtain ⟨hsz, hP, hK, hD0⟩ := hB
  subst hsz
  have hD := hD0.self (sz := s.heap.size)
  generalize hAe : va_A ((wX5 cI cZ l0 l4 l5 l6 l8 l10 l11 l12 l13 l14 l15 l16 uL)) s.heap.size = A at hD ⊢
  have hA : ∀ q : Nat, s.heap.size ≤ q → A q := fun q h => by rw [← hAe]; exact Or.inr h
  have hS : va_S A s.heap s.heap [] := va_S.rf
  have hP : va_P (dC, dI) vwCl ((wX5 cI cZ l0 l4 l5 l6 l8 l10 l11 l12 l13 l14 l15 l16 uL)) s.heap := hP
  unfold p_X5_wear at hok
  refine lv_aload_n hx hb dX5_wear_0 rfl (lv_at hl 0 rfl) ?_
  refine lv_aload_n hx hb dX5_wear_1 rfl (lv_at hl 0 rfl) ?_
  refine va_get (D := (dC, dI)) (ci := 5) (v := .ref l15) (C := RX5) (T := TX5) (N := 18) hx hb hts inX5 hown hK hP 0 rfl rfl 15 (by decide) (hts _ qf_X5_44) (fun _ h9 => h9) rfl dX5_wear_2 ?_
  refine lv_iconst (v := (4 : Int32)) hx hb dX5_wear_5 (by decide) ?_
  refine va_ialdK hx hb hK hP 10 0 rfl rfl (j := 4) (by decide) (vp_inK (by decide)) dX5_wear_6 ?_
  obtain ⟨v1, hc1, hok⟩ := bd_some hok
  refine cWVi (ci := 5) (q0 := 0) [.int (uL.2.2.2.2.2.2.2.2.2.2.2.2.2.2.2.1 4)] S hK hP hD hS hA (c_X5_told l dC dI cI cZ l0 l4 l5 l6 l8 l10 l11 l12 l13 l14 l15 l16 _ uL (uL.2.2.2.2.2.2.2.2.2.2.2.2.2.2.2.1 4) hc1) (lw_V qm_X5_125 qi_X5_told qs_X5_told qn_X5 qc_X5_told) hd_X5_told ⟨rfl, rfl⟩ ⟨Nat.le_of_ble_eq_true rfl, Nat.le_of_ble_eq_true rfl⟩ ⟨Nat.le_of_ble_eq_true rfl, Nat.le_of_ble_eq_true rfl⟩ rfl rfl rfl hl.1 (Nat.le_of_ble_eq_true rfl) rfl dX5_wear_7 (D_L hD) (fun H locs hP hD hS => ?_)
  have hok := Option.some.inj hok
  subst hok
  exact eWi S hr hlk rfl hP hS (Nat.le_of_ble_eq_true rfl) (Nat.le_of_ble_eq_true rfl) dX5_wear_10
theorem hd_X5_limit : yX5_limit.cls = RX5 ∧ yX5_limit.cls ≠ "java/lang/invoke/MethodHandle" ∧ yX5_limit.cls ≠ "java/lang/invoke/VarHandle" ∧ (parseMethodDescriptor yX5_limit.desc).map (fun d => d.parameters.length) = some 0 := by decide +kernel
def p_X5_limit (uL : tX5) : Option (Int32 × tX5) :=
  bd (p_X5_told uL uL.2.2.1) (fun v1 =>
  some (v1.1, v1.2))
set_option maxHeartbeats 4000000 in
set_option maxRecDepth 100000 in
theorem c_X5_limit (l : Launch) (dC : Nat → ClassId) (dI : Nat → Nat → Nat) (cI cZ : ClassId) (l0 l4 l5 l6 l8 l10 l11 l12 l13 l14 l15 l16 : Nat) (sz : Nat) (uL : tX5) {z : (Int32 × tX5)} (hok : p_X5_limit uL = some z) : Met l yX5_limit (Cond.code yX5_limit cX5_limit 1 (some .int) :: lw_all) { frames := 1, cells := 0, slots := 0, locals := 21 } (prW (dC, dI) vwCl (TYS cI cZ) ((wX5 cI cZ l0 l4 l5 l6 l8 l10 l11 l12 l13 l14 l15 l16 uL)) sz [.ref l0]) (va_Qi (fun (r : Int32) (_ : Unit) => r = z.1) (fun _ t => va_P (dC, dI) vwCl ((wX5 cI cZ l0 l4 l5 l6 l8 l10 l11 l12 l13 l14 l15 l16 z.2)) t.heap) (va_A ((wX5 cI cZ l0 l4 l5 l6 l8 l10 l11 l12 l13 l14 l15 l16 uL)) sz)) 0 0 (va_A ((wX5 cI cZ l0 l4 l5 l6 l8 l10 l11 l12 l13 l14 l15 l16 uL)) sz) := by
  refine oM (by decide) (Nat.le_of_ble_eq_true rfl) ?_
  intro p e s m args below meth c S hr hlk hnm hB ls hl
  have hx := S.1
  have hb := S.2.1
  have hml := S.2.2.1
  have hown : s.vm.findClass RX5 = some m.cls := S.2.2.2.1
  have hts := S.2.2.2.2
  have S : CallFix p m c cX5_limit 1 s args lw_all RX5 := S
  have hl : lv_has ls 1 [(0, .ref l0)] := hl
  obtain ⟨hsz, hP, hK, hD0⟩ := hB
  subst hsz
  have hD := hD0.self (sz := s.heap.size)
  generalize hAe : va_A ((wX5 cI cZ l0 l4 l5 l6 l8 l10 l11 l12 l13 l14 l15 l16 uL)) s.heap.size = A at hD ⊢
  have hA : ∀ q : Nat, s.heap.size ≤ q → A q := fun q h => by rw [← hAe]; exact Or.inr h
  have hS : va_S A s.heap s.heap [] := va_S.rf
  have hP : va_P (dC, dI) vwCl ((wX5 cI cZ l0 l4 l5 l6 l8 l10 l11 l12 l13 l14 l15 l16 uL)) s.heap := hP
  unfold p_X5_limit at hok
  refine lv_aload_n hx hb dX5_limit_0 rfl (lv_at hl 0 rfl) ?_
  refine lv_aload_n hx hb dX5_limit_1 rfl (lv_at hl 0 rfl) ?_
  refine va_get (D := (dC, dI)) (ci := 5) (v := .int uL.2.2.1) (C := RX5) (T := TX5) (N := 18) hx hb hts inX5 hown hK hP 0 rfl rfl 2 (by decide) (hts _ qf_X5_13) (fun _ h9 => h9) rfl dX5_limit_2 ?_
  obtain ⟨v1, hc1, hok⟩ := bd_some hok
  refine cWVi (ci := 5) (q0 := 0) [.int uL.2.2.1] S hK hP hD hS hA (c_X5_told l dC dI cI cZ l0 l4 l5 l6 l8 l10 l11 l12 l13 l14 l15 l16 _ uL uL.2.2.1 hc1) (lw_V qm_X5_125 qi_X5_told qs_X5_told qn_X5 qc_X5_told) hd_X5_told ⟨rfl, rfl⟩ ⟨Nat.le_of_ble_eq_true rfl, Nat.le_of_ble_eq_true rfl⟩ ⟨Nat.le_of_ble_eq_true rfl, Nat.le_of_ble_eq_true rfl⟩ rfl rfl rfl hl.1 (Nat.le_of_ble_eq_true rfl) rfl dX5_limit_5 (D_L hD) (fun H locs hP hD hS => ?_)
  have hok := Option.some.inj hok
  subst hok
  exact eWi S hr hlk rfl hP hS (Nat.le_of_ble_eq_true rfl) (Nat.le_of_ble_eq_true rfl) dX5_limit_8
theorem hd_X5_suspense : yX5_suspense.cls = RX5 ∧ yX5_suspense.cls ≠ "java/lang/invoke/MethodHandle" ∧ yX5_suspense.cls ≠ "java/lang/invoke/VarHandle" ∧ (parseMethodDescriptor yX5_suspense.desc).map (fun d => d.parameters.length) = some 0 := by decide +kernel
def p_X5_suspense (uL : tX5) : Option (Int32 × tX5) :=
  bd (p_X5_told uL (uL.2.2.2.2.2.2.2.2.2.2.2.2.2.2.2.1 5)) (fun v1 =>
  some (v1.1, v1.2))
set_option maxHeartbeats 4000000 in
set_option maxRecDepth 100000 in
theorem c_X5_suspense (l : Launch) (dC : Nat → ClassId) (dI : Nat → Nat → Nat) (cI cZ : ClassId) (l0 l4 l5 l6 l8 l10 l11 l12 l13 l14 l15 l16 : Nat) (sz : Nat) (uL : tX5) {z : (Int32 × tX5)} (hok : p_X5_suspense uL = some z) : Met l yX5_suspense (Cond.code yX5_suspense cX5_suspense 1 (some .int) :: lw_all) { frames := 1, cells := 0, slots := 0, locals := 21 } (prW (dC, dI) vwCl (TYS cI cZ) ((wX5 cI cZ l0 l4 l5 l6 l8 l10 l11 l12 l13 l14 l15 l16 uL)) sz [.ref l0]) (va_Qi (fun (r : Int32) (_ : Unit) => r = z.1) (fun _ t => va_P (dC, dI) vwCl ((wX5 cI cZ l0 l4 l5 l6 l8 l10 l11 l12 l13 l14 l15 l16 z.2)) t.heap) (va_A ((wX5 cI cZ l0 l4 l5 l6 l8 l10 l11 l12 l13 l14 l15 l16 uL)) sz)) 0 0 (va_A ((wX5 cI cZ l0 l4 l5 l6 l8 l10 l11 l12 l13 l14 l15 l16 uL)) sz) := by
  refine oM (by decide) (Nat.le_of_ble_eq_true rfl) ?_
  intro p e s m args below meth c S hr hlk hnm hB ls hl
  have hx := S.1
  have hb := S.2.1
  have hml := S.2.2.1
  have hown : s.vm.findClass RX5 = some m.cls := S.2.2.2.1
  have hts := S.2.2.2.2
  have S : CallFix p m c cX5_suspense 1 s args lw_all RX5 := S
  have hl : lv_has ls 1 [(0, .ref l0)] := hl
  obtain ⟨hsz, hP, hK, hD0⟩ := hB
  subst hsz
  have hD := hD0.self (sz := s.heap.size)
  generalize hAe : va_A ((wX5 cI cZ l0 l4 l5 l6 l8 l10 l11 l12 l13 l14 l15 l16 uL)) s.heap.size = A at hD ⊢
  have hA : ∀ q : Nat, s.heap.size ≤ q → A q := fun q h => by rw [← hAe]; exact Or.inr h
  have hS : va_S A s.heap s.heap [] := va_S.rf
  have hP : va_P (dC, dI) vwCl ((wX5 cI cZ l0 l4 l5 l6 l8 l10 l11 l12 l13 l14 l15 l16 uL)) s.heap := hP
  unfold p_X5_suspense at hok
  refine lv_aload_n hx hb dX5_suspense_0 rfl (lv_at hl 0 rfl) ?_
  refine lv_aload_n hx hb dX5_suspense_1 rfl (lv_at hl 0 rfl) ?_
  refine va_get (D := (dC, dI)) (ci := 5) (v := .ref l15) (C := RX5) (T := TX5) (N := 18) hx hb hts inX5 hown hK hP 0 rfl rfl 15 (by decide) (hts _ qf_X5_44) (fun _ h9 => h9) rfl dX5_suspense_2 ?_
  refine lv_iconst (v := (5 : Int32)) hx hb dX5_suspense_5 (by decide) ?_
  refine va_ialdK hx hb hK hP 10 0 rfl rfl (j := 5) (by decide) (vp_inK (by decide)) dX5_suspense_6 ?_
  obtain ⟨v1, hc1, hok⟩ := bd_some hok
  refine cWVi (ci := 5) (q0 := 0) [.int (uL.2.2.2.2.2.2.2.2.2.2.2.2.2.2.2.1 5)] S hK hP hD hS hA (c_X5_told l dC dI cI cZ l0 l4 l5 l6 l8 l10 l11 l12 l13 l14 l15 l16 _ uL (uL.2.2.2.2.2.2.2.2.2.2.2.2.2.2.2.1 5) hc1) (lw_V qm_X5_125 qi_X5_told qs_X5_told qn_X5 qc_X5_told) hd_X5_told ⟨rfl, rfl⟩ ⟨Nat.le_of_ble_eq_true rfl, Nat.le_of_ble_eq_true rfl⟩ ⟨Nat.le_of_ble_eq_true rfl, Nat.le_of_ble_eq_true rfl⟩ rfl rfl rfl hl.1 (Nat.le_of_ble_eq_true rfl) rfl dX5_suspense_7 (D_L hD) (fun H locs hP hD hS => ?_)
  have hok := Option.some.inj hok
  subst hok
  exact eWi S hr hlk rfl hP hS (Nat.le_of_ble_eq_true rfl) (Nat.le_of_ble_eq_true rfl) dX5_suspense_10
theorem hd_X5_paragraphs : yX5_paragraphs.cls = RX5 ∧ yX5_paragraphs.cls ≠ "java/lang/invoke/MethodHandle" ∧ yX5_paragraphs.cls ≠ "java/lang/invoke/VarHandle" ∧ (parseMethodDescriptor yX5_paragraphs.desc).map (fun d => d.parameters.length) = some 1 := by decide +kernel
def p_X5_paragraphs (uL : tX5) (a1 : Int32) : Option (Int32 × tX5) :=
  bd (p_X5_isFloor ((0 : Int32), uL.2.1, uL.2.2.1, uL.2.2.2.1, uL.2.2.2.2.1, uL.2.2.2.2.2.1, uL.2.2.2.2.2.2.1, uL.2.2.2.2.2.2.2.1, uL.2.2.2.2.2.2.2.2.1, uL.2.2.2.2.2.2.2.2.2.1, uL.2.2.2.2.2.2.2.2.2.2.1, uL.2.2.2.2.2.2.2.2.2.2.2.1, uL.2.2.2.2.2.2.2.2.2.2.2.2.1, uL.2.2.2.2.2.2.2.2.2.2.2.2.2.1, uL.2.2.2.2.2.2.2.2.2.2.2.2.2.2.1, uL.2.2.2.2.2.2.2.2.2.2.2.2.2.2.2.1, uL.2.2.2.2.2.2.2.2.2.2.2.2.2.2.2.2.1, uL.2.2.2.2.2.2.2.2.2.2.2.2.2.2.2.2.2) a1) (fun v1 =>
  if v1 = 0 then
    bd (p_X5_fail ((0 : Int32), uL.2.1, uL.2.2.1, uL.2.2.2.1, uL.2.2.2.2.1, uL.2.2.2.2.2.1, uL.2.2.2.2.2.2.1, uL.2.2.2.2.2.2.2.1, uL.2.2.2.2.2.2.2.2.1, uL.2.2.2.2.2.2.2.2.2.1, uL.2.2.2.2.2.2.2.2.2.2.1, uL.2.2.2.2.2.2.2.2.2.2.2.1, uL.2.2.2.2.2.2.2.2.2.2.2.2.1, uL.2.2.2.2.2.2.2.2.2.2.2.2.2.1, uL.2.2.2.2.2.2.2.2.2.2.2.2.2.2.1, uL.2.2.2.2.2.2.2.2.2.2.2.2.2.2.2.1, uL.2.2.2.2.2.2.2.2.2.2.2.2.2.2.2.2.1, uL.2.2.2.2.2.2.2.2.2.2.2.2.2.2.2.2.2) (1 : Int32)) (fun v2 =>
    some (v2.1, v2.2))
  else
    gd a1 12 (
    some ((uL.2.2.2.2.1 a1.toNatClampNeg), ((0 : Int32), uL.2.1, uL.2.2.1, uL.2.2.2.1, uL.2.2.2.2.1, uL.2.2.2.2.2.1, uL.2.2.2.2.2.2.1, uL.2.2.2.2.2.2.2.1, uL.2.2.2.2.2.2.2.2.1, uL.2.2.2.2.2.2.2.2.2.1, uL.2.2.2.2.2.2.2.2.2.2.1, uL.2.2.2.2.2.2.2.2.2.2.2.1, uL.2.2.2.2.2.2.2.2.2.2.2.2.1, uL.2.2.2.2.2.2.2.2.2.2.2.2.2.1, uL.2.2.2.2.2.2.2.2.2.2.2.2.2.2.1, uL.2.2.2.2.2.2.2.2.2.2.2.2.2.2.2.1, uL.2.2.2.2.2.2.2.2.2.2.2.2.2.2.2.2.1, uL.2.2.2.2.2.2.2.2.2.2.2.2.2.2.2.2.2))))
set_option maxHeartbeats 4000000 in
set_option maxRecDepth 100000 in
theorem c_X5_paragraphs (l : Launch) (dC : Nat → ClassId) (dI : Nat → Nat → Nat) (cI cZ : ClassId) (l0 l4 l5 l6 l8 l10 l11 l12 l13 l14 l15 l16 : Nat) (sz : Nat) (uL : tX5) (a1 : Int32) {z : (Int32 × tX5)} (hok : p_X5_paragraphs uL a1 = some z) : Met l yX5_paragraphs (Cond.code yX5_paragraphs cX5_paragraphs 2 (some .int) :: lw_all) { frames := 2, cells := 0, slots := 0, locals := 43 } (prW (dC, dI) vwCl (TYS cI cZ) ((wX5 cI cZ l0 l4 l5 l6 l8 l10 l11 l12 l13 l14 l15 l16 uL)) sz [.ref l0, .int a1]) (va_Qi (fun (r : Int32) (_ : Unit) => r = z.1) (fun _ t => va_P (dC, dI) vwCl ((wX5 cI cZ l0 l4 l5 l6 l8 l10 l11 l12 l13 l14 l15 l16 z.2)) t.heap) (va_A ((wX5 cI cZ l0 l4 l5 l6 l8 l10 l11 l12 l13 l14 l15 l16 uL)) sz)) 0 0 (va_A ((wX5 cI cZ l0 l4 l5 l6 l8 l10 l11 l12 l13 l14 l15 l16 uL)) sz) := by
  refine oM (by decide) (Nat.le_of_ble_eq_true rfl) ?_
  intro p e s m args below meth c S hr hlk hnm hB ls hl
  have hx := S.1
  have hb := S.2.1
  have hml := S.2.2.1
  have hown : s.vm.findClass RX5 = some m.cls := S.2.2.2.1
  have hts := S.2.2.2.2
  have S : CallFix p m c cX5_paragraphs 2 s args lw_all RX5 := S
  have hl : lv_has ls 2 [(0, .ref l0), (1, .int a1)] := hl
  obtain ⟨hsz, hP, hK, hD0⟩ := hB
  subst hsz
  have hD := hD0.self (sz := s.heap.size)
  generalize hAe : va_A ((wX5 cI cZ l0 l4 l5 l6 l8 l10 l11 l12 l13 l14 l15 l16 uL)) s.heap.size = A at hD ⊢
  have hA : ∀ q : Nat, s.heap.size ≤ q → A q := fun q h => by rw [← hAe]; exact Or.inr h
  have hS : va_S A s.heap s.heap [] := va_S.rf
  have hP : va_P (dC, dI) vwCl ((wX5 cI cZ l0 l4 l5 l6 l8 l10 l11 l12 l13 l14 l15 l16 uL)) s.heap := hP
  unfold p_X5_paragraphs at hok
  refine lv_aload_n hx hb dX5_paragraphs_0 rfl (lv_at hl 0 rfl) ?_
  refine lv_iconst (v := (0 : Int32)) hx hb dX5_paragraphs_1 (by decide) ?_
  refine va_put (D := (dC, dI)) (ci := 5) (v := .int (0 : Int32)) (ty := .int) (C := RX5) (T := TX5) (N := 18) hx hb hts inX5 tyX5 tyX5_ok nmX5 hown hK hP hD hS 0 rfl rfl 0 (by decide) (hts _ qf_X5_50) (fun _ h9 => h9) rfl (tyX5_ok 0 (by decide)) rfl rfl (Nat.le_of_ble_eq_true rfl) dX5_paragraphs_2 (fun H locs hP _ hS => ?_)
  have hP : va_P (dC, dI) vwCl ((wX5 cI cZ l0 l4 l5 l6 l8 l10 l11 l12 l13 l14 l15 l16 ((0 : Int32), uL.2.1, uL.2.2.1, uL.2.2.2.1, uL.2.2.2.2.1, uL.2.2.2.2.2.1, uL.2.2.2.2.2.2.1, uL.2.2.2.2.2.2.2.1, uL.2.2.2.2.2.2.2.2.1, uL.2.2.2.2.2.2.2.2.2.1, uL.2.2.2.2.2.2.2.2.2.2.1, uL.2.2.2.2.2.2.2.2.2.2.2.1, uL.2.2.2.2.2.2.2.2.2.2.2.2.1, uL.2.2.2.2.2.2.2.2.2.2.2.2.2.1, uL.2.2.2.2.2.2.2.2.2.2.2.2.2.2.1, uL.2.2.2.2.2.2.2.2.2.2.2.2.2.2.2.1, uL.2.2.2.2.2.2.2.2.2.2.2.2.2.2.2.2.1, uL.2.2.2.2.2.2.2.2.2.2.2.2.2.2.2.2.2))) H := hP
  have hD : va_D A ((wX5 cI cZ l0 l4 l5 l6 l8 l10 l11 l12 l13 l14 l15 l16 ((0 : Int32), uL.2.1, uL.2.2.1, uL.2.2.2.1, uL.2.2.2.2.1, uL.2.2.2.2.2.1, uL.2.2.2.2.2.2.1, uL.2.2.2.2.2.2.2.1, uL.2.2.2.2.2.2.2.2.1, uL.2.2.2.2.2.2.2.2.2.1, uL.2.2.2.2.2.2.2.2.2.2.1, uL.2.2.2.2.2.2.2.2.2.2.2.1, uL.2.2.2.2.2.2.2.2.2.2.2.2.1, uL.2.2.2.2.2.2.2.2.2.2.2.2.2.1, uL.2.2.2.2.2.2.2.2.2.2.2.2.2.2.1, uL.2.2.2.2.2.2.2.2.2.2.2.2.2.2.2.1, uL.2.2.2.2.2.2.2.2.2.2.2.2.2.2.2.2.1, uL.2.2.2.2.2.2.2.2.2.2.2.2.2.2.2.2.2))) := D_L hD
  refine lv_aload_n hx hb dX5_paragraphs_5 rfl (lv_at hl 0 rfl) ?_
  refine lv_iload_n hx hb dX5_paragraphs_6 rfl (lv_at hl 1 rfl) ?_
  obtain ⟨v1, hc1, hok⟩ := bd_some hok
  refine cRVi (ci := 5) (q0 := 0) [.int a1] S hK hP (c_X5_isFloor l dC dI cI cZ l0 l4 l5 l6 l8 l10 l11 l12 l13 l14 l15 l16 ((0 : Int32), uL.2.1, uL.2.2.1, uL.2.2.2.1, uL.2.2.2.2.1, uL.2.2.2.2.2.1, uL.2.2.2.2.2.2.1, uL.2.2.2.2.2.2.2.1, uL.2.2.2.2.2.2.2.2.1, uL.2.2.2.2.2.2.2.2.2.1, uL.2.2.2.2.2.2.2.2.2.2.1, uL.2.2.2.2.2.2.2.2.2.2.2.1, uL.2.2.2.2.2.2.2.2.2.2.2.2.1, uL.2.2.2.2.2.2.2.2.2.2.2.2.2.1, uL.2.2.2.2.2.2.2.2.2.2.2.2.2.2.1, uL.2.2.2.2.2.2.2.2.2.2.2.2.2.2.2.1, uL.2.2.2.2.2.2.2.2.2.2.2.2.2.2.2.2.1, uL.2.2.2.2.2.2.2.2.2.2.2.2.2.2.2.2.2) a1 hc1) (lw_V qm_X5_93 qi_X5_isFloor qs_X5_isFloor qn_X5 qc_X5_isFloor) hd_X5_isFloor ⟨rfl, rfl⟩ ⟨Nat.le_of_ble_eq_true rfl, Nat.le_of_ble_eq_true rfl⟩ ⟨Nat.le_of_ble_eq_true rfl, Nat.le_of_ble_eq_true rfl⟩ rfl rfl rfl hl.1 (Nat.le_of_ble_eq_true rfl) rfl dX5_paragraphs_7 ?_
  refine lv_if_eq (tgt := 22) hx hb dX5_paragraphs_10 (by decide) (fun hc => ?_) (fun hc => ?_)
  · have hok := ip hok hc
    refine lv_aload_n hx hb dX5_paragraphs_22 rfl (lv_at hl 0 rfl) ?_
    refine lv_iconst (v := (1 : Int32)) hx hb dX5_paragraphs_23 (by decide) ?_
    obtain ⟨v2, hc2, hok⟩ := bd_some hok
    refine cWVi (ci := 5) (q0 := 0) [.int (1 : Int32)] S hK hP hD hS hA (c_X5_fail l dC dI cI cZ l0 l4 l5 l6 l8 l10 l11 l12 l13 l14 l15 l16 _ ((0 : Int32), uL.2.1, uL.2.2.1, uL.2.2.2.1, uL.2.2.2.2.1, uL.2.2.2.2.2.1, uL.2.2.2.2.2.2.1, uL.2.2.2.2.2.2.2.1, uL.2.2.2.2.2.2.2.2.1, uL.2.2.2.2.2.2.2.2.2.1, uL.2.2.2.2.2.2.2.2.2.2.1, uL.2.2.2.2.2.2.2.2.2.2.2.1, uL.2.2.2.2.2.2.2.2.2.2.2.2.1, uL.2.2.2.2.2.2.2.2.2.2.2.2.2.1, uL.2.2.2.2.2.2.2.2.2.2.2.2.2.2.1, uL.2.2.2.2.2.2.2.2.2.2.2.2.2.2.2.1, uL.2.2.2.2.2.2.2.2.2.2.2.2.2.2.2.2.1, uL.2.2.2.2.2.2.2.2.2.2.2.2.2.2.2.2.2) (1 : Int32) hc2) (lw_V qm_X5_112 qi_X5_fail qs_X5_fail qn_X5 qc_X5_fail) hd_X5_fail ⟨rfl, rfl⟩ ⟨Nat.le_of_ble_eq_true rfl, Nat.le_of_ble_eq_true rfl⟩ ⟨Nat.le_of_ble_eq_true rfl, Nat.le_of_ble_eq_true rfl⟩ rfl rfl rfl hl.1 (Nat.le_of_ble_eq_true rfl) rfl dX5_paragraphs_24 (D_L hD) (fun H locs hP hD hS => ?_)
    have hok := Option.some.inj hok
    subst hok
    exact eWi S hr hlk rfl hP hS (Nat.le_of_ble_eq_true rfl) (Nat.le_of_ble_eq_true rfl) dX5_paragraphs_27
  · have hok := iq hok hc
    refine lv_aload_n hx hb dX5_paragraphs_13 rfl (lv_at hl 0 rfl) ?_
    refine va_get (D := (dC, dI)) (ci := 5) (v := .ref l4) (C := RX5) (T := TX5) (N := 18) hx hb hts inX5 hown hK hP 0 rfl rfl 4 (by decide) (hts _ qf_X5_16) (fun _ h9 => h9) rfl dX5_paragraphs_14 ?_
    refine lv_iload_n hx hb dX5_paragraphs_17 rfl (lv_at hl 1 rfl) ?_
    obtain ⟨hi3, hok⟩ := gd_some hok
    refine va_iald hx hb hK hP 1 0 rfl rfl hi3 dX5_paragraphs_18 ?_
    refine lv_goto (tgt := 27) hx hb dX5_paragraphs_19 (by decide) ?_
    have hok := Option.some.inj hok
    subst hok
    exact eWi S hr hlk rfl hP hS (Nat.le_of_ble_eq_true rfl) (Nat.le_of_ble_eq_true rfl) dX5_paragraphs_27
theorem hd_X5_next : yX5_next.cls = RX5 ∧ yX5_next.cls ≠ "java/lang/invoke/MethodHandle" ∧ yX5_next.cls ≠ "java/lang/invoke/VarHandle" ∧ (parseMethodDescriptor yX5_next.desc).map (fun d => d.parameters.length) = some 1 := by decide +kernel
def p_X5_next (uL : tX5) (a1 : Int32) : Option Int32 :=
  gd ((9 : Int32) + a1) 41 (
  gd a1 12 (
  if (uL.2.2.2.2.2.2.2.2.2.2.2.2.2.2.2.1 ((9 : Int32) + a1).toNatClampNeg) = (uL.2.2.2.2.1 a1.toNatClampNeg) then
    some (-1 : Int32)
  else
    some (uL.2.2.2.2.2.2.2.2.2.2.2.2.2.2.2.1 ((9 : Int32) + a1).toNatClampNeg)))
set_option maxHeartbeats 4000000 in
set_option maxRecDepth 100000 in
theorem c_X5_next (l : Launch) (dC : Nat → ClassId) (dI : Nat → Nat → Nat) (cI cZ : ClassId) (l0 l4 l5 l6 l8 l10 l11 l12 l13 l14 l15 l16 : Nat) (uL : tX5) (a1 : Int32) {z : Int32} (hok : p_X5_next uL a1 = some z) : Met l yX5_next (Cond.code yX5_next cX5_next 2 (some .int) :: lw_all) { frames := 0, cells := 0, slots := 0, locals := 0 } (prR (dC, dI) vwCl (TYS cI cZ) ((wX5 cI cZ l0 l4 l5 l6 l8 l10 l11 l12 l13 l14 l15 l16 uL)) [.ref l0, .int a1]) (vp_Si (fun r => r = z)) 0 0 (fun _ => False) := by
  refine oM (by decide) (Nat.le_of_ble_eq_true rfl) ?_
  intro p e s m args below meth c S hr hlk hnm hB ls hl
  have hx := S.1
  have hb := S.2.1
  have hml := S.2.2.1
  have hown : s.vm.findClass RX5 = some m.cls := S.2.2.2.1
  have hts := S.2.2.2.2
  have S : CallFix p m c cX5_next 2 s args lw_all RX5 := S
  have hl : lv_has ls 2 [(0, .ref l0), (1, .int a1)] := hl
  obtain ⟨hP, hK⟩ := hB
  have hP : va_P (dC, dI) vwCl ((wX5 cI cZ l0 l4 l5 l6 l8 l10 l11 l12 l13 l14 l15 l16 uL)) s.heap := hP
  unfold p_X5_next at hok
  refine lv_aload_n hx hb dX5_next_0 rfl (lv_at hl 0 rfl) ?_
  refine va_get (D := (dC, dI)) (ci := 5) (v := .ref l15) (C := RX5) (T := TX5) (N := 18) hx hb hts inX5 hown hK hP 0 rfl rfl 15 (by decide) (hts _ qf_X5_44) (fun _ h9 => h9) rfl dX5_next_1 ?_
  refine lv_bipush (v := (9 : Int32)) hx hb dX5_next_4 (by decide) ?_
  refine lv_iload_n hx hb dX5_next_6 rfl (lv_at hl 1 rfl) ?_
  refine lv_iadd hx hb dX5_next_7 ?_
  obtain ⟨hi1, hok⟩ := gd_some hok
  refine va_iald hx hb hK hP 10 0 rfl rfl hi1 dX5_next_8 ?_
  refine lv_aload_n hx hb dX5_next_9 rfl (lv_at hl 0 rfl) ?_
  refine va_get (D := (dC, dI)) (ci := 5) (v := .ref l4) (C := RX5) (T := TX5) (N := 18) hx hb hts inX5 hown hK hP 0 rfl rfl 4 (by decide) (hts _ qf_X5_16) (fun _ h9 => h9) rfl dX5_next_10 ?_
  refine lv_iload_n hx hb dX5_next_13 rfl (lv_at hl 1 rfl) ?_
  obtain ⟨hi2, hok⟩ := gd_some hok
  refine va_iald hx hb hK hP 1 0 rfl rfl hi2 dX5_next_14 ?_
  refine lv_icmp_ne (tgt := 22) hx hb dX5_next_15 (by decide) (fun hc => ?_) (fun hc => ?_)
  · have hok := iq hok hc
    refine lv_aload_n hx hb dX5_next_22 rfl (lv_at hl 0 rfl) ?_
    refine va_get (D := (dC, dI)) (ci := 5) (v := .ref l15) (C := RX5) (T := TX5) (N := 18) hx hb hts inX5 hown hK hP 0 rfl rfl 15 (by decide) (hts _ qf_X5_44) (fun _ h9 => h9) rfl dX5_next_23 ?_
    refine lv_bipush (v := (9 : Int32)) hx hb dX5_next_26 (by decide) ?_
    refine lv_iload_n hx hb dX5_next_28 rfl (lv_at hl 1 rfl) ?_
    refine lv_iadd hx hb dX5_next_29 ?_
    refine va_iald hx hb hK hP 10 0 rfl rfl hi1 dX5_next_30 ?_
    exact eRi S hr hlk (Option.some.inj hok) dX5_next_31
  · have hok := ip hok hc
    refine lv_iconst (v := (-1 : Int32)) hx hb dX5_next_18 (by decide) ?_
    refine lv_goto (tgt := 31) hx hb dX5_next_19 (by decide) ?_
    exact eRi S hr hlk (Option.some.inj hok) dX5_next_31
theorem hd_X5_nextParagraph : yX5_nextParagraph.cls = RX5 ∧ yX5_nextParagraph.cls ≠ "java/lang/invoke/MethodHandle" ∧ yX5_nextParagraph.cls ≠ "java/lang/invoke/VarHandle" ∧ (parseMethodDescriptor yX5_nextParagraph.desc).map (fun d => d.parameters.length) = some 1 := by decide +kernel
def p_X5_nextParagraph (uL : tX5) (a1 : Int32) : Option (Int32 × tX5) :=
  bd (p_X5_isFloor ((0 : Int32), uL.2.1, uL.2.2.1, uL.2.2.2.1, uL.2.2.2.2.1, uL.2.2.2.2.2.1, uL.2.2.2.2.2.2.1, uL.2.2.2.2.2.2.2.1, uL.2.2.2.2.2.2.2.2.1, uL.2.2.2.2.2.2.2.2.2.1, uL.2.2.2.2.2.2.2.2.2.2.1, uL.2.2.2.2.2.2.2.2.2.2.2.1, uL.2.2.2.2.2.2.2.2.2.2.2.2.1, uL.2.2.2.2.2.2.2.2.2.2.2.2.2.1, uL.2.2.2.2.2.2.2.2.2.2.2.2.2.2.1, uL.2.2.2.2.2.2.2.2.2.2.2.2.2.2.2.1, uL.2.2.2.2.2.2.2.2.2.2.2.2.2.2.2.2.1, uL.2.2.2.2.2.2.2.2.2.2.2.2.2.2.2.2.2) a1) (fun v1 =>
  if v1 = 0 then
    bd (p_X5_fail ((0 : Int32), uL.2.1, uL.2.2.1, uL.2.2.2.1, uL.2.2.2.2.1, uL.2.2.2.2.2.1, uL.2.2.2.2.2.2.1, uL.2.2.2.2.2.2.2.1, uL.2.2.2.2.2.2.2.2.1, uL.2.2.2.2.2.2.2.2.2.1, uL.2.2.2.2.2.2.2.2.2.2.1, uL.2.2.2.2.2.2.2.2.2.2.2.1, uL.2.2.2.2.2.2.2.2.2.2.2.2.1, uL.2.2.2.2.2.2.2.2.2.2.2.2.2.1, uL.2.2.2.2.2.2.2.2.2.2.2.2.2.2.1, uL.2.2.2.2.2.2.2.2.2.2.2.2.2.2.2.1, uL.2.2.2.2.2.2.2.2.2.2.2.2.2.2.2.2.1, uL.2.2.2.2.2.2.2.2.2.2.2.2.2.2.2.2.2) (1 : Int32)) (fun v2 =>
    some (v2.1, v2.2))
  else
    bd (p_X5_next ((0 : Int32), uL.2.1, uL.2.2.1, uL.2.2.2.1, uL.2.2.2.2.1, uL.2.2.2.2.2.1, uL.2.2.2.2.2.2.1, uL.2.2.2.2.2.2.2.1, uL.2.2.2.2.2.2.2.2.1, uL.2.2.2.2.2.2.2.2.2.1, uL.2.2.2.2.2.2.2.2.2.2.1, uL.2.2.2.2.2.2.2.2.2.2.2.1, uL.2.2.2.2.2.2.2.2.2.2.2.2.1, uL.2.2.2.2.2.2.2.2.2.2.2.2.2.1, uL.2.2.2.2.2.2.2.2.2.2.2.2.2.2.1, uL.2.2.2.2.2.2.2.2.2.2.2.2.2.2.2.1, uL.2.2.2.2.2.2.2.2.2.2.2.2.2.2.2.2.1, uL.2.2.2.2.2.2.2.2.2.2.2.2.2.2.2.2.2) a1) (fun v3 =>
    some (v3, ((0 : Int32), uL.2.1, uL.2.2.1, uL.2.2.2.1, uL.2.2.2.2.1, uL.2.2.2.2.2.1, uL.2.2.2.2.2.2.1, uL.2.2.2.2.2.2.2.1, uL.2.2.2.2.2.2.2.2.1, uL.2.2.2.2.2.2.2.2.2.1, uL.2.2.2.2.2.2.2.2.2.2.1, uL.2.2.2.2.2.2.2.2.2.2.2.1, uL.2.2.2.2.2.2.2.2.2.2.2.2.1, uL.2.2.2.2.2.2.2.2.2.2.2.2.2.1, uL.2.2.2.2.2.2.2.2.2.2.2.2.2.2.1, uL.2.2.2.2.2.2.2.2.2.2.2.2.2.2.2.1, uL.2.2.2.2.2.2.2.2.2.2.2.2.2.2.2.2.1, uL.2.2.2.2.2.2.2.2.2.2.2.2.2.2.2.2.2))))
set_option maxHeartbeats 4000000 in
set_option maxRecDepth 100000 in
theorem c_X5_nextParagraph (l : Launch) (dC : Nat → ClassId) (dI : Nat → Nat → Nat) (cI cZ : ClassId) (l0 l4 l5 l6 l8 l10 l11 l12 l13 l14 l15 l16 : Nat) (sz : Nat) (uL : tX5) (a1 : Int32) {z : (Int32 × tX5)} (hok : p_X5_nextParagraph uL a1 = some z) : Met l yX5_nextParagraph (Cond.code yX5_nextParagraph cX5_nextParagraph 2 (some .int) :: lw_all) { frames := 2, cells := 0, slots := 0, locals := 43 } (prW (dC, dI) vwCl (TYS cI cZ) ((wX5 cI cZ l0 l4 l5 l6 l8 l10 l11 l12 l13 l14 l15 l16 uL)) sz [.ref l0, .int a1]) (va_Qi (fun (r : Int32) (_ : Unit) => r = z.1) (fun _ t => va_P (dC, dI) vwCl ((wX5 cI cZ l0 l4 l5 l6 l8 l10 l11 l12 l13 l14 l15 l16 z.2)) t.heap) (va_A ((wX5 cI cZ l0 l4 l5 l6 l8 l10 l11 l12 l13 l14 l15 l16 uL)) sz)) 0 0 (va_A ((wX5 cI cZ l0 l4 l5 l6 l8 l10 l11 l12 l13 l14 l15 l16 uL)) sz) := by
  refine oM (by decide) (Nat.le_of_ble_eq_true rfl) ?_
  intro p e s m args below meth c S hr hlk hnm hB ls hl
  have hx := S.1
  have hb := S.2.1
  have hml := S.2.2.1
  have hown : s.vm.findClass RX5 = some m.cls := S.2.2.2.1
  have hts := S.2.2.2.2
  have S : CallFix p m c cX5_nextParagraph 2 s args lw_all RX5 := S
  have hl : lv_has ls 2 [(0, .ref l0), (1, .int a1)] := hl
  obtain ⟨hsz, hP, hK, hD0⟩ := hB
  subst hsz
  have hD := hD0.self (sz := s.heap.size)
  generalize hAe : va_A ((wX5 cI cZ l0 l4 l5 l6 l8 l10 l11 l12 l13 l14 l15 l16 uL)) s.heap.size = A at hD ⊢
  have hA : ∀ q : Nat, s.heap.size ≤ q → A q := fun q h => by rw [← hAe]; exact Or.inr h
  have hS : va_S A s.heap s.heap [] := va_S.rf
  have hP : va_P (dC, dI) vwCl ((wX5 cI cZ l0 l4 l5 l6 l8 l10 l11 l12 l13 l14 l15 l16 uL)) s.heap := hP
  unfold p_X5_nextParagraph at hok
  refine lv_aload_n hx hb dX5_nextParagraph_0 rfl (lv_at hl 0 rfl) ?_
  refine lv_iconst (v := (0 : Int32)) hx hb dX5_nextParagraph_1 (by decide) ?_
  refine va_put (D := (dC, dI)) (ci := 5) (v := .int (0 : Int32)) (ty := .int) (C := RX5) (T := TX5) (N := 18) hx hb hts inX5 tyX5 tyX5_ok nmX5 hown hK hP hD hS 0 rfl rfl 0 (by decide) (hts _ qf_X5_50) (fun _ h9 => h9) rfl (tyX5_ok 0 (by decide)) rfl rfl (Nat.le_of_ble_eq_true rfl) dX5_nextParagraph_2 (fun H locs hP _ hS => ?_)
  have hP : va_P (dC, dI) vwCl ((wX5 cI cZ l0 l4 l5 l6 l8 l10 l11 l12 l13 l14 l15 l16 ((0 : Int32), uL.2.1, uL.2.2.1, uL.2.2.2.1, uL.2.2.2.2.1, uL.2.2.2.2.2.1, uL.2.2.2.2.2.2.1, uL.2.2.2.2.2.2.2.1, uL.2.2.2.2.2.2.2.2.1, uL.2.2.2.2.2.2.2.2.2.1, uL.2.2.2.2.2.2.2.2.2.2.1, uL.2.2.2.2.2.2.2.2.2.2.2.1, uL.2.2.2.2.2.2.2.2.2.2.2.2.1, uL.2.2.2.2.2.2.2.2.2.2.2.2.2.1, uL.2.2.2.2.2.2.2.2.2.2.2.2.2.2.1, uL.2.2.2.2.2.2.2.2.2.2.2.2.2.2.2.1, uL.2.2.2.2.2.2.2.2.2.2.2.2.2.2.2.2.1, uL.2.2.2.2.2.2.2.2.2.2.2.2.2.2.2.2.2))) H := hP
  have hD : va_D A ((wX5 cI cZ l0 l4 l5 l6 l8 l10 l11 l12 l13 l14 l15 l16 ((0 : Int32), uL.2.1, uL.2.2.1, uL.2.2.2.1, uL.2.2.2.2.1, uL.2.2.2.2.2.1, uL.2.2.2.2.2.2.1, uL.2.2.2.2.2.2.2.1, uL.2.2.2.2.2.2.2.2.1, uL.2.2.2.2.2.2.2.2.2.1, uL.2.2.2.2.2.2.2.2.2.2.1, uL.2.2.2.2.2.2.2.2.2.2.2.1, uL.2.2.2.2.2.2.2.2.2.2.2.2.1, uL.2.2.2.2.2.2.2.2.2.2.2.2.2.1, uL.2.2.2.2.2.2.2.2.2.2.2.2.2.2.1, uL.2.2.2.2.2.2.2.2.2.2.2.2.2.2.2.1, uL.2.2.2.2.2.2.2.2.2.2.2.2.2.2.2.2.1, uL.2.2.2.2.2.2.2.2.2.2.2.2.2.2.2.2.2))) := D_L hD
  refine lv_aload_n hx hb dX5_nextParagraph_5 rfl (lv_at hl 0 rfl) ?_
  refine lv_iload_n hx hb dX5_nextParagraph_6 rfl (lv_at hl 1 rfl) ?_
  obtain ⟨v1, hc1, hok⟩ := bd_some hok
  refine cRVi (ci := 5) (q0 := 0) [.int a1] S hK hP (c_X5_isFloor l dC dI cI cZ l0 l4 l5 l6 l8 l10 l11 l12 l13 l14 l15 l16 ((0 : Int32), uL.2.1, uL.2.2.1, uL.2.2.2.1, uL.2.2.2.2.1, uL.2.2.2.2.2.1, uL.2.2.2.2.2.2.1, uL.2.2.2.2.2.2.2.1, uL.2.2.2.2.2.2.2.2.1, uL.2.2.2.2.2.2.2.2.2.1, uL.2.2.2.2.2.2.2.2.2.2.1, uL.2.2.2.2.2.2.2.2.2.2.2.1, uL.2.2.2.2.2.2.2.2.2.2.2.2.1, uL.2.2.2.2.2.2.2.2.2.2.2.2.2.1, uL.2.2.2.2.2.2.2.2.2.2.2.2.2.2.1, uL.2.2.2.2.2.2.2.2.2.2.2.2.2.2.2.1, uL.2.2.2.2.2.2.2.2.2.2.2.2.2.2.2.2.1, uL.2.2.2.2.2.2.2.2.2.2.2.2.2.2.2.2.2) a1 hc1) (lw_V qm_X5_93 qi_X5_isFloor qs_X5_isFloor qn_X5 qc_X5_isFloor) hd_X5_isFloor ⟨rfl, rfl⟩ ⟨Nat.le_of_ble_eq_true rfl, Nat.le_of_ble_eq_true rfl⟩ ⟨Nat.le_of_ble_eq_true rfl, Nat.le_of_ble_eq_true rfl⟩ rfl rfl rfl hl.1 (Nat.le_of_ble_eq_true rfl) rfl dX5_nextParagraph_7 ?_
  refine lv_if_eq (tgt := 21) hx hb dX5_nextParagraph_10 (by decide) (fun hc => ?_) (fun hc => ?_)
  · have hok := ip hok hc
    refine lv_aload_n hx hb dX5_nextParagraph_21 rfl (lv_at hl 0 rfl) ?_
    refine lv_iconst (v := (1 : Int32)) hx hb dX5_nextParagraph_22 (by decide) ?_
    obtain ⟨v2, hc2, hok⟩ := bd_some hok
    refine cWVi (ci := 5) (q0 := 0) [.int (1 : Int32)] S hK hP hD hS hA (c_X5_fail l dC dI cI cZ l0 l4 l5 l6 l8 l10 l11 l12 l13 l14 l15 l16 _ ((0 : Int32), uL.2.1, uL.2.2.1, uL.2.2.2.1, uL.2.2.2.2.1, uL.2.2.2.2.2.1, uL.2.2.2.2.2.2.1, uL.2.2.2.2.2.2.2.1, uL.2.2.2.2.2.2.2.2.1, uL.2.2.2.2.2.2.2.2.2.1, uL.2.2.2.2.2.2.2.2.2.2.1, uL.2.2.2.2.2.2.2.2.2.2.2.1, uL.2.2.2.2.2.2.2.2.2.2.2.2.1, uL.2.2.2.2.2.2.2.2.2.2.2.2.2.1, uL.2.2.2.2.2.2.2.2.2.2.2.2.2.2.1, uL.2.2.2.2.2.2.2.2.2.2.2.2.2.2.2.1, uL.2.2.2.2.2.2.2.2.2.2.2.2.2.2.2.2.1, uL.2.2.2.2.2.2.2.2.2.2.2.2.2.2.2.2.2) (1 : Int32) hc2) (lw_V qm_X5_112 qi_X5_fail qs_X5_fail qn_X5 qc_X5_fail) hd_X5_fail ⟨rfl, rfl⟩ ⟨Nat.le_of_ble_eq_true rfl, Nat.le_of_ble_eq_true rfl⟩ ⟨Nat.le_of_ble_eq_true rfl, Nat.le_of_ble_eq_true rfl⟩ rfl rfl rfl hl.1 (Nat.le_of_ble_eq_true rfl) rfl dX5_nextParagraph_23 (D_L hD) (fun H locs hP hD hS => ?_)
    have hok := Option.some.inj hok
    subst hok
    exact eWi S hr hlk rfl hP hS (Nat.le_of_ble_eq_true rfl) (Nat.le_of_ble_eq_true rfl) dX5_nextParagraph_26
  · have hok := iq hok hc
    refine lv_aload_n hx hb dX5_nextParagraph_13 rfl (lv_at hl 0 rfl) ?_
    refine lv_iload_n hx hb dX5_nextParagraph_14 rfl (lv_at hl 1 rfl) ?_
    obtain ⟨v3, hc3, hok⟩ := bd_some hok
    refine cRVi (ci := 5) (q0 := 0) [.int a1] S hK hP (c_X5_next l dC dI cI cZ l0 l4 l5 l6 l8 l10 l11 l12 l13 l14 l15 l16 ((0 : Int32), uL.2.1, uL.2.2.1, uL.2.2.2.1, uL.2.2.2.2.1, uL.2.2.2.2.2.1, uL.2.2.2.2.2.2.1, uL.2.2.2.2.2.2.2.1, uL.2.2.2.2.2.2.2.2.1, uL.2.2.2.2.2.2.2.2.2.1, uL.2.2.2.2.2.2.2.2.2.2.1, uL.2.2.2.2.2.2.2.2.2.2.2.1, uL.2.2.2.2.2.2.2.2.2.2.2.2.1, uL.2.2.2.2.2.2.2.2.2.2.2.2.2.1, uL.2.2.2.2.2.2.2.2.2.2.2.2.2.2.1, uL.2.2.2.2.2.2.2.2.2.2.2.2.2.2.2.1, uL.2.2.2.2.2.2.2.2.2.2.2.2.2.2.2.2.1, uL.2.2.2.2.2.2.2.2.2.2.2.2.2.2.2.2.2) a1 hc3) (lw_V qm_X5_127 qi_X5_next qs_X5_next qn_X5 qc_X5_next) hd_X5_next ⟨rfl, rfl⟩ ⟨Nat.le_of_ble_eq_true rfl, Nat.le_of_ble_eq_true rfl⟩ ⟨Nat.le_of_ble_eq_true rfl, Nat.le_of_ble_eq_true rfl⟩ rfl rfl rfl hl.1 (Nat.le_of_ble_eq_true rfl) rfl dX5_nextParagraph_15 ?_
    refine lv_goto (tgt := 26) hx hb dX5_nextParagraph_18 (by decide) ?_
    have hok := Option.some.inj hok
    subst hok
    exact eWi S hr hlk rfl hP hS (Nat.le_of_ble_eq_true rfl) (Nat.le_of_ble_eq_true rfl) dX5_nextParagraph_26
theorem hd_X5_of : yX5_of.cls = RX5 ∧ yX5_of.cls ≠ "java/lang/invoke/MethodHandle" ∧ yX5_of.cls ≠ "java/lang/invoke/VarHandle" ∧ (parseMethodDescriptor yX5_of.desc).map (fun d => d.parameters.length) = some 3 := by decide +kernel
def p_X5_of_5_J40 (uL : tX5) : Option (Int32 × tX5) :=
  bd (p_X5_fail uL (1 : Int32)) (fun v5 =>
  some (v5.1, v5.2))
def p_X5_of_5 (uL : tX5) (a1 : Int32) (a2 : Int32) : Option (Int32 × tX5) :=
  bd (p_X5_isFloor ((0 : Int32), uL.2.1, uL.2.2.1, uL.2.2.2.1, uL.2.2.2.2.1, uL.2.2.2.2.2.1, uL.2.2.2.2.2.2.1, uL.2.2.2.2.2.2.2.1, uL.2.2.2.2.2.2.2.2.1, uL.2.2.2.2.2.2.2.2.2.1, uL.2.2.2.2.2.2.2.2.2.2.1, uL.2.2.2.2.2.2.2.2.2.2.2.1, uL.2.2.2.2.2.2.2.2.2.2.2.2.1, uL.2.2.2.2.2.2.2.2.2.2.2.2.2.1, uL.2.2.2.2.2.2.2.2.2.2.2.2.2.2.1, uL.2.2.2.2.2.2.2.2.2.2.2.2.2.2.2.1, uL.2.2.2.2.2.2.2.2.2.2.2.2.2.2.2.2.1, uL.2.2.2.2.2.2.2.2.2.2.2.2.2.2.2.2.2) a1) (fun v1 =>
  if v1 = 0 then
    p_X5_of_5_J40 ((0 : Int32), uL.2.1, uL.2.2.1, uL.2.2.2.1, uL.2.2.2.2.1, uL.2.2.2.2.2.1, uL.2.2.2.2.2.2.1, uL.2.2.2.2.2.2.2.1, uL.2.2.2.2.2.2.2.2.1, uL.2.2.2.2.2.2.2.2.2.1, uL.2.2.2.2.2.2.2.2.2.2.1, uL.2.2.2.2.2.2.2.2.2.2.2.1, uL.2.2.2.2.2.2.2.2.2.2.2.2.1, uL.2.2.2.2.2.2.2.2.2.2.2.2.2.1, uL.2.2.2.2.2.2.2.2.2.2.2.2.2.2.1, uL.2.2.2.2.2.2.2.2.2.2.2.2.2.2.2.1, uL.2.2.2.2.2.2.2.2.2.2.2.2.2.2.2.2.1, uL.2.2.2.2.2.2.2.2.2.2.2.2.2.2.2.2.2)
  else
    gd a1 12 (
    bd (p_X5_isIn a2 (0 : Int32) ((uL.2.2.2.2.1 a1.toNatClampNeg) - (1 : Int32))) (fun v3 =>
    if v3 = 0 then
      p_X5_of_5_J40 ((0 : Int32), uL.2.1, uL.2.2.1, uL.2.2.2.1, uL.2.2.2.2.1, uL.2.2.2.2.2.1, uL.2.2.2.2.2.2.1, uL.2.2.2.2.2.2.2.1, uL.2.2.2.2.2.2.2.2.1, uL.2.2.2.2.2.2.2.2.2.1, uL.2.2.2.2.2.2.2.2.2.2.1, uL.2.2.2.2.2.2.2.2.2.2.2.1, uL.2.2.2.2.2.2.2.2.2.2.2.2.1, uL.2.2.2.2.2.2.2.2.2.2.2.2.2.1, uL.2.2.2.2.2.2.2.2.2.2.2.2.2.2.1, uL.2.2.2.2.2.2.2.2.2.2.2.2.2.2.2.1, uL.2.2.2.2.2.2.2.2.2.2.2.2.2.2.2.2.1, uL.2.2.2.2.2.2.2.2.2.2.2.2.2.2.2.2.2)
    else
      gd (((9 : Int32) * a1) + a2) 108 (
      some ((uL.2.2.2.2.2.1 (((9 : Int32) * a1) + a2).toNatClampNeg), ((0 : Int32), uL.2.1, uL.2.2.1, uL.2.2.2.1, uL.2.2.2.2.1, uL.2.2.2.2.2.1, uL.2.2.2.2.2.2.1, uL.2.2.2.2.2.2.2.1, uL.2.2.2.2.2.2.2.2.1, uL.2.2.2.2.2.2.2.2.2.1, uL.2.2.2.2.2.2.2.2.2.2.1, uL.2.2.2.2.2.2.2.2.2.2.2.1, uL.2.2.2.2.2.2.2.2.2.2.2.2.1, uL.2.2.2.2.2.2.2.2.2.2.2.2.2.1, uL.2.2.2.2.2.2.2.2.2.2.2.2.2.2.1, uL.2.2.2.2.2.2.2.2.2.2.2.2.2.2.2.1, uL.2.2.2.2.2.2.2.2.2.2.2.2.2.2.2.2.1, uL.2.2.2.2.2.2.2.2.2.2.2.2.2.2.2.2.2))))))
set_option maxHeartbeats 4000000 in
set_option maxRecDepth 100000 in
theorem c_X5_of_5 (l : Launch) (dC : Nat → ClassId) (dI : Nat → Nat → Nat) (cI cZ : ClassId) (l0 l4 l5 l6 l8 l10 l11 l12 l13 l14 l15 l16 : Nat) (sz : Nat) (uL : tX5) (a1 : Int32) (a2 : Int32) {z : (Int32 × tX5)} (hok : p_X5_of_5 uL a1 a2 = some z) : Met l yX5_of (Cond.code yX5_of cX5_of 4 (some .int) :: lw_all) { frames := 2, cells := 0, slots := 0, locals := 43 } (prW (dC, dI) vwCl (TYS cI cZ) ((wX5 cI cZ l0 l4 l5 l6 l8 l10 l11 l12 l13 l14 l15 l16 uL)) sz [.ref l0, .int a1, .int a2, .ref l5]) (va_Qi (fun (r : Int32) (_ : Unit) => r = z.1) (fun _ t => va_P (dC, dI) vwCl ((wX5 cI cZ l0 l4 l5 l6 l8 l10 l11 l12 l13 l14 l15 l16 z.2)) t.heap) (va_A ((wX5 cI cZ l0 l4 l5 l6 l8 l10 l11 l12 l13 l14 l15 l16 uL)) sz)) 0 0 (va_A ((wX5 cI cZ l0 l4 l5 l6 l8 l10 l11 l12 l13 l14 l15 l16 uL)) sz) := by
  refine oM (by decide) (Nat.le_of_ble_eq_true rfl) ?_
  intro p e s m args below meth c S hr hlk hnm hB ls hl
  have hx := S.1
  have hb := S.2.1
  have hml := S.2.2.1
  have hown : s.vm.findClass RX5 = some m.cls := S.2.2.2.1
  have hts := S.2.2.2.2
  have S : CallFix p m c cX5_of 4 s args lw_all RX5 := S
  have hl : lv_has ls 4 [(0, .ref l0), (1, .int a1), (2, .int a2), (3, .ref l5)] := hl
  obtain ⟨hsz, hP, hK, hD0⟩ := hB
  subst hsz
  have hD := hD0.self (sz := s.heap.size)
  generalize hAe : va_A ((wX5 cI cZ l0 l4 l5 l6 l8 l10 l11 l12 l13 l14 l15 l16 uL)) s.heap.size = A at hD ⊢
  have hA : ∀ q : Nat, s.heap.size ≤ q → A q := fun q h => by rw [← hAe]; exact Or.inr h
  have hS : va_S A s.heap s.heap [] := va_S.rf
  have hP : va_P (dC, dI) vwCl ((wX5 cI cZ l0 l4 l5 l6 l8 l10 l11 l12 l13 l14 l15 l16 uL)) s.heap := hP
  have J40 : ∀ (uL : tX5) (H : Heap) (locs : List Loc) (hP : va_P (dC, dI) vwCl ((wX5 cI cZ l0 l4 l5 l6 l8 l10 l11 l12 l13 l14 l15 l16 uL)) H) (hD : va_D A ((wX5 cI cZ l0 l4 l5 l6 l8 l10 l11 l12 l13 l14 l15 l16 uL))) (hS : va_S A s.heap H locs) (ls : Array Slot) (hl : lv_has ls 4 [(0, .ref l0)]) (hok : p_X5_of_5_J40 uL = some z), W p l e { frames := 2, cells := 0, slots := 0, locals := 43 } s m args below meth c H locs 0 0 (MQ below (va_Qi (fun (r : Int32) (_ : Unit) => r = z.1) (fun _ t => va_P (dC, dI) vwCl ((wX5 cI cZ l0 l4 l5 l6 l8 l10 l11 l12 l13 l14 l15 l16 z.2)) t.heap) A) args s 0 0 A) (F0 m 40 ls []) := by
    intro uL H locs hP hD hS ls hl hok
    unfold p_X5_of_5_J40 at hok
    refine lv_aload_n hx hb dX5_of_40 rfl (lv_at hl 0 rfl) ?_
    refine lv_iconst (v := (1 : Int32)) hx hb dX5_of_41 (by decide) ?_
    obtain ⟨v5, hc5, hok⟩ := bd_some hok
    refine cWVi (ci := 5) (q0 := 0) [.int (1 : Int32)] S hK hP hD hS hA (c_X5_fail l dC dI cI cZ l0 l4 l5 l6 l8 l10 l11 l12 l13 l14 l15 l16 _ uL (1 : Int32) hc5) (lw_V qm_X5_112 qi_X5_fail qs_X5_fail qn_X5 qc_X5_fail) hd_X5_fail ⟨rfl, rfl⟩ ⟨Nat.le_of_ble_eq_true rfl, Nat.le_of_ble_eq_true rfl⟩ ⟨Nat.le_of_ble_eq_true rfl, Nat.le_of_ble_eq_true rfl⟩ rfl rfl rfl hl.1 (Nat.le_of_ble_eq_true rfl) rfl dX5_of_42 (D_L hD) (fun H locs hP hD hS => ?_)
    have hok := Option.some.inj hok
    subst hok
    exact eWi S hr hlk rfl hP hS (Nat.le_of_ble_eq_true rfl) (Nat.le_of_ble_eq_true rfl) dX5_of_45
  unfold p_X5_of_5 at hok
  refine lv_aload_n hx hb dX5_of_0 rfl (lv_at hl 0 rfl) ?_
  refine lv_iconst (v := (0 : Int32)) hx hb dX5_of_1 (by decide) ?_
  refine va_put (D := (dC, dI)) (ci := 5) (v := .int (0 : Int32)) (ty := .int) (C := RX5) (T := TX5) (N := 18) hx hb hts inX5 tyX5 tyX5_ok nmX5 hown hK hP hD hS 0 rfl rfl 0 (by decide) (hts _ qf_X5_50) (fun _ h9 => h9) rfl (tyX5_ok 0 (by decide)) rfl rfl (Nat.le_of_ble_eq_true rfl) dX5_of_2 (fun H locs hP _ hS => ?_)
  have hP : va_P (dC, dI) vwCl ((wX5 cI cZ l0 l4 l5 l6 l8 l10 l11 l12 l13 l14 l15 l16 ((0 : Int32), uL.2.1, uL.2.2.1, uL.2.2.2.1, uL.2.2.2.2.1, uL.2.2.2.2.2.1, uL.2.2.2.2.2.2.1, uL.2.2.2.2.2.2.2.1, uL.2.2.2.2.2.2.2.2.1, uL.2.2.2.2.2.2.2.2.2.1, uL.2.2.2.2.2.2.2.2.2.2.1, uL.2.2.2.2.2.2.2.2.2.2.2.1, uL.2.2.2.2.2.2.2.2.2.2.2.2.1, uL.2.2.2.2.2.2.2.2.2.2.2.2.2.1, uL.2.2.2.2.2.2.2.2.2.2.2.2.2.2.1, uL.2.2.2.2.2.2.2.2.2.2.2.2.2.2.2.1, uL.2.2.2.2.2.2.2.2.2.2.2.2.2.2.2.2.1, uL.2.2.2.2.2.2.2.2.2.2.2.2.2.2.2.2.2))) H := hP
  have hD : va_D A ((wX5 cI cZ l0 l4 l5 l6 l8 l10 l11 l12 l13 l14 l15 l16 ((0 : Int32), uL.2.1, uL.2.2.1, uL.2.2.2.1, uL.2.2.2.2.1, uL.2.2.2.2.2.1, uL.2.2.2.2.2.2.1, uL.2.2.2.2.2.2.2.1, uL.2.2.2.2.2.2.2.2.1, uL.2.2.2.2.2.2.2.2.2.1, uL.2.2.2.2.2.2.2.2.2.2.1, uL.2.2.2.2.2.2.2.2.2.2.2.1, uL.2.2.2.2.2.2.2.2.2.2.2.2.1, uL.2.2.2.2.2.2.2.2.2.2.2.2.2.1, uL.2.2.2.2.2.2.2.2.2.2.2.2.2.2.1, uL.2.2.2.2.2.2.2.2.2.2.2.2.2.2.2.1, uL.2.2.2.2.2.2.2.2.2.2.2.2.2.2.2.2.1, uL.2.2.2.2.2.2.2.2.2.2.2.2.2.2.2.2.2))) := D_L hD
  refine lv_aload_n hx hb dX5_of_5 rfl (lv_at hl 0 rfl) ?_
  refine lv_iload_n hx hb dX5_of_6 rfl (lv_at hl 1 rfl) ?_
  obtain ⟨v1, hc1, hok⟩ := bd_some hok
  refine cRVi (ci := 5) (q0 := 0) [.int a1] S hK hP (c_X5_isFloor l dC dI cI cZ l0 l4 l5 l6 l8 l10 l11 l12 l13 l14 l15 l16 ((0 : Int32), uL.2.1, uL.2.2.1, uL.2.2.2.1, uL.2.2.2.2.1, uL.2.2.2.2.2.1, uL.2.2.2.2.2.2.1, uL.2.2.2.2.2.2.2.1, uL.2.2.2.2.2.2.2.2.1, uL.2.2.2.2.2.2.2.2.2.1, uL.2.2.2.2.2.2.2.2.2.2.1, uL.2.2.2.2.2.2.2.2.2.2.2.1, uL.2.2.2.2.2.2.2.2.2.2.2.2.1, uL.2.2.2.2.2.2.2.2.2.2.2.2.2.1, uL.2.2.2.2.2.2.2.2.2.2.2.2.2.2.1, uL.2.2.2.2.2.2.2.2.2.2.2.2.2.2.2.1, uL.2.2.2.2.2.2.2.2.2.2.2.2.2.2.2.2.1, uL.2.2.2.2.2.2.2.2.2.2.2.2.2.2.2.2.2) a1 hc1) (lw_V qm_X5_93 qi_X5_isFloor qs_X5_isFloor qn_X5 qc_X5_isFloor) hd_X5_isFloor ⟨rfl, rfl⟩ ⟨Nat.le_of_ble_eq_true rfl, Nat.le_of_ble_eq_true rfl⟩ ⟨Nat.le_of_ble_eq_true rfl, Nat.le_of_ble_eq_true rfl⟩ rfl rfl rfl hl.1 (Nat.le_of_ble_eq_true rfl) rfl dX5_of_7 ?_
  refine lv_if_eq (tgt := 40) hx hb dX5_of_10 (by decide) (fun hc => ?_) (fun hc => ?_)
  · have hok := ip hok hc
    exact J40 ((0 : Int32), uL.2.1, uL.2.2.1, uL.2.2.2.1, uL.2.2.2.2.1, uL.2.2.2.2.2.1, uL.2.2.2.2.2.2.1, uL.2.2.2.2.2.2.2.1, uL.2.2.2.2.2.2.2.2.1, uL.2.2.2.2.2.2.2.2.2.1, uL.2.2.2.2.2.2.2.2.2.2.1, uL.2.2.2.2.2.2.2.2.2.2.2.1, uL.2.2.2.2.2.2.2.2.2.2.2.2.1, uL.2.2.2.2.2.2.2.2.2.2.2.2.2.1, uL.2.2.2.2.2.2.2.2.2.2.2.2.2.2.1, uL.2.2.2.2.2.2.2.2.2.2.2.2.2.2.2.1, uL.2.2.2.2.2.2.2.2.2.2.2.2.2.2.2.2.1, uL.2.2.2.2.2.2.2.2.2.2.2.2.2.2.2.2.2) _ _ hP hD hS _ (lv_sub hl [0] rfl) hok
  · have hok := iq hok hc
    refine lv_iload_n hx hb dX5_of_13 rfl (lv_at hl 2 rfl) ?_
    refine lv_iconst (v := (0 : Int32)) hx hb dX5_of_14 (by decide) ?_
    refine lv_aload_n hx hb dX5_of_15 rfl (lv_at hl 0 rfl) ?_
    refine va_get (D := (dC, dI)) (ci := 5) (v := .ref l4) (C := RX5) (T := TX5) (N := 18) hx hb hts inX5 hown hK hP 0 rfl rfl 4 (by decide) (hts _ qf_X5_16) (fun _ h9 => h9) rfl dX5_of_16 ?_
    refine lv_iload_n hx hb dX5_of_19 rfl (lv_at hl 1 rfl) ?_
    obtain ⟨hi2, hok⟩ := gd_some hok
    refine va_iald hx hb hK hP 1 0 rfl rfl hi2 dX5_of_20 ?_
    refine lv_iconst (v := (1 : Int32)) hx hb dX5_of_21 (by decide) ?_
    refine lv_isub hx hb dX5_of_22 ?_
    obtain ⟨v3, hc3, hok⟩ := bd_some hok
    refine cRSi [.int a2, .int (0 : Int32), .int ((uL.2.2.2.2.1 a1.toNatClampNeg) - (1 : Int32))] S hK va_Pnil (c_X5_isIn l dC dI cI cZ a2 (0 : Int32) ((uL.2.2.2.2.1 a1.toNatClampNeg) - (1 : Int32)) hc3) (lw_S qm_X5_53 qt_X5_isIn qn_X5 qc_X5_isIn) hd_X5_isIn ⟨rfl, rfl⟩ ⟨Nat.le_of_ble_eq_true rfl, Nat.le_of_ble_eq_true rfl⟩ ⟨Nat.le_of_ble_eq_true rfl, Nat.le_of_ble_eq_true rfl⟩ rfl hl.1 (Nat.le_of_ble_eq_true rfl) rfl dX5_of_23 ?_
    refine lv_if_eq (tgt := 40) hx hb dX5_of_26 (by decide) (fun hc => ?_) (fun hc => ?_)
    · have hok := ip hok hc
      exact J40 ((0 : Int32), uL.2.1, uL.2.2.1, uL.2.2.2.1, uL.2.2.2.2.1, uL.2.2.2.2.2.1, uL.2.2.2.2.2.2.1, uL.2.2.2.2.2.2.2.1, uL.2.2.2.2.2.2.2.2.1, uL.2.2.2.2.2.2.2.2.2.1, uL.2.2.2.2.2.2.2.2.2.2.1, uL.2.2.2.2.2.2.2.2.2.2.2.1, uL.2.2.2.2.2.2.2.2.2.2.2.2.1, uL.2.2.2.2.2.2.2.2.2.2.2.2.2.1, uL.2.2.2.2.2.2.2.2.2.2.2.2.2.2.1, uL.2.2.2.2.2.2.2.2.2.2.2.2.2.2.2.1, uL.2.2.2.2.2.2.2.2.2.2.2.2.2.2.2.2.1, uL.2.2.2.2.2.2.2.2.2.2.2.2.2.2.2.2.2) _ _ hP hD hS _ (lv_sub hl [0] rfl) hok
    · have hok := iq hok hc
      refine lv_aload_n hx hb dX5_of_29 rfl (lv_at hl 3 rfl) ?_
      refine lv_bipush (v := (9 : Int32)) hx hb dX5_of_30 (by decide) ?_
      refine lv_iload_n hx hb dX5_of_32 rfl (lv_at hl 1 rfl) ?_
      refine lv_imul hx hb dX5_of_33 ?_
      refine lv_iload_n hx hb dX5_of_34 rfl (lv_at hl 2 rfl) ?_
      refine lv_iadd hx hb dX5_of_35 ?_
      obtain ⟨hi4, hok⟩ := gd_some hok
      refine va_iald hx hb hK hP 2 0 rfl rfl hi4 dX5_of_36 ?_
      refine lv_goto (tgt := 45) hx hb dX5_of_37 (by decide) ?_
      have hok := Option.some.inj hok
      subst hok
      exact eWi S hr hlk rfl hP hS (Nat.le_of_ble_eq_true rfl) (Nat.le_of_ble_eq_true rfl) dX5_of_45
def p_X5_of_6_J40 (uL : tX5) : Option (Int32 × tX5) :=
  bd (p_X5_fail uL (1 : Int32)) (fun v5 =>
  some (v5.1, v5.2))
def p_X5_of_6 (uL : tX5) (a1 : Int32) (a2 : Int32) : Option (Int32 × tX5) :=
  bd (p_X5_isFloor ((0 : Int32), uL.2.1, uL.2.2.1, uL.2.2.2.1, uL.2.2.2.2.1, uL.2.2.2.2.2.1, uL.2.2.2.2.2.2.1, uL.2.2.2.2.2.2.2.1, uL.2.2.2.2.2.2.2.2.1, uL.2.2.2.2.2.2.2.2.2.1, uL.2.2.2.2.2.2.2.2.2.2.1, uL.2.2.2.2.2.2.2.2.2.2.2.1, uL.2.2.2.2.2.2.2.2.2.2.2.2.1, uL.2.2.2.2.2.2.2.2.2.2.2.2.2.1, uL.2.2.2.2.2.2.2.2.2.2.2.2.2.2.1, uL.2.2.2.2.2.2.2.2.2.2.2.2.2.2.2.1, uL.2.2.2.2.2.2.2.2.2.2.2.2.2.2.2.2.1, uL.2.2.2.2.2.2.2.2.2.2.2.2.2.2.2.2.2) a1) (fun v1 =>
  if v1 = 0 then
    p_X5_of_6_J40 ((0 : Int32), uL.2.1, uL.2.2.1, uL.2.2.2.1, uL.2.2.2.2.1, uL.2.2.2.2.2.1, uL.2.2.2.2.2.2.1, uL.2.2.2.2.2.2.2.1, uL.2.2.2.2.2.2.2.2.1, uL.2.2.2.2.2.2.2.2.2.1, uL.2.2.2.2.2.2.2.2.2.2.1, uL.2.2.2.2.2.2.2.2.2.2.2.1, uL.2.2.2.2.2.2.2.2.2.2.2.2.1, uL.2.2.2.2.2.2.2.2.2.2.2.2.2.1, uL.2.2.2.2.2.2.2.2.2.2.2.2.2.2.1, uL.2.2.2.2.2.2.2.2.2.2.2.2.2.2.2.1, uL.2.2.2.2.2.2.2.2.2.2.2.2.2.2.2.2.1, uL.2.2.2.2.2.2.2.2.2.2.2.2.2.2.2.2.2)
  else
    gd a1 12 (
    bd (p_X5_isIn a2 (0 : Int32) ((uL.2.2.2.2.1 a1.toNatClampNeg) - (1 : Int32))) (fun v3 =>
    if v3 = 0 then
      p_X5_of_6_J40 ((0 : Int32), uL.2.1, uL.2.2.1, uL.2.2.2.1, uL.2.2.2.2.1, uL.2.2.2.2.2.1, uL.2.2.2.2.2.2.1, uL.2.2.2.2.2.2.2.1, uL.2.2.2.2.2.2.2.2.1, uL.2.2.2.2.2.2.2.2.2.1, uL.2.2.2.2.2.2.2.2.2.2.1, uL.2.2.2.2.2.2.2.2.2.2.2.1, uL.2.2.2.2.2.2.2.2.2.2.2.2.1, uL.2.2.2.2.2.2.2.2.2.2.2.2.2.1, uL.2.2.2.2.2.2.2.2.2.2.2.2.2.2.1, uL.2.2.2.2.2.2.2.2.2.2.2.2.2.2.2.1, uL.2.2.2.2.2.2.2.2.2.2.2.2.2.2.2.2.1, uL.2.2.2.2.2.2.2.2.2.2.2.2.2.2.2.2.2)
    else
      gd (((9 : Int32) * a1) + a2) 108 (
      some ((uL.2.2.2.2.2.2.1 (((9 : Int32) * a1) + a2).toNatClampNeg), ((0 : Int32), uL.2.1, uL.2.2.1, uL.2.2.2.1, uL.2.2.2.2.1, uL.2.2.2.2.2.1, uL.2.2.2.2.2.2.1, uL.2.2.2.2.2.2.2.1, uL.2.2.2.2.2.2.2.2.1, uL.2.2.2.2.2.2.2.2.2.1, uL.2.2.2.2.2.2.2.2.2.2.1, uL.2.2.2.2.2.2.2.2.2.2.2.1, uL.2.2.2.2.2.2.2.2.2.2.2.2.1, uL.2.2.2.2.2.2.2.2.2.2.2.2.2.1, uL.2.2.2.2.2.2.2.2.2.2.2.2.2.2.1, uL.2.2.2.2.2.2.2.2.2.2.2.2.2.2.2.1, uL.2.2.2.2.2.2.2.2.2.2.2.2.2.2.2.2.1, uL.2.2.2.2.2.2.2.2.2.2.2.2.2.2.2.2.2))))))
set_option maxHeartbeats 4000000 in
set_option maxRecDepth 100000 in
theorem c_X5_of_6 (l : Launch) (dC : Nat → ClassId) (dI : Nat → Nat → Nat) (cI cZ : ClassId) (l0 l4 l5 l6 l8 l10 l11 l12 l13 l14 l15 l16 : Nat) (sz : Nat) (uL : tX5) (a1 : Int32) (a2 : Int32) {z : (Int32 × tX5)} (hok : p_X5_of_6 uL a1 a2 = some z) : Met l yX5_of (Cond.code yX5_of cX5_of 4 (some .int) :: lw_all) { frames := 2, cells := 0, slots := 0, locals := 43 } (prW (dC, dI) vwCl (TYS cI cZ) ((wX5 cI cZ l0 l4 l5 l6 l8 l10 l11 l12 l13 l14 l15 l16 uL)) sz [.ref l0, .int a1, .int a2, .ref l6]) (va_Qi (fun (r : Int32) (_ : Unit) => r = z.1) (fun _ t => va_P (dC, dI) vwCl ((wX5 cI cZ l0 l4 l5 l6 l8 l10 l11 l12 l13 l14 l15 l16 z.2)) t.heap) (va_A ((wX5 cI cZ l0 l4 l5 l6 l8 l10 l11 l12 l13 l14 l15 l16 uL)) sz)) 0 0 (va_A ((wX5 cI cZ l0 l4 l5 l6 l8 l10 l11 l12 l13 l14 l15 l16 uL)) sz) := by
  refine oM (by decide) (Nat.le_of_ble_eq_true rfl) ?_
  intro p e s m args below meth c S hr hlk hnm hB ls hl
  have hx := S.1
  have hb := S.2.1
  have hml := S.2.2.1
  have hown : s.vm.findClass RX5 = some m.cls := S.2.2.2.1
  have hts := S.2.2.2.2
  have S : CallFix p m c cX5_of 4 s args lw_all RX5 := S
  have hl : lv_has ls 4 [(0, .ref l0), (1, .int a1), (2, .int a2), (3, .ref l6)] := hl
  obtain ⟨hsz, hP, hK, hD0⟩ := hB
  subst hsz
  have hD := hD0.self (sz := s.heap.size)
  generalize hAe : va_A ((wX5 cI cZ l0 l4 l5 l6 l8 l10 l11 l12 l13 l14 l15 l16 uL)) s.heap.size = A at hD ⊢
  have hA : ∀ q : Nat, s.heap.size ≤ q → A q := fun q h => by rw [← hAe]; exact Or.inr h
  have hS : va_S A s.heap s.heap [] := va_S.rf
  have hP : va_P (dC, dI) vwCl ((wX5 cI cZ l0 l4 l5 l6 l8 l10 l11 l12 l13 l14 l15 l16 uL)) s.heap := hP
  have J40 : ∀ (uL : tX5) (H : Heap) (locs : List Loc) (hP : va_P (dC, dI) vwCl ((wX5 cI cZ l0 l4 l5 l6 l8 l10 l11 l12 l13 l14 l15 l16 uL)) H) (hD : va_D A ((wX5 cI cZ l0 l4 l5 l6 l8 l10 l11 l12 l13 l14 l15 l16 uL))) (hS : va_S A s.heap H locs) (ls : Array Slot) (hl : lv_has ls 4 [(0, .ref l0)]) (hok : p_X5_of_6_J40 uL = some z), W p l e { frames := 2, cells := 0, slots := 0, locals := 43 } s m args below meth c H locs 0 0 (MQ below (va_Qi (fun (r : Int32) (_ : Unit) => r = z.1) (fun _ t => va_P (dC, dI) vwCl ((wX5 cI cZ l0 l4 l5 l6 l8 l10 l11 l12 l13 l14 l15 l16 z.2)) t.heap) A) args s 0 0 A) (F0 m 40 ls []) := by
    intro uL H locs hP hD hS ls hl hok
    unfold p_X5_of_6_J40 at hok
    refine lv_aload_n hx hb dX5_of_40 rfl (lv_at hl 0 rfl) ?_
    refine lv_iconst (v := (1 : Int32)) hx hb dX5_of_41 (by decide) ?_
    obtain ⟨v5, hc5, hok⟩ := bd_some hok
    refine cWVi (ci := 5) (q0 := 0) [.int (1 : Int32)] S hK hP hD hS hA (c_X5_fail l dC dI cI cZ l0 l4 l5 l6 l8 l10 l11 l12 l13 l14 l15 l16 _ uL (1 : Int32) hc5) (lw_V qm_X5_112 qi_X5_fail qs_X5_fail qn_X5 qc_X5_fail) hd_X5_fail ⟨rfl, rfl⟩ ⟨Nat.le_of_ble_eq_true rfl, Nat.le_of_ble_eq_true rfl⟩ ⟨Nat.le_of_ble_eq_true rfl, Nat.le_of_ble_eq_true rfl⟩ rfl rfl rfl hl.1 (Nat.le_of_ble_eq_true rfl) rfl dX5_of_42 (D_L hD) (fun H locs hP hD hS => ?_)
    have hok := Option.some.inj hok
    subst hok
    exact eWi S hr hlk rfl hP hS (Nat.le_of_ble_eq_true rfl) (Nat.le_of_ble_eq_true rfl) dX5_of_45
  unfold p_X5_of_6 at hok
  refine lv_aload_n hx hb dX5_of_0 rfl (lv_at hl 0 rfl) ?_
  refine lv_iconst (v := (0 : Int32)) hx hb dX5_of_1 (by decide) ?_
  refine va_put (D := (dC, dI)) (ci := 5) (v := .int (0 : Int32)) (ty := .int) (C := RX5) (T := TX5) (N := 18) hx hb hts inX5 tyX5 tyX5_ok nmX5 hown hK hP hD hS 0 rfl rfl 0 (by decide) (hts _ qf_X5_50) (fun _ h9 => h9) rfl (tyX5_ok 0 (by decide)) rfl rfl (Nat.le_of_ble_eq_true rfl) dX5_of_2 (fun H locs hP _ hS => ?_)
  have hP : va_P (dC, dI) vwCl ((wX5 cI cZ l0 l4 l5 l6 l8 l10 l11 l12 l13 l14 l15 l16 ((0 : Int32), uL.2.1, uL.2.2.1, uL.2.2.2.1, uL.2.2.2.2.1, uL.2.2.2.2.2.1, uL.2.2.2.2.2.2.1, uL.2.2.2.2.2.2.2.1, uL.2.2.2.2.2.2.2.2.1, uL.2.2.2.2.2.2.2.2.2.1, uL.2.2.2.2.2.2.2.2.2.2.1, uL.2.2.2.2.2.2.2.2.2.2.2.1, uL.2.2.2.2.2.2.2.2.2.2.2.2.1, uL.2.2.2.2.2.2.2.2.2.2.2.2.2.1, uL.2.2.2.2.2.2.2.2.2.2.2.2.2.2.1, uL.2.2.2.2.2.2.2.2.2.2.2.2.2.2.2.1, uL.2.2.2.2.2.2.2.2.2.2.2.2.2.2.2.2.1, uL.2.2.2.2.2.2.2.2.2.2.2.2.2.2.2.2.2))) H := hP
  have hD : va_D A ((wX5 cI cZ l0 l4 l5 l6 l8 l10 l11 l12 l13 l14 l15 l16 ((0 : Int32), uL.2.1, uL.2.2.1, uL.2.2.2.1, uL.2.2.2.2.1, uL.2.2.2.2.2.1, uL.2.2.2.2.2.2.1, uL.2.2.2.2.2.2.2.1, uL.2.2.2.2.2.2.2.2.1, uL.2.2.2.2.2.2.2.2.2.1, uL.2.2.2.2.2.2.2.2.2.2.1, uL.2.2.2.2.2.2.2.2.2.2.2.1, uL.2.2.2.2.2.2.2.2.2.2.2.2.1, uL.2.2.2.2.2.2.2.2.2.2.2.2.2.1, uL.2.2.2.2.2.2.2.2.2.2.2.2.2.2.1, uL.2.2.2.2.2.2.2.2.2.2.2.2.2.2.2.1, uL.2.2.2.2.2.2.2.2.2.2.2.2.2.2.2.2.1, uL.2.2.2.2.2.2.2.2.2.2.2.2.2.2.2.2.2))) := D_L hD
  refine lv_aload_n hx hb dX5_of_5 rfl (lv_at hl 0 rfl) ?_
  refine lv_iload_n hx hb dX5_of_6 rfl (lv_at hl 1 rfl) ?_
  obtain ⟨v1, hc1, hok⟩ := bd_some hok
  refine cRVi (ci := 5) (q0 := 0) [.int a1] S hK hP (c_X5_isFloor l dC dI cI cZ l0 l4 l5 l6 l8 l10 l11 l12 l13 l14 l15 l16 ((0 : Int32), uL.2.1, uL.2.2.1, uL.2.2.2.1, uL.2.2.2.2.1, uL.2.2.2.2.2.1, uL.2.2.2.2.2.2.1, uL.2.2.2.2.2.2.2.1, uL.2.2.2.2.2.2.2.2.1, uL.2.2.2.2.2.2.2.2.2.1, uL.2.2.2.2.2.2.2.2.2.2.1, uL.2.2.2.2.2.2.2.2.2.2.2.1, uL.2.2.2.2.2.2.2.2.2.2.2.2.1, uL.2.2.2.2.2.2.2.2.2.2.2.2.2.1, uL.2.2.2.2.2.2.2.2.2.2.2.2.2.2.1, uL.2.2.2.2.2.2.2.2.2.2.2.2.2.2.2.1, uL.2.2.2.2.2.2.2.2.2.2.2.2.2.2.2.2.1, uL.2.2.2.2.2.2.2.2.2.2.2.2.2.2.2.2.2) a1 hc1) (lw_V qm_X5_93 qi_X5_isFloor qs_X5_isFloor qn_X5 qc_X5_isFloor) hd_X5_isFloor ⟨rfl, rfl⟩ ⟨Nat.le_of_ble_eq_true rfl, Nat.le_of_ble_eq_true rfl⟩ ⟨Nat.le_of_ble_eq_true rfl, Nat.le_of_ble_eq_true rfl⟩ rfl rfl rfl hl.1 (Nat.le_of_ble_eq_true rfl) rfl dX5_of_7 ?_
  refine lv_if_eq (tgt := 40) hx hb dX5_of_10 (by decide) (fun hc => ?_) (fun hc => ?_)
  · have hok := ip hok hc
    exact J40 ((0 : Int32), uL.2.1, uL.2.2.1, uL.2.2.2.1, uL.2.2.2.2.1, uL.2.2.2.2.2.1, uL.2.2.2.2.2.2.1, uL.2.2.2.2.2.2.2.1, uL.2.2.2.2.2.2.2.2.1, uL.2.2.2.2.2.2.2.2.2.1, uL.2.2.2.2.2.2.2.2.2.2.1, uL.2.2.2.2.2.2.2.2.2.2.2.1, uL.2.2.2.2.2.2.2.2.2.2.2.2.1, uL.2.2.2.2.2.2.2.2.2.2.2.2.2.1, uL.2.2.2.2.2.2.2.2.2.2.2.2.2.2.1, uL.2.2.2.2.2.2.2.2.2.2.2.2.2.2.2.1, uL.2.2.2.2.2.2.2.2.2.2.2.2.2.2.2.2.1, uL.2.2.2.2.2.2.2.2.2.2.2.2.2.2.2.2.2) _ _ hP hD hS _ (lv_sub hl [0] rfl) hok
  · have hok := iq hok hc
    refine lv_iload_n hx hb dX5_of_13 rfl (lv_at hl 2 rfl) ?_
    refine lv_iconst (v := (0 : Int32)) hx hb dX5_of_14 (by decide) ?_
    refine lv_aload_n hx hb dX5_of_15 rfl (lv_at hl 0 rfl) ?_
    refine va_get (D := (dC, dI)) (ci := 5) (v := .ref l4) (C := RX5) (T := TX5) (N := 18) hx hb hts inX5 hown hK hP 0 rfl rfl 4 (by decide) (hts _ qf_X5_16) (fun _ h9 => h9) rfl dX5_of_16 ?_
    refine lv_iload_n hx hb dX5_of_19 rfl (lv_at hl 1 rfl) ?_
    obtain ⟨hi2, hok⟩ := gd_some hok
    refine va_iald hx hb hK hP 1 0 rfl rfl hi2 dX5_of_20 ?_
    refine lv_iconst (v := (1 : Int32)) hx hb dX5_of_21 (by decide) ?_
    refine lv_isub hx hb dX5_of_22 ?_
    obtain ⟨v3, hc3, hok⟩ := bd_some hok
    refine cRSi [.int a2, .int (0 : Int32), .int ((uL.2.2.2.2.1 a1.toNatClampNeg) - (1 : Int32))] S hK va_Pnil (c_X5_isIn l dC dI cI cZ a2 (0 : Int32) ((uL.2.2.2.2.1 a1.toNatClampNeg) - (1 : Int32)) hc3) (lw_S qm_X5_53 qt_X5_isIn qn_X5 qc_X5_isIn) hd_X5_isIn ⟨rfl, rfl⟩ ⟨Nat.le_of_ble_eq_true rfl, Nat.le_of_ble_eq_true rfl⟩ ⟨Nat.le_of_ble_eq_true rfl, Nat.le_of_ble_eq_true rfl⟩ rfl hl.1 (Nat.le_of_ble_eq_true rfl) rfl dX5_of_23 ?_
    refine lv_if_eq (tgt := 40) hx hb dX5_of_26 (by decide) (fun hc => ?_) (fun hc => ?_)
    · have hok := ip hok hc
      exact J40 ((0 : Int32), uL.2.1, uL.2.2.1, uL.2.2.2.1, uL.2.2.2.2.1, uL.2.2.2.2.2.1, uL.2.2.2.2.2.2.1, uL.2.2.2.2.2.2.2.1, uL.2.2.2.2.2.2.2.2.1, uL.2.2.2.2.2.2.2.2.2.1, uL.2.2.2.2.2.2.2.2.2.2.1, uL.2.2.2.2.2.2.2.2.2.2.2.1, uL.2.2.2.2.2.2.2.2.2.2.2.2.1, uL.2.2.2.2.2.2.2.2.2.2.2.2.2.1, uL.2.2.2.2.2.2.2.2.2.2.2.2.2.2.1, uL.2.2.2.2.2.2.2.2.2.2.2.2.2.2.2.1, uL.2.2.2.2.2.2.2.2.2.2.2.2.2.2.2.2.1, uL.2.2.2.2.2.2.2.2.2.2.2.2.2.2.2.2.2) _ _ hP hD hS _ (lv_sub hl [0] rfl) hok
    · have hok := iq hok hc
      refine lv_aload_n hx hb dX5_of_29 rfl (lv_at hl 3 rfl) ?_
      refine lv_bipush (v := (9 : Int32)) hx hb dX5_of_30 (by decide) ?_
      refine lv_iload_n hx hb dX5_of_32 rfl (lv_at hl 1 rfl) ?_
      refine lv_imul hx hb dX5_of_33 ?_
      refine lv_iload_n hx hb dX5_of_34 rfl (lv_at hl 2 rfl) ?_
      refine lv_iadd hx hb dX5_of_35 ?_
      obtain ⟨hi4, hok⟩ := gd_some hok
      refine va_iald hx hb hK hP 3 0 rfl rfl hi4 dX5_of_36 ?_
      refine lv_goto (tgt := 45) hx hb dX5_of_37 (by decide) ?_
      have hok := Option.some.inj hok
      subst hok
      exact eWi S hr hlk rfl hP hS (Nat.le_of_ble_eq_true rfl) (Nat.le_of_ble_eq_true rfl) dX5_of_45
theorem hd_X5_topicOf : yX5_topicOf.cls = RX5 ∧ yX5_topicOf.cls ≠ "java/lang/invoke/MethodHandle" ∧ yX5_topicOf.cls ≠ "java/lang/invoke/VarHandle" ∧ (parseMethodDescriptor yX5_topicOf.desc).map (fun d => d.parameters.length) = some 2 := by decide +kernel
def p_X5_topicOf (uL : tX5) (a1 : Int32) (a2 : Int32) : Option (Int32 × tX5) :=
  bd (p_X5_of_5 uL a1 a2) (fun v1 =>
  some (v1.1, v1.2))
set_option maxHeartbeats 4000000 in
set_option maxRecDepth 100000 in
theorem c_X5_topicOf (l : Launch) (dC : Nat → ClassId) (dI : Nat → Nat → Nat) (cI cZ : ClassId) (l0 l4 l5 l6 l8 l10 l11 l12 l13 l14 l15 l16 : Nat) (sz : Nat) (uL : tX5) (a1 : Int32) (a2 : Int32) {z : (Int32 × tX5)} (hok : p_X5_topicOf uL a1 a2 = some z) : Met l yX5_topicOf (Cond.code yX5_topicOf cX5_topicOf 3 (some .int) :: lw_all) { frames := 3, cells := 0, slots := 0, locals := 66 } (prW (dC, dI) vwCl (TYS cI cZ) ((wX5 cI cZ l0 l4 l5 l6 l8 l10 l11 l12 l13 l14 l15 l16 uL)) sz [.ref l0, .int a1, .int a2]) (va_Qi (fun (r : Int32) (_ : Unit) => r = z.1) (fun _ t => va_P (dC, dI) vwCl ((wX5 cI cZ l0 l4 l5 l6 l8 l10 l11 l12 l13 l14 l15 l16 z.2)) t.heap) (va_A ((wX5 cI cZ l0 l4 l5 l6 l8 l10 l11 l12 l13 l14 l15 l16 uL)) sz)) 0 0 (va_A ((wX5 cI cZ l0 l4 l5 l6 l8 l10 l11 l12 l13 l14 l15 l16 uL)) sz) := by
  refine oM (by decide) (Nat.le_of_ble_eq_true rfl) ?_
  intro p e s m args below meth c S hr hlk hnm hB ls hl
  have hx := S.1
  have hb := S.2.1
  have hml := S.2.2.1
  have hown : s.vm.findClass RX5 = some m.cls := S.2.2.2.1
  have hts := S.2.2.2.2
  have S : CallFix p m c cX5_topicOf 3 s args lw_all RX5 := S
  have hl : lv_has ls 3 [(0, .ref l0), (1, .int a1), (2, .int a2)] := hl
  obtain ⟨hsz, hP, hK, hD0⟩ := hB
  subst hsz
  have hD := hD0.self (sz := s.heap.size)
  generalize hAe : va_A ((wX5 cI cZ l0 l4 l5 l6 l8 l10 l11 l12 l13 l14 l15 l16 uL)) s.heap.size = A at hD ⊢
  have hA : ∀ q : Nat, s.heap.size ≤ q → A q := fun q h => by rw [← hAe]; exact Or.inr h
  have hS : va_S A s.heap s.heap [] := va_S.rf
  have hP : va_P (dC, dI) vwCl ((wX5 cI cZ l0 l4 l5 l6 l8 l10 l11 l12 l13 l14 l15 l16 uL)) s.heap := hP
  unfold p_X5_topicOf at hok
  refine lv_aload_n hx hb dX5_topicOf_0 rfl (lv_at hl 0 rfl) ?_
  refine lv_iload_n hx hb dX5_topicOf_1 rfl (lv_at hl 1 rfl) ?_
  refine lv_iload_n hx hb dX5_topicOf_2 rfl (lv_at hl 2 rfl) ?_
  refine lv_aload_n hx hb dX5_topicOf_3 rfl (lv_at hl 0 rfl) ?_
  refine va_get (D := (dC, dI)) (ci := 5) (v := .ref l5) (C := RX5) (T := TX5) (N := 18) hx hb hts inX5 hown hK hP 0 rfl rfl 5 (by decide) (hts _ qf_X5_20) (fun _ h9 => h9) rfl dX5_topicOf_4 ?_
  obtain ⟨v1, hc1, hok⟩ := bd_some hok
  refine cWVi (ci := 5) (q0 := 0) [.int a1, .int a2, .ref l5] S hK hP hD hS hA (c_X5_of_5 l dC dI cI cZ l0 l4 l5 l6 l8 l10 l11 l12 l13 l14 l15 l16 _ uL a1 a2 hc1) (lw_V qm_X5_130 qi_X5_of qs_X5_of qn_X5 qc_X5_of) hd_X5_of ⟨rfl, rfl⟩ ⟨Nat.le_of_ble_eq_true rfl, Nat.le_of_ble_eq_true rfl⟩ ⟨Nat.le_of_ble_eq_true rfl, Nat.le_of_ble_eq_true rfl⟩ rfl rfl rfl hl.1 (Nat.le_of_ble_eq_true rfl) rfl dX5_topicOf_7 (D_L hD) (fun H locs hP hD hS => ?_)
  have hok := Option.some.inj hok
  subst hok
  exact eWi S hr hlk rfl hP hS (Nat.le_of_ble_eq_true rfl) (Nat.le_of_ble_eq_true rfl) dX5_topicOf_10
theorem hd_X5_thrillOf : yX5_thrillOf.cls = RX5 ∧ yX5_thrillOf.cls ≠ "java/lang/invoke/MethodHandle" ∧ yX5_thrillOf.cls ≠ "java/lang/invoke/VarHandle" ∧ (parseMethodDescriptor yX5_thrillOf.desc).map (fun d => d.parameters.length) = some 2 := by decide +kernel
def p_X5_thrillOf (uL : tX5) (a1 : Int32) (a2 : Int32) : Option (Int32 × tX5) :=
  bd (p_X5_of_6 uL a1 a2) (fun v1 =>
  some (v1.1, v1.2))
set_option maxHeartbeats 4000000 in
set_option maxRecDepth 100000 in
theorem c_X5_thrillOf (l : Launch) (dC : Nat → ClassId) (dI : Nat → Nat → Nat) (cI cZ : ClassId) (l0 l4 l5 l6 l8 l10 l11 l12 l13 l14 l15 l16 : Nat) (sz : Nat) (uL : tX5) (a1 : Int32) (a2 : Int32) {z : (Int32 × tX5)} (hok : p_X5_thrillOf uL a1 a2 = some z) : Met l yX5_thrillOf (Cond.code yX5_thrillOf cX5_thrillOf 3 (some .int) :: lw_all) { frames := 3, cells := 0, slots := 0, locals := 66 } (prW (dC, dI) vwCl (TYS cI cZ) ((wX5 cI cZ l0 l4 l5 l6 l8 l10 l11 l12 l13 l14 l15 l16 uL)) sz [.ref l0, .int a1, .int a2]) (va_Qi (fun (r : Int32) (_ : Unit) => r = z.1) (fun _ t => va_P (dC, dI) vwCl ((wX5 cI cZ l0 l4 l5 l6 l8 l10 l11 l12 l13 l14 l15 l16 z.2)) t.heap) (va_A ((wX5 cI cZ l0 l4 l5 l6 l8 l10 l11 l12 l13 l14 l15 l16 uL)) sz)) 0 0 (va_A ((wX5 cI cZ l0 l4 l5 l6 l8 l10 l11 l12 l13 l14 l15 l16 uL)) sz) := by
  refine oM (by decide) (Nat.le_of_ble_eq_true rfl) ?_
  intro p e s m args below meth c S hr hlk hnm hB ls hl
  have hx := S.1
  have hb := S.2.1
  have hml := S.2.2.1
  have hown : s.vm.findClass RX5 = some m.cls := S.2.2.2.1
  have hts := S.2.2.2.2
  have S : CallFix p m c cX5_thrillOf 3 s args lw_all RX5 := S
  have hl : lv_has ls 3 [(0, .ref l0), (1, .int a1), (2, .int a2)] := hl
  obtain ⟨hsz, hP, hK, hD0⟩ := hB
  subst hsz
  have hD := hD0.self (sz := s.heap.size)
  generalize hAe : va_A ((wX5 cI cZ l0 l4 l5 l6 l8 l10 l11 l12 l13 l14 l15 l16 uL)) s.heap.size = A at hD ⊢
  have hA : ∀ q : Nat, s.heap.size ≤ q → A q := fun q h => by rw [← hAe]; exact Or.inr h
  have hS : va_S A s.heap s.heap [] := va_S.rf
  have hP : va_P (dC, dI) vwCl ((wX5 cI cZ l0 l4 l5 l6 l8 l10 l11 l12 l13 l14 l15 l16 uL)) s.heap := hP
  unfold p_X5_thrillOf at hok
  refine lv_aload_n hx hb dX5_thrillOf_0 rfl (lv_at hl 0 rfl) ?_
  refine lv_iload_n hx hb dX5_thrillOf_1 rfl (lv_at hl 1 rfl) ?_
  refine lv_iload_n hx hb dX5_thrillOf_2 rfl (lv_at hl 2 rfl) ?_
  refine lv_aload_n hx hb dX5_thrillOf_3 rfl (lv_at hl 0 rfl) ?_
  refine va_get (D := (dC, dI)) (ci := 5) (v := .ref l6) (C := RX5) (T := TX5) (N := 18) hx hb hts inX5 hown hK hP 0 rfl rfl 6 (by decide) (hts _ qf_X5_23) (fun _ h9 => h9) rfl dX5_thrillOf_4 ?_
  obtain ⟨v1, hc1, hok⟩ := bd_some hok
  refine cWVi (ci := 5) (q0 := 0) [.int a1, .int a2, .ref l6] S hK hP hD hS hA (c_X5_of_6 l dC dI cI cZ l0 l4 l5 l6 l8 l10 l11 l12 l13 l14 l15 l16 _ uL a1 a2 hc1) (lw_V qm_X5_130 qi_X5_of qs_X5_of qn_X5 qc_X5_of) hd_X5_of ⟨rfl, rfl⟩ ⟨Nat.le_of_ble_eq_true rfl, Nat.le_of_ble_eq_true rfl⟩ ⟨Nat.le_of_ble_eq_true rfl, Nat.le_of_ble_eq_true rfl⟩ rfl rfl rfl hl.1 (Nat.le_of_ble_eq_true rfl) rfl dX5_thrillOf_7 (D_L hD) (fun H locs hP hD hS => ?_)
  have hok := Option.some.inj hok
  subst hok
  exact eWi S hr hlk rfl hP hS (Nat.le_of_ble_eq_true rfl) (Nat.le_of_ble_eq_true rfl) dX5_thrillOf_10
theorem hd_X5_cutOn : yX5_cutOn.cls = RX5 ∧ yX5_cutOn.cls ≠ "java/lang/invoke/MethodHandle" ∧ yX5_cutOn.cls ≠ "java/lang/invoke/VarHandle" ∧ (parseMethodDescriptor yX5_cutOn.desc).map (fun d => d.parameters.length) = some 1 := by decide +kernel
def p_X5_cutOn (uL : tX5) (a1 : Int32) : Option (Int32 × tX5) :=
  bd (p_X5_isFloor ((0 : Int32), uL.2.1, uL.2.2.1, uL.2.2.2.1, uL.2.2.2.2.1, uL.2.2.2.2.2.1, uL.2.2.2.2.2.2.1, uL.2.2.2.2.2.2.2.1, uL.2.2.2.2.2.2.2.2.1, uL.2.2.2.2.2.2.2.2.2.1, uL.2.2.2.2.2.2.2.2.2.2.1, uL.2.2.2.2.2.2.2.2.2.2.2.1, uL.2.2.2.2.2.2.2.2.2.2.2.2.1, uL.2.2.2.2.2.2.2.2.2.2.2.2.2.1, uL.2.2.2.2.2.2.2.2.2.2.2.2.2.2.1, uL.2.2.2.2.2.2.2.2.2.2.2.2.2.2.2.1, uL.2.2.2.2.2.2.2.2.2.2.2.2.2.2.2.2.1, uL.2.2.2.2.2.2.2.2.2.2.2.2.2.2.2.2.2) a1) (fun v1 =>
  if v1 = 0 then
    bd (p_X5_fail ((0 : Int32), uL.2.1, uL.2.2.1, uL.2.2.2.1, uL.2.2.2.2.1, uL.2.2.2.2.2.1, uL.2.2.2.2.2.2.1, uL.2.2.2.2.2.2.2.1, uL.2.2.2.2.2.2.2.2.1, uL.2.2.2.2.2.2.2.2.2.1, uL.2.2.2.2.2.2.2.2.2.2.1, uL.2.2.2.2.2.2.2.2.2.2.2.1, uL.2.2.2.2.2.2.2.2.2.2.2.2.1, uL.2.2.2.2.2.2.2.2.2.2.2.2.2.1, uL.2.2.2.2.2.2.2.2.2.2.2.2.2.2.1, uL.2.2.2.2.2.2.2.2.2.2.2.2.2.2.2.1, uL.2.2.2.2.2.2.2.2.2.2.2.2.2.2.2.2.1, uL.2.2.2.2.2.2.2.2.2.2.2.2.2.2.2.2.2) (1 : Int32)) (fun v2 =>
    some (v2.1, v2.2))
  else
    gd ((21 : Int32) + a1) 41 (
    some ((uL.2.2.2.2.2.2.2.2.2.2.2.2.2.2.2.1 ((21 : Int32) + a1).toNatClampNeg), ((0 : Int32), uL.2.1, uL.2.2.1, uL.2.2.2.1, uL.2.2.2.2.1, uL.2.2.2.2.2.1, uL.2.2.2.2.2.2.1, uL.2.2.2.2.2.2.2.1, uL.2.2.2.2.2.2.2.2.1, uL.2.2.2.2.2.2.2.2.2.1, uL.2.2.2.2.2.2.2.2.2.2.1, uL.2.2.2.2.2.2.2.2.2.2.2.1, uL.2.2.2.2.2.2.2.2.2.2.2.2.1, uL.2.2.2.2.2.2.2.2.2.2.2.2.2.1, uL.2.2.2.2.2.2.2.2.2.2.2.2.2.2.1, uL.2.2.2.2.2.2.2.2.2.2.2.2.2.2.2.1, uL.2.2.2.2.2.2.2.2.2.2.2.2.2.2.2.2.1, uL.2.2.2.2.2.2.2.2.2.2.2.2.2.2.2.2.2))))
set_option maxHeartbeats 4000000 in
set_option maxRecDepth 100000 in
theorem c_X5_cutOn (l : Launch) (dC : Nat → ClassId) (dI : Nat → Nat → Nat) (cI cZ : ClassId) (l0 l4 l5 l6 l8 l10 l11 l12 l13 l14 l15 l16 : Nat) (sz : Nat) (uL : tX5) (a1 : Int32) {z : (Int32 × tX5)} (hok : p_X5_cutOn uL a1 = some z) : Met l yX5_cutOn (Cond.code yX5_cutOn cX5_cutOn 2 (some .int) :: lw_all) { frames := 2, cells := 0, slots := 0, locals := 43 } (prW (dC, dI) vwCl (TYS cI cZ) ((wX5 cI cZ l0 l4 l5 l6 l8 l10 l11 l12 l13 l14 l15 l16 uL)) sz [.ref l0, .int a1]) (va_Qi (fun (r : Int32) (_ : Unit) => r = z.1) (fun _ t => va_P (dC, dI) vwCl ((wX5 cI cZ l0 l4 l5 l6 l8 l10 l11 l12 l13 l14 l15 l16 z.2)) t.heap) (va_A ((wX5 cI cZ l0 l4 l5 l6 l8 l10 l11 l12 l13 l14 l15 l16 uL)) sz)) 0 0 (va_A ((wX5 cI cZ l0 l4 l5 l6 l8 l10 l11 l12 l13 l14 l15 l16 uL)) sz) := by
  refine oM (by decide) (Nat.le_of_ble_eq_true rfl) ?_
  intro p e s m args below meth c S hr hlk hnm hB ls hl
  have hx := S.1
  have hb := S.2.1
  have hml := S.2.2.1
  have hown : s.vm.findClass RX5 = some m.cls := S.2.2.2.1
  have hts := S.2.2.2.2
  have S : CallFix p m c cX5_cutOn 2 s args lw_all RX5 := S
  have hl : lv_has ls 2 [(0, .ref l0), (1, .int a1)] := hl
  obtain ⟨hsz, hP, hK, hD0⟩ := hB
  subst hsz
  have hD := hD0.self (sz := s.heap.size)
  generalize hAe : va_A ((wX5 cI cZ l0 l4 l5 l6 l8 l10 l11 l12 l13 l14 l15 l16 uL)) s.heap.size = A at hD ⊢
  have hA : ∀ q : Nat, s.heap.size ≤ q → A q := fun q h => by rw [← hAe]; exact Or.inr h
  have hS : va_S A s.heap s.heap [] := va_S.rf
  have hP : va_P (dC, dI) vwCl ((wX5 cI cZ l0 l4 l5 l6 l8 l10 l11 l12 l13 l14 l15 l16 uL)) s.heap := hP
  unfold p_X5_cutOn at hok
  refine lv_aload_n hx hb dX5_cutOn_0 rfl (lv_at hl 0 rfl) ?_
  refine lv_iconst (v := (0 : Int32)) hx hb dX5_cutOn_1 (by decide) ?_
  refine va_put (D := (dC, dI)) (ci := 5) (v := .int (0 : Int32)) (ty := .int) (C := RX5) (T := TX5) (N := 18) hx hb hts inX5 tyX5 tyX5_ok nmX5 hown hK hP hD hS 0 rfl rfl 0 (by decide) (hts _ qf_X5_50) (fun _ h9 => h9) rfl (tyX5_ok 0 (by decide)) rfl rfl (Nat.le_of_ble_eq_true rfl) dX5_cutOn_2 (fun H locs hP _ hS => ?_)
  have hP : va_P (dC, dI) vwCl ((wX5 cI cZ l0 l4 l5 l6 l8 l10 l11 l12 l13 l14 l15 l16 ((0 : Int32), uL.2.1, uL.2.2.1, uL.2.2.2.1, uL.2.2.2.2.1, uL.2.2.2.2.2.1, uL.2.2.2.2.2.2.1, uL.2.2.2.2.2.2.2.1, uL.2.2.2.2.2.2.2.2.1, uL.2.2.2.2.2.2.2.2.2.1, uL.2.2.2.2.2.2.2.2.2.2.1, uL.2.2.2.2.2.2.2.2.2.2.2.1, uL.2.2.2.2.2.2.2.2.2.2.2.2.1, uL.2.2.2.2.2.2.2.2.2.2.2.2.2.1, uL.2.2.2.2.2.2.2.2.2.2.2.2.2.2.1, uL.2.2.2.2.2.2.2.2.2.2.2.2.2.2.2.1, uL.2.2.2.2.2.2.2.2.2.2.2.2.2.2.2.2.1, uL.2.2.2.2.2.2.2.2.2.2.2.2.2.2.2.2.2))) H := hP
  have hD : va_D A ((wX5 cI cZ l0 l4 l5 l6 l8 l10 l11 l12 l13 l14 l15 l16 ((0 : Int32), uL.2.1, uL.2.2.1, uL.2.2.2.1, uL.2.2.2.2.1, uL.2.2.2.2.2.1, uL.2.2.2.2.2.2.1, uL.2.2.2.2.2.2.2.1, uL.2.2.2.2.2.2.2.2.1, uL.2.2.2.2.2.2.2.2.2.1, uL.2.2.2.2.2.2.2.2.2.2.1, uL.2.2.2.2.2.2.2.2.2.2.2.1, uL.2.2.2.2.2.2.2.2.2.2.2.2.1, uL.2.2.2.2.2.2.2.2.2.2.2.2.2.1, uL.2.2.2.2.2.2.2.2.2.2.2.2.2.2.1, uL.2.2.2.2.2.2.2.2.2.2.2.2.2.2.2.1, uL.2.2.2.2.2.2.2.2.2.2.2.2.2.2.2.2.1, uL.2.2.2.2.2.2.2.2.2.2.2.2.2.2.2.2.2))) := D_L hD
  refine lv_aload_n hx hb dX5_cutOn_5 rfl (lv_at hl 0 rfl) ?_
  refine lv_iload_n hx hb dX5_cutOn_6 rfl (lv_at hl 1 rfl) ?_
  obtain ⟨v1, hc1, hok⟩ := bd_some hok
  refine cRVi (ci := 5) (q0 := 0) [.int a1] S hK hP (c_X5_isFloor l dC dI cI cZ l0 l4 l5 l6 l8 l10 l11 l12 l13 l14 l15 l16 ((0 : Int32), uL.2.1, uL.2.2.1, uL.2.2.2.1, uL.2.2.2.2.1, uL.2.2.2.2.2.1, uL.2.2.2.2.2.2.1, uL.2.2.2.2.2.2.2.1, uL.2.2.2.2.2.2.2.2.1, uL.2.2.2.2.2.2.2.2.2.1, uL.2.2.2.2.2.2.2.2.2.2.1, uL.2.2.2.2.2.2.2.2.2.2.2.1, uL.2.2.2.2.2.2.2.2.2.2.2.2.1, uL.2.2.2.2.2.2.2.2.2.2.2.2.2.1, uL.2.2.2.2.2.2.2.2.2.2.2.2.2.2.1, uL.2.2.2.2.2.2.2.2.2.2.2.2.2.2.2.1, uL.2.2.2.2.2.2.2.2.2.2.2.2.2.2.2.2.1, uL.2.2.2.2.2.2.2.2.2.2.2.2.2.2.2.2.2) a1 hc1) (lw_V qm_X5_93 qi_X5_isFloor qs_X5_isFloor qn_X5 qc_X5_isFloor) hd_X5_isFloor ⟨rfl, rfl⟩ ⟨Nat.le_of_ble_eq_true rfl, Nat.le_of_ble_eq_true rfl⟩ ⟨Nat.le_of_ble_eq_true rfl, Nat.le_of_ble_eq_true rfl⟩ rfl rfl rfl hl.1 (Nat.le_of_ble_eq_true rfl) rfl dX5_cutOn_7 ?_
  refine lv_if_eq (tgt := 25) hx hb dX5_cutOn_10 (by decide) (fun hc => ?_) (fun hc => ?_)
  · have hok := ip hok hc
    refine lv_aload_n hx hb dX5_cutOn_25 rfl (lv_at hl 0 rfl) ?_
    refine lv_iconst (v := (1 : Int32)) hx hb dX5_cutOn_26 (by decide) ?_
    obtain ⟨v2, hc2, hok⟩ := bd_some hok
    refine cWVi (ci := 5) (q0 := 0) [.int (1 : Int32)] S hK hP hD hS hA (c_X5_fail l dC dI cI cZ l0 l4 l5 l6 l8 l10 l11 l12 l13 l14 l15 l16 _ ((0 : Int32), uL.2.1, uL.2.2.1, uL.2.2.2.1, uL.2.2.2.2.1, uL.2.2.2.2.2.1, uL.2.2.2.2.2.2.1, uL.2.2.2.2.2.2.2.1, uL.2.2.2.2.2.2.2.2.1, uL.2.2.2.2.2.2.2.2.2.1, uL.2.2.2.2.2.2.2.2.2.2.1, uL.2.2.2.2.2.2.2.2.2.2.2.1, uL.2.2.2.2.2.2.2.2.2.2.2.2.1, uL.2.2.2.2.2.2.2.2.2.2.2.2.2.1, uL.2.2.2.2.2.2.2.2.2.2.2.2.2.2.1, uL.2.2.2.2.2.2.2.2.2.2.2.2.2.2.2.1, uL.2.2.2.2.2.2.2.2.2.2.2.2.2.2.2.2.1, uL.2.2.2.2.2.2.2.2.2.2.2.2.2.2.2.2.2) (1 : Int32) hc2) (lw_V qm_X5_112 qi_X5_fail qs_X5_fail qn_X5 qc_X5_fail) hd_X5_fail ⟨rfl, rfl⟩ ⟨Nat.le_of_ble_eq_true rfl, Nat.le_of_ble_eq_true rfl⟩ ⟨Nat.le_of_ble_eq_true rfl, Nat.le_of_ble_eq_true rfl⟩ rfl rfl rfl hl.1 (Nat.le_of_ble_eq_true rfl) rfl dX5_cutOn_27 (D_L hD) (fun H locs hP hD hS => ?_)
    have hok := Option.some.inj hok
    subst hok
    exact eWi S hr hlk rfl hP hS (Nat.le_of_ble_eq_true rfl) (Nat.le_of_ble_eq_true rfl) dX5_cutOn_30
  · have hok := iq hok hc
    refine lv_aload_n hx hb dX5_cutOn_13 rfl (lv_at hl 0 rfl) ?_
    refine va_get (D := (dC, dI)) (ci := 5) (v := .ref l15) (C := RX5) (T := TX5) (N := 18) hx hb hts inX5 hown hK hP 0 rfl rfl 15 (by decide) (hts _ qf_X5_44) (fun _ h9 => h9) rfl dX5_cutOn_14 ?_
    refine lv_bipush (v := (21 : Int32)) hx hb dX5_cutOn_17 (by decide) ?_
    refine lv_iload_n hx hb dX5_cutOn_19 rfl (lv_at hl 1 rfl) ?_
    refine lv_iadd hx hb dX5_cutOn_20 ?_
    obtain ⟨hi3, hok⟩ := gd_some hok
    refine va_iald hx hb hK hP 10 0 rfl rfl hi3 dX5_cutOn_21 ?_
    refine lv_goto (tgt := 30) hx hb dX5_cutOn_22 (by decide) ?_
    have hok := Option.some.inj hok
    subst hok
    exact eWi S hr hlk rfl hP hS (Nat.le_of_ble_eq_true rfl) (Nat.le_of_ble_eq_true rfl) dX5_cutOn_30
theorem hd_X5_isForbidden : yX5_isForbidden.cls = RX5 ∧ yX5_isForbidden.cls ≠ "java/lang/invoke/MethodHandle" ∧ yX5_isForbidden.cls ≠ "java/lang/invoke/VarHandle" ∧ (parseMethodDescriptor yX5_isForbidden.desc).map (fun d => d.parameters.length) = some 1 := by decide +kernel
def p_X5_isForbidden_J13 (uL : tX5) (l13_1 : Int32) (s13_0 : Int32) : Option (Int32 × tX5) :=
  if s13_0 = 0 then
    bd (p_X5_has uL.2.2.2.1 l13_1) (fun v2 =>
    if v2 = 0 then
      some ((0 : Int32), (s13_0, uL.2.1, uL.2.2.1, uL.2.2.2.1, uL.2.2.2.2.1, uL.2.2.2.2.2.1, uL.2.2.2.2.2.2.1, uL.2.2.2.2.2.2.2.1, uL.2.2.2.2.2.2.2.2.1, uL.2.2.2.2.2.2.2.2.2.1, uL.2.2.2.2.2.2.2.2.2.2.1, uL.2.2.2.2.2.2.2.2.2.2.2.1, uL.2.2.2.2.2.2.2.2.2.2.2.2.1, uL.2.2.2.2.2.2.2.2.2.2.2.2.2.1, uL.2.2.2.2.2.2.2.2.2.2.2.2.2.2.1, uL.2.2.2.2.2.2.2.2.2.2.2.2.2.2.2.1, uL.2.2.2.2.2.2.2.2.2.2.2.2.2.2.2.2.1, uL.2.2.2.2.2.2.2.2.2.2.2.2.2.2.2.2.2))
    else
      some ((1 : Int32), (s13_0, uL.2.1, uL.2.2.1, uL.2.2.2.1, uL.2.2.2.2.1, uL.2.2.2.2.2.1, uL.2.2.2.2.2.2.1, uL.2.2.2.2.2.2.2.1, uL.2.2.2.2.2.2.2.2.1, uL.2.2.2.2.2.2.2.2.2.1, uL.2.2.2.2.2.2.2.2.2.2.1, uL.2.2.2.2.2.2.2.2.2.2.2.1, uL.2.2.2.2.2.2.2.2.2.2.2.2.1, uL.2.2.2.2.2.2.2.2.2.2.2.2.2.1, uL.2.2.2.2.2.2.2.2.2.2.2.2.2.2.1, uL.2.2.2.2.2.2.2.2.2.2.2.2.2.2.2.1, uL.2.2.2.2.2.2.2.2.2.2.2.2.2.2.2.2.1, uL.2.2.2.2.2.2.2.2.2.2.2.2.2.2.2.2.2)))
  else
    some ((0 : Int32), (s13_0, uL.2.1, uL.2.2.1, uL.2.2.2.1, uL.2.2.2.2.1, uL.2.2.2.2.2.1, uL.2.2.2.2.2.2.1, uL.2.2.2.2.2.2.2.1, uL.2.2.2.2.2.2.2.2.1, uL.2.2.2.2.2.2.2.2.2.1, uL.2.2.2.2.2.2.2.2.2.2.1, uL.2.2.2.2.2.2.2.2.2.2.2.1, uL.2.2.2.2.2.2.2.2.2.2.2.2.1, uL.2.2.2.2.2.2.2.2.2.2.2.2.2.1, uL.2.2.2.2.2.2.2.2.2.2.2.2.2.2.1, uL.2.2.2.2.2.2.2.2.2.2.2.2.2.2.2.1, uL.2.2.2.2.2.2.2.2.2.2.2.2.2.2.2.2.1, uL.2.2.2.2.2.2.2.2.2.2.2.2.2.2.2.2.2))
def p_X5_isForbidden (uL : tX5) (a1 : Int32) : Option (Int32 × tX5) :=
  bd (p_X5_isTopic a1) (fun v1 =>
  if v1 = 0 then
    p_X5_isForbidden_J13 uL a1 (1 : Int32)
  else
    p_X5_isForbidden_J13 uL a1 (0 : Int32))
set_option maxHeartbeats 4000000 in
set_option maxRecDepth 100000 in
theorem c_X5_isForbidden (l : Launch) (dC : Nat → ClassId) (dI : Nat → Nat → Nat) (cI cZ : ClassId) (l0 l4 l5 l6 l8 l10 l11 l12 l13 l14 l15 l16 : Nat) (sz : Nat) (uL : tX5) (a1 : Int32) {z : (Int32 × tX5)} (hok : p_X5_isForbidden uL a1 = some z) : Met l yX5_isForbidden (Cond.code yX5_isForbidden cX5_isForbidden 2 (some .boolean) :: lw_all) { frames := 2, cells := 0, slots := 0, locals := 42 } (prW (dC, dI) vwCl (TYS cI cZ) ((wX5 cI cZ l0 l4 l5 l6 l8 l10 l11 l12 l13 l14 l15 l16 uL)) sz [.ref l0, .int a1]) (va_Qi (fun (r : Int32) (_ : Unit) => r = z.1) (fun _ t => va_P (dC, dI) vwCl ((wX5 cI cZ l0 l4 l5 l6 l8 l10 l11 l12 l13 l14 l15 l16 z.2)) t.heap) (va_A ((wX5 cI cZ l0 l4 l5 l6 l8 l10 l11 l12 l13 l14 l15 l16 uL)) sz)) 0 0 (va_A ((wX5 cI cZ l0 l4 l5 l6 l8 l10 l11 l12 l13 l14 l15 l16 uL)) sz) := by
  refine oM (by decide) (Nat.le_of_ble_eq_true rfl) ?_
  intro p e s m args below meth c S hr hlk hnm hB ls hl
  have hx := S.1
  have hb := S.2.1
  have hml := S.2.2.1
  have hown : s.vm.findClass RX5 = some m.cls := S.2.2.2.1
  have hts := S.2.2.2.2
  have S : CallFix p m c cX5_isForbidden 2 s args lw_all RX5 := S
  have hl : lv_has ls 2 [(0, .ref l0), (1, .int a1)] := hl
  obtain ⟨hsz, hP, hK, hD0⟩ := hB
  subst hsz
  have hD := hD0.self (sz := s.heap.size)
  generalize hAe : va_A ((wX5 cI cZ l0 l4 l5 l6 l8 l10 l11 l12 l13 l14 l15 l16 uL)) s.heap.size = A at hD ⊢
  have hA : ∀ q : Nat, s.heap.size ≤ q → A q := fun q h => by rw [← hAe]; exact Or.inr h
  have hS : va_S A s.heap s.heap [] := va_S.rf
  have hP : va_P (dC, dI) vwCl ((wX5 cI cZ l0 l4 l5 l6 l8 l10 l11 l12 l13 l14 l15 l16 uL)) s.heap := hP
  have J13 : ∀ (uL : tX5) (l13_1 : Int32) (s13_0 : Int32) (H : Heap) (locs : List Loc) (hP : va_P (dC, dI) vwCl ((wX5 cI cZ l0 l4 l5 l6 l8 l10 l11 l12 l13 l14 l15 l16 uL)) H) (hD : va_D A ((wX5 cI cZ l0 l4 l5 l6 l8 l10 l11 l12 l13 l14 l15 l16 uL))) (hS : va_S A s.heap H locs) (ls : Array Slot) (hl : lv_has ls 2 [(0, .ref l0), (1, .int l13_1)]) (hok : p_X5_isForbidden_J13 uL l13_1 s13_0 = some z), W p l e { frames := 2, cells := 0, slots := 0, locals := 42 } s m args below meth c H locs 0 0 (MQ below (va_Qi (fun (r : Int32) (_ : Unit) => r = z.1) (fun _ t => va_P (dC, dI) vwCl ((wX5 cI cZ l0 l4 l5 l6 l8 l10 l11 l12 l13 l14 l15 l16 z.2)) t.heap) A) args s 0 0 A) (F0 m 13 ls [.int s13_0, .ref l0]) := by
    intro uL l13_1 s13_0 H locs hP hD hS ls hl hok
    unfold p_X5_isForbidden_J13 at hok
    refine va_put (D := (dC, dI)) (ci := 5) (v := .int s13_0) (ty := .int) (C := RX5) (T := TX5) (N := 18) hx hb hts inX5 tyX5 tyX5_ok nmX5 hown hK hP hD hS 0 rfl rfl 0 (by decide) (hts _ qf_X5_50) (fun _ h9 => h9) rfl (tyX5_ok 0 (by decide)) rfl rfl (Nat.le_of_ble_eq_true rfl) dX5_isForbidden_13 (fun H locs hP _ hS => ?_)
    have hP : va_P (dC, dI) vwCl ((wX5 cI cZ l0 l4 l5 l6 l8 l10 l11 l12 l13 l14 l15 l16 (s13_0, uL.2.1, uL.2.2.1, uL.2.2.2.1, uL.2.2.2.2.1, uL.2.2.2.2.2.1, uL.2.2.2.2.2.2.1, uL.2.2.2.2.2.2.2.1, uL.2.2.2.2.2.2.2.2.1, uL.2.2.2.2.2.2.2.2.2.1, uL.2.2.2.2.2.2.2.2.2.2.1, uL.2.2.2.2.2.2.2.2.2.2.2.1, uL.2.2.2.2.2.2.2.2.2.2.2.2.1, uL.2.2.2.2.2.2.2.2.2.2.2.2.2.1, uL.2.2.2.2.2.2.2.2.2.2.2.2.2.2.1, uL.2.2.2.2.2.2.2.2.2.2.2.2.2.2.2.1, uL.2.2.2.2.2.2.2.2.2.2.2.2.2.2.2.2.1, uL.2.2.2.2.2.2.2.2.2.2.2.2.2.2.2.2.2))) H := hP
    have hD : va_D A ((wX5 cI cZ l0 l4 l5 l6 l8 l10 l11 l12 l13 l14 l15 l16 (s13_0, uL.2.1, uL.2.2.1, uL.2.2.2.1, uL.2.2.2.2.1, uL.2.2.2.2.2.1, uL.2.2.2.2.2.2.1, uL.2.2.2.2.2.2.2.1, uL.2.2.2.2.2.2.2.2.1, uL.2.2.2.2.2.2.2.2.2.1, uL.2.2.2.2.2.2.2.2.2.2.1, uL.2.2.2.2.2.2.2.2.2.2.2.1, uL.2.2.2.2.2.2.2.2.2.2.2.2.1, uL.2.2.2.2.2.2.2.2.2.2.2.2.2.1, uL.2.2.2.2.2.2.2.2.2.2.2.2.2.2.1, uL.2.2.2.2.2.2.2.2.2.2.2.2.2.2.2.1, uL.2.2.2.2.2.2.2.2.2.2.2.2.2.2.2.2.1, uL.2.2.2.2.2.2.2.2.2.2.2.2.2.2.2.2.2))) := D_L hD
    refine lv_aload_n hx hb dX5_isForbidden_16 rfl (lv_at hl 0 rfl) ?_
    refine va_get (D := (dC, dI)) (ci := 5) (v := .int s13_0) (C := RX5) (T := TX5) (N := 18) hx hb hts inX5 hown hK hP 0 rfl rfl 0 (by decide) (hts _ qf_X5_50) (fun _ h9 => h9) rfl dX5_isForbidden_17 ?_
    refine lv_if_ne (tgt := 38) hx hb dX5_isForbidden_20 (by decide) (fun hc => ?_) (fun hc => ?_)
    · have hok := iq hok hc
      refine lv_iconst (v := (0 : Int32)) hx hb dX5_isForbidden_38 (by decide) ?_
      have hok := Option.some.inj hok
      subst hok
      exact eWz S hr hlk (by decide) rfl hP hS (Nat.le_of_ble_eq_true rfl) (Nat.le_of_ble_eq_true rfl) dX5_isForbidden_39
    · have hok := ip hok hc
      refine lv_aload_n hx hb dX5_isForbidden_23 rfl (lv_at hl 0 rfl) ?_
      refine va_get (D := (dC, dI)) (ci := 5) (v := .int uL.2.2.2.1) (C := RX5) (T := TX5) (N := 18) hx hb hts inX5 hown hK hP 0 rfl rfl 3 (by decide) (hts _ qf_X5_86) (fun _ h9 => h9) rfl dX5_isForbidden_24 ?_
      refine lv_iload_n hx hb dX5_isForbidden_27 rfl (lv_at hl 1 rfl) ?_
      obtain ⟨v2, hc2, hok⟩ := bd_some hok
      refine cRSi [.int uL.2.2.2.1, .int l13_1] S hK va_Pnil (c_X5_has l dC dI cI cZ uL.2.2.2.1 l13_1 hc2) (lw_S qm_X5_69 qt_X5_has qn_X5 qc_X5_has) hd_X5_has ⟨rfl, rfl⟩ ⟨Nat.le_of_ble_eq_true rfl, Nat.le_of_ble_eq_true rfl⟩ ⟨Nat.le_of_ble_eq_true rfl, Nat.le_of_ble_eq_true rfl⟩ rfl hl.1 (Nat.le_of_ble_eq_true rfl) rfl dX5_isForbidden_28 ?_
      refine lv_if_eq (tgt := 38) hx hb dX5_isForbidden_31 (by decide) (fun hc => ?_) (fun hc => ?_)
      · have hok := ip hok hc
        refine lv_iconst (v := (0 : Int32)) hx hb dX5_isForbidden_38 (by decide) ?_
        have hok := Option.some.inj hok
        subst hok
        exact eWz S hr hlk (by decide) rfl hP hS (Nat.le_of_ble_eq_true rfl) (Nat.le_of_ble_eq_true rfl) dX5_isForbidden_39
      · have hok := iq hok hc
        refine lv_iconst (v := (1 : Int32)) hx hb dX5_isForbidden_34 (by decide) ?_
        refine lv_goto (tgt := 39) hx hb dX5_isForbidden_35 (by decide) ?_
        have hok := Option.some.inj hok
        subst hok
        exact eWz S hr hlk (by decide) rfl hP hS (Nat.le_of_ble_eq_true rfl) (Nat.le_of_ble_eq_true rfl) dX5_isForbidden_39
  unfold p_X5_isForbidden at hok
  refine lv_aload_n hx hb dX5_isForbidden_0 rfl (lv_at hl 0 rfl) ?_
  refine lv_iload_n hx hb dX5_isForbidden_1 rfl (lv_at hl 1 rfl) ?_
  obtain ⟨v1, hc1, hok⟩ := bd_some hok
  refine cRSi [.int a1] S hK va_Pnil (c_X5_isTopic l dC dI cI cZ a1 hc1) (lw_S qm_X5_119 qt_X5_isTopic qn_X5 qc_X5_isTopic) hd_X5_isTopic ⟨rfl, rfl⟩ ⟨Nat.le_of_ble_eq_true rfl, Nat.le_of_ble_eq_true rfl⟩ ⟨Nat.le_of_ble_eq_true rfl, Nat.le_of_ble_eq_true rfl⟩ rfl hl.1 (Nat.le_of_ble_eq_true rfl) rfl dX5_isForbidden_2 ?_
  refine lv_if_eq (tgt := 12) hx hb dX5_isForbidden_5 (by decide) (fun hc => ?_) (fun hc => ?_)
  · have hok := ip hok hc
    refine lv_iconst (v := (1 : Int32)) hx hb dX5_isForbidden_12 (by decide) ?_
    exact J13 uL a1 (1 : Int32) _ _ hP hD hS _ hl hok
  · have hok := iq hok hc
    refine lv_iconst (v := (0 : Int32)) hx hb dX5_isForbidden_8 (by decide) ?_
    refine lv_goto (tgt := 13) hx hb dX5_isForbidden_9 (by decide) ?_
    exact J13 uL a1 (0 : Int32) _ _ hP hD hS _ hl hok
theorem hd_X5_cuts : yX5_cuts.cls = RX5 ∧ yX5_cuts.cls ≠ "java/lang/invoke/MethodHandle" ∧ yX5_cuts.cls ≠ "java/lang/invoke/VarHandle" ∧ (parseMethodDescriptor yX5_cuts.desc).map (fun d => d.parameters.length) = some 0 := by decide +kernel
def p_X5_cuts (uL : tX5) : Option (Int32 × tX5) :=
  bd (p_X5_cut uL) (fun v1 =>
  bd (p_X5_told uL v1) (fun v2 =>
  some (v2.1, v2.2)))
set_option maxHeartbeats 4000000 in
set_option maxRecDepth 100000 in
theorem c_X5_cuts (l : Launch) (dC : Nat → ClassId) (dI : Nat → Nat → Nat) (cI cZ : ClassId) (l0 l4 l5 l6 l8 l10 l11 l12 l13 l14 l15 l16 : Nat) (sz : Nat) (uL : tX5) {z : (Int32 × tX5)} (hok : p_X5_cuts uL = some z) : Met l yX5_cuts (Cond.code yX5_cuts cX5_cuts 1 (some .int) :: lw_all) { frames := 1, cells := 0, slots := 0, locals := 22 } (prW (dC, dI) vwCl (TYS cI cZ) ((wX5 cI cZ l0 l4 l5 l6 l8 l10 l11 l12 l13 l14 l15 l16 uL)) sz [.ref l0]) (va_Qi (fun (r : Int32) (_ : Unit) => r = z.1) (fun _ t => va_P (dC, dI) vwCl ((wX5 cI cZ l0 l4 l5 l6 l8 l10 l11 l12 l13 l14 l15 l16 z.2)) t.heap) (va_A ((wX5 cI cZ l0 l4 l5 l6 l8 l10 l11 l12 l13 l14 l15 l16 uL)) sz)) 0 0 (va_A ((wX5 cI cZ l0 l4 l5 l6 l8 l10 l11 l12 l13 l14 l15 l16 uL)) sz) := by
  refine oM (by decide) (Nat.le_of_ble_eq_true rfl) ?_
  intro p e s m args below meth c S hr hlk hnm hB ls hl
  have hx := S.1
  have hb := S.2.1
  have hml := S.2.2.1
  have hown : s.vm.findClass RX5 = some m.cls := S.2.2.2.1
  have hts := S.2.2.2.2
  have S : CallFix p m c cX5_cuts 1 s args lw_all RX5 := S
  have hl : lv_has ls 1 [(0, .ref l0)] := hl
  obtain ⟨hsz, hP, hK, hD0⟩ := hB
  subst hsz
  have hD := hD0.self (sz := s.heap.size)
  generalize hAe : va_A ((wX5 cI cZ l0 l4 l5 l6 l8 l10 l11 l12 l13 l14 l15 l16 uL)) s.heap.size = A at hD ⊢
  have hA : ∀ q : Nat, s.heap.size ≤ q → A q := fun q h => by rw [← hAe]; exact Or.inr h
  have hS : va_S A s.heap s.heap [] := va_S.rf
  have hP : va_P (dC, dI) vwCl ((wX5 cI cZ l0 l4 l5 l6 l8 l10 l11 l12 l13 l14 l15 l16 uL)) s.heap := hP
  unfold p_X5_cuts at hok
  refine lv_aload_n hx hb dX5_cuts_0 rfl (lv_at hl 0 rfl) ?_
  refine lv_aload_n hx hb dX5_cuts_1 rfl (lv_at hl 0 rfl) ?_
  obtain ⟨v1, hc1, hok⟩ := bd_some hok
  refine cRVi (ci := 5) (q0 := 0) [] S hK hP (c_X5_cut l dC dI cI cZ l0 l4 l5 l6 l8 l10 l11 l12 l13 l14 l15 l16 uL hc1) (lw_V qm_X5_134 qi_X5_cut qs_X5_cut qn_X5 qc_X5_cut) hd_X5_cut ⟨rfl, rfl⟩ ⟨Nat.le_of_ble_eq_true rfl, Nat.le_of_ble_eq_true rfl⟩ ⟨Nat.le_of_ble_eq_true rfl, Nat.le_of_ble_eq_true rfl⟩ rfl rfl rfl hl.1 (Nat.le_of_ble_eq_true rfl) rfl dX5_cuts_2 ?_
  obtain ⟨v2, hc2, hok⟩ := bd_some hok
  refine cWVi (ci := 5) (q0 := 0) [.int v1] S hK hP hD hS hA (c_X5_told l dC dI cI cZ l0 l4 l5 l6 l8 l10 l11 l12 l13 l14 l15 l16 _ uL v1 hc2) (lw_V qm_X5_125 qi_X5_told qs_X5_told qn_X5 qc_X5_told) hd_X5_told ⟨rfl, rfl⟩ ⟨Nat.le_of_ble_eq_true rfl, Nat.le_of_ble_eq_true rfl⟩ ⟨Nat.le_of_ble_eq_true rfl, Nat.le_of_ble_eq_true rfl⟩ rfl rfl rfl hl.1 (Nat.le_of_ble_eq_true rfl) rfl dX5_cuts_5 (D_L hD) (fun H locs hP hD hS => ?_)
  have hok := Option.some.inj hok
  subst hok
  exact eWi S hr hlk rfl hP hS (Nat.le_of_ble_eq_true rfl) (Nat.le_of_ble_eq_true rfl) dX5_cuts_8
theorem hd_X5_comes : yX5_comes.cls = RX5 ∧ yX5_comes.cls ≠ "java/lang/invoke/MethodHandle" ∧ yX5_comes.cls ≠ "java/lang/invoke/VarHandle" ∧ (parseMethodDescriptor yX5_comes.desc).map (fun d => d.parameters.length) = some 1 := by decide +kernel
def p_X5_comes_J56 (rec4 : tX5 → Int32 → Int32 → Int32 → Option Int32) (rec23 : tX5 → Int32 → Int32 → Int32 → Int32 → Option Int32) (uL : tX5) (l56_1 : Int32) (l56_3 : Int32) (l56_4 : Int32) (s56_0 : Int32) (s56_1 : Int32) : Option Int32 :=
  rec23 uL l56_1 (s56_1 + s56_0) l56_3 (l56_4 + 1)
def p_X5_comes_L23 (rec4 : tX5 → Int32 → Int32 → Int32 → Option Int32) : Nat → tX5 → Int32 → Int32 → Int32 → Int32 → Option Int32
  | 0, _, _, _, _, _ => none
  | n + 1, uL, l23_1, l23_2, l23_3, l23_4 =>
    gd l23_3 12 (
    if (uL.2.2.2.2.1 l23_3.toNatClampNeg) ≤ l23_4 then
      rec4 uL l23_1 l23_2 (l23_3 + 1)
    else
      gd (((9 : Int32) * l23_3) + l23_4) 108 (
      if (uL.2.2.2.2.2.1 (((9 : Int32) * l23_3) + l23_4).toNatClampNeg) = l23_1 then
        p_X5_comes_J56 rec4 (p_X5_comes_L23 rec4 n) uL l23_1 l23_3 l23_4 (1 : Int32) l23_2
      else
        p_X5_comes_J56 rec4 (p_X5_comes_L23 rec4 n) uL l23_1 l23_3 l23_4 (0 : Int32) l23_2))
def p_X5_comes_L4 : Nat → tX5 → Int32 → Int32 → Int32 → Option Int32
  | 0, _, _, _, _ => none
  | n + 1, uL, l4_1, l4_2, l4_3 =>
    if uL.2.1 ≤ l4_3 then
      some l4_2
    else
      gd ((9 : Int32) + l4_3) 41 (
      p_X5_comes_L23 (p_X5_comes_L4 n) 200 uL l4_1 l4_2 l4_3 (uL.2.2.2.2.2.2.2.2.2.2.2.2.2.2.2.1 ((9 : Int32) + l4_3).toNatClampNeg))
def p_X5_comes (uL : tX5) (a1 : Int32) : Option Int32 :=
  p_X5_comes_L4 200 uL a1 (0 : Int32) (0 : Int32)
set_option maxHeartbeats 4000000 in
set_option maxRecDepth 100000 in
theorem c_X5_comes (l : Launch) (dC : Nat → ClassId) (dI : Nat → Nat → Nat) (cI cZ : ClassId) (l0 l4 l5 l6 l8 l10 l11 l12 l13 l14 l15 l16 : Nat) (uL : tX5) (a1 : Int32) {z : Int32} (hok : p_X5_comes uL a1 = some z) : Met l yX5_comes (Cond.code yX5_comes cX5_comes 5 (some .int) :: lw_all) { frames := 0, cells := 0, slots := 0, locals := 0 } (prR (dC, dI) vwCl (TYS cI cZ) ((wX5 cI cZ l0 l4 l5 l6 l8 l10 l11 l12 l13 l14 l15 l16 uL)) [.ref l0, .int a1]) (vp_Si (fun r => r = z)) 0 0 (fun _ => False) := by
  refine oM (by decide) (Nat.le_of_ble_eq_true rfl) ?_
  intro p e s m args below meth c S hr hlk hnm hB ls hl
  have hx := S.1
  have hb := S.2.1
  have hml := S.2.2.1
  have hown : s.vm.findClass RX5 = some m.cls := S.2.2.2.1
  have hts := S.2.2.2.2
  have S : CallFix p m c cX5_comes 5 s args lw_all RX5 := S
  have hl : lv_has ls 5 [(0, .ref l0), (1, .int a1)] := hl
  obtain ⟨hP, hK⟩ := hB
  have hP : va_P (dC, dI) vwCl ((wX5 cI cZ l0 l4 l5 l6 l8 l10 l11 l12 l13 l14 l15 l16 uL)) s.heap := hP
  have L4 : ∀ n4 : Nat, ∀ (l4_1 : Int32) (l4_2 : Int32) (l4_3 : Int32) (ls : Array Slot) (hl : lv_has ls 5 [(0, .ref l0), (1, .int l4_1), (2, .int l4_2), (3, .int l4_3)]) (hok : p_X5_comes_L4 n4 uL l4_1 l4_2 l4_3 = some z), W p l e { frames := 0, cells := 0, slots := 0, locals := 0 } s m args below meth c s.heap [] 0 0 (MQ below (vp_Si (fun r => r = z)) args s 0 0 (fun _ => False)) (F0 m 4 ls []) := by
    intro n4
    induction n4 with
    | zero =>
      intro l4_1 l4_2 l4_3 ls hl hok
      rw [p_X5_comes_L4] at hok
      cases hok
    | succ n4 ih4 =>
      have L23 : ∀ n23 : Nat, ∀ (l23_1 : Int32) (l23_2 : Int32) (l23_3 : Int32) (l23_4 : Int32) (ls : Array Slot) (hl : lv_has ls 5 [(0, .ref l0), (1, .int l23_1), (2, .int l23_2), (3, .int l23_3), (4, .int l23_4)]) (hok : p_X5_comes_L23 (p_X5_comes_L4 n4) n23 uL l23_1 l23_2 l23_3 l23_4 = some z), W p l e { frames := 0, cells := 0, slots := 0, locals := 0 } s m args below meth c s.heap [] 0 0 (MQ below (vp_Si (fun r => r = z)) args s 0 0 (fun _ => False)) (F0 m 23 ls []) := by
        intro n23
        induction n23 with
        | zero =>
          intro l23_1 l23_2 l23_3 l23_4 ls hl hok
          rw [p_X5_comes_L23] at hok
          cases hok
        | succ n23 ih23 =>
          have J56 : ∀ (l56_1 : Int32) (l56_3 : Int32) (l56_4 : Int32) (s56_0 : Int32) (s56_1 : Int32) (ls : Array Slot) (hl : lv_has ls 5 [(0, .ref l0), (1, .int l56_1), (3, .int l56_3), (4, .int l56_4)]) (hok : p_X5_comes_J56 (p_X5_comes_L4 n4) (p_X5_comes_L23 (p_X5_comes_L4 n4) n23) uL l56_1 l56_3 l56_4 s56_0 s56_1 = some z), W p l e { frames := 0, cells := 0, slots := 0, locals := 0 } s m args below meth c s.heap [] 0 0 (MQ below (vp_Si (fun r => r = z)) args s 0 0 (fun _ => False)) (F0 m 56 ls [.int s56_0, .int s56_1]) := by
            intro l56_1 l56_3 l56_4 s56_0 s56_1 ls hl hok
            unfold p_X5_comes_J56 at hok
            refine lv_iadd hx hb dX5_comes_56 ?_
            refine lv_istore_n (lv' := [(2, .int (s56_1 + s56_0)), (0, .ref l0), (1, .int l56_1), (3, .int l56_3), (4, .int l56_4)]) hx hb dX5_comes_57 rfl hl (by decide) rfl (fun ls hl => ?_)
            refine lv_iinc (v := (l56_4 + 1)) (lv' := [(4, .int (l56_4 + 1)), (2, .int (s56_1 + s56_0)), (0, .ref l0), (1, .int l56_1), (3, .int l56_3)]) hx hb dX5_comes_58 hl (k := 4) rfl rfl (by decide) rfl (fun ls hl => ?_)
            refine lv_goto (tgt := 23) hx hb dX5_comes_61 (by decide) ?_
            exact ih23 l56_1 (s56_1 + s56_0) l56_3 (l56_4 + 1) _ (lv_sub hl [2, 3, 1, 4, 0] rfl) hok
          intro l23_1 l23_2 l23_3 l23_4 ls hl hok
          rw [p_X5_comes_L23] at hok
          refine lv_iload hx hb dX5_comes_23 (lv_at hl 4 rfl) ?_
          refine lv_aload_n hx hb dX5_comes_25 rfl (lv_at hl 0 rfl) ?_
          refine va_get (D := (dC, dI)) (ci := 5) (v := .ref l4) (C := RX5) (T := TX5) (N := 18) hx hb hts inX5 hown hK hP 0 rfl rfl 4 (by decide) (hts _ qf_X5_16) (fun _ h9 => h9) rfl dX5_comes_26 ?_
          refine lv_iload_n hx hb dX5_comes_29 rfl (lv_at hl 3 rfl) ?_
          obtain ⟨hi2, hok⟩ := gd_some hok
          refine va_iald hx hb hK hP 1 0 rfl rfl hi2 dX5_comes_30 ?_
          refine lv_icmp_ge (tgt := 64) hx hb dX5_comes_31 (by decide) (fun hc => ?_) (fun hc => ?_)
          · have hok := ip hok hc
            refine lv_iinc (v := (l23_3 + 1)) (lv' := [(3, .int (l23_3 + 1)), (0, .ref l0), (1, .int l23_1), (2, .int l23_2), (4, .int l23_4)]) hx hb dX5_comes_64 hl (k := 3) rfl rfl (by decide) rfl (fun ls hl => ?_)
            refine lv_goto (tgt := 4) hx hb dX5_comes_67 (by decide) ?_
            exact ih4 l23_1 l23_2 (l23_3 + 1) _ (lv_sub hl [1, 2, 3, 0] rfl) hok
          · have hok := iq hok hc
            refine lv_iload_n hx hb dX5_comes_34 rfl (lv_at hl 2 rfl) ?_
            refine lv_aload_n hx hb dX5_comes_35 rfl (lv_at hl 0 rfl) ?_
            refine va_get (D := (dC, dI)) (ci := 5) (v := .ref l5) (C := RX5) (T := TX5) (N := 18) hx hb hts inX5 hown hK hP 0 rfl rfl 5 (by decide) (hts _ qf_X5_20) (fun _ h9 => h9) rfl dX5_comes_36 ?_
            refine lv_bipush (v := (9 : Int32)) hx hb dX5_comes_39 (by decide) ?_
            refine lv_iload_n hx hb dX5_comes_41 rfl (lv_at hl 3 rfl) ?_
            refine lv_imul hx hb dX5_comes_42 ?_
            refine lv_iload hx hb dX5_comes_43 (lv_at hl 4 rfl) ?_
            refine lv_iadd hx hb dX5_comes_45 ?_
            obtain ⟨hi3, hok⟩ := gd_some hok
            refine va_iald hx hb hK hP 2 0 rfl rfl hi3 dX5_comes_46 ?_
            refine lv_iload_n hx hb dX5_comes_47 rfl (lv_at hl 1 rfl) ?_
            refine lv_icmp_ne (tgt := 55) hx hb dX5_comes_48 (by decide) (fun hc => ?_) (fun hc => ?_)
            · have hok := iq hok hc
              refine lv_iconst (v := (0 : Int32)) hx hb dX5_comes_55 (by decide) ?_
              exact J56 l23_1 l23_3 l23_4 (0 : Int32) l23_2 _ (lv_sub hl [0, 1, 3, 4] rfl) hok
            · have hok := ip hok hc
              refine lv_iconst (v := (1 : Int32)) hx hb dX5_comes_51 (by decide) ?_
              refine lv_goto (tgt := 56) hx hb dX5_comes_52 (by decide) ?_
              exact J56 l23_1 l23_3 l23_4 (1 : Int32) l23_2 _ (lv_sub hl [0, 1, 3, 4] rfl) hok
      intro l4_1 l4_2 l4_3 ls hl hok
      rw [p_X5_comes_L4] at hok
      refine lv_iload_n hx hb dX5_comes_4 rfl (lv_at hl 3 rfl) ?_
      refine lv_aload_n hx hb dX5_comes_5 rfl (lv_at hl 0 rfl) ?_
      refine va_get (D := (dC, dI)) (ci := 5) (v := .int uL.2.1) (C := RX5) (T := TX5) (N := 18) hx hb hts inX5 hown hK hP 0 rfl rfl 1 (by decide) (hts _ qf_X5_7) (fun _ h9 => h9) rfl dX5_comes_6 ?_
      refine lv_icmp_ge (tgt := 70) hx hb dX5_comes_9 (by decide) (fun hc => ?_) (fun hc => ?_)
      · have hok := ip hok hc
        refine lv_iload_n hx hb dX5_comes_70 rfl (lv_at hl 2 rfl) ?_
        exact eRi S hr hlk (Option.some.inj hok) dX5_comes_71
      · have hok := iq hok hc
        refine lv_aload_n hx hb dX5_comes_12 rfl (lv_at hl 0 rfl) ?_
        refine va_get (D := (dC, dI)) (ci := 5) (v := .ref l15) (C := RX5) (T := TX5) (N := 18) hx hb hts inX5 hown hK hP 0 rfl rfl 15 (by decide) (hts _ qf_X5_44) (fun _ h9 => h9) rfl dX5_comes_13 ?_
        refine lv_bipush (v := (9 : Int32)) hx hb dX5_comes_16 (by decide) ?_
        refine lv_iload_n hx hb dX5_comes_18 rfl (lv_at hl 3 rfl) ?_
        refine lv_iadd hx hb dX5_comes_19 ?_
        obtain ⟨hi1, hok⟩ := gd_some hok
        refine va_iald hx hb hK hP 10 0 rfl rfl hi1 dX5_comes_20 ?_
        refine lv_istore (lv' := [(4, .int (uL.2.2.2.2.2.2.2.2.2.2.2.2.2.2.2.1 ((9 : Int32) + l4_3).toNatClampNeg)), (0, .ref l0), (1, .int l4_1), (2, .int l4_2), (3, .int l4_3)]) hx hb dX5_comes_21 hl (by decide) rfl (fun ls hl => ?_)
        exact L23 200 l4_1 l4_2 l4_3 (uL.2.2.2.2.2.2.2.2.2.2.2.2.2.2.2.1 ((9 : Int32) + l4_3).toNatClampNeg) _ (lv_sub hl [1, 2, 3, 4, 0] rfl) hok
  unfold p_X5_comes at hok
  refine lv_iconst (v := (0 : Int32)) hx hb dX5_comes_0 (by decide) ?_
  refine lv_istore_n (lv' := [(2, .int (0 : Int32)), (0, .ref l0), (1, .int a1)]) hx hb dX5_comes_1 rfl hl (by decide) rfl (fun ls hl => ?_)
  refine lv_iconst (v := (0 : Int32)) hx hb dX5_comes_2 (by decide) ?_
  refine lv_istore_n (lv' := [(3, .int (0 : Int32)), (2, .int (0 : Int32)), (0, .ref l0), (1, .int a1)]) hx hb dX5_comes_3 rfl hl (by decide) rfl (fun ls hl => ?_)
  exact L4 200 a1 (0 : Int32) (0 : Int32) _ (lv_sub hl [2, 3, 1, 0] rfl) hok
theorem hd_X5_toCome : yX5_toCome.cls = RX5 ∧ yX5_toCome.cls ≠ "java/lang/invoke/MethodHandle" ∧ yX5_toCome.cls ≠ "java/lang/invoke/VarHandle" ∧ (parseMethodDescriptor yX5_toCome.desc).map (fun d => d.parameters.length) = some 1 := by decide +kernel
def p_X5_toCome (uL : tX5) (a1 : Int32) : Option (Int32 × tX5) :=
  bd (p_X5_isTopic a1) (fun v1 =>
  if v1 = 0 then
    bd (p_X5_fail ((0 : Int32), uL.2.1, uL.2.2.1, uL.2.2.2.1, uL.2.2.2.2.1, uL.2.2.2.2.2.1, uL.2.2.2.2.2.2.1, uL.2.2.2.2.2.2.2.1, uL.2.2.2.2.2.2.2.2.1, uL.2.2.2.2.2.2.2.2.2.1, uL.2.2.2.2.2.2.2.2.2.2.1, uL.2.2.2.2.2.2.2.2.2.2.2.1, uL.2.2.2.2.2.2.2.2.2.2.2.2.1, uL.2.2.2.2.2.2.2.2.2.2.2.2.2.1, uL.2.2.2.2.2.2.2.2.2.2.2.2.2.2.1, uL.2.2.2.2.2.2.2.2.2.2.2.2.2.2.2.1, uL.2.2.2.2.2.2.2.2.2.2.2.2.2.2.2.2.1, uL.2.2.2.2.2.2.2.2.2.2.2.2.2.2.2.2.2) (1 : Int32)) (fun v2 =>
    some (v2.1, v2.2))
  else
    bd (p_X5_comes ((0 : Int32), uL.2.1, uL.2.2.1, uL.2.2.2.1, uL.2.2.2.2.1, uL.2.2.2.2.2.1, uL.2.2.2.2.2.2.1, uL.2.2.2.2.2.2.2.1, uL.2.2.2.2.2.2.2.2.1, uL.2.2.2.2.2.2.2.2.2.1, uL.2.2.2.2.2.2.2.2.2.2.1, uL.2.2.2.2.2.2.2.2.2.2.2.1, uL.2.2.2.2.2.2.2.2.2.2.2.2.1, uL.2.2.2.2.2.2.2.2.2.2.2.2.2.1, uL.2.2.2.2.2.2.2.2.2.2.2.2.2.2.1, uL.2.2.2.2.2.2.2.2.2.2.2.2.2.2.2.1, uL.2.2.2.2.2.2.2.2.2.2.2.2.2.2.2.2.1, uL.2.2.2.2.2.2.2.2.2.2.2.2.2.2.2.2.2) a1) (fun v3 =>
    some (v3, ((0 : Int32), uL.2.1, uL.2.2.1, uL.2.2.2.1, uL.2.2.2.2.1, uL.2.2.2.2.2.1, uL.2.2.2.2.2.2.1, uL.2.2.2.2.2.2.2.1, uL.2.2.2.2.2.2.2.2.1, uL.2.2.2.2.2.2.2.2.2.1, uL.2.2.2.2.2.2.2.2.2.2.1, uL.2.2.2.2.2.2.2.2.2.2.2.1, uL.2.2.2.2.2.2.2.2.2.2.2.2.1, uL.2.2.2.2.2.2.2.2.2.2.2.2.2.1, uL.2.2.2.2.2.2.2.2.2.2.2.2.2.2.1, uL.2.2.2.2.2.2.2.2.2.2.2.2.2.2.2.1, uL.2.2.2.2.2.2.2.2.2.2.2.2.2.2.2.2.1, uL.2.2.2.2.2.2.2.2.2.2.2.2.2.2.2.2.2))))
set_option maxHeartbeats 4000000 in
set_option maxRecDepth 100000 in
theorem c_X5_toCome (l : Launch) (dC : Nat → ClassId) (dI : Nat → Nat → Nat) (cI cZ : ClassId) (l0 l4 l5 l6 l8 l10 l11 l12 l13 l14 l15 l16 : Nat) (sz : Nat) (uL : tX5) (a1 : Int32) {z : (Int32 × tX5)} (hok : p_X5_toCome uL a1 = some z) : Met l yX5_toCome (Cond.code yX5_toCome cX5_toCome 2 (some .int) :: lw_all) { frames := 2, cells := 0, slots := 0, locals := 42 } (prW (dC, dI) vwCl (TYS cI cZ) ((wX5 cI cZ l0 l4 l5 l6 l8 l10 l11 l12 l13 l14 l15 l16 uL)) sz [.ref l0, .int a1]) (va_Qi (fun (r : Int32) (_ : Unit) => r = z.1) (fun _ t => va_P (dC, dI) vwCl ((wX5 cI cZ l0 l4 l5 l6 l8 l10 l11 l12 l13 l14 l15 l16 z.2)) t.heap) (va_A ((wX5 cI cZ l0 l4 l5 l6 l8 l10 l11 l12 l13 l14 l15 l16 uL)) sz)) 0 0 (va_A ((wX5 cI cZ l0 l4 l5 l6 l8 l10 l11 l12 l13 l14 l15 l16 uL)) sz) := by
  refine oM (by decide) (Nat.le_of_ble_eq_true rfl) ?_
  intro p e s m args below meth c S hr hlk hnm hB ls hl
  have hx := S.1
  have hb := S.2.1
  have hml := S.2.2.1
  have hown : s.vm.findClass RX5 = some m.cls := S.2.2.2.1
  have hts := S.2.2.2.2
  have S : CallFix p m c cX5_toCome 2 s args lw_all RX5 := S
  have hl : lv_has ls 2 [(0, .ref l0), (1, .int a1)] := hl
  obtain ⟨hsz, hP, hK, hD0⟩ := hB
  subst hsz
  have hD := hD0.self (sz := s.heap.size)
  generalize hAe : va_A ((wX5 cI cZ l0 l4 l5 l6 l8 l10 l11 l12 l13 l14 l15 l16 uL)) s.heap.size = A at hD ⊢
  have hA : ∀ q : Nat, s.heap.size ≤ q → A q := fun q h => by rw [← hAe]; exact Or.inr h
  have hS : va_S A s.heap s.heap [] := va_S.rf
  have hP : va_P (dC, dI) vwCl ((wX5 cI cZ l0 l4 l5 l6 l8 l10 l11 l12 l13 l14 l15 l16 uL)) s.heap := hP
  unfold p_X5_toCome at hok
  refine lv_aload_n hx hb dX5_toCome_0 rfl (lv_at hl 0 rfl) ?_
  refine lv_iconst (v := (0 : Int32)) hx hb dX5_toCome_1 (by decide) ?_
  refine va_put (D := (dC, dI)) (ci := 5) (v := .int (0 : Int32)) (ty := .int) (C := RX5) (T := TX5) (N := 18) hx hb hts inX5 tyX5 tyX5_ok nmX5 hown hK hP hD hS 0 rfl rfl 0 (by decide) (hts _ qf_X5_50) (fun _ h9 => h9) rfl (tyX5_ok 0 (by decide)) rfl rfl (Nat.le_of_ble_eq_true rfl) dX5_toCome_2 (fun H locs hP _ hS => ?_)
  have hP : va_P (dC, dI) vwCl ((wX5 cI cZ l0 l4 l5 l6 l8 l10 l11 l12 l13 l14 l15 l16 ((0 : Int32), uL.2.1, uL.2.2.1, uL.2.2.2.1, uL.2.2.2.2.1, uL.2.2.2.2.2.1, uL.2.2.2.2.2.2.1, uL.2.2.2.2.2.2.2.1, uL.2.2.2.2.2.2.2.2.1, uL.2.2.2.2.2.2.2.2.2.1, uL.2.2.2.2.2.2.2.2.2.2.1, uL.2.2.2.2.2.2.2.2.2.2.2.1, uL.2.2.2.2.2.2.2.2.2.2.2.2.1, uL.2.2.2.2.2.2.2.2.2.2.2.2.2.1, uL.2.2.2.2.2.2.2.2.2.2.2.2.2.2.1, uL.2.2.2.2.2.2.2.2.2.2.2.2.2.2.2.1, uL.2.2.2.2.2.2.2.2.2.2.2.2.2.2.2.2.1, uL.2.2.2.2.2.2.2.2.2.2.2.2.2.2.2.2.2))) H := hP
  have hD : va_D A ((wX5 cI cZ l0 l4 l5 l6 l8 l10 l11 l12 l13 l14 l15 l16 ((0 : Int32), uL.2.1, uL.2.2.1, uL.2.2.2.1, uL.2.2.2.2.1, uL.2.2.2.2.2.1, uL.2.2.2.2.2.2.1, uL.2.2.2.2.2.2.2.1, uL.2.2.2.2.2.2.2.2.1, uL.2.2.2.2.2.2.2.2.2.1, uL.2.2.2.2.2.2.2.2.2.2.1, uL.2.2.2.2.2.2.2.2.2.2.2.1, uL.2.2.2.2.2.2.2.2.2.2.2.2.1, uL.2.2.2.2.2.2.2.2.2.2.2.2.2.1, uL.2.2.2.2.2.2.2.2.2.2.2.2.2.2.1, uL.2.2.2.2.2.2.2.2.2.2.2.2.2.2.2.1, uL.2.2.2.2.2.2.2.2.2.2.2.2.2.2.2.2.1, uL.2.2.2.2.2.2.2.2.2.2.2.2.2.2.2.2.2))) := D_L hD
  refine lv_iload_n hx hb dX5_toCome_5 rfl (lv_at hl 1 rfl) ?_
  obtain ⟨v1, hc1, hok⟩ := bd_some hok
  refine cRSi [.int a1] S hK va_Pnil (c_X5_isTopic l dC dI cI cZ a1 hc1) (lw_S qm_X5_119 qt_X5_isTopic qn_X5 qc_X5_isTopic) hd_X5_isTopic ⟨rfl, rfl⟩ ⟨Nat.le_of_ble_eq_true rfl, Nat.le_of_ble_eq_true rfl⟩ ⟨Nat.le_of_ble_eq_true rfl, Nat.le_of_ble_eq_true rfl⟩ rfl hl.1 (Nat.le_of_ble_eq_true rfl) rfl dX5_toCome_6 ?_
  refine lv_if_eq (tgt := 20) hx hb dX5_toCome_9 (by decide) (fun hc => ?_) (fun hc => ?_)
  · have hok := ip hok hc
    refine lv_aload_n hx hb dX5_toCome_20 rfl (lv_at hl 0 rfl) ?_
    refine lv_iconst (v := (1 : Int32)) hx hb dX5_toCome_21 (by decide) ?_
    obtain ⟨v2, hc2, hok⟩ := bd_some hok
    refine cWVi (ci := 5) (q0 := 0) [.int (1 : Int32)] S hK hP hD hS hA (c_X5_fail l dC dI cI cZ l0 l4 l5 l6 l8 l10 l11 l12 l13 l14 l15 l16 _ ((0 : Int32), uL.2.1, uL.2.2.1, uL.2.2.2.1, uL.2.2.2.2.1, uL.2.2.2.2.2.1, uL.2.2.2.2.2.2.1, uL.2.2.2.2.2.2.2.1, uL.2.2.2.2.2.2.2.2.1, uL.2.2.2.2.2.2.2.2.2.1, uL.2.2.2.2.2.2.2.2.2.2.1, uL.2.2.2.2.2.2.2.2.2.2.2.1, uL.2.2.2.2.2.2.2.2.2.2.2.2.1, uL.2.2.2.2.2.2.2.2.2.2.2.2.2.1, uL.2.2.2.2.2.2.2.2.2.2.2.2.2.2.1, uL.2.2.2.2.2.2.2.2.2.2.2.2.2.2.2.1, uL.2.2.2.2.2.2.2.2.2.2.2.2.2.2.2.2.1, uL.2.2.2.2.2.2.2.2.2.2.2.2.2.2.2.2.2) (1 : Int32) hc2) (lw_V qm_X5_112 qi_X5_fail qs_X5_fail qn_X5 qc_X5_fail) hd_X5_fail ⟨rfl, rfl⟩ ⟨Nat.le_of_ble_eq_true rfl, Nat.le_of_ble_eq_true rfl⟩ ⟨Nat.le_of_ble_eq_true rfl, Nat.le_of_ble_eq_true rfl⟩ rfl rfl rfl hl.1 (Nat.le_of_ble_eq_true rfl) rfl dX5_toCome_22 (D_L hD) (fun H locs hP hD hS => ?_)
    have hok := Option.some.inj hok
    subst hok
    exact eWi S hr hlk rfl hP hS (Nat.le_of_ble_eq_true rfl) (Nat.le_of_ble_eq_true rfl) dX5_toCome_25
  · have hok := iq hok hc
    refine lv_aload_n hx hb dX5_toCome_12 rfl (lv_at hl 0 rfl) ?_
    refine lv_iload_n hx hb dX5_toCome_13 rfl (lv_at hl 1 rfl) ?_
    obtain ⟨v3, hc3, hok⟩ := bd_some hok
    refine cRVi (ci := 5) (q0 := 0) [.int a1] S hK hP (c_X5_comes l dC dI cI cZ l0 l4 l5 l6 l8 l10 l11 l12 l13 l14 l15 l16 ((0 : Int32), uL.2.1, uL.2.2.1, uL.2.2.2.1, uL.2.2.2.2.1, uL.2.2.2.2.2.1, uL.2.2.2.2.2.2.1, uL.2.2.2.2.2.2.2.1, uL.2.2.2.2.2.2.2.2.1, uL.2.2.2.2.2.2.2.2.2.1, uL.2.2.2.2.2.2.2.2.2.2.1, uL.2.2.2.2.2.2.2.2.2.2.2.1, uL.2.2.2.2.2.2.2.2.2.2.2.2.1, uL.2.2.2.2.2.2.2.2.2.2.2.2.2.1, uL.2.2.2.2.2.2.2.2.2.2.2.2.2.2.1, uL.2.2.2.2.2.2.2.2.2.2.2.2.2.2.2.1, uL.2.2.2.2.2.2.2.2.2.2.2.2.2.2.2.2.1, uL.2.2.2.2.2.2.2.2.2.2.2.2.2.2.2.2.2) a1 hc3) (lw_V qm_X5_137 qi_X5_comes qs_X5_comes qn_X5 qc_X5_comes) hd_X5_comes ⟨rfl, rfl⟩ ⟨Nat.le_of_ble_eq_true rfl, Nat.le_of_ble_eq_true rfl⟩ ⟨Nat.le_of_ble_eq_true rfl, Nat.le_of_ble_eq_true rfl⟩ rfl rfl rfl hl.1 (Nat.le_of_ble_eq_true rfl) rfl dX5_toCome_14 ?_
    refine lv_goto (tgt := 25) hx hb dX5_toCome_17 (by decide) ?_
    have hok := Option.some.inj hok
    subst hok
    exact eWi S hr hlk rfl hP hS (Nat.le_of_ble_eq_true rfl) (Nat.le_of_ble_eq_true rfl) dX5_toCome_25
theorem hd_X5_instalments : yX5_instalments.cls = RX5 ∧ yX5_instalments.cls ≠ "java/lang/invoke/MethodHandle" ∧ yX5_instalments.cls ≠ "java/lang/invoke/VarHandle" ∧ (parseMethodDescriptor yX5_instalments.desc).map (fun d => d.parameters.length) = some 0 := by decide +kernel
def p_X5_instalments (uL : tX5) : Option (Int32 × tX5) :=
  bd (p_X5_told uL (uL.2.2.2.2.2.2.2.2.2.2.2.2.2.2.2.1 8)) (fun v1 =>
  some (v1.1, v1.2))
set_option maxHeartbeats 4000000 in
set_option maxRecDepth 100000 in
theorem c_X5_instalments (l : Launch) (dC : Nat → ClassId) (dI : Nat → Nat → Nat) (cI cZ : ClassId) (l0 l4 l5 l6 l8 l10 l11 l12 l13 l14 l15 l16 : Nat) (sz : Nat) (uL : tX5) {z : (Int32 × tX5)} (hok : p_X5_instalments uL = some z) : Met l yX5_instalments (Cond.code yX5_instalments cX5_instalments 1 (some .int) :: lw_all) { frames := 1, cells := 0, slots := 0, locals := 21 } (prW (dC, dI) vwCl (TYS cI cZ) ((wX5 cI cZ l0 l4 l5 l6 l8 l10 l11 l12 l13 l14 l15 l16 uL)) sz [.ref l0]) (va_Qi (fun (r : Int32) (_ : Unit) => r = z.1) (fun _ t => va_P (dC, dI) vwCl ((wX5 cI cZ l0 l4 l5 l6 l8 l10 l11 l12 l13 l14 l15 l16 z.2)) t.heap) (va_A ((wX5 cI cZ l0 l4 l5 l6 l8 l10 l11 l12 l13 l14 l15 l16 uL)) sz)) 0 0 (va_A ((wX5 cI cZ l0 l4 l5 l6 l8 l10 l11 l12 l13 l14 l15 l16 uL)) sz) := by
  refine oM (by decide) (Nat.le_of_ble_eq_true rfl) ?_
  intro p e s m args below meth c S hr hlk hnm hB ls hl
  have hx := S.1
  have hb := S.2.1
  have hml := S.2.2.1
  have hown : s.vm.findClass RX5 = some m.cls := S.2.2.2.1
  have hts := S.2.2.2.2
  have S : CallFix p m c cX5_instalments 1 s args lw_all RX5 := S
  have hl : lv_has ls 1 [(0, .ref l0)] := hl
  obtain ⟨hsz, hP, hK, hD0⟩ := hB
  subst hsz
  have hD := hD0.self (sz := s.heap.size)
  generalize hAe : va_A ((wX5 cI cZ l0 l4 l5 l6 l8 l10 l11 l12 l13 l14 l15 l16 uL)) s.heap.size = A at hD ⊢
  have hA : ∀ q : Nat, s.heap.size ≤ q → A q := fun q h => by rw [← hAe]; exact Or.inr h
  have hS : va_S A s.heap s.heap [] := va_S.rf
  have hP : va_P (dC, dI) vwCl ((wX5 cI cZ l0 l4 l5 l6 l8 l10 l11 l12 l13 l14 l15 l16 uL)) s.heap := hP
  unfold p_X5_instalments at hok
  refine lv_aload_n hx hb dX5_instalments_0 rfl (lv_at hl 0 rfl) ?_
  refine lv_aload_n hx hb dX5_instalments_1 rfl (lv_at hl 0 rfl) ?_
  refine va_get (D := (dC, dI)) (ci := 5) (v := .ref l15) (C := RX5) (T := TX5) (N := 18) hx hb hts inX5 hown hK hP 0 rfl rfl 15 (by decide) (hts _ qf_X5_44) (fun _ h9 => h9) rfl dX5_instalments_2 ?_
  refine lv_bipush (v := (8 : Int32)) hx hb dX5_instalments_5 (by decide) ?_
  refine va_ialdK hx hb hK hP 10 0 rfl rfl (j := 8) (by decide) (vp_inK (by decide)) dX5_instalments_7 ?_
  obtain ⟨v1, hc1, hok⟩ := bd_some hok
  refine cWVi (ci := 5) (q0 := 0) [.int (uL.2.2.2.2.2.2.2.2.2.2.2.2.2.2.2.1 8)] S hK hP hD hS hA (c_X5_told l dC dI cI cZ l0 l4 l5 l6 l8 l10 l11 l12 l13 l14 l15 l16 _ uL (uL.2.2.2.2.2.2.2.2.2.2.2.2.2.2.2.1 8) hc1) (lw_V qm_X5_125 qi_X5_told qs_X5_told qn_X5 qc_X5_told) hd_X5_told ⟨rfl, rfl⟩ ⟨Nat.le_of_ble_eq_true rfl, Nat.le_of_ble_eq_true rfl⟩ ⟨Nat.le_of_ble_eq_true rfl, Nat.le_of_ble_eq_true rfl⟩ rfl rfl rfl hl.1 (Nat.le_of_ble_eq_true rfl) rfl dX5_instalments_8 (D_L hD) (fun H locs hP hD hS => ?_)
  have hok := Option.some.inj hok
  subst hok
  exact eWi S hr hlk rfl hP hS (Nat.le_of_ble_eq_true rfl) (Nat.le_of_ble_eq_true rfl) dX5_instalments_11
theorem hd_X5_floorIn : yX5_floorIn.cls = RX5 ∧ yX5_floorIn.cls ≠ "java/lang/invoke/MethodHandle" ∧ yX5_floorIn.cls ≠ "java/lang/invoke/VarHandle" ∧ (parseMethodDescriptor yX5_floorIn.desc).map (fun d => d.parameters.length) = some 1 := by decide +kernel
def p_X5_floorIn (uL : tX5) (a1 : Int32) : Option (Int32 × tX5) :=
  bd (p_X5_isInstalment ((0 : Int32), uL.2.1, uL.2.2.1, uL.2.2.2.1, uL.2.2.2.2.1, uL.2.2.2.2.2.1, uL.2.2.2.2.2.2.1, uL.2.2.2.2.2.2.2.1, uL.2.2.2.2.2.2.2.2.1, uL.2.2.2.2.2.2.2.2.2.1, uL.2.2.2.2.2.2.2.2.2.2.1, uL.2.2.2.2.2.2.2.2.2.2.2.1, uL.2.2.2.2.2.2.2.2.2.2.2.2.1, uL.2.2.2.2.2.2.2.2.2.2.2.2.2.1, uL.2.2.2.2.2.2.2.2.2.2.2.2.2.2.1, uL.2.2.2.2.2.2.2.2.2.2.2.2.2.2.2.1, uL.2.2.2.2.2.2.2.2.2.2.2.2.2.2.2.2.1, uL.2.2.2.2.2.2.2.2.2.2.2.2.2.2.2.2.2) a1) (fun v1 =>
  if v1 = 0 then
    bd (p_X5_fail ((0 : Int32), uL.2.1, uL.2.2.1, uL.2.2.2.1, uL.2.2.2.2.1, uL.2.2.2.2.2.1, uL.2.2.2.2.2.2.1, uL.2.2.2.2.2.2.2.1, uL.2.2.2.2.2.2.2.2.1, uL.2.2.2.2.2.2.2.2.2.1, uL.2.2.2.2.2.2.2.2.2.2.1, uL.2.2.2.2.2.2.2.2.2.2.2.1, uL.2.2.2.2.2.2.2.2.2.2.2.2.1, uL.2.2.2.2.2.2.2.2.2.2.2.2.2.1, uL.2.2.2.2.2.2.2.2.2.2.2.2.2.2.1, uL.2.2.2.2.2.2.2.2.2.2.2.2.2.2.2.1, uL.2.2.2.2.2.2.2.2.2.2.2.2.2.2.2.2.1, uL.2.2.2.2.2.2.2.2.2.2.2.2.2.2.2.2.2) (1 : Int32)) (fun v2 =>
    some (v2.1, v2.2))
  else
    gd a1 108 (
    some (((uL.2.2.2.2.2.2.2.2.2.2.2.2.1 a1.toNatClampNeg) / (9 : Int32)), ((0 : Int32), uL.2.1, uL.2.2.1, uL.2.2.2.1, uL.2.2.2.2.1, uL.2.2.2.2.2.1, uL.2.2.2.2.2.2.1, uL.2.2.2.2.2.2.2.1, uL.2.2.2.2.2.2.2.2.1, uL.2.2.2.2.2.2.2.2.2.1, uL.2.2.2.2.2.2.2.2.2.2.1, uL.2.2.2.2.2.2.2.2.2.2.2.1, uL.2.2.2.2.2.2.2.2.2.2.2.2.1, uL.2.2.2.2.2.2.2.2.2.2.2.2.2.1, uL.2.2.2.2.2.2.2.2.2.2.2.2.2.2.1, uL.2.2.2.2.2.2.2.2.2.2.2.2.2.2.2.1, uL.2.2.2.2.2.2.2.2.2.2.2.2.2.2.2.2.1, uL.2.2.2.2.2.2.2.2.2.2.2.2.2.2.2.2.2))))
set_option maxHeartbeats 4000000 in
set_option maxRecDepth 100000 in
theorem c_X5_floorIn (l : Launch) (dC : Nat → ClassId) (dI : Nat → Nat → Nat) (cI cZ : ClassId) (l0 l4 l5 l6 l8 l10 l11 l12 l13 l14 l15 l16 : Nat) (sz : Nat) (uL : tX5) (a1 : Int32) {z : (Int32 × tX5)} (hok : p_X5_floorIn uL a1 = some z) : Met l yX5_floorIn (Cond.code yX5_floorIn cX5_floorIn 2 (some .int) :: lw_all) { frames := 2, cells := 0, slots := 0, locals := 43 } (prW (dC, dI) vwCl (TYS cI cZ) ((wX5 cI cZ l0 l4 l5 l6 l8 l10 l11 l12 l13 l14 l15 l16 uL)) sz [.ref l0, .int a1]) (va_Qi (fun (r : Int32) (_ : Unit) => r = z.1) (fun _ t => va_P (dC, dI) vwCl ((wX5 cI cZ l0 l4 l5 l6 l8 l10 l11 l12 l13 l14 l15 l16 z.2)) t.heap) (va_A ((wX5 cI cZ l0 l4 l5 l6 l8 l10 l11 l12 l13 l14 l15 l16 uL)) sz)) 0 0 (va_A ((wX5 cI cZ l0 l4 l5 l6 l8 l10 l11 l12 l13 l14 l15 l16 uL)) sz) := by
  refine oM (by decide) (Nat.le_of_ble_eq_true rfl) ?_
  intro p e s m args below meth c S hr hlk hnm hB ls hl
  have hx := S.1
  have hb := S.2.1
  have hml := S.2.2.1
  have hown : s.vm.findClass RX5 = some m.cls := S.2.2.2.1
  have hts := S.2.2.2.2
  have S : CallFix p m c cX5_floorIn 2 s args lw_all RX5 := S
  have hl : lv_has ls 2 [(0, .ref l0), (1, .int a1)] := hl
  obtain ⟨hsz, hP, hK, hD0⟩ := hB
  subst hsz
  have hD := hD0.self (sz := s.heap.size)
  generalize hAe : va_A ((wX5 cI cZ l0 l4 l5 l6 l8 l10 l11 l12 l13 l14 l15 l16 uL)) s.heap.size = A at hD ⊢
  have hA : ∀ q : Nat, s.heap.size ≤ q → A q := fun q h => by rw [← hAe]; exact Or.inr h
  have hS : va_S A s.heap s.heap [] := va_S.rf
  have hP : va_P (dC, dI) vwCl ((wX5 cI cZ l0 l4 l5 l6 l8 l10 l11 l12 l13 l14 l15 l16 uL)) s.heap := hP
  unfold p_X5_floorIn at hok
  refine lv_aload_n hx hb dX5_floorIn_0 rfl (lv_at hl 0 rfl) ?_
  refine lv_iconst (v := (0 : Int32)) hx hb dX5_floorIn_1 (by decide) ?_
  refine va_put (D := (dC, dI)) (ci := 5) (v := .int (0 : Int32)) (ty := .int) (C := RX5) (T := TX5) (N := 18) hx hb hts inX5 tyX5 tyX5_ok nmX5 hown hK hP hD hS 0 rfl rfl 0 (by decide) (hts _ qf_X5_50) (fun _ h9 => h9) rfl (tyX5_ok 0 (by decide)) rfl rfl (Nat.le_of_ble_eq_true rfl) dX5_floorIn_2 (fun H locs hP _ hS => ?_)
  have hP : va_P (dC, dI) vwCl ((wX5 cI cZ l0 l4 l5 l6 l8 l10 l11 l12 l13 l14 l15 l16 ((0 : Int32), uL.2.1, uL.2.2.1, uL.2.2.2.1, uL.2.2.2.2.1, uL.2.2.2.2.2.1, uL.2.2.2.2.2.2.1, uL.2.2.2.2.2.2.2.1, uL.2.2.2.2.2.2.2.2.1, uL.2.2.2.2.2.2.2.2.2.1, uL.2.2.2.2.2.2.2.2.2.2.1, uL.2.2.2.2.2.2.2.2.2.2.2.1, uL.2.2.2.2.2.2.2.2.2.2.2.2.1, uL.2.2.2.2.2.2.2.2.2.2.2.2.2.1, uL.2.2.2.2.2.2.2.2.2.2.2.2.2.2.1, uL.2.2.2.2.2.2.2.2.2.2.2.2.2.2.2.1, uL.2.2.2.2.2.2.2.2.2.2.2.2.2.2.2.2.1, uL.2.2.2.2.2.2.2.2.2.2.2.2.2.2.2.2.2))) H := hP
  have hD : va_D A ((wX5 cI cZ l0 l4 l5 l6 l8 l10 l11 l12 l13 l14 l15 l16 ((0 : Int32), uL.2.1, uL.2.2.1, uL.2.2.2.1, uL.2.2.2.2.1, uL.2.2.2.2.2.1, uL.2.2.2.2.2.2.1, uL.2.2.2.2.2.2.2.1, uL.2.2.2.2.2.2.2.2.1, uL.2.2.2.2.2.2.2.2.2.1, uL.2.2.2.2.2.2.2.2.2.2.1, uL.2.2.2.2.2.2.2.2.2.2.2.1, uL.2.2.2.2.2.2.2.2.2.2.2.2.1, uL.2.2.2.2.2.2.2.2.2.2.2.2.2.1, uL.2.2.2.2.2.2.2.2.2.2.2.2.2.2.1, uL.2.2.2.2.2.2.2.2.2.2.2.2.2.2.2.1, uL.2.2.2.2.2.2.2.2.2.2.2.2.2.2.2.2.1, uL.2.2.2.2.2.2.2.2.2.2.2.2.2.2.2.2.2))) := D_L hD
  refine lv_aload_n hx hb dX5_floorIn_5 rfl (lv_at hl 0 rfl) ?_
  refine lv_iload_n hx hb dX5_floorIn_6 rfl (lv_at hl 1 rfl) ?_
  obtain ⟨v1, hc1, hok⟩ := bd_some hok
  refine cRVi (ci := 5) (q0 := 0) [.int a1] S hK hP (c_X5_isInstalment l dC dI cI cZ l0 l4 l5 l6 l8 l10 l11 l12 l13 l14 l15 l16 ((0 : Int32), uL.2.1, uL.2.2.1, uL.2.2.2.1, uL.2.2.2.2.1, uL.2.2.2.2.2.1, uL.2.2.2.2.2.2.1, uL.2.2.2.2.2.2.2.1, uL.2.2.2.2.2.2.2.2.1, uL.2.2.2.2.2.2.2.2.2.1, uL.2.2.2.2.2.2.2.2.2.2.1, uL.2.2.2.2.2.2.2.2.2.2.2.1, uL.2.2.2.2.2.2.2.2.2.2.2.2.1, uL.2.2.2.2.2.2.2.2.2.2.2.2.2.1, uL.2.2.2.2.2.2.2.2.2.2.2.2.2.2.1, uL.2.2.2.2.2.2.2.2.2.2.2.2.2.2.2.1, uL.2.2.2.2.2.2.2.2.2.2.2.2.2.2.2.2.1, uL.2.2.2.2.2.2.2.2.2.2.2.2.2.2.2.2.2) a1 hc1) (lw_V qm_X5_140 qi_X5_isInstalment qs_X5_isInstalment qn_X5 qc_X5_isInstalment) hd_X5_isInstalment ⟨rfl, rfl⟩ ⟨Nat.le_of_ble_eq_true rfl, Nat.le_of_ble_eq_true rfl⟩ ⟨Nat.le_of_ble_eq_true rfl, Nat.le_of_ble_eq_true rfl⟩ rfl rfl rfl hl.1 (Nat.le_of_ble_eq_true rfl) rfl dX5_floorIn_7 ?_
  refine lv_if_eq (tgt := 25) hx hb dX5_floorIn_10 (by decide) (fun hc => ?_) (fun hc => ?_)
  · have hok := ip hok hc
    refine lv_aload_n hx hb dX5_floorIn_25 rfl (lv_at hl 0 rfl) ?_
    refine lv_iconst (v := (1 : Int32)) hx hb dX5_floorIn_26 (by decide) ?_
    obtain ⟨v2, hc2, hok⟩ := bd_some hok
    refine cWVi (ci := 5) (q0 := 0) [.int (1 : Int32)] S hK hP hD hS hA (c_X5_fail l dC dI cI cZ l0 l4 l5 l6 l8 l10 l11 l12 l13 l14 l15 l16 _ ((0 : Int32), uL.2.1, uL.2.2.1, uL.2.2.2.1, uL.2.2.2.2.1, uL.2.2.2.2.2.1, uL.2.2.2.2.2.2.1, uL.2.2.2.2.2.2.2.1, uL.2.2.2.2.2.2.2.2.1, uL.2.2.2.2.2.2.2.2.2.1, uL.2.2.2.2.2.2.2.2.2.2.1, uL.2.2.2.2.2.2.2.2.2.2.2.1, uL.2.2.2.2.2.2.2.2.2.2.2.2.1, uL.2.2.2.2.2.2.2.2.2.2.2.2.2.1, uL.2.2.2.2.2.2.2.2.2.2.2.2.2.2.1, uL.2.2.2.2.2.2.2.2.2.2.2.2.2.2.2.1, uL.2.2.2.2.2.2.2.2.2.2.2.2.2.2.2.2.1, uL.2.2.2.2.2.2.2.2.2.2.2.2.2.2.2.2.2) (1 : Int32) hc2) (lw_V qm_X5_112 qi_X5_fail qs_X5_fail qn_X5 qc_X5_fail) hd_X5_fail ⟨rfl, rfl⟩ ⟨Nat.le_of_ble_eq_true rfl, Nat.le_of_ble_eq_true rfl⟩ ⟨Nat.le_of_ble_eq_true rfl, Nat.le_of_ble_eq_true rfl⟩ rfl rfl rfl hl.1 (Nat.le_of_ble_eq_true rfl) rfl dX5_floorIn_27 (D_L hD) (fun H locs hP hD hS => ?_)
    have hok := Option.some.inj hok
    subst hok
    exact eWi S hr hlk rfl hP hS (Nat.le_of_ble_eq_true rfl) (Nat.le_of_ble_eq_true rfl) dX5_floorIn_30
  · have hok := iq hok hc
    refine lv_aload_n hx hb dX5_floorIn_13 rfl (lv_at hl 0 rfl) ?_
    refine va_get (D := (dC, dI)) (ci := 5) (v := .ref l12) (C := RX5) (T := TX5) (N := 18) hx hb hts inX5 hown hK hP 0 rfl rfl 12 (by decide) (hts _ qf_X5_35) (fun _ h9 => h9) rfl dX5_floorIn_14 ?_
    refine lv_iload_n hx hb dX5_floorIn_17 rfl (lv_at hl 1 rfl) ?_
    obtain ⟨hi3, hok⟩ := gd_some hok
    refine va_iald hx hb hK hP 7 0 rfl rfl hi3 dX5_floorIn_18 ?_
    refine lv_bipush (v := (9 : Int32)) hx hb dX5_floorIn_19 (by decide) ?_
    refine lv_idiv hx hb dX5_floorIn_21 (by decide) ?_
    refine lv_goto (tgt := 30) hx hb dX5_floorIn_22 (by decide) ?_
    have hok := Option.some.inj hok
    subst hok
    exact eWi S hr hlk rfl hP hS (Nat.le_of_ble_eq_true rfl) (Nat.le_of_ble_eq_true rfl) dX5_floorIn_30
theorem hd_X5_paragraphIn : yX5_paragraphIn.cls = RX5 ∧ yX5_paragraphIn.cls ≠ "java/lang/invoke/MethodHandle" ∧ yX5_paragraphIn.cls ≠ "java/lang/invoke/VarHandle" ∧ (parseMethodDescriptor yX5_paragraphIn.desc).map (fun d => d.parameters.length) = some 1 := by decide +kernel
def p_X5_paragraphIn (uL : tX5) (a1 : Int32) : Option (Int32 × tX5) :=
  bd (p_X5_isInstalment ((0 : Int32), uL.2.1, uL.2.2.1, uL.2.2.2.1, uL.2.2.2.2.1, uL.2.2.2.2.2.1, uL.2.2.2.2.2.2.1, uL.2.2.2.2.2.2.2.1, uL.2.2.2.2.2.2.2.2.1, uL.2.2.2.2.2.2.2.2.2.1, uL.2.2.2.2.2.2.2.2.2.2.1, uL.2.2.2.2.2.2.2.2.2.2.2.1, uL.2.2.2.2.2.2.2.2.2.2.2.2.1, uL.2.2.2.2.2.2.2.2.2.2.2.2.2.1, uL.2.2.2.2.2.2.2.2.2.2.2.2.2.2.1, uL.2.2.2.2.2.2.2.2.2.2.2.2.2.2.2.1, uL.2.2.2.2.2.2.2.2.2.2.2.2.2.2.2.2.1, uL.2.2.2.2.2.2.2.2.2.2.2.2.2.2.2.2.2) a1) (fun v1 =>
  if v1 = 0 then
    bd (p_X5_fail ((0 : Int32), uL.2.1, uL.2.2.1, uL.2.2.2.1, uL.2.2.2.2.1, uL.2.2.2.2.2.1, uL.2.2.2.2.2.2.1, uL.2.2.2.2.2.2.2.1, uL.2.2.2.2.2.2.2.2.1, uL.2.2.2.2.2.2.2.2.2.1, uL.2.2.2.2.2.2.2.2.2.2.1, uL.2.2.2.2.2.2.2.2.2.2.2.1, uL.2.2.2.2.2.2.2.2.2.2.2.2.1, uL.2.2.2.2.2.2.2.2.2.2.2.2.2.1, uL.2.2.2.2.2.2.2.2.2.2.2.2.2.2.1, uL.2.2.2.2.2.2.2.2.2.2.2.2.2.2.2.1, uL.2.2.2.2.2.2.2.2.2.2.2.2.2.2.2.2.1, uL.2.2.2.2.2.2.2.2.2.2.2.2.2.2.2.2.2) (1 : Int32)) (fun v2 =>
    some (v2.1, v2.2))
  else
    gd a1 108 (
    some (((uL.2.2.2.2.2.2.2.2.2.2.2.2.1 a1.toNatClampNeg) - (uL.2.2.2.2.2.2.2.2.2.2.2.2.1 a1.toNatClampNeg) / (9 : Int32) * (9 : Int32)), ((0 : Int32), uL.2.1, uL.2.2.1, uL.2.2.2.1, uL.2.2.2.2.1, uL.2.2.2.2.2.1, uL.2.2.2.2.2.2.1, uL.2.2.2.2.2.2.2.1, uL.2.2.2.2.2.2.2.2.1, uL.2.2.2.2.2.2.2.2.2.1, uL.2.2.2.2.2.2.2.2.2.2.1, uL.2.2.2.2.2.2.2.2.2.2.2.1, uL.2.2.2.2.2.2.2.2.2.2.2.2.1, uL.2.2.2.2.2.2.2.2.2.2.2.2.2.1, uL.2.2.2.2.2.2.2.2.2.2.2.2.2.2.1, uL.2.2.2.2.2.2.2.2.2.2.2.2.2.2.2.1, uL.2.2.2.2.2.2.2.2.2.2.2.2.2.2.2.2.1, uL.2.2.2.2.2.2.2.2.2.2.2.2.2.2.2.2.2))))
set_option maxHeartbeats 4000000 in
set_option maxRecDepth 100000 in
theorem c_X5_paragraphIn (l : Launch) (dC : Nat → ClassId) (dI : Nat → Nat → Nat) (cI cZ : ClassId) (l0 l4 l5 l6 l8 l10 l11 l12 l13 l14 l15 l16 : Nat) (sz : Nat) (uL : tX5) (a1 : Int32) {z : (Int32 × tX5)} (hok : p_X5_paragraphIn uL a1 = some z) : Met l yX5_paragraphIn (Cond.code yX5_paragraphIn cX5_paragraphIn 2 (some .int) :: lw_all) { frames := 2, cells := 0, slots := 0, locals := 43 } (prW (dC, dI) vwCl (TYS cI cZ) ((wX5 cI cZ l0 l4 l5 l6 l8 l10 l11 l12 l13 l14 l15 l16 uL)) sz [.ref l0, .int a1]) (va_Qi (fun (r : Int32) (_ : Unit) => r = z.1) (fun _ t => va_P (dC, dI) vwCl ((wX5 cI cZ l0 l4 l5 l6 l8 l10 l11 l12 l13 l14 l15 l16 z.2)) t.heap) (va_A ((wX5 cI cZ l0 l4 l5 l6 l8 l10 l11 l12 l13 l14 l15 l16 uL)) sz)) 0 0 (va_A ((wX5 cI cZ l0 l4 l5 l6 l8 l10 l11 l12 l13 l14 l15 l16 uL)) sz) := by
  refine oM (by decide) (Nat.le_of_ble_eq_true rfl) ?_
  intro p e s m args below meth c S hr hlk hnm hB ls hl
  have hx := S.1
  have hb := S.2.1
  have hml := S.2.2.1
  have hown : s.vm.findClass RX5 = some m.cls := S.2.2.2.1
  have hts := S.2.2.2.2
  have S : CallFix p m c cX5_paragraphIn 2 s args lw_all RX5 := S
  have hl : lv_has ls 2 [(0, .ref l0), (1, .int a1)] := hl
  obtain ⟨hsz, hP, hK, hD0⟩ := hB
  subst hsz
  have hD := hD0.self (sz := s.heap.size)
  generalize hAe : va_A ((wX5 cI cZ l0 l4 l5 l6 l8 l10 l11 l12 l13 l14 l15 l16 uL)) s.heap.size = A at hD ⊢
  have hA : ∀ q : Nat, s.heap.size ≤ q → A q := fun q h => by rw [← hAe]; exact Or.inr h
  have hS : va_S A s.heap s.heap [] := va_S.rf
  have hP : va_P (dC, dI) vwCl ((wX5 cI cZ l0 l4 l5 l6 l8 l10 l11 l12 l13 l14 l15 l16 uL)) s.heap := hP
  unfold p_X5_paragraphIn at hok
  refine lv_aload_n hx hb dX5_paragraphIn_0 rfl (lv_at hl 0 rfl) ?_
  refine lv_iconst (v := (0 : Int32)) hx hb dX5_paragraphIn_1 (by decide) ?_
  refine va_put (D := (dC, dI)) (ci := 5) (v := .int (0 : Int32)) (ty := .int) (C := RX5) (T := TX5) (N := 18) hx hb hts inX5 tyX5 tyX5_ok nmX5 hown hK hP hD hS 0 rfl rfl 0 (by decide) (hts _ qf_X5_50) (fun _ h9 => h9) rfl (tyX5_ok 0 (by decide)) rfl rfl (Nat.le_of_ble_eq_true rfl) dX5_paragraphIn_2 (fun H locs hP _ hS => ?_)
  have hP : va_P (dC, dI) vwCl ((wX5 cI cZ l0 l4 l5 l6 l8 l10 l11 l12 l13 l14 l15 l16 ((0 : Int32), uL.2.1, uL.2.2.1, uL.2.2.2.1, uL.2.2.2.2.1, uL.2.2.2.2.2.1, uL.2.2.2.2.2.2.1, uL.2.2.2.2.2.2.2.1, uL.2.2.2.2.2.2.2.2.1, uL.2.2.2.2.2.2.2.2.2.1, uL.2.2.2.2.2.2.2.2.2.2.1, uL.2.2.2.2.2.2.2.2.2.2.2.1, uL.2.2.2.2.2.2.2.2.2.2.2.2.1, uL.2.2.2.2.2.2.2.2.2.2.2.2.2.1, uL.2.2.2.2.2.2.2.2.2.2.2.2.2.2.1, uL.2.2.2.2.2.2.2.2.2.2.2.2.2.2.2.1, uL.2.2.2.2.2.2.2.2.2.2.2.2.2.2.2.2.1, uL.2.2.2.2.2.2.2.2.2.2.2.2.2.2.2.2.2))) H := hP
  have hD : va_D A ((wX5 cI cZ l0 l4 l5 l6 l8 l10 l11 l12 l13 l14 l15 l16 ((0 : Int32), uL.2.1, uL.2.2.1, uL.2.2.2.1, uL.2.2.2.2.1, uL.2.2.2.2.2.1, uL.2.2.2.2.2.2.1, uL.2.2.2.2.2.2.2.1, uL.2.2.2.2.2.2.2.2.1, uL.2.2.2.2.2.2.2.2.2.1, uL.2.2.2.2.2.2.2.2.2.2.1, uL.2.2.2.2.2.2.2.2.2.2.2.1, uL.2.2.2.2.2.2.2.2.2.2.2.2.1, uL.2.2.2.2.2.2.2.2.2.2.2.2.2.1, uL.2.2.2.2.2.2.2.2.2.2.2.2.2.2.1, uL.2.2.2.2.2.2.2.2.2.2.2.2.2.2.2.1, uL.2.2.2.2.2.2.2.2.2.2.2.2.2.2.2.2.1, uL.2.2.2.2.2.2.2.2.2.2.2.2.2.2.2.2.2))) := D_L hD
  refine lv_aload_n hx hb dX5_paragraphIn_5 rfl (lv_at hl 0 rfl) ?_
  refine lv_iload_n hx hb dX5_paragraphIn_6 rfl (lv_at hl 1 rfl) ?_
  obtain ⟨v1, hc1, hok⟩ := bd_some hok
  refine cRVi (ci := 5) (q0 := 0) [.int a1] S hK hP (c_X5_isInstalment l dC dI cI cZ l0 l4 l5 l6 l8 l10 l11 l12 l13 l14 l15 l16 ((0 : Int32), uL.2.1, uL.2.2.1, uL.2.2.2.1, uL.2.2.2.2.1, uL.2.2.2.2.2.1, uL.2.2.2.2.2.2.1, uL.2.2.2.2.2.2.2.1, uL.2.2.2.2.2.2.2.2.1, uL.2.2.2.2.2.2.2.2.2.1, uL.2.2.2.2.2.2.2.2.2.2.1, uL.2.2.2.2.2.2.2.2.2.2.2.1, uL.2.2.2.2.2.2.2.2.2.2.2.2.1, uL.2.2.2.2.2.2.2.2.2.2.2.2.2.1, uL.2.2.2.2.2.2.2.2.2.2.2.2.2.2.1, uL.2.2.2.2.2.2.2.2.2.2.2.2.2.2.2.1, uL.2.2.2.2.2.2.2.2.2.2.2.2.2.2.2.2.1, uL.2.2.2.2.2.2.2.2.2.2.2.2.2.2.2.2.2) a1 hc1) (lw_V qm_X5_140 qi_X5_isInstalment qs_X5_isInstalment qn_X5 qc_X5_isInstalment) hd_X5_isInstalment ⟨rfl, rfl⟩ ⟨Nat.le_of_ble_eq_true rfl, Nat.le_of_ble_eq_true rfl⟩ ⟨Nat.le_of_ble_eq_true rfl, Nat.le_of_ble_eq_true rfl⟩ rfl rfl rfl hl.1 (Nat.le_of_ble_eq_true rfl) rfl dX5_paragraphIn_7 ?_
  refine lv_if_eq (tgt := 25) hx hb dX5_paragraphIn_10 (by decide) (fun hc => ?_) (fun hc => ?_)
  · have hok := ip hok hc
    refine lv_aload_n hx hb dX5_paragraphIn_25 rfl (lv_at hl 0 rfl) ?_
    refine lv_iconst (v := (1 : Int32)) hx hb dX5_paragraphIn_26 (by decide) ?_
    obtain ⟨v2, hc2, hok⟩ := bd_some hok
    refine cWVi (ci := 5) (q0 := 0) [.int (1 : Int32)] S hK hP hD hS hA (c_X5_fail l dC dI cI cZ l0 l4 l5 l6 l8 l10 l11 l12 l13 l14 l15 l16 _ ((0 : Int32), uL.2.1, uL.2.2.1, uL.2.2.2.1, uL.2.2.2.2.1, uL.2.2.2.2.2.1, uL.2.2.2.2.2.2.1, uL.2.2.2.2.2.2.2.1, uL.2.2.2.2.2.2.2.2.1, uL.2.2.2.2.2.2.2.2.2.1, uL.2.2.2.2.2.2.2.2.2.2.1, uL.2.2.2.2.2.2.2.2.2.2.2.1, uL.2.2.2.2.2.2.2.2.2.2.2.2.1, uL.2.2.2.2.2.2.2.2.2.2.2.2.2.1, uL.2.2.2.2.2.2.2.2.2.2.2.2.2.2.1, uL.2.2.2.2.2.2.2.2.2.2.2.2.2.2.2.1, uL.2.2.2.2.2.2.2.2.2.2.2.2.2.2.2.2.1, uL.2.2.2.2.2.2.2.2.2.2.2.2.2.2.2.2.2) (1 : Int32) hc2) (lw_V qm_X5_112 qi_X5_fail qs_X5_fail qn_X5 qc_X5_fail) hd_X5_fail ⟨rfl, rfl⟩ ⟨Nat.le_of_ble_eq_true rfl, Nat.le_of_ble_eq_true rfl⟩ ⟨Nat.le_of_ble_eq_true rfl, Nat.le_of_ble_eq_true rfl⟩ rfl rfl rfl hl.1 (Nat.le_of_ble_eq_true rfl) rfl dX5_paragraphIn_27 (D_L hD) (fun H locs hP hD hS => ?_)
    have hok := Option.some.inj hok
    subst hok
    exact eWi S hr hlk rfl hP hS (Nat.le_of_ble_eq_true rfl) (Nat.le_of_ble_eq_true rfl) dX5_paragraphIn_30
  · have hok := iq hok hc
    refine lv_aload_n hx hb dX5_paragraphIn_13 rfl (lv_at hl 0 rfl) ?_
    refine va_get (D := (dC, dI)) (ci := 5) (v := .ref l12) (C := RX5) (T := TX5) (N := 18) hx hb hts inX5 hown hK hP 0 rfl rfl 12 (by decide) (hts _ qf_X5_35) (fun _ h9 => h9) rfl dX5_paragraphIn_14 ?_
    refine lv_iload_n hx hb dX5_paragraphIn_17 rfl (lv_at hl 1 rfl) ?_
    obtain ⟨hi3, hok⟩ := gd_some hok
    refine va_iald hx hb hK hP 7 0 rfl rfl hi3 dX5_paragraphIn_18 ?_
    refine lv_bipush (v := (9 : Int32)) hx hb dX5_paragraphIn_19 (by decide) ?_
    refine lv_irem hx hb dX5_paragraphIn_21 (by decide) ?_
    refine lv_goto (tgt := 30) hx hb dX5_paragraphIn_22 (by decide) ?_
    have hok := Option.some.inj hok
    subst hok
    exact eWi S hr hlk rfl hP hS (Nat.le_of_ble_eq_true rfl) (Nat.le_of_ble_eq_true rfl) dX5_paragraphIn_30
theorem hd_X5_thrillIn : yX5_thrillIn.cls = RX5 ∧ yX5_thrillIn.cls ≠ "java/lang/invoke/MethodHandle" ∧ yX5_thrillIn.cls ≠ "java/lang/invoke/VarHandle" ∧ (parseMethodDescriptor yX5_thrillIn.desc).map (fun d => d.parameters.length) = some 1 := by decide +kernel
def p_X5_thrillIn (uL : tX5) (a1 : Int32) : Option (Int32 × tX5) :=
  bd (p_X5_isInstalment ((0 : Int32), uL.2.1, uL.2.2.1, uL.2.2.2.1, uL.2.2.2.2.1, uL.2.2.2.2.2.1, uL.2.2.2.2.2.2.1, uL.2.2.2.2.2.2.2.1, uL.2.2.2.2.2.2.2.2.1, uL.2.2.2.2.2.2.2.2.2.1, uL.2.2.2.2.2.2.2.2.2.2.1, uL.2.2.2.2.2.2.2.2.2.2.2.1, uL.2.2.2.2.2.2.2.2.2.2.2.2.1, uL.2.2.2.2.2.2.2.2.2.2.2.2.2.1, uL.2.2.2.2.2.2.2.2.2.2.2.2.2.2.1, uL.2.2.2.2.2.2.2.2.2.2.2.2.2.2.2.1, uL.2.2.2.2.2.2.2.2.2.2.2.2.2.2.2.2.1, uL.2.2.2.2.2.2.2.2.2.2.2.2.2.2.2.2.2) a1) (fun v1 =>
  if v1 = 0 then
    bd (p_X5_fail ((0 : Int32), uL.2.1, uL.2.2.1, uL.2.2.2.1, uL.2.2.2.2.1, uL.2.2.2.2.2.1, uL.2.2.2.2.2.2.1, uL.2.2.2.2.2.2.2.1, uL.2.2.2.2.2.2.2.2.1, uL.2.2.2.2.2.2.2.2.2.1, uL.2.2.2.2.2.2.2.2.2.2.1, uL.2.2.2.2.2.2.2.2.2.2.2.1, uL.2.2.2.2.2.2.2.2.2.2.2.2.1, uL.2.2.2.2.2.2.2.2.2.2.2.2.2.1, uL.2.2.2.2.2.2.2.2.2.2.2.2.2.2.1, uL.2.2.2.2.2.2.2.2.2.2.2.2.2.2.2.1, uL.2.2.2.2.2.2.2.2.2.2.2.2.2.2.2.2.1, uL.2.2.2.2.2.2.2.2.2.2.2.2.2.2.2.2.2) (1 : Int32)) (fun v2 =>
    some (v2.1, v2.2))
  else
    gd a1 108 (
    some ((uL.2.2.2.2.2.2.2.2.2.2.2.2.2.1 a1.toNatClampNeg), ((0 : Int32), uL.2.1, uL.2.2.1, uL.2.2.2.1, uL.2.2.2.2.1, uL.2.2.2.2.2.1, uL.2.2.2.2.2.2.1, uL.2.2.2.2.2.2.2.1, uL.2.2.2.2.2.2.2.2.1, uL.2.2.2.2.2.2.2.2.2.1, uL.2.2.2.2.2.2.2.2.2.2.1, uL.2.2.2.2.2.2.2.2.2.2.2.1, uL.2.2.2.2.2.2.2.2.2.2.2.2.1, uL.2.2.2.2.2.2.2.2.2.2.2.2.2.1, uL.2.2.2.2.2.2.2.2.2.2.2.2.2.2.1, uL.2.2.2.2.2.2.2.2.2.2.2.2.2.2.2.1, uL.2.2.2.2.2.2.2.2.2.2.2.2.2.2.2.2.1, uL.2.2.2.2.2.2.2.2.2.2.2.2.2.2.2.2.2))))
set_option maxHeartbeats 4000000 in
set_option maxRecDepth 100000 in
theorem c_X5_thrillIn (l : Launch) (dC : Nat → ClassId) (dI : Nat → Nat → Nat) (cI cZ : ClassId) (l0 l4 l5 l6 l8 l10 l11 l12 l13 l14 l15 l16 : Nat) (sz : Nat) (uL : tX5) (a1 : Int32) {z : (Int32 × tX5)} (hok : p_X5_thrillIn uL a1 = some z) : Met l yX5_thrillIn (Cond.code yX5_thrillIn cX5_thrillIn 2 (some .int) :: lw_all) { frames := 2, cells := 0, slots := 0, locals := 43 } (prW (dC, dI) vwCl (TYS cI cZ) ((wX5 cI cZ l0 l4 l5 l6 l8 l10 l11 l12 l13 l14 l15 l16 uL)) sz [.ref l0, .int a1]) (va_Qi (fun (r : Int32) (_ : Unit) => r = z.1) (fun _ t => va_P (dC, dI) vwCl ((wX5 cI cZ l0 l4 l5 l6 l8 l10 l11 l12 l13 l14 l15 l16 z.2)) t.heap) (va_A ((wX5 cI cZ l0 l4 l5 l6 l8 l10 l11 l12 l13 l14 l15 l16 uL)) sz)) 0 0 (va_A ((wX5 cI cZ l0 l4 l5 l6 l8 l10 l11 l12 l13 l14 l15 l16 uL)) sz) := by
  refine oM (by decide) (Nat.le_of_ble_eq_true rfl) ?_
  intro p e s m args below meth c S hr hlk hnm hB ls hl
  have hx := S.1
  have hb := S.2.1
  have hml := S.2.2.1
  have hown : s.vm.findClass RX5 = some m.cls := S.2.2.2.1
  have hts := S.2.2.2.2
  have S : CallFix p m c cX5_thrillIn 2 s args lw_all RX5 := S
  have hl : lv_has ls 2 [(0, .ref l0), (1, .int a1)] := hl
  obtain ⟨hsz, hP, hK, hD0⟩ := hB
  subst hsz
  have hD := hD0.self (sz := s.heap.size)
  generalize hAe : va_A ((wX5 cI cZ l0 l4 l5 l6 l8 l10 l11 l12 l13 l14 l15 l16 uL)) s.heap.size = A at hD ⊢
  have hA : ∀ q : Nat, s.heap.size ≤ q → A q := fun q h => by rw [← hAe]; exact Or.inr h
  have hS : va_S A s.heap s.heap [] := va_S.rf
  have hP : va_P (dC, dI) vwCl ((wX5 cI cZ l0 l4 l5 l6 l8 l10 l11 l12 l13 l14 l15 l16 uL)) s.heap := hP
  unfold p_X5_thrillIn at hok
  refine lv_aload_n hx hb dX5_thrillIn_0 rfl (lv_at hl 0 rfl) ?_
  refine lv_iconst (v := (0 : Int32)) hx hb dX5_thrillIn_1 (by decide) ?_
  refine va_put (D := (dC, dI)) (ci := 5) (v := .int (0 : Int32)) (ty := .int) (C := RX5) (T := TX5) (N := 18) hx hb hts inX5 tyX5 tyX5_ok nmX5 hown hK hP hD hS 0 rfl rfl 0 (by decide) (hts _ qf_X5_50) (fun _ h9 => h9) rfl (tyX5_ok 0 (by decide)) rfl rfl (Nat.le_of_ble_eq_true rfl) dX5_thrillIn_2 (fun H locs hP _ hS => ?_)
  have hP : va_P (dC, dI) vwCl ((wX5 cI cZ l0 l4 l5 l6 l8 l10 l11 l12 l13 l14 l15 l16 ((0 : Int32), uL.2.1, uL.2.2.1, uL.2.2.2.1, uL.2.2.2.2.1, uL.2.2.2.2.2.1, uL.2.2.2.2.2.2.1, uL.2.2.2.2.2.2.2.1, uL.2.2.2.2.2.2.2.2.1, uL.2.2.2.2.2.2.2.2.2.1, uL.2.2.2.2.2.2.2.2.2.2.1, uL.2.2.2.2.2.2.2.2.2.2.2.1, uL.2.2.2.2.2.2.2.2.2.2.2.2.1, uL.2.2.2.2.2.2.2.2.2.2.2.2.2.1, uL.2.2.2.2.2.2.2.2.2.2.2.2.2.2.1, uL.2.2.2.2.2.2.2.2.2.2.2.2.2.2.2.1, uL.2.2.2.2.2.2.2.2.2.2.2.2.2.2.2.2.1, uL.2.2.2.2.2.2.2.2.2.2.2.2.2.2.2.2.2))) H := hP
  have hD : va_D A ((wX5 cI cZ l0 l4 l5 l6 l8 l10 l11 l12 l13 l14 l15 l16 ((0 : Int32), uL.2.1, uL.2.2.1, uL.2.2.2.1, uL.2.2.2.2.1, uL.2.2.2.2.2.1, uL.2.2.2.2.2.2.1, uL.2.2.2.2.2.2.2.1, uL.2.2.2.2.2.2.2.2.1, uL.2.2.2.2.2.2.2.2.2.1, uL.2.2.2.2.2.2.2.2.2.2.1, uL.2.2.2.2.2.2.2.2.2.2.2.1, uL.2.2.2.2.2.2.2.2.2.2.2.2.1, uL.2.2.2.2.2.2.2.2.2.2.2.2.2.1, uL.2.2.2.2.2.2.2.2.2.2.2.2.2.2.1, uL.2.2.2.2.2.2.2.2.2.2.2.2.2.2.2.1, uL.2.2.2.2.2.2.2.2.2.2.2.2.2.2.2.2.1, uL.2.2.2.2.2.2.2.2.2.2.2.2.2.2.2.2.2))) := D_L hD
  refine lv_aload_n hx hb dX5_thrillIn_5 rfl (lv_at hl 0 rfl) ?_
  refine lv_iload_n hx hb dX5_thrillIn_6 rfl (lv_at hl 1 rfl) ?_
  obtain ⟨v1, hc1, hok⟩ := bd_some hok
  refine cRVi (ci := 5) (q0 := 0) [.int a1] S hK hP (c_X5_isInstalment l dC dI cI cZ l0 l4 l5 l6 l8 l10 l11 l12 l13 l14 l15 l16 ((0 : Int32), uL.2.1, uL.2.2.1, uL.2.2.2.1, uL.2.2.2.2.1, uL.2.2.2.2.2.1, uL.2.2.2.2.2.2.1, uL.2.2.2.2.2.2.2.1, uL.2.2.2.2.2.2.2.2.1, uL.2.2.2.2.2.2.2.2.2.1, uL.2.2.2.2.2.2.2.2.2.2.1, uL.2.2.2.2.2.2.2.2.2.2.2.1, uL.2.2.2.2.2.2.2.2.2.2.2.2.1, uL.2.2.2.2.2.2.2.2.2.2.2.2.2.1, uL.2.2.2.2.2.2.2.2.2.2.2.2.2.2.1, uL.2.2.2.2.2.2.2.2.2.2.2.2.2.2.2.1, uL.2.2.2.2.2.2.2.2.2.2.2.2.2.2.2.2.1, uL.2.2.2.2.2.2.2.2.2.2.2.2.2.2.2.2.2) a1 hc1) (lw_V qm_X5_140 qi_X5_isInstalment qs_X5_isInstalment qn_X5 qc_X5_isInstalment) hd_X5_isInstalment ⟨rfl, rfl⟩ ⟨Nat.le_of_ble_eq_true rfl, Nat.le_of_ble_eq_true rfl⟩ ⟨Nat.le_of_ble_eq_true rfl, Nat.le_of_ble_eq_true rfl⟩ rfl rfl rfl hl.1 (Nat.le_of_ble_eq_true rfl) rfl dX5_thrillIn_7 ?_
  refine lv_if_eq (tgt := 22) hx hb dX5_thrillIn_10 (by decide) (fun hc => ?_) (fun hc => ?_)
  · have hok := ip hok hc
    refine lv_aload_n hx hb dX5_thrillIn_22 rfl (lv_at hl 0 rfl) ?_
    refine lv_iconst (v := (1 : Int32)) hx hb dX5_thrillIn_23 (by decide) ?_
    obtain ⟨v2, hc2, hok⟩ := bd_some hok
    refine cWVi (ci := 5) (q0 := 0) [.int (1 : Int32)] S hK hP hD hS hA (c_X5_fail l dC dI cI cZ l0 l4 l5 l6 l8 l10 l11 l12 l13 l14 l15 l16 _ ((0 : Int32), uL.2.1, uL.2.2.1, uL.2.2.2.1, uL.2.2.2.2.1, uL.2.2.2.2.2.1, uL.2.2.2.2.2.2.1, uL.2.2.2.2.2.2.2.1, uL.2.2.2.2.2.2.2.2.1, uL.2.2.2.2.2.2.2.2.2.1, uL.2.2.2.2.2.2.2.2.2.2.1, uL.2.2.2.2.2.2.2.2.2.2.2.1, uL.2.2.2.2.2.2.2.2.2.2.2.2.1, uL.2.2.2.2.2.2.2.2.2.2.2.2.2.1, uL.2.2.2.2.2.2.2.2.2.2.2.2.2.2.1, uL.2.2.2.2.2.2.2.2.2.2.2.2.2.2.2.1, uL.2.2.2.2.2.2.2.2.2.2.2.2.2.2.2.2.1, uL.2.2.2.2.2.2.2.2.2.2.2.2.2.2.2.2.2) (1 : Int32) hc2) (lw_V qm_X5_112 qi_X5_fail qs_X5_fail qn_X5 qc_X5_fail) hd_X5_fail ⟨rfl, rfl⟩ ⟨Nat.le_of_ble_eq_true rfl, Nat.le_of_ble_eq_true rfl⟩ ⟨Nat.le_of_ble_eq_true rfl, Nat.le_of_ble_eq_true rfl⟩ rfl rfl rfl hl.1 (Nat.le_of_ble_eq_true rfl) rfl dX5_thrillIn_24 (D_L hD) (fun H locs hP hD hS => ?_)
    have hok := Option.some.inj hok
    subst hok
    exact eWi S hr hlk rfl hP hS (Nat.le_of_ble_eq_true rfl) (Nat.le_of_ble_eq_true rfl) dX5_thrillIn_27
  · have hok := iq hok hc
    refine lv_aload_n hx hb dX5_thrillIn_13 rfl (lv_at hl 0 rfl) ?_
    refine va_get (D := (dC, dI)) (ci := 5) (v := .ref l13) (C := RX5) (T := TX5) (N := 18) hx hb hts inX5 hown hK hP 0 rfl rfl 13 (by decide) (hts _ qf_X5_38) (fun _ h9 => h9) rfl dX5_thrillIn_14 ?_
    refine lv_iload_n hx hb dX5_thrillIn_17 rfl (lv_at hl 1 rfl) ?_
    obtain ⟨hi3, hok⟩ := gd_some hok
    refine va_iald hx hb hK hP 8 0 rfl rfl hi3 dX5_thrillIn_18 ?_
    refine lv_goto (tgt := 27) hx hb dX5_thrillIn_19 (by decide) ?_
    have hok := Option.some.inj hok
    subst hok
    exact eWi S hr hlk rfl hP hS (Nat.le_of_ble_eq_true rfl) (Nat.le_of_ble_eq_true rfl) dX5_thrillIn_27
theorem hd_X5_hourIn : yX5_hourIn.cls = RX5 ∧ yX5_hourIn.cls ≠ "java/lang/invoke/MethodHandle" ∧ yX5_hourIn.cls ≠ "java/lang/invoke/VarHandle" ∧ (parseMethodDescriptor yX5_hourIn.desc).map (fun d => d.parameters.length) = some 1 := by decide +kernel
def p_X5_hourIn (uL : tX5) (a1 : Int32) : Option (Int32 × tX5) :=
  bd (p_X5_isInstalment ((0 : Int32), uL.2.1, uL.2.2.1, uL.2.2.2.1, uL.2.2.2.2.1, uL.2.2.2.2.2.1, uL.2.2.2.2.2.2.1, uL.2.2.2.2.2.2.2.1, uL.2.2.2.2.2.2.2.2.1, uL.2.2.2.2.2.2.2.2.2.1, uL.2.2.2.2.2.2.2.2.2.2.1, uL.2.2.2.2.2.2.2.2.2.2.2.1, uL.2.2.2.2.2.2.2.2.2.2.2.2.1, uL.2.2.2.2.2.2.2.2.2.2.2.2.2.1, uL.2.2.2.2.2.2.2.2.2.2.2.2.2.2.1, uL.2.2.2.2.2.2.2.2.2.2.2.2.2.2.2.1, uL.2.2.2.2.2.2.2.2.2.2.2.2.2.2.2.2.1, uL.2.2.2.2.2.2.2.2.2.2.2.2.2.2.2.2.2) a1) (fun v1 =>
  if v1 = 0 then
    bd (p_X5_fail ((0 : Int32), uL.2.1, uL.2.2.1, uL.2.2.2.1, uL.2.2.2.2.1, uL.2.2.2.2.2.1, uL.2.2.2.2.2.2.1, uL.2.2.2.2.2.2.2.1, uL.2.2.2.2.2.2.2.2.1, uL.2.2.2.2.2.2.2.2.2.1, uL.2.2.2.2.2.2.2.2.2.2.1, uL.2.2.2.2.2.2.2.2.2.2.2.1, uL.2.2.2.2.2.2.2.2.2.2.2.2.1, uL.2.2.2.2.2.2.2.2.2.2.2.2.2.1, uL.2.2.2.2.2.2.2.2.2.2.2.2.2.2.1, uL.2.2.2.2.2.2.2.2.2.2.2.2.2.2.2.1, uL.2.2.2.2.2.2.2.2.2.2.2.2.2.2.2.2.1, uL.2.2.2.2.2.2.2.2.2.2.2.2.2.2.2.2.2) (1 : Int32)) (fun v2 =>
    some (v2.1, v2.2))
  else
    gd a1 108 (
    some ((uL.2.2.2.2.2.2.2.2.2.2.2.2.2.2.1 a1.toNatClampNeg), ((0 : Int32), uL.2.1, uL.2.2.1, uL.2.2.2.1, uL.2.2.2.2.1, uL.2.2.2.2.2.1, uL.2.2.2.2.2.2.1, uL.2.2.2.2.2.2.2.1, uL.2.2.2.2.2.2.2.2.1, uL.2.2.2.2.2.2.2.2.2.1, uL.2.2.2.2.2.2.2.2.2.2.1, uL.2.2.2.2.2.2.2.2.2.2.2.1, uL.2.2.2.2.2.2.2.2.2.2.2.2.1, uL.2.2.2.2.2.2.2.2.2.2.2.2.2.1, uL.2.2.2.2.2.2.2.2.2.2.2.2.2.2.1, uL.2.2.2.2.2.2.2.2.2.2.2.2.2.2.2.1, uL.2.2.2.2.2.2.2.2.2.2.2.2.2.2.2.2.1, uL.2.2.2.2.2.2.2.2.2.2.2.2.2.2.2.2.2))))
set_option maxHeartbeats 4000000 in
set_option maxRecDepth 100000 in
theorem c_X5_hourIn (l : Launch) (dC : Nat → ClassId) (dI : Nat → Nat → Nat) (cI cZ : ClassId) (l0 l4 l5 l6 l8 l10 l11 l12 l13 l14 l15 l16 : Nat) (sz : Nat) (uL : tX5) (a1 : Int32) {z : (Int32 × tX5)} (hok : p_X5_hourIn uL a1 = some z) : Met l yX5_hourIn (Cond.code yX5_hourIn cX5_hourIn 2 (some .int) :: lw_all) { frames := 2, cells := 0, slots := 0, locals := 43 } (prW (dC, dI) vwCl (TYS cI cZ) ((wX5 cI cZ l0 l4 l5 l6 l8 l10 l11 l12 l13 l14 l15 l16 uL)) sz [.ref l0, .int a1]) (va_Qi (fun (r : Int32) (_ : Unit) => r = z.1) (fun _ t => va_P (dC, dI) vwCl ((wX5 cI cZ l0 l4 l5 l6 l8 l10 l11 l12 l13 l14 l15 l16 z.2)) t.heap) (va_A ((wX5 cI cZ l0 l4 l5 l6 l8 l10 l11 l12 l13 l14 l15 l16 uL)) sz)) 0 0 (va_A ((wX5 cI cZ l0 l4 l5 l6 l8 l10 l11 l12 l13 l14 l15 l16 uL)) sz) := by
  refine oM (by decide) (Nat.le_of_ble_eq_true rfl) ?_
  intro p e s m args below meth c S hr hlk hnm hB ls hl
  have hx := S.1
  have hb := S.2.1
  have hml := S.2.2.1
  have hown : s.vm.findClass RX5 = some m.cls := S.2.2.2.1
  have hts := S.2.2.2.2
  have S : CallFix p m c cX5_hourIn 2 s args lw_all RX5 := S
  have hl : lv_has ls 2 [(0, .ref l0), (1, .int a1)] := hl
  obtain ⟨hsz, hP, hK, hD0⟩ := hB
  subst hsz
  have hD := hD0.self (sz := s.heap.size)
  generalize hAe : va_A ((wX5 cI cZ l0 l4 l5 l6 l8 l10 l11 l12 l13 l14 l15 l16 uL)) s.heap.size = A at hD ⊢
  have hA : ∀ q : Nat, s.heap.size ≤ q → A q := fun q h => by rw [← hAe]; exact Or.inr h
  have hS : va_S A s.heap s.heap [] := va_S.rf
  have hP : va_P (dC, dI) vwCl ((wX5 cI cZ l0 l4 l5 l6 l8 l10 l11 l12 l13 l14 l15 l16 uL)) s.heap := hP
  unfold p_X5_hourIn at hok
  refine lv_aload_n hx hb dX5_hourIn_0 rfl (lv_at hl 0 rfl) ?_
  refine lv_iconst (v := (0 : Int32)) hx hb dX5_hourIn_1 (by decide) ?_
  refine va_put (D := (dC, dI)) (ci := 5) (v := .int (0 : Int32)) (ty := .int) (C := RX5) (T := TX5) (N := 18) hx hb hts inX5 tyX5 tyX5_ok nmX5 hown hK hP hD hS 0 rfl rfl 0 (by decide) (hts _ qf_X5_50) (fun _ h9 => h9) rfl (tyX5_ok 0 (by decide)) rfl rfl (Nat.le_of_ble_eq_true rfl) dX5_hourIn_2 (fun H locs hP _ hS => ?_)
  have hP : va_P (dC, dI) vwCl ((wX5 cI cZ l0 l4 l5 l6 l8 l10 l11 l12 l13 l14 l15 l16 ((0 : Int32), uL.2.1, uL.2.2.1, uL.2.2.2.1, uL.2.2.2.2.1, uL.2.2.2.2.2.1, uL.2.2.2.2.2.2.1, uL.2.2.2.2.2.2.2.1, uL.2.2.2.2.2.2.2.2.1, uL.2.2.2.2.2.2.2.2.2.1, uL.2.2.2.2.2.2.2.2.2.2.1, uL.2.2.2.2.2.2.2.2.2.2.2.1, uL.2.2.2.2.2.2.2.2.2.2.2.2.1, uL.2.2.2.2.2.2.2.2.2.2.2.2.2.1, uL.2.2.2.2.2.2.2.2.2.2.2.2.2.2.1, uL.2.2.2.2.2.2.2.2.2.2.2.2.2.2.2.1, uL.2.2.2.2.2.2.2.2.2.2.2.2.2.2.2.2.1, uL.2.2.2.2.2.2.2.2.2.2.2.2.2.2.2.2.2))) H := hP
  have hD : va_D A ((wX5 cI cZ l0 l4 l5 l6 l8 l10 l11 l12 l13 l14 l15 l16 ((0 : Int32), uL.2.1, uL.2.2.1, uL.2.2.2.1, uL.2.2.2.2.1, uL.2.2.2.2.2.1, uL.2.2.2.2.2.2.1, uL.2.2.2.2.2.2.2.1, uL.2.2.2.2.2.2.2.2.1, uL.2.2.2.2.2.2.2.2.2.1, uL.2.2.2.2.2.2.2.2.2.2.1, uL.2.2.2.2.2.2.2.2.2.2.2.1, uL.2.2.2.2.2.2.2.2.2.2.2.2.1, uL.2.2.2.2.2.2.2.2.2.2.2.2.2.1, uL.2.2.2.2.2.2.2.2.2.2.2.2.2.2.1, uL.2.2.2.2.2.2.2.2.2.2.2.2.2.2.2.1, uL.2.2.2.2.2.2.2.2.2.2.2.2.2.2.2.2.1, uL.2.2.2.2.2.2.2.2.2.2.2.2.2.2.2.2.2))) := D_L hD
  refine lv_aload_n hx hb dX5_hourIn_5 rfl (lv_at hl 0 rfl) ?_
  refine lv_iload_n hx hb dX5_hourIn_6 rfl (lv_at hl 1 rfl) ?_
  obtain ⟨v1, hc1, hok⟩ := bd_some hok
  refine cRVi (ci := 5) (q0 := 0) [.int a1] S hK hP (c_X5_isInstalment l dC dI cI cZ l0 l4 l5 l6 l8 l10 l11 l12 l13 l14 l15 l16 ((0 : Int32), uL.2.1, uL.2.2.1, uL.2.2.2.1, uL.2.2.2.2.1, uL.2.2.2.2.2.1, uL.2.2.2.2.2.2.1, uL.2.2.2.2.2.2.2.1, uL.2.2.2.2.2.2.2.2.1, uL.2.2.2.2.2.2.2.2.2.1, uL.2.2.2.2.2.2.2.2.2.2.1, uL.2.2.2.2.2.2.2.2.2.2.2.1, uL.2.2.2.2.2.2.2.2.2.2.2.2.1, uL.2.2.2.2.2.2.2.2.2.2.2.2.2.1, uL.2.2.2.2.2.2.2.2.2.2.2.2.2.2.1, uL.2.2.2.2.2.2.2.2.2.2.2.2.2.2.2.1, uL.2.2.2.2.2.2.2.2.2.2.2.2.2.2.2.2.1, uL.2.2.2.2.2.2.2.2.2.2.2.2.2.2.2.2.2) a1 hc1) (lw_V qm_X5_140 qi_X5_isInstalment qs_X5_isInstalment qn_X5 qc_X5_isInstalment) hd_X5_isInstalment ⟨rfl, rfl⟩ ⟨Nat.le_of_ble_eq_true rfl, Nat.le_of_ble_eq_true rfl⟩ ⟨Nat.le_of_ble_eq_true rfl, Nat.le_of_ble_eq_true rfl⟩ rfl rfl rfl hl.1 (Nat.le_of_ble_eq_true rfl) rfl dX5_hourIn_7 ?_
  refine lv_if_eq (tgt := 22) hx hb dX5_hourIn_10 (by decide) (fun hc => ?_) (fun hc => ?_)
  · have hok := ip hok hc
    refine lv_aload_n hx hb dX5_hourIn_22 rfl (lv_at hl 0 rfl) ?_
    refine lv_iconst (v := (1 : Int32)) hx hb dX5_hourIn_23 (by decide) ?_
    obtain ⟨v2, hc2, hok⟩ := bd_some hok
    refine cWVi (ci := 5) (q0 := 0) [.int (1 : Int32)] S hK hP hD hS hA (c_X5_fail l dC dI cI cZ l0 l4 l5 l6 l8 l10 l11 l12 l13 l14 l15 l16 _ ((0 : Int32), uL.2.1, uL.2.2.1, uL.2.2.2.1, uL.2.2.2.2.1, uL.2.2.2.2.2.1, uL.2.2.2.2.2.2.1, uL.2.2.2.2.2.2.2.1, uL.2.2.2.2.2.2.2.2.1, uL.2.2.2.2.2.2.2.2.2.1, uL.2.2.2.2.2.2.2.2.2.2.1, uL.2.2.2.2.2.2.2.2.2.2.2.1, uL.2.2.2.2.2.2.2.2.2.2.2.2.1, uL.2.2.2.2.2.2.2.2.2.2.2.2.2.1, uL.2.2.2.2.2.2.2.2.2.2.2.2.2.2.1, uL.2.2.2.2.2.2.2.2.2.2.2.2.2.2.2.1, uL.2.2.2.2.2.2.2.2.2.2.2.2.2.2.2.2.1, uL.2.2.2.2.2.2.2.2.2.2.2.2.2.2.2.2.2) (1 : Int32) hc2) (lw_V qm_X5_112 qi_X5_fail qs_X5_fail qn_X5 qc_X5_fail) hd_X5_fail ⟨rfl, rfl⟩ ⟨Nat.le_of_ble_eq_true rfl, Nat.le_of_ble_eq_true rfl⟩ ⟨Nat.le_of_ble_eq_true rfl, Nat.le_of_ble_eq_true rfl⟩ rfl rfl rfl hl.1 (Nat.le_of_ble_eq_true rfl) rfl dX5_hourIn_24 (D_L hD) (fun H locs hP hD hS => ?_)
    have hok := Option.some.inj hok
    subst hok
    exact eWi S hr hlk rfl hP hS (Nat.le_of_ble_eq_true rfl) (Nat.le_of_ble_eq_true rfl) dX5_hourIn_27
  · have hok := iq hok hc
    refine lv_aload_n hx hb dX5_hourIn_13 rfl (lv_at hl 0 rfl) ?_
    refine va_get (D := (dC, dI)) (ci := 5) (v := .ref l14) (C := RX5) (T := TX5) (N := 18) hx hb hts inX5 hown hK hP 0 rfl rfl 14 (by decide) (hts _ qf_X5_41) (fun _ h9 => h9) rfl dX5_hourIn_14 ?_
    refine lv_iload_n hx hb dX5_hourIn_17 rfl (lv_at hl 1 rfl) ?_
    obtain ⟨hi3, hok⟩ := gd_some hok
    refine va_iald hx hb hK hP 9 0 rfl rfl hi3 dX5_hourIn_18 ?_
    refine lv_goto (tgt := 27) hx hb dX5_hourIn_19 (by decide) ?_
    have hok := Option.some.inj hok
    subst hok
    exact eWi S hr hlk rfl hP hS (Nat.le_of_ble_eq_true rfl) (Nat.le_of_ble_eq_true rfl) dX5_hourIn_27
theorem hd_X5_thrilling : yX5_thrilling.cls = RX5 ∧ yX5_thrilling.cls ≠ "java/lang/invoke/MethodHandle" ∧ yX5_thrilling.cls ≠ "java/lang/invoke/VarHandle" ∧ (parseMethodDescriptor yX5_thrilling.desc).map (fun d => d.parameters.length) = some 0 := by decide +kernel
def p_X5_thrilling_J35 (rec4 : tX5 → Int32 → Int32 → Option Int32) (uL : tX5) (l35_2 : Int32) : Option Int32 :=
  rec4 uL l35_2 (l35_2 + 1)
def p_X5_thrilling_L4 : Nat → tX5 → Int32 → Int32 → Option Int32
  | 0, _, _, _ => none
  | n + 1, uL, l4_1, l4_2 =>
    if (uL.2.2.2.2.2.2.2.2.2.2.2.2.2.2.2.1 8) ≤ l4_2 then
      some l4_1
    else
      if l4_1 = (-1 : Int32) then
        p_X5_thrilling_J35 (p_X5_thrilling_L4 n) uL l4_2
      else
        gd l4_2 108 (
        gd l4_1 108 (
        if (uL.2.2.2.2.2.2.2.2.2.2.2.2.2.1 l4_2.toNatClampNeg) ≤ (uL.2.2.2.2.2.2.2.2.2.2.2.2.2.1 l4_1.toNatClampNeg) then
          (p_X5_thrilling_L4 n) uL l4_1 (l4_2 + 1)
        else
          p_X5_thrilling_J35 (p_X5_thrilling_L4 n) uL l4_2))
def p_X5_thrilling (uL : tX5) : Option Int32 :=
  p_X5_thrilling_L4 200 uL (-1 : Int32) (0 : Int32)
set_option maxHeartbeats 4000000 in
set_option maxRecDepth 100000 in
theorem c_X5_thrilling (l : Launch) (dC : Nat → ClassId) (dI : Nat → Nat → Nat) (cI cZ : ClassId) (l0 l4 l5 l6 l8 l10 l11 l12 l13 l14 l15 l16 : Nat) (uL : tX5) {z : Int32} (hok : p_X5_thrilling uL = some z) : Met l yX5_thrilling (Cond.code yX5_thrilling cX5_thrilling 3 (some .int) :: lw_all) { frames := 0, cells := 0, slots := 0, locals := 0 } (prR (dC, dI) vwCl (TYS cI cZ) ((wX5 cI cZ l0 l4 l5 l6 l8 l10 l11 l12 l13 l14 l15 l16 uL)) [.ref l0]) (vp_Si (fun r => r = z)) 0 0 (fun _ => False) := by
  refine oM (by decide) (Nat.le_of_ble_eq_true rfl) ?_
  intro p e s m args below meth c S hr hlk hnm hB ls hl
  have hx := S.1
  have hb := S.2.1
  have hml := S.2.2.1
  have hown : s.vm.findClass RX5 = some m.cls := S.2.2.2.1
  have hts := S.2.2.2.2
  have S : CallFix p m c cX5_thrilling 3 s args lw_all RX5 := S
  have hl : lv_has ls 3 [(0, .ref l0)] := hl
  obtain ⟨hP, hK⟩ := hB
  have hP : va_P (dC, dI) vwCl ((wX5 cI cZ l0 l4 l5 l6 l8 l10 l11 l12 l13 l14 l15 l16 uL)) s.heap := hP
  have L4 : ∀ n4 : Nat, ∀ (l4_1 : Int32) (l4_2 : Int32) (ls : Array Slot) (hl : lv_has ls 3 [(0, .ref l0), (1, .int l4_1), (2, .int l4_2)]) (hok : p_X5_thrilling_L4 n4 uL l4_1 l4_2 = some z), W p l e { frames := 0, cells := 0, slots := 0, locals := 0 } s m args below meth c s.heap [] 0 0 (MQ below (vp_Si (fun r => r = z)) args s 0 0 (fun _ => False)) (F0 m 4 ls []) := by
    intro n4
    induction n4 with
    | zero =>
      intro l4_1 l4_2 ls hl hok
      rw [p_X5_thrilling_L4] at hok
      cases hok
    | succ n4 ih4 =>
      have J35 : ∀ (l35_2 : Int32) (ls : Array Slot) (hl : lv_has ls 3 [(0, .ref l0), (2, .int l35_2)]) (hok : p_X5_thrilling_J35 (p_X5_thrilling_L4 n4) uL l35_2 = some z), W p l e { frames := 0, cells := 0, slots := 0, locals := 0 } s m args below meth c s.heap [] 0 0 (MQ below (vp_Si (fun r => r = z)) args s 0 0 (fun _ => False)) (F0 m 35 ls []) := by
        intro l35_2 ls hl hok
        unfold p_X5_thrilling_J35 at hok
        refine lv_iload_n hx hb dX5_thrilling_35 rfl (lv_at hl 1 rfl) ?_
        refine lv_istore_n (lv' := [(1, .int l35_2), (0, .ref l0), (2, .int l35_2)]) hx hb dX5_thrilling_36 rfl hl (by decide) rfl (fun ls hl => ?_)
        refine lv_iinc (v := (l35_2 + 1)) (lv' := [(2, .int (l35_2 + 1)), (1, .int l35_2), (0, .ref l0)]) hx hb dX5_thrilling_37 hl (k := 2) rfl rfl (by decide) rfl (fun ls hl => ?_)
        refine lv_goto (tgt := 4) hx hb dX5_thrilling_40 (by decide) ?_
        exact ih4 l35_2 (l35_2 + 1) _ (lv_sub hl [2, 1, 0] rfl) hok
      intro l4_1 l4_2 ls hl hok
      rw [p_X5_thrilling_L4] at hok
      refine lv_iload_n hx hb dX5_thrilling_4 rfl (lv_at hl 2 rfl) ?_
      refine lv_aload_n hx hb dX5_thrilling_5 rfl (lv_at hl 0 rfl) ?_
      refine va_get (D := (dC, dI)) (ci := 5) (v := .ref l15) (C := RX5) (T := TX5) (N := 18) hx hb hts inX5 hown hK hP 0 rfl rfl 15 (by decide) (hts _ qf_X5_44) (fun _ h9 => h9) rfl dX5_thrilling_6 ?_
      refine lv_bipush (v := (8 : Int32)) hx hb dX5_thrilling_9 (by decide) ?_
      refine va_ialdK hx hb hK hP 10 0 rfl rfl (j := 8) (by decide) (vp_inK (by decide)) dX5_thrilling_11 ?_
      refine lv_icmp_ge (tgt := 43) hx hb dX5_thrilling_12 (by decide) (fun hc => ?_) (fun hc => ?_)
      · have hok := ip hok hc
        refine lv_iload_n hx hb dX5_thrilling_43 rfl (lv_at hl 1 rfl) ?_
        exact eRi S hr hlk (Option.some.inj hok) dX5_thrilling_44
      · have hok := iq hok hc
        refine lv_iload_n hx hb dX5_thrilling_15 rfl (lv_at hl 1 rfl) ?_
        refine lv_iconst (v := (-1 : Int32)) hx hb dX5_thrilling_16 (by decide) ?_
        refine lv_icmp_eq (tgt := 35) hx hb dX5_thrilling_17 (by decide) (fun hc => ?_) (fun hc => ?_)
        · have hok := ip hok hc
          exact J35 l4_2 _ (lv_sub hl [0, 2] rfl) hok
        · have hok := iq hok hc
          refine lv_aload_n hx hb dX5_thrilling_20 rfl (lv_at hl 0 rfl) ?_
          refine va_get (D := (dC, dI)) (ci := 5) (v := .ref l13) (C := RX5) (T := TX5) (N := 18) hx hb hts inX5 hown hK hP 0 rfl rfl 13 (by decide) (hts _ qf_X5_38) (fun _ h9 => h9) rfl dX5_thrilling_21 ?_
          refine lv_iload_n hx hb dX5_thrilling_24 rfl (lv_at hl 2 rfl) ?_
          obtain ⟨hi1, hok⟩ := gd_some hok
          refine va_iald hx hb hK hP 8 0 rfl rfl hi1 dX5_thrilling_25 ?_
          refine lv_aload_n hx hb dX5_thrilling_26 rfl (lv_at hl 0 rfl) ?_
          refine va_get (D := (dC, dI)) (ci := 5) (v := .ref l13) (C := RX5) (T := TX5) (N := 18) hx hb hts inX5 hown hK hP 0 rfl rfl 13 (by decide) (hts _ qf_X5_38) (fun _ h9 => h9) rfl dX5_thrilling_27 ?_
          refine lv_iload_n hx hb dX5_thrilling_30 rfl (lv_at hl 1 rfl) ?_
          obtain ⟨hi2, hok⟩ := gd_some hok
          refine va_iald hx hb hK hP 8 0 rfl rfl hi2 dX5_thrilling_31 ?_
          refine lv_icmp_le (tgt := 37) hx hb dX5_thrilling_32 (by decide) (fun hc => ?_) (fun hc => ?_)
          · have hok := ip hok hc
            refine lv_iinc (v := (l4_2 + 1)) (lv' := [(2, .int (l4_2 + 1)), (0, .ref l0), (1, .int l4_1)]) hx hb dX5_thrilling_37 hl (k := 2) rfl rfl (by decide) rfl (fun ls hl => ?_)
            refine lv_goto (tgt := 4) hx hb dX5_thrilling_40 (by decide) ?_
            exact ih4 l4_1 (l4_2 + 1) _ (lv_sub hl [1, 2, 0] rfl) hok
          · have hok := iq hok hc
            exact J35 l4_2 _ (lv_sub hl [0, 2] rfl) hok
  unfold p_X5_thrilling at hok
  refine lv_iconst (v := (-1 : Int32)) hx hb dX5_thrilling_0 (by decide) ?_
  refine lv_istore_n (lv' := [(1, .int (-1 : Int32)), (0, .ref l0)]) hx hb dX5_thrilling_1 rfl hl (by decide) rfl (fun ls hl => ?_)
  refine lv_iconst (v := (0 : Int32)) hx hb dX5_thrilling_2 (by decide) ?_
  refine lv_istore_n (lv' := [(2, .int (0 : Int32)), (1, .int (-1 : Int32)), (0, .ref l0)]) hx hb dX5_thrilling_3 rfl hl (by decide) rfl (fun ls hl => ?_)
  exact L4 200 (-1 : Int32) (0 : Int32) _ (lv_sub hl [2, 1, 0] rfl) hok
theorem hd_X5_mostThrilling : yX5_mostThrilling.cls = RX5 ∧ yX5_mostThrilling.cls ≠ "java/lang/invoke/MethodHandle" ∧ yX5_mostThrilling.cls ≠ "java/lang/invoke/VarHandle" ∧ (parseMethodDescriptor yX5_mostThrilling.desc).map (fun d => d.parameters.length) = some 0 := by decide +kernel
def p_X5_mostThrilling (uL : tX5) : Option (Int32 × tX5) :=
  bd (p_X5_thrilling uL) (fun v1 =>
  bd (p_X5_told uL v1) (fun v2 =>
  some (v2.1, v2.2)))
set_option maxHeartbeats 4000000 in
set_option maxRecDepth 100000 in
theorem c_X5_mostThrilling (l : Launch) (dC : Nat → ClassId) (dI : Nat → Nat → Nat) (cI cZ : ClassId) (l0 l4 l5 l6 l8 l10 l11 l12 l13 l14 l15 l16 : Nat) (sz : Nat) (uL : tX5) {z : (Int32 × tX5)} (hok : p_X5_mostThrilling uL = some z) : Met l yX5_mostThrilling (Cond.code yX5_mostThrilling cX5_mostThrilling 1 (some .int) :: lw_all) { frames := 1, cells := 0, slots := 0, locals := 22 } (prW (dC, dI) vwCl (TYS cI cZ) ((wX5 cI cZ l0 l4 l5 l6 l8 l10 l11 l12 l13 l14 l15 l16 uL)) sz [.ref l0]) (va_Qi (fun (r : Int32) (_ : Unit) => r = z.1) (fun _ t => va_P (dC, dI) vwCl ((wX5 cI cZ l0 l4 l5 l6 l8 l10 l11 l12 l13 l14 l15 l16 z.2)) t.heap) (va_A ((wX5 cI cZ l0 l4 l5 l6 l8 l10 l11 l12 l13 l14 l15 l16 uL)) sz)) 0 0 (va_A ((wX5 cI cZ l0 l4 l5 l6 l8 l10 l11 l12 l13 l14 l15 l16 uL)) sz) := by
  refine oM (by decide) (Nat.le_of_ble_eq_true rfl) ?_
  intro p e s m args below meth c S hr hlk hnm hB ls hl
  have hx := S.1
  have hb := S.2.1
  have hml := S.2.2.1
  have hown : s.vm.findClass RX5 = some m.cls := S.2.2.2.1
  have hts := S.2.2.2.2
  have S : CallFix p m c cX5_mostThrilling 1 s args lw_all RX5 := S
  have hl : lv_has ls 1 [(0, .ref l0)] := hl
  obtain ⟨hsz, hP, hK, hD0⟩ := hB
  subst hsz
  have hD := hD0.self (sz := s.heap.size)
  generalize hAe : va_A ((wX5 cI cZ l0 l4 l5 l6 l8 l10 l11 l12 l13 l14 l15 l16 uL)) s.heap.size = A at hD ⊢
  have hA : ∀ q : Nat, s.heap.size ≤ q → A q := fun q h => by rw [← hAe]; exact Or.inr h
  have hS : va_S A s.heap s.heap [] := va_S.rf
  have hP : va_P (dC, dI) vwCl ((wX5 cI cZ l0 l4 l5 l6 l8 l10 l11 l12 l13 l14 l15 l16 uL)) s.heap := hP
  unfold p_X5_mostThrilling at hok
  refine lv_aload_n hx hb dX5_mostThrilling_0 rfl (lv_at hl 0 rfl) ?_
  refine lv_aload_n hx hb dX5_mostThrilling_1 rfl (lv_at hl 0 rfl) ?_
  obtain ⟨v1, hc1, hok⟩ := bd_some hok
  refine cRVi (ci := 5) (q0 := 0) [] S hK hP (c_X5_thrilling l dC dI cI cZ l0 l4 l5 l6 l8 l10 l11 l12 l13 l14 l15 l16 uL hc1) (lw_V qm_X5_143 qi_X5_thrilling qs_X5_thrilling qn_X5 qc_X5_thrilling) hd_X5_thrilling ⟨rfl, rfl⟩ ⟨Nat.le_of_ble_eq_true rfl, Nat.le_of_ble_eq_true rfl⟩ ⟨Nat.le_of_ble_eq_true rfl, Nat.le_of_ble_eq_true rfl⟩ rfl rfl rfl hl.1 (Nat.le_of_ble_eq_true rfl) rfl dX5_mostThrilling_2 ?_
  obtain ⟨v2, hc2, hok⟩ := bd_some hok
  refine cWVi (ci := 5) (q0 := 0) [.int v1] S hK hP hD hS hA (c_X5_told l dC dI cI cZ l0 l4 l5 l6 l8 l10 l11 l12 l13 l14 l15 l16 _ uL v1 hc2) (lw_V qm_X5_125 qi_X5_told qs_X5_told qn_X5 qc_X5_told) hd_X5_told ⟨rfl, rfl⟩ ⟨Nat.le_of_ble_eq_true rfl, Nat.le_of_ble_eq_true rfl⟩ ⟨Nat.le_of_ble_eq_true rfl, Nat.le_of_ble_eq_true rfl⟩ rfl rfl rfl hl.1 (Nat.le_of_ble_eq_true rfl) rfl dX5_mostThrilling_5 (D_L hD) (fun H locs hP hD hS => ?_)
  have hok := Option.some.inj hok
  subst hok
  exact eWi S hr hlk rfl hP hS (Nat.le_of_ble_eq_true rfl) (Nat.le_of_ble_eq_true rfl) dX5_mostThrilling_8
theorem hd_X5_waits : yX5_waits.cls = RX5 ∧ yX5_waits.cls ≠ "java/lang/invoke/MethodHandle" ∧ yX5_waits.cls ≠ "java/lang/invoke/VarHandle" ∧ (parseMethodDescriptor yX5_waits.desc).map (fun d => d.parameters.length) = some 0 := by decide +kernel
def p_X5_waits_L4 : Nat → tX5 → Int32 → Int32 → Option Int32
  | 0, _, _, _ => none
  | n + 1, uL, l4_1, l4_2 =>
    if (uL.2.2.2.2.2.2.2.2.2.2.2.2.2.2.2.1 8) ≤ l4_2 then
      some l4_1
    else
      gd l4_2 108 (
      gd (l4_2 - (1 : Int32)) 108 (
      (p_X5_waits_L4 n) uL (if l4_1 < ((uL.2.2.2.2.2.2.2.2.2.2.2.2.2.2.1 l4_2.toNatClampNeg) - (uL.2.2.2.2.2.2.2.2.2.2.2.2.2.2.1 (l4_2 - (1 : Int32)).toNatClampNeg)) then ((uL.2.2.2.2.2.2.2.2.2.2.2.2.2.2.1 l4_2.toNatClampNeg) - (uL.2.2.2.2.2.2.2.2.2.2.2.2.2.2.1 (l4_2 - (1 : Int32)).toNatClampNeg)) else l4_1) (l4_2 + 1)))
def p_X5_waits (uL : tX5) : Option Int32 :=
  p_X5_waits_L4 200 uL (0 : Int32) (1 : Int32)
set_option maxHeartbeats 4000000 in
set_option maxRecDepth 100000 in
theorem c_X5_waits (l : Launch) (dC : Nat → ClassId) (dI : Nat → Nat → Nat) (cI cZ : ClassId) (l0 l4 l5 l6 l8 l10 l11 l12 l13 l14 l15 l16 : Nat) (uL : tX5) {z : Int32} (hok : p_X5_waits uL = some z) : Met l yX5_waits (Cond.code yX5_waits cX5_waits 3 (some .int) :: lw_all) { frames := 1, cells := 0, slots := 0, locals := 21 } (prR (dC, dI) vwCl (TYS cI cZ) ((wX5 cI cZ l0 l4 l5 l6 l8 l10 l11 l12 l13 l14 l15 l16 uL)) [.ref l0]) (vp_Si (fun r => r = z)) 0 0 (fun _ => False) := by
  refine oM (by decide) (Nat.le_of_ble_eq_true rfl) ?_
  intro p e s m args below meth c S hr hlk hnm hB ls hl
  have hx := S.1
  have hb := S.2.1
  have hml := S.2.2.1
  have hown : s.vm.findClass RX5 = some m.cls := S.2.2.2.1
  have hts := S.2.2.2.2
  have S : CallFix p m c cX5_waits 3 s args lw_all RX5 := S
  have hl : lv_has ls 3 [(0, .ref l0)] := hl
  obtain ⟨hP, hK⟩ := hB
  have hP : va_P (dC, dI) vwCl ((wX5 cI cZ l0 l4 l5 l6 l8 l10 l11 l12 l13 l14 l15 l16 uL)) s.heap := hP
  have L4 : ∀ n4 : Nat, ∀ (l4_1 : Int32) (l4_2 : Int32) (ls : Array Slot) (hl : lv_has ls 3 [(0, .ref l0), (1, .int l4_1), (2, .int l4_2)]) (hok : p_X5_waits_L4 n4 uL l4_1 l4_2 = some z), W p l e { frames := 1, cells := 0, slots := 0, locals := 21 } s m args below meth c s.heap [] 0 0 (MQ below (vp_Si (fun r => r = z)) args s 0 0 (fun _ => False)) (F0 m 4 ls []) := by
    intro n4
    induction n4 with
    | zero =>
      intro l4_1 l4_2 ls hl hok
      rw [p_X5_waits_L4] at hok
      cases hok
    | succ n4 ih4 =>
      intro l4_1 l4_2 ls hl hok
      rw [p_X5_waits_L4] at hok
      refine lv_iload_n hx hb dX5_waits_4 rfl (lv_at hl 2 rfl) ?_
      refine lv_aload_n hx hb dX5_waits_5 rfl (lv_at hl 0 rfl) ?_
      refine va_get (D := (dC, dI)) (ci := 5) (v := .ref l15) (C := RX5) (T := TX5) (N := 18) hx hb hts inX5 hown hK hP 0 rfl rfl 15 (by decide) (hts _ qf_X5_44) (fun _ h9 => h9) rfl dX5_waits_6 ?_
      refine lv_bipush (v := (8 : Int32)) hx hb dX5_waits_9 (by decide) ?_
      refine va_ialdK hx hb hK hP 10 0 rfl rfl (j := 8) (by decide) (vp_inK (by decide)) dX5_waits_11 ?_
      refine lv_icmp_ge (tgt := 41) hx hb dX5_waits_12 (by decide) (fun hc => ?_) (fun hc => ?_)
      · have hok := ip hok hc
        refine lv_iload_n hx hb dX5_waits_41 rfl (lv_at hl 1 rfl) ?_
        exact eRi S hr hlk (Option.some.inj hok) dX5_waits_42
      · have hok := iq hok hc
        refine lv_iload_n hx hb dX5_waits_15 rfl (lv_at hl 1 rfl) ?_
        refine lv_aload_n hx hb dX5_waits_16 rfl (lv_at hl 0 rfl) ?_
        refine va_get (D := (dC, dI)) (ci := 5) (v := .ref l14) (C := RX5) (T := TX5) (N := 18) hx hb hts inX5 hown hK hP 0 rfl rfl 14 (by decide) (hts _ qf_X5_41) (fun _ h9 => h9) rfl dX5_waits_17 ?_
        refine lv_iload_n hx hb dX5_waits_20 rfl (lv_at hl 2 rfl) ?_
        obtain ⟨hi1, hok⟩ := gd_some hok
        refine va_iald hx hb hK hP 9 0 rfl rfl hi1 dX5_waits_21 ?_
        refine lv_aload_n hx hb dX5_waits_22 rfl (lv_at hl 0 rfl) ?_
        refine va_get (D := (dC, dI)) (ci := 5) (v := .ref l14) (C := RX5) (T := TX5) (N := 18) hx hb hts inX5 hown hK hP 0 rfl rfl 14 (by decide) (hts _ qf_X5_41) (fun _ h9 => h9) rfl dX5_waits_23 ?_
        refine lv_iload_n hx hb dX5_waits_26 rfl (lv_at hl 2 rfl) ?_
        refine lv_iconst (v := (1 : Int32)) hx hb dX5_waits_27 (by decide) ?_
        refine lv_isub hx hb dX5_waits_28 ?_
        obtain ⟨hi2, hok⟩ := gd_some hok
        refine va_iald hx hb hK hP 9 0 rfl rfl hi2 dX5_waits_29 ?_
        refine lv_isub hx hb dX5_waits_30 ?_
        refine va_mmax hx hb (hml.trans hl.1.symm) hown (hts _ qm_X5_146) (hts _ qt_Math_max) (hts _ qn_Math) (hts _ qc_Math_max) (Nat.le_of_ble_eq_true rfl) (Nat.le_of_ble_eq_true rfl) (Nat.le_of_ble_eq_true rfl) (Nat.le_of_ble_eq_true rfl) dX5_waits_31 ?_
        refine lv_istore_n (lv' := [(1, .int (if l4_1 < ((uL.2.2.2.2.2.2.2.2.2.2.2.2.2.2.1 l4_2.toNatClampNeg) - (uL.2.2.2.2.2.2.2.2.2.2.2.2.2.2.1 (l4_2 - (1 : Int32)).toNatClampNeg)) then ((uL.2.2.2.2.2.2.2.2.2.2.2.2.2.2.1 l4_2.toNatClampNeg) - (uL.2.2.2.2.2.2.2.2.2.2.2.2.2.2.1 (l4_2 - (1 : Int32)).toNatClampNeg)) else l4_1)), (0, .ref l0), (2, .int l4_2)]) hx hb dX5_waits_34 rfl hl (by decide) rfl (fun ls hl => ?_)
        refine lv_iinc (v := (l4_2 + 1)) (lv' := [(2, .int (l4_2 + 1)), (1, .int (if l4_1 < ((uL.2.2.2.2.2.2.2.2.2.2.2.2.2.2.1 l4_2.toNatClampNeg) - (uL.2.2.2.2.2.2.2.2.2.2.2.2.2.2.1 (l4_2 - (1 : Int32)).toNatClampNeg)) then ((uL.2.2.2.2.2.2.2.2.2.2.2.2.2.2.1 l4_2.toNatClampNeg) - (uL.2.2.2.2.2.2.2.2.2.2.2.2.2.2.1 (l4_2 - (1 : Int32)).toNatClampNeg)) else l4_1)), (0, .ref l0)]) hx hb dX5_waits_35 hl (k := 2) rfl rfl (by decide) rfl (fun ls hl => ?_)
        refine lv_goto (tgt := 4) hx hb dX5_waits_38 (by decide) ?_
        exact ih4 (if l4_1 < ((uL.2.2.2.2.2.2.2.2.2.2.2.2.2.2.1 l4_2.toNatClampNeg) - (uL.2.2.2.2.2.2.2.2.2.2.2.2.2.2.1 (l4_2 - (1 : Int32)).toNatClampNeg)) then ((uL.2.2.2.2.2.2.2.2.2.2.2.2.2.2.1 l4_2.toNatClampNeg) - (uL.2.2.2.2.2.2.2.2.2.2.2.2.2.2.1 (l4_2 - (1 : Int32)).toNatClampNeg)) else l4_1) (l4_2 + 1) _ (lv_sub hl [2, 1, 0] rfl) hok
  unfold p_X5_waits at hok
  refine lv_iconst (v := (0 : Int32)) hx hb dX5_waits_0 (by decide) ?_
  refine lv_istore_n (lv' := [(1, .int (0 : Int32)), (0, .ref l0)]) hx hb dX5_waits_1 rfl hl (by decide) rfl (fun ls hl => ?_)
  refine lv_iconst (v := (1 : Int32)) hx hb dX5_waits_2 (by decide) ?_
  refine lv_istore_n (lv' := [(2, .int (1 : Int32)), (1, .int (0 : Int32)), (0, .ref l0)]) hx hb dX5_waits_3 rfl hl (by decide) rfl (fun ls hl => ?_)
  exact L4 200 (0 : Int32) (1 : Int32) _ (lv_sub hl [2, 1, 0] rfl) hok
theorem hd_X5_longestWait : yX5_longestWait.cls = RX5 ∧ yX5_longestWait.cls ≠ "java/lang/invoke/MethodHandle" ∧ yX5_longestWait.cls ≠ "java/lang/invoke/VarHandle" ∧ (parseMethodDescriptor yX5_longestWait.desc).map (fun d => d.parameters.length) = some 0 := by decide +kernel
def p_X5_longestWait (uL : tX5) : Option (Int32 × tX5) :=
  bd (p_X5_waits uL) (fun v1 =>
  bd (p_X5_told uL v1) (fun v2 =>
  some (v2.1, v2.2)))
set_option maxHeartbeats 4000000 in
set_option maxRecDepth 100000 in
theorem c_X5_longestWait (l : Launch) (dC : Nat → ClassId) (dI : Nat → Nat → Nat) (cI cZ : ClassId) (l0 l4 l5 l6 l8 l10 l11 l12 l13 l14 l15 l16 : Nat) (sz : Nat) (uL : tX5) {z : (Int32 × tX5)} (hok : p_X5_longestWait uL = some z) : Met l yX5_longestWait (Cond.code yX5_longestWait cX5_longestWait 1 (some .int) :: lw_all) { frames := 2, cells := 0, slots := 0, locals := 43 } (prW (dC, dI) vwCl (TYS cI cZ) ((wX5 cI cZ l0 l4 l5 l6 l8 l10 l11 l12 l13 l14 l15 l16 uL)) sz [.ref l0]) (va_Qi (fun (r : Int32) (_ : Unit) => r = z.1) (fun _ t => va_P (dC, dI) vwCl ((wX5 cI cZ l0 l4 l5 l6 l8 l10 l11 l12 l13 l14 l15 l16 z.2)) t.heap) (va_A ((wX5 cI cZ l0 l4 l5 l6 l8 l10 l11 l12 l13 l14 l15 l16 uL)) sz)) 0 0 (va_A ((wX5 cI cZ l0 l4 l5 l6 l8 l10 l11 l12 l13 l14 l15 l16 uL)) sz) := by
  refine oM (by decide) (Nat.le_of_ble_eq_true rfl) ?_
  intro p e s m args below meth c S hr hlk hnm hB ls hl
  have hx := S.1
  have hb := S.2.1
  have hml := S.2.2.1
  have hown : s.vm.findClass RX5 = some m.cls := S.2.2.2.1
  have hts := S.2.2.2.2
  have S : CallFix p m c cX5_longestWait 1 s args lw_all RX5 := S
  have hl : lv_has ls 1 [(0, .ref l0)] := hl
  obtain ⟨hsz, hP, hK, hD0⟩ := hB
  subst hsz
  have hD := hD0.self (sz := s.heap.size)
  generalize hAe : va_A ((wX5 cI cZ l0 l4 l5 l6 l8 l10 l11 l12 l13 l14 l15 l16 uL)) s.heap.size = A at hD ⊢
  have hA : ∀ q : Nat, s.heap.size ≤ q → A q := fun q h => by rw [← hAe]; exact Or.inr h
  have hS : va_S A s.heap s.heap [] := va_S.rf
  have hP : va_P (dC, dI) vwCl ((wX5 cI cZ l0 l4 l5 l6 l8 l10 l11 l12 l13 l14 l15 l16 uL)) s.heap := hP
  unfold p_X5_longestWait at hok
  refine lv_aload_n hx hb dX5_longestWait_0 rfl (lv_at hl 0 rfl) ?_
  refine lv_aload_n hx hb dX5_longestWait_1 rfl (lv_at hl 0 rfl) ?_
  obtain ⟨v1, hc1, hok⟩ := bd_some hok
  refine cRVi (ci := 5) (q0 := 0) [] S hK hP (c_X5_waits l dC dI cI cZ l0 l4 l5 l6 l8 l10 l11 l12 l13 l14 l15 l16 uL hc1) (lw_V qm_X5_149 qi_X5_waits qs_X5_waits qn_X5 qc_X5_waits) hd_X5_waits ⟨rfl, rfl⟩ ⟨Nat.le_of_ble_eq_true rfl, Nat.le_of_ble_eq_true rfl⟩ ⟨Nat.le_of_ble_eq_true rfl, Nat.le_of_ble_eq_true rfl⟩ rfl rfl rfl hl.1 (Nat.le_of_ble_eq_true rfl) rfl dX5_longestWait_2 ?_
  obtain ⟨v2, hc2, hok⟩ := bd_some hok
  refine cWVi (ci := 5) (q0 := 0) [.int v1] S hK hP hD hS hA (c_X5_told l dC dI cI cZ l0 l4 l5 l6 l8 l10 l11 l12 l13 l14 l15 l16 _ uL v1 hc2) (lw_V qm_X5_125 qi_X5_told qs_X5_told qn_X5 qc_X5_told) hd_X5_told ⟨rfl, rfl⟩ ⟨Nat.le_of_ble_eq_true rfl, Nat.le_of_ble_eq_true rfl⟩ ⟨Nat.le_of_ble_eq_true rfl, Nat.le_of_ble_eq_true rfl⟩ rfl rfl rfl hl.1 (Nat.le_of_ble_eq_true rfl) rfl dX5_longestWait_5 (D_L hD) (fun H locs hP hD hS => ?_)
  have hok := Option.some.inj hok
  subst hok
  exact eWi S hr hlk rfl hP hS (Nat.le_of_ble_eq_true rfl) (Nat.le_of_ble_eq_true rfl) dX5_longestWait_8
theorem hd_X5_rises : yX5_rises.cls = RX5 ∧ yX5_rises.cls ≠ "java/lang/invoke/MethodHandle" ∧ yX5_rises.cls ≠ "java/lang/invoke/VarHandle" ∧ (parseMethodDescriptor yX5_rises.desc).map (fun d => d.parameters.length) = some 0 := by decide +kernel
def p_X5_rises_J44 (rec4 : tX5 → Int32 → Int32 → Option Int32) (uL : tX5) (l44_2 : Int32) (s44_0 : Int32) (s44_1 : Int32) : Option Int32 :=
  rec4 uL (s44_1 + s44_0) (l44_2 + 1)
def p_X5_rises_L4 : Nat → tX5 → Int32 → Int32 → Option Int32
  | 0, _, _, _ => none
  | n + 1, uL, l4_1, l4_2 =>
    if (uL.2.2.2.2.2.2.2.2.2.2.2.2.2.2.2.1 8) ≤ l4_2 then
      some l4_1
    else
      gd l4_2 108 (
      gd (l4_2 - (1 : Int32)) 108 (
      if ((uL.2.2.2.2.2.2.2.2.2.2.2.2.1 l4_2.toNatClampNeg) / (9 : Int32)) ≤ ((uL.2.2.2.2.2.2.2.2.2.2.2.2.1 (l4_2 - (1 : Int32)).toNatClampNeg) / (9 : Int32)) then
        p_X5_rises_J44 (p_X5_rises_L4 n) uL l4_2 (0 : Int32) l4_1
      else
        p_X5_rises_J44 (p_X5_rises_L4 n) uL l4_2 (1 : Int32) l4_1))
def p_X5_rises (uL : tX5) : Option Int32 :=
  p_X5_rises_L4 200 uL (0 : Int32) (1 : Int32)
set_option maxHeartbeats 4000000 in
set_option maxRecDepth 100000 in
theorem c_X5_rises (l : Launch) (dC : Nat → ClassId) (dI : Nat → Nat → Nat) (cI cZ : ClassId) (l0 l4 l5 l6 l8 l10 l11 l12 l13 l14 l15 l16 : Nat) (uL : tX5) {z : Int32} (hok : p_X5_rises uL = some z) : Met l yX5_rises (Cond.code yX5_rises cX5_rises 3 (some .int) :: lw_all) { frames := 0, cells := 0, slots := 0, locals := 0 } (prR (dC, dI) vwCl (TYS cI cZ) ((wX5 cI cZ l0 l4 l5 l6 l8 l10 l11 l12 l13 l14 l15 l16 uL)) [.ref l0]) (vp_Si (fun r => r = z)) 0 0 (fun _ => False) := by
  refine oM (by decide) (Nat.le_of_ble_eq_true rfl) ?_
  intro p e s m args below meth c S hr hlk hnm hB ls hl
  have hx := S.1
  have hb := S.2.1
  have hml := S.2.2.1
  have hown : s.vm.findClass RX5 = some m.cls := S.2.2.2.1
  have hts := S.2.2.2.2
  have S : CallFix p m c cX5_rises 3 s args lw_all RX5 := S
  have hl : lv_has ls 3 [(0, .ref l0)] := hl
  obtain ⟨hP, hK⟩ := hB
  have hP : va_P (dC, dI) vwCl ((wX5 cI cZ l0 l4 l5 l6 l8 l10 l11 l12 l13 l14 l15 l16 uL)) s.heap := hP
  have L4 : ∀ n4 : Nat, ∀ (l4_1 : Int32) (l4_2 : Int32) (ls : Array Slot) (hl : lv_has ls 3 [(0, .ref l0), (1, .int l4_1), (2, .int l4_2)]) (hok : p_X5_rises_L4 n4 uL l4_1 l4_2 = some z), W p l e { frames := 0, cells := 0, slots := 0, locals := 0 } s m args below meth c s.heap [] 0 0 (MQ below (vp_Si (fun r => r = z)) args s 0 0 (fun _ => False)) (F0 m 4 ls []) := by
    intro n4
    induction n4 with
    | zero =>
      intro l4_1 l4_2 ls hl hok
      rw [p_X5_rises_L4] at hok
      cases hok
    | succ n4 ih4 =>
      have J44 : ∀ (l44_2 : Int32) (s44_0 : Int32) (s44_1 : Int32) (ls : Array Slot) (hl : lv_has ls 3 [(0, .ref l0), (2, .int l44_2)]) (hok : p_X5_rises_J44 (p_X5_rises_L4 n4) uL l44_2 s44_0 s44_1 = some z), W p l e { frames := 0, cells := 0, slots := 0, locals := 0 } s m args below meth c s.heap [] 0 0 (MQ below (vp_Si (fun r => r = z)) args s 0 0 (fun _ => False)) (F0 m 44 ls [.int s44_0, .int s44_1]) := by
        intro l44_2 s44_0 s44_1 ls hl hok
        unfold p_X5_rises_J44 at hok
        refine lv_iadd hx hb dX5_rises_44 ?_
        refine lv_istore_n (lv' := [(1, .int (s44_1 + s44_0)), (0, .ref l0), (2, .int l44_2)]) hx hb dX5_rises_45 rfl hl (by decide) rfl (fun ls hl => ?_)
        refine lv_iinc (v := (l44_2 + 1)) (lv' := [(2, .int (l44_2 + 1)), (1, .int (s44_1 + s44_0)), (0, .ref l0)]) hx hb dX5_rises_46 hl (k := 2) rfl rfl (by decide) rfl (fun ls hl => ?_)
        refine lv_goto (tgt := 4) hx hb dX5_rises_49 (by decide) ?_
        exact ih4 (s44_1 + s44_0) (l44_2 + 1) _ (lv_sub hl [2, 1, 0] rfl) hok
      intro l4_1 l4_2 ls hl hok
      rw [p_X5_rises_L4] at hok
      refine lv_iload_n hx hb dX5_rises_4 rfl (lv_at hl 2 rfl) ?_
      refine lv_aload_n hx hb dX5_rises_5 rfl (lv_at hl 0 rfl) ?_
      refine va_get (D := (dC, dI)) (ci := 5) (v := .ref l15) (C := RX5) (T := TX5) (N := 18) hx hb hts inX5 hown hK hP 0 rfl rfl 15 (by decide) (hts _ qf_X5_44) (fun _ h9 => h9) rfl dX5_rises_6 ?_
      refine lv_bipush (v := (8 : Int32)) hx hb dX5_rises_9 (by decide) ?_
      refine va_ialdK hx hb hK hP 10 0 rfl rfl (j := 8) (by decide) (vp_inK (by decide)) dX5_rises_11 ?_
      refine lv_icmp_ge (tgt := 52) hx hb dX5_rises_12 (by decide) (fun hc => ?_) (fun hc => ?_)
      · have hok := ip hok hc
        refine lv_iload_n hx hb dX5_rises_52 rfl (lv_at hl 1 rfl) ?_
        exact eRi S hr hlk (Option.some.inj hok) dX5_rises_53
      · have hok := iq hok hc
        refine lv_iload_n hx hb dX5_rises_15 rfl (lv_at hl 1 rfl) ?_
        refine lv_aload_n hx hb dX5_rises_16 rfl (lv_at hl 0 rfl) ?_
        refine va_get (D := (dC, dI)) (ci := 5) (v := .ref l12) (C := RX5) (T := TX5) (N := 18) hx hb hts inX5 hown hK hP 0 rfl rfl 12 (by decide) (hts _ qf_X5_35) (fun _ h9 => h9) rfl dX5_rises_17 ?_
        refine lv_iload_n hx hb dX5_rises_20 rfl (lv_at hl 2 rfl) ?_
        obtain ⟨hi1, hok⟩ := gd_some hok
        refine va_iald hx hb hK hP 7 0 rfl rfl hi1 dX5_rises_21 ?_
        refine lv_bipush (v := (9 : Int32)) hx hb dX5_rises_22 (by decide) ?_
        refine lv_idiv hx hb dX5_rises_24 (by decide) ?_
        refine lv_aload_n hx hb dX5_rises_25 rfl (lv_at hl 0 rfl) ?_
        refine va_get (D := (dC, dI)) (ci := 5) (v := .ref l12) (C := RX5) (T := TX5) (N := 18) hx hb hts inX5 hown hK hP 0 rfl rfl 12 (by decide) (hts _ qf_X5_35) (fun _ h9 => h9) rfl dX5_rises_26 ?_
        refine lv_iload_n hx hb dX5_rises_29 rfl (lv_at hl 2 rfl) ?_
        refine lv_iconst (v := (1 : Int32)) hx hb dX5_rises_30 (by decide) ?_
        refine lv_isub hx hb dX5_rises_31 ?_
        obtain ⟨hi2, hok⟩ := gd_some hok
        refine va_iald hx hb hK hP 7 0 rfl rfl hi2 dX5_rises_32 ?_
        refine lv_bipush (v := (9 : Int32)) hx hb dX5_rises_33 (by decide) ?_
        refine lv_idiv hx hb dX5_rises_35 (by decide) ?_
        refine lv_icmp_le (tgt := 43) hx hb dX5_rises_36 (by decide) (fun hc => ?_) (fun hc => ?_)
        · have hok := ip hok hc
          refine lv_iconst (v := (0 : Int32)) hx hb dX5_rises_43 (by decide) ?_
          exact J44 l4_2 (0 : Int32) l4_1 _ (lv_sub hl [0, 2] rfl) hok
        · have hok := iq hok hc
          refine lv_iconst (v := (1 : Int32)) hx hb dX5_rises_39 (by decide) ?_
          refine lv_goto (tgt := 44) hx hb dX5_rises_40 (by decide) ?_
          exact J44 l4_2 (1 : Int32) l4_1 _ (lv_sub hl [0, 2] rfl) hok
  unfold p_X5_rises at hok
  refine lv_iconst (v := (0 : Int32)) hx hb dX5_rises_0 (by decide) ?_
  refine lv_istore_n (lv' := [(1, .int (0 : Int32)), (0, .ref l0)]) hx hb dX5_rises_1 rfl hl (by decide) rfl (fun ls hl => ?_)
  refine lv_iconst (v := (1 : Int32)) hx hb dX5_rises_2 (by decide) ?_
  refine lv_istore_n (lv' := [(2, .int (1 : Int32)), (1, .int (0 : Int32)), (0, .ref l0)]) hx hb dX5_rises_3 rfl hl (by decide) rfl (fun ls hl => ?_)
  exact L4 200 (0 : Int32) (1 : Int32) _ (lv_sub hl [2, 1, 0] rfl) hok
theorem hd_X5_climbs : yX5_climbs.cls = RX5 ∧ yX5_climbs.cls ≠ "java/lang/invoke/MethodHandle" ∧ yX5_climbs.cls ≠ "java/lang/invoke/VarHandle" ∧ (parseMethodDescriptor yX5_climbs.desc).map (fun d => d.parameters.length) = some 0 := by decide +kernel
def p_X5_climbs (uL : tX5) : Option (Int32 × tX5) :=
  bd (p_X5_rises uL) (fun v1 =>
  bd (p_X5_told uL v1) (fun v2 =>
  some (v2.1, v2.2)))
set_option maxHeartbeats 4000000 in
set_option maxRecDepth 100000 in
theorem c_X5_climbs (l : Launch) (dC : Nat → ClassId) (dI : Nat → Nat → Nat) (cI cZ : ClassId) (l0 l4 l5 l6 l8 l10 l11 l12 l13 l14 l15 l16 : Nat) (sz : Nat) (uL : tX5) {z : (Int32 × tX5)} (hok : p_X5_climbs uL = some z) : Met l yX5_climbs (Cond.code yX5_climbs cX5_climbs 1 (some .int) :: lw_all) { frames := 1, cells := 0, slots := 0, locals := 22 } (prW (dC, dI) vwCl (TYS cI cZ) ((wX5 cI cZ l0 l4 l5 l6 l8 l10 l11 l12 l13 l14 l15 l16 uL)) sz [.ref l0]) (va_Qi (fun (r : Int32) (_ : Unit) => r = z.1) (fun _ t => va_P (dC, dI) vwCl ((wX5 cI cZ l0 l4 l5 l6 l8 l10 l11 l12 l13 l14 l15 l16 z.2)) t.heap) (va_A ((wX5 cI cZ l0 l4 l5 l6 l8 l10 l11 l12 l13 l14 l15 l16 uL)) sz)) 0 0 (va_A ((wX5 cI cZ l0 l4 l5 l6 l8 l10 l11 l12 l13 l14 l15 l16 uL)) sz) := by
  refine oM (by decide) (Nat.le_of_ble_eq_true rfl) ?_
  intro p e s m args below meth c S hr hlk hnm hB ls hl
  have hx := S.1
  have hb := S.2.1
  have hml := S.2.2.1
  have hown : s.vm.findClass RX5 = some m.cls := S.2.2.2.1
  have hts := S.2.2.2.2
  have S : CallFix p m c cX5_climbs 1 s args lw_all RX5 := S
  have hl : lv_has ls 1 [(0, .ref l0)] := hl
  obtain ⟨hsz, hP, hK, hD0⟩ := hB
  subst hsz
  have hD := hD0.self (sz := s.heap.size)
  generalize hAe : va_A ((wX5 cI cZ l0 l4 l5 l6 l8 l10 l11 l12 l13 l14 l15 l16 uL)) s.heap.size = A at hD ⊢
  have hA : ∀ q : Nat, s.heap.size ≤ q → A q := fun q h => by rw [← hAe]; exact Or.inr h
  have hS : va_S A s.heap s.heap [] := va_S.rf
  have hP : va_P (dC, dI) vwCl ((wX5 cI cZ l0 l4 l5 l6 l8 l10 l11 l12 l13 l14 l15 l16 uL)) s.heap := hP
  unfold p_X5_climbs at hok
  refine lv_aload_n hx hb dX5_climbs_0 rfl (lv_at hl 0 rfl) ?_
  refine lv_aload_n hx hb dX5_climbs_1 rfl (lv_at hl 0 rfl) ?_
  obtain ⟨v1, hc1, hok⟩ := bd_some hok
  refine cRVi (ci := 5) (q0 := 0) [] S hK hP (c_X5_rises l dC dI cI cZ l0 l4 l5 l6 l8 l10 l11 l12 l13 l14 l15 l16 uL hc1) (lw_V qm_X5_152 qi_X5_rises qs_X5_rises qn_X5 qc_X5_rises) hd_X5_rises ⟨rfl, rfl⟩ ⟨Nat.le_of_ble_eq_true rfl, Nat.le_of_ble_eq_true rfl⟩ ⟨Nat.le_of_ble_eq_true rfl, Nat.le_of_ble_eq_true rfl⟩ rfl rfl rfl hl.1 (Nat.le_of_ble_eq_true rfl) rfl dX5_climbs_2 ?_
  obtain ⟨v2, hc2, hok⟩ := bd_some hok
  refine cWVi (ci := 5) (q0 := 0) [.int v1] S hK hP hD hS hA (c_X5_told l dC dI cI cZ l0 l4 l5 l6 l8 l10 l11 l12 l13 l14 l15 l16 _ uL v1 hc2) (lw_V qm_X5_125 qi_X5_told qs_X5_told qn_X5 qc_X5_told) hd_X5_told ⟨rfl, rfl⟩ ⟨Nat.le_of_ble_eq_true rfl, Nat.le_of_ble_eq_true rfl⟩ ⟨Nat.le_of_ble_eq_true rfl, Nat.le_of_ble_eq_true rfl⟩ rfl rfl rfl hl.1 (Nat.le_of_ble_eq_true rfl) rfl dX5_climbs_5 (D_L hD) (fun H locs hP hD hS => ?_)
  have hok := Option.some.inj hok
  subst hok
  exact eWi S hr hlk rfl hP hS (Nat.le_of_ble_eq_true rfl) (Nat.le_of_ble_eq_true rfl) dX5_climbs_8
theorem hd_X5_readers : yX5_readers.cls = RX5 ∧ yX5_readers.cls ≠ "java/lang/invoke/MethodHandle" ∧ yX5_readers.cls ≠ "java/lang/invoke/VarHandle" ∧ (parseMethodDescriptor yX5_readers.desc).map (fun d => d.parameters.length) = some 0 := by decide +kernel
def p_X5_readers (uL : tX5) : Option (Int32 × tX5) :=
  bd (p_X5_told uL uL.2.2.2.2.2.2.2.1) (fun v1 =>
  some (v1.1, v1.2))
set_option maxHeartbeats 4000000 in
set_option maxRecDepth 100000 in
theorem c_X5_readers (l : Launch) (dC : Nat → ClassId) (dI : Nat → Nat → Nat) (cI cZ : ClassId) (l0 l4 l5 l6 l8 l10 l11 l12 l13 l14 l15 l16 : Nat) (sz : Nat) (uL : tX5) {z : (Int32 × tX5)} (hok : p_X5_readers uL = some z) : Met l yX5_readers (Cond.code yX5_readers cX5_readers 1 (some .int) :: lw_all) { frames := 1, cells := 0, slots := 0, locals := 21 } (prW (dC, dI) vwCl (TYS cI cZ) ((wX5 cI cZ l0 l4 l5 l6 l8 l10 l11 l12 l13 l14 l15 l16 uL)) sz [.ref l0]) (va_Qi (fun (r : Int32) (_ : Unit) => r = z.1) (fun _ t => va_P (dC, dI) vwCl ((wX5 cI cZ l0 l4 l5 l6 l8 l10 l11 l12 l13 l14 l15 l16 z.2)) t.heap) (va_A ((wX5 cI cZ l0 l4 l5 l6 l8 l10 l11 l12 l13 l14 l15 l16 uL)) sz)) 0 0 (va_A ((wX5 cI cZ l0 l4 l5 l6 l8 l10 l11 l12 l13 l14 l15 l16 uL)) sz) := by
  refine oM (by decide) (Nat.le_of_ble_eq_true rfl) ?_
  intro p e s m args below meth c S hr hlk hnm hB ls hl
  have hx := S.1
  have hb := S.2.1
  have hml := S.2.2.1
  have hown : s.vm.findClass RX5 = some m.cls := S.2.2.2.1
  have hts := S.2.2.2.2
  have S : CallFix p m c cX5_readers 1 s args lw_all RX5 := S
  have hl : lv_has ls 1 [(0, .ref l0)] := hl
  obtain ⟨hsz, hP, hK, hD0⟩ := hB
  subst hsz
  have hD := hD0.self (sz := s.heap.size)
  generalize hAe : va_A ((wX5 cI cZ l0 l4 l5 l6 l8 l10 l11 l12 l13 l14 l15 l16 uL)) s.heap.size = A at hD ⊢
  have hA : ∀ q : Nat, s.heap.size ≤ q → A q := fun q h => by rw [← hAe]; exact Or.inr h
  have hS : va_S A s.heap s.heap [] := va_S.rf
  have hP : va_P (dC, dI) vwCl ((wX5 cI cZ l0 l4 l5 l6 l8 l10 l11 l12 l13 l14 l15 l16 uL)) s.heap := hP
  unfold p_X5_readers at hok
  refine lv_aload_n hx hb dX5_readers_0 rfl (lv_at hl 0 rfl) ?_
  refine lv_aload_n hx hb dX5_readers_1 rfl (lv_at hl 0 rfl) ?_
  refine va_get (D := (dC, dI)) (ci := 5) (v := .int uL.2.2.2.2.2.2.2.1) (C := RX5) (T := TX5) (N := 18) hx hb hts inX5 hown hK hP 0 rfl rfl 7 (by decide) (hts _ qf_X5_57) (fun _ h9 => h9) rfl dX5_readers_2 ?_
  obtain ⟨v1, hc1, hok⟩ := bd_some hok
  refine cWVi (ci := 5) (q0 := 0) [.int uL.2.2.2.2.2.2.2.1] S hK hP hD hS hA (c_X5_told l dC dI cI cZ l0 l4 l5 l6 l8 l10 l11 l12 l13 l14 l15 l16 _ uL uL.2.2.2.2.2.2.2.1 hc1) (lw_V qm_X5_125 qi_X5_told qs_X5_told qn_X5 qc_X5_told) hd_X5_told ⟨rfl, rfl⟩ ⟨Nat.le_of_ble_eq_true rfl, Nat.le_of_ble_eq_true rfl⟩ ⟨Nat.le_of_ble_eq_true rfl, Nat.le_of_ble_eq_true rfl⟩ rfl rfl rfl hl.1 (Nat.le_of_ble_eq_true rfl) rfl dX5_readers_5 (D_L hD) (fun H locs hP hD hS => ?_)
  have hok := Option.some.inj hok
  subst hok
  exact eWi S hr hlk rfl hP hS (Nat.le_of_ble_eq_true rfl) (Nat.le_of_ble_eq_true rfl) dX5_readers_8
theorem hd_X5_subscribers : yX5_subscribers.cls = RX5 ∧ yX5_subscribers.cls ≠ "java/lang/invoke/MethodHandle" ∧ yX5_subscribers.cls ≠ "java/lang/invoke/VarHandle" ∧ (parseMethodDescriptor yX5_subscribers.desc).map (fun d => d.parameters.length) = some 0 := by decide +kernel
def p_X5_subscribers (uL : tX5) : Option (Int32 × tX5) :=
  bd (p_X5_ones (uL.2.2.2.2.2.2.2.2.2.2.2.2.2.2.2.1 7)) (fun v1 =>
  bd (p_X5_told uL v1) (fun v2 =>
  some (v2.1, v2.2)))
set_option maxHeartbeats 4000000 in
set_option maxRecDepth 100000 in
theorem c_X5_subscribers (l : Launch) (dC : Nat → ClassId) (dI : Nat → Nat → Nat) (cI cZ : ClassId) (l0 l4 l5 l6 l8 l10 l11 l12 l13 l14 l15 l16 : Nat) (sz : Nat) (uL : tX5) {z : (Int32 × tX5)} (hok : p_X5_subscribers uL = some z) : Met l yX5_subscribers (Cond.code yX5_subscribers cX5_subscribers 1 (some .int) :: lw_all) { frames := 1, cells := 0, slots := 0, locals := 22 } (prW (dC, dI) vwCl (TYS cI cZ) ((wX5 cI cZ l0 l4 l5 l6 l8 l10 l11 l12 l13 l14 l15 l16 uL)) sz [.ref l0]) (va_Qi (fun (r : Int32) (_ : Unit) => r = z.1) (fun _ t => va_P (dC, dI) vwCl ((wX5 cI cZ l0 l4 l5 l6 l8 l10 l11 l12 l13 l14 l15 l16 z.2)) t.heap) (va_A ((wX5 cI cZ l0 l4 l5 l6 l8 l10 l11 l12 l13 l14 l15 l16 uL)) sz)) 0 0 (va_A ((wX5 cI cZ l0 l4 l5 l6 l8 l10 l11 l12 l13 l14 l15 l16 uL)) sz) := by
  refine oM (by decide) (Nat.le_of_ble_eq_true rfl) ?_
  intro p e s m args below meth c S hr hlk hnm hB ls hl
  have hx := S.1
  have hb := S.2.1
  have hml := S.2.2.1
  have hown : s.vm.findClass RX5 = some m.cls := S.2.2.2.1
  have hts := S.2.2.2.2
  have S : CallFix p m c cX5_subscribers 1 s args lw_all RX5 := S
  have hl : lv_has ls 1 [(0, .ref l0)] := hl
  obtain ⟨hsz, hP, hK, hD0⟩ := hB
  subst hsz
  have hD := hD0.self (sz := s.heap.size)
  generalize hAe : va_A ((wX5 cI cZ l0 l4 l5 l6 l8 l10 l11 l12 l13 l14 l15 l16 uL)) s.heap.size = A at hD ⊢
  have hA : ∀ q : Nat, s.heap.size ≤ q → A q := fun q h => by rw [← hAe]; exact Or.inr h
  have hS : va_S A s.heap s.heap [] := va_S.rf
  have hP : va_P (dC, dI) vwCl ((wX5 cI cZ l0 l4 l5 l6 l8 l10 l11 l12 l13 l14 l15 l16 uL)) s.heap := hP
  unfold p_X5_subscribers at hok
  refine lv_aload_n hx hb dX5_subscribers_0 rfl (lv_at hl 0 rfl) ?_
  refine lv_aload_n hx hb dX5_subscribers_1 rfl (lv_at hl 0 rfl) ?_
  refine va_get (D := (dC, dI)) (ci := 5) (v := .ref l15) (C := RX5) (T := TX5) (N := 18) hx hb hts inX5 hown hK hP 0 rfl rfl 15 (by decide) (hts _ qf_X5_44) (fun _ h9 => h9) rfl dX5_subscribers_2 ?_
  refine lv_bipush (v := (7 : Int32)) hx hb dX5_subscribers_5 (by decide) ?_
  refine va_ialdK hx hb hK hP 10 0 rfl rfl (j := 7) (by decide) (vp_inK (by decide)) dX5_subscribers_7 ?_
  obtain ⟨v1, hc1, hok⟩ := bd_some hok
  refine cRSi [.int (uL.2.2.2.2.2.2.2.2.2.2.2.2.2.2.2.1 7)] S hK va_Pnil (c_X5_ones l dC dI cI cZ (uL.2.2.2.2.2.2.2.2.2.2.2.2.2.2.2.1 7) hc1) (lw_S qm_X5_116 qt_X5_ones qn_X5 qc_X5_ones) hd_X5_ones ⟨rfl, rfl⟩ ⟨Nat.le_of_ble_eq_true rfl, Nat.le_of_ble_eq_true rfl⟩ ⟨Nat.le_of_ble_eq_true rfl, Nat.le_of_ble_eq_true rfl⟩ rfl hl.1 (Nat.le_of_ble_eq_true rfl) rfl dX5_subscribers_8 ?_
  obtain ⟨v2, hc2, hok⟩ := bd_some hok
  refine cWVi (ci := 5) (q0 := 0) [.int v1] S hK hP hD hS hA (c_X5_told l dC dI cI cZ l0 l4 l5 l6 l8 l10 l11 l12 l13 l14 l15 l16 _ uL v1 hc2) (lw_V qm_X5_125 qi_X5_told qs_X5_told qn_X5 qc_X5_told) hd_X5_told ⟨rfl, rfl⟩ ⟨Nat.le_of_ble_eq_true rfl, Nat.le_of_ble_eq_true rfl⟩ ⟨Nat.le_of_ble_eq_true rfl, Nat.le_of_ble_eq_true rfl⟩ rfl rfl rfl hl.1 (Nat.le_of_ble_eq_true rfl) rfl dX5_subscribers_11 (D_L hD) (fun H locs hP hD hS => ?_)
  have hok := Option.some.inj hok
  subst hok
  exact eWi S hr hlk rfl hP hS (Nat.le_of_ble_eq_true rfl) (Nat.le_of_ble_eq_true rfl) dX5_subscribers_14
theorem hd_X5_tasteOf : yX5_tasteOf.cls = RX5 ∧ yX5_tasteOf.cls ≠ "java/lang/invoke/MethodHandle" ∧ yX5_tasteOf.cls ≠ "java/lang/invoke/VarHandle" ∧ (parseMethodDescriptor yX5_tasteOf.desc).map (fun d => d.parameters.length) = some 1 := by decide +kernel
def p_X5_tasteOf (uL : tX5) (a1 : Int32) : Option (Int32 × tX5) :=
  bd (p_X5_isReader ((0 : Int32), uL.2.1, uL.2.2.1, uL.2.2.2.1, uL.2.2.2.2.1, uL.2.2.2.2.2.1, uL.2.2.2.2.2.2.1, uL.2.2.2.2.2.2.2.1, uL.2.2.2.2.2.2.2.2.1, uL.2.2.2.2.2.2.2.2.2.1, uL.2.2.2.2.2.2.2.2.2.2.1, uL.2.2.2.2.2.2.2.2.2.2.2.1, uL.2.2.2.2.2.2.2.2.2.2.2.2.1, uL.2.2.2.2.2.2.2.2.2.2.2.2.2.1, uL.2.2.2.2.2.2.2.2.2.2.2.2.2.2.1, uL.2.2.2.2.2.2.2.2.2.2.2.2.2.2.2.1, uL.2.2.2.2.2.2.2.2.2.2.2.2.2.2.2.2.1, uL.2.2.2.2.2.2.2.2.2.2.2.2.2.2.2.2.2) a1) (fun v1 =>
  if v1 = 0 then
    bd (p_X5_fail ((0 : Int32), uL.2.1, uL.2.2.1, uL.2.2.2.1, uL.2.2.2.2.1, uL.2.2.2.2.2.1, uL.2.2.2.2.2.2.1, uL.2.2.2.2.2.2.2.1, uL.2.2.2.2.2.2.2.2.1, uL.2.2.2.2.2.2.2.2.2.1, uL.2.2.2.2.2.2.2.2.2.2.1, uL.2.2.2.2.2.2.2.2.2.2.2.1, uL.2.2.2.2.2.2.2.2.2.2.2.2.1, uL.2.2.2.2.2.2.2.2.2.2.2.2.2.1, uL.2.2.2.2.2.2.2.2.2.2.2.2.2.2.1, uL.2.2.2.2.2.2.2.2.2.2.2.2.2.2.2.1, uL.2.2.2.2.2.2.2.2.2.2.2.2.2.2.2.2.1, uL.2.2.2.2.2.2.2.2.2.2.2.2.2.2.2.2.2) (1 : Int32)) (fun v2 =>
    some (v2.1, v2.2))
  else
    gd a1 8 (
    some ((uL.2.2.2.2.2.2.2.2.1 a1.toNatClampNeg), ((0 : Int32), uL.2.1, uL.2.2.1, uL.2.2.2.1, uL.2.2.2.2.1, uL.2.2.2.2.2.1, uL.2.2.2.2.2.2.1, uL.2.2.2.2.2.2.2.1, uL.2.2.2.2.2.2.2.2.1, uL.2.2.2.2.2.2.2.2.2.1, uL.2.2.2.2.2.2.2.2.2.2.1, uL.2.2.2.2.2.2.2.2.2.2.2.1, uL.2.2.2.2.2.2.2.2.2.2.2.2.1, uL.2.2.2.2.2.2.2.2.2.2.2.2.2.1, uL.2.2.2.2.2.2.2.2.2.2.2.2.2.2.1, uL.2.2.2.2.2.2.2.2.2.2.2.2.2.2.2.1, uL.2.2.2.2.2.2.2.2.2.2.2.2.2.2.2.2.1, uL.2.2.2.2.2.2.2.2.2.2.2.2.2.2.2.2.2))))
set_option maxHeartbeats 4000000 in
set_option maxRecDepth 100000 in
theorem c_X5_tasteOf (l : Launch) (dC : Nat → ClassId) (dI : Nat → Nat → Nat) (cI cZ : ClassId) (l0 l4 l5 l6 l8 l10 l11 l12 l13 l14 l15 l16 : Nat) (sz : Nat) (uL : tX5) (a1 : Int32) {z : (Int32 × tX5)} (hok : p_X5_tasteOf uL a1 = some z) : Met l yX5_tasteOf (Cond.code yX5_tasteOf cX5_tasteOf 2 (some .int) :: lw_all) { frames := 2, cells := 0, slots := 0, locals := 43 } (prW (dC, dI) vwCl (TYS cI cZ) ((wX5 cI cZ l0 l4 l5 l6 l8 l10 l11 l12 l13 l14 l15 l16 uL)) sz [.ref l0, .int a1]) (va_Qi (fun (r : Int32) (_ : Unit) => r = z.1) (fun _ t => va_P (dC, dI) vwCl ((wX5 cI cZ l0 l4 l5 l6 l8 l10 l11 l12 l13 l14 l15 l16 z.2)) t.heap) (va_A ((wX5 cI cZ l0 l4 l5 l6 l8 l10 l11 l12 l13 l14 l15 l16 uL)) sz)) 0 0 (va_A ((wX5 cI cZ l0 l4 l5 l6 l8 l10 l11 l12 l13 l14 l15 l16 uL)) sz) := by
  refine oM (by decide) (Nat.le_of_ble_eq_true rfl) ?_
  intro p e s m args below meth c S hr hlk hnm hB ls hl
  have hx := S.1
  have hb := S.2.1
  have hml := S.2.2.1
  have hown : s.vm.findClass RX5 = some m.cls := S.2.2.2.1
  have hts := S.2.2.2.2
  have S : CallFix p m c cX5_tasteOf 2 s args lw_all RX5 := S
  have hl : lv_has ls 2 [(0, .ref l0), (1, .int a1)] := hl
  obtain ⟨hsz, hP, hK, hD0⟩ := hB
  subst hsz
  have hD := hD0.self (sz := s.heap.size)
  generalize hAe : va_A ((wX5 cI cZ l0 l4 l5 l6 l8 l10 l11 l12 l13 l14 l15 l16 uL)) s.heap.size = A at hD ⊢
  have hA : ∀ q : Nat, s.heap.size ≤ q → A q := fun q h => by rw [← hAe]; exact Or.inr h
  have hS : va_S A s.heap s.heap [] := va_S.rf
  have hP : va_P (dC, dI) vwCl ((wX5 cI cZ l0 l4 l5 l6 l8 l10 l11 l12 l13 l14 l15 l16 uL)) s.heap := hP
  unfold p_X5_tasteOf at hok
  refine lv_aload_n hx hb dX5_tasteOf_0 rfl (lv_at hl 0 rfl) ?_
  refine lv_iconst (v := (0 : Int32)) hx hb dX5_tasteOf_1 (by decide) ?_
  refine va_put (D := (dC, dI)) (ci := 5) (v := .int (0 : Int32)) (ty := .int) (C := RX5) (T := TX5) (N := 18) hx hb hts inX5 tyX5 tyX5_ok nmX5 hown hK hP hD hS 0 rfl rfl 0 (by decide) (hts _ qf_X5_50) (fun _ h9 => h9) rfl (tyX5_ok 0 (by decide)) rfl rfl (Nat.le_of_ble_eq_true rfl) dX5_tasteOf_2 (fun H locs hP _ hS => ?_)
  have hP : va_P (dC, dI) vwCl ((wX5 cI cZ l0 l4 l5 l6 l8 l10 l11 l12 l13 l14 l15 l16 ((0 : Int32), uL.2.1, uL.2.2.1, uL.2.2.2.1, uL.2.2.2.2.1, uL.2.2.2.2.2.1, uL.2.2.2.2.2.2.1, uL.2.2.2.2.2.2.2.1, uL.2.2.2.2.2.2.2.2.1, uL.2.2.2.2.2.2.2.2.2.1, uL.2.2.2.2.2.2.2.2.2.2.1, uL.2.2.2.2.2.2.2.2.2.2.2.1, uL.2.2.2.2.2.2.2.2.2.2.2.2.1, uL.2.2.2.2.2.2.2.2.2.2.2.2.2.1, uL.2.2.2.2.2.2.2.2.2.2.2.2.2.2.1, uL.2.2.2.2.2.2.2.2.2.2.2.2.2.2.2.1, uL.2.2.2.2.2.2.2.2.2.2.2.2.2.2.2.2.1, uL.2.2.2.2.2.2.2.2.2.2.2.2.2.2.2.2.2))) H := hP
  have hD : va_D A ((wX5 cI cZ l0 l4 l5 l6 l8 l10 l11 l12 l13 l14 l15 l16 ((0 : Int32), uL.2.1, uL.2.2.1, uL.2.2.2.1, uL.2.2.2.2.1, uL.2.2.2.2.2.1, uL.2.2.2.2.2.2.1, uL.2.2.2.2.2.2.2.1, uL.2.2.2.2.2.2.2.2.1, uL.2.2.2.2.2.2.2.2.2.1, uL.2.2.2.2.2.2.2.2.2.2.1, uL.2.2.2.2.2.2.2.2.2.2.2.1, uL.2.2.2.2.2.2.2.2.2.2.2.2.1, uL.2.2.2.2.2.2.2.2.2.2.2.2.2.1, uL.2.2.2.2.2.2.2.2.2.2.2.2.2.2.1, uL.2.2.2.2.2.2.2.2.2.2.2.2.2.2.2.1, uL.2.2.2.2.2.2.2.2.2.2.2.2.2.2.2.2.1, uL.2.2.2.2.2.2.2.2.2.2.2.2.2.2.2.2.2))) := D_L hD
  refine lv_aload_n hx hb dX5_tasteOf_5 rfl (lv_at hl 0 rfl) ?_
  refine lv_iload_n hx hb dX5_tasteOf_6 rfl (lv_at hl 1 rfl) ?_
  obtain ⟨v1, hc1, hok⟩ := bd_some hok
  refine cRVi (ci := 5) (q0 := 0) [.int a1] S hK hP (c_X5_isReader l dC dI cI cZ l0 l4 l5 l6 l8 l10 l11 l12 l13 l14 l15 l16 ((0 : Int32), uL.2.1, uL.2.2.1, uL.2.2.2.1, uL.2.2.2.2.1, uL.2.2.2.2.2.1, uL.2.2.2.2.2.2.1, uL.2.2.2.2.2.2.2.1, uL.2.2.2.2.2.2.2.2.1, uL.2.2.2.2.2.2.2.2.2.1, uL.2.2.2.2.2.2.2.2.2.2.1, uL.2.2.2.2.2.2.2.2.2.2.2.1, uL.2.2.2.2.2.2.2.2.2.2.2.2.1, uL.2.2.2.2.2.2.2.2.2.2.2.2.2.1, uL.2.2.2.2.2.2.2.2.2.2.2.2.2.2.1, uL.2.2.2.2.2.2.2.2.2.2.2.2.2.2.2.1, uL.2.2.2.2.2.2.2.2.2.2.2.2.2.2.2.2.1, uL.2.2.2.2.2.2.2.2.2.2.2.2.2.2.2.2.2) a1 hc1) (lw_V qm_X5_155 qi_X5_isReader qs_X5_isReader qn_X5 qc_X5_isReader) hd_X5_isReader ⟨rfl, rfl⟩ ⟨Nat.le_of_ble_eq_true rfl, Nat.le_of_ble_eq_true rfl⟩ ⟨Nat.le_of_ble_eq_true rfl, Nat.le_of_ble_eq_true rfl⟩ rfl rfl rfl hl.1 (Nat.le_of_ble_eq_true rfl) rfl dX5_tasteOf_7 ?_
  refine lv_if_eq (tgt := 22) hx hb dX5_tasteOf_10 (by decide) (fun hc => ?_) (fun hc => ?_)
  · have hok := ip hok hc
    refine lv_aload_n hx hb dX5_tasteOf_22 rfl (lv_at hl 0 rfl) ?_
    refine lv_iconst (v := (1 : Int32)) hx hb dX5_tasteOf_23 (by decide) ?_
    obtain ⟨v2, hc2, hok⟩ := bd_some hok
    refine cWVi (ci := 5) (q0 := 0) [.int (1 : Int32)] S hK hP hD hS hA (c_X5_fail l dC dI cI cZ l0 l4 l5 l6 l8 l10 l11 l12 l13 l14 l15 l16 _ ((0 : Int32), uL.2.1, uL.2.2.1, uL.2.2.2.1, uL.2.2.2.2.1, uL.2.2.2.2.2.1, uL.2.2.2.2.2.2.1, uL.2.2.2.2.2.2.2.1, uL.2.2.2.2.2.2.2.2.1, uL.2.2.2.2.2.2.2.2.2.1, uL.2.2.2.2.2.2.2.2.2.2.1, uL.2.2.2.2.2.2.2.2.2.2.2.1, uL.2.2.2.2.2.2.2.2.2.2.2.2.1, uL.2.2.2.2.2.2.2.2.2.2.2.2.2.1, uL.2.2.2.2.2.2.2.2.2.2.2.2.2.2.1, uL.2.2.2.2.2.2.2.2.2.2.2.2.2.2.2.1, uL.2.2.2.2.2.2.2.2.2.2.2.2.2.2.2.2.1, uL.2.2.2.2.2.2.2.2.2.2.2.2.2.2.2.2.2) (1 : Int32) hc2) (lw_V qm_X5_112 qi_X5_fail qs_X5_fail qn_X5 qc_X5_fail) hd_X5_fail ⟨rfl, rfl⟩ ⟨Nat.le_of_ble_eq_true rfl, Nat.le_of_ble_eq_true rfl⟩ ⟨Nat.le_of_ble_eq_true rfl, Nat.le_of_ble_eq_true rfl⟩ rfl rfl rfl hl.1 (Nat.le_of_ble_eq_true rfl) rfl dX5_tasteOf_24 (D_L hD) (fun H locs hP hD hS => ?_)
    have hok := Option.some.inj hok
    subst hok
    exact eWi S hr hlk rfl hP hS (Nat.le_of_ble_eq_true rfl) (Nat.le_of_ble_eq_true rfl) dX5_tasteOf_27
  · have hok := iq hok hc
    refine lv_aload_n hx hb dX5_tasteOf_13 rfl (lv_at hl 0 rfl) ?_
    refine va_get (D := (dC, dI)) (ci := 5) (v := .ref l8) (C := RX5) (T := TX5) (N := 18) hx hb hts inX5 hown hK hP 0 rfl rfl 8 (by decide) (hts _ qf_X5_26) (fun _ h9 => h9) rfl dX5_tasteOf_14 ?_
    refine lv_iload_n hx hb dX5_tasteOf_17 rfl (lv_at hl 1 rfl) ?_
    obtain ⟨hi3, hok⟩ := gd_some hok
    refine va_iald hx hb hK hP 4 0 rfl rfl hi3 dX5_tasteOf_18 ?_
    refine lv_goto (tgt := 27) hx hb dX5_tasteOf_19 (by decide) ?_
    have hok := Option.some.inj hok
    subst hok
    exact eWi S hr hlk rfl hP hS (Nat.le_of_ble_eq_true rfl) (Nat.le_of_ble_eq_true rfl) dX5_tasteOf_27
theorem hd_X5_warm : yX5_warm.cls = RX5 ∧ yX5_warm.cls ≠ "java/lang/invoke/MethodHandle" ∧ yX5_warm.cls ≠ "java/lang/invoke/VarHandle" ∧ (parseMethodDescriptor yX5_warm.desc).map (fun d => d.parameters.length) = some 1 := by decide +kernel
def p_X5_warm (uL : tX5) (a1 : Int32) : Option Int32 :=
  bd (p_X5_reads uL a1) (fun v1 =>
  if v1 = 0 then
    some (0 : Int32)
  else
    gd ((33 : Int32) + a1) 41 (
    some (uL.2.2.2.2.2.2.2.2.2.2.2.2.2.2.2.1 ((33 : Int32) + a1).toNatClampNeg)))
set_option maxHeartbeats 4000000 in
set_option maxRecDepth 100000 in
theorem c_X5_warm (l : Launch) (dC : Nat → ClassId) (dI : Nat → Nat → Nat) (cI cZ : ClassId) (l0 l4 l5 l6 l8 l10 l11 l12 l13 l14 l15 l16 : Nat) (uL : tX5) (a1 : Int32) {z : Int32} (hok : p_X5_warm uL a1 = some z) : Met l yX5_warm (Cond.code yX5_warm cX5_warm 2 (some .int) :: lw_all) { frames := 2, cells := 0, slots := 0, locals := 42 } (prR (dC, dI) vwCl (TYS cI cZ) ((wX5 cI cZ l0 l4 l5 l6 l8 l10 l11 l12 l13 l14 l15 l16 uL)) [.ref l0, .int a1]) (vp_Si (fun r => r = z)) 0 0 (fun _ => False) := by
  refine oM (by decide) (Nat.le_of_ble_eq_true rfl) ?_
  intro p e s m args below meth c S hr hlk hnm hB ls hl
  have hx := S.1
  have hb := S.2.1
  have hml := S.2.2.1
  have hown : s.vm.findClass RX5 = some m.cls := S.2.2.2.1
  have hts := S.2.2.2.2
  have S : CallFix p m c cX5_warm 2 s args lw_all RX5 := S
  have hl : lv_has ls 2 [(0, .ref l0), (1, .int a1)] := hl
  obtain ⟨hP, hK⟩ := hB
  have hP : va_P (dC, dI) vwCl ((wX5 cI cZ l0 l4 l5 l6 l8 l10 l11 l12 l13 l14 l15 l16 uL)) s.heap := hP
  unfold p_X5_warm at hok
  refine lv_aload_n hx hb dX5_warm_0 rfl (lv_at hl 0 rfl) ?_
  refine lv_iload_n hx hb dX5_warm_1 rfl (lv_at hl 1 rfl) ?_
  obtain ⟨v1, hc1, hok⟩ := bd_some hok
  refine cRVi (ci := 5) (q0 := 0) [.int a1] S hK hP (c_X5_reads l dC dI cI cZ l0 l4 l5 l6 l8 l10 l11 l12 l13 l14 l15 l16 uL a1 hc1) (lw_V qm_X5_73 qi_X5_reads qs_X5_reads qn_X5 qc_X5_reads) hd_X5_reads ⟨rfl, rfl⟩ ⟨Nat.le_of_ble_eq_true rfl, Nat.le_of_ble_eq_true rfl⟩ ⟨Nat.le_of_ble_eq_true rfl, Nat.le_of_ble_eq_true rfl⟩ rfl rfl rfl hl.1 (Nat.le_of_ble_eq_true rfl) rfl dX5_warm_2 ?_
  refine lv_if_eq (tgt := 20) hx hb dX5_warm_5 (by decide) (fun hc => ?_) (fun hc => ?_)
  · have hok := ip hok hc
    refine lv_iconst (v := (0 : Int32)) hx hb dX5_warm_20 (by decide) ?_
    exact eRi S hr hlk (Option.some.inj hok) dX5_warm_21
  · have hok := iq hok hc
    refine lv_aload_n hx hb dX5_warm_8 rfl (lv_at hl 0 rfl) ?_
    refine va_get (D := (dC, dI)) (ci := 5) (v := .ref l15) (C := RX5) (T := TX5) (N := 18) hx hb hts inX5 hown hK hP 0 rfl rfl 15 (by decide) (hts _ qf_X5_44) (fun _ h9 => h9) rfl dX5_warm_9 ?_
    refine lv_bipush (v := (33 : Int32)) hx hb dX5_warm_12 (by decide) ?_
    refine lv_iload_n hx hb dX5_warm_14 rfl (lv_at hl 1 rfl) ?_
    refine lv_iadd hx hb dX5_warm_15 ?_
    obtain ⟨hi2, hok⟩ := gd_some hok
    refine va_iald hx hb hK hP 10 0 rfl rfl hi2 dX5_warm_16 ?_
    refine lv_goto (tgt := 21) hx hb dX5_warm_17 (by decide) ?_
    exact eRi S hr hlk (Option.some.inj hok) dX5_warm_21
theorem hd_X5_warmthOf : yX5_warmthOf.cls = RX5 ∧ yX5_warmthOf.cls ≠ "java/lang/invoke/MethodHandle" ∧ yX5_warmthOf.cls ≠ "java/lang/invoke/VarHandle" ∧ (parseMethodDescriptor yX5_warmthOf.desc).map (fun d => d.parameters.length) = some 1 := by decide +kernel
def p_X5_warmthOf (uL : tX5) (a1 : Int32) : Option (Int32 × tX5) :=
  bd (p_X5_isReader ((0 : Int32), uL.2.1, uL.2.2.1, uL.2.2.2.1, uL.2.2.2.2.1, uL.2.2.2.2.2.1, uL.2.2.2.2.2.2.1, uL.2.2.2.2.2.2.2.1, uL.2.2.2.2.2.2.2.2.1, uL.2.2.2.2.2.2.2.2.2.1, uL.2.2.2.2.2.2.2.2.2.2.1, uL.2.2.2.2.2.2.2.2.2.2.2.1, uL.2.2.2.2.2.2.2.2.2.2.2.2.1, uL.2.2.2.2.2.2.2.2.2.2.2.2.2.1, uL.2.2.2.2.2.2.2.2.2.2.2.2.2.2.1, uL.2.2.2.2.2.2.2.2.2.2.2.2.2.2.2.1, uL.2.2.2.2.2.2.2.2.2.2.2.2.2.2.2.2.1, uL.2.2.2.2.2.2.2.2.2.2.2.2.2.2.2.2.2) a1) (fun v1 =>
  if v1 = 0 then
    bd (p_X5_fail ((0 : Int32), uL.2.1, uL.2.2.1, uL.2.2.2.1, uL.2.2.2.2.1, uL.2.2.2.2.2.1, uL.2.2.2.2.2.2.1, uL.2.2.2.2.2.2.2.1, uL.2.2.2.2.2.2.2.2.1, uL.2.2.2.2.2.2.2.2.2.1, uL.2.2.2.2.2.2.2.2.2.2.1, uL.2.2.2.2.2.2.2.2.2.2.2.1, uL.2.2.2.2.2.2.2.2.2.2.2.2.1, uL.2.2.2.2.2.2.2.2.2.2.2.2.2.1, uL.2.2.2.2.2.2.2.2.2.2.2.2.2.2.1, uL.2.2.2.2.2.2.2.2.2.2.2.2.2.2.2.1, uL.2.2.2.2.2.2.2.2.2.2.2.2.2.2.2.2.1, uL.2.2.2.2.2.2.2.2.2.2.2.2.2.2.2.2.2) (1 : Int32)) (fun v2 =>
    some (v2.1, v2.2))
  else
    bd (p_X5_warm ((0 : Int32), uL.2.1, uL.2.2.1, uL.2.2.2.1, uL.2.2.2.2.1, uL.2.2.2.2.2.1, uL.2.2.2.2.2.2.1, uL.2.2.2.2.2.2.2.1, uL.2.2.2.2.2.2.2.2.1, uL.2.2.2.2.2.2.2.2.2.1, uL.2.2.2.2.2.2.2.2.2.2.1, uL.2.2.2.2.2.2.2.2.2.2.2.1, uL.2.2.2.2.2.2.2.2.2.2.2.2.1, uL.2.2.2.2.2.2.2.2.2.2.2.2.2.1, uL.2.2.2.2.2.2.2.2.2.2.2.2.2.2.1, uL.2.2.2.2.2.2.2.2.2.2.2.2.2.2.2.1, uL.2.2.2.2.2.2.2.2.2.2.2.2.2.2.2.2.1, uL.2.2.2.2.2.2.2.2.2.2.2.2.2.2.2.2.2) a1) (fun v3 =>
    some (v3, ((0 : Int32), uL.2.1, uL.2.2.1, uL.2.2.2.1, uL.2.2.2.2.1, uL.2.2.2.2.2.1, uL.2.2.2.2.2.2.1, uL.2.2.2.2.2.2.2.1, uL.2.2.2.2.2.2.2.2.1, uL.2.2.2.2.2.2.2.2.2.1, uL.2.2.2.2.2.2.2.2.2.2.1, uL.2.2.2.2.2.2.2.2.2.2.2.1, uL.2.2.2.2.2.2.2.2.2.2.2.2.1, uL.2.2.2.2.2.2.2.2.2.2.2.2.2.1, uL.2.2.2.2.2.2.2.2.2.2.2.2.2.2.1, uL.2.2.2.2.2.2.2.2.2.2.2.2.2.2.2.1, uL.2.2.2.2.2.2.2.2.2.2.2.2.2.2.2.2.1, uL.2.2.2.2.2.2.2.2.2.2.2.2.2.2.2.2.2))))
set_option maxHeartbeats 4000000 in
set_option maxRecDepth 100000 in
theorem c_X5_warmthOf (l : Launch) (dC : Nat → ClassId) (dI : Nat → Nat → Nat) (cI cZ : ClassId) (l0 l4 l5 l6 l8 l10 l11 l12 l13 l14 l15 l16 : Nat) (sz : Nat) (uL : tX5) (a1 : Int32) {z : (Int32 × tX5)} (hok : p_X5_warmthOf uL a1 = some z) : Met l yX5_warmthOf (Cond.code yX5_warmthOf cX5_warmthOf 2 (some .int) :: lw_all) { frames := 3, cells := 0, slots := 0, locals := 63 } (prW (dC, dI) vwCl (TYS cI cZ) ((wX5 cI cZ l0 l4 l5 l6 l8 l10 l11 l12 l13 l14 l15 l16 uL)) sz [.ref l0, .int a1]) (va_Qi (fun (r : Int32) (_ : Unit) => r = z.1) (fun _ t => va_P (dC, dI) vwCl ((wX5 cI cZ l0 l4 l5 l6 l8 l10 l11 l12 l13 l14 l15 l16 z.2)) t.heap) (va_A ((wX5 cI cZ l0 l4 l5 l6 l8 l10 l11 l12 l13 l14 l15 l16 uL)) sz)) 0 0 (va_A ((wX5 cI cZ l0 l4 l5 l6 l8 l10 l11 l12 l13 l14 l15 l16 uL)) sz) := by
  refine oM (by decide) (Nat.le_of_ble_eq_true rfl) ?_
  intro p e s m args below meth c S hr hlk hnm hB ls hl
  have hx := S.1
  have hb := S.2.1
  have hml := S.2.2.1
  have hown : s.vm.findClass RX5 = some m.cls := S.2.2.2.1
  have hts := S.2.2.2.2
  have S : CallFix p m c cX5_warmthOf 2 s args lw_all RX5 := S
  have hl : lv_has ls 2 [(0, .ref l0), (1, .int a1)] := hl
  obtain ⟨hsz, hP, hK, hD0⟩ := hB
  subst hsz
  have hD := hD0.self (sz := s.heap.size)
  generalize hAe : va_A ((wX5 cI cZ l0 l4 l5 l6 l8 l10 l11 l12 l13 l14 l15 l16 uL)) s.heap.size = A at hD ⊢
  have hA : ∀ q : Nat, s.heap.size ≤ q → A q := fun q h => by rw [← hAe]; exact Or.inr h
  have hS : va_S A s.heap s.heap [] := va_S.rf
  have hP : va_P (dC, dI) vwCl ((wX5 cI cZ l0 l4 l5 l6 l8 l10 l11 l12 l13 l14 l15 l16 uL)) s.heap := hP
  unfold p_X5_warmthOf at hok
  refine lv_aload_n hx hb dX5_warmthOf_0 rfl (lv_at hl 0 rfl) ?_
  refine lv_iconst (v := (0 : Int32)) hx hb dX5_warmthOf_1 (by decide) ?_
  refine va_put (D := (dC, dI)) (ci := 5) (v := .int (0 : Int32)) (ty := .int) (C := RX5) (T := TX5) (N := 18) hx hb hts inX5 tyX5 tyX5_ok nmX5 hown hK hP hD hS 0 rfl rfl 0 (by decide) (hts _ qf_X5_50) (fun _ h9 => h9) rfl (tyX5_ok 0 (by decide)) rfl rfl (Nat.le_of_ble_eq_true rfl) dX5_warmthOf_2 (fun H locs hP _ hS => ?_)
  have hP : va_P (dC, dI) vwCl ((wX5 cI cZ l0 l4 l5 l6 l8 l10 l11 l12 l13 l14 l15 l16 ((0 : Int32), uL.2.1, uL.2.2.1, uL.2.2.2.1, uL.2.2.2.2.1, uL.2.2.2.2.2.1, uL.2.2.2.2.2.2.1, uL.2.2.2.2.2.2.2.1, uL.2.2.2.2.2.2.2.2.1, uL.2.2.2.2.2.2.2.2.2.1, uL.2.2.2.2.2.2.2.2.2.2.1, uL.2.2.2.2.2.2.2.2.2.2.2.1, uL.2.2.2.2.2.2.2.2.2.2.2.2.1, uL.2.2.2.2.2.2.2.2.2.2.2.2.2.1, uL.2.2.2.2.2.2.2.2.2.2.2.2.2.2.1, uL.2.2.2.2.2.2.2.2.2.2.2.2.2.2.2.1, uL.2.2.2.2.2.2.2.2.2.2.2.2.2.2.2.2.1, uL.2.2.2.2.2.2.2.2.2.2.2.2.2.2.2.2.2))) H := hP
  have hD : va_D A ((wX5 cI cZ l0 l4 l5 l6 l8 l10 l11 l12 l13 l14 l15 l16 ((0 : Int32), uL.2.1, uL.2.2.1, uL.2.2.2.1, uL.2.2.2.2.1, uL.2.2.2.2.2.1, uL.2.2.2.2.2.2.1, uL.2.2.2.2.2.2.2.1, uL.2.2.2.2.2.2.2.2.1, uL.2.2.2.2.2.2.2.2.2.1, uL.2.2.2.2.2.2.2.2.2.2.1, uL.2.2.2.2.2.2.2.2.2.2.2.1, uL.2.2.2.2.2.2.2.2.2.2.2.2.1, uL.2.2.2.2.2.2.2.2.2.2.2.2.2.1, uL.2.2.2.2.2.2.2.2.2.2.2.2.2.2.1, uL.2.2.2.2.2.2.2.2.2.2.2.2.2.2.2.1, uL.2.2.2.2.2.2.2.2.2.2.2.2.2.2.2.2.1, uL.2.2.2.2.2.2.2.2.2.2.2.2.2.2.2.2.2))) := D_L hD
  refine lv_aload_n hx hb dX5_warmthOf_5 rfl (lv_at hl 0 rfl) ?_
  refine lv_iload_n hx hb dX5_warmthOf_6 rfl (lv_at hl 1 rfl) ?_
  obtain ⟨v1, hc1, hok⟩ := bd_some hok
  refine cRVi (ci := 5) (q0 := 0) [.int a1] S hK hP (c_X5_isReader l dC dI cI cZ l0 l4 l5 l6 l8 l10 l11 l12 l13 l14 l15 l16 ((0 : Int32), uL.2.1, uL.2.2.1, uL.2.2.2.1, uL.2.2.2.2.1, uL.2.2.2.2.2.1, uL.2.2.2.2.2.2.1, uL.2.2.2.2.2.2.2.1, uL.2.2.2.2.2.2.2.2.1, uL.2.2.2.2.2.2.2.2.2.1, uL.2.2.2.2.2.2.2.2.2.2.1, uL.2.2.2.2.2.2.2.2.2.2.2.1, uL.2.2.2.2.2.2.2.2.2.2.2.2.1, uL.2.2.2.2.2.2.2.2.2.2.2.2.2.1, uL.2.2.2.2.2.2.2.2.2.2.2.2.2.2.1, uL.2.2.2.2.2.2.2.2.2.2.2.2.2.2.2.1, uL.2.2.2.2.2.2.2.2.2.2.2.2.2.2.2.2.1, uL.2.2.2.2.2.2.2.2.2.2.2.2.2.2.2.2.2) a1 hc1) (lw_V qm_X5_155 qi_X5_isReader qs_X5_isReader qn_X5 qc_X5_isReader) hd_X5_isReader ⟨rfl, rfl⟩ ⟨Nat.le_of_ble_eq_true rfl, Nat.le_of_ble_eq_true rfl⟩ ⟨Nat.le_of_ble_eq_true rfl, Nat.le_of_ble_eq_true rfl⟩ rfl rfl rfl hl.1 (Nat.le_of_ble_eq_true rfl) rfl dX5_warmthOf_7 ?_
  refine lv_if_eq (tgt := 21) hx hb dX5_warmthOf_10 (by decide) (fun hc => ?_) (fun hc => ?_)
  · have hok := ip hok hc
    refine lv_aload_n hx hb dX5_warmthOf_21 rfl (lv_at hl 0 rfl) ?_
    refine lv_iconst (v := (1 : Int32)) hx hb dX5_warmthOf_22 (by decide) ?_
    obtain ⟨v2, hc2, hok⟩ := bd_some hok
    refine cWVi (ci := 5) (q0 := 0) [.int (1 : Int32)] S hK hP hD hS hA (c_X5_fail l dC dI cI cZ l0 l4 l5 l6 l8 l10 l11 l12 l13 l14 l15 l16 _ ((0 : Int32), uL.2.1, uL.2.2.1, uL.2.2.2.1, uL.2.2.2.2.1, uL.2.2.2.2.2.1, uL.2.2.2.2.2.2.1, uL.2.2.2.2.2.2.2.1, uL.2.2.2.2.2.2.2.2.1, uL.2.2.2.2.2.2.2.2.2.1, uL.2.2.2.2.2.2.2.2.2.2.1, uL.2.2.2.2.2.2.2.2.2.2.2.1, uL.2.2.2.2.2.2.2.2.2.2.2.2.1, uL.2.2.2.2.2.2.2.2.2.2.2.2.2.1, uL.2.2.2.2.2.2.2.2.2.2.2.2.2.2.1, uL.2.2.2.2.2.2.2.2.2.2.2.2.2.2.2.1, uL.2.2.2.2.2.2.2.2.2.2.2.2.2.2.2.2.1, uL.2.2.2.2.2.2.2.2.2.2.2.2.2.2.2.2.2) (1 : Int32) hc2) (lw_V qm_X5_112 qi_X5_fail qs_X5_fail qn_X5 qc_X5_fail) hd_X5_fail ⟨rfl, rfl⟩ ⟨Nat.le_of_ble_eq_true rfl, Nat.le_of_ble_eq_true rfl⟩ ⟨Nat.le_of_ble_eq_true rfl, Nat.le_of_ble_eq_true rfl⟩ rfl rfl rfl hl.1 (Nat.le_of_ble_eq_true rfl) rfl dX5_warmthOf_23 (D_L hD) (fun H locs hP hD hS => ?_)
    have hok := Option.some.inj hok
    subst hok
    exact eWi S hr hlk rfl hP hS (Nat.le_of_ble_eq_true rfl) (Nat.le_of_ble_eq_true rfl) dX5_warmthOf_26
  · have hok := iq hok hc
    refine lv_aload_n hx hb dX5_warmthOf_13 rfl (lv_at hl 0 rfl) ?_
    refine lv_iload_n hx hb dX5_warmthOf_14 rfl (lv_at hl 1 rfl) ?_
    obtain ⟨v3, hc3, hok⟩ := bd_some hok
    refine cRVi (ci := 5) (q0 := 0) [.int a1] S hK hP (c_X5_warm l dC dI cI cZ l0 l4 l5 l6 l8 l10 l11 l12 l13 l14 l15 l16 ((0 : Int32), uL.2.1, uL.2.2.1, uL.2.2.2.1, uL.2.2.2.2.1, uL.2.2.2.2.2.1, uL.2.2.2.2.2.2.1, uL.2.2.2.2.2.2.2.1, uL.2.2.2.2.2.2.2.2.1, uL.2.2.2.2.2.2.2.2.2.1, uL.2.2.2.2.2.2.2.2.2.2.1, uL.2.2.2.2.2.2.2.2.2.2.2.1, uL.2.2.2.2.2.2.2.2.2.2.2.2.1, uL.2.2.2.2.2.2.2.2.2.2.2.2.2.1, uL.2.2.2.2.2.2.2.2.2.2.2.2.2.2.1, uL.2.2.2.2.2.2.2.2.2.2.2.2.2.2.2.1, uL.2.2.2.2.2.2.2.2.2.2.2.2.2.2.2.2.1, uL.2.2.2.2.2.2.2.2.2.2.2.2.2.2.2.2.2) a1 hc3) (lw_V qm_X5_158 qi_X5_warm qs_X5_warm qn_X5 qc_X5_warm) hd_X5_warm ⟨rfl, rfl⟩ ⟨Nat.le_of_ble_eq_true rfl, Nat.le_of_ble_eq_true rfl⟩ ⟨Nat.le_of_ble_eq_true rfl, Nat.le_of_ble_eq_true rfl⟩ rfl rfl rfl hl.1 (Nat.le_of_ble_eq_true rfl) rfl dX5_warmthOf_15 ?_
    refine lv_goto (tgt := 26) hx hb dX5_warmthOf_18 (by decide) ?_
    have hok := Option.some.inj hok
    subst hok
    exact eWi S hr hlk rfl hP hS (Nat.le_of_ble_eq_true rfl) (Nat.le_of_ble_eq_true rfl) dX5_warmthOf_26
theorem hd_X5_isSubscriber : yX5_isSubscriber.cls = RX5 ∧ yX5_isSubscriber.cls ≠ "java/lang/invoke/MethodHandle" ∧ yX5_isSubscriber.cls ≠ "java/lang/invoke/VarHandle" ∧ (parseMethodDescriptor yX5_isSubscriber.desc).map (fun d => d.parameters.length) = some 1 := by decide +kernel
def p_X5_isSubscriber_J14 (uL : tX5) (l14_1 : Int32) (s14_0 : Int32) : Option (Int32 × tX5) :=
  if s14_0 = 0 then
    bd (p_X5_reads (s14_0, uL.2.1, uL.2.2.1, uL.2.2.2.1, uL.2.2.2.2.1, uL.2.2.2.2.2.1, uL.2.2.2.2.2.2.1, uL.2.2.2.2.2.2.2.1, uL.2.2.2.2.2.2.2.2.1, uL.2.2.2.2.2.2.2.2.2.1, uL.2.2.2.2.2.2.2.2.2.2.1, uL.2.2.2.2.2.2.2.2.2.2.2.1, uL.2.2.2.2.2.2.2.2.2.2.2.2.1, uL.2.2.2.2.2.2.2.2.2.2.2.2.2.1, uL.2.2.2.2.2.2.2.2.2.2.2.2.2.2.1, uL.2.2.2.2.2.2.2.2.2.2.2.2.2.2.2.1, uL.2.2.2.2.2.2.2.2.2.2.2.2.2.2.2.2.1, uL.2.2.2.2.2.2.2.2.2.2.2.2.2.2.2.2.2) l14_1) (fun v2 =>
    if v2 = 0 then
      some ((0 : Int32), (s14_0, uL.2.1, uL.2.2.1, uL.2.2.2.1, uL.2.2.2.2.1, uL.2.2.2.2.2.1, uL.2.2.2.2.2.2.1, uL.2.2.2.2.2.2.2.1, uL.2.2.2.2.2.2.2.2.1, uL.2.2.2.2.2.2.2.2.2.1, uL.2.2.2.2.2.2.2.2.2.2.1, uL.2.2.2.2.2.2.2.2.2.2.2.1, uL.2.2.2.2.2.2.2.2.2.2.2.2.1, uL.2.2.2.2.2.2.2.2.2.2.2.2.2.1, uL.2.2.2.2.2.2.2.2.2.2.2.2.2.2.1, uL.2.2.2.2.2.2.2.2.2.2.2.2.2.2.2.1, uL.2.2.2.2.2.2.2.2.2.2.2.2.2.2.2.2.1, uL.2.2.2.2.2.2.2.2.2.2.2.2.2.2.2.2.2))
    else
      some ((1 : Int32), (s14_0, uL.2.1, uL.2.2.1, uL.2.2.2.1, uL.2.2.2.2.1, uL.2.2.2.2.2.1, uL.2.2.2.2.2.2.1, uL.2.2.2.2.2.2.2.1, uL.2.2.2.2.2.2.2.2.1, uL.2.2.2.2.2.2.2.2.2.1, uL.2.2.2.2.2.2.2.2.2.2.1, uL.2.2.2.2.2.2.2.2.2.2.2.1, uL.2.2.2.2.2.2.2.2.2.2.2.2.1, uL.2.2.2.2.2.2.2.2.2.2.2.2.2.1, uL.2.2.2.2.2.2.2.2.2.2.2.2.2.2.1, uL.2.2.2.2.2.2.2.2.2.2.2.2.2.2.2.1, uL.2.2.2.2.2.2.2.2.2.2.2.2.2.2.2.2.1, uL.2.2.2.2.2.2.2.2.2.2.2.2.2.2.2.2.2)))
  else
    some ((0 : Int32), (s14_0, uL.2.1, uL.2.2.1, uL.2.2.2.1, uL.2.2.2.2.1, uL.2.2.2.2.2.1, uL.2.2.2.2.2.2.1, uL.2.2.2.2.2.2.2.1, uL.2.2.2.2.2.2.2.2.1, uL.2.2.2.2.2.2.2.2.2.1, uL.2.2.2.2.2.2.2.2.2.2.1, uL.2.2.2.2.2.2.2.2.2.2.2.1, uL.2.2.2.2.2.2.2.2.2.2.2.2.1, uL.2.2.2.2.2.2.2.2.2.2.2.2.2.1, uL.2.2.2.2.2.2.2.2.2.2.2.2.2.2.1, uL.2.2.2.2.2.2.2.2.2.2.2.2.2.2.2.1, uL.2.2.2.2.2.2.2.2.2.2.2.2.2.2.2.2.1, uL.2.2.2.2.2.2.2.2.2.2.2.2.2.2.2.2.2))
def p_X5_isSubscriber (uL : tX5) (a1 : Int32) : Option (Int32 × tX5) :=
  bd (p_X5_isReader uL a1) (fun v1 =>
  if v1 = 0 then
    p_X5_isSubscriber_J14 uL a1 (1 : Int32)
  else
    p_X5_isSubscriber_J14 uL a1 (0 : Int32))
set_option maxHeartbeats 4000000 in
set_option maxRecDepth 100000 in
theorem c_X5_isSubscriber (l : Launch) (dC : Nat → ClassId) (dI : Nat → Nat → Nat) (cI cZ : ClassId) (l0 l4 l5 l6 l8 l10 l11 l12 l13 l14 l15 l16 : Nat) (sz : Nat) (uL : tX5) (a1 : Int32) {z : (Int32 × tX5)} (hok : p_X5_isSubscriber uL a1 = some z) : Met l yX5_isSubscriber (Cond.code yX5_isSubscriber cX5_isSubscriber 2 (some .boolean) :: lw_all) { frames := 2, cells := 0, slots := 0, locals := 43 } (prW (dC, dI) vwCl (TYS cI cZ) ((wX5 cI cZ l0 l4 l5 l6 l8 l10 l11 l12 l13 l14 l15 l16 uL)) sz [.ref l0, .int a1]) (va_Qi (fun (r : Int32) (_ : Unit) => r = z.1) (fun _ t => va_P (dC, dI) vwCl ((wX5 cI cZ l0 l4 l5 l6 l8 l10 l11 l12 l13 l14 l15 l16 z.2)) t.heap) (va_A ((wX5 cI cZ l0 l4 l5 l6 l8 l10 l11 l12 l13 l14 l15 l16 uL)) sz)) 0 0 (va_A ((wX5 cI cZ l0 l4 l5 l6 l8 l10 l11 l12 l13 l14 l15 l16 uL)) sz) := by
  refine oM (by decide) (Nat.le_of_ble_eq_true rfl) ?_
  intro p e s m args below meth c S hr hlk hnm hB ls hl
  have hx := S.1
  have hb := S.2.1
  have hml := S.2.2.1
  have hown : s.vm.findClass RX5 = some m.cls := S.2.2.2.1
  have hts := S.2.2.2.2
  have S : CallFix p m c cX5_isSubscriber 2 s args lw_all RX5 := S
  have hl : lv_has ls 2 [(0, .ref l0), (1, .int a1)] := hl
  obtain ⟨hsz, hP, hK, hD0⟩ := hB
  subst hsz
  have hD := hD0.self (sz := s.heap.size)
  generalize hAe : va_A ((wX5 cI cZ l0 l4 l5 l6 l8 l10 l11 l12 l13 l14 l15 l16 uL)) s.heap.size = A at hD ⊢
  have hA : ∀ q : Nat, s.heap.size ≤ q → A q := fun q h => by rw [← hAe]; exact Or.inr h
  have hS : va_S A s.heap s.heap [] := va_S.rf
  have hP : va_P (dC, dI) vwCl ((wX5 cI cZ l0 l4 l5 l6 l8 l10 l11 l12 l13 l14 l15 l16 uL)) s.heap := hP
  have J14 : ∀ (uL : tX5) (l14_1 : Int32) (s14_0 : Int32) (H : Heap) (locs : List Loc) (hP : va_P (dC, dI) vwCl ((wX5 cI cZ l0 l4 l5 l6 l8 l10 l11 l12 l13 l14 l15 l16 uL)) H) (hD : va_D A ((wX5 cI cZ l0 l4 l5 l6 l8 l10 l11 l12 l13 l14 l15 l16 uL))) (hS : va_S A s.heap H locs) (ls : Array Slot) (hl : lv_has ls 2 [(0, .ref l0), (1, .int l14_1)]) (hok : p_X5_isSubscriber_J14 uL l14_1 s14_0 = some z), W p l e { frames := 2, cells := 0, slots := 0, locals := 43 } s m args below meth c H locs 0 0 (MQ below (va_Qi (fun (r : Int32) (_ : Unit) => r = z.1) (fun _ t => va_P (dC, dI) vwCl ((wX5 cI cZ l0 l4 l5 l6 l8 l10 l11 l12 l13 l14 l15 l16 z.2)) t.heap) A) args s 0 0 A) (F0 m 14 ls [.int s14_0, .ref l0]) := by
    intro uL l14_1 s14_0 H locs hP hD hS ls hl hok
    unfold p_X5_isSubscriber_J14 at hok
    refine va_put (D := (dC, dI)) (ci := 5) (v := .int s14_0) (ty := .int) (C := RX5) (T := TX5) (N := 18) hx hb hts inX5 tyX5 tyX5_ok nmX5 hown hK hP hD hS 0 rfl rfl 0 (by decide) (hts _ qf_X5_50) (fun _ h9 => h9) rfl (tyX5_ok 0 (by decide)) rfl rfl (Nat.le_of_ble_eq_true rfl) dX5_isSubscriber_14 (fun H locs hP _ hS => ?_)
    have hP : va_P (dC, dI) vwCl ((wX5 cI cZ l0 l4 l5 l6 l8 l10 l11 l12 l13 l14 l15 l16 (s14_0, uL.2.1, uL.2.2.1, uL.2.2.2.1, uL.2.2.2.2.1, uL.2.2.2.2.2.1, uL.2.2.2.2.2.2.1, uL.2.2.2.2.2.2.2.1, uL.2.2.2.2.2.2.2.2.1, uL.2.2.2.2.2.2.2.2.2.1, uL.2.2.2.2.2.2.2.2.2.2.1, uL.2.2.2.2.2.2.2.2.2.2.2.1, uL.2.2.2.2.2.2.2.2.2.2.2.2.1, uL.2.2.2.2.2.2.2.2.2.2.2.2.2.1, uL.2.2.2.2.2.2.2.2.2.2.2.2.2.2.1, uL.2.2.2.2.2.2.2.2.2.2.2.2.2.2.2.1, uL.2.2.2.2.2.2.2.2.2.2.2.2.2.2.2.2.1, uL.2.2.2.2.2.2.2.2.2.2.2.2.2.2.2.2.2))) H := hP
    have hD : va_D A ((wX5 cI cZ l0 l4 l5 l6 l8 l10 l11 l12 l13 l14 l15 l16 (s14_0, uL.2.1, uL.2.2.1, uL.2.2.2.1, uL.2.2.2.2.1, uL.2.2.2.2.2.1, uL.2.2.2.2.2.2.1, uL.2.2.2.2.2.2.2.1, uL.2.2.2.2.2.2.2.2.1, uL.2.2.2.2.2.2.2.2.2.1, uL.2.2.2.2.2.2.2.2.2.2.1, uL.2.2.2.2.2.2.2.2.2.2.2.1, uL.2.2.2.2.2.2.2.2.2.2.2.2.1, uL.2.2.2.2.2.2.2.2.2.2.2.2.2.1, uL.2.2.2.2.2.2.2.2.2.2.2.2.2.2.1, uL.2.2.2.2.2.2.2.2.2.2.2.2.2.2.2.1, uL.2.2.2.2.2.2.2.2.2.2.2.2.2.2.2.2.1, uL.2.2.2.2.2.2.2.2.2.2.2.2.2.2.2.2.2))) := D_L hD
    refine lv_aload_n hx hb dX5_isSubscriber_17 rfl (lv_at hl 0 rfl) ?_
    refine va_get (D := (dC, dI)) (ci := 5) (v := .int s14_0) (C := RX5) (T := TX5) (N := 18) hx hb hts inX5 hown hK hP 0 rfl rfl 0 (by decide) (hts _ qf_X5_50) (fun _ h9 => h9) rfl dX5_isSubscriber_18 ?_
    refine lv_if_ne (tgt := 36) hx hb dX5_isSubscriber_21 (by decide) (fun hc => ?_) (fun hc => ?_)
    · have hok := iq hok hc
      refine lv_iconst (v := (0 : Int32)) hx hb dX5_isSubscriber_36 (by decide) ?_
      have hok := Option.some.inj hok
      subst hok
      exact eWz S hr hlk (by decide) rfl hP hS (Nat.le_of_ble_eq_true rfl) (Nat.le_of_ble_eq_true rfl) dX5_isSubscriber_37
    · have hok := ip hok hc
      refine lv_aload_n hx hb dX5_isSubscriber_24 rfl (lv_at hl 0 rfl) ?_
      refine lv_iload_n hx hb dX5_isSubscriber_25 rfl (lv_at hl 1 rfl) ?_
      obtain ⟨v2, hc2, hok⟩ := bd_some hok
      refine cRVi (ci := 5) (q0 := 0) [.int l14_1] S hK hP (c_X5_reads l dC dI cI cZ l0 l4 l5 l6 l8 l10 l11 l12 l13 l14 l15 l16 (s14_0, uL.2.1, uL.2.2.1, uL.2.2.2.1, uL.2.2.2.2.1, uL.2.2.2.2.2.1, uL.2.2.2.2.2.2.1, uL.2.2.2.2.2.2.2.1, uL.2.2.2.2.2.2.2.2.1, uL.2.2.2.2.2.2.2.2.2.1, uL.2.2.2.2.2.2.2.2.2.2.1, uL.2.2.2.2.2.2.2.2.2.2.2.1, uL.2.2.2.2.2.2.2.2.2.2.2.2.1, uL.2.2.2.2.2.2.2.2.2.2.2.2.2.1, uL.2.2.2.2.2.2.2.2.2.2.2.2.2.2.1, uL.2.2.2.2.2.2.2.2.2.2.2.2.2.2.2.1, uL.2.2.2.2.2.2.2.2.2.2.2.2.2.2.2.2.1, uL.2.2.2.2.2.2.2.2.2.2.2.2.2.2.2.2.2) l14_1 hc2) (lw_V qm_X5_73 qi_X5_reads qs_X5_reads qn_X5 qc_X5_reads) hd_X5_reads ⟨rfl, rfl⟩ ⟨Nat.le_of_ble_eq_true rfl, Nat.le_of_ble_eq_true rfl⟩ ⟨Nat.le_of_ble_eq_true rfl, Nat.le_of_ble_eq_true rfl⟩ rfl rfl rfl hl.1 (Nat.le_of_ble_eq_true rfl) rfl dX5_isSubscriber_26 ?_
      refine lv_if_eq (tgt := 36) hx hb dX5_isSubscriber_29 (by decide) (fun hc => ?_) (fun hc => ?_)
      · have hok := ip hok hc
        refine lv_iconst (v := (0 : Int32)) hx hb dX5_isSubscriber_36 (by decide) ?_
        have hok := Option.some.inj hok
        subst hok
        exact eWz S hr hlk (by decide) rfl hP hS (Nat.le_of_ble_eq_true rfl) (Nat.le_of_ble_eq_true rfl) dX5_isSubscriber_37
      · have hok := iq hok hc
        refine lv_iconst (v := (1 : Int32)) hx hb dX5_isSubscriber_32 (by decide) ?_
        refine lv_goto (tgt := 37) hx hb dX5_isSubscriber_33 (by decide) ?_
        have hok := Option.some.inj hok
        subst hok
        exact eWz S hr hlk (by decide) rfl hP hS (Nat.le_of_ble_eq_true rfl) (Nat.le_of_ble_eq_true rfl) dX5_isSubscriber_37
  unfold p_X5_isSubscriber at hok
  refine lv_aload_n hx hb dX5_isSubscriber_0 rfl (lv_at hl 0 rfl) ?_
  refine lv_aload_n hx hb dX5_isSubscriber_1 rfl (lv_at hl 0 rfl) ?_
  refine lv_iload_n hx hb dX5_isSubscriber_2 rfl (lv_at hl 1 rfl) ?_
  obtain ⟨v1, hc1, hok⟩ := bd_some hok
  refine cRVi (ci := 5) (q0 := 0) [.int a1] S hK hP (c_X5_isReader l dC dI cI cZ l0 l4 l5 l6 l8 l10 l11 l12 l13 l14 l15 l16 uL a1 hc1) (lw_V qm_X5_155 qi_X5_isReader qs_X5_isReader qn_X5 qc_X5_isReader) hd_X5_isReader ⟨rfl, rfl⟩ ⟨Nat.le_of_ble_eq_true rfl, Nat.le_of_ble_eq_true rfl⟩ ⟨Nat.le_of_ble_eq_true rfl, Nat.le_of_ble_eq_true rfl⟩ rfl rfl rfl hl.1 (Nat.le_of_ble_eq_true rfl) rfl dX5_isSubscriber_3 ?_
  refine lv_if_eq (tgt := 13) hx hb dX5_isSubscriber_6 (by decide) (fun hc => ?_) (fun hc => ?_)
  · have hok := ip hok hc
    refine lv_iconst (v := (1 : Int32)) hx hb dX5_isSubscriber_13 (by decide) ?_
    exact J14 uL a1 (1 : Int32) _ _ hP hD hS _ hl hok
  · have hok := iq hok hc
    refine lv_iconst (v := (0 : Int32)) hx hb dX5_isSubscriber_9 (by decide) ?_
    refine lv_goto (tgt := 14) hx hb dX5_isSubscriber_10 (by decide) ?_
    exact J14 uL a1 (0 : Int32) _ _ hP hD hS _ hl hok
theorem hd_X5_hottest : yX5_hottest.cls = RX5 ∧ yX5_hottest.cls ≠ "java/lang/invoke/MethodHandle" ∧ yX5_hottest.cls ≠ "java/lang/invoke/VarHandle" ∧ (parseMethodDescriptor yX5_hottest.desc).map (fun d => d.parameters.length) = some 0 := by decide +kernel
def p_X5_hottest_J46 (rec4 : tX5 → Int32 → Int32 → Option Int32) (uL : tX5) (l46_2 : Int32) : Option Int32 :=
  rec4 uL l46_2 (l46_2 + 1)
def p_X5_hottest_L4 : Nat → tX5 → Int32 → Int32 → Option Int32
  | 0, _, _, _ => none
  | n + 1, uL, l4_1, l4_2 =>
    if uL.2.2.2.2.2.2.2.1 ≤ l4_2 then
      some l4_1
    else
      bd (p_X5_reads uL l4_2) (fun v1 =>
      if v1 = 0 then
        (p_X5_hottest_L4 n) uL l4_1 (l4_2 + 1)
      else
        if l4_1 = (-1 : Int32) then
          p_X5_hottest_J46 (p_X5_hottest_L4 n) uL l4_2
        else
          gd ((33 : Int32) + l4_2) 41 (
          gd ((33 : Int32) + l4_1) 41 (
          if (uL.2.2.2.2.2.2.2.2.2.2.2.2.2.2.2.1 ((33 : Int32) + l4_2).toNatClampNeg) ≤ (uL.2.2.2.2.2.2.2.2.2.2.2.2.2.2.2.1 ((33 : Int32) + l4_1).toNatClampNeg) then
            (p_X5_hottest_L4 n) uL l4_1 (l4_2 + 1)
          else
            p_X5_hottest_J46 (p_X5_hottest_L4 n) uL l4_2)))
def p_X5_hottest (uL : tX5) : Option Int32 :=
  p_X5_hottest_L4 200 uL (-1 : Int32) (0 : Int32)
set_option maxHeartbeats 4000000 in
set_option maxRecDepth 100000 in
theorem c_X5_hottest (l : Launch) (dC : Nat → ClassId) (dI : Nat → Nat → Nat) (cI cZ : ClassId) (l0 l4 l5 l6 l8 l10 l11 l12 l13 l14 l15 l16 : Nat) (uL : tX5) {z : Int32} (hok : p_X5_hottest uL = some z) : Met l yX5_hottest (Cond.code yX5_hottest cX5_hottest 3 (some .int) :: lw_all) { frames := 2, cells := 0, slots := 0, locals := 42 } (prR (dC, dI) vwCl (TYS cI cZ) ((wX5 cI cZ l0 l4 l5 l6 l8 l10 l11 l12 l13 l14 l15 l16 uL)) [.ref l0]) (vp_Si (fun r => r = z)) 0 0 (fun _ => False) := by
  refine oM (by decide) (Nat.le_of_ble_eq_true rfl) ?_
  intro p e s m args below meth c S hr hlk hnm hB ls hl
  have hx := S.1
  have hb := S.2.1
  have hml := S.2.2.1
  have hown : s.vm.findClass RX5 = some m.cls := S.2.2.2.1
  have hts := S.2.2.2.2
  have S : CallFix p m c cX5_hottest 3 s args lw_all RX5 := S
  have hl : lv_has ls 3 [(0, .ref l0)] := hl
  obtain ⟨hP, hK⟩ := hB
  have hP : va_P (dC, dI) vwCl ((wX5 cI cZ l0 l4 l5 l6 l8 l10 l11 l12 l13 l14 l15 l16 uL)) s.heap := hP
  have L4 : ∀ n4 : Nat, ∀ (l4_1 : Int32) (l4_2 : Int32) (ls : Array Slot) (hl : lv_has ls 3 [(0, .ref l0), (1, .int l4_1), (2, .int l4_2)]) (hok : p_X5_hottest_L4 n4 uL l4_1 l4_2 = some z), W p l e { frames := 2, cells := 0, slots := 0, locals := 42 } s m args below meth c s.heap [] 0 0 (MQ below (vp_Si (fun r => r = z)) args s 0 0 (fun _ => False)) (F0 m 4 ls []) := by
    intro n4
    induction n4 with
    | zero =>
      intro l4_1 l4_2 ls hl hok
      rw [p_X5_hottest_L4] at hok
      cases hok
    | succ n4 ih4 =>
      have J46 : ∀ (l46_2 : Int32) (ls : Array Slot) (hl : lv_has ls 3 [(0, .ref l0), (2, .int l46_2)]) (hok : p_X5_hottest_J46 (p_X5_hottest_L4 n4) uL l46_2 = some z), W p l e { frames := 2, cells := 0, slots := 0, locals := 42 } s m args below meth c s.heap [] 0 0 (MQ below (vp_Si (fun r => r = z)) args s 0 0 (fun _ => False)) (F0 m 46 ls []) := by
        intro l46_2 ls hl hok
        unfold p_X5_hottest_J46 at hok
        refine lv_iload_n hx hb dX5_hottest_46 rfl (lv_at hl 1 rfl) ?_
        refine lv_istore_n (lv' := [(1, .int l46_2), (0, .ref l0), (2, .int l46_2)]) hx hb dX5_hottest_47 rfl hl (by decide) rfl (fun ls hl => ?_)
        refine lv_iinc (v := (l46_2 + 1)) (lv' := [(2, .int (l46_2 + 1)), (1, .int l46_2), (0, .ref l0)]) hx hb dX5_hottest_48 hl (k := 2) rfl rfl (by decide) rfl (fun ls hl => ?_)
        refine lv_goto (tgt := 4) hx hb dX5_hottest_51 (by decide) ?_
        exact ih4 l46_2 (l46_2 + 1) _ (lv_sub hl [2, 1, 0] rfl) hok
      intro l4_1 l4_2 ls hl hok
      rw [p_X5_hottest_L4] at hok
      refine lv_iload_n hx hb dX5_hottest_4 rfl (lv_at hl 2 rfl) ?_
      refine lv_aload_n hx hb dX5_hottest_5 rfl (lv_at hl 0 rfl) ?_
      refine va_get (D := (dC, dI)) (ci := 5) (v := .int uL.2.2.2.2.2.2.2.1) (C := RX5) (T := TX5) (N := 18) hx hb hts inX5 hown hK hP 0 rfl rfl 7 (by decide) (hts _ qf_X5_57) (fun _ h9 => h9) rfl dX5_hottest_6 ?_
      refine lv_icmp_ge (tgt := 54) hx hb dX5_hottest_9 (by decide) (fun hc => ?_) (fun hc => ?_)
      · have hok := ip hok hc
        refine lv_iload_n hx hb dX5_hottest_54 rfl (lv_at hl 1 rfl) ?_
        exact eRi S hr hlk (Option.some.inj hok) dX5_hottest_55
      · have hok := iq hok hc
        refine lv_aload_n hx hb dX5_hottest_12 rfl (lv_at hl 0 rfl) ?_
        refine lv_iload_n hx hb dX5_hottest_13 rfl (lv_at hl 2 rfl) ?_
        obtain ⟨v1, hc1, hok⟩ := bd_some hok
        refine cRVi (ci := 5) (q0 := 0) [.int l4_2] S hK hP (c_X5_reads l dC dI cI cZ l0 l4 l5 l6 l8 l10 l11 l12 l13 l14 l15 l16 uL l4_2 hc1) (lw_V qm_X5_73 qi_X5_reads qs_X5_reads qn_X5 qc_X5_reads) hd_X5_reads ⟨rfl, rfl⟩ ⟨Nat.le_of_ble_eq_true rfl, Nat.le_of_ble_eq_true rfl⟩ ⟨Nat.le_of_ble_eq_true rfl, Nat.le_of_ble_eq_true rfl⟩ rfl rfl rfl hl.1 (Nat.le_of_ble_eq_true rfl) rfl dX5_hottest_14 ?_
        refine lv_if_eq (tgt := 48) hx hb dX5_hottest_17 (by decide) (fun hc => ?_) (fun hc => ?_)
        · have hok := ip hok hc
          refine lv_iinc (v := (l4_2 + 1)) (lv' := [(2, .int (l4_2 + 1)), (0, .ref l0), (1, .int l4_1)]) hx hb dX5_hottest_48 hl (k := 2) rfl rfl (by decide) rfl (fun ls hl => ?_)
          refine lv_goto (tgt := 4) hx hb dX5_hottest_51 (by decide) ?_
          exact ih4 l4_1 (l4_2 + 1) _ (lv_sub hl [1, 2, 0] rfl) hok
        · have hok := iq hok hc
          refine lv_iload_n hx hb dX5_hottest_20 rfl (lv_at hl 1 rfl) ?_
          refine lv_iconst (v := (-1 : Int32)) hx hb dX5_hottest_21 (by decide) ?_
          refine lv_icmp_eq (tgt := 46) hx hb dX5_hottest_22 (by decide) (fun hc => ?_) (fun hc => ?_)
          · have hok := ip hok hc
            exact J46 l4_2 _ (lv_sub hl [0, 2] rfl) hok
          · have hok := iq hok hc
            refine lv_aload_n hx hb dX5_hottest_25 rfl (lv_at hl 0 rfl) ?_
            refine va_get (D := (dC, dI)) (ci := 5) (v := .ref l15) (C := RX5) (T := TX5) (N := 18) hx hb hts inX5 hown hK hP 0 rfl rfl 15 (by decide) (hts _ qf_X5_44) (fun _ h9 => h9) rfl dX5_hottest_26 ?_
            refine lv_bipush (v := (33 : Int32)) hx hb dX5_hottest_29 (by decide) ?_
            refine lv_iload_n hx hb dX5_hottest_31 rfl (lv_at hl 2 rfl) ?_
            refine lv_iadd hx hb dX5_hottest_32 ?_
            obtain ⟨hi2, hok⟩ := gd_some hok
            refine va_iald hx hb hK hP 10 0 rfl rfl hi2 dX5_hottest_33 ?_
            refine lv_aload_n hx hb dX5_hottest_34 rfl (lv_at hl 0 rfl) ?_
            refine va_get (D := (dC, dI)) (ci := 5) (v := .ref l15) (C := RX5) (T := TX5) (N := 18) hx hb hts inX5 hown hK hP 0 rfl rfl 15 (by decide) (hts _ qf_X5_44) (fun _ h9 => h9) rfl dX5_hottest_35 ?_
            refine lv_bipush (v := (33 : Int32)) hx hb dX5_hottest_38 (by decide) ?_
            refine lv_iload_n hx hb dX5_hottest_40 rfl (lv_at hl 1 rfl) ?_
            refine lv_iadd hx hb dX5_hottest_41 ?_
            obtain ⟨hi3, hok⟩ := gd_some hok
            refine va_iald hx hb hK hP 10 0 rfl rfl hi3 dX5_hottest_42 ?_
            refine lv_icmp_le (tgt := 48) hx hb dX5_hottest_43 (by decide) (fun hc => ?_) (fun hc => ?_)
            · have hok := ip hok hc
              refine lv_iinc (v := (l4_2 + 1)) (lv' := [(2, .int (l4_2 + 1)), (0, .ref l0), (1, .int l4_1)]) hx hb dX5_hottest_48 hl (k := 2) rfl rfl (by decide) rfl (fun ls hl => ?_)
              refine lv_goto (tgt := 4) hx hb dX5_hottest_51 (by decide) ?_
              exact ih4 l4_1 (l4_2 + 1) _ (lv_sub hl [1, 2, 0] rfl) hok
            · have hok := iq hok hc
              exact J46 l4_2 _ (lv_sub hl [0, 2] rfl) hok
  unfold p_X5_hottest at hok
  refine lv_iconst (v := (-1 : Int32)) hx hb dX5_hottest_0 (by decide) ?_
  refine lv_istore_n (lv' := [(1, .int (-1 : Int32)), (0, .ref l0)]) hx hb dX5_hottest_1 rfl hl (by decide) rfl (fun ls hl => ?_)
  refine lv_iconst (v := (0 : Int32)) hx hb dX5_hottest_2 (by decide) ?_
  refine lv_istore_n (lv' := [(2, .int (0 : Int32)), (1, .int (-1 : Int32)), (0, .ref l0)]) hx hb dX5_hottest_3 rfl hl (by decide) rfl (fun ls hl => ?_)
  exact L4 200 (-1 : Int32) (0 : Int32) _ (lv_sub hl [2, 1, 0] rfl) hok
theorem hd_X5_warmest : yX5_warmest.cls = RX5 ∧ yX5_warmest.cls ≠ "java/lang/invoke/MethodHandle" ∧ yX5_warmest.cls ≠ "java/lang/invoke/VarHandle" ∧ (parseMethodDescriptor yX5_warmest.desc).map (fun d => d.parameters.length) = some 0 := by decide +kernel
def p_X5_warmest (uL : tX5) : Option (Int32 × tX5) :=
  bd (p_X5_hottest uL) (fun v1 =>
  bd (p_X5_told uL v1) (fun v2 =>
  some (v2.1, v2.2)))
set_option maxHeartbeats 4000000 in
set_option maxRecDepth 100000 in
theorem c_X5_warmest (l : Launch) (dC : Nat → ClassId) (dI : Nat → Nat → Nat) (cI cZ : ClassId) (l0 l4 l5 l6 l8 l10 l11 l12 l13 l14 l15 l16 : Nat) (sz : Nat) (uL : tX5) {z : (Int32 × tX5)} (hok : p_X5_warmest uL = some z) : Met l yX5_warmest (Cond.code yX5_warmest cX5_warmest 1 (some .int) :: lw_all) { frames := 3, cells := 0, slots := 0, locals := 64 } (prW (dC, dI) vwCl (TYS cI cZ) ((wX5 cI cZ l0 l4 l5 l6 l8 l10 l11 l12 l13 l14 l15 l16 uL)) sz [.ref l0]) (va_Qi (fun (r : Int32) (_ : Unit) => r = z.1) (fun _ t => va_P (dC, dI) vwCl ((wX5 cI cZ l0 l4 l5 l6 l8 l10 l11 l12 l13 l14 l15 l16 z.2)) t.heap) (va_A ((wX5 cI cZ l0 l4 l5 l6 l8 l10 l11 l12 l13 l14 l15 l16 uL)) sz)) 0 0 (va_A ((wX5 cI cZ l0 l4 l5 l6 l8 l10 l11 l12 l13 l14 l15 l16 uL)) sz) := by
  refine oM (by decide) (Nat.le_of_ble_eq_true rfl) ?_
  intro p e s m args below meth c S hr hlk hnm hB ls hl
  have hx := S.1
  have hb := S.2.1
  have hml := S.2.2.1
  have hown : s.vm.findClass RX5 = some m.cls := S.2.2.2.1
  have hts := S.2.2.2.2
  have S : CallFix p m c cX5_warmest 1 s args lw_all RX5 := S
  have hl : lv_has ls 1 [(0, .ref l0)] := hl
  obtain ⟨hsz, hP, hK, hD0⟩ := hB
  subst hsz
  have hD := hD0.self (sz := s.heap.size)
  generalize hAe : va_A ((wX5 cI cZ l0 l4 l5 l6 l8 l10 l11 l12 l13 l14 l15 l16 uL)) s.heap.size = A at hD ⊢
  have hA : ∀ q : Nat, s.heap.size ≤ q → A q := fun q h => by rw [← hAe]; exact Or.inr h
  have hS : va_S A s.heap s.heap [] := va_S.rf
  have hP : va_P (dC, dI) vwCl ((wX5 cI cZ l0 l4 l5 l6 l8 l10 l11 l12 l13 l14 l15 l16 uL)) s.heap := hP
  unfold p_X5_warmest at hok
  refine lv_aload_n hx hb dX5_warmest_0 rfl (lv_at hl 0 rfl) ?_
  refine lv_aload_n hx hb dX5_warmest_1 rfl (lv_at hl 0 rfl) ?_
  obtain ⟨v1, hc1, hok⟩ := bd_some hok
  refine cRVi (ci := 5) (q0 := 0) [] S hK hP (c_X5_hottest l dC dI cI cZ l0 l4 l5 l6 l8 l10 l11 l12 l13 l14 l15 l16 uL hc1) (lw_V qm_X5_161 qi_X5_hottest qs_X5_hottest qn_X5 qc_X5_hottest) hd_X5_hottest ⟨rfl, rfl⟩ ⟨Nat.le_of_ble_eq_true rfl, Nat.le_of_ble_eq_true rfl⟩ ⟨Nat.le_of_ble_eq_true rfl, Nat.le_of_ble_eq_true rfl⟩ rfl rfl rfl hl.1 (Nat.le_of_ble_eq_true rfl) rfl dX5_warmest_2 ?_
  obtain ⟨v2, hc2, hok⟩ := bd_some hok
  refine cWVi (ci := 5) (q0 := 0) [.int v1] S hK hP hD hS hA (c_X5_told l dC dI cI cZ l0 l4 l5 l6 l8 l10 l11 l12 l13 l14 l15 l16 _ uL v1 hc2) (lw_V qm_X5_125 qi_X5_told qs_X5_told qn_X5 qc_X5_told) hd_X5_told ⟨rfl, rfl⟩ ⟨Nat.le_of_ble_eq_true rfl, Nat.le_of_ble_eq_true rfl⟩ ⟨Nat.le_of_ble_eq_true rfl, Nat.le_of_ble_eq_true rfl⟩ rfl rfl rfl hl.1 (Nat.le_of_ble_eq_true rfl) rfl dX5_warmest_5 (D_L hD) (fun H locs hP hD hS => ?_)
  have hok := Option.some.inj hok
  subst hok
  exact eWi S hr hlk rfl hP hS (Nat.le_of_ble_eq_true rfl) (Nat.le_of_ble_eq_true rfl) dX5_warmest_8
theorem hd_X5_mirrors : yX5_mirrors.cls = RX5 ∧ yX5_mirrors.cls ≠ "java/lang/invoke/MethodHandle" ∧ yX5_mirrors.cls ≠ "java/lang/invoke/VarHandle" ∧ (parseMethodDescriptor yX5_mirrors.desc).map (fun d => d.parameters.length) = some 0 := by decide +kernel
def p_X5_mirrors (uL : tX5) : Option (Int32 × tX5) :=
  bd (p_X5_told uL uL.2.2.2.2.2.2.2.2.2.1) (fun v1 =>
  some (v1.1, v1.2))
set_option maxHeartbeats 4000000 in
set_option maxRecDepth 100000 in
theorem c_X5_mirrors (l : Launch) (dC : Nat → ClassId) (dI : Nat → Nat → Nat) (cI cZ : ClassId) (l0 l4 l5 l6 l8 l10 l11 l12 l13 l14 l15 l16 : Nat) (sz : Nat) (uL : tX5) {z : (Int32 × tX5)} (hok : p_X5_mirrors uL = some z) : Met l yX5_mirrors (Cond.code yX5_mirrors cX5_mirrors 1 (some .int) :: lw_all) { frames := 1, cells := 0, slots := 0, locals := 21 } (prW (dC, dI) vwCl (TYS cI cZ) ((wX5 cI cZ l0 l4 l5 l6 l8 l10 l11 l12 l13 l14 l15 l16 uL)) sz [.ref l0]) (va_Qi (fun (r : Int32) (_ : Unit) => r = z.1) (fun _ t => va_P (dC, dI) vwCl ((wX5 cI cZ l0 l4 l5 l6 l8 l10 l11 l12 l13 l14 l15 l16 z.2)) t.heap) (va_A ((wX5 cI cZ l0 l4 l5 l6 l8 l10 l11 l12 l13 l14 l15 l16 uL)) sz)) 0 0 (va_A ((wX5 cI cZ l0 l4 l5 l6 l8 l10 l11 l12 l13 l14 l15 l16 uL)) sz) := by
  refine oM (by decide) (Nat.le_of_ble_eq_true rfl) ?_
  intro p e s m args below meth c S hr hlk hnm hB ls hl
  have hx := S.1
  have hb := S.2.1
  have hml := S.2.2.1
  have hown : s.vm.findClass RX5 = some m.cls := S.2.2.2.1
  have hts := S.2.2.2.2
  have S : CallFix p m c cX5_mirrors 1 s args lw_all RX5 := S
  have hl : lv_has ls 1 [(0, .ref l0)] := hl
  obtain ⟨hsz, hP, hK, hD0⟩ := hB
  subst hsz
  have hD := hD0.self (sz := s.heap.size)
  generalize hAe : va_A ((wX5 cI cZ l0 l4 l5 l6 l8 l10 l11 l12 l13 l14 l15 l16 uL)) s.heap.size = A at hD ⊢
  have hA : ∀ q : Nat, s.heap.size ≤ q → A q := fun q h => by rw [← hAe]; exact Or.inr h
  have hS : va_S A s.heap s.heap [] := va_S.rf
  have hP : va_P (dC, dI) vwCl ((wX5 cI cZ l0 l4 l5 l6 l8 l10 l11 l12 l13 l14 l15 l16 uL)) s.heap := hP
  unfold p_X5_mirrors at hok
  refine lv_aload_n hx hb dX5_mirrors_0 rfl (lv_at hl 0 rfl) ?_
  refine lv_aload_n hx hb dX5_mirrors_1 rfl (lv_at hl 0 rfl) ?_
  refine va_get (D := (dC, dI)) (ci := 5) (v := .int uL.2.2.2.2.2.2.2.2.2.1) (C := RX5) (T := TX5) (N := 18) hx hb hts inX5 hown hK hP 0 rfl rfl 9 (by decide) (hts _ qf_X5_60) (fun _ h9 => h9) rfl dX5_mirrors_2 ?_
  obtain ⟨v1, hc1, hok⟩ := bd_some hok
  refine cWVi (ci := 5) (q0 := 0) [.int uL.2.2.2.2.2.2.2.2.2.1] S hK hP hD hS hA (c_X5_told l dC dI cI cZ l0 l4 l5 l6 l8 l10 l11 l12 l13 l14 l15 l16 _ uL uL.2.2.2.2.2.2.2.2.2.1 hc1) (lw_V qm_X5_125 qi_X5_told qs_X5_told qn_X5 qc_X5_told) hd_X5_told ⟨rfl, rfl⟩ ⟨Nat.le_of_ble_eq_true rfl, Nat.le_of_ble_eq_true rfl⟩ ⟨Nat.le_of_ble_eq_true rfl, Nat.le_of_ble_eq_true rfl⟩ rfl rfl rfl hl.1 (Nat.le_of_ble_eq_true rfl) rfl dX5_mirrors_5 (D_L hD) (fun H locs hP hD hS => ?_)
  have hok := Option.some.inj hok
  subst hok
  exact eWi S hr hlk rfl hP hS (Nat.le_of_ble_eq_true rfl) (Nat.le_of_ble_eq_true rfl) dX5_mirrors_8
theorem hd_X5_graded : yX5_graded.cls = RX5 ∧ yX5_graded.cls ≠ "java/lang/invoke/MethodHandle" ∧ yX5_graded.cls ≠ "java/lang/invoke/VarHandle" ∧ (parseMethodDescriptor yX5_graded.desc).map (fun d => d.parameters.length) = some 2 := by decide +kernel
def p_X5_graded_J57 (uL : tX5) (s57_0 : Int32) (s57_1 : Int32) : Option Int32 :=
  some (if (0 : Int32) < (if (s57_1 + s57_0) < (10 : Int32) then (s57_1 + s57_0) else (10 : Int32)) then (if (s57_1 + s57_0) < (10 : Int32) then (s57_1 + s57_0) else (10 : Int32)) else (0 : Int32))
def p_X5_graded (uL : tX5) (a1 : Int32) (a2 : Int32) : Option Int32 :=
  gd a2 108 (
  gd (uL.2.2.2.2.2.2.2.2.2.2.2.2.1 a2.toNatClampNeg) 108 (
  gd a1 4 (
  if (uL.2.2.2.2.2.1 (uL.2.2.2.2.2.2.2.2.2.2.2.2.1 a2.toNatClampNeg).toNatClampNeg) = (uL.2.2.2.2.2.2.2.2.2.2.1 a1.toNatClampNeg) then
    p_X5_graded_J57 uL (2 : Int32) ((4 : Int32) + ((uL.2.2.2.2.2.2.2.2.2.2.2.2.2.1 a2.toNatClampNeg) / (3 : Int32)))
  else
    if (uL.2.2.2.2.2.1 (uL.2.2.2.2.2.2.2.2.2.2.2.2.1 a2.toNatClampNeg).toNatClampNeg) = (uL.2.2.2.2.2.2.2.2.2.2.2.1 a1.toNatClampNeg) then
      p_X5_graded_J57 uL (-3 : Int32) ((4 : Int32) + ((uL.2.2.2.2.2.2.2.2.2.2.2.2.2.1 a2.toNatClampNeg) / (3 : Int32)))
    else
      p_X5_graded_J57 uL (0 : Int32) ((4 : Int32) + ((uL.2.2.2.2.2.2.2.2.2.2.2.2.2.1 a2.toNatClampNeg) / (3 : Int32))))))
set_option maxHeartbeats 4000000 in
set_option maxRecDepth 100000 in
theorem c_X5_graded (l : Launch) (dC : Nat → ClassId) (dI : Nat → Nat → Nat) (cI cZ : ClassId) (l0 l4 l5 l6 l8 l10 l11 l12 l13 l14 l15 l16 : Nat) (uL : tX5) (a1 : Int32) (a2 : Int32) {z : Int32} (hok : p_X5_graded uL a1 a2 = some z) : Met l yX5_graded (Cond.code yX5_graded cX5_graded 5 (some .int) :: lw_all) { frames := 1, cells := 0, slots := 0, locals := 21 } (prR (dC, dI) vwCl (TYS cI cZ) ((wX5 cI cZ l0 l4 l5 l6 l8 l10 l11 l12 l13 l14 l15 l16 uL)) [.ref l0, .int a1, .int a2]) (vp_Si (fun r => r = z)) 0 0 (fun _ => False) := by
  refine oM (by decide) (Nat.le_of_ble_eq_true rfl) ?_
  intro p e s m args below meth c S hr hlk hnm hB ls hl
  have hx := S.1
  have hb := S.2.1
  have hml := S.2.2.1
  have hown : s.vm.findClass RX5 = some m.cls := S.2.2.2.1
  have hts := S.2.2.2.2
  have S : CallFix p m c cX5_graded 5 s args lw_all RX5 := S
  have hl : lv_has ls 5 [(0, .ref l0), (1, .int a1), (2, .int a2)] := hl
  obtain ⟨hP, hK⟩ := hB
  have hP : va_P (dC, dI) vwCl ((wX5 cI cZ l0 l4 l5 l6 l8 l10 l11 l12 l13 l14 l15 l16 uL)) s.heap := hP
  have J57 : ∀ (s57_0 : Int32) (s57_1 : Int32) (ls : Array Slot) (hl : lv_has ls 5 []) (hok : p_X5_graded_J57 uL s57_0 s57_1 = some z), W p l e { frames := 1, cells := 0, slots := 0, locals := 21 } s m args below meth c s.heap [] 0 0 (MQ below (vp_Si (fun r => r = z)) args s 0 0 (fun _ => False)) (F0 m 57 ls [.int s57_0, .int s57_1]) := by
    intro s57_0 s57_1 ls hl hok
    unfold p_X5_graded_J57 at hok
    refine lv_iadd hx hb dX5_graded_57 ?_
    refine lv_istore_n (lv' := [(3, .int (s57_1 + s57_0))]) hx hb dX5_graded_58 rfl hl (by decide) rfl (fun ls hl => ?_)
    refine lv_iconst (v := (0 : Int32)) hx hb dX5_graded_59 (by decide) ?_
    refine lv_bipush (v := (10 : Int32)) hx hb dX5_graded_60 (by decide) ?_
    refine lv_iload_n hx hb dX5_graded_62 rfl (lv_at hl 0 rfl) ?_
    refine va_mmin hx hb (hml.trans hl.1.symm) hown (hts _ qm_X5_77) (hts _ qt_Math_min) (hts _ qn_Math) (hts _ qc_Math_min) (Nat.le_of_ble_eq_true rfl) (Nat.le_of_ble_eq_true rfl) (Nat.le_of_ble_eq_true rfl) (Nat.le_of_ble_eq_true rfl) dX5_graded_63 ?_
    refine va_mmax hx hb (hml.trans hl.1.symm) hown (hts _ qm_X5_146) (hts _ qt_Math_max) (hts _ qn_Math) (hts _ qc_Math_max) (Nat.le_of_ble_eq_true rfl) (Nat.le_of_ble_eq_true rfl) (Nat.le_of_ble_eq_true rfl) (Nat.le_of_ble_eq_true rfl) dX5_graded_66 ?_
    exact eRi S hr hlk (Option.some.inj hok) dX5_graded_69
  unfold p_X5_graded at hok
  refine lv_iconst (v := (4 : Int32)) hx hb dX5_graded_0 (by decide) ?_
  refine lv_aload_n hx hb dX5_graded_1 rfl (lv_at hl 0 rfl) ?_
  refine va_get (D := (dC, dI)) (ci := 5) (v := .ref l13) (C := RX5) (T := TX5) (N := 18) hx hb hts inX5 hown hK hP 0 rfl rfl 13 (by decide) (hts _ qf_X5_38) (fun _ h9 => h9) rfl dX5_graded_2 ?_
  refine lv_iload_n hx hb dX5_graded_5 rfl (lv_at hl 2 rfl) ?_
  obtain ⟨hi1, hok⟩ := gd_some hok
  refine va_iald hx hb hK hP 8 0 rfl rfl hi1 dX5_graded_6 ?_
  refine lv_iconst (v := (3 : Int32)) hx hb dX5_graded_7 (by decide) ?_
  refine lv_idiv hx hb dX5_graded_8 (by decide) ?_
  refine lv_iadd hx hb dX5_graded_9 ?_
  refine lv_istore_n (lv' := [(3, .int ((4 : Int32) + ((uL.2.2.2.2.2.2.2.2.2.2.2.2.2.1 a2.toNatClampNeg) / (3 : Int32)))), (0, .ref l0), (1, .int a1), (2, .int a2)]) hx hb dX5_graded_10 rfl hl (by decide) rfl (fun ls hl => ?_)
  refine lv_aload_n hx hb dX5_graded_11 rfl (lv_at hl 1 rfl) ?_
  refine va_get (D := (dC, dI)) (ci := 5) (v := .ref l5) (C := RX5) (T := TX5) (N := 18) hx hb hts inX5 hown hK hP 0 rfl rfl 5 (by decide) (hts _ qf_X5_20) (fun _ h9 => h9) rfl dX5_graded_12 ?_
  refine lv_aload_n hx hb dX5_graded_15 rfl (lv_at hl 1 rfl) ?_
  refine va_get (D := (dC, dI)) (ci := 5) (v := .ref l12) (C := RX5) (T := TX5) (N := 18) hx hb hts inX5 hown hK hP 0 rfl rfl 12 (by decide) (hts _ qf_X5_35) (fun _ h9 => h9) rfl dX5_graded_16 ?_
  refine lv_iload_n hx hb dX5_graded_19 rfl (lv_at hl 3 rfl) ?_
  refine va_iald hx hb hK hP 7 0 rfl rfl hi1 dX5_graded_20 ?_
  obtain ⟨hi2, hok⟩ := gd_some hok
  refine va_iald hx hb hK hP 2 0 rfl rfl hi2 dX5_graded_21 ?_
  refine lv_istore (lv' := [(4, .int (uL.2.2.2.2.2.1 (uL.2.2.2.2.2.2.2.2.2.2.2.2.1 a2.toNatClampNeg).toNatClampNeg)), (3, .int ((4 : Int32) + ((uL.2.2.2.2.2.2.2.2.2.2.2.2.2.1 a2.toNatClampNeg) / (3 : Int32)))), (0, .ref l0), (1, .int a1), (2, .int a2)]) hx hb dX5_graded_22 hl (by decide) rfl (fun ls hl => ?_)
  refine lv_iload_n hx hb dX5_graded_24 rfl (lv_at hl 1 rfl) ?_
  refine lv_iload hx hb dX5_graded_25 (lv_at hl 0 rfl) ?_
  refine lv_aload_n hx hb dX5_graded_27 rfl (lv_at hl 2 rfl) ?_
  refine va_get (D := (dC, dI)) (ci := 5) (v := .ref l10) (C := RX5) (T := TX5) (N := 18) hx hb hts inX5 hown hK hP 0 rfl rfl 10 (by decide) (hts _ qf_X5_29) (fun _ h9 => h9) rfl dX5_graded_28 ?_
  refine lv_iload_n hx hb dX5_graded_31 rfl (lv_at hl 3 rfl) ?_
  obtain ⟨hi3, hok⟩ := gd_some hok
  refine va_iald hx hb hK hP 5 0 rfl rfl hi3 dX5_graded_32 ?_
  refine lv_icmp_ne (tgt := 40) hx hb dX5_graded_33 (by decide) (fun hc => ?_) (fun hc => ?_)
  · have hok := iq hok hc
    refine lv_iload hx hb dX5_graded_40 (lv_at hl 0 rfl) ?_
    refine lv_aload_n hx hb dX5_graded_42 rfl (lv_at hl 2 rfl) ?_
    refine va_get (D := (dC, dI)) (ci := 5) (v := .ref l11) (C := RX5) (T := TX5) (N := 18) hx hb hts inX5 hown hK hP 0 rfl rfl 11 (by decide) (hts _ qf_X5_32) (fun _ h9 => h9) rfl dX5_graded_43 ?_
    refine lv_iload_n hx hb dX5_graded_46 rfl (lv_at hl 3 rfl) ?_
    refine va_iald hx hb hK hP 6 0 rfl rfl hi3 dX5_graded_47 ?_
    refine lv_icmp_ne (tgt := 56) hx hb dX5_graded_48 (by decide) (fun hc => ?_) (fun hc => ?_)
    · have hok := iq hok hc
      refine lv_iconst (v := (0 : Int32)) hx hb dX5_graded_56 (by decide) ?_
      exact J57 (0 : Int32) ((4 : Int32) + ((uL.2.2.2.2.2.2.2.2.2.2.2.2.2.1 a2.toNatClampNeg) / (3 : Int32))) _ (lv_sub hl [] rfl) hok
    · have hok := ip hok hc
      refine lv_bipush (v := (-3 : Int32)) hx hb dX5_graded_51 (by decide) ?_
      refine lv_goto (tgt := 57) hx hb dX5_graded_53 (by decide) ?_
      exact J57 (-3 : Int32) ((4 : Int32) + ((uL.2.2.2.2.2.2.2.2.2.2.2.2.2.1 a2.toNatClampNeg) / (3 : Int32))) _ (lv_sub hl [] rfl) hok
  · have hok := ip hok hc
    refine lv_iconst (v := (2 : Int32)) hx hb dX5_graded_36 (by decide) ?_
    refine lv_goto (tgt := 57) hx hb dX5_graded_37 (by decide) ?_
    exact J57 (2 : Int32) ((4 : Int32) + ((uL.2.2.2.2.2.2.2.2.2.2.2.2.2.1 a2.toNatClampNeg) / (3 : Int32))) _ (lv_sub hl [] rfl) hok
theorem hd_X5_grade : yX5_grade.cls = RX5 ∧ yX5_grade.cls ≠ "java/lang/invoke/MethodHandle" ∧ yX5_grade.cls ≠ "java/lang/invoke/VarHandle" ∧ (parseMethodDescriptor yX5_grade.desc).map (fun d => d.parameters.length) = some 2 := by decide +kernel
def p_X5_grade_J30 (uL : tX5) : Option (Int32 × tX5) :=
  bd (p_X5_fail uL (1 : Int32)) (fun v4 =>
  some (v4.1, v4.2))
def p_X5_grade (uL : tX5) (a1 : Int32) (a2 : Int32) : Option (Int32 × tX5) :=
  bd (p_X5_isMirror ((0 : Int32), uL.2.1, uL.2.2.1, uL.2.2.2.1, uL.2.2.2.2.1, uL.2.2.2.2.2.1, uL.2.2.2.2.2.2.1, uL.2.2.2.2.2.2.2.1, uL.2.2.2.2.2.2.2.2.1, uL.2.2.2.2.2.2.2.2.2.1, uL.2.2.2.2.2.2.2.2.2.2.1, uL.2.2.2.2.2.2.2.2.2.2.2.1, uL.2.2.2.2.2.2.2.2.2.2.2.2.1, uL.2.2.2.2.2.2.2.2.2.2.2.2.2.1, uL.2.2.2.2.2.2.2.2.2.2.2.2.2.2.1, uL.2.2.2.2.2.2.2.2.2.2.2.2.2.2.2.1, uL.2.2.2.2.2.2.2.2.2.2.2.2.2.2.2.2.1, uL.2.2.2.2.2.2.2.2.2.2.2.2.2.2.2.2.2) a1) (fun v1 =>
  if v1 = 0 then
    p_X5_grade_J30 ((0 : Int32), uL.2.1, uL.2.2.1, uL.2.2.2.1, uL.2.2.2.2.1, uL.2.2.2.2.2.1, uL.2.2.2.2.2.2.1, uL.2.2.2.2.2.2.2.1, uL.2.2.2.2.2.2.2.2.1, uL.2.2.2.2.2.2.2.2.2.1, uL.2.2.2.2.2.2.2.2.2.2.1, uL.2.2.2.2.2.2.2.2.2.2.2.1, uL.2.2.2.2.2.2.2.2.2.2.2.2.1, uL.2.2.2.2.2.2.2.2.2.2.2.2.2.1, uL.2.2.2.2.2.2.2.2.2.2.2.2.2.2.1, uL.2.2.2.2.2.2.2.2.2.2.2.2.2.2.2.1, uL.2.2.2.2.2.2.2.2.2.2.2.2.2.2.2.2.1, uL.2.2.2.2.2.2.2.2.2.2.2.2.2.2.2.2.2)
  else
    bd (p_X5_isInstalment ((0 : Int32), uL.2.1, uL.2.2.1, uL.2.2.2.1, uL.2.2.2.2.1, uL.2.2.2.2.2.1, uL.2.2.2.2.2.2.1, uL.2.2.2.2.2.2.2.1, uL.2.2.2.2.2.2.2.2.1, uL.2.2.2.2.2.2.2.2.2.1, uL.2.2.2.2.2.2.2.2.2.2.1, uL.2.2.2.2.2.2.2.2.2.2.2.1, uL.2.2.2.2.2.2.2.2.2.2.2.2.1, uL.2.2.2.2.2.2.2.2.2.2.2.2.2.1, uL.2.2.2.2.2.2.2.2.2.2.2.2.2.2.1, uL.2.2.2.2.2.2.2.2.2.2.2.2.2.2.2.1, uL.2.2.2.2.2.2.2.2.2.2.2.2.2.2.2.2.1, uL.2.2.2.2.2.2.2.2.2.2.2.2.2.2.2.2.2) a2) (fun v2 =>
    if v2 = 0 then
      p_X5_grade_J30 ((0 : Int32), uL.2.1, uL.2.2.1, uL.2.2.2.1, uL.2.2.2.2.1, uL.2.2.2.2.2.1, uL.2.2.2.2.2.2.1, uL.2.2.2.2.2.2.2.1, uL.2.2.2.2.2.2.2.2.1, uL.2.2.2.2.2.2.2.2.2.1, uL.2.2.2.2.2.2.2.2.2.2.1, uL.2.2.2.2.2.2.2.2.2.2.2.1, uL.2.2.2.2.2.2.2.2.2.2.2.2.1, uL.2.2.2.2.2.2.2.2.2.2.2.2.2.1, uL.2.2.2.2.2.2.2.2.2.2.2.2.2.2.1, uL.2.2.2.2.2.2.2.2.2.2.2.2.2.2.2.1, uL.2.2.2.2.2.2.2.2.2.2.2.2.2.2.2.2.1, uL.2.2.2.2.2.2.2.2.2.2.2.2.2.2.2.2.2)
    else
      bd (p_X5_graded ((0 : Int32), uL.2.1, uL.2.2.1, uL.2.2.2.1, uL.2.2.2.2.1, uL.2.2.2.2.2.1, uL.2.2.2.2.2.2.1, uL.2.2.2.2.2.2.2.1, uL.2.2.2.2.2.2.2.2.1, uL.2.2.2.2.2.2.2.2.2.1, uL.2.2.2.2.2.2.2.2.2.2.1, uL.2.2.2.2.2.2.2.2.2.2.2.1, uL.2.2.2.2.2.2.2.2.2.2.2.2.1, uL.2.2.2.2.2.2.2.2.2.2.2.2.2.1, uL.2.2.2.2.2.2.2.2.2.2.2.2.2.2.1, uL.2.2.2.2.2.2.2.2.2.2.2.2.2.2.2.1, uL.2.2.2.2.2.2.2.2.2.2.2.2.2.2.2.2.1, uL.2.2.2.2.2.2.2.2.2.2.2.2.2.2.2.2.2) a1 a2) (fun v3 =>
      some (v3, ((0 : Int32), uL.2.1, uL.2.2.1, uL.2.2.2.1, uL.2.2.2.2.1, uL.2.2.2.2.2.1, uL.2.2.2.2.2.2.1, uL.2.2.2.2.2.2.2.1, uL.2.2.2.2.2.2.2.2.1, uL.2.2.2.2.2.2.2.2.2.1, uL.2.2.2.2.2.2.2.2.2.2.1, uL.2.2.2.2.2.2.2.2.2.2.2.1, uL.2.2.2.2.2.2.2.2.2.2.2.2.1, uL.2.2.2.2.2.2.2.2.2.2.2.2.2.1, uL.2.2.2.2.2.2.2.2.2.2.2.2.2.2.1, uL.2.2.2.2.2.2.2.2.2.2.2.2.2.2.2.1, uL.2.2.2.2.2.2.2.2.2.2.2.2.2.2.2.2.1, uL.2.2.2.2.2.2.2.2.2.2.2.2.2.2.2.2.2)))))
set_option maxHeartbeats 4000000 in
set_option maxRecDepth 100000 in
theorem c_X5_grade (l : Launch) (dC : Nat → ClassId) (dI : Nat → Nat → Nat) (cI cZ : ClassId) (l0 l4 l5 l6 l8 l10 l11 l12 l13 l14 l15 l16 : Nat) (sz : Nat) (uL : tX5) (a1 : Int32) (a2 : Int32) {z : (Int32 × tX5)} (hok : p_X5_grade uL a1 a2 = some z) : Met l yX5_grade (Cond.code yX5_grade cX5_grade 3 (some .int) :: lw_all) { frames := 2, cells := 0, slots := 0, locals := 45 } (prW (dC, dI) vwCl (TYS cI cZ) ((wX5 cI cZ l0 l4 l5 l6 l8 l10 l11 l12 l13 l14 l15 l16 uL)) sz [.ref l0, .int a1, .int a2]) (va_Qi (fun (r : Int32) (_ : Unit) => r = z.1) (fun _ t => va_P (dC, dI) vwCl ((wX5 cI cZ l0 l4 l5 l6 l8 l10 l11 l12 l13 l14 l15 l16 z.2)) t.heap) (va_A ((wX5 cI cZ l0 l4 l5 l6 l8 l10 l11 l12 l13 l14 l15 l16 uL)) sz)) 0 0 (va_A ((wX5 cI cZ l0 l4 l5 l6 l8 l10 l11 l12 l13 l14 l15 l16 uL)) sz) := by
  refine oM (by decide) (Nat.le_of_ble_eq_true rfl) ?_
  intro p e s m args below meth c S hr hlk hnm hB ls hl
  have hx := S.1
  have hb := S.2.1
  have hml := S.2.2.1
  have hown : s.vm.findClass RX5 = some m.cls := S.2.2.2.1
  have hts := S.2.2.2.2
  have S : CallFix p m c cX5_grade 3 s args lw_all RX5 := S
  have hl : lv_has ls 3 [(0, .ref l0), (1, .int a1), (2, .int a2)] := hl
  obtain ⟨hsz, hP, hK, hD0⟩ := hB
  subst hsz
  have hD := hD0.self (sz := s.heap.size)
  generalize hAe : va_A ((wX5 cI cZ l0 l4 l5 l6 l8 l10 l11 l12 l13 l14 l15 l16 uL)) s.heap.size = A at hD ⊢
  have hA : ∀ q : Nat, s.heap.size ≤ q → A q := fun q h => by rw [← hAe]; exact Or.inr h
  have hS : va_S A s.heap s.heap [] := va_S.rf
  have hP : va_P (dC, dI) vwCl ((wX5 cI cZ l0 l4 l5 l6 l8 l10 l11 l12 l13 l14 l15 l16 uL)) s.heap := hP
  have J30 : ∀ (uL : tX5) (H : Heap) (locs : List Loc) (hP : va_P (dC, dI) vwCl ((wX5 cI cZ l0 l4 l5 l6 l8 l10 l11 l12 l13 l14 l15 l16 uL)) H) (hD : va_D A ((wX5 cI cZ l0 l4 l5 l6 l8 l10 l11 l12 l13 l14 l15 l16 uL))) (hS : va_S A s.heap H locs) (ls : Array Slot) (hl : lv_has ls 3 [(0, .ref l0)]) (hok : p_X5_grade_J30 uL = some z), W p l e { frames := 2, cells := 0, slots := 0, locals := 45 } s m args below meth c H locs 0 0 (MQ below (va_Qi (fun (r : Int32) (_ : Unit) => r = z.1) (fun _ t => va_P (dC, dI) vwCl ((wX5 cI cZ l0 l4 l5 l6 l8 l10 l11 l12 l13 l14 l15 l16 z.2)) t.heap) A) args s 0 0 A) (F0 m 30 ls []) := by
    intro uL H locs hP hD hS ls hl hok
    unfold p_X5_grade_J30 at hok
    refine lv_aload_n hx hb dX5_grade_30 rfl (lv_at hl 0 rfl) ?_
    refine lv_iconst (v := (1 : Int32)) hx hb dX5_grade_31 (by decide) ?_
    obtain ⟨v4, hc4, hok⟩ := bd_some hok
    refine cWVi (ci := 5) (q0 := 0) [.int (1 : Int32)] S hK hP hD hS hA (c_X5_fail l dC dI cI cZ l0 l4 l5 l6 l8 l10 l11 l12 l13 l14 l15 l16 _ uL (1 : Int32) hc4) (lw_V qm_X5_112 qi_X5_fail qs_X5_fail qn_X5 qc_X5_fail) hd_X5_fail ⟨rfl, rfl⟩ ⟨Nat.le_of_ble_eq_true rfl, Nat.le_of_ble_eq_true rfl⟩ ⟨Nat.le_of_ble_eq_true rfl, Nat.le_of_ble_eq_true rfl⟩ rfl rfl rfl hl.1 (Nat.le_of_ble_eq_true rfl) rfl dX5_grade_32 (D_L hD) (fun H locs hP hD hS => ?_)
    have hok := Option.some.inj hok
    subst hok
    exact eWi S hr hlk rfl hP hS (Nat.le_of_ble_eq_true rfl) (Nat.le_of_ble_eq_true rfl) dX5_grade_35
  unfold p_X5_grade at hok
  refine lv_aload_n hx hb dX5_grade_0 rfl (lv_at hl 0 rfl) ?_
  refine lv_iconst (v := (0 : Int32)) hx hb dX5_grade_1 (by decide) ?_
  refine va_put (D := (dC, dI)) (ci := 5) (v := .int (0 : Int32)) (ty := .int) (C := RX5) (T := TX5) (N := 18) hx hb hts inX5 tyX5 tyX5_ok nmX5 hown hK hP hD hS 0 rfl rfl 0 (by decide) (hts _ qf_X5_50) (fun _ h9 => h9) rfl (tyX5_ok 0 (by decide)) rfl rfl (Nat.le_of_ble_eq_true rfl) dX5_grade_2 (fun H locs hP _ hS => ?_)
  have hP : va_P (dC, dI) vwCl ((wX5 cI cZ l0 l4 l5 l6 l8 l10 l11 l12 l13 l14 l15 l16 ((0 : Int32), uL.2.1, uL.2.2.1, uL.2.2.2.1, uL.2.2.2.2.1, uL.2.2.2.2.2.1, uL.2.2.2.2.2.2.1, uL.2.2.2.2.2.2.2.1, uL.2.2.2.2.2.2.2.2.1, uL.2.2.2.2.2.2.2.2.2.1, uL.2.2.2.2.2.2.2.2.2.2.1, uL.2.2.2.2.2.2.2.2.2.2.2.1, uL.2.2.2.2.2.2.2.2.2.2.2.2.1, uL.2.2.2.2.2.2.2.2.2.2.2.2.2.1, uL.2.2.2.2.2.2.2.2.2.2.2.2.2.2.1, uL.2.2.2.2.2.2.2.2.2.2.2.2.2.2.2.1, uL.2.2.2.2.2.2.2.2.2.2.2.2.2.2.2.2.1, uL.2.2.2.2.2.2.2.2.2.2.2.2.2.2.2.2.2))) H := hP
  have hD : va_D A ((wX5 cI cZ l0 l4 l5 l6 l8 l10 l11 l12 l13 l14 l15 l16 ((0 : Int32), uL.2.1, uL.2.2.1, uL.2.2.2.1, uL.2.2.2.2.1, uL.2.2.2.2.2.1, uL.2.2.2.2.2.2.1, uL.2.2.2.2.2.2.2.1, uL.2.2.2.2.2.2.2.2.1, uL.2.2.2.2.2.2.2.2.2.1, uL.2.2.2.2.2.2.2.2.2.2.1, uL.2.2.2.2.2.2.2.2.2.2.2.1, uL.2.2.2.2.2.2.2.2.2.2.2.2.1, uL.2.2.2.2.2.2.2.2.2.2.2.2.2.1, uL.2.2.2.2.2.2.2.2.2.2.2.2.2.2.1, uL.2.2.2.2.2.2.2.2.2.2.2.2.2.2.2.1, uL.2.2.2.2.2.2.2.2.2.2.2.2.2.2.2.2.1, uL.2.2.2.2.2.2.2.2.2.2.2.2.2.2.2.2.2))) := D_L hD
  refine lv_aload_n hx hb dX5_grade_5 rfl (lv_at hl 0 rfl) ?_
  refine lv_iload_n hx hb dX5_grade_6 rfl (lv_at hl 1 rfl) ?_
  obtain ⟨v1, hc1, hok⟩ := bd_some hok
  refine cRVi (ci := 5) (q0 := 0) [.int a1] S hK hP (c_X5_isMirror l dC dI cI cZ l0 l4 l5 l6 l8 l10 l11 l12 l13 l14 l15 l16 ((0 : Int32), uL.2.1, uL.2.2.1, uL.2.2.2.1, uL.2.2.2.2.1, uL.2.2.2.2.2.1, uL.2.2.2.2.2.2.1, uL.2.2.2.2.2.2.2.1, uL.2.2.2.2.2.2.2.2.1, uL.2.2.2.2.2.2.2.2.2.1, uL.2.2.2.2.2.2.2.2.2.2.1, uL.2.2.2.2.2.2.2.2.2.2.2.1, uL.2.2.2.2.2.2.2.2.2.2.2.2.1, uL.2.2.2.2.2.2.2.2.2.2.2.2.2.1, uL.2.2.2.2.2.2.2.2.2.2.2.2.2.2.1, uL.2.2.2.2.2.2.2.2.2.2.2.2.2.2.2.1, uL.2.2.2.2.2.2.2.2.2.2.2.2.2.2.2.2.1, uL.2.2.2.2.2.2.2.2.2.2.2.2.2.2.2.2.2) a1 hc1) (lw_V qm_X5_164 qi_X5_isMirror qs_X5_isMirror qn_X5 qc_X5_isMirror) hd_X5_isMirror ⟨rfl, rfl⟩ ⟨Nat.le_of_ble_eq_true rfl, Nat.le_of_ble_eq_true rfl⟩ ⟨Nat.le_of_ble_eq_true rfl, Nat.le_of_ble_eq_true rfl⟩ rfl rfl rfl hl.1 (Nat.le_of_ble_eq_true rfl) rfl dX5_grade_7 ?_
  refine lv_if_eq (tgt := 30) hx hb dX5_grade_10 (by decide) (fun hc => ?_) (fun hc => ?_)
  · have hok := ip hok hc
    exact J30 ((0 : Int32), uL.2.1, uL.2.2.1, uL.2.2.2.1, uL.2.2.2.2.1, uL.2.2.2.2.2.1, uL.2.2.2.2.2.2.1, uL.2.2.2.2.2.2.2.1, uL.2.2.2.2.2.2.2.2.1, uL.2.2.2.2.2.2.2.2.2.1, uL.2.2.2.2.2.2.2.2.2.2.1, uL.2.2.2.2.2.2.2.2.2.2.2.1, uL.2.2.2.2.2.2.2.2.2.2.2.2.1, uL.2.2.2.2.2.2.2.2.2.2.2.2.2.1, uL.2.2.2.2.2.2.2.2.2.2.2.2.2.2.1, uL.2.2.2.2.2.2.2.2.2.2.2.2.2.2.2.1, uL.2.2.2.2.2.2.2.2.2.2.2.2.2.2.2.2.1, uL.2.2.2.2.2.2.2.2.2.2.2.2.2.2.2.2.2) _ _ hP hD hS _ (lv_sub hl [0] rfl) hok
  · have hok := iq hok hc
    refine lv_aload_n hx hb dX5_grade_13 rfl (lv_at hl 0 rfl) ?_
    refine lv_iload_n hx hb dX5_grade_14 rfl (lv_at hl 2 rfl) ?_
    obtain ⟨v2, hc2, hok⟩ := bd_some hok
    refine cRVi (ci := 5) (q0 := 0) [.int a2] S hK hP (c_X5_isInstalment l dC dI cI cZ l0 l4 l5 l6 l8 l10 l11 l12 l13 l14 l15 l16 ((0 : Int32), uL.2.1, uL.2.2.1, uL.2.2.2.1, uL.2.2.2.2.1, uL.2.2.2.2.2.1, uL.2.2.2.2.2.2.1, uL.2.2.2.2.2.2.2.1, uL.2.2.2.2.2.2.2.2.1, uL.2.2.2.2.2.2.2.2.2.1, uL.2.2.2.2.2.2.2.2.2.2.1, uL.2.2.2.2.2.2.2.2.2.2.2.1, uL.2.2.2.2.2.2.2.2.2.2.2.2.1, uL.2.2.2.2.2.2.2.2.2.2.2.2.2.1, uL.2.2.2.2.2.2.2.2.2.2.2.2.2.2.1, uL.2.2.2.2.2.2.2.2.2.2.2.2.2.2.2.1, uL.2.2.2.2.2.2.2.2.2.2.2.2.2.2.2.2.1, uL.2.2.2.2.2.2.2.2.2.2.2.2.2.2.2.2.2) a2 hc2) (lw_V qm_X5_140 qi_X5_isInstalment qs_X5_isInstalment qn_X5 qc_X5_isInstalment) hd_X5_isInstalment ⟨rfl, rfl⟩ ⟨Nat.le_of_ble_eq_true rfl, Nat.le_of_ble_eq_true rfl⟩ ⟨Nat.le_of_ble_eq_true rfl, Nat.le_of_ble_eq_true rfl⟩ rfl rfl rfl hl.1 (Nat.le_of_ble_eq_true rfl) rfl dX5_grade_15 ?_
    refine lv_if_eq (tgt := 30) hx hb dX5_grade_18 (by decide) (fun hc => ?_) (fun hc => ?_)
    · have hok := ip hok hc
      exact J30 ((0 : Int32), uL.2.1, uL.2.2.1, uL.2.2.2.1, uL.2.2.2.2.1, uL.2.2.2.2.2.1, uL.2.2.2.2.2.2.1, uL.2.2.2.2.2.2.2.1, uL.2.2.2.2.2.2.2.2.1, uL.2.2.2.2.2.2.2.2.2.1, uL.2.2.2.2.2.2.2.2.2.2.1, uL.2.2.2.2.2.2.2.2.2.2.2.1, uL.2.2.2.2.2.2.2.2.2.2.2.2.1, uL.2.2.2.2.2.2.2.2.2.2.2.2.2.1, uL.2.2.2.2.2.2.2.2.2.2.2.2.2.2.1, uL.2.2.2.2.2.2.2.2.2.2.2.2.2.2.2.1, uL.2.2.2.2.2.2.2.2.2.2.2.2.2.2.2.2.1, uL.2.2.2.2.2.2.2.2.2.2.2.2.2.2.2.2.2) _ _ hP hD hS _ (lv_sub hl [0] rfl) hok
    · have hok := iq hok hc
      refine lv_aload_n hx hb dX5_grade_21 rfl (lv_at hl 0 rfl) ?_
      refine lv_iload_n hx hb dX5_grade_22 rfl (lv_at hl 1 rfl) ?_
      refine lv_iload_n hx hb dX5_grade_23 rfl (lv_at hl 2 rfl) ?_
      obtain ⟨v3, hc3, hok⟩ := bd_some hok
      refine cRVi (ci := 5) (q0 := 0) [.int a1, .int a2] S hK hP (c_X5_graded l dC dI cI cZ l0 l4 l5 l6 l8 l10 l11 l12 l13 l14 l15 l16 ((0 : Int32), uL.2.1, uL.2.2.1, uL.2.2.2.1, uL.2.2.2.2.1, uL.2.2.2.2.2.1, uL.2.2.2.2.2.2.1, uL.2.2.2.2.2.2.2.1, uL.2.2.2.2.2.2.2.2.1, uL.2.2.2.2.2.2.2.2.2.1, uL.2.2.2.2.2.2.2.2.2.2.1, uL.2.2.2.2.2.2.2.2.2.2.2.1, uL.2.2.2.2.2.2.2.2.2.2.2.2.1, uL.2.2.2.2.2.2.2.2.2.2.2.2.2.1, uL.2.2.2.2.2.2.2.2.2.2.2.2.2.2.1, uL.2.2.2.2.2.2.2.2.2.2.2.2.2.2.2.1, uL.2.2.2.2.2.2.2.2.2.2.2.2.2.2.2.2.1, uL.2.2.2.2.2.2.2.2.2.2.2.2.2.2.2.2.2) a1 a2 hc3) (lw_V qm_X5_167 qi_X5_graded qs_X5_graded qn_X5 qc_X5_graded) hd_X5_graded ⟨rfl, rfl⟩ ⟨Nat.le_of_ble_eq_true rfl, Nat.le_of_ble_eq_true rfl⟩ ⟨Nat.le_of_ble_eq_true rfl, Nat.le_of_ble_eq_true rfl⟩ rfl rfl rfl hl.1 (Nat.le_of_ble_eq_true rfl) rfl dX5_grade_24 ?_
      refine lv_goto (tgt := 35) hx hb dX5_grade_27 (by decide) ?_
      have hok := Option.some.inj hok
      subst hok
      exact eWi S hr hlk rfl hP hS (Nat.le_of_ble_eq_true rfl) (Nat.le_of_ble_eq_true rfl) dX5_grade_35
theorem hd_X5_sumBy : yX5_sumBy.cls = RX5 ∧ yX5_sumBy.cls ≠ "java/lang/invoke/MethodHandle" ∧ yX5_sumBy.cls ≠ "java/lang/invoke/VarHandle" ∧ (parseMethodDescriptor yX5_sumBy.desc).map (fun d => d.parameters.length) = some 1 := by decide +kernel
def p_X5_sumBy_L4 : Nat → tX5 → Int32 → Int32 → Int32 → Option Int32
  | 0, _, _, _, _ => none
  | n + 1, uL, l4_1, l4_2, l4_3 =>
    if (uL.2.2.2.2.2.2.2.2.2.2.2.2.2.2.2.1 8) ≤ l4_3 then
      some l4_2
    else
      bd (p_X5_graded uL l4_1 l4_3) (fun v1 =>
      (p_X5_sumBy_L4 n) uL l4_1 (l4_2 + v1) (l4_3 + 1))
def p_X5_sumBy (uL : tX5) (a1 : Int32) : Option Int32 :=
  p_X5_sumBy_L4 200 uL a1 (0 : Int32) (0 : Int32)
set_option maxHeartbeats 4000000 in
set_option maxRecDepth 100000 in
theorem c_X5_sumBy (l : Launch) (dC : Nat → ClassId) (dI : Nat → Nat → Nat) (cI cZ : ClassId) (l0 l4 l5 l6 l8 l10 l11 l12 l13 l14 l15 l16 : Nat) (uL : tX5) (a1 : Int32) {z : Int32} (hok : p_X5_sumBy uL a1 = some z) : Met l yX5_sumBy (Cond.code yX5_sumBy cX5_sumBy 4 (some .int) :: lw_all) { frames := 2, cells := 0, slots := 0, locals := 45 } (prR (dC, dI) vwCl (TYS cI cZ) ((wX5 cI cZ l0 l4 l5 l6 l8 l10 l11 l12 l13 l14 l15 l16 uL)) [.ref l0, .int a1]) (vp_Si (fun r => r = z)) 0 0 (fun _ => False) := by
  refine oM (by decide) (Nat.le_of_ble_eq_true rfl) ?_
  intro p e s m args below meth c S hr hlk hnm hB ls hl
  have hx := S.1
  have hb := S.2.1
  have hml := S.2.2.1
  have hown : s.vm.findClass RX5 = some m.cls := S.2.2.2.1
  have hts := S.2.2.2.2
  have S : CallFix p m c cX5_sumBy 4 s args lw_all RX5 := S
  have hl : lv_has ls 4 [(0, .ref l0), (1, .int a1)] := hl
  obtain ⟨hP, hK⟩ := hB
  have hP : va_P (dC, dI) vwCl ((wX5 cI cZ l0 l4 l5 l6 l8 l10 l11 l12 l13 l14 l15 l16 uL)) s.heap := hP
  have L4 : ∀ n4 : Nat, ∀ (l4_1 : Int32) (l4_2 : Int32) (l4_3 : Int32) (ls : Array Slot) (hl : lv_has ls 4 [(0, .ref l0), (1, .int l4_1), (2, .int l4_2), (3, .int l4_3)]) (hok : p_X5_sumBy_L4 n4 uL l4_1 l4_2 l4_3 = some z), W p l e { frames := 2, cells := 0, slots := 0, locals := 45 } s m args below meth c s.heap [] 0 0 (MQ below (vp_Si (fun r => r = z)) args s 0 0 (fun _ => False)) (F0 m 4 ls []) := by
    intro n4
    induction n4 with
    | zero =>
      intro l4_1 l4_2 l4_3 ls hl hok
      rw [p_X5_sumBy_L4] at hok
      cases hok
    | succ n4 ih4 =>
      intro l4_1 l4_2 l4_3 ls hl hok
      rw [p_X5_sumBy_L4] at hok
      refine lv_iload_n hx hb dX5_sumBy_4 rfl (lv_at hl 3 rfl) ?_
      refine lv_aload_n hx hb dX5_sumBy_5 rfl (lv_at hl 0 rfl) ?_
      refine va_get (D := (dC, dI)) (ci := 5) (v := .ref l15) (C := RX5) (T := TX5) (N := 18) hx hb hts inX5 hown hK hP 0 rfl rfl 15 (by decide) (hts _ qf_X5_44) (fun _ h9 => h9) rfl dX5_sumBy_6 ?_
      refine lv_bipush (v := (8 : Int32)) hx hb dX5_sumBy_9 (by decide) ?_
      refine va_ialdK hx hb hK hP 10 0 rfl rfl (j := 8) (by decide) (vp_inK (by decide)) dX5_sumBy_11 ?_
      refine lv_icmp_ge (tgt := 30) hx hb dX5_sumBy_12 (by decide) (fun hc => ?_) (fun hc => ?_)
      · have hok := ip hok hc
        refine lv_iload_n hx hb dX5_sumBy_30 rfl (lv_at hl 2 rfl) ?_
        exact eRi S hr hlk (Option.some.inj hok) dX5_sumBy_31
      · have hok := iq hok hc
        refine lv_iload_n hx hb dX5_sumBy_15 rfl (lv_at hl 2 rfl) ?_
        refine lv_aload_n hx hb dX5_sumBy_16 rfl (lv_at hl 0 rfl) ?_
        refine lv_iload_n hx hb dX5_sumBy_17 rfl (lv_at hl 1 rfl) ?_
        refine lv_iload_n hx hb dX5_sumBy_18 rfl (lv_at hl 3 rfl) ?_
        obtain ⟨v1, hc1, hok⟩ := bd_some hok
        refine cRVi (ci := 5) (q0 := 0) [.int l4_1, .int l4_3] S hK hP (c_X5_graded l dC dI cI cZ l0 l4 l5 l6 l8 l10 l11 l12 l13 l14 l15 l16 uL l4_1 l4_3 hc1) (lw_V qm_X5_167 qi_X5_graded qs_X5_graded qn_X5 qc_X5_graded) hd_X5_graded ⟨rfl, rfl⟩ ⟨Nat.le_of_ble_eq_true rfl, Nat.le_of_ble_eq_true rfl⟩ ⟨Nat.le_of_ble_eq_true rfl, Nat.le_of_ble_eq_true rfl⟩ rfl rfl rfl hl.1 (Nat.le_of_ble_eq_true rfl) rfl dX5_sumBy_19 ?_
        refine lv_iadd hx hb dX5_sumBy_22 ?_
        refine lv_istore_n (lv' := [(2, .int (l4_2 + v1)), (0, .ref l0), (1, .int l4_1), (3, .int l4_3)]) hx hb dX5_sumBy_23 rfl hl (by decide) rfl (fun ls hl => ?_)
        refine lv_iinc (v := (l4_3 + 1)) (lv' := [(3, .int (l4_3 + 1)), (2, .int (l4_2 + v1)), (0, .ref l0), (1, .int l4_1)]) hx hb dX5_sumBy_24 hl (k := 3) rfl rfl (by decide) rfl (fun ls hl => ?_)
        refine lv_goto (tgt := 4) hx hb dX5_sumBy_27 (by decide) ?_
        exact ih4 l4_1 (l4_2 + v1) (l4_3 + 1) _ (lv_sub hl [2, 3, 1, 0] rfl) hok
  unfold p_X5_sumBy at hok
  refine lv_iconst (v := (0 : Int32)) hx hb dX5_sumBy_0 (by decide) ?_
  refine lv_istore_n (lv' := [(2, .int (0 : Int32)), (0, .ref l0), (1, .int a1)]) hx hb dX5_sumBy_1 rfl hl (by decide) rfl (fun ls hl => ?_)
  refine lv_iconst (v := (0 : Int32)) hx hb dX5_sumBy_2 (by decide) ?_
  refine lv_istore_n (lv' := [(3, .int (0 : Int32)), (2, .int (0 : Int32)), (0, .ref l0), (1, .int a1)]) hx hb dX5_sumBy_3 rfl hl (by decide) rfl (fun ls hl => ?_)
  exact L4 200 a1 (0 : Int32) (0 : Int32) _ (lv_sub hl [2, 3, 1, 0] rfl) hok
theorem hd_X5_gradesBy : yX5_gradesBy.cls = RX5 ∧ yX5_gradesBy.cls ≠ "java/lang/invoke/MethodHandle" ∧ yX5_gradesBy.cls ≠ "java/lang/invoke/VarHandle" ∧ (parseMethodDescriptor yX5_gradesBy.desc).map (fun d => d.parameters.length) = some 1 := by decide +kernel
def p_X5_gradesBy (uL : tX5) (a1 : Int32) : Option (Int32 × tX5) :=
  bd (p_X5_isMirror ((0 : Int32), uL.2.1, uL.2.2.1, uL.2.2.2.1, uL.2.2.2.2.1, uL.2.2.2.2.2.1, uL.2.2.2.2.2.2.1, uL.2.2.2.2.2.2.2.1, uL.2.2.2.2.2.2.2.2.1, uL.2.2.2.2.2.2.2.2.2.1, uL.2.2.2.2.2.2.2.2.2.2.1, uL.2.2.2.2.2.2.2.2.2.2.2.1, uL.2.2.2.2.2.2.2.2.2.2.2.2.1, uL.2.2.2.2.2.2.2.2.2.2.2.2.2.1, uL.2.2.2.2.2.2.2.2.2.2.2.2.2.2.1, uL.2.2.2.2.2.2.2.2.2.2.2.2.2.2.2.1, uL.2.2.2.2.2.2.2.2.2.2.2.2.2.2.2.2.1, uL.2.2.2.2.2.2.2.2.2.2.2.2.2.2.2.2.2) a1) (fun v1 =>
  if v1 = 0 then
    bd (p_X5_fail ((0 : Int32), uL.2.1, uL.2.2.1, uL.2.2.2.1, uL.2.2.2.2.1, uL.2.2.2.2.2.1, uL.2.2.2.2.2.2.1, uL.2.2.2.2.2.2.2.1, uL.2.2.2.2.2.2.2.2.1, uL.2.2.2.2.2.2.2.2.2.1, uL.2.2.2.2.2.2.2.2.2.2.1, uL.2.2.2.2.2.2.2.2.2.2.2.1, uL.2.2.2.2.2.2.2.2.2.2.2.2.1, uL.2.2.2.2.2.2.2.2.2.2.2.2.2.1, uL.2.2.2.2.2.2.2.2.2.2.2.2.2.2.1, uL.2.2.2.2.2.2.2.2.2.2.2.2.2.2.2.1, uL.2.2.2.2.2.2.2.2.2.2.2.2.2.2.2.2.1, uL.2.2.2.2.2.2.2.2.2.2.2.2.2.2.2.2.2) (1 : Int32)) (fun v2 =>
    some (v2.1, v2.2))
  else
    bd (p_X5_sumBy ((0 : Int32), uL.2.1, uL.2.2.1, uL.2.2.2.1, uL.2.2.2.2.1, uL.2.2.2.2.2.1, uL.2.2.2.2.2.2.1, uL.2.2.2.2.2.2.2.1, uL.2.2.2.2.2.2.2.2.1, uL.2.2.2.2.2.2.2.2.2.1, uL.2.2.2.2.2.2.2.2.2.2.1, uL.2.2.2.2.2.2.2.2.2.2.2.1, uL.2.2.2.2.2.2.2.2.2.2.2.2.1, uL.2.2.2.2.2.2.2.2.2.2.2.2.2.1, uL.2.2.2.2.2.2.2.2.2.2.2.2.2.2.1, uL.2.2.2.2.2.2.2.2.2.2.2.2.2.2.2.1, uL.2.2.2.2.2.2.2.2.2.2.2.2.2.2.2.2.1, uL.2.2.2.2.2.2.2.2.2.2.2.2.2.2.2.2.2) a1) (fun v3 =>
    some (v3, ((0 : Int32), uL.2.1, uL.2.2.1, uL.2.2.2.1, uL.2.2.2.2.1, uL.2.2.2.2.2.1, uL.2.2.2.2.2.2.1, uL.2.2.2.2.2.2.2.1, uL.2.2.2.2.2.2.2.2.1, uL.2.2.2.2.2.2.2.2.2.1, uL.2.2.2.2.2.2.2.2.2.2.1, uL.2.2.2.2.2.2.2.2.2.2.2.1, uL.2.2.2.2.2.2.2.2.2.2.2.2.1, uL.2.2.2.2.2.2.2.2.2.2.2.2.2.1, uL.2.2.2.2.2.2.2.2.2.2.2.2.2.2.1, uL.2.2.2.2.2.2.2.2.2.2.2.2.2.2.2.1, uL.2.2.2.2.2.2.2.2.2.2.2.2.2.2.2.2.1, uL.2.2.2.2.2.2.2.2.2.2.2.2.2.2.2.2.2))))
set_option maxHeartbeats 4000000 in
set_option maxRecDepth 100000 in
theorem c_X5_gradesBy (l : Launch) (dC : Nat → ClassId) (dI : Nat → Nat → Nat) (cI cZ : ClassId) (l0 l4 l5 l6 l8 l10 l11 l12 l13 l14 l15 l16 : Nat) (sz : Nat) (uL : tX5) (a1 : Int32) {z : (Int32 × tX5)} (hok : p_X5_gradesBy uL a1 = some z) : Met l yX5_gradesBy (Cond.code yX5_gradesBy cX5_gradesBy 2 (some .int) :: lw_all) { frames := 3, cells := 0, slots := 0, locals := 68 } (prW (dC, dI) vwCl (TYS cI cZ) ((wX5 cI cZ l0 l4 l5 l6 l8 l10 l11 l12 l13 l14 l15 l16 uL)) sz [.ref l0, .int a1]) (va_Qi (fun (r : Int32) (_ : Unit) => r = z.1) (fun _ t => va_P (dC, dI) vwCl ((wX5 cI cZ l0 l4 l5 l6 l8 l10 l11 l12 l13 l14 l15 l16 z.2)) t.heap) (va_A ((wX5 cI cZ l0 l4 l5 l6 l8 l10 l11 l12 l13 l14 l15 l16 uL)) sz)) 0 0 (va_A ((wX5 cI cZ l0 l4 l5 l6 l8 l10 l11 l12 l13 l14 l15 l16 uL)) sz) := by
  refine oM (by decide) (Nat.le_of_ble_eq_true rfl) ?_
  intro p e s m args below meth c S hr hlk hnm hB ls hl
  have hx := S.1
  have hb := S.2.1
  have hml := S.2.2.1
  have hown : s.vm.findClass RX5 = some m.cls := S.2.2.2.1
  have hts := S.2.2.2.2
  have S : CallFix p m c cX5_gradesBy 2 s args lw_all RX5 := S
  have hl : lv_has ls 2 [(0, .ref l0), (1, .int a1)] := hl
  obtain ⟨hsz, hP, hK, hD0⟩ := hB
  subst hsz
  have hD := hD0.self (sz := s.heap.size)
  generalize hAe : va_A ((wX5 cI cZ l0 l4 l5 l6 l8 l10 l11 l12 l13 l14 l15 l16 uL)) s.heap.size = A at hD ⊢
  have hA : ∀ q : Nat, s.heap.size ≤ q → A q := fun q h => by rw [← hAe]; exact Or.inr h
  have hS : va_S A s.heap s.heap [] := va_S.rf
  have hP : va_P (dC, dI) vwCl ((wX5 cI cZ l0 l4 l5 l6 l8 l10 l11 l12 l13 l14 l15 l16 uL)) s.heap := hP
  unfold p_X5_gradesBy at hok
  refine lv_aload_n hx hb dX5_gradesBy_0 rfl (lv_at hl 0 rfl) ?_
  refine lv_iconst (v := (0 : Int32)) hx hb dX5_gradesBy_1 (by decide) ?_
  refine va_put (D := (dC, dI)) (ci := 5) (v := .int (0 : Int32)) (ty := .int) (C := RX5) (T := TX5) (N := 18) hx hb hts inX5 tyX5 tyX5_ok nmX5 hown hK hP hD hS 0 rfl rfl 0 (by decide) (hts _ qf_X5_50) (fun _ h9 => h9) rfl (tyX5_ok 0 (by decide)) rfl rfl (Nat.le_of_ble_eq_true rfl) dX5_gradesBy_2 (fun H locs hP _ hS => ?_)
  have hP : va_P (dC, dI) vwCl ((wX5 cI cZ l0 l4 l5 l6 l8 l10 l11 l12 l13 l14 l15 l16 ((0 : Int32), uL.2.1, uL.2.2.1, uL.2.2.2.1, uL.2.2.2.2.1, uL.2.2.2.2.2.1, uL.2.2.2.2.2.2.1, uL.2.2.2.2.2.2.2.1, uL.2.2.2.2.2.2.2.2.1, uL.2.2.2.2.2.2.2.2.2.1, uL.2.2.2.2.2.2.2.2.2.2.1, uL.2.2.2.2.2.2.2.2.2.2.2.1, uL.2.2.2.2.2.2.2.2.2.2.2.2.1, uL.2.2.2.2.2.2.2.2.2.2.2.2.2.1, uL.2.2.2.2.2.2.2.2.2.2.2.2.2.2.1, uL.2.2.2.2.2.2.2.2.2.2.2.2.2.2.2.1, uL.2.2.2.2.2.2.2.2.2.2.2.2.2.2.2.2.1, uL.2.2.2.2.2.2.2.2.2.2.2.2.2.2.2.2.2))) H := hP
  have hD : va_D A ((wX5 cI cZ l0 l4 l5 l6 l8 l10 l11 l12 l13 l14 l15 l16 ((0 : Int32), uL.2.1, uL.2.2.1, uL.2.2.2.1, uL.2.2.2.2.1, uL.2.2.2.2.2.1, uL.2.2.2.2.2.2.1, uL.2.2.2.2.2.2.2.1, uL.2.2.2.2.2.2.2.2.1, uL.2.2.2.2.2.2.2.2.2.1, uL.2.2.2.2.2.2.2.2.2.2.1, uL.2.2.2.2.2.2.2.2.2.2.2.1, uL.2.2.2.2.2.2.2.2.2.2.2.2.1, uL.2.2.2.2.2.2.2.2.2.2.2.2.2.1, uL.2.2.2.2.2.2.2.2.2.2.2.2.2.2.1, uL.2.2.2.2.2.2.2.2.2.2.2.2.2.2.2.1, uL.2.2.2.2.2.2.2.2.2.2.2.2.2.2.2.2.1, uL.2.2.2.2.2.2.2.2.2.2.2.2.2.2.2.2.2))) := D_L hD
  refine lv_aload_n hx hb dX5_gradesBy_5 rfl (lv_at hl 0 rfl) ?_
  refine lv_iload_n hx hb dX5_gradesBy_6 rfl (lv_at hl 1 rfl) ?_
  obtain ⟨v1, hc1, hok⟩ := bd_some hok
  refine cRVi (ci := 5) (q0 := 0) [.int a1] S hK hP (c_X5_isMirror l dC dI cI cZ l0 l4 l5 l6 l8 l10 l11 l12 l13 l14 l15 l16 ((0 : Int32), uL.2.1, uL.2.2.1, uL.2.2.2.1, uL.2.2.2.2.1, uL.2.2.2.2.2.1, uL.2.2.2.2.2.2.1, uL.2.2.2.2.2.2.2.1, uL.2.2.2.2.2.2.2.2.1, uL.2.2.2.2.2.2.2.2.2.1, uL.2.2.2.2.2.2.2.2.2.2.1, uL.2.2.2.2.2.2.2.2.2.2.2.1, uL.2.2.2.2.2.2.2.2.2.2.2.2.1, uL.2.2.2.2.2.2.2.2.2.2.2.2.2.1, uL.2.2.2.2.2.2.2.2.2.2.2.2.2.2.1, uL.2.2.2.2.2.2.2.2.2.2.2.2.2.2.2.1, uL.2.2.2.2.2.2.2.2.2.2.2.2.2.2.2.2.1, uL.2.2.2.2.2.2.2.2.2.2.2.2.2.2.2.2.2) a1 hc1) (lw_V qm_X5_164 qi_X5_isMirror qs_X5_isMirror qn_X5 qc_X5_isMirror) hd_X5_isMirror ⟨rfl, rfl⟩ ⟨Nat.le_of_ble_eq_true rfl, Nat.le_of_ble_eq_true rfl⟩ ⟨Nat.le_of_ble_eq_true rfl, Nat.le_of_ble_eq_true rfl⟩ rfl rfl rfl hl.1 (Nat.le_of_ble_eq_true rfl) rfl dX5_gradesBy_7 ?_
  refine lv_if_eq (tgt := 21) hx hb dX5_gradesBy_10 (by decide) (fun hc => ?_) (fun hc => ?_)
  · have hok := ip hok hc
    refine lv_aload_n hx hb dX5_gradesBy_21 rfl (lv_at hl 0 rfl) ?_
    refine lv_iconst (v := (1 : Int32)) hx hb dX5_gradesBy_22 (by decide) ?_
    obtain ⟨v2, hc2, hok⟩ := bd_some hok
    refine cWVi (ci := 5) (q0 := 0) [.int (1 : Int32)] S hK hP hD hS hA (c_X5_fail l dC dI cI cZ l0 l4 l5 l6 l8 l10 l11 l12 l13 l14 l15 l16 _ ((0 : Int32), uL.2.1, uL.2.2.1, uL.2.2.2.1, uL.2.2.2.2.1, uL.2.2.2.2.2.1, uL.2.2.2.2.2.2.1, uL.2.2.2.2.2.2.2.1, uL.2.2.2.2.2.2.2.2.1, uL.2.2.2.2.2.2.2.2.2.1, uL.2.2.2.2.2.2.2.2.2.2.1, uL.2.2.2.2.2.2.2.2.2.2.2.1, uL.2.2.2.2.2.2.2.2.2.2.2.2.1, uL.2.2.2.2.2.2.2.2.2.2.2.2.2.1, uL.2.2.2.2.2.2.2.2.2.2.2.2.2.2.1, uL.2.2.2.2.2.2.2.2.2.2.2.2.2.2.2.1, uL.2.2.2.2.2.2.2.2.2.2.2.2.2.2.2.2.1, uL.2.2.2.2.2.2.2.2.2.2.2.2.2.2.2.2.2) (1 : Int32) hc2) (lw_V qm_X5_112 qi_X5_fail qs_X5_fail qn_X5 qc_X5_fail) hd_X5_fail ⟨rfl, rfl⟩ ⟨Nat.le_of_ble_eq_true rfl, Nat.le_of_ble_eq_true rfl⟩ ⟨Nat.le_of_ble_eq_true rfl, Nat.le_of_ble_eq_true rfl⟩ rfl rfl rfl hl.1 (Nat.le_of_ble_eq_true rfl) rfl dX5_gradesBy_23 (D_L hD) (fun H locs hP hD hS => ?_)
    have hok := Option.some.inj hok
    subst hok
    exact eWi S hr hlk rfl hP hS (Nat.le_of_ble_eq_true rfl) (Nat.le_of_ble_eq_true rfl) dX5_gradesBy_26
  · have hok := iq hok hc
    refine lv_aload_n hx hb dX5_gradesBy_13 rfl (lv_at hl 0 rfl) ?_
    refine lv_iload_n hx hb dX5_gradesBy_14 rfl (lv_at hl 1 rfl) ?_
    obtain ⟨v3, hc3, hok⟩ := bd_some hok
    refine cRVi (ci := 5) (q0 := 0) [.int a1] S hK hP (c_X5_sumBy l dC dI cI cZ l0 l4 l5 l6 l8 l10 l11 l12 l13 l14 l15 l16 ((0 : Int32), uL.2.1, uL.2.2.1, uL.2.2.2.1, uL.2.2.2.2.1, uL.2.2.2.2.2.1, uL.2.2.2.2.2.2.1, uL.2.2.2.2.2.2.2.1, uL.2.2.2.2.2.2.2.2.1, uL.2.2.2.2.2.2.2.2.2.1, uL.2.2.2.2.2.2.2.2.2.2.1, uL.2.2.2.2.2.2.2.2.2.2.2.1, uL.2.2.2.2.2.2.2.2.2.2.2.2.1, uL.2.2.2.2.2.2.2.2.2.2.2.2.2.1, uL.2.2.2.2.2.2.2.2.2.2.2.2.2.2.1, uL.2.2.2.2.2.2.2.2.2.2.2.2.2.2.2.1, uL.2.2.2.2.2.2.2.2.2.2.2.2.2.2.2.2.1, uL.2.2.2.2.2.2.2.2.2.2.2.2.2.2.2.2.2) a1 hc3) (lw_V qm_X5_170 qi_X5_sumBy qs_X5_sumBy qn_X5 qc_X5_sumBy) hd_X5_sumBy ⟨rfl, rfl⟩ ⟨Nat.le_of_ble_eq_true rfl, Nat.le_of_ble_eq_true rfl⟩ ⟨Nat.le_of_ble_eq_true rfl, Nat.le_of_ble_eq_true rfl⟩ rfl rfl rfl hl.1 (Nat.le_of_ble_eq_true rfl) rfl dX5_gradesBy_15 ?_
    refine lv_goto (tgt := 26) hx hb dX5_gradesBy_18 (by decide) ?_
    have hok := Option.some.inj hok
    subst hok
    exact eWi S hr hlk rfl hP hS (Nat.le_of_ble_eq_true rfl) (Nat.le_of_ble_eq_true rfl) dX5_gradesBy_26
theorem hd_X5_liked : yX5_liked.cls = RX5 ∧ yX5_liked.cls ≠ "java/lang/invoke/MethodHandle" ∧ yX5_liked.cls ≠ "java/lang/invoke/VarHandle" ∧ (parseMethodDescriptor yX5_liked.desc).map (fun d => d.parameters.length) = some 1 := by decide +kernel
def p_X5_liked_J35 (rec4 : tX5 → Int32 → Int32 → Int32 → Option Int32) (uL : tX5) (l35_1 : Int32) (l35_3 : Int32) : Option Int32 :=
  rec4 uL l35_1 l35_3 (l35_3 + 1)
def p_X5_liked_L4 : Nat → tX5 → Int32 → Int32 → Int32 → Option Int32
  | 0, _, _, _, _ => none
  | n + 1, uL, l4_1, l4_2, l4_3 =>
    if (uL.2.2.2.2.2.2.2.2.2.2.2.2.2.2.2.1 8) ≤ l4_3 then
      some l4_2
    else
      if l4_2 = (-1 : Int32) then
        p_X5_liked_J35 (p_X5_liked_L4 n) uL l4_1 l4_3
      else
        bd (p_X5_graded uL l4_1 l4_3) (fun v1 =>
        bd (p_X5_graded uL l4_1 l4_2) (fun v2 =>
        if v1 ≤ v2 then
          (p_X5_liked_L4 n) uL l4_1 l4_2 (l4_3 + 1)
        else
          p_X5_liked_J35 (p_X5_liked_L4 n) uL l4_1 l4_3))
def p_X5_liked (uL : tX5) (a1 : Int32) : Option Int32 :=
  p_X5_liked_L4 200 uL a1 (-1 : Int32) (0 : Int32)
set_option maxHeartbeats 4000000 in
set_option maxRecDepth 100000 in
theorem c_X5_liked (l : Launch) (dC : Nat → ClassId) (dI : Nat → Nat → Nat) (cI cZ : ClassId) (l0 l4 l5 l6 l8 l10 l11 l12 l13 l14 l15 l16 : Nat) (uL : tX5) (a1 : Int32) {z : Int32} (hok : p_X5_liked uL a1 = some z) : Met l yX5_liked (Cond.code yX5_liked cX5_liked 4 (some .int) :: lw_all) { frames := 2, cells := 0, slots := 0, locals := 45 } (prR (dC, dI) vwCl (TYS cI cZ) ((wX5 cI cZ l0 l4 l5 l6 l8 l10 l11 l12 l13 l14 l15 l16 uL)) [.ref l0, .int a1]) (vp_Si (fun r => r = z)) 0 0 (fun _ => False) := by
  refine oM (by decide) (Nat.le_of_ble_eq_true rfl) ?_
  intro p e s m args below meth c S hr hlk hnm hB ls hl
  have hx := S.1
  have hb := S.2.1
  have hml := S.2.2.1
  have hown : s.vm.findClass RX5 = some m.cls := S.2.2.2.1
  have hts := S.2.2.2.2
  have S : CallFix p m c cX5_liked 4 s args lw_all RX5 := S
  have hl : lv_has ls 4 [(0, .ref l0), (1, .int a1)] := hl
  obtain ⟨hP, hK⟩ := hB
  have hP : va_P (dC, dI) vwCl ((wX5 cI cZ l0 l4 l5 l6 l8 l10 l11 l12 l13 l14 l15 l16 uL)) s.heap := hP
  have L4 : ∀ n4 : Nat, ∀ (l4_1 : Int32) (l4_2 : Int32) (l4_3 : Int32) (ls : Array Slot) (hl : lv_has ls 4 [(0, .ref l0), (1, .int l4_1), (2, .int l4_2), (3, .int l4_3)]) (hok : p_X5_liked_L4 n4 uL l4_1 l4_2 l4_3 = some z), W p l e { frames := 2, cells := 0, slots := 0, locals := 45 } s m args below meth c s.heap [] 0 0 (MQ below (vp_Si (fun r => r = z)) args s 0 0 (fun _ => False)) (F0 m 4 ls []) := by
    intro n4
    induction n4 with
    | zero =>
      intro l4_1 l4_2 l4_3 ls hl hok
      rw [p_X5_liked_L4] at hok
      cases hok
    | succ n4 ih4 =>
      have J35 : ∀ (l35_1 : Int32) (l35_3 : Int32) (ls : Array Slot) (hl : lv_has ls 4 [(0, .ref l0), (1, .int l35_1), (3, .int l35_3)]) (hok : p_X5_liked_J35 (p_X5_liked_L4 n4) uL l35_1 l35_3 = some z), W p l e { frames := 2, cells := 0, slots := 0, locals := 45 } s m args below meth c s.heap [] 0 0 (MQ below (vp_Si (fun r => r = z)) args s 0 0 (fun _ => False)) (F0 m 35 ls []) := by
        intro l35_1 l35_3 ls hl hok
        unfold p_X5_liked_J35 at hok
        refine lv_iload_n hx hb dX5_liked_35 rfl (lv_at hl 2 rfl) ?_
        refine lv_istore_n (lv' := [(2, .int l35_3), (0, .ref l0), (1, .int l35_1), (3, .int l35_3)]) hx hb dX5_liked_36 rfl hl (by decide) rfl (fun ls hl => ?_)
        refine lv_iinc (v := (l35_3 + 1)) (lv' := [(3, .int (l35_3 + 1)), (2, .int l35_3), (0, .ref l0), (1, .int l35_1)]) hx hb dX5_liked_37 hl (k := 3) rfl rfl (by decide) rfl (fun ls hl => ?_)
        refine lv_goto (tgt := 4) hx hb dX5_liked_40 (by decide) ?_
        exact ih4 l35_1 l35_3 (l35_3 + 1) _ (lv_sub hl [2, 3, 1, 0] rfl) hok
      intro l4_1 l4_2 l4_3 ls hl hok
      rw [p_X5_liked_L4] at hok
      refine lv_iload_n hx hb dX5_liked_4 rfl (lv_at hl 3 rfl) ?_
      refine lv_aload_n hx hb dX5_liked_5 rfl (lv_at hl 0 rfl) ?_
      refine va_get (D := (dC, dI)) (ci := 5) (v := .ref l15) (C := RX5) (T := TX5) (N := 18) hx hb hts inX5 hown hK hP 0 rfl rfl 15 (by decide) (hts _ qf_X5_44) (fun _ h9 => h9) rfl dX5_liked_6 ?_
      refine lv_bipush (v := (8 : Int32)) hx hb dX5_liked_9 (by decide) ?_
      refine va_ialdK hx hb hK hP 10 0 rfl rfl (j := 8) (by decide) (vp_inK (by decide)) dX5_liked_11 ?_
      refine lv_icmp_ge (tgt := 43) hx hb dX5_liked_12 (by decide) (fun hc => ?_) (fun hc => ?_)
      · have hok := ip hok hc
        refine lv_iload_n hx hb dX5_liked_43 rfl (lv_at hl 2 rfl) ?_
        exact eRi S hr hlk (Option.some.inj hok) dX5_liked_44
      · have hok := iq hok hc
        refine lv_iload_n hx hb dX5_liked_15 rfl (lv_at hl 2 rfl) ?_
        refine lv_iconst (v := (-1 : Int32)) hx hb dX5_liked_16 (by decide) ?_
        refine lv_icmp_eq (tgt := 35) hx hb dX5_liked_17 (by decide) (fun hc => ?_) (fun hc => ?_)
        · have hok := ip hok hc
          exact J35 l4_1 l4_3 _ (lv_sub hl [0, 1, 3] rfl) hok
        · have hok := iq hok hc
          refine lv_aload_n hx hb dX5_liked_20 rfl (lv_at hl 0 rfl) ?_
          refine lv_iload_n hx hb dX5_liked_21 rfl (lv_at hl 1 rfl) ?_
          refine lv_iload_n hx hb dX5_liked_22 rfl (lv_at hl 3 rfl) ?_
          obtain ⟨v1, hc1, hok⟩ := bd_some hok
          refine cRVi (ci := 5) (q0 := 0) [.int l4_1, .int l4_3] S hK hP (c_X5_graded l dC dI cI cZ l0 l4 l5 l6 l8 l10 l11 l12 l13 l14 l15 l16 uL l4_1 l4_3 hc1) (lw_V qm_X5_167 qi_X5_graded qs_X5_graded qn_X5 qc_X5_graded) hd_X5_graded ⟨rfl, rfl⟩ ⟨Nat.le_of_ble_eq_true rfl, Nat.le_of_ble_eq_true rfl⟩ ⟨Nat.le_of_ble_eq_true rfl, Nat.le_of_ble_eq_true rfl⟩ rfl rfl rfl hl.1 (Nat.le_of_ble_eq_true rfl) rfl dX5_liked_23 ?_
          refine lv_aload_n hx hb dX5_liked_26 rfl (lv_at hl 0 rfl) ?_
          refine lv_iload_n hx hb dX5_liked_27 rfl (lv_at hl 1 rfl) ?_
          refine lv_iload_n hx hb dX5_liked_28 rfl (lv_at hl 2 rfl) ?_
          obtain ⟨v2, hc2, hok⟩ := bd_some hok
          refine cRVi (ci := 5) (q0 := 0) [.int l4_1, .int l4_2] S hK hP (c_X5_graded l dC dI cI cZ l0 l4 l5 l6 l8 l10 l11 l12 l13 l14 l15 l16 uL l4_1 l4_2 hc2) (lw_V qm_X5_167 qi_X5_graded qs_X5_graded qn_X5 qc_X5_graded) hd_X5_graded ⟨rfl, rfl⟩ ⟨Nat.le_of_ble_eq_true rfl, Nat.le_of_ble_eq_true rfl⟩ ⟨Nat.le_of_ble_eq_true rfl, Nat.le_of_ble_eq_true rfl⟩ rfl rfl rfl hl.1 (Nat.le_of_ble_eq_true rfl) rfl dX5_liked_29 ?_
          refine lv_icmp_le (tgt := 37) hx hb dX5_liked_32 (by decide) (fun hc => ?_) (fun hc => ?_)
          · have hok := ip hok hc
            refine lv_iinc (v := (l4_3 + 1)) (lv' := [(3, .int (l4_3 + 1)), (0, .ref l0), (1, .int l4_1), (2, .int l4_2)]) hx hb dX5_liked_37 hl (k := 3) rfl rfl (by decide) rfl (fun ls hl => ?_)
            refine lv_goto (tgt := 4) hx hb dX5_liked_40 (by decide) ?_
            exact ih4 l4_1 l4_2 (l4_3 + 1) _ (lv_sub hl [1, 2, 3, 0] rfl) hok
          · have hok := iq hok hc
            exact J35 l4_1 l4_3 _ (lv_sub hl [0, 1, 3] rfl) hok
  unfold p_X5_liked at hok
  refine lv_iconst (v := (-1 : Int32)) hx hb dX5_liked_0 (by decide) ?_
  refine lv_istore_n (lv' := [(2, .int (-1 : Int32)), (0, .ref l0), (1, .int a1)]) hx hb dX5_liked_1 rfl hl (by decide) rfl (fun ls hl => ?_)
  refine lv_iconst (v := (0 : Int32)) hx hb dX5_liked_2 (by decide) ?_
  refine lv_istore_n (lv' := [(3, .int (0 : Int32)), (2, .int (-1 : Int32)), (0, .ref l0), (1, .int a1)]) hx hb dX5_liked_3 rfl hl (by decide) rfl (fun ls hl => ?_)
  exact L4 200 a1 (-1 : Int32) (0 : Int32) _ (lv_sub hl [2, 3, 1, 0] rfl) hok
theorem hd_X5_favouriteOf : yX5_favouriteOf.cls = RX5 ∧ yX5_favouriteOf.cls ≠ "java/lang/invoke/MethodHandle" ∧ yX5_favouriteOf.cls ≠ "java/lang/invoke/VarHandle" ∧ (parseMethodDescriptor yX5_favouriteOf.desc).map (fun d => d.parameters.length) = some 1 := by decide +kernel
def p_X5_favouriteOf (uL : tX5) (a1 : Int32) : Option (Int32 × tX5) :=
  bd (p_X5_isMirror ((0 : Int32), uL.2.1, uL.2.2.1, uL.2.2.2.1, uL.2.2.2.2.1, uL.2.2.2.2.2.1, uL.2.2.2.2.2.2.1, uL.2.2.2.2.2.2.2.1, uL.2.2.2.2.2.2.2.2.1, uL.2.2.2.2.2.2.2.2.2.1, uL.2.2.2.2.2.2.2.2.2.2.1, uL.2.2.2.2.2.2.2.2.2.2.2.1, uL.2.2.2.2.2.2.2.2.2.2.2.2.1, uL.2.2.2.2.2.2.2.2.2.2.2.2.2.1, uL.2.2.2.2.2.2.2.2.2.2.2.2.2.2.1, uL.2.2.2.2.2.2.2.2.2.2.2.2.2.2.2.1, uL.2.2.2.2.2.2.2.2.2.2.2.2.2.2.2.2.1, uL.2.2.2.2.2.2.2.2.2.2.2.2.2.2.2.2.2) a1) (fun v1 =>
  if v1 = 0 then
    bd (p_X5_fail ((0 : Int32), uL.2.1, uL.2.2.1, uL.2.2.2.1, uL.2.2.2.2.1, uL.2.2.2.2.2.1, uL.2.2.2.2.2.2.1, uL.2.2.2.2.2.2.2.1, uL.2.2.2.2.2.2.2.2.1, uL.2.2.2.2.2.2.2.2.2.1, uL.2.2.2.2.2.2.2.2.2.2.1, uL.2.2.2.2.2.2.2.2.2.2.2.1, uL.2.2.2.2.2.2.2.2.2.2.2.2.1, uL.2.2.2.2.2.2.2.2.2.2.2.2.2.1, uL.2.2.2.2.2.2.2.2.2.2.2.2.2.2.1, uL.2.2.2.2.2.2.2.2.2.2.2.2.2.2.2.1, uL.2.2.2.2.2.2.2.2.2.2.2.2.2.2.2.2.1, uL.2.2.2.2.2.2.2.2.2.2.2.2.2.2.2.2.2) (1 : Int32)) (fun v2 =>
    some (v2.1, v2.2))
  else
    bd (p_X5_liked ((0 : Int32), uL.2.1, uL.2.2.1, uL.2.2.2.1, uL.2.2.2.2.1, uL.2.2.2.2.2.1, uL.2.2.2.2.2.2.1, uL.2.2.2.2.2.2.2.1, uL.2.2.2.2.2.2.2.2.1, uL.2.2.2.2.2.2.2.2.2.1, uL.2.2.2.2.2.2.2.2.2.2.1, uL.2.2.2.2.2.2.2.2.2.2.2.1, uL.2.2.2.2.2.2.2.2.2.2.2.2.1, uL.2.2.2.2.2.2.2.2.2.2.2.2.2.1, uL.2.2.2.2.2.2.2.2.2.2.2.2.2.2.1, uL.2.2.2.2.2.2.2.2.2.2.2.2.2.2.2.1, uL.2.2.2.2.2.2.2.2.2.2.2.2.2.2.2.2.1, uL.2.2.2.2.2.2.2.2.2.2.2.2.2.2.2.2.2) a1) (fun v3 =>
    some (v3, ((0 : Int32), uL.2.1, uL.2.2.1, uL.2.2.2.1, uL.2.2.2.2.1, uL.2.2.2.2.2.1, uL.2.2.2.2.2.2.1, uL.2.2.2.2.2.2.2.1, uL.2.2.2.2.2.2.2.2.1, uL.2.2.2.2.2.2.2.2.2.1, uL.2.2.2.2.2.2.2.2.2.2.1, uL.2.2.2.2.2.2.2.2.2.2.2.1, uL.2.2.2.2.2.2.2.2.2.2.2.2.1, uL.2.2.2.2.2.2.2.2.2.2.2.2.2.1, uL.2.2.2.2.2.2.2.2.2.2.2.2.2.2.1, uL.2.2.2.2.2.2.2.2.2.2.2.2.2.2.2.1, uL.2.2.2.2.2.2.2.2.2.2.2.2.2.2.2.2.1, uL.2.2.2.2.2.2.2.2.2.2.2.2.2.2.2.2.2))))
set_option maxHeartbeats 4000000 in
set_option maxRecDepth 100000 in
theorem c_X5_favouriteOf (l : Launch) (dC : Nat → ClassId) (dI : Nat → Nat → Nat) (cI cZ : ClassId) (l0 l4 l5 l6 l8 l10 l11 l12 l13 l14 l15 l16 : Nat) (sz : Nat) (uL : tX5) (a1 : Int32) {z : (Int32 × tX5)} (hok : p_X5_favouriteOf uL a1 = some z) : Met l yX5_favouriteOf (Cond.code yX5_favouriteOf cX5_favouriteOf 2 (some .int) :: lw_all) { frames := 3, cells := 0, slots := 0, locals := 68 } (prW (dC, dI) vwCl (TYS cI cZ) ((wX5 cI cZ l0 l4 l5 l6 l8 l10 l11 l12 l13 l14 l15 l16 uL)) sz [.ref l0, .int a1]) (va_Qi (fun (r : Int32) (_ : Unit) => r = z.1) (fun _ t => va_P (dC, dI) vwCl ((wX5 cI cZ l0 l4 l5 l6 l8 l10 l11 l12 l13 l14 l15 l16 z.2)) t.heap) (va_A ((wX5 cI cZ l0 l4 l5 l6 l8 l10 l11 l12 l13 l14 l15 l16 uL)) sz)) 0 0 (va_A ((wX5 cI cZ l0 l4 l5 l6 l8 l10 l11 l12 l13 l14 l15 l16 uL)) sz) := by
  refine oM (by decide) (Nat.le_of_ble_eq_true rfl) ?_
  intro p e s m args below meth c S hr hlk hnm hB ls hl
  have hx := S.1
  have hb := S.2.1
  have hml := S.2.2.1
  have hown : s.vm.findClass RX5 = some m.cls := S.2.2.2.1
  have hts := S.2.2.2.2
  have S : CallFix p m c cX5_favouriteOf 2 s args lw_all RX5 := S
  have hl : lv_has ls 2 [(0, .ref l0), (1, .int a1)] := hl
  obtain ⟨hsz, hP, hK, hD0⟩ := hB
  subst hsz
  have hD := hD0.self (sz := s.heap.size)
  generalize hAe : va_A ((wX5 cI cZ l0 l4 l5 l6 l8 l10 l11 l12 l13 l14 l15 l16 uL)) s.heap.size = A at hD ⊢
  have hA : ∀ q : Nat, s.heap.size ≤ q → A q := fun q h => by rw [← hAe]; exact Or.inr h
  have hS : va_S A s.heap s.heap [] := va_S.rf
  have hP : va_P (dC, dI) vwCl ((wX5 cI cZ l0 l4 l5 l6 l8 l10 l11 l12 l13 l14 l15 l16 uL)) s.heap := hP
  unfold p_X5_favouriteOf at hok
  refine lv_aload_n hx hb dX5_favouriteOf_0 rfl (lv_at hl 0 rfl) ?_
  refine lv_iconst (v := (0 : Int32)) hx hb dX5_favouriteOf_1 (by decide) ?_
  refine va_put (D := (dC, dI)) (ci := 5) (v := .int (0 : Int32)) (ty := .int) (C := RX5) (T := TX5) (N := 18) hx hb hts inX5 tyX5 tyX5_ok nmX5 hown hK hP hD hS 0 rfl rfl 0 (by decide) (hts _ qf_X5_50) (fun _ h9 => h9) rfl (tyX5_ok 0 (by decide)) rfl rfl (Nat.le_of_ble_eq_true rfl) dX5_favouriteOf_2 (fun H locs hP _ hS => ?_)
  have hP : va_P (dC, dI) vwCl ((wX5 cI cZ l0 l4 l5 l6 l8 l10 l11 l12 l13 l14 l15 l16 ((0 : Int32), uL.2.1, uL.2.2.1, uL.2.2.2.1, uL.2.2.2.2.1, uL.2.2.2.2.2.1, uL.2.2.2.2.2.2.1, uL.2.2.2.2.2.2.2.1, uL.2.2.2.2.2.2.2.2.1, uL.2.2.2.2.2.2.2.2.2.1, uL.2.2.2.2.2.2.2.2.2.2.1, uL.2.2.2.2.2.2.2.2.2.2.2.1, uL.2.2.2.2.2.2.2.2.2.2.2.2.1, uL.2.2.2.2.2.2.2.2.2.2.2.2.2.1, uL.2.2.2.2.2.2.2.2.2.2.2.2.2.2.1, uL.2.2.2.2.2.2.2.2.2.2.2.2.2.2.2.1, uL.2.2.2.2.2.2.2.2.2.2.2.2.2.2.2.2.1, uL.2.2.2.2.2.2.2.2.2.2.2.2.2.2.2.2.2))) H := hP
  have hD : va_D A ((wX5 cI cZ l0 l4 l5 l6 l8 l10 l11 l12 l13 l14 l15 l16 ((0 : Int32), uL.2.1, uL.2.2.1, uL.2.2.2.1, uL.2.2.2.2.1, uL.2.2.2.2.2.1, uL.2.2.2.2.2.2.1, uL.2.2.2.2.2.2.2.1, uL.2.2.2.2.2.2.2.2.1, uL.2.2.2.2.2.2.2.2.2.1, uL.2.2.2.2.2.2.2.2.2.2.1, uL.2.2.2.2.2.2.2.2.2.2.2.1, uL.2.2.2.2.2.2.2.2.2.2.2.2.1, uL.2.2.2.2.2.2.2.2.2.2.2.2.2.1, uL.2.2.2.2.2.2.2.2.2.2.2.2.2.2.1, uL.2.2.2.2.2.2.2.2.2.2.2.2.2.2.2.1, uL.2.2.2.2.2.2.2.2.2.2.2.2.2.2.2.2.1, uL.2.2.2.2.2.2.2.2.2.2.2.2.2.2.2.2.2))) := D_L hD
  refine lv_aload_n hx hb dX5_favouriteOf_5 rfl (lv_at hl 0 rfl) ?_
  refine lv_iload_n hx hb dX5_favouriteOf_6 rfl (lv_at hl 1 rfl) ?_
  obtain ⟨v1, hc1, hok⟩ := bd_some hok
  refine cRVi (ci := 5) (q0 := 0) [.int a1] S hK hP (c_X5_isMirror l dC dI cI cZ l0 l4 l5 l6 l8 l10 l11 l12 l13 l14 l15 l16 ((0 : Int32), uL.2.1, uL.2.2.1, uL.2.2.2.1, uL.2.2.2.2.1, uL.2.2.2.2.2.1, uL.2.2.2.2.2.2.1, uL.2.2.2.2.2.2.2.1, uL.2.2.2.2.2.2.2.2.1, uL.2.2.2.2.2.2.2.2.2.1, uL.2.2.2.2.2.2.2.2.2.2.1, uL.2.2.2.2.2.2.2.2.2.2.2.1, uL.2.2.2.2.2.2.2.2.2.2.2.2.1, uL.2.2.2.2.2.2.2.2.2.2.2.2.2.1, uL.2.2.2.2.2.2.2.2.2.2.2.2.2.2.1, uL.2.2.2.2.2.2.2.2.2.2.2.2.2.2.2.1, uL.2.2.2.2.2.2.2.2.2.2.2.2.2.2.2.2.1, uL.2.2.2.2.2.2.2.2.2.2.2.2.2.2.2.2.2) a1 hc1) (lw_V qm_X5_164 qi_X5_isMirror qs_X5_isMirror qn_X5 qc_X5_isMirror) hd_X5_isMirror ⟨rfl, rfl⟩ ⟨Nat.le_of_ble_eq_true rfl, Nat.le_of_ble_eq_true rfl⟩ ⟨Nat.le_of_ble_eq_true rfl, Nat.le_of_ble_eq_true rfl⟩ rfl rfl rfl hl.1 (Nat.le_of_ble_eq_true rfl) rfl dX5_favouriteOf_7 ?_
  refine lv_if_eq (tgt := 21) hx hb dX5_favouriteOf_10 (by decide) (fun hc => ?_) (fun hc => ?_)
  · have hok := ip hok hc
    refine lv_aload_n hx hb dX5_favouriteOf_21 rfl (lv_at hl 0 rfl) ?_
    refine lv_iconst (v := (1 : Int32)) hx hb dX5_favouriteOf_22 (by decide) ?_
    obtain ⟨v2, hc2, hok⟩ := bd_some hok
    refine cWVi (ci := 5) (q0 := 0) [.int (1 : Int32)] S hK hP hD hS hA (c_X5_fail l dC dI cI cZ l0 l4 l5 l6 l8 l10 l11 l12 l13 l14 l15 l16 _ ((0 : Int32), uL.2.1, uL.2.2.1, uL.2.2.2.1, uL.2.2.2.2.1, uL.2.2.2.2.2.1, uL.2.2.2.2.2.2.1, uL.2.2.2.2.2.2.2.1, uL.2.2.2.2.2.2.2.2.1, uL.2.2.2.2.2.2.2.2.2.1, uL.2.2.2.2.2.2.2.2.2.2.1, uL.2.2.2.2.2.2.2.2.2.2.2.1, uL.2.2.2.2.2.2.2.2.2.2.2.2.1, uL.2.2.2.2.2.2.2.2.2.2.2.2.2.1, uL.2.2.2.2.2.2.2.2.2.2.2.2.2.2.1, uL.2.2.2.2.2.2.2.2.2.2.2.2.2.2.2.1, uL.2.2.2.2.2.2.2.2.2.2.2.2.2.2.2.2.1, uL.2.2.2.2.2.2.2.2.2.2.2.2.2.2.2.2.2) (1 : Int32) hc2) (lw_V qm_X5_112 qi_X5_fail qs_X5_fail qn_X5 qc_X5_fail) hd_X5_fail ⟨rfl, rfl⟩ ⟨Nat.le_of_ble_eq_true rfl, Nat.le_of_ble_eq_true rfl⟩ ⟨Nat.le_of_ble_eq_true rfl, Nat.le_of_ble_eq_true rfl⟩ rfl rfl rfl hl.1 (Nat.le_of_ble_eq_true rfl) rfl dX5_favouriteOf_23 (D_L hD) (fun H locs hP hD hS => ?_)
    have hok := Option.some.inj hok
    subst hok
    exact eWi S hr hlk rfl hP hS (Nat.le_of_ble_eq_true rfl) (Nat.le_of_ble_eq_true rfl) dX5_favouriteOf_26
  · have hok := iq hok hc
    refine lv_aload_n hx hb dX5_favouriteOf_13 rfl (lv_at hl 0 rfl) ?_
    refine lv_iload_n hx hb dX5_favouriteOf_14 rfl (lv_at hl 1 rfl) ?_
    obtain ⟨v3, hc3, hok⟩ := bd_some hok
    refine cRVi (ci := 5) (q0 := 0) [.int a1] S hK hP (c_X5_liked l dC dI cI cZ l0 l4 l5 l6 l8 l10 l11 l12 l13 l14 l15 l16 ((0 : Int32), uL.2.1, uL.2.2.1, uL.2.2.2.1, uL.2.2.2.2.1, uL.2.2.2.2.2.1, uL.2.2.2.2.2.2.1, uL.2.2.2.2.2.2.2.1, uL.2.2.2.2.2.2.2.2.1, uL.2.2.2.2.2.2.2.2.2.1, uL.2.2.2.2.2.2.2.2.2.2.1, uL.2.2.2.2.2.2.2.2.2.2.2.1, uL.2.2.2.2.2.2.2.2.2.2.2.2.1, uL.2.2.2.2.2.2.2.2.2.2.2.2.2.1, uL.2.2.2.2.2.2.2.2.2.2.2.2.2.2.1, uL.2.2.2.2.2.2.2.2.2.2.2.2.2.2.2.1, uL.2.2.2.2.2.2.2.2.2.2.2.2.2.2.2.2.1, uL.2.2.2.2.2.2.2.2.2.2.2.2.2.2.2.2.2) a1 hc3) (lw_V qm_X5_173 qi_X5_liked qs_X5_liked qn_X5 qc_X5_liked) hd_X5_liked ⟨rfl, rfl⟩ ⟨Nat.le_of_ble_eq_true rfl, Nat.le_of_ble_eq_true rfl⟩ ⟨Nat.le_of_ble_eq_true rfl, Nat.le_of_ble_eq_true rfl⟩ rfl rfl rfl hl.1 (Nat.le_of_ble_eq_true rfl) rfl dX5_favouriteOf_15 ?_
    refine lv_goto (tgt := 26) hx hb dX5_favouriteOf_18 (by decide) ?_
    have hok := Option.some.inj hok
    subst hok
    exact eWi S hr hlk rfl hP hS (Nat.le_of_ble_eq_true rfl) (Nat.le_of_ble_eq_true rfl) dX5_favouriteOf_26
theorem hd_X5_kind : yX5_kind.cls = RX5 ∧ yX5_kind.cls ≠ "java/lang/invoke/MethodHandle" ∧ yX5_kind.cls ≠ "java/lang/invoke/VarHandle" ∧ (parseMethodDescriptor yX5_kind.desc).map (fun d => d.parameters.length) = some 0 := by decide +kernel
def p_X5_kind_J30 (rec4 : tX5 → Int32 → Int32 → Option Int32) (uL : tX5) (l30_2 : Int32) : Option Int32 :=
  rec4 uL l30_2 (l30_2 + 1)
def p_X5_kind_L4 : Nat → tX5 → Int32 → Int32 → Option Int32
  | 0, _, _, _ => none
  | n + 1, uL, l4_1, l4_2 =>
    if uL.2.2.2.2.2.2.2.2.2.1 ≤ l4_2 then
      some l4_1
    else
      if l4_1 = (-1 : Int32) then
        p_X5_kind_J30 (p_X5_kind_L4 n) uL l4_2
      else
        bd (p_X5_sumBy uL l4_2) (fun v1 =>
        bd (p_X5_sumBy uL l4_1) (fun v2 =>
        if v1 ≤ v2 then
          (p_X5_kind_L4 n) uL l4_1 (l4_2 + 1)
        else
          p_X5_kind_J30 (p_X5_kind_L4 n) uL l4_2))
def p_X5_kind (uL : tX5) : Option Int32 :=
  p_X5_kind_L4 200 uL (-1 : Int32) (0 : Int32)
set_option maxHeartbeats 4000000 in
set_option maxRecDepth 100000 in
theorem c_X5_kind (l : Launch) (dC : Nat → ClassId) (dI : Nat → Nat → Nat) (cI cZ : ClassId) (l0 l4 l5 l6 l8 l10 l11 l12 l13 l14 l15 l16 : Nat) (uL : tX5) {z : Int32} (hok : p_X5_kind uL = some z) : Met l yX5_kind (Cond.code yX5_kind cX5_kind 3 (some .int) :: lw_all) { frames := 3, cells := 0, slots := 0, locals := 68 } (prR (dC, dI) vwCl (TYS cI cZ) ((wX5 cI cZ l0 l4 l5 l6 l8 l10 l11 l12 l13 l14 l15 l16 uL)) [.ref l0]) (vp_Si (fun r => r = z)) 0 0 (fun _ => False) := by
  refine oM (by decide) (Nat.le_of_ble_eq_true rfl) ?_
  intro p e s m args below meth c S hr hlk hnm hB ls hl
  have hx := S.1
  have hb := S.2.1
  have hml := S.2.2.1
  have hown : s.vm.findClass RX5 = some m.cls := S.2.2.2.1
  have hts := S.2.2.2.2
  have S : CallFix p m c cX5_kind 3 s args lw_all RX5 := S
  have hl : lv_has ls 3 [(0, .ref l0)] := hl
  obtain ⟨hP, hK⟩ := hB
  have hP : va_P (dC, dI) vwCl ((wX5 cI cZ l0 l4 l5 l6 l8 l10 l11 l12 l13 l14 l15 l16 uL)) s.heap := hP
  have L4 : ∀ n4 : Nat, ∀ (l4_1 : Int32) (l4_2 : Int32) (ls : Array Slot) (hl : lv_has ls 3 [(0, .ref l0), (1, .int l4_1), (2, .int l4_2)]) (hok : p_X5_kind_L4 n4 uL l4_1 l4_2 = some z), W p l e { frames := 3, cells := 0, slots := 0, locals := 68 } s m args below meth c s.heap [] 0 0 (MQ below (vp_Si (fun r => r = z)) args s 0 0 (fun _ => False)) (F0 m 4 ls []) := by
    intro n4
    induction n4 with
    | zero =>
      intro l4_1 l4_2 ls hl hok
      rw [p_X5_kind_L4] at hok
      cases hok
    | succ n4 ih4 =>
      have J30 : ∀ (l30_2 : Int32) (ls : Array Slot) (hl : lv_has ls 3 [(0, .ref l0), (2, .int l30_2)]) (hok : p_X5_kind_J30 (p_X5_kind_L4 n4) uL l30_2 = some z), W p l e { frames := 3, cells := 0, slots := 0, locals := 68 } s m args below meth c s.heap [] 0 0 (MQ below (vp_Si (fun r => r = z)) args s 0 0 (fun _ => False)) (F0 m 30 ls []) := by
        intro l30_2 ls hl hok
        unfold p_X5_kind_J30 at hok
        refine lv_iload_n hx hb dX5_kind_30 rfl (lv_at hl 1 rfl) ?_
        refine lv_istore_n (lv' := [(1, .int l30_2), (0, .ref l0), (2, .int l30_2)]) hx hb dX5_kind_31 rfl hl (by decide) rfl (fun ls hl => ?_)
        refine lv_iinc (v := (l30_2 + 1)) (lv' := [(2, .int (l30_2 + 1)), (1, .int l30_2), (0, .ref l0)]) hx hb dX5_kind_32 hl (k := 2) rfl rfl (by decide) rfl (fun ls hl => ?_)
        refine lv_goto (tgt := 4) hx hb dX5_kind_35 (by decide) ?_
        exact ih4 l30_2 (l30_2 + 1) _ (lv_sub hl [2, 1, 0] rfl) hok
      intro l4_1 l4_2 ls hl hok
      rw [p_X5_kind_L4] at hok
      refine lv_iload_n hx hb dX5_kind_4 rfl (lv_at hl 2 rfl) ?_
      refine lv_aload_n hx hb dX5_kind_5 rfl (lv_at hl 0 rfl) ?_
      refine va_get (D := (dC, dI)) (ci := 5) (v := .int uL.2.2.2.2.2.2.2.2.2.1) (C := RX5) (T := TX5) (N := 18) hx hb hts inX5 hown hK hP 0 rfl rfl 9 (by decide) (hts _ qf_X5_60) (fun _ h9 => h9) rfl dX5_kind_6 ?_
      refine lv_icmp_ge (tgt := 38) hx hb dX5_kind_9 (by decide) (fun hc => ?_) (fun hc => ?_)
      · have hok := ip hok hc
        refine lv_iload_n hx hb dX5_kind_38 rfl (lv_at hl 1 rfl) ?_
        exact eRi S hr hlk (Option.some.inj hok) dX5_kind_39
      · have hok := iq hok hc
        refine lv_iload_n hx hb dX5_kind_12 rfl (lv_at hl 1 rfl) ?_
        refine lv_iconst (v := (-1 : Int32)) hx hb dX5_kind_13 (by decide) ?_
        refine lv_icmp_eq (tgt := 30) hx hb dX5_kind_14 (by decide) (fun hc => ?_) (fun hc => ?_)
        · have hok := ip hok hc
          exact J30 l4_2 _ (lv_sub hl [0, 2] rfl) hok
        · have hok := iq hok hc
          refine lv_aload_n hx hb dX5_kind_17 rfl (lv_at hl 0 rfl) ?_
          refine lv_iload_n hx hb dX5_kind_18 rfl (lv_at hl 2 rfl) ?_
          obtain ⟨v1, hc1, hok⟩ := bd_some hok
          refine cRVi (ci := 5) (q0 := 0) [.int l4_2] S hK hP (c_X5_sumBy l dC dI cI cZ l0 l4 l5 l6 l8 l10 l11 l12 l13 l14 l15 l16 uL l4_2 hc1) (lw_V qm_X5_170 qi_X5_sumBy qs_X5_sumBy qn_X5 qc_X5_sumBy) hd_X5_sumBy ⟨rfl, rfl⟩ ⟨Nat.le_of_ble_eq_true rfl, Nat.le_of_ble_eq_true rfl⟩ ⟨Nat.le_of_ble_eq_true rfl, Nat.le_of_ble_eq_true rfl⟩ rfl rfl rfl hl.1 (Nat.le_of_ble_eq_true rfl) rfl dX5_kind_19 ?_
          refine lv_aload_n hx hb dX5_kind_22 rfl (lv_at hl 0 rfl) ?_
          refine lv_iload_n hx hb dX5_kind_23 rfl (lv_at hl 1 rfl) ?_
          obtain ⟨v2, hc2, hok⟩ := bd_some hok
          refine cRVi (ci := 5) (q0 := 0) [.int l4_1] S hK hP (c_X5_sumBy l dC dI cI cZ l0 l4 l5 l6 l8 l10 l11 l12 l13 l14 l15 l16 uL l4_1 hc2) (lw_V qm_X5_170 qi_X5_sumBy qs_X5_sumBy qn_X5 qc_X5_sumBy) hd_X5_sumBy ⟨rfl, rfl⟩ ⟨Nat.le_of_ble_eq_true rfl, Nat.le_of_ble_eq_true rfl⟩ ⟨Nat.le_of_ble_eq_true rfl, Nat.le_of_ble_eq_true rfl⟩ rfl rfl rfl hl.1 (Nat.le_of_ble_eq_true rfl) rfl dX5_kind_24 ?_
          refine lv_icmp_le (tgt := 32) hx hb dX5_kind_27 (by decide) (fun hc => ?_) (fun hc => ?_)
          · have hok := ip hok hc
            refine lv_iinc (v := (l4_2 + 1)) (lv' := [(2, .int (l4_2 + 1)), (0, .ref l0), (1, .int l4_1)]) hx hb dX5_kind_32 hl (k := 2) rfl rfl (by decide) rfl (fun ls hl => ?_)
            refine lv_goto (tgt := 4) hx hb dX5_kind_35 (by decide) ?_
            exact ih4 l4_1 (l4_2 + 1) _ (lv_sub hl [1, 2, 0] rfl) hok
          · have hok := iq hok hc
            exact J30 l4_2 _ (lv_sub hl [0, 2] rfl) hok
  unfold p_X5_kind at hok
  refine lv_iconst (v := (-1 : Int32)) hx hb dX5_kind_0 (by decide) ?_
  refine lv_istore_n (lv' := [(1, .int (-1 : Int32)), (0, .ref l0)]) hx hb dX5_kind_1 rfl hl (by decide) rfl (fun ls hl => ?_)
  refine lv_iconst (v := (0 : Int32)) hx hb dX5_kind_2 (by decide) ?_
  refine lv_istore_n (lv' := [(2, .int (0 : Int32)), (1, .int (-1 : Int32)), (0, .ref l0)]) hx hb dX5_kind_3 rfl hl (by decide) rfl (fun ls hl => ?_)
  exact L4 200 (-1 : Int32) (0 : Int32) _ (lv_sub hl [2, 1, 0] rfl) hok
theorem hd_X5_kindest : yX5_kindest.cls = RX5 ∧ yX5_kindest.cls ≠ "java/lang/invoke/MethodHandle" ∧ yX5_kindest.cls ≠ "java/lang/invoke/VarHandle" ∧ (parseMethodDescriptor yX5_kindest.desc).map (fun d => d.parameters.length) = some 0 := by decide +kernel
def p_X5_kindest (uL : tX5) : Option (Int32 × tX5) :=
  bd (p_X5_kind uL) (fun v1 =>
  bd (p_X5_told uL v1) (fun v2 =>
  some (v2.1, v2.2)))
set_option maxHeartbeats 4000000 in
set_option maxRecDepth 100000 in
theorem c_X5_kindest (l : Launch) (dC : Nat → ClassId) (dI : Nat → Nat → Nat) (cI cZ : ClassId) (l0 l4 l5 l6 l8 l10 l11 l12 l13 l14 l15 l16 : Nat) (sz : Nat) (uL : tX5) {z : (Int32 × tX5)} (hok : p_X5_kindest uL = some z) : Met l yX5_kindest (Cond.code yX5_kindest cX5_kindest 1 (some .int) :: lw_all) { frames := 4, cells := 0, slots := 0, locals := 90 } (prW (dC, dI) vwCl (TYS cI cZ) ((wX5 cI cZ l0 l4 l5 l6 l8 l10 l11 l12 l13 l14 l15 l16 uL)) sz [.ref l0]) (va_Qi (fun (r : Int32) (_ : Unit) => r = z.1) (fun _ t => va_P (dC, dI) vwCl ((wX5 cI cZ l0 l4 l5 l6 l8 l10 l11 l12 l13 l14 l15 l16 z.2)) t.heap) (va_A ((wX5 cI cZ l0 l4 l5 l6 l8 l10 l11 l12 l13 l14 l15 l16 uL)) sz)) 0 0 (va_A ((wX5 cI cZ l0 l4 l5 l6 l8 l10 l11 l12 l13 l14 l15 l16 uL)) sz) := by
  refine oM (by decide) (Nat.le_of_ble_eq_true rfl) ?_
  intro p e s m args below meth c S hr hlk hnm hB ls hl
  have hx := S.1
  have hb := S.2.1
  have hml := S.2.2.1
  have hown : s.vm.findClass RX5 = some m.cls := S.2.2.2.1
  have hts := S.2.2.2.2
  have S : CallFix p m c cX5_kindest 1 s args lw_all RX5 := S
  have hl : lv_has ls 1 [(0, .ref l0)] := hl
  obtain ⟨hsz, hP, hK, hD0⟩ := hB
  subst hsz
  have hD := hD0.self (sz := s.heap.size)
  generalize hAe : va_A ((wX5 cI cZ l0 l4 l5 l6 l8 l10 l11 l12 l13 l14 l15 l16 uL)) s.heap.size = A at hD ⊢
  have hA : ∀ q : Nat, s.heap.size ≤ q → A q := fun q h => by rw [← hAe]; exact Or.inr h
  have hS : va_S A s.heap s.heap [] := va_S.rf
  have hP : va_P (dC, dI) vwCl ((wX5 cI cZ l0 l4 l5 l6 l8 l10 l11 l12 l13 l14 l15 l16 uL)) s.heap := hP
  unfold p_X5_kindest at hok
  refine lv_aload_n hx hb dX5_kindest_0 rfl (lv_at hl 0 rfl) ?_
  refine lv_aload_n hx hb dX5_kindest_1 rfl (lv_at hl 0 rfl) ?_
  obtain ⟨v1, hc1, hok⟩ := bd_some hok
  refine cRVi (ci := 5) (q0 := 0) [] S hK hP (c_X5_kind l dC dI cI cZ l0 l4 l5 l6 l8 l10 l11 l12 l13 l14 l15 l16 uL hc1) (lw_V qm_X5_176 qi_X5_kind qs_X5_kind qn_X5 qc_X5_kind) hd_X5_kind ⟨rfl, rfl⟩ ⟨Nat.le_of_ble_eq_true rfl, Nat.le_of_ble_eq_true rfl⟩ ⟨Nat.le_of_ble_eq_true rfl, Nat.le_of_ble_eq_true rfl⟩ rfl rfl rfl hl.1 (Nat.le_of_ble_eq_true rfl) rfl dX5_kindest_2 ?_
  obtain ⟨v2, hc2, hok⟩ := bd_some hok
  refine cWVi (ci := 5) (q0 := 0) [.int v1] S hK hP hD hS hA (c_X5_told l dC dI cI cZ l0 l4 l5 l6 l8 l10 l11 l12 l13 l14 l15 l16 _ uL v1 hc2) (lw_V qm_X5_125 qi_X5_told qs_X5_told qn_X5 qc_X5_told) hd_X5_told ⟨rfl, rfl⟩ ⟨Nat.le_of_ble_eq_true rfl, Nat.le_of_ble_eq_true rfl⟩ ⟨Nat.le_of_ble_eq_true rfl, Nat.le_of_ble_eq_true rfl⟩ rfl rfl rfl hl.1 (Nat.le_of_ble_eq_true rfl) rfl dX5_kindest_5 (D_L hD) (fun H locs hP hD hS => ?_)
  have hok := Option.some.inj hok
  subst hok
  exact eWi S hr hlk rfl hP hS (Nat.le_of_ble_eq_true rfl) (Nat.le_of_ble_eq_true rfl) dX5_kindest_8
theorem hd_X5_untilStop : yX5_untilStop.cls = RX5 ∧ yX5_untilStop.cls ≠ "java/lang/invoke/MethodHandle" ∧ yX5_untilStop.cls ≠ "java/lang/invoke/VarHandle" ∧ (parseMethodDescriptor yX5_untilStop.desc).map (fun d => d.parameters.length) = some 1 := by decide +kernel
def p_X5_untilStop_J39 (uL : tX5) (l39_2 : Int32) : Option (Int32 × tX5) :=
  bd (p_X5_bringBack uL) (fun v3 =>
  some (l39_2, v3))
def p_X5_untilStop_L8 : Nat → tX5 → Int32 → Int32 → Int32 → Option (Int32 × tX5)
  | 0, _, _, _, _ => none
  | n + 1, uL, l8_1, l8_2, l8_3 =>
    if (80 : Int32) < l8_3 then
      p_X5_untilStop_J39 uL l8_2
    else
      if l8_2 = (-1 : Int32) then
        bd (p_X5_hourOn uL) (fun v2 =>
        if v2.2.2.2.2.2.2.2.2.2.2.2.2.2.2.2.2.2 = l8_1 then
          (p_X5_untilStop_L8 n) v2 l8_1 l8_3 (l8_3 + 1)
        else
          (p_X5_untilStop_L8 n) v2 l8_1 l8_2 (l8_3 + 1))
      else
        p_X5_untilStop_J39 uL l8_2
def p_X5_untilStop (uL : tX5) (a1 : Int32) : Option (Int32 × tX5) :=
  bd (p_X5_keep uL) (fun v1 =>
  p_X5_untilStop_L8 200 v1 a1 (-1 : Int32) (1 : Int32))
set_option maxHeartbeats 4000000 in
set_option maxRecDepth 100000 in
theorem c_X5_untilStop (l : Launch) (dC : Nat → ClassId) (dI : Nat → Nat → Nat) (cI cZ : ClassId) (l0 l4 l5 l6 l8 l10 l11 l12 l13 l14 l15 l16 : Nat) (sz : Nat) (uL : tX5) (a1 : Int32) {z : (Int32 × tX5)} (hok : p_X5_untilStop uL a1 = some z) : Met l yX5_untilStop (Cond.code yX5_untilStop cX5_untilStop 4 (some .int) :: lw_all) { frames := 6, cells := 0, slots := 0, locals := 129 } (prW (dC, dI) vwCl (TYS cI cZ) ((wX5 cI cZ l0 l4 l5 l6 l8 l10 l11 l12 l13 l14 l15 l16 uL)) sz [.ref l0, .int a1]) (va_Qi (fun (r : Int32) (_ : Unit) => r = z.1) (fun _ t => va_P (dC, dI) vwCl ((wX5 cI cZ l0 l4 l5 l6 l8 l10 l11 l12 l13 l14 l15 l16 z.2)) t.heap) (va_A ((wX5 cI cZ l0 l4 l5 l6 l8 l10 l11 l12 l13 l14 l15 l16 uL)) sz)) 0 0 (va_A ((wX5 cI cZ l0 l4 l5 l6 l8 l10 l11 l12 l13 l14 l15 l16 uL)) sz) := by
  refine oM (by decide) (Nat.le_of_ble_eq_true rfl) ?_
  intro p e s m args below meth c S hr hlk hnm hB ls hl
  have hx := S.1
  have hb := S.2.1
  have hml := S.2.2.1
  have hown : s.vm.findClass RX5 = some m.cls := S.2.2.2.1
  have hts := S.2.2.2.2
  have S : CallFix p m c cX5_untilStop 4 s args lw_all RX5 := S
  have hl : lv_has ls 4 [(0, .ref l0), (1, .int a1)] := hl
  obtain ⟨hsz, hP, hK, hD0⟩ := hB
  subst hsz
  have hD := hD0.self (sz := s.heap.size)
  generalize hAe : va_A ((wX5 cI cZ l0 l4 l5 l6 l8 l10 l11 l12 l13 l14 l15 l16 uL)) s.heap.size = A at hD ⊢
  have hA : ∀ q : Nat, s.heap.size ≤ q → A q := fun q h => by rw [← hAe]; exact Or.inr h
  have hS : va_S A s.heap s.heap [] := va_S.rf
  have hP : va_P (dC, dI) vwCl ((wX5 cI cZ l0 l4 l5 l6 l8 l10 l11 l12 l13 l14 l15 l16 uL)) s.heap := hP
  have J39 : ∀ (uL : tX5) (l39_2 : Int32) (H : Heap) (locs : List Loc) (hP : va_P (dC, dI) vwCl ((wX5 cI cZ l0 l4 l5 l6 l8 l10 l11 l12 l13 l14 l15 l16 uL)) H) (hD : va_D A ((wX5 cI cZ l0 l4 l5 l6 l8 l10 l11 l12 l13 l14 l15 l16 uL))) (hS : va_S A s.heap H locs) (ls : Array Slot) (hl : lv_has ls 4 [(0, .ref l0), (2, .int l39_2)]) (hok : p_X5_untilStop_J39 uL l39_2 = some z), W p l e { frames := 6, cells := 0, slots := 0, locals := 129 } s m args below meth c H locs 0 0 (MQ below (va_Qi (fun (r : Int32) (_ : Unit) => r = z.1) (fun _ t => va_P (dC, dI) vwCl ((wX5 cI cZ l0 l4 l5 l6 l8 l10 l11 l12 l13 l14 l15 l16 z.2)) t.heap) A) args s 0 0 A) (F0 m 39 ls []) := by
    intro uL l39_2 H locs hP hD hS ls hl hok
    unfold p_X5_untilStop_J39 at hok
    refine lv_aload_n hx hb dX5_untilStop_39 rfl (lv_at hl 0 rfl) ?_
    obtain ⟨v3, hc3, hok⟩ := bd_some hok
    refine cWVv (ci := 5) (q0 := 0) [] S hK hP hD hS hA (c_X5_bringBack l dC dI cI cZ l0 l4 l5 l6 l8 l10 l11 l12 l13 l14 l15 l16 _ uL hc3) (lw_V qm_X5_182 qi_X5_bringBack qs_X5_bringBack qn_X5 qc_X5_bringBack) hd_X5_bringBack ⟨rfl, rfl⟩ ⟨Nat.le_of_ble_eq_true rfl, Nat.le_of_ble_eq_true rfl⟩ ⟨Nat.le_of_ble_eq_true rfl, Nat.le_of_ble_eq_true rfl⟩ rfl rfl rfl hl.1 (Nat.le_of_ble_eq_true rfl) rfl dX5_untilStop_40 (D_L hD) (fun H locs hP hD hS => ?_)
    refine lv_iload_n hx hb dX5_untilStop_43 rfl (lv_at hl 1 rfl) ?_
    have hok := Option.some.inj hok
    subst hok
    exact eWi S hr hlk rfl hP hS (Nat.le_of_ble_eq_true rfl) (Nat.le_of_ble_eq_true rfl) dX5_untilStop_44
  have L8 : ∀ n8 : Nat, ∀ (uL : tX5) (l8_1 : Int32) (l8_2 : Int32) (l8_3 : Int32) (H : Heap) (locs : List Loc) (hP : va_P (dC, dI) vwCl ((wX5 cI cZ l0 l4 l5 l6 l8 l10 l11 l12 l13 l14 l15 l16 uL)) H) (hD : va_D A ((wX5 cI cZ l0 l4 l5 l6 l8 l10 l11 l12 l13 l14 l15 l16 uL))) (hS : va_S A s.heap H locs) (ls : Array Slot) (hl : lv_has ls 4 [(0, .ref l0), (1, .int l8_1), (2, .int l8_2), (3, .int l8_3)]) (hok : p_X5_untilStop_L8 n8 uL l8_1 l8_2 l8_3 = some z), W p l e { frames := 6, cells := 0, slots := 0, locals := 129 } s m args below meth c H locs 0 0 (MQ below (va_Qi (fun (r : Int32) (_ : Unit) => r = z.1) (fun _ t => va_P (dC, dI) vwCl ((wX5 cI cZ l0 l4 l5 l6 l8 l10 l11 l12 l13 l14 l15 l16 z.2)) t.heap) A) args s 0 0 A) (F0 m 8 ls []) := by
    intro n8
    induction n8 with
    | zero =>
      intro uL l8_1 l8_2 l8_3 H locs hP hD hS ls hl hok
      rw [p_X5_untilStop_L8] at hok
      cases hok
    | succ n8 ih8 =>
      intro uL l8_1 l8_2 l8_3 H locs hP hD hS ls hl hok
      rw [p_X5_untilStop_L8] at hok
      refine lv_iload_n hx hb dX5_untilStop_8 rfl (lv_at hl 3 rfl) ?_
      refine lv_bipush (v := (80 : Int32)) hx hb dX5_untilStop_9 (by decide) ?_
      refine lv_icmp_gt (tgt := 39) hx hb dX5_untilStop_11 (by decide) (fun hc => ?_) (fun hc => ?_)
      · have hok := ip hok hc
        exact J39 uL l8_2 _ _ hP hD hS _ (lv_sub hl [0, 2] rfl) hok
      · have hok := iq hok hc
        refine lv_iload_n hx hb dX5_untilStop_14 rfl (lv_at hl 2 rfl) ?_
        refine lv_iconst (v := (-1 : Int32)) hx hb dX5_untilStop_15 (by decide) ?_
        refine lv_icmp_ne (tgt := 39) hx hb dX5_untilStop_16 (by decide) (fun hc => ?_) (fun hc => ?_)
        · have hok := iq hok hc
          exact J39 uL l8_2 _ _ hP hD hS _ (lv_sub hl [0, 2] rfl) hok
        · have hok := ip hok hc
          refine lv_aload_n hx hb dX5_untilStop_19 rfl (lv_at hl 0 rfl) ?_
          obtain ⟨v2, hc2, hok⟩ := bd_some hok
          refine cWVv (ci := 5) (q0 := 0) [] S hK hP hD hS hA (c_X5_hourOn l dC dI cI cZ l0 l4 l5 l6 l8 l10 l11 l12 l13 l14 l15 l16 _ uL hc2) (lw_V qm_X5_109 qi_X5_hourOn qs_X5_hourOn qn_X5 qc_X5_hourOn) hd_X5_hourOn ⟨rfl, rfl⟩ ⟨Nat.le_of_ble_eq_true rfl, Nat.le_of_ble_eq_true rfl⟩ ⟨Nat.le_of_ble_eq_true rfl, Nat.le_of_ble_eq_true rfl⟩ rfl rfl rfl hl.1 (Nat.le_of_ble_eq_true rfl) rfl dX5_untilStop_20 (D_L hD) (fun H locs hP hD hS => ?_)
          refine lv_aload_n hx hb dX5_untilStop_23 rfl (lv_at hl 0 rfl) ?_
          refine va_get (D := (dC, dI)) (ci := 5) (v := .int v2.2.2.2.2.2.2.2.2.2.2.2.2.2.2.2.2.2) (C := RX5) (T := TX5) (N := 18) hx hb hts inX5 hown hK hP 0 rfl rfl 17 (by decide) (hts _ qf_X5_83) (fun _ h9 => h9) rfl dX5_untilStop_24 ?_
          refine lv_iload_n hx hb dX5_untilStop_27 rfl (lv_at hl 1 rfl) ?_
          refine lv_icmp_ne (tgt := 33) hx hb dX5_untilStop_28 (by decide) (fun hc => ?_) (fun hc => ?_)
          · have hok := iq hok hc
            refine lv_iinc (v := (l8_3 + 1)) (lv' := [(3, .int (l8_3 + 1)), (0, .ref l0), (1, .int l8_1), (2, .int l8_2)]) hx hb dX5_untilStop_33 hl (k := 3) rfl rfl (by decide) rfl (fun ls hl => ?_)
            refine lv_goto (tgt := 8) hx hb dX5_untilStop_36 (by decide) ?_
            exact ih8 v2 l8_1 l8_2 (l8_3 + 1) _ _ hP hD hS _ (lv_sub hl [1, 2, 3, 0] rfl) hok
          · have hok := ip hok hc
            refine lv_iload_n hx hb dX5_untilStop_31 rfl (lv_at hl 3 rfl) ?_
            refine lv_istore_n (lv' := [(2, .int l8_3), (0, .ref l0), (1, .int l8_1), (3, .int l8_3)]) hx hb dX5_untilStop_32 rfl hl (by decide) rfl (fun ls hl => ?_)
            refine lv_iinc (v := (l8_3 + 1)) (lv' := [(3, .int (l8_3 + 1)), (2, .int l8_3), (0, .ref l0), (1, .int l8_1)]) hx hb dX5_untilStop_33 hl (k := 3) rfl rfl (by decide) rfl (fun ls hl => ?_)
            refine lv_goto (tgt := 8) hx hb dX5_untilStop_36 (by decide) ?_
            exact ih8 v2 l8_1 l8_3 (l8_3 + 1) _ _ hP hD hS _ (lv_sub hl [2, 3, 1, 0] rfl) hok
  unfold p_X5_untilStop at hok
  refine lv_aload_n hx hb dX5_untilStop_0 rfl (lv_at hl 0 rfl) ?_
  obtain ⟨v1, hc1, hok⟩ := bd_some hok
  refine cWVv (ci := 5) (q0 := 0) [] S hK hP hD hS hA (c_X5_keep l dC dI cI cZ l0 l4 l5 l6 l8 l10 l11 l12 l13 l14 l15 l16 _ uL hc1) (lw_V qm_X5_179 qi_X5_keep qs_X5_keep qn_X5 qc_X5_keep) hd_X5_keep ⟨rfl, rfl⟩ ⟨Nat.le_of_ble_eq_true rfl, Nat.le_of_ble_eq_true rfl⟩ ⟨Nat.le_of_ble_eq_true rfl, Nat.le_of_ble_eq_true rfl⟩ rfl rfl rfl hl.1 (Nat.le_of_ble_eq_true rfl) rfl dX5_untilStop_1 (D_L hD) (fun H locs hP hD hS => ?_)
  refine lv_iconst (v := (-1 : Int32)) hx hb dX5_untilStop_4 (by decide) ?_
  refine lv_istore_n (lv' := [(2, .int (-1 : Int32)), (0, .ref l0), (1, .int a1)]) hx hb dX5_untilStop_5 rfl hl (by decide) rfl (fun ls hl => ?_)
  refine lv_iconst (v := (1 : Int32)) hx hb dX5_untilStop_6 (by decide) ?_
  refine lv_istore_n (lv' := [(3, .int (1 : Int32)), (2, .int (-1 : Int32)), (0, .ref l0), (1, .int a1)]) hx hb dX5_untilStop_7 rfl hl (by decide) rfl (fun ls hl => ?_)
  exact L8 200 v1 a1 (-1 : Int32) (1 : Int32) _ _ hP hD hS _ (lv_sub hl [2, 3, 1, 0] rfl) hok
theorem hd_X5_hoursUntilStop : yX5_hoursUntilStop.cls = RX5 ∧ yX5_hoursUntilStop.cls ≠ "java/lang/invoke/MethodHandle" ∧ yX5_hoursUntilStop.cls ≠ "java/lang/invoke/VarHandle" ∧ (parseMethodDescriptor yX5_hoursUntilStop.desc).map (fun d => d.parameters.length) = some 1 := by decide +kernel
def p_X5_hoursUntilStop (uL : tX5) (a1 : Int32) : Option (Int32 × tX5) :=
  bd (p_X5_isFloor ((0 : Int32), uL.2.1, uL.2.2.1, uL.2.2.2.1, uL.2.2.2.2.1, uL.2.2.2.2.2.1, uL.2.2.2.2.2.2.1, uL.2.2.2.2.2.2.2.1, uL.2.2.2.2.2.2.2.2.1, uL.2.2.2.2.2.2.2.2.2.1, uL.2.2.2.2.2.2.2.2.2.2.1, uL.2.2.2.2.2.2.2.2.2.2.2.1, uL.2.2.2.2.2.2.2.2.2.2.2.2.1, uL.2.2.2.2.2.2.2.2.2.2.2.2.2.1, uL.2.2.2.2.2.2.2.2.2.2.2.2.2.2.1, uL.2.2.2.2.2.2.2.2.2.2.2.2.2.2.2.1, uL.2.2.2.2.2.2.2.2.2.2.2.2.2.2.2.2.1, uL.2.2.2.2.2.2.2.2.2.2.2.2.2.2.2.2.2) a1) (fun v1 =>
  if v1 = 0 then
    bd (p_X5_fail ((0 : Int32), uL.2.1, uL.2.2.1, uL.2.2.2.1, uL.2.2.2.2.1, uL.2.2.2.2.2.1, uL.2.2.2.2.2.2.1, uL.2.2.2.2.2.2.2.1, uL.2.2.2.2.2.2.2.2.1, uL.2.2.2.2.2.2.2.2.2.1, uL.2.2.2.2.2.2.2.2.2.2.1, uL.2.2.2.2.2.2.2.2.2.2.2.1, uL.2.2.2.2.2.2.2.2.2.2.2.2.1, uL.2.2.2.2.2.2.2.2.2.2.2.2.2.1, uL.2.2.2.2.2.2.2.2.2.2.2.2.2.2.1, uL.2.2.2.2.2.2.2.2.2.2.2.2.2.2.2.1, uL.2.2.2.2.2.2.2.2.2.2.2.2.2.2.2.2.1, uL.2.2.2.2.2.2.2.2.2.2.2.2.2.2.2.2.2) (1 : Int32)) (fun v2 =>
    some (v2.1, v2.2))
  else
    bd (p_X5_untilStop ((0 : Int32), uL.2.1, uL.2.2.1, uL.2.2.2.1, uL.2.2.2.2.1, uL.2.2.2.2.2.1, uL.2.2.2.2.2.2.1, uL.2.2.2.2.2.2.2.1, uL.2.2.2.2.2.2.2.2.1, uL.2.2.2.2.2.2.2.2.2.1, uL.2.2.2.2.2.2.2.2.2.2.1, uL.2.2.2.2.2.2.2.2.2.2.2.1, uL.2.2.2.2.2.2.2.2.2.2.2.2.1, uL.2.2.2.2.2.2.2.2.2.2.2.2.2.1, uL.2.2.2.2.2.2.2.2.2.2.2.2.2.2.1, uL.2.2.2.2.2.2.2.2.2.2.2.2.2.2.2.1, uL.2.2.2.2.2.2.2.2.2.2.2.2.2.2.2.2.1, uL.2.2.2.2.2.2.2.2.2.2.2.2.2.2.2.2.2) a1) (fun v3 =>
    some (v3.1, v3.2)))
set_option maxHeartbeats 4000000 in
set_option maxRecDepth 100000 in
theorem c_X5_hoursUntilStop (l : Launch) (dC : Nat → ClassId) (dI : Nat → Nat → Nat) (cI cZ : ClassId) (l0 l4 l5 l6 l8 l10 l11 l12 l13 l14 l15 l16 : Nat) (sz : Nat) (uL : tX5) (a1 : Int32) {z : (Int32 × tX5)} (hok : p_X5_hoursUntilStop uL a1 = some z) : Met l yX5_hoursUntilStop (Cond.code yX5_hoursUntilStop cX5_hoursUntilStop 2 (some .int) :: lw_all) { frames := 7, cells := 0, slots := 0, locals := 152 } (prW (dC, dI) vwCl (TYS cI cZ) ((wX5 cI cZ l0 l4 l5 l6 l8 l10 l11 l12 l13 l14 l15 l16 uL)) sz [.ref l0, .int a1]) (va_Qi (fun (r : Int32) (_ : Unit) => r = z.1) (fun _ t => va_P (dC, dI) vwCl ((wX5 cI cZ l0 l4 l5 l6 l8 l10 l11 l12 l13 l14 l15 l16 z.2)) t.heap) (va_A ((wX5 cI cZ l0 l4 l5 l6 l8 l10 l11 l12 l13 l14 l15 l16 uL)) sz)) 0 0 (va_A ((wX5 cI cZ l0 l4 l5 l6 l8 l10 l11 l12 l13 l14 l15 l16 uL)) sz) := by
  refine oM (by decide) (Nat.le_of_ble_eq_true rfl) ?_
  intro p e s m args below meth c S hr hlk hnm hB ls hl
  have hx := S.1
  have hb := S.2.1
  have hml := S.2.2.1
  have hown : s.vm.findClass RX5 = some m.cls := S.2.2.2.1
  have hts := S.2.2.2.2
  have S : CallFix p m c cX5_hoursUntilStop 2 s args lw_all RX5 := S
  have hl : lv_has ls 2 [(0, .ref l0), (1, .int a1)] := hl
  obtain ⟨hsz, hP, hK, hD0⟩ := hB
  subst hsz
  have hD := hD0.self (sz := s.heap.size)
  generalize hAe : va_A ((wX5 cI cZ l0 l4 l5 l6 l8 l10 l11 l12 l13 l14 l15 l16 uL)) s.heap.size = A at hD ⊢
  have hA : ∀ q : Nat, s.heap.size ≤ q → A q := fun q h => by rw [← hAe]; exact Or.inr h
  have hS : va_S A s.heap s.heap [] := va_S.rf
  have hP : va_P (dC, dI) vwCl ((wX5 cI cZ l0 l4 l5 l6 l8 l10 l11 l12 l13 l14 l15 l16 uL)) s.heap := hP
  unfold p_X5_hoursUntilStop at hok
  refine lv_aload_n hx hb dX5_hoursUntilStop_0 rfl (lv_at hl 0 rfl) ?_
  refine lv_iconst (v := (0 : Int32)) hx hb dX5_hoursUntilStop_1 (by decide) ?_
  refine va_put (D := (dC, dI)) (ci := 5) (v := .int (0 : Int32)) (ty := .int) (C := RX5) (T := TX5) (N := 18) hx hb hts inX5 tyX5 tyX5_ok nmX5 hown hK hP hD hS 0 rfl rfl 0 (by decide) (hts _ qf_X5_50) (fun _ h9 => h9) rfl (tyX5_ok 0 (by decide)) rfl rfl (Nat.le_of_ble_eq_true rfl) dX5_hoursUntilStop_2 (fun H locs hP _ hS => ?_)
  have hP : va_P (dC, dI) vwCl ((wX5 cI cZ l0 l4 l5 l6 l8 l10 l11 l12 l13 l14 l15 l16 ((0 : Int32), uL.2.1, uL.2.2.1, uL.2.2.2.1, uL.2.2.2.2.1, uL.2.2.2.2.2.1, uL.2.2.2.2.2.2.1, uL.2.2.2.2.2.2.2.1, uL.2.2.2.2.2.2.2.2.1, uL.2.2.2.2.2.2.2.2.2.1, uL.2.2.2.2.2.2.2.2.2.2.1, uL.2.2.2.2.2.2.2.2.2.2.2.1, uL.2.2.2.2.2.2.2.2.2.2.2.2.1, uL.2.2.2.2.2.2.2.2.2.2.2.2.2.1, uL.2.2.2.2.2.2.2.2.2.2.2.2.2.2.1, uL.2.2.2.2.2.2.2.2.2.2.2.2.2.2.2.1, uL.2.2.2.2.2.2.2.2.2.2.2.2.2.2.2.2.1, uL.2.2.2.2.2.2.2.2.2.2.2.2.2.2.2.2.2))) H := hP
  have hD : va_D A ((wX5 cI cZ l0 l4 l5 l6 l8 l10 l11 l12 l13 l14 l15 l16 ((0 : Int32), uL.2.1, uL.2.2.1, uL.2.2.2.1, uL.2.2.2.2.1, uL.2.2.2.2.2.1, uL.2.2.2.2.2.2.1, uL.2.2.2.2.2.2.2.1, uL.2.2.2.2.2.2.2.2.1, uL.2.2.2.2.2.2.2.2.2.1, uL.2.2.2.2.2.2.2.2.2.2.1, uL.2.2.2.2.2.2.2.2.2.2.2.1, uL.2.2.2.2.2.2.2.2.2.2.2.2.1, uL.2.2.2.2.2.2.2.2.2.2.2.2.2.1, uL.2.2.2.2.2.2.2.2.2.2.2.2.2.2.1, uL.2.2.2.2.2.2.2.2.2.2.2.2.2.2.2.1, uL.2.2.2.2.2.2.2.2.2.2.2.2.2.2.2.2.1, uL.2.2.2.2.2.2.2.2.2.2.2.2.2.2.2.2.2))) := D_L hD
  refine lv_aload_n hx hb dX5_hoursUntilStop_5 rfl (lv_at hl 0 rfl) ?_
  refine lv_iload_n hx hb dX5_hoursUntilStop_6 rfl (lv_at hl 1 rfl) ?_
  obtain ⟨v1, hc1, hok⟩ := bd_some hok
  refine cRVi (ci := 5) (q0 := 0) [.int a1] S hK hP (c_X5_isFloor l dC dI cI cZ l0 l4 l5 l6 l8 l10 l11 l12 l13 l14 l15 l16 ((0 : Int32), uL.2.1, uL.2.2.1, uL.2.2.2.1, uL.2.2.2.2.1, uL.2.2.2.2.2.1, uL.2.2.2.2.2.2.1, uL.2.2.2.2.2.2.2.1, uL.2.2.2.2.2.2.2.2.1, uL.2.2.2.2.2.2.2.2.2.1, uL.2.2.2.2.2.2.2.2.2.2.1, uL.2.2.2.2.2.2.2.2.2.2.2.1, uL.2.2.2.2.2.2.2.2.2.2.2.2.1, uL.2.2.2.2.2.2.2.2.2.2.2.2.2.1, uL.2.2.2.2.2.2.2.2.2.2.2.2.2.2.1, uL.2.2.2.2.2.2.2.2.2.2.2.2.2.2.2.1, uL.2.2.2.2.2.2.2.2.2.2.2.2.2.2.2.2.1, uL.2.2.2.2.2.2.2.2.2.2.2.2.2.2.2.2.2) a1 hc1) (lw_V qm_X5_93 qi_X5_isFloor qs_X5_isFloor qn_X5 qc_X5_isFloor) hd_X5_isFloor ⟨rfl, rfl⟩ ⟨Nat.le_of_ble_eq_true rfl, Nat.le_of_ble_eq_true rfl⟩ ⟨Nat.le_of_ble_eq_true rfl, Nat.le_of_ble_eq_true rfl⟩ rfl rfl rfl hl.1 (Nat.le_of_ble_eq_true rfl) rfl dX5_hoursUntilStop_7 ?_
  refine lv_if_eq (tgt := 21) hx hb dX5_hoursUntilStop_10 (by decide) (fun hc => ?_) (fun hc => ?_)
  · have hok := ip hok hc
    refine lv_aload_n hx hb dX5_hoursUntilStop_21 rfl (lv_at hl 0 rfl) ?_
    refine lv_iconst (v := (1 : Int32)) hx hb dX5_hoursUntilStop_22 (by decide) ?_
    obtain ⟨v2, hc2, hok⟩ := bd_some hok
    refine cWVi (ci := 5) (q0 := 0) [.int (1 : Int32)] S hK hP hD hS hA (c_X5_fail l dC dI cI cZ l0 l4 l5 l6 l8 l10 l11 l12 l13 l14 l15 l16 _ ((0 : Int32), uL.2.1, uL.2.2.1, uL.2.2.2.1, uL.2.2.2.2.1, uL.2.2.2.2.2.1, uL.2.2.2.2.2.2.1, uL.2.2.2.2.2.2.2.1, uL.2.2.2.2.2.2.2.2.1, uL.2.2.2.2.2.2.2.2.2.1, uL.2.2.2.2.2.2.2.2.2.2.1, uL.2.2.2.2.2.2.2.2.2.2.2.1, uL.2.2.2.2.2.2.2.2.2.2.2.2.1, uL.2.2.2.2.2.2.2.2.2.2.2.2.2.1, uL.2.2.2.2.2.2.2.2.2.2.2.2.2.2.1, uL.2.2.2.2.2.2.2.2.2.2.2.2.2.2.2.1, uL.2.2.2.2.2.2.2.2.2.2.2.2.2.2.2.2.1, uL.2.2.2.2.2.2.2.2.2.2.2.2.2.2.2.2.2) (1 : Int32) hc2) (lw_V qm_X5_112 qi_X5_fail qs_X5_fail qn_X5 qc_X5_fail) hd_X5_fail ⟨rfl, rfl⟩ ⟨Nat.le_of_ble_eq_true rfl, Nat.le_of_ble_eq_true rfl⟩ ⟨Nat.le_of_ble_eq_true rfl, Nat.le_of_ble_eq_true rfl⟩ rfl rfl rfl hl.1 (Nat.le_of_ble_eq_true rfl) rfl dX5_hoursUntilStop_23 (D_L hD) (fun H locs hP hD hS => ?_)
    have hok := Option.some.inj hok
    subst hok
    exact eWi S hr hlk rfl hP hS (Nat.le_of_ble_eq_true rfl) (Nat.le_of_ble_eq_true rfl) dX5_hoursUntilStop_26
  · have hok := iq hok hc
    refine lv_aload_n hx hb dX5_hoursUntilStop_13 rfl (lv_at hl 0 rfl) ?_
    refine lv_iload_n hx hb dX5_hoursUntilStop_14 rfl (lv_at hl 1 rfl) ?_
    obtain ⟨v3, hc3, hok⟩ := bd_some hok
    refine cWVi (ci := 5) (q0 := 0) [.int a1] S hK hP hD hS hA (c_X5_untilStop l dC dI cI cZ l0 l4 l5 l6 l8 l10 l11 l12 l13 l14 l15 l16 _ ((0 : Int32), uL.2.1, uL.2.2.1, uL.2.2.2.1, uL.2.2.2.2.1, uL.2.2.2.2.2.1, uL.2.2.2.2.2.2.1, uL.2.2.2.2.2.2.2.1, uL.2.2.2.2.2.2.2.2.1, uL.2.2.2.2.2.2.2.2.2.1, uL.2.2.2.2.2.2.2.2.2.2.1, uL.2.2.2.2.2.2.2.2.2.2.2.1, uL.2.2.2.2.2.2.2.2.2.2.2.2.1, uL.2.2.2.2.2.2.2.2.2.2.2.2.2.1, uL.2.2.2.2.2.2.2.2.2.2.2.2.2.2.1, uL.2.2.2.2.2.2.2.2.2.2.2.2.2.2.2.1, uL.2.2.2.2.2.2.2.2.2.2.2.2.2.2.2.2.1, uL.2.2.2.2.2.2.2.2.2.2.2.2.2.2.2.2.2) a1 hc3) (lw_V qm_X5_185 qi_X5_untilStop qs_X5_untilStop qn_X5 qc_X5_untilStop) hd_X5_untilStop ⟨rfl, rfl⟩ ⟨Nat.le_of_ble_eq_true rfl, Nat.le_of_ble_eq_true rfl⟩ ⟨Nat.le_of_ble_eq_true rfl, Nat.le_of_ble_eq_true rfl⟩ rfl rfl rfl hl.1 (Nat.le_of_ble_eq_true rfl) rfl dX5_hoursUntilStop_15 (D_L hD) (fun H locs hP hD hS => ?_)
    refine lv_goto (tgt := 26) hx hb dX5_hoursUntilStop_18 (by decide) ?_
    have hok := Option.some.inj hok
    subst hok
    exact eWi S hr hlk rfl hP hS (Nat.le_of_ble_eq_true rfl) (Nat.le_of_ble_eq_true rfl) dX5_hoursUntilStop_26
theorem hd_X5_untilStuck : yX5_untilStuck.cls = RX5 ∧ yX5_untilStuck.cls ≠ "java/lang/invoke/MethodHandle" ∧ yX5_untilStuck.cls ≠ "java/lang/invoke/VarHandle" ∧ (parseMethodDescriptor yX5_untilStuck.desc).map (fun d => d.parameters.length) = some 0 := by decide +kernel
def p_X5_untilStuck_J31 (uL : tX5) (l31_1 : Int32) : Option (Int32 × tX5) :=
  bd (p_X5_bringBack uL) (fun v3 =>
  if l31_1 ≤ (80 : Int32) then
    some (l31_1, v3)
  else
    some ((-1 : Int32), v3))
def p_X5_untilStuck_L6 : Nat → tX5 → Int32 → Option (Int32 × tX5)
  | 0, _, _ => none
  | n + 1, uL, l6_1 =>
    if (80 : Int32) < l6_1 then
      p_X5_untilStuck_J31 uL l6_1
    else
      if (uL.2.2.2.2.2.2.2.2.2.2.2.2.2.2.2.1 3) = 0 then
        bd (p_X5_hourOn uL) (fun v2 =>
        (p_X5_untilStuck_L6 n) v2 (l6_1 + 1))
      else
        p_X5_untilStuck_J31 uL l6_1
def p_X5_untilStuck (uL : tX5) : Option (Int32 × tX5) :=
  bd (p_X5_keep uL) (fun v1 =>
  p_X5_untilStuck_L6 200 v1 (0 : Int32))
set_option maxHeartbeats 4000000 in
set_option maxRecDepth 100000 in
theorem c_X5_untilStuck (l : Launch) (dC : Nat → ClassId) (dI : Nat → Nat → Nat) (cI cZ : ClassId) (l0 l4 l5 l6 l8 l10 l11 l12 l13 l14 l15 l16 : Nat) (sz : Nat) (uL : tX5) {z : (Int32 × tX5)} (hok : p_X5_untilStuck uL = some z) : Met l yX5_untilStuck (Cond.code yX5_untilStuck cX5_untilStuck 2 (some .int) :: lw_all) { frames := 6, cells := 0, slots := 0, locals := 129 } (prW (dC, dI) vwCl (TYS cI cZ) ((wX5 cI cZ l0 l4 l5 l6 l8 l10 l11 l12 l13 l14 l15 l16 uL)) sz [.ref l0]) (va_Qi (fun (r : Int32) (_ : Unit) => r = z.1) (fun _ t => va_P (dC, dI) vwCl ((wX5 cI cZ l0 l4 l5 l6 l8 l10 l11 l12 l13 l14 l15 l16 z.2)) t.heap) (va_A ((wX5 cI cZ l0 l4 l5 l6 l8 l10 l11 l12 l13 l14 l15 l16 uL)) sz)) 0 0 (va_A ((wX5 cI cZ l0 l4 l5 l6 l8 l10 l11 l12 l13 l14 l15 l16 uL)) sz) := by
  refine oM (by decide) (Nat.le_of_ble_eq_true rfl) ?_
  intro p e s m args below meth c S hr hlk hnm hB ls hl
  have hx := S.1
  have hb := S.2.1
  have hml := S.2.2.1
  have hown : s.vm.findClass RX5 = some m.cls := S.2.2.2.1
  have hts := S.2.2.2.2
  have S : CallFix p m c cX5_untilStuck 2 s args lw_all RX5 := S
  have hl : lv_has ls 2 [(0, .ref l0)] := hl
  obtain ⟨hsz, hP, hK, hD0⟩ := hB
  subst hsz
  have hD := hD0.self (sz := s.heap.size)
  generalize hAe : va_A ((wX5 cI cZ l0 l4 l5 l6 l8 l10 l11 l12 l13 l14 l15 l16 uL)) s.heap.size = A at hD ⊢
  have hA : ∀ q : Nat, s.heap.size ≤ q → A q := fun q h => by rw [← hAe]; exact Or.inr h
  have hS : va_S A s.heap s.heap [] := va_S.rf
  have hP : va_P (dC, dI) vwCl ((wX5 cI cZ l0 l4 l5 l6 l8 l10 l11 l12 l13 l14 l15 l16 uL)) s.heap := hP
  have J31 : ∀ (uL : tX5) (l31_1 : Int32) (H : Heap) (locs : List Loc) (hP : va_P (dC, dI) vwCl ((wX5 cI cZ l0 l4 l5 l6 l8 l10 l11 l12 l13 l14 l15 l16 uL)) H) (hD : va_D A ((wX5 cI cZ l0 l4 l5 l6 l8 l10 l11 l12 l13 l14 l15 l16 uL))) (hS : va_S A s.heap H locs) (ls : Array Slot) (hl : lv_has ls 2 [(0, .ref l0), (1, .int l31_1)]) (hok : p_X5_untilStuck_J31 uL l31_1 = some z), W p l e { frames := 6, cells := 0, slots := 0, locals := 129 } s m args below meth c H locs 0 0 (MQ below (va_Qi (fun (r : Int32) (_ : Unit) => r = z.1) (fun _ t => va_P (dC, dI) vwCl ((wX5 cI cZ l0 l4 l5 l6 l8 l10 l11 l12 l13 l14 l15 l16 z.2)) t.heap) A) args s 0 0 A) (F0 m 31 ls []) := by
    intro uL l31_1 H locs hP hD hS ls hl hok
    unfold p_X5_untilStuck_J31 at hok
    refine lv_aload_n hx hb dX5_untilStuck_31 rfl (lv_at hl 0 rfl) ?_
    obtain ⟨v3, hc3, hok⟩ := bd_some hok
    refine cWVv (ci := 5) (q0 := 0) [] S hK hP hD hS hA (c_X5_bringBack l dC dI cI cZ l0 l4 l5 l6 l8 l10 l11 l12 l13 l14 l15 l16 _ uL hc3) (lw_V qm_X5_182 qi_X5_bringBack qs_X5_bringBack qn_X5 qc_X5_bringBack) hd_X5_bringBack ⟨rfl, rfl⟩ ⟨Nat.le_of_ble_eq_true rfl, Nat.le_of_ble_eq_true rfl⟩ ⟨Nat.le_of_ble_eq_true rfl, Nat.le_of_ble_eq_true rfl⟩ rfl rfl rfl hl.1 (Nat.le_of_ble_eq_true rfl) rfl dX5_untilStuck_32 (D_L hD) (fun H locs hP hD hS => ?_)
    refine lv_iload_n hx hb dX5_untilStuck_35 rfl (lv_at hl 1 rfl) ?_
    refine lv_bipush (v := (80 : Int32)) hx hb dX5_untilStuck_36 (by decide) ?_
    refine lv_icmp_le (tgt := 45) hx hb dX5_untilStuck_38 (by decide) (fun hc => ?_) (fun hc => ?_)
    · have hok := ip hok hc
      refine lv_iload_n hx hb dX5_untilStuck_45 rfl (lv_at hl 1 rfl) ?_
      have hok := Option.some.inj hok
      subst hok
      exact eWi S hr hlk rfl hP hS (Nat.le_of_ble_eq_true rfl) (Nat.le_of_ble_eq_true rfl) dX5_untilStuck_46
    · have hok := iq hok hc
      refine lv_iconst (v := (-1 : Int32)) hx hb dX5_untilStuck_41 (by decide) ?_
      refine lv_goto (tgt := 46) hx hb dX5_untilStuck_42 (by decide) ?_
      have hok := Option.some.inj hok
      subst hok
      exact eWi S hr hlk rfl hP hS (Nat.le_of_ble_eq_true rfl) (Nat.le_of_ble_eq_true rfl) dX5_untilStuck_46
  have L6 : ∀ n6 : Nat, ∀ (uL : tX5) (l6_1 : Int32) (H : Heap) (locs : List Loc) (hP : va_P (dC, dI) vwCl ((wX5 cI cZ l0 l4 l5 l6 l8 l10 l11 l12 l13 l14 l15 l16 uL)) H) (hD : va_D A ((wX5 cI cZ l0 l4 l5 l6 l8 l10 l11 l12 l13 l14 l15 l16 uL))) (hS : va_S A s.heap H locs) (ls : Array Slot) (hl : lv_has ls 2 [(0, .ref l0), (1, .int l6_1)]) (hok : p_X5_untilStuck_L6 n6 uL l6_1 = some z), W p l e { frames := 6, cells := 0, slots := 0, locals := 129 } s m args below meth c H locs 0 0 (MQ below (va_Qi (fun (r : Int32) (_ : Unit) => r = z.1) (fun _ t => va_P (dC, dI) vwCl ((wX5 cI cZ l0 l4 l5 l6 l8 l10 l11 l12 l13 l14 l15 l16 z.2)) t.heap) A) args s 0 0 A) (F0 m 6 ls []) := by
    intro n6
    induction n6 with
    | zero =>
      intro uL l6_1 H locs hP hD hS ls hl hok
      rw [p_X5_untilStuck_L6] at hok
      cases hok
    | succ n6 ih6 =>
      intro uL l6_1 H locs hP hD hS ls hl hok
      rw [p_X5_untilStuck_L6] at hok
      refine lv_iload_n hx hb dX5_untilStuck_6 rfl (lv_at hl 1 rfl) ?_
      refine lv_bipush (v := (80 : Int32)) hx hb dX5_untilStuck_7 (by decide) ?_
      refine lv_icmp_gt (tgt := 31) hx hb dX5_untilStuck_9 (by decide) (fun hc => ?_) (fun hc => ?_)
      · have hok := ip hok hc
        exact J31 uL l6_1 _ _ hP hD hS _ hl hok
      · have hok := iq hok hc
        refine lv_aload_n hx hb dX5_untilStuck_12 rfl (lv_at hl 0 rfl) ?_
        refine va_get (D := (dC, dI)) (ci := 5) (v := .ref l15) (C := RX5) (T := TX5) (N := 18) hx hb hts inX5 hown hK hP 0 rfl rfl 15 (by decide) (hts _ qf_X5_44) (fun _ h9 => h9) rfl dX5_untilStuck_13 ?_
        refine lv_iconst (v := (3 : Int32)) hx hb dX5_untilStuck_16 (by decide) ?_
        refine va_ialdK hx hb hK hP 10 0 rfl rfl (j := 3) (by decide) (vp_inK (by decide)) dX5_untilStuck_17 ?_
        refine lv_if_ne (tgt := 31) hx hb dX5_untilStuck_18 (by decide) (fun hc => ?_) (fun hc => ?_)
        · have hok := iq hok hc
          exact J31 uL l6_1 _ _ hP hD hS _ hl hok
        · have hok := ip hok hc
          refine lv_aload_n hx hb dX5_untilStuck_21 rfl (lv_at hl 0 rfl) ?_
          obtain ⟨v2, hc2, hok⟩ := bd_some hok
          refine cWVv (ci := 5) (q0 := 0) [] S hK hP hD hS hA (c_X5_hourOn l dC dI cI cZ l0 l4 l5 l6 l8 l10 l11 l12 l13 l14 l15 l16 _ uL hc2) (lw_V qm_X5_109 qi_X5_hourOn qs_X5_hourOn qn_X5 qc_X5_hourOn) hd_X5_hourOn ⟨rfl, rfl⟩ ⟨Nat.le_of_ble_eq_true rfl, Nat.le_of_ble_eq_true rfl⟩ ⟨Nat.le_of_ble_eq_true rfl, Nat.le_of_ble_eq_true rfl⟩ rfl rfl rfl hl.1 (Nat.le_of_ble_eq_true rfl) rfl dX5_untilStuck_22 (D_L hD) (fun H locs hP hD hS => ?_)
          refine lv_iinc (v := (l6_1 + 1)) (lv' := [(1, .int (l6_1 + 1)), (0, .ref l0)]) hx hb dX5_untilStuck_25 hl (k := 1) rfl rfl (by decide) rfl (fun ls hl => ?_)
          refine lv_goto (tgt := 6) hx hb dX5_untilStuck_28 (by decide) ?_
          exact ih6 v2 (l6_1 + 1) _ _ hP hD hS _ (lv_sub hl [1, 0] rfl) hok
  unfold p_X5_untilStuck at hok
  refine lv_aload_n hx hb dX5_untilStuck_0 rfl (lv_at hl 0 rfl) ?_
  obtain ⟨v1, hc1, hok⟩ := bd_some hok
  refine cWVv (ci := 5) (q0 := 0) [] S hK hP hD hS hA (c_X5_keep l dC dI cI cZ l0 l4 l5 l6 l8 l10 l11 l12 l13 l14 l15 l16 _ uL hc1) (lw_V qm_X5_179 qi_X5_keep qs_X5_keep qn_X5 qc_X5_keep) hd_X5_keep ⟨rfl, rfl⟩ ⟨Nat.le_of_ble_eq_true rfl, Nat.le_of_ble_eq_true rfl⟩ ⟨Nat.le_of_ble_eq_true rfl, Nat.le_of_ble_eq_true rfl⟩ rfl rfl rfl hl.1 (Nat.le_of_ble_eq_true rfl) rfl dX5_untilStuck_1 (D_L hD) (fun H locs hP hD hS => ?_)
  refine lv_iconst (v := (0 : Int32)) hx hb dX5_untilStuck_4 (by decide) ?_
  refine lv_istore_n (lv' := [(1, .int (0 : Int32)), (0, .ref l0)]) hx hb dX5_untilStuck_5 rfl hl (by decide) rfl (fun ls hl => ?_)
  exact L6 200 v1 (0 : Int32) _ _ hP hD hS _ (lv_sub hl [1, 0] rfl) hok
theorem hd_X5_hoursUntilStuck : yX5_hoursUntilStuck.cls = RX5 ∧ yX5_hoursUntilStuck.cls ≠ "java/lang/invoke/MethodHandle" ∧ yX5_hoursUntilStuck.cls ≠ "java/lang/invoke/VarHandle" ∧ (parseMethodDescriptor yX5_hoursUntilStuck.desc).map (fun d => d.parameters.length) = some 0 := by decide +kernel
def p_X5_hoursUntilStuck (uL : tX5) : Option (Int32 × tX5) :=
  bd (p_X5_untilStuck uL) (fun v1 =>
  bd (p_X5_told v1.2 v1.1) (fun v2 =>
  some (v2.1, v2.2)))
set_option maxHeartbeats 4000000 in
set_option maxRecDepth 100000 in
theorem c_X5_hoursUntilStuck (l : Launch) (dC : Nat → ClassId) (dI : Nat → Nat → Nat) (cI cZ : ClassId) (l0 l4 l5 l6 l8 l10 l11 l12 l13 l14 l15 l16 : Nat) (sz : Nat) (uL : tX5) {z : (Int32 × tX5)} (hok : p_X5_hoursUntilStuck uL = some z) : Met l yX5_hoursUntilStuck (Cond.code yX5_hoursUntilStuck cX5_hoursUntilStuck 1 (some .int) :: lw_all) { frames := 7, cells := 0, slots := 0, locals := 150 } (prW (dC, dI) vwCl (TYS cI cZ) ((wX5 cI cZ l0 l4 l5 l6 l8 l10 l11 l12 l13 l14 l15 l16 uL)) sz [.ref l0]) (va_Qi (fun (r : Int32) (_ : Unit) => r = z.1) (fun _ t => va_P (dC, dI) vwCl ((wX5 cI cZ l0 l4 l5 l6 l8 l10 l11 l12 l13 l14 l15 l16 z.2)) t.heap) (va_A ((wX5 cI cZ l0 l4 l5 l6 l8 l10 l11 l12 l13 l14 l15 l16 uL)) sz)) 0 0 (va_A ((wX5 cI cZ l0 l4 l5 l6 l8 l10 l11 l12 l13 l14 l15 l16 uL)) sz) := by
  refine oM (by decide) (Nat.le_of_ble_eq_true rfl) ?_
  intro p e s m args below meth c S hr hlk hnm hB ls hl
  have hx := S.1
  have hb := S.2.1
  have hml := S.2.2.1
  have hown : s.vm.findClass RX5 = some m.cls := S.2.2.2.1
  have hts := S.2.2.2.2
  have S : CallFix p m c cX5_hoursUntilStuck 1 s args lw_all RX5 := S
  have hl : lv_has ls 1 [(0, .ref l0)] := hl
  obtain ⟨hsz, hP, hK, hD0⟩ := hB
  subst hsz
  have hD := hD0.self (sz := s.heap.size)
  generalize hAe : va_A ((wX5 cI cZ l0 l4 l5 l6 l8 l10 l11 l12 l13 l14 l15 l16 uL)) s.heap.size = A at hD ⊢
  have hA : ∀ q : Nat, s.heap.size ≤ q → A q := fun q h => by rw [← hAe]; exact Or.inr h
  have hS : va_S A s.heap s.heap [] := va_S.rf
  have hP : va_P (dC, dI) vwCl ((wX5 cI cZ l0 l4 l5 l6 l8 l10 l11 l12 l13 l14 l15 l16 uL)) s.heap := hP
  unfold p_X5_hoursUntilStuck at hok
  refine lv_aload_n hx hb dX5_hoursUntilStuck_0 rfl (lv_at hl 0 rfl) ?_
  refine lv_aload_n hx hb dX5_hoursUntilStuck_1 rfl (lv_at hl 0 rfl) ?_
  obtain ⟨v1, hc1, hok⟩ := bd_some hok
  refine cWVi (ci := 5) (q0 := 0) [] S hK hP hD hS hA (c_X5_untilStuck l dC dI cI cZ l0 l4 l5 l6 l8 l10 l11 l12 l13 l14 l15 l16 _ uL hc1) (lw_V qm_X5_188 qi_X5_untilStuck qs_X5_untilStuck qn_X5 qc_X5_untilStuck) hd_X5_untilStuck ⟨rfl, rfl⟩ ⟨Nat.le_of_ble_eq_true rfl, Nat.le_of_ble_eq_true rfl⟩ ⟨Nat.le_of_ble_eq_true rfl, Nat.le_of_ble_eq_true rfl⟩ rfl rfl rfl hl.1 (Nat.le_of_ble_eq_true rfl) rfl dX5_hoursUntilStuck_2 (D_L hD) (fun H locs hP hD hS => ?_)
  obtain ⟨v2, hc2, hok⟩ := bd_some hok
  refine cWVi (ci := 5) (q0 := 0) [.int v1.1] S hK hP hD hS hA (c_X5_told l dC dI cI cZ l0 l4 l5 l6 l8 l10 l11 l12 l13 l14 l15 l16 _ v1.2 v1.1 hc2) (lw_V qm_X5_125 qi_X5_told qs_X5_told qn_X5 qc_X5_told) hd_X5_told ⟨rfl, rfl⟩ ⟨Nat.le_of_ble_eq_true rfl, Nat.le_of_ble_eq_true rfl⟩ ⟨Nat.le_of_ble_eq_true rfl, Nat.le_of_ble_eq_true rfl⟩ rfl rfl rfl hl.1 (Nat.le_of_ble_eq_true rfl) rfl dX5_hoursUntilStuck_5 (D_L hD) (fun H locs hP hD hS => ?_)
  have hok := Option.some.inj hok
  subst hok
  exact eWi S hr hlk rfl hP hS (Nat.le_of_ble_eq_true rfl) (Nat.le_of_ble_eq_true rfl) dX5_hoursUntilStuck_8
theorem hd_X5_then : yX5_then.cls = RX5 ∧ yX5_then.cls ≠ "java/lang/invoke/MethodHandle" ∧ yX5_then.cls ≠ "java/lang/invoke/VarHandle" ∧ (parseMethodDescriptor yX5_then.desc).map (fun d => d.parameters.length) = some 2 := by decide +kernel
def p_X5_then_J61 (uL : tX5) (s61_0 : Int32) : Option (Int32 × tX5) :=
  bd (p_X5_bringBack uL) (fun v6 =>
  some (s61_0, v6))
def p_X5_then (uL : tX5) (a1 : Int32) (a2 : Int32) : Option (Int32 × tX5) :=
  bd (p_X5_keep uL) (fun v1 =>
  bd (p_X5_hoursOn v1 a1) (fun v2 =>
  if a2 = (8 : Int32) then
    p_X5_then_J61 v2 (v2.2.2.2.2.2.2.2.2.2.2.2.2.2.2.2.1 8)
  else
    if a2 = (7 : Int32) then
      bd (p_X5_ones (v2.2.2.2.2.2.2.2.2.2.2.2.2.2.2.2.1 7)) (fun v5 =>
      p_X5_then_J61 v2 v5)
    else
      if a2 = (33 : Int32) then
        bd (p_X5_warmth v2) (fun v4 =>
        p_X5_then_J61 v2 v4)
      else
        bd (p_X5_cut v2) (fun v3 =>
        p_X5_then_J61 v2 v3)))
set_option maxHeartbeats 4000000 in
set_option maxRecDepth 100000 in
theorem c_X5_then (l : Launch) (dC : Nat → ClassId) (dI : Nat → Nat → Nat) (cI cZ : ClassId) (l0 l4 l5 l6 l8 l10 l11 l12 l13 l14 l15 l16 : Nat) (sz : Nat) (uL : tX5) (a1 : Int32) (a2 : Int32) {z : (Int32 × tX5)} (hok : p_X5_then uL a1 a2 = some z) : Met l yX5_then (Cond.code yX5_then cX5_then 4 (some .int) :: lw_all) { frames := 7, cells := 0, slots := 0, locals := 151 } (prW (dC, dI) vwCl (TYS cI cZ) ((wX5 cI cZ l0 l4 l5 l6 l8 l10 l11 l12 l13 l14 l15 l16 uL)) sz [.ref l0, .int a1, .int a2]) (va_Qi (fun (r : Int32) (_ : Unit) => r = z.1) (fun _ t => va_P (dC, dI) vwCl ((wX5 cI cZ l0 l4 l5 l6 l8 l10 l11 l12 l13 l14 l15 l16 z.2)) t.heap) (va_A ((wX5 cI cZ l0 l4 l5 l6 l8 l10 l11 l12 l13 l14 l15 l16 uL)) sz)) 0 0 (va_A ((wX5 cI cZ l0 l4 l5 l6 l8 l10 l11 l12 l13 l14 l15 l16 uL)) sz) := by
  refine oM (by decide) (Nat.le_of_ble_eq_true rfl) ?_
  intro p e s m args below meth c S hr hlk hnm hB ls hl
  have hx := S.1
  have hb := S.2.1
  have hml := S.2.2.1
  have hown : s.vm.findClass RX5 = some m.cls := S.2.2.2.1
  have hts := S.2.2.2.2
  have S : CallFix p m c cX5_then 4 s args lw_all RX5 := S
  have hl : lv_has ls 4 [(0, .ref l0), (1, .int a1), (2, .int a2)] := hl
  obtain ⟨hsz, hP, hK, hD0⟩ := hB
  subst hsz
  have hD := hD0.self (sz := s.heap.size)
  generalize hAe : va_A ((wX5 cI cZ l0 l4 l5 l6 l8 l10 l11 l12 l13 l14 l15 l16 uL)) s.heap.size = A at hD ⊢
  have hA : ∀ q : Nat, s.heap.size ≤ q → A q := fun q h => by rw [← hAe]; exact Or.inr h
  have hS : va_S A s.heap s.heap [] := va_S.rf
  have hP : va_P (dC, dI) vwCl ((wX5 cI cZ l0 l4 l5 l6 l8 l10 l11 l12 l13 l14 l15 l16 uL)) s.heap := hP
  have J61 : ∀ (uL : tX5) (s61_0 : Int32) (H : Heap) (locs : List Loc) (hP : va_P (dC, dI) vwCl ((wX5 cI cZ l0 l4 l5 l6 l8 l10 l11 l12 l13 l14 l15 l16 uL)) H) (hD : va_D A ((wX5 cI cZ l0 l4 l5 l6 l8 l10 l11 l12 l13 l14 l15 l16 uL))) (hS : va_S A s.heap H locs) (ls : Array Slot) (hl : lv_has ls 4 [(0, .ref l0)]) (hok : p_X5_then_J61 uL s61_0 = some z), W p l e { frames := 7, cells := 0, slots := 0, locals := 151 } s m args below meth c H locs 0 0 (MQ below (va_Qi (fun (r : Int32) (_ : Unit) => r = z.1) (fun _ t => va_P (dC, dI) vwCl ((wX5 cI cZ l0 l4 l5 l6 l8 l10 l11 l12 l13 l14 l15 l16 z.2)) t.heap) A) args s 0 0 A) (F0 m 61 ls [.int s61_0]) := by
    intro uL s61_0 H locs hP hD hS ls hl hok
    unfold p_X5_then_J61 at hok
    refine lv_istore_n (lv' := [(3, .int s61_0), (0, .ref l0)]) hx hb dX5_then_61 rfl hl (by decide) rfl (fun ls hl => ?_)
    refine lv_aload_n hx hb dX5_then_62 rfl (lv_at hl 1 rfl) ?_
    obtain ⟨v6, hc6, hok⟩ := bd_some hok
    refine cWVv (ci := 5) (q0 := 0) [] S hK hP hD hS hA (c_X5_bringBack l dC dI cI cZ l0 l4 l5 l6 l8 l10 l11 l12 l13 l14 l15 l16 _ uL hc6) (lw_V qm_X5_182 qi_X5_bringBack qs_X5_bringBack qn_X5 qc_X5_bringBack) hd_X5_bringBack ⟨rfl, rfl⟩ ⟨Nat.le_of_ble_eq_true rfl, Nat.le_of_ble_eq_true rfl⟩ ⟨Nat.le_of_ble_eq_true rfl, Nat.le_of_ble_eq_true rfl⟩ rfl rfl rfl hl.1 (Nat.le_of_ble_eq_true rfl) rfl dX5_then_63 (D_L hD) (fun H locs hP hD hS => ?_)
    refine lv_iload_n hx hb dX5_then_66 rfl (lv_at hl 0 rfl) ?_
    have hok := Option.some.inj hok
    subst hok
    exact eWi S hr hlk rfl hP hS (Nat.le_of_ble_eq_true rfl) (Nat.le_of_ble_eq_true rfl) dX5_then_67
  unfold p_X5_then at hok
  refine lv_aload_n hx hb dX5_then_0 rfl (lv_at hl 0 rfl) ?_
  obtain ⟨v1, hc1, hok⟩ := bd_some hok
  refine cWVv (ci := 5) (q0 := 0) [] S hK hP hD hS hA (c_X5_keep l dC dI cI cZ l0 l4 l5 l6 l8 l10 l11 l12 l13 l14 l15 l16 _ uL hc1) (lw_V qm_X5_179 qi_X5_keep qs_X5_keep qn_X5 qc_X5_keep) hd_X5_keep ⟨rfl, rfl⟩ ⟨Nat.le_of_ble_eq_true rfl, Nat.le_of_ble_eq_true rfl⟩ ⟨Nat.le_of_ble_eq_true rfl, Nat.le_of_ble_eq_true rfl⟩ rfl rfl rfl hl.1 (Nat.le_of_ble_eq_true rfl) rfl dX5_then_1 (D_L hD) (fun H locs hP hD hS => ?_)
  refine lv_aload_n hx hb dX5_then_4 rfl (lv_at hl 0 rfl) ?_
  refine lv_iload_n hx hb dX5_then_5 rfl (lv_at hl 1 rfl) ?_
  obtain ⟨v2, hc2, hok⟩ := bd_some hok
  refine cWVv (ci := 5) (q0 := 0) [.int a1] S hK hP hD hS hA (c_X5_hoursOn l dC dI cI cZ l0 l4 l5 l6 l8 l10 l11 l12 l13 l14 l15 l16 _ v1 a1 hc2) (lw_V qm_X5_122 qi_X5_hoursOn qs_X5_hoursOn qn_X5 qc_X5_hoursOn) hd_X5_hoursOn ⟨rfl, rfl⟩ ⟨Nat.le_of_ble_eq_true rfl, Nat.le_of_ble_eq_true rfl⟩ ⟨Nat.le_of_ble_eq_true rfl, Nat.le_of_ble_eq_true rfl⟩ rfl rfl rfl hl.1 (Nat.le_of_ble_eq_true rfl) rfl dX5_then_6 (D_L hD) (fun H locs hP hD hS => ?_)
  refine lv_iload_n hx hb dX5_then_9 rfl (lv_at hl 2 rfl) ?_
  refine lv_bipush (v := (8 : Int32)) hx hb dX5_then_10 (by decide) ?_
  refine lv_icmp_ne (tgt := 25) hx hb dX5_then_12 (by decide) (fun hc => ?_) (fun hc => ?_)
  · have hok := iq hok hc
    refine lv_iload_n hx hb dX5_then_25 rfl (lv_at hl 2 rfl) ?_
    refine lv_bipush (v := (7 : Int32)) hx hb dX5_then_26 (by decide) ?_
    refine lv_icmp_ne (tgt := 44) hx hb dX5_then_28 (by decide) (fun hc => ?_) (fun hc => ?_)
    · have hok := iq hok hc
      refine lv_iload_n hx hb dX5_then_44 rfl (lv_at hl 2 rfl) ?_
      refine lv_bipush (v := (33 : Int32)) hx hb dX5_then_45 (by decide) ?_
      refine lv_icmp_ne (tgt := 57) hx hb dX5_then_47 (by decide) (fun hc => ?_) (fun hc => ?_)
      · have hok := iq hok hc
        refine lv_aload_n hx hb dX5_then_57 rfl (lv_at hl 0 rfl) ?_
        obtain ⟨v3, hc3, hok⟩ := bd_some hok
        refine cRVi (ci := 5) (q0 := 0) [] S hK hP (c_X5_cut l dC dI cI cZ l0 l4 l5 l6 l8 l10 l11 l12 l13 l14 l15 l16 v2 hc3) (lw_V qm_X5_134 qi_X5_cut qs_X5_cut qn_X5 qc_X5_cut) hd_X5_cut ⟨rfl, rfl⟩ ⟨Nat.le_of_ble_eq_true rfl, Nat.le_of_ble_eq_true rfl⟩ ⟨Nat.le_of_ble_eq_true rfl, Nat.le_of_ble_eq_true rfl⟩ rfl rfl rfl hl.1 (Nat.le_of_ble_eq_true rfl) rfl dX5_then_58 ?_
        exact J61 v2 v3 _ _ hP hD hS _ (lv_sub hl [0] rfl) hok
      · have hok := ip hok hc
        refine lv_aload_n hx hb dX5_then_50 rfl (lv_at hl 0 rfl) ?_
        obtain ⟨v4, hc4, hok⟩ := bd_some hok
        refine cRVi (ci := 5) (q0 := 0) [] S hK hP (c_X5_warmth l dC dI cI cZ l0 l4 l5 l6 l8 l10 l11 l12 l13 l14 l15 l16 v2 hc4) (lw_V qm_X5_191 qi_X5_warmth qs_X5_warmth qn_X5 qc_X5_warmth) hd_X5_warmth ⟨rfl, rfl⟩ ⟨Nat.le_of_ble_eq_true rfl, Nat.le_of_ble_eq_true rfl⟩ ⟨Nat.le_of_ble_eq_true rfl, Nat.le_of_ble_eq_true rfl⟩ rfl rfl rfl hl.1 (Nat.le_of_ble_eq_true rfl) rfl dX5_then_51 ?_
        refine lv_goto (tgt := 61) hx hb dX5_then_54 (by decide) ?_
        exact J61 v2 v4 _ _ hP hD hS _ (lv_sub hl [0] rfl) hok
    · have hok := ip hok hc
      refine lv_aload_n hx hb dX5_then_31 rfl (lv_at hl 0 rfl) ?_
      refine va_get (D := (dC, dI)) (ci := 5) (v := .ref l15) (C := RX5) (T := TX5) (N := 18) hx hb hts inX5 hown hK hP 0 rfl rfl 15 (by decide) (hts _ qf_X5_44) (fun _ h9 => h9) rfl dX5_then_32 ?_
      refine lv_bipush (v := (7 : Int32)) hx hb dX5_then_35 (by decide) ?_
      refine va_ialdK hx hb hK hP 10 0 rfl rfl (j := 7) (by decide) (vp_inK (by decide)) dX5_then_37 ?_
      obtain ⟨v5, hc5, hok⟩ := bd_some hok
      refine cRSi [.int (v2.2.2.2.2.2.2.2.2.2.2.2.2.2.2.2.1 7)] S hK va_Pnil (c_X5_ones l dC dI cI cZ (v2.2.2.2.2.2.2.2.2.2.2.2.2.2.2.2.1 7) hc5) (lw_S qm_X5_116 qt_X5_ones qn_X5 qc_X5_ones) hd_X5_ones ⟨rfl, rfl⟩ ⟨Nat.le_of_ble_eq_true rfl, Nat.le_of_ble_eq_true rfl⟩ ⟨Nat.le_of_ble_eq_true rfl, Nat.le_of_ble_eq_true rfl⟩ rfl hl.1 (Nat.le_of_ble_eq_true rfl) rfl dX5_then_38 ?_
      refine lv_goto (tgt := 61) hx hb dX5_then_41 (by decide) ?_
      exact J61 v2 v5 _ _ hP hD hS _ (lv_sub hl [0] rfl) hok
  · have hok := ip hok hc
    refine lv_aload_n hx hb dX5_then_15 rfl (lv_at hl 0 rfl) ?_
    refine va_get (D := (dC, dI)) (ci := 5) (v := .ref l15) (C := RX5) (T := TX5) (N := 18) hx hb hts inX5 hown hK hP 0 rfl rfl 15 (by decide) (hts _ qf_X5_44) (fun _ h9 => h9) rfl dX5_then_16 ?_
    refine lv_bipush (v := (8 : Int32)) hx hb dX5_then_19 (by decide) ?_
    refine va_ialdK hx hb hK hP 10 0 rfl rfl (j := 8) (by decide) (vp_inK (by decide)) dX5_then_21 ?_
    refine lv_goto (tgt := 61) hx hb dX5_then_22 (by decide) ?_
    exact J61 v2 (v2.2.2.2.2.2.2.2.2.2.2.2.2.2.2.2.1 8) _ _ hP hD hS _ (lv_sub hl [0] rfl) hok
theorem hd_X5_printedIn : yX5_printedIn.cls = RX5 ∧ yX5_printedIn.cls ≠ "java/lang/invoke/MethodHandle" ∧ yX5_printedIn.cls ≠ "java/lang/invoke/VarHandle" ∧ (parseMethodDescriptor yX5_printedIn.desc).map (fun d => d.parameters.length) = some 1 := by decide +kernel
def p_X5_printedIn (uL : tX5) (a1 : Int32) : Option (Int32 × tX5) :=
  bd (p_X5_isIn a1 (1 : Int32) (40 : Int32)) (fun v1 =>
  if v1 = 0 then
    bd (p_X5_fail ((0 : Int32), uL.2.1, uL.2.2.1, uL.2.2.2.1, uL.2.2.2.2.1, uL.2.2.2.2.2.1, uL.2.2.2.2.2.2.1, uL.2.2.2.2.2.2.2.1, uL.2.2.2.2.2.2.2.2.1, uL.2.2.2.2.2.2.2.2.2.1, uL.2.2.2.2.2.2.2.2.2.2.1, uL.2.2.2.2.2.2.2.2.2.2.2.1, uL.2.2.2.2.2.2.2.2.2.2.2.2.1, uL.2.2.2.2.2.2.2.2.2.2.2.2.2.1, uL.2.2.2.2.2.2.2.2.2.2.2.2.2.2.1, uL.2.2.2.2.2.2.2.2.2.2.2.2.2.2.2.1, uL.2.2.2.2.2.2.2.2.2.2.2.2.2.2.2.2.1, uL.2.2.2.2.2.2.2.2.2.2.2.2.2.2.2.2.2) (1 : Int32)) (fun v2 =>
    some (v2.1, v2.2))
  else
    bd (p_X5_then ((0 : Int32), uL.2.1, uL.2.2.1, uL.2.2.2.1, uL.2.2.2.2.1, uL.2.2.2.2.2.1, uL.2.2.2.2.2.2.1, uL.2.2.2.2.2.2.2.1, uL.2.2.2.2.2.2.2.2.1, uL.2.2.2.2.2.2.2.2.2.1, uL.2.2.2.2.2.2.2.2.2.2.1, uL.2.2.2.2.2.2.2.2.2.2.2.1, uL.2.2.2.2.2.2.2.2.2.2.2.2.1, uL.2.2.2.2.2.2.2.2.2.2.2.2.2.1, uL.2.2.2.2.2.2.2.2.2.2.2.2.2.2.1, uL.2.2.2.2.2.2.2.2.2.2.2.2.2.2.2.1, uL.2.2.2.2.2.2.2.2.2.2.2.2.2.2.2.2.1, uL.2.2.2.2.2.2.2.2.2.2.2.2.2.2.2.2.2) a1 (8 : Int32)) (fun v3 =>
    some ((v3.1 - (v3.2.2.2.2.2.2.2.2.2.2.2.2.2.2.2.2.1 8)), v3.2)))
set_option maxHeartbeats 4000000 in
set_option maxRecDepth 100000 in
theorem c_X5_printedIn (l : Launch) (dC : Nat → ClassId) (dI : Nat → Nat → Nat) (cI cZ : ClassId) (l0 l4 l5 l6 l8 l10 l11 l12 l13 l14 l15 l16 : Nat) (sz : Nat) (uL : tX5) (a1 : Int32) {z : (Int32 × tX5)} (hok : p_X5_printedIn uL a1 = some z) : Met l yX5_printedIn (Cond.code yX5_printedIn cX5_printedIn 2 (some .int) :: lw_all) { frames := 8, cells := 0, slots := 0, locals := 174 } (prW (dC, dI) vwCl (TYS cI cZ) ((wX5 cI cZ l0 l4 l5 l6 l8 l10 l11 l12 l13 l14 l15 l16 uL)) sz [.ref l0, .int a1]) (va_Qi (fun (r : Int32) (_ : Unit) => r = z.1) (fun _ t => va_P (dC, dI) vwCl ((wX5 cI cZ l0 l4 l5 l6 l8 l10 l11 l12 l13 l14 l15 l16 z.2)) t.heap) (va_A ((wX5 cI cZ l0 l4 l5 l6 l8 l10 l11 l12 l13 l14 l15 l16 uL)) sz)) 0 0 (va_A ((wX5 cI cZ l0 l4 l5 l6 l8 l10 l11 l12 l13 l14 l15 l16 uL)) sz) := by
  refine oM (by decide) (Nat.le_of_ble_eq_true rfl) ?_
  intro p e s m args below meth c S hr hlk hnm hB ls hl
  have hx := S.1
  have hb := S.2.1
  have hml := S.2.2.1
  have hown : s.vm.findClass RX5 = some m.cls := S.2.2.2.1
  have hts := S.2.2.2.2
  have S : CallFix p m c cX5_printedIn 2 s args lw_all RX5 := S
  have hl : lv_has ls 2 [(0, .ref l0), (1, .int a1)] := hl
  obtain ⟨hsz, hP, hK, hD0⟩ := hB
  subst hsz
  have hD := hD0.self (sz := s.heap.size)
  generalize hAe : va_A ((wX5 cI cZ l0 l4 l5 l6 l8 l10 l11 l12 l13 l14 l15 l16 uL)) s.heap.size = A at hD ⊢
  have hA : ∀ q : Nat, s.heap.size ≤ q → A q := fun q h => by rw [← hAe]; exact Or.inr h
  have hS : va_S A s.heap s.heap [] := va_S.rf
  have hP : va_P (dC, dI) vwCl ((wX5 cI cZ l0 l4 l5 l6 l8 l10 l11 l12 l13 l14 l15 l16 uL)) s.heap := hP
  unfold p_X5_printedIn at hok
  refine lv_aload_n hx hb dX5_printedIn_0 rfl (lv_at hl 0 rfl) ?_
  refine lv_iconst (v := (0 : Int32)) hx hb dX5_printedIn_1 (by decide) ?_
  refine va_put (D := (dC, dI)) (ci := 5) (v := .int (0 : Int32)) (ty := .int) (C := RX5) (T := TX5) (N := 18) hx hb hts inX5 tyX5 tyX5_ok nmX5 hown hK hP hD hS 0 rfl rfl 0 (by decide) (hts _ qf_X5_50) (fun _ h9 => h9) rfl (tyX5_ok 0 (by decide)) rfl rfl (Nat.le_of_ble_eq_true rfl) dX5_printedIn_2 (fun H locs hP _ hS => ?_)
  have hP : va_P (dC, dI) vwCl ((wX5 cI cZ l0 l4 l5 l6 l8 l10 l11 l12 l13 l14 l15 l16 ((0 : Int32), uL.2.1, uL.2.2.1, uL.2.2.2.1, uL.2.2.2.2.1, uL.2.2.2.2.2.1, uL.2.2.2.2.2.2.1, uL.2.2.2.2.2.2.2.1, uL.2.2.2.2.2.2.2.2.1, uL.2.2.2.2.2.2.2.2.2.1, uL.2.2.2.2.2.2.2.2.2.2.1, uL.2.2.2.2.2.2.2.2.2.2.2.1, uL.2.2.2.2.2.2.2.2.2.2.2.2.1, uL.2.2.2.2.2.2.2.2.2.2.2.2.2.1, uL.2.2.2.2.2.2.2.2.2.2.2.2.2.2.1, uL.2.2.2.2.2.2.2.2.2.2.2.2.2.2.2.1, uL.2.2.2.2.2.2.2.2.2.2.2.2.2.2.2.2.1, uL.2.2.2.2.2.2.2.2.2.2.2.2.2.2.2.2.2))) H := hP
  have hD : va_D A ((wX5 cI cZ l0 l4 l5 l6 l8 l10 l11 l12 l13 l14 l15 l16 ((0 : Int32), uL.2.1, uL.2.2.1, uL.2.2.2.1, uL.2.2.2.2.1, uL.2.2.2.2.2.1, uL.2.2.2.2.2.2.1, uL.2.2.2.2.2.2.2.1, uL.2.2.2.2.2.2.2.2.1, uL.2.2.2.2.2.2.2.2.2.1, uL.2.2.2.2.2.2.2.2.2.2.1, uL.2.2.2.2.2.2.2.2.2.2.2.1, uL.2.2.2.2.2.2.2.2.2.2.2.2.1, uL.2.2.2.2.2.2.2.2.2.2.2.2.2.1, uL.2.2.2.2.2.2.2.2.2.2.2.2.2.2.1, uL.2.2.2.2.2.2.2.2.2.2.2.2.2.2.2.1, uL.2.2.2.2.2.2.2.2.2.2.2.2.2.2.2.2.1, uL.2.2.2.2.2.2.2.2.2.2.2.2.2.2.2.2.2))) := D_L hD
  refine lv_iload_n hx hb dX5_printedIn_5 rfl (lv_at hl 1 rfl) ?_
  refine lv_iconst (v := (1 : Int32)) hx hb dX5_printedIn_6 (by decide) ?_
  refine lv_bipush (v := (40 : Int32)) hx hb dX5_printedIn_7 (by decide) ?_
  obtain ⟨v1, hc1, hok⟩ := bd_some hok
  refine cRSi [.int a1, .int (1 : Int32), .int (40 : Int32)] S hK va_Pnil (c_X5_isIn l dC dI cI cZ a1 (1 : Int32) (40 : Int32) hc1) (lw_S qm_X5_53 qt_X5_isIn qn_X5 qc_X5_isIn) hd_X5_isIn ⟨rfl, rfl⟩ ⟨Nat.le_of_ble_eq_true rfl, Nat.le_of_ble_eq_true rfl⟩ ⟨Nat.le_of_ble_eq_true rfl, Nat.le_of_ble_eq_true rfl⟩ rfl hl.1 (Nat.le_of_ble_eq_true rfl) rfl dX5_printedIn_9 ?_
  refine lv_if_eq (tgt := 33) hx hb dX5_printedIn_12 (by decide) (fun hc => ?_) (fun hc => ?_)
  · have hok := ip hok hc
    refine lv_aload_n hx hb dX5_printedIn_33 rfl (lv_at hl 0 rfl) ?_
    refine lv_iconst (v := (1 : Int32)) hx hb dX5_printedIn_34 (by decide) ?_
    obtain ⟨v2, hc2, hok⟩ := bd_some hok
    refine cWVi (ci := 5) (q0 := 0) [.int (1 : Int32)] S hK hP hD hS hA (c_X5_fail l dC dI cI cZ l0 l4 l5 l6 l8 l10 l11 l12 l13 l14 l15 l16 _ ((0 : Int32), uL.2.1, uL.2.2.1, uL.2.2.2.1, uL.2.2.2.2.1, uL.2.2.2.2.2.1, uL.2.2.2.2.2.2.1, uL.2.2.2.2.2.2.2.1, uL.2.2.2.2.2.2.2.2.1, uL.2.2.2.2.2.2.2.2.2.1, uL.2.2.2.2.2.2.2.2.2.2.1, uL.2.2.2.2.2.2.2.2.2.2.2.1, uL.2.2.2.2.2.2.2.2.2.2.2.2.1, uL.2.2.2.2.2.2.2.2.2.2.2.2.2.1, uL.2.2.2.2.2.2.2.2.2.2.2.2.2.2.1, uL.2.2.2.2.2.2.2.2.2.2.2.2.2.2.2.1, uL.2.2.2.2.2.2.2.2.2.2.2.2.2.2.2.2.1, uL.2.2.2.2.2.2.2.2.2.2.2.2.2.2.2.2.2) (1 : Int32) hc2) (lw_V qm_X5_112 qi_X5_fail qs_X5_fail qn_X5 qc_X5_fail) hd_X5_fail ⟨rfl, rfl⟩ ⟨Nat.le_of_ble_eq_true rfl, Nat.le_of_ble_eq_true rfl⟩ ⟨Nat.le_of_ble_eq_true rfl, Nat.le_of_ble_eq_true rfl⟩ rfl rfl rfl hl.1 (Nat.le_of_ble_eq_true rfl) rfl dX5_printedIn_35 (D_L hD) (fun H locs hP hD hS => ?_)
    have hok := Option.some.inj hok
    subst hok
    exact eWi S hr hlk rfl hP hS (Nat.le_of_ble_eq_true rfl) (Nat.le_of_ble_eq_true rfl) dX5_printedIn_38
  · have hok := iq hok hc
    refine lv_aload_n hx hb dX5_printedIn_15 rfl (lv_at hl 0 rfl) ?_
    refine lv_iload_n hx hb dX5_printedIn_16 rfl (lv_at hl 1 rfl) ?_
    refine lv_bipush (v := (8 : Int32)) hx hb dX5_printedIn_17 (by decide) ?_
    obtain ⟨v3, hc3, hok⟩ := bd_some hok
    refine cWVi (ci := 5) (q0 := 0) [.int a1, .int (8 : Int32)] S hK hP hD hS hA (c_X5_then l dC dI cI cZ l0 l4 l5 l6 l8 l10 l11 l12 l13 l14 l15 l16 _ ((0 : Int32), uL.2.1, uL.2.2.1, uL.2.2.2.1, uL.2.2.2.2.1, uL.2.2.2.2.2.1, uL.2.2.2.2.2.2.1, uL.2.2.2.2.2.2.2.1, uL.2.2.2.2.2.2.2.2.1, uL.2.2.2.2.2.2.2.2.2.1, uL.2.2.2.2.2.2.2.2.2.2.1, uL.2.2.2.2.2.2.2.2.2.2.2.1, uL.2.2.2.2.2.2.2.2.2.2.2.2.1, uL.2.2.2.2.2.2.2.2.2.2.2.2.2.1, uL.2.2.2.2.2.2.2.2.2.2.2.2.2.2.1, uL.2.2.2.2.2.2.2.2.2.2.2.2.2.2.2.1, uL.2.2.2.2.2.2.2.2.2.2.2.2.2.2.2.2.1, uL.2.2.2.2.2.2.2.2.2.2.2.2.2.2.2.2.2) a1 (8 : Int32) hc3) (lw_V qm_X5_194 qi_X5_then qs_X5_then qn_X5 qc_X5_then) hd_X5_then ⟨rfl, rfl⟩ ⟨Nat.le_of_ble_eq_true rfl, Nat.le_of_ble_eq_true rfl⟩ ⟨Nat.le_of_ble_eq_true rfl, Nat.le_of_ble_eq_true rfl⟩ rfl rfl rfl hl.1 (Nat.le_of_ble_eq_true rfl) rfl dX5_printedIn_19 (D_L hD) (fun H locs hP hD hS => ?_)
    refine lv_aload_n hx hb dX5_printedIn_22 rfl (lv_at hl 0 rfl) ?_
    refine va_get (D := (dC, dI)) (ci := 5) (v := .ref l15) (C := RX5) (T := TX5) (N := 18) hx hb hts inX5 hown hK hP 0 rfl rfl 15 (by decide) (hts _ qf_X5_44) (fun _ h9 => h9) rfl dX5_printedIn_23 ?_
    refine lv_bipush (v := (8 : Int32)) hx hb dX5_printedIn_26 (by decide) ?_
    refine va_ialdK hx hb hK hP 10 0 rfl rfl (j := 8) (by decide) (vp_inK (by decide)) dX5_printedIn_28 ?_
    refine lv_isub hx hb dX5_printedIn_29 ?_
    refine lv_goto (tgt := 38) hx hb dX5_printedIn_30 (by decide) ?_
    have hok := Option.some.inj hok
    subst hok
    exact eWi S hr hlk rfl hP hS (Nat.le_of_ble_eq_true rfl) (Nat.le_of_ble_eq_true rfl) dX5_printedIn_38
theorem hd_X5_subscribersIn : yX5_subscribersIn.cls = RX5 ∧ yX5_subscribersIn.cls ≠ "java/lang/invoke/MethodHandle" ∧ yX5_subscribersIn.cls ≠ "java/lang/invoke/VarHandle" ∧ (parseMethodDescriptor yX5_subscribersIn.desc).map (fun d => d.parameters.length) = some 1 := by decide +kernel
def p_X5_subscribersIn (uL : tX5) (a1 : Int32) : Option (Int32 × tX5) :=
  bd (p_X5_isIn a1 (1 : Int32) (40 : Int32)) (fun v1 =>
  if v1 = 0 then
    bd (p_X5_fail ((0 : Int32), uL.2.1, uL.2.2.1, uL.2.2.2.1, uL.2.2.2.2.1, uL.2.2.2.2.2.1, uL.2.2.2.2.2.2.1, uL.2.2.2.2.2.2.2.1, uL.2.2.2.2.2.2.2.2.1, uL.2.2.2.2.2.2.2.2.2.1, uL.2.2.2.2.2.2.2.2.2.2.1, uL.2.2.2.2.2.2.2.2.2.2.2.1, uL.2.2.2.2.2.2.2.2.2.2.2.2.1, uL.2.2.2.2.2.2.2.2.2.2.2.2.2.1, uL.2.2.2.2.2.2.2.2.2.2.2.2.2.2.1, uL.2.2.2.2.2.2.2.2.2.2.2.2.2.2.2.1, uL.2.2.2.2.2.2.2.2.2.2.2.2.2.2.2.2.1, uL.2.2.2.2.2.2.2.2.2.2.2.2.2.2.2.2.2) (1 : Int32)) (fun v2 =>
    some (v2.1, v2.2))
  else
    bd (p_X5_then ((0 : Int32), uL.2.1, uL.2.2.1, uL.2.2.2.1, uL.2.2.2.2.1, uL.2.2.2.2.2.1, uL.2.2.2.2.2.2.1, uL.2.2.2.2.2.2.2.1, uL.2.2.2.2.2.2.2.2.1, uL.2.2.2.2.2.2.2.2.2.1, uL.2.2.2.2.2.2.2.2.2.2.1, uL.2.2.2.2.2.2.2.2.2.2.2.1, uL.2.2.2.2.2.2.2.2.2.2.2.2.1, uL.2.2.2.2.2.2.2.2.2.2.2.2.2.1, uL.2.2.2.2.2.2.2.2.2.2.2.2.2.2.1, uL.2.2.2.2.2.2.2.2.2.2.2.2.2.2.2.1, uL.2.2.2.2.2.2.2.2.2.2.2.2.2.2.2.2.1, uL.2.2.2.2.2.2.2.2.2.2.2.2.2.2.2.2.2) a1 (7 : Int32)) (fun v3 =>
    some (v3.1, v3.2)))
set_option maxHeartbeats 4000000 in
set_option maxRecDepth 100000 in
theorem c_X5_subscribersIn (l : Launch) (dC : Nat → ClassId) (dI : Nat → Nat → Nat) (cI cZ : ClassId) (l0 l4 l5 l6 l8 l10 l11 l12 l13 l14 l15 l16 : Nat) (sz : Nat) (uL : tX5) (a1 : Int32) {z : (Int32 × tX5)} (hok : p_X5_subscribersIn uL a1 = some z) : Met l yX5_subscribersIn (Cond.code yX5_subscribersIn cX5_subscribersIn 2 (some .int) :: lw_all) { frames := 8, cells := 0, slots := 0, locals := 174 } (prW (dC, dI) vwCl (TYS cI cZ) ((wX5 cI cZ l0 l4 l5 l6 l8 l10 l11 l12 l13 l14 l15 l16 uL)) sz [.ref l0, .int a1]) (va_Qi (fun (r : Int32) (_ : Unit) => r = z.1) (fun _ t => va_P (dC, dI) vwCl ((wX5 cI cZ l0 l4 l5 l6 l8 l10 l11 l12 l13 l14 l15 l16 z.2)) t.heap) (va_A ((wX5 cI cZ l0 l4 l5 l6 l8 l10 l11 l12 l13 l14 l15 l16 uL)) sz)) 0 0 (va_A ((wX5 cI cZ l0 l4 l5 l6 l8 l10 l11 l12 l13 l14 l15 l16 uL)) sz) := by
  refine oM (by decide) (Nat.le_of_ble_eq_true rfl) ?_
  intro p e s m args below meth c S hr hlk hnm hB ls hl
  have hx := S.1
  have hb := S.2.1
  have hml := S.2.2.1
  have hown : s.vm.findClass RX5 = some m.cls := S.2.2.2.1
  have hts := S.2.2.2.2
  have S : CallFix p m c cX5_subscribersIn 2 s args lw_all RX5 := S
  have hl : lv_has ls 2 [(0, .ref l0), (1, .int a1)] := hl
  obtain ⟨hsz, hP, hK, hD0⟩ := hB
  subst hsz
  have hD := hD0.self (sz := s.heap.size)
  generalize hAe : va_A ((wX5 cI cZ l0 l4 l5 l6 l8 l10 l11 l12 l13 l14 l15 l16 uL)) s.heap.size = A at hD ⊢
  have hA : ∀ q : Nat, s.heap.size ≤ q → A q := fun q h => by rw [← hAe]; exact Or.inr h
  have hS : va_S A s.heap s.heap [] := va_S.rf
  have hP : va_P (dC, dI) vwCl ((wX5 cI cZ l0 l4 l5 l6 l8 l10 l11 l12 l13 l14 l15 l16 uL)) s.heap := hP
  unfold p_X5_subscribersIn at hok
  refine lv_aload_n hx hb dX5_subscribersIn_0 rfl (lv_at hl 0 rfl) ?_
  refine lv_iconst (v := (0 : Int32)) hx hb dX5_subscribersIn_1 (by decide) ?_
  refine va_put (D := (dC, dI)) (ci := 5) (v := .int (0 : Int32)) (ty := .int) (C := RX5) (T := TX5) (N := 18) hx hb hts inX5 tyX5 tyX5_ok nmX5 hown hK hP hD hS 0 rfl rfl 0 (by decide) (hts _ qf_X5_50) (fun _ h9 => h9) rfl (tyX5_ok 0 (by decide)) rfl rfl (Nat.le_of_ble_eq_true rfl) dX5_subscribersIn_2 (fun H locs hP _ hS => ?_)
  have hP : va_P (dC, dI) vwCl ((wX5 cI cZ l0 l4 l5 l6 l8 l10 l11 l12 l13 l14 l15 l16 ((0 : Int32), uL.2.1, uL.2.2.1, uL.2.2.2.1, uL.2.2.2.2.1, uL.2.2.2.2.2.1, uL.2.2.2.2.2.2.1, uL.2.2.2.2.2.2.2.1, uL.2.2.2.2.2.2.2.2.1, uL.2.2.2.2.2.2.2.2.2.1, uL.2.2.2.2.2.2.2.2.2.2.1, uL.2.2.2.2.2.2.2.2.2.2.2.1, uL.2.2.2.2.2.2.2.2.2.2.2.2.1, uL.2.2.2.2.2.2.2.2.2.2.2.2.2.1, uL.2.2.2.2.2.2.2.2.2.2.2.2.2.2.1, uL.2.2.2.2.2.2.2.2.2.2.2.2.2.2.2.1, uL.2.2.2.2.2.2.2.2.2.2.2.2.2.2.2.2.1, uL.2.2.2.2.2.2.2.2.2.2.2.2.2.2.2.2.2))) H := hP
  have hD : va_D A ((wX5 cI cZ l0 l4 l5 l6 l8 l10 l11 l12 l13 l14 l15 l16 ((0 : Int32), uL.2.1, uL.2.2.1, uL.2.2.2.1, uL.2.2.2.2.1, uL.2.2.2.2.2.1, uL.2.2.2.2.2.2.1, uL.2.2.2.2.2.2.2.1, uL.2.2.2.2.2.2.2.2.1, uL.2.2.2.2.2.2.2.2.2.1, uL.2.2.2.2.2.2.2.2.2.2.1, uL.2.2.2.2.2.2.2.2.2.2.2.1, uL.2.2.2.2.2.2.2.2.2.2.2.2.1, uL.2.2.2.2.2.2.2.2.2.2.2.2.2.1, uL.2.2.2.2.2.2.2.2.2.2.2.2.2.2.1, uL.2.2.2.2.2.2.2.2.2.2.2.2.2.2.2.1, uL.2.2.2.2.2.2.2.2.2.2.2.2.2.2.2.2.1, uL.2.2.2.2.2.2.2.2.2.2.2.2.2.2.2.2.2))) := D_L hD
  refine lv_iload_n hx hb dX5_subscribersIn_5 rfl (lv_at hl 1 rfl) ?_
  refine lv_iconst (v := (1 : Int32)) hx hb dX5_subscribersIn_6 (by decide) ?_
  refine lv_bipush (v := (40 : Int32)) hx hb dX5_subscribersIn_7 (by decide) ?_
  obtain ⟨v1, hc1, hok⟩ := bd_some hok
  refine cRSi [.int a1, .int (1 : Int32), .int (40 : Int32)] S hK va_Pnil (c_X5_isIn l dC dI cI cZ a1 (1 : Int32) (40 : Int32) hc1) (lw_S qm_X5_53 qt_X5_isIn qn_X5 qc_X5_isIn) hd_X5_isIn ⟨rfl, rfl⟩ ⟨Nat.le_of_ble_eq_true rfl, Nat.le_of_ble_eq_true rfl⟩ ⟨Nat.le_of_ble_eq_true rfl, Nat.le_of_ble_eq_true rfl⟩ rfl hl.1 (Nat.le_of_ble_eq_true rfl) rfl dX5_subscribersIn_9 ?_
  refine lv_if_eq (tgt := 25) hx hb dX5_subscribersIn_12 (by decide) (fun hc => ?_) (fun hc => ?_)
  · have hok := ip hok hc
    refine lv_aload_n hx hb dX5_subscribersIn_25 rfl (lv_at hl 0 rfl) ?_
    refine lv_iconst (v := (1 : Int32)) hx hb dX5_subscribersIn_26 (by decide) ?_
    obtain ⟨v2, hc2, hok⟩ := bd_some hok
    refine cWVi (ci := 5) (q0 := 0) [.int (1 : Int32)] S hK hP hD hS hA (c_X5_fail l dC dI cI cZ l0 l4 l5 l6 l8 l10 l11 l12 l13 l14 l15 l16 _ ((0 : Int32), uL.2.1, uL.2.2.1, uL.2.2.2.1, uL.2.2.2.2.1, uL.2.2.2.2.2.1, uL.2.2.2.2.2.2.1, uL.2.2.2.2.2.2.2.1, uL.2.2.2.2.2.2.2.2.1, uL.2.2.2.2.2.2.2.2.2.1, uL.2.2.2.2.2.2.2.2.2.2.1, uL.2.2.2.2.2.2.2.2.2.2.2.1, uL.2.2.2.2.2.2.2.2.2.2.2.2.1, uL.2.2.2.2.2.2.2.2.2.2.2.2.2.1, uL.2.2.2.2.2.2.2.2.2.2.2.2.2.2.1, uL.2.2.2.2.2.2.2.2.2.2.2.2.2.2.2.1, uL.2.2.2.2.2.2.2.2.2.2.2.2.2.2.2.2.1, uL.2.2.2.2.2.2.2.2.2.2.2.2.2.2.2.2.2) (1 : Int32) hc2) (lw_V qm_X5_112 qi_X5_fail qs_X5_fail qn_X5 qc_X5_fail) hd_X5_fail ⟨rfl, rfl⟩ ⟨Nat.le_of_ble_eq_true rfl, Nat.le_of_ble_eq_true rfl⟩ ⟨Nat.le_of_ble_eq_true rfl, Nat.le_of_ble_eq_true rfl⟩ rfl rfl rfl hl.1 (Nat.le_of_ble_eq_true rfl) rfl dX5_subscribersIn_27 (D_L hD) (fun H locs hP hD hS => ?_)
    have hok := Option.some.inj hok
    subst hok
    exact eWi S hr hlk rfl hP hS (Nat.le_of_ble_eq_true rfl) (Nat.le_of_ble_eq_true rfl) dX5_subscribersIn_30
  · have hok := iq hok hc
    refine lv_aload_n hx hb dX5_subscribersIn_15 rfl (lv_at hl 0 rfl) ?_
    refine lv_iload_n hx hb dX5_subscribersIn_16 rfl (lv_at hl 1 rfl) ?_
    refine lv_bipush (v := (7 : Int32)) hx hb dX5_subscribersIn_17 (by decide) ?_
    obtain ⟨v3, hc3, hok⟩ := bd_some hok
    refine cWVi (ci := 5) (q0 := 0) [.int a1, .int (7 : Int32)] S hK hP hD hS hA (c_X5_then l dC dI cI cZ l0 l4 l5 l6 l8 l10 l11 l12 l13 l14 l15 l16 _ ((0 : Int32), uL.2.1, uL.2.2.1, uL.2.2.2.1, uL.2.2.2.2.1, uL.2.2.2.2.2.1, uL.2.2.2.2.2.2.1, uL.2.2.2.2.2.2.2.1, uL.2.2.2.2.2.2.2.2.1, uL.2.2.2.2.2.2.2.2.2.1, uL.2.2.2.2.2.2.2.2.2.2.1, uL.2.2.2.2.2.2.2.2.2.2.2.1, uL.2.2.2.2.2.2.2.2.2.2.2.2.1, uL.2.2.2.2.2.2.2.2.2.2.2.2.2.1, uL.2.2.2.2.2.2.2.2.2.2.2.2.2.2.1, uL.2.2.2.2.2.2.2.2.2.2.2.2.2.2.2.1, uL.2.2.2.2.2.2.2.2.2.2.2.2.2.2.2.2.1, uL.2.2.2.2.2.2.2.2.2.2.2.2.2.2.2.2.2) a1 (7 : Int32) hc3) (lw_V qm_X5_194 qi_X5_then qs_X5_then qn_X5 qc_X5_then) hd_X5_then ⟨rfl, rfl⟩ ⟨Nat.le_of_ble_eq_true rfl, Nat.le_of_ble_eq_true rfl⟩ ⟨Nat.le_of_ble_eq_true rfl, Nat.le_of_ble_eq_true rfl⟩ rfl rfl rfl hl.1 (Nat.le_of_ble_eq_true rfl) rfl dX5_subscribersIn_19 (D_L hD) (fun H locs hP hD hS => ?_)
    refine lv_goto (tgt := 30) hx hb dX5_subscribersIn_22 (by decide) ?_
    have hok := Option.some.inj hok
    subst hok
    exact eWi S hr hlk rfl hP hS (Nat.le_of_ble_eq_true rfl) (Nat.le_of_ble_eq_true rfl) dX5_subscribersIn_30
theorem hd_X5_callBest : yX5_callBest.cls = RX5 ∧ yX5_callBest.cls ≠ "java/lang/invoke/MethodHandle" ∧ yX5_callBest.cls ≠ "java/lang/invoke/VarHandle" ∧ (parseMethodDescriptor yX5_callBest.desc).map (fun d => d.parameters.length) = some 1 := by decide +kernel
def p_X5_callBest_L16 : Nat → tX5 → Int32 → Int32 → Int32 → Int32 → Int32 → Option (Int32 × tX5)
  | 0, _, _, _, _, _, _ => none
  | n + 1, uL, l16_1, l16_2, l16_3, l16_4, l16_5 =>
    if uL.2.1 ≤ l16_5 then
      some (l16_2, (uL.1, uL.2.1, uL.2.2.1, uL.2.2.2.1, uL.2.2.2.2.1, uL.2.2.2.2.2.1, uL.2.2.2.2.2.2.1, uL.2.2.2.2.2.2.2.1, uL.2.2.2.2.2.2.2.2.1, uL.2.2.2.2.2.2.2.2.2.1, uL.2.2.2.2.2.2.2.2.2.2.1, uL.2.2.2.2.2.2.2.2.2.2.2.1, uL.2.2.2.2.2.2.2.2.2.2.2.2.1, uL.2.2.2.2.2.2.2.2.2.2.2.2.2.1, uL.2.2.2.2.2.2.2.2.2.2.2.2.2.2.1, (upd uL.2.2.2.2.2.2.2.2.2.2.2.2.2.2.2.1 6 l16_4), uL.2.2.2.2.2.2.2.2.2.2.2.2.2.2.2.2.1, uL.2.2.2.2.2.2.2.2.2.2.2.2.2.2.2.2.2))
    else
      bd (p_X5_then (uL.1, uL.2.1, uL.2.2.1, uL.2.2.2.1, uL.2.2.2.2.1, uL.2.2.2.2.2.1, uL.2.2.2.2.2.2.1, uL.2.2.2.2.2.2.2.1, uL.2.2.2.2.2.2.2.2.1, uL.2.2.2.2.2.2.2.2.2.1, uL.2.2.2.2.2.2.2.2.2.2.1, uL.2.2.2.2.2.2.2.2.2.2.2.1, uL.2.2.2.2.2.2.2.2.2.2.2.2.1, uL.2.2.2.2.2.2.2.2.2.2.2.2.2.1, uL.2.2.2.2.2.2.2.2.2.2.2.2.2.2.1, (upd uL.2.2.2.2.2.2.2.2.2.2.2.2.2.2.2.1 6 (l16_4 ||| ((1 : Int32) <<< (l16_5 &&& 31)))), uL.2.2.2.2.2.2.2.2.2.2.2.2.2.2.2.2.1, uL.2.2.2.2.2.2.2.2.2.2.2.2.2.2.2.2.2) l16_1 (33 : Int32)) (fun v1 =>
      if l16_3 < v1.1 then
        (p_X5_callBest_L16 n) v1.2 l16_1 l16_5 v1.1 l16_4 (l16_5 + 1)
      else
        (p_X5_callBest_L16 n) v1.2 l16_1 l16_2 l16_3 l16_4 (l16_5 + 1))
def p_X5_callBest (uL : tX5) (a1 : Int32) : Option (Int32 × tX5) :=
  p_X5_callBest_L16 200 uL a1 (-1 : Int32) (-1 : Int32) (uL.2.2.2.2.2.2.2.2.2.2.2.2.2.2.2.1 6) (0 : Int32)
set_option maxHeartbeats 4000000 in
set_option maxRecDepth 100000 in
theorem c_X5_callBest (l : Launch) (dC : Nat → ClassId) (dI : Nat → Nat → Nat) (cI cZ : ClassId) (l0 l4 l5 l6 l8 l10 l11 l12 l13 l14 l15 l16 : Nat) (sz : Nat) (uL : tX5) (a1 : Int32) {z : (Int32 × tX5)} (hok : p_X5_callBest uL a1 = some z) : Met l yX5_callBest (Cond.code yX5_callBest cX5_callBest 7 (some .int) :: lw_all) { frames := 8, cells := 0, slots := 0, locals := 174 } (prW (dC, dI) vwCl (TYS cI cZ) ((wX5 cI cZ l0 l4 l5 l6 l8 l10 l11 l12 l13 l14 l15 l16 uL)) sz [.ref l0, .int a1]) (va_Qi (fun (r : Int32) (_ : Unit) => r = z.1) (fun _ t => va_P (dC, dI) vwCl ((wX5 cI cZ l0 l4 l5 l6 l8 l10 l11 l12 l13 l14 l15 l16 z.2)) t.heap) (va_A ((wX5 cI cZ l0 l4 l5 l6 l8 l10 l11 l12 l13 l14 l15 l16 uL)) sz)) 0 0 (va_A ((wX5 cI cZ l0 l4 l5 l6 l8 l10 l11 l12 l13 l14 l15 l16 uL)) sz) := by
  refine oM (by decide) (Nat.le_of_ble_eq_true rfl) ?_
  intro p e s m args below meth c S hr hlk hnm hB ls hl
  have hx := S.1
  have hb := S.2.1
  have hml := S.2.2.1
  have hown : s.vm.findClass RX5 = some m.cls := S.2.2.2.1
  have hts := S.2.2.2.2
  have S : CallFix p m c cX5_callBest 7 s args lw_all RX5 := S
  have hl : lv_has ls 7 [(0, .ref l0), (1, .int a1)] := hl
  obtain ⟨hsz, hP, hK, hD0⟩ := hB
  subst hsz
  have hD := hD0.self (sz := s.heap.size)
  generalize hAe : va_A ((wX5 cI cZ l0 l4 l5 l6 l8 l10 l11 l12 l13 l14 l15 l16 uL)) s.heap.size = A at hD ⊢
  have hA : ∀ q : Nat, s.heap.size ≤ q → A q := fun q h => by rw [← hAe]; exact Or.inr h
  have hS : va_S A s.heap s.heap [] := va_S.rf
  have hP : va_P (dC, dI) vwCl ((wX5 cI cZ l0 l4 l5 l6 l8 l10 l11 l12 l13 l14 l15 l16 uL)) s.heap := hP
  have L16 : ∀ n16 : Nat, ∀ (uL : tX5) (l16_1 : Int32) (l16_2 : Int32) (l16_3 : Int32) (l16_4 : Int32) (l16_5 : Int32) (H : Heap) (locs : List Loc) (hP : va_P (dC, dI) vwCl ((wX5 cI cZ l0 l4 l5 l6 l8 l10 l11 l12 l13 l14 l15 l16 uL)) H) (hD : va_D A ((wX5 cI cZ l0 l4 l5 l6 l8 l10 l11 l12 l13 l14 l15 l16 uL))) (hS : va_S A s.heap H locs) (ls : Array Slot) (hl : lv_has ls 7 [(0, .ref l0), (1, .int l16_1), (2, .int l16_2), (3, .int l16_3), (4, .int l16_4), (5, .int l16_5)]) (hok : p_X5_callBest_L16 n16 uL l16_1 l16_2 l16_3 l16_4 l16_5 = some z), W p l e { frames := 8, cells := 0, slots := 0, locals := 174 } s m args below meth c H locs 0 0 (MQ below (va_Qi (fun (r : Int32) (_ : Unit) => r = z.1) (fun _ t => va_P (dC, dI) vwCl ((wX5 cI cZ l0 l4 l5 l6 l8 l10 l11 l12 l13 l14 l15 l16 z.2)) t.heap) A) args s 0 0 A) (F0 m 16 ls []) := by
    intro n16
    induction n16 with
    | zero =>
      intro uL l16_1 l16_2 l16_3 l16_4 l16_5 H locs hP hD hS ls hl hok
      rw [p_X5_callBest_L16] at hok
      cases hok
    | succ n16 ih16 =>
      intro uL l16_1 l16_2 l16_3 l16_4 l16_5 H locs hP hD hS ls hl hok
      rw [p_X5_callBest_L16] at hok
      refine lv_iload hx hb dX5_callBest_16 (lv_at hl 5 rfl) ?_
      refine lv_aload_n hx hb dX5_callBest_18 rfl (lv_at hl 0 rfl) ?_
      refine va_get (D := (dC, dI)) (ci := 5) (v := .int uL.2.1) (C := RX5) (T := TX5) (N := 18) hx hb hts inX5 hown hK hP 0 rfl rfl 1 (by decide) (hts _ qf_X5_7) (fun _ h9 => h9) rfl dX5_callBest_19 ?_
      refine lv_icmp_ge (tgt := 69) hx hb dX5_callBest_22 (by decide) (fun hc => ?_) (fun hc => ?_)
      · have hok := ip hok hc
        refine lv_aload_n hx hb dX5_callBest_69 rfl (lv_at hl 0 rfl) ?_
        refine va_get (D := (dC, dI)) (ci := 5) (v := .ref l15) (C := RX5) (T := TX5) (N := 18) hx hb hts inX5 hown hK hP 0 rfl rfl 15 (by decide) (hts _ qf_X5_44) (fun _ h9 => h9) rfl dX5_callBest_70 ?_
        refine lv_bipush (v := (6 : Int32)) hx hb dX5_callBest_73 (by decide) ?_
        refine lv_iload hx hb dX5_callBest_75 (lv_at hl 4 rfl) ?_
        refine va_iastK hx hb hK hP hD hS 10 0 rfl rfl (j := 6) (by decide) (vp_inK (by decide)) dX5_callBest_77 (fun H locs hP _ hS => ?_)
        have hP : va_P (dC, dI) vwCl ((wX5 cI cZ l0 l4 l5 l6 l8 l10 l11 l12 l13 l14 l15 l16 (uL.1, uL.2.1, uL.2.2.1, uL.2.2.2.1, uL.2.2.2.2.1, uL.2.2.2.2.2.1, uL.2.2.2.2.2.2.1, uL.2.2.2.2.2.2.2.1, uL.2.2.2.2.2.2.2.2.1, uL.2.2.2.2.2.2.2.2.2.1, uL.2.2.2.2.2.2.2.2.2.2.1, uL.2.2.2.2.2.2.2.2.2.2.2.1, uL.2.2.2.2.2.2.2.2.2.2.2.2.1, uL.2.2.2.2.2.2.2.2.2.2.2.2.2.1, uL.2.2.2.2.2.2.2.2.2.2.2.2.2.2.1, (upd uL.2.2.2.2.2.2.2.2.2.2.2.2.2.2.2.1 6 l16_4), uL.2.2.2.2.2.2.2.2.2.2.2.2.2.2.2.2.1, uL.2.2.2.2.2.2.2.2.2.2.2.2.2.2.2.2.2))) H := hP
        have hD : va_D A ((wX5 cI cZ l0 l4 l5 l6 l8 l10 l11 l12 l13 l14 l15 l16 (uL.1, uL.2.1, uL.2.2.1, uL.2.2.2.1, uL.2.2.2.2.1, uL.2.2.2.2.2.1, uL.2.2.2.2.2.2.1, uL.2.2.2.2.2.2.2.1, uL.2.2.2.2.2.2.2.2.1, uL.2.2.2.2.2.2.2.2.2.1, uL.2.2.2.2.2.2.2.2.2.2.1, uL.2.2.2.2.2.2.2.2.2.2.2.1, uL.2.2.2.2.2.2.2.2.2.2.2.2.1, uL.2.2.2.2.2.2.2.2.2.2.2.2.2.1, uL.2.2.2.2.2.2.2.2.2.2.2.2.2.2.1, (upd uL.2.2.2.2.2.2.2.2.2.2.2.2.2.2.2.1 6 l16_4), uL.2.2.2.2.2.2.2.2.2.2.2.2.2.2.2.2.1, uL.2.2.2.2.2.2.2.2.2.2.2.2.2.2.2.2.2))) := D_L hD
        refine lv_iload_n hx hb dX5_callBest_78 rfl (lv_at hl 2 rfl) ?_
        have hok := Option.some.inj hok
        subst hok
        exact eWi S hr hlk rfl hP hS (Nat.le_of_ble_eq_true rfl) (Nat.le_of_ble_eq_true rfl) dX5_callBest_79
      · have hok := iq hok hc
        refine lv_aload_n hx hb dX5_callBest_25 rfl (lv_at hl 0 rfl) ?_
        refine va_get (D := (dC, dI)) (ci := 5) (v := .ref l15) (C := RX5) (T := TX5) (N := 18) hx hb hts inX5 hown hK hP 0 rfl rfl 15 (by decide) (hts _ qf_X5_44) (fun _ h9 => h9) rfl dX5_callBest_26 ?_
        refine lv_bipush (v := (6 : Int32)) hx hb dX5_callBest_29 (by decide) ?_
        refine lv_iload hx hb dX5_callBest_31 (lv_at hl 4 rfl) ?_
        refine lv_iconst (v := (1 : Int32)) hx hb dX5_callBest_33 (by decide) ?_
        refine lv_iload hx hb dX5_callBest_34 (lv_at hl 5 rfl) ?_
        refine lv_ishl hx hb dX5_callBest_36 ?_
        refine lv_ior hx hb dX5_callBest_37 ?_
        refine va_iastK hx hb hK hP hD hS 10 0 rfl rfl (j := 6) (by decide) (vp_inK (by decide)) dX5_callBest_38 (fun H locs hP _ hS => ?_)
        have hP : va_P (dC, dI) vwCl ((wX5 cI cZ l0 l4 l5 l6 l8 l10 l11 l12 l13 l14 l15 l16 (uL.1, uL.2.1, uL.2.2.1, uL.2.2.2.1, uL.2.2.2.2.1, uL.2.2.2.2.2.1, uL.2.2.2.2.2.2.1, uL.2.2.2.2.2.2.2.1, uL.2.2.2.2.2.2.2.2.1, uL.2.2.2.2.2.2.2.2.2.1, uL.2.2.2.2.2.2.2.2.2.2.1, uL.2.2.2.2.2.2.2.2.2.2.2.1, uL.2.2.2.2.2.2.2.2.2.2.2.2.1, uL.2.2.2.2.2.2.2.2.2.2.2.2.2.1, uL.2.2.2.2.2.2.2.2.2.2.2.2.2.2.1, (upd uL.2.2.2.2.2.2.2.2.2.2.2.2.2.2.2.1 6 (l16_4 ||| ((1 : Int32) <<< (l16_5 &&& 31)))), uL.2.2.2.2.2.2.2.2.2.2.2.2.2.2.2.2.1, uL.2.2.2.2.2.2.2.2.2.2.2.2.2.2.2.2.2))) H := hP
        have hD : va_D A ((wX5 cI cZ l0 l4 l5 l6 l8 l10 l11 l12 l13 l14 l15 l16 (uL.1, uL.2.1, uL.2.2.1, uL.2.2.2.1, uL.2.2.2.2.1, uL.2.2.2.2.2.1, uL.2.2.2.2.2.2.1, uL.2.2.2.2.2.2.2.1, uL.2.2.2.2.2.2.2.2.1, uL.2.2.2.2.2.2.2.2.2.1, uL.2.2.2.2.2.2.2.2.2.2.1, uL.2.2.2.2.2.2.2.2.2.2.2.1, uL.2.2.2.2.2.2.2.2.2.2.2.2.1, uL.2.2.2.2.2.2.2.2.2.2.2.2.2.1, uL.2.2.2.2.2.2.2.2.2.2.2.2.2.2.1, (upd uL.2.2.2.2.2.2.2.2.2.2.2.2.2.2.2.1 6 (l16_4 ||| ((1 : Int32) <<< (l16_5 &&& 31)))), uL.2.2.2.2.2.2.2.2.2.2.2.2.2.2.2.2.1, uL.2.2.2.2.2.2.2.2.2.2.2.2.2.2.2.2.2))) := D_L hD
        refine lv_aload_n hx hb dX5_callBest_39 rfl (lv_at hl 0 rfl) ?_
        refine lv_iload_n hx hb dX5_callBest_40 rfl (lv_at hl 1 rfl) ?_
        refine lv_bipush (v := (33 : Int32)) hx hb dX5_callBest_41 (by decide) ?_
        obtain ⟨v1, hc1, hok⟩ := bd_some hok
        refine cWVi (ci := 5) (q0 := 0) [.int l16_1, .int (33 : Int32)] S hK hP hD hS hA (c_X5_then l dC dI cI cZ l0 l4 l5 l6 l8 l10 l11 l12 l13 l14 l15 l16 _ (uL.1, uL.2.1, uL.2.2.1, uL.2.2.2.1, uL.2.2.2.2.1, uL.2.2.2.2.2.1, uL.2.2.2.2.2.2.1, uL.2.2.2.2.2.2.2.1, uL.2.2.2.2.2.2.2.2.1, uL.2.2.2.2.2.2.2.2.2.1, uL.2.2.2.2.2.2.2.2.2.2.1, uL.2.2.2.2.2.2.2.2.2.2.2.1, uL.2.2.2.2.2.2.2.2.2.2.2.2.1, uL.2.2.2.2.2.2.2.2.2.2.2.2.2.1, uL.2.2.2.2.2.2.2.2.2.2.2.2.2.2.1, (upd uL.2.2.2.2.2.2.2.2.2.2.2.2.2.2.2.1 6 (l16_4 ||| ((1 : Int32) <<< (l16_5 &&& 31)))), uL.2.2.2.2.2.2.2.2.2.2.2.2.2.2.2.2.1, uL.2.2.2.2.2.2.2.2.2.2.2.2.2.2.2.2.2) l16_1 (33 : Int32) hc1) (lw_V qm_X5_194 qi_X5_then qs_X5_then qn_X5 qc_X5_then) hd_X5_then ⟨rfl, rfl⟩ ⟨Nat.le_of_ble_eq_true rfl, Nat.le_of_ble_eq_true rfl⟩ ⟨Nat.le_of_ble_eq_true rfl, Nat.le_of_ble_eq_true rfl⟩ rfl rfl rfl hl.1 (Nat.le_of_ble_eq_true rfl) rfl dX5_callBest_43 (D_L hD) (fun H locs hP hD hS => ?_)
        refine lv_istore (lv' := [(6, .int v1.1), (0, .ref l0), (1, .int l16_1), (2, .int l16_2), (3, .int l16_3), (4, .int l16_4), (5, .int l16_5)]) hx hb dX5_callBest_46 hl (by decide) rfl (fun ls hl => ?_)
        refine lv_iload hx hb dX5_callBest_48 (lv_at hl 0 rfl) ?_
        refine lv_iload_n hx hb dX5_callBest_50 rfl (lv_at hl 4 rfl) ?_
        refine lv_icmp_gt (tgt := 57) hx hb dX5_callBest_51 (by decide) (fun hc => ?_) (fun hc => ?_)
        · have hok := ip hok hc
          refine lv_iload hx hb dX5_callBest_57 (lv_at hl 6 rfl) ?_
          refine lv_istore_n (lv' := [(2, .int l16_5), (6, .int v1.1), (0, .ref l0), (1, .int l16_1), (3, .int l16_3), (4, .int l16_4), (5, .int l16_5)]) hx hb dX5_callBest_59 rfl hl (by decide) rfl (fun ls hl => ?_)
          refine lv_iload hx hb dX5_callBest_60 (lv_at hl 1 rfl) ?_
          refine lv_istore_n (lv' := [(3, .int v1.1), (2, .int l16_5), (6, .int v1.1), (0, .ref l0), (1, .int l16_1), (4, .int l16_4), (5, .int l16_5)]) hx hb dX5_callBest_62 rfl hl (by decide) rfl (fun ls hl => ?_)
          refine lv_iinc (v := (l16_5 + 1)) (lv' := [(5, .int (l16_5 + 1)), (3, .int v1.1), (2, .int l16_5), (6, .int v1.1), (0, .ref l0), (1, .int l16_1), (4, .int l16_4)]) hx hb dX5_callBest_63 hl (k := 6) rfl rfl (by decide) rfl (fun ls hl => ?_)
          refine lv_goto (tgt := 16) hx hb dX5_callBest_66 (by decide) ?_
          exact ih16 v1.2 l16_1 l16_5 v1.1 l16_4 (l16_5 + 1) _ _ hP hD hS _ (lv_sub hl [4, 5, 2, 1, 6, 0] rfl) hok
        · have hok := iq hok hc
          refine lv_goto (tgt := 63) hx hb dX5_callBest_54 (by decide) ?_
          refine lv_iinc (v := (l16_5 + 1)) (lv' := [(5, .int (l16_5 + 1)), (6, .int v1.1), (0, .ref l0), (1, .int l16_1), (2, .int l16_2), (3, .int l16_3), (4, .int l16_4)]) hx hb dX5_callBest_63 hl (k := 6) rfl rfl (by decide) rfl (fun ls hl => ?_)
          refine lv_goto (tgt := 16) hx hb dX5_callBest_66 (by decide) ?_
          exact ih16 v1.2 l16_1 l16_2 l16_3 l16_4 (l16_5 + 1) _ _ hP hD hS _ (lv_sub hl [2, 3, 4, 5, 6, 0] rfl) hok
  unfold p_X5_callBest at hok
  refine lv_iconst (v := (-1 : Int32)) hx hb dX5_callBest_0 (by decide) ?_
  refine lv_istore_n (lv' := [(2, .int (-1 : Int32)), (0, .ref l0), (1, .int a1)]) hx hb dX5_callBest_1 rfl hl (by decide) rfl (fun ls hl => ?_)
  refine lv_iconst (v := (-1 : Int32)) hx hb dX5_callBest_2 (by decide) ?_
  refine lv_istore_n (lv' := [(3, .int (-1 : Int32)), (2, .int (-1 : Int32)), (0, .ref l0), (1, .int a1)]) hx hb dX5_callBest_3 rfl hl (by decide) rfl (fun ls hl => ?_)
  refine lv_aload_n hx hb dX5_callBest_4 rfl (lv_at hl 2 rfl) ?_
  refine va_get (D := (dC, dI)) (ci := 5) (v := .ref l15) (C := RX5) (T := TX5) (N := 18) hx hb hts inX5 hown hK hP 0 rfl rfl 15 (by decide) (hts _ qf_X5_44) (fun _ h9 => h9) rfl dX5_callBest_5 ?_
  refine lv_bipush (v := (6 : Int32)) hx hb dX5_callBest_8 (by decide) ?_
  refine va_ialdK hx hb hK hP 10 0 rfl rfl (j := 6) (by decide) (vp_inK (by decide)) dX5_callBest_10 ?_
  refine lv_istore (lv' := [(4, .int (uL.2.2.2.2.2.2.2.2.2.2.2.2.2.2.2.1 6)), (3, .int (-1 : Int32)), (2, .int (-1 : Int32)), (0, .ref l0), (1, .int a1)]) hx hb dX5_callBest_11 hl (by decide) rfl (fun ls hl => ?_)
  refine lv_iconst (v := (0 : Int32)) hx hb dX5_callBest_13 (by decide) ?_
  refine lv_istore (lv' := [(5, .int (0 : Int32)), (4, .int (uL.2.2.2.2.2.2.2.2.2.2.2.2.2.2.2.1 6)), (3, .int (-1 : Int32)), (2, .int (-1 : Int32)), (0, .ref l0), (1, .int a1)]) hx hb dX5_callBest_14 hl (by decide) rfl (fun ls hl => ?_)
  exact L16 200 uL a1 (-1 : Int32) (-1 : Int32) (uL.2.2.2.2.2.2.2.2.2.2.2.2.2.2.2.1 6) (0 : Int32) _ _ hP hD hS _ (lv_sub hl [4, 5, 3, 2, 1, 0] rfl) hok
theorem hd_X5_bestToCall : yX5_bestToCall.cls = RX5 ∧ yX5_bestToCall.cls ≠ "java/lang/invoke/MethodHandle" ∧ yX5_bestToCall.cls ≠ "java/lang/invoke/VarHandle" ∧ (parseMethodDescriptor yX5_bestToCall.desc).map (fun d => d.parameters.length) = some 1 := by decide +kernel
def p_X5_bestToCall (uL : tX5) (a1 : Int32) : Option (Int32 × tX5) :=
  bd (p_X5_isIn a1 (1 : Int32) (40 : Int32)) (fun v1 =>
  if v1 = 0 then
    bd (p_X5_fail ((0 : Int32), uL.2.1, uL.2.2.1, uL.2.2.2.1, uL.2.2.2.2.1, uL.2.2.2.2.2.1, uL.2.2.2.2.2.2.1, uL.2.2.2.2.2.2.2.1, uL.2.2.2.2.2.2.2.2.1, uL.2.2.2.2.2.2.2.2.2.1, uL.2.2.2.2.2.2.2.2.2.2.1, uL.2.2.2.2.2.2.2.2.2.2.2.1, uL.2.2.2.2.2.2.2.2.2.2.2.2.1, uL.2.2.2.2.2.2.2.2.2.2.2.2.2.1, uL.2.2.2.2.2.2.2.2.2.2.2.2.2.2.1, uL.2.2.2.2.2.2.2.2.2.2.2.2.2.2.2.1, uL.2.2.2.2.2.2.2.2.2.2.2.2.2.2.2.2.1, uL.2.2.2.2.2.2.2.2.2.2.2.2.2.2.2.2.2) (1 : Int32)) (fun v2 =>
    some (v2.1, v2.2))
  else
    bd (p_X5_callBest ((0 : Int32), uL.2.1, uL.2.2.1, uL.2.2.2.1, uL.2.2.2.2.1, uL.2.2.2.2.2.1, uL.2.2.2.2.2.2.1, uL.2.2.2.2.2.2.2.1, uL.2.2.2.2.2.2.2.2.1, uL.2.2.2.2.2.2.2.2.2.1, uL.2.2.2.2.2.2.2.2.2.2.1, uL.2.2.2.2.2.2.2.2.2.2.2.1, uL.2.2.2.2.2.2.2.2.2.2.2.2.1, uL.2.2.2.2.2.2.2.2.2.2.2.2.2.1, uL.2.2.2.2.2.2.2.2.2.2.2.2.2.2.1, uL.2.2.2.2.2.2.2.2.2.2.2.2.2.2.2.1, uL.2.2.2.2.2.2.2.2.2.2.2.2.2.2.2.2.1, uL.2.2.2.2.2.2.2.2.2.2.2.2.2.2.2.2.2) a1) (fun v3 =>
    some (v3.1, v3.2)))
set_option maxHeartbeats 4000000 in
set_option maxRecDepth 100000 in
theorem c_X5_bestToCall (l : Launch) (dC : Nat → ClassId) (dI : Nat → Nat → Nat) (cI cZ : ClassId) (l0 l4 l5 l6 l8 l10 l11 l12 l13 l14 l15 l16 : Nat) (sz : Nat) (uL : tX5) (a1 : Int32) {z : (Int32 × tX5)} (hok : p_X5_bestToCall uL a1 = some z) : Met l yX5_bestToCall (Cond.code yX5_bestToCall cX5_bestToCall 2 (some .int) :: lw_all) { frames := 9, cells := 0, slots := 0, locals := 200 } (prW (dC, dI) vwCl (TYS cI cZ) ((wX5 cI cZ l0 l4 l5 l6 l8 l10 l11 l12 l13 l14 l15 l16 uL)) sz [.ref l0, .int a1]) (va_Qi (fun (r : Int32) (_ : Unit) => r = z.1) (fun _ t => va_P (dC, dI) vwCl ((wX5 cI cZ l0 l4 l5 l6 l8 l10 l11 l12 l13 l14 l15 l16 z.2)) t.heap) (va_A ((wX5 cI cZ l0 l4 l5 l6 l8 l10 l11 l12 l13 l14 l15 l16 uL)) sz)) 0 0 (va_A ((wX5 cI cZ l0 l4 l5 l6 l8 l10 l11 l12 l13 l14 l15 l16 uL)) sz) := by
  refine oM (by decide) (Nat.le_of_ble_eq_true rfl) ?_
  intro p e s m args below meth c S hr hlk hnm hB ls hl
  have hx := S.1
  have hb := S.2.1
  have hml := S.2.2.1
  have hown : s.vm.findClass RX5 = some m.cls := S.2.2.2.1
  have hts := S.2.2.2.2
  have S : CallFix p m c cX5_bestToCall 2 s args lw_all RX5 := S
  have hl : lv_has ls 2 [(0, .ref l0), (1, .int a1)] := hl
  obtain ⟨hsz, hP, hK, hD0⟩ := hB
  subst hsz
  have hD := hD0.self (sz := s.heap.size)
  generalize hAe : va_A ((wX5 cI cZ l0 l4 l5 l6 l8 l10 l11 l12 l13 l14 l15 l16 uL)) s.heap.size = A at hD ⊢
  have hA : ∀ q : Nat, s.heap.size ≤ q → A q := fun q h => by rw [← hAe]; exact Or.inr h
  have hS : va_S A s.heap s.heap [] := va_S.rf
  have hP : va_P (dC, dI) vwCl ((wX5 cI cZ l0 l4 l5 l6 l8 l10 l11 l12 l13 l14 l15 l16 uL)) s.heap := hP
  unfold p_X5_bestToCall at hok
  refine lv_aload_n hx hb dX5_bestToCall_0 rfl (lv_at hl 0 rfl) ?_
  refine lv_iconst (v := (0 : Int32)) hx hb dX5_bestToCall_1 (by decide) ?_
  refine va_put (D := (dC, dI)) (ci := 5) (v := .int (0 : Int32)) (ty := .int) (C := RX5) (T := TX5) (N := 18) hx hb hts inX5 tyX5 tyX5_ok nmX5 hown hK hP hD hS 0 rfl rfl 0 (by decide) (hts _ qf_X5_50) (fun _ h9 => h9) rfl (tyX5_ok 0 (by decide)) rfl rfl (Nat.le_of_ble_eq_true rfl) dX5_bestToCall_2 (fun H locs hP _ hS => ?_)
  have hP : va_P (dC, dI) vwCl ((wX5 cI cZ l0 l4 l5 l6 l8 l10 l11 l12 l13 l14 l15 l16 ((0 : Int32), uL.2.1, uL.2.2.1, uL.2.2.2.1, uL.2.2.2.2.1, uL.2.2.2.2.2.1, uL.2.2.2.2.2.2.1, uL.2.2.2.2.2.2.2.1, uL.2.2.2.2.2.2.2.2.1, uL.2.2.2.2.2.2.2.2.2.1, uL.2.2.2.2.2.2.2.2.2.2.1, uL.2.2.2.2.2.2.2.2.2.2.2.1, uL.2.2.2.2.2.2.2.2.2.2.2.2.1, uL.2.2.2.2.2.2.2.2.2.2.2.2.2.1, uL.2.2.2.2.2.2.2.2.2.2.2.2.2.2.1, uL.2.2.2.2.2.2.2.2.2.2.2.2.2.2.2.1, uL.2.2.2.2.2.2.2.2.2.2.2.2.2.2.2.2.1, uL.2.2.2.2.2.2.2.2.2.2.2.2.2.2.2.2.2))) H := hP
  have hD : va_D A ((wX5 cI cZ l0 l4 l5 l6 l8 l10 l11 l12 l13 l14 l15 l16 ((0 : Int32), uL.2.1, uL.2.2.1, uL.2.2.2.1, uL.2.2.2.2.1, uL.2.2.2.2.2.1, uL.2.2.2.2.2.2.1, uL.2.2.2.2.2.2.2.1, uL.2.2.2.2.2.2.2.2.1, uL.2.2.2.2.2.2.2.2.2.1, uL.2.2.2.2.2.2.2.2.2.2.1, uL.2.2.2.2.2.2.2.2.2.2.2.1, uL.2.2.2.2.2.2.2.2.2.2.2.2.1, uL.2.2.2.2.2.2.2.2.2.2.2.2.2.1, uL.2.2.2.2.2.2.2.2.2.2.2.2.2.2.1, uL.2.2.2.2.2.2.2.2.2.2.2.2.2.2.2.1, uL.2.2.2.2.2.2.2.2.2.2.2.2.2.2.2.2.1, uL.2.2.2.2.2.2.2.2.2.2.2.2.2.2.2.2.2))) := D_L hD
  refine lv_iload_n hx hb dX5_bestToCall_5 rfl (lv_at hl 1 rfl) ?_
  refine lv_iconst (v := (1 : Int32)) hx hb dX5_bestToCall_6 (by decide) ?_
  refine lv_bipush (v := (40 : Int32)) hx hb dX5_bestToCall_7 (by decide) ?_
  obtain ⟨v1, hc1, hok⟩ := bd_some hok
  refine cRSi [.int a1, .int (1 : Int32), .int (40 : Int32)] S hK va_Pnil (c_X5_isIn l dC dI cI cZ a1 (1 : Int32) (40 : Int32) hc1) (lw_S qm_X5_53 qt_X5_isIn qn_X5 qc_X5_isIn) hd_X5_isIn ⟨rfl, rfl⟩ ⟨Nat.le_of_ble_eq_true rfl, Nat.le_of_ble_eq_true rfl⟩ ⟨Nat.le_of_ble_eq_true rfl, Nat.le_of_ble_eq_true rfl⟩ rfl hl.1 (Nat.le_of_ble_eq_true rfl) rfl dX5_bestToCall_9 ?_
  refine lv_if_eq (tgt := 23) hx hb dX5_bestToCall_12 (by decide) (fun hc => ?_) (fun hc => ?_)
  · have hok := ip hok hc
    refine lv_aload_n hx hb dX5_bestToCall_23 rfl (lv_at hl 0 rfl) ?_
    refine lv_iconst (v := (1 : Int32)) hx hb dX5_bestToCall_24 (by decide) ?_
    obtain ⟨v2, hc2, hok⟩ := bd_some hok
    refine cWVi (ci := 5) (q0 := 0) [.int (1 : Int32)] S hK hP hD hS hA (c_X5_fail l dC dI cI cZ l0 l4 l5 l6 l8 l10 l11 l12 l13 l14 l15 l16 _ ((0 : Int32), uL.2.1, uL.2.2.1, uL.2.2.2.1, uL.2.2.2.2.1, uL.2.2.2.2.2.1, uL.2.2.2.2.2.2.1, uL.2.2.2.2.2.2.2.1, uL.2.2.2.2.2.2.2.2.1, uL.2.2.2.2.2.2.2.2.2.1, uL.2.2.2.2.2.2.2.2.2.2.1, uL.2.2.2.2.2.2.2.2.2.2.2.1, uL.2.2.2.2.2.2.2.2.2.2.2.2.1, uL.2.2.2.2.2.2.2.2.2.2.2.2.2.1, uL.2.2.2.2.2.2.2.2.2.2.2.2.2.2.1, uL.2.2.2.2.2.2.2.2.2.2.2.2.2.2.2.1, uL.2.2.2.2.2.2.2.2.2.2.2.2.2.2.2.2.1, uL.2.2.2.2.2.2.2.2.2.2.2.2.2.2.2.2.2) (1 : Int32) hc2) (lw_V qm_X5_112 qi_X5_fail qs_X5_fail qn_X5 qc_X5_fail) hd_X5_fail ⟨rfl, rfl⟩ ⟨Nat.le_of_ble_eq_true rfl, Nat.le_of_ble_eq_true rfl⟩ ⟨Nat.le_of_ble_eq_true rfl, Nat.le_of_ble_eq_true rfl⟩ rfl rfl rfl hl.1 (Nat.le_of_ble_eq_true rfl) rfl dX5_bestToCall_25 (D_L hD) (fun H locs hP hD hS => ?_)
    have hok := Option.some.inj hok
    subst hok
    exact eWi S hr hlk rfl hP hS (Nat.le_of_ble_eq_true rfl) (Nat.le_of_ble_eq_true rfl) dX5_bestToCall_28
  · have hok := iq hok hc
    refine lv_aload_n hx hb dX5_bestToCall_15 rfl (lv_at hl 0 rfl) ?_
    refine lv_iload_n hx hb dX5_bestToCall_16 rfl (lv_at hl 1 rfl) ?_
    obtain ⟨v3, hc3, hok⟩ := bd_some hok
    refine cWVi (ci := 5) (q0 := 0) [.int a1] S hK hP hD hS hA (c_X5_callBest l dC dI cI cZ l0 l4 l5 l6 l8 l10 l11 l12 l13 l14 l15 l16 _ ((0 : Int32), uL.2.1, uL.2.2.1, uL.2.2.2.1, uL.2.2.2.2.1, uL.2.2.2.2.2.1, uL.2.2.2.2.2.2.1, uL.2.2.2.2.2.2.2.1, uL.2.2.2.2.2.2.2.2.1, uL.2.2.2.2.2.2.2.2.2.1, uL.2.2.2.2.2.2.2.2.2.2.1, uL.2.2.2.2.2.2.2.2.2.2.2.1, uL.2.2.2.2.2.2.2.2.2.2.2.2.1, uL.2.2.2.2.2.2.2.2.2.2.2.2.2.1, uL.2.2.2.2.2.2.2.2.2.2.2.2.2.2.1, uL.2.2.2.2.2.2.2.2.2.2.2.2.2.2.2.1, uL.2.2.2.2.2.2.2.2.2.2.2.2.2.2.2.2.1, uL.2.2.2.2.2.2.2.2.2.2.2.2.2.2.2.2.2) a1 hc3) (lw_V qm_X5_197 qi_X5_callBest qs_X5_callBest qn_X5 qc_X5_callBest) hd_X5_callBest ⟨rfl, rfl⟩ ⟨Nat.le_of_ble_eq_true rfl, Nat.le_of_ble_eq_true rfl⟩ ⟨Nat.le_of_ble_eq_true rfl, Nat.le_of_ble_eq_true rfl⟩ rfl rfl rfl hl.1 (Nat.le_of_ble_eq_true rfl) rfl dX5_bestToCall_17 (D_L hD) (fun H locs hP hD hS => ?_)
    refine lv_goto (tgt := 28) hx hb dX5_bestToCall_20 (by decide) ?_
    have hok := Option.some.inj hok
    subst hok
    exact eWi S hr hlk rfl hP hS (Nat.le_of_ble_eq_true rfl) (Nat.le_of_ble_eq_true rfl) dX5_bestToCall_28
theorem hd_X5_allowBest : yX5_allowBest.cls = RX5 ∧ yX5_allowBest.cls ≠ "java/lang/invoke/MethodHandle" ∧ yX5_allowBest.cls ≠ "java/lang/invoke/VarHandle" ∧ (parseMethodDescriptor yX5_allowBest.desc).map (fun d => d.parameters.length) = some 1 := by decide +kernel
def p_X5_allowBest_L19 : Nat → tX5 → Int32 → Int32 → Int32 → Int32 → Int32 → Option (Int32 × tX5)
  | 0, _, _, _, _, _, _ => none
  | n + 1, uL, l19_1, l19_2, l19_3, l19_4, l19_5 =>
    if (8 : Int32) ≤ l19_5 then
      some (l19_2, (uL.1, uL.2.1, uL.2.2.1, l19_4, uL.2.2.2.2.1, uL.2.2.2.2.2.1, uL.2.2.2.2.2.2.1, uL.2.2.2.2.2.2.2.1, uL.2.2.2.2.2.2.2.2.1, uL.2.2.2.2.2.2.2.2.2.1, uL.2.2.2.2.2.2.2.2.2.2.1, uL.2.2.2.2.2.2.2.2.2.2.2.1, uL.2.2.2.2.2.2.2.2.2.2.2.2.1, uL.2.2.2.2.2.2.2.2.2.2.2.2.2.1, uL.2.2.2.2.2.2.2.2.2.2.2.2.2.2.1, uL.2.2.2.2.2.2.2.2.2.2.2.2.2.2.2.1, uL.2.2.2.2.2.2.2.2.2.2.2.2.2.2.2.2.1, uL.2.2.2.2.2.2.2.2.2.2.2.2.2.2.2.2.2))
    else
      bd (p_X5_has l19_4 l19_5) (fun v2 =>
      if v2 = 0 then
        (p_X5_allowBest_L19 n) uL l19_1 l19_2 l19_3 l19_4 (l19_5 + 1)
      else
        bd (p_X5_then (uL.1, uL.2.1, uL.2.2.1, (l19_4 &&& (((1 : Int32) <<< (l19_5 &&& 31)) ^^^ (-1 : Int32))), uL.2.2.2.2.1, uL.2.2.2.2.2.1, uL.2.2.2.2.2.2.1, uL.2.2.2.2.2.2.2.1, uL.2.2.2.2.2.2.2.2.1, uL.2.2.2.2.2.2.2.2.2.1, uL.2.2.2.2.2.2.2.2.2.2.1, uL.2.2.2.2.2.2.2.2.2.2.2.1, uL.2.2.2.2.2.2.2.2.2.2.2.2.1, uL.2.2.2.2.2.2.2.2.2.2.2.2.2.1, uL.2.2.2.2.2.2.2.2.2.2.2.2.2.2.1, uL.2.2.2.2.2.2.2.2.2.2.2.2.2.2.2.1, uL.2.2.2.2.2.2.2.2.2.2.2.2.2.2.2.2.1, uL.2.2.2.2.2.2.2.2.2.2.2.2.2.2.2.2.2) l19_1 (21 : Int32)) (fun v3 =>
        if v3.1 < l19_3 then
          (p_X5_allowBest_L19 n) v3.2 l19_1 l19_5 v3.1 l19_4 (l19_5 + 1)
        else
          (p_X5_allowBest_L19 n) v3.2 l19_1 l19_2 l19_3 l19_4 (l19_5 + 1)))
def p_X5_allowBest (uL : tX5) (a1 : Int32) : Option (Int32 × tX5) :=
  bd (p_X5_then uL a1 (21 : Int32)) (fun v1 =>
  p_X5_allowBest_L19 200 v1.2 a1 (-1 : Int32) v1.1 v1.2.2.2.2.1 (0 : Int32))
set_option maxHeartbeats 4000000 in
set_option maxRecDepth 100000 in
theorem c_X5_allowBest (l : Launch) (dC : Nat → ClassId) (dI : Nat → Nat → Nat) (cI cZ : ClassId) (l0 l4 l5 l6 l8 l10 l11 l12 l13 l14 l15 l16 : Nat) (sz : Nat) (uL : tX5) (a1 : Int32) {z : (Int32 × tX5)} (hok : p_X5_allowBest uL a1 = some z) : Met l yX5_allowBest (Cond.code yX5_allowBest cX5_allowBest 7 (some .int) :: lw_all) { frames := 8, cells := 0, slots := 0, locals := 174 } (prW (dC, dI) vwCl (TYS cI cZ) ((wX5 cI cZ l0 l4 l5 l6 l8 l10 l11 l12 l13 l14 l15 l16 uL)) sz [.ref l0, .int a1]) (va_Qi (fun (r : Int32) (_ : Unit) => r = z.1) (fun _ t => va_P (dC, dI) vwCl ((wX5 cI cZ l0 l4 l5 l6 l8 l10 l11 l12 l13 l14 l15 l16 z.2)) t.heap) (va_A ((wX5 cI cZ l0 l4 l5 l6 l8 l10 l11 l12 l13 l14 l15 l16 uL)) sz)) 0 0 (va_A ((wX5 cI cZ l0 l4 l5 l6 l8 l10 l11 l12 l13 l14 l15 l16 uL)) sz) := by
  refine oM (by decide) (Nat.le_of_ble_eq_true rfl) ?_
  intro p e s m args below meth c S hr hlk hnm hB ls hl
  have hx := S.1
  have hb := S.2.1
  have hml := S.2.2.1
  have hown : s.vm.findClass RX5 = some m.cls := S.2.2.2.1
  have hts := S.2.2.2.2
  have S : CallFix p m c cX5_allowBest 7 s args lw_all RX5 := S
  have hl : lv_has ls 7 [(0, .ref l0), (1, .int a1)] := hl
  obtain ⟨hsz, hP, hK, hD0⟩ := hB
  subst hsz
  have hD := hD0.self (sz := s.heap.size)
  generalize hAe : va_A ((wX5 cI cZ l0 l4 l5 l6 l8 l10 l11 l12 l13 l14 l15 l16 uL)) s.heap.size = A at hD ⊢
  have hA : ∀ q : Nat, s.heap.size ≤ q → A q := fun q h => by rw [← hAe]; exact Or.inr h
  have hS : va_S A s.heap s.heap [] := va_S.rf
  have hP : va_P (dC, dI) vwCl ((wX5 cI cZ l0 l4 l5 l6 l8 l10 l11 l12 l13 l14 l15 l16 uL)) s.heap := hP
  have L19 : ∀ n19 : Nat, ∀ (uL : tX5) (l19_1 : Int32) (l19_2 : Int32) (l19_3 : Int32) (l19_4 : Int32) (l19_5 : Int32) (H : Heap) (locs : List Loc) (hP : va_P (dC, dI) vwCl ((wX5 cI cZ l0 l4 l5 l6 l8 l10 l11 l12 l13 l14 l15 l16 uL)) H) (hD : va_D A ((wX5 cI cZ l0 l4 l5 l6 l8 l10 l11 l12 l13 l14 l15 l16 uL))) (hS : va_S A s.heap H locs) (ls : Array Slot) (hl : lv_has ls 7 [(0, .ref l0), (1, .int l19_1), (2, .int l19_2), (3, .int l19_3), (4, .int l19_4), (5, .int l19_5)]) (hok : p_X5_allowBest_L19 n19 uL l19_1 l19_2 l19_3 l19_4 l19_5 = some z), W p l e { frames := 8, cells := 0, slots := 0, locals := 174 } s m args below meth c H locs 0 0 (MQ below (va_Qi (fun (r : Int32) (_ : Unit) => r = z.1) (fun _ t => va_P (dC, dI) vwCl ((wX5 cI cZ l0 l4 l5 l6 l8 l10 l11 l12 l13 l14 l15 l16 z.2)) t.heap) A) args s 0 0 A) (F0 m 19 ls []) := by
    intro n19
    induction n19 with
    | zero =>
      intro uL l19_1 l19_2 l19_3 l19_4 l19_5 H locs hP hD hS ls hl hok
      rw [p_X5_allowBest_L19] at hok
      cases hok
    | succ n19 ih19 =>
      intro uL l19_1 l19_2 l19_3 l19_4 l19_5 H locs hP hD hS ls hl hok
      rw [p_X5_allowBest_L19] at hok
      refine lv_iload hx hb dX5_allowBest_19 (lv_at hl 5 rfl) ?_
      refine lv_bipush (v := (8 : Int32)) hx hb dX5_allowBest_21 (by decide) ?_
      refine lv_icmp_ge (tgt := 82) hx hb dX5_allowBest_23 (by decide) (fun hc => ?_) (fun hc => ?_)
      · have hok := ip hok hc
        refine lv_aload_n hx hb dX5_allowBest_82 rfl (lv_at hl 0 rfl) ?_
        refine lv_iload hx hb dX5_allowBest_83 (lv_at hl 4 rfl) ?_
        refine va_put (D := (dC, dI)) (ci := 5) (v := .int l19_4) (ty := .int) (C := RX5) (T := TX5) (N := 18) hx hb hts inX5 tyX5 tyX5_ok nmX5 hown hK hP hD hS 0 rfl rfl 3 (by decide) (hts _ qf_X5_86) (fun _ h9 => h9) rfl (tyX5_ok 3 (by decide)) rfl rfl (Nat.le_of_ble_eq_true rfl) dX5_allowBest_85 (fun H locs hP _ hS => ?_)
        have hP : va_P (dC, dI) vwCl ((wX5 cI cZ l0 l4 l5 l6 l8 l10 l11 l12 l13 l14 l15 l16 (uL.1, uL.2.1, uL.2.2.1, l19_4, uL.2.2.2.2.1, uL.2.2.2.2.2.1, uL.2.2.2.2.2.2.1, uL.2.2.2.2.2.2.2.1, uL.2.2.2.2.2.2.2.2.1, uL.2.2.2.2.2.2.2.2.2.1, uL.2.2.2.2.2.2.2.2.2.2.1, uL.2.2.2.2.2.2.2.2.2.2.2.1, uL.2.2.2.2.2.2.2.2.2.2.2.2.1, uL.2.2.2.2.2.2.2.2.2.2.2.2.2.1, uL.2.2.2.2.2.2.2.2.2.2.2.2.2.2.1, uL.2.2.2.2.2.2.2.2.2.2.2.2.2.2.2.1, uL.2.2.2.2.2.2.2.2.2.2.2.2.2.2.2.2.1, uL.2.2.2.2.2.2.2.2.2.2.2.2.2.2.2.2.2))) H := hP
        have hD : va_D A ((wX5 cI cZ l0 l4 l5 l6 l8 l10 l11 l12 l13 l14 l15 l16 (uL.1, uL.2.1, uL.2.2.1, l19_4, uL.2.2.2.2.1, uL.2.2.2.2.2.1, uL.2.2.2.2.2.2.1, uL.2.2.2.2.2.2.2.1, uL.2.2.2.2.2.2.2.2.1, uL.2.2.2.2.2.2.2.2.2.1, uL.2.2.2.2.2.2.2.2.2.2.1, uL.2.2.2.2.2.2.2.2.2.2.2.1, uL.2.2.2.2.2.2.2.2.2.2.2.2.1, uL.2.2.2.2.2.2.2.2.2.2.2.2.2.1, uL.2.2.2.2.2.2.2.2.2.2.2.2.2.2.1, uL.2.2.2.2.2.2.2.2.2.2.2.2.2.2.2.1, uL.2.2.2.2.2.2.2.2.2.2.2.2.2.2.2.2.1, uL.2.2.2.2.2.2.2.2.2.2.2.2.2.2.2.2.2))) := D_L hD
        refine lv_iload_n hx hb dX5_allowBest_88 rfl (lv_at hl 2 rfl) ?_
        have hok := Option.some.inj hok
        subst hok
        exact eWi S hr hlk rfl hP hS (Nat.le_of_ble_eq_true rfl) (Nat.le_of_ble_eq_true rfl) dX5_allowBest_89
      · have hok := iq hok hc
        refine lv_iload hx hb dX5_allowBest_26 (lv_at hl 4 rfl) ?_
        refine lv_iload hx hb dX5_allowBest_28 (lv_at hl 5 rfl) ?_
        obtain ⟨v2, hc2, hok⟩ := bd_some hok
        refine cRSi [.int l19_4, .int l19_5] S hK va_Pnil (c_X5_has l dC dI cI cZ l19_4 l19_5 hc2) (lw_S qm_X5_69 qt_X5_has qn_X5 qc_X5_has) hd_X5_has ⟨rfl, rfl⟩ ⟨Nat.le_of_ble_eq_true rfl, Nat.le_of_ble_eq_true rfl⟩ ⟨Nat.le_of_ble_eq_true rfl, Nat.le_of_ble_eq_true rfl⟩ rfl hl.1 (Nat.le_of_ble_eq_true rfl) rfl dX5_allowBest_30 ?_
        refine lv_if_ne (tgt := 39) hx hb dX5_allowBest_33 (by decide) (fun hc => ?_) (fun hc => ?_)
        · have hok := iq hok hc
          refine lv_aload_n hx hb dX5_allowBest_39 rfl (lv_at hl 0 rfl) ?_
          refine lv_iload hx hb dX5_allowBest_40 (lv_at hl 4 rfl) ?_
          refine lv_iconst (v := (1 : Int32)) hx hb dX5_allowBest_42 (by decide) ?_
          refine lv_iload hx hb dX5_allowBest_43 (lv_at hl 5 rfl) ?_
          refine lv_ishl hx hb dX5_allowBest_45 ?_
          refine lv_iconst (v := (-1 : Int32)) hx hb dX5_allowBest_46 (by decide) ?_
          refine lv_ixor hx hb dX5_allowBest_47 ?_
          refine lv_iand hx hb dX5_allowBest_48 ?_
          refine va_put (D := (dC, dI)) (ci := 5) (v := .int (l19_4 &&& (((1 : Int32) <<< (l19_5 &&& 31)) ^^^ (-1 : Int32)))) (ty := .int) (C := RX5) (T := TX5) (N := 18) hx hb hts inX5 tyX5 tyX5_ok nmX5 hown hK hP hD hS 0 rfl rfl 3 (by decide) (hts _ qf_X5_86) (fun _ h9 => h9) rfl (tyX5_ok 3 (by decide)) rfl rfl (Nat.le_of_ble_eq_true rfl) dX5_allowBest_49 (fun H locs hP _ hS => ?_)
          have hP : va_P (dC, dI) vwCl ((wX5 cI cZ l0 l4 l5 l6 l8 l10 l11 l12 l13 l14 l15 l16 (uL.1, uL.2.1, uL.2.2.1, (l19_4 &&& (((1 : Int32) <<< (l19_5 &&& 31)) ^^^ (-1 : Int32))), uL.2.2.2.2.1, uL.2.2.2.2.2.1, uL.2.2.2.2.2.2.1, uL.2.2.2.2.2.2.2.1, uL.2.2.2.2.2.2.2.2.1, uL.2.2.2.2.2.2.2.2.2.1, uL.2.2.2.2.2.2.2.2.2.2.1, uL.2.2.2.2.2.2.2.2.2.2.2.1, uL.2.2.2.2.2.2.2.2.2.2.2.2.1, uL.2.2.2.2.2.2.2.2.2.2.2.2.2.1, uL.2.2.2.2.2.2.2.2.2.2.2.2.2.2.1, uL.2.2.2.2.2.2.2.2.2.2.2.2.2.2.2.1, uL.2.2.2.2.2.2.2.2.2.2.2.2.2.2.2.2.1, uL.2.2.2.2.2.2.2.2.2.2.2.2.2.2.2.2.2))) H := hP
          have hD : va_D A ((wX5 cI cZ l0 l4 l5 l6 l8 l10 l11 l12 l13 l14 l15 l16 (uL.1, uL.2.1, uL.2.2.1, (l19_4 &&& (((1 : Int32) <<< (l19_5 &&& 31)) ^^^ (-1 : Int32))), uL.2.2.2.2.1, uL.2.2.2.2.2.1, uL.2.2.2.2.2.2.1, uL.2.2.2.2.2.2.2.1, uL.2.2.2.2.2.2.2.2.1, uL.2.2.2.2.2.2.2.2.2.1, uL.2.2.2.2.2.2.2.2.2.2.1, uL.2.2.2.2.2.2.2.2.2.2.2.1, uL.2.2.2.2.2.2.2.2.2.2.2.2.1, uL.2.2.2.2.2.2.2.2.2.2.2.2.2.1, uL.2.2.2.2.2.2.2.2.2.2.2.2.2.2.1, uL.2.2.2.2.2.2.2.2.2.2.2.2.2.2.2.1, uL.2.2.2.2.2.2.2.2.2.2.2.2.2.2.2.2.1, uL.2.2.2.2.2.2.2.2.2.2.2.2.2.2.2.2.2))) := D_L hD
          refine lv_aload_n hx hb dX5_allowBest_52 rfl (lv_at hl 0 rfl) ?_
          refine lv_iload_n hx hb dX5_allowBest_53 rfl (lv_at hl 1 rfl) ?_
          refine lv_bipush (v := (21 : Int32)) hx hb dX5_allowBest_54 (by decide) ?_
          obtain ⟨v3, hc3, hok⟩ := bd_some hok
          refine cWVi (ci := 5) (q0 := 0) [.int l19_1, .int (21 : Int32)] S hK hP hD hS hA (c_X5_then l dC dI cI cZ l0 l4 l5 l6 l8 l10 l11 l12 l13 l14 l15 l16 _ (uL.1, uL.2.1, uL.2.2.1, (l19_4 &&& (((1 : Int32) <<< (l19_5 &&& 31)) ^^^ (-1 : Int32))), uL.2.2.2.2.1, uL.2.2.2.2.2.1, uL.2.2.2.2.2.2.1, uL.2.2.2.2.2.2.2.1, uL.2.2.2.2.2.2.2.2.1, uL.2.2.2.2.2.2.2.2.2.1, uL.2.2.2.2.2.2.2.2.2.2.1, uL.2.2.2.2.2.2.2.2.2.2.2.1, uL.2.2.2.2.2.2.2.2.2.2.2.2.1, uL.2.2.2.2.2.2.2.2.2.2.2.2.2.1, uL.2.2.2.2.2.2.2.2.2.2.2.2.2.2.1, uL.2.2.2.2.2.2.2.2.2.2.2.2.2.2.2.1, uL.2.2.2.2.2.2.2.2.2.2.2.2.2.2.2.2.1, uL.2.2.2.2.2.2.2.2.2.2.2.2.2.2.2.2.2) l19_1 (21 : Int32) hc3) (lw_V qm_X5_194 qi_X5_then qs_X5_then qn_X5 qc_X5_then) hd_X5_then ⟨rfl, rfl⟩ ⟨Nat.le_of_ble_eq_true rfl, Nat.le_of_ble_eq_true rfl⟩ ⟨Nat.le_of_ble_eq_true rfl, Nat.le_of_ble_eq_true rfl⟩ rfl rfl rfl hl.1 (Nat.le_of_ble_eq_true rfl) rfl dX5_allowBest_56 (D_L hD) (fun H locs hP hD hS => ?_)
          refine lv_istore (lv' := [(6, .int v3.1), (0, .ref l0), (1, .int l19_1), (2, .int l19_2), (3, .int l19_3), (4, .int l19_4), (5, .int l19_5)]) hx hb dX5_allowBest_59 hl (by decide) rfl (fun ls hl => ?_)
          refine lv_iload hx hb dX5_allowBest_61 (lv_at hl 0 rfl) ?_
          refine lv_iload_n hx hb dX5_allowBest_63 rfl (lv_at hl 4 rfl) ?_
          refine lv_icmp_lt (tgt := 70) hx hb dX5_allowBest_64 (by decide) (fun hc => ?_) (fun hc => ?_)
          · have hok := ip hok hc
            refine lv_iload hx hb dX5_allowBest_70 (lv_at hl 6 rfl) ?_
            refine lv_istore_n (lv' := [(2, .int l19_5), (6, .int v3.1), (0, .ref l0), (1, .int l19_1), (3, .int l19_3), (4, .int l19_4), (5, .int l19_5)]) hx hb dX5_allowBest_72 rfl hl (by decide) rfl (fun ls hl => ?_)
            refine lv_iload hx hb dX5_allowBest_73 (lv_at hl 1 rfl) ?_
            refine lv_istore_n (lv' := [(3, .int v3.1), (2, .int l19_5), (6, .int v3.1), (0, .ref l0), (1, .int l19_1), (4, .int l19_4), (5, .int l19_5)]) hx hb dX5_allowBest_75 rfl hl (by decide) rfl (fun ls hl => ?_)
            refine lv_iinc (v := (l19_5 + 1)) (lv' := [(5, .int (l19_5 + 1)), (3, .int v3.1), (2, .int l19_5), (6, .int v3.1), (0, .ref l0), (1, .int l19_1), (4, .int l19_4)]) hx hb dX5_allowBest_76 hl (k := 6) rfl rfl (by decide) rfl (fun ls hl => ?_)
            refine lv_goto (tgt := 19) hx hb dX5_allowBest_79 (by decide) ?_
            exact ih19 v3.2 l19_1 l19_5 v3.1 l19_4 (l19_5 + 1) _ _ hP hD hS _ (lv_sub hl [4, 5, 2, 1, 6, 0] rfl) hok
          · have hok := iq hok hc
            refine lv_goto (tgt := 76) hx hb dX5_allowBest_67 (by decide) ?_
            refine lv_iinc (v := (l19_5 + 1)) (lv' := [(5, .int (l19_5 + 1)), (6, .int v3.1), (0, .ref l0), (1, .int l19_1), (2, .int l19_2), (3, .int l19_3), (4, .int l19_4)]) hx hb dX5_allowBest_76 hl (k := 6) rfl rfl (by decide) rfl (fun ls hl => ?_)
            refine lv_goto (tgt := 19) hx hb dX5_allowBest_79 (by decide) ?_
            exact ih19 v3.2 l19_1 l19_2 l19_3 l19_4 (l19_5 + 1) _ _ hP hD hS _ (lv_sub hl [2, 3, 4, 5, 6, 0] rfl) hok
        · have hok := ip hok hc
          refine lv_goto (tgt := 76) hx hb dX5_allowBest_36 (by decide) ?_
          refine lv_iinc (v := (l19_5 + 1)) (lv' := [(5, .int (l19_5 + 1)), (0, .ref l0), (1, .int l19_1), (2, .int l19_2), (3, .int l19_3), (4, .int l19_4)]) hx hb dX5_allowBest_76 hl (k := 5) rfl rfl (by decide) rfl (fun ls hl => ?_)
          refine lv_goto (tgt := 19) hx hb dX5_allowBest_79 (by decide) ?_
          exact ih19 uL l19_1 l19_2 l19_3 l19_4 (l19_5 + 1) _ _ hP hD hS _ (lv_sub hl [1, 2, 3, 4, 5, 0] rfl) hok
  unfold p_X5_allowBest at hok
  refine lv_iconst (v := (-1 : Int32)) hx hb dX5_allowBest_0 (by decide) ?_
  refine lv_istore_n (lv' := [(2, .int (-1 : Int32)), (0, .ref l0), (1, .int a1)]) hx hb dX5_allowBest_1 rfl hl (by decide) rfl (fun ls hl => ?_)
  refine lv_aload_n hx hb dX5_allowBest_2 rfl (lv_at hl 1 rfl) ?_
  refine lv_iload_n hx hb dX5_allowBest_3 rfl (lv_at hl 2 rfl) ?_
  refine lv_bipush (v := (21 : Int32)) hx hb dX5_allowBest_4 (by decide) ?_
  obtain ⟨v1, hc1, hok⟩ := bd_some hok
  refine cWVi (ci := 5) (q0 := 0) [.int a1, .int (21 : Int32)] S hK hP hD hS hA (c_X5_then l dC dI cI cZ l0 l4 l5 l6 l8 l10 l11 l12 l13 l14 l15 l16 _ uL a1 (21 : Int32) hc1) (lw_V qm_X5_194 qi_X5_then qs_X5_then qn_X5 qc_X5_then) hd_X5_then ⟨rfl, rfl⟩ ⟨Nat.le_of_ble_eq_true rfl, Nat.le_of_ble_eq_true rfl⟩ ⟨Nat.le_of_ble_eq_true rfl, Nat.le_of_ble_eq_true rfl⟩ rfl rfl rfl hl.1 (Nat.le_of_ble_eq_true rfl) rfl dX5_allowBest_6 (D_L hD) (fun H locs hP hD hS => ?_)
  refine lv_istore_n (lv' := [(3, .int v1.1), (2, .int (-1 : Int32)), (0, .ref l0), (1, .int a1)]) hx hb dX5_allowBest_9 rfl hl (by decide) rfl (fun ls hl => ?_)
  refine lv_aload_n hx hb dX5_allowBest_10 rfl (lv_at hl 2 rfl) ?_
  refine va_get (D := (dC, dI)) (ci := 5) (v := .int v1.2.2.2.2.1) (C := RX5) (T := TX5) (N := 18) hx hb hts inX5 hown hK hP 0 rfl rfl 3 (by decide) (hts _ qf_X5_86) (fun _ h9 => h9) rfl dX5_allowBest_11 ?_
  refine lv_istore (lv' := [(4, .int v1.2.2.2.2.1), (3, .int v1.1), (2, .int (-1 : Int32)), (0, .ref l0), (1, .int a1)]) hx hb dX5_allowBest_14 hl (by decide) rfl (fun ls hl => ?_)
  refine lv_iconst (v := (0 : Int32)) hx hb dX5_allowBest_16 (by decide) ?_
  refine lv_istore (lv' := [(5, .int (0 : Int32)), (4, .int v1.2.2.2.2.1), (3, .int v1.1), (2, .int (-1 : Int32)), (0, .ref l0), (1, .int a1)]) hx hb dX5_allowBest_17 hl (by decide) rfl (fun ls hl => ?_)
  exact L19 200 v1.2 a1 (-1 : Int32) v1.1 v1.2.2.2.2.1 (0 : Int32) _ _ hP hD hS _ (lv_sub hl [4, 5, 3, 2, 1, 0] rfl) hok
theorem hd_X5_bestToAllow : yX5_bestToAllow.cls = RX5 ∧ yX5_bestToAllow.cls ≠ "java/lang/invoke/MethodHandle" ∧ yX5_bestToAllow.cls ≠ "java/lang/invoke/VarHandle" ∧ (parseMethodDescriptor yX5_bestToAllow.desc).map (fun d => d.parameters.length) = some 1 := by decide +kernel
def p_X5_bestToAllow (uL : tX5) (a1 : Int32) : Option (Int32 × tX5) :=
  bd (p_X5_isIn a1 (1 : Int32) (40 : Int32)) (fun v1 =>
  if v1 = 0 then
    bd (p_X5_fail ((0 : Int32), uL.2.1, uL.2.2.1, uL.2.2.2.1, uL.2.2.2.2.1, uL.2.2.2.2.2.1, uL.2.2.2.2.2.2.1, uL.2.2.2.2.2.2.2.1, uL.2.2.2.2.2.2.2.2.1, uL.2.2.2.2.2.2.2.2.2.1, uL.2.2.2.2.2.2.2.2.2.2.1, uL.2.2.2.2.2.2.2.2.2.2.2.1, uL.2.2.2.2.2.2.2.2.2.2.2.2.1, uL.2.2.2.2.2.2.2.2.2.2.2.2.2.1, uL.2.2.2.2.2.2.2.2.2.2.2.2.2.2.1, uL.2.2.2.2.2.2.2.2.2.2.2.2.2.2.2.1, uL.2.2.2.2.2.2.2.2.2.2.2.2.2.2.2.2.1, uL.2.2.2.2.2.2.2.2.2.2.2.2.2.2.2.2.2) (1 : Int32)) (fun v2 =>
    some (v2.1, v2.2))
  else
    bd (p_X5_allowBest ((0 : Int32), uL.2.1, uL.2.2.1, uL.2.2.2.1, uL.2.2.2.2.1, uL.2.2.2.2.2.1, uL.2.2.2.2.2.2.1, uL.2.2.2.2.2.2.2.1, uL.2.2.2.2.2.2.2.2.1, uL.2.2.2.2.2.2.2.2.2.1, uL.2.2.2.2.2.2.2.2.2.2.1, uL.2.2.2.2.2.2.2.2.2.2.2.1, uL.2.2.2.2.2.2.2.2.2.2.2.2.1, uL.2.2.2.2.2.2.2.2.2.2.2.2.2.1, uL.2.2.2.2.2.2.2.2.2.2.2.2.2.2.1, uL.2.2.2.2.2.2.2.2.2.2.2.2.2.2.2.1, uL.2.2.2.2.2.2.2.2.2.2.2.2.2.2.2.2.1, uL.2.2.2.2.2.2.2.2.2.2.2.2.2.2.2.2.2) a1) (fun v3 =>
    some (v3.1, v3.2)))
set_option maxHeartbeats 4000000 in
set_option maxRecDepth 100000 in
theorem c_X5_bestToAllow (l : Launch) (dC : Nat → ClassId) (dI : Nat → Nat → Nat) (cI cZ : ClassId) (l0 l4 l5 l6 l8 l10 l11 l12 l13 l14 l15 l16 : Nat) (sz : Nat) (uL : tX5) (a1 : Int32) {z : (Int32 × tX5)} (hok : p_X5_bestToAllow uL a1 = some z) : Met l yX5_bestToAllow (Cond.code yX5_bestToAllow cX5_bestToAllow 2 (some .int) :: lw_all) { frames := 9, cells := 0, slots := 0, locals := 200 } (prW (dC, dI) vwCl (TYS cI cZ) ((wX5 cI cZ l0 l4 l5 l6 l8 l10 l11 l12 l13 l14 l15 l16 uL)) sz [.ref l0, .int a1]) (va_Qi (fun (r : Int32) (_ : Unit) => r = z.1) (fun _ t => va_P (dC, dI) vwCl ((wX5 cI cZ l0 l4 l5 l6 l8 l10 l11 l12 l13 l14 l15 l16 z.2)) t.heap) (va_A ((wX5 cI cZ l0 l4 l5 l6 l8 l10 l11 l12 l13 l14 l15 l16 uL)) sz)) 0 0 (va_A ((wX5 cI cZ l0 l4 l5 l6 l8 l10 l11 l12 l13 l14 l15 l16 uL)) sz) := by
  refine oM (by decide) (Nat.le_of_ble_eq_true rfl) ?_
  intro p e s m args below meth c S hr hlk hnm hB ls hl
  have hx := S.1
  have hb := S.2.1
  have hml := S.2.2.1
  have hown : s.vm.findClass RX5 = some m.cls := S.2.2.2.1
  have hts := S.2.2.2.2
  have S : CallFix p m c cX5_bestToAllow 2 s args lw_all RX5 := S
  have hl : lv_has ls 2 [(0, .ref l0), (1, .int a1)] := hl
  obtain ⟨hsz, hP, hK, hD0⟩ := hB
  subst hsz
  have hD := hD0.self (sz := s.heap.size)
  generalize hAe : va_A ((wX5 cI cZ l0 l4 l5 l6 l8 l10 l11 l12 l13 l14 l15 l16 uL)) s.heap.size = A at hD ⊢
  have hA : ∀ q : Nat, s.heap.size ≤ q → A q := fun q h => by rw [← hAe]; exact Or.inr h
  have hS : va_S A s.heap s.heap [] := va_S.rf
  have hP : va_P (dC, dI) vwCl ((wX5 cI cZ l0 l4 l5 l6 l8 l10 l11 l12 l13 l14 l15 l16 uL)) s.heap := hP
  unfold p_X5_bestToAllow at hok
  refine lv_aload_n hx hb dX5_bestToAllow_0 rfl (lv_at hl 0 rfl) ?_
  refine lv_iconst (v := (0 : Int32)) hx hb dX5_bestToAllow_1 (by decide) ?_
  refine va_put (D := (dC, dI)) (ci := 5) (v := .int (0 : Int32)) (ty := .int) (C := RX5) (T := TX5) (N := 18) hx hb hts inX5 tyX5 tyX5_ok nmX5 hown hK hP hD hS 0 rfl rfl 0 (by decide) (hts _ qf_X5_50) (fun _ h9 => h9) rfl (tyX5_ok 0 (by decide)) rfl rfl (Nat.le_of_ble_eq_true rfl) dX5_bestToAllow_2 (fun H locs hP _ hS => ?_)
  have hP : va_P (dC, dI) vwCl ((wX5 cI cZ l0 l4 l5 l6 l8 l10 l11 l12 l13 l14 l15 l16 ((0 : Int32), uL.2.1, uL.2.2.1, uL.2.2.2.1, uL.2.2.2.2.1, uL.2.2.2.2.2.1, uL.2.2.2.2.2.2.1, uL.2.2.2.2.2.2.2.1, uL.2.2.2.2.2.2.2.2.1, uL.2.2.2.2.2.2.2.2.2.1, uL.2.2.2.2.2.2.2.2.2.2.1, uL.2.2.2.2.2.2.2.2.2.2.2.1, uL.2.2.2.2.2.2.2.2.2.2.2.2.1, uL.2.2.2.2.2.2.2.2.2.2.2.2.2.1, uL.2.2.2.2.2.2.2.2.2.2.2.2.2.2.1, uL.2.2.2.2.2.2.2.2.2.2.2.2.2.2.2.1, uL.2.2.2.2.2.2.2.2.2.2.2.2.2.2.2.2.1, uL.2.2.2.2.2.2.2.2.2.2.2.2.2.2.2.2.2))) H := hP
  have hD : va_D A ((wX5 cI cZ l0 l4 l5 l6 l8 l10 l11 l12 l13 l14 l15 l16 ((0 : Int32), uL.2.1, uL.2.2.1, uL.2.2.2.1, uL.2.2.2.2.1, uL.2.2.2.2.2.1, uL.2.2.2.2.2.2.1, uL.2.2.2.2.2.2.2.1, uL.2.2.2.2.2.2.2.2.1, uL.2.2.2.2.2.2.2.2.2.1, uL.2.2.2.2.2.2.2.2.2.2.1, uL.2.2.2.2.2.2.2.2.2.2.2.1, uL.2.2.2.2.2.2.2.2.2.2.2.2.1, uL.2.2.2.2.2.2.2.2.2.2.2.2.2.1, uL.2.2.2.2.2.2.2.2.2.2.2.2.2.2.1, uL.2.2.2.2.2.2.2.2.2.2.2.2.2.2.2.1, uL.2.2.2.2.2.2.2.2.2.2.2.2.2.2.2.2.1, uL.2.2.2.2.2.2.2.2.2.2.2.2.2.2.2.2.2))) := D_L hD
  refine lv_iload_n hx hb dX5_bestToAllow_5 rfl (lv_at hl 1 rfl) ?_
  refine lv_iconst (v := (1 : Int32)) hx hb dX5_bestToAllow_6 (by decide) ?_
  refine lv_bipush (v := (40 : Int32)) hx hb dX5_bestToAllow_7 (by decide) ?_
  obtain ⟨v1, hc1, hok⟩ := bd_some hok
  refine cRSi [.int a1, .int (1 : Int32), .int (40 : Int32)] S hK va_Pnil (c_X5_isIn l dC dI cI cZ a1 (1 : Int32) (40 : Int32) hc1) (lw_S qm_X5_53 qt_X5_isIn qn_X5 qc_X5_isIn) hd_X5_isIn ⟨rfl, rfl⟩ ⟨Nat.le_of_ble_eq_true rfl, Nat.le_of_ble_eq_true rfl⟩ ⟨Nat.le_of_ble_eq_true rfl, Nat.le_of_ble_eq_true rfl⟩ rfl hl.1 (Nat.le_of_ble_eq_true rfl) rfl dX5_bestToAllow_9 ?_
  refine lv_if_eq (tgt := 23) hx hb dX5_bestToAllow_12 (by decide) (fun hc => ?_) (fun hc => ?_)
  · have hok := ip hok hc
    refine lv_aload_n hx hb dX5_bestToAllow_23 rfl (lv_at hl 0 rfl) ?_
    refine lv_iconst (v := (1 : Int32)) hx hb dX5_bestToAllow_24 (by decide) ?_
    obtain ⟨v2, hc2, hok⟩ := bd_some hok
    refine cWVi (ci := 5) (q0 := 0) [.int (1 : Int32)] S hK hP hD hS hA (c_X5_fail l dC dI cI cZ l0 l4 l5 l6 l8 l10 l11 l12 l13 l14 l15 l16 _ ((0 : Int32), uL.2.1, uL.2.2.1, uL.2.2.2.1, uL.2.2.2.2.1, uL.2.2.2.2.2.1, uL.2.2.2.2.2.2.1, uL.2.2.2.2.2.2.2.1, uL.2.2.2.2.2.2.2.2.1, uL.2.2.2.2.2.2.2.2.2.1, uL.2.2.2.2.2.2.2.2.2.2.1, uL.2.2.2.2.2.2.2.2.2.2.2.1, uL.2.2.2.2.2.2.2.2.2.2.2.2.1, uL.2.2.2.2.2.2.2.2.2.2.2.2.2.1, uL.2.2.2.2.2.2.2.2.2.2.2.2.2.2.1, uL.2.2.2.2.2.2.2.2.2.2.2.2.2.2.2.1, uL.2.2.2.2.2.2.2.2.2.2.2.2.2.2.2.2.1, uL.2.2.2.2.2.2.2.2.2.2.2.2.2.2.2.2.2) (1 : Int32) hc2) (lw_V qm_X5_112 qi_X5_fail qs_X5_fail qn_X5 qc_X5_fail) hd_X5_fail ⟨rfl, rfl⟩ ⟨Nat.le_of_ble_eq_true rfl, Nat.le_of_ble_eq_true rfl⟩ ⟨Nat.le_of_ble_eq_true rfl, Nat.le_of_ble_eq_true rfl⟩ rfl rfl rfl hl.1 (Nat.le_of_ble_eq_true rfl) rfl dX5_bestToAllow_25 (D_L hD) (fun H locs hP hD hS => ?_)
    have hok := Option.some.inj hok
    subst hok
    exact eWi S hr hlk rfl hP hS (Nat.le_of_ble_eq_true rfl) (Nat.le_of_ble_eq_true rfl) dX5_bestToAllow_28
  · have hok := iq hok hc
    refine lv_aload_n hx hb dX5_bestToAllow_15 rfl (lv_at hl 0 rfl) ?_
    refine lv_iload_n hx hb dX5_bestToAllow_16 rfl (lv_at hl 1 rfl) ?_
    obtain ⟨v3, hc3, hok⟩ := bd_some hok
    refine cWVi (ci := 5) (q0 := 0) [.int a1] S hK hP hD hS hA (c_X5_allowBest l dC dI cI cZ l0 l4 l5 l6 l8 l10 l11 l12 l13 l14 l15 l16 _ ((0 : Int32), uL.2.1, uL.2.2.1, uL.2.2.2.1, uL.2.2.2.2.1, uL.2.2.2.2.2.1, uL.2.2.2.2.2.2.1, uL.2.2.2.2.2.2.2.1, uL.2.2.2.2.2.2.2.2.1, uL.2.2.2.2.2.2.2.2.2.1, uL.2.2.2.2.2.2.2.2.2.2.1, uL.2.2.2.2.2.2.2.2.2.2.2.1, uL.2.2.2.2.2.2.2.2.2.2.2.2.1, uL.2.2.2.2.2.2.2.2.2.2.2.2.2.1, uL.2.2.2.2.2.2.2.2.2.2.2.2.2.2.1, uL.2.2.2.2.2.2.2.2.2.2.2.2.2.2.2.1, uL.2.2.2.2.2.2.2.2.2.2.2.2.2.2.2.2.1, uL.2.2.2.2.2.2.2.2.2.2.2.2.2.2.2.2.2) a1 hc3) (lw_V qm_X5_200 qi_X5_allowBest qs_X5_allowBest qn_X5 qc_X5_allowBest) hd_X5_allowBest ⟨rfl, rfl⟩ ⟨Nat.le_of_ble_eq_true rfl, Nat.le_of_ble_eq_true rfl⟩ ⟨Nat.le_of_ble_eq_true rfl, Nat.le_of_ble_eq_true rfl⟩ rfl rfl rfl hl.1 (Nat.le_of_ble_eq_true rfl) rfl dX5_bestToAllow_17 (D_L hD) (fun H locs hP hD hS => ?_)
    refine lv_goto (tgt := 28) hx hb dX5_bestToAllow_20 (by decide) ?_
    have hok := Option.some.inj hok
    subst hok
    exact eWi S hr hlk rfl hP hS (Nat.le_of_ble_eq_true rfl) (Nat.le_of_ble_eq_true rfl) dX5_bestToAllow_28
theorem hd_X5_meanWarmth : yX5_meanWarmth.cls = RX5 ∧ yX5_meanWarmth.cls ≠ "java/lang/invoke/MethodHandle" ∧ yX5_meanWarmth.cls ≠ "java/lang/invoke/VarHandle" ∧ (parseMethodDescriptor yX5_meanWarmth.desc).map (fun d => d.parameters.length) = some 0 := by decide +kernel
def p_X5_meanWarmth (uL : tX5) : Option (UInt64 × tX5) :=
  bd (p_X5_ones (uL.2.2.2.2.2.2.2.2.2.2.2.2.2.2.2.1 7)) (fun v1 =>
  if v1 = 0 then
    some (FP.dconst0, ((0 : Int32), uL.2.1, uL.2.2.1, uL.2.2.2.1, uL.2.2.2.2.1, uL.2.2.2.2.2.1, uL.2.2.2.2.2.2.1, uL.2.2.2.2.2.2.2.1, uL.2.2.2.2.2.2.2.2.1, uL.2.2.2.2.2.2.2.2.2.1, uL.2.2.2.2.2.2.2.2.2.2.1, uL.2.2.2.2.2.2.2.2.2.2.2.1, uL.2.2.2.2.2.2.2.2.2.2.2.2.1, uL.2.2.2.2.2.2.2.2.2.2.2.2.2.1, uL.2.2.2.2.2.2.2.2.2.2.2.2.2.2.1, uL.2.2.2.2.2.2.2.2.2.2.2.2.2.2.2.1, uL.2.2.2.2.2.2.2.2.2.2.2.2.2.2.2.2.1, uL.2.2.2.2.2.2.2.2.2.2.2.2.2.2.2.2.2))
  else
    bd (p_X5_warmth ((0 : Int32), uL.2.1, uL.2.2.1, uL.2.2.2.1, uL.2.2.2.2.1, uL.2.2.2.2.2.1, uL.2.2.2.2.2.2.1, uL.2.2.2.2.2.2.2.1, uL.2.2.2.2.2.2.2.2.1, uL.2.2.2.2.2.2.2.2.2.1, uL.2.2.2.2.2.2.2.2.2.2.1, uL.2.2.2.2.2.2.2.2.2.2.2.1, uL.2.2.2.2.2.2.2.2.2.2.2.2.1, uL.2.2.2.2.2.2.2.2.2.2.2.2.2.1, uL.2.2.2.2.2.2.2.2.2.2.2.2.2.2.1, uL.2.2.2.2.2.2.2.2.2.2.2.2.2.2.2.1, uL.2.2.2.2.2.2.2.2.2.2.2.2.2.2.2.2.1, uL.2.2.2.2.2.2.2.2.2.2.2.2.2.2.2.2.2)) (fun v2 =>
    gq ((FP.ddiv (FP.i2d v2) (FP.i2d v1)) &&& 0x7fffffffffffffff ≤ 0x7ff0000000000000) (
    some ((FP.ddiv (FP.i2d v2) (FP.i2d v1)), ((0 : Int32), uL.2.1, uL.2.2.1, uL.2.2.2.1, uL.2.2.2.2.1, uL.2.2.2.2.2.1, uL.2.2.2.2.2.2.1, uL.2.2.2.2.2.2.2.1, uL.2.2.2.2.2.2.2.2.1, uL.2.2.2.2.2.2.2.2.2.1, uL.2.2.2.2.2.2.2.2.2.2.1, uL.2.2.2.2.2.2.2.2.2.2.2.1, uL.2.2.2.2.2.2.2.2.2.2.2.2.1, uL.2.2.2.2.2.2.2.2.2.2.2.2.2.1, uL.2.2.2.2.2.2.2.2.2.2.2.2.2.2.1, uL.2.2.2.2.2.2.2.2.2.2.2.2.2.2.2.1, uL.2.2.2.2.2.2.2.2.2.2.2.2.2.2.2.2.1, uL.2.2.2.2.2.2.2.2.2.2.2.2.2.2.2.2.2)))))
set_option maxHeartbeats 4000000 in
set_option maxRecDepth 100000 in
theorem c_X5_meanWarmth (l : Launch) (dC : Nat → ClassId) (dI : Nat → Nat → Nat) (cI cZ : ClassId) (l0 l4 l5 l6 l8 l10 l11 l12 l13 l14 l15 l16 : Nat) (sz : Nat) (uL : tX5) {z : (UInt64 × tX5)} (hok : p_X5_meanWarmth uL = some z) : Met l yX5_meanWarmth (Cond.code yX5_meanWarmth cX5_meanWarmth 2 (some .double) :: lw_all) { frames := 3, cells := 0, slots := 0, locals := 64 } (prW (dC, dI) vwCl (TYS cI cZ) ((wX5 cI cZ l0 l4 l5 l6 l8 l10 l11 l12 l13 l14 l15 l16 uL)) sz [.ref l0]) (va_Qd (fun (r : UInt64) (_ : Unit) => r = z.1) (fun _ t => va_P (dC, dI) vwCl ((wX5 cI cZ l0 l4 l5 l6 l8 l10 l11 l12 l13 l14 l15 l16 z.2)) t.heap) (va_A ((wX5 cI cZ l0 l4 l5 l6 l8 l10 l11 l12 l13 l14 l15 l16 uL)) sz)) 0 0 (va_A ((wX5 cI cZ l0 l4 l5 l6 l8 l10 l11 l12 l13 l14 l15 l16 uL)) sz) := by
  refine oM (by decide) (Nat.le_of_ble_eq_true rfl) ?_
  intro p e s m args below meth c S hr hlk hnm hB ls hl
  have hx := S.1
  have hb := S.2.1
  have hml := S.2.2.1
  have hown : s.vm.findClass RX5 = some m.cls := S.2.2.2.1
  have hts := S.2.2.2.2
  have S : CallFix p m c cX5_meanWarmth 2 s args lw_all RX5 := S
  have hl : lv_has ls 2 [(0, .ref l0)] := hl
  obtain ⟨hsz, hP, hK, hD0⟩ := hB
  subst hsz
  have hD := hD0.self (sz := s.heap.size)
  generalize hAe : va_A ((wX5 cI cZ l0 l4 l5 l6 l8 l10 l11 l12 l13 l14 l15 l16 uL)) s.heap.size = A at hD ⊢
  have hA : ∀ q : Nat, s.heap.size ≤ q → A q := fun q h => by rw [← hAe]; exact Or.inr h
  have hS : va_S A s.heap s.heap [] := va_S.rf
  have hP : va_P (dC, dI) vwCl ((wX5 cI cZ l0 l4 l5 l6 l8 l10 l11 l12 l13 l14 l15 l16 uL)) s.heap := hP
  unfold p_X5_meanWarmth at hok
  refine lv_aload_n hx hb dX5_meanWarmth_0 rfl (lv_at hl 0 rfl) ?_
  refine lv_iconst (v := (0 : Int32)) hx hb dX5_meanWarmth_1 (by decide) ?_
  refine va_put (D := (dC, dI)) (ci := 5) (v := .int (0 : Int32)) (ty := .int) (C := RX5) (T := TX5) (N := 18) hx hb hts inX5 tyX5 tyX5_ok nmX5 hown hK hP hD hS 0 rfl rfl 0 (by decide) (hts _ qf_X5_50) (fun _ h9 => h9) rfl (tyX5_ok 0 (by decide)) rfl rfl (Nat.le_of_ble_eq_true rfl) dX5_meanWarmth_2 (fun H locs hP _ hS => ?_)
  have hP : va_P (dC, dI) vwCl ((wX5 cI cZ l0 l4 l5 l6 l8 l10 l11 l12 l13 l14 l15 l16 ((0 : Int32), uL.2.1, uL.2.2.1, uL.2.2.2.1, uL.2.2.2.2.1, uL.2.2.2.2.2.1, uL.2.2.2.2.2.2.1, uL.2.2.2.2.2.2.2.1, uL.2.2.2.2.2.2.2.2.1, uL.2.2.2.2.2.2.2.2.2.1, uL.2.2.2.2.2.2.2.2.2.2.1, uL.2.2.2.2.2.2.2.2.2.2.2.1, uL.2.2.2.2.2.2.2.2.2.2.2.2.1, uL.2.2.2.2.2.2.2.2.2.2.2.2.2.1, uL.2.2.2.2.2.2.2.2.2.2.2.2.2.2.1, uL.2.2.2.2.2.2.2.2.2.2.2.2.2.2.2.1, uL.2.2.2.2.2.2.2.2.2.2.2.2.2.2.2.2.1, uL.2.2.2.2.2.2.2.2.2.2.2.2.2.2.2.2.2))) H := hP
  have hD : va_D A ((wX5 cI cZ l0 l4 l5 l6 l8 l10 l11 l12 l13 l14 l15 l16 ((0 : Int32), uL.2.1, uL.2.2.1, uL.2.2.2.1, uL.2.2.2.2.1, uL.2.2.2.2.2.1, uL.2.2.2.2.2.2.1, uL.2.2.2.2.2.2.2.1, uL.2.2.2.2.2.2.2.2.1, uL.2.2.2.2.2.2.2.2.2.1, uL.2.2.2.2.2.2.2.2.2.2.1, uL.2.2.2.2.2.2.2.2.2.2.2.1, uL.2.2.2.2.2.2.2.2.2.2.2.2.1, uL.2.2.2.2.2.2.2.2.2.2.2.2.2.1, uL.2.2.2.2.2.2.2.2.2.2.2.2.2.2.1, uL.2.2.2.2.2.2.2.2.2.2.2.2.2.2.2.1, uL.2.2.2.2.2.2.2.2.2.2.2.2.2.2.2.2.1, uL.2.2.2.2.2.2.2.2.2.2.2.2.2.2.2.2.2))) := D_L hD
  refine lv_aload_n hx hb dX5_meanWarmth_5 rfl (lv_at hl 0 rfl) ?_
  refine va_get (D := (dC, dI)) (ci := 5) (v := .ref l15) (C := RX5) (T := TX5) (N := 18) hx hb hts inX5 hown hK hP 0 rfl rfl 15 (by decide) (hts _ qf_X5_44) (fun _ h9 => h9) rfl dX5_meanWarmth_6 ?_
  refine lv_bipush (v := (7 : Int32)) hx hb dX5_meanWarmth_9 (by decide) ?_
  refine va_ialdK hx hb hK hP 10 0 rfl rfl (j := 7) (by decide) (vp_inK (by decide)) dX5_meanWarmth_11 ?_
  obtain ⟨v1, hc1, hok⟩ := bd_some hok
  refine cRSi [.int (uL.2.2.2.2.2.2.2.2.2.2.2.2.2.2.2.1 7)] S hK va_Pnil (c_X5_ones l dC dI cI cZ (uL.2.2.2.2.2.2.2.2.2.2.2.2.2.2.2.1 7) hc1) (lw_S qm_X5_116 qt_X5_ones qn_X5 qc_X5_ones) hd_X5_ones ⟨rfl, rfl⟩ ⟨Nat.le_of_ble_eq_true rfl, Nat.le_of_ble_eq_true rfl⟩ ⟨Nat.le_of_ble_eq_true rfl, Nat.le_of_ble_eq_true rfl⟩ rfl hl.1 (Nat.le_of_ble_eq_true rfl) rfl dX5_meanWarmth_12 ?_
  refine lv_istore_n (lv' := [(1, .int v1), (0, .ref l0)]) hx hb dX5_meanWarmth_15 rfl hl (by decide) rfl (fun ls hl => ?_)
  refine lv_iload_n hx hb dX5_meanWarmth_16 rfl (lv_at hl 0 rfl) ?_
  refine lv_if_ne (tgt := 24) hx hb dX5_meanWarmth_17 (by decide) (fun hc => ?_) (fun hc => ?_)
  · have hok := iq hok hc
    refine lv_aload_n hx hb dX5_meanWarmth_24 rfl (lv_at hl 1 rfl) ?_
    obtain ⟨v2, hc2, hok⟩ := bd_some hok
    refine cRVi (ci := 5) (q0 := 0) [] S hK hP (c_X5_warmth l dC dI cI cZ l0 l4 l5 l6 l8 l10 l11 l12 l13 l14 l15 l16 ((0 : Int32), uL.2.1, uL.2.2.1, uL.2.2.2.1, uL.2.2.2.2.1, uL.2.2.2.2.2.1, uL.2.2.2.2.2.2.1, uL.2.2.2.2.2.2.2.1, uL.2.2.2.2.2.2.2.2.1, uL.2.2.2.2.2.2.2.2.2.1, uL.2.2.2.2.2.2.2.2.2.2.1, uL.2.2.2.2.2.2.2.2.2.2.2.1, uL.2.2.2.2.2.2.2.2.2.2.2.2.1, uL.2.2.2.2.2.2.2.2.2.2.2.2.2.1, uL.2.2.2.2.2.2.2.2.2.2.2.2.2.2.1, uL.2.2.2.2.2.2.2.2.2.2.2.2.2.2.2.1, uL.2.2.2.2.2.2.2.2.2.2.2.2.2.2.2.2.1, uL.2.2.2.2.2.2.2.2.2.2.2.2.2.2.2.2.2) hc2) (lw_V qm_X5_191 qi_X5_warmth qs_X5_warmth qn_X5 qc_X5_warmth) hd_X5_warmth ⟨rfl, rfl⟩ ⟨Nat.le_of_ble_eq_true rfl, Nat.le_of_ble_eq_true rfl⟩ ⟨Nat.le_of_ble_eq_true rfl, Nat.le_of_ble_eq_true rfl⟩ rfl rfl rfl hl.1 (Nat.le_of_ble_eq_true rfl) rfl dX5_meanWarmth_25 ?_
    refine lv_i2d hx hb dX5_meanWarmth_28 ?_
    refine lv_iload_n hx hb dX5_meanWarmth_29 rfl (lv_at hl 0 rfl) ?_
    refine lv_i2d hx hb dX5_meanWarmth_30 ?_
    obtain ⟨hn3, hok⟩ := gq_some hok
    refine lv_ddiv hx hb dX5_meanWarmth_31 hn3 ?_
    have hok := Option.some.inj hok
    subst hok
    exact eWd S hr hlk rfl hP hS (Nat.le_of_ble_eq_true rfl) (Nat.le_of_ble_eq_true rfl) dX5_meanWarmth_32
  · have hok := ip hok hc
    refine lv_dconst0 hx hb dX5_meanWarmth_20 ?_
    refine lv_goto (tgt := 32) hx hb dX5_meanWarmth_21 (by decide) ?_
    have hok := Option.some.inj hok
    subst hok
    exact eWd S hr hlk rfl hP hS (Nat.le_of_ble_eq_true rfl) (Nat.le_of_ble_eq_true rfl) dX5_meanWarmth_32
