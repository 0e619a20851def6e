theorem hd_X5_thrown : yX5_thrown.cls = RX5 ∧ yX5_thrown.cls ≠ "java/lang/invoke/MethodHandle" ∧ yX5_thrown.cls ≠ "java/lang/invoke/VarHandle" ∧ (parseMethodDescriptor yX5_thrown.desc).map (fun d => d.parameters.length) = some 0 := by decide +kernel
def p_X5_thrown (uL : tX5) : Option Int32 :=
  some uL.2.2.2.1
set_option maxHeartbeats 4000000 in
set_option maxRecDepth 100000 in
theorem c_X5_thrown (l : Launch) (dC : Nat → ClassId) (dI : Nat → Nat → Nat) (cI cZ : ClassId) (l0 l4 l5 l6 l8 l10 l11 l12 l13 l14 l15 l16 : Nat) (uL : tX5) {z : Int32} (hok : p_X5_thrown uL = some z) : Met l yX5_thrown (Cond.code yX5_thrown cX5_thrown 1 (some .int) :: lw_all) { frames := 0, cells := 0, slots := 0, locals := 0 } (prR (dC, dI) vwCl (TYS cI cZ) ((wX5 cI cZ l0 l4 l5 l6 l8 l10 l11 l12 l13 l14 l15 l16 uL)) [.ref l0]) (vp_Si (fun r => r = z)) 0 0 (fun _ => False) := by
  refine oM (by decide) (Nat.le_of_ble_eq_true rfl) ?_
  intro p e s m args below meth c S hr hlk hnm hB ls hl
  have hx := S.1
  have hb := S.2.1
  have hml := S.2.2.1
  have hown : s.vm.findClass RX5 = some m.cls := S.2.2.2.1
  have hts := S.2.2.2.2
  have S : CallFix p m c cX5_thrown 1 s args lw_all RX5 := S
  have hl : lv_has ls 1 [(0, .ref l0)] := hl
  obtain ⟨hP, hK⟩ := hB
  have hP : va_P (dC, dI) vwCl ((wX5 cI cZ l0 l4 l5 l6 l8 l10 l11 l12 l13 l14 l15 l16 uL)) s.heap := hP
  unfold p_X5_thrown at hok
  refine lv_aload_n hx hb dX5_thrown_0 rfl (lv_at hl 0 rfl) ?_
  refine va_get (D := (dC, dI)) (ci := 5) (v := .int uL.2.2.2.1) (C := RX5) (T := TX5) (N := 18) hx hb hts inX5 hown hK hP 0 rfl rfl 0 (by decide) (hts _ qf_X5_50) (fun _ h9 => h9) rfl dX5_thrown_1 ?_
  exact eRi S hr hlk (Option.some.inj hok) dX5_thrown_4
theorem hd_X5_fail : yX5_fail.cls = RX5 ∧ yX5_fail.cls ≠ "java/lang/invoke/MethodHandle" ∧ yX5_fail.cls ≠ "java/lang/invoke/VarHandle" ∧ (parseMethodDescriptor yX5_fail.desc).map (fun d => d.parameters.length) = some 1 := by decide +kernel
def p_X5_fail (uL : tX5) (a1 : Int32) : Option (Int32 × tX5) :=
  some ((0 : Int32), (uL.1, uL.2.1, uL.2.2.1, a1, uL.2.2.2.2))
set_option maxHeartbeats 4000000 in
set_option maxRecDepth 100000 in
theorem c_X5_fail (l : Launch) (dC : Nat → ClassId) (dI : Nat → Nat → Nat) (cI cZ : ClassId) (l0 l4 l5 l6 l8 l10 l11 l12 l13 l14 l15 l16 : Nat) (sz : Nat) (uL : tX5) (a1 : Int32) {z : (Int32 × tX5)} (hok : p_X5_fail uL a1 = some z) : Met l yX5_fail (Cond.code yX5_fail cX5_fail 2 (some .int) :: lw_all) { frames := 0, cells := 0, slots := 0, locals := 0 } (prW (dC, dI) vwCl (TYS cI cZ) ((wX5 cI cZ l0 l4 l5 l6 l8 l10 l11 l12 l13 l14 l15 l16 uL)) sz [.ref l0, .int a1]) (va_Qi (fun (r : Int32) (_ : Unit) => r = z.1) (fun _ t => va_P (dC, dI) vwCl ((wX5 cI cZ l0 l4 l5 l6 l8 l10 l11 l12 l13 l14 l15 l16 z.2)) t.heap) (va_A ((wX5 cI cZ l0 l4 l5 l6 l8 l10 l11 l12 l13 l14 l15 l16 uL)) sz)) 0 0 (va_A ((wX5 cI cZ l0 l4 l5 l6 l8 l10 l11 l12 l13 l14 l15 l16 uL)) sz) := by
  refine oM (by decide) (Nat.le_of_ble_eq_true rfl) ?_
  intro p e s m args below meth c S hr hlk hnm hB ls hl
  have hx := S.1
  have hb := S.2.1
  have hml := S.2.2.1
  have hown : s.vm.findClass RX5 = some m.cls := S.2.2.2.1
  have hts := S.2.2.2.2
  have S : CallFix p m c cX5_fail 2 s args lw_all RX5 := S
  have hl : lv_has ls 2 [(0, .ref l0), (1, .int a1)] := hl
  obtain ⟨hsz, hP, hK, hD0⟩ := hB
  subst hsz
  have hD := hD0.self (sz := s.heap.size)
  generalize hAe : va_A ((wX5 cI cZ l0 l4 l5 l6 l8 l10 l11 l12 l13 l14 l15 l16 uL)) s.heap.size = A at hD ⊢
  have hA : ∀ q : Nat, s.heap.size ≤ q → A q := fun q h => by rw [← hAe]; exact Or.inr h
  have hS : va_S A s.heap s.heap [] := va_S.rf
  have hP : va_P (dC, dI) vwCl ((wX5 cI cZ l0 l4 l5 l6 l8 l10 l11 l12 l13 l14 l15 l16 uL)) s.heap := hP
  unfold p_X5_fail at hok
  refine lv_aload_n hx hb dX5_fail_0 rfl (lv_at hl 0 rfl) ?_
  refine lv_iload_n hx hb dX5_fail_1 rfl (lv_at hl 1 rfl) ?_
  refine va_put (D := (dC, dI)) (ci := 5) (v := .int a1) (ty := .int) (C := RX5) (T := TX5) (N := 18) hx hb hts inX5 tyX5 tyX5_ok nmX5 hown hK hP hD hS 0 rfl rfl 0 (by decide) (hts _ qf_X5_50) (fun _ h9 => h9) rfl (tyX5_ok 0 (by decide)) rfl rfl (Nat.le_of_ble_eq_true rfl) dX5_fail_2 (fun H locs hP _ hS => ?_)
  have hP : va_P (dC, dI) vwCl ((wX5 cI cZ l0 l4 l5 l6 l8 l10 l11 l12 l13 l14 l15 l16 (uL.1, uL.2.1, uL.2.2.1, a1, uL.2.2.2.2))) H := hP
  have hD : va_D A ((wX5 cI cZ l0 l4 l5 l6 l8 l10 l11 l12 l13 l14 l15 l16 (uL.1, uL.2.1, uL.2.2.1, a1, uL.2.2.2.2))) := D_L hD
  refine lv_iconst (v := (0 : Int32)) hx hb dX5_fail_5 (by decide) ?_
  have hok := Option.some.inj hok
  subst hok
  exact eWi S hr hlk rfl hP hS (Nat.le_of_ble_eq_true rfl) (Nat.le_of_ble_eq_true rfl) dX5_fail_6
theorem hd_X5_told : yX5_told.cls = RX5 ∧ yX5_told.cls ≠ "java/lang/invoke/MethodHandle" ∧ yX5_told.cls ≠ "java/lang/invoke/VarHandle" ∧ (parseMethodDescriptor yX5_told.desc).map (fun d => d.parameters.length) = some 1 := by decide +kernel
def p_X5_told (uL : tX5) (a1 : Int32) : Option (Int32 × tX5) :=
  some (a1, (uL.1, uL.2.1, uL.2.2.1, (0 : Int32), uL.2.2.2.2))
set_option maxHeartbeats 4000000 in
set_option maxRecDepth 100000 in
theorem c_X5_told (l : Launch) (dC : Nat → ClassId) (dI : Nat → Nat → Nat) (cI cZ : ClassId) (l0 l4 l5 l6 l8 l10 l11 l12 l13 l14 l15 l16 : Nat) (sz : Nat) (uL : tX5) (a1 : Int32) {z : (Int32 × tX5)} (hok : p_X5_told uL a1 = some z) : Met l yX5_told (Cond.code yX5_told cX5_told 2 (some .int) :: lw_all) { frames := 0, cells := 0, slots := 0, locals := 0 } (prW (dC, dI) vwCl (TYS cI cZ) ((wX5 cI cZ l0 l4 l5 l6 l8 l10 l11 l12 l13 l14 l15 l16 uL)) sz [.ref l0, .int a1]) (va_Qi (fun (r : Int32) (_ : Unit) => r = z.1) (fun _ t => va_P (dC, dI) vwCl ((wX5 cI cZ l0 l4 l5 l6 l8 l10 l11 l12 l13 l14 l15 l16 z.2)) t.heap) (va_A ((wX5 cI cZ l0 l4 l5 l6 l8 l10 l11 l12 l13 l14 l15 l16 uL)) sz)) 0 0 (va_A ((wX5 cI cZ l0 l4 l5 l6 l8 l10 l11 l12 l13 l14 l15 l16 uL)) sz) := by
  refine oM (by decide) (Nat.le_of_ble_eq_true rfl) ?_
  intro p e s m args below meth c S hr hlk hnm hB ls hl
  have hx := S.1
  have hb := S.2.1
  have hml := S.2.2.1
  have hown : s.vm.findClass RX5 = some m.cls := S.2.2.2.1
  have hts := S.2.2.2.2
  have S : CallFix p m c cX5_told 2 s args lw_all RX5 := S
  have hl : lv_has ls 2 [(0, .ref l0), (1, .int a1)] := hl
  obtain ⟨hsz, hP, hK, hD0⟩ := hB
  subst hsz
  have hD := hD0.self (sz := s.heap.size)
  generalize hAe : va_A ((wX5 cI cZ l0 l4 l5 l6 l8 l10 l11 l12 l13 l14 l15 l16 uL)) s.heap.size = A at hD ⊢
  have hA : ∀ q : Nat, s.heap.size ≤ q → A q := fun q h => by rw [← hAe]; exact Or.inr h
  have hS : va_S A s.heap s.heap [] := va_S.rf
  have hP : va_P (dC, dI) vwCl ((wX5 cI cZ l0 l4 l5 l6 l8 l10 l11 l12 l13 l14 l15 l16 uL)) s.heap := hP
  unfold p_X5_told at hok
  refine lv_aload_n hx hb dX5_told_0 rfl (lv_at hl 0 rfl) ?_
  refine lv_iconst (v := (0 : Int32)) hx hb dX5_told_1 (by decide) ?_
  refine va_put (D := (dC, dI)) (ci := 5) (v := .int (0 : Int32)) (ty := .int) (C := RX5) (T := TX5) (N := 18) hx hb hts inX5 tyX5 tyX5_ok nmX5 hown hK hP hD hS 0 rfl rfl 0 (by decide) (hts _ qf_X5_50) (fun _ h9 => h9) rfl (tyX5_ok 0 (by decide)) rfl rfl (Nat.le_of_ble_eq_true rfl) dX5_told_2 (fun H locs hP _ hS => ?_)
  have hP : va_P (dC, dI) vwCl ((wX5 cI cZ l0 l4 l5 l6 l8 l10 l11 l12 l13 l14 l15 l16 (uL.1, uL.2.1, uL.2.2.1, (0 : Int32), uL.2.2.2.2))) H := hP
  have hD : va_D A ((wX5 cI cZ l0 l4 l5 l6 l8 l10 l11 l12 l13 l14 l15 l16 (uL.1, uL.2.1, uL.2.2.1, (0 : Int32), uL.2.2.2.2))) := D_L hD
  refine lv_iload_n hx hb dX5_told_5 rfl (lv_at hl 1 rfl) ?_
  have hok := Option.some.inj hok
  subst hok
  exact eWi S hr hlk rfl hP hS (Nat.le_of_ble_eq_true rfl) (Nat.le_of_ble_eq_true rfl) dX5_told_6
theorem hd_X5_isIn : yX5_isIn.cls ≠ "java/lang/invoke/MethodHandle" ∧ yX5_isIn.cls ≠ "java/lang/invoke/VarHandle" ∧ (parseMethodDescriptor yX5_isIn.desc).map (fun d => d.parameters.length) = some 3 := by decide +kernel
def p_X5_isIn (a1 : Int32) (a2 : Int32) (a3 : Int32) : Option Int32 :=
  if a1 < a2 then
    some (0 : Int32)
  else
    if a3 < a1 then
      some (0 : Int32)
    else
      some (1 : Int32)
set_option maxHeartbeats 4000000 in
set_option maxRecDepth 100000 in
theorem c_X5_isIn (l : Launch) (dC : Nat → ClassId) (dI : Nat → Nat → Nat) (cI cZ : ClassId) (a1 : Int32) (a2 : Int32) (a3 : Int32) {z : Int32} (hok : p_X5_isIn a1 a2 a3 = some z) : Met l yX5_isIn (Cond.code yX5_isIn cX5_isIn 3 (some .boolean) :: lw_all) { frames := 0, cells := 0, slots := 0, locals := 0 } (prR (dC, dI) vwCl (TYS cI cZ) (([] : va_W)) [.int a1, .int a2, .int a3]) (vp_Si (fun r => r = z)) 0 0 (fun _ => False) := by
  refine oM (by decide) (Nat.le_of_ble_eq_true rfl) ?_
  intro p e s m args below meth c S hr hlk hnm hB ls hl
  have hx := S.1
  have hb := S.2.1
  have hml := S.2.2.1
  have hown : s.vm.findClass RX5 = some m.cls := S.2.2.2.1
  have hts := S.2.2.2.2
  have S : CallFix p m c cX5_isIn 3 s args lw_all RX5 := S
  have hl : lv_has ls 3 [(0, .int a1), (1, .int a2), (2, .int a3)] := hl
  obtain ⟨hP, hK⟩ := hB
  have hP : va_P (dC, dI) vwCl (([] : va_W)) s.heap := hP
  unfold p_X5_isIn at hok
  refine lv_iload_n hx hb dX5_isIn_0 rfl (lv_at hl 0 rfl) ?_
  refine lv_iload_n hx hb dX5_isIn_1 rfl (lv_at hl 1 rfl) ?_
  refine lv_icmp_lt (tgt := 14) hx hb dX5_isIn_2 (by decide) (fun hc => ?_) (fun hc => ?_)
  · have hok := ip hok hc
    refine lv_iconst (v := (0 : Int32)) hx hb dX5_isIn_14 (by decide) ?_
    exact eRz S hr hlk (by decide) (Option.some.inj hok) dX5_isIn_15
  · have hok := iq hok hc
    refine lv_iload_n hx hb dX5_isIn_5 rfl (lv_at hl 0 rfl) ?_
    refine lv_iload_n hx hb dX5_isIn_6 rfl (lv_at hl 2 rfl) ?_
    refine lv_icmp_gt (tgt := 14) hx hb dX5_isIn_7 (by decide) (fun hc => ?_) (fun hc => ?_)
    · have hok := ip hok hc
      refine lv_iconst (v := (0 : Int32)) hx hb dX5_isIn_14 (by decide) ?_
      exact eRz S hr hlk (by decide) (Option.some.inj hok) dX5_isIn_15
    · have hok := iq hok hc
      refine lv_iconst (v := (1 : Int32)) hx hb dX5_isIn_10 (by decide) ?_
      refine lv_goto (tgt := 15) hx hb dX5_isIn_11 (by decide) ?_
      exact eRz S hr hlk (by decide) (Option.some.inj hok) dX5_isIn_15
theorem hd_X5_isFloor : yX5_isFloor.cls = RX5 ∧ yX5_isFloor.cls ≠ "java/lang/invoke/MethodHandle" ∧ yX5_isFloor.cls ≠ "java/lang/invoke/VarHandle" ∧ (parseMethodDescriptor yX5_isFloor.desc).map (fun d => d.parameters.length) = some 1 := by decide +kernel
def p_X5_isFloor (uL : tX5) (a1 : Int32) : Option Int32 :=
  bd (p_X5_isIn a1 (0 : Int32) (uL.2.2.2.2.1 - (1 : Int32))) (fun v1 =>
  gq (v1 &&& 1 = v1) (
  some v1))
set_option maxHeartbeats 4000000 in
set_option maxRecDepth 100000 in
theorem c_X5_isFloor (l : Launch) (dC : Nat → ClassId) (dI : Nat → Nat → Nat) (cI cZ : ClassId) (l0 l4 l5 l6 l8 l10 l11 l12 l13 l14 l15 l16 : Nat) (uL : tX5) (a1 : Int32) {z : Int32} (hok : p_X5_isFloor uL a1 = some z) : Met l yX5_isFloor (Cond.code yX5_isFloor cX5_isFloor 2 (some .boolean) :: lw_all) { frames := 1, cells := 0, slots := 0, locals := 22 } (prR (dC, dI) vwCl (TYS cI cZ) ((wX5 cI cZ l0 l4 l5 l6 l8 l10 l11 l12 l13 l14 l15 l16 uL)) [.ref l0, .int a1]) (vp_Si (fun r => r = z)) 0 0 (fun _ => False) := by
  refine oM (by decide) (Nat.le_of_ble_eq_true rfl) ?_
  intro p e s m args below meth c S hr hlk hnm hB ls hl
  have hx := S.1
  have hb := S.2.1
  have hml := S.2.2.1
  have hown : s.vm.findClass RX5 = some m.cls := S.2.2.2.1
  have hts := S.2.2.2.2
  have S : CallFix p m c cX5_isFloor 2 s args lw_all RX5 := S
  have hl : lv_has ls 2 [(0, .ref l0), (1, .int a1)] := hl
  obtain ⟨hP, hK⟩ := hB
  have hP : va_P (dC, dI) vwCl ((wX5 cI cZ l0 l4 l5 l6 l8 l10 l11 l12 l13 l14 l15 l16 uL)) s.heap := hP
  unfold p_X5_isFloor at hok
  refine lv_iload_n hx hb dX5_isFloor_0 rfl (lv_at hl 1 rfl) ?_
  refine lv_iconst (v := (0 : Int32)) hx hb dX5_isFloor_1 (by decide) ?_
  refine lv_aload_n hx hb dX5_isFloor_2 rfl (lv_at hl 0 rfl) ?_
  refine va_get (D := (dC, dI)) (ci := 5) (v := .int uL.2.2.2.2.1) (C := RX5) (T := TX5) (N := 18) hx hb hts inX5 hown hK hP 0 rfl rfl 1 (by decide) (hts _ qf_X5_7) (fun _ h9 => h9) rfl dX5_isFloor_3 ?_
  refine lv_iconst (v := (1 : Int32)) hx hb dX5_isFloor_6 (by decide) ?_
  refine lv_isub hx hb dX5_isFloor_7 ?_
  obtain ⟨v1, hc1, hok⟩ := bd_some hok
  refine cRSi [.int a1, .int (0 : Int32), .int (uL.2.2.2.2.1 - (1 : Int32))] S hK va_Pnil (c_X5_isIn l dC dI cI cZ a1 (0 : Int32) (uL.2.2.2.2.1 - (1 : Int32)) hc1) (lw_S qm_X5_53 qt_X5_isIn qn_X5 qc_X5_isIn) hd_X5_isIn ⟨rfl, rfl⟩ ⟨Nat.le_of_ble_eq_true rfl, Nat.le_of_ble_eq_true rfl⟩ ⟨Nat.le_of_ble_eq_true rfl, Nat.le_of_ble_eq_true rfl⟩ rfl hl.1 (Nat.le_of_ble_eq_true rfl) rfl dX5_isFloor_8 ?_
  obtain ⟨hn2, hok⟩ := gq_some hok
  exact eRz S hr hlk hn2 (Option.some.inj hok) dX5_isFloor_11
theorem hd_X5_isTopic : yX5_isTopic.cls ≠ "java/lang/invoke/MethodHandle" ∧ yX5_isTopic.cls ≠ "java/lang/invoke/VarHandle" ∧ (parseMethodDescriptor yX5_isTopic.desc).map (fun d => d.parameters.length) = some 1 := by decide +kernel
def p_X5_isTopic (a1 : Int32) : Option Int32 :=
  bd (p_X5_isIn a1 (0 : Int32) (7 : Int32)) (fun v1 =>
  gq (v1 &&& 1 = v1) (
  some v1))
set_option maxHeartbeats 4000000 in
set_option maxRecDepth 100000 in
theorem c_X5_isTopic (l : Launch) (dC : Nat → ClassId) (dI : Nat → Nat → Nat) (cI cZ : ClassId) (a1 : Int32) {z : Int32} (hok : p_X5_isTopic a1 = some z) : Met l yX5_isTopic (Cond.code yX5_isTopic cX5_isTopic 1 (some .boolean) :: lw_all) { frames := 1, cells := 0, slots := 0, locals := 22 } (prR (dC, dI) vwCl (TYS cI cZ) (([] : va_W)) [.int a1]) (vp_Si (fun r => r = z)) 0 0 (fun _ => False) := by
  refine oM (by decide) (Nat.le_of_ble_eq_true rfl) ?_
  intro p e s m args below meth c S hr hlk hnm hB ls hl
  have hx := S.1
  have hb := S.2.1
  have hml := S.2.2.1
  have hown : s.vm.findClass RX5 = some m.cls := S.2.2.2.1
  have hts := S.2.2.2.2
  have S : CallFix p m c cX5_isTopic 1 s args lw_all RX5 := S
  have hl : lv_has ls 1 [(0, .int a1)] := hl
  obtain ⟨hP, hK⟩ := hB
  have hP : va_P (dC, dI) vwCl (([] : va_W)) s.heap := hP
  unfold p_X5_isTopic at hok
  refine lv_iload_n hx hb dX5_isTopic_0 rfl (lv_at hl 0 rfl) ?_
  refine lv_iconst (v := (0 : Int32)) hx hb dX5_isTopic_1 (by decide) ?_
  refine lv_bipush (v := (7 : Int32)) hx hb dX5_isTopic_2 (by decide) ?_
  obtain ⟨v1, hc1, hok⟩ := bd_some hok
  refine cRSi [.int a1, .int (0 : Int32), .int (7 : Int32)] S hK va_Pnil (c_X5_isIn l dC dI cI cZ a1 (0 : Int32) (7 : Int32) hc1) (lw_S qm_X5_53 qt_X5_isIn qn_X5 qc_X5_isIn) hd_X5_isIn ⟨rfl, rfl⟩ ⟨Nat.le_of_ble_eq_true rfl, Nat.le_of_ble_eq_true rfl⟩ ⟨Nat.le_of_ble_eq_true rfl, Nat.le_of_ble_eq_true rfl⟩ rfl hl.1 (Nat.le_of_ble_eq_true rfl) rfl dX5_isTopic_4 ?_
  obtain ⟨hn2, hok⟩ := gq_some hok
  exact eRz S hr hlk hn2 (Option.some.inj hok) dX5_isTopic_7
theorem hd_X5_isReader : yX5_isReader.cls = RX5 ∧ yX5_isReader.cls ≠ "java/lang/invoke/MethodHandle" ∧ yX5_isReader.cls ≠ "java/lang/invoke/VarHandle" ∧ (parseMethodDescriptor yX5_isReader.desc).map (fun d => d.parameters.length) = some 1 := by decide +kernel
def p_X5_isReader (uL : tX5) (a1 : Int32) : Option Int32 :=
  bd (p_X5_isIn a1 (0 : Int32) (uL.2.2.2.2.2.2.2.2.2.2.1 - (1 : Int32))) (fun v1 =>
  gq (v1 &&& 1 = v1) (
  some v1))
set_option maxHeartbeats 4000000 in
set_option maxRecDepth 100000 in
theorem c_X5_isReader (l : Launch) (dC : Nat → ClassId) (dI : Nat → Nat → Nat) (cI cZ : ClassId) (l0 l4 l5 l6 l8 l10 l11 l12 l13 l14 l15 l16 : Nat) (uL : tX5) (a1 : Int32) {z : Int32} (hok : p_X5_isReader uL a1 = some z) : Met l yX5_isReader (Cond.code yX5_isReader cX5_isReader 2 (some .boolean) :: lw_all) { frames := 1, cells := 0, slots := 0, locals := 22 } (prR (dC, dI) vwCl (TYS cI cZ) ((wX5 cI cZ l0 l4 l5 l6 l8 l10 l11 l12 l13 l14 l15 l16 uL)) [.ref l0, .int a1]) (vp_Si (fun r => r = z)) 0 0 (fun _ => False) := by
  refine oM (by decide) (Nat.le_of_ble_eq_true rfl) ?_
  intro p e s m args below meth c S hr hlk hnm hB ls hl
  have hx := S.1
  have hb := S.2.1
  have hml := S.2.2.1
  have hown : s.vm.findClass RX5 = some m.cls := S.2.2.2.1
  have hts := S.2.2.2.2
  have S : CallFix p m c cX5_isReader 2 s args lw_all RX5 := S
  have hl : lv_has ls 2 [(0, .ref l0), (1, .int a1)] := hl
  obtain ⟨hP, hK⟩ := hB
  have hP : va_P (dC, dI) vwCl ((wX5 cI cZ l0 l4 l5 l6 l8 l10 l11 l12 l13 l14 l15 l16 uL)) s.heap := hP
  unfold p_X5_isReader at hok
  refine lv_iload_n hx hb dX5_isReader_0 rfl (lv_at hl 1 rfl) ?_
  refine lv_iconst (v := (0 : Int32)) hx hb dX5_isReader_1 (by decide) ?_
  refine lv_aload_n hx hb dX5_isReader_2 rfl (lv_at hl 0 rfl) ?_
  refine va_get (D := (dC, dI)) (ci := 5) (v := .int uL.2.2.2.2.2.2.2.2.2.2.1) (C := RX5) (T := TX5) (N := 18) hx hb hts inX5 hown hK hP 0 rfl rfl 7 (by decide) (hts _ qf_X5_57) (fun _ h9 => h9) rfl dX5_isReader_3 ?_
  refine lv_iconst (v := (1 : Int32)) hx hb dX5_isReader_6 (by decide) ?_
  refine lv_isub hx hb dX5_isReader_7 ?_
  obtain ⟨v1, hc1, hok⟩ := bd_some hok
  refine cRSi [.int a1, .int (0 : Int32), .int (uL.2.2.2.2.2.2.2.2.2.2.1 - (1 : Int32))] S hK va_Pnil (c_X5_isIn l dC dI cI cZ a1 (0 : Int32) (uL.2.2.2.2.2.2.2.2.2.2.1 - (1 : Int32)) hc1) (lw_S qm_X5_53 qt_X5_isIn qn_X5 qc_X5_isIn) hd_X5_isIn ⟨rfl, rfl⟩ ⟨Nat.le_of_ble_eq_true rfl, Nat.le_of_ble_eq_true rfl⟩ ⟨Nat.le_of_ble_eq_true rfl, Nat.le_of_ble_eq_true rfl⟩ rfl hl.1 (Nat.le_of_ble_eq_true rfl) rfl dX5_isReader_8 ?_
  obtain ⟨hn2, hok⟩ := gq_some hok
  exact eRz S hr hlk hn2 (Option.some.inj hok) dX5_isReader_11
theorem hd_X5_isMirror : yX5_isMirror.cls = RX5 ∧ yX5_isMirror.cls ≠ "java/lang/invoke/MethodHandle" ∧ yX5_isMirror.cls ≠ "java/lang/invoke/VarHandle" ∧ (parseMethodDescriptor yX5_isMirror.desc).map (fun d => d.parameters.length) = some 1 := by decide +kernel
def p_X5_isMirror (uL : tX5) (a1 : Int32) : Option Int32 :=
  bd (p_X5_isIn a1 (0 : Int32) (uL.2.2.2.2.2.2.2.2.2.2.2.2.1 - (1 : Int32))) (fun v1 =>
  gq (v1 &&& 1 = v1) (
  some v1))
set_option maxHeartbeats 4000000 in
set_option maxRecDepth 100000 in
theorem c_X5_isMirror (l : Launch) (dC : Nat → ClassId) (dI : Nat → Nat → Nat) (cI cZ : ClassId) (l0 l4 l5 l6 l8 l10 l11 l12 l13 l14 l15 l16 : Nat) (uL : tX5) (a1 : Int32) {z : Int32} (hok : p_X5_isMirror uL a1 = some z) : Met l yX5_isMirror (Cond.code yX5_isMirror cX5_isMirror 2 (some .boolean) :: lw_all) { frames := 1, cells := 0, slots := 0, locals := 22 } (prR (dC, dI) vwCl (TYS cI cZ) ((wX5 cI cZ l0 l4 l5 l6 l8 l10 l11 l12 l13 l14 l15 l16 uL)) [.ref l0, .int a1]) (vp_Si (fun r => r = z)) 0 0 (fun _ => False) := by
  refine oM (by decide) (Nat.le_of_ble_eq_true rfl) ?_
  intro p e s m args below meth c S hr hlk hnm hB ls hl
  have hx := S.1
  have hb := S.2.1
  have hml := S.2.2.1
  have hown : s.vm.findClass RX5 = some m.cls := S.2.2.2.1
  have hts := S.2.2.2.2
  have S : CallFix p m c cX5_isMirror 2 s args lw_all RX5 := S
  have hl : lv_has ls 2 [(0, .ref l0), (1, .int a1)] := hl
  obtain ⟨hP, hK⟩ := hB
  have hP : va_P (dC, dI) vwCl ((wX5 cI cZ l0 l4 l5 l6 l8 l10 l11 l12 l13 l14 l15 l16 uL)) s.heap := hP
  unfold p_X5_isMirror at hok
  refine lv_iload_n hx hb dX5_isMirror_0 rfl (lv_at hl 1 rfl) ?_
  refine lv_iconst (v := (0 : Int32)) hx hb dX5_isMirror_1 (by decide) ?_
  refine lv_aload_n hx hb dX5_isMirror_2 rfl (lv_at hl 0 rfl) ?_
  refine va_get (D := (dC, dI)) (ci := 5) (v := .int uL.2.2.2.2.2.2.2.2.2.2.2.2.1) (C := RX5) (T := TX5) (N := 18) hx hb hts inX5 hown hK hP 0 rfl rfl 9 (by decide) (hts _ qf_X5_60) (fun _ h9 => h9) rfl dX5_isMirror_3 ?_
  refine lv_iconst (v := (1 : Int32)) hx hb dX5_isMirror_6 (by decide) ?_
  refine lv_isub hx hb dX5_isMirror_7 ?_
  obtain ⟨v1, hc1, hok⟩ := bd_some hok
  refine cRSi [.int a1, .int (0 : Int32), .int (uL.2.2.2.2.2.2.2.2.2.2.2.2.1 - (1 : Int32))] S hK va_Pnil (c_X5_isIn l dC dI cI cZ a1 (0 : Int32) (uL.2.2.2.2.2.2.2.2.2.2.2.2.1 - (1 : Int32)) hc1) (lw_S qm_X5_53 qt_X5_isIn qn_X5 qc_X5_isIn) hd_X5_isIn ⟨rfl, rfl⟩ ⟨Nat.le_of_ble_eq_true rfl, Nat.le_of_ble_eq_true rfl⟩ ⟨Nat.le_of_ble_eq_true rfl, Nat.le_of_ble_eq_true rfl⟩ rfl hl.1 (Nat.le_of_ble_eq_true rfl) rfl dX5_isMirror_8 ?_
  obtain ⟨hn2, hok⟩ := gq_some hok
  exact eRz S hr hlk hn2 (Option.some.inj hok) dX5_isMirror_11
theorem hd_X5_isInstalment : yX5_isInstalment.cls = RX5 ∧ yX5_isInstalment.cls ≠ "java/lang/invoke/MethodHandle" ∧ yX5_isInstalment.cls ≠ "java/lang/invoke/VarHandle" ∧ (parseMethodDescriptor yX5_isInstalment.desc).map (fun d => d.parameters.length) = some 1 := by decide +kernel
def p_X5_isInstalment (uL : tX5) (a1 : Int32) : Option Int32 :=
  bd (p_X5_isIn a1 (0 : Int32) ((uL.1 8) - (1 : Int32))) (fun v1 =>
  gq (v1 &&& 1 = v1) (
  some v1))
set_option maxHeartbeats 4000000 in
set_option maxRecDepth 100000 in
theorem c_X5_isInstalment (l : Launch) (dC : Nat → ClassId) (dI : Nat → Nat → Nat) (cI cZ : ClassId) (l0 l4 l5 l6 l8 l10 l11 l12 l13 l14 l15 l16 : Nat) (uL : tX5) (a1 : Int32) {z : Int32} (hok : p_X5_isInstalment uL a1 = some z) : Met l yX5_isInstalment (Cond.code yX5_isInstalment cX5_isInstalment 2 (some .boolean) :: lw_all) { frames := 1, cells := 0, slots := 0, locals := 22 } (prR (dC, dI) vwCl (TYS cI cZ) ((wX5 cI cZ l0 l4 l5 l6 l8 l10 l11 l12 l13 l14 l15 l16 uL)) [.ref l0, .int a1]) (vp_Si (fun r => r = z)) 0 0 (fun _ => False) := by
  refine oM (by decide) (Nat.le_of_ble_eq_true rfl) ?_
  intro p e s m args below meth c S hr hlk hnm hB ls hl
  have hx := S.1
  have hb := S.2.1
  have hml := S.2.2.1
  have hown : s.vm.findClass RX5 = some m.cls := S.2.2.2.1
  have hts := S.2.2.2.2
  have S : CallFix p m c cX5_isInstalment 2 s args lw_all RX5 := S
  have hl : lv_has ls 2 [(0, .ref l0), (1, .int a1)] := hl
  obtain ⟨hP, hK⟩ := hB
  have hP : va_P (dC, dI) vwCl ((wX5 cI cZ l0 l4 l5 l6 l8 l10 l11 l12 l13 l14 l15 l16 uL)) s.heap := hP
  unfold p_X5_isInstalment at hok
  refine lv_iload_n hx hb dX5_isInstalment_0 rfl (lv_at hl 1 rfl) ?_
  refine lv_iconst (v := (0 : Int32)) hx hb dX5_isInstalment_1 (by decide) ?_
  refine lv_aload_n hx hb dX5_isInstalment_2 rfl (lv_at hl 0 rfl) ?_
  refine va_get (D := (dC, dI)) (ci := 5) (v := .ref l15) (C := RX5) (T := TX5) (N := 18) hx hb hts inX5 hown hK hP 0 rfl rfl 15 (by decide) (hts _ qf_X5_44) (fun _ h9 => h9) rfl dX5_isInstalment_3 ?_
  refine lv_bipush (v := (8 : Int32)) hx hb dX5_isInstalment_6 (by decide) ?_
  refine va_ialdK hx hb hK hP 10 0 rfl rfl (j := 8) (by decide) (vp_inK (by decide)) dX5_isInstalment_8 ?_
  refine lv_iconst (v := (1 : Int32)) hx hb dX5_isInstalment_9 (by decide) ?_
  refine lv_isub hx hb dX5_isInstalment_10 ?_
  obtain ⟨v1, hc1, hok⟩ := bd_some hok
  refine cRSi [.int a1, .int (0 : Int32), .int ((uL.1 8) - (1 : Int32))] S hK va_Pnil (c_X5_isIn l dC dI cI cZ a1 (0 : Int32) ((uL.1 8) - (1 : Int32)) hc1) (lw_S qm_X5_53 qt_X5_isIn qn_X5 qc_X5_isIn) hd_X5_isIn ⟨rfl, rfl⟩ ⟨Nat.le_of_ble_eq_true rfl, Nat.le_of_ble_eq_true rfl⟩ ⟨Nat.le_of_ble_eq_true rfl, Nat.le_of_ble_eq_true rfl⟩ rfl hl.1 (Nat.le_of_ble_eq_true rfl) rfl dX5_isInstalment_11 ?_
  obtain ⟨hn2, hok⟩ := gq_some hok
  exact eRz S hr hlk hn2 (Option.some.inj hok) dX5_isInstalment_14
theorem hd_X5_has : yX5_has.cls ≠ "java/lang/invoke/MethodHandle" ∧ yX5_has.cls ≠ "java/lang/invoke/VarHandle" ∧ (parseMethodDescriptor yX5_has.desc).map (fun d => d.parameters.length) = some 2 := by decide +kernel
def p_X5_has (a1 : Int32) (a2 : Int32) : Option Int32 :=
  if ((a1 >>> (a2 &&& 31)) &&& (1 : Int32)) = (1 : Int32) then
    some (1 : Int32)
  else
    some (0 : Int32)
set_option maxHeartbeats 4000000 in
set_option maxRecDepth 100000 in
theorem c_X5_has (l : Launch) (dC : Nat → ClassId) (dI : Nat → Nat → Nat) (cI cZ : ClassId) (a1 : Int32) (a2 : Int32) {z : Int32} (hok : p_X5_has a1 a2 = some z) : Met l yX5_has (Cond.code yX5_has cX5_has 2 (some .boolean) :: lw_all) { frames := 0, cells := 0, slots := 0, locals := 0 } (prR (dC, dI) vwCl (TYS cI cZ) (([] : va_W)) [.int a1, .int a2]) (vp_Si (fun r => r = z)) 0 0 (fun _ => False) := by
  refine oM (by decide) (Nat.le_of_ble_eq_true rfl) ?_
  intro p e s m args below meth c S hr hlk hnm hB ls hl
  have hx := S.1
  have hb := S.2.1
  have hml := S.2.2.1
  have hown : s.vm.findClass RX5 = some m.cls := S.2.2.2.1
  have hts := S.2.2.2.2
  have S : CallFix p m c cX5_has 2 s args lw_all RX5 := S
  have hl : lv_has ls 2 [(0, .int a1), (1, .int a2)] := hl
  obtain ⟨hP, hK⟩ := hB
  have hP : va_P (dC, dI) vwCl (([] : va_W)) s.heap := hP
  unfold p_X5_has at hok
  refine lv_iload_n hx hb dX5_has_0 rfl (lv_at hl 0 rfl) ?_
  refine lv_iload_n hx hb dX5_has_1 rfl (lv_at hl 1 rfl) ?_
  refine lv_ishr hx hb dX5_has_2 ?_
  refine lv_iconst (v := (1 : Int32)) hx hb dX5_has_3 (by decide) ?_
  refine lv_iand hx hb dX5_has_4 ?_
  refine lv_iconst (v := (1 : Int32)) hx hb dX5_has_5 (by decide) ?_
  refine lv_icmp_ne (tgt := 13) hx hb dX5_has_6 (by decide) (fun hc => ?_) (fun hc => ?_)
  · have hok := iq hok hc
    refine lv_iconst (v := (0 : Int32)) hx hb dX5_has_13 (by decide) ?_
    exact eRz S hr hlk (by decide) (Option.some.inj hok) dX5_has_14
  · have hok := ip hok hc
    refine lv_iconst (v := (1 : Int32)) hx hb dX5_has_9 (by decide) ?_
    refine lv_goto (tgt := 14) hx hb dX5_has_10 (by decide) ?_
    exact eRz S hr hlk (by decide) (Option.some.inj hok) dX5_has_14
theorem hd_X5_keep : yX5_keep.cls = RX5 ∧ yX5_keep.cls ≠ "java/lang/invoke/MethodHandle" ∧ yX5_keep.cls ≠ "java/lang/invoke/VarHandle" ∧ (parseMethodDescriptor yX5_keep.desc).map (fun d => d.parameters.length) = some 0 := by decide +kernel
def p_X5_keep (uL : tX5) : Option tX5 :=
  some (uL.1, (va_cpy uL.1 uL.2.1 0 0 41), uL.2.2)
set_option maxHeartbeats 4000000 in
set_option maxRecDepth 100000 in
theorem c_X5_keep (l : Launch) (dC : Nat → ClassId) (dI : Nat → Nat → Nat) (cI cZ : ClassId) (l0 l4 l5 l6 l8 l10 l11 l12 l13 l14 l15 l16 : Nat) (sz : Nat) (uL : tX5) {z : tX5} (hok : p_X5_keep uL = some z) : Met l yX5_keep (Cond.code yX5_keep cX5_keep 1 none :: lw_all) { frames := 1, cells := 0, slots := 0, locals := 40 } (prW (dC, dI) vwCl (TYS cI cZ) ((wX5 cI cZ l0 l4 l5 l6 l8 l10 l11 l12 l13 l14 l15 l16 uL)) sz [.ref l0]) (va_Qv (fun _ : Unit => True) (fun _ t => va_P (dC, dI) vwCl ((wX5 cI cZ l0 l4 l5 l6 l8 l10 l11 l12 l13 l14 l15 l16 z)) t.heap) (va_A ((wX5 cI cZ l0 l4 l5 l6 l8 l10 l11 l12 l13 l14 l15 l16 uL)) sz)) 0 0 (va_A ((wX5 cI cZ l0 l4 l5 l6 l8 l10 l11 l12 l13 l14 l15 l16 uL)) sz) := by
  refine oM (by decide) (Nat.le_of_ble_eq_true rfl) ?_
  intro p e s m args below meth c S hr hlk hnm hB ls hl
  have hx := S.1
  have hb := S.2.1
  have hml := S.2.2.1
  have hown : s.vm.findClass RX5 = some m.cls := S.2.2.2.1
  have hts := S.2.2.2.2
  have S : CallFix p m c cX5_keep 1 s args lw_all RX5 := S
  have hl : lv_has ls 1 [(0, .ref l0)] := hl
  obtain ⟨hsz, hP, hK, hD0⟩ := hB
  subst hsz
  have hD := hD0.self (sz := s.heap.size)
  generalize hAe : va_A ((wX5 cI cZ l0 l4 l5 l6 l8 l10 l11 l12 l13 l14 l15 l16 uL)) s.heap.size = A at hD ⊢
  have hA : ∀ q : Nat, s.heap.size ≤ q → A q := fun q h => by rw [← hAe]; exact Or.inr h
  have hS : va_S A s.heap s.heap [] := va_S.rf
  have hP : va_P (dC, dI) vwCl ((wX5 cI cZ l0 l4 l5 l6 l8 l10 l11 l12 l13 l14 l15 l16 uL)) s.heap := hP
  unfold p_X5_keep at hok
  refine lv_aload_n hx hb dX5_keep_0 rfl (lv_at hl 0 rfl) ?_
  refine va_get (D := (dC, dI)) (ci := 5) (v := .ref l15) (C := RX5) (T := TX5) (N := 18) hx hb hts inX5 hown hK hP 0 rfl rfl 15 (by decide) (hts _ qf_X5_44) (fun _ h9 => h9) rfl dX5_keep_1 ?_
  refine lv_iconst (v := (0 : Int32)) hx hb dX5_keep_4 (by decide) ?_
  refine lv_aload_n hx hb dX5_keep_5 rfl (lv_at hl 0 rfl) ?_
  refine va_get (D := (dC, dI)) (ci := 5) (v := .ref l16) (C := RX5) (T := TX5) (N := 18) hx hb hts inX5 hown hK hP 0 rfl rfl 16 (by decide) (hts _ qf_X5_47) (fun _ h9 => h9) rfl dX5_keep_6 ?_
  refine lv_iconst (v := (0 : Int32)) hx hb dX5_keep_9 (by decide) ?_
  refine lv_bipush (v := (41 : Int32)) hx hb dX5_keep_10 (by decide) ?_
  refine va_copyK hx hb (hml.trans hl.1.symm) hown (hts _ qm_X5_63) (hts _ qz_Cond_native_arraycopyName) (hts _ qt_arraycopyName) (hts _ qn_System) hK hP hD hS 10 11 0 0 rfl rfl rfl rfl (n := 41) (by decide) (by decide) (by decide) (Nat.le_of_ble_eq_true rfl) (Nat.le_of_ble_eq_true rfl) dX5_keep_12 (fun H locs hP _ hS => ?_)
  have hP : va_P (dC, dI) vwCl ((wX5 cI cZ l0 l4 l5 l6 l8 l10 l11 l12 l13 l14 l15 l16 (uL.1, (va_cpy uL.1 uL.2.1 0 0 41), uL.2.2))) H := hP
  have hD : va_D A ((wX5 cI cZ l0 l4 l5 l6 l8 l10 l11 l12 l13 l14 l15 l16 (uL.1, (va_cpy uL.1 uL.2.1 0 0 41), uL.2.2))) := D_L hD
  have hok := Option.some.inj hok
  subst hok
  exact eWv S hr hlk hP hS (Nat.le_of_ble_eq_true rfl) (Nat.le_of_ble_eq_true rfl) dX5_keep_15
theorem hd_X5_bringBack : yX5_bringBack.cls = RX5 ∧ yX5_bringBack.cls ≠ "java/lang/invoke/MethodHandle" ∧ yX5_bringBack.cls ≠ "java/lang/invoke/VarHandle" ∧ (parseMethodDescriptor yX5_bringBack.desc).map (fun d => d.parameters.length) = some 0 := by decide +kernel
def p_X5_bringBack (uL : tX5) : Option tX5 :=
  some ((va_cpy uL.2.1 uL.1 0 0 41), uL.2)
set_option maxHeartbeats 4000000 in
set_option maxRecDepth 100000 in
theorem c_X5_bringBack (l : Launch) (dC : Nat → ClassId) (dI : Nat → Nat → Nat) (cI cZ : ClassId) (l0 l4 l5 l6 l8 l10 l11 l12 l13 l14 l15 l16 : Nat) (sz : Nat) (uL : tX5) {z : tX5} (hok : p_X5_bringBack uL = some z) : Met l yX5_bringBack (Cond.code yX5_bringBack cX5_bringBack 1 none :: lw_all) { frames := 1, cells := 0, slots := 0, locals := 40 } (prW (dC, dI) vwCl (TYS cI cZ) ((wX5 cI cZ l0 l4 l5 l6 l8 l10 l11 l12 l13 l14 l15 l16 uL)) sz [.ref l0]) (va_Qv (fun _ : Unit => True) (fun _ t => va_P (dC, dI) vwCl ((wX5 cI cZ l0 l4 l5 l6 l8 l10 l11 l12 l13 l14 l15 l16 z)) t.heap) (va_A ((wX5 cI cZ l0 l4 l5 l6 l8 l10 l11 l12 l13 l14 l15 l16 uL)) sz)) 0 0 (va_A ((wX5 cI cZ l0 l4 l5 l6 l8 l10 l11 l12 l13 l14 l15 l16 uL)) sz) := by
  refine oM (by decide) (Nat.le_of_ble_eq_true rfl) ?_
  intro p e s m args below meth c S hr hlk hnm hB ls hl
  have hx := S.1
  have hb := S.2.1
  have hml := S.2.2.1
  have hown : s.vm.findClass RX5 = some m.cls := S.2.2.2.1
  have hts := S.2.2.2.2
  have S : CallFix p m c cX5_bringBack 1 s args lw_all RX5 := S
  have hl : lv_has ls 1 [(0, .ref l0)] := hl
  obtain ⟨hsz, hP, hK, hD0⟩ := hB
  subst hsz
  have hD := hD0.self (sz := s.heap.size)
  generalize hAe : va_A ((wX5 cI cZ l0 l4 l5 l6 l8 l10 l11 l12 l13 l14 l15 l16 uL)) s.heap.size = A at hD ⊢
  have hA : ∀ q : Nat, s.heap.size ≤ q → A q := fun q h => by rw [← hAe]; exact Or.inr h
  have hS : va_S A s.heap s.heap [] := va_S.rf
  have hP : va_P (dC, dI) vwCl ((wX5 cI cZ l0 l4 l5 l6 l8 l10 l11 l12 l13 l14 l15 l16 uL)) s.heap := hP
  unfold p_X5_bringBack at hok
  refine lv_aload_n hx hb dX5_bringBack_0 rfl (lv_at hl 0 rfl) ?_
  refine va_get (D := (dC, dI)) (ci := 5) (v := .ref l16) (C := RX5) (T := TX5) (N := 18) hx hb hts inX5 hown hK hP 0 rfl rfl 16 (by decide) (hts _ qf_X5_47) (fun _ h9 => h9) rfl dX5_bringBack_1 ?_
  refine lv_iconst (v := (0 : Int32)) hx hb dX5_bringBack_4 (by decide) ?_
  refine lv_aload_n hx hb dX5_bringBack_5 rfl (lv_at hl 0 rfl) ?_
  refine va_get (D := (dC, dI)) (ci := 5) (v := .ref l15) (C := RX5) (T := TX5) (N := 18) hx hb hts inX5 hown hK hP 0 rfl rfl 15 (by decide) (hts _ qf_X5_44) (fun _ h9 => h9) rfl dX5_bringBack_6 ?_
  refine lv_iconst (v := (0 : Int32)) hx hb dX5_bringBack_9 (by decide) ?_
  refine lv_bipush (v := (41 : Int32)) hx hb dX5_bringBack_10 (by decide) ?_
  refine va_copyK hx hb (hml.trans hl.1.symm) hown (hts _ qm_X5_63) (hts _ qz_Cond_native_arraycopyName) (hts _ qt_arraycopyName) (hts _ qn_System) hK hP hD hS 11 10 0 0 rfl rfl rfl rfl (n := 41) (by decide) (by decide) (by decide) (Nat.le_of_ble_eq_true rfl) (Nat.le_of_ble_eq_true rfl) dX5_bringBack_12 (fun H locs hP _ hS => ?_)
  have hP : va_P (dC, dI) vwCl ((wX5 cI cZ l0 l4 l5 l6 l8 l10 l11 l12 l13 l14 l15 l16 ((va_cpy uL.2.1 uL.1 0 0 41), uL.2))) H := hP
  have hD : va_D A ((wX5 cI cZ l0 l4 l5 l6 l8 l10 l11 l12 l13 l14 l15 l16 ((va_cpy uL.2.1 uL.1 0 0 41), uL.2))) := D_L hD
  have hok := Option.some.inj hok
  subst hok
  exact eWv S hr hlk hP hS (Nat.le_of_ble_eq_true rfl) (Nat.le_of_ble_eq_true rfl) dX5_bringBack_15
theorem hd_X5_reads : yX5_reads.cls = RX5 ∧ yX5_reads.cls ≠ "java/lang/invoke/MethodHandle" ∧ yX5_reads.cls ≠ "java/lang/invoke/VarHandle" ∧ (parseMethodDescriptor yX5_reads.desc).map (fun d => d.parameters.length) = some 1 := by decide +kernel
def p_X5_reads (uL : tX5) (a1 : Int32) : Option Int32 :=
  bd (p_X5_has (uL.1 7) a1) (fun v1 =>
  gq (v1 &&& 1 = v1) (
  some v1))
set_option maxHeartbeats 4000000 in
set_option maxRecDepth 100000 in
theorem c_X5_reads (l : Launch) (dC : Nat → ClassId) (dI : Nat → Nat → Nat) (cI cZ : ClassId) (l0 l4 l5 l6 l8 l10 l11 l12 l13 l14 l15 l16 : Nat) (uL : tX5) (a1 : Int32) {z : Int32} (hok : p_X5_reads uL a1 = some z) : Met l yX5_reads (Cond.code yX5_reads cX5_reads 2 (some .boolean) :: lw_all) { frames := 1, cells := 0, slots := 0, locals := 21 } (prR (dC, dI) vwCl (TYS cI cZ) ((wX5 cI cZ l0 l4 l5 l6 l8 l10 l11 l12 l13 l14 l15 l16 uL)) [.ref l0, .int a1]) (vp_Si (fun r => r = z)) 0 0 (fun _ => False) := by
  refine oM (by decide) (Nat.le_of_ble_eq_true rfl) ?_
  intro p e s m args below meth c S hr hlk hnm hB ls hl
  have hx := S.1
  have hb := S.2.1
  have hml := S.2.2.1
  have hown : s.vm.findClass RX5 = some m.cls := S.2.2.2.1
  have hts := S.2.2.2.2
  have S : CallFix p m c cX5_reads 2 s args lw_all RX5 := S
  have hl : lv_has ls 2 [(0, .ref l0), (1, .int a1)] := hl
  obtain ⟨hP, hK⟩ := hB
  have hP : va_P (dC, dI) vwCl ((wX5 cI cZ l0 l4 l5 l6 l8 l10 l11 l12 l13 l14 l15 l16 uL)) s.heap := hP
  unfold p_X5_reads at hok
  refine lv_aload_n hx hb dX5_reads_0 rfl (lv_at hl 0 rfl) ?_
  refine va_get (D := (dC, dI)) (ci := 5) (v := .ref l15) (C := RX5) (T := TX5) (N := 18) hx hb hts inX5 hown hK hP 0 rfl rfl 15 (by decide) (hts _ qf_X5_44) (fun _ h9 => h9) rfl dX5_reads_1 ?_
  refine lv_bipush (v := (7 : Int32)) hx hb dX5_reads_4 (by decide) ?_
  refine va_ialdK hx hb hK hP 10 0 rfl rfl (j := 7) (by decide) (vp_inK (by decide)) dX5_reads_6 ?_
  refine lv_iload_n hx hb dX5_reads_7 rfl (lv_at hl 1 rfl) ?_
  obtain ⟨v1, hc1, hok⟩ := bd_some hok
  refine cRSi [.int (uL.1 7), .int a1] S hK va_Pnil (c_X5_has l dC dI cI cZ (uL.1 7) a1 hc1) (lw_S qm_X5_69 qt_X5_has qn_X5 qc_X5_has) hd_X5_has ⟨rfl, rfl⟩ ⟨Nat.le_of_ble_eq_true rfl, Nat.le_of_ble_eq_true rfl⟩ ⟨Nat.le_of_ble_eq_true rfl, Nat.le_of_ble_eq_true rfl⟩ rfl hl.1 (Nat.le_of_ble_eq_true rfl) rfl dX5_reads_8 ?_
  obtain ⟨hn2, hok⟩ := gq_some hok
  exact eRz S hr hlk hn2 (Option.some.inj hok) dX5_reads_11
theorem hd_X5_print : yX5_print.cls = RX5 ∧ yX5_print.cls ≠ "java/lang/invoke/MethodHandle" ∧ yX5_print.cls ≠ "java/lang/invoke/VarHandle" ∧ (parseMethodDescriptor yX5_print.desc).map (fun d => d.parameters.length) = some 1 := by decide +kernel
def p_X5_print_J135 (rec78 : tX5 → Int32 → Int32 → Int32 → Option tX5) (uL : tX5) (l135_1 : Int32) (l135_2 : Int32) (l135_3 : Int32) (s135_0 : Int32) (s135_1 : Int32) (s135_2 : Int32) (s135_3 : Int32) : Option tX5 :=
  gd s135_3 41 (
  rec78 ((upd uL.1 s135_3.toNatClampNeg (if (s135_1 + s135_0) < s135_2 then (s135_1 + s135_0) else s135_2)), uL.2) l135_1 l135_2 (l135_3 + 1))
def p_X5_print_L78 : Nat → tX5 → Int32 → Int32 → Int32 → Option tX5
  | 0, _, _, _, _ => none
  | n + 1, uL, l78_1, l78_2, l78_3 =>
    if uL.2.2.2.2.2.2.2.2.2.2.1 ≤ l78_3 then
      some uL
    else
      bd (p_X5_reads uL l78_3) (fun v3 =>
      if v3 = 0 then
        (p_X5_print_L78 n) uL l78_1 l78_2 (l78_3 + 1)
      else
        gd ((33 : Int32) + l78_3) 41 (
        gd l78_1 108 (
        gd l78_3 8 (
        if (uL.2.2.2.2.2.2.2.2.1 l78_1.toNatClampNeg) = (uL.2.2.2.2.2.2.2.2.2.2.2.1 l78_3.toNatClampNeg) then
          p_X5_print_J135 (p_X5_print_L78 n) uL l78_1 l78_2 l78_3 l78_2 (uL.1 ((33 : Int32) + l78_3).toNatClampNeg) (99 : Int32) ((33 : Int32) + l78_3)
        else
          p_X5_print_J135 (p_X5_print_L78 n) uL l78_1 l78_2 l78_3 (l78_2 / (3 : Int32)) (uL.1 ((33 : Int32) + l78_3).toNatClampNeg) (99 : Int32) ((33 : Int32) + l78_3)))))
def p_X5_print (uL : tX5) (a1 : Int32) : Option tX5 :=
  gd a1 108 (
  gd ((upd uL.1 5 (0 : Int32)) 8) 108 (
  p_X5_print_L78 200 ((upd (upd uL.1 5 (0 : Int32)) 8 (((upd uL.1 5 (0 : Int32)) 8) + (1 : Int32))), uL.2.1, uL.2.2.1, uL.2.2.2.1, uL.2.2.2.2.1, uL.2.2.2.2.2.1, uL.2.2.2.2.2.2.1, uL.2.2.2.2.2.2.2.1, uL.2.2.2.2.2.2.2.2.1, uL.2.2.2.2.2.2.2.2.2.1, uL.2.2.2.2.2.2.2.2.2.2.1, uL.2.2.2.2.2.2.2.2.2.2.2.1, uL.2.2.2.2.2.2.2.2.2.2.2.2.1, uL.2.2.2.2.2.2.2.2.2.2.2.2.2.1, uL.2.2.2.2.2.2.2.2.2.2.2.2.2.2.1, (upd uL.2.2.2.2.2.2.2.2.2.2.2.2.2.2.2.1 ((upd uL.1 5 (0 : Int32)) 8).toNatClampNeg a1), (upd uL.2.2.2.2.2.2.2.2.2.2.2.2.2.2.2.2.1 ((upd uL.1 5 (0 : Int32)) 8).toNatClampNeg ((uL.2.2.2.2.2.2.2.2.2.1 a1.toNatClampNeg) + (uL.1 5))), (upd uL.2.2.2.2.2.2.2.2.2.2.2.2.2.2.2.2.2 ((upd uL.1 5 (0 : Int32)) 8).toNatClampNeg ((upd uL.1 5 (0 : Int32)) 0))) a1 ((uL.2.2.2.2.2.2.2.2.2.1 a1.toNatClampNeg) + (uL.1 5)) (0 : Int32)))
set_option maxHeartbeats 4000000 in
set_option maxRecDepth 100000 in
theorem c_X5_print (l : Launch) (dC : Nat → ClassId) (dI : Nat → Nat → Nat) (cI cZ : ClassId) (l0 l4 l5 l6 l8 l10 l11 l12 l13 l14 l15 l16 : Nat) (sz : Nat) (uL : tX5) (a1 : Int32) {z : tX5} (hok : p_X5_print uL a1 = some z) : Met l yX5_print (Cond.code yX5_print cX5_print 4 none :: lw_all) { frames := 2, cells := 0, slots := 0, locals := 42 } (prW (dC, dI) vwCl (TYS cI cZ) ((wX5 cI cZ l0 l4 l5 l6 l8 l10 l11 l12 l13 l14 l15 l16 uL)) sz [.ref l0, .int a1]) (va_Qv (fun _ : Unit => True) (fun _ t => va_P (dC, dI) vwCl ((wX5 cI cZ l0 l4 l5 l6 l8 l10 l11 l12 l13 l14 l15 l16 z)) t.heap) (va_A ((wX5 cI cZ l0 l4 l5 l6 l8 l10 l11 l12 l13 l14 l15 l16 uL)) sz)) 0 0 (va_A ((wX5 cI cZ l0 l4 l5 l6 l8 l10 l11 l12 l13 l14 l15 l16 uL)) sz) := by
  refine oM (by decide) (Nat.le_of_ble_eq_true rfl) ?_
  intro p e s m args below meth c S hr hlk hnm hB ls hl
  have hx := S.1
  have hb := S.2.1
  have hml := S.2.2.1
  have hown : s.vm.findClass RX5 = some m.cls := S.2.2.2.1
  have hts := S.2.2.2.2
  have S : CallFix p m c cX5_print 4 s args lw_all RX5 := S
  have hl : lv_has ls 4 [(0, .ref l0), (1, .int a1)] := hl
  obtain ⟨hsz, hP, hK, hD0⟩ := hB
  subst hsz
  have hD := hD0.self (sz := s.heap.size)
  generalize hAe : va_A ((wX5 cI cZ l0 l4 l5 l6 l8 l10 l11 l12 l13 l14 l15 l16 uL)) s.heap.size = A at hD ⊢
  have hA : ∀ q : Nat, s.heap.size ≤ q → A q := fun q h => by rw [← hAe]; exact Or.inr h
  have hS : va_S A s.heap s.heap [] := va_S.rf
  have hP : va_P (dC, dI) vwCl ((wX5 cI cZ l0 l4 l5 l6 l8 l10 l11 l12 l13 l14 l15 l16 uL)) s.heap := hP
  have L78 : ∀ n78 : Nat, ∀ (uL : tX5) (l78_1 : Int32) (l78_2 : Int32) (l78_3 : Int32) (H : Heap) (locs : List Loc) (hP : va_P (dC, dI) vwCl ((wX5 cI cZ l0 l4 l5 l6 l8 l10 l11 l12 l13 l14 l15 l16 uL)) H) (hD : va_D A ((wX5 cI cZ l0 l4 l5 l6 l8 l10 l11 l12 l13 l14 l15 l16 uL))) (hS : va_S A s.heap H locs) (ls : Array Slot) (hl : lv_has ls 4 [(0, .ref l0), (1, .int l78_1), (2, .int l78_2), (3, .int l78_3)]) (hok : p_X5_print_L78 n78 uL l78_1 l78_2 l78_3 = some z), W p l e { frames := 2, cells := 0, slots := 0, locals := 42 } s m args below meth c H locs 0 0 (MQ below (va_Qv (fun _ : Unit => True) (fun _ t => va_P (dC, dI) vwCl ((wX5 cI cZ l0 l4 l5 l6 l8 l10 l11 l12 l13 l14 l15 l16 z)) t.heap) A) args s 0 0 A) (F0 m 78 ls []) := by
    intro n78
    induction n78 with
    | zero =>
      intro uL l78_1 l78_2 l78_3 H locs hP hD hS ls hl hok
      rw [p_X5_print_L78] at hok
      cases hok
    | succ n78 ih78 =>
      have J135 : ∀ (uL : tX5) (l135_1 : Int32) (l135_2 : Int32) (l135_3 : Int32) (s135_0 : Int32) (s135_1 : Int32) (s135_2 : Int32) (s135_3 : Int32) (H : Heap) (locs : List Loc) (hP : va_P (dC, dI) vwCl ((wX5 cI cZ l0 l4 l5 l6 l8 l10 l11 l12 l13 l14 l15 l16 uL)) H) (hD : va_D A ((wX5 cI cZ l0 l4 l5 l6 l8 l10 l11 l12 l13 l14 l15 l16 uL))) (hS : va_S A s.heap H locs) (ls : Array Slot) (hl : lv_has ls 4 [(0, .ref l0), (1, .int l135_1), (2, .int l135_2), (3, .int l135_3)]) (hok : p_X5_print_J135 (p_X5_print_L78 n78) uL l135_1 l135_2 l135_3 s135_0 s135_1 s135_2 s135_3 = some z), W p l e { frames := 2, cells := 0, slots := 0, locals := 42 } s m args below meth c H locs 0 0 (MQ below (va_Qv (fun _ : Unit => True) (fun _ t => va_P (dC, dI) vwCl ((wX5 cI cZ l0 l4 l5 l6 l8 l10 l11 l12 l13 l14 l15 l16 z)) t.heap) A) args s 0 0 A) (F0 m 135 ls [.int s135_0, .int s135_1, .int s135_2, .int s135_3, .ref l15]) := by
        intro uL l135_1 l135_2 l135_3 s135_0 s135_1 s135_2 s135_3 H locs hP hD hS ls hl hok
        unfold p_X5_print_J135 at hok
        refine lv_iadd hx hb dX5_print_135 ?_
        refine va_mmin hx hb (hml.trans hl.1.symm) hown (hts _ qm_X5_77) (hts _ qt_Math_min) (hts _ qn_Math) (hts _ qc_Math_min) (Nat.le_of_ble_eq_true rfl) (Nat.le_of_ble_eq_true rfl) (Nat.le_of_ble_eq_true rfl) (Nat.le_of_ble_eq_true rfl) dX5_print_136 ?_
        obtain ⟨hi7, hok⟩ := gd_some hok
        refine va_iast hx hb hK hP hD hS 10 0 rfl rfl hi7 dX5_print_139 (fun H locs hP _ hS => ?_)
        have hP : va_P (dC, dI) vwCl ((wX5 cI cZ l0 l4 l5 l6 l8 l10 l11 l12 l13 l14 l15 l16 ((upd uL.1 s135_3.toNatClampNeg (if (s135_1 + s135_0) < s135_2 then (s135_1 + s135_0) else s135_2)), uL.2))) H := hP
        have hD : va_D A ((wX5 cI cZ l0 l4 l5 l6 l8 l10 l11 l12 l13 l14 l15 l16 ((upd uL.1 s135_3.toNatClampNeg (if (s135_1 + s135_0) < s135_2 then (s135_1 + s135_0) else s135_2)), uL.2))) := D_L hD
        refine lv_iinc (v := (l135_3 + 1)) (lv' := [(3, .int (l135_3 + 1)), (0, .ref l0), (1, .int l135_1), (2, .int l135_2)]) hx hb dX5_print_140 hl (k := 3) rfl rfl (by decide) rfl (fun ls hl => ?_)
        refine lv_goto (tgt := 78) hx hb dX5_print_143 (by decide) ?_
        exact ih78 ((upd uL.1 s135_3.toNatClampNeg (if (s135_1 + s135_0) < s135_2 then (s135_1 + s135_0) else s135_2)), uL.2) l135_1 l135_2 (l135_3 + 1) _ _ hP hD hS _ (lv_sub hl [1, 2, 3, 0] rfl) hok
      intro uL l78_1 l78_2 l78_3 H locs hP hD hS ls hl hok
      rw [p_X5_print_L78] at hok
      refine lv_iload_n hx hb dX5_print_78 rfl (lv_at hl 3 rfl) ?_
      refine lv_aload_n hx hb dX5_print_79 rfl (lv_at hl 0 rfl) ?_
      refine va_get (D := (dC, dI)) (ci := 5) (v := .int uL.2.2.2.2.2.2.2.2.2.2.1) (C := RX5) (T := TX5) (N := 18) hx hb hts inX5 hown hK hP 0 rfl rfl 7 (by decide) (hts _ qf_X5_57) (fun _ h9 => h9) rfl dX5_print_80 ?_
      refine lv_icmp_ge (tgt := 146) hx hb dX5_print_83 (by decide) (fun hc => ?_) (fun hc => ?_)
      · have hok := ip hok hc
        have hok := Option.some.inj hok
        subst hok
        exact eWv S hr hlk hP hS (Nat.le_of_ble_eq_true rfl) (Nat.le_of_ble_eq_true rfl) dX5_print_146
      · have hok := iq hok hc
        refine lv_aload_n hx hb dX5_print_86 rfl (lv_at hl 0 rfl) ?_
        refine lv_iload_n hx hb dX5_print_87 rfl (lv_at hl 3 rfl) ?_
        obtain ⟨v3, hc3, hok⟩ := bd_some hok
        refine cRVi (ci := 5) (q0 := 0) [.int l78_3] S hK hP (c_X5_reads l dC dI cI cZ l0 l4 l5 l6 l8 l10 l11 l12 l13 l14 l15 l16 uL l78_3 hc3) (lw_V qm_X5_73 qi_X5_reads qs_X5_reads qn_X5 qc_X5_reads) hd_X5_reads ⟨rfl, rfl⟩ ⟨Nat.le_of_ble_eq_true rfl, Nat.le_of_ble_eq_true rfl⟩ ⟨Nat.le_of_ble_eq_true rfl, Nat.le_of_ble_eq_true rfl⟩ rfl rfl rfl hl.1 (Nat.le_of_ble_eq_true rfl) rfl dX5_print_88 ?_
        refine lv_if_eq (tgt := 140) hx hb dX5_print_91 (by decide) (fun hc => ?_) (fun hc => ?_)
        · have hok := ip hok hc
          refine lv_iinc (v := (l78_3 + 1)) (lv' := [(3, .int (l78_3 + 1)), (0, .ref l0), (1, .int l78_1), (2, .int l78_2)]) hx hb dX5_print_140 hl (k := 3) rfl rfl (by decide) rfl (fun ls hl => ?_)
          refine lv_goto (tgt := 78) hx hb dX5_print_143 (by decide) ?_
          exact ih78 uL l78_1 l78_2 (l78_3 + 1) _ _ hP hD hS _ (lv_sub hl [1, 2, 3, 0] rfl) hok
        · have hok := iq hok hc
          refine lv_aload_n hx hb dX5_print_94 rfl (lv_at hl 0 rfl) ?_
          refine va_get (D := (dC, dI)) (ci := 5) (v := .ref l15) (C := RX5) (T := TX5) (N := 18) hx hb hts inX5 hown hK hP 0 rfl rfl 15 (by decide) (hts _ qf_X5_44) (fun _ h9 => h9) rfl dX5_print_95 ?_
          refine lv_bipush (v := (33 : Int32)) hx hb dX5_print_98 (by decide) ?_
          refine lv_iload_n hx hb dX5_print_100 rfl (lv_at hl 3 rfl) ?_
          refine lv_iadd hx hb dX5_print_101 ?_
          refine lv_bipush (v := (99 : Int32)) hx hb dX5_print_102 (by decide) ?_
          refine lv_aload_n hx hb dX5_print_104 rfl (lv_at hl 0 rfl) ?_
          refine va_get (D := (dC, dI)) (ci := 5) (v := .ref l15) (C := RX5) (T := TX5) (N := 18) hx hb hts inX5 hown hK hP 0 rfl rfl 15 (by decide) (hts _ qf_X5_44) (fun _ h9 => h9) rfl dX5_print_105 ?_
          refine lv_bipush (v := (33 : Int32)) hx hb dX5_print_108 (by decide) ?_
          refine lv_iload_n hx hb dX5_print_110 rfl (lv_at hl 3 rfl) ?_
          refine lv_iadd hx hb dX5_print_111 ?_
          obtain ⟨hi4, hok⟩ := gd_some hok
          refine va_iald hx hb hK hP 10 0 rfl rfl hi4 dX5_print_112 ?_
          refine lv_aload_n hx hb dX5_print_113 rfl (lv_at hl 0 rfl) ?_
          refine va_get (D := (dC, dI)) (ci := 5) (v := .ref l5) (C := RX5) (T := TX5) (N := 18) hx hb hts inX5 hown hK hP 0 rfl rfl 5 (by decide) (hts _ qf_X5_20) (fun _ h9 => h9) rfl dX5_print_114 ?_
          refine lv_iload_n hx hb dX5_print_117 rfl (lv_at hl 1 rfl) ?_
          obtain ⟨hi5, hok⟩ := gd_some hok
          refine va_iald hx hb hK hP 2 0 rfl rfl hi5 dX5_print_118 ?_
          refine lv_aload_n hx hb dX5_print_119 rfl (lv_at hl 0 rfl) ?_
          refine va_get (D := (dC, dI)) (ci := 5) (v := .ref l8) (C := RX5) (T := TX5) (N := 18) hx hb hts inX5 hown hK hP 0 rfl rfl 8 (by decide) (hts _ qf_X5_26) (fun _ h9 => h9) rfl dX5_print_120 ?_
          refine lv_iload_n hx hb dX5_print_123 rfl (lv_at hl 3 rfl) ?_
          obtain ⟨hi6, hok⟩ := gd_some hok
          refine va_iald hx hb hK hP 4 0 rfl rfl hi6 dX5_print_124 ?_
          refine lv_icmp_ne (tgt := 132) hx hb dX5_print_125 (by decide) (fun hc => ?_) (fun hc => ?_)
          · have hok := iq hok hc
            refine lv_iload_n hx hb dX5_print_132 rfl (lv_at hl 2 rfl) ?_
            refine lv_iconst (v := (3 : Int32)) hx hb dX5_print_133 (by decide) ?_
            refine lv_idiv hx hb dX5_print_134 (by decide) ?_
            exact J135 uL l78_1 l78_2 l78_3 (l78_2 / (3 : Int32)) (uL.1 ((33 : Int32) + l78_3).toNatClampNeg) (99 : Int32) ((33 : Int32) + l78_3) _ _ hP hD hS _ hl hok
          · have hok := ip hok hc
            refine lv_iload_n hx hb dX5_print_128 rfl (lv_at hl 2 rfl) ?_
            refine lv_goto (tgt := 135) hx hb dX5_print_129 (by decide) ?_
            exact J135 uL l78_1 l78_2 l78_3 l78_2 (uL.1 ((33 : Int32) + l78_3).toNatClampNeg) (99 : Int32) ((33 : Int32) + l78_3) _ _ hP hD hS _ hl hok
  unfold p_X5_print at hok
  refine lv_aload_n hx hb dX5_print_0 rfl (lv_at hl 0 rfl) ?_
  refine va_get (D := (dC, dI)) (ci := 5) (v := .ref l6) (C := RX5) (T := TX5) (N := 18) hx hb hts inX5 hown hK hP 0 rfl rfl 6 (by decide) (hts _ qf_X5_23) (fun _ h9 => h9) rfl dX5_print_1 ?_
  refine lv_iload_n hx hb dX5_print_4 rfl (lv_at hl 1 rfl) ?_
  obtain ⟨hi1, hok⟩ := gd_some hok
  refine va_iald hx hb hK hP 3 0 rfl rfl hi1 dX5_print_5 ?_
  refine lv_aload_n hx hb dX5_print_6 rfl (lv_at hl 0 rfl) ?_
  refine va_get (D := (dC, dI)) (ci := 5) (v := .ref l15) (C := RX5) (T := TX5) (N := 18) hx hb hts inX5 hown hK hP 0 rfl rfl 15 (by decide) (hts _ qf_X5_44) (fun _ h9 => h9) rfl dX5_print_7 ?_
  refine lv_iconst (v := (5 : Int32)) hx hb dX5_print_10 (by decide) ?_
  refine va_ialdK hx hb hK hP 10 0 rfl rfl (j := 5) (by decide) (vp_inK (by decide)) dX5_print_11 ?_
  refine lv_iadd hx hb dX5_print_12 ?_
  refine lv_istore_n (lv' := [(2, .int ((uL.2.2.2.2.2.2.2.2.2.1 a1.toNatClampNeg) + (uL.1 5))), (0, .ref l0), (1, .int a1)]) hx hb dX5_print_13 rfl hl (by decide) rfl (fun ls hl => ?_)
  refine lv_aload_n hx hb dX5_print_14 rfl (lv_at hl 1 rfl) ?_
  refine va_get (D := (dC, dI)) (ci := 5) (v := .ref l15) (C := RX5) (T := TX5) (N := 18) hx hb hts inX5 hown hK hP 0 rfl rfl 15 (by decide) (hts _ qf_X5_44) (fun _ h9 => h9) rfl dX5_print_15 ?_
  refine lv_iconst (v := (5 : Int32)) hx hb dX5_print_18 (by decide) ?_
  refine lv_iconst (v := (0 : Int32)) hx hb dX5_print_19 (by decide) ?_
  refine va_iastK hx hb hK hP hD hS 10 0 rfl rfl (j := 5) (by decide) (vp_inK (by decide)) dX5_print_20 (fun H locs hP _ hS => ?_)
  have hP : va_P (dC, dI) vwCl ((wX5 cI cZ l0 l4 l5 l6 l8 l10 l11 l12 l13 l14 l15 l16 ((upd uL.1 5 (0 : Int32)), uL.2))) H := hP
  have hD : va_D A ((wX5 cI cZ l0 l4 l5 l6 l8 l10 l11 l12 l13 l14 l15 l16 ((upd uL.1 5 (0 : Int32)), uL.2))) := D_L hD
  refine lv_aload_n hx hb dX5_print_21 rfl (lv_at hl 1 rfl) ?_
  refine va_get (D := (dC, dI)) (ci := 5) (v := .ref l12) (C := RX5) (T := TX5) (N := 18) hx hb hts inX5 hown hK hP 0 rfl rfl 12 (by decide) (hts _ qf_X5_35) (fun _ h9 => h9) rfl dX5_print_22 ?_
  refine lv_aload_n hx hb dX5_print_25 rfl (lv_at hl 1 rfl) ?_
  refine va_get (D := (dC, dI)) (ci := 5) (v := .ref l15) (C := RX5) (T := TX5) (N := 18) hx hb hts inX5 hown hK hP 0 rfl rfl 15 (by decide) (hts _ qf_X5_44) (fun _ h9 => h9) rfl dX5_print_26 ?_
  refine lv_bipush (v := (8 : Int32)) hx hb dX5_print_29 (by decide) ?_
  refine va_ialdK hx hb hK hP 10 0 rfl rfl (j := 8) (by decide) (vp_inK (by decide)) dX5_print_31 ?_
  refine lv_iload_n hx hb dX5_print_32 rfl (lv_at hl 2 rfl) ?_
  obtain ⟨hi2, hok⟩ := gd_some hok
  refine va_iast hx hb hK hP hD hS 7 0 rfl rfl hi2 dX5_print_33 (fun H locs hP _ hS => ?_)
  have hP : va_P (dC, dI) vwCl ((wX5 cI cZ l0 l4 l5 l6 l8 l10 l11 l12 l13 l14 l15 l16 ((upd uL.1 5 (0 : Int32)), uL.2.1, uL.2.2.1, uL.2.2.2.1, uL.2.2.2.2.1, uL.2.2.2.2.2.1, uL.2.2.2.2.2.2.1, uL.2.2.2.2.2.2.2.1, uL.2.2.2.2.2.2.2.2.1, uL.2.2.2.2.2.2.2.2.2.1, uL.2.2.2.2.2.2.2.2.2.2.1, uL.2.2.2.2.2.2.2.2.2.2.2.1, uL.2.2.2.2.2.2.2.2.2.2.2.2.1, uL.2.2.2.2.2.2.2.2.2.2.2.2.2.1, uL.2.2.2.2.2.2.2.2.2.2.2.2.2.2.1, (upd uL.2.2.2.2.2.2.2.2.2.2.2.2.2.2.2.1 ((upd uL.1 5 (0 : Int32)) 8).toNatClampNeg a1), uL.2.2.2.2.2.2.2.2.2.2.2.2.2.2.2.2))) H := hP
  have hD : va_D A ((wX5 cI cZ l0 l4 l5 l6 l8 l10 l11 l12 l13 l14 l15 l16 ((upd uL.1 5 (0 : Int32)), uL.2.1, uL.2.2.1, uL.2.2.2.1, uL.2.2.2.2.1, uL.2.2.2.2.2.1, uL.2.2.2.2.2.2.1, uL.2.2.2.2.2.2.2.1, uL.2.2.2.2.2.2.2.2.1, uL.2.2.2.2.2.2.2.2.2.1, uL.2.2.2.2.2.2.2.2.2.2.1, uL.2.2.2.2.2.2.2.2.2.2.2.1, uL.2.2.2.2.2.2.2.2.2.2.2.2.1, uL.2.2.2.2.2.2.2.2.2.2.2.2.2.1, uL.2.2.2.2.2.2.2.2.2.2.2.2.2.2.1, (upd uL.2.2.2.2.2.2.2.2.2.2.2.2.2.2.2.1 ((upd uL.1 5 (0 : Int32)) 8).toNatClampNeg a1), uL.2.2.2.2.2.2.2.2.2.2.2.2.2.2.2.2))) := D_L hD
  refine lv_aload_n hx hb dX5_print_34 rfl (lv_at hl 1 rfl) ?_
  refine va_get (D := (dC, dI)) (ci := 5) (v := .ref l13) (C := RX5) (T := TX5) (N := 18) hx hb hts inX5 hown hK hP 0 rfl rfl 13 (by decide) (hts _ qf_X5_38) (fun _ h9 => h9) rfl dX5_print_35 ?_
  refine lv_aload_n hx hb dX5_print_38 rfl (lv_at hl 1 rfl) ?_
  refine va_get (D := (dC, dI)) (ci := 5) (v := .ref l15) (C := RX5) (T := TX5) (N := 18) hx hb hts inX5 hown hK hP 0 rfl rfl 15 (by decide) (hts _ qf_X5_44) (fun _ h9 => h9) rfl dX5_print_39 ?_
  refine lv_bipush (v := (8 : Int32)) hx hb dX5_print_42 (by decide) ?_
  refine va_ialdK hx hb hK hP 10 0 rfl rfl (j := 8) (by decide) (vp_inK (by decide)) dX5_print_44 ?_
  refine lv_iload_n hx hb dX5_print_45 rfl (lv_at hl 0 rfl) ?_
  refine va_iast hx hb hK hP hD hS 8 0 rfl rfl hi2 dX5_print_46 (fun H locs hP _ hS => ?_)
  have hP : va_P (dC, dI) vwCl ((wX5 cI cZ l0 l4 l5 l6 l8 l10 l11 l12 l13 l14 l15 l16 ((upd uL.1 5 (0 : Int32)), uL.2.1, uL.2.2.1, uL.2.2.2.1, uL.2.2.2.2.1, uL.2.2.2.2.2.1, uL.2.2.2.2.2.2.1, uL.2.2.2.2.2.2.2.1, uL.2.2.2.2.2.2.2.2.1, uL.2.2.2.2.2.2.2.2.2.1, uL.2.2.2.2.2.2.2.2.2.2.1, uL.2.2.2.2.2.2.2.2.2.2.2.1, uL.2.2.2.2.2.2.2.2.2.2.2.2.1, uL.2.2.2.2.2.2.2.2.2.2.2.2.2.1, uL.2.2.2.2.2.2.2.2.2.2.2.2.2.2.1, (upd uL.2.2.2.2.2.2.2.2.2.2.2.2.2.2.2.1 ((upd uL.1 5 (0 : Int32)) 8).toNatClampNeg a1), (upd uL.2.2.2.2.2.2.2.2.2.2.2.2.2.2.2.2.1 ((upd uL.1 5 (0 : Int32)) 8).toNatClampNeg ((uL.2.2.2.2.2.2.2.2.2.1 a1.toNatClampNeg) + (uL.1 5))), uL.2.2.2.2.2.2.2.2.2.2.2.2.2.2.2.2.2))) H := hP
  have hD : va_D A ((wX5 cI cZ l0 l4 l5 l6 l8 l10 l11 l12 l13 l14 l15 l16 ((upd uL.1 5 (0 : Int32)), uL.2.1, uL.2.2.1, uL.2.2.2.1, uL.2.2.2.2.1, uL.2.2.2.2.2.1, uL.2.2.2.2.2.2.1, uL.2.2.2.2.2.2.2.1, uL.2.2.2.2.2.2.2.2.1, uL.2.2.2.2.2.2.2.2.2.1, uL.2.2.2.2.2.2.2.2.2.2.1, uL.2.2.2.2.2.2.2.2.2.2.2.1, uL.2.2.2.2.2.2.2.2.2.2.2.2.1, uL.2.2.2.2.2.2.2.2.2.2.2.2.2.1, uL.2.2.2.2.2.2.2.2.2.2.2.2.2.2.1, (upd uL.2.2.2.2.2.2.2.2.2.2.2.2.2.2.2.1 ((upd uL.1 5 (0 : Int32)) 8).toNatClampNeg a1), (upd uL.2.2.2.2.2.2.2.2.2.2.2.2.2.2.2.2.1 ((upd uL.1 5 (0 : Int32)) 8).toNatClampNeg ((uL.2.2.2.2.2.2.2.2.2.1 a1.toNatClampNeg) + (uL.1 5))), uL.2.2.2.2.2.2.2.2.2.2.2.2.2.2.2.2.2))) := D_L hD
  refine lv_aload_n hx hb dX5_print_47 rfl (lv_at hl 1 rfl) ?_
  refine va_get (D := (dC, dI)) (ci := 5) (v := .ref l14) (C := RX5) (T := TX5) (N := 18) hx hb hts inX5 hown hK hP 0 rfl rfl 14 (by decide) (hts _ qf_X5_41) (fun _ h9 => h9) rfl dX5_print_48 ?_
  refine lv_aload_n hx hb dX5_print_51 rfl (lv_at hl 1 rfl) ?_
  refine va_get (D := (dC, dI)) (ci := 5) (v := .ref l15) (C := RX5) (T := TX5) (N := 18) hx hb hts inX5 hown hK hP 0 rfl rfl 15 (by decide) (hts _ qf_X5_44) (fun _ h9 => h9) rfl dX5_print_52 ?_
  refine lv_bipush (v := (8 : Int32)) hx hb dX5_print_55 (by decide) ?_
  refine va_ialdK hx hb hK hP 10 0 rfl rfl (j := 8) (by decide) (vp_inK (by decide)) dX5_print_57 ?_
  refine lv_aload_n hx hb dX5_print_58 rfl (lv_at hl 1 rfl) ?_
  refine va_get (D := (dC, dI)) (ci := 5) (v := .ref l15) (C := RX5) (T := TX5) (N := 18) hx hb hts inX5 hown hK hP 0 rfl rfl 15 (by decide) (hts _ qf_X5_44) (fun _ h9 => h9) rfl dX5_print_59 ?_
  refine lv_iconst (v := (0 : Int32)) hx hb dX5_print_62 (by decide) ?_
  refine va_ialdK hx hb hK hP 10 0 rfl rfl (j := 0) (by decide) (vp_inK (by decide)) dX5_print_63 ?_
  refine va_iast hx hb hK hP hD hS 9 0 rfl rfl hi2 dX5_print_64 (fun H locs hP _ hS => ?_)
  have hP : va_P (dC, dI) vwCl ((wX5 cI cZ l0 l4 l5 l6 l8 l10 l11 l12 l13 l14 l15 l16 ((upd uL.1 5 (0 : Int32)), uL.2.1, uL.2.2.1, uL.2.2.2.1, uL.2.2.2.2.1, uL.2.2.2.2.2.1, uL.2.2.2.2.2.2.1, uL.2.2.2.2.2.2.2.1, uL.2.2.2.2.2.2.2.2.1, uL.2.2.2.2.2.2.2.2.2.1, uL.2.2.2.2.2.2.2.2.2.2.1, uL.2.2.2.2.2.2.2.2.2.2.2.1, uL.2.2.2.2.2.2.2.2.2.2.2.2.1, uL.2.2.2.2.2.2.2.2.2.2.2.2.2.1, uL.2.2.2.2.2.2.2.2.2.2.2.2.2.2.1, (upd uL.2.2.2.2.2.2.2.2.2.2.2.2.2.2.2.1 ((upd uL.1 5 (0 : Int32)) 8).toNatClampNeg a1), (upd uL.2.2.2.2.2.2.2.2.2.2.2.2.2.2.2.2.1 ((upd uL.1 5 (0 : Int32)) 8).toNatClampNeg ((uL.2.2.2.2.2.2.2.2.2.1 a1.toNatClampNeg) + (uL.1 5))), (upd uL.2.2.2.2.2.2.2.2.2.2.2.2.2.2.2.2.2 ((upd uL.1 5 (0 : Int32)) 8).toNatClampNeg ((upd uL.1 5 (0 : Int32)) 0))))) H := hP
  have hD : va_D A ((wX5 cI cZ l0 l4 l5 l6 l8 l10 l11 l12 l13 l14 l15 l16 ((upd uL.1 5 (0 : Int32)), uL.2.1, uL.2.2.1, uL.2.2.2.1, uL.2.2.2.2.1, uL.2.2.2.2.2.1, uL.2.2.2.2.2.2.1, uL.2.2.2.2.2.2.2.1, uL.2.2.2.2.2.2.2.2.1, uL.2.2.2.2.2.2.2.2.2.1, uL.2.2.2.2.2.2.2.2.2.2.1, uL.2.2.2.2.2.2.2.2.2.2.2.1, uL.2.2.2.2.2.2.2.2.2.2.2.2.1, uL.2.2.2.2.2.2.2.2.2.2.2.2.2.1, uL.2.2.2.2.2.2.2.2.2.2.2.2.2.2.1, (upd uL.2.2.2.2.2.2.2.2.2.2.2.2.2.2.2.1 ((upd uL.1 5 (0 : Int32)) 8).toNatClampNeg a1), (upd uL.2.2.2.2.2.2.2.2.2.2.2.2.2.2.2.2.1 ((upd uL.1 5 (0 : Int32)) 8).toNatClampNeg ((uL.2.2.2.2.2.2.2.2.2.1 a1.toNatClampNeg) + (uL.1 5))), (upd uL.2.2.2.2.2.2.2.2.2.2.2.2.2.2.2.2.2 ((upd uL.1 5 (0 : Int32)) 8).toNatClampNeg ((upd uL.1 5 (0 : Int32)) 0))))) := D_L hD
  refine lv_aload_n hx hb dX5_print_65 rfl (lv_at hl 1 rfl) ?_
  refine va_get (D := (dC, dI)) (ci := 5) (v := .ref l15) (C := RX5) (T := TX5) (N := 18) hx hb hts inX5 hown hK hP 0 rfl rfl 15 (by decide) (hts _ qf_X5_44) (fun _ h9 => h9) rfl dX5_print_66 ?_
  refine lv_bipush (v := (8 : Int32)) hx hb dX5_print_69 (by decide) ?_
  refine lv_dup2_11 hx hb dX5_print_71 rfl rfl ?_
  refine va_ialdK hx hb hK hP 10 0 rfl rfl (j := 8) (by decide) (vp_inK (by decide)) dX5_print_72 ?_
  refine lv_iconst (v := (1 : Int32)) hx hb dX5_print_73 (by decide) ?_
  refine lv_iadd hx hb dX5_print_74 ?_
  refine va_iastK hx hb hK hP hD hS 10 0 rfl rfl (j := 8) (by decide) (vp_inK (by decide)) dX5_print_75 (fun H locs hP _ hS => ?_)
  have hP : va_P (dC, dI) vwCl ((wX5 cI cZ l0 l4 l5 l6 l8 l10 l11 l12 l13 l14 l15 l16 ((upd (upd uL.1 5 (0 : Int32)) 8 (((upd uL.1 5 (0 : Int32)) 8) + (1 : Int32))), uL.2.1, uL.2.2.1, uL.2.2.2.1, uL.2.2.2.2.1, uL.2.2.2.2.2.1, uL.2.2.2.2.2.2.1, uL.2.2.2.2.2.2.2.1, uL.2.2.2.2.2.2.2.2.1, uL.2.2.2.2.2.2.2.2.2.1, uL.2.2.2.2.2.2.2.2.2.2.1, uL.2.2.2.2.2.2.2.2.2.2.2.1, uL.2.2.2.2.2.2.2.2.2.2.2.2.1, uL.2.2.2.2.2.2.2.2.2.2.2.2.2.1, uL.2.2.2.2.2.2.2.2.2.2.2.2.2.2.1, (upd uL.2.2.2.2.2.2.2.2.2.2.2.2.2.2.2.1 ((upd uL.1 5 (0 : Int32)) 8).toNatClampNeg a1), (upd uL.2.2.2.2.2.2.2.2.2.2.2.2.2.2.2.2.1 ((upd uL.1 5 (0 : Int32)) 8).toNatClampNeg ((uL.2.2.2.2.2.2.2.2.2.1 a1.toNatClampNeg) + (uL.1 5))), (upd uL.2.2.2.2.2.2.2.2.2.2.2.2.2.2.2.2.2 ((upd uL.1 5 (0 : Int32)) 8).toNatClampNeg ((upd uL.1 5 (0 : Int32)) 0))))) H := hP
  have hD : va_D A ((wX5 cI cZ l0 l4 l5 l6 l8 l10 l11 l12 l13 l14 l15 l16 ((upd (upd uL.1 5 (0 : Int32)) 8 (((upd uL.1 5 (0 : Int32)) 8) + (1 : Int32))), uL.2.1, uL.2.2.1, uL.2.2.2.1, uL.2.2.2.2.1, uL.2.2.2.2.2.1, uL.2.2.2.2.2.2.1, uL.2.2.2.2.2.2.2.1, uL.2.2.2.2.2.2.2.2.1, uL.2.2.2.2.2.2.2.2.2.1, uL.2.2.2.2.2.2.2.2.2.2.1, uL.2.2.2.2.2.2.2.2.2.2.2.1, uL.2.2.2.2.2.2.2.2.2.2.2.2.1, uL.2.2.2.2.2.2.2.2.2.2.2.2.2.1, uL.2.2.2.2.2.2.2.2.2.2.2.2.2.2.1, (upd uL.2.2.2.2.2.2.2.2.2.2.2.2.2.2.2.1 ((upd uL.1 5 (0 : Int32)) 8).toNatClampNeg a1), (upd uL.2.2.2.2.2.2.2.2.2.2.2.2.2.2.2.2.1 ((upd uL.1 5 (0 : Int32)) 8).toNatClampNeg ((uL.2.2.2.2.2.2.2.2.2.1 a1.toNatClampNeg) + (uL.1 5))), (upd uL.2.2.2.2.2.2.2.2.2.2.2.2.2.2.2.2.2 ((upd uL.1 5 (0 : Int32)) 8).toNatClampNeg ((upd uL.1 5 (0 : Int32)) 0))))) := D_L hD
  refine lv_iconst (v := (0 : Int32)) hx hb dX5_print_76 (by decide) ?_
  refine lv_istore_n (lv' := [(3, .int (0 : Int32)), (2, .int ((uL.2.2.2.2.2.2.2.2.2.1 a1.toNatClampNeg) + (uL.1 5))), (0, .ref l0), (1, .int a1)]) hx hb dX5_print_77 rfl hl (by decide) rfl (fun ls hl => ?_)
  exact L78 200 ((upd (upd uL.1 5 (0 : Int32)) 8 (((upd uL.1 5 (0 : Int32)) 8) + (1 : Int32))), uL.2.1, uL.2.2.1, uL.2.2.2.1, uL.2.2.2.2.1, uL.2.2.2.2.2.1, uL.2.2.2.2.2.2.1, uL.2.2.2.2.2.2.2.1, uL.2.2.2.2.2.2.2.2.1, uL.2.2.2.2.2.2.2.2.2.1, uL.2.2.2.2.2.2.2.2.2.2.1, uL.2.2.2.2.2.2.2.2.2.2.2.1, uL.2.2.2.2.2.2.2.2.2.2.2.2.1, uL.2.2.2.2.2.2.2.2.2.2.2.2.2.1, uL.2.2.2.2.2.2.2.2.2.2.2.2.2.2.1, (upd uL.2.2.2.2.2.2.2.2.2.2.2.2.2.2.2.1 ((upd uL.1 5 (0 : Int32)) 8).toNatClampNeg a1), (upd uL.2.2.2.2.2.2.2.2.2.2.2.2.2.2.2.2.1 ((upd uL.1 5 (0 : Int32)) 8).toNatClampNeg ((uL.2.2.2.2.2.2.2.2.2.1 a1.toNatClampNeg) + (uL.1 5))), (upd uL.2.2.2.2.2.2.2.2.2.2.2.2.2.2.2.2.2 ((upd uL.1 5 (0 : Int32)) 8).toNatClampNeg ((upd uL.1 5 (0 : Int32)) 0))) a1 ((uL.2.2.2.2.2.2.2.2.2.1 a1.toNatClampNeg) + (uL.1 5)) (0 : Int32) _ _ hP hD hS _ (lv_sub hl [2, 3, 1, 0] rfl) hok
theorem hd_X5_stop : yX5_stop.cls = RX5 ∧ yX5_stop.cls ≠ "java/lang/invoke/MethodHandle" ∧ yX5_stop.cls ≠ "java/lang/invoke/VarHandle" ∧ (parseMethodDescriptor yX5_stop.desc).map (fun d => d.parameters.length) = some 0 := by decide +kernel
def p_X5_stop (uL : tX5) : Option tX5 :=
  gd ((9 : Int32) + (uL.1 1)) 41 (
  gd (uL.1 1) 12 (
  if ((upd uL.1 6 ((uL.1 6) &&& (((1 : Int32) <<< ((uL.1 1) &&& 31)) ^^^ (-1 : Int32)))) ((9 : Int32) + (uL.1 1)).toNatClampNeg) = (uL.2.2.2.2.2.2.2.1 (uL.1 1).toNatClampNeg) then
    some ((upd uL.1 6 ((uL.1 6) &&& (((1 : Int32) <<< ((uL.1 1) &&& 31)) ^^^ (-1 : Int32)))), uL.2.1, (uL.1 1), uL.2.2.2)
  else
    gd (((9 : Int32) * (uL.1 1)) + ((upd uL.1 6 ((uL.1 6) &&& (((1 : Int32) <<< ((uL.1 1) &&& 31)) ^^^ (-1 : Int32)))) ((9 : Int32) + (uL.1 1)).toNatClampNeg)) 108 (
    bd (p_X5_has uL.2.2.2.2.2.2.1 (uL.2.2.2.2.2.2.2.2.1 (((9 : Int32) * (uL.1 1)) + ((upd uL.1 6 ((uL.1 6) &&& (((1 : Int32) <<< ((uL.1 1) &&& 31)) ^^^ (-1 : Int32)))) ((9 : Int32) + (uL.1 1)).toNatClampNeg)).toNatClampNeg)) (fun v4 =>
    if v4 = 0 then
      bd (p_X5_print ((upd (upd uL.1 6 ((uL.1 6) &&& (((1 : Int32) <<< ((uL.1 1) &&& 31)) ^^^ (-1 : Int32)))) ((9 : Int32) + (uL.1 1)).toNatClampNeg (((upd uL.1 6 ((uL.1 6) &&& (((1 : Int32) <<< ((uL.1 1) &&& 31)) ^^^ (-1 : Int32)))) ((9 : Int32) + (uL.1 1)).toNatClampNeg) + (1 : Int32))), uL.2.1, (uL.1 1), uL.2.2.2) (((9 : Int32) * (uL.1 1)) + ((upd uL.1 6 ((uL.1 6) &&& (((1 : Int32) <<< ((uL.1 1) &&& 31)) ^^^ (-1 : Int32)))) ((9 : Int32) + (uL.1 1)).toNatClampNeg))) (fun v5 =>
      some v5)
    else
      gd ((21 : Int32) + (uL.1 1)) 41 (
      some ((upd (upd (upd uL.1 6 ((uL.1 6) &&& (((1 : Int32) <<< ((uL.1 1) &&& 31)) ^^^ (-1 : Int32)))) ((9 : Int32) + (uL.1 1)).toNatClampNeg (((upd uL.1 6 ((uL.1 6) &&& (((1 : Int32) <<< ((uL.1 1) &&& 31)) ^^^ (-1 : Int32)))) ((9 : Int32) + (uL.1 1)).toNatClampNeg) + (1 : Int32))) ((21 : Int32) + (uL.1 1)).toNatClampNeg (((upd (upd uL.1 6 ((uL.1 6) &&& (((1 : Int32) <<< ((uL.1 1) &&& 31)) ^^^ (-1 : Int32)))) ((9 : Int32) + (uL.1 1)).toNatClampNeg (((upd uL.1 6 ((uL.1 6) &&& (((1 : Int32) <<< ((uL.1 1) &&& 31)) ^^^ (-1 : Int32)))) ((9 : Int32) + (uL.1 1)).toNatClampNeg) + (1 : Int32))) ((21 : Int32) + (uL.1 1)).toNatClampNeg) + (1 : Int32))), uL.2.1, (uL.1 1), uL.2.2.2))))))
set_option maxHeartbeats 4000000 in
set_option maxRecDepth 100000 in
theorem c_X5_stop (l : Launch) (dC : Nat → ClassId) (dI : Nat → Nat → Nat) (cI cZ : ClassId) (l0 l4 l5 l6 l8 l10 l11 l12 l13 l14 l15 l16 : Nat) (sz : Nat) (uL : tX5) {z : tX5} (hok : p_X5_stop uL = some z) : Met l yX5_stop (Cond.code yX5_stop cX5_stop 3 none :: lw_all) { frames := 3, cells := 0, slots := 0, locals := 65 } (prW (dC, dI) vwCl (TYS cI cZ) ((wX5 cI cZ l0 l4 l5 l6 l8 l10 l11 l12 l13 l14 l15 l16 uL)) sz [.ref l0]) (va_Qv (fun _ : Unit => True) (fun _ t => va_P (dC, dI) vwCl ((wX5 cI cZ l0 l4 l5 l6 l8 l10 l11 l12 l13 l14 l15 l16 z)) t.heap) (va_A ((wX5 cI cZ l0 l4 l5 l6 l8 l10 l11 l12 l13 l14 l15 l16 uL)) sz)) 0 0 (va_A ((wX5 cI cZ l0 l4 l5 l6 l8 l10 l11 l12 l13 l14 l15 l16 uL)) sz) := by
  refine oM (by decide) (Nat.le_of_ble_eq_true rfl) ?_
  intro p e s m args below meth c S hr hlk hnm hB ls hl
  have hx := S.1
  have hb := S.2.1
  have hml := S.2.2.1
  have hown : s.vm.findClass RX5 = some m.cls := S.2.2.2.1
  have hts := S.2.2.2.2
  have S : CallFix p m c cX5_stop 3 s args lw_all RX5 := S
  have hl : lv_has ls 3 [(0, .ref l0)] := hl
  obtain ⟨hsz, hP, hK, hD0⟩ := hB
  subst hsz
  have hD := hD0.self (sz := s.heap.size)
  generalize hAe : va_A ((wX5 cI cZ l0 l4 l5 l6 l8 l10 l11 l12 l13 l14 l15 l16 uL)) s.heap.size = A at hD ⊢
  have hA : ∀ q : Nat, s.heap.size ≤ q → A q := fun q h => by rw [← hAe]; exact Or.inr h
  have hS : va_S A s.heap s.heap [] := va_S.rf
  have hP : va_P (dC, dI) vwCl ((wX5 cI cZ l0 l4 l5 l6 l8 l10 l11 l12 l13 l14 l15 l16 uL)) s.heap := hP
  unfold p_X5_stop at hok
  refine lv_aload_n hx hb dX5_stop_0 rfl (lv_at hl 0 rfl) ?_
  refine va_get (D := (dC, dI)) (ci := 5) (v := .ref l15) (C := RX5) (T := TX5) (N := 18) hx hb hts inX5 hown hK hP 0 rfl rfl 15 (by decide) (hts _ qf_X5_44) (fun _ h9 => h9) rfl dX5_stop_1 ?_
  refine lv_iconst (v := (1 : Int32)) hx hb dX5_stop_4 (by decide) ?_
  refine va_ialdK hx hb hK hP 10 0 rfl rfl (j := 1) (by decide) (vp_inK (by decide)) dX5_stop_5 ?_
  refine lv_istore_n (lv' := [(1, .int (uL.1 1)), (0, .ref l0)]) hx hb dX5_stop_6 rfl hl (by decide) rfl (fun ls hl => ?_)
  refine lv_aload_n hx hb dX5_stop_7 rfl (lv_at hl 1 rfl) ?_
  refine lv_iload_n hx hb dX5_stop_8 rfl (lv_at hl 0 rfl) ?_
  refine va_put (D := (dC, dI)) (ci := 5) (v := .int (uL.1 1)) (ty := .int) (C := RX5) (T := TX5) (N := 18) hx hb hts inX5 tyX5 tyX5_ok nmX5 hown hK hP hD hS 0 rfl rfl 17 (by decide) (hts _ qf_X5_83) (fun _ h9 => h9) rfl (tyX5_ok 17 (by decide)) rfl rfl (Nat.le_of_ble_eq_true rfl) dX5_stop_9 (fun H locs hP _ hS => ?_)
  have hP : va_P (dC, dI) vwCl ((wX5 cI cZ l0 l4 l5 l6 l8 l10 l11 l12 l13 l14 l15 l16 (uL.1, uL.2.1, (uL.1 1), uL.2.2.2))) H := hP
  have hD : va_D A ((wX5 cI cZ l0 l4 l5 l6 l8 l10 l11 l12 l13 l14 l15 l16 (uL.1, uL.2.1, (uL.1 1), uL.2.2.2))) := D_L hD
  refine lv_aload_n hx hb dX5_stop_12 rfl (lv_at hl 1 rfl) ?_
  refine va_get (D := (dC, dI)) (ci := 5) (v := .ref l15) (C := RX5) (T := TX5) (N := 18) hx hb hts inX5 hown hK hP 0 rfl rfl 15 (by decide) (hts _ qf_X5_44) (fun _ h9 => h9) rfl dX5_stop_13 ?_
  refine lv_bipush (v := (6 : Int32)) hx hb dX5_stop_16 (by decide) ?_
  refine lv_dup2_11 hx hb dX5_stop_18 rfl rfl ?_
  refine va_ialdK hx hb hK hP 10 0 rfl rfl (j := 6) (by decide) (vp_inK (by decide)) dX5_stop_19 ?_
  refine lv_iconst (v := (1 : Int32)) hx hb dX5_stop_20 (by decide) ?_
  refine lv_iload_n hx hb dX5_stop_21 rfl (lv_at hl 0 rfl) ?_
  refine lv_ishl hx hb dX5_stop_22 ?_
  refine lv_iconst (v := (-1 : Int32)) hx hb dX5_stop_23 (by decide) ?_
  refine lv_ixor hx hb dX5_stop_24 ?_
  refine lv_iand hx hb dX5_stop_25 ?_
  refine va_iastK hx hb hK hP hD hS 10 0 rfl rfl (j := 6) (by decide) (vp_inK (by decide)) dX5_stop_26 (fun H locs hP _ hS => ?_)
  have hP : va_P (dC, dI) vwCl ((wX5 cI cZ l0 l4 l5 l6 l8 l10 l11 l12 l13 l14 l15 l16 ((upd uL.1 6 ((uL.1 6) &&& (((1 : Int32) <<< ((uL.1 1) &&& 31)) ^^^ (-1 : Int32)))), uL.2.1, (uL.1 1), uL.2.2.2))) H := hP
  have hD : va_D A ((wX5 cI cZ l0 l4 l5 l6 l8 l10 l11 l12 l13 l14 l15 l16 ((upd uL.1 6 ((uL.1 6) &&& (((1 : Int32) <<< ((uL.1 1) &&& 31)) ^^^ (-1 : Int32)))), uL.2.1, (uL.1 1), uL.2.2.2))) := D_L hD
  refine lv_aload_n hx hb dX5_stop_27 rfl (lv_at hl 1 rfl) ?_
  refine va_get (D := (dC, dI)) (ci := 5) (v := .ref l15) (C := RX5) (T := TX5) (N := 18) hx hb hts inX5 hown hK hP 0 rfl rfl 15 (by decide) (hts _ qf_X5_44) (fun _ h9 => h9) rfl dX5_stop_28 ?_
  refine lv_bipush (v := (9 : Int32)) hx hb dX5_stop_31 (by decide) ?_
  refine lv_iload_n hx hb dX5_stop_33 rfl (lv_at hl 0 rfl) ?_
  refine lv_iadd hx hb dX5_stop_34 ?_
  obtain ⟨hi1, hok⟩ := gd_some hok
  refine va_iald hx hb hK hP 10 0 rfl rfl hi1 dX5_stop_35 ?_
  refine lv_aload_n hx hb dX5_stop_36 rfl (lv_at hl 1 rfl) ?_
  refine va_get (D := (dC, dI)) (ci := 5) (v := .ref l4) (C := RX5) (T := TX5) (N := 18) hx hb hts inX5 hown hK hP 0 rfl rfl 4 (by decide) (hts _ qf_X5_16) (fun _ h9 => h9) rfl dX5_stop_37 ?_
  refine lv_iload_n hx hb dX5_stop_40 rfl (lv_at hl 0 rfl) ?_
  obtain ⟨hi2, hok⟩ := gd_some hok
  refine va_iald hx hb hK hP 1 0 rfl rfl hi2 dX5_stop_41 ?_
  refine lv_icmp_ne (tgt := 46) hx hb dX5_stop_42 (by decide) (fun hc => ?_) (fun hc => ?_)
  · have hok := iq hok hc
    refine lv_bipush (v := (9 : Int32)) hx hb dX5_stop_46 (by decide) ?_
    refine lv_iload_n hx hb dX5_stop_48 rfl (lv_at hl 0 rfl) ?_
    refine lv_imul hx hb dX5_stop_49 ?_
    refine lv_aload_n hx hb dX5_stop_50 rfl (lv_at hl 1 rfl) ?_
    refine va_get (D := (dC, dI)) (ci := 5) (v := .ref l15) (C := RX5) (T := TX5) (N := 18) hx hb hts inX5 hown hK hP 0 rfl rfl 15 (by decide) (hts _ qf_X5_44) (fun _ h9 => h9) rfl dX5_stop_51 ?_
    refine lv_bipush (v := (9 : Int32)) hx hb dX5_stop_54 (by decide) ?_
    refine lv_iload_n hx hb dX5_stop_56 rfl (lv_at hl 0 rfl) ?_
    refine lv_iadd hx hb dX5_stop_57 ?_
    refine va_iald hx hb hK hP 10 0 rfl rfl hi1 dX5_stop_58 ?_
    refine lv_iadd hx hb dX5_stop_59 ?_
    refine lv_istore_n (lv' := [(2, .int (((9 : Int32) * (uL.1 1)) + ((upd uL.1 6 ((uL.1 6) &&& (((1 : Int32) <<< ((uL.1 1) &&& 31)) ^^^ (-1 : Int32)))) ((9 : Int32) + (uL.1 1)).toNatClampNeg))), (1, .int (uL.1 1)), (0, .ref l0)]) hx hb dX5_stop_60 rfl hl (by decide) rfl (fun ls hl => ?_)
    refine lv_aload_n hx hb dX5_stop_61 rfl (lv_at hl 2 rfl) ?_
    refine va_get (D := (dC, dI)) (ci := 5) (v := .ref l15) (C := RX5) (T := TX5) (N := 18) hx hb hts inX5 hown hK hP 0 rfl rfl 15 (by decide) (hts _ qf_X5_44) (fun _ h9 => h9) rfl dX5_stop_62 ?_
    refine lv_bipush (v := (9 : Int32)) hx hb dX5_stop_65 (by decide) ?_
    refine lv_iload_n hx hb dX5_stop_67 rfl (lv_at hl 1 rfl) ?_
    refine lv_iadd hx hb dX5_stop_68 ?_
    refine lv_dup2_11 hx hb dX5_stop_69 rfl rfl ?_
    refine va_iald hx hb hK hP 10 0 rfl rfl hi1 dX5_stop_70 ?_
    refine lv_iconst (v := (1 : Int32)) hx hb dX5_stop_71 (by decide) ?_
    refine lv_iadd hx hb dX5_stop_72 ?_
    refine va_iast hx hb hK hP hD hS 10 0 rfl rfl hi1 dX5_stop_73 (fun H locs hP _ hS => ?_)
    have hP : va_P (dC, dI) vwCl ((wX5 cI cZ l0 l4 l5 l6 l8 l10 l11 l12 l13 l14 l15 l16 ((upd (upd uL.1 6 ((uL.1 6) &&& (((1 : Int32) <<< ((uL.1 1) &&& 31)) ^^^ (-1 : Int32)))) ((9 : Int32) + (uL.1 1)).toNatClampNeg (((upd uL.1 6 ((uL.1 6) &&& (((1 : Int32) <<< ((uL.1 1) &&& 31)) ^^^ (-1 : Int32)))) ((9 : Int32) + (uL.1 1)).toNatClampNeg) + (1 : Int32))), uL.2.1, (uL.1 1), uL.2.2.2))) H := hP
    have hD : va_D A ((wX5 cI cZ l0 l4 l5 l6 l8 l10 l11 l12 l13 l14 l15 l16 ((upd (upd uL.1 6 ((uL.1 6) &&& (((1 : Int32) <<< ((uL.1 1) &&& 31)) ^^^ (-1 : Int32)))) ((9 : Int32) + (uL.1 1)).toNatClampNeg (((upd uL.1 6 ((uL.1 6) &&& (((1 : Int32) <<< ((uL.1 1) &&& 31)) ^^^ (-1 : Int32)))) ((9 : Int32) + (uL.1 1)).toNatClampNeg) + (1 : Int32))), uL.2.1, (uL.1 1), uL.2.2.2))) := D_L hD
    refine lv_aload_n hx hb dX5_stop_74 rfl (lv_at hl 2 rfl) ?_
    refine va_get (D := (dC, dI)) (ci := 5) (v := .int uL.2.2.2.2.2.2.1) (C := RX5) (T := TX5) (N := 18) hx hb hts inX5 hown hK hP 0 rfl rfl 3 (by decide) (hts _ qf_X5_86) (fun _ h9 => h9) rfl dX5_stop_75 ?_
    refine lv_aload_n hx hb dX5_stop_78 rfl (lv_at hl 2 rfl) ?_
    refine va_get (D := (dC, dI)) (ci := 5) (v := .ref l5) (C := RX5) (T := TX5) (N := 18) hx hb hts inX5 hown hK hP 0 rfl rfl 5 (by decide) (hts _ qf_X5_20) (fun _ h9 => h9) rfl dX5_stop_79 ?_
    refine lv_iload_n hx hb dX5_stop_82 rfl (lv_at hl 0 rfl) ?_
    obtain ⟨hi3, hok⟩ := gd_some hok
    refine va_iald hx hb hK hP 2 0 rfl rfl hi3 dX5_stop_83 ?_
    obtain ⟨v4, hc4, hok⟩ := bd_some hok
    refine cRSi [.int uL.2.2.2.2.2.2.1, .int (uL.2.2.2.2.2.2.2.2.1 (((9 : Int32) * (uL.1 1)) + ((upd uL.1 6 ((uL.1 6) &&& (((1 : Int32) <<< ((uL.1 1) &&& 31)) ^^^ (-1 : Int32)))) ((9 : Int32) + (uL.1 1)).toNatClampNeg)).toNatClampNeg)] S hK va_Pnil (c_X5_has l dC dI cI cZ uL.2.2.2.2.2.2.1 (uL.2.2.2.2.2.2.2.2.1 (((9 : Int32) * (uL.1 1)) + ((upd uL.1 6 ((uL.1 6) &&& (((1 : Int32) <<< ((uL.1 1) &&& 31)) ^^^ (-1 : Int32)))) ((9 : Int32) + (uL.1 1)).toNatClampNeg)).toNatClampNeg) hc4) (lw_S qm_X5_69 qt_X5_has qn_X5 qc_X5_has) hd_X5_has ⟨rfl, rfl⟩ ⟨Nat.le_of_ble_eq_true rfl, Nat.le_of_ble_eq_true rfl⟩ ⟨Nat.le_of_ble_eq_true rfl, Nat.le_of_ble_eq_true rfl⟩ rfl hl.1 (Nat.le_of_ble_eq_true rfl) rfl dX5_stop_84 ?_
    refine lv_if_eq (tgt := 106) hx hb dX5_stop_87 (by decide) (fun hc => ?_) (fun hc => ?_)
    · have hok := ip hok hc
      refine lv_aload_n hx hb dX5_stop_106 rfl (lv_at hl 2 rfl) ?_
      refine lv_iload_n hx hb dX5_stop_107 rfl (lv_at hl 0 rfl) ?_
      obtain ⟨v5, hc5, hok⟩ := bd_some hok
      refine cWVv (ci := 5) (q0 := 0) [.int (((9 : Int32) * (uL.1 1)) + ((upd uL.1 6 ((uL.1 6) &&& (((1 : Int32) <<< ((uL.1 1) &&& 31)) ^^^ (-1 : Int32)))) ((9 : Int32) + (uL.1 1)).toNatClampNeg))] S hK hP hD hS hA (c_X5_print l dC dI cI cZ l0 l4 l5 l6 l8 l10 l11 l12 l13 l14 l15 l16 _ ((upd (upd uL.1 6 ((uL.1 6) &&& (((1 : Int32) <<< ((uL.1 1) &&& 31)) ^^^ (-1 : Int32)))) ((9 : Int32) + (uL.1 1)).toNatClampNeg (((upd uL.1 6 ((uL.1 6) &&& (((1 : Int32) <<< ((uL.1 1) &&& 31)) ^^^ (-1 : Int32)))) ((9 : Int32) + (uL.1 1)).toNatClampNeg) + (1 : Int32))), uL.2.1, (uL.1 1), uL.2.2.2) (((9 : Int32) * (uL.1 1)) + ((upd uL.1 6 ((uL.1 6) &&& (((1 : Int32) <<< ((uL.1 1) &&& 31)) ^^^ (-1 : Int32)))) ((9 : Int32) + (uL.1 1)).toNatClampNeg)) hc5) (lw_V qm_X5_89 qi_X5_print qs_X5_print qn_X5 qc_X5_print) hd_X5_print ⟨rfl, rfl⟩ ⟨Nat.le_of_ble_eq_true rfl, Nat.le_of_ble_eq_true rfl⟩ ⟨Nat.le_of_ble_eq_true rfl, Nat.le_of_ble_eq_true rfl⟩ rfl rfl rfl hl.1 (Nat.le_of_ble_eq_true rfl) rfl dX5_stop_108 (D_L hD) (fun H locs hP hD hS => ?_)
      have hok := Option.some.inj hok
      subst hok
      exact eWv S hr hlk hP hS (Nat.le_of_ble_eq_true rfl) (Nat.le_of_ble_eq_true rfl) dX5_stop_111
    · have hok := iq hok hc
      refine lv_aload_n hx hb dX5_stop_90 rfl (lv_at hl 2 rfl) ?_
      refine va_get (D := (dC, dI)) (ci := 5) (v := .ref l15) (C := RX5) (T := TX5) (N := 18) hx hb hts inX5 hown hK hP 0 rfl rfl 15 (by decide) (hts _ qf_X5_44) (fun _ h9 => h9) rfl dX5_stop_91 ?_
      refine lv_bipush (v := (21 : Int32)) hx hb dX5_stop_94 (by decide) ?_
      refine lv_iload_n hx hb dX5_stop_96 rfl (lv_at hl 1 rfl) ?_
      refine lv_iadd hx hb dX5_stop_97 ?_
      refine lv_dup2_11 hx hb dX5_stop_98 rfl rfl ?_
      obtain ⟨hi6, hok⟩ := gd_some hok
      refine va_iald hx hb hK hP 10 0 rfl rfl hi6 dX5_stop_99 ?_
      refine lv_iconst (v := (1 : Int32)) hx hb dX5_stop_100 (by decide) ?_
      refine lv_iadd hx hb dX5_stop_101 ?_
      refine va_iast hx hb hK hP hD hS 10 0 rfl rfl hi6 dX5_stop_102 (fun H locs hP _ hS => ?_)
      have hP : va_P (dC, dI) vwCl ((wX5 cI cZ l0 l4 l5 l6 l8 l10 l11 l12 l13 l14 l15 l16 ((upd (upd (upd uL.1 6 ((uL.1 6) &&& (((1 : Int32) <<< ((uL.1 1) &&& 31)) ^^^ (-1 : Int32)))) ((9 : Int32) + (uL.1 1)).toNatClampNeg (((upd uL.1 6 ((uL.1 6) &&& (((1 : Int32) <<< ((uL.1 1) &&& 31)) ^^^ (-1 : Int32)))) ((9 : Int32) + (uL.1 1)).toNatClampNeg) + (1 : Int32))) ((21 : Int32) + (uL.1 1)).toNatClampNeg (((upd (upd uL.1 6 ((uL.1 6) &&& (((1 : Int32) <<< ((uL.1 1) &&& 31)) ^^^ (-1 : Int32)))) ((9 : Int32) + (uL.1 1)).toNatClampNeg (((upd uL.1 6 ((uL.1 6) &&& (((1 : Int32) <<< ((uL.1 1) &&& 31)) ^^^ (-1 : Int32)))) ((9 : Int32) + (uL.1 1)).toNatClampNeg) + (1 : Int32))) ((21 : Int32) + (uL.1 1)).toNatClampNeg) + (1 : Int32))), uL.2.1, (uL.1 1), uL.2.2.2))) H := hP
      have hD : va_D A ((wX5 cI cZ l0 l4 l5 l6 l8 l10 l11 l12 l13 l14 l15 l16 ((upd (upd (upd uL.1 6 ((uL.1 6) &&& (((1 : Int32) <<< ((uL.1 1) &&& 31)) ^^^ (-1 : Int32)))) ((9 : Int32) + (uL.1 1)).toNatClampNeg (((upd uL.1 6 ((uL.1 6) &&& (((1 : Int32) <<< ((uL.1 1) &&& 31)) ^^^ (-1 : Int32)))) ((9 : Int32) + (uL.1 1)).toNatClampNeg) + (1 : Int32))) ((21 : Int32) + (uL.1 1)).toNatClampNeg (((upd (upd uL.1 6 ((uL.1 6) &&& (((1 : Int32) <<< ((uL.1 1) &&& 31)) ^^^ (-1 : Int32)))) ((9 : Int32) + (uL.1 1)).toNatClampNeg (((upd uL.1 6 ((uL.1 6) &&& (((1 : Int32) <<< ((uL.1 1) &&& 31)) ^^^ (-1 : Int32)))) ((9 : Int32) + (uL.1 1)).toNatClampNeg) + (1 : Int32))) ((21 : Int32) + (uL.1 1)).toNatClampNeg) + (1 : Int32))), uL.2.1, (uL.1 1), uL.2.2.2))) := D_L hD
      refine lv_goto (tgt := 111) hx hb dX5_stop_103 (by decide) ?_
      have hok := Option.some.inj hok
      subst hok
      exact eWv S hr hlk hP hS (Nat.le_of_ble_eq_true rfl) (Nat.le_of_ble_eq_true rfl) dX5_stop_111
  · have hok := ip hok hc
    have hok := Option.some.inj hok
    subst hok
    exact eWv S hr hlk hP hS (Nat.le_of_ble_eq_true rfl) (Nat.le_of_ble_eq_true rfl) dX5_stop_45
theorem hd_X5_isWay : yX5_isWay.cls = RX5 ∧ yX5_isWay.cls ≠ "java/lang/invoke/MethodHandle" ∧ yX5_isWay.cls ≠ "java/lang/invoke/VarHandle" ∧ (parseMethodDescriptor yX5_isWay.desc).map (fun d => d.parameters.length) = some 1 := by decide +kernel
def p_X5_isWay_L9 : Nat → tX5 → Int32 → Int32 → Option Int32
  | 0, _, _, _ => none
  | n + 1, uL, l9_1, l9_2 =>
    bd (p_X5_isFloor uL l9_2) (fun v1 =>
    if v1 = 0 then
      some (0 : Int32)
    else
      if l9_1 = 0 then
        some (0 : Int32)
      else
        bd (p_X5_has (uL.1 6) l9_2) (fun v2 =>
        if v2 = 0 then
          (p_X5_isWay_L9 n) uL l9_1 (l9_2 + l9_1)
        else
          some (1 : Int32)))
def p_X5_isWay (uL : tX5) (a1 : Int32) : Option Int32 :=
  p_X5_isWay_L9 200 uL a1 ((uL.1 1) + a1)
set_option maxHeartbeats 4000000 in
set_option maxRecDepth 100000 in
theorem c_X5_isWay (l : Launch) (dC : Nat → ClassId) (dI : Nat → Nat → Nat) (cI cZ : ClassId) (l0 l4 l5 l6 l8 l10 l11 l12 l13 l14 l15 l16 : Nat) (uL : tX5) (a1 : Int32) {z : Int32} (hok : p_X5_isWay uL a1 = some z) : Met l yX5_isWay (Cond.code yX5_isWay cX5_isWay 3 (some .boolean) :: lw_all) { frames := 2, cells := 0, slots := 0, locals := 43 } (prR (dC, dI) vwCl (TYS cI cZ) ((wX5 cI cZ l0 l4 l5 l6 l8 l10 l11 l12 l13 l14 l15 l16 uL)) [.ref l0, .int a1]) (vp_Si (fun r => r = z)) 0 0 (fun _ => False) := by
  refine oM (by decide) (Nat.le_of_ble_eq_true rfl) ?_
  intro p e s m args below meth c S hr hlk hnm hB ls hl
  have hx := S.1
  have hb := S.2.1
  have hml := S.2.2.1
  have hown : s.vm.findClass RX5 = some m.cls := S.2.2.2.1
  have hts := S.2.2.2.2
  have S : CallFix p m c cX5_isWay 3 s args lw_all RX5 := S
  have hl : lv_has ls 3 [(0, .ref l0), (1, .int a1)] := hl
  obtain ⟨hP, hK⟩ := hB
  have hP : va_P (dC, dI) vwCl ((wX5 cI cZ l0 l4 l5 l6 l8 l10 l11 l12 l13 l14 l15 l16 uL)) s.heap := hP
  have L9 : ∀ n9 : Nat, ∀ (l9_1 : Int32) (l9_2 : Int32) (ls : Array Slot) (hl : lv_has ls 3 [(0, .ref l0), (1, .int l9_1), (2, .int l9_2)]) (hok : p_X5_isWay_L9 n9 uL l9_1 l9_2 = some z), W p l e { frames := 2, cells := 0, slots := 0, locals := 43 } s m args below meth c s.heap [] 0 0 (MQ below (vp_Si (fun r => r = z)) args s 0 0 (fun _ => False)) (F0 m 9 ls []) := by
    intro n9
    induction n9 with
    | zero =>
      intro l9_1 l9_2 ls hl hok
      rw [p_X5_isWay_L9] at hok
      cases hok
    | succ n9 ih9 =>
      intro l9_1 l9_2 ls hl hok
      rw [p_X5_isWay_L9] at hok
      refine lv_aload_n hx hb dX5_isWay_9 rfl (lv_at hl 0 rfl) ?_
      refine lv_iload_n hx hb dX5_isWay_10 rfl (lv_at hl 2 rfl) ?_
      obtain ⟨v1, hc1, hok⟩ := bd_some hok
      refine cRVi (ci := 5) (q0 := 0) [.int l9_2] S hK hP (c_X5_isFloor l dC dI cI cZ l0 l4 l5 l6 l8 l10 l11 l12 l13 l14 l15 l16 uL l9_2 hc1) (lw_V qm_X5_93 qi_X5_isFloor qs_X5_isFloor qn_X5 qc_X5_isFloor) hd_X5_isFloor ⟨rfl, rfl⟩ ⟨Nat.le_of_ble_eq_true rfl, Nat.le_of_ble_eq_true rfl⟩ ⟨Nat.le_of_ble_eq_true rfl, Nat.le_of_ble_eq_true rfl⟩ rfl rfl rfl hl.1 (Nat.le_of_ble_eq_true rfl) rfl dX5_isWay_11 ?_
      refine lv_if_eq (tgt := 44) hx hb dX5_isWay_14 (by decide) (fun hc => ?_) (fun hc => ?_)
      · have hok := ip hok hc
        refine lv_iconst (v := (0 : Int32)) hx hb dX5_isWay_44 (by decide) ?_
        exact eRz S hr hlk (by decide) (Option.some.inj hok) dX5_isWay_45
      · have hok := iq hok hc
        refine lv_iload_n hx hb dX5_isWay_17 rfl (lv_at hl 1 rfl) ?_
        refine lv_if_eq (tgt := 44) hx hb dX5_isWay_18 (by decide) (fun hc => ?_) (fun hc => ?_)
        · have hok := ip hok hc
          refine lv_iconst (v := (0 : Int32)) hx hb dX5_isWay_44 (by decide) ?_
          exact eRz S hr hlk (by decide) (Option.some.inj hok) dX5_isWay_45
        · have hok := iq hok hc
          refine lv_aload_n hx hb dX5_isWay_21 rfl (lv_at hl 0 rfl) ?_
          refine va_get (D := (dC, dI)) (ci := 5) (v := .ref l15) (C := RX5) (T := TX5) (N := 18) hx hb hts inX5 hown hK hP 0 rfl rfl 15 (by decide) (hts _ qf_X5_44) (fun _ h9 => h9) rfl dX5_isWay_22 ?_
          refine lv_bipush (v := (6 : Int32)) hx hb dX5_isWay_25 (by decide) ?_
          refine va_ialdK hx hb hK hP 10 0 rfl rfl (j := 6) (by decide) (vp_inK (by decide)) dX5_isWay_27 ?_
          refine lv_iload_n hx hb dX5_isWay_28 rfl (lv_at hl 2 rfl) ?_
          obtain ⟨v2, hc2, hok⟩ := bd_some hok
          refine cRSi [.int (uL.1 6), .int l9_2] S hK va_Pnil (c_X5_has l dC dI cI cZ (uL.1 6) l9_2 hc2) (lw_S qm_X5_69 qt_X5_has qn_X5 qc_X5_has) hd_X5_has ⟨rfl, rfl⟩ ⟨Nat.le_of_ble_eq_true rfl, Nat.le_of_ble_eq_true rfl⟩ ⟨Nat.le_of_ble_eq_true rfl, Nat.le_of_ble_eq_true rfl⟩ rfl hl.1 (Nat.le_of_ble_eq_true rfl) rfl dX5_isWay_29 ?_
          refine lv_if_eq (tgt := 37) hx hb dX5_isWay_32 (by decide) (fun hc => ?_) (fun hc => ?_)
          · have hok := ip hok hc
            refine lv_iload_n hx hb dX5_isWay_37 rfl (lv_at hl 2 rfl) ?_
            refine lv_iload_n hx hb dX5_isWay_38 rfl (lv_at hl 1 rfl) ?_
            refine lv_iadd hx hb dX5_isWay_39 ?_
            refine lv_istore_n (lv' := [(2, .int (l9_2 + l9_1)), (0, .ref l0), (1, .int l9_1)]) hx hb dX5_isWay_40 rfl hl (by decide) rfl (fun ls hl => ?_)
            refine lv_goto (tgt := 9) hx hb dX5_isWay_41 (by decide) ?_
            exact ih9 l9_1 (l9_2 + l9_1) _ (lv_sub hl [1, 2, 0] rfl) hok
          · have hok := iq hok hc
            refine lv_iconst (v := (1 : Int32)) hx hb dX5_isWay_35 (by decide) ?_
            exact eRz S hr hlk (by decide) (Option.some.inj hok) dX5_isWay_36
  unfold p_X5_isWay at hok
  refine lv_aload_n hx hb dX5_isWay_0 rfl (lv_at hl 0 rfl) ?_
  refine va_get (D := (dC, dI)) (ci := 5) (v := .ref l15) (C := RX5) (T := TX5) (N := 18) hx hb hts inX5 hown hK hP 0 rfl rfl 15 (by decide) (hts _ qf_X5_44) (fun _ h9 => h9) rfl dX5_isWay_1 ?_
  refine lv_iconst (v := (1 : Int32)) hx hb dX5_isWay_4 (by decide) ?_
  refine va_ialdK hx hb hK hP 10 0 rfl rfl (j := 1) (by decide) (vp_inK (by decide)) dX5_isWay_5 ?_
  refine lv_iload_n hx hb dX5_isWay_6 rfl (lv_at hl 1 rfl) ?_
  refine lv_iadd hx hb dX5_isWay_7 ?_
  refine lv_istore_n (lv' := [(2, .int ((uL.1 1) + a1)), (0, .ref l0), (1, .int a1)]) hx hb dX5_isWay_8 rfl hl (by decide) rfl (fun ls hl => ?_)
  exact L9 200 a1 ((uL.1 1) + a1) _ (lv_sub hl [1, 2, 0] rfl) hok
