theorem hd_X5_floors : yX5_floors.cls = RX5 ∧ yX5_floors.cls ≠ "java/lang/invoke/MethodHandle" ∧ yX5_floors.cls ≠ "java/lang/invoke/VarHandle" ∧ (parseMethodDescriptor yX5_floors.desc).map (fun d => d.parameters.length) = some 0 := by decide +kernel
def p_X5_floors (uL : tX5) : Option (Int32 × tX5) :=
  bd (p_X5_told uL uL.2.2.2.2.1) (fun v1 =>
  some (v1.1, v1.2))
set_option maxHeartbeats 4000000 in
set_option maxRecDepth 100000 in
theorem c_X5_floors (l : Launch) (dC : Nat → ClassId) (dI : Nat → Nat → Nat) (cI cZ : ClassId) (l0 l4 l5 l6 l8 l10 l11 l12 l13 l14 l15 l16 : Nat) (sz : Nat) (uL : tX5) {z : (Int32 × tX5)} (hok : p_X5_floors uL = some z) : Met l yX5_floors (Cond.code yX5_floors cX5_floors 1 (some .int) :: lw_all) { frames := 1, cells := 0, slots := 0, locals := 21 } (prW (dC, dI) vwCl (TYS cI cZ) ((wX5 cI cZ l0 l4 l5 l6 l8 l10 l11 l12 l13 l14 l15 l16 uL)) sz [.ref l0]) (va_Qi (fun (r : Int32) (_ : Unit) => r = z.1) (fun _ t => va_P (dC, dI) vwCl ((wX5 cI cZ l0 l4 l5 l6 l8 l10 l11 l12 l13 l14 l15 l16 z.2)) t.heap) (va_A ((wX5 cI cZ l0 l4 l5 l6 l8 l10 l11 l12 l13 l14 l15 l16 uL)) sz)) 0 0 (va_A ((wX5 cI cZ l0 l4 l5 l6 l8 l10 l11 l12 l13 l14 l15 l16 uL)) sz) := by
  refine oM (by decide) (Nat.le_of_ble_eq_true rfl) ?_
  intro p e s m args below meth c S hr hlk hnm hB ls hl
  have hx := S.1
  have hb := S.2.1
  have hml := S.2.2.1
  have hown : s.vm.findClass RX5 = some m.cls := S.2.2.2.1
  have hts := S.2.2.2.2
  have S : CallFix p m c cX5_floors 1 s args lw_all RX5 := S
  have hl : lv_has ls 1 [(0, .ref l0)] := hl
  obtain ⟨hsz, hP, hK, hD0⟩ := hB
  subst hsz
  have hD := hD0.self (sz := s.heap.size)
  generalize hAe : va_A ((wX5 cI cZ l0 l4 l5 l6 l8 l10 l11 l12 l13 l14 l15 l16 uL)) s.heap.size = A at hD ⊢
  have hA : ∀ q : Nat, s.heap.size ≤ q → A q := fun q h => by rw [← hAe]; exact Or.inr h
  have hS : va_S A s.heap s.heap [] := va_S.rf
  have hP : va_P (dC, dI) vwCl ((wX5 cI cZ l0 l4 l5 l6 l8 l10 l11 l12 l13 l14 l15 l16 uL)) s.heap := hP
  unfold p_X5_floors at hok
  refine lv_aload_n hx hb dX5_floors_0 rfl (lv_at hl 0 rfl) ?_
  refine lv_aload_n hx hb dX5_floors_1 rfl (lv_at hl 0 rfl) ?_
  refine va_get (D := (dC, dI)) (ci := 5) (v := .int uL.2.2.2.2.1) (C := RX5) (T := TX5) (N := 18) hx hb hts inX5 hown hK hP 0 rfl rfl 1 (by decide) (hts _ qf_X5_7) (fun _ h9 => h9) rfl dX5_floors_2 ?_
  obtain ⟨v1, hc1, hok⟩ := bd_some hok
  refine cWVi (ci := 5) (q0 := 0) [.int uL.2.2.2.2.1] S hK hP hD hS hA (c_X5_told l dC dI cI cZ l0 l4 l5 l6 l8 l10 l11 l12 l13 l14 l15 l16 _ uL uL.2.2.2.2.1 hc1) (lw_V qm_X5_125 qi_X5_told qs_X5_told qn_X5 qc_X5_told) hd_X5_told ⟨rfl, rfl⟩ ⟨Nat.le_of_ble_eq_true rfl, Nat.le_of_ble_eq_true rfl⟩ ⟨Nat.le_of_ble_eq_true rfl, Nat.le_of_ble_eq_true rfl⟩ rfl rfl rfl hl.1 (Nat.le_of_ble_eq_true rfl) rfl dX5_floors_5 (D_L hD) (fun H locs hP hD hS => ?_)
  have hok := Option.some.inj hok
  subst hok
  exact eWi S hr hlk rfl hP hS (Nat.le_of_ble_eq_true rfl) (Nat.le_of_ble_eq_true rfl) dX5_floors_8
theorem hd_X5_hours : yX5_hours.cls = RX5 ∧ yX5_hours.cls ≠ "java/lang/invoke/MethodHandle" ∧ yX5_hours.cls ≠ "java/lang/invoke/VarHandle" ∧ (parseMethodDescriptor yX5_hours.desc).map (fun d => d.parameters.length) = some 0 := by decide +kernel
def p_X5_hours (uL : tX5) : Option (Int32 × tX5) :=
  bd (p_X5_told uL (uL.1 0)) (fun v1 =>
  some (v1.1, v1.2))
set_option maxHeartbeats 4000000 in
set_option maxRecDepth 100000 in
theorem c_X5_hours (l : Launch) (dC : Nat → ClassId) (dI : Nat → Nat → Nat) (cI cZ : ClassId) (l0 l4 l5 l6 l8 l10 l11 l12 l13 l14 l15 l16 : Nat) (sz : Nat) (uL : tX5) {z : (Int32 × tX5)} (hok : p_X5_hours uL = some z) : Met l yX5_hours (Cond.code yX5_hours cX5_hours 1 (some .int) :: lw_all) { frames := 1, cells := 0, slots := 0, locals := 21 } (prW (dC, dI) vwCl (TYS cI cZ) ((wX5 cI cZ l0 l4 l5 l6 l8 l10 l11 l12 l13 l14 l15 l16 uL)) sz [.ref l0]) (va_Qi (fun (r : Int32) (_ : Unit) => r = z.1) (fun _ t => va_P (dC, dI) vwCl ((wX5 cI cZ l0 l4 l5 l6 l8 l10 l11 l12 l13 l14 l15 l16 z.2)) t.heap) (va_A ((wX5 cI cZ l0 l4 l5 l6 l8 l10 l11 l12 l13 l14 l15 l16 uL)) sz)) 0 0 (va_A ((wX5 cI cZ l0 l4 l5 l6 l8 l10 l11 l12 l13 l14 l15 l16 uL)) sz) := by
  refine oM (by decide) (Nat.le_of_ble_eq_true rfl) ?_
  intro p e s m args below meth c S hr hlk hnm hB ls hl
  have hx := S.1
  have hb := S.2.1
  have hml := S.2.2.1
  have hown : s.vm.findClass RX5 = some m.cls := S.2.2.2.1
  have hts := S.2.2.2.2
  have S : CallFix p m c cX5_hours 1 s args lw_all RX5 := S
  have hl : lv_has ls 1 [(0, .ref l0)] := hl
  obtain ⟨hsz, hP, hK, hD0⟩ := hB
  subst hsz
  have hD := hD0.self (sz := s.heap.size)
  generalize hAe : va_A ((wX5 cI cZ l0 l4 l5 l6 l8 l10 l11 l12 l13 l14 l15 l16 uL)) s.heap.size = A at hD ⊢
  have hA : ∀ q : Nat, s.heap.size ≤ q → A q := fun q h => by rw [← hAe]; exact Or.inr h
  have hS : va_S A s.heap s.heap [] := va_S.rf
  have hP : va_P (dC, dI) vwCl ((wX5 cI cZ l0 l4 l5 l6 l8 l10 l11 l12 l13 l14 l15 l16 uL)) s.heap := hP
  unfold p_X5_hours at hok
  refine lv_aload_n hx hb dX5_hours_0 rfl (lv_at hl 0 rfl) ?_
  refine lv_aload_n hx hb dX5_hours_1 rfl (lv_at hl 0 rfl) ?_
  refine va_get (D := (dC, dI)) (ci := 5) (v := .ref l15) (C := RX5) (T := TX5) (N := 18) hx hb hts inX5 hown hK hP 0 rfl rfl 15 (by decide) (hts _ qf_X5_44) (fun _ h9 => h9) rfl dX5_hours_2 ?_
  refine lv_iconst (v := (0 : Int32)) hx hb dX5_hours_5 (by decide) ?_
  refine va_ialdK hx hb hK hP 10 0 rfl rfl (j := 0) (by decide) (vp_inK (by decide)) dX5_hours_6 ?_
  obtain ⟨v1, hc1, hok⟩ := bd_some hok
  refine cWVi (ci := 5) (q0 := 0) [.int (uL.1 0)] S hK hP hD hS hA (c_X5_told l dC dI cI cZ l0 l4 l5 l6 l8 l10 l11 l12 l13 l14 l15 l16 _ uL (uL.1 0) hc1) (lw_V qm_X5_125 qi_X5_told qs_X5_told qn_X5 qc_X5_told) hd_X5_told ⟨rfl, rfl⟩ ⟨Nat.le_of_ble_eq_true rfl, Nat.le_of_ble_eq_true rfl⟩ ⟨Nat.le_of_ble_eq_true rfl, Nat.le_of_ble_eq_true rfl⟩ rfl rfl rfl hl.1 (Nat.le_of_ble_eq_true rfl) rfl dX5_hours_7 (D_L hD) (fun H locs hP hD hS => ?_)
  have hok := Option.some.inj hok
  subst hok
  exact eWi S hr hlk rfl hP hS (Nat.le_of_ble_eq_true rfl) (Nat.le_of_ble_eq_true rfl) dX5_hours_10
theorem hd_X5_liftAt : yX5_liftAt.cls = RX5 ∧ yX5_liftAt.cls ≠ "java/lang/invoke/MethodHandle" ∧ yX5_liftAt.cls ≠ "java/lang/invoke/VarHandle" ∧ (parseMethodDescriptor yX5_liftAt.desc).map (fun d => d.parameters.length) = some 0 := by decide +kernel
def p_X5_liftAt (uL : tX5) : Option (Int32 × tX5) :=
  bd (p_X5_told uL (uL.1 1)) (fun v1 =>
  some (v1.1, v1.2))
set_option maxHeartbeats 4000000 in
set_option maxRecDepth 100000 in
theorem c_X5_liftAt (l : Launch) (dC : Nat → ClassId) (dI : Nat → Nat → Nat) (cI cZ : ClassId) (l0 l4 l5 l6 l8 l10 l11 l12 l13 l14 l15 l16 : Nat) (sz : Nat) (uL : tX5) {z : (Int32 × tX5)} (hok : p_X5_liftAt uL = some z) : Met l yX5_liftAt (Cond.code yX5_liftAt cX5_liftAt 1 (some .int) :: lw_all) { frames := 1, cells := 0, slots := 0, locals := 21 } (prW (dC, dI) vwCl (TYS cI cZ) ((wX5 cI cZ l0 l4 l5 l6 l8 l10 l11 l12 l13 l14 l15 l16 uL)) sz [.ref l0]) (va_Qi (fun (r : Int32) (_ : Unit) => r = z.1) (fun _ t => va_P (dC, dI) vwCl ((wX5 cI cZ l0 l4 l5 l6 l8 l10 l11 l12 l13 l14 l15 l16 z.2)) t.heap) (va_A ((wX5 cI cZ l0 l4 l5 l6 l8 l10 l11 l12 l13 l14 l15 l16 uL)) sz)) 0 0 (va_A ((wX5 cI cZ l0 l4 l5 l6 l8 l10 l11 l12 l13 l14 l15 l16 uL)) sz) := by
  refine oM (by decide) (Nat.le_of_ble_eq_true rfl) ?_
  intro p e s m args below meth c S hr hlk hnm hB ls hl
  have hx := S.1
  have hb := S.2.1
  have hml := S.2.2.1
  have hown : s.vm.findClass RX5 = some m.cls := S.2.2.2.1
  have hts := S.2.2.2.2
  have S : CallFix p m c cX5_liftAt 1 s args lw_all RX5 := S
  have hl : lv_has ls 1 [(0, .ref l0)] := hl
  obtain ⟨hsz, hP, hK, hD0⟩ := hB
  subst hsz
  have hD := hD0.self (sz := s.heap.size)
  generalize hAe : va_A ((wX5 cI cZ l0 l4 l5 l6 l8 l10 l11 l12 l13 l14 l15 l16 uL)) s.heap.size = A at hD ⊢
  have hA : ∀ q : Nat, s.heap.size ≤ q → A q := fun q h => by rw [← hAe]; exact Or.inr h
  have hS : va_S A s.heap s.heap [] := va_S.rf
  have hP : va_P (dC, dI) vwCl ((wX5 cI cZ l0 l4 l5 l6 l8 l10 l11 l12 l13 l14 l15 l16 uL)) s.heap := hP
  unfold p_X5_liftAt at hok
  refine lv_aload_n hx hb dX5_liftAt_0 rfl (lv_at hl 0 rfl) ?_
  refine lv_aload_n hx hb dX5_liftAt_1 rfl (lv_at hl 0 rfl) ?_
  refine va_get (D := (dC, dI)) (ci := 5) (v := .ref l15) (C := RX5) (T := TX5) (N := 18) hx hb hts inX5 hown hK hP 0 rfl rfl 15 (by decide) (hts _ qf_X5_44) (fun _ h9 => h9) rfl dX5_liftAt_2 ?_
  refine lv_iconst (v := (1 : Int32)) hx hb dX5_liftAt_5 (by decide) ?_
  refine va_ialdK hx hb hK hP 10 0 rfl rfl (j := 1) (by decide) (vp_inK (by decide)) dX5_liftAt_6 ?_
  obtain ⟨v1, hc1, hok⟩ := bd_some hok
  refine cWVi (ci := 5) (q0 := 0) [.int (uL.1 1)] S hK hP hD hS hA (c_X5_told l dC dI cI cZ l0 l4 l5 l6 l8 l10 l11 l12 l13 l14 l15 l16 _ uL (uL.1 1) hc1) (lw_V qm_X5_125 qi_X5_told qs_X5_told qn_X5 qc_X5_told) hd_X5_told ⟨rfl, rfl⟩ ⟨Nat.le_of_ble_eq_true rfl, Nat.le_of_ble_eq_true rfl⟩ ⟨Nat.le_of_ble_eq_true rfl, Nat.le_of_ble_eq_true rfl⟩ rfl rfl rfl hl.1 (Nat.le_of_ble_eq_true rfl) rfl dX5_liftAt_7 (D_L hD) (fun H locs hP hD hS => ?_)
  have hok := Option.some.inj hok
  subst hok
  exact eWi S hr hlk rfl hP hS (Nat.le_of_ble_eq_true rfl) (Nat.le_of_ble_eq_true rfl) dX5_liftAt_10
theorem hd_X5_goes : yX5_goes.cls = RX5 ∧ yX5_goes.cls ≠ "java/lang/invoke/MethodHandle" ∧ yX5_goes.cls ≠ "java/lang/invoke/VarHandle" ∧ (parseMethodDescriptor yX5_goes.desc).map (fun d => d.parameters.length) = some 0 := by decide +kernel
def p_X5_goes (uL : tX5) : Option (Int32 × tX5) :=
  bd (p_X5_told uL (uL.1 2)) (fun v1 =>
  some (v1.1, v1.2))
set_option maxHeartbeats 4000000 in
set_option maxRecDepth 100000 in
theorem c_X5_goes (l : Launch) (dC : Nat → ClassId) (dI : Nat → Nat → Nat) (cI cZ : ClassId) (l0 l4 l5 l6 l8 l10 l11 l12 l13 l14 l15 l16 : Nat) (sz : Nat) (uL : tX5) {z : (Int32 × tX5)} (hok : p_X5_goes uL = some z) : Met l yX5_goes (Cond.code yX5_goes cX5_goes 1 (some .int) :: lw_all) { frames := 1, cells := 0, slots := 0, locals := 21 } (prW (dC, dI) vwCl (TYS cI cZ) ((wX5 cI cZ l0 l4 l5 l6 l8 l10 l11 l12 l13 l14 l15 l16 uL)) sz [.ref l0]) (va_Qi (fun (r : Int32) (_ : Unit) => r = z.1) (fun _ t => va_P (dC, dI) vwCl ((wX5 cI cZ l0 l4 l5 l6 l8 l10 l11 l12 l13 l14 l15 l16 z.2)) t.heap) (va_A ((wX5 cI cZ l0 l4 l5 l6 l8 l10 l11 l12 l13 l14 l15 l16 uL)) sz)) 0 0 (va_A ((wX5 cI cZ l0 l4 l5 l6 l8 l10 l11 l12 l13 l14 l15 l16 uL)) sz) := by
  refine oM (by decide) (Nat.le_of_ble_eq_true rfl) ?_
  intro p e s m args below meth c S hr hlk hnm hB ls hl
  have hx := S.1
  have hb := S.2.1
  have hml := S.2.2.1
  have hown : s.vm.findClass RX5 = some m.cls := S.2.2.2.1
  have hts := S.2.2.2.2
  have S : CallFix p m c cX5_goes 1 s args lw_all RX5 := S
  have hl : lv_has ls 1 [(0, .ref l0)] := hl
  obtain ⟨hsz, hP, hK, hD0⟩ := hB
  subst hsz
  have hD := hD0.self (sz := s.heap.size)
  generalize hAe : va_A ((wX5 cI cZ l0 l4 l5 l6 l8 l10 l11 l12 l13 l14 l15 l16 uL)) s.heap.size = A at hD ⊢
  have hA : ∀ q : Nat, s.heap.size ≤ q → A q := fun q h => by rw [← hAe]; exact Or.inr h
  have hS : va_S A s.heap s.heap [] := va_S.rf
  have hP : va_P (dC, dI) vwCl ((wX5 cI cZ l0 l4 l5 l6 l8 l10 l11 l12 l13 l14 l15 l16 uL)) s.heap := hP
  unfold p_X5_goes at hok
  refine lv_aload_n hx hb dX5_goes_0 rfl (lv_at hl 0 rfl) ?_
  refine lv_aload_n hx hb dX5_goes_1 rfl (lv_at hl 0 rfl) ?_
  refine va_get (D := (dC, dI)) (ci := 5) (v := .ref l15) (C := RX5) (T := TX5) (N := 18) hx hb hts inX5 hown hK hP 0 rfl rfl 15 (by decide) (hts _ qf_X5_44) (fun _ h9 => h9) rfl dX5_goes_2 ?_
  refine lv_iconst (v := (2 : Int32)) hx hb dX5_goes_5 (by decide) ?_
  refine va_ialdK hx hb hK hP 10 0 rfl rfl (j := 2) (by decide) (vp_inK (by decide)) dX5_goes_6 ?_
  obtain ⟨v1, hc1, hok⟩ := bd_some hok
  refine cWVi (ci := 5) (q0 := 0) [.int (uL.1 2)] S hK hP hD hS hA (c_X5_told l dC dI cI cZ l0 l4 l5 l6 l8 l10 l11 l12 l13 l14 l15 l16 _ uL (uL.1 2) hc1) (lw_V qm_X5_125 qi_X5_told qs_X5_told qn_X5 qc_X5_told) hd_X5_told ⟨rfl, rfl⟩ ⟨Nat.le_of_ble_eq_true rfl, Nat.le_of_ble_eq_true rfl⟩ ⟨Nat.le_of_ble_eq_true rfl, Nat.le_of_ble_eq_true rfl⟩ rfl rfl rfl hl.1 (Nat.le_of_ble_eq_true rfl) rfl dX5_goes_7 (D_L hD) (fun H locs hP hD hS => ?_)
  have hok := Option.some.inj hok
  subst hok
  exact eWi S hr hlk rfl hP hS (Nat.le_of_ble_eq_true rfl) (Nat.le_of_ble_eq_true rfl) dX5_goes_10
theorem hd_X5_isCalled : yX5_isCalled.cls = RX5 ∧ yX5_isCalled.cls ≠ "java/lang/invoke/MethodHandle" ∧ yX5_isCalled.cls ≠ "java/lang/invoke/VarHandle" ∧ (parseMethodDescriptor yX5_isCalled.desc).map (fun d => d.parameters.length) = some 1 := by decide +kernel
def p_X5_isCalled_J14 (uL : tX5) (l14_1 : Int32) (s14_0 : Int32) : Option (Int32 × tX5) :=
  if s14_0 = 0 then
    bd (p_X5_has (uL.1 6) l14_1) (fun v2 =>
    if v2 = 0 then
      some ((0 : Int32), (uL.1, uL.2.1, uL.2.2.1, s14_0, uL.2.2.2.2))
    else
      some ((1 : Int32), (uL.1, uL.2.1, uL.2.2.1, s14_0, uL.2.2.2.2)))
  else
    some ((0 : Int32), (uL.1, uL.2.1, uL.2.2.1, s14_0, uL.2.2.2.2))
def p_X5_isCalled (uL : tX5) (a1 : Int32) : Option (Int32 × tX5) :=
  bd (p_X5_isFloor uL a1) (fun v1 =>
  if v1 = 0 then
    p_X5_isCalled_J14 uL a1 (1 : Int32)
  else
    p_X5_isCalled_J14 uL a1 (0 : Int32))
set_option maxHeartbeats 4000000 in
set_option maxRecDepth 100000 in
theorem c_X5_isCalled (l : Launch) (dC : Nat → ClassId) (dI : Nat → Nat → Nat) (cI cZ : ClassId) (l0 l4 l5 l6 l8 l10 l11 l12 l13 l14 l15 l16 : Nat) (sz : Nat) (uL : tX5) (a1 : Int32) {z : (Int32 × tX5)} (hok : p_X5_isCalled uL a1 = some z) : Met l yX5_isCalled (Cond.code yX5_isCalled cX5_isCalled 2 (some .boolean) :: lw_all) { frames := 2, cells := 0, slots := 0, locals := 43 } (prW (dC, dI) vwCl (TYS cI cZ) ((wX5 cI cZ l0 l4 l5 l6 l8 l10 l11 l12 l13 l14 l15 l16 uL)) sz [.ref l0, .int a1]) (va_Qi (fun (r : Int32) (_ : Unit) => r = z.1) (fun _ t => va_P (dC, dI) vwCl ((wX5 cI cZ l0 l4 l5 l6 l8 l10 l11 l12 l13 l14 l15 l16 z.2)) t.heap) (va_A ((wX5 cI cZ l0 l4 l5 l6 l8 l10 l11 l12 l13 l14 l15 l16 uL)) sz)) 0 0 (va_A ((wX5 cI cZ l0 l4 l5 l6 l8 l10 l11 l12 l13 l14 l15 l16 uL)) sz) := by
  refine oM (by decide) (Nat.le_of_ble_eq_true rfl) ?_
  intro p e s m args below meth c S hr hlk hnm hB ls hl
  have hx := S.1
  have hb := S.2.1
  have hml := S.2.2.1
  have hown : s.vm.findClass RX5 = some m.cls := S.2.2.2.1
  have hts := S.2.2.2.2
  have S : CallFix p m c cX5_isCalled 2 s args lw_all RX5 := S
  have hl : lv_has ls 2 [(0, .ref l0), (1, .int a1)] := hl
  obtain ⟨hsz, hP, hK, hD0⟩ := hB
  subst hsz
  have hD := hD0.self (sz := s.heap.size)
  generalize hAe : va_A ((wX5 cI cZ l0 l4 l5 l6 l8 l10 l11 l12 l13 l14 l15 l16 uL)) s.heap.size = A at hD ⊢
  have hA : ∀ q : Nat, s.heap.size ≤ q → A q := fun q h => by rw [← hAe]; exact Or.inr h
  have hS : va_S A s.heap s.heap [] := va_S.rf
  have hP : va_P (dC, dI) vwCl ((wX5 cI cZ l0 l4 l5 l6 l8 l10 l11 l12 l13 l14 l15 l16 uL)) s.heap := hP
  have J14 : ∀ (uL : tX5) (l14_1 : Int32) (s14_0 : Int32) (H : Heap) (locs : List Loc) (hP : va_P (dC, dI) vwCl ((wX5 cI cZ l0 l4 l5 l6 l8 l10 l11 l12 l13 l14 l15 l16 uL)) H) (hD : va_D A ((wX5 cI cZ l0 l4 l5 l6 l8 l10 l11 l12 l13 l14 l15 l16 uL))) (hS : va_S A s.heap H locs) (ls : Array Slot) (hl : lv_has ls 2 [(0, .ref l0), (1, .int l14_1)]) (hok : p_X5_isCalled_J14 uL l14_1 s14_0 = some z), W p l e { frames := 2, cells := 0, slots := 0, locals := 43 } s m args below meth c H locs 0 0 (MQ below (va_Qi (fun (r : Int32) (_ : Unit) => r = z.1) (fun _ t => va_P (dC, dI) vwCl ((wX5 cI cZ l0 l4 l5 l6 l8 l10 l11 l12 l13 l14 l15 l16 z.2)) t.heap) A) args s 0 0 A) (F0 m 14 ls [.int s14_0, .ref l0]) := by
    intro uL l14_1 s14_0 H locs hP hD hS ls hl hok
    unfold p_X5_isCalled_J14 at hok
    refine va_put (D := (dC, dI)) (ci := 5) (v := .int s14_0) (ty := .int) (C := RX5) (T := TX5) (N := 18) hx hb hts inX5 tyX5 tyX5_ok nmX5 hown hK hP hD hS 0 rfl rfl 0 (by decide) (hts _ qf_X5_50) (fun _ h9 => h9) rfl (tyX5_ok 0 (by decide)) rfl rfl (Nat.le_of_ble_eq_true rfl) dX5_isCalled_14 (fun H locs hP _ hS => ?_)
    have hP : va_P (dC, dI) vwCl ((wX5 cI cZ l0 l4 l5 l6 l8 l10 l11 l12 l13 l14 l15 l16 (uL.1, uL.2.1, uL.2.2.1, s14_0, uL.2.2.2.2))) H := hP
    have hD : va_D A ((wX5 cI cZ l0 l4 l5 l6 l8 l10 l11 l12 l13 l14 l15 l16 (uL.1, uL.2.1, uL.2.2.1, s14_0, uL.2.2.2.2))) := D_L hD
    refine lv_aload_n hx hb dX5_isCalled_17 rfl (lv_at hl 0 rfl) ?_
    refine va_get (D := (dC, dI)) (ci := 5) (v := .int s14_0) (C := RX5) (T := TX5) (N := 18) hx hb hts inX5 hown hK hP 0 rfl rfl 0 (by decide) (hts _ qf_X5_50) (fun _ h9 => h9) rfl dX5_isCalled_18 ?_
    refine lv_if_ne (tgt := 42) hx hb dX5_isCalled_21 (by decide) (fun hc => ?_) (fun hc => ?_)
    · have hok := iq hok hc
      refine lv_iconst (v := (0 : Int32)) hx hb dX5_isCalled_42 (by decide) ?_
      have hok := Option.some.inj hok
      subst hok
      exact eWz S hr hlk (by decide) rfl hP hS (Nat.le_of_ble_eq_true rfl) (Nat.le_of_ble_eq_true rfl) dX5_isCalled_43
    · have hok := ip hok hc
      refine lv_aload_n hx hb dX5_isCalled_24 rfl (lv_at hl 0 rfl) ?_
      refine va_get (D := (dC, dI)) (ci := 5) (v := .ref l15) (C := RX5) (T := TX5) (N := 18) hx hb hts inX5 hown hK hP 0 rfl rfl 15 (by decide) (hts _ qf_X5_44) (fun _ h9 => h9) rfl dX5_isCalled_25 ?_
      refine lv_bipush (v := (6 : Int32)) hx hb dX5_isCalled_28 (by decide) ?_
      refine va_ialdK hx hb hK hP 10 0 rfl rfl (j := 6) (by decide) (vp_inK (by decide)) dX5_isCalled_30 ?_
      refine lv_iload_n hx hb dX5_isCalled_31 rfl (lv_at hl 1 rfl) ?_
      obtain ⟨v2, hc2, hok⟩ := bd_some hok
      refine cRSi [.int (uL.1 6), .int l14_1] S hK va_Pnil (c_X5_has l dC dI cI cZ (uL.1 6) l14_1 hc2) (lw_S qm_X5_69 qt_X5_has qn_X5 qc_X5_has) hd_X5_has ⟨rfl, rfl⟩ ⟨Nat.le_of_ble_eq_true rfl, Nat.le_of_ble_eq_true rfl⟩ ⟨Nat.le_of_ble_eq_true rfl, Nat.le_of_ble_eq_true rfl⟩ rfl hl.1 (Nat.le_of_ble_eq_true rfl) rfl dX5_isCalled_32 ?_
      refine lv_if_eq (tgt := 42) hx hb dX5_isCalled_35 (by decide) (fun hc => ?_) (fun hc => ?_)
      · have hok := ip hok hc
        refine lv_iconst (v := (0 : Int32)) hx hb dX5_isCalled_42 (by decide) ?_
        have hok := Option.some.inj hok
        subst hok
        exact eWz S hr hlk (by decide) rfl hP hS (Nat.le_of_ble_eq_true rfl) (Nat.le_of_ble_eq_true rfl) dX5_isCalled_43
      · have hok := iq hok hc
        refine lv_iconst (v := (1 : Int32)) hx hb dX5_isCalled_38 (by decide) ?_
        refine lv_goto (tgt := 43) hx hb dX5_isCalled_39 (by decide) ?_
        have hok := Option.some.inj hok
        subst hok
        exact eWz S hr hlk (by decide) rfl hP hS (Nat.le_of_ble_eq_true rfl) (Nat.le_of_ble_eq_true rfl) dX5_isCalled_43
  unfold p_X5_isCalled at hok
  refine lv_aload_n hx hb dX5_isCalled_0 rfl (lv_at hl 0 rfl) ?_
  refine lv_aload_n hx hb dX5_isCalled_1 rfl (lv_at hl 0 rfl) ?_
  refine lv_iload_n hx hb dX5_isCalled_2 rfl (lv_at hl 1 rfl) ?_
  obtain ⟨v1, hc1, hok⟩ := bd_some hok
  refine cRVi (ci := 5) (q0 := 0) [.int a1] S hK hP (c_X5_isFloor l dC dI cI cZ l0 l4 l5 l6 l8 l10 l11 l12 l13 l14 l15 l16 uL a1 hc1) (lw_V qm_X5_93 qi_X5_isFloor qs_X5_isFloor qn_X5 qc_X5_isFloor) hd_X5_isFloor ⟨rfl, rfl⟩ ⟨Nat.le_of_ble_eq_true rfl, Nat.le_of_ble_eq_true rfl⟩ ⟨Nat.le_of_ble_eq_true rfl, Nat.le_of_ble_eq_true rfl⟩ rfl rfl rfl hl.1 (Nat.le_of_ble_eq_true rfl) rfl dX5_isCalled_3 ?_
  refine lv_if_eq (tgt := 13) hx hb dX5_isCalled_6 (by decide) (fun hc => ?_) (fun hc => ?_)
  · have hok := ip hok hc
    refine lv_iconst (v := (1 : Int32)) hx hb dX5_isCalled_13 (by decide) ?_
    exact J14 uL a1 (1 : Int32) _ _ hP hD hS _ hl hok
  · have hok := iq hok hc
    refine lv_iconst (v := (0 : Int32)) hx hb dX5_isCalled_9 (by decide) ?_
    refine lv_goto (tgt := 14) hx hb dX5_isCalled_10 (by decide) ?_
    exact J14 uL a1 (0 : Int32) _ _ hP hD hS _ hl hok
theorem hd_X5_calls : yX5_calls.cls = RX5 ∧ yX5_calls.cls ≠ "java/lang/invoke/MethodHandle" ∧ yX5_calls.cls ≠ "java/lang/invoke/VarHandle" ∧ (parseMethodDescriptor yX5_calls.desc).map (fun d => d.parameters.length) = some 0 := by decide +kernel
def p_X5_calls (uL : tX5) : Option (Int32 × tX5) :=
  bd (p_X5_ones (uL.1 6)) (fun v1 =>
  bd (p_X5_told uL v1) (fun v2 =>
  some (v2.1, v2.2)))
set_option maxHeartbeats 4000000 in
set_option maxRecDepth 100000 in
theorem c_X5_calls (l : Launch) (dC : Nat → ClassId) (dI : Nat → Nat → Nat) (cI cZ : ClassId) (l0 l4 l5 l6 l8 l10 l11 l12 l13 l14 l15 l16 : Nat) (sz : Nat) (uL : tX5) {z : (Int32 × tX5)} (hok : p_X5_calls uL = some z) : Met l yX5_calls (Cond.code yX5_calls cX5_calls 1 (some .int) :: lw_all) { frames := 1, cells := 0, slots := 0, locals := 22 } (prW (dC, dI) vwCl (TYS cI cZ) ((wX5 cI cZ l0 l4 l5 l6 l8 l10 l11 l12 l13 l14 l15 l16 uL)) sz [.ref l0]) (va_Qi (fun (r : Int32) (_ : Unit) => r = z.1) (fun _ t => va_P (dC, dI) vwCl ((wX5 cI cZ l0 l4 l5 l6 l8 l10 l11 l12 l13 l14 l15 l16 z.2)) t.heap) (va_A ((wX5 cI cZ l0 l4 l5 l6 l8 l10 l11 l12 l13 l14 l15 l16 uL)) sz)) 0 0 (va_A ((wX5 cI cZ l0 l4 l5 l6 l8 l10 l11 l12 l13 l14 l15 l16 uL)) sz) := by
  refine oM (by decide) (Nat.le_of_ble_eq_true rfl) ?_
  intro p e s m args below meth c S hr hlk hnm hB ls hl
  have hx := S.1
  have hb := S.2.1
  have hml := S.2.2.1
  have hown : s.vm.findClass RX5 = some m.cls := S.2.2.2.1
  have hts := S.2.2.2.2
  have S : CallFix p m c cX5_calls 1 s args lw_all RX5 := S
  have hl : lv_has ls 1 [(0, .ref l0)] := hl
  obtain ⟨hsz, hP, hK, hD0⟩ := hB
  subst hsz
  have hD := hD0.self (sz := s.heap.size)
  generalize hAe : va_A ((wX5 cI cZ l0 l4 l5 l6 l8 l10 l11 l12 l13 l14 l15 l16 uL)) s.heap.size = A at hD ⊢
  have hA : ∀ q : Nat, s.heap.size ≤ q → A q := fun q h => by rw [← hAe]; exact Or.inr h
  have hS : va_S A s.heap s.heap [] := va_S.rf
  have hP : va_P (dC, dI) vwCl ((wX5 cI cZ l0 l4 l5 l6 l8 l10 l11 l12 l13 l14 l15 l16 uL)) s.heap := hP
  unfold p_X5_calls at hok
  refine lv_aload_n hx hb dX5_calls_0 rfl (lv_at hl 0 rfl) ?_
  refine lv_aload_n hx hb dX5_calls_1 rfl (lv_at hl 0 rfl) ?_
  refine va_get (D := (dC, dI)) (ci := 5) (v := .ref l15) (C := RX5) (T := TX5) (N := 18) hx hb hts inX5 hown hK hP 0 rfl rfl 15 (by decide) (hts _ qf_X5_44) (fun _ h9 => h9) rfl dX5_calls_2 ?_
  refine lv_bipush (v := (6 : Int32)) hx hb dX5_calls_5 (by decide) ?_
  refine va_ialdK hx hb hK hP 10 0 rfl rfl (j := 6) (by decide) (vp_inK (by decide)) dX5_calls_7 ?_
  obtain ⟨v1, hc1, hok⟩ := bd_some hok
  refine cRSi [.int (uL.1 6)] S hK va_Pnil (c_X5_ones l dC dI cI cZ (uL.1 6) hc1) (lw_S qm_X5_116 qt_X5_ones qn_X5 qc_X5_ones) hd_X5_ones ⟨rfl, rfl⟩ ⟨Nat.le_of_ble_eq_true rfl, Nat.le_of_ble_eq_true rfl⟩ ⟨Nat.le_of_ble_eq_true rfl, Nat.le_of_ble_eq_true rfl⟩ rfl hl.1 (Nat.le_of_ble_eq_true rfl) rfl dX5_calls_8 ?_
  obtain ⟨v2, hc2, hok⟩ := bd_some hok
  refine cWVi (ci := 5) (q0 := 0) [.int v1] S hK hP hD hS hA (c_X5_told l dC dI cI cZ l0 l4 l5 l6 l8 l10 l11 l12 l13 l14 l15 l16 _ uL v1 hc2) (lw_V qm_X5_125 qi_X5_told qs_X5_told qn_X5 qc_X5_told) hd_X5_told ⟨rfl, rfl⟩ ⟨Nat.le_of_ble_eq_true rfl, Nat.le_of_ble_eq_true rfl⟩ ⟨Nat.le_of_ble_eq_true rfl, Nat.le_of_ble_eq_true rfl⟩ rfl rfl rfl hl.1 (Nat.le_of_ble_eq_true rfl) rfl dX5_calls_11 (D_L hD) (fun H locs hP hD hS => ?_)
  have hok := Option.some.inj hok
  subst hok
  exact eWi S hr hlk rfl hP hS (Nat.le_of_ble_eq_true rfl) (Nat.le_of_ble_eq_true rfl) dX5_calls_14
theorem hd_X5_stuckFor : yX5_stuckFor.cls = RX5 ∧ yX5_stuckFor.cls ≠ "java/lang/invoke/MethodHandle" ∧ yX5_stuckFor.cls ≠ "java/lang/invoke/VarHandle" ∧ (parseMethodDescriptor yX5_stuckFor.desc).map (fun d => d.parameters.length) = some 0 := by decide +kernel
def p_X5_stuckFor (uL : tX5) : Option (Int32 × tX5) :=
  bd (p_X5_told uL (uL.1 3)) (fun v1 =>
  some (v1.1, v1.2))
set_option maxHeartbeats 4000000 in
set_option maxRecDepth 100000 in
theorem c_X5_stuckFor (l : Launch) (dC : Nat → ClassId) (dI : Nat → Nat → Nat) (cI cZ : ClassId) (l0 l4 l5 l6 l8 l10 l11 l12 l13 l14 l15 l16 : Nat) (sz : Nat) (uL : tX5) {z : (Int32 × tX5)} (hok : p_X5_stuckFor uL = some z) : Met l yX5_stuckFor (Cond.code yX5_stuckFor cX5_stuckFor 1 (some .int) :: lw_all) { frames := 1, cells := 0, slots := 0, locals := 21 } (prW (dC, dI) vwCl (TYS cI cZ) ((wX5 cI cZ l0 l4 l5 l6 l8 l10 l11 l12 l13 l14 l15 l16 uL)) sz [.ref l0]) (va_Qi (fun (r : Int32) (_ : Unit) => r = z.1) (fun _ t => va_P (dC, dI) vwCl ((wX5 cI cZ l0 l4 l5 l6 l8 l10 l11 l12 l13 l14 l15 l16 z.2)) t.heap) (va_A ((wX5 cI cZ l0 l4 l5 l6 l8 l10 l11 l12 l13 l14 l15 l16 uL)) sz)) 0 0 (va_A ((wX5 cI cZ l0 l4 l5 l6 l8 l10 l11 l12 l13 l14 l15 l16 uL)) sz) := by
  refine oM (by decide) (Nat.le_of_ble_eq_true rfl) ?_
  intro p e s m args below meth c S hr hlk hnm hB ls hl
  have hx := S.1
  have hb := S.2.1
  have hml := S.2.2.1
  have hown : s.vm.findClass RX5 = some m.cls := S.2.2.2.1
  have hts := S.2.2.2.2
  have S : CallFix p m c cX5_stuckFor 1 s args lw_all RX5 := S
  have hl : lv_has ls 1 [(0, .ref l0)] := hl
  obtain ⟨hsz, hP, hK, hD0⟩ := hB
  subst hsz
  have hD := hD0.self (sz := s.heap.size)
  generalize hAe : va_A ((wX5 cI cZ l0 l4 l5 l6 l8 l10 l11 l12 l13 l14 l15 l16 uL)) s.heap.size = A at hD ⊢
  have hA : ∀ q : Nat, s.heap.size ≤ q → A q := fun q h => by rw [← hAe]; exact Or.inr h
  have hS : va_S A s.heap s.heap [] := va_S.rf
  have hP : va_P (dC, dI) vwCl ((wX5 cI cZ l0 l4 l5 l6 l8 l10 l11 l12 l13 l14 l15 l16 uL)) s.heap := hP
  unfold p_X5_stuckFor at hok
  refine lv_aload_n hx hb dX5_stuckFor_0 rfl (lv_at hl 0 rfl) ?_
  refine lv_aload_n hx hb dX5_stuckFor_1 rfl (lv_at hl 0 rfl) ?_
  refine va_get (D := (dC, dI)) (ci := 5) (v := .ref l15) (C := RX5) (T := TX5) (N := 18) hx hb hts inX5 hown hK hP 0 rfl rfl 15 (by decide) (hts _ qf_X5_44) (fun _ h9 => h9) rfl dX5_stuckFor_2 ?_
  refine lv_iconst (v := (3 : Int32)) hx hb dX5_stuckFor_5 (by decide) ?_
  refine va_ialdK hx hb hK hP 10 0 rfl rfl (j := 3) (by decide) (vp_inK (by decide)) dX5_stuckFor_6 ?_
  obtain ⟨v1, hc1, hok⟩ := bd_some hok
  refine cWVi (ci := 5) (q0 := 0) [.int (uL.1 3)] S hK hP hD hS hA (c_X5_told l dC dI cI cZ l0 l4 l5 l6 l8 l10 l11 l12 l13 l14 l15 l16 _ uL (uL.1 3) hc1) (lw_V qm_X5_125 qi_X5_told qs_X5_told qn_X5 qc_X5_told) hd_X5_told ⟨rfl, rfl⟩ ⟨Nat.le_of_ble_eq_true rfl, Nat.le_of_ble_eq_true rfl⟩ ⟨Nat.le_of_ble_eq_true rfl, Nat.le_of_ble_eq_true rfl⟩ rfl rfl rfl hl.1 (Nat.le_of_ble_eq_true rfl) rfl dX5_stuckFor_7 (D_L hD) (fun H locs hP hD hS => ?_)
  have hok := Option.some.inj hok
  subst hok
  exact eWi S hr hlk rfl hP hS (Nat.le_of_ble_eq_true rfl) (Nat.le_of_ble_eq_true rfl) dX5_stuckFor_10
theorem hd_X5_wear : yX5_wear.cls = RX5 ∧ yX5_wear.cls ≠ "java/lang/invoke/MethodHandle" ∧ yX5_wear.cls ≠ "java/lang/invoke/VarHandle" ∧ (parseMethodDescriptor yX5_wear.desc).map (fun d => d.parameters.length) = some 0 := by decide +kernel
def p_X5_wear (uL : tX5) : Option (Int32 × tX5) :=
  bd (p_X5_told uL (uL.1 4)) (fun v1 =>
  some (v1.1, v1.2))
set_option maxHeartbeats 4000000 in
set_option maxRecDepth 100000 in
theorem c_X5_wear (l : Launch) (dC : Nat → ClassId) (dI : Nat → Nat → Nat) (cI cZ : ClassId) (l0 l4 l5 l6 l8 l10 l11 l12 l13 l14 l15 l16 : Nat) (sz : Nat) (uL : tX5) {z : (Int32 × tX5)} (hok : p_X5_wear uL = some z) : Met l yX5_wear (Cond.code yX5_wear cX5_wear 1 (some .int) :: lw_all) { frames := 1, cells := 0, slots := 0, locals := 21 } (prW (dC, dI) vwCl (TYS cI cZ) ((wX5 cI cZ l0 l4 l5 l6 l8 l10 l11 l12 l13 l14 l15 l16 uL)) sz [.ref l0]) (va_Qi (fun (r : Int32) (_ : Unit) => r = z.1) (fun _ t => va_P (dC, dI) vwCl ((wX5 cI cZ l0 l4 l5 l6 l8 l10 l11 l12 l13 l14 l15 l16 z.2)) t.heap) (va_A ((wX5 cI cZ l0 l4 l5 l6 l8 l10 l11 l12 l13 l14 l15 l16 uL)) sz)) 0 0 (va_A ((wX5 cI cZ l0 l4 l5 l6 l8 l10 l11 l12 l13 l14 l15 l16 uL)) sz) := by
  refine oM (by decide) (Nat.le_of_ble_eq_true rfl) ?_
  intro p e s m args below meth c S hr hlk hnm hB ls hl
  have hx := S.1
  have hb := S.2.1
  have hml := S.2.2.1
  have hown : s.vm.findClass RX5 = some m.cls := S.2.2.2.1
  have hts := S.2.2.2.2
  have S : CallFix p m c cX5_wear 1 s args lw_all RX5 := S
  have hl : lv_has ls 1 [(0, .ref l0)] := hl
  obtain ⟨hsz, hP, hK, hD0⟩ := hB
  subst hsz
  have hD := hD0.self (sz := s.heap.size)
  generalize hAe : va_A ((wX5 cI cZ l0 l4 l5 l6 l8 l10 l11 l12 l13 l14 l15 l16 uL)) s.heap.size = A at hD ⊢
  have hA : ∀ q : Nat, s.heap.size ≤ q → A q := fun q h => by rw [← hAe]; exact Or.inr h
  have hS : va_S A s.heap s.heap [] := va_S.rf
  have hP : va_P (dC, dI) vwCl ((wX5 cI cZ l0 l4 l5 l6 l8 l10 l11 l12 l13 l14 l15 l16 uL)) s.heap := hP
  unfold p_X5_wear at hok
  refine lv_aload_n hx hb dX5_wear_0 rfl (lv_at hl 0 rfl) ?_
  refine lv_aload_n hx hb dX5_wear_1 rfl (lv_at hl 0 rfl) ?_
  refine va_get (D := (dC, dI)) (ci := 5) (v := .ref l15) (C := RX5) (T := TX5) (N := 18) hx hb hts inX5 hown hK hP 0 rfl rfl 15 (by decide) (hts _ qf_X5_44) (fun _ h9 => h9) rfl dX5_wear_2 ?_
  refine lv_iconst (v := (4 : Int32)) hx hb dX5_wear_5 (by decide) ?_
  refine va_ialdK hx hb hK hP 10 0 rfl rfl (j := 4) (by decide) (vp_inK (by decide)) dX5_wear_6 ?_
  obtain ⟨v1, hc1, hok⟩ := bd_some hok
  refine cWVi (ci := 5) (q0 := 0) [.int (uL.1 4)] S hK hP hD hS hA (c_X5_told l dC dI cI cZ l0 l4 l5 l6 l8 l10 l11 l12 l13 l14 l15 l16 _ uL (uL.1 4) hc1) (lw_V qm_X5_125 qi_X5_told qs_X5_told qn_X5 qc_X5_told) hd_X5_told ⟨rfl, rfl⟩ ⟨Nat.le_of_ble_eq_true rfl, Nat.le_of_ble_eq_true rfl⟩ ⟨Nat.le_of_ble_eq_true rfl, Nat.le_of_ble_eq_true rfl⟩ rfl rfl rfl hl.1 (Nat.le_of_ble_eq_true rfl) rfl dX5_wear_7 (D_L hD) (fun H locs hP hD hS => ?_)
  have hok := Option.some.inj hok
  subst hok
  exact eWi S hr hlk rfl hP hS (Nat.le_of_ble_eq_true rfl) (Nat.le_of_ble_eq_true rfl) dX5_wear_10
theorem hd_X5_limit : yX5_limit.cls = RX5 ∧ yX5_limit.cls ≠ "java/lang/invoke/MethodHandle" ∧ yX5_limit.cls ≠ "java/lang/invoke/VarHandle" ∧ (parseMethodDescriptor yX5_limit.desc).map (fun d => d.parameters.length) = some 0 := by decide +kernel
def p_X5_limit (uL : tX5) : Option (Int32 × tX5) :=
  bd (p_X5_told uL uL.2.2.2.2.2.1) (fun v1 =>
  some (v1.1, v1.2))
set_option maxHeartbeats 4000000 in
set_option maxRecDepth 100000 in
theorem c_X5_limit (l : Launch) (dC : Nat → ClassId) (dI : Nat → Nat → Nat) (cI cZ : ClassId) (l0 l4 l5 l6 l8 l10 l11 l12 l13 l14 l15 l16 : Nat) (sz : Nat) (uL : tX5) {z : (Int32 × tX5)} (hok : p_X5_limit uL = some z) : Met l yX5_limit (Cond.code yX5_limit cX5_limit 1 (some .int) :: lw_all) { frames := 1, cells := 0, slots := 0, locals := 21 } (prW (dC, dI) vwCl (TYS cI cZ) ((wX5 cI cZ l0 l4 l5 l6 l8 l10 l11 l12 l13 l14 l15 l16 uL)) sz [.ref l0]) (va_Qi (fun (r : Int32) (_ : Unit) => r = z.1) (fun _ t => va_P (dC, dI) vwCl ((wX5 cI cZ l0 l4 l5 l6 l8 l10 l11 l12 l13 l14 l15 l16 z.2)) t.heap) (va_A ((wX5 cI cZ l0 l4 l5 l6 l8 l10 l11 l12 l13 l14 l15 l16 uL)) sz)) 0 0 (va_A ((wX5 cI cZ l0 l4 l5 l6 l8 l10 l11 l12 l13 l14 l15 l16 uL)) sz) := by
  refine oM (by decide) (Nat.le_of_ble_eq_true rfl) ?_
  intro p e s m args below meth c S hr hlk hnm hB ls hl
  have hx := S.1
  have hb := S.2.1
  have hml := S.2.2.1
  have hown : s.vm.findClass RX5 = some m.cls := S.2.2.2.1
  have hts := S.2.2.2.2
  have S : CallFix p m c cX5_limit 1 s args lw_all RX5 := S
  have hl : lv_has ls 1 [(0, .ref l0)] := hl
  obtain ⟨hsz, hP, hK, hD0⟩ := hB
  subst hsz
  have hD := hD0.self (sz := s.heap.size)
  generalize hAe : va_A ((wX5 cI cZ l0 l4 l5 l6 l8 l10 l11 l12 l13 l14 l15 l16 uL)) s.heap.size = A at hD ⊢
  have hA : ∀ q : Nat, s.heap.size ≤ q → A q := fun q h => by rw [← hAe]; exact Or.inr h
  have hS : va_S A s.heap s.heap [] := va_S.rf
  have hP : va_P (dC, dI) vwCl ((wX5 cI cZ l0 l4 l5 l6 l8 l10 l11 l12 l13 l14 l15 l16 uL)) s.heap := hP
  unfold p_X5_limit at hok
  refine lv_aload_n hx hb dX5_limit_0 rfl (lv_at hl 0 rfl) ?_
  refine lv_aload_n hx hb dX5_limit_1 rfl (lv_at hl 0 rfl) ?_
  refine va_get (D := (dC, dI)) (ci := 5) (v := .int uL.2.2.2.2.2.1) (C := RX5) (T := TX5) (N := 18) hx hb hts inX5 hown hK hP 0 rfl rfl 2 (by decide) (hts _ qf_X5_13) (fun _ h9 => h9) rfl dX5_limit_2 ?_
  obtain ⟨v1, hc1, hok⟩ := bd_some hok
  refine cWVi (ci := 5) (q0 := 0) [.int uL.2.2.2.2.2.1] S hK hP hD hS hA (c_X5_told l dC dI cI cZ l0 l4 l5 l6 l8 l10 l11 l12 l13 l14 l15 l16 _ uL uL.2.2.2.2.2.1 hc1) (lw_V qm_X5_125 qi_X5_told qs_X5_told qn_X5 qc_X5_told) hd_X5_told ⟨rfl, rfl⟩ ⟨Nat.le_of_ble_eq_true rfl, Nat.le_of_ble_eq_true rfl⟩ ⟨Nat.le_of_ble_eq_true rfl, Nat.le_of_ble_eq_true rfl⟩ rfl rfl rfl hl.1 (Nat.le_of_ble_eq_true rfl) rfl dX5_limit_5 (D_L hD) (fun H locs hP hD hS => ?_)
  have hok := Option.some.inj hok
  subst hok
  exact eWi S hr hlk rfl hP hS (Nat.le_of_ble_eq_true rfl) (Nat.le_of_ble_eq_true rfl) dX5_limit_8
theorem hd_X5_suspense : yX5_suspense.cls = RX5 ∧ yX5_suspense.cls ≠ "java/lang/invoke/MethodHandle" ∧ yX5_suspense.cls ≠ "java/lang/invoke/VarHandle" ∧ (parseMethodDescriptor yX5_suspense.desc).map (fun d => d.parameters.length) = some 0 := by decide +kernel
def p_X5_suspense (uL : tX5) : Option (Int32 × tX5) :=
  bd (p_X5_told uL (uL.1 5)) (fun v1 =>
  some (v1.1, v1.2))
set_option maxHeartbeats 4000000 in
set_option maxRecDepth 100000 in
theorem c_X5_suspense (l : Launch) (dC : Nat → ClassId) (dI : Nat → Nat → Nat) (cI cZ : ClassId) (l0 l4 l5 l6 l8 l10 l11 l12 l13 l14 l15 l16 : Nat) (sz : Nat) (uL : tX5) {z : (Int32 × tX5)} (hok : p_X5_suspense uL = some z) : Met l yX5_suspense (Cond.code yX5_suspense cX5_suspense 1 (some .int) :: lw_all) { frames := 1, cells := 0, slots := 0, locals := 21 } (prW (dC, dI) vwCl (TYS cI cZ) ((wX5 cI cZ l0 l4 l5 l6 l8 l10 l11 l12 l13 l14 l15 l16 uL)) sz [.ref l0]) (va_Qi (fun (r : Int32) (_ : Unit) => r = z.1) (fun _ t => va_P (dC, dI) vwCl ((wX5 cI cZ l0 l4 l5 l6 l8 l10 l11 l12 l13 l14 l15 l16 z.2)) t.heap) (va_A ((wX5 cI cZ l0 l4 l5 l6 l8 l10 l11 l12 l13 l14 l15 l16 uL)) sz)) 0 0 (va_A ((wX5 cI cZ l0 l4 l5 l6 l8 l10 l11 l12 l13 l14 l15 l16 uL)) sz) := by
  refine oM (by decide) (Nat.le_of_ble_eq_true rfl) ?_
  intro p e s m args below meth c S hr hlk hnm hB ls hl
  have hx := S.1
  have hb := S.2.1
  have hml := S.2.2.1
  have hown : s.vm.findClass RX5 = some m.cls := S.2.2.2.1
  have hts := S.2.2.2.2
  have S : CallFix p m c cX5_suspense 1 s args lw_all RX5 := S
  have hl : lv_has ls 1 [(0, .ref l0)] := hl
  obtain ⟨hsz, hP, hK, hD0⟩ := hB
  subst hsz
  have hD := hD0.self (sz := s.heap.size)
  generalize hAe : va_A ((wX5 cI cZ l0 l4 l5 l6 l8 l10 l11 l12 l13 l14 l15 l16 uL)) s.heap.size = A at hD ⊢
  have hA : ∀ q : Nat, s.heap.size ≤ q → A q := fun q h => by rw [← hAe]; exact Or.inr h
  have hS : va_S A s.heap s.heap [] := va_S.rf
  have hP : va_P (dC, dI) vwCl ((wX5 cI cZ l0 l4 l5 l6 l8 l10 l11 l12 l13 l14 l15 l16 uL)) s.heap := hP
  unfold p_X5_suspense at hok
  refine lv_aload_n hx hb dX5_suspense_0 rfl (lv_at hl 0 rfl) ?_
  refine lv_aload_n hx hb dX5_suspense_1 rfl (lv_at hl 0 rfl) ?_
  refine va_get (D := (dC, dI)) (ci := 5) (v := .ref l15) (C := RX5) (T := TX5) (N := 18) hx hb hts inX5 hown hK hP 0 rfl rfl 15 (by decide) (hts _ qf_X5_44) (fun _ h9 => h9) rfl dX5_suspense_2 ?_
  refine lv_iconst (v := (5 : Int32)) hx hb dX5_suspense_5 (by decide) ?_
  refine va_ialdK hx hb hK hP 10 0 rfl rfl (j := 5) (by decide) (vp_inK (by decide)) dX5_suspense_6 ?_
  obtain ⟨v1, hc1, hok⟩ := bd_some hok
  refine cWVi (ci := 5) (q0 := 0) [.int (uL.1 5)] S hK hP hD hS hA (c_X5_told l dC dI cI cZ l0 l4 l5 l6 l8 l10 l11 l12 l13 l14 l15 l16 _ uL (uL.1 5) hc1) (lw_V qm_X5_125 qi_X5_told qs_X5_told qn_X5 qc_X5_told) hd_X5_told ⟨rfl, rfl⟩ ⟨Nat.le_of_ble_eq_true rfl, Nat.le_of_ble_eq_true rfl⟩ ⟨Nat.le_of_ble_eq_true rfl, Nat.le_of_ble_eq_true rfl⟩ rfl rfl rfl hl.1 (Nat.le_of_ble_eq_true rfl) rfl dX5_suspense_7 (D_L hD) (fun H locs hP hD hS => ?_)
  have hok := Option.some.inj hok
  subst hok
  exact eWi S hr hlk rfl hP hS (Nat.le_of_ble_eq_true rfl) (Nat.le_of_ble_eq_true rfl) dX5_suspense_10
theorem hd_X5_paragraphs : yX5_paragraphs.cls = RX5 ∧ yX5_paragraphs.cls ≠ "java/lang/invoke/MethodHandle" ∧ yX5_paragraphs.cls ≠ "java/lang/invoke/VarHandle" ∧ (parseMethodDescriptor yX5_paragraphs.desc).map (fun d => d.parameters.length) = some 1 := by decide +kernel
def p_X5_paragraphs (uL : tX5) (a1 : Int32) : Option (Int32 × tX5) :=
  bd (p_X5_isFloor (uL.1, uL.2.1, uL.2.2.1, (0 : Int32), uL.2.2.2.2) a1) (fun v1 =>
  if v1 = 0 then
    bd (p_X5_fail (uL.1, uL.2.1, uL.2.2.1, (0 : Int32), uL.2.2.2.2) (1 : Int32)) (fun v2 =>
    some (v2.1, v2.2))
  else
    gd a1 12 (
    some ((uL.2.2.2.2.2.2.2.1 a1.toNatClampNeg), (uL.1, uL.2.1, uL.2.2.1, (0 : Int32), uL.2.2.2.2))))
set_option maxHeartbeats 4000000 in
set_option maxRecDepth 100000 in
theorem c_X5_paragraphs (l : Launch) (dC : Nat → ClassId) (dI : Nat → Nat → Nat) (cI cZ : ClassId) (l0 l4 l5 l6 l8 l10 l11 l12 l13 l14 l15 l16 : Nat) (sz : Nat) (uL : tX5) (a1 : Int32) {z : (Int32 × tX5)} (hok : p_X5_paragraphs uL a1 = some z) : Met l yX5_paragraphs (Cond.code yX5_paragraphs cX5_paragraphs 2 (some .int) :: lw_all) { frames := 2, cells := 0, slots := 0, locals := 43 } (prW (dC, dI) vwCl (TYS cI cZ) ((wX5 cI cZ l0 l4 l5 l6 l8 l10 l11 l12 l13 l14 l15 l16 uL)) sz [.ref l0, .int a1]) (va_Qi (fun (r : Int32) (_ : Unit) => r = z.1) (fun _ t => va_P (dC, dI) vwCl ((wX5 cI cZ l0 l4 l5 l6 l8 l10 l11 l12 l13 l14 l15 l16 z.2)) t.heap) (va_A ((wX5 cI cZ l0 l4 l5 l6 l8 l10 l11 l12 l13 l14 l15 l16 uL)) sz)) 0 0 (va_A ((wX5 cI cZ l0 l4 l5 l6 l8 l10 l11 l12 l13 l14 l15 l16 uL)) sz) := by
  refine oM (by decide) (Nat.le_of_ble_eq_true rfl) ?_
  intro p e s m args below meth c S hr hlk hnm hB ls hl
  have hx := S.1
  have hb := S.2.1
  have hml := S.2.2.1
  have hown : s.vm.findClass RX5 = some m.cls := S.2.2.2.1
  have hts := S.2.2.2.2
  have S : CallFix p m c cX5_paragraphs 2 s args lw_all RX5 := S
  have hl : lv_has ls 2 [(0, .ref l0), (1, .int a1)] := hl
  obtain ⟨hsz, hP, hK, hD0⟩ := hB
  subst hsz
  have hD := hD0.self (sz := s.heap.size)
  generalize hAe : va_A ((wX5 cI cZ l0 l4 l5 l6 l8 l10 l11 l12 l13 l14 l15 l16 uL)) s.heap.size = A at hD ⊢
  have hA : ∀ q : Nat, s.heap.size ≤ q → A q := fun q h => by rw [← hAe]; exact Or.inr h
  have hS : va_S A s.heap s.heap [] := va_S.rf
  have hP : va_P (dC, dI) vwCl ((wX5 cI cZ l0 l4 l5 l6 l8 l10 l11 l12 l13 l14 l15 l16 uL)) s.heap := hP
  unfold p_X5_paragraphs at hok
  refine lv_aload_n hx hb dX5_paragraphs_0 rfl (lv_at hl 0 rfl) ?_
  refine lv_iconst (v := (0 : Int32)) hx hb dX5_paragraphs_1 (by decide) ?_
  refine va_put (D := (dC, dI)) (ci := 5) (v := .int (0 : Int32)) (ty := .int) (C := RX5) (T := TX5) (N := 18) hx hb hts inX5 tyX5 tyX5_ok nmX5 hown hK hP hD hS 0 rfl rfl 0 (by decide) (hts _ qf_X5_50) (fun _ h9 => h9) rfl (tyX5_ok 0 (by decide)) rfl rfl (Nat.le_of_ble_eq_true rfl) dX5_paragraphs_2 (fun H locs hP _ hS => ?_)
  have hP : va_P (dC, dI) vwCl ((wX5 cI cZ l0 l4 l5 l6 l8 l10 l11 l12 l13 l14 l15 l16 (uL.1, uL.2.1, uL.2.2.1, (0 : Int32), uL.2.2.2.2))) H := hP
  have hD : va_D A ((wX5 cI cZ l0 l4 l5 l6 l8 l10 l11 l12 l13 l14 l15 l16 (uL.1, uL.2.1, uL.2.2.1, (0 : Int32), uL.2.2.2.2))) := D_L hD
  refine lv_aload_n hx hb dX5_paragraphs_5 rfl (lv_at hl 0 rfl) ?_
  refine lv_iload_n hx hb dX5_paragraphs_6 rfl (lv_at hl 1 rfl) ?_
  obtain ⟨v1, hc1, hok⟩ := bd_some hok
  refine cRVi (ci := 5) (q0 := 0) [.int a1] S hK hP (c_X5_isFloor l dC dI cI cZ l0 l4 l5 l6 l8 l10 l11 l12 l13 l14 l15 l16 (uL.1, uL.2.1, uL.2.2.1, (0 : Int32), uL.2.2.2.2) a1 hc1) (lw_V qm_X5_93 qi_X5_isFloor qs_X5_isFloor qn_X5 qc_X5_isFloor) hd_X5_isFloor ⟨rfl, rfl⟩ ⟨Nat.le_of_ble_eq_true rfl, Nat.le_of_ble_eq_true rfl⟩ ⟨Nat.le_of_ble_eq_true rfl, Nat.le_of_ble_eq_true rfl⟩ rfl rfl rfl hl.1 (Nat.le_of_ble_eq_true rfl) rfl dX5_paragraphs_7 ?_
  refine lv_if_eq (tgt := 22) hx hb dX5_paragraphs_10 (by decide) (fun hc => ?_) (fun hc => ?_)
  · have hok := ip hok hc
    refine lv_aload_n hx hb dX5_paragraphs_22 rfl (lv_at hl 0 rfl) ?_
    refine lv_iconst (v := (1 : Int32)) hx hb dX5_paragraphs_23 (by decide) ?_
    obtain ⟨v2, hc2, hok⟩ := bd_some hok
    refine cWVi (ci := 5) (q0 := 0) [.int (1 : Int32)] S hK hP hD hS hA (c_X5_fail l dC dI cI cZ l0 l4 l5 l6 l8 l10 l11 l12 l13 l14 l15 l16 _ (uL.1, uL.2.1, uL.2.2.1, (0 : Int32), uL.2.2.2.2) (1 : Int32) hc2) (lw_V qm_X5_112 qi_X5_fail qs_X5_fail qn_X5 qc_X5_fail) hd_X5_fail ⟨rfl, rfl⟩ ⟨Nat.le_of_ble_eq_true rfl, Nat.le_of_ble_eq_true rfl⟩ ⟨Nat.le_of_ble_eq_true rfl, Nat.le_of_ble_eq_true rfl⟩ rfl rfl rfl hl.1 (Nat.le_of_ble_eq_true rfl) rfl dX5_paragraphs_24 (D_L hD) (fun H locs hP hD hS => ?_)
    have hok := Option.some.inj hok
    subst hok
    exact eWi S hr hlk rfl hP hS (Nat.le_of_ble_eq_true rfl) (Nat.le_of_ble_eq_true rfl) dX5_paragraphs_27
  · have hok := iq hok hc
    refine lv_aload_n hx hb dX5_paragraphs_13 rfl (lv_at hl 0 rfl) ?_
    refine va_get (D := (dC, dI)) (ci := 5) (v := .ref l4) (C := RX5) (T := TX5) (N := 18) hx hb hts inX5 hown hK hP 0 rfl rfl 4 (by decide) (hts _ qf_X5_16) (fun _ h9 => h9) rfl dX5_paragraphs_14 ?_
    refine lv_iload_n hx hb dX5_paragraphs_17 rfl (lv_at hl 1 rfl) ?_
    obtain ⟨hi3, hok⟩ := gd_some hok
    refine va_iald hx hb hK hP 1 0 rfl rfl hi3 dX5_paragraphs_18 ?_
    refine lv_goto (tgt := 27) hx hb dX5_paragraphs_19 (by decide) ?_
    have hok := Option.some.inj hok
    subst hok
    exact eWi S hr hlk rfl hP hS (Nat.le_of_ble_eq_true rfl) (Nat.le_of_ble_eq_true rfl) dX5_paragraphs_27
theorem hd_X5_next : yX5_next.cls = RX5 ∧ yX5_next.cls ≠ "java/lang/invoke/MethodHandle" ∧ yX5_next.cls ≠ "java/lang/invoke/VarHandle" ∧ (parseMethodDescriptor yX5_next.desc).map (fun d => d.parameters.length) = some 1 := by decide +kernel
def p_X5_next (uL : tX5) (a1 : Int32) : Option Int32 :=
  gd ((9 : Int32) + a1) 41 (
  gd a1 12 (
  if (uL.1 ((9 : Int32) + a1).toNatClampNeg) = (uL.2.2.2.2.2.2.2.1 a1.toNatClampNeg) then
    some (-1 : Int32)
  else
    some (uL.1 ((9 : Int32) + a1).toNatClampNeg)))
set_option maxHeartbeats 4000000 in
set_option maxRecDepth 100000 in
theorem c_X5_next (l : Launch) (dC : Nat → ClassId) (dI : Nat → Nat → Nat) (cI cZ : ClassId) (l0 l4 l5 l6 l8 l10 l11 l12 l13 l14 l15 l16 : Nat) (uL : tX5) (a1 : Int32) {z : Int32} (hok : p_X5_next uL a1 = some z) : Met l yX5_next (Cond.code yX5_next cX5_next 2 (some .int) :: lw_all) { frames := 0, cells := 0, slots := 0, locals := 0 } (prR (dC, dI) vwCl (TYS cI cZ) ((wX5 cI cZ l0 l4 l5 l6 l8 l10 l11 l12 l13 l14 l15 l16 uL)) [.ref l0, .int a1]) (vp_Si (fun r => r = z)) 0 0 (fun _ => False) := by
  refine oM (by decide) (Nat.le_of_ble_eq_true rfl) ?_
  intro p e s m args below meth c S hr hlk hnm hB ls hl
  have hx := S.1
  have hb := S.2.1
  have hml := S.2.2.1
  have hown : s.vm.findClass RX5 = some m.cls := S.2.2.2.1
  have hts := S.2.2.2.2
  have S : CallFix p m c cX5_next 2 s args lw_all RX5 := S
  have hl : lv_has ls 2 [(0, .ref l0), (1, .int a1)] := hl
  obtain ⟨hP, hK⟩ := hB
  have hP : va_P (dC, dI) vwCl ((wX5 cI cZ l0 l4 l5 l6 l8 l10 l11 l12 l13 l14 l15 l16 uL)) s.heap := hP
  unfold p_X5_next at hok
  refine lv_aload_n hx hb dX5_next_0 rfl (lv_at hl 0 rfl) ?_
  refine va_get (D := (dC, dI)) (ci := 5) (v := .ref l15) (C := RX5) (T := TX5) (N := 18) hx hb hts inX5 hown hK hP 0 rfl rfl 15 (by decide) (hts _ qf_X5_44) (fun _ h9 => h9) rfl dX5_next_1 ?_
  refine lv_bipush (v := (9 : Int32)) hx hb dX5_next_4 (by decide) ?_
  refine lv_iload_n hx hb dX5_next_6 rfl (lv_at hl 1 rfl) ?_
  refine lv_iadd hx hb dX5_next_7 ?_
  obtain ⟨hi1, hok⟩ := gd_some hok
  refine va_iald hx hb hK hP 10 0 rfl rfl hi1 dX5_next_8 ?_
  refine lv_aload_n hx hb dX5_next_9 rfl (lv_at hl 0 rfl) ?_
  refine va_get (D := (dC, dI)) (ci := 5) (v := .ref l4) (C := RX5) (T := TX5) (N := 18) hx hb hts inX5 hown hK hP 0 rfl rfl 4 (by decide) (hts _ qf_X5_16) (fun _ h9 => h9) rfl dX5_next_10 ?_
  refine lv_iload_n hx hb dX5_next_13 rfl (lv_at hl 1 rfl) ?_
  obtain ⟨hi2, hok⟩ := gd_some hok
  refine va_iald hx hb hK hP 1 0 rfl rfl hi2 dX5_next_14 ?_
  refine lv_icmp_ne (tgt := 22) hx hb dX5_next_15 (by decide) (fun hc => ?_) (fun hc => ?_)
  · have hok := iq hok hc
    refine lv_aload_n hx hb dX5_next_22 rfl (lv_at hl 0 rfl) ?_
    refine va_get (D := (dC, dI)) (ci := 5) (v := .ref l15) (C := RX5) (T := TX5) (N := 18) hx hb hts inX5 hown hK hP 0 rfl rfl 15 (by decide) (hts _ qf_X5_44) (fun _ h9 => h9) rfl dX5_next_23 ?_
    refine lv_bipush (v := (9 : Int32)) hx hb dX5_next_26 (by decide) ?_
    refine lv_iload_n hx hb dX5_next_28 rfl (lv_at hl 1 rfl) ?_
    refine lv_iadd hx hb dX5_next_29 ?_
    refine va_iald hx hb hK hP 10 0 rfl rfl hi1 dX5_next_30 ?_
    exact eRi S hr hlk (Option.some.inj hok) dX5_next_31
  · have hok := ip hok hc
    refine lv_iconst (v := (-1 : Int32)) hx hb dX5_next_18 (by decide) ?_
    refine lv_goto (tgt := 31) hx hb dX5_next_19 (by decide) ?_
    exact eRi S hr hlk (Option.some.inj hok) dX5_next_31
theorem hd_X5_nextParagraph : yX5_nextParagraph.cls = RX5 ∧ yX5_nextParagraph.cls ≠ "java/lang/invoke/MethodHandle" ∧ yX5_nextParagraph.cls ≠ "java/lang/invoke/VarHandle" ∧ (parseMethodDescriptor yX5_nextParagraph.desc).map (fun d => d.parameters.length) = some 1 := by decide +kernel
def p_X5_nextParagraph (uL : tX5) (a1 : Int32) : Option (Int32 × tX5) :=
  bd (p_X5_isFloor (uL.1, uL.2.1, uL.2.2.1, (0 : Int32), uL.2.2.2.2) a1) (fun v1 =>
  if v1 = 0 then
    bd (p_X5_fail (uL.1, uL.2.1, uL.2.2.1, (0 : Int32), uL.2.2.2.2) (1 : Int32)) (fun v2 =>
    some (v2.1, v2.2))
  else
    bd (p_X5_next (uL.1, uL.2.1, uL.2.2.1, (0 : Int32), uL.2.2.2.2) a1) (fun v3 =>
    some (v3, (uL.1, uL.2.1, uL.2.2.1, (0 : Int32), uL.2.2.2.2))))
set_option maxHeartbeats 4000000 in
set_option maxRecDepth 100000 in
theorem c_X5_nextParagraph (l : Launch) (dC : Nat → ClassId) (dI : Nat → Nat → Nat) (cI cZ : ClassId) (l0 l4 l5 l6 l8 l10 l11 l12 l13 l14 l15 l16 : Nat) (sz : Nat) (uL : tX5) (a1 : Int32) {z : (Int32 × tX5)} (hok : p_X5_nextParagraph uL a1 = some z) : Met l yX5_nextParagraph (Cond.code yX5_nextParagraph cX5_nextParagraph 2 (some .int) :: lw_all) { frames := 2, cells := 0, slots := 0, locals := 43 } (prW (dC, dI) vwCl (TYS cI cZ) ((wX5 cI cZ l0 l4 l5 l6 l8 l10 l11 l12 l13 l14 l15 l16 uL)) sz [.ref l0, .int a1]) (va_Qi (fun (r : Int32) (_ : Unit) => r = z.1) (fun _ t => va_P (dC, dI) vwCl ((wX5 cI cZ l0 l4 l5 l6 l8 l10 l11 l12 l13 l14 l15 l16 z.2)) t.heap) (va_A ((wX5 cI cZ l0 l4 l5 l6 l8 l10 l11 l12 l13 l14 l15 l16 uL)) sz)) 0 0 (va_A ((wX5 cI cZ l0 l4 l5 l6 l8 l10 l11 l12 l13 l14 l15 l16 uL)) sz) := by
  refine oM (by decide) (Nat.le_of_ble_eq_true rfl) ?_
  intro p e s m args below meth c S hr hlk hnm hB ls hl
  have hx := S.1
  have hb := S.2.1
  have hml := S.2.2.1
  have hown : s.vm.findClass RX5 = some m.cls := S.2.2.2.1
  have hts := S.2.2.2.2
  have S : CallFix p m c cX5_nextParagraph 2 s args lw_all RX5 := S
  have hl : lv_has ls 2 [(0, .ref l0), (1, .int a1)] := hl
  obtain ⟨hsz, hP, hK, hD0⟩ := hB
  subst hsz
  have hD := hD0.self (sz := s.heap.size)
  generalize hAe : va_A ((wX5 cI cZ l0 l4 l5 l6 l8 l10 l11 l12 l13 l14 l15 l16 uL)) s.heap.size = A at hD ⊢
  have hA : ∀ q : Nat, s.heap.size ≤ q → A q := fun q h => by rw [← hAe]; exact Or.inr h
  have hS : va_S A s.heap s.heap [] := va_S.rf
  have hP : va_P (dC, dI) vwCl ((wX5 cI cZ l0 l4 l5 l6 l8 l10 l11 l12 l13 l14 l15 l16 uL)) s.heap := hP
  unfold p_X5_nextParagraph at hok
  refine lv_aload_n hx hb dX5_nextParagraph_0 rfl (lv_at hl 0 rfl) ?_
  refine lv_iconst (v := (0 : Int32)) hx hb dX5_nextParagraph_1 (by decide) ?_
  refine va_put (D := (dC, dI)) (ci := 5) (v := .int (0 : Int32)) (ty := .int) (C := RX5) (T := TX5) (N := 18) hx hb hts inX5 tyX5 tyX5_ok nmX5 hown hK hP hD hS 0 rfl rfl 0 (by decide) (hts _ qf_X5_50) (fun _ h9 => h9) rfl (tyX5_ok 0 (by decide)) rfl rfl (Nat.le_of_ble_eq_true rfl) dX5_nextParagraph_2 (fun H locs hP _ hS => ?_)
  have hP : va_P (dC, dI) vwCl ((wX5 cI cZ l0 l4 l5 l6 l8 l10 l11 l12 l13 l14 l15 l16 (uL.1, uL.2.1, uL.2.2.1, (0 : Int32), uL.2.2.2.2))) H := hP
  have hD : va_D A ((wX5 cI cZ l0 l4 l5 l6 l8 l10 l11 l12 l13 l14 l15 l16 (uL.1, uL.2.1, uL.2.2.1, (0 : Int32), uL.2.2.2.2))) := D_L hD
  refine lv_aload_n hx hb dX5_nextParagraph_5 rfl (lv_at hl 0 rfl) ?_
  refine lv_iload_n hx hb dX5_nextParagraph_6 rfl (lv_at hl 1 rfl) ?_
  obtain ⟨v1, hc1, hok⟩ := bd_some hok
  refine cRVi (ci := 5) (q0 := 0) [.int a1] S hK hP (c_X5_isFloor l dC dI cI cZ l0 l4 l5 l6 l8 l10 l11 l12 l13 l14 l15 l16 (uL.1, uL.2.1, uL.2.2.1, (0 : Int32), uL.2.2.2.2) a1 hc1) (lw_V qm_X5_93 qi_X5_isFloor qs_X5_isFloor qn_X5 qc_X5_isFloor) hd_X5_isFloor ⟨rfl, rfl⟩ ⟨Nat.le_of_ble_eq_true rfl, Nat.le_of_ble_eq_true rfl⟩ ⟨Nat.le_of_ble_eq_true rfl, Nat.le_of_ble_eq_true rfl⟩ rfl rfl rfl hl.1 (Nat.le_of_ble_eq_true rfl) rfl dX5_nextParagraph_7 ?_
  refine lv_if_eq (tgt := 21) hx hb dX5_nextParagraph_10 (by decide) (fun hc => ?_) (fun hc => ?_)
  · have hok := ip hok hc
    refine lv_aload_n hx hb dX5_nextParagraph_21 rfl (lv_at hl 0 rfl) ?_
    refine lv_iconst (v := (1 : Int32)) hx hb dX5_nextParagraph_22 (by decide) ?_
    obtain ⟨v2, hc2, hok⟩ := bd_some hok
    refine cWVi (ci := 5) (q0 := 0) [.int (1 : Int32)] S hK hP hD hS hA (c_X5_fail l dC dI cI cZ l0 l4 l5 l6 l8 l10 l11 l12 l13 l14 l15 l16 _ (uL.1, uL.2.1, uL.2.2.1, (0 : Int32), uL.2.2.2.2) (1 : Int32) hc2) (lw_V qm_X5_112 qi_X5_fail qs_X5_fail qn_X5 qc_X5_fail) hd_X5_fail ⟨rfl, rfl⟩ ⟨Nat.le_of_ble_eq_true rfl, Nat.le_of_ble_eq_true rfl⟩ ⟨Nat.le_of_ble_eq_true rfl, Nat.le_of_ble_eq_true rfl⟩ rfl rfl rfl hl.1 (Nat.le_of_ble_eq_true rfl) rfl dX5_nextParagraph_23 (D_L hD) (fun H locs hP hD hS => ?_)
    have hok := Option.some.inj hok
    subst hok
    exact eWi S hr hlk rfl hP hS (Nat.le_of_ble_eq_true rfl) (Nat.le_of_ble_eq_true rfl) dX5_nextParagraph_26
  · have hok := iq hok hc
    refine lv_aload_n hx hb dX5_nextParagraph_13 rfl (lv_at hl 0 rfl) ?_
    refine lv_iload_n hx hb dX5_nextParagraph_14 rfl (lv_at hl 1 rfl) ?_
    obtain ⟨v3, hc3, hok⟩ := bd_some hok
    refine cRVi (ci := 5) (q0 := 0) [.int a1] S hK hP (c_X5_next l dC dI cI cZ l0 l4 l5 l6 l8 l10 l11 l12 l13 l14 l15 l16 (uL.1, uL.2.1, uL.2.2.1, (0 : Int32), uL.2.2.2.2) a1 hc3) (lw_V qm_X5_127 qi_X5_next qs_X5_next qn_X5 qc_X5_next) hd_X5_next ⟨rfl, rfl⟩ ⟨Nat.le_of_ble_eq_true rfl, Nat.le_of_ble_eq_true rfl⟩ ⟨Nat.le_of_ble_eq_true rfl, Nat.le_of_ble_eq_true rfl⟩ rfl rfl rfl hl.1 (Nat.le_of_ble_eq_true rfl) rfl dX5_nextParagraph_15 ?_
    refine lv_goto (tgt := 26) hx hb dX5_nextParagraph_18 (by decide) ?_
    have hok := Option.some.inj hok
    subst hok
    exact eWi S hr hlk rfl hP hS (Nat.le_of_ble_eq_true rfl) (Nat.le_of_ble_eq_true rfl) dX5_nextParagraph_26
theorem hd_X5_of : yX5_of.cls = RX5 ∧ yX5_of.cls ≠ "java/lang/invoke/MethodHandle" ∧ yX5_of.cls ≠ "java/lang/invoke/VarHandle" ∧ (parseMethodDescriptor yX5_of.desc).map (fun d => d.parameters.length) = some 3 := by decide +kernel
def p_X5_of_5_J40 (uL : tX5) : Option (Int32 × tX5) :=
  bd (p_X5_fail uL (1 : Int32)) (fun v5 =>
  some (v5.1, v5.2))
def p_X5_of_5 (uL : tX5) (a1 : Int32) (a2 : Int32) : Option (Int32 × tX5) :=
  bd (p_X5_isFloor (uL.1, uL.2.1, uL.2.2.1, (0 : Int32), uL.2.2.2.2) a1) (fun v1 =>
  if v1 = 0 then
    p_X5_of_5_J40 (uL.1, uL.2.1, uL.2.2.1, (0 : Int32), uL.2.2.2.2)
  else
    gd a1 12 (
    bd (p_X5_isIn a2 (0 : Int32) ((uL.2.2.2.2.2.2.2.1 a1.toNatClampNeg) - (1 : Int32))) (fun v3 =>
    if v3 = 0 then
      p_X5_of_5_J40 (uL.1, uL.2.1, uL.2.2.1, (0 : Int32), uL.2.2.2.2)
    else
      gd (((9 : Int32) * a1) + a2) 108 (
      some ((uL.2.2.2.2.2.2.2.2.1 (((9 : Int32) * a1) + a2).toNatClampNeg), (uL.1, uL.2.1, uL.2.2.1, (0 : Int32), uL.2.2.2.2))))))
set_option maxHeartbeats 4000000 in
set_option maxRecDepth 100000 in
theorem c_X5_of_5 (l : Launch) (dC : Nat → ClassId) (dI : Nat → Nat → Nat) (cI cZ : ClassId) (l0 l4 l5 l6 l8 l10 l11 l12 l13 l14 l15 l16 : Nat) (sz : Nat) (uL : tX5) (a1 : Int32) (a2 : Int32) {z : (Int32 × tX5)} (hok : p_X5_of_5 uL a1 a2 = some z) : Met l yX5_of (Cond.code yX5_of cX5_of 4 (some .int) :: lw_all) { frames := 2, cells := 0, slots := 0, locals := 43 } (prW (dC, dI) vwCl (TYS cI cZ) ((wX5 cI cZ l0 l4 l5 l6 l8 l10 l11 l12 l13 l14 l15 l16 uL)) sz [.ref l0, .int a1, .int a2, .ref l5]) (va_Qi (fun (r : Int32) (_ : Unit) => r = z.1) (fun _ t => va_P (dC, dI) vwCl ((wX5 cI cZ l0 l4 l5 l6 l8 l10 l11 l12 l13 l14 l15 l16 z.2)) t.heap) (va_A ((wX5 cI cZ l0 l4 l5 l6 l8 l10 l11 l12 l13 l14 l15 l16 uL)) sz)) 0 0 (va_A ((wX5 cI cZ l0 l4 l5 l6 l8 l10 l11 l12 l13 l14 l15 l16 uL)) sz) := by
  refine oM (by decide) (Nat.le_of_ble_eq_true rfl) ?_
  intro p e s m args below meth c S hr hlk hnm hB ls hl
  have hx := S.1
  have hb := S.2.1
  have hml := S.2.2.1
  have hown : s.vm.findClass RX5 = some m.cls := S.2.2.2.1
  have hts := S.2.2.2.2
  have S : CallFix p m c cX5_of 4 s args lw_all RX5 := S
  have hl : lv_has ls 4 [(0, .ref l0), (1, .int a1), (2, .int a2), (3, .ref l5)] := hl
  obtain ⟨hsz, hP, hK, hD0⟩ := hB
  subst hsz
  have hD := hD0.self (sz := s.heap.size)
  generalize hAe : va_A ((wX5 cI cZ l0 l4 l5 l6 l8 l10 l11 l12 l13 l14 l15 l16 uL)) s.heap.size = A at hD ⊢
  have hA : ∀ q : Nat, s.heap.size ≤ q → A q := fun q h => by rw [← hAe]; exact Or.inr h
  have hS : va_S A s.heap s.heap [] := va_S.rf
  have hP : va_P (dC, dI) vwCl ((wX5 cI cZ l0 l4 l5 l6 l8 l10 l11 l12 l13 l14 l15 l16 uL)) s.heap := hP
  have J40 : ∀ (uL : tX5) (H : Heap) (locs : List Loc) (hP : va_P (dC, dI) vwCl ((wX5 cI cZ l0 l4 l5 l6 l8 l10 l11 l12 l13 l14 l15 l16 uL)) H) (hD : va_D A ((wX5 cI cZ l0 l4 l5 l6 l8 l10 l11 l12 l13 l14 l15 l16 uL))) (hS : va_S A s.heap H locs) (ls : Array Slot) (hl : lv_has ls 4 [(0, .ref l0)]) (hok : p_X5_of_5_J40 uL = some z), W p l e { frames := 2, cells := 0, slots := 0, locals := 43 } s m args below meth c H locs 0 0 (MQ below (va_Qi (fun (r : Int32) (_ : Unit) => r = z.1) (fun _ t => va_P (dC, dI) vwCl ((wX5 cI cZ l0 l4 l5 l6 l8 l10 l11 l12 l13 l14 l15 l16 z.2)) t.heap) A) args s 0 0 A) (F0 m 40 ls []) := by
    intro uL H locs hP hD hS ls hl hok
    unfold p_X5_of_5_J40 at hok
    refine lv_aload_n hx hb dX5_of_40 rfl (lv_at hl 0 rfl) ?_
    refine lv_iconst (v := (1 : Int32)) hx hb dX5_of_41 (by decide) ?_
    obtain ⟨v5, hc5, hok⟩ := bd_some hok
    refine cWVi (ci := 5) (q0 := 0) [.int (1 : Int32)] S hK hP hD hS hA (c_X5_fail l dC dI cI cZ l0 l4 l5 l6 l8 l10 l11 l12 l13 l14 l15 l16 _ uL (1 : Int32) hc5) (lw_V qm_X5_112 qi_X5_fail qs_X5_fail qn_X5 qc_X5_fail) hd_X5_fail ⟨rfl, rfl⟩ ⟨Nat.le_of_ble_eq_true rfl, Nat.le_of_ble_eq_true rfl⟩ ⟨Nat.le_of_ble_eq_true rfl, Nat.le_of_ble_eq_true rfl⟩ rfl rfl rfl hl.1 (Nat.le_of_ble_eq_true rfl) rfl dX5_of_42 (D_L hD) (fun H locs hP hD hS => ?_)
    have hok := Option.some.inj hok
    subst hok
    exact eWi S hr hlk rfl hP hS (Nat.le_of_ble_eq_true rfl) (Nat.le_of_ble_eq_true rfl) dX5_of_45
  unfold p_X5_of_5 at hok
  refine lv_aload_n hx hb dX5_of_0 rfl (lv_at hl 0 rfl) ?_
  refine lv_iconst (v := (0 : Int32)) hx hb dX5_of_1 (by decide) ?_
  refine va_put (D := (dC, dI)) (ci := 5) (v := .int (0 : Int32)) (ty := .int) (C := RX5) (T := TX5) (N := 18) hx hb hts inX5 tyX5 tyX5_ok nmX5 hown hK hP hD hS 0 rfl rfl 0 (by decide) (hts _ qf_X5_50) (fun _ h9 => h9) rfl (tyX5_ok 0 (by decide)) rfl rfl (Nat.le_of_ble_eq_true rfl) dX5_of_2 (fun H locs hP _ hS => ?_)
  have hP : va_P (dC, dI) vwCl ((wX5 cI cZ l0 l4 l5 l6 l8 l10 l11 l12 l13 l14 l15 l16 (uL.1, uL.2.1, uL.2.2.1, (0 : Int32), uL.2.2.2.2))) H := hP
  have hD : va_D A ((wX5 cI cZ l0 l4 l5 l6 l8 l10 l11 l12 l13 l14 l15 l16 (uL.1, uL.2.1, uL.2.2.1, (0 : Int32), uL.2.2.2.2))) := D_L hD
  refine lv_aload_n hx hb dX5_of_5 rfl (lv_at hl 0 rfl) ?_
  refine lv_iload_n hx hb dX5_of_6 rfl (lv_at hl 1 rfl) ?_
  obtain ⟨v1, hc1, hok⟩ := bd_some hok
  refine cRVi (ci := 5) (q0 := 0) [.int a1] S hK hP (c_X5_isFloor l dC dI cI cZ l0 l4 l5 l6 l8 l10 l11 l12 l13 l14 l15 l16 (uL.1, uL.2.1, uL.2.2.1, (0 : Int32), uL.2.2.2.2) a1 hc1) (lw_V qm_X5_93 qi_X5_isFloor qs_X5_isFloor qn_X5 qc_X5_isFloor) hd_X5_isFloor ⟨rfl, rfl⟩ ⟨Nat.le_of_ble_eq_true rfl, Nat.le_of_ble_eq_true rfl⟩ ⟨Nat.le_of_ble_eq_true rfl, Nat.le_of_ble_eq_true rfl⟩ rfl rfl rfl hl.1 (Nat.le_of_ble_eq_true rfl) rfl dX5_of_7 ?_
  refine lv_if_eq (tgt := 40) hx hb dX5_of_10 (by decide) (fun hc => ?_) (fun hc => ?_)
  · have hok := ip hok hc
    exact J40 (uL.1, uL.2.1, uL.2.2.1, (0 : Int32), uL.2.2.2.2) _ _ hP hD hS _ (lv_sub hl [0] rfl) hok
  · have hok := iq hok hc
    refine lv_iload_n hx hb dX5_of_13 rfl (lv_at hl 2 rfl) ?_
    refine lv_iconst (v := (0 : Int32)) hx hb dX5_of_14 (by decide) ?_
    refine lv_aload_n hx hb dX5_of_15 rfl (lv_at hl 0 rfl) ?_
    refine va_get (D := (dC, dI)) (ci := 5) (v := .ref l4) (C := RX5) (T := TX5) (N := 18) hx hb hts inX5 hown hK hP 0 rfl rfl 4 (by decide) (hts _ qf_X5_16) (fun _ h9 => h9) rfl dX5_of_16 ?_
    refine lv_iload_n hx hb dX5_of_19 rfl (lv_at hl 1 rfl) ?_
    obtain ⟨hi2, hok⟩ := gd_some hok
    refine va_iald hx hb hK hP 1 0 rfl rfl hi2 dX5_of_20 ?_
    refine lv_iconst (v := (1 : Int32)) hx hb dX5_of_21 (by decide) ?_
    refine lv_isub hx hb dX5_of_22 ?_
    obtain ⟨v3, hc3, hok⟩ := bd_some hok
    refine cRSi [.int a2, .int (0 : Int32), .int ((uL.2.2.2.2.2.2.2.1 a1.toNatClampNeg) - (1 : Int32))] S hK va_Pnil (c_X5_isIn l dC dI cI cZ a2 (0 : Int32) ((uL.2.2.2.2.2.2.2.1 a1.toNatClampNeg) - (1 : Int32)) hc3) (lw_S qm_X5_53 qt_X5_isIn qn_X5 qc_X5_isIn) hd_X5_isIn ⟨rfl, rfl⟩ ⟨Nat.le_of_ble_eq_true rfl, Nat.le_of_ble_eq_true rfl⟩ ⟨Nat.le_of_ble_eq_true rfl, Nat.le_of_ble_eq_true rfl⟩ rfl hl.1 (Nat.le_of_ble_eq_true rfl) rfl dX5_of_23 ?_
    refine lv_if_eq (tgt := 40) hx hb dX5_of_26 (by decide) (fun hc => ?_) (fun hc => ?_)
    · have hok := ip hok hc
      exact J40 (uL.1, uL.2.1, uL.2.2.1, (0 : Int32), uL.2.2.2.2) _ _ hP hD hS _ (lv_sub hl [0] rfl) hok
    · have hok := iq hok hc
      refine lv_aload_n hx hb dX5_of_29 rfl (lv_at hl 3 rfl) ?_
      refine lv_bipush (v := (9 : Int32)) hx hb dX5_of_30 (by decide) ?_
      refine lv_iload_n hx hb dX5_of_32 rfl (lv_at hl 1 rfl) ?_
      refine lv_imul hx hb dX5_of_33 ?_
      refine lv_iload_n hx hb dX5_of_34 rfl (lv_at hl 2 rfl) ?_
      refine lv_iadd hx hb dX5_of_35 ?_
      obtain ⟨hi4, hok⟩ := gd_some hok
      refine va_iald hx hb hK hP 2 0 rfl rfl hi4 dX5_of_36 ?_
      refine lv_goto (tgt := 45) hx hb dX5_of_37 (by decide) ?_
      have hok := Option.some.inj hok
      subst hok
      exact eWi S hr hlk rfl hP hS (Nat.le_of_ble_eq_true rfl) (Nat.le_of_ble_eq_true rfl) dX5_of_45
def p_X5_of_6_J40 (uL : tX5) : Option (Int32 × tX5) :=
  bd (p_X5_fail uL (1 : Int32)) (fun v5 =>
  some (v5.1, v5.2))
def p_X5_of_6 (uL : tX5) (a1 : Int32) (a2 : Int32) : Option (Int32 × tX5) :=
  bd (p_X5_isFloor (uL.1, uL.2.1, uL.2.2.1, (0 : Int32), uL.2.2.2.2) a1) (fun v1 =>
  if v1 = 0 then
    p_X5_of_6_J40 (uL.1, uL.2.1, uL.2.2.1, (0 : Int32), uL.2.2.2.2)
  else
    gd a1 12 (
    bd (p_X5_isIn a2 (0 : Int32) ((uL.2.2.2.2.2.2.2.1 a1.toNatClampNeg) - (1 : Int32))) (fun v3 =>
    if v3 = 0 then
      p_X5_of_6_J40 (uL.1, uL.2.1, uL.2.2.1, (0 : Int32), uL.2.2.2.2)
    else
      gd (((9 : Int32) * a1) + a2) 108 (
      some ((uL.2.2.2.2.2.2.2.2.2.1 (((9 : Int32) * a1) + a2).toNatClampNeg), (uL.1, uL.2.1, uL.2.2.1, (0 : Int32), uL.2.2.2.2))))))
set_option maxHeartbeats 4000000 in
set_option maxRecDepth 100000 in
theorem c_X5_of_6 (l : Launch) (dC : Nat → ClassId) (dI : Nat → Nat → Nat) (cI cZ : ClassId) (l0 l4 l5 l6 l8 l10 l11 l12 l13 l14 l15 l16 : Nat) (sz : Nat) (uL : tX5) (a1 : Int32) (a2 : Int32) {z : (Int32 × tX5)} (hok : p_X5_of_6 uL a1 a2 = some z) : Met l yX5_of (Cond.code yX5_of cX5_of 4 (some .int) :: lw_all) { frames := 2, cells := 0, slots := 0, locals := 43 } (prW (dC, dI) vwCl (TYS cI cZ) ((wX5 cI cZ l0 l4 l5 l6 l8 l10 l11 l12 l13 l14 l15 l16 uL)) sz [.ref l0, .int a1, .int a2, .ref l6]) (va_Qi (fun (r : Int32) (_ : Unit) => r = z.1) (fun _ t => va_P (dC, dI) vwCl ((wX5 cI cZ l0 l4 l5 l6 l8 l10 l11 l12 l13 l14 l15 l16 z.2)) t.heap) (va_A ((wX5 cI cZ l0 l4 l5 l6 l8 l10 l11 l12 l13 l14 l15 l16 uL)) sz)) 0 0 (va_A ((wX5 cI cZ l0 l4 l5 l6 l8 l10 l11 l12 l13 l14 l15 l16 uL)) sz) := by
  refine oM (by decide) (Nat.le_of_ble_eq_true rfl) ?_
  intro p e s m args below meth c S hr hlk hnm hB ls hl
  have hx := S.1
  have hb := S.2.1
  have hml := S.2.2.1
  have hown : s.vm.findClass RX5 = some m.cls := S.2.2.2.1
  have hts := S.2.2.2.2
  have S : CallFix p m c cX5_of 4 s args lw_all RX5 := S
  have hl : lv_has ls 4 [(0, .ref l0), (1, .int a1), (2, .int a2), (3, .ref l6)] := hl
  obtain ⟨hsz, hP, hK, hD0⟩ := hB
  subst hsz
  have hD := hD0.self (sz := s.heap.size)
  generalize hAe : va_A ((wX5 cI cZ l0 l4 l5 l6 l8 l10 l11 l12 l13 l14 l15 l16 uL)) s.heap.size = A at hD ⊢
  have hA : ∀ q : Nat, s.heap.size ≤ q → A q := fun q h => by rw [← hAe]; exact Or.inr h
  have hS : va_S A s.heap s.heap [] := va_S.rf
  have hP : va_P (dC, dI) vwCl ((wX5 cI cZ l0 l4 l5 l6 l8 l10 l11 l12 l13 l14 l15 l16 uL)) s.heap := hP
  have J40 : ∀ (uL : tX5) (H : Heap) (locs : List Loc) (hP : va_P (dC, dI) vwCl ((wX5 cI cZ l0 l4 l5 l6 l8 l10 l11 l12 l13 l14 l15 l16 uL)) H) (hD : va_D A ((wX5 cI cZ l0 l4 l5 l6 l8 l10 l11 l12 l13 l14 l15 l16 uL))) (hS : va_S A s.heap H locs) (ls : Array Slot) (hl : lv_has ls 4 [(0, .ref l0)]) (hok : p_X5_of_6_J40 uL = some z), W p l e { frames := 2, cells := 0, slots := 0, locals := 43 } s m args below meth c H locs 0 0 (MQ below (va_Qi (fun (r : Int32) (_ : Unit) => r = z.1) (fun _ t => va_P (dC, dI) vwCl ((wX5 cI cZ l0 l4 l5 l6 l8 l10 l11 l12 l13 l14 l15 l16 z.2)) t.heap) A) args s 0 0 A) (F0 m 40 ls []) := by
    intro uL H locs hP hD hS ls hl hok
    unfold p_X5_of_6_J40 at hok
    refine lv_aload_n hx hb dX5_of_40 rfl (lv_at hl 0 rfl) ?_
    refine lv_iconst (v := (1 : Int32)) hx hb dX5_of_41 (by decide) ?_
    obtain ⟨v5, hc5, hok⟩ := bd_some hok
    refine cWVi (ci := 5) (q0 := 0) [.int (1 : Int32)] S hK hP hD hS hA (c_X5_fail l dC dI cI cZ l0 l4 l5 l6 l8 l10 l11 l12 l13 l14 l15 l16 _ uL (1 : Int32) hc5) (lw_V qm_X5_112 qi_X5_fail qs_X5_fail qn_X5 qc_X5_fail) hd_X5_fail ⟨rfl, rfl⟩ ⟨Nat.le_of_ble_eq_true rfl, Nat.le_of_ble_eq_true rfl⟩ ⟨Nat.le_of_ble_eq_true rfl, Nat.le_of_ble_eq_true rfl⟩ rfl rfl rfl hl.1 (Nat.le_of_ble_eq_true rfl) rfl dX5_of_42 (D_L hD) (fun H locs hP hD hS => ?_)
    have hok := Option.some.inj hok
    subst hok
    exact eWi S hr hlk rfl hP hS (Nat.le_of_ble_eq_true rfl) (Nat.le_of_ble_eq_true rfl) dX5_of_45
  unfold p_X5_of_6 at hok
  refine lv_aload_n hx hb dX5_of_0 rfl (lv_at hl 0 rfl) ?_
  refine lv_iconst (v := (0 : Int32)) hx hb dX5_of_1 (by decide) ?_
  refine va_put (D := (dC, dI)) (ci := 5) (v := .int (0 : Int32)) (ty := .int) (C := RX5) (T := TX5) (N := 18) hx hb hts inX5 tyX5 tyX5_ok nmX5 hown hK hP hD hS 0 rfl rfl 0 (by decide) (hts _ qf_X5_50) (fun _ h9 => h9) rfl (tyX5_ok 0 (by decide)) rfl rfl (Nat.le_of_ble_eq_true rfl) dX5_of_2 (fun H locs hP _ hS => ?_)
  have hP : va_P (dC, dI) vwCl ((wX5 cI cZ l0 l4 l5 l6 l8 l10 l11 l12 l13 l14 l15 l16 (uL.1, uL.2.1, uL.2.2.1, (0 : Int32), uL.2.2.2.2))) H := hP
  have hD : va_D A ((wX5 cI cZ l0 l4 l5 l6 l8 l10 l11 l12 l13 l14 l15 l16 (uL.1, uL.2.1, uL.2.2.1, (0 : Int32), uL.2.2.2.2))) := D_L hD
  refine lv_aload_n hx hb dX5_of_5 rfl (lv_at hl 0 rfl) ?_
  refine lv_iload_n hx hb dX5_of_6 rfl (lv_at hl 1 rfl) ?_
  obtain ⟨v1, hc1, hok⟩ := bd_some hok
  refine cRVi (ci := 5) (q0 := 0) [.int a1] S hK hP (c_X5_isFloor l dC dI cI cZ l0 l4 l5 l6 l8 l10 l11 l12 l13 l14 l15 l16 (uL.1, uL.2.1, uL.2.2.1, (0 : Int32), uL.2.2.2.2) a1 hc1) (lw_V qm_X5_93 qi_X5_isFloor qs_X5_isFloor qn_X5 qc_X5_isFloor) hd_X5_isFloor ⟨rfl, rfl⟩ ⟨Nat.le_of_ble_eq_true rfl, Nat.le_of_ble_eq_true rfl⟩ ⟨Nat.le_of_ble_eq_true rfl, Nat.le_of_ble_eq_true rfl⟩ rfl rfl rfl hl.1 (Nat.le_of_ble_eq_true rfl) rfl dX5_of_7 ?_
  refine lv_if_eq (tgt := 40) hx hb dX5_of_10 (by decide) (fun hc => ?_) (fun hc => ?_)
  · have hok := ip hok hc
    exact J40 (uL.1, uL.2.1, uL.2.2.1, (0 : Int32), uL.2.2.2.2) _ _ hP hD hS _ (lv_sub hl [0] rfl) hok
  · have hok := iq hok hc
    refine lv_iload_n hx hb dX5_of_13 rfl (lv_at hl 2 rfl) ?_
    refine lv_iconst (v := (0 : Int32)) hx hb dX5_of_14 (by decide) ?_
    refine lv_aload_n hx hb dX5_of_15 rfl (lv_at hl 0 rfl) ?_
    refine va_get (D := (dC, dI)) (ci := 5) (v := .ref l4) (C := RX5) (T := TX5) (N := 18) hx hb hts inX5 hown hK hP 0 rfl rfl 4 (by decide) (hts _ qf_X5_16) (fun _ h9 => h9) rfl dX5_of_16 ?_
    refine lv_iload_n hx hb dX5_of_19 rfl (lv_at hl 1 rfl) ?_
    obtain ⟨hi2, hok⟩ := gd_some hok
    refine va_iald hx hb hK hP 1 0 rfl rfl hi2 dX5_of_20 ?_
    refine lv_iconst (v := (1 : Int32)) hx hb dX5_of_21 (by decide) ?_
    refine lv_isub hx hb dX5_of_22 ?_
    obtain ⟨v3, hc3, hok⟩ := bd_some hok
    refine cRSi [.int a2, .int (0 : Int32), .int ((uL.2.2.2.2.2.2.2.1 a1.toNatClampNeg) - (1 : Int32))] S hK va_Pnil (c_X5_isIn l dC dI cI cZ a2 (0 : Int32) ((uL.2.2.2.2.2.2.2.1 a1.toNatClampNeg) - (1 : Int32)) hc3) (lw_S qm_X5_53 qt_X5_isIn qn_X5 qc_X5_isIn) hd_X5_isIn ⟨rfl, rfl⟩ ⟨Nat.le_of_ble_eq_true rfl, Nat.le_of_ble_eq_true rfl⟩ ⟨Nat.le_of_ble_eq_true rfl, Nat.le_of_ble_eq_true rfl⟩ rfl hl.1 (Nat.le_of_ble_eq_true rfl) rfl dX5_of_23 ?_
    refine lv_if_eq (tgt := 40) hx hb dX5_of_26 (by decide) (fun hc => ?_) (fun hc => ?_)
    · have hok := ip hok hc
      exact J40 (uL.1, uL.2.1, uL.2.2.1, (0 : Int32), uL.2.2.2.2) _ _ hP hD hS _ (lv_sub hl [0] rfl) hok
    · have hok := iq hok hc
      refine lv_aload_n hx hb dX5_of_29 rfl (lv_at hl 3 rfl) ?_
      refine lv_bipush (v := (9 : Int32)) hx hb dX5_of_30 (by decide) ?_
      refine lv_iload_n hx hb dX5_of_32 rfl (lv_at hl 1 rfl) ?_
      refine lv_imul hx hb dX5_of_33 ?_
      refine lv_iload_n hx hb dX5_of_34 rfl (lv_at hl 2 rfl) ?_
      refine lv_iadd hx hb dX5_of_35 ?_
      obtain ⟨hi4, hok⟩ := gd_some hok
      refine va_iald hx hb hK hP 3 0 rfl rfl hi4 dX5_of_36 ?_
      refine lv_goto (tgt := 45) hx hb dX5_of_37 (by decide) ?_
      have hok := Option.some.inj hok
      subst hok
      exact eWi S hr hlk rfl hP hS (Nat.le_of_ble_eq_true rfl) (Nat.le_of_ble_eq_true rfl) dX5_of_45
theorem hd_X5_topicOf : yX5_topicOf.cls = RX5 ∧ yX5_topicOf.cls ≠ "java/lang/invoke/MethodHandle" ∧ yX5_topicOf.cls ≠ "java/lang/invoke/VarHandle" ∧ (parseMethodDescriptor yX5_topicOf.desc).map (fun d => d.parameters.length) = some 2 := by decide +kernel
def p_X5_topicOf (uL : tX5) (a1 : Int32) (a2 : Int32) : Option (Int32 × tX5) :=
  bd (p_X5_of_5 uL a1 a2) (fun v1 =>
  some (v1.1, v1.2))
set_option maxHeartbeats 4000000 in
set_option maxRecDepth 100000 in
theorem c_X5_topicOf (l : Launch) (dC : Nat → ClassId) (dI : Nat → Nat → Nat) (cI cZ : ClassId) (l0 l4 l5 l6 l8 l10 l11 l12 l13 l14 l15 l16 : Nat) (sz : Nat) (uL : tX5) (a1 : Int32) (a2 : Int32) {z : (Int32 × tX5)} (hok : p_X5_topicOf uL a1 a2 = some z) : Met l yX5_topicOf (Cond.code yX5_topicOf cX5_topicOf 3 (some .int) :: lw_all) { frames := 3, cells := 0, slots := 0, locals := 66 } (prW (dC, dI) vwCl (TYS cI cZ) ((wX5 cI cZ l0 l4 l5 l6 l8 l10 l11 l12 l13 l14 l15 l16 uL)) sz [.ref l0, .int a1, .int a2]) (va_Qi (fun (r : Int32) (_ : Unit) => r = z.1) (fun _ t => va_P (dC, dI) vwCl ((wX5 cI cZ l0 l4 l5 l6 l8 l10 l11 l12 l13 l14 l15 l16 z.2)) t.heap) (va_A ((wX5 cI cZ l0 l4 l5 l6 l8 l10 l11 l12 l13 l14 l15 l16 uL)) sz)) 0 0 (va_A ((wX5 cI cZ l0 l4 l5 l6 l8 l10 l11 l12 l13 l14 l15 l16 uL)) sz) := by
  refine oM (by decide) (Nat.le_of_ble_eq_true rfl) ?_
  intro p e s m args below meth c S hr hlk hnm hB ls hl
  have hx := S.1
  have hb := S.2.1
  have hml := S.2.2.1
  have hown : s.vm.findClass RX5 = some m.cls := S.2.2.2.1
  have hts := S.2.2.2.2
  have S : CallFix p m c cX5_topicOf 3 s args lw_all RX5 := S
  have hl : lv_has ls 3 [(0, .ref l0), (1, .int a1), (2, .int a2)] := hl
  obtain ⟨hsz, hP, hK, hD0⟩ := hB
  subst hsz
  have hD := hD0.self (sz := s.heap.size)
  generalize hAe : va_A ((wX5 cI cZ l0 l4 l5 l6 l8 l10 l11 l12 l13 l14 l15 l16 uL)) s.heap.size = A at hD ⊢
  have hA : ∀ q : Nat, s.heap.size ≤ q → A q := fun q h => by rw [← hAe]; exact Or.inr h
  have hS : va_S A s.heap s.heap [] := va_S.rf
  have hP : va_P (dC, dI) vwCl ((wX5 cI cZ l0 l4 l5 l6 l8 l10 l11 l12 l13 l14 l15 l16 uL)) s.heap := hP
  unfold p_X5_topicOf at hok
  refine lv_aload_n hx hb dX5_topicOf_0 rfl (lv_at hl 0 rfl) ?_
  refine lv_iload_n hx hb dX5_topicOf_1 rfl (lv_at hl 1 rfl) ?_
  refine lv_iload_n hx hb dX5_topicOf_2 rfl (lv_at hl 2 rfl) ?_
  refine lv_aload_n hx hb dX5_topicOf_3 rfl (lv_at hl 0 rfl) ?_
  refine va_get (D := (dC, dI)) (ci := 5) (v := .ref l5) (C := RX5) (T := TX5) (N := 18) hx hb hts inX5 hown hK hP 0 rfl rfl 5 (by decide) (hts _ qf_X5_20) (fun _ h9 => h9) rfl dX5_topicOf_4 ?_
  obtain ⟨v1, hc1, hok⟩ := bd_some hok
  refine cWVi (ci := 5) (q0 := 0) [.int a1, .int a2, .ref l5] S hK hP hD hS hA (c_X5_of_5 l dC dI cI cZ l0 l4 l5 l6 l8 l10 l11 l12 l13 l14 l15 l16 _ uL a1 a2 hc1) (lw_V qm_X5_130 qi_X5_of qs_X5_of qn_X5 qc_X5_of) hd_X5_of ⟨rfl, rfl⟩ ⟨Nat.le_of_ble_eq_true rfl, Nat.le_of_ble_eq_true rfl⟩ ⟨Nat.le_of_ble_eq_true rfl, Nat.le_of_ble_eq_true rfl⟩ rfl rfl rfl hl.1 (Nat.le_of_ble_eq_true rfl) rfl dX5_topicOf_7 (D_L hD) (fun H locs hP hD hS => ?_)
  have hok := Option.some.inj hok
  subst hok
  exact eWi S hr hlk rfl hP hS (Nat.le_of_ble_eq_true rfl) (Nat.le_of_ble_eq_true rfl) dX5_topicOf_10
theorem hd_X5_thrillOf : yX5_thrillOf.cls = RX5 ∧ yX5_thrillOf.cls ≠ "java/lang/invoke/MethodHandle" ∧ yX5_thrillOf.cls ≠ "java/lang/invoke/VarHandle" ∧ (parseMethodDescriptor yX5_thrillOf.desc).map (fun d => d.parameters.length) = some 2 := by decide +kernel
def p_X5_thrillOf (uL : tX5) (a1 : Int32) (a2 : Int32) : Option (Int32 × tX5) :=
  bd (p_X5_of_6 uL a1 a2) (fun v1 =>
  some (v1.1, v1.2))
set_option maxHeartbeats 4000000 in
set_option maxRecDepth 100000 in
theorem c_X5_thrillOf (l : Launch) (dC : Nat → ClassId) (dI : Nat → Nat → Nat) (cI cZ : ClassId) (l0 l4 l5 l6 l8 l10 l11 l12 l13 l14 l15 l16 : Nat) (sz : Nat) (uL : tX5) (a1 : Int32) (a2 : Int32) {z : (Int32 × tX5)} (hok : p_X5_thrillOf uL a1 a2 = some z) : Met l yX5_thrillOf (Cond.code yX5_thrillOf cX5_thrillOf 3 (some .int) :: lw_all) { frames := 3, cells := 0, slots := 0, locals := 66 } (prW (dC, dI) vwCl (TYS cI cZ) ((wX5 cI cZ l0 l4 l5 l6 l8 l10 l11 l12 l13 l14 l15 l16 uL)) sz [.ref l0, .int a1, .int a2]) (va_Qi (fun (r : Int32) (_ : Unit) => r = z.1) (fun _ t => va_P (dC, dI) vwCl ((wX5 cI cZ l0 l4 l5 l6 l8 l10 l11 l12 l13 l14 l15 l16 z.2)) t.heap) (va_A ((wX5 cI cZ l0 l4 l5 l6 l8 l10 l11 l12 l13 l14 l15 l16 uL)) sz)) 0 0 (va_A ((wX5 cI cZ l0 l4 l5 l6 l8 l10 l11 l12 l13 l14 l15 l16 uL)) sz) := by
  refine oM (by decide) (Nat.le_of_ble_eq_true rfl) ?_
  intro p e s m args below meth c S hr hlk hnm hB ls hl
  have hx := S.1
  have hb := S.2.1
  have hml := S.2.2.1
  have hown : s.vm.findClass RX5 = some m.cls := S.2.2.2.1
  have hts := S.2.2.2.2
  have S : CallFix p m c cX5_thrillOf 3 s args lw_all RX5 := S
  have hl : lv_has ls 3 [(0, .ref l0), (1, .int a1), (2, .int a2)] := hl
  obtain ⟨hsz, hP, hK, hD0⟩ := hB
  subst hsz
  have hD := hD0.self (sz := s.heap.size)
  generalize hAe : va_A ((wX5 cI cZ l0 l4 l5 l6 l8 l10 l11 l12 l13 l14 l15 l16 uL)) s.heap.size = A at hD ⊢
  have hA : ∀ q : Nat, s.heap.size ≤ q → A q := fun q h => by rw [← hAe]; exact Or.inr h
  have hS : va_S A s.heap s.heap [] := va_S.rf
  have hP : va_P (dC, dI) vwCl ((wX5 cI cZ l0 l4 l5 l6 l8 l10 l11 l12 l13 l14 l15 l16 uL)) s.heap := hP
  unfold p_X5_thrillOf at hok
  refine lv_aload_n hx hb dX5_thrillOf_0 rfl (lv_at hl 0 rfl) ?_
  refine lv_iload_n hx hb dX5_thrillOf_1 rfl (lv_at hl 1 rfl) ?_
  refine lv_iload_n hx hb dX5_thrillOf_2 rfl (lv_at hl 2 rfl) ?_
  refine lv_aload_n hx hb dX5_thrillOf_3 rfl (lv_at hl 0 rfl) ?_
  refine va_get (D := (dC, dI)) (ci := 5) (v := .ref l6) (C := RX5) (T := TX5) (N := 18) hx hb hts inX5 hown hK hP 0 rfl rfl 6 (by decide) (hts _ qf_X5_23) (fun _ h9 => h9) rfl dX5_thrillOf_4 ?_
  obtain ⟨v1, hc1, hok⟩ := bd_some hok
  refine cWVi (ci := 5) (q0 := 0) [.int a1, .int a2, .ref l6] S hK hP hD hS hA (c_X5_of_6 l dC dI cI cZ l0 l4 l5 l6 l8 l10 l11 l12 l13 l14 l15 l16 _ uL a1 a2 hc1) (lw_V qm_X5_130 qi_X5_of qs_X5_of qn_X5 qc_X5_of) hd_X5_of ⟨rfl, rfl⟩ ⟨Nat.le_of_ble_eq_true rfl, Nat.le_of_ble_eq_true rfl⟩ ⟨Nat.le_of_ble_eq_true rfl, Nat.le_of_ble_eq_true rfl⟩ rfl rfl rfl hl.1 (Nat.le_of_ble_eq_true rfl) rfl dX5_thrillOf_7 (D_L hD) (fun H locs hP hD hS => ?_)
  have hok := Option.some.inj hok
  subst hok
  exact eWi S hr hlk rfl hP hS (Nat.le_of_ble_eq_true rfl) (Nat.le_of_ble_eq_true rfl) dX5_thrillOf_10
