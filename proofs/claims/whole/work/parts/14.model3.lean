theorem hd_X5_cutOn : yX5_cutOn.cls = RX5 ∧ yX5_cutOn.cls ≠ "java/lang/invoke/MethodHandle" ∧ yX5_cutOn.cls ≠ "java/lang/invoke/VarHandle" ∧ (parseMethodDescriptor yX5_cutOn.desc).map (fun d => d.parameters.length) = some 1 := by decide +kernel
def p_X5_cutOn (uL : tX5) (a1 : Int32) : Option (Int32 × tX5) :=
  bd (p_X5_isFloor (uL.1, uL.2.1, uL.2.2.1, (0 : Int32), uL.2.2.2.2) a1) (fun v1 =>
  if v1 = 0 then
    bd (p_X5_fail (uL.1, uL.2.1, uL.2.2.1, (0 : Int32), uL.2.2.2.2) (1 : Int32)) (fun v2 =>
    some (v2.1, v2.2))
  else
    gd ((21 : Int32) + a1) 41 (
    some ((uL.1 ((21 : Int32) + a1).toNatClampNeg), (uL.1, uL.2.1, uL.2.2.1, (0 : Int32), uL.2.2.2.2))))
set_option maxHeartbeats 4000000 in
set_option maxRecDepth 100000 in
theorem c_X5_cutOn (l : Launch) (dC : Nat → ClassId) (dI : Nat → Nat → Nat) (cI cZ : ClassId) (l0 l4 l5 l6 l8 l10 l11 l12 l13 l14 l15 l16 : Nat) (sz : Nat) (uL : tX5) (a1 : Int32) {z : (Int32 × tX5)} (hok : p_X5_cutOn uL a1 = some z) : Met l yX5_cutOn (Cond.code yX5_cutOn cX5_cutOn 2 (some .int) :: lw_all) { frames := 2, cells := 0, slots := 0, locals := 43 } (prW (dC, dI) vwCl (TYS cI cZ) ((wX5 cI cZ l0 l4 l5 l6 l8 l10 l11 l12 l13 l14 l15 l16 uL)) sz [.ref l0, .int a1]) (va_Qi (fun (r : Int32) (_ : Unit) => r = z.1) (fun _ t => va_P (dC, dI) vwCl ((wX5 cI cZ l0 l4 l5 l6 l8 l10 l11 l12 l13 l14 l15 l16 z.2)) t.heap) (va_A ((wX5 cI cZ l0 l4 l5 l6 l8 l10 l11 l12 l13 l14 l15 l16 uL)) sz)) 0 0 (va_A ((wX5 cI cZ l0 l4 l5 l6 l8 l10 l11 l12 l13 l14 l15 l16 uL)) sz) := by
  refine oM (by decide) (Nat.le_of_ble_eq_true rfl) ?_
  intro p e s m args below meth c S hr hlk hnm hB ls hl
  have hx := S.1
  have hb := S.2.1
  have hml := S.2.2.1
  have hown : s.vm.findClass RX5 = some m.cls := S.2.2.2.1
  have hts := S.2.2.2.2
  have S : CallFix p m c cX5_cutOn 2 s args lw_all RX5 := S
  have hl : lv_has ls 2 [(0, .ref l0), (1, .int a1)] := hl
  obtain ⟨hsz, hP, hK, hD0⟩ := hB
  subst hsz
  have hD := hD0.self (sz := s.heap.size)
  generalize hAe : va_A ((wX5 cI cZ l0 l4 l5 l6 l8 l10 l11 l12 l13 l14 l15 l16 uL)) s.heap.size = A at hD ⊢
  have hA : ∀ q : Nat, s.heap.size ≤ q → A q := fun q h => by rw [← hAe]; exact Or.inr h
  have hS : va_S A s.heap s.heap [] := va_S.rf
  have hP : va_P (dC, dI) vwCl ((wX5 cI cZ l0 l4 l5 l6 l8 l10 l11 l12 l13 l14 l15 l16 uL)) s.heap := hP
  unfold p_X5_cutOn at hok
  refine lv_aload_n hx hb dX5_cutOn_0 rfl (lv_at hl 0 rfl) ?_
  refine lv_iconst (v := (0 : Int32)) hx hb dX5_cutOn_1 (by decide) ?_
  refine va_put (D := (dC, dI)) (ci := 5) (v := .int (0 : Int32)) (ty := .int) (C := RX5) (T := TX5) (N := 18) hx hb hts inX5 tyX5 tyX5_ok nmX5 hown hK hP hD hS 0 rfl rfl 0 (by decide) (hts _ qf_X5_50) (fun _ h9 => h9) rfl (tyX5_ok 0 (by decide)) rfl rfl (Nat.le_of_ble_eq_true rfl) dX5_cutOn_2 (fun H locs hP _ hS => ?_)
  have hP : va_P (dC, dI) vwCl ((wX5 cI cZ l0 l4 l5 l6 l8 l10 l11 l12 l13 l14 l15 l16 (uL.1, uL.2.1, uL.2.2.1, (0 : Int32), uL.2.2.2.2))) H := hP
  have hD : va_D A ((wX5 cI cZ l0 l4 l5 l6 l8 l10 l11 l12 l13 l14 l15 l16 (uL.1, uL.2.1, uL.2.2.1, (0 : Int32), uL.2.2.2.2))) := D_L hD
  refine lv_aload_n hx hb dX5_cutOn_5 rfl (lv_at hl 0 rfl) ?_
  refine lv_iload_n hx hb dX5_cutOn_6 rfl (lv_at hl 1 rfl) ?_
  obtain ⟨v1, hc1, hok⟩ := bd_some hok
  refine cRVi (ci := 5) (q0 := 0) [.int a1] S hK hP (c_X5_isFloor l dC dI cI cZ l0 l4 l5 l6 l8 l10 l11 l12 l13 l14 l15 l16 (uL.1, uL.2.1, uL.2.2.1, (0 : Int32), uL.2.2.2.2) a1 hc1) (lw_V qm_X5_93 qi_X5_isFloor qs_X5_isFloor qn_X5 qc_X5_isFloor) hd_X5_isFloor ⟨rfl, rfl⟩ ⟨Nat.le_of_ble_eq_true rfl, Nat.le_of_ble_eq_true rfl⟩ ⟨Nat.le_of_ble_eq_true rfl, Nat.le_of_ble_eq_true rfl⟩ rfl rfl rfl hl.1 (Nat.le_of_ble_eq_true rfl) rfl dX5_cutOn_7 ?_
  refine lv_if_eq (tgt := 25) hx hb dX5_cutOn_10 (by decide) (fun hc => ?_) (fun hc => ?_)
  · have hok := ip hok hc
    refine lv_aload_n hx hb dX5_cutOn_25 rfl (lv_at hl 0 rfl) ?_
    refine lv_iconst (v := (1 : Int32)) hx hb dX5_cutOn_26 (by decide) ?_
    obtain ⟨v2, hc2, hok⟩ := bd_some hok
    refine cWVi (ci := 5) (q0 := 0) [.int (1 : Int32)] S hK hP hD hS hA (c_X5_fail l dC dI cI cZ l0 l4 l5 l6 l8 l10 l11 l12 l13 l14 l15 l16 _ (uL.1, uL.2.1, uL.2.2.1, (0 : Int32), uL.2.2.2.2) (1 : Int32) hc2) (lw_V qm_X5_112 qi_X5_fail qs_X5_fail qn_X5 qc_X5_fail) hd_X5_fail ⟨rfl, rfl⟩ ⟨Nat.le_of_ble_eq_true rfl, Nat.le_of_ble_eq_true rfl⟩ ⟨Nat.le_of_ble_eq_true rfl, Nat.le_of_ble_eq_true rfl⟩ rfl rfl rfl hl.1 (Nat.le_of_ble_eq_true rfl) rfl dX5_cutOn_27 (D_L hD) (fun H locs hP hD hS => ?_)
    have hok := Option.some.inj hok
    subst hok
    exact eWi S hr hlk rfl hP hS (Nat.le_of_ble_eq_true rfl) (Nat.le_of_ble_eq_true rfl) dX5_cutOn_30
  · have hok := iq hok hc
    refine lv_aload_n hx hb dX5_cutOn_13 rfl (lv_at hl 0 rfl) ?_
    refine va_get (D := (dC, dI)) (ci := 5) (v := .ref l15) (C := RX5) (T := TX5) (N := 18) hx hb hts inX5 hown hK hP 0 rfl rfl 15 (by decide) (hts _ qf_X5_44) (fun _ h9 => h9) rfl dX5_cutOn_14 ?_
    refine lv_bipush (v := (21 : Int32)) hx hb dX5_cutOn_17 (by decide) ?_
    refine lv_iload_n hx hb dX5_cutOn_19 rfl (lv_at hl 1 rfl) ?_
    refine lv_iadd hx hb dX5_cutOn_20 ?_
    obtain ⟨hi3, hok⟩ := gd_some hok
    refine va_iald hx hb hK hP 10 0 rfl rfl hi3 dX5_cutOn_21 ?_
    refine lv_goto (tgt := 30) hx hb dX5_cutOn_22 (by decide) ?_
    have hok := Option.some.inj hok
    subst hok
    exact eWi S hr hlk rfl hP hS (Nat.le_of_ble_eq_true rfl) (Nat.le_of_ble_eq_true rfl) dX5_cutOn_30
theorem hd_X5_isForbidden : yX5_isForbidden.cls = RX5 ∧ yX5_isForbidden.cls ≠ "java/lang/invoke/MethodHandle" ∧ yX5_isForbidden.cls ≠ "java/lang/invoke/VarHandle" ∧ (parseMethodDescriptor yX5_isForbidden.desc).map (fun d => d.parameters.length) = some 1 := by decide +kernel
def p_X5_isForbidden_J13 (uL : tX5) (l13_1 : Int32) (s13_0 : Int32) : Option (Int32 × tX5) :=
  if s13_0 = 0 then
    bd (p_X5_has uL.2.2.2.2.2.2.1 l13_1) (fun v2 =>
    if v2 = 0 then
      some ((0 : Int32), (uL.1, uL.2.1, uL.2.2.1, s13_0, uL.2.2.2.2))
    else
      some ((1 : Int32), (uL.1, uL.2.1, uL.2.2.1, s13_0, uL.2.2.2.2)))
  else
    some ((0 : Int32), (uL.1, uL.2.1, uL.2.2.1, s13_0, uL.2.2.2.2))
def p_X5_isForbidden (uL : tX5) (a1 : Int32) : Option (Int32 × tX5) :=
  bd (p_X5_isTopic a1) (fun v1 =>
  if v1 = 0 then
    p_X5_isForbidden_J13 uL a1 (1 : Int32)
  else
    p_X5_isForbidden_J13 uL a1 (0 : Int32))
set_option maxHeartbeats 4000000 in
set_option maxRecDepth 100000 in
theorem c_X5_isForbidden (l : Launch) (dC : Nat → ClassId) (dI : Nat → Nat → Nat) (cI cZ : ClassId) (l0 l4 l5 l6 l8 l10 l11 l12 l13 l14 l15 l16 : Nat) (sz : Nat) (uL : tX5) (a1 : Int32) {z : (Int32 × tX5)} (hok : p_X5_isForbidden uL a1 = some z) : Met l yX5_isForbidden (Cond.code yX5_isForbidden cX5_isForbidden 2 (some .boolean) :: lw_all) { frames := 2, cells := 0, slots := 0, locals := 42 } (prW (dC, dI) vwCl (TYS cI cZ) ((wX5 cI cZ l0 l4 l5 l6 l8 l10 l11 l12 l13 l14 l15 l16 uL)) sz [.ref l0, .int a1]) (va_Qi (fun (r : Int32) (_ : Unit) => r = z.1) (fun _ t => va_P (dC, dI) vwCl ((wX5 cI cZ l0 l4 l5 l6 l8 l10 l11 l12 l13 l14 l15 l16 z.2)) t.heap) (va_A ((wX5 cI cZ l0 l4 l5 l6 l8 l10 l11 l12 l13 l14 l15 l16 uL)) sz)) 0 0 (va_A ((wX5 cI cZ l0 l4 l5 l6 l8 l10 l11 l12 l13 l14 l15 l16 uL)) sz) := by
  refine oM (by decide) (Nat.le_of_ble_eq_true rfl) ?_
  intro p e s m args below meth c S hr hlk hnm hB ls hl
  have hx := S.1
  have hb := S.2.1
  have hml := S.2.2.1
  have hown : s.vm.findClass RX5 = some m.cls := S.2.2.2.1
  have hts := S.2.2.2.2
  have S : CallFix p m c cX5_isForbidden 2 s args lw_all RX5 := S
  have hl : lv_has ls 2 [(0, .ref l0), (1, .int a1)] := hl
  obtain ⟨hsz, hP, hK, hD0⟩ := hB
  subst hsz
  have hD := hD0.self (sz := s.heap.size)
  generalize hAe : va_A ((wX5 cI cZ l0 l4 l5 l6 l8 l10 l11 l12 l13 l14 l15 l16 uL)) s.heap.size = A at hD ⊢
  have hA : ∀ q : Nat, s.heap.size ≤ q → A q := fun q h => by rw [← hAe]; exact Or.inr h
  have hS : va_S A s.heap s.heap [] := va_S.rf
  have hP : va_P (dC, dI) vwCl ((wX5 cI cZ l0 l4 l5 l6 l8 l10 l11 l12 l13 l14 l15 l16 uL)) s.heap := hP
  have J13 : ∀ (uL : tX5) (l13_1 : Int32) (s13_0 : Int32) (H : Heap) (locs : List Loc) (hP : va_P (dC, dI) vwCl ((wX5 cI cZ l0 l4 l5 l6 l8 l10 l11 l12 l13 l14 l15 l16 uL)) H) (hD : va_D A ((wX5 cI cZ l0 l4 l5 l6 l8 l10 l11 l12 l13 l14 l15 l16 uL))) (hS : va_S A s.heap H locs) (ls : Array Slot) (hl : lv_has ls 2 [(0, .ref l0), (1, .int l13_1)]) (hok : p_X5_isForbidden_J13 uL l13_1 s13_0 = some z), W p l e { frames := 2, cells := 0, slots := 0, locals := 42 } s m args below meth c H locs 0 0 (MQ below (va_Qi (fun (r : Int32) (_ : Unit) => r = z.1) (fun _ t => va_P (dC, dI) vwCl ((wX5 cI cZ l0 l4 l5 l6 l8 l10 l11 l12 l13 l14 l15 l16 z.2)) t.heap) A) args s 0 0 A) (F0 m 13 ls [.int s13_0, .ref l0]) := by
    intro uL l13_1 s13_0 H locs hP hD hS ls hl hok
    unfold p_X5_isForbidden_J13 at hok
    refine va_put (D := (dC, dI)) (ci := 5) (v := .int s13_0) (ty := .int) (C := RX5) (T := TX5) (N := 18) hx hb hts inX5 tyX5 tyX5_ok nmX5 hown hK hP hD hS 0 rfl rfl 0 (by decide) (hts _ qf_X5_50) (fun _ h9 => h9) rfl (tyX5_ok 0 (by decide)) rfl rfl (Nat.le_of_ble_eq_true rfl) dX5_isForbidden_13 (fun H locs hP _ hS => ?_)
    have hP : va_P (dC, dI) vwCl ((wX5 cI cZ l0 l4 l5 l6 l8 l10 l11 l12 l13 l14 l15 l16 (uL.1, uL.2.1, uL.2.2.1, s13_0, uL.2.2.2.2))) H := hP
    have hD : va_D A ((wX5 cI cZ l0 l4 l5 l6 l8 l10 l11 l12 l13 l14 l15 l16 (uL.1, uL.2.1, uL.2.2.1, s13_0, uL.2.2.2.2))) := D_L hD
    refine lv_aload_n hx hb dX5_isForbidden_16 rfl (lv_at hl 0 rfl) ?_
    refine va_get (D := (dC, dI)) (ci := 5) (v := .int s13_0) (C := RX5) (T := TX5) (N := 18) hx hb hts inX5 hown hK hP 0 rfl rfl 0 (by decide) (hts _ qf_X5_50) (fun _ h9 => h9) rfl dX5_isForbidden_17 ?_
    refine lv_if_ne (tgt := 38) hx hb dX5_isForbidden_20 (by decide) (fun hc => ?_) (fun hc => ?_)
    · have hok := iq hok hc
      refine lv_iconst (v := (0 : Int32)) hx hb dX5_isForbidden_38 (by decide) ?_
      have hok := Option.some.inj hok
      subst hok
      exact eWz S hr hlk (by decide) rfl hP hS (Nat.le_of_ble_eq_true rfl) (Nat.le_of_ble_eq_true rfl) dX5_isForbidden_39
    · have hok := ip hok hc
      refine lv_aload_n hx hb dX5_isForbidden_23 rfl (lv_at hl 0 rfl) ?_
      refine va_get (D := (dC, dI)) (ci := 5) (v := .int uL.2.2.2.2.2.2.1) (C := RX5) (T := TX5) (N := 18) hx hb hts inX5 hown hK hP 0 rfl rfl 3 (by decide) (hts _ qf_X5_86) (fun _ h9 => h9) rfl dX5_isForbidden_24 ?_
      refine lv_iload_n hx hb dX5_isForbidden_27 rfl (lv_at hl 1 rfl) ?_
      obtain ⟨v2, hc2, hok⟩ := bd_some hok
      refine cRSi [.int uL.2.2.2.2.2.2.1, .int l13_1] S hK va_Pnil (c_X5_has l dC dI cI cZ uL.2.2.2.2.2.2.1 l13_1 hc2) (lw_S qm_X5_69 qt_X5_has qn_X5 qc_X5_has) hd_X5_has ⟨rfl, rfl⟩ ⟨Nat.le_of_ble_eq_true rfl, Nat.le_of_ble_eq_true rfl⟩ ⟨Nat.le_of_ble_eq_true rfl, Nat.le_of_ble_eq_true rfl⟩ rfl hl.1 (Nat.le_of_ble_eq_true rfl) rfl dX5_isForbidden_28 ?_
      refine lv_if_eq (tgt := 38) hx hb dX5_isForbidden_31 (by decide) (fun hc => ?_) (fun hc => ?_)
      · have hok := ip hok hc
        refine lv_iconst (v := (0 : Int32)) hx hb dX5_isForbidden_38 (by decide) ?_
        have hok := Option.some.inj hok
        subst hok
        exact eWz S hr hlk (by decide) rfl hP hS (Nat.le_of_ble_eq_true rfl) (Nat.le_of_ble_eq_true rfl) dX5_isForbidden_39
      · have hok := iq hok hc
        refine lv_iconst (v := (1 : Int32)) hx hb dX5_isForbidden_34 (by decide) ?_
        refine lv_goto (tgt := 39) hx hb dX5_isForbidden_35 (by decide) ?_
        have hok := Option.some.inj hok
        subst hok
        exact eWz S hr hlk (by decide) rfl hP hS (Nat.le_of_ble_eq_true rfl) (Nat.le_of_ble_eq_true rfl) dX5_isForbidden_39
  unfold p_X5_isForbidden at hok
  refine lv_aload_n hx hb dX5_isForbidden_0 rfl (lv_at hl 0 rfl) ?_
  refine lv_iload_n hx hb dX5_isForbidden_1 rfl (lv_at hl 1 rfl) ?_
  obtain ⟨v1, hc1, hok⟩ := bd_some hok
  refine cRSi [.int a1] S hK va_Pnil (c_X5_isTopic l dC dI cI cZ a1 hc1) (lw_S qm_X5_119 qt_X5_isTopic qn_X5 qc_X5_isTopic) hd_X5_isTopic ⟨rfl, rfl⟩ ⟨Nat.le_of_ble_eq_true rfl, Nat.le_of_ble_eq_true rfl⟩ ⟨Nat.le_of_ble_eq_true rfl, Nat.le_of_ble_eq_true rfl⟩ rfl hl.1 (Nat.le_of_ble_eq_true rfl) rfl dX5_isForbidden_2 ?_
  refine lv_if_eq (tgt := 12) hx hb dX5_isForbidden_5 (by decide) (fun hc => ?_) (fun hc => ?_)
  · have hok := ip hok hc
    refine lv_iconst (v := (1 : Int32)) hx hb dX5_isForbidden_12 (by decide) ?_
    exact J13 uL a1 (1 : Int32) _ _ hP hD hS _ hl hok
  · have hok := iq hok hc
    refine lv_iconst (v := (0 : Int32)) hx hb dX5_isForbidden_8 (by decide) ?_
    refine lv_goto (tgt := 13) hx hb dX5_isForbidden_9 (by decide) ?_
    exact J13 uL a1 (0 : Int32) _ _ hP hD hS _ hl hok
theorem hd_X5_cuts : yX5_cuts.cls = RX5 ∧ yX5_cuts.cls ≠ "java/lang/invoke/MethodHandle" ∧ yX5_cuts.cls ≠ "java/lang/invoke/VarHandle" ∧ (parseMethodDescriptor yX5_cuts.desc).map (fun d => d.parameters.length) = some 0 := by decide +kernel
def p_X5_cuts (uL : tX5) : Option (Int32 × tX5) :=
  bd (p_X5_cut uL) (fun v1 =>
  bd (p_X5_told uL v1) (fun v2 =>
  some (v2.1, v2.2)))
set_option maxHeartbeats 4000000 in
set_option maxRecDepth 100000 in
theorem c_X5_cuts (l : Launch) (dC : Nat → ClassId) (dI : Nat → Nat → Nat) (cI cZ : ClassId) (l0 l4 l5 l6 l8 l10 l11 l12 l13 l14 l15 l16 : Nat) (sz : Nat) (uL : tX5) {z : (Int32 × tX5)} (hok : p_X5_cuts uL = some z) : Met l yX5_cuts (Cond.code yX5_cuts cX5_cuts 1 (some .int) :: lw_all) { frames := 1, cells := 0, slots := 0, locals := 22 } (prW (dC, dI) vwCl (TYS cI cZ) ((wX5 cI cZ l0 l4 l5 l6 l8 l10 l11 l12 l13 l14 l15 l16 uL)) sz [.ref l0]) (va_Qi (fun (r : Int32) (_ : Unit) => r = z.1) (fun _ t => va_P (dC, dI) vwCl ((wX5 cI cZ l0 l4 l5 l6 l8 l10 l11 l12 l13 l14 l15 l16 z.2)) t.heap) (va_A ((wX5 cI cZ l0 l4 l5 l6 l8 l10 l11 l12 l13 l14 l15 l16 uL)) sz)) 0 0 (va_A ((wX5 cI cZ l0 l4 l5 l6 l8 l10 l11 l12 l13 l14 l15 l16 uL)) sz) := by
  refine oM (by decide) (Nat.le_of_ble_eq_true rfl) ?_
  intro p e s m args below meth c S hr hlk hnm hB ls hl
  have hx := S.1
  have hb := S.2.1
  have hml := S.2.2.1
  have hown : s.vm.findClass RX5 = some m.cls := S.2.2.2.1
  have hts := S.2.2.2.2
  have S : CallFix p m c cX5_cuts 1 s args lw_all RX5 := S
  have hl : lv_has ls 1 [(0, .ref l0)] := hl
  obtain ⟨hsz, hP, hK, hD0⟩ := hB
  subst hsz
  have hD := hD0.self (sz := s.heap.size)
  generalize hAe : va_A ((wX5 cI cZ l0 l4 l5 l6 l8 l10 l11 l12 l13 l14 l15 l16 uL)) s.heap.size = A at hD ⊢
  have hA : ∀ q : Nat, s.heap.size ≤ q → A q := fun q h => by rw [← hAe]; exact Or.inr h
  have hS : va_S A s.heap s.heap [] := va_S.rf
  have hP : va_P (dC, dI) vwCl ((wX5 cI cZ l0 l4 l5 l6 l8 l10 l11 l12 l13 l14 l15 l16 uL)) s.heap := hP
  unfold p_X5_cuts at hok
  refine lv_aload_n hx hb dX5_cuts_0 rfl (lv_at hl 0 rfl) ?_
  refine lv_aload_n hx hb dX5_cuts_1 rfl (lv_at hl 0 rfl) ?_
  obtain ⟨v1, hc1, hok⟩ := bd_some hok
  refine cRVi (ci := 5) (q0 := 0) [] S hK hP (c_X5_cut l dC dI cI cZ l0 l4 l5 l6 l8 l10 l11 l12 l13 l14 l15 l16 uL hc1) (lw_V qm_X5_134 qi_X5_cut qs_X5_cut qn_X5 qc_X5_cut) hd_X5_cut ⟨rfl, rfl⟩ ⟨Nat.le_of_ble_eq_true rfl, Nat.le_of_ble_eq_true rfl⟩ ⟨Nat.le_of_ble_eq_true rfl, Nat.le_of_ble_eq_true rfl⟩ rfl rfl rfl hl.1 (Nat.le_of_ble_eq_true rfl) rfl dX5_cuts_2 ?_
  obtain ⟨v2, hc2, hok⟩ := bd_some hok
  refine cWVi (ci := 5) (q0 := 0) [.int v1] S hK hP hD hS hA (c_X5_told l dC dI cI cZ l0 l4 l5 l6 l8 l10 l11 l12 l13 l14 l15 l16 _ uL v1 hc2) (lw_V qm_X5_125 qi_X5_told qs_X5_told qn_X5 qc_X5_told) hd_X5_told ⟨rfl, rfl⟩ ⟨Nat.le_of_ble_eq_true rfl, Nat.le_of_ble_eq_true rfl⟩ ⟨Nat.le_of_ble_eq_true rfl, Nat.le_of_ble_eq_true rfl⟩ rfl rfl rfl hl.1 (Nat.le_of_ble_eq_true rfl) rfl dX5_cuts_5 (D_L hD) (fun H locs hP hD hS => ?_)
  have hok := Option.some.inj hok
  subst hok
  exact eWi S hr hlk rfl hP hS (Nat.le_of_ble_eq_true rfl) (Nat.le_of_ble_eq_true rfl) dX5_cuts_8
theorem hd_X5_comes : yX5_comes.cls = RX5 ∧ yX5_comes.cls ≠ "java/lang/invoke/MethodHandle" ∧ yX5_comes.cls ≠ "java/lang/invoke/VarHandle" ∧ (parseMethodDescriptor yX5_comes.desc).map (fun d => d.parameters.length) = some 1 := by decide +kernel
def p_X5_comes_J56 (rec4 : tX5 → Int32 → Int32 → Int32 → Option Int32) (rec23 : tX5 → Int32 → Int32 → Int32 → Int32 → Option Int32) (uL : tX5) (l56_1 : Int32) (l56_3 : Int32) (l56_4 : Int32) (s56_0 : Int32) (s56_1 : Int32) : Option Int32 :=
  rec23 uL l56_1 (s56_1 + s56_0) l56_3 (l56_4 + 1)
def p_X5_comes_L23 (rec4 : tX5 → Int32 → Int32 → Int32 → Option Int32) : Nat → tX5 → Int32 → Int32 → Int32 → Int32 → Option Int32
  | 0, _, _, _, _, _ => none
  | n + 1, uL, l23_1, l23_2, l23_3, l23_4 =>
    gd l23_3 12 (
    if (uL.2.2.2.2.2.2.2.1 l23_3.toNatClampNeg) ≤ l23_4 then
      rec4 uL l23_1 l23_2 (l23_3 + 1)
    else
      gd (((9 : Int32) * l23_3) + l23_4) 108 (
      if (uL.2.2.2.2.2.2.2.2.1 (((9 : Int32) * l23_3) + l23_4).toNatClampNeg) = l23_1 then
        p_X5_comes_J56 rec4 (p_X5_comes_L23 rec4 n) uL l23_1 l23_3 l23_4 (1 : Int32) l23_2
      else
        p_X5_comes_J56 rec4 (p_X5_comes_L23 rec4 n) uL l23_1 l23_3 l23_4 (0 : Int32) l23_2))
def p_X5_comes_L4 : Nat → tX5 → Int32 → Int32 → Int32 → Option Int32
  | 0, _, _, _, _ => none
  | n + 1, uL, l4_1, l4_2, l4_3 =>
    if uL.2.2.2.2.1 ≤ l4_3 then
      some l4_2
    else
      gd ((9 : Int32) + l4_3) 41 (
      p_X5_comes_L23 (p_X5_comes_L4 n) 200 uL l4_1 l4_2 l4_3 (uL.1 ((9 : Int32) + l4_3).toNatClampNeg))
def p_X5_comes (uL : tX5) (a1 : Int32) : Option Int32 :=
  p_X5_comes_L4 200 uL a1 (0 : Int32) (0 : Int32)
set_option maxHeartbeats 4000000 in
set_option maxRecDepth 100000 in
theorem c_X5_comes (l : Launch) (dC : Nat → ClassId) (dI : Nat → Nat → Nat) (cI cZ : ClassId) (l0 l4 l5 l6 l8 l10 l11 l12 l13 l14 l15 l16 : Nat) (uL : tX5) (a1 : Int32) {z : Int32} (hok : p_X5_comes uL a1 = some z) : Met l yX5_comes (Cond.code yX5_comes cX5_comes 5 (some .int) :: lw_all) { frames := 0, cells := 0, slots := 0, locals := 0 } (prR (dC, dI) vwCl (TYS cI cZ) ((wX5 cI cZ l0 l4 l5 l6 l8 l10 l11 l12 l13 l14 l15 l16 uL)) [.ref l0, .int a1]) (vp_Si (fun r => r = z)) 0 0 (fun _ => False) := by
  refine oM (by decide) (Nat.le_of_ble_eq_true rfl) ?_
  intro p e s m args below meth c S hr hlk hnm hB ls hl
  have hx := S.1
  have hb := S.2.1
  have hml := S.2.2.1
  have hown : s.vm.findClass RX5 = some m.cls := S.2.2.2.1
  have hts := S.2.2.2.2
  have S : CallFix p m c cX5_comes 5 s args lw_all RX5 := S
  have hl : lv_has ls 5 [(0, .ref l0), (1, .int a1)] := hl
  obtain ⟨hP, hK⟩ := hB
  have hP : va_P (dC, dI) vwCl ((wX5 cI cZ l0 l4 l5 l6 l8 l10 l11 l12 l13 l14 l15 l16 uL)) s.heap := hP
  have L4 : ∀ n4 : Nat, ∀ (l4_1 : Int32) (l4_2 : Int32) (l4_3 : Int32) (ls : Array Slot) (hl : lv_has ls 5 [(0, .ref l0), (1, .int l4_1), (2, .int l4_2), (3, .int l4_3)]) (hok : p_X5_comes_L4 n4 uL l4_1 l4_2 l4_3 = some z), W p l e { frames := 0, cells := 0, slots := 0, locals := 0 } s m args below meth c s.heap [] 0 0 (MQ below (vp_Si (fun r => r = z)) args s 0 0 (fun _ => False)) (F0 m 4 ls []) := by
    intro n4
    induction n4 with
    | zero =>
      intro l4_1 l4_2 l4_3 ls hl hok
      rw [p_X5_comes_L4] at hok
      cases hok
    | succ n4 ih4 =>
      have L23 : ∀ n23 : Nat, ∀ (l23_1 : Int32) (l23_2 : Int32) (l23_3 : Int32) (l23_4 : Int32) (ls : Array Slot) (hl : lv_has ls 5 [(0, .ref l0), (1, .int l23_1), (2, .int l23_2), (3, .int l23_3), (4, .int l23_4)]) (hok : p_X5_comes_L23 (p_X5_comes_L4 n4) n23 uL l23_1 l23_2 l23_3 l23_4 = some z), W p l e { frames := 0, cells := 0, slots := 0, locals := 0 } s m args below meth c s.heap [] 0 0 (MQ below (vp_Si (fun r => r = z)) args s 0 0 (fun _ => False)) (F0 m 23 ls []) := by
        intro n23
        induction n23 with
        | zero =>
          intro l23_1 l23_2 l23_3 l23_4 ls hl hok
          rw [p_X5_comes_L23] at hok
          cases hok
        | succ n23 ih23 =>
          have J56 : ∀ (l56_1 : Int32) (l56_3 : Int32) (l56_4 : Int32) (s56_0 : Int32) (s56_1 : Int32) (ls : Array Slot) (hl : lv_has ls 5 [(0, .ref l0), (1, .int l56_1), (3, .int l56_3), (4, .int l56_4)]) (hok : p_X5_comes_J56 (p_X5_comes_L4 n4) (p_X5_comes_L23 (p_X5_comes_L4 n4) n23) uL l56_1 l56_3 l56_4 s56_0 s56_1 = some z), W p l e { frames := 0, cells := 0, slots := 0, locals := 0 } s m args below meth c s.heap [] 0 0 (MQ below (vp_Si (fun r => r = z)) args s 0 0 (fun _ => False)) (F0 m 56 ls [.int s56_0, .int s56_1]) := by
            intro l56_1 l56_3 l56_4 s56_0 s56_1 ls hl hok
            unfold p_X5_comes_J56 at hok
            refine lv_iadd hx hb dX5_comes_56 ?_
            refine lv_istore_n (lv' := [(2, .int (s56_1 + s56_0)), (0, .ref l0), (1, .int l56_1), (3, .int l56_3), (4, .int l56_4)]) hx hb dX5_comes_57 rfl hl (by decide) rfl (fun ls hl => ?_)
            refine lv_iinc (v := (l56_4 + 1)) (lv' := [(4, .int (l56_4 + 1)), (2, .int (s56_1 + s56_0)), (0, .ref l0), (1, .int l56_1), (3, .int l56_3)]) hx hb dX5_comes_58 hl (k := 4) rfl rfl (by decide) rfl (fun ls hl => ?_)
            refine lv_goto (tgt := 23) hx hb dX5_comes_61 (by decide) ?_
            exact ih23 l56_1 (s56_1 + s56_0) l56_3 (l56_4 + 1) _ (lv_sub hl [2, 3, 1, 4, 0] rfl) hok
          intro l23_1 l23_2 l23_3 l23_4 ls hl hok
          rw [p_X5_comes_L23] at hok
          refine lv_iload hx hb dX5_comes_23 (lv_at hl 4 rfl) ?_
          refine lv_aload_n hx hb dX5_comes_25 rfl (lv_at hl 0 rfl) ?_
          refine va_get (D := (dC, dI)) (ci := 5) (v := .ref l4) (C := RX5) (T := TX5) (N := 18) hx hb hts inX5 hown hK hP 0 rfl rfl 4 (by decide) (hts _ qf_X5_16) (fun _ h9 => h9) rfl dX5_comes_26 ?_
          refine lv_iload_n hx hb dX5_comes_29 rfl (lv_at hl 3 rfl) ?_
          obtain ⟨hi2, hok⟩ := gd_some hok
          refine va_iald hx hb hK hP 1 0 rfl rfl hi2 dX5_comes_30 ?_
          refine lv_icmp_ge (tgt := 64) hx hb dX5_comes_31 (by decide) (fun hc => ?_) (fun hc => ?_)
          · have hok := ip hok hc
            refine lv_iinc (v := (l23_3 + 1)) (lv' := [(3, .int (l23_3 + 1)), (0, .ref l0), (1, .int l23_1), (2, .int l23_2), (4, .int l23_4)]) hx hb dX5_comes_64 hl (k := 3) rfl rfl (by decide) rfl (fun ls hl => ?_)
            refine lv_goto (tgt := 4) hx hb dX5_comes_67 (by decide) ?_
            exact ih4 l23_1 l23_2 (l23_3 + 1) _ (lv_sub hl [1, 2, 3, 0] rfl) hok
          · have hok := iq hok hc
            refine lv_iload_n hx hb dX5_comes_34 rfl (lv_at hl 2 rfl) ?_
            refine lv_aload_n hx hb dX5_comes_35 rfl (lv_at hl 0 rfl) ?_
            refine va_get (D := (dC, dI)) (ci := 5) (v := .ref l5) (C := RX5) (T := TX5) (N := 18) hx hb hts inX5 hown hK hP 0 rfl rfl 5 (by decide) (hts _ qf_X5_20) (fun _ h9 => h9) rfl dX5_comes_36 ?_
            refine lv_bipush (v := (9 : Int32)) hx hb dX5_comes_39 (by decide) ?_
            refine lv_iload_n hx hb dX5_comes_41 rfl (lv_at hl 3 rfl) ?_
            refine lv_imul hx hb dX5_comes_42 ?_
            refine lv_iload hx hb dX5_comes_43 (lv_at hl 4 rfl) ?_
            refine lv_iadd hx hb dX5_comes_45 ?_
            obtain ⟨hi3, hok⟩ := gd_some hok
            refine va_iald hx hb hK hP 2 0 rfl rfl hi3 dX5_comes_46 ?_
            refine lv_iload_n hx hb dX5_comes_47 rfl (lv_at hl 1 rfl) ?_
            refine lv_icmp_ne (tgt := 55) hx hb dX5_comes_48 (by decide) (fun hc => ?_) (fun hc => ?_)
            · have hok := iq hok hc
              refine lv_iconst (v := (0 : Int32)) hx hb dX5_comes_55 (by decide) ?_
              exact J56 l23_1 l23_3 l23_4 (0 : Int32) l23_2 _ (lv_sub hl [0, 1, 3, 4] rfl) hok
            · have hok := ip hok hc
              refine lv_iconst (v := (1 : Int32)) hx hb dX5_comes_51 (by decide) ?_
              refine lv_goto (tgt := 56) hx hb dX5_comes_52 (by decide) ?_
              exact J56 l23_1 l23_3 l23_4 (1 : Int32) l23_2 _ (lv_sub hl [0, 1, 3, 4] rfl) hok
      intro l4_1 l4_2 l4_3 ls hl hok
      rw [p_X5_comes_L4] at hok
      refine lv_iload_n hx hb dX5_comes_4 rfl (lv_at hl 3 rfl) ?_
      refine lv_aload_n hx hb dX5_comes_5 rfl (lv_at hl 0 rfl) ?_
      refine va_get (D := (dC, dI)) (ci := 5) (v := .int uL.2.2.2.2.1) (C := RX5) (T := TX5) (N := 18) hx hb hts inX5 hown hK hP 0 rfl rfl 1 (by decide) (hts _ qf_X5_7) (fun _ h9 => h9) rfl dX5_comes_6 ?_
      refine lv_icmp_ge (tgt := 70) hx hb dX5_comes_9 (by decide) (fun hc => ?_) (fun hc => ?_)
      · have hok := ip hok hc
        refine lv_iload_n hx hb dX5_comes_70 rfl (lv_at hl 2 rfl) ?_
        exact eRi S hr hlk (Option.some.inj hok) dX5_comes_71
      · have hok := iq hok hc
        refine lv_aload_n hx hb dX5_comes_12 rfl (lv_at hl 0 rfl) ?_
        refine va_get (D := (dC, dI)) (ci := 5) (v := .ref l15) (C := RX5) (T := TX5) (N := 18) hx hb hts inX5 hown hK hP 0 rfl rfl 15 (by decide) (hts _ qf_X5_44) (fun _ h9 => h9) rfl dX5_comes_13 ?_
        refine lv_bipush (v := (9 : Int32)) hx hb dX5_comes_16 (by decide) ?_
        refine lv_iload_n hx hb dX5_comes_18 rfl (lv_at hl 3 rfl) ?_
        refine lv_iadd hx hb dX5_comes_19 ?_
        obtain ⟨hi1, hok⟩ := gd_some hok
        refine va_iald hx hb hK hP 10 0 rfl rfl hi1 dX5_comes_20 ?_
        refine lv_istore (lv' := [(4, .int (uL.1 ((9 : Int32) + l4_3).toNatClampNeg)), (0, .ref l0), (1, .int l4_1), (2, .int l4_2), (3, .int l4_3)]) hx hb dX5_comes_21 hl (by decide) rfl (fun ls hl => ?_)
        exact L23 200 l4_1 l4_2 l4_3 (uL.1 ((9 : Int32) + l4_3).toNatClampNeg) _ (lv_sub hl [1, 2, 3, 4, 0] rfl) hok
  unfold p_X5_comes at hok
  refine lv_iconst (v := (0 : Int32)) hx hb dX5_comes_0 (by decide) ?_
  refine lv_istore_n (lv' := [(2, .int (0 : Int32)), (0, .ref l0), (1, .int a1)]) hx hb dX5_comes_1 rfl hl (by decide) rfl (fun ls hl => ?_)
  refine lv_iconst (v := (0 : Int32)) hx hb dX5_comes_2 (by decide) ?_
  refine lv_istore_n (lv' := [(3, .int (0 : Int32)), (2, .int (0 : Int32)), (0, .ref l0), (1, .int a1)]) hx hb dX5_comes_3 rfl hl (by decide) rfl (fun ls hl => ?_)
  exact L4 200 a1 (0 : Int32) (0 : Int32) _ (lv_sub hl [2, 3, 1, 0] rfl) hok
theorem hd_X5_toCome : yX5_toCome.cls = RX5 ∧ yX5_toCome.cls ≠ "java/lang/invoke/MethodHandle" ∧ yX5_toCome.cls ≠ "java/lang/invoke/VarHandle" ∧ (parseMethodDescriptor yX5_toCome.desc).map (fun d => d.parameters.length) = some 1 := by decide +kernel
def p_X5_toCome (uL : tX5) (a1 : Int32) : Option (Int32 × tX5) :=
  bd (p_X5_isTopic a1) (fun v1 =>
  if v1 = 0 then
    bd (p_X5_fail (uL.1, uL.2.1, uL.2.2.1, (0 : Int32), uL.2.2.2.2) (1 : Int32)) (fun v2 =>
    some (v2.1, v2.2))
  else
    bd (p_X5_comes (uL.1, uL.2.1, uL.2.2.1, (0 : Int32), uL.2.2.2.2) a1) (fun v3 =>
    some (v3, (uL.1, uL.2.1, uL.2.2.1, (0 : Int32), uL.2.2.2.2))))
set_option maxHeartbeats 4000000 in
set_option maxRecDepth 100000 in
theorem c_X5_toCome (l : Launch) (dC : Nat → ClassId) (dI : Nat → Nat → Nat) (cI cZ : ClassId) (l0 l4 l5 l6 l8 l10 l11 l12 l13 l14 l15 l16 : Nat) (sz : Nat) (uL : tX5) (a1 : Int32) {z : (Int32 × tX5)} (hok : p_X5_toCome uL a1 = some z) : Met l yX5_toCome (Cond.code yX5_toCome cX5_toCome 2 (some .int) :: lw_all) { frames := 2, cells := 0, slots := 0, locals := 42 } (prW (dC, dI) vwCl (TYS cI cZ) ((wX5 cI cZ l0 l4 l5 l6 l8 l10 l11 l12 l13 l14 l15 l16 uL)) sz [.ref l0, .int a1]) (va_Qi (fun (r : Int32) (_ : Unit) => r = z.1) (fun _ t => va_P (dC, dI) vwCl ((wX5 cI cZ l0 l4 l5 l6 l8 l10 l11 l12 l13 l14 l15 l16 z.2)) t.heap) (va_A ((wX5 cI cZ l0 l4 l5 l6 l8 l10 l11 l12 l13 l14 l15 l16 uL)) sz)) 0 0 (va_A ((wX5 cI cZ l0 l4 l5 l6 l8 l10 l11 l12 l13 l14 l15 l16 uL)) sz) := by
  refine oM (by decide) (Nat.le_of_ble_eq_true rfl) ?_
  intro p e s m args below meth c S hr hlk hnm hB ls hl
  have hx := S.1
  have hb := S.2.1
  have hml := S.2.2.1
  have hown : s.vm.findClass RX5 = some m.cls := S.2.2.2.1
  have hts := S.2.2.2.2
  have S : CallFix p m c cX5_toCome 2 s args lw_all RX5 := S
  have hl : lv_has ls 2 [(0, .ref l0), (1, .int a1)] := hl
  obtain ⟨hsz, hP, hK, hD0⟩ := hB
  subst hsz
  have hD := hD0.self (sz := s.heap.size)
  generalize hAe : va_A ((wX5 cI cZ l0 l4 l5 l6 l8 l10 l11 l12 l13 l14 l15 l16 uL)) s.heap.size = A at hD ⊢
  have hA : ∀ q : Nat, s.heap.size ≤ q → A q := fun q h => by rw [← hAe]; exact Or.inr h
  have hS : va_S A s.heap s.heap [] := va_S.rf
  have hP : va_P (dC, dI) vwCl ((wX5 cI cZ l0 l4 l5 l6 l8 l10 l11 l12 l13 l14 l15 l16 uL)) s.heap := hP
  unfold p_X5_toCome at hok
  refine lv_aload_n hx hb dX5_toCome_0 rfl (lv_at hl 0 rfl) ?_
  refine lv_iconst (v := (0 : Int32)) hx hb dX5_toCome_1 (by decide) ?_
  refine va_put (D := (dC, dI)) (ci := 5) (v := .int (0 : Int32)) (ty := .int) (C := RX5) (T := TX5) (N := 18) hx hb hts inX5 tyX5 tyX5_ok nmX5 hown hK hP hD hS 0 rfl rfl 0 (by decide) (hts _ qf_X5_50) (fun _ h9 => h9) rfl (tyX5_ok 0 (by decide)) rfl rfl (Nat.le_of_ble_eq_true rfl) dX5_toCome_2 (fun H locs hP _ hS => ?_)
  have hP : va_P (dC, dI) vwCl ((wX5 cI cZ l0 l4 l5 l6 l8 l10 l11 l12 l13 l14 l15 l16 (uL.1, uL.2.1, uL.2.2.1, (0 : Int32), uL.2.2.2.2))) H := hP
  have hD : va_D A ((wX5 cI cZ l0 l4 l5 l6 l8 l10 l11 l12 l13 l14 l15 l16 (uL.1, uL.2.1, uL.2.2.1, (0 : Int32), uL.2.2.2.2))) := D_L hD
  refine lv_iload_n hx hb dX5_toCome_5 rfl (lv_at hl 1 rfl) ?_
  obtain ⟨v1, hc1, hok⟩ := bd_some hok
  refine cRSi [.int a1] S hK va_Pnil (c_X5_isTopic l dC dI cI cZ a1 hc1) (lw_S qm_X5_119 qt_X5_isTopic qn_X5 qc_X5_isTopic) hd_X5_isTopic ⟨rfl, rfl⟩ ⟨Nat.le_of_ble_eq_true rfl, Nat.le_of_ble_eq_true rfl⟩ ⟨Nat.le_of_ble_eq_true rfl, Nat.le_of_ble_eq_true rfl⟩ rfl hl.1 (Nat.le_of_ble_eq_true rfl) rfl dX5_toCome_6 ?_
  refine lv_if_eq (tgt := 20) hx hb dX5_toCome_9 (by decide) (fun hc => ?_) (fun hc => ?_)
  · have hok := ip hok hc
    refine lv_aload_n hx hb dX5_toCome_20 rfl (lv_at hl 0 rfl) ?_
    refine lv_iconst (v := (1 : Int32)) hx hb dX5_toCome_21 (by decide) ?_
    obtain ⟨v2, hc2, hok⟩ := bd_some hok
    refine cWVi (ci := 5) (q0 := 0) [.int (1 : Int32)] S hK hP hD hS hA (c_X5_fail l dC dI cI cZ l0 l4 l5 l6 l8 l10 l11 l12 l13 l14 l15 l16 _ (uL.1, uL.2.1, uL.2.2.1, (0 : Int32), uL.2.2.2.2) (1 : Int32) hc2) (lw_V qm_X5_112 qi_X5_fail qs_X5_fail qn_X5 qc_X5_fail) hd_X5_fail ⟨rfl, rfl⟩ ⟨Nat.le_of_ble_eq_true rfl, Nat.le_of_ble_eq_true rfl⟩ ⟨Nat.le_of_ble_eq_true rfl, Nat.le_of_ble_eq_true rfl⟩ rfl rfl rfl hl.1 (Nat.le_of_ble_eq_true rfl) rfl dX5_toCome_22 (D_L hD) (fun H locs hP hD hS => ?_)
    have hok := Option.some.inj hok
    subst hok
    exact eWi S hr hlk rfl hP hS (Nat.le_of_ble_eq_true rfl) (Nat.le_of_ble_eq_true rfl) dX5_toCome_25
  · have hok := iq hok hc
    refine lv_aload_n hx hb dX5_toCome_12 rfl (lv_at hl 0 rfl) ?_
    refine lv_iload_n hx hb dX5_toCome_13 rfl (lv_at hl 1 rfl) ?_
    obtain ⟨v3, hc3, hok⟩ := bd_some hok
    refine cRVi (ci := 5) (q0 := 0) [.int a1] S hK hP (c_X5_comes l dC dI cI cZ l0 l4 l5 l6 l8 l10 l11 l12 l13 l14 l15 l16 (uL.1, uL.2.1, uL.2.2.1, (0 : Int32), uL.2.2.2.2) a1 hc3) (lw_V qm_X5_137 qi_X5_comes qs_X5_comes qn_X5 qc_X5_comes) hd_X5_comes ⟨rfl, rfl⟩ ⟨Nat.le_of_ble_eq_true rfl, Nat.le_of_ble_eq_true rfl⟩ ⟨Nat.le_of_ble_eq_true rfl, Nat.le_of_ble_eq_true rfl⟩ rfl rfl rfl hl.1 (Nat.le_of_ble_eq_true rfl) rfl dX5_toCome_14 ?_
    refine lv_goto (tgt := 25) hx hb dX5_toCome_17 (by decide) ?_
    have hok := Option.some.inj hok
    subst hok
    exact eWi S hr hlk rfl hP hS (Nat.le_of_ble_eq_true rfl) (Nat.le_of_ble_eq_true rfl) dX5_toCome_25
theorem hd_X5_instalments : yX5_instalments.cls = RX5 ∧ yX5_instalments.cls ≠ "java/lang/invoke/MethodHandle" ∧ yX5_instalments.cls ≠ "java/lang/invoke/VarHandle" ∧ (parseMethodDescriptor yX5_instalments.desc).map (fun d => d.parameters.length) = some 0 := by decide +kernel
def p_X5_instalments (uL : tX5) : Option (Int32 × tX5) :=
  bd (p_X5_told uL (uL.1 8)) (fun v1 =>
  some (v1.1, v1.2))
set_option maxHeartbeats 4000000 in
set_option maxRecDepth 100000 in
theorem c_X5_instalments (l : Launch) (dC : Nat → ClassId) (dI : Nat → Nat → Nat) (cI cZ : ClassId) (l0 l4 l5 l6 l8 l10 l11 l12 l13 l14 l15 l16 : Nat) (sz : Nat) (uL : tX5) {z : (Int32 × tX5)} (hok : p_X5_instalments uL = some z) : Met l yX5_instalments (Cond.code yX5_instalments cX5_instalments 1 (some .int) :: lw_all) { frames := 1, cells := 0, slots := 0, locals := 21 } (prW (dC, dI) vwCl (TYS cI cZ) ((wX5 cI cZ l0 l4 l5 l6 l8 l10 l11 l12 l13 l14 l15 l16 uL)) sz [.ref l0]) (va_Qi (fun (r : Int32) (_ : Unit) => r = z.1) (fun _ t => va_P (dC, dI) vwCl ((wX5 cI cZ l0 l4 l5 l6 l8 l10 l11 l12 l13 l14 l15 l16 z.2)) t.heap) (va_A ((wX5 cI cZ l0 l4 l5 l6 l8 l10 l11 l12 l13 l14 l15 l16 uL)) sz)) 0 0 (va_A ((wX5 cI cZ l0 l4 l5 l6 l8 l10 l11 l12 l13 l14 l15 l16 uL)) sz) := by
  refine oM (by decide) (Nat.le_of_ble_eq_true rfl) ?_
  intro p e s m args below meth c S hr hlk hnm hB ls hl
  have hx := S.1
  have hb := S.2.1
  have hml := S.2.2.1
  have hown : s.vm.findClass RX5 = some m.cls := S.2.2.2.1
  have hts := S.2.2.2.2
  have S : CallFix p m c cX5_instalments 1 s args lw_all RX5 := S
  have hl : lv_has ls 1 [(0, .ref l0)] := hl
  obtain ⟨hsz, hP, hK, hD0⟩ := hB
  subst hsz
  have hD := hD0.self (sz := s.heap.size)
  generalize hAe : va_A ((wX5 cI cZ l0 l4 l5 l6 l8 l10 l11 l12 l13 l14 l15 l16 uL)) s.heap.size = A at hD ⊢
  have hA : ∀ q : Nat, s.heap.size ≤ q → A q := fun q h => by rw [← hAe]; exact Or.inr h
  have hS : va_S A s.heap s.heap [] := va_S.rf
  have hP : va_P (dC, dI) vwCl ((wX5 cI cZ l0 l4 l5 l6 l8 l10 l11 l12 l13 l14 l15 l16 uL)) s.heap := hP
  unfold p_X5_instalments at hok
  refine lv_aload_n hx hb dX5_instalments_0 rfl (lv_at hl 0 rfl) ?_
  refine lv_aload_n hx hb dX5_instalments_1 rfl (lv_at hl 0 rfl) ?_
  refine va_get (D := (dC, dI)) (ci := 5) (v := .ref l15) (C := RX5) (T := TX5) (N := 18) hx hb hts inX5 hown hK hP 0 rfl rfl 15 (by decide) (hts _ qf_X5_44) (fun _ h9 => h9) rfl dX5_instalments_2 ?_
  refine lv_bipush (v := (8 : Int32)) hx hb dX5_instalments_5 (by decide) ?_
  refine va_ialdK hx hb hK hP 10 0 rfl rfl (j := 8) (by decide) (vp_inK (by decide)) dX5_instalments_7 ?_
  obtain ⟨v1, hc1, hok⟩ := bd_some hok
  refine cWVi (ci := 5) (q0 := 0) [.int (uL.1 8)] S hK hP hD hS hA (c_X5_told l dC dI cI cZ l0 l4 l5 l6 l8 l10 l11 l12 l13 l14 l15 l16 _ uL (uL.1 8) hc1) (lw_V qm_X5_125 qi_X5_told qs_X5_told qn_X5 qc_X5_told) hd_X5_told ⟨rfl, rfl⟩ ⟨Nat.le_of_ble_eq_true rfl, Nat.le_of_ble_eq_true rfl⟩ ⟨Nat.le_of_ble_eq_true rfl, Nat.le_of_ble_eq_true rfl⟩ rfl rfl rfl hl.1 (Nat.le_of_ble_eq_true rfl) rfl dX5_instalments_8 (D_L hD) (fun H locs hP hD hS => ?_)
  have hok := Option.some.inj hok
  subst hok
  exact eWi S hr hlk rfl hP hS (Nat.le_of_ble_eq_true rfl) (Nat.le_of_ble_eq_true rfl) dX5_instalments_11
theorem hd_X5_floorIn : yX5_floorIn.cls = RX5 ∧ yX5_floorIn.cls ≠ "java/lang/invoke/MethodHandle" ∧ yX5_floorIn.cls ≠ "java/lang/invoke/VarHandle" ∧ (parseMethodDescriptor yX5_floorIn.desc).map (fun d => d.parameters.length) = some 1 := by decide +kernel
def p_X5_floorIn (uL : tX5) (a1 : Int32) : Option (Int32 × tX5) :=
  bd (p_X5_isInstalment (uL.1, uL.2.1, uL.2.2.1, (0 : Int32), uL.2.2.2.2) a1) (fun v1 =>
  if v1 = 0 then
    bd (p_X5_fail (uL.1, uL.2.1, uL.2.2.1, (0 : Int32), uL.2.2.2.2) (1 : Int32)) (fun v2 =>
    some (v2.1, v2.2))
  else
    gd a1 108 (
    some (((uL.2.2.2.2.2.2.2.2.2.2.2.2.2.2.2.1 a1.toNatClampNeg) / (9 : Int32)), (uL.1, uL.2.1, uL.2.2.1, (0 : Int32), uL.2.2.2.2))))
set_option maxHeartbeats 4000000 in
set_option maxRecDepth 100000 in
theorem c_X5_floorIn (l : Launch) (dC : Nat → ClassId) (dI : Nat → Nat → Nat) (cI cZ : ClassId) (l0 l4 l5 l6 l8 l10 l11 l12 l13 l14 l15 l16 : Nat) (sz : Nat) (uL : tX5) (a1 : Int32) {z : (Int32 × tX5)} (hok : p_X5_floorIn uL a1 = some z) : Met l yX5_floorIn (Cond.code yX5_floorIn cX5_floorIn 2 (some .int) :: lw_all) { frames := 2, cells := 0, slots := 0, locals := 43 } (prW (dC, dI) vwCl (TYS cI cZ) ((wX5 cI cZ l0 l4 l5 l6 l8 l10 l11 l12 l13 l14 l15 l16 uL)) sz [.ref l0, .int a1]) (va_Qi (fun (r : Int32) (_ : Unit) => r = z.1) (fun _ t => va_P (dC, dI) vwCl ((wX5 cI cZ l0 l4 l5 l6 l8 l10 l11 l12 l13 l14 l15 l16 z.2)) t.heap) (va_A ((wX5 cI cZ l0 l4 l5 l6 l8 l10 l11 l12 l13 l14 l15 l16 uL)) sz)) 0 0 (va_A ((wX5 cI cZ l0 l4 l5 l6 l8 l10 l11 l12 l13 l14 l15 l16 uL)) sz) := by
  refine oM (by decide) (Nat.le_of_ble_eq_true rfl) ?_
  intro p e s m args below meth c S hr hlk hnm hB ls hl
  have hx := S.1
  have hb := S.2.1
  have hml := S.2.2.1
  have hown : s.vm.findClass RX5 = some m.cls := S.2.2.2.1
  have hts := S.2.2.2.2
  have S : CallFix p m c cX5_floorIn 2 s args lw_all RX5 := S
  have hl : lv_has ls 2 [(0, .ref l0), (1, .int a1)] := hl
  obtain ⟨hsz, hP, hK, hD0⟩ := hB
  subst hsz
  have hD := hD0.self (sz := s.heap.size)
  generalize hAe : va_A ((wX5 cI cZ l0 l4 l5 l6 l8 l10 l11 l12 l13 l14 l15 l16 uL)) s.heap.size = A at hD ⊢
  have hA : ∀ q : Nat, s.heap.size ≤ q → A q := fun q h => by rw [← hAe]; exact Or.inr h
  have hS : va_S A s.heap s.heap [] := va_S.rf
  have hP : va_P (dC, dI) vwCl ((wX5 cI cZ l0 l4 l5 l6 l8 l10 l11 l12 l13 l14 l15 l16 uL)) s.heap := hP
  unfold p_X5_floorIn at hok
  refine lv_aload_n hx hb dX5_floorIn_0 rfl (lv_at hl 0 rfl) ?_
  refine lv_iconst (v := (0 : Int32)) hx hb dX5_floorIn_1 (by decide) ?_
  refine va_put (D := (dC, dI)) (ci := 5) (v := .int (0 : Int32)) (ty := .int) (C := RX5) (T := TX5) (N := 18) hx hb hts inX5 tyX5 tyX5_ok nmX5 hown hK hP hD hS 0 rfl rfl 0 (by decide) (hts _ qf_X5_50) (fun _ h9 => h9) rfl (tyX5_ok 0 (by decide)) rfl rfl (Nat.le_of_ble_eq_true rfl) dX5_floorIn_2 (fun H locs hP _ hS => ?_)
  have hP : va_P (dC, dI) vwCl ((wX5 cI cZ l0 l4 l5 l6 l8 l10 l11 l12 l13 l14 l15 l16 (uL.1, uL.2.1, uL.2.2.1, (0 : Int32), uL.2.2.2.2))) H := hP
  have hD : va_D A ((wX5 cI cZ l0 l4 l5 l6 l8 l10 l11 l12 l13 l14 l15 l16 (uL.1, uL.2.1, uL.2.2.1, (0 : Int32), uL.2.2.2.2))) := D_L hD
  refine lv_aload_n hx hb dX5_floorIn_5 rfl (lv_at hl 0 rfl) ?_
  refine lv_iload_n hx hb dX5_floorIn_6 rfl (lv_at hl 1 rfl) ?_
  obtain ⟨v1, hc1, hok⟩ := bd_some hok
  refine cRVi (ci := 5) (q0 := 0) [.int a1] S hK hP (c_X5_isInstalment l dC dI cI cZ l0 l4 l5 l6 l8 l10 l11 l12 l13 l14 l15 l16 (uL.1, uL.2.1, uL.2.2.1, (0 : Int32), uL.2.2.2.2) a1 hc1) (lw_V qm_X5_140 qi_X5_isInstalment qs_X5_isInstalment qn_X5 qc_X5_isInstalment) hd_X5_isInstalment ⟨rfl, rfl⟩ ⟨Nat.le_of_ble_eq_true rfl, Nat.le_of_ble_eq_true rfl⟩ ⟨Nat.le_of_ble_eq_true rfl, Nat.le_of_ble_eq_true rfl⟩ rfl rfl rfl hl.1 (Nat.le_of_ble_eq_true rfl) rfl dX5_floorIn_7 ?_
  refine lv_if_eq (tgt := 25) hx hb dX5_floorIn_10 (by decide) (fun hc => ?_) (fun hc => ?_)
  · have hok := ip hok hc
    refine lv_aload_n hx hb dX5_floorIn_25 rfl (lv_at hl 0 rfl) ?_
    refine lv_iconst (v := (1 : Int32)) hx hb dX5_floorIn_26 (by decide) ?_
    obtain ⟨v2, hc2, hok⟩ := bd_some hok
    refine cWVi (ci := 5) (q0 := 0) [.int (1 : Int32)] S hK hP hD hS hA (c_X5_fail l dC dI cI cZ l0 l4 l5 l6 l8 l10 l11 l12 l13 l14 l15 l16 _ (uL.1, uL.2.1, uL.2.2.1, (0 : Int32), uL.2.2.2.2) (1 : Int32) hc2) (lw_V qm_X5_112 qi_X5_fail qs_X5_fail qn_X5 qc_X5_fail) hd_X5_fail ⟨rfl, rfl⟩ ⟨Nat.le_of_ble_eq_true rfl, Nat.le_of_ble_eq_true rfl⟩ ⟨Nat.le_of_ble_eq_true rfl, Nat.le_of_ble_eq_true rfl⟩ rfl rfl rfl hl.1 (Nat.le_of_ble_eq_true rfl) rfl dX5_floorIn_27 (D_L hD) (fun H locs hP hD hS => ?_)
    have hok := Option.some.inj hok
    subst hok
    exact eWi S hr hlk rfl hP hS (Nat.le_of_ble_eq_true rfl) (Nat.le_of_ble_eq_true rfl) dX5_floorIn_30
  · have hok := iq hok hc
    refine lv_aload_n hx hb dX5_floorIn_13 rfl (lv_at hl 0 rfl) ?_
    refine va_get (D := (dC, dI)) (ci := 5) (v := .ref l12) (C := RX5) (T := TX5) (N := 18) hx hb hts inX5 hown hK hP 0 rfl rfl 12 (by decide) (hts _ qf_X5_35) (fun _ h9 => h9) rfl dX5_floorIn_14 ?_
    refine lv_iload_n hx hb dX5_floorIn_17 rfl (lv_at hl 1 rfl) ?_
    obtain ⟨hi3, hok⟩ := gd_some hok
    refine va_iald hx hb hK hP 7 0 rfl rfl hi3 dX5_floorIn_18 ?_
    refine lv_bipush (v := (9 : Int32)) hx hb dX5_floorIn_19 (by decide) ?_
    refine lv_idiv hx hb dX5_floorIn_21 (by decide) ?_
    refine lv_goto (tgt := 30) hx hb dX5_floorIn_22 (by decide) ?_
    have hok := Option.some.inj hok
    subst hok
    exact eWi S hr hlk rfl hP hS (Nat.le_of_ble_eq_true rfl) (Nat.le_of_ble_eq_true rfl) dX5_floorIn_30
theorem hd_X5_paragraphIn : yX5_paragraphIn.cls = RX5 ∧ yX5_paragraphIn.cls ≠ "java/lang/invoke/MethodHandle" ∧ yX5_paragraphIn.cls ≠ "java/lang/invoke/VarHandle" ∧ (parseMethodDescriptor yX5_paragraphIn.desc).map (fun d => d.parameters.length) = some 1 := by decide +kernel
def p_X5_paragraphIn (uL : tX5) (a1 : Int32) : Option (Int32 × tX5) :=
  bd (p_X5_isInstalment (uL.1, uL.2.1, uL.2.2.1, (0 : Int32), uL.2.2.2.2) a1) (fun v1 =>
  if v1 = 0 then
    bd (p_X5_fail (uL.1, uL.2.1, uL.2.2.1, (0 : Int32), uL.2.2.2.2) (1 : Int32)) (fun v2 =>
    some (v2.1, v2.2))
  else
    gd a1 108 (
    some (((uL.2.2.2.2.2.2.2.2.2.2.2.2.2.2.2.1 a1.toNatClampNeg) - (uL.2.2.2.2.2.2.2.2.2.2.2.2.2.2.2.1 a1.toNatClampNeg) / (9 : Int32) * (9 : Int32)), (uL.1, uL.2.1, uL.2.2.1, (0 : Int32), uL.2.2.2.2))))
set_option maxHeartbeats 4000000 in
set_option maxRecDepth 100000 in
theorem c_X5_paragraphIn (l : Launch) (dC : Nat → ClassId) (dI : Nat → Nat → Nat) (cI cZ : ClassId) (l0 l4 l5 l6 l8 l10 l11 l12 l13 l14 l15 l16 : Nat) (sz : Nat) (uL : tX5) (a1 : Int32) {z : (Int32 × tX5)} (hok : p_X5_paragraphIn uL a1 = some z) : Met l yX5_paragraphIn (Cond.code yX5_paragraphIn cX5_paragraphIn 2 (some .int) :: lw_all) { frames := 2, cells := 0, slots := 0, locals := 43 } (prW (dC, dI) vwCl (TYS cI cZ) ((wX5 cI cZ l0 l4 l5 l6 l8 l10 l11 l12 l13 l14 l15 l16 uL)) sz [.ref l0, .int a1]) (va_Qi (fun (r : Int32) (_ : Unit) => r = z.1) (fun _ t => va_P (dC, dI) vwCl ((wX5 cI cZ l0 l4 l5 l6 l8 l10 l11 l12 l13 l14 l15 l16 z.2)) t.heap) (va_A ((wX5 cI cZ l0 l4 l5 l6 l8 l10 l11 l12 l13 l14 l15 l16 uL)) sz)) 0 0 (va_A ((wX5 cI cZ l0 l4 l5 l6 l8 l10 l11 l12 l13 l14 l15 l16 uL)) sz) := by
  refine oM (by decide) (Nat.le_of_ble_eq_true rfl) ?_
  intro p e s m args below meth c S hr hlk hnm hB ls hl
  have hx := S.1
  have hb := S.2.1
  have hml := S.2.2.1
  have hown : s.vm.findClass RX5 = some m.cls := S.2.2.2.1
  have hts := S.2.2.2.2
  have S : CallFix p m c cX5_paragraphIn 2 s args lw_all RX5 := S
  have hl : lv_has ls 2 [(0, .ref l0), (1, .int a1)] := hl
  obtain ⟨hsz, hP, hK, hD0⟩ := hB
  subst hsz
  have hD := hD0.self (sz := s.heap.size)
  generalize hAe : va_A ((wX5 cI cZ l0 l4 l5 l6 l8 l10 l11 l12 l13 l14 l15 l16 uL)) s.heap.size = A at hD ⊢
  have hA : ∀ q : Nat, s.heap.size ≤ q → A q := fun q h => by rw [← hAe]; exact Or.inr h
  have hS : va_S A s.heap s.heap [] := va_S.rf
  have hP : va_P (dC, dI) vwCl ((wX5 cI cZ l0 l4 l5 l6 l8 l10 l11 l12 l13 l14 l15 l16 uL)) s.heap := hP
  unfold p_X5_paragraphIn at hok
  refine lv_aload_n hx hb dX5_paragraphIn_0 rfl (lv_at hl 0 rfl) ?_
  refine lv_iconst (v := (0 : Int32)) hx hb dX5_paragraphIn_1 (by decide) ?_
  refine va_put (D := (dC, dI)) (ci := 5) (v := .int (0 : Int32)) (ty := .int) (C := RX5) (T := TX5) (N := 18) hx hb hts inX5 tyX5 tyX5_ok nmX5 hown hK hP hD hS 0 rfl rfl 0 (by decide) (hts _ qf_X5_50) (fun _ h9 => h9) rfl (tyX5_ok 0 (by decide)) rfl rfl (Nat.le_of_ble_eq_true rfl) dX5_paragraphIn_2 (fun H locs hP _ hS => ?_)
  have hP : va_P (dC, dI) vwCl ((wX5 cI cZ l0 l4 l5 l6 l8 l10 l11 l12 l13 l14 l15 l16 (uL.1, uL.2.1, uL.2.2.1, (0 : Int32), uL.2.2.2.2))) H := hP
  have hD : va_D A ((wX5 cI cZ l0 l4 l5 l6 l8 l10 l11 l12 l13 l14 l15 l16 (uL.1, uL.2.1, uL.2.2.1, (0 : Int32), uL.2.2.2.2))) := D_L hD
  refine lv_aload_n hx hb dX5_paragraphIn_5 rfl (lv_at hl 0 rfl) ?_
  refine lv_iload_n hx hb dX5_paragraphIn_6 rfl (lv_at hl 1 rfl) ?_
  obtain ⟨v1, hc1, hok⟩ := bd_some hok
  refine cRVi (ci := 5) (q0 := 0) [.int a1] S hK hP (c_X5_isInstalment l dC dI cI cZ l0 l4 l5 l6 l8 l10 l11 l12 l13 l14 l15 l16 (uL.1, uL.2.1, uL.2.2.1, (0 : Int32), uL.2.2.2.2) a1 hc1) (lw_V qm_X5_140 qi_X5_isInstalment qs_X5_isInstalment qn_X5 qc_X5_isInstalment) hd_X5_isInstalment ⟨rfl, rfl⟩ ⟨Nat.le_of_ble_eq_true rfl, Nat.le_of_ble_eq_true rfl⟩ ⟨Nat.le_of_ble_eq_true rfl, Nat.le_of_ble_eq_true rfl⟩ rfl rfl rfl hl.1 (Nat.le_of_ble_eq_true rfl) rfl dX5_paragraphIn_7 ?_
  refine lv_if_eq (tgt := 25) hx hb dX5_paragraphIn_10 (by decide) (fun hc => ?_) (fun hc => ?_)
  · have hok := ip hok hc
    refine lv_aload_n hx hb dX5_paragraphIn_25 rfl (lv_at hl 0 rfl) ?_
    refine lv_iconst (v := (1 : Int32)) hx hb dX5_paragraphIn_26 (by decide) ?_
    obtain ⟨v2, hc2, hok⟩ := bd_some hok
    refine cWVi (ci := 5) (q0 := 0) [.int (1 : Int32)] S hK hP hD hS hA (c_X5_fail l dC dI cI cZ l0 l4 l5 l6 l8 l10 l11 l12 l13 l14 l15 l16 _ (uL.1, uL.2.1, uL.2.2.1, (0 : Int32), uL.2.2.2.2) (1 : Int32) hc2) (lw_V qm_X5_112 qi_X5_fail qs_X5_fail qn_X5 qc_X5_fail) hd_X5_fail ⟨rfl, rfl⟩ ⟨Nat.le_of_ble_eq_true rfl, Nat.le_of_ble_eq_true rfl⟩ ⟨Nat.le_of_ble_eq_true rfl, Nat.le_of_ble_eq_true rfl⟩ rfl rfl rfl hl.1 (Nat.le_of_ble_eq_true rfl) rfl dX5_paragraphIn_27 (D_L hD) (fun H locs hP hD hS => ?_)
    have hok := Option.some.inj hok
    subst hok
    exact eWi S hr hlk rfl hP hS (Nat.le_of_ble_eq_true rfl) (Nat.le_of_ble_eq_true rfl) dX5_paragraphIn_30
  · have hok := iq hok hc
    refine lv_aload_n hx hb dX5_paragraphIn_13 rfl (lv_at hl 0 rfl) ?_
    refine va_get (D := (dC, dI)) (ci := 5) (v := .ref l12) (C := RX5) (T := TX5) (N := 18) hx hb hts inX5 hown hK hP 0 rfl rfl 12 (by decide) (hts _ qf_X5_35) (fun _ h9 => h9) rfl dX5_paragraphIn_14 ?_
    refine lv_iload_n hx hb dX5_paragraphIn_17 rfl (lv_at hl 1 rfl) ?_
    obtain ⟨hi3, hok⟩ := gd_some hok
    refine va_iald hx hb hK hP 7 0 rfl rfl hi3 dX5_paragraphIn_18 ?_
    refine lv_bipush (v := (9 : Int32)) hx hb dX5_paragraphIn_19 (by decide) ?_
    refine lv_irem hx hb dX5_paragraphIn_21 (by decide) ?_
    refine lv_goto (tgt := 30) hx hb dX5_paragraphIn_22 (by decide) ?_
    have hok := Option.some.inj hok
    subst hok
    exact eWi S hr hlk rfl hP hS (Nat.le_of_ble_eq_true rfl) (Nat.le_of_ble_eq_true rfl) dX5_paragraphIn_30
theorem hd_X5_thrillIn : yX5_thrillIn.cls = RX5 ∧ yX5_thrillIn.cls ≠ "java/lang/invoke/MethodHandle" ∧ yX5_thrillIn.cls ≠ "java/lang/invoke/VarHandle" ∧ (parseMethodDescriptor yX5_thrillIn.desc).map (fun d => d.parameters.length) = some 1 := by decide +kernel
def p_X5_thrillIn (uL : tX5) (a1 : Int32) : Option (Int32 × tX5) :=
  bd (p_X5_isInstalment (uL.1, uL.2.1, uL.2.2.1, (0 : Int32), uL.2.2.2.2) a1) (fun v1 =>
  if v1 = 0 then
    bd (p_X5_fail (uL.1, uL.2.1, uL.2.2.1, (0 : Int32), uL.2.2.2.2) (1 : Int32)) (fun v2 =>
    some (v2.1, v2.2))
  else
    gd a1 108 (
    some ((uL.2.2.2.2.2.2.2.2.2.2.2.2.2.2.2.2.1 a1.toNatClampNeg), (uL.1, uL.2.1, uL.2.2.1, (0 : Int32), uL.2.2.2.2))))
set_option maxHeartbeats 4000000 in
set_option maxRecDepth 100000 in
theorem c_X5_thrillIn (l : Launch) (dC : Nat → ClassId) (dI : Nat → Nat → Nat) (cI cZ : ClassId) (l0 l4 l5 l6 l8 l10 l11 l12 l13 l14 l15 l16 : Nat) (sz : Nat) (uL : tX5) (a1 : Int32) {z : (Int32 × tX5)} (hok : p_X5_thrillIn uL a1 = some z) : Met l yX5_thrillIn (Cond.code yX5_thrillIn cX5_thrillIn 2 (some .int) :: lw_all) { frames := 2, cells := 0, slots := 0, locals := 43 } (prW (dC, dI) vwCl (TYS cI cZ) ((wX5 cI cZ l0 l4 l5 l6 l8 l10 l11 l12 l13 l14 l15 l16 uL)) sz [.ref l0, .int a1]) (va_Qi (fun (r : Int32) (_ : Unit) => r = z.1) (fun _ t => va_P (dC, dI) vwCl ((wX5 cI cZ l0 l4 l5 l6 l8 l10 l11 l12 l13 l14 l15 l16 z.2)) t.heap) (va_A ((wX5 cI cZ l0 l4 l5 l6 l8 l10 l11 l12 l13 l14 l15 l16 uL)) sz)) 0 0 (va_A ((wX5 cI cZ l0 l4 l5 l6 l8 l10 l11 l12 l13 l14 l15 l16 uL)) sz) := by
  refine oM (by decide) (Nat.le_of_ble_eq_true rfl) ?_
  intro p e s m args below meth c S hr hlk hnm hB ls hl
  have hx := S.1
  have hb := S.2.1
  have hml := S.2.2.1
  have hown : s.vm.findClass RX5 = some m.cls := S.2.2.2.1
  have hts := S.2.2.2.2
  have S : CallFix p m c cX5_thrillIn 2 s args lw_all RX5 := S
  have hl : lv_has ls 2 [(0, .ref l0), (1, .int a1)] := hl
  obtain ⟨hsz, hP, hK, hD0⟩ := hB
  subst hsz
  have hD := hD0.self (sz := s.heap.size)
  generalize hAe : va_A ((wX5 cI cZ l0 l4 l5 l6 l8 l10 l11 l12 l13 l14 l15 l16 uL)) s.heap.size = A at hD ⊢
  have hA : ∀ q : Nat, s.heap.size ≤ q → A q := fun q h => by rw [← hAe]; exact Or.inr h
  have hS : va_S A s.heap s.heap [] := va_S.rf
  have hP : va_P (dC, dI) vwCl ((wX5 cI cZ l0 l4 l5 l6 l8 l10 l11 l12 l13 l14 l15 l16 uL)) s.heap := hP
  unfold p_X5_thrillIn at hok
  refine lv_aload_n hx hb dX5_thrillIn_0 rfl (lv_at hl 0 rfl) ?_
  refine lv_iconst (v := (0 : Int32)) hx hb dX5_thrillIn_1 (by decide) ?_
  refine va_put (D := (dC, dI)) (ci := 5) (v := .int (0 : Int32)) (ty := .int) (C := RX5) (T := TX5) (N := 18) hx hb hts inX5 tyX5 tyX5_ok nmX5 hown hK hP hD hS 0 rfl rfl 0 (by decide) (hts _ qf_X5_50) (fun _ h9 => h9) rfl (tyX5_ok 0 (by decide)) rfl rfl (Nat.le_of_ble_eq_true rfl) dX5_thrillIn_2 (fun H locs hP _ hS => ?_)
  have hP : va_P (dC, dI) vwCl ((wX5 cI cZ l0 l4 l5 l6 l8 l10 l11 l12 l13 l14 l15 l16 (uL.1, uL.2.1, uL.2.2.1, (0 : Int32), uL.2.2.2.2))) H := hP
  have hD : va_D A ((wX5 cI cZ l0 l4 l5 l6 l8 l10 l11 l12 l13 l14 l15 l16 (uL.1, uL.2.1, uL.2.2.1, (0 : Int32), uL.2.2.2.2))) := D_L hD
  refine lv_aload_n hx hb dX5_thrillIn_5 rfl (lv_at hl 0 rfl) ?_
  refine lv_iload_n hx hb dX5_thrillIn_6 rfl (lv_at hl 1 rfl) ?_
  obtain ⟨v1, hc1, hok⟩ := bd_some hok
  refine cRVi (ci := 5) (q0 := 0) [.int a1] S hK hP (c_X5_isInstalment l dC dI cI cZ l0 l4 l5 l6 l8 l10 l11 l12 l13 l14 l15 l16 (uL.1, uL.2.1, uL.2.2.1, (0 : Int32), uL.2.2.2.2) a1 hc1) (lw_V qm_X5_140 qi_X5_isInstalment qs_X5_isInstalment qn_X5 qc_X5_isInstalment) hd_X5_isInstalment ⟨rfl, rfl⟩ ⟨Nat.le_of_ble_eq_true rfl, Nat.le_of_ble_eq_true rfl⟩ ⟨Nat.le_of_ble_eq_true rfl, Nat.le_of_ble_eq_true rfl⟩ rfl rfl rfl hl.1 (Nat.le_of_ble_eq_true rfl) rfl dX5_thrillIn_7 ?_
  refine lv_if_eq (tgt := 22) hx hb dX5_thrillIn_10 (by decide) (fun hc => ?_) (fun hc => ?_)
  · have hok := ip hok hc
    refine lv_aload_n hx hb dX5_thrillIn_22 rfl (lv_at hl 0 rfl) ?_
    refine lv_iconst (v := (1 : Int32)) hx hb dX5_thrillIn_23 (by decide) ?_
    obtain ⟨v2, hc2, hok⟩ := bd_some hok
    refine cWVi (ci := 5) (q0 := 0) [.int (1 : Int32)] S hK hP hD hS hA (c_X5_fail l dC dI cI cZ l0 l4 l5 l6 l8 l10 l11 l12 l13 l14 l15 l16 _ (uL.1, uL.2.1, uL.2.2.1, (0 : Int32), uL.2.2.2.2) (1 : Int32) hc2) (lw_V qm_X5_112 qi_X5_fail qs_X5_fail qn_X5 qc_X5_fail) hd_X5_fail ⟨rfl, rfl⟩ ⟨Nat.le_of_ble_eq_true rfl, Nat.le_of_ble_eq_true rfl⟩ ⟨Nat.le_of_ble_eq_true rfl, Nat.le_of_ble_eq_true rfl⟩ rfl rfl rfl hl.1 (Nat.le_of_ble_eq_true rfl) rfl dX5_thrillIn_24 (D_L hD) (fun H locs hP hD hS => ?_)
    have hok := Option.some.inj hok
    subst hok
    exact eWi S hr hlk rfl hP hS (Nat.le_of_ble_eq_true rfl) (Nat.le_of_ble_eq_true rfl) dX5_thrillIn_27
  · have hok := iq hok hc
    refine lv_aload_n hx hb dX5_thrillIn_13 rfl (lv_at hl 0 rfl) ?_
    refine va_get (D := (dC, dI)) (ci := 5) (v := .ref l13) (C := RX5) (T := TX5) (N := 18) hx hb hts inX5 hown hK hP 0 rfl rfl 13 (by decide) (hts _ qf_X5_38) (fun _ h9 => h9) rfl dX5_thrillIn_14 ?_
    refine lv_iload_n hx hb dX5_thrillIn_17 rfl (lv_at hl 1 rfl) ?_
    obtain ⟨hi3, hok⟩ := gd_some hok
    refine va_iald hx hb hK hP 8 0 rfl rfl hi3 dX5_thrillIn_18 ?_
    refine lv_goto (tgt := 27) hx hb dX5_thrillIn_19 (by decide) ?_
    have hok := Option.some.inj hok
    subst hok
    exact eWi S hr hlk rfl hP hS (Nat.le_of_ble_eq_true rfl) (Nat.le_of_ble_eq_true rfl) dX5_thrillIn_27
theorem hd_X5_hourIn : yX5_hourIn.cls = RX5 ∧ yX5_hourIn.cls ≠ "java/lang/invoke/MethodHandle" ∧ yX5_hourIn.cls ≠ "java/lang/invoke/VarHandle" ∧ (parseMethodDescriptor yX5_hourIn.desc).map (fun d => d.parameters.length) = some 1 := by decide +kernel
def p_X5_hourIn (uL : tX5) (a1 : Int32) : Option (Int32 × tX5) :=
  bd (p_X5_isInstalment (uL.1, uL.2.1, uL.2.2.1, (0 : Int32), uL.2.2.2.2) a1) (fun v1 =>
  if v1 = 0 then
    bd (p_X5_fail (uL.1, uL.2.1, uL.2.2.1, (0 : Int32), uL.2.2.2.2) (1 : Int32)) (fun v2 =>
    some (v2.1, v2.2))
  else
    gd a1 108 (
    some ((uL.2.2.2.2.2.2.2.2.2.2.2.2.2.2.2.2.2 a1.toNatClampNeg), (uL.1, uL.2.1, uL.2.2.1, (0 : Int32), uL.2.2.2.2))))
set_option maxHeartbeats 4000000 in
set_option maxRecDepth 100000 in
theorem c_X5_hourIn (l : Launch) (dC : Nat → ClassId) (dI : Nat → Nat → Nat) (cI cZ : ClassId) (l0 l4 l5 l6 l8 l10 l11 l12 l13 l14 l15 l16 : Nat) (sz : Nat) (uL : tX5) (a1 : Int32) {z : (Int32 × tX5)} (hok : p_X5_hourIn uL a1 = some z) : Met l yX5_hourIn (Cond.code yX5_hourIn cX5_hourIn 2 (some .int) :: lw_all) { frames := 2, cells := 0, slots := 0, locals := 43 } (prW (dC, dI) vwCl (TYS cI cZ) ((wX5 cI cZ l0 l4 l5 l6 l8 l10 l11 l12 l13 l14 l15 l16 uL)) sz [.ref l0, .int a1]) (va_Qi (fun (r : Int32) (_ : Unit) => r = z.1) (fun _ t => va_P (dC, dI) vwCl ((wX5 cI cZ l0 l4 l5 l6 l8 l10 l11 l12 l13 l14 l15 l16 z.2)) t.heap) (va_A ((wX5 cI cZ l0 l4 l5 l6 l8 l10 l11 l12 l13 l14 l15 l16 uL)) sz)) 0 0 (va_A ((wX5 cI cZ l0 l4 l5 l6 l8 l10 l11 l12 l13 l14 l15 l16 uL)) sz) := by
  refine oM (by decide) (Nat.le_of_ble_eq_true rfl) ?_
  intro p e s m args below meth c S hr hlk hnm hB ls hl
  have hx := S.1
  have hb := S.2.1
  have hml := S.2.2.1
  have hown : s.vm.findClass RX5 = some m.cls := S.2.2.2.1
  have hts := S.2.2.2.2
  have S : CallFix p m c cX5_hourIn 2 s args lw_all RX5 := S
  have hl : lv_has ls 2 [(0, .ref l0), (1, .int a1)] := hl
  obtain ⟨hsz, hP, hK, hD0⟩ := hB
  subst hsz
  have hD := hD0.self (sz := s.heap.size)
  generalize hAe : va_A ((wX5 cI cZ l0 l4 l5 l6 l8 l10 l11 l12 l13 l14 l15 l16 uL)) s.heap.size = A at hD ⊢
  have hA : ∀ q : Nat, s.heap.size ≤ q → A q := fun q h => by rw [← hAe]; exact Or.inr h
  have hS : va_S A s.heap s.heap [] := va_S.rf
  have hP : va_P (dC, dI) vwCl ((wX5 cI cZ l0 l4 l5 l6 l8 l10 l11 l12 l13 l14 l15 l16 uL)) s.heap := hP
  unfold p_X5_hourIn at hok
  refine lv_aload_n hx hb dX5_hourIn_0 rfl (lv_at hl 0 rfl) ?_
  refine lv_iconst (v := (0 : Int32)) hx hb dX5_hourIn_1 (by decide) ?_
  refine va_put (D := (dC, dI)) (ci := 5) (v := .int (0 : Int32)) (ty := .int) (C := RX5) (T := TX5) (N := 18) hx hb hts inX5 tyX5 tyX5_ok nmX5 hown hK hP hD hS 0 rfl rfl 0 (by decide) (hts _ qf_X5_50) (fun _ h9 => h9) rfl (tyX5_ok 0 (by decide)) rfl rfl (Nat.le_of_ble_eq_true rfl) dX5_hourIn_2 (fun H locs hP _ hS => ?_)
  have hP : va_P (dC, dI) vwCl ((wX5 cI cZ l0 l4 l5 l6 l8 l10 l11 l12 l13 l14 l15 l16 (uL.1, uL.2.1, uL.2.2.1, (0 : Int32), uL.2.2.2.2))) H := hP
  have hD : va_D A ((wX5 cI cZ l0 l4 l5 l6 l8 l10 l11 l12 l13 l14 l15 l16 (uL.1, uL.2.1, uL.2.2.1, (0 : Int32), uL.2.2.2.2))) := D_L hD
  refine lv_aload_n hx hb dX5_hourIn_5 rfl (lv_at hl 0 rfl) ?_
  refine lv_iload_n hx hb dX5_hourIn_6 rfl (lv_at hl 1 rfl) ?_
  obtain ⟨v1, hc1, hok⟩ := bd_some hok
  refine cRVi (ci := 5) (q0 := 0) [.int a1] S hK hP (c_X5_isInstalment l dC dI cI cZ l0 l4 l5 l6 l8 l10 l11 l12 l13 l14 l15 l16 (uL.1, uL.2.1, uL.2.2.1, (0 : Int32), uL.2.2.2.2) a1 hc1) (lw_V qm_X5_140 qi_X5_isInstalment qs_X5_isInstalment qn_X5 qc_X5_isInstalment) hd_X5_isInstalment ⟨rfl, rfl⟩ ⟨Nat.le_of_ble_eq_true rfl, Nat.le_of_ble_eq_true rfl⟩ ⟨Nat.le_of_ble_eq_true rfl, Nat.le_of_ble_eq_true rfl⟩ rfl rfl rfl hl.1 (Nat.le_of_ble_eq_true rfl) rfl dX5_hourIn_7 ?_
  refine lv_if_eq (tgt := 22) hx hb dX5_hourIn_10 (by decide) (fun hc => ?_) (fun hc => ?_)
  · have hok := ip hok hc
    refine lv_aload_n hx hb dX5_hourIn_22 rfl (lv_at hl 0 rfl) ?_
    refine lv_iconst (v := (1 : Int32)) hx hb dX5_hourIn_23 (by decide) ?_
    obtain ⟨v2, hc2, hok⟩ := bd_some hok
    refine cWVi (ci := 5) (q0 := 0) [.int (1 : Int32)] S hK hP hD hS hA (c_X5_fail l dC dI cI cZ l0 l4 l5 l6 l8 l10 l11 l12 l13 l14 l15 l16 _ (uL.1, uL.2.1, uL.2.2.1, (0 : Int32), uL.2.2.2.2) (1 : Int32) hc2) (lw_V qm_X5_112 qi_X5_fail qs_X5_fail qn_X5 qc_X5_fail) hd_X5_fail ⟨rfl, rfl⟩ ⟨Nat.le_of_ble_eq_true rfl, Nat.le_of_ble_eq_true rfl⟩ ⟨Nat.le_of_ble_eq_true rfl, Nat.le_of_ble_eq_true rfl⟩ rfl rfl rfl hl.1 (Nat.le_of_ble_eq_true rfl) rfl dX5_hourIn_24 (D_L hD) (fun H locs hP hD hS => ?_)
    have hok := Option.some.inj hok
    subst hok
    exact eWi S hr hlk rfl hP hS (Nat.le_of_ble_eq_true rfl) (Nat.le_of_ble_eq_true rfl) dX5_hourIn_27
  · have hok := iq hok hc
    refine lv_aload_n hx hb dX5_hourIn_13 rfl (lv_at hl 0 rfl) ?_
    refine va_get (D := (dC, dI)) (ci := 5) (v := .ref l14) (C := RX5) (T := TX5) (N := 18) hx hb hts inX5 hown hK hP 0 rfl rfl 14 (by decide) (hts _ qf_X5_41) (fun _ h9 => h9) rfl dX5_hourIn_14 ?_
    refine lv_iload_n hx hb dX5_hourIn_17 rfl (lv_at hl 1 rfl) ?_
    obtain ⟨hi3, hok⟩ := gd_some hok
    refine va_iald hx hb hK hP 9 0 rfl rfl hi3 dX5_hourIn_18 ?_
    refine lv_goto (tgt := 27) hx hb dX5_hourIn_19 (by decide) ?_
    have hok := Option.some.inj hok
    subst hok
    exact eWi S hr hlk rfl hP hS (Nat.le_of_ble_eq_true rfl) (Nat.le_of_ble_eq_true rfl) dX5_hourIn_27
theorem hd_X5_thrilling : yX5_thrilling.cls = RX5 ∧ yX5_thrilling.cls ≠ "java/lang/invoke/MethodHandle" ∧ yX5_thrilling.cls ≠ "java/lang/invoke/VarHandle" ∧ (parseMethodDescriptor yX5_thrilling.desc).map (fun d => d.parameters.length) = some 0 := by decide +kernel
def p_X5_thrilling_J35 (rec4 : tX5 → Int32 → Int32 → Option Int32) (uL : tX5) (l35_2 : Int32) : Option Int32 :=
  rec4 uL l35_2 (l35_2 + 1)
def p_X5_thrilling_L4 : Nat → tX5 → Int32 → Int32 → Option Int32
  | 0, _, _, _ => none
  | n + 1, uL, l4_1, l4_2 =>
    if (uL.1 8) ≤ l4_2 then
      some l4_1
    else
      if l4_1 = (-1 : Int32) then
        p_X5_thrilling_J35 (p_X5_thrilling_L4 n) uL l4_2
      else
        gd l4_2 108 (
        gd l4_1 108 (
        if (uL.2.2.2.2.2.2.2.2.2.2.2.2.2.2.2.2.1 l4_2.toNatClampNeg) ≤ (uL.2.2.2.2.2.2.2.2.2.2.2.2.2.2.2.2.1 l4_1.toNatClampNeg) then
          (p_X5_thrilling_L4 n) uL l4_1 (l4_2 + 1)
        else
          p_X5_thrilling_J35 (p_X5_thrilling_L4 n) uL l4_2))
def p_X5_thrilling (uL : tX5) : Option Int32 :=
  p_X5_thrilling_L4 200 uL (-1 : Int32) (0 : Int32)
set_option maxHeartbeats 4000000 in
set_option maxRecDepth 100000 in
theorem c_X5_thrilling (l : Launch) (dC : Nat → ClassId) (dI : Nat → Nat → Nat) (cI cZ : ClassId) (l0 l4 l5 l6 l8 l10 l11 l12 l13 l14 l15 l16 : Nat) (uL : tX5) {z : Int32} (hok : p_X5_thrilling uL = some z) : Met l yX5_thrilling (Cond.code yX5_thrilling cX5_thrilling 3 (some .int) :: lw_all) { frames := 0, cells := 0, slots := 0, locals := 0 } (prR (dC, dI) vwCl (TYS cI cZ) ((wX5 cI cZ l0 l4 l5 l6 l8 l10 l11 l12 l13 l14 l15 l16 uL)) [.ref l0]) (vp_Si (fun r => r = z)) 0 0 (fun _ => False) := by
  refine oM (by decide) (Nat.le_of_ble_eq_true rfl) ?_
  intro p e s m args below meth c S hr hlk hnm hB ls hl
  have hx := S.1
  have hb := S.2.1
  have hml := S.2.2.1
  have hown : s.vm.findClass RX5 = some m.cls := S.2.2.2.1
  have hts := S.2.2.2.2
  have S : CallFix p m c cX5_thrilling 3 s args lw_all RX5 := S
  have hl : lv_has ls 3 [(0, .ref l0)] := hl
  obtain ⟨hP, hK⟩ := hB
  have hP : va_P (dC, dI) vwCl ((wX5 cI cZ l0 l4 l5 l6 l8 l10 l11 l12 l13 l14 l15 l16 uL)) s.heap := hP
  have L4 : ∀ n4 : Nat, ∀ (l4_1 : Int32) (l4_2 : Int32) (ls : Array Slot) (hl : lv_has ls 3 [(0, .ref l0), (1, .int l4_1), (2, .int l4_2)]) (hok : p_X5_thrilling_L4 n4 uL l4_1 l4_2 = some z), W p l e { frames := 0, cells := 0, slots := 0, locals := 0 } s m args below meth c s.heap [] 0 0 (MQ below (vp_Si (fun r => r = z)) args s 0 0 (fun _ => False)) (F0 m 4 ls []) := by
    intro n4
    induction n4 with
    | zero =>
      intro l4_1 l4_2 ls hl hok
      rw [p_X5_thrilling_L4] at hok
      cases hok
    | succ n4 ih4 =>
      have J35 : ∀ (l35_2 : Int32) (ls : Array Slot) (hl : lv_has ls 3 [(0, .ref l0), (2, .int l35_2)]) (hok : p_X5_thrilling_J35 (p_X5_thrilling_L4 n4) uL l35_2 = some z), W p l e { frames := 0, cells := 0, slots := 0, locals := 0 } s m args below meth c s.heap [] 0 0 (MQ below (vp_Si (fun r => r = z)) args s 0 0 (fun _ => False)) (F0 m 35 ls []) := by
        intro l35_2 ls hl hok
        unfold p_X5_thrilling_J35 at hok
        refine lv_iload_n hx hb dX5_thrilling_35 rfl (lv_at hl 1 rfl) ?_
        refine lv_istore_n (lv' := [(1, .int l35_2), (0, .ref l0), (2, .int l35_2)]) hx hb dX5_thrilling_36 rfl hl (by decide) rfl (fun ls hl => ?_)
        refine lv_iinc (v := (l35_2 + 1)) (lv' := [(2, .int (l35_2 + 1)), (1, .int l35_2), (0, .ref l0)]) hx hb dX5_thrilling_37 hl (k := 2) rfl rfl (by decide) rfl (fun ls hl => ?_)
        refine lv_goto (tgt := 4) hx hb dX5_thrilling_40 (by decide) ?_
        exact ih4 l35_2 (l35_2 + 1) _ (lv_sub hl [2, 1, 0] rfl) hok
      intro l4_1 l4_2 ls hl hok
      rw [p_X5_thrilling_L4] at hok
      refine lv_iload_n hx hb dX5_thrilling_4 rfl (lv_at hl 2 rfl) ?_
      refine lv_aload_n hx hb dX5_thrilling_5 rfl (lv_at hl 0 rfl) ?_
      refine va_get (D := (dC, dI)) (ci := 5) (v := .ref l15) (C := RX5) (T := TX5) (N := 18) hx hb hts inX5 hown hK hP 0 rfl rfl 15 (by decide) (hts _ qf_X5_44) (fun _ h9 => h9) rfl dX5_thrilling_6 ?_
      refine lv_bipush (v := (8 : Int32)) hx hb dX5_thrilling_9 (by decide) ?_
      refine va_ialdK hx hb hK hP 10 0 rfl rfl (j := 8) (by decide) (vp_inK (by decide)) dX5_thrilling_11 ?_
      refine lv_icmp_ge (tgt := 43) hx hb dX5_thrilling_12 (by decide) (fun hc => ?_) (fun hc => ?_)
      · have hok := ip hok hc
        refine lv_iload_n hx hb dX5_thrilling_43 rfl (lv_at hl 1 rfl) ?_
        exact eRi S hr hlk (Option.some.inj hok) dX5_thrilling_44
      · have hok := iq hok hc
        refine lv_iload_n hx hb dX5_thrilling_15 rfl (lv_at hl 1 rfl) ?_
        refine lv_iconst (v := (-1 : Int32)) hx hb dX5_thrilling_16 (by decide) ?_
        refine lv_icmp_eq (tgt := 35) hx hb dX5_thrilling_17 (by decide) (fun hc => ?_) (fun hc => ?_)
        · have hok := ip hok hc
          exact J35 l4_2 _ (lv_sub hl [0, 2] rfl) hok
        · have hok := iq hok hc
          refine lv_aload_n hx hb dX5_thrilling_20 rfl (lv_at hl 0 rfl) ?_
          refine va_get (D := (dC, dI)) (ci := 5) (v := .ref l13) (C := RX5) (T := TX5) (N := 18) hx hb hts inX5 hown hK hP 0 rfl rfl 13 (by decide) (hts _ qf_X5_38) (fun _ h9 => h9) rfl dX5_thrilling_21 ?_
          refine lv_iload_n hx hb dX5_thrilling_24 rfl (lv_at hl 2 rfl) ?_
          obtain ⟨hi1, hok⟩ := gd_some hok
          refine va_iald hx hb hK hP 8 0 rfl rfl hi1 dX5_thrilling_25 ?_
          refine lv_aload_n hx hb dX5_thrilling_26 rfl (lv_at hl 0 rfl) ?_
          refine va_get (D := (dC, dI)) (ci := 5) (v := .ref l13) (C := RX5) (T := TX5) (N := 18) hx hb hts inX5 hown hK hP 0 rfl rfl 13 (by decide) (hts _ qf_X5_38) (fun _ h9 => h9) rfl dX5_thrilling_27 ?_
          refine lv_iload_n hx hb dX5_thrilling_30 rfl (lv_at hl 1 rfl) ?_
          obtain ⟨hi2, hok⟩ := gd_some hok
          refine va_iald hx hb hK hP 8 0 rfl rfl hi2 dX5_thrilling_31 ?_
          refine lv_icmp_le (tgt := 37) hx hb dX5_thrilling_32 (by decide) (fun hc => ?_) (fun hc => ?_)
          · have hok := ip hok hc
            refine lv_iinc (v := (l4_2 + 1)) (lv' := [(2, .int (l4_2 + 1)), (0, .ref l0), (1, .int l4_1)]) hx hb dX5_thrilling_37 hl (k := 2) rfl rfl (by decide) rfl (fun ls hl => ?_)
            refine lv_goto (tgt := 4) hx hb dX5_thrilling_40 (by decide) ?_
            exact ih4 l4_1 (l4_2 + 1) _ (lv_sub hl [1, 2, 0] rfl) hok
          · have hok := iq hok hc
            exact J35 l4_2 _ (lv_sub hl [0, 2] rfl) hok
  unfold p_X5_thrilling at hok
  refine lv_iconst (v := (-1 : Int32)) hx hb dX5_thrilling_0 (by decide) ?_
  refine lv_istore_n (lv' := [(1, .int (-1 : Int32)), (0, .ref l0)]) hx hb dX5_thrilling_1 rfl hl (by decide) rfl (fun ls hl => ?_)
  refine lv_iconst (v := (0 : Int32)) hx hb dX5_thrilling_2 (by decide) ?_
  refine lv_istore_n (lv' := [(2, .int (0 : Int32)), (1, .int (-1 : Int32)), (0, .ref l0)]) hx hb dX5_thrilling_3 rfl hl (by decide) rfl (fun ls hl => ?_)
  exact L4 200 (-1 : Int32) (0 : Int32) _ (lv_sub hl [2, 1, 0] rfl) hok
theorem hd_X5_mostThrilling : yX5_mostThrilling.cls = RX5 ∧ yX5_mostThrilling.cls ≠ "java/lang/invoke/MethodHandle" ∧ yX5_mostThrilling.cls ≠ "java/lang/invoke/VarHandle" ∧ (parseMethodDescriptor yX5_mostThrilling.desc).map (fun d => d.parameters.length) = some 0 := by decide +kernel
def p_X5_mostThrilling (uL : tX5) : Option (Int32 × tX5) :=
  bd (p_X5_thrilling uL) (fun v1 =>
  bd (p_X5_told uL v1) (fun v2 =>
  some (v2.1, v2.2)))
set_option maxHeartbeats 4000000 in
set_option maxRecDepth 100000 in
theorem c_X5_mostThrilling (l : Launch) (dC : Nat → ClassId) (dI : Nat → Nat → Nat) (cI cZ : ClassId) (l0 l4 l5 l6 l8 l10 l11 l12 l13 l14 l15 l16 : Nat) (sz : Nat) (uL : tX5) {z : (Int32 × tX5)} (hok : p_X5_mostThrilling uL = some z) : Met l yX5_mostThrilling (Cond.code yX5_mostThrilling cX5_mostThrilling 1 (some .int) :: lw_all) { frames := 1, cells := 0, slots := 0, locals := 22 } (prW (dC, dI) vwCl (TYS cI cZ) ((wX5 cI cZ l0 l4 l5 l6 l8 l10 l11 l12 l13 l14 l15 l16 uL)) sz [.ref l0]) (va_Qi (fun (r : Int32) (_ : Unit) => r = z.1) (fun _ t => va_P (dC, dI) vwCl ((wX5 cI cZ l0 l4 l5 l6 l8 l10 l11 l12 l13 l14 l15 l16 z.2)) t.heap) (va_A ((wX5 cI cZ l0 l4 l5 l6 l8 l10 l11 l12 l13 l14 l15 l16 uL)) sz)) 0 0 (va_A ((wX5 cI cZ l0 l4 l5 l6 l8 l10 l11 l12 l13 l14 l15 l16 uL)) sz) := by
  refine oM (by decide) (Nat.le_of_ble_eq_true rfl) ?_
  intro p e s m args below meth c S hr hlk hnm hB ls hl
  have hx := S.1
  have hb := S.2.1
  have hml := S.2.2.1
  have hown : s.vm.findClass RX5 = some m.cls := S.2.2.2.1
  have hts := S.2.2.2.2
  have S : CallFix p m c cX5_mostThrilling 1 s args lw_all RX5 := S
  have hl : lv_has ls 1 [(0, .ref l0)] := hl
  obtain ⟨hsz, hP, hK, hD0⟩ := hB
  subst hsz
  have hD := hD0.self (sz := s.heap.size)
  generalize hAe : va_A ((wX5 cI cZ l0 l4 l5 l6 l8 l10 l11 l12 l13 l14 l15 l16 uL)) s.heap.size = A at hD ⊢
  have hA : ∀ q : Nat, s.heap.size ≤ q → A q := fun q h => by rw [← hAe]; exact Or.inr h
  have hS : va_S A s.heap s.heap [] := va_S.rf
  have hP : va_P (dC, dI) vwCl ((wX5 cI cZ l0 l4 l5 l6 l8 l10 l11 l12 l13 l14 l15 l16 uL)) s.heap := hP
  unfold p_X5_mostThrilling at hok
  refine lv_aload_n hx hb dX5_mostThrilling_0 rfl (lv_at hl 0 rfl) ?_
  refine lv_aload_n hx hb dX5_mostThrilling_1 rfl (lv_at hl 0 rfl) ?_
  obtain ⟨v1, hc1, hok⟩ := bd_some hok
  refine cRVi (ci := 5) (q0 := 0) [] S hK hP (c_X5_thrilling l dC dI cI cZ l0 l4 l5 l6 l8 l10 l11 l12 l13 l14 l15 l16 uL hc1) (lw_V qm_X5_143 qi_X5_thrilling qs_X5_thrilling qn_X5 qc_X5_thrilling) hd_X5_thrilling ⟨rfl, rfl⟩ ⟨Nat.le_of_ble_eq_true rfl, Nat.le_of_ble_eq_true rfl⟩ ⟨Nat.le_of_ble_eq_true rfl, Nat.le_of_ble_eq_true rfl⟩ rfl rfl rfl hl.1 (Nat.le_of_ble_eq_true rfl) rfl dX5_mostThrilling_2 ?_
  obtain ⟨v2, hc2, hok⟩ := bd_some hok
  refine cWVi (ci := 5) (q0 := 0) [.int v1] S hK hP hD hS hA (c_X5_told l dC dI cI cZ l0 l4 l5 l6 l8 l10 l11 l12 l13 l14 l15 l16 _ uL v1 hc2) (lw_V qm_X5_125 qi_X5_told qs_X5_told qn_X5 qc_X5_told) hd_X5_told ⟨rfl, rfl⟩ ⟨Nat.le_of_ble_eq_true rfl, Nat.le_of_ble_eq_true rfl⟩ ⟨Nat.le_of_ble_eq_true rfl, Nat.le_of_ble_eq_true rfl⟩ rfl rfl rfl hl.1 (Nat.le_of_ble_eq_true rfl) rfl dX5_mostThrilling_5 (D_L hD) (fun H locs hP hD hS => ?_)
  have hok := Option.some.inj hok
  subst hok
  exact eWi S hr hlk rfl hP hS (Nat.le_of_ble_eq_true rfl) (Nat.le_of_ble_eq_true rfl) dX5_mostThrilling_8
theorem hd_X5_waits : yX5_waits.cls = RX5 ∧ yX5_waits.cls ≠ "java/lang/invoke/MethodHandle" ∧ yX5_waits.cls ≠ "java/lang/invoke/VarHandle" ∧ (parseMethodDescriptor yX5_waits.desc).map (fun d => d.parameters.length) = some 0 := by decide +kernel
def p_X5_waits_L4 : Nat → tX5 → Int32 → Int32 → Option Int32
  | 0, _, _, _ => none
  | n + 1, uL, l4_1, l4_2 =>
    if (uL.1 8) ≤ l4_2 then
      some l4_1
    else
      gd l4_2 108 (
      gd (l4_2 - (1 : Int32)) 108 (
      (p_X5_waits_L4 n) uL (if l4_1 < ((uL.2.2.2.2.2.2.2.2.2.2.2.2.2.2.2.2.2 l4_2.toNatClampNeg) - (uL.2.2.2.2.2.2.2.2.2.2.2.2.2.2.2.2.2 (l4_2 - (1 : Int32)).toNatClampNeg)) then ((uL.2.2.2.2.2.2.2.2.2.2.2.2.2.2.2.2.2 l4_2.toNatClampNeg) - (uL.2.2.2.2.2.2.2.2.2.2.2.2.2.2.2.2.2 (l4_2 - (1 : Int32)).toNatClampNeg)) else l4_1) (l4_2 + 1)))
def p_X5_waits (uL : tX5) : Option Int32 :=
  p_X5_waits_L4 200 uL (0 : Int32) (1 : Int32)
set_option maxHeartbeats 4000000 in
set_option maxRecDepth 100000 in
theorem c_X5_waits (l : Launch) (dC : Nat → ClassId) (dI : Nat → Nat → Nat) (cI cZ : ClassId) (l0 l4 l5 l6 l8 l10 l11 l12 l13 l14 l15 l16 : Nat) (uL : tX5) {z : Int32} (hok : p_X5_waits uL = some z) : Met l yX5_waits (Cond.code yX5_waits cX5_waits 3 (some .int) :: lw_all) { frames := 1, cells := 0, slots := 0, locals := 21 } (prR (dC, dI) vwCl (TYS cI cZ) ((wX5 cI cZ l0 l4 l5 l6 l8 l10 l11 l12 l13 l14 l15 l16 uL)) [.ref l0]) (vp_Si (fun r => r = z)) 0 0 (fun _ => False) := by
  refine oM (by decide) (Nat.le_of_ble_eq_true rfl) ?_
  intro p e s m args below meth c S hr hlk hnm hB ls hl
  have hx := S.1
  have hb := S.2.1
  have hml := S.2.2.1
  have hown : s.vm.findClass RX5 = some m.cls := S.2.2.2.1
  have hts := S.2.2.2.2
  have S : CallFix p m c cX5_waits 3 s args lw_all RX5 := S
  have hl : lv_has ls 3 [(0, .ref l0)] := hl
  obtain ⟨hP, hK⟩ := hB
  have hP : va_P (dC, dI) vwCl ((wX5 cI cZ l0 l4 l5 l6 l8 l10 l11 l12 l13 l14 l15 l16 uL)) s.heap := hP
  have L4 : ∀ n4 : Nat, ∀ (l4_1 : Int32) (l4_2 : Int32) (ls : Array Slot) (hl : lv_has ls 3 [(0, .ref l0), (1, .int l4_1), (2, .int l4_2)]) (hok : p_X5_waits_L4 n4 uL l4_1 l4_2 = some z), W p l e { frames := 1, cells := 0, slots := 0, locals := 21 } s m args below meth c s.heap [] 0 0 (MQ below (vp_Si (fun r => r = z)) args s 0 0 (fun _ => False)) (F0 m 4 ls []) := by
    intro n4
    induction n4 with
    | zero =>
      intro l4_1 l4_2 ls hl hok
      rw [p_X5_waits_L4] at hok
      cases hok
    | succ n4 ih4 =>
      intro l4_1 l4_2 ls hl hok
      rw [p_X5_waits_L4] at hok
      refine lv_iload_n hx hb dX5_waits_4 rfl (lv_at hl 2 rfl) ?_
      refine lv_aload_n hx hb dX5_waits_5 rfl (lv_at hl 0 rfl) ?_
      refine va_get (D := (dC, dI)) (ci := 5) (v := .ref l15) (C := RX5) (T := TX5) (N := 18) hx hb hts inX5 hown hK hP 0 rfl rfl 15 (by decide) (hts _ qf_X5_44) (fun _ h9 => h9) rfl dX5_waits_6 ?_
      refine lv_bipush (v := (8 : Int32)) hx hb dX5_waits_9 (by decide) ?_
      refine va_ialdK hx hb hK hP 10 0 rfl rfl (j := 8) (by decide) (vp_inK (by decide)) dX5_waits_11 ?_
      refine lv_icmp_ge (tgt := 41) hx hb dX5_waits_12 (by decide) (fun hc => ?_) (fun hc => ?_)
      · have hok := ip hok hc
        refine lv_iload_n hx hb dX5_waits_41 rfl (lv_at hl 1 rfl) ?_
        exact eRi S hr hlk (Option.some.inj hok) dX5_waits_42
      · have hok := iq hok hc
        refine lv_iload_n hx hb dX5_waits_15 rfl (lv_at hl 1 rfl) ?_
        refine lv_aload_n hx hb dX5_waits_16 rfl (lv_at hl 0 rfl) ?_
        refine va_get (D := (dC, dI)) (ci := 5) (v := .ref l14) (C := RX5) (T := TX5) (N := 18) hx hb hts inX5 hown hK hP 0 rfl rfl 14 (by decide) (hts _ qf_X5_41) (fun _ h9 => h9) rfl dX5_waits_17 ?_
        refine lv_iload_n hx hb dX5_waits_20 rfl (lv_at hl 2 rfl) ?_
        obtain ⟨hi1, hok⟩ := gd_some hok
        refine va_iald hx hb hK hP 9 0 rfl rfl hi1 dX5_waits_21 ?_
        refine lv_aload_n hx hb dX5_waits_22 rfl (lv_at hl 0 rfl) ?_
        refine va_get (D := (dC, dI)) (ci := 5) (v := .ref l14) (C := RX5) (T := TX5) (N := 18) hx hb hts inX5 hown hK hP 0 rfl rfl 14 (by decide) (hts _ qf_X5_41) (fun _ h9 => h9) rfl dX5_waits_23 ?_
        refine lv_iload_n hx hb dX5_waits_26 rfl (lv_at hl 2 rfl) ?_
        refine lv_iconst (v := (1 : Int32)) hx hb dX5_waits_27 (by decide) ?_
        refine lv_isub hx hb dX5_waits_28 ?_
        obtain ⟨hi2, hok⟩ := gd_some hok
        refine va_iald hx hb hK hP 9 0 rfl rfl hi2 dX5_waits_29 ?_
        refine lv_isub hx hb dX5_waits_30 ?_
        refine va_mmax hx hb (hml.trans hl.1.symm) hown (hts _ qm_X5_146) (hts _ qt_Math_max) (hts _ qn_Math) (hts _ qc_Math_max) (Nat.le_of_ble_eq_true rfl) (Nat.le_of_ble_eq_true rfl) (Nat.le_of_ble_eq_true rfl) (Nat.le_of_ble_eq_true rfl) dX5_waits_31 ?_
        refine lv_istore_n (lv' := [(1, .int (if l4_1 < ((uL.2.2.2.2.2.2.2.2.2.2.2.2.2.2.2.2.2 l4_2.toNatClampNeg) - (uL.2.2.2.2.2.2.2.2.2.2.2.2.2.2.2.2.2 (l4_2 - (1 : Int32)).toNatClampNeg)) then ((uL.2.2.2.2.2.2.2.2.2.2.2.2.2.2.2.2.2 l4_2.toNatClampNeg) - (uL.2.2.2.2.2.2.2.2.2.2.2.2.2.2.2.2.2 (l4_2 - (1 : Int32)).toNatClampNeg)) else l4_1)), (0, .ref l0), (2, .int l4_2)]) hx hb dX5_waits_34 rfl hl (by decide) rfl (fun ls hl => ?_)
        refine lv_iinc (v := (l4_2 + 1)) (lv' := [(2, .int (l4_2 + 1)), (1, .int (if l4_1 < ((uL.2.2.2.2.2.2.2.2.2.2.2.2.2.2.2.2.2 l4_2.toNatClampNeg) - (uL.2.2.2.2.2.2.2.2.2.2.2.2.2.2.2.2.2 (l4_2 - (1 : Int32)).toNatClampNeg)) then ((uL.2.2.2.2.2.2.2.2.2.2.2.2.2.2.2.2.2 l4_2.toNatClampNeg) - (uL.2.2.2.2.2.2.2.2.2.2.2.2.2.2.2.2.2 (l4_2 - (1 : Int32)).toNatClampNeg)) else l4_1)), (0, .ref l0)]) hx hb dX5_waits_35 hl (k := 2) rfl rfl (by decide) rfl (fun ls hl => ?_)
        refine lv_goto (tgt := 4) hx hb dX5_waits_38 (by decide) ?_
        exact ih4 (if l4_1 < ((uL.2.2.2.2.2.2.2.2.2.2.2.2.2.2.2.2.2 l4_2.toNatClampNeg) - (uL.2.2.2.2.2.2.2.2.2.2.2.2.2.2.2.2.2 (l4_2 - (1 : Int32)).toNatClampNeg)) then ((uL.2.2.2.2.2.2.2.2.2.2.2.2.2.2.2.2.2 l4_2.toNatClampNeg) - (uL.2.2.2.2.2.2.2.2.2.2.2.2.2.2.2.2.2 (l4_2 - (1 : Int32)).toNatClampNeg)) else l4_1) (l4_2 + 1) _ (lv_sub hl [2, 1, 0] rfl) hok
  unfold p_X5_waits at hok
  refine lv_iconst (v := (0 : Int32)) hx hb dX5_waits_0 (by decide) ?_
  refine lv_istore_n (lv' := [(1, .int (0 : Int32)), (0, .ref l0)]) hx hb dX5_waits_1 rfl hl (by decide) rfl (fun ls hl => ?_)
  refine lv_iconst (v := (1 : Int32)) hx hb dX5_waits_2 (by decide) ?_
  refine lv_istore_n (lv' := [(2, .int (1 : Int32)), (1, .int (0 : Int32)), (0, .ref l0)]) hx hb dX5_waits_3 rfl hl (by decide) rfl (fun ls hl => ?_)
  exact L4 200 (0 : Int32) (1 : Int32) _ (lv_sub hl [2, 1, 0] rfl) hok
theorem hd_X5_longestWait : yX5_longestWait.cls = RX5 ∧ yX5_longestWait.cls ≠ "java/lang/invoke/MethodHandle" ∧ yX5_longestWait.cls ≠ "java/lang/invoke/VarHandle" ∧ (parseMethodDescriptor yX5_longestWait.desc).map (fun d => d.parameters.length) = some 0 := by decide +kernel
def p_X5_longestWait (uL : tX5) : Option (Int32 × tX5) :=
  bd (p_X5_waits uL) (fun v1 =>
  bd (p_X5_told uL v1) (fun v2 =>
  some (v2.1, v2.2)))
set_option maxHeartbeats 4000000 in
set_option maxRecDepth 100000 in
theorem c_X5_longestWait (l : Launch) (dC : Nat → ClassId) (dI : Nat → Nat → Nat) (cI cZ : ClassId) (l0 l4 l5 l6 l8 l10 l11 l12 l13 l14 l15 l16 : Nat) (sz : Nat) (uL : tX5) {z : (Int32 × tX5)} (hok : p_X5_longestWait uL = some z) : Met l yX5_longestWait (Cond.code yX5_longestWait cX5_longestWait 1 (some .int) :: lw_all) { frames := 2, cells := 0, slots := 0, locals := 43 } (prW (dC, dI) vwCl (TYS cI cZ) ((wX5 cI cZ l0 l4 l5 l6 l8 l10 l11 l12 l13 l14 l15 l16 uL)) sz [.ref l0]) (va_Qi (fun (r : Int32) (_ : Unit) => r = z.1) (fun _ t => va_P (dC, dI) vwCl ((wX5 cI cZ l0 l4 l5 l6 l8 l10 l11 l12 l13 l14 l15 l16 z.2)) t.heap) (va_A ((wX5 cI cZ l0 l4 l5 l6 l8 l10 l11 l12 l13 l14 l15 l16 uL)) sz)) 0 0 (va_A ((wX5 cI cZ l0 l4 l5 l6 l8 l10 l11 l12 l13 l14 l15 l16 uL)) sz) := by
  refine oM (by decide) (Nat.le_of_ble_eq_true rfl) ?_
  intro p e s m args below meth c S hr hlk hnm hB ls hl
  have hx := S.1
  have hb := S.2.1
  have hml := S.2.2.1
  have hown : s.vm.findClass RX5 = some m.cls := S.2.2.2.1
  have hts := S.2.2.2.2
  have S : CallFix p m c cX5_longestWait 1 s args lw_all RX5 := S
  have hl : lv_has ls 1 [(0, .ref l0)] := hl
  obtain ⟨hsz, hP, hK, hD0⟩ := hB
  subst hsz
  have hD := hD0.self (sz := s.heap.size)
  generalize hAe : va_A ((wX5 cI cZ l0 l4 l5 l6 l8 l10 l11 l12 l13 l14 l15 l16 uL)) s.heap.size = A at hD ⊢
  have hA : ∀ q : Nat, s.heap.size ≤ q → A q := fun q h => by rw [← hAe]; exact Or.inr h
  have hS : va_S A s.heap s.heap [] := va_S.rf
  have hP : va_P (dC, dI) vwCl ((wX5 cI cZ l0 l4 l5 l6 l8 l10 l11 l12 l13 l14 l15 l16 uL)) s.heap := hP
  unfold p_X5_longestWait at hok
  refine lv_aload_n hx hb dX5_longestWait_0 rfl (lv_at hl 0 rfl) ?_
  refine lv_aload_n hx hb dX5_longestWait_1 rfl (lv_at hl 0 rfl) ?_
  obtain ⟨v1, hc1, hok⟩ := bd_some hok
  refine cRVi (ci := 5) (q0 := 0) [] S hK hP (c_X5_waits l dC dI cI cZ l0 l4 l5 l6 l8 l10 l11 l12 l13 l14 l15 l16 uL hc1) (lw_V qm_X5_149 qi_X5_waits qs_X5_waits qn_X5 qc_X5_waits) hd_X5_waits ⟨rfl, rfl⟩ ⟨Nat.le_of_ble_eq_true rfl, Nat.le_of_ble_eq_true rfl⟩ ⟨Nat.le_of_ble_eq_true rfl, Nat.le_of_ble_eq_true rfl⟩ rfl rfl rfl hl.1 (Nat.le_of_ble_eq_true rfl) rfl dX5_longestWait_2 ?_
  obtain ⟨v2, hc2, hok⟩ := bd_some hok
  refine cWVi (ci := 5) (q0 := 0) [.int v1] S hK hP hD hS hA (c_X5_told l dC dI cI cZ l0 l4 l5 l6 l8 l10 l11 l12 l13 l14 l15 l16 _ uL v1 hc2) (lw_V qm_X5_125 qi_X5_told qs_X5_told qn_X5 qc_X5_told) hd_X5_told ⟨rfl, rfl⟩ ⟨Nat.le_of_ble_eq_true rfl, Nat.le_of_ble_eq_true rfl⟩ ⟨Nat.le_of_ble_eq_true rfl, Nat.le_of_ble_eq_true rfl⟩ rfl rfl rfl hl.1 (Nat.le_of_ble_eq_true rfl) rfl dX5_longestWait_5 (D_L hD) (fun H locs hP hD hS => ?_)
  have hok := Option.some.inj hok
  subst hok
  exact eWi S hr hlk rfl hP hS (Nat.le_of_ble_eq_true rfl) (Nat.le_of_ble_eq_true rfl) dX5_longestWait_8
theorem hd_X5_rises : yX5_rises.cls = RX5 ∧ yX5_rises.cls ≠ "java/lang/invoke/MethodHandle" ∧ yX5_rises.cls ≠ "java/lang/invoke/VarHandle" ∧ (parseMethodDescriptor yX5_rises.desc).map (fun d => d.parameters.length) = some 0 := by decide +kernel
def p_X5_rises_J44 (rec4 : tX5 → Int32 → Int32 → Option Int32) (uL : tX5) (l44_2 : Int32) (s44_0 : Int32) (s44_1 : Int32) : Option Int32 :=
  rec4 uL (s44_1 + s44_0) (l44_2 + 1)
def p_X5_rises_L4 : Nat → tX5 → Int32 → Int32 → Option Int32
  | 0, _, _, _ => none
  | n + 1, uL, l4_1, l4_2 =>
    if (uL.1 8) ≤ l4_2 then
      some l4_1
    else
      gd l4_2 108 (
      gd (l4_2 - (1 : Int32)) 108 (
      if ((uL.2.2.2.2.2.2.2.2.2.2.2.2.2.2.2.1 l4_2.toNatClampNeg) / (9 : Int32)) ≤ ((uL.2.2.2.2.2.2.2.2.2.2.2.2.2.2.2.1 (l4_2 - (1 : Int32)).toNatClampNeg) / (9 : Int32)) then
        p_X5_rises_J44 (p_X5_rises_L4 n) uL l4_2 (0 : Int32) l4_1
      else
        p_X5_rises_J44 (p_X5_rises_L4 n) uL l4_2 (1 : Int32) l4_1))
def p_X5_rises (uL : tX5) : Option Int32 :=
  p_X5_rises_L4 200 uL (0 : Int32) (1 : Int32)
set_option maxHeartbeats 4000000 in
set_option maxRecDepth 100000 in
theorem c_X5_rises (l : Launch) (dC : Nat → ClassId) (dI : Nat → Nat → Nat) (cI cZ : ClassId) (l0 l4 l5 l6 l8 l10 l11 l12 l13 l14 l15 l16 : Nat) (uL : tX5) {z : Int32} (hok : p_X5_rises uL = some z) : Met l yX5_rises (Cond.code yX5_rises cX5_rises 3 (some .int) :: lw_all) { frames := 0, cells := 0, slots := 0, locals := 0 } (prR (dC, dI) vwCl (TYS cI cZ) ((wX5 cI cZ l0 l4 l5 l6 l8 l10 l11 l12 l13 l14 l15 l16 uL)) [.ref l0]) (vp_Si (fun r => r = z)) 0 0 (fun _ => False) := by
  refine oM (by decide) (Nat.le_of_ble_eq_true rfl) ?_
  intro p e s m args below meth c S hr hlk hnm hB ls hl
  have hx := S.1
  have hb := S.2.1
  have hml := S.2.2.1
  have hown : s.vm.findClass RX5 = some m.cls := S.2.2.2.1
  have hts := S.2.2.2.2
  have S : CallFix p m c cX5_rises 3 s args lw_all RX5 := S
  have hl : lv_has ls 3 [(0, .ref l0)] := hl
  obtain ⟨hP, hK⟩ := hB
  have hP : va_P (dC, dI) vwCl ((wX5 cI cZ l0 l4 l5 l6 l8 l10 l11 l12 l13 l14 l15 l16 uL)) s.heap := hP
  have L4 : ∀ n4 : Nat, ∀ (l4_1 : Int32) (l4_2 : Int32) (ls : Array Slot) (hl : lv_has ls 3 [(0, .ref l0), (1, .int l4_1), (2, .int l4_2)]) (hok : p_X5_rises_L4 n4 uL l4_1 l4_2 = some z), W p l e { frames := 0, cells := 0, slots := 0, locals := 0 } s m args below meth c s.heap [] 0 0 (MQ below (vp_Si (fun r => r = z)) args s 0 0 (fun _ => False)) (F0 m 4 ls []) := by
    intro n4
    induction n4 with
    | zero =>
      intro l4_1 l4_2 ls hl hok
      rw [p_X5_rises_L4] at hok
      cases hok
    | succ n4 ih4 =>
      have J44 : ∀ (l44_2 : Int32) (s44_0 : Int32) (s44_1 : Int32) (ls : Array Slot) (hl : lv_has ls 3 [(0, .ref l0), (2, .int l44_2)]) (hok : p_X5_rises_J44 (p_X5_rises_L4 n4) uL l44_2 s44_0 s44_1 = some z), W p l e { frames := 0, cells := 0, slots := 0, locals := 0 } s m args below meth c s.heap [] 0 0 (MQ below (vp_Si (fun r => r = z)) args s 0 0 (fun _ => False)) (F0 m 44 ls [.int s44_0, .int s44_1]) := by
        intro l44_2 s44_0 s44_1 ls hl hok
        unfold p_X5_rises_J44 at hok
        refine lv_iadd hx hb dX5_rises_44 ?_
        refine lv_istore_n (lv' := [(1, .int (s44_1 + s44_0)), (0, .ref l0), (2, .int l44_2)]) hx hb dX5_rises_45 rfl hl (by decide) rfl (fun ls hl => ?_)
        refine lv_iinc (v := (l44_2 + 1)) (lv' := [(2, .int (l44_2 + 1)), (1, .int (s44_1 + s44_0)), (0, .ref l0)]) hx hb dX5_rises_46 hl (k := 2) rfl rfl (by decide) rfl (fun ls hl => ?_)
        refine lv_goto (tgt := 4) hx hb dX5_rises_49 (by decide) ?_
        exact ih4 (s44_1 + s44_0) (l44_2 + 1) _ (lv_sub hl [2, 1, 0] rfl) hok
      intro l4_1 l4_2 ls hl hok
      rw [p_X5_rises_L4] at hok
      refine lv_iload_n hx hb dX5_rises_4 rfl (lv_at hl 2 rfl) ?_
      refine lv_aload_n hx hb dX5_rises_5 rfl (lv_at hl 0 rfl) ?_
      refine va_get (D := (dC, dI)) (ci := 5) (v := .ref l15) (C := RX5) (T := TX5) (N := 18) hx hb hts inX5 hown hK hP 0 rfl rfl 15 (by decide) (hts _ qf_X5_44) (fun _ h9 => h9) rfl dX5_rises_6 ?_
      refine lv_bipush (v := (8 : Int32)) hx hb dX5_rises_9 (by decide) ?_
      refine va_ialdK hx hb hK hP 10 0 rfl rfl (j := 8) (by decide) (vp_inK (by decide)) dX5_rises_11 ?_
      refine lv_icmp_ge (tgt := 52) hx hb dX5_rises_12 (by decide) (fun hc => ?_) (fun hc => ?_)
      · have hok := ip hok hc
        refine lv_iload_n hx hb dX5_rises_52 rfl (lv_at hl 1 rfl) ?_
        exact eRi S hr hlk (Option.some.inj hok) dX5_rises_53
      · have hok := iq hok hc
        refine lv_iload_n hx hb dX5_rises_15 rfl (lv_at hl 1 rfl) ?_
        refine lv_aload_n hx hb dX5_rises_16 rfl (lv_at hl 0 rfl) ?_
        refine va_get (D := (dC, dI)) (ci := 5) (v := .ref l12) (C := RX5) (T := TX5) (N := 18) hx hb hts inX5 hown hK hP 0 rfl rfl 12 (by decide) (hts _ qf_X5_35) (fun _ h9 => h9) rfl dX5_rises_17 ?_
        refine lv_iload_n hx hb dX5_rises_20 rfl (lv_at hl 2 rfl) ?_
        obtain ⟨hi1, hok⟩ := gd_some hok
        refine va_iald hx hb hK hP 7 0 rfl rfl hi1 dX5_rises_21 ?_
        refine lv_bipush (v := (9 : Int32)) hx hb dX5_rises_22 (by decide) ?_
        refine lv_idiv hx hb dX5_rises_24 (by decide) ?_
        refine lv_aload_n hx hb dX5_rises_25 rfl (lv_at hl 0 rfl) ?_
        refine va_get (D := (dC, dI)) (ci := 5) (v := .ref l12) (C := RX5) (T := TX5) (N := 18) hx hb hts inX5 hown hK hP 0 rfl rfl 12 (by decide) (hts _ qf_X5_35) (fun _ h9 => h9) rfl dX5_rises_26 ?_
        refine lv_iload_n hx hb dX5_rises_29 rfl (lv_at hl 2 rfl) ?_
        refine lv_iconst (v := (1 : Int32)) hx hb dX5_rises_30 (by decide) ?_
        refine lv_isub hx hb dX5_rises_31 ?_
        obtain ⟨hi2, hok⟩ := gd_some hok
        refine va_iald hx hb hK hP 7 0 rfl rfl hi2 dX5_rises_32 ?_
        refine lv_bipush (v := (9 : Int32)) hx hb dX5_rises_33 (by decide) ?_
        refine lv_idiv hx hb dX5_rises_35 (by decide) ?_
        refine lv_icmp_le (tgt := 43) hx hb dX5_rises_36 (by decide) (fun hc => ?_) (fun hc => ?_)
        · have hok := ip hok hc
          refine lv_iconst (v := (0 : Int32)) hx hb dX5_rises_43 (by decide) ?_
          exact J44 l4_2 (0 : Int32) l4_1 _ (lv_sub hl [0, 2] rfl) hok
        · have hok := iq hok hc
          refine lv_iconst (v := (1 : Int32)) hx hb dX5_rises_39 (by decide) ?_
          refine lv_goto (tgt := 44) hx hb dX5_rises_40 (by decide) ?_
          exact J44 l4_2 (1 : Int32) l4_1 _ (lv_sub hl [0, 2] rfl) hok
  unfold p_X5_rises at hok
  refine lv_iconst (v := (0 : Int32)) hx hb dX5_rises_0 (by decide) ?_
  refine lv_istore_n (lv' := [(1, .int (0 : Int32)), (0, .ref l0)]) hx hb dX5_rises_1 rfl hl (by decide) rfl (fun ls hl => ?_)
  refine lv_iconst (v := (1 : Int32)) hx hb dX5_rises_2 (by decide) ?_
  refine lv_istore_n (lv' := [(2, .int (1 : Int32)), (1, .int (0 : Int32)), (0, .ref l0)]) hx hb dX5_rises_3 rfl hl (by decide) rfl (fun ls hl => ?_)
  exact L4 200 (0 : Int32) (1 : Int32) _ (lv_sub hl [2, 1, 0] rfl) hok
theorem hd_X5_climbs : yX5_climbs.cls = RX5 ∧ yX5_climbs.cls ≠ "java/lang/invoke/MethodHandle" ∧ yX5_climbs.cls ≠ "java/lang/invoke/VarHandle" ∧ (parseMethodDescriptor yX5_climbs.desc).map (fun d => d.parameters.length) = some 0 := by decide +kernel
def p_X5_climbs (uL : tX5) : Option (Int32 × tX5) :=
  bd (p_X5_rises uL) (fun v1 =>
  bd (p_X5_told uL v1) (fun v2 =>
  some (v2.1, v2.2)))
set_option maxHeartbeats 4000000 in
set_option maxRecDepth 100000 in
theorem c_X5_climbs (l : Launch) (dC : Nat → ClassId) (dI : Nat → Nat → Nat) (cI cZ : ClassId) (l0 l4 l5 l6 l8 l10 l11 l12 l13 l14 l15 l16 : Nat) (sz : Nat) (uL : tX5) {z : (Int32 × tX5)} (hok : p_X5_climbs uL = some z) : Met l yX5_climbs (Cond.code yX5_climbs cX5_climbs 1 (some .int) :: lw_all) { frames := 1, cells := 0, slots := 0, locals := 22 } (prW (dC, dI) vwCl (TYS cI cZ) ((wX5 cI cZ l0 l4 l5 l6 l8 l10 l11 l12 l13 l14 l15 l16 uL)) sz [.ref l0]) (va_Qi (fun (r : Int32) (_ : Unit) => r = z.1) (fun _ t => va_P (dC, dI) vwCl ((wX5 cI cZ l0 l4 l5 l6 l8 l10 l11 l12 l13 l14 l15 l16 z.2)) t.heap) (va_A ((wX5 cI cZ l0 l4 l5 l6 l8 l10 l11 l12 l13 l14 l15 l16 uL)) sz)) 0 0 (va_A ((wX5 cI cZ l0 l4 l5 l6 l8 l10 l11 l12 l13 l14 l15 l16 uL)) sz) := by
  refine oM (by decide) (Nat.le_of_ble_eq_true rfl) ?_
  intro p e s m args below meth c S hr hlk hnm hB ls hl
  have hx := S.1
  have hb := S.2.1
  have hml := S.2.2.1
  have hown : s.vm.findClass RX5 = some m.cls := S.2.2.2.1
  have hts := S.2.2.2.2
  have S : CallFix p m c cX5_climbs 1 s args lw_all RX5 := S
  have hl : lv_has ls 1 [(0, .ref l0)] := hl
  obtain ⟨hsz, hP, hK, hD0⟩ := hB
  subst hsz
  have hD := hD0.self (sz := s.heap.size)
  generalize hAe : va_A ((wX5 cI cZ l0 l4 l5 l6 l8 l10 l11 l12 l13 l14 l15 l16 uL)) s.heap.size = A at hD ⊢
  have hA : ∀ q : Nat, s.heap.size ≤ q → A q := fun q h => by rw [← hAe]; exact Or.inr h
  have hS : va_S A s.heap s.heap [] := va_S.rf
  have hP : va_P (dC, dI) vwCl ((wX5 cI cZ l0 l4 l5 l6 l8 l10 l11 l12 l13 l14 l15 l16 uL)) s.heap := hP
  unfold p_X5_climbs at hok
  refine lv_aload_n hx hb dX5_climbs_0 rfl (lv_at hl 0 rfl) ?_
  refine lv_aload_n hx hb dX5_climbs_1 rfl (lv_at hl 0 rfl) ?_
  obtain ⟨v1, hc1, hok⟩ := bd_some hok
  refine cRVi (ci := 5) (q0 := 0) [] S hK hP (c_X5_rises l dC dI cI cZ l0 l4 l5 l6 l8 l10 l11 l12 l13 l14 l15 l16 uL hc1) (lw_V qm_X5_152 qi_X5_rises qs_X5_rises qn_X5 qc_X5_rises) hd_X5_rises ⟨rfl, rfl⟩ ⟨Nat.le_of_ble_eq_true rfl, Nat.le_of_ble_eq_true rfl⟩ ⟨Nat.le_of_ble_eq_true rfl, Nat.le_of_ble_eq_true rfl⟩ rfl rfl rfl hl.1 (Nat.le_of_ble_eq_true rfl) rfl dX5_climbs_2 ?_
  obtain ⟨v2, hc2, hok⟩ := bd_some hok
  refine cWVi (ci := 5) (q0 := 0) [.int v1] S hK hP hD hS hA (c_X5_told l dC dI cI cZ l0 l4 l5 l6 l8 l10 l11 l12 l13 l14 l15 l16 _ uL v1 hc2) (lw_V qm_X5_125 qi_X5_told qs_X5_told qn_X5 qc_X5_told) hd_X5_told ⟨rfl, rfl⟩ ⟨Nat.le_of_ble_eq_true rfl, Nat.le_of_ble_eq_true rfl⟩ ⟨Nat.le_of_ble_eq_true rfl, Nat.le_of_ble_eq_true rfl⟩ rfl rfl rfl hl.1 (Nat.le_of_ble_eq_true rfl) rfl dX5_climbs_5 (D_L hD) (fun H locs hP hD hS => ?_)
  have hok := Option.some.inj hok
  subst hok
  exact eWi S hr hlk rfl hP hS (Nat.le_of_ble_eq_true rfl) (Nat.le_of_ble_eq_true rfl) dX5_climbs_8
