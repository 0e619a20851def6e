theorem hd_X5_readers : yX5_readers.cls = RX5 ∧ yX5_readers.cls ≠ "java/lang/invoke/MethodHandle" ∧ yX5_readers.cls ≠ "java/lang/invoke/VarHandle" ∧ (parseMethodDescriptor yX5_readers.desc).map (fun d => d.parameters.length) = some 0 := by decide +kernel
def p_X5_readers (uL : tX5) : Option (Int32 × tX5) :=
  bd (p_X5_told uL uL.2.2.2.2.2.2.2.2.2.2.1) (fun v1 =>
  some (v1.1, v1.2))
set_option maxHeartbeats 4000000 in
set_option maxRecDepth 100000 in
theorem c_X5_readers (l : Launch) (dC : Nat → ClassId) (dI : Nat → Nat → Nat) (cI cZ : ClassId) (l0 l4 l5 l6 l8 l10 l11 l12 l13 l14 l15 l16 : Nat) (sz : Nat) (uL : tX5) {z : (Int32 × tX5)} (hok : p_X5_readers uL = some z) : Met l yX5_readers (Cond.code yX5_readers cX5_readers 1 (some .int) :: lw_all) { frames := 1, cells := 0, slots := 0, locals := 21 } (prW (dC, dI) vwCl (TYS cI cZ) ((wX5 cI cZ l0 l4 l5 l6 l8 l10 l11 l12 l13 l14 l15 l16 uL)) sz [.ref l0]) (va_Qi (fun (r : Int32) (_ : Unit) => r = z.1) (fun _ t => va_P (dC, dI) vwCl ((wX5 cI cZ l0 l4 l5 l6 l8 l10 l11 l12 l13 l14 l15 l16 z.2)) t.heap) (va_A ((wX5 cI cZ l0 l4 l5 l6 l8 l10 l11 l12 l13 l14 l15 l16 uL)) sz)) 0 0 (va_A ((wX5 cI cZ l0 l4 l5 l6 l8 l10 l11 l12 l13 l14 l15 l16 uL)) sz) := by
  refine oM (by decide) (Nat.le_of_ble_eq_true rfl) ?_
  intro p e s m args below meth c S hr hlk hnm hB ls hl
  have hx := S.1
  have hb := S.2.1
  have hml := S.2.2.1
  have hown : s.vm.findClass RX5 = some m.cls := S.2.2.2.1
  have hts := S.2.2.2.2
  have S : CallFix p m c cX5_readers 1 s args lw_all RX5 := S
  have hl : lv_has ls 1 [(0, .ref l0)] := hl
  obtain ⟨hsz, hP, hK, hD0⟩ := hB
  subst hsz
  have hD := hD0.self (sz := s.heap.size)
  generalize hAe : va_A ((wX5 cI cZ l0 l4 l5 l6 l8 l10 l11 l12 l13 l14 l15 l16 uL)) s.heap.size = A at hD ⊢
  have hA : ∀ q : Nat, s.heap.size ≤ q → A q := fun q h => by rw [← hAe]; exact Or.inr h
  have hS : va_S A s.heap s.heap [] := va_S.rf
  have hP : va_P (dC, dI) vwCl ((wX5 cI cZ l0 l4 l5 l6 l8 l10 l11 l12 l13 l14 l15 l16 uL)) s.heap := hP
  unfold p_X5_readers at hok
  refine lv_aload_n hx hb dX5_readers_0 rfl (lv_at hl 0 rfl) ?_
  refine lv_aload_n hx hb dX5_readers_1 rfl (lv_at hl 0 rfl) ?_
  refine va_get (D := (dC, dI)) (ci := 5) (v := .int uL.2.2.2.2.2.2.2.2.2.2.1) (C := RX5) (T := TX5) (N := 18) hx hb hts inX5 hown hK hP 0 rfl rfl 7 (by decide) (hts _ qf_X5_57) (fun _ h9 => h9) rfl dX5_readers_2 ?_
  obtain ⟨v1, hc1, hok⟩ := bd_some hok
  refine cWVi (ci := 5) (q0 := 0) [.int uL.2.2.2.2.2.2.2.2.2.2.1] S hK hP hD hS hA (c_X5_told l dC dI cI cZ l0 l4 l5 l6 l8 l10 l11 l12 l13 l14 l15 l16 _ uL uL.2.2.2.2.2.2.2.2.2.2.1 hc1) (lw_V qm_X5_125 qi_X5_told qs_X5_told qn_X5 qc_X5_told) hd_X5_told ⟨rfl, rfl⟩ ⟨Nat.le_of_ble_eq_true rfl, Nat.le_of_ble_eq_true rfl⟩ ⟨Nat.le_of_ble_eq_true rfl, Nat.le_of_ble_eq_true rfl⟩ rfl rfl rfl hl.1 (Nat.le_of_ble_eq_true rfl) rfl dX5_readers_5 (D_L hD) (fun H locs hP hD hS => ?_)
  have hok := Option.some.inj hok
  subst hok
  exact eWi S hr hlk rfl hP hS (Nat.le_of_ble_eq_true rfl) (Nat.le_of_ble_eq_true rfl) dX5_readers_8
theorem hd_X5_subscribers : yX5_subscribers.cls = RX5 ∧ yX5_subscribers.cls ≠ "java/lang/invoke/MethodHandle" ∧ yX5_subscribers.cls ≠ "java/lang/invoke/VarHandle" ∧ (parseMethodDescriptor yX5_subscribers.desc).map (fun d => d.parameters.length) = some 0 := by decide +kernel
def p_X5_subscribers (uL : tX5) : Option (Int32 × tX5) :=
  bd (p_X5_ones (uL.1 7)) (fun v1 =>
  bd (p_X5_told uL v1) (fun v2 =>
  some (v2.1, v2.2)))
set_option maxHeartbeats 4000000 in
set_option maxRecDepth 100000 in
theorem c_X5_subscribers (l : Launch) (dC : Nat → ClassId) (dI : Nat → Nat → Nat) (cI cZ : ClassId) (l0 l4 l5 l6 l8 l10 l11 l12 l13 l14 l15 l16 : Nat) (sz : Nat) (uL : tX5) {z : (Int32 × tX5)} (hok : p_X5_subscribers uL = some z) : Met l yX5_subscribers (Cond.code yX5_subscribers cX5_subscribers 1 (some .int) :: lw_all) { frames := 1, cells := 0, slots := 0, locals := 22 } (prW (dC, dI) vwCl (TYS cI cZ) ((wX5 cI cZ l0 l4 l5 l6 l8 l10 l11 l12 l13 l14 l15 l16 uL)) sz [.ref l0]) (va_Qi (fun (r : Int32) (_ : Unit) => r = z.1) (fun _ t => va_P (dC, dI) vwCl ((wX5 cI cZ l0 l4 l5 l6 l8 l10 l11 l12 l13 l14 l15 l16 z.2)) t.heap) (va_A ((wX5 cI cZ l0 l4 l5 l6 l8 l10 l11 l12 l13 l14 l15 l16 uL)) sz)) 0 0 (va_A ((wX5 cI cZ l0 l4 l5 l6 l8 l10 l11 l12 l13 l14 l15 l16 uL)) sz) := by
  refine oM (by decide) (Nat.le_of_ble_eq_true rfl) ?_
  intro p e s m args below meth c S hr hlk hnm hB ls hl
  have hx := S.1
  have hb := S.2.1
  have hml := S.2.2.1
  have hown : s.vm.findClass RX5 = some m.cls := S.2.2.2.1
  have hts := S.2.2.2.2
  have S : CallFix p m c cX5_subscribers 1 s args lw_all RX5 := S
  have hl : lv_has ls 1 [(0, .ref l0)] := hl
  obtain ⟨hsz, hP, hK, hD0⟩ := hB
  subst hsz
  have hD := hD0.self (sz := s.heap.size)
  generalize hAe : va_A ((wX5 cI cZ l0 l4 l5 l6 l8 l10 l11 l12 l13 l14 l15 l16 uL)) s.heap.size = A at hD ⊢
  have hA : ∀ q : Nat, s.heap.size ≤ q → A q := fun q h => by rw [← hAe]; exact Or.inr h
  have hS : va_S A s.heap s.heap [] := va_S.rf
  have hP : va_P (dC, dI) vwCl ((wX5 cI cZ l0 l4 l5 l6 l8 l10 l11 l12 l13 l14 l15 l16 uL)) s.heap := hP
  unfold p_X5_subscribers at hok
  refine lv_aload_n hx hb dX5_subscribers_0 rfl (lv_at hl 0 rfl) ?_
  refine lv_aload_n hx hb dX5_subscribers_1 rfl (lv_at hl 0 rfl) ?_
  refine va_get (D := (dC, dI)) (ci := 5) (v := .ref l15) (C := RX5) (T := TX5) (N := 18) hx hb hts inX5 hown hK hP 0 rfl rfl 15 (by decide) (hts _ qf_X5_44) (fun _ h9 => h9) rfl dX5_subscribers_2 ?_
  refine lv_bipush (v := (7 : Int32)) hx hb dX5_subscribers_5 (by decide) ?_
  refine va_ialdK hx hb hK hP 10 0 rfl rfl (j := 7) (by decide) (vp_inK (by decide)) dX5_subscribers_7 ?_
  obtain ⟨v1, hc1, hok⟩ := bd_some hok
  refine cRSi [.int (uL.1 7)] S hK va_Pnil (c_X5_ones l dC dI cI cZ (uL.1 7) hc1) (lw_S qm_X5_116 qt_X5_ones qn_X5 qc_X5_ones) hd_X5_ones ⟨rfl, rfl⟩ ⟨Nat.le_of_ble_eq_true rfl, Nat.le_of_ble_eq_true rfl⟩ ⟨Nat.le_of_ble_eq_true rfl, Nat.le_of_ble_eq_true rfl⟩ rfl hl.1 (Nat.le_of_ble_eq_true rfl) rfl dX5_subscribers_8 ?_
  obtain ⟨v2, hc2, hok⟩ := bd_some hok
  refine cWVi (ci := 5) (q0 := 0) [.int v1] S hK hP hD hS hA (c_X5_told l dC dI cI cZ l0 l4 l5 l6 l8 l10 l11 l12 l13 l14 l15 l16 _ uL v1 hc2) (lw_V qm_X5_125 qi_X5_told qs_X5_told qn_X5 qc_X5_told) hd_X5_told ⟨rfl, rfl⟩ ⟨Nat.le_of_ble_eq_true rfl, Nat.le_of_ble_eq_true rfl⟩ ⟨Nat.le_of_ble_eq_true rfl, Nat.le_of_ble_eq_true rfl⟩ rfl rfl rfl hl.1 (Nat.le_of_ble_eq_true rfl) rfl dX5_subscribers_11 (D_L hD) (fun H locs hP hD hS => ?_)
  have hok := Option.some.inj hok
  subst hok
  exact eWi S hr hlk rfl hP hS (Nat.le_of_ble_eq_true rfl) (Nat.le_of_ble_eq_true rfl) dX5_subscribers_14
theorem hd_X5_tasteOf : yX5_tasteOf.cls = RX5 ∧ yX5_tasteOf.cls ≠ "java/lang/invoke/MethodHandle" ∧ yX5_tasteOf.cls ≠ "java/lang/invoke/VarHandle" ∧ (parseMethodDescriptor yX5_tasteOf.desc).map (fun d => d.parameters.length) = some 1 := by decide +kernel
def p_X5_tasteOf (uL : tX5) (a1 : Int32) : Option (Int32 × tX5) :=
  bd (p_X5_isReader (uL.1, uL.2.1, uL.2.2.1, (0 : Int32), uL.2.2.2.2) a1) (fun v1 =>
  if v1 = 0 then
    bd (p_X5_fail (uL.1, uL.2.1, uL.2.2.1, (0 : Int32), uL.2.2.2.2) (1 : Int32)) (fun v2 =>
    some (v2.1, v2.2))
  else
    gd a1 8 (
    some ((uL.2.2.2.2.2.2.2.2.2.2.2.1 a1.toNatClampNeg), (uL.1, uL.2.1, uL.2.2.1, (0 : Int32), uL.2.2.2.2))))
set_option maxHeartbeats 4000000 in
set_option maxRecDepth 100000 in
theorem c_X5_tasteOf (l : Launch) (dC : Nat → ClassId) (dI : Nat → Nat → Nat) (cI cZ : ClassId) (l0 l4 l5 l6 l8 l10 l11 l12 l13 l14 l15 l16 : Nat) (sz : Nat) (uL : tX5) (a1 : Int32) {z : (Int32 × tX5)} (hok : p_X5_tasteOf uL a1 = some z) : Met l yX5_tasteOf (Cond.code yX5_tasteOf cX5_tasteOf 2 (some .int) :: lw_all) { frames := 2, cells := 0, slots := 0, locals := 43 } (prW (dC, dI) vwCl (TYS cI cZ) ((wX5 cI cZ l0 l4 l5 l6 l8 l10 l11 l12 l13 l14 l15 l16 uL)) sz [.ref l0, .int a1]) (va_Qi (fun (r : Int32) (_ : Unit) => r = z.1) (fun _ t => va_P (dC, dI) vwCl ((wX5 cI cZ l0 l4 l5 l6 l8 l10 l11 l12 l13 l14 l15 l16 z.2)) t.heap) (va_A ((wX5 cI cZ l0 l4 l5 l6 l8 l10 l11 l12 l13 l14 l15 l16 uL)) sz)) 0 0 (va_A ((wX5 cI cZ l0 l4 l5 l6 l8 l10 l11 l12 l13 l14 l15 l16 uL)) sz) := by
  refine oM (by decide) (Nat.le_of_ble_eq_true rfl) ?_
  intro p e s m args below meth c S hr hlk hnm hB ls hl
  have hx := S.1
  have hb := S.2.1
  have hml := S.2.2.1
  have hown : s.vm.findClass RX5 = some m.cls := S.2.2.2.1
  have hts := S.2.2.2.2
  have S : CallFix p m c cX5_tasteOf 2 s args lw_all RX5 := S
  have hl : lv_has ls 2 [(0, .ref l0), (1, .int a1)] := hl
  obtain ⟨hsz, hP, hK, hD0⟩ := hB
  subst hsz
  have hD := hD0.self (sz := s.heap.size)
  generalize hAe : va_A ((wX5 cI cZ l0 l4 l5 l6 l8 l10 l11 l12 l13 l14 l15 l16 uL)) s.heap.size = A at hD ⊢
  have hA : ∀ q : Nat, s.heap.size ≤ q → A q := fun q h => by rw [← hAe]; exact Or.inr h
  have hS : va_S A s.heap s.heap [] := va_S.rf
  have hP : va_P (dC, dI) vwCl ((wX5 cI cZ l0 l4 l5 l6 l8 l10 l11 l12 l13 l14 l15 l16 uL)) s.heap := hP
  unfold p_X5_tasteOf at hok
  refine lv_aload_n hx hb dX5_tasteOf_0 rfl (lv_at hl 0 rfl) ?_
  refine lv_iconst (v := (0 : Int32)) hx hb dX5_tasteOf_1 (by decide) ?_
  refine va_put (D := (dC, dI)) (ci := 5) (v := .int (0 : Int32)) (ty := .int) (C := RX5) (T := TX5) (N := 18) hx hb hts inX5 tyX5 tyX5_ok nmX5 hown hK hP hD hS 0 rfl rfl 0 (by decide) (hts _ qf_X5_50) (fun _ h9 => h9) rfl (tyX5_ok 0 (by decide)) rfl rfl (Nat.le_of_ble_eq_true rfl) dX5_tasteOf_2 (fun H locs hP _ hS => ?_)
  have hP : va_P (dC, dI) vwCl ((wX5 cI cZ l0 l4 l5 l6 l8 l10 l11 l12 l13 l14 l15 l16 (uL.1, uL.2.1, uL.2.2.1, (0 : Int32), uL.2.2.2.2))) H := hP
  have hD : va_D A ((wX5 cI cZ l0 l4 l5 l6 l8 l10 l11 l12 l13 l14 l15 l16 (uL.1, uL.2.1, uL.2.2.1, (0 : Int32), uL.2.2.2.2))) := D_L hD
  refine lv_aload_n hx hb dX5_tasteOf_5 rfl (lv_at hl 0 rfl) ?_
  refine lv_iload_n hx hb dX5_tasteOf_6 rfl (lv_at hl 1 rfl) ?_
  obtain ⟨v1, hc1, hok⟩ := bd_some hok
  refine cRVi (ci := 5) (q0 := 0) [.int a1] S hK hP (c_X5_isReader l dC dI cI cZ l0 l4 l5 l6 l8 l10 l11 l12 l13 l14 l15 l16 (uL.1, uL.2.1, uL.2.2.1, (0 : Int32), uL.2.2.2.2) a1 hc1) (lw_V qm_X5_155 qi_X5_isReader qs_X5_isReader qn_X5 qc_X5_isReader) hd_X5_isReader ⟨rfl, rfl⟩ ⟨Nat.le_of_ble_eq_true rfl, Nat.le_of_ble_eq_true rfl⟩ ⟨Nat.le_of_ble_eq_true rfl, Nat.le_of_ble_eq_true rfl⟩ rfl rfl rfl hl.1 (Nat.le_of_ble_eq_true rfl) rfl dX5_tasteOf_7 ?_
  refine lv_if_eq (tgt := 22) hx hb dX5_tasteOf_10 (by decide) (fun hc => ?_) (fun hc => ?_)
  · have hok := ip hok hc
    refine lv_aload_n hx hb dX5_tasteOf_22 rfl (lv_at hl 0 rfl) ?_
    refine lv_iconst (v := (1 : Int32)) hx hb dX5_tasteOf_23 (by decide) ?_
    obtain ⟨v2, hc2, hok⟩ := bd_some hok
    refine cWVi (ci := 5) (q0 := 0) [.int (1 : Int32)] S hK hP hD hS hA (c_X5_fail l dC dI cI cZ l0 l4 l5 l6 l8 l10 l11 l12 l13 l14 l15 l16 _ (uL.1, uL.2.1, uL.2.2.1, (0 : Int32), uL.2.2.2.2) (1 : Int32) hc2) (lw_V qm_X5_112 qi_X5_fail qs_X5_fail qn_X5 qc_X5_fail) hd_X5_fail ⟨rfl, rfl⟩ ⟨Nat.le_of_ble_eq_true rfl, Nat.le_of_ble_eq_true rfl⟩ ⟨Nat.le_of_ble_eq_true rfl, Nat.le_of_ble_eq_true rfl⟩ rfl rfl rfl hl.1 (Nat.le_of_ble_eq_true rfl) rfl dX5_tasteOf_24 (D_L hD) (fun H locs hP hD hS => ?_)
    have hok := Option.some.inj hok
    subst hok
    exact eWi S hr hlk rfl hP hS (Nat.le_of_ble_eq_true rfl) (Nat.le_of_ble_eq_true rfl) dX5_tasteOf_27
  · have hok := iq hok hc
    refine lv_aload_n hx hb dX5_tasteOf_13 rfl (lv_at hl 0 rfl) ?_
    refine va_get (D := (dC, dI)) (ci := 5) (v := .ref l8) (C := RX5) (T := TX5) (N := 18) hx hb hts inX5 hown hK hP 0 rfl rfl 8 (by decide) (hts _ qf_X5_26) (fun _ h9 => h9) rfl dX5_tasteOf_14 ?_
    refine lv_iload_n hx hb dX5_tasteOf_17 rfl (lv_at hl 1 rfl) ?_
    obtain ⟨hi3, hok⟩ := gd_some hok
    refine va_iald hx hb hK hP 4 0 rfl rfl hi3 dX5_tasteOf_18 ?_
    refine lv_goto (tgt := 27) hx hb dX5_tasteOf_19 (by decide) ?_
    have hok := Option.some.inj hok
    subst hok
    exact eWi S hr hlk rfl hP hS (Nat.le_of_ble_eq_true rfl) (Nat.le_of_ble_eq_true rfl) dX5_tasteOf_27
theorem hd_X5_warm : yX5_warm.cls = RX5 ∧ yX5_warm.cls ≠ "java/lang/invoke/MethodHandle" ∧ yX5_warm.cls ≠ "java/lang/invoke/VarHandle" ∧ (parseMethodDescriptor yX5_warm.desc).map (fun d => d.parameters.length) = some 1 := by decide +kernel
def p_X5_warm (uL : tX5) (a1 : Int32) : Option Int32 :=
  bd (p_X5_reads uL a1) (fun v1 =>
  if v1 = 0 then
    some (0 : Int32)
  else
    gd ((33 : Int32) + a1) 41 (
    some (uL.1 ((33 : Int32) + a1).toNatClampNeg)))
set_option maxHeartbeats 4000000 in
set_option maxRecDepth 100000 in
theorem c_X5_warm (l : Launch) (dC : Nat → ClassId) (dI : Nat → Nat → Nat) (cI cZ : ClassId) (l0 l4 l5 l6 l8 l10 l11 l12 l13 l14 l15 l16 : Nat) (uL : tX5) (a1 : Int32) {z : Int32} (hok : p_X5_warm uL a1 = some z) : Met l yX5_warm (Cond.code yX5_warm cX5_warm 2 (some .int) :: lw_all) { frames := 2, cells := 0, slots := 0, locals := 42 } (prR (dC, dI) vwCl (TYS cI cZ) ((wX5 cI cZ l0 l4 l5 l6 l8 l10 l11 l12 l13 l14 l15 l16 uL)) [.ref l0, .int a1]) (vp_Si (fun r => r = z)) 0 0 (fun _ => False) := by
  refine oM (by decide) (Nat.le_of_ble_eq_true rfl) ?_
  intro p e s m args below meth c S hr hlk hnm hB ls hl
  have hx := S.1
  have hb := S.2.1
  have hml := S.2.2.1
  have hown : s.vm.findClass RX5 = some m.cls := S.2.2.2.1
  have hts := S.2.2.2.2
  have S : CallFix p m c cX5_warm 2 s args lw_all RX5 := S
  have hl : lv_has ls 2 [(0, .ref l0), (1, .int a1)] := hl
  obtain ⟨hP, hK⟩ := hB
  have hP : va_P (dC, dI) vwCl ((wX5 cI cZ l0 l4 l5 l6 l8 l10 l11 l12 l13 l14 l15 l16 uL)) s.heap := hP
  unfold p_X5_warm at hok
  refine lv_aload_n hx hb dX5_warm_0 rfl (lv_at hl 0 rfl) ?_
  refine lv_iload_n hx hb dX5_warm_1 rfl (lv_at hl 1 rfl) ?_
  obtain ⟨v1, hc1, hok⟩ := bd_some hok
  refine cRVi (ci := 5) (q0 := 0) [.int a1] S hK hP (c_X5_reads l dC dI cI cZ l0 l4 l5 l6 l8 l10 l11 l12 l13 l14 l15 l16 uL a1 hc1) (lw_V qm_X5_73 qi_X5_reads qs_X5_reads qn_X5 qc_X5_reads) hd_X5_reads ⟨rfl, rfl⟩ ⟨Nat.le_of_ble_eq_true rfl, Nat.le_of_ble_eq_true rfl⟩ ⟨Nat.le_of_ble_eq_true rfl, Nat.le_of_ble_eq_true rfl⟩ rfl rfl rfl hl.1 (Nat.le_of_ble_eq_true rfl) rfl dX5_warm_2 ?_
  refine lv_if_eq (tgt := 20) hx hb dX5_warm_5 (by decide) (fun hc => ?_) (fun hc => ?_)
  · have hok := ip hok hc
    refine lv_iconst (v := (0 : Int32)) hx hb dX5_warm_20 (by decide) ?_
    exact eRi S hr hlk (Option.some.inj hok) dX5_warm_21
  · have hok := iq hok hc
    refine lv_aload_n hx hb dX5_warm_8 rfl (lv_at hl 0 rfl) ?_
    refine va_get (D := (dC, dI)) (ci := 5) (v := .ref l15) (C := RX5) (T := TX5) (N := 18) hx hb hts inX5 hown hK hP 0 rfl rfl 15 (by decide) (hts _ qf_X5_44) (fun _ h9 => h9) rfl dX5_warm_9 ?_
    refine lv_bipush (v := (33 : Int32)) hx hb dX5_warm_12 (by decide) ?_
    refine lv_iload_n hx hb dX5_warm_14 rfl (lv_at hl 1 rfl) ?_
    refine lv_iadd hx hb dX5_warm_15 ?_
    obtain ⟨hi2, hok⟩ := gd_some hok
    refine va_iald hx hb hK hP 10 0 rfl rfl hi2 dX5_warm_16 ?_
    refine lv_goto (tgt := 21) hx hb dX5_warm_17 (by decide) ?_
    exact eRi S hr hlk (Option.some.inj hok) dX5_warm_21
theorem hd_X5_warmthOf : yX5_warmthOf.cls = RX5 ∧ yX5_warmthOf.cls ≠ "java/lang/invoke/MethodHandle" ∧ yX5_warmthOf.cls ≠ "java/lang/invoke/VarHandle" ∧ (parseMethodDescriptor yX5_warmthOf.desc).map (fun d => d.parameters.length) = some 1 := by decide +kernel
def p_X5_warmthOf (uL : tX5) (a1 : Int32) : Option (Int32 × tX5) :=
  bd (p_X5_isReader (uL.1, uL.2.1, uL.2.2.1, (0 : Int32), uL.2.2.2.2) a1) (fun v1 =>
  if v1 = 0 then
    bd (p_X5_fail (uL.1, uL.2.1, uL.2.2.1, (0 : Int32), uL.2.2.2.2) (1 : Int32)) (fun v2 =>
    some (v2.1, v2.2))
  else
    bd (p_X5_warm (uL.1, uL.2.1, uL.2.2.1, (0 : Int32), uL.2.2.2.2) a1) (fun v3 =>
    some (v3, (uL.1, uL.2.1, uL.2.2.1, (0 : Int32), uL.2.2.2.2))))
set_option maxHeartbeats 4000000 in
set_option maxRecDepth 100000 in
theorem c_X5_warmthOf (l : Launch) (dC : Nat → ClassId) (dI : Nat → Nat → Nat) (cI cZ : ClassId) (l0 l4 l5 l6 l8 l10 l11 l12 l13 l14 l15 l16 : Nat) (sz : Nat) (uL : tX5) (a1 : Int32) {z : (Int32 × tX5)} (hok : p_X5_warmthOf uL a1 = some z) : Met l yX5_warmthOf (Cond.code yX5_warmthOf cX5_warmthOf 2 (some .int) :: lw_all) { frames := 3, cells := 0, slots := 0, locals := 63 } (prW (dC, dI) vwCl (TYS cI cZ) ((wX5 cI cZ l0 l4 l5 l6 l8 l10 l11 l12 l13 l14 l15 l16 uL)) sz [.ref l0, .int a1]) (va_Qi (fun (r : Int32) (_ : Unit) => r = z.1) (fun _ t => va_P (dC, dI) vwCl ((wX5 cI cZ l0 l4 l5 l6 l8 l10 l11 l12 l13 l14 l15 l16 z.2)) t.heap) (va_A ((wX5 cI cZ l0 l4 l5 l6 l8 l10 l11 l12 l13 l14 l15 l16 uL)) sz)) 0 0 (va_A ((wX5 cI cZ l0 l4 l5 l6 l8 l10 l11 l12 l13 l14 l15 l16 uL)) sz) := by
  refine oM (by decide) (Nat.le_of_ble_eq_true rfl) ?_
  intro p e s m args below meth c S hr hlk hnm hB ls hl
  have hx := S.1
  have hb := S.2.1
  have hml := S.2.2.1
  have hown : s.vm.findClass RX5 = some m.cls := S.2.2.2.1
  have hts := S.2.2.2.2
  have S : CallFix p m c cX5_warmthOf 2 s args lw_all RX5 := S
  have hl : lv_has ls 2 [(0, .ref l0), (1, .int a1)] := hl
  obtain ⟨hsz, hP, hK, hD0⟩ := hB
  subst hsz
  have hD := hD0.self (sz := s.heap.size)
  generalize hAe : va_A ((wX5 cI cZ l0 l4 l5 l6 l8 l10 l11 l12 l13 l14 l15 l16 uL)) s.heap.size = A at hD ⊢
  have hA : ∀ q : Nat, s.heap.size ≤ q → A q := fun q h => by rw [← hAe]; exact Or.inr h
  have hS : va_S A s.heap s.heap [] := va_S.rf
  have hP : va_P (dC, dI) vwCl ((wX5 cI cZ l0 l4 l5 l6 l8 l10 l11 l12 l13 l14 l15 l16 uL)) s.heap := hP
  unfold p_X5_warmthOf at hok
  refine lv_aload_n hx hb dX5_warmthOf_0 rfl (lv_at hl 0 rfl) ?_
  refine lv_iconst (v := (0 : Int32)) hx hb dX5_warmthOf_1 (by decide) ?_
  refine va_put (D := (dC, dI)) (ci := 5) (v := .int (0 : Int32)) (ty := .int) (C := RX5) (T := TX5) (N := 18) hx hb hts inX5 tyX5 tyX5_ok nmX5 hown hK hP hD hS 0 rfl rfl 0 (by decide) (hts _ qf_X5_50) (fun _ h9 => h9) rfl (tyX5_ok 0 (by decide)) rfl rfl (Nat.le_of_ble_eq_true rfl) dX5_warmthOf_2 (fun H locs hP _ hS => ?_)
  have hP : va_P (dC, dI) vwCl ((wX5 cI cZ l0 l4 l5 l6 l8 l10 l11 l12 l13 l14 l15 l16 (uL.1, uL.2.1, uL.2.2.1, (0 : Int32), uL.2.2.2.2))) H := hP
  have hD : va_D A ((wX5 cI cZ l0 l4 l5 l6 l8 l10 l11 l12 l13 l14 l15 l16 (uL.1, uL.2.1, uL.2.2.1, (0 : Int32), uL.2.2.2.2))) := D_L hD
  refine lv_aload_n hx hb dX5_warmthOf_5 rfl (lv_at hl 0 rfl) ?_
  refine lv_iload_n hx hb dX5_warmthOf_6 rfl (lv_at hl 1 rfl) ?_
  obtain ⟨v1, hc1, hok⟩ := bd_some hok
  refine cRVi (ci := 5) (q0 := 0) [.int a1] S hK hP (c_X5_isReader l dC dI cI cZ l0 l4 l5 l6 l8 l10 l11 l12 l13 l14 l15 l16 (uL.1, uL.2.1, uL.2.2.1, (0 : Int32), uL.2.2.2.2) a1 hc1) (lw_V qm_X5_155 qi_X5_isReader qs_X5_isReader qn_X5 qc_X5_isReader) hd_X5_isReader ⟨rfl, rfl⟩ ⟨Nat.le_of_ble_eq_true rfl, Nat.le_of_ble_eq_true rfl⟩ ⟨Nat.le_of_ble_eq_true rfl, Nat.le_of_ble_eq_true rfl⟩ rfl rfl rfl hl.1 (Nat.le_of_ble_eq_true rfl) rfl dX5_warmthOf_7 ?_
  refine lv_if_eq (tgt := 21) hx hb dX5_warmthOf_10 (by decide) (fun hc => ?_) (fun hc => ?_)
  · have hok := ip hok hc
    refine lv_aload_n hx hb dX5_warmthOf_21 rfl (lv_at hl 0 rfl) ?_
    refine lv_iconst (v := (1 : Int32)) hx hb dX5_warmthOf_22 (by decide) ?_
    obtain ⟨v2, hc2, hok⟩ := bd_some hok
    refine cWVi (ci := 5) (q0 := 0) [.int (1 : Int32)] S hK hP hD hS hA (c_X5_fail l dC dI cI cZ l0 l4 l5 l6 l8 l10 l11 l12 l13 l14 l15 l16 _ (uL.1, uL.2.1, uL.2.2.1, (0 : Int32), uL.2.2.2.2) (1 : Int32) hc2) (lw_V qm_X5_112 qi_X5_fail qs_X5_fail qn_X5 qc_X5_fail) hd_X5_fail ⟨rfl, rfl⟩ ⟨Nat.le_of_ble_eq_true rfl, Nat.le_of_ble_eq_true rfl⟩ ⟨Nat.le_of_ble_eq_true rfl, Nat.le_of_ble_eq_true rfl⟩ rfl rfl rfl hl.1 (Nat.le_of_ble_eq_true rfl) rfl dX5_warmthOf_23 (D_L hD) (fun H locs hP hD hS => ?_)
    have hok := Option.some.inj hok
    subst hok
    exact eWi S hr hlk rfl hP hS (Nat.le_of_ble_eq_true rfl) (Nat.le_of_ble_eq_true rfl) dX5_warmthOf_26
  · have hok := iq hok hc
    refine lv_aload_n hx hb dX5_warmthOf_13 rfl (lv_at hl 0 rfl) ?_
    refine lv_iload_n hx hb dX5_warmthOf_14 rfl (lv_at hl 1 rfl) ?_
    obtain ⟨v3, hc3, hok⟩ := bd_some hok
    refine cRVi (ci := 5) (q0 := 0) [.int a1] S hK hP (c_X5_warm l dC dI cI cZ l0 l4 l5 l6 l8 l10 l11 l12 l13 l14 l15 l16 (uL.1, uL.2.1, uL.2.2.1, (0 : Int32), uL.2.2.2.2) a1 hc3) (lw_V qm_X5_158 qi_X5_warm qs_X5_warm qn_X5 qc_X5_warm) hd_X5_warm ⟨rfl, rfl⟩ ⟨Nat.le_of_ble_eq_true rfl, Nat.le_of_ble_eq_true rfl⟩ ⟨Nat.le_of_ble_eq_true rfl, Nat.le_of_ble_eq_true rfl⟩ rfl rfl rfl hl.1 (Nat.le_of_ble_eq_true rfl) rfl dX5_warmthOf_15 ?_
    refine lv_goto (tgt := 26) hx hb dX5_warmthOf_18 (by decide) ?_
    have hok := Option.some.inj hok
    subst hok
    exact eWi S hr hlk rfl hP hS (Nat.le_of_ble_eq_true rfl) (Nat.le_of_ble_eq_true rfl) dX5_warmthOf_26
theorem hd_X5_isSubscriber : yX5_isSubscriber.cls = RX5 ∧ yX5_isSubscriber.cls ≠ "java/lang/invoke/MethodHandle" ∧ yX5_isSubscriber.cls ≠ "java/lang/invoke/VarHandle" ∧ (parseMethodDescriptor yX5_isSubscriber.desc).map (fun d => d.parameters.length) = some 1 := by decide +kernel
def p_X5_isSubscriber_J14 (uL : tX5) (l14_1 : Int32) (s14_0 : Int32) : Option (Int32 × tX5) :=
  if s14_0 = 0 then
    bd (p_X5_reads (uL.1, uL.2.1, uL.2.2.1, s14_0, uL.2.2.2.2) l14_1) (fun v2 =>
    if v2 = 0 then
      some ((0 : Int32), (uL.1, uL.2.1, uL.2.2.1, s14_0, uL.2.2.2.2))
    else
      some ((1 : Int32), (uL.1, uL.2.1, uL.2.2.1, s14_0, uL.2.2.2.2)))
  else
    some ((0 : Int32), (uL.1, uL.2.1, uL.2.2.1, s14_0, uL.2.2.2.2))
def p_X5_isSubscriber (uL : tX5) (a1 : Int32) : Option (Int32 × tX5) :=
  bd (p_X5_isReader uL a1) (fun v1 =>
  if v1 = 0 then
    p_X5_isSubscriber_J14 uL a1 (1 : Int32)
  else
    p_X5_isSubscriber_J14 uL a1 (0 : Int32))
set_option maxHeartbeats 4000000 in
set_option maxRecDepth 100000 in
theorem c_X5_isSubscriber (l : Launch) (dC : Nat → ClassId) (dI : Nat → Nat → Nat) (cI cZ : ClassId) (l0 l4 l5 l6 l8 l10 l11 l12 l13 l14 l15 l16 : Nat) (sz : Nat) (uL : tX5) (a1 : Int32) {z : (Int32 × tX5)} (hok : p_X5_isSubscriber uL a1 = some z) : Met l yX5_isSubscriber (Cond.code yX5_isSubscriber cX5_isSubscriber 2 (some .boolean) :: lw_all) { frames := 2, cells := 0, slots := 0, locals := 43 } (prW (dC, dI) vwCl (TYS cI cZ) ((wX5 cI cZ l0 l4 l5 l6 l8 l10 l11 l12 l13 l14 l15 l16 uL)) sz [.ref l0, .int a1]) (va_Qi (fun (r : Int32) (_ : Unit) => r = z.1) (fun _ t => va_P (dC, dI) vwCl ((wX5 cI cZ l0 l4 l5 l6 l8 l10 l11 l12 l13 l14 l15 l16 z.2)) t.heap) (va_A ((wX5 cI cZ l0 l4 l5 l6 l8 l10 l11 l12 l13 l14 l15 l16 uL)) sz)) 0 0 (va_A ((wX5 cI cZ l0 l4 l5 l6 l8 l10 l11 l12 l13 l14 l15 l16 uL)) sz) := by
  refine oM (by decide) (Nat.le_of_ble_eq_true rfl) ?_
  intro p e s m args below meth c S hr hlk hnm hB ls hl
  have hx := S.1
  have hb := S.2.1
  have hml := S.2.2.1
  have hown : s.vm.findClass RX5 = some m.cls := S.2.2.2.1
  have hts := S.2.2.2.2
  have S : CallFix p m c cX5_isSubscriber 2 s args lw_all RX5 := S
  have hl : lv_has ls 2 [(0, .ref l0), (1, .int a1)] := hl
  obtain ⟨hsz, hP, hK, hD0⟩ := hB
  subst hsz
  have hD := hD0.self (sz := s.heap.size)
  generalize hAe : va_A ((wX5 cI cZ l0 l4 l5 l6 l8 l10 l11 l12 l13 l14 l15 l16 uL)) s.heap.size = A at hD ⊢
  have hA : ∀ q : Nat, s.heap.size ≤ q → A q := fun q h => by rw [← hAe]; exact Or.inr h
  have hS : va_S A s.heap s.heap [] := va_S.rf
  have hP : va_P (dC, dI) vwCl ((wX5 cI cZ l0 l4 l5 l6 l8 l10 l11 l12 l13 l14 l15 l16 uL)) s.heap := hP
  have J14 : ∀ (uL : tX5) (l14_1 : Int32) (s14_0 : Int32) (H : Heap) (locs : List Loc) (hP : va_P (dC, dI) vwCl ((wX5 cI cZ l0 l4 l5 l6 l8 l10 l11 l12 l13 l14 l15 l16 uL)) H) (hD : va_D A ((wX5 cI cZ l0 l4 l5 l6 l8 l10 l11 l12 l13 l14 l15 l16 uL))) (hS : va_S A s.heap H locs) (ls : Array Slot) (hl : lv_has ls 2 [(0, .ref l0), (1, .int l14_1)]) (hok : p_X5_isSubscriber_J14 uL l14_1 s14_0 = some z), W p l e { frames := 2, cells := 0, slots := 0, locals := 43 } s m args below meth c H locs 0 0 (MQ below (va_Qi (fun (r : Int32) (_ : Unit) => r = z.1) (fun _ t => va_P (dC, dI) vwCl ((wX5 cI cZ l0 l4 l5 l6 l8 l10 l11 l12 l13 l14 l15 l16 z.2)) t.heap) A) args s 0 0 A) (F0 m 14 ls [.int s14_0, .ref l0]) := by
    intro uL l14_1 s14_0 H locs hP hD hS ls hl hok
    unfold p_X5_isSubscriber_J14 at hok
    refine va_put (D := (dC, dI)) (ci := 5) (v := .int s14_0) (ty := .int) (C := RX5) (T := TX5) (N := 18) hx hb hts inX5 tyX5 tyX5_ok nmX5 hown hK hP hD hS 0 rfl rfl 0 (by decide) (hts _ qf_X5_50) (fun _ h9 => h9) rfl (tyX5_ok 0 (by decide)) rfl rfl (Nat.le_of_ble_eq_true rfl) dX5_isSubscriber_14 (fun H locs hP _ hS => ?_)
    have hP : va_P (dC, dI) vwCl ((wX5 cI cZ l0 l4 l5 l6 l8 l10 l11 l12 l13 l14 l15 l16 (uL.1, uL.2.1, uL.2.2.1, s14_0, uL.2.2.2.2))) H := hP
    have hD : va_D A ((wX5 cI cZ l0 l4 l5 l6 l8 l10 l11 l12 l13 l14 l15 l16 (uL.1, uL.2.1, uL.2.2.1, s14_0, uL.2.2.2.2))) := D_L hD
    refine lv_aload_n hx hb dX5_isSubscriber_17 rfl (lv_at hl 0 rfl) ?_
    refine va_get (D := (dC, dI)) (ci := 5) (v := .int s14_0) (C := RX5) (T := TX5) (N := 18) hx hb hts inX5 hown hK hP 0 rfl rfl 0 (by decide) (hts _ qf_X5_50) (fun _ h9 => h9) rfl dX5_isSubscriber_18 ?_
    refine lv_if_ne (tgt := 36) hx hb dX5_isSubscriber_21 (by decide) (fun hc => ?_) (fun hc => ?_)
    · have hok := iq hok hc
      refine lv_iconst (v := (0 : Int32)) hx hb dX5_isSubscriber_36 (by decide) ?_
      have hok := Option.some.inj hok
      subst hok
      exact eWz S hr hlk (by decide) rfl hP hS (Nat.le_of_ble_eq_true rfl) (Nat.le_of_ble_eq_true rfl) dX5_isSubscriber_37
    · have hok := ip hok hc
      refine lv_aload_n hx hb dX5_isSubscriber_24 rfl (lv_at hl 0 rfl) ?_
      refine lv_iload_n hx hb dX5_isSubscriber_25 rfl (lv_at hl 1 rfl) ?_
      obtain ⟨v2, hc2, hok⟩ := bd_some hok
      refine cRVi (ci := 5) (q0 := 0) [.int l14_1] S hK hP (c_X5_reads l dC dI cI cZ l0 l4 l5 l6 l8 l10 l11 l12 l13 l14 l15 l16 (uL.1, uL.2.1, uL.2.2.1, s14_0, uL.2.2.2.2) l14_1 hc2) (lw_V qm_X5_73 qi_X5_reads qs_X5_reads qn_X5 qc_X5_reads) hd_X5_reads ⟨rfl, rfl⟩ ⟨Nat.le_of_ble_eq_true rfl, Nat.le_of_ble_eq_true rfl⟩ ⟨Nat.le_of_ble_eq_true rfl, Nat.le_of_ble_eq_true rfl⟩ rfl rfl rfl hl.1 (Nat.le_of_ble_eq_true rfl) rfl dX5_isSubscriber_26 ?_
      refine lv_if_eq (tgt := 36) hx hb dX5_isSubscriber_29 (by decide) (fun hc => ?_) (fun hc => ?_)
      · have hok := ip hok hc
        refine lv_iconst (v := (0 : Int32)) hx hb dX5_isSubscriber_36 (by decide) ?_
        have hok := Option.some.inj hok
        subst hok
        exact eWz S hr hlk (by decide) rfl hP hS (Nat.le_of_ble_eq_true rfl) (Nat.le_of_ble_eq_true rfl) dX5_isSubscriber_37
      · have hok := iq hok hc
        refine lv_iconst (v := (1 : Int32)) hx hb dX5_isSubscriber_32 (by decide) ?_
        refine lv_goto (tgt := 37) hx hb dX5_isSubscriber_33 (by decide) ?_
        have hok := Option.some.inj hok
        subst hok
        exact eWz S hr hlk (by decide) rfl hP hS (Nat.le_of_ble_eq_true rfl) (Nat.le_of_ble_eq_true rfl) dX5_isSubscriber_37
  unfold p_X5_isSubscriber at hok
  refine lv_aload_n hx hb dX5_isSubscriber_0 rfl (lv_at hl 0 rfl) ?_
  refine lv_aload_n hx hb dX5_isSubscriber_1 rfl (lv_at hl 0 rfl) ?_
  refine lv_iload_n hx hb dX5_isSubscriber_2 rfl (lv_at hl 1 rfl) ?_
  obtain ⟨v1, hc1, hok⟩ := bd_some hok
  refine cRVi (ci := 5) (q0 := 0) [.int a1] S hK hP (c_X5_isReader l dC dI cI cZ l0 l4 l5 l6 l8 l10 l11 l12 l13 l14 l15 l16 uL a1 hc1) (lw_V qm_X5_155 qi_X5_isReader qs_X5_isReader qn_X5 qc_X5_isReader) hd_X5_isReader ⟨rfl, rfl⟩ ⟨Nat.le_of_ble_eq_true rfl, Nat.le_of_ble_eq_true rfl⟩ ⟨Nat.le_of_ble_eq_true rfl, Nat.le_of_ble_eq_true rfl⟩ rfl rfl rfl hl.1 (Nat.le_of_ble_eq_true rfl) rfl dX5_isSubscriber_3 ?_
  refine lv_if_eq (tgt := 13) hx hb dX5_isSubscriber_6 (by decide) (fun hc => ?_) (fun hc => ?_)
  · have hok := ip hok hc
    refine lv_iconst (v := (1 : Int32)) hx hb dX5_isSubscriber_13 (by decide) ?_
    exact J14 uL a1 (1 : Int32) _ _ hP hD hS _ hl hok
  · have hok := iq hok hc
    refine lv_iconst (v := (0 : Int32)) hx hb dX5_isSubscriber_9 (by decide) ?_
    refine lv_goto (tgt := 14) hx hb dX5_isSubscriber_10 (by decide) ?_
    exact J14 uL a1 (0 : Int32) _ _ hP hD hS _ hl hok
theorem hd_X5_hottest : yX5_hottest.cls = RX5 ∧ yX5_hottest.cls ≠ "java/lang/invoke/MethodHandle" ∧ yX5_hottest.cls ≠ "java/lang/invoke/VarHandle" ∧ (parseMethodDescriptor yX5_hottest.desc).map (fun d => d.parameters.length) = some 0 := by decide +kernel
def p_X5_hottest_J46 (rec4 : tX5 → Int32 → Int32 → Option Int32) (uL : tX5) (l46_2 : Int32) : Option Int32 :=
  rec4 uL l46_2 (l46_2 + 1)
def p_X5_hottest_L4 : Nat → tX5 → Int32 → Int32 → Option Int32
  | 0, _, _, _ => none
  | n + 1, uL, l4_1, l4_2 =>
    if uL.2.2.2.2.2.2.2.2.2.2.1 ≤ l4_2 then
      some l4_1
    else
      bd (p_X5_reads uL l4_2) (fun v1 =>
      if v1 = 0 then
        (p_X5_hottest_L4 n) uL l4_1 (l4_2 + 1)
      else
        if l4_1 = (-1 : Int32) then
          p_X5_hottest_J46 (p_X5_hottest_L4 n) uL l4_2
        else
          gd ((33 : Int32) + l4_2) 41 (
          gd ((33 : Int32) + l4_1) 41 (
          if (uL.1 ((33 : Int32) + l4_2).toNatClampNeg) ≤ (uL.1 ((33 : Int32) + l4_1).toNatClampNeg) then
            (p_X5_hottest_L4 n) uL l4_1 (l4_2 + 1)
          else
            p_X5_hottest_J46 (p_X5_hottest_L4 n) uL l4_2)))
def p_X5_hottest (uL : tX5) : Option Int32 :=
  p_X5_hottest_L4 200 uL (-1 : Int32) (0 : Int32)
set_option maxHeartbeats 4000000 in
set_option maxRecDepth 100000 in
theorem c_X5_hottest (l : Launch) (dC : Nat → ClassId) (dI : Nat → Nat → Nat) (cI cZ : ClassId) (l0 l4 l5 l6 l8 l10 l11 l12 l13 l14 l15 l16 : Nat) (uL : tX5) {z : Int32} (hok : p_X5_hottest uL = some z) : Met l yX5_hottest (Cond.code yX5_hottest cX5_hottest 3 (some .int) :: lw_all) { frames := 2, cells := 0, slots := 0, locals := 42 } (prR (dC, dI) vwCl (TYS cI cZ) ((wX5 cI cZ l0 l4 l5 l6 l8 l10 l11 l12 l13 l14 l15 l16 uL)) [.ref l0]) (vp_Si (fun r => r = z)) 0 0 (fun _ => False) := by
  refine oM (by decide) (Nat.le_of_ble_eq_true rfl) ?_
  intro p e s m args below meth c S hr hlk hnm hB ls hl
  have hx := S.1
  have hb := S.2.1
  have hml := S.2.2.1
  have hown : s.vm.findClass RX5 = some m.cls := S.2.2.2.1
  have hts := S.2.2.2.2
  have S : CallFix p m c cX5_hottest 3 s args lw_all RX5 := S
  have hl : lv_has ls 3 [(0, .ref l0)] := hl
  obtain ⟨hP, hK⟩ := hB
  have hP : va_P (dC, dI) vwCl ((wX5 cI cZ l0 l4 l5 l6 l8 l10 l11 l12 l13 l14 l15 l16 uL)) s.heap := hP
  have L4 : ∀ n4 : Nat, ∀ (l4_1 : Int32) (l4_2 : Int32) (ls : Array Slot) (hl : lv_has ls 3 [(0, .ref l0), (1, .int l4_1), (2, .int l4_2)]) (hok : p_X5_hottest_L4 n4 uL l4_1 l4_2 = some z), W p l e { frames := 2, cells := 0, slots := 0, locals := 42 } s m args below meth c s.heap [] 0 0 (MQ below (vp_Si (fun r => r = z)) args s 0 0 (fun _ => False)) (F0 m 4 ls []) := by
    intro n4
    induction n4 with
    | zero =>
      intro l4_1 l4_2 ls hl hok
      rw [p_X5_hottest_L4] at hok
      cases hok
    | succ n4 ih4 =>
      have J46 : ∀ (l46_2 : Int32) (ls : Array Slot) (hl : lv_has ls 3 [(0, .ref l0), (2, .int l46_2)]) (hok : p_X5_hottest_J46 (p_X5_hottest_L4 n4) uL l46_2 = some z), W p l e { frames := 2, cells := 0, slots := 0, locals := 42 } s m args below meth c s.heap [] 0 0 (MQ below (vp_Si (fun r => r = z)) args s 0 0 (fun _ => False)) (F0 m 46 ls []) := by
        intro l46_2 ls hl hok
        unfold p_X5_hottest_J46 at hok
        refine lv_iload_n hx hb dX5_hottest_46 rfl (lv_at hl 1 rfl) ?_
        refine lv_istore_n (lv' := [(1, .int l46_2), (0, .ref l0), (2, .int l46_2)]) hx hb dX5_hottest_47 rfl hl (by decide) rfl (fun ls hl => ?_)
        refine lv_iinc (v := (l46_2 + 1)) (lv' := [(2, .int (l46_2 + 1)), (1, .int l46_2), (0, .ref l0)]) hx hb dX5_hottest_48 hl (k := 2) rfl rfl (by decide) rfl (fun ls hl => ?_)
        refine lv_goto (tgt := 4) hx hb dX5_hottest_51 (by decide) ?_
        exact ih4 l46_2 (l46_2 + 1) _ (lv_sub hl [2, 1, 0] rfl) hok
      intro l4_1 l4_2 ls hl hok
      rw [p_X5_hottest_L4] at hok
      refine lv_iload_n hx hb dX5_hottest_4 rfl (lv_at hl 2 rfl) ?_
      refine lv_aload_n hx hb dX5_hottest_5 rfl (lv_at hl 0 rfl) ?_
      refine va_get (D := (dC, dI)) (ci := 5) (v := .int uL.2.2.2.2.2.2.2.2.2.2.1) (C := RX5) (T := TX5) (N := 18) hx hb hts inX5 hown hK hP 0 rfl rfl 7 (by decide) (hts _ qf_X5_57) (fun _ h9 => h9) rfl dX5_hottest_6 ?_
      refine lv_icmp_ge (tgt := 54) hx hb dX5_hottest_9 (by decide) (fun hc => ?_) (fun hc => ?_)
      · have hok := ip hok hc
        refine lv_iload_n hx hb dX5_hottest_54 rfl (lv_at hl 1 rfl) ?_
        exact eRi S hr hlk (Option.some.inj hok) dX5_hottest_55
      · have hok := iq hok hc
        refine lv_aload_n hx hb dX5_hottest_12 rfl (lv_at hl 0 rfl) ?_
        refine lv_iload_n hx hb dX5_hottest_13 rfl (lv_at hl 2 rfl) ?_
        obtain ⟨v1, hc1, hok⟩ := bd_some hok
        refine cRVi (ci := 5) (q0 := 0) [.int l4_2] S hK hP (c_X5_reads l dC dI cI cZ l0 l4 l5 l6 l8 l10 l11 l12 l13 l14 l15 l16 uL l4_2 hc1) (lw_V qm_X5_73 qi_X5_reads qs_X5_reads qn_X5 qc_X5_reads) hd_X5_reads ⟨rfl, rfl⟩ ⟨Nat.le_of_ble_eq_true rfl, Nat.le_of_ble_eq_true rfl⟩ ⟨Nat.le_of_ble_eq_true rfl, Nat.le_of_ble_eq_true rfl⟩ rfl rfl rfl hl.1 (Nat.le_of_ble_eq_true rfl) rfl dX5_hottest_14 ?_
        refine lv_if_eq (tgt := 48) hx hb dX5_hottest_17 (by decide) (fun hc => ?_) (fun hc => ?_)
        · have hok := ip hok hc
          refine lv_iinc (v := (l4_2 + 1)) (lv' := [(2, .int (l4_2 + 1)), (0, .ref l0), (1, .int l4_1)]) hx hb dX5_hottest_48 hl (k := 2) rfl rfl (by decide) rfl (fun ls hl => ?_)
          refine lv_goto (tgt := 4) hx hb dX5_hottest_51 (by decide) ?_
          exact ih4 l4_1 (l4_2 + 1) _ (lv_sub hl [1, 2, 0] rfl) hok
        · have hok := iq hok hc
          refine lv_iload_n hx hb dX5_hottest_20 rfl (lv_at hl 1 rfl) ?_
          refine lv_iconst (v := (-1 : Int32)) hx hb dX5_hottest_21 (by decide) ?_
          refine lv_icmp_eq (tgt := 46) hx hb dX5_hottest_22 (by decide) (fun hc => ?_) (fun hc => ?_)
          · have hok := ip hok hc
            exact J46 l4_2 _ (lv_sub hl [0, 2] rfl) hok
          · have hok := iq hok hc
            refine lv_aload_n hx hb dX5_hottest_25 rfl (lv_at hl 0 rfl) ?_
            refine va_get (D := (dC, dI)) (ci := 5) (v := .ref l15) (C := RX5) (T := TX5) (N := 18) hx hb hts inX5 hown hK hP 0 rfl rfl 15 (by decide) (hts _ qf_X5_44) (fun _ h9 => h9) rfl dX5_hottest_26 ?_
            refine lv_bipush (v := (33 : Int32)) hx hb dX5_hottest_29 (by decide) ?_
            refine lv_iload_n hx hb dX5_hottest_31 rfl (lv_at hl 2 rfl) ?_
            refine lv_iadd hx hb dX5_hottest_32 ?_
            obtain ⟨hi2, hok⟩ := gd_some hok
            refine va_iald hx hb hK hP 10 0 rfl rfl hi2 dX5_hottest_33 ?_
            refine lv_aload_n hx hb dX5_hottest_34 rfl (lv_at hl 0 rfl) ?_
            refine va_get (D := (dC, dI)) (ci := 5) (v := .ref l15) (C := RX5) (T := TX5) (N := 18) hx hb hts inX5 hown hK hP 0 rfl rfl 15 (by decide) (hts _ qf_X5_44) (fun _ h9 => h9) rfl dX5_hottest_35 ?_
            refine lv_bipush (v := (33 : Int32)) hx hb dX5_hottest_38 (by decide) ?_
            refine lv_iload_n hx hb dX5_hottest_40 rfl (lv_at hl 1 rfl) ?_
            refine lv_iadd hx hb dX5_hottest_41 ?_
            obtain ⟨hi3, hok⟩ := gd_some hok
            refine va_iald hx hb hK hP 10 0 rfl rfl hi3 dX5_hottest_42 ?_
            refine lv_icmp_le (tgt := 48) hx hb dX5_hottest_43 (by decide) (fun hc => ?_) (fun hc => ?_)
            · have hok := ip hok hc
              refine lv_iinc (v := (l4_2 + 1)) (lv' := [(2, .int (l4_2 + 1)), (0, .ref l0), (1, .int l4_1)]) hx hb dX5_hottest_48 hl (k := 2) rfl rfl (by decide) rfl (fun ls hl => ?_)
              refine lv_goto (tgt := 4) hx hb dX5_hottest_51 (by decide) ?_
              exact ih4 l4_1 (l4_2 + 1) _ (lv_sub hl [1, 2, 0] rfl) hok
            · have hok := iq hok hc
              exact J46 l4_2 _ (lv_sub hl [0, 2] rfl) hok
  unfold p_X5_hottest at hok
  refine lv_iconst (v := (-1 : Int32)) hx hb dX5_hottest_0 (by decide) ?_
  refine lv_istore_n (lv' := [(1, .int (-1 : Int32)), (0, .ref l0)]) hx hb dX5_hottest_1 rfl hl (by decide) rfl (fun ls hl => ?_)
  refine lv_iconst (v := (0 : Int32)) hx hb dX5_hottest_2 (by decide) ?_
  refine lv_istore_n (lv' := [(2, .int (0 : Int32)), (1, .int (-1 : Int32)), (0, .ref l0)]) hx hb dX5_hottest_3 rfl hl (by decide) rfl (fun ls hl => ?_)
  exact L4 200 (-1 : Int32) (0 : Int32) _ (lv_sub hl [2, 1, 0] rfl) hok
theorem hd_X5_warmest : yX5_warmest.cls = RX5 ∧ yX5_warmest.cls ≠ "java/lang/invoke/MethodHandle" ∧ yX5_warmest.cls ≠ "java/lang/invoke/VarHandle" ∧ (parseMethodDescriptor yX5_warmest.desc).map (fun d => d.parameters.length) = some 0 := by decide +kernel
def p_X5_warmest (uL : tX5) : Option (Int32 × tX5) :=
  bd (p_X5_hottest uL) (fun v1 =>
  bd (p_X5_told uL v1) (fun v2 =>
  some (v2.1, v2.2)))
set_option maxHeartbeats 4000000 in
set_option maxRecDepth 100000 in
theorem c_X5_warmest (l : Launch) (dC : Nat → ClassId) (dI : Nat → Nat → Nat) (cI cZ : ClassId) (l0 l4 l5 l6 l8 l10 l11 l12 l13 l14 l15 l16 : Nat) (sz : Nat) (uL : tX5) {z : (Int32 × tX5)} (hok : p_X5_warmest uL = some z) : Met l yX5_warmest (Cond.code yX5_warmest cX5_warmest 1 (some .int) :: lw_all) { frames := 3, cells := 0, slots := 0, locals := 64 } (prW (dC, dI) vwCl (TYS cI cZ) ((wX5 cI cZ l0 l4 l5 l6 l8 l10 l11 l12 l13 l14 l15 l16 uL)) sz [.ref l0]) (va_Qi (fun (r : Int32) (_ : Unit) => r = z.1) (fun _ t => va_P (dC, dI) vwCl ((wX5 cI cZ l0 l4 l5 l6 l8 l10 l11 l12 l13 l14 l15 l16 z.2)) t.heap) (va_A ((wX5 cI cZ l0 l4 l5 l6 l8 l10 l11 l12 l13 l14 l15 l16 uL)) sz)) 0 0 (va_A ((wX5 cI cZ l0 l4 l5 l6 l8 l10 l11 l12 l13 l14 l15 l16 uL)) sz) := by
  refine oM (by decide) (Nat.le_of_ble_eq_true rfl) ?_
  intro p e s m args below meth c S hr hlk hnm hB ls hl
  have hx := S.1
  have hb := S.2.1
  have hml := S.2.2.1
  have hown : s.vm.findClass RX5 = some m.cls := S.2.2.2.1
  have hts := S.2.2.2.2
  have S : CallFix p m c cX5_warmest 1 s args lw_all RX5 := S
  have hl : lv_has ls 1 [(0, .ref l0)] := hl
  obtain ⟨hsz, hP, hK, hD0⟩ := hB
  subst hsz
  have hD := hD0.self (sz := s.heap.size)
  generalize hAe : va_A ((wX5 cI cZ l0 l4 l5 l6 l8 l10 l11 l12 l13 l14 l15 l16 uL)) s.heap.size = A at hD ⊢
  have hA : ∀ q : Nat, s.heap.size ≤ q → A q := fun q h => by rw [← hAe]; exact Or.inr h
  have hS : va_S A s.heap s.heap [] := va_S.rf
  have hP : va_P (dC, dI) vwCl ((wX5 cI cZ l0 l4 l5 l6 l8 l10 l11 l12 l13 l14 l15 l16 uL)) s.heap := hP
  unfold p_X5_warmest at hok
  refine lv_aload_n hx hb dX5_warmest_0 rfl (lv_at hl 0 rfl) ?_
  refine lv_aload_n hx hb dX5_warmest_1 rfl (lv_at hl 0 rfl) ?_
  obtain ⟨v1, hc1, hok⟩ := bd_some hok
  refine cRVi (ci := 5) (q0 := 0) [] S hK hP (c_X5_hottest l dC dI cI cZ l0 l4 l5 l6 l8 l10 l11 l12 l13 l14 l15 l16 uL hc1) (lw_V qm_X5_161 qi_X5_hottest qs_X5_hottest qn_X5 qc_X5_hottest) hd_X5_hottest ⟨rfl, rfl⟩ ⟨Nat.le_of_ble_eq_true rfl, Nat.le_of_ble_eq_true rfl⟩ ⟨Nat.le_of_ble_eq_true rfl, Nat.le_of_ble_eq_true rfl⟩ rfl rfl rfl hl.1 (Nat.le_of_ble_eq_true rfl) rfl dX5_warmest_2 ?_
  obtain ⟨v2, hc2, hok⟩ := bd_some hok
  refine cWVi (ci := 5) (q0 := 0) [.int v1] S hK hP hD hS hA (c_X5_told l dC dI cI cZ l0 l4 l5 l6 l8 l10 l11 l12 l13 l14 l15 l16 _ uL v1 hc2) (lw_V qm_X5_125 qi_X5_told qs_X5_told qn_X5 qc_X5_told) hd_X5_told ⟨rfl, rfl⟩ ⟨Nat.le_of_ble_eq_true rfl, Nat.le_of_ble_eq_true rfl⟩ ⟨Nat.le_of_ble_eq_true rfl, Nat.le_of_ble_eq_true rfl⟩ rfl rfl rfl hl.1 (Nat.le_of_ble_eq_true rfl) rfl dX5_warmest_5 (D_L hD) (fun H locs hP hD hS => ?_)
  have hok := Option.some.inj hok
  subst hok
  exact eWi S hr hlk rfl hP hS (Nat.le_of_ble_eq_true rfl) (Nat.le_of_ble_eq_true rfl) dX5_warmest_8
theorem hd_X5_mirrors : yX5_mirrors.cls = RX5 ∧ yX5_mirrors.cls ≠ "java/lang/invoke/MethodHandle" ∧ yX5_mirrors.cls ≠ "java/lang/invoke/VarHandle" ∧ (parseMethodDescriptor yX5_mirrors.desc).map (fun d => d.parameters.length) = some 0 := by decide +kernel
def p_X5_mirrors (uL : tX5) : Option (Int32 × tX5) :=
  bd (p_X5_told uL uL.2.2.2.2.2.2.2.2.2.2.2.2.1) (fun v1 =>
  some (v1.1, v1.2))
set_option maxHeartbeats 4000000 in
set_option maxRecDepth 100000 in
theorem c_X5_mirrors (l : Launch) (dC : Nat → ClassId) (dI : Nat → Nat → Nat) (cI cZ : ClassId) (l0 l4 l5 l6 l8 l10 l11 l12 l13 l14 l15 l16 : Nat) (sz : Nat) (uL : tX5) {z : (Int32 × tX5)} (hok : p_X5_mirrors uL = some z) : Met l yX5_mirrors (Cond.code yX5_mirrors cX5_mirrors 1 (some .int) :: lw_all) { frames := 1, cells := 0, slots := 0, locals := 21 } (prW (dC, dI) vwCl (TYS cI cZ) ((wX5 cI cZ l0 l4 l5 l6 l8 l10 l11 l12 l13 l14 l15 l16 uL)) sz [.ref l0]) (va_Qi (fun (r : Int32) (_ : Unit) => r = z.1) (fun _ t => va_P (dC, dI) vwCl ((wX5 cI cZ l0 l4 l5 l6 l8 l10 l11 l12 l13 l14 l15 l16 z.2)) t.heap) (va_A ((wX5 cI cZ l0 l4 l5 l6 l8 l10 l11 l12 l13 l14 l15 l16 uL)) sz)) 0 0 (va_A ((wX5 cI cZ l0 l4 l5 l6 l8 l10 l11 l12 l13 l14 l15 l16 uL)) sz) := by
  refine oM (by decide) (Nat.le_of_ble_eq_true rfl) ?_
  intro p e s m args below meth c S hr hlk hnm hB ls hl
  have hx := S.1
  have hb := S.2.1
  have hml := S.2.2.1
  have hown : s.vm.findClass RX5 = some m.cls := S.2.2.2.1
  have hts := S.2.2.2.2
  have S : CallFix p m c cX5_mirrors 1 s args lw_all RX5 := S
  have hl : lv_has ls 1 [(0, .ref l0)] := hl
  obtain ⟨hsz, hP, hK, hD0⟩ := hB
  subst hsz
  have hD := hD0.self (sz := s.heap.size)
  generalize hAe : va_A ((wX5 cI cZ l0 l4 l5 l6 l8 l10 l11 l12 l13 l14 l15 l16 uL)) s.heap.size = A at hD ⊢
  have hA : ∀ q : Nat, s.heap.size ≤ q → A q := fun q h => by rw [← hAe]; exact Or.inr h
  have hS : va_S A s.heap s.heap [] := va_S.rf
  have hP : va_P (dC, dI) vwCl ((wX5 cI cZ l0 l4 l5 l6 l8 l10 l11 l12 l13 l14 l15 l16 uL)) s.heap := hP
  unfold p_X5_mirrors at hok
  refine lv_aload_n hx hb dX5_mirrors_0 rfl (lv_at hl 0 rfl) ?_
  refine lv_aload_n hx hb dX5_mirrors_1 rfl (lv_at hl 0 rfl) ?_
  refine va_get (D := (dC, dI)) (ci := 5) (v := .int uL.2.2.2.2.2.2.2.2.2.2.2.2.1) (C := RX5) (T := TX5) (N := 18) hx hb hts inX5 hown hK hP 0 rfl rfl 9 (by decide) (hts _ qf_X5_60) (fun _ h9 => h9) rfl dX5_mirrors_2 ?_
  obtain ⟨v1, hc1, hok⟩ := bd_some hok
  refine cWVi (ci := 5) (q0 := 0) [.int uL.2.2.2.2.2.2.2.2.2.2.2.2.1] S hK hP hD hS hA (c_X5_told l dC dI cI cZ l0 l4 l5 l6 l8 l10 l11 l12 l13 l14 l15 l16 _ uL uL.2.2.2.2.2.2.2.2.2.2.2.2.1 hc1) (lw_V qm_X5_125 qi_X5_told qs_X5_told qn_X5 qc_X5_told) hd_X5_told ⟨rfl, rfl⟩ ⟨Nat.le_of_ble_eq_true rfl, Nat.le_of_ble_eq_true rfl⟩ ⟨Nat.le_of_ble_eq_true rfl, Nat.le_of_ble_eq_true rfl⟩ rfl rfl rfl hl.1 (Nat.le_of_ble_eq_true rfl) rfl dX5_mirrors_5 (D_L hD) (fun H locs hP hD hS => ?_)
  have hok := Option.some.inj hok
  subst hok
  exact eWi S hr hlk rfl hP hS (Nat.le_of_ble_eq_true rfl) (Nat.le_of_ble_eq_true rfl) dX5_mirrors_8
theorem hd_X5_graded : yX5_graded.cls = RX5 ∧ yX5_graded.cls ≠ "java/lang/invoke/MethodHandle" ∧ yX5_graded.cls ≠ "java/lang/invoke/VarHandle" ∧ (parseMethodDescriptor yX5_graded.desc).map (fun d => d.parameters.length) = some 2 := by decide +kernel
def p_X5_graded_J57 (uL : tX5) (s57_0 : Int32) (s57_1 : Int32) : Option Int32 :=
  some (if (0 : Int32) < (if (s57_1 + s57_0) < (10 : Int32) then (s57_1 + s57_0) else (10 : Int32)) then (if (s57_1 + s57_0) < (10 : Int32) then (s57_1 + s57_0) else (10 : Int32)) else (0 : Int32))
def p_X5_graded (uL : tX5) (a1 : Int32) (a2 : Int32) : Option Int32 :=
  gd a2 108 (
  gd (uL.2.2.2.2.2.2.2.2.2.2.2.2.2.2.2.1 a2.toNatClampNeg) 108 (
  gd a1 4 (
  if (uL.2.2.2.2.2.2.2.2.1 (uL.2.2.2.2.2.2.2.2.2.2.2.2.2.2.2.1 a2.toNatClampNeg).toNatClampNeg) = (uL.2.2.2.2.2.2.2.2.2.2.2.2.2.1 a1.toNatClampNeg) then
    p_X5_graded_J57 uL (2 : Int32) ((4 : Int32) + ((uL.2.2.2.2.2.2.2.2.2.2.2.2.2.2.2.2.1 a2.toNatClampNeg) / (3 : Int32)))
  else
    if (uL.2.2.2.2.2.2.2.2.1 (uL.2.2.2.2.2.2.2.2.2.2.2.2.2.2.2.1 a2.toNatClampNeg).toNatClampNeg) = (uL.2.2.2.2.2.2.2.2.2.2.2.2.2.2.1 a1.toNatClampNeg) then
      p_X5_graded_J57 uL (-3 : Int32) ((4 : Int32) + ((uL.2.2.2.2.2.2.2.2.2.2.2.2.2.2.2.2.1 a2.toNatClampNeg) / (3 : Int32)))
    else
      p_X5_graded_J57 uL (0 : Int32) ((4 : Int32) + ((uL.2.2.2.2.2.2.2.2.2.2.2.2.2.2.2.2.1 a2.toNatClampNeg) / (3 : Int32))))))
set_option maxHeartbeats 4000000 in
set_option maxRecDepth 100000 in
theorem c_X5_graded (l : Launch) (dC : Nat → ClassId) (dI : Nat → Nat → Nat) (cI cZ : ClassId) (l0 l4 l5 l6 l8 l10 l11 l12 l13 l14 l15 l16 : Nat) (uL : tX5) (a1 : Int32) (a2 : Int32) {z : Int32} (hok : p_X5_graded uL a1 a2 = some z) : Met l yX5_graded (Cond.code yX5_graded cX5_graded 5 (some .int) :: lw_all) { frames := 1, cells := 0, slots := 0, locals := 21 } (prR (dC, dI) vwCl (TYS cI cZ) ((wX5 cI cZ l0 l4 l5 l6 l8 l10 l11 l12 l13 l14 l15 l16 uL)) [.ref l0, .int a1, .int a2]) (vp_Si (fun r => r = z)) 0 0 (fun _ => False) := by
  refine oM (by decide) (Nat.le_of_ble_eq_true rfl) ?_
  intro p e s m args below meth c S hr hlk hnm hB ls hl
  have hx := S.1
  have hb := S.2.1
  have hml := S.2.2.1
  have hown : s.vm.findClass RX5 = some m.cls := S.2.2.2.1
  have hts := S.2.2.2.2
  have S : CallFix p m c cX5_graded 5 s args lw_all RX5 := S
  have hl : lv_has ls 5 [(0, .ref l0), (1, .int a1), (2, .int a2)] := hl
  obtain ⟨hP, hK⟩ := hB
  have hP : va_P (dC, dI) vwCl ((wX5 cI cZ l0 l4 l5 l6 l8 l10 l11 l12 l13 l14 l15 l16 uL)) s.heap := hP
  have J57 : ∀ (s57_0 : Int32) (s57_1 : Int32) (ls : Array Slot) (hl : lv_has ls 5 []) (hok : p_X5_graded_J57 uL s57_0 s57_1 = some z), W p l e { frames := 1, cells := 0, slots := 0, locals := 21 } s m args below meth c s.heap [] 0 0 (MQ below (vp_Si (fun r => r = z)) args s 0 0 (fun _ => False)) (F0 m 57 ls [.int s57_0, .int s57_1]) := by
    intro s57_0 s57_1 ls hl hok
    unfold p_X5_graded_J57 at hok
    refine lv_iadd hx hb dX5_graded_57 ?_
    refine lv_istore_n (lv' := [(3, .int (s57_1 + s57_0))]) hx hb dX5_graded_58 rfl hl (by decide) rfl (fun ls hl => ?_)
    refine lv_iconst (v := (0 : Int32)) hx hb dX5_graded_59 (by decide) ?_
    refine lv_bipush (v := (10 : Int32)) hx hb dX5_graded_60 (by decide) ?_
    refine lv_iload_n hx hb dX5_graded_62 rfl (lv_at hl 0 rfl) ?_
    refine va_mmin hx hb (hml.trans hl.1.symm) hown (hts _ qm_X5_77) (hts _ qt_Math_min) (hts _ qn_Math) (hts _ qc_Math_min) (Nat.le_of_ble_eq_true rfl) (Nat.le_of_ble_eq_true rfl) (Nat.le_of_ble_eq_true rfl) (Nat.le_of_ble_eq_true rfl) dX5_graded_63 ?_
    refine va_mmax hx hb (hml.trans hl.1.symm) hown (hts _ qm_X5_146) (hts _ qt_Math_max) (hts _ qn_Math) (hts _ qc_Math_max) (Nat.le_of_ble_eq_true rfl) (Nat.le_of_ble_eq_true rfl) (Nat.le_of_ble_eq_true rfl) (Nat.le_of_ble_eq_true rfl) dX5_graded_66 ?_
    exact eRi S hr hlk (Option.some.inj hok) dX5_graded_69
  unfold p_X5_graded at hok
  refine lv_iconst (v := (4 : Int32)) hx hb dX5_graded_0 (by decide) ?_
  refine lv_aload_n hx hb dX5_graded_1 rfl (lv_at hl 0 rfl) ?_
  refine va_get (D := (dC, dI)) (ci := 5) (v := .ref l13) (C := RX5) (T := TX5) (N := 18) hx hb hts inX5 hown hK hP 0 rfl rfl 13 (by decide) (hts _ qf_X5_38) (fun _ h9 => h9) rfl dX5_graded_2 ?_
  refine lv_iload_n hx hb dX5_graded_5 rfl (lv_at hl 2 rfl) ?_
  obtain ⟨hi1, hok⟩ := gd_some hok
  refine va_iald hx hb hK hP 8 0 rfl rfl hi1 dX5_graded_6 ?_
  refine lv_iconst (v := (3 : Int32)) hx hb dX5_graded_7 (by decide) ?_
  refine lv_idiv hx hb dX5_graded_8 (by decide) ?_
  refine lv_iadd hx hb dX5_graded_9 ?_
  refine lv_istore_n (lv' := [(3, .int ((4 : Int32) + ((uL.2.2.2.2.2.2.2.2.2.2.2.2.2.2.2.2.1 a2.toNatClampNeg) / (3 : Int32)))), (0, .ref l0), (1, .int a1), (2, .int a2)]) hx hb dX5_graded_10 rfl hl (by decide) rfl (fun ls hl => ?_)
  refine lv_aload_n hx hb dX5_graded_11 rfl (lv_at hl 1 rfl) ?_
  refine va_get (D := (dC, dI)) (ci := 5) (v := .ref l5) (C := RX5) (T := TX5) (N := 18) hx hb hts inX5 hown hK hP 0 rfl rfl 5 (by decide) (hts _ qf_X5_20) (fun _ h9 => h9) rfl dX5_graded_12 ?_
  refine lv_aload_n hx hb dX5_graded_15 rfl (lv_at hl 1 rfl) ?_
  refine va_get (D := (dC, dI)) (ci := 5) (v := .ref l12) (C := RX5) (T := TX5) (N := 18) hx hb hts inX5 hown hK hP 0 rfl rfl 12 (by decide) (hts _ qf_X5_35) (fun _ h9 => h9) rfl dX5_graded_16 ?_
  refine lv_iload_n hx hb dX5_graded_19 rfl (lv_at hl 3 rfl) ?_
  refine va_iald hx hb hK hP 7 0 rfl rfl hi1 dX5_graded_20 ?_
  obtain ⟨hi2, hok⟩ := gd_some hok
  refine va_iald hx hb hK hP 2 0 rfl rfl hi2 dX5_graded_21 ?_
  refine lv_istore (lv' := [(4, .int (uL.2.2.2.2.2.2.2.2.1 (uL.2.2.2.2.2.2.2.2.2.2.2.2.2.2.2.1 a2.toNatClampNeg).toNatClampNeg)), (3, .int ((4 : Int32) + ((uL.2.2.2.2.2.2.2.2.2.2.2.2.2.2.2.2.1 a2.toNatClampNeg) / (3 : Int32)))), (0, .ref l0), (1, .int a1), (2, .int a2)]) hx hb dX5_graded_22 hl (by decide) rfl (fun ls hl => ?_)
  refine lv_iload_n hx hb dX5_graded_24 rfl (lv_at hl 1 rfl) ?_
  refine lv_iload hx hb dX5_graded_25 (lv_at hl 0 rfl) ?_
  refine lv_aload_n hx hb dX5_graded_27 rfl (lv_at hl 2 rfl) ?_
  refine va_get (D := (dC, dI)) (ci := 5) (v := .ref l10) (C := RX5) (T := TX5) (N := 18) hx hb hts inX5 hown hK hP 0 rfl rfl 10 (by decide) (hts _ qf_X5_29) (fun _ h9 => h9) rfl dX5_graded_28 ?_
  refine lv_iload_n hx hb dX5_graded_31 rfl (lv_at hl 3 rfl) ?_
  obtain ⟨hi3, hok⟩ := gd_some hok
  refine va_iald hx hb hK hP 5 0 rfl rfl hi3 dX5_graded_32 ?_
  refine lv_icmp_ne (tgt := 40) hx hb dX5_graded_33 (by decide) (fun hc => ?_) (fun hc => ?_)
  · have hok := iq hok hc
    refine lv_iload hx hb dX5_graded_40 (lv_at hl 0 rfl) ?_
    refine lv_aload_n hx hb dX5_graded_42 rfl (lv_at hl 2 rfl) ?_
    refine va_get (D := (dC, dI)) (ci := 5) (v := .ref l11) (C := RX5) (T := TX5) (N := 18) hx hb hts inX5 hown hK hP 0 rfl rfl 11 (by decide) (hts _ qf_X5_32) (fun _ h9 => h9) rfl dX5_graded_43 ?_
    refine lv_iload_n hx hb dX5_graded_46 rfl (lv_at hl 3 rfl) ?_
    refine va_iald hx hb hK hP 6 0 rfl rfl hi3 dX5_graded_47 ?_
    refine lv_icmp_ne (tgt := 56) hx hb dX5_graded_48 (by decide) (fun hc => ?_) (fun hc => ?_)
    · have hok := iq hok hc
      refine lv_iconst (v := (0 : Int32)) hx hb dX5_graded_56 (by decide) ?_
      exact J57 (0 : Int32) ((4 : Int32) + ((uL.2.2.2.2.2.2.2.2.2.2.2.2.2.2.2.2.1 a2.toNatClampNeg) / (3 : Int32))) _ (lv_sub hl [] rfl) hok
    · have hok := ip hok hc
      refine lv_bipush (v := (-3 : Int32)) hx hb dX5_graded_51 (by decide) ?_
      refine lv_goto (tgt := 57) hx hb dX5_graded_53 (by decide) ?_
      exact J57 (-3 : Int32) ((4 : Int32) + ((uL.2.2.2.2.2.2.2.2.2.2.2.2.2.2.2.2.1 a2.toNatClampNeg) / (3 : Int32))) _ (lv_sub hl [] rfl) hok
  · have hok := ip hok hc
    refine lv_iconst (v := (2 : Int32)) hx hb dX5_graded_36 (by decide) ?_
    refine lv_goto (tgt := 57) hx hb dX5_graded_37 (by decide) ?_
    exact J57 (2 : Int32) ((4 : Int32) + ((uL.2.2.2.2.2.2.2.2.2.2.2.2.2.2.2.2.1 a2.toNatClampNeg) / (3 : Int32))) _ (lv_sub hl [] rfl) hok
theorem hd_X5_grade : yX5_grade.cls = RX5 ∧ yX5_grade.cls ≠ "java/lang/invoke/MethodHandle" ∧ yX5_grade.cls ≠ "java/lang/invoke/VarHandle" ∧ (parseMethodDescriptor yX5_grade.desc).map (fun d => d.parameters.length) = some 2 := by decide +kernel
def p_X5_grade_J30 (uL : tX5) : Option (Int32 × tX5) :=
  bd (p_X5_fail uL (1 : Int32)) (fun v4 =>
  some (v4.1, v4.2))
def p_X5_grade (uL : tX5) (a1 : Int32) (a2 : Int32) : Option (Int32 × tX5) :=
  bd (p_X5_isMirror (uL.1, uL.2.1, uL.2.2.1, (0 : Int32), uL.2.2.2.2) a1) (fun v1 =>
  if v1 = 0 then
    p_X5_grade_J30 (uL.1, uL.2.1, uL.2.2.1, (0 : Int32), uL.2.2.2.2)
  else
    bd (p_X5_isInstalment (uL.1, uL.2.1, uL.2.2.1, (0 : Int32), uL.2.2.2.2) a2) (fun v2 =>
    if v2 = 0 then
      p_X5_grade_J30 (uL.1, uL.2.1, uL.2.2.1, (0 : Int32), uL.2.2.2.2)
    else
      bd (p_X5_graded (uL.1, uL.2.1, uL.2.2.1, (0 : Int32), uL.2.2.2.2) a1 a2) (fun v3 =>
      some (v3, (uL.1, uL.2.1, uL.2.2.1, (0 : Int32), uL.2.2.2.2)))))
set_option maxHeartbeats 4000000 in
set_option maxRecDepth 100000 in
theorem c_X5_grade (l : Launch) (dC : Nat → ClassId) (dI : Nat → Nat → Nat) (cI cZ : ClassId) (l0 l4 l5 l6 l8 l10 l11 l12 l13 l14 l15 l16 : Nat) (sz : Nat) (uL : tX5) (a1 : Int32) (a2 : Int32) {z : (Int32 × tX5)} (hok : p_X5_grade uL a1 a2 = some z) : Met l yX5_grade (Cond.code yX5_grade cX5_grade 3 (some .int) :: lw_all) { frames := 2, cells := 0, slots := 0, locals := 45 } (prW (dC, dI) vwCl (TYS cI cZ) ((wX5 cI cZ l0 l4 l5 l6 l8 l10 l11 l12 l13 l14 l15 l16 uL)) sz [.ref l0, .int a1, .int a2]) (va_Qi (fun (r : Int32) (_ : Unit) => r = z.1) (fun _ t => va_P (dC, dI) vwCl ((wX5 cI cZ l0 l4 l5 l6 l8 l10 l11 l12 l13 l14 l15 l16 z.2)) t.heap) (va_A ((wX5 cI cZ l0 l4 l5 l6 l8 l10 l11 l12 l13 l14 l15 l16 uL)) sz)) 0 0 (va_A ((wX5 cI cZ l0 l4 l5 l6 l8 l10 l11 l12 l13 l14 l15 l16 uL)) sz) := by
  refine oM (by decide) (Nat.le_of_ble_eq_true rfl) ?_
  intro p e s m args below meth c S hr hlk hnm hB ls hl
  have hx := S.1
  have hb := S.2.1
  have hml := S.2.2.1
  have hown : s.vm.findClass RX5 = some m.cls := S.2.2.2.1
  have hts := S.2.2.2.2
  have S : CallFix p m c cX5_grade 3 s args lw_all RX5 := S
  have hl : lv_has ls 3 [(0, .ref l0), (1, .int a1), (2, .int a2)] := hl
  obtain ⟨hsz, hP, hK, hD0⟩ := hB
  subst hsz
  have hD := hD0.self (sz := s.heap.size)
  generalize hAe : va_A ((wX5 cI cZ l0 l4 l5 l6 l8 l10 l11 l12 l13 l14 l15 l16 uL)) s.heap.size = A at hD ⊢
  have hA : ∀ q : Nat, s.heap.size ≤ q → A q := fun q h => by rw [← hAe]; exact Or.inr h
  have hS : va_S A s.heap s.heap [] := va_S.rf
  have hP : va_P (dC, dI) vwCl ((wX5 cI cZ l0 l4 l5 l6 l8 l10 l11 l12 l13 l14 l15 l16 uL)) s.heap := hP
  have J30 : ∀ (uL : tX5) (H : Heap) (locs : List Loc) (hP : va_P (dC, dI) vwCl ((wX5 cI cZ l0 l4 l5 l6 l8 l10 l11 l12 l13 l14 l15 l16 uL)) H) (hD : va_D A ((wX5 cI cZ l0 l4 l5 l6 l8 l10 l11 l12 l13 l14 l15 l16 uL))) (hS : va_S A s.heap H locs) (ls : Array Slot) (hl : lv_has ls 3 [(0, .ref l0)]) (hok : p_X5_grade_J30 uL = some z), W p l e { frames := 2, cells := 0, slots := 0, locals := 45 } s m args below meth c H locs 0 0 (MQ below (va_Qi (fun (r : Int32) (_ : Unit) => r = z.1) (fun _ t => va_P (dC, dI) vwCl ((wX5 cI cZ l0 l4 l5 l6 l8 l10 l11 l12 l13 l14 l15 l16 z.2)) t.heap) A) args s 0 0 A) (F0 m 30 ls []) := by
    intro uL H locs hP hD hS ls hl hok
    unfold p_X5_grade_J30 at hok
    refine lv_aload_n hx hb dX5_grade_30 rfl (lv_at hl 0 rfl) ?_
    refine lv_iconst (v := (1 : Int32)) hx hb dX5_grade_31 (by decide) ?_
    obtain ⟨v4, hc4, hok⟩ := bd_some hok
    refine cWVi (ci := 5) (q0 := 0) [.int (1 : Int32)] S hK hP hD hS hA (c_X5_fail l dC dI cI cZ l0 l4 l5 l6 l8 l10 l11 l12 l13 l14 l15 l16 _ uL (1 : Int32) hc4) (lw_V qm_X5_112 qi_X5_fail qs_X5_fail qn_X5 qc_X5_fail) hd_X5_fail ⟨rfl, rfl⟩ ⟨Nat.le_of_ble_eq_true rfl, Nat.le_of_ble_eq_true rfl⟩ ⟨Nat.le_of_ble_eq_true rfl, Nat.le_of_ble_eq_true rfl⟩ rfl rfl rfl hl.1 (Nat.le_of_ble_eq_true rfl) rfl dX5_grade_32 (D_L hD) (fun H locs hP hD hS => ?_)
    have hok := Option.some.inj hok
    subst hok
    exact eWi S hr hlk rfl hP hS (Nat.le_of_ble_eq_true rfl) (Nat.le_of_ble_eq_true rfl) dX5_grade_35
  unfold p_X5_grade at hok
  refine lv_aload_n hx hb dX5_grade_0 rfl (lv_at hl 0 rfl) ?_
  refine lv_iconst (v := (0 : Int32)) hx hb dX5_grade_1 (by decide) ?_
  refine va_put (D := (dC, dI)) (ci := 5) (v := .int (0 : Int32)) (ty := .int) (C := RX5) (T := TX5) (N := 18) hx hb hts inX5 tyX5 tyX5_ok nmX5 hown hK hP hD hS 0 rfl rfl 0 (by decide) (hts _ qf_X5_50) (fun _ h9 => h9) rfl (tyX5_ok 0 (by decide)) rfl rfl (Nat.le_of_ble_eq_true rfl) dX5_grade_2 (fun H locs hP _ hS => ?_)
  have hP : va_P (dC, dI) vwCl ((wX5 cI cZ l0 l4 l5 l6 l8 l10 l11 l12 l13 l14 l15 l16 (uL.1, uL.2.1, uL.2.2.1, (0 : Int32), uL.2.2.2.2))) H := hP
  have hD : va_D A ((wX5 cI cZ l0 l4 l5 l6 l8 l10 l11 l12 l13 l14 l15 l16 (uL.1, uL.2.1, uL.2.2.1, (0 : Int32), uL.2.2.2.2))) := D_L hD
  refine lv_aload_n hx hb dX5_grade_5 rfl (lv_at hl 0 rfl) ?_
  refine lv_iload_n hx hb dX5_grade_6 rfl (lv_at hl 1 rfl) ?_
  obtain ⟨v1, hc1, hok⟩ := bd_some hok
  refine cRVi (ci := 5) (q0 := 0) [.int a1] S hK hP (c_X5_isMirror l dC dI cI cZ l0 l4 l5 l6 l8 l10 l11 l12 l13 l14 l15 l16 (uL.1, uL.2.1, uL.2.2.1, (0 : Int32), uL.2.2.2.2) a1 hc1) (lw_V qm_X5_164 qi_X5_isMirror qs_X5_isMirror qn_X5 qc_X5_isMirror) hd_X5_isMirror ⟨rfl, rfl⟩ ⟨Nat.le_of_ble_eq_true rfl, Nat.le_of_ble_eq_true rfl⟩ ⟨Nat.le_of_ble_eq_true rfl, Nat.le_of_ble_eq_true rfl⟩ rfl rfl rfl hl.1 (Nat.le_of_ble_eq_true rfl) rfl dX5_grade_7 ?_
  refine lv_if_eq (tgt := 30) hx hb dX5_grade_10 (by decide) (fun hc => ?_) (fun hc => ?_)
  · have hok := ip hok hc
    exact J30 (uL.1, uL.2.1, uL.2.2.1, (0 : Int32), uL.2.2.2.2) _ _ hP hD hS _ (lv_sub hl [0] rfl) hok
  · have hok := iq hok hc
    refine lv_aload_n hx hb dX5_grade_13 rfl (lv_at hl 0 rfl) ?_
    refine lv_iload_n hx hb dX5_grade_14 rfl (lv_at hl 2 rfl) ?_
    obtain ⟨v2, hc2, hok⟩ := bd_some hok
    refine cRVi (ci := 5) (q0 := 0) [.int a2] S hK hP (c_X5_isInstalment l dC dI cI cZ l0 l4 l5 l6 l8 l10 l11 l12 l13 l14 l15 l16 (uL.1, uL.2.1, uL.2.2.1, (0 : Int32), uL.2.2.2.2) a2 hc2) (lw_V qm_X5_140 qi_X5_isInstalment qs_X5_isInstalment qn_X5 qc_X5_isInstalment) hd_X5_isInstalment ⟨rfl, rfl⟩ ⟨Nat.le_of_ble_eq_true rfl, Nat.le_of_ble_eq_true rfl⟩ ⟨Nat.le_of_ble_eq_true rfl, Nat.le_of_ble_eq_true rfl⟩ rfl rfl rfl hl.1 (Nat.le_of_ble_eq_true rfl) rfl dX5_grade_15 ?_
    refine lv_if_eq (tgt := 30) hx hb dX5_grade_18 (by decide) (fun hc => ?_) (fun hc => ?_)
    · have hok := ip hok hc
      exact J30 (uL.1, uL.2.1, uL.2.2.1, (0 : Int32), uL.2.2.2.2) _ _ hP hD hS _ (lv_sub hl [0] rfl) hok
    · have hok := iq hok hc
      refine lv_aload_n hx hb dX5_grade_21 rfl (lv_at hl 0 rfl) ?_
      refine lv_iload_n hx hb dX5_grade_22 rfl (lv_at hl 1 rfl) ?_
      refine lv_iload_n hx hb dX5_grade_23 rfl (lv_at hl 2 rfl) ?_
      obtain ⟨v3, hc3, hok⟩ := bd_some hok
      refine cRVi (ci := 5) (q0 := 0) [.int a1, .int a2] S hK hP (c_X5_graded l dC dI cI cZ l0 l4 l5 l6 l8 l10 l11 l12 l13 l14 l15 l16 (uL.1, uL.2.1, uL.2.2.1, (0 : Int32), uL.2.2.2.2) a1 a2 hc3) (lw_V qm_X5_167 qi_X5_graded qs_X5_graded qn_X5 qc_X5_graded) hd_X5_graded ⟨rfl, rfl⟩ ⟨Nat.le_of_ble_eq_true rfl, Nat.le_of_ble_eq_true rfl⟩ ⟨Nat.le_of_ble_eq_true rfl, Nat.le_of_ble_eq_true rfl⟩ rfl rfl rfl hl.1 (Nat.le_of_ble_eq_true rfl) rfl dX5_grade_24 ?_
      refine lv_goto (tgt := 35) hx hb dX5_grade_27 (by decide) ?_
      have hok := Option.some.inj hok
      subst hok
      exact eWi S hr hlk rfl hP hS (Nat.le_of_ble_eq_true rfl) (Nat.le_of_ble_eq_true rfl) dX5_grade_35
theorem hd_X5_sumBy : yX5_sumBy.cls = RX5 ∧ yX5_sumBy.cls ≠ "java/lang/invoke/MethodHandle" ∧ yX5_sumBy.cls ≠ "java/lang/invoke/VarHandle" ∧ (parseMethodDescriptor yX5_sumBy.desc).map (fun d => d.parameters.length) = some 1 := by decide +kernel
def p_X5_sumBy_L4 : Nat → tX5 → Int32 → Int32 → Int32 → Option Int32
  | 0, _, _, _, _ => none
  | n + 1, uL, l4_1, l4_2, l4_3 =>
    if (uL.1 8) ≤ l4_3 then
      some l4_2
    else
      bd (p_X5_graded uL l4_1 l4_3) (fun v1 =>
      (p_X5_sumBy_L4 n) uL l4_1 (l4_2 + v1) (l4_3 + 1))
def p_X5_sumBy (uL : tX5) (a1 : Int32) : Option Int32 :=
  p_X5_sumBy_L4 200 uL a1 (0 : Int32) (0 : Int32)
set_option maxHeartbeats 4000000 in
set_option maxRecDepth 100000 in
theorem c_X5_sumBy (l : Launch) (dC : Nat → ClassId) (dI : Nat → Nat → Nat) (cI cZ : ClassId) (l0 l4 l5 l6 l8 l10 l11 l12 l13 l14 l15 l16 : Nat) (uL : tX5) (a1 : Int32) {z : Int32} (hok : p_X5_sumBy uL a1 = some z) : Met l yX5_sumBy (Cond.code yX5_sumBy cX5_sumBy 4 (some .int) :: lw_all) { frames := 2, cells := 0, slots := 0, locals := 45 } (prR (dC, dI) vwCl (TYS cI cZ) ((wX5 cI cZ l0 l4 l5 l6 l8 l10 l11 l12 l13 l14 l15 l16 uL)) [.ref l0, .int a1]) (vp_Si (fun r => r = z)) 0 0 (fun _ => False) := by
  refine oM (by decide) (Nat.le_of_ble_eq_true rfl) ?_
  intro p e s m args below meth c S hr hlk hnm hB ls hl
  have hx := S.1
  have hb := S.2.1
  have hml := S.2.2.1
  have hown : s.vm.findClass RX5 = some m.cls := S.2.2.2.1
  have hts := S.2.2.2.2
  have S : CallFix p m c cX5_sumBy 4 s args lw_all RX5 := S
  have hl : lv_has ls 4 [(0, .ref l0), (1, .int a1)] := hl
  obtain ⟨hP, hK⟩ := hB
  have hP : va_P (dC, dI) vwCl ((wX5 cI cZ l0 l4 l5 l6 l8 l10 l11 l12 l13 l14 l15 l16 uL)) s.heap := hP
  have L4 : ∀ n4 : Nat, ∀ (l4_1 : Int32) (l4_2 : Int32) (l4_3 : Int32) (ls : Array Slot) (hl : lv_has ls 4 [(0, .ref l0), (1, .int l4_1), (2, .int l4_2), (3, .int l4_3)]) (hok : p_X5_sumBy_L4 n4 uL l4_1 l4_2 l4_3 = some z), W p l e { frames := 2, cells := 0, slots := 0, locals := 45 } s m args below meth c s.heap [] 0 0 (MQ below (vp_Si (fun r => r = z)) args s 0 0 (fun _ => False)) (F0 m 4 ls []) := by
    intro n4
    induction n4 with
    | zero =>
      intro l4_1 l4_2 l4_3 ls hl hok
      rw [p_X5_sumBy_L4] at hok
      cases hok
    | succ n4 ih4 =>
      intro l4_1 l4_2 l4_3 ls hl hok
      rw [p_X5_sumBy_L4] at hok
      refine lv_iload_n hx hb dX5_sumBy_4 rfl (lv_at hl 3 rfl) ?_
      refine lv_aload_n hx hb dX5_sumBy_5 rfl (lv_at hl 0 rfl) ?_
      refine va_get (D := (dC, dI)) (ci := 5) (v := .ref l15) (C := RX5) (T := TX5) (N := 18) hx hb hts inX5 hown hK hP 0 rfl rfl 15 (by decide) (hts _ qf_X5_44) (fun _ h9 => h9) rfl dX5_sumBy_6 ?_
      refine lv_bipush (v := (8 : Int32)) hx hb dX5_sumBy_9 (by decide) ?_
      refine va_ialdK hx hb hK hP 10 0 rfl rfl (j := 8) (by decide) (vp_inK (by decide)) dX5_sumBy_11 ?_
      refine lv_icmp_ge (tgt := 30) hx hb dX5_sumBy_12 (by decide) (fun hc => ?_) (fun hc => ?_)
      · have hok := ip hok hc
        refine lv_iload_n hx hb dX5_sumBy_30 rfl (lv_at hl 2 rfl) ?_
        exact eRi S hr hlk (Option.some.inj hok) dX5_sumBy_31
      · have hok := iq hok hc
        refine lv_iload_n hx hb dX5_sumBy_15 rfl (lv_at hl 2 rfl) ?_
        refine lv_aload_n hx hb dX5_sumBy_16 rfl (lv_at hl 0 rfl) ?_
        refine lv_iload_n hx hb dX5_sumBy_17 rfl (lv_at hl 1 rfl) ?_
        refine lv_iload_n hx hb dX5_sumBy_18 rfl (lv_at hl 3 rfl) ?_
        obtain ⟨v1, hc1, hok⟩ := bd_some hok
        refine cRVi (ci := 5) (q0 := 0) [.int l4_1, .int l4_3] S hK hP (c_X5_graded l dC dI cI cZ l0 l4 l5 l6 l8 l10 l11 l12 l13 l14 l15 l16 uL l4_1 l4_3 hc1) (lw_V qm_X5_167 qi_X5_graded qs_X5_graded qn_X5 qc_X5_graded) hd_X5_graded ⟨rfl, rfl⟩ ⟨Nat.le_of_ble_eq_true rfl, Nat.le_of_ble_eq_true rfl⟩ ⟨Nat.le_of_ble_eq_true rfl, Nat.le_of_ble_eq_true rfl⟩ rfl rfl rfl hl.1 (Nat.le_of_ble_eq_true rfl) rfl dX5_sumBy_19 ?_
        refine lv_iadd hx hb dX5_sumBy_22 ?_
        refine lv_istore_n (lv' := [(2, .int (l4_2 + v1)), (0, .ref l0), (1, .int l4_1), (3, .int l4_3)]) hx hb dX5_sumBy_23 rfl hl (by decide) rfl (fun ls hl => ?_)
        refine lv_iinc (v := (l4_3 + 1)) (lv' := [(3, .int (l4_3 + 1)), (2, .int (l4_2 + v1)), (0, .ref l0), (1, .int l4_1)]) hx hb dX5_sumBy_24 hl (k := 3) rfl rfl (by decide) rfl (fun ls hl => ?_)
        refine lv_goto (tgt := 4) hx hb dX5_sumBy_27 (by decide) ?_
        exact ih4 l4_1 (l4_2 + v1) (l4_3 + 1) _ (lv_sub hl [2, 3, 1, 0] rfl) hok
  unfold p_X5_sumBy at hok
  refine lv_iconst (v := (0 : Int32)) hx hb dX5_sumBy_0 (by decide) ?_
  refine lv_istore_n (lv' := [(2, .int (0 : Int32)), (0, .ref l0), (1, .int a1)]) hx hb dX5_sumBy_1 rfl hl (by decide) rfl (fun ls hl => ?_)
  refine lv_iconst (v := (0 : Int32)) hx hb dX5_sumBy_2 (by decide) ?_
  refine lv_istore_n (lv' := [(3, .int (0 : Int32)), (2, .int (0 : Int32)), (0, .ref l0), (1, .int a1)]) hx hb dX5_sumBy_3 rfl hl (by decide) rfl (fun ls hl => ?_)
  exact L4 200 a1 (0 : Int32) (0 : Int32) _ (lv_sub hl [2, 3, 1, 0] rfl) hok
theorem hd_X5_gradesBy : yX5_gradesBy.cls = RX5 ∧ yX5_gradesBy.cls ≠ "java/lang/invoke/MethodHandle" ∧ yX5_gradesBy.cls ≠ "java/lang/invoke/VarHandle" ∧ (parseMethodDescriptor yX5_gradesBy.desc).map (fun d => d.parameters.length) = some 1 := by decide +kernel
def p_X5_gradesBy (uL : tX5) (a1 : Int32) : Option (Int32 × tX5) :=
  bd (p_X5_isMirror (uL.1, uL.2.1, uL.2.2.1, (0 : Int32), uL.2.2.2.2) a1) (fun v1 =>
  if v1 = 0 then
    bd (p_X5_fail (uL.1, uL.2.1, uL.2.2.1, (0 : Int32), uL.2.2.2.2) (1 : Int32)) (fun v2 =>
    some (v2.1, v2.2))
  else
    bd (p_X5_sumBy (uL.1, uL.2.1, uL.2.2.1, (0 : Int32), uL.2.2.2.2) a1) (fun v3 =>
    some (v3, (uL.1, uL.2.1, uL.2.2.1, (0 : Int32), uL.2.2.2.2))))
set_option maxHeartbeats 4000000 in
set_option maxRecDepth 100000 in
theorem c_X5_gradesBy (l : Launch) (dC : Nat → ClassId) (dI : Nat → Nat → Nat) (cI cZ : ClassId) (l0 l4 l5 l6 l8 l10 l11 l12 l13 l14 l15 l16 : Nat) (sz : Nat) (uL : tX5) (a1 : Int32) {z : (Int32 × tX5)} (hok : p_X5_gradesBy uL a1 = some z) : Met l yX5_gradesBy (Cond.code yX5_gradesBy cX5_gradesBy 2 (some .int) :: lw_all) { frames := 3, cells := 0, slots := 0, locals := 68 } (prW (dC, dI) vwCl (TYS cI cZ) ((wX5 cI cZ l0 l4 l5 l6 l8 l10 l11 l12 l13 l14 l15 l16 uL)) sz [.ref l0, .int a1]) (va_Qi (fun (r : Int32) (_ : Unit) => r = z.1) (fun _ t => va_P (dC, dI) vwCl ((wX5 cI cZ l0 l4 l5 l6 l8 l10 l11 l12 l13 l14 l15 l16 z.2)) t.heap) (va_A ((wX5 cI cZ l0 l4 l5 l6 l8 l10 l11 l12 l13 l14 l15 l16 uL)) sz)) 0 0 (va_A ((wX5 cI cZ l0 l4 l5 l6 l8 l10 l11 l12 l13 l14 l15 l16 uL)) sz) := by
  refine oM (by decide) (Nat.le_of_ble_eq_true rfl) ?_
  intro p e s m args below meth c S hr hlk hnm hB ls hl
  have hx := S.1
  have hb := S.2.1
  have hml := S.2.2.1
  have hown : s.vm.findClass RX5 = some m.cls := S.2.2.2.1
  have hts := S.2.2.2.2
  have S : CallFix p m c cX5_gradesBy 2 s args lw_all RX5 := S
  have hl : lv_has ls 2 [(0, .ref l0), (1, .int a1)] := hl
  obtain ⟨hsz, hP, hK, hD0⟩ := hB
  subst hsz
  have hD := hD0.self (sz := s.heap.size)
  generalize hAe : va_A ((wX5 cI cZ l0 l4 l5 l6 l8 l10 l11 l12 l13 l14 l15 l16 uL)) s.heap.size = A at hD ⊢
  have hA : ∀ q : Nat, s.heap.size ≤ q → A q := fun q h => by rw [← hAe]; exact Or.inr h
  have hS : va_S A s.heap s.heap [] := va_S.rf
  have hP : va_P (dC, dI) vwCl ((wX5 cI cZ l0 l4 l5 l6 l8 l10 l11 l12 l13 l14 l15 l16 uL)) s.heap := hP
  unfold p_X5_gradesBy at hok
  refine lv_aload_n hx hb dX5_gradesBy_0 rfl (lv_at hl 0 rfl) ?_
  refine lv_iconst (v := (0 : Int32)) hx hb dX5_gradesBy_1 (by decide) ?_
  refine va_put (D := (dC, dI)) (ci := 5) (v := .int (0 : Int32)) (ty := .int) (C := RX5) (T := TX5) (N := 18) hx hb hts inX5 tyX5 tyX5_ok nmX5 hown hK hP hD hS 0 rfl rfl 0 (by decide) (hts _ qf_X5_50) (fun _ h9 => h9) rfl (tyX5_ok 0 (by decide)) rfl rfl (Nat.le_of_ble_eq_true rfl) dX5_gradesBy_2 (fun H locs hP _ hS => ?_)
  have hP : va_P (dC, dI) vwCl ((wX5 cI cZ l0 l4 l5 l6 l8 l10 l11 l12 l13 l14 l15 l16 (uL.1, uL.2.1, uL.2.2.1, (0 : Int32), uL.2.2.2.2))) H := hP
  have hD : va_D A ((wX5 cI cZ l0 l4 l5 l6 l8 l10 l11 l12 l13 l14 l15 l16 (uL.1, uL.2.1, uL.2.2.1, (0 : Int32), uL.2.2.2.2))) := D_L hD
  refine lv_aload_n hx hb dX5_gradesBy_5 rfl (lv_at hl 0 rfl) ?_
  refine lv_iload_n hx hb dX5_gradesBy_6 rfl (lv_at hl 1 rfl) ?_
  obtain ⟨v1, hc1, hok⟩ := bd_some hok
  refine cRVi (ci := 5) (q0 := 0) [.int a1] S hK hP (c_X5_isMirror l dC dI cI cZ l0 l4 l5 l6 l8 l10 l11 l12 l13 l14 l15 l16 (uL.1, uL.2.1, uL.2.2.1, (0 : Int32), uL.2.2.2.2) a1 hc1) (lw_V qm_X5_164 qi_X5_isMirror qs_X5_isMirror qn_X5 qc_X5_isMirror) hd_X5_isMirror ⟨rfl, rfl⟩ ⟨Nat.le_of_ble_eq_true rfl, Nat.le_of_ble_eq_true rfl⟩ ⟨Nat.le_of_ble_eq_true rfl, Nat.le_of_ble_eq_true rfl⟩ rfl rfl rfl hl.1 (Nat.le_of_ble_eq_true rfl) rfl dX5_gradesBy_7 ?_
  refine lv_if_eq (tgt := 21) hx hb dX5_gradesBy_10 (by decide) (fun hc => ?_) (fun hc => ?_)
  · have hok := ip hok hc
    refine lv_aload_n hx hb dX5_gradesBy_21 rfl (lv_at hl 0 rfl) ?_
    refine lv_iconst (v := (1 : Int32)) hx hb dX5_gradesBy_22 (by decide) ?_
    obtain ⟨v2, hc2, hok⟩ := bd_some hok
    refine cWVi (ci := 5) (q0 := 0) [.int (1 : Int32)] S hK hP hD hS hA (c_X5_fail l dC dI cI cZ l0 l4 l5 l6 l8 l10 l11 l12 l13 l14 l15 l16 _ (uL.1, uL.2.1, uL.2.2.1, (0 : Int32), uL.2.2.2.2) (1 : Int32) hc2) (lw_V qm_X5_112 qi_X5_fail qs_X5_fail qn_X5 qc_X5_fail) hd_X5_fail ⟨rfl, rfl⟩ ⟨Nat.le_of_ble_eq_true rfl, Nat.le_of_ble_eq_true rfl⟩ ⟨Nat.le_of_ble_eq_true rfl, Nat.le_of_ble_eq_true rfl⟩ rfl rfl rfl hl.1 (Nat.le_of_ble_eq_true rfl) rfl dX5_gradesBy_23 (D_L hD) (fun H locs hP hD hS => ?_)
    have hok := Option.some.inj hok
    subst hok
    exact eWi S hr hlk rfl hP hS (Nat.le_of_ble_eq_true rfl) (Nat.le_of_ble_eq_true rfl) dX5_gradesBy_26
  · have hok := iq hok hc
    refine lv_aload_n hx hb dX5_gradesBy_13 rfl (lv_at hl 0 rfl) ?_
    refine lv_iload_n hx hb dX5_gradesBy_14 rfl (lv_at hl 1 rfl) ?_
    obtain ⟨v3, hc3, hok⟩ := bd_some hok
    refine cRVi (ci := 5) (q0 := 0) [.int a1] S hK hP (c_X5_sumBy l dC dI cI cZ l0 l4 l5 l6 l8 l10 l11 l12 l13 l14 l15 l16 (uL.1, uL.2.1, uL.2.2.1, (0 : Int32), uL.2.2.2.2) a1 hc3) (lw_V qm_X5_170 qi_X5_sumBy qs_X5_sumBy qn_X5 qc_X5_sumBy) hd_X5_sumBy ⟨rfl, rfl⟩ ⟨Nat.le_of_ble_eq_true rfl, Nat.le_of_ble_eq_true rfl⟩ ⟨Nat.le_of_ble_eq_true rfl, Nat.le_of_ble_eq_true rfl⟩ rfl rfl rfl hl.1 (Nat.le_of_ble_eq_true rfl) rfl dX5_gradesBy_15 ?_
    refine lv_goto (tgt := 26) hx hb dX5_gradesBy_18 (by decide) ?_
    have hok := Option.some.inj hok
    subst hok
    exact eWi S hr hlk rfl hP hS (Nat.le_of_ble_eq_true rfl) (Nat.le_of_ble_eq_true rfl) dX5_gradesBy_26
theorem hd_X5_liked : yX5_liked.cls = RX5 ∧ yX5_liked.cls ≠ "java/lang/invoke/MethodHandle" ∧ yX5_liked.cls ≠ "java/lang/invoke/VarHandle" ∧ (parseMethodDescriptor yX5_liked.desc).map (fun d => d.parameters.length) = some 1 := by decide +kernel
def p_X5_liked_J35 (rec4 : tX5 → Int32 → Int32 → Int32 → Option Int32) (uL : tX5) (l35_1 : Int32) (l35_3 : Int32) : Option Int32 :=
  rec4 uL l35_1 l35_3 (l35_3 + 1)
def p_X5_liked_L4 : Nat → tX5 → Int32 → Int32 → Int32 → Option Int32
  | 0, _, _, _, _ => none
  | n + 1, uL, l4_1, l4_2, l4_3 =>
    if (uL.1 8) ≤ l4_3 then
      some l4_2
    else
      if l4_2 = (-1 : Int32) then
        p_X5_liked_J35 (p_X5_liked_L4 n) uL l4_1 l4_3
      else
        bd (p_X5_graded uL l4_1 l4_3) (fun v1 =>
        bd (p_X5_graded uL l4_1 l4_2) (fun v2 =>
        if v1 ≤ v2 then
          (p_X5_liked_L4 n) uL l4_1 l4_2 (l4_3 + 1)
        else
          p_X5_liked_J35 (p_X5_liked_L4 n) uL l4_1 l4_3))
def p_X5_liked (uL : tX5) (a1 : Int32) : Option Int32 :=
  p_X5_liked_L4 200 uL a1 (-1 : Int32) (0 : Int32)
set_option maxHeartbeats 4000000 in
set_option maxRecDepth 100000 in
theorem c_X5_liked (l : Launch) (dC : Nat → ClassId) (dI : Nat → Nat → Nat) (cI cZ : ClassId) (l0 l4 l5 l6 l8 l10 l11 l12 l13 l14 l15 l16 : Nat) (uL : tX5) (a1 : Int32) {z : Int32} (hok : p_X5_liked uL a1 = some z) : Met l yX5_liked (Cond.code yX5_liked cX5_liked 4 (some .int) :: lw_all) { frames := 2, cells := 0, slots := 0, locals := 45 } (prR (dC, dI) vwCl (TYS cI cZ) ((wX5 cI cZ l0 l4 l5 l6 l8 l10 l11 l12 l13 l14 l15 l16 uL)) [.ref l0, .int a1]) (vp_Si (fun r => r = z)) 0 0 (fun _ => False) := by
  refine oM (by decide) (Nat.le_of_ble_eq_true rfl) ?_
  intro p e s m args below meth c S hr hlk hnm hB ls hl
  have hx := S.1
  have hb := S.2.1
  have hml := S.2.2.1
  have hown : s.vm.findClass RX5 = some m.cls := S.2.2.2.1
  have hts := S.2.2.2.2
  have S : CallFix p m c cX5_liked 4 s args lw_all RX5 := S
  have hl : lv_has ls 4 [(0, .ref l0), (1, .int a1)] := hl
  obtain ⟨hP, hK⟩ := hB
  have hP : va_P (dC, dI) vwCl ((wX5 cI cZ l0 l4 l5 l6 l8 l10 l11 l12 l13 l14 l15 l16 uL)) s.heap := hP
  have L4 : ∀ n4 : Nat, ∀ (l4_1 : Int32) (l4_2 : Int32) (l4_3 : Int32) (ls : Array Slot) (hl : lv_has ls 4 [(0, .ref l0), (1, .int l4_1), (2, .int l4_2), (3, .int l4_3)]) (hok : p_X5_liked_L4 n4 uL l4_1 l4_2 l4_3 = some z), W p l e { frames := 2, cells := 0, slots := 0, locals := 45 } s m args below meth c s.heap [] 0 0 (MQ below (vp_Si (fun r => r = z)) args s 0 0 (fun _ => False)) (F0 m 4 ls []) := by
    intro n4
    induction n4 with
    | zero =>
      intro l4_1 l4_2 l4_3 ls hl hok
      rw [p_X5_liked_L4] at hok
      cases hok
    | succ n4 ih4 =>
      have J35 : ∀ (l35_1 : Int32) (l35_3 : Int32) (ls : Array Slot) (hl : lv_has ls 4 [(0, .ref l0), (1, .int l35_1), (3, .int l35_3)]) (hok : p_X5_liked_J35 (p_X5_liked_L4 n4) uL l35_1 l35_3 = some z), W p l e { frames := 2, cells := 0, slots := 0, locals := 45 } s m args below meth c s.heap [] 0 0 (MQ below (vp_Si (fun r => r = z)) args s 0 0 (fun _ => False)) (F0 m 35 ls []) := by
        intro l35_1 l35_3 ls hl hok
        unfold p_X5_liked_J35 at hok
        refine lv_iload_n hx hb dX5_liked_35 rfl (lv_at hl 2 rfl) ?_
        refine lv_istore_n (lv' := [(2, .int l35_3), (0, .ref l0), (1, .int l35_1), (3, .int l35_3)]) hx hb dX5_liked_36 rfl hl (by decide) rfl (fun ls hl => ?_)
        refine lv_iinc (v := (l35_3 + 1)) (lv' := [(3, .int (l35_3 + 1)), (2, .int l35_3), (0, .ref l0), (1, .int l35_1)]) hx hb dX5_liked_37 hl (k := 3) rfl rfl (by decide) rfl (fun ls hl => ?_)
        refine lv_goto (tgt := 4) hx hb dX5_liked_40 (by decide) ?_
        exact ih4 l35_1 l35_3 (l35_3 + 1) _ (lv_sub hl [2, 3, 1, 0] rfl) hok
      intro l4_1 l4_2 l4_3 ls hl hok
      rw [p_X5_liked_L4] at hok
      refine lv_iload_n hx hb dX5_liked_4 rfl (lv_at hl 3 rfl) ?_
      refine lv_aload_n hx hb dX5_liked_5 rfl (lv_at hl 0 rfl) ?_
      refine va_get (D := (dC, dI)) (ci := 5) (v := .ref l15) (C := RX5) (T := TX5) (N := 18) hx hb hts inX5 hown hK hP 0 rfl rfl 15 (by decide) (hts _ qf_X5_44) (fun _ h9 => h9) rfl dX5_liked_6 ?_
      refine lv_bipush (v := (8 : Int32)) hx hb dX5_liked_9 (by decide) ?_
      refine va_ialdK hx hb hK hP 10 0 rfl rfl (j := 8) (by decide) (vp_inK (by decide)) dX5_liked_11 ?_
      refine lv_icmp_ge (tgt := 43) hx hb dX5_liked_12 (by decide) (fun hc => ?_) (fun hc => ?_)
      · have hok := ip hok hc
        refine lv_iload_n hx hb dX5_liked_43 rfl (lv_at hl 2 rfl) ?_
        exact eRi S hr hlk (Option.some.inj hok) dX5_liked_44
      · have hok := iq hok hc
        refine lv_iload_n hx hb dX5_liked_15 rfl (lv_at hl 2 rfl) ?_
        refine lv_iconst (v := (-1 : Int32)) hx hb dX5_liked_16 (by decide) ?_
        refine lv_icmp_eq (tgt := 35) hx hb dX5_liked_17 (by decide) (fun hc => ?_) (fun hc => ?_)
        · have hok := ip hok hc
          exact J35 l4_1 l4_3 _ (lv_sub hl [0, 1, 3] rfl) hok
        · have hok := iq hok hc
          refine lv_aload_n hx hb dX5_liked_20 rfl (lv_at hl 0 rfl) ?_
          refine lv_iload_n hx hb dX5_liked_21 rfl (lv_at hl 1 rfl) ?_
          refine lv_iload_n hx hb dX5_liked_22 rfl (lv_at hl 3 rfl) ?_
          obtain ⟨v1, hc1, hok⟩ := bd_some hok
          refine cRVi (ci := 5) (q0 := 0) [.int l4_1, .int l4_3] S hK hP (c_X5_graded l dC dI cI cZ l0 l4 l5 l6 l8 l10 l11 l12 l13 l14 l15 l16 uL l4_1 l4_3 hc1) (lw_V qm_X5_167 qi_X5_graded qs_X5_graded qn_X5 qc_X5_graded) hd_X5_graded ⟨rfl, rfl⟩ ⟨Nat.le_of_ble_eq_true rfl, Nat.le_of_ble_eq_true rfl⟩ ⟨Nat.le_of_ble_eq_true rfl, Nat.le_of_ble_eq_true rfl⟩ rfl rfl rfl hl.1 (Nat.le_of_ble_eq_true rfl) rfl dX5_liked_23 ?_
          refine lv_aload_n hx hb dX5_liked_26 rfl (lv_at hl 0 rfl) ?_
          refine lv_iload_n hx hb dX5_liked_27 rfl (lv_at hl 1 rfl) ?_
          refine lv_iload_n hx hb dX5_liked_28 rfl (lv_at hl 2 rfl) ?_
          obtain ⟨v2, hc2, hok⟩ := bd_some hok
          refine cRVi (ci := 5) (q0 := 0) [.int l4_1, .int l4_2] S hK hP (c_X5_graded l dC dI cI cZ l0 l4 l5 l6 l8 l10 l11 l12 l13 l14 l15 l16 uL l4_1 l4_2 hc2) (lw_V qm_X5_167 qi_X5_graded qs_X5_graded qn_X5 qc_X5_graded) hd_X5_graded ⟨rfl, rfl⟩ ⟨Nat.le_of_ble_eq_true rfl, Nat.le_of_ble_eq_true rfl⟩ ⟨Nat.le_of_ble_eq_true rfl, Nat.le_of_ble_eq_true rfl⟩ rfl rfl rfl hl.1 (Nat.le_of_ble_eq_true rfl) rfl dX5_liked_29 ?_
          refine lv_icmp_le (tgt := 37) hx hb dX5_liked_32 (by decide) (fun hc => ?_) (fun hc => ?_)
          · have hok := ip hok hc
            refine lv_iinc (v := (l4_3 + 1)) (lv' := [(3, .int (l4_3 + 1)), (0, .ref l0), (1, .int l4_1), (2, .int l4_2)]) hx hb dX5_liked_37 hl (k := 3) rfl rfl (by decide) rfl (fun ls hl => ?_)
            refine lv_goto (tgt := 4) hx hb dX5_liked_40 (by decide) ?_
            exact ih4 l4_1 l4_2 (l4_3 + 1) _ (lv_sub hl [1, 2, 3, 0] rfl) hok
          · have hok := iq hok hc
            exact J35 l4_1 l4_3 _ (lv_sub hl [0, 1, 3] rfl) hok
  unfold p_X5_liked at hok
  refine lv_iconst (v := (-1 : Int32)) hx hb dX5_liked_0 (by decide) ?_
  refine lv_istore_n (lv' := [(2, .int (-1 : Int32)), (0, .ref l0), (1, .int a1)]) hx hb dX5_liked_1 rfl hl (by decide) rfl (fun ls hl => ?_)
  refine lv_iconst (v := (0 : Int32)) hx hb dX5_liked_2 (by decide) ?_
  refine lv_istore_n (lv' := [(3, .int (0 : Int32)), (2, .int (-1 : Int32)), (0, .ref l0), (1, .int a1)]) hx hb dX5_liked_3 rfl hl (by decide) rfl (fun ls hl => ?_)
  exact L4 200 a1 (-1 : Int32) (0 : Int32) _ (lv_sub hl [2, 3, 1, 0] rfl) hok
theorem hd_X5_favouriteOf : yX5_favouriteOf.cls = RX5 ∧ yX5_favouriteOf.cls ≠ "java/lang/invoke/MethodHandle" ∧ yX5_favouriteOf.cls ≠ "java/lang/invoke/VarHandle" ∧ (parseMethodDescriptor yX5_favouriteOf.desc).map (fun d => d.parameters.length) = some 1 := by decide +kernel
def p_X5_favouriteOf (uL : tX5) (a1 : Int32) : Option (Int32 × tX5) :=
  bd (p_X5_isMirror (uL.1, uL.2.1, uL.2.2.1, (0 : Int32), uL.2.2.2.2) a1) (fun v1 =>
  if v1 = 0 then
    bd (p_X5_fail (uL.1, uL.2.1, uL.2.2.1, (0 : Int32), uL.2.2.2.2) (1 : Int32)) (fun v2 =>
    some (v2.1, v2.2))
  else
    bd (p_X5_liked (uL.1, uL.2.1, uL.2.2.1, (0 : Int32), uL.2.2.2.2) a1) (fun v3 =>
    some (v3, (uL.1, uL.2.1, uL.2.2.1, (0 : Int32), uL.2.2.2.2))))
set_option maxHeartbeats 4000000 in
set_option maxRecDepth 100000 in
theorem c_X5_favouriteOf (l : Launch) (dC : Nat → ClassId) (dI : Nat → Nat → Nat) (cI cZ : ClassId) (l0 l4 l5 l6 l8 l10 l11 l12 l13 l14 l15 l16 : Nat) (sz : Nat) (uL : tX5) (a1 : Int32) {z : (Int32 × tX5)} (hok : p_X5_favouriteOf uL a1 = some z) : Met l yX5_favouriteOf (Cond.code yX5_favouriteOf cX5_favouriteOf 2 (some .int) :: lw_all) { frames := 3, cells := 0, slots := 0, locals := 68 } (prW (dC, dI) vwCl (TYS cI cZ) ((wX5 cI cZ l0 l4 l5 l6 l8 l10 l11 l12 l13 l14 l15 l16 uL)) sz [.ref l0, .int a1]) (va_Qi (fun (r : Int32) (_ : Unit) => r = z.1) (fun _ t => va_P (dC, dI) vwCl ((wX5 cI cZ l0 l4 l5 l6 l8 l10 l11 l12 l13 l14 l15 l16 z.2)) t.heap) (va_A ((wX5 cI cZ l0 l4 l5 l6 l8 l10 l11 l12 l13 l14 l15 l16 uL)) sz)) 0 0 (va_A ((wX5 cI cZ l0 l4 l5 l6 l8 l10 l11 l12 l13 l14 l15 l16 uL)) sz) := by
  refine oM (by decide) (Nat.le_of_ble_eq_true rfl) ?_
  intro p e s m args below meth c S hr hlk hnm hB ls hl
  have hx := S.1
  have hb := S.2.1
  have hml := S.2.2.1
  have hown : s.vm.findClass RX5 = some m.cls := S.2.2.2.1
  have hts := S.2.2.2.2
  have S : CallFix p m c cX5_favouriteOf 2 s args lw_all RX5 := S
  have hl : lv_has ls 2 [(0, .ref l0), (1, .int a1)] := hl
  obtain ⟨hsz, hP, hK, hD0⟩ := hB
  subst hsz
  have hD := hD0.self (sz := s.heap.size)
  generalize hAe : va_A ((wX5 cI cZ l0 l4 l5 l6 l8 l10 l11 l12 l13 l14 l15 l16 uL)) s.heap.size = A at hD ⊢
  have hA : ∀ q : Nat, s.heap.size ≤ q → A q := fun q h => by rw [← hAe]; exact Or.inr h
  have hS : va_S A s.heap s.heap [] := va_S.rf
  have hP : va_P (dC, dI) vwCl ((wX5 cI cZ l0 l4 l5 l6 l8 l10 l11 l12 l13 l14 l15 l16 uL)) s.heap := hP
  unfold p_X5_favouriteOf at hok
  refine lv_aload_n hx hb dX5_favouriteOf_0 rfl (lv_at hl 0 rfl) ?_
  refine lv_iconst (v := (0 : Int32)) hx hb dX5_favouriteOf_1 (by decide) ?_
  refine va_put (D := (dC, dI)) (ci := 5) (v := .int (0 : Int32)) (ty := .int) (C := RX5) (T := TX5) (N := 18) hx hb hts inX5 tyX5 tyX5_ok nmX5 hown hK hP hD hS 0 rfl rfl 0 (by decide) (hts _ qf_X5_50) (fun _ h9 => h9) rfl (tyX5_ok 0 (by decide)) rfl rfl (Nat.le_of_ble_eq_true rfl) dX5_favouriteOf_2 (fun H locs hP _ hS => ?_)
  have hP : va_P (dC, dI) vwCl ((wX5 cI cZ l0 l4 l5 l6 l8 l10 l11 l12 l13 l14 l15 l16 (uL.1, uL.2.1, uL.2.2.1, (0 : Int32), uL.2.2.2.2))) H := hP
  have hD : va_D A ((wX5 cI cZ l0 l4 l5 l6 l8 l10 l11 l12 l13 l14 l15 l16 (uL.1, uL.2.1, uL.2.2.1, (0 : Int32), uL.2.2.2.2))) := D_L hD
  refine lv_aload_n hx hb dX5_favouriteOf_5 rfl (lv_at hl 0 rfl) ?_
  refine lv_iload_n hx hb dX5_favouriteOf_6 rfl (lv_at hl 1 rfl) ?_
  obtain ⟨v1, hc1, hok⟩ := bd_some hok
  refine cRVi (ci := 5) (q0 := 0) [.int a1] S hK hP (c_X5_isMirror l dC dI cI cZ l0 l4 l5 l6 l8 l10 l11 l12 l13 l14 l15 l16 (uL.1, uL.2.1, uL.2.2.1, (0 : Int32), uL.2.2.2.2) a1 hc1) (lw_V qm_X5_164 qi_X5_isMirror qs_X5_isMirror qn_X5 qc_X5_isMirror) hd_X5_isMirror ⟨rfl, rfl⟩ ⟨Nat.le_of_ble_eq_true rfl, Nat.le_of_ble_eq_true rfl⟩ ⟨Nat.le_of_ble_eq_true rfl, Nat.le_of_ble_eq_true rfl⟩ rfl rfl rfl hl.1 (Nat.le_of_ble_eq_true rfl) rfl dX5_favouriteOf_7 ?_
  refine lv_if_eq (tgt := 21) hx hb dX5_favouriteOf_10 (by decide) (fun hc => ?_) (fun hc => ?_)
  · have hok := ip hok hc
    refine lv_aload_n hx hb dX5_favouriteOf_21 rfl (lv_at hl 0 rfl) ?_
    refine lv_iconst (v := (1 : Int32)) hx hb dX5_favouriteOf_22 (by decide) ?_
    obtain ⟨v2, hc2, hok⟩ := bd_some hok
    refine cWVi (ci := 5) (q0 := 0) [.int (1 : Int32)] S hK hP hD hS hA (c_X5_fail l dC dI cI cZ l0 l4 l5 l6 l8 l10 l11 l12 l13 l14 l15 l16 _ (uL.1, uL.2.1, uL.2.2.1, (0 : Int32), uL.2.2.2.2) (1 : Int32) hc2) (lw_V qm_X5_112 qi_X5_fail qs_X5_fail qn_X5 qc_X5_fail) hd_X5_fail ⟨rfl, rfl⟩ ⟨Nat.le_of_ble_eq_true rfl, Nat.le_of_ble_eq_true rfl⟩ ⟨Nat.le_of_ble_eq_true rfl, Nat.le_of_ble_eq_true rfl⟩ rfl rfl rfl hl.1 (Nat.le_of_ble_eq_true rfl) rfl dX5_favouriteOf_23 (D_L hD) (fun H locs hP hD hS => ?_)
    have hok := Option.some.inj hok
    subst hok
    exact eWi S hr hlk rfl hP hS (Nat.le_of_ble_eq_true rfl) (Nat.le_of_ble_eq_true rfl) dX5_favouriteOf_26
  · have hok := iq hok hc
    refine lv_aload_n hx hb dX5_favouriteOf_13 rfl (lv_at hl 0 rfl) ?_
    refine lv_iload_n hx hb dX5_favouriteOf_14 rfl (lv_at hl 1 rfl) ?_
    obtain ⟨v3, hc3, hok⟩ := bd_some hok
    refine cRVi (ci := 5) (q0 := 0) [.int a1] S hK hP (c_X5_liked l dC dI cI cZ l0 l4 l5 l6 l8 l10 l11 l12 l13 l14 l15 l16 (uL.1, uL.2.1, uL.2.2.1, (0 : Int32), uL.2.2.2.2) a1 hc3) (lw_V qm_X5_173 qi_X5_liked qs_X5_liked qn_X5 qc_X5_liked) hd_X5_liked ⟨rfl, rfl⟩ ⟨Nat.le_of_ble_eq_true rfl, Nat.le_of_ble_eq_true rfl⟩ ⟨Nat.le_of_ble_eq_true rfl, Nat.le_of_ble_eq_true rfl⟩ rfl rfl rfl hl.1 (Nat.le_of_ble_eq_true rfl) rfl dX5_favouriteOf_15 ?_
    refine lv_goto (tgt := 26) hx hb dX5_favouriteOf_18 (by decide) ?_
    have hok := Option.some.inj hok
    subst hok
    exact eWi S hr hlk rfl hP hS (Nat.le_of_ble_eq_true rfl) (Nat.le_of_ble_eq_true rfl) dX5_favouriteOf_26
theorem hd_X5_kind : yX5_kind.cls = RX5 ∧ yX5_kind.cls ≠ "java/lang/invoke/MethodHandle" ∧ yX5_kind.cls ≠ "java/lang/invoke/VarHandle" ∧ (parseMethodDescriptor yX5_kind.desc).map (fun d => d.parameters.length) = some 0 := by decide +kernel
def p_X5_kind_J30 (rec4 : tX5 → Int32 → Int32 → Option Int32) (uL : tX5) (l30_2 : Int32) : Option Int32 :=
  rec4 uL l30_2 (l30_2 + 1)
def p_X5_kind_L4 : Nat → tX5 → Int32 → Int32 → Option Int32
  | 0, _, _, _ => none
  | n + 1, uL, l4_1, l4_2 =>
    if uL.2.2.2.2.2.2.2.2.2.2.2.2.1 ≤ l4_2 then
      some l4_1
    else
      if l4_1 = (-1 : Int32) then
        p_X5_kind_J30 (p_X5_kind_L4 n) uL l4_2
      else
        bd (p_X5_sumBy uL l4_2) (fun v1 =>
        bd (p_X5_sumBy uL l4_1) (fun v2 =>
        if v1 ≤ v2 then
          (p_X5_kind_L4 n) uL l4_1 (l4_2 + 1)
        else
          p_X5_kind_J30 (p_X5_kind_L4 n) uL l4_2))
def p_X5_kind (uL : tX5) : Option Int32 :=
  p_X5_kind_L4 200 uL (-1 : Int32) (0 : Int32)
set_option maxHeartbeats 4000000 in
set_option maxRecDepth 100000 in
theorem c_X5_kind (l : Launch) (dC : Nat → ClassId) (dI : Nat → Nat → Nat) (cI cZ : ClassId) (l0 l4 l5 l6 l8 l10 l11 l12 l13 l14 l15 l16 : Nat) (uL : tX5) {z : Int32} (hok : p_X5_kind uL = some z) : Met l yX5_kind (Cond.code yX5_kind cX5_kind 3 (some .int) :: lw_all) { frames := 3, cells := 0, slots := 0, locals := 68 } (prR (dC, dI) vwCl (TYS cI cZ) ((wX5 cI cZ l0 l4 l5 l6 l8 l10 l11 l12 l13 l14 l15 l16 uL)) [.ref l0]) (vp_Si (fun r => r = z)) 0 0 (fun _ => False) := by
  refine oM (by decide) (Nat.le_of_ble_eq_true rfl) ?_
  intro p e s m args below meth c S hr hlk hnm hB ls hl
  have hx := S.1
  have hb := S.2.1
  have hml := S.2.2.1
  have hown : s.vm.findClass RX5 = some m.cls := S.2.2.2.1
  have hts := S.2.2.2.2
  have S : CallFix p m c cX5_kind 3 s args lw_all RX5 := S
  have hl : lv_has ls 3 [(0, .ref l0)] := hl
  obtain ⟨hP, hK⟩ := hB
  have hP : va_P (dC, dI) vwCl ((wX5 cI cZ l0 l4 l5 l6 l8 l10 l11 l12 l13 l14 l15 l16 uL)) s.heap := hP
  have L4 : ∀ n4 : Nat, ∀ (l4_1 : Int32) (l4_2 : Int32) (ls : Array Slot) (hl : lv_has ls 3 [(0, .ref l0), (1, .int l4_1), (2, .int l4_2)]) (hok : p_X5_kind_L4 n4 uL l4_1 l4_2 = some z), W p l e { frames := 3, cells := 0, slots := 0, locals := 68 } s m args below meth c s.heap [] 0 0 (MQ below (vp_Si (fun r => r = z)) args s 0 0 (fun _ => False)) (F0 m 4 ls []) := by
    intro n4
    induction n4 with
    | zero =>
      intro l4_1 l4_2 ls hl hok
      rw [p_X5_kind_L4] at hok
      cases hok
    | succ n4 ih4 =>
      have J30 : ∀ (l30_2 : Int32) (ls : Array Slot) (hl : lv_has ls 3 [(0, .ref l0), (2, .int l30_2)]) (hok : p_X5_kind_J30 (p_X5_kind_L4 n4) uL l30_2 = some z), W p l e { frames := 3, cells := 0, slots := 0, locals := 68 } s m args below meth c s.heap [] 0 0 (MQ below (vp_Si (fun r => r = z)) args s 0 0 (fun _ => False)) (F0 m 30 ls []) := by
        intro l30_2 ls hl hok
        unfold p_X5_kind_J30 at hok
        refine lv_iload_n hx hb dX5_kind_30 rfl (lv_at hl 1 rfl) ?_
        refine lv_istore_n (lv' := [(1, .int l30_2), (0, .ref l0), (2, .int l30_2)]) hx hb dX5_kind_31 rfl hl (by decide) rfl (fun ls hl => ?_)
        refine lv_iinc (v := (l30_2 + 1)) (lv' := [(2, .int (l30_2 + 1)), (1, .int l30_2), (0, .ref l0)]) hx hb dX5_kind_32 hl (k := 2) rfl rfl (by decide) rfl (fun ls hl => ?_)
        refine lv_goto (tgt := 4) hx hb dX5_kind_35 (by decide) ?_
        exact ih4 l30_2 (l30_2 + 1) _ (lv_sub hl [2, 1, 0] rfl) hok
      intro l4_1 l4_2 ls hl hok
      rw [p_X5_kind_L4] at hok
      refine lv_iload_n hx hb dX5_kind_4 rfl (lv_at hl 2 rfl) ?_
      refine lv_aload_n hx hb dX5_kind_5 rfl (lv_at hl 0 rfl) ?_
      refine va_get (D := (dC, dI)) (ci := 5) (v := .int uL.2.2.2.2.2.2.2.2.2.2.2.2.1) (C := RX5) (T := TX5) (N := 18) hx hb hts inX5 hown hK hP 0 rfl rfl 9 (by decide) (hts _ qf_X5_60) (fun _ h9 => h9) rfl dX5_kind_6 ?_
      refine lv_icmp_ge (tgt := 38) hx hb dX5_kind_9 (by decide) (fun hc => ?_) (fun hc => ?_)
      · have hok := ip hok hc
        refine lv_iload_n hx hb dX5_kind_38 rfl (lv_at hl 1 rfl) ?_
        exact eRi S hr hlk (Option.some.inj hok) dX5_kind_39
      · have hok := iq hok hc
        refine lv_iload_n hx hb dX5_kind_12 rfl (lv_at hl 1 rfl) ?_
        refine lv_iconst (v := (-1 : Int32)) hx hb dX5_kind_13 (by decide) ?_
        refine lv_icmp_eq (tgt := 30) hx hb dX5_kind_14 (by decide) (fun hc => ?_) (fun hc => ?_)
        · have hok := ip hok hc
          exact J30 l4_2 _ (lv_sub hl [0, 2] rfl) hok
        · have hok := iq hok hc
          refine lv_aload_n hx hb dX5_kind_17 rfl (lv_at hl 0 rfl) ?_
          refine lv_iload_n hx hb dX5_kind_18 rfl (lv_at hl 2 rfl) ?_
          obtain ⟨v1, hc1, hok⟩ := bd_some hok
          refine cRVi (ci := 5) (q0 := 0) [.int l4_2] S hK hP (c_X5_sumBy l dC dI cI cZ l0 l4 l5 l6 l8 l10 l11 l12 l13 l14 l15 l16 uL l4_2 hc1) (lw_V qm_X5_170 qi_X5_sumBy qs_X5_sumBy qn_X5 qc_X5_sumBy) hd_X5_sumBy ⟨rfl, rfl⟩ ⟨Nat.le_of_ble_eq_true rfl, Nat.le_of_ble_eq_true rfl⟩ ⟨Nat.le_of_ble_eq_true rfl, Nat.le_of_ble_eq_true rfl⟩ rfl rfl rfl hl.1 (Nat.le_of_ble_eq_true rfl) rfl dX5_kind_19 ?_
          refine lv_aload_n hx hb dX5_kind_22 rfl (lv_at hl 0 rfl) ?_
          refine lv_iload_n hx hb dX5_kind_23 rfl (lv_at hl 1 rfl) ?_
          obtain ⟨v2, hc2, hok⟩ := bd_some hok
          refine cRVi (ci := 5) (q0 := 0) [.int l4_1] S hK hP (c_X5_sumBy l dC dI cI cZ l0 l4 l5 l6 l8 l10 l11 l12 l13 l14 l15 l16 uL l4_1 hc2) (lw_V qm_X5_170 qi_X5_sumBy qs_X5_sumBy qn_X5 qc_X5_sumBy) hd_X5_sumBy ⟨rfl, rfl⟩ ⟨Nat.le_of_ble_eq_true rfl, Nat.le_of_ble_eq_true rfl⟩ ⟨Nat.le_of_ble_eq_true rfl, Nat.le_of_ble_eq_true rfl⟩ rfl rfl rfl hl.1 (Nat.le_of_ble_eq_true rfl) rfl dX5_kind_24 ?_
          refine lv_icmp_le (tgt := 32) hx hb dX5_kind_27 (by decide) (fun hc => ?_) (fun hc => ?_)
          · have hok := ip hok hc
            refine lv_iinc (v := (l4_2 + 1)) (lv' := [(2, .int (l4_2 + 1)), (0, .ref l0), (1, .int l4_1)]) hx hb dX5_kind_32 hl (k := 2) rfl rfl (by decide) rfl (fun ls hl => ?_)
            refine lv_goto (tgt := 4) hx hb dX5_kind_35 (by decide) ?_
            exact ih4 l4_1 (l4_2 + 1) _ (lv_sub hl [1, 2, 0] rfl) hok
          · have hok := iq hok hc
            exact J30 l4_2 _ (lv_sub hl [0, 2] rfl) hok
  unfold p_X5_kind at hok
  refine lv_iconst (v := (-1 : Int32)) hx hb dX5_kind_0 (by decide) ?_
  refine lv_istore_n (lv' := [(1, .int (-1 : Int32)), (0, .ref l0)]) hx hb dX5_kind_1 rfl hl (by decide) rfl (fun ls hl => ?_)
  refine lv_iconst (v := (0 : Int32)) hx hb dX5_kind_2 (by decide) ?_
  refine lv_istore_n (lv' := [(2, .int (0 : Int32)), (1, .int (-1 : Int32)), (0, .ref l0)]) hx hb dX5_kind_3 rfl hl (by decide) rfl (fun ls hl => ?_)
  exact L4 200 (-1 : Int32) (0 : Int32) _ (lv_sub hl [2, 1, 0] rfl) hok
