theorem hd_X5_kindest : yX5_kindest.cls = RX5 ∧ yX5_kindest.cls ≠ "java/lang/invoke/MethodHandle" ∧ yX5_kindest.cls ≠ "java/lang/invoke/VarHandle" ∧ (parseMethodDescriptor yX5_kindest.desc).map (fun d => d.parameters.length) = some 0 := by decide +kernel
def p_X5_kindest (uL : tX5) : Option (Int32 × tX5) :=
  bd (p_X5_kind uL) (fun v1 =>
  bd (p_X5_told uL v1) (fun v2 =>
  some (v2.1, v2.2)))
set_option maxHeartbeats 4000000 in
set_option maxRecDepth 100000 in
theorem c_X5_kindest (l : Launch) (dC : Nat → ClassId) (dI : Nat → Nat → Nat) (cI cZ : ClassId) (l0 l4 l5 l6 l8 l10 l11 l12 l13 l14 l15 l16 : Nat) (sz : Nat) (uL : tX5) {z : (Int32 × tX5)} (hok : p_X5_kindest uL = some z) : Met l yX5_kindest (Cond.code yX5_kindest cX5_kindest 1 (some .int) :: lw_all) { frames := 4, cells := 0, slots := 0, locals := 90 } (prW (dC, dI) vwCl (TYS cI cZ) ((wX5 cI cZ l0 l4 l5 l6 l8 l10 l11 l12 l13 l14 l15 l16 uL)) sz [.ref l0]) (va_Qi (fun (r : Int32) (_ : Unit) => r = z.1) (fun _ t => va_P (dC, dI) vwCl ((wX5 cI cZ l0 l4 l5 l6 l8 l10 l11 l12 l13 l14 l15 l16 z.2)) t.heap) (va_A ((wX5 cI cZ l0 l4 l5 l6 l8 l10 l11 l12 l13 l14 l15 l16 uL)) sz)) 0 0 (va_A ((wX5 cI cZ l0 l4 l5 l6 l8 l10 l11 l12 l13 l14 l15 l16 uL)) sz) := by
  refine oM (by decide) (Nat.le_of_ble_eq_true rfl) ?_
  intro p e s m args below meth c S hr hlk hnm hB ls hl
  have hx := S.1
  have hb := S.2.1
  have hml := S.2.2.1
  have hown : s.vm.findClass RX5 = some m.cls := S.2.2.2.1
  have hts := S.2.2.2.2
  have S : CallFix p m c cX5_kindest 1 s args lw_all RX5 := S
  have hl : lv_has ls 1 [(0, .ref l0)] := hl
  obtain ⟨hsz, hP, hK, hD0⟩ := hB
  subst hsz
  have hD := hD0.self (sz := s.heap.size)
  generalize hAe : va_A ((wX5 cI cZ l0 l4 l5 l6 l8 l10 l11 l12 l13 l14 l15 l16 uL)) s.heap.size = A at hD ⊢
  have hA : ∀ q : Nat, s.heap.size ≤ q → A q := fun q h => by rw [← hAe]; exact Or.inr h
  have hS : va_S A s.heap s.heap [] := va_S.rf
  have hP : va_P (dC, dI) vwCl ((wX5 cI cZ l0 l4 l5 l6 l8 l10 l11 l12 l13 l14 l15 l16 uL)) s.heap := hP
  unfold p_X5_kindest at hok
  refine lv_aload_n hx hb dX5_kindest_0 rfl (lv_at hl 0 rfl) ?_
  refine lv_aload_n hx hb dX5_kindest_1 rfl (lv_at hl 0 rfl) ?_
  obtain ⟨v1, hc1, hok⟩ := bd_some hok
  refine cRVi (ci := 5) (q0 := 0) [] S hK hP (c_X5_kind l dC dI cI cZ l0 l4 l5 l6 l8 l10 l11 l12 l13 l14 l15 l16 uL hc1) (lw_V qm_X5_176 qi_X5_kind qs_X5_kind qn_X5 qc_X5_kind) hd_X5_kind ⟨rfl, rfl⟩ ⟨Nat.le_of_ble_eq_true rfl, Nat.le_of_ble_eq_true rfl⟩ ⟨Nat.le_of_ble_eq_true rfl, Nat.le_of_ble_eq_true rfl⟩ rfl rfl rfl hl.1 (Nat.le_of_ble_eq_true rfl) rfl dX5_kindest_2 ?_
  obtain ⟨v2, hc2, hok⟩ := bd_some hok
  refine cWVi (ci := 5) (q0 := 0) [.int v1] S hK hP hD hS hA (c_X5_told l dC dI cI cZ l0 l4 l5 l6 l8 l10 l11 l12 l13 l14 l15 l16 _ uL v1 hc2) (lw_V qm_X5_125 qi_X5_told qs_X5_told qn_X5 qc_X5_told) hd_X5_told ⟨rfl, rfl⟩ ⟨Nat.le_of_ble_eq_true rfl, Nat.le_of_ble_eq_true rfl⟩ ⟨Nat.le_of_ble_eq_true rfl, Nat.le_of_ble_eq_true rfl⟩ rfl rfl rfl hl.1 (Nat.le_of_ble_eq_true rfl) rfl dX5_kindest_5 (D_L hD) (fun H locs hP hD hS => ?_)
  have hok := Option.some.inj hok
  subst hok
  exact eWi S hr hlk rfl hP hS (Nat.le_of_ble_eq_true rfl) (Nat.le_of_ble_eq_true rfl) dX5_kindest_8
theorem hd_X5_untilStop : yX5_untilStop.cls = RX5 ∧ yX5_untilStop.cls ≠ "java/lang/invoke/MethodHandle" ∧ yX5_untilStop.cls ≠ "java/lang/invoke/VarHandle" ∧ (parseMethodDescriptor yX5_untilStop.desc).map (fun d => d.parameters.length) = some 1 := by decide +kernel
def p_X5_untilStop_J39 (uL : tX5) (l39_2 : Int32) : Option (Int32 × tX5) :=
  bd (p_X5_bringBack uL) (fun v3 =>
  some (l39_2, v3))
def p_X5_untilStop_L8 : Nat → tX5 → Int32 → Int32 → Int32 → Option (Int32 × tX5)
  | 0, _, _, _, _ => none
  | n + 1, uL, l8_1, l8_2, l8_3 =>
    if (80 : Int32) < l8_3 then
      p_X5_untilStop_J39 uL l8_2
    else
      if l8_2 = (-1 : Int32) then
        bd (p_X5_hourOn uL) (fun v2 =>
        if v2.2.2.1 = l8_1 then
          (p_X5_untilStop_L8 n) v2 l8_1 l8_3 (l8_3 + 1)
        else
          (p_X5_untilStop_L8 n) v2 l8_1 l8_2 (l8_3 + 1))
      else
        p_X5_untilStop_J39 uL l8_2
def p_X5_untilStop (uL : tX5) (a1 : Int32) : Option (Int32 × tX5) :=
  bd (p_X5_keep uL) (fun v1 =>
  p_X5_untilStop_L8 200 v1 a1 (-1 : Int32) (1 : Int32))
set_option maxHeartbeats 4000000 in
set_option maxRecDepth 100000 in
theorem c_X5_untilStop (l : Launch) (dC : Nat → ClassId) (dI : Nat → Nat → Nat) (cI cZ : ClassId) (l0 l4 l5 l6 l8 l10 l11 l12 l13 l14 l15 l16 : Nat) (sz : Nat) (uL : tX5) (a1 : Int32) {z : (Int32 × tX5)} (hok : p_X5_untilStop uL a1 = some z) : Met l yX5_untilStop (Cond.code yX5_untilStop cX5_untilStop 4 (some .int) :: lw_all) { frames := 6, cells := 0, slots := 0, locals := 129 } (prW (dC, dI) vwCl (TYS cI cZ) ((wX5 cI cZ l0 l4 l5 l6 l8 l10 l11 l12 l13 l14 l15 l16 uL)) sz [.ref l0, .int a1]) (va_Qi (fun (r : Int32) (_ : Unit) => r = z.1) (fun _ t => va_P (dC, dI) vwCl ((wX5 cI cZ l0 l4 l5 l6 l8 l10 l11 l12 l13 l14 l15 l16 z.2)) t.heap) (va_A ((wX5 cI cZ l0 l4 l5 l6 l8 l10 l11 l12 l13 l14 l15 l16 uL)) sz)) 0 0 (va_A ((wX5 cI cZ l0 l4 l5 l6 l8 l10 l11 l12 l13 l14 l15 l16 uL)) sz) := by
  refine oM (by decide) (Nat.le_of_ble_eq_true rfl) ?_
  intro p e s m args below meth c S hr hlk hnm hB ls hl
  have hx := S.1
  have hb := S.2.1
  have hml := S.2.2.1
  have hown : s.vm.findClass RX5 = some m.cls := S.2.2.2.1
  have hts := S.2.2.2.2
  have S : CallFix p m c cX5_untilStop 4 s args lw_all RX5 := S
  have hl : lv_has ls 4 [(0, .ref l0), (1, .int a1)] := hl
  obtain ⟨hsz, hP, hK, hD0⟩ := hB
  subst hsz
  have hD := hD0.self (sz := s.heap.size)
  generalize hAe : va_A ((wX5 cI cZ l0 l4 l5 l6 l8 l10 l11 l12 l13 l14 l15 l16 uL)) s.heap.size = A at hD ⊢
  have hA : ∀ q : Nat, s.heap.size ≤ q → A q := fun q h => by rw [← hAe]; exact Or.inr h
  have hS : va_S A s.heap s.heap [] := va_S.rf
  have hP : va_P (dC, dI) vwCl ((wX5 cI cZ l0 l4 l5 l6 l8 l10 l11 l12 l13 l14 l15 l16 uL)) s.heap := hP
  have J39 : ∀ (uL : tX5) (l39_2 : Int32) (H : Heap) (locs : List Loc) (hP : va_P (dC, dI) vwCl ((wX5 cI cZ l0 l4 l5 l6 l8 l10 l11 l12 l13 l14 l15 l16 uL)) H) (hD : va_D A ((wX5 cI cZ l0 l4 l5 l6 l8 l10 l11 l12 l13 l14 l15 l16 uL))) (hS : va_S A s.heap H locs) (ls : Array Slot) (hl : lv_has ls 4 [(0, .ref l0), (2, .int l39_2)]) (hok : p_X5_untilStop_J39 uL l39_2 = some z), W p l e { frames := 6, cells := 0, slots := 0, locals := 129 } s m args below meth c H locs 0 0 (MQ below (va_Qi (fun (r : Int32) (_ : Unit) => r = z.1) (fun _ t => va_P (dC, dI) vwCl ((wX5 cI cZ l0 l4 l5 l6 l8 l10 l11 l12 l13 l14 l15 l16 z.2)) t.heap) A) args s 0 0 A) (F0 m 39 ls []) := by
    intro uL l39_2 H locs hP hD hS ls hl hok
    unfold p_X5_untilStop_J39 at hok
    refine lv_aload_n hx hb dX5_untilStop_39 rfl (lv_at hl 0 rfl) ?_
    obtain ⟨v3, hc3, hok⟩ := bd_some hok
    refine cWVv (ci := 5) (q0 := 0) [] S hK hP hD hS hA (c_X5_bringBack l dC dI cI cZ l0 l4 l5 l6 l8 l10 l11 l12 l13 l14 l15 l16 _ uL hc3) (lw_V qm_X5_182 qi_X5_bringBack qs_X5_bringBack qn_X5 qc_X5_bringBack) hd_X5_bringBack ⟨rfl, rfl⟩ ⟨Nat.le_of_ble_eq_true rfl, Nat.le_of_ble_eq_true rfl⟩ ⟨Nat.le_of_ble_eq_true rfl, Nat.le_of_ble_eq_true rfl⟩ rfl rfl rfl hl.1 (Nat.le_of_ble_eq_true rfl) rfl dX5_untilStop_40 (D_L hD) (fun H locs hP hD hS => ?_)
    refine lv_iload_n hx hb dX5_untilStop_43 rfl (lv_at hl 1 rfl) ?_
    have hok := Option.some.inj hok
    subst hok
    exact eWi S hr hlk rfl hP hS (Nat.le_of_ble_eq_true rfl) (Nat.le_of_ble_eq_true rfl) dX5_untilStop_44
  have L8 : ∀ n8 : Nat, ∀ (uL : tX5) (l8_1 : Int32) (l8_2 : Int32) (l8_3 : Int32) (H : Heap) (locs : List Loc) (hP : va_P (dC, dI) vwCl ((wX5 cI cZ l0 l4 l5 l6 l8 l10 l11 l12 l13 l14 l15 l16 uL)) H) (hD : va_D A ((wX5 cI cZ l0 l4 l5 l6 l8 l10 l11 l12 l13 l14 l15 l16 uL))) (hS : va_S A s.heap H locs) (ls : Array Slot) (hl : lv_has ls 4 [(0, .ref l0), (1, .int l8_1), (2, .int l8_2), (3, .int l8_3)]) (hok : p_X5_untilStop_L8 n8 uL l8_1 l8_2 l8_3 = some z), W p l e { frames := 6, cells := 0, slots := 0, locals := 129 } s m args below meth c H locs 0 0 (MQ below (va_Qi (fun (r : Int32) (_ : Unit) => r = z.1) (fun _ t => va_P (dC, dI) vwCl ((wX5 cI cZ l0 l4 l5 l6 l8 l10 l11 l12 l13 l14 l15 l16 z.2)) t.heap) A) args s 0 0 A) (F0 m 8 ls []) := by
    intro n8
    induction n8 with
    | zero =>
      intro uL l8_1 l8_2 l8_3 H locs hP hD hS ls hl hok
      rw [p_X5_untilStop_L8] at hok
      cases hok
    | succ n8 ih8 =>
      intro uL l8_1 l8_2 l8_3 H locs hP hD hS ls hl hok
      rw [p_X5_untilStop_L8] at hok
      refine lv_iload_n hx hb dX5_untilStop_8 rfl (lv_at hl 3 rfl) ?_
      refine lv_bipush (v := (80 : Int32)) hx hb dX5_untilStop_9 (by decide) ?_
      refine lv_icmp_gt (tgt := 39) hx hb dX5_untilStop_11 (by decide) (fun hc => ?_) (fun hc => ?_)
      · have hok := ip hok hc
        exact J39 uL l8_2 _ _ hP hD hS _ (lv_sub hl [0, 2] rfl) hok
      · have hok := iq hok hc
        refine lv_iload_n hx hb dX5_untilStop_14 rfl (lv_at hl 2 rfl) ?_
        refine lv_iconst (v := (-1 : Int32)) hx hb dX5_untilStop_15 (by decide) ?_
        refine lv_icmp_ne (tgt := 39) hx hb dX5_untilStop_16 (by decide) (fun hc => ?_) (fun hc => ?_)
        · have hok := iq hok hc
          exact J39 uL l8_2 _ _ hP hD hS _ (lv_sub hl [0, 2] rfl) hok
        · have hok := ip hok hc
          refine lv_aload_n hx hb dX5_untilStop_19 rfl (lv_at hl 0 rfl) ?_
          obtain ⟨v2, hc2, hok⟩ := bd_some hok
          refine cWVv (ci := 5) (q0 := 0) [] S hK hP hD hS hA (c_X5_hourOn l dC dI cI cZ l0 l4 l5 l6 l8 l10 l11 l12 l13 l14 l15 l16 _ uL hc2) (lw_V qm_X5_109 qi_X5_hourOn qs_X5_hourOn qn_X5 qc_X5_hourOn) hd_X5_hourOn ⟨rfl, rfl⟩ ⟨Nat.le_of_ble_eq_true rfl, Nat.le_of_ble_eq_true rfl⟩ ⟨Nat.le_of_ble_eq_true rfl, Nat.le_of_ble_eq_true rfl⟩ rfl rfl rfl hl.1 (Nat.le_of_ble_eq_true rfl) rfl dX5_untilStop_20 (D_L hD) (fun H locs hP hD hS => ?_)
          refine lv_aload_n hx hb dX5_untilStop_23 rfl (lv_at hl 0 rfl) ?_
          refine va_get (D := (dC, dI)) (ci := 5) (v := .int v2.2.2.1) (C := RX5) (T := TX5) (N := 18) hx hb hts inX5 hown hK hP 0 rfl rfl 17 (by decide) (hts _ qf_X5_83) (fun _ h9 => h9) rfl dX5_untilStop_24 ?_
          refine lv_iload_n hx hb dX5_untilStop_27 rfl (lv_at hl 1 rfl) ?_
          refine lv_icmp_ne (tgt := 33) hx hb dX5_untilStop_28 (by decide) (fun hc => ?_) (fun hc => ?_)
          · have hok := iq hok hc
            refine lv_iinc (v := (l8_3 + 1)) (lv' := [(3, .int (l8_3 + 1)), (0, .ref l0), (1, .int l8_1), (2, .int l8_2)]) hx hb dX5_untilStop_33 hl (k := 3) rfl rfl (by decide) rfl (fun ls hl => ?_)
            refine lv_goto (tgt := 8) hx hb dX5_untilStop_36 (by decide) ?_
            exact ih8 v2 l8_1 l8_2 (l8_3 + 1) _ _ hP hD hS _ (lv_sub hl [1, 2, 3, 0] rfl) hok
          · have hok := ip hok hc
            refine lv_iload_n hx hb dX5_untilStop_31 rfl (lv_at hl 3 rfl) ?_
            refine lv_istore_n (lv' := [(2, .int l8_3), (0, .ref l0), (1, .int l8_1), (3, .int l8_3)]) hx hb dX5_untilStop_32 rfl hl (by decide) rfl (fun ls hl => ?_)
            refine lv_iinc (v := (l8_3 + 1)) (lv' := [(3, .int (l8_3 + 1)), (2, .int l8_3), (0, .ref l0), (1, .int l8_1)]) hx hb dX5_untilStop_33 hl (k := 3) rfl rfl (by decide) rfl (fun ls hl => ?_)
            refine lv_goto (tgt := 8) hx hb dX5_untilStop_36 (by decide) ?_
            exact ih8 v2 l8_1 l8_3 (l8_3 + 1) _ _ hP hD hS _ (lv_sub hl [2, 3, 1, 0] rfl) hok
  unfold p_X5_untilStop at hok
  refine lv_aload_n hx hb dX5_untilStop_0 rfl (lv_at hl 0 rfl) ?_
  obtain ⟨v1, hc1, hok⟩ := bd_some hok
  refine cWVv (ci := 5) (q0 := 0) [] S hK hP hD hS hA (c_X5_keep l dC dI cI cZ l0 l4 l5 l6 l8 l10 l11 l12 l13 l14 l15 l16 _ uL hc1) (lw_V qm_X5_179 qi_X5_keep qs_X5_keep qn_X5 qc_X5_keep) hd_X5_keep ⟨rfl, rfl⟩ ⟨Nat.le_of_ble_eq_true rfl, Nat.le_of_ble_eq_true rfl⟩ ⟨Nat.le_of_ble_eq_true rfl, Nat.le_of_ble_eq_true rfl⟩ rfl rfl rfl hl.1 (Nat.le_of_ble_eq_true rfl) rfl dX5_untilStop_1 (D_L hD) (fun H locs hP hD hS => ?_)
  refine lv_iconst (v := (-1 : Int32)) hx hb dX5_untilStop_4 (by decide) ?_
  refine lv_istore_n (lv' := [(2, .int (-1 : Int32)), (0, .ref l0), (1, .int a1)]) hx hb dX5_untilStop_5 rfl hl (by decide) rfl (fun ls hl => ?_)
  refine lv_iconst (v := (1 : Int32)) hx hb dX5_untilStop_6 (by decide) ?_
  refine lv_istore_n (lv' := [(3, .int (1 : Int32)), (2, .int (-1 : Int32)), (0, .ref l0), (1, .int a1)]) hx hb dX5_untilStop_7 rfl hl (by decide) rfl (fun ls hl => ?_)
  exact L8 200 v1 a1 (-1 : Int32) (1 : Int32) _ _ hP hD hS _ (lv_sub hl [2, 3, 1, 0] rfl) hok
theorem hd_X5_hoursUntilStop : yX5_hoursUntilStop.cls = RX5 ∧ yX5_hoursUntilStop.cls ≠ "java/lang/invoke/MethodHandle" ∧ yX5_hoursUntilStop.cls ≠ "java/lang/invoke/VarHandle" ∧ (parseMethodDescriptor yX5_hoursUntilStop.desc).map (fun d => d.parameters.length) = some 1 := by decide +kernel
def p_X5_hoursUntilStop (uL : tX5) (a1 : Int32) : Option (Int32 × tX5) :=
  bd (p_X5_isFloor (uL.1, uL.2.1, uL.2.2.1, (0 : Int32), uL.2.2.2.2) a1) (fun v1 =>
  if v1 = 0 then
    bd (p_X5_fail (uL.1, uL.2.1, uL.2.2.1, (0 : Int32), uL.2.2.2.2) (1 : Int32)) (fun v2 =>
    some (v2.1, v2.2))
  else
    bd (p_X5_untilStop (uL.1, uL.2.1, uL.2.2.1, (0 : Int32), uL.2.2.2.2) a1) (fun v3 =>
    some (v3.1, v3.2)))
set_option maxHeartbeats 4000000 in
set_option maxRecDepth 100000 in
theorem c_X5_hoursUntilStop (l : Launch) (dC : Nat → ClassId) (dI : Nat → Nat → Nat) (cI cZ : ClassId) (l0 l4 l5 l6 l8 l10 l11 l12 l13 l14 l15 l16 : Nat) (sz : Nat) (uL : tX5) (a1 : Int32) {z : (Int32 × tX5)} (hok : p_X5_hoursUntilStop uL a1 = some z) : Met l yX5_hoursUntilStop (Cond.code yX5_hoursUntilStop cX5_hoursUntilStop 2 (some .int) :: lw_all) { frames := 7, cells := 0, slots := 0, locals := 152 } (prW (dC, dI) vwCl (TYS cI cZ) ((wX5 cI cZ l0 l4 l5 l6 l8 l10 l11 l12 l13 l14 l15 l16 uL)) sz [.ref l0, .int a1]) (va_Qi (fun (r : Int32) (_ : Unit) => r = z.1) (fun _ t => va_P (dC, dI) vwCl ((wX5 cI cZ l0 l4 l5 l6 l8 l10 l11 l12 l13 l14 l15 l16 z.2)) t.heap) (va_A ((wX5 cI cZ l0 l4 l5 l6 l8 l10 l11 l12 l13 l14 l15 l16 uL)) sz)) 0 0 (va_A ((wX5 cI cZ l0 l4 l5 l6 l8 l10 l11 l12 l13 l14 l15 l16 uL)) sz) := by
  refine oM (by decide) (Nat.le_of_ble_eq_true rfl) ?_
  intro p e s m args below meth c S hr hlk hnm hB ls hl
  have hx := S.1
  have hb := S.2.1
  have hml := S.2.2.1
  have hown : s.vm.findClass RX5 = some m.cls := S.2.2.2.1
  have hts := S.2.2.2.2
  have S : CallFix p m c cX5_hoursUntilStop 2 s args lw_all RX5 := S
  have hl : lv_has ls 2 [(0, .ref l0), (1, .int a1)] := hl
  obtain ⟨hsz, hP, hK, hD0⟩ := hB
  subst hsz
  have hD := hD0.self (sz := s.heap.size)
  generalize hAe : va_A ((wX5 cI cZ l0 l4 l5 l6 l8 l10 l11 l12 l13 l14 l15 l16 uL)) s.heap.size = A at hD ⊢
  have hA : ∀ q : Nat, s.heap.size ≤ q → A q := fun q h => by rw [← hAe]; exact Or.inr h
  have hS : va_S A s.heap s.heap [] := va_S.rf
  have hP : va_P (dC, dI) vwCl ((wX5 cI cZ l0 l4 l5 l6 l8 l10 l11 l12 l13 l14 l15 l16 uL)) s.heap := hP
  unfold p_X5_hoursUntilStop at hok
  refine lv_aload_n hx hb dX5_hoursUntilStop_0 rfl (lv_at hl 0 rfl) ?_
  refine lv_iconst (v := (0 : Int32)) hx hb dX5_hoursUntilStop_1 (by decide) ?_
  refine va_put (D := (dC, dI)) (ci := 5) (v := .int (0 : Int32)) (ty := .int) (C := RX5) (T := TX5) (N := 18) hx hb hts inX5 tyX5 tyX5_ok nmX5 hown hK hP hD hS 0 rfl rfl 0 (by decide) (hts _ qf_X5_50) (fun _ h9 => h9) rfl (tyX5_ok 0 (by decide)) rfl rfl (Nat.le_of_ble_eq_true rfl) dX5_hoursUntilStop_2 (fun H locs hP _ hS => ?_)
  have hP : va_P (dC, dI) vwCl ((wX5 cI cZ l0 l4 l5 l6 l8 l10 l11 l12 l13 l14 l15 l16 (uL.1, uL.2.1, uL.2.2.1, (0 : Int32), uL.2.2.2.2))) H := hP
  have hD : va_D A ((wX5 cI cZ l0 l4 l5 l6 l8 l10 l11 l12 l13 l14 l15 l16 (uL.1, uL.2.1, uL.2.2.1, (0 : Int32), uL.2.2.2.2))) := D_L hD
  refine lv_aload_n hx hb dX5_hoursUntilStop_5 rfl (lv_at hl 0 rfl) ?_
  refine lv_iload_n hx hb dX5_hoursUntilStop_6 rfl (lv_at hl 1 rfl) ?_
  obtain ⟨v1, hc1, hok⟩ := bd_some hok
  refine cRVi (ci := 5) (q0 := 0) [.int a1] S hK hP (c_X5_isFloor l dC dI cI cZ l0 l4 l5 l6 l8 l10 l11 l12 l13 l14 l15 l16 (uL.1, uL.2.1, uL.2.2.1, (0 : Int32), uL.2.2.2.2) a1 hc1) (lw_V qm_X5_93 qi_X5_isFloor qs_X5_isFloor qn_X5 qc_X5_isFloor) hd_X5_isFloor ⟨rfl, rfl⟩ ⟨Nat.le_of_ble_eq_true rfl, Nat.le_of_ble_eq_true rfl⟩ ⟨Nat.le_of_ble_eq_true rfl, Nat.le_of_ble_eq_true rfl⟩ rfl rfl rfl hl.1 (Nat.le_of_ble_eq_true rfl) rfl dX5_hoursUntilStop_7 ?_
  refine lv_if_eq (tgt := 21) hx hb dX5_hoursUntilStop_10 (by decide) (fun hc => ?_) (fun hc => ?_)
  · have hok := ip hok hc
    refine lv_aload_n hx hb dX5_hoursUntilStop_21 rfl (lv_at hl 0 rfl) ?_
    refine lv_iconst (v := (1 : Int32)) hx hb dX5_hoursUntilStop_22 (by decide) ?_
    obtain ⟨v2, hc2, hok⟩ := bd_some hok
    refine cWVi (ci := 5) (q0 := 0) [.int (1 : Int32)] S hK hP hD hS hA (c_X5_fail l dC dI cI cZ l0 l4 l5 l6 l8 l10 l11 l12 l13 l14 l15 l16 _ (uL.1, uL.2.1, uL.2.2.1, (0 : Int32), uL.2.2.2.2) (1 : Int32) hc2) (lw_V qm_X5_112 qi_X5_fail qs_X5_fail qn_X5 qc_X5_fail) hd_X5_fail ⟨rfl, rfl⟩ ⟨Nat.le_of_ble_eq_true rfl, Nat.le_of_ble_eq_true rfl⟩ ⟨Nat.le_of_ble_eq_true rfl, Nat.le_of_ble_eq_true rfl⟩ rfl rfl rfl hl.1 (Nat.le_of_ble_eq_true rfl) rfl dX5_hoursUntilStop_23 (D_L hD) (fun H locs hP hD hS => ?_)
    have hok := Option.some.inj hok
    subst hok
    exact eWi S hr hlk rfl hP hS (Nat.le_of_ble_eq_true rfl) (Nat.le_of_ble_eq_true rfl) dX5_hoursUntilStop_26
  · have hok := iq hok hc
    refine lv_aload_n hx hb dX5_hoursUntilStop_13 rfl (lv_at hl 0 rfl) ?_
    refine lv_iload_n hx hb dX5_hoursUntilStop_14 rfl (lv_at hl 1 rfl) ?_
    obtain ⟨v3, hc3, hok⟩ := bd_some hok
    refine cWVi (ci := 5) (q0 := 0) [.int a1] S hK hP hD hS hA (c_X5_untilStop l dC dI cI cZ l0 l4 l5 l6 l8 l10 l11 l12 l13 l14 l15 l16 _ (uL.1, uL.2.1, uL.2.2.1, (0 : Int32), uL.2.2.2.2) a1 hc3) (lw_V qm_X5_185 qi_X5_untilStop qs_X5_untilStop qn_X5 qc_X5_untilStop) hd_X5_untilStop ⟨rfl, rfl⟩ ⟨Nat.le_of_ble_eq_true rfl, Nat.le_of_ble_eq_true rfl⟩ ⟨Nat.le_of_ble_eq_true rfl, Nat.le_of_ble_eq_true rfl⟩ rfl rfl rfl hl.1 (Nat.le_of_ble_eq_true rfl) rfl dX5_hoursUntilStop_15 (D_L hD) (fun H locs hP hD hS => ?_)
    refine lv_goto (tgt := 26) hx hb dX5_hoursUntilStop_18 (by decide) ?_
    have hok := Option.some.inj hok
    subst hok
    exact eWi S hr hlk rfl hP hS (Nat.le_of_ble_eq_true rfl) (Nat.le_of_ble_eq_true rfl) dX5_hoursUntilStop_26
theorem hd_X5_untilStuck : yX5_untilStuck.cls = RX5 ∧ yX5_untilStuck.cls ≠ "java/lang/invoke/MethodHandle" ∧ yX5_untilStuck.cls ≠ "java/lang/invoke/VarHandle" ∧ (parseMethodDescriptor yX5_untilStuck.desc).map (fun d => d.parameters.length) = some 0 := by decide +kernel
def p_X5_untilStuck_J31 (uL : tX5) (l31_1 : Int32) : Option (Int32 × tX5) :=
  bd (p_X5_bringBack uL) (fun v3 =>
  if l31_1 ≤ (80 : Int32) then
    some (l31_1, v3)
  else
    some ((-1 : Int32), v3))
def p_X5_untilStuck_L6 : Nat → tX5 → Int32 → Option (Int32 × tX5)
  | 0, _, _ => none
  | n + 1, uL, l6_1 =>
    if (80 : Int32) < l6_1 then
      p_X5_untilStuck_J31 uL l6_1
    else
      if (uL.1 3) = 0 then
        bd (p_X5_hourOn uL) (fun v2 =>
        (p_X5_untilStuck_L6 n) v2 (l6_1 + 1))
      else
        p_X5_untilStuck_J31 uL l6_1
def p_X5_untilStuck (uL : tX5) : Option (Int32 × tX5) :=
  bd (p_X5_keep uL) (fun v1 =>
  p_X5_untilStuck_L6 200 v1 (0 : Int32))
set_option maxHeartbeats 4000000 in
set_option maxRecDepth 100000 in
theorem c_X5_untilStuck (l : Launch) (dC : Nat → ClassId) (dI : Nat → Nat → Nat) (cI cZ : ClassId) (l0 l4 l5 l6 l8 l10 l11 l12 l13 l14 l15 l16 : Nat) (sz : Nat) (uL : tX5) {z : (Int32 × tX5)} (hok : p_X5_untilStuck uL = some z) : Met l yX5_untilStuck (Cond.code yX5_untilStuck cX5_untilStuck 2 (some .int) :: lw_all) { frames := 6, cells := 0, slots := 0, locals := 129 } (prW (dC, dI) vwCl (TYS cI cZ) ((wX5 cI cZ l0 l4 l5 l6 l8 l10 l11 l12 l13 l14 l15 l16 uL)) sz [.ref l0]) (va_Qi (fun (r : Int32) (_ : Unit) => r = z.1) (fun _ t => va_P (dC, dI) vwCl ((wX5 cI cZ l0 l4 l5 l6 l8 l10 l11 l12 l13 l14 l15 l16 z.2)) t.heap) (va_A ((wX5 cI cZ l0 l4 l5 l6 l8 l10 l11 l12 l13 l14 l15 l16 uL)) sz)) 0 0 (va_A ((wX5 cI cZ l0 l4 l5 l6 l8 l10 l11 l12 l13 l14 l15 l16 uL)) sz) := by
  refine oM (by decide) (Nat.le_of_ble_eq_true rfl) ?_
  intro p e s m args below meth c S hr hlk hnm hB ls hl
  have hx := S.1
  have hb := S.2.1
  have hml := S.2.2.1
  have hown : s.vm.findClass RX5 = some m.cls := S.2.2.2.1
  have hts := S.2.2.2.2
  have S : CallFix p m c cX5_untilStuck 2 s args lw_all RX5 := S
  have hl : lv_has ls 2 [(0, .ref l0)] := hl
  obtain ⟨hsz, hP, hK, hD0⟩ := hB
  subst hsz
  have hD := hD0.self (sz := s.heap.size)
  generalize hAe : va_A ((wX5 cI cZ l0 l4 l5 l6 l8 l10 l11 l12 l13 l14 l15 l16 uL)) s.heap.size = A at hD ⊢
  have hA : ∀ q : Nat, s.heap.size ≤ q → A q := fun q h => by rw [← hAe]; exact Or.inr h
  have hS : va_S A s.heap s.heap [] := va_S.rf
  have hP : va_P (dC, dI) vwCl ((wX5 cI cZ l0 l4 l5 l6 l8 l10 l11 l12 l13 l14 l15 l16 uL)) s.heap := hP
  have J31 : ∀ (uL : tX5) (l31_1 : Int32) (H : Heap) (locs : List Loc) (hP : va_P (dC, dI) vwCl ((wX5 cI cZ l0 l4 l5 l6 l8 l10 l11 l12 l13 l14 l15 l16 uL)) H) (hD : va_D A ((wX5 cI cZ l0 l4 l5 l6 l8 l10 l11 l12 l13 l14 l15 l16 uL))) (hS : va_S A s.heap H locs) (ls : Array Slot) (hl : lv_has ls 2 [(0, .ref l0), (1, .int l31_1)]) (hok : p_X5_untilStuck_J31 uL l31_1 = some z), W p l e { frames := 6, cells := 0, slots := 0, locals := 129 } s m args below meth c H locs 0 0 (MQ below (va_Qi (fun (r : Int32) (_ : Unit) => r = z.1) (fun _ t => va_P (dC, dI) vwCl ((wX5 cI cZ l0 l4 l5 l6 l8 l10 l11 l12 l13 l14 l15 l16 z.2)) t.heap) A) args s 0 0 A) (F0 m 31 ls []) := by
    intro uL l31_1 H locs hP hD hS ls hl hok
    unfold p_X5_untilStuck_J31 at hok
    refine lv_aload_n hx hb dX5_untilStuck_31 rfl (lv_at hl 0 rfl) ?_
    obtain ⟨v3, hc3, hok⟩ := bd_some hok
    refine cWVv (ci := 5) (q0 := 0) [] S hK hP hD hS hA (c_X5_bringBack l dC dI cI cZ l0 l4 l5 l6 l8 l10 l11 l12 l13 l14 l15 l16 _ uL hc3) (lw_V qm_X5_182 qi_X5_bringBack qs_X5_bringBack qn_X5 qc_X5_bringBack) hd_X5_bringBack ⟨rfl, rfl⟩ ⟨Nat.le_of_ble_eq_true rfl, Nat.le_of_ble_eq_true rfl⟩ ⟨Nat.le_of_ble_eq_true rfl, Nat.le_of_ble_eq_true rfl⟩ rfl rfl rfl hl.1 (Nat.le_of_ble_eq_true rfl) rfl dX5_untilStuck_32 (D_L hD) (fun H locs hP hD hS => ?_)
    refine lv_iload_n hx hb dX5_untilStuck_35 rfl (lv_at hl 1 rfl) ?_
    refine lv_bipush (v := (80 : Int32)) hx hb dX5_untilStuck_36 (by decide) ?_
    refine lv_icmp_le (tgt := 45) hx hb dX5_untilStuck_38 (by decide) (fun hc => ?_) (fun hc => ?_)
    · have hok := ip hok hc
      refine lv_iload_n hx hb dX5_untilStuck_45 rfl (lv_at hl 1 rfl) ?_
      have hok := Option.some.inj hok
      subst hok
      exact eWi S hr hlk rfl hP hS (Nat.le_of_ble_eq_true rfl) (Nat.le_of_ble_eq_true rfl) dX5_untilStuck_46
    · have hok := iq hok hc
      refine lv_iconst (v := (-1 : Int32)) hx hb dX5_untilStuck_41 (by decide) ?_
      refine lv_goto (tgt := 46) hx hb dX5_untilStuck_42 (by decide) ?_
      have hok := Option.some.inj hok
      subst hok
      exact eWi S hr hlk rfl hP hS (Nat.le_of_ble_eq_true rfl) (Nat.le_of_ble_eq_true rfl) dX5_untilStuck_46
  have L6 : ∀ n6 : Nat, ∀ (uL : tX5) (l6_1 : Int32) (H : Heap) (locs : List Loc) (hP : va_P (dC, dI) vwCl ((wX5 cI cZ l0 l4 l5 l6 l8 l10 l11 l12 l13 l14 l15 l16 uL)) H) (hD : va_D A ((wX5 cI cZ l0 l4 l5 l6 l8 l10 l11 l12 l13 l14 l15 l16 uL))) (hS : va_S A s.heap H locs) (ls : Array Slot) (hl : lv_has ls 2 [(0, .ref l0), (1, .int l6_1)]) (hok : p_X5_untilStuck_L6 n6 uL l6_1 = some z), W p l e { frames := 6, cells := 0, slots := 0, locals := 129 } s m args below meth c H locs 0 0 (MQ below (va_Qi (fun (r : Int32) (_ : Unit) => r = z.1) (fun _ t => va_P (dC, dI) vwCl ((wX5 cI cZ l0 l4 l5 l6 l8 l10 l11 l12 l13 l14 l15 l16 z.2)) t.heap) A) args s 0 0 A) (F0 m 6 ls []) := by
    intro n6
    induction n6 with
    | zero =>
      intro uL l6_1 H locs hP hD hS ls hl hok
      rw [p_X5_untilStuck_L6] at hok
      cases hok
    | succ n6 ih6 =>
      intro uL l6_1 H locs hP hD hS ls hl hok
      rw [p_X5_untilStuck_L6] at hok
      refine lv_iload_n hx hb dX5_untilStuck_6 rfl (lv_at hl 1 rfl) ?_
      refine lv_bipush (v := (80 : Int32)) hx hb dX5_untilStuck_7 (by decide) ?_
      refine lv_icmp_gt (tgt := 31) hx hb dX5_untilStuck_9 (by decide) (fun hc => ?_) (fun hc => ?_)
      · have hok := ip hok hc
        exact J31 uL l6_1 _ _ hP hD hS _ hl hok
      · have hok := iq hok hc
        refine lv_aload_n hx hb dX5_untilStuck_12 rfl (lv_at hl 0 rfl) ?_
        refine va_get (D := (dC, dI)) (ci := 5) (v := .ref l15) (C := RX5) (T := TX5) (N := 18) hx hb hts inX5 hown hK hP 0 rfl rfl 15 (by decide) (hts _ qf_X5_44) (fun _ h9 => h9) rfl dX5_untilStuck_13 ?_
        refine lv_iconst (v := (3 : Int32)) hx hb dX5_untilStuck_16 (by decide) ?_
        refine va_ialdK hx hb hK hP 10 0 rfl rfl (j := 3) (by decide) (vp_inK (by decide)) dX5_untilStuck_17 ?_
        refine lv_if_ne (tgt := 31) hx hb dX5_untilStuck_18 (by decide) (fun hc => ?_) (fun hc => ?_)
        · have hok := iq hok hc
          exact J31 uL l6_1 _ _ hP hD hS _ hl hok
        · have hok := ip hok hc
          refine lv_aload_n hx hb dX5_untilStuck_21 rfl (lv_at hl 0 rfl) ?_
          obtain ⟨v2, hc2, hok⟩ := bd_some hok
          refine cWVv (ci := 5) (q0 := 0) [] S hK hP hD hS hA (c_X5_hourOn l dC dI cI cZ l0 l4 l5 l6 l8 l10 l11 l12 l13 l14 l15 l16 _ uL hc2) (lw_V qm_X5_109 qi_X5_hourOn qs_X5_hourOn qn_X5 qc_X5_hourOn) hd_X5_hourOn ⟨rfl, rfl⟩ ⟨Nat.le_of_ble_eq_true rfl, Nat.le_of_ble_eq_true rfl⟩ ⟨Nat.le_of_ble_eq_true rfl, Nat.le_of_ble_eq_true rfl⟩ rfl rfl rfl hl.1 (Nat.le_of_ble_eq_true rfl) rfl dX5_untilStuck_22 (D_L hD) (fun H locs hP hD hS => ?_)
          refine lv_iinc (v := (l6_1 + 1)) (lv' := [(1, .int (l6_1 + 1)), (0, .ref l0)]) hx hb dX5_untilStuck_25 hl (k := 1) rfl rfl (by decide) rfl (fun ls hl => ?_)
          refine lv_goto (tgt := 6) hx hb dX5_untilStuck_28 (by decide) ?_
          exact ih6 v2 (l6_1 + 1) _ _ hP hD hS _ (lv_sub hl [1, 0] rfl) hok
  unfold p_X5_untilStuck at hok
  refine lv_aload_n hx hb dX5_untilStuck_0 rfl (lv_at hl 0 rfl) ?_
  obtain ⟨v1, hc1, hok⟩ := bd_some hok
  refine cWVv (ci := 5) (q0 := 0) [] S hK hP hD hS hA (c_X5_keep l dC dI cI cZ l0 l4 l5 l6 l8 l10 l11 l12 l13 l14 l15 l16 _ uL hc1) (lw_V qm_X5_179 qi_X5_keep qs_X5_keep qn_X5 qc_X5_keep) hd_X5_keep ⟨rfl, rfl⟩ ⟨Nat.le_of_ble_eq_true rfl, Nat.le_of_ble_eq_true rfl⟩ ⟨Nat.le_of_ble_eq_true rfl, Nat.le_of_ble_eq_true rfl⟩ rfl rfl rfl hl.1 (Nat.le_of_ble_eq_true rfl) rfl dX5_untilStuck_1 (D_L hD) (fun H locs hP hD hS => ?_)
  refine lv_iconst (v := (0 : Int32)) hx hb dX5_untilStuck_4 (by decide) ?_
  refine lv_istore_n (lv' := [(1, .int (0 : Int32)), (0, .ref l0)]) hx hb dX5_untilStuck_5 rfl hl (by decide) rfl (fun ls hl => ?_)
  exact L6 200 v1 (0 : Int32) _ _ hP hD hS _ (lv_sub hl [1, 0] rfl) hok
theorem hd_X5_hoursUntilStuck : yX5_hoursUntilStuck.cls = RX5 ∧ yX5_hoursUntilStuck.cls ≠ "java/lang/invoke/MethodHandle" ∧ yX5_hoursUntilStuck.cls ≠ "java/lang/invoke/VarHandle" ∧ (parseMethodDescriptor yX5_hoursUntilStuck.desc).map (fun d => d.parameters.length) = some 0 := by decide +kernel
def p_X5_hoursUntilStuck (uL : tX5) : Option (Int32 × tX5) :=
  bd (p_X5_untilStuck uL) (fun v1 =>
  bd (p_X5_told v1.2 v1.1) (fun v2 =>
  some (v2.1, v2.2)))
set_option maxHeartbeats 4000000 in
set_option maxRecDepth 100000 in
theorem c_X5_hoursUntilStuck (l : Launch) (dC : Nat → ClassId) (dI : Nat → Nat → Nat) (cI cZ : ClassId) (l0 l4 l5 l6 l8 l10 l11 l12 l13 l14 l15 l16 : Nat) (sz : Nat) (uL : tX5) {z : (Int32 × tX5)} (hok : p_X5_hoursUntilStuck uL = some z) : Met l yX5_hoursUntilStuck (Cond.code yX5_hoursUntilStuck cX5_hoursUntilStuck 1 (some .int) :: lw_all) { frames := 7, cells := 0, slots := 0, locals := 150 } (prW (dC, dI) vwCl (TYS cI cZ) ((wX5 cI cZ l0 l4 l5 l6 l8 l10 l11 l12 l13 l14 l15 l16 uL)) sz [.ref l0]) (va_Qi (fun (r : Int32) (_ : Unit) => r = z.1) (fun _ t => va_P (dC, dI) vwCl ((wX5 cI cZ l0 l4 l5 l6 l8 l10 l11 l12 l13 l14 l15 l16 z.2)) t.heap) (va_A ((wX5 cI cZ l0 l4 l5 l6 l8 l10 l11 l12 l13 l14 l15 l16 uL)) sz)) 0 0 (va_A ((wX5 cI cZ l0 l4 l5 l6 l8 l10 l11 l12 l13 l14 l15 l16 uL)) sz) := by
  refine oM (by decide) (Nat.le_of_ble_eq_true rfl) ?_
  intro p e s m args below meth c S hr hlk hnm hB ls hl
  have hx := S.1
  have hb := S.2.1
  have hml := S.2.2.1
  have hown : s.vm.findClass RX5 = some m.cls := S.2.2.2.1
  have hts := S.2.2.2.2
  have S : CallFix p m c cX5_hoursUntilStuck 1 s args lw_all RX5 := S
  have hl : lv_has ls 1 [(0, .ref l0)] := hl
  obtain ⟨hsz, hP, hK, hD0⟩ := hB
  subst hsz
  have hD := hD0.self (sz := s.heap.size)
  generalize hAe : va_A ((wX5 cI cZ l0 l4 l5 l6 l8 l10 l11 l12 l13 l14 l15 l16 uL)) s.heap.size = A at hD ⊢
  have hA : ∀ q : Nat, s.heap.size ≤ q → A q := fun q h => by rw [← hAe]; exact Or.inr h
  have hS : va_S A s.heap s.heap [] := va_S.rf
  have hP : va_P (dC, dI) vwCl ((wX5 cI cZ l0 l4 l5 l6 l8 l10 l11 l12 l13 l14 l15 l16 uL)) s.heap := hP
  unfold p_X5_hoursUntilStuck at hok
  refine lv_aload_n hx hb dX5_hoursUntilStuck_0 rfl (lv_at hl 0 rfl) ?_
  refine lv_aload_n hx hb dX5_hoursUntilStuck_1 rfl (lv_at hl 0 rfl) ?_
  obtain ⟨v1, hc1, hok⟩ := bd_some hok
  refine cWVi (ci := 5) (q0 := 0) [] S hK hP hD hS hA (c_X5_untilStuck l dC dI cI cZ l0 l4 l5 l6 l8 l10 l11 l12 l13 l14 l15 l16 _ uL hc1) (lw_V qm_X5_188 qi_X5_untilStuck qs_X5_untilStuck qn_X5 qc_X5_untilStuck) hd_X5_untilStuck ⟨rfl, rfl⟩ ⟨Nat.le_of_ble_eq_true rfl, Nat.le_of_ble_eq_true rfl⟩ ⟨Nat.le_of_ble_eq_true rfl, Nat.le_of_ble_eq_true rfl⟩ rfl rfl rfl hl.1 (Nat.le_of_ble_eq_true rfl) rfl dX5_hoursUntilStuck_2 (D_L hD) (fun H locs hP hD hS => ?_)
  obtain ⟨v2, hc2, hok⟩ := bd_some hok
  refine cWVi (ci := 5) (q0 := 0) [.int v1.1] S hK hP hD hS hA (c_X5_told l dC dI cI cZ l0 l4 l5 l6 l8 l10 l11 l12 l13 l14 l15 l16 _ v1.2 v1.1 hc2) (lw_V qm_X5_125 qi_X5_told qs_X5_told qn_X5 qc_X5_told) hd_X5_told ⟨rfl, rfl⟩ ⟨Nat.le_of_ble_eq_true rfl, Nat.le_of_ble_eq_true rfl⟩ ⟨Nat.le_of_ble_eq_true rfl, Nat.le_of_ble_eq_true rfl⟩ rfl rfl rfl hl.1 (Nat.le_of_ble_eq_true rfl) rfl dX5_hoursUntilStuck_5 (D_L hD) (fun H locs hP hD hS => ?_)
  have hok := Option.some.inj hok
  subst hok
  exact eWi S hr hlk rfl hP hS (Nat.le_of_ble_eq_true rfl) (Nat.le_of_ble_eq_true rfl) dX5_hoursUntilStuck_8
theorem hd_X5_then : yX5_then.cls = RX5 ∧ yX5_then.cls ≠ "java/lang/invoke/MethodHandle" ∧ yX5_then.cls ≠ "java/lang/invoke/VarHandle" ∧ (parseMethodDescriptor yX5_then.desc).map (fun d => d.parameters.length) = some 2 := by decide +kernel
def p_X5_then_J61 (uL : tX5) (s61_0 : Int32) : Option (Int32 × tX5) :=
  bd (p_X5_bringBack uL) (fun v6 =>
  some (s61_0, v6))
def p_X5_then (uL : tX5) (a1 : Int32) (a2 : Int32) : Option (Int32 × tX5) :=
  bd (p_X5_keep uL) (fun v1 =>
  bd (p_X5_hoursOn v1 a1) (fun v2 =>
  if a2 = (8 : Int32) then
    p_X5_then_J61 v2 (v2.1 8)
  else
    if a2 = (7 : Int32) then
      bd (p_X5_ones (v2.1 7)) (fun v5 =>
      p_X5_then_J61 v2 v5)
    else
      if a2 = (33 : Int32) then
        bd (p_X5_warmth v2) (fun v4 =>
        p_X5_then_J61 v2 v4)
      else
        bd (p_X5_cut v2) (fun v3 =>
        p_X5_then_J61 v2 v3)))
set_option maxHeartbeats 4000000 in
set_option maxRecDepth 100000 in
theorem c_X5_then (l : Launch) (dC : Nat → ClassId) (dI : Nat → Nat → Nat) (cI cZ : ClassId) (l0 l4 l5 l6 l8 l10 l11 l12 l13 l14 l15 l16 : Nat) (sz : Nat) (uL : tX5) (a1 : Int32) (a2 : Int32) {z : (Int32 × tX5)} (hok : p_X5_then uL a1 a2 = some z) : Met l yX5_then (Cond.code yX5_then cX5_then 4 (some .int) :: lw_all) { frames := 7, cells := 0, slots := 0, locals := 151 } (prW (dC, dI) vwCl (TYS cI cZ) ((wX5 cI cZ l0 l4 l5 l6 l8 l10 l11 l12 l13 l14 l15 l16 uL)) sz [.ref l0, .int a1, .int a2]) (va_Qi (fun (r : Int32) (_ : Unit) => r = z.1) (fun _ t => va_P (dC, dI) vwCl ((wX5 cI cZ l0 l4 l5 l6 l8 l10 l11 l12 l13 l14 l15 l16 z.2)) t.heap) (va_A ((wX5 cI cZ l0 l4 l5 l6 l8 l10 l11 l12 l13 l14 l15 l16 uL)) sz)) 0 0 (va_A ((wX5 cI cZ l0 l4 l5 l6 l8 l10 l11 l12 l13 l14 l15 l16 uL)) sz) := by
  refine oM (by decide) (Nat.le_of_ble_eq_true rfl) ?_
  intro p e s m args below meth c S hr hlk hnm hB ls hl
  have hx := S.1
  have hb := S.2.1
  have hml := S.2.2.1
  have hown : s.vm.findClass RX5 = some m.cls := S.2.2.2.1
  have hts := S.2.2.2.2
  have S : CallFix p m c cX5_then 4 s args lw_all RX5 := S
  have hl : lv_has ls 4 [(0, .ref l0), (1, .int a1), (2, .int a2)] := hl
  obtain ⟨hsz, hP, hK, hD0⟩ := hB
  subst hsz
  have hD := hD0.self (sz := s.heap.size)
  generalize hAe : va_A ((wX5 cI cZ l0 l4 l5 l6 l8 l10 l11 l12 l13 l14 l15 l16 uL)) s.heap.size = A at hD ⊢
  have hA : ∀ q : Nat, s.heap.size ≤ q → A q := fun q h => by rw [← hAe]; exact Or.inr h
  have hS : va_S A s.heap s.heap [] := va_S.rf
  have hP : va_P (dC, dI) vwCl ((wX5 cI cZ l0 l4 l5 l6 l8 l10 l11 l12 l13 l14 l15 l16 uL)) s.heap := hP
  have J61 : ∀ (uL : tX5) (s61_0 : Int32) (H : Heap) (locs : List Loc) (hP : va_P (dC, dI) vwCl ((wX5 cI cZ l0 l4 l5 l6 l8 l10 l11 l12 l13 l14 l15 l16 uL)) H) (hD : va_D A ((wX5 cI cZ l0 l4 l5 l6 l8 l10 l11 l12 l13 l14 l15 l16 uL))) (hS : va_S A s.heap H locs) (ls : Array Slot) (hl : lv_has ls 4 [(0, .ref l0)]) (hok : p_X5_then_J61 uL s61_0 = some z), W p l e { frames := 7, cells := 0, slots := 0, locals := 151 } s m args below meth c H locs 0 0 (MQ below (va_Qi (fun (r : Int32) (_ : Unit) => r = z.1) (fun _ t => va_P (dC, dI) vwCl ((wX5 cI cZ l0 l4 l5 l6 l8 l10 l11 l12 l13 l14 l15 l16 z.2)) t.heap) A) args s 0 0 A) (F0 m 61 ls [.int s61_0]) := by
    intro uL s61_0 H locs hP hD hS ls hl hok
    unfold p_X5_then_J61 at hok
    refine lv_istore_n (lv' := [(3, .int s61_0), (0, .ref l0)]) hx hb dX5_then_61 rfl hl (by decide) rfl (fun ls hl => ?_)
    refine lv_aload_n hx hb dX5_then_62 rfl (lv_at hl 1 rfl) ?_
    obtain ⟨v6, hc6, hok⟩ := bd_some hok
    refine cWVv (ci := 5) (q0 := 0) [] S hK hP hD hS hA (c_X5_bringBack l dC dI cI cZ l0 l4 l5 l6 l8 l10 l11 l12 l13 l14 l15 l16 _ uL hc6) (lw_V qm_X5_182 qi_X5_bringBack qs_X5_bringBack qn_X5 qc_X5_bringBack) hd_X5_bringBack ⟨rfl, rfl⟩ ⟨Nat.le_of_ble_eq_true rfl, Nat.le_of_ble_eq_true rfl⟩ ⟨Nat.le_of_ble_eq_true rfl, Nat.le_of_ble_eq_true rfl⟩ rfl rfl rfl hl.1 (Nat.le_of_ble_eq_true rfl) rfl dX5_then_63 (D_L hD) (fun H locs hP hD hS => ?_)
    refine lv_iload_n hx hb dX5_then_66 rfl (lv_at hl 0 rfl) ?_
    have hok := Option.some.inj hok
    subst hok
    exact eWi S hr hlk rfl hP hS (Nat.le_of_ble_eq_true rfl) (Nat.le_of_ble_eq_true rfl) dX5_then_67
  unfold p_X5_then at hok
  refine lv_aload_n hx hb dX5_then_0 rfl (lv_at hl 0 rfl) ?_
  obtain ⟨v1, hc1, hok⟩ := bd_some hok
  refine cWVv (ci := 5) (q0 := 0) [] S hK hP hD hS hA (c_X5_keep l dC dI cI cZ l0 l4 l5 l6 l8 l10 l11 l12 l13 l14 l15 l16 _ uL hc1) (lw_V qm_X5_179 qi_X5_keep qs_X5_keep qn_X5 qc_X5_keep) hd_X5_keep ⟨rfl, rfl⟩ ⟨Nat.le_of_ble_eq_true rfl, Nat.le_of_ble_eq_true rfl⟩ ⟨Nat.le_of_ble_eq_true rfl, Nat.le_of_ble_eq_true rfl⟩ rfl rfl rfl hl.1 (Nat.le_of_ble_eq_true rfl) rfl dX5_then_1 (D_L hD) (fun H locs hP hD hS => ?_)
  refine lv_aload_n hx hb dX5_then_4 rfl (lv_at hl 0 rfl) ?_
  refine lv_iload_n hx hb dX5_then_5 rfl (lv_at hl 1 rfl) ?_
  obtain ⟨v2, hc2, hok⟩ := bd_some hok
  refine cWVv (ci := 5) (q0 := 0) [.int a1] S hK hP hD hS hA (c_X5_hoursOn l dC dI cI cZ l0 l4 l5 l6 l8 l10 l11 l12 l13 l14 l15 l16 _ v1 a1 hc2) (lw_V qm_X5_122 qi_X5_hoursOn qs_X5_hoursOn qn_X5 qc_X5_hoursOn) hd_X5_hoursOn ⟨rfl, rfl⟩ ⟨Nat.le_of_ble_eq_true rfl, Nat.le_of_ble_eq_true rfl⟩ ⟨Nat.le_of_ble_eq_true rfl, Nat.le_of_ble_eq_true rfl⟩ rfl rfl rfl hl.1 (Nat.le_of_ble_eq_true rfl) rfl dX5_then_6 (D_L hD) (fun H locs hP hD hS => ?_)
  refine lv_iload_n hx hb dX5_then_9 rfl (lv_at hl 2 rfl) ?_
  refine lv_bipush (v := (8 : Int32)) hx hb dX5_then_10 (by decide) ?_
  refine lv_icmp_ne (tgt := 25) hx hb dX5_then_12 (by decide) (fun hc => ?_) (fun hc => ?_)
  · have hok := iq hok hc
    refine lv_iload_n hx hb dX5_then_25 rfl (lv_at hl 2 rfl) ?_
    refine lv_bipush (v := (7 : Int32)) hx hb dX5_then_26 (by decide) ?_
    refine lv_icmp_ne (tgt := 44) hx hb dX5_then_28 (by decide) (fun hc => ?_) (fun hc => ?_)
    · have hok := iq hok hc
      refine lv_iload_n hx hb dX5_then_44 rfl (lv_at hl 2 rfl) ?_
      refine lv_bipush (v := (33 : Int32)) hx hb dX5_then_45 (by decide) ?_
      refine lv_icmp_ne (tgt := 57) hx hb dX5_then_47 (by decide) (fun hc => ?_) (fun hc => ?_)
      · have hok := iq hok hc
        refine lv_aload_n hx hb dX5_then_57 rfl (lv_at hl 0 rfl) ?_
        obtain ⟨v3, hc3, hok⟩ := bd_some hok
        refine cRVi (ci := 5) (q0 := 0) [] S hK hP (c_X5_cut l dC dI cI cZ l0 l4 l5 l6 l8 l10 l11 l12 l13 l14 l15 l16 v2 hc3) (lw_V qm_X5_134 qi_X5_cut qs_X5_cut qn_X5 qc_X5_cut) hd_X5_cut ⟨rfl, rfl⟩ ⟨Nat.le_of_ble_eq_true rfl, Nat.le_of_ble_eq_true rfl⟩ ⟨Nat.le_of_ble_eq_true rfl, Nat.le_of_ble_eq_true rfl⟩ rfl rfl rfl hl.1 (Nat.le_of_ble_eq_true rfl) rfl dX5_then_58 ?_
        exact J61 v2 v3 _ _ hP hD hS _ (lv_sub hl [0] rfl) hok
      · have hok := ip hok hc
        refine lv_aload_n hx hb dX5_then_50 rfl (lv_at hl 0 rfl) ?_
        obtain ⟨v4, hc4, hok⟩ := bd_some hok
        refine cRVi (ci := 5) (q0 := 0) [] S hK hP (c_X5_warmth l dC dI cI cZ l0 l4 l5 l6 l8 l10 l11 l12 l13 l14 l15 l16 v2 hc4) (lw_V qm_X5_191 qi_X5_warmth qs_X5_warmth qn_X5 qc_X5_warmth) hd_X5_warmth ⟨rfl, rfl⟩ ⟨Nat.le_of_ble_eq_true rfl, Nat.le_of_ble_eq_true rfl⟩ ⟨Nat.le_of_ble_eq_true rfl, Nat.le_of_ble_eq_true rfl⟩ rfl rfl rfl hl.1 (Nat.le_of_ble_eq_true rfl) rfl dX5_then_51 ?_
        refine lv_goto (tgt := 61) hx hb dX5_then_54 (by decide) ?_
        exact J61 v2 v4 _ _ hP hD hS _ (lv_sub hl [0] rfl) hok
    · have hok := ip hok hc
      refine lv_aload_n hx hb dX5_then_31 rfl (lv_at hl 0 rfl) ?_
      refine va_get (D := (dC, dI)) (ci := 5) (v := .ref l15) (C := RX5) (T := TX5) (N := 18) hx hb hts inX5 hown hK hP 0 rfl rfl 15 (by decide) (hts _ qf_X5_44) (fun _ h9 => h9) rfl dX5_then_32 ?_
      refine lv_bipush (v := (7 : Int32)) hx hb dX5_then_35 (by decide) ?_
      refine va_ialdK hx hb hK hP 10 0 rfl rfl (j := 7) (by decide) (vp_inK (by decide)) dX5_then_37 ?_
      obtain ⟨v5, hc5, hok⟩ := bd_some hok
      refine cRSi [.int (v2.1 7)] S hK va_Pnil (c_X5_ones l dC dI cI cZ (v2.1 7) hc5) (lw_S qm_X5_116 qt_X5_ones qn_X5 qc_X5_ones) hd_X5_ones ⟨rfl, rfl⟩ ⟨Nat.le_of_ble_eq_true rfl, Nat.le_of_ble_eq_true rfl⟩ ⟨Nat.le_of_ble_eq_true rfl, Nat.le_of_ble_eq_true rfl⟩ rfl hl.1 (Nat.le_of_ble_eq_true rfl) rfl dX5_then_38 ?_
      refine lv_goto (tgt := 61) hx hb dX5_then_41 (by decide) ?_
      exact J61 v2 v5 _ _ hP hD hS _ (lv_sub hl [0] rfl) hok
  · have hok := ip hok hc
    refine lv_aload_n hx hb dX5_then_15 rfl (lv_at hl 0 rfl) ?_
    refine va_get (D := (dC, dI)) (ci := 5) (v := .ref l15) (C := RX5) (T := TX5) (N := 18) hx hb hts inX5 hown hK hP 0 rfl rfl 15 (by decide) (hts _ qf_X5_44) (fun _ h9 => h9) rfl dX5_then_16 ?_
    refine lv_bipush (v := (8 : Int32)) hx hb dX5_then_19 (by decide) ?_
    refine va_ialdK hx hb hK hP 10 0 rfl rfl (j := 8) (by decide) (vp_inK (by decide)) dX5_then_21 ?_
    refine lv_goto (tgt := 61) hx hb dX5_then_22 (by decide) ?_
    exact J61 v2 (v2.1 8) _ _ hP hD hS _ (lv_sub hl [0] rfl) hok
theorem hd_X5_printedIn : yX5_printedIn.cls = RX5 ∧ yX5_printedIn.cls ≠ "java/lang/invoke/MethodHandle" ∧ yX5_printedIn.cls ≠ "java/lang/invoke/VarHandle" ∧ (parseMethodDescriptor yX5_printedIn.desc).map (fun d => d.parameters.length) = some 1 := by decide +kernel
def p_X5_printedIn (uL : tX5) (a1 : Int32) : Option (Int32 × tX5) :=
  bd (p_X5_isIn a1 (1 : Int32) (40 : Int32)) (fun v1 =>
  if v1 = 0 then
    bd (p_X5_fail (uL.1, uL.2.1, uL.2.2.1, (0 : Int32), uL.2.2.2.2) (1 : Int32)) (fun v2 =>
    some (v2.1, v2.2))
  else
    bd (p_X5_then (uL.1, uL.2.1, uL.2.2.1, (0 : Int32), uL.2.2.2.2) a1 (8 : Int32)) (fun v3 =>
    some ((v3.1 - (v3.2.1 8)), v3.2)))
set_option maxHeartbeats 4000000 in
set_option maxRecDepth 100000 in
theorem c_X5_printedIn (l : Launch) (dC : Nat → ClassId) (dI : Nat → Nat → Nat) (cI cZ : ClassId) (l0 l4 l5 l6 l8 l10 l11 l12 l13 l14 l15 l16 : Nat) (sz : Nat) (uL : tX5) (a1 : Int32) {z : (Int32 × tX5)} (hok : p_X5_printedIn uL a1 = some z) : Met l yX5_printedIn (Cond.code yX5_printedIn cX5_printedIn 2 (some .int) :: lw_all) { frames := 8, cells := 0, slots := 0, locals := 174 } (prW (dC, dI) vwCl (TYS cI cZ) ((wX5 cI cZ l0 l4 l5 l6 l8 l10 l11 l12 l13 l14 l15 l16 uL)) sz [.ref l0, .int a1]) (va_Qi (fun (r : Int32) (_ : Unit) => r = z.1) (fun _ t => va_P (dC, dI) vwCl ((wX5 cI cZ l0 l4 l5 l6 l8 l10 l11 l12 l13 l14 l15 l16 z.2)) t.heap) (va_A ((wX5 cI cZ l0 l4 l5 l6 l8 l10 l11 l12 l13 l14 l15 l16 uL)) sz)) 0 0 (va_A ((wX5 cI cZ l0 l4 l5 l6 l8 l10 l11 l12 l13 l14 l15 l16 uL)) sz) := by
  refine oM (by decide) (Nat.le_of_ble_eq_true rfl) ?_
  intro p e s m args below meth c S hr hlk hnm hB ls hl
  have hx := S.1
  have hb := S.2.1
  have hml := S.2.2.1
  have hown : s.vm.findClass RX5 = some m.cls := S.2.2.2.1
  have hts := S.2.2.2.2
  have S : CallFix p m c cX5_printedIn 2 s args lw_all RX5 := S
  have hl : lv_has ls 2 [(0, .ref l0), (1, .int a1)] := hl
  obtain ⟨hsz, hP, hK, hD0⟩ := hB
  subst hsz
  have hD := hD0.self (sz := s.heap.size)
  generalize hAe : va_A ((wX5 cI cZ l0 l4 l5 l6 l8 l10 l11 l12 l13 l14 l15 l16 uL)) s.heap.size = A at hD ⊢
  have hA : ∀ q : Nat, s.heap.size ≤ q → A q := fun q h => by rw [← hAe]; exact Or.inr h
  have hS : va_S A s.heap s.heap [] := va_S.rf
  have hP : va_P (dC, dI) vwCl ((wX5 cI cZ l0 l4 l5 l6 l8 l10 l11 l12 l13 l14 l15 l16 uL)) s.heap := hP
  unfold p_X5_printedIn at hok
  refine lv_aload_n hx hb dX5_printedIn_0 rfl (lv_at hl 0 rfl) ?_
  refine lv_iconst (v := (0 : Int32)) hx hb dX5_printedIn_1 (by decide) ?_
  refine va_put (D := (dC, dI)) (ci := 5) (v := .int (0 : Int32)) (ty := .int) (C := RX5) (T := TX5) (N := 18) hx hb hts inX5 tyX5 tyX5_ok nmX5 hown hK hP hD hS 0 rfl rfl 0 (by decide) (hts _ qf_X5_50) (fun _ h9 => h9) rfl (tyX5_ok 0 (by decide)) rfl rfl (Nat.le_of_ble_eq_true rfl) dX5_printedIn_2 (fun H locs hP _ hS => ?_)
  have hP : va_P (dC, dI) vwCl ((wX5 cI cZ l0 l4 l5 l6 l8 l10 l11 l12 l13 l14 l15 l16 (uL.1, uL.2.1, uL.2.2.1, (0 : Int32), uL.2.2.2.2))) H := hP
  have hD : va_D A ((wX5 cI cZ l0 l4 l5 l6 l8 l10 l11 l12 l13 l14 l15 l16 (uL.1, uL.2.1, uL.2.2.1, (0 : Int32), uL.2.2.2.2))) := D_L hD
  refine lv_iload_n hx hb dX5_printedIn_5 rfl (lv_at hl 1 rfl) ?_
  refine lv_iconst (v := (1 : Int32)) hx hb dX5_printedIn_6 (by decide) ?_
  refine lv_bipush (v := (40 : Int32)) hx hb dX5_printedIn_7 (by decide) ?_
  obtain ⟨v1, hc1, hok⟩ := bd_some hok
  refine cRSi [.int a1, .int (1 : Int32), .int (40 : Int32)] S hK va_Pnil (c_X5_isIn l dC dI cI cZ a1 (1 : Int32) (40 : Int32) hc1) (lw_S qm_X5_53 qt_X5_isIn qn_X5 qc_X5_isIn) hd_X5_isIn ⟨rfl, rfl⟩ ⟨Nat.le_of_ble_eq_true rfl, Nat.le_of_ble_eq_true rfl⟩ ⟨Nat.le_of_ble_eq_true rfl, Nat.le_of_ble_eq_true rfl⟩ rfl hl.1 (Nat.le_of_ble_eq_true rfl) rfl dX5_printedIn_9 ?_
  refine lv_if_eq (tgt := 33) hx hb dX5_printedIn_12 (by decide) (fun hc => ?_) (fun hc => ?_)
  · have hok := ip hok hc
    refine lv_aload_n hx hb dX5_printedIn_33 rfl (lv_at hl 0 rfl) ?_
    refine lv_iconst (v := (1 : Int32)) hx hb dX5_printedIn_34 (by decide) ?_
    obtain ⟨v2, hc2, hok⟩ := bd_some hok
    refine cWVi (ci := 5) (q0 := 0) [.int (1 : Int32)] S hK hP hD hS hA (c_X5_fail l dC dI cI cZ l0 l4 l5 l6 l8 l10 l11 l12 l13 l14 l15 l16 _ (uL.1, uL.2.1, uL.2.2.1, (0 : Int32), uL.2.2.2.2) (1 : Int32) hc2) (lw_V qm_X5_112 qi_X5_fail qs_X5_fail qn_X5 qc_X5_fail) hd_X5_fail ⟨rfl, rfl⟩ ⟨Nat.le_of_ble_eq_true rfl, Nat.le_of_ble_eq_true rfl⟩ ⟨Nat.le_of_ble_eq_true rfl, Nat.le_of_ble_eq_true rfl⟩ rfl rfl rfl hl.1 (Nat.le_of_ble_eq_true rfl) rfl dX5_printedIn_35 (D_L hD) (fun H locs hP hD hS => ?_)
    have hok := Option.some.inj hok
    subst hok
    exact eWi S hr hlk rfl hP hS (Nat.le_of_ble_eq_true rfl) (Nat.le_of_ble_eq_true rfl) dX5_printedIn_38
  · have hok := iq hok hc
    refine lv_aload_n hx hb dX5_printedIn_15 rfl (lv_at hl 0 rfl) ?_
    refine lv_iload_n hx hb dX5_printedIn_16 rfl (lv_at hl 1 rfl) ?_
    refine lv_bipush (v := (8 : Int32)) hx hb dX5_printedIn_17 (by decide) ?_
    obtain ⟨v3, hc3, hok⟩ := bd_some hok
    refine cWVi (ci := 5) (q0 := 0) [.int a1, .int (8 : Int32)] S hK hP hD hS hA (c_X5_then l dC dI cI cZ l0 l4 l5 l6 l8 l10 l11 l12 l13 l14 l15 l16 _ (uL.1, uL.2.1, uL.2.2.1, (0 : Int32), uL.2.2.2.2) a1 (8 : Int32) hc3) (lw_V qm_X5_194 qi_X5_then qs_X5_then qn_X5 qc_X5_then) hd_X5_then ⟨rfl, rfl⟩ ⟨Nat.le_of_ble_eq_true rfl, Nat.le_of_ble_eq_true rfl⟩ ⟨Nat.le_of_ble_eq_true rfl, Nat.le_of_ble_eq_true rfl⟩ rfl rfl rfl hl.1 (Nat.le_of_ble_eq_true rfl) rfl dX5_printedIn_19 (D_L hD) (fun H locs hP hD hS => ?_)
    refine lv_aload_n hx hb dX5_printedIn_22 rfl (lv_at hl 0 rfl) ?_
    refine va_get (D := (dC, dI)) (ci := 5) (v := .ref l15) (C := RX5) (T := TX5) (N := 18) hx hb hts inX5 hown hK hP 0 rfl rfl 15 (by decide) (hts _ qf_X5_44) (fun _ h9 => h9) rfl dX5_printedIn_23 ?_
    refine lv_bipush (v := (8 : Int32)) hx hb dX5_printedIn_26 (by decide) ?_
    refine va_ialdK hx hb hK hP 10 0 rfl rfl (j := 8) (by decide) (vp_inK (by decide)) dX5_printedIn_28 ?_
    refine lv_isub hx hb dX5_printedIn_29 ?_
    refine lv_goto (tgt := 38) hx hb dX5_printedIn_30 (by decide) ?_
    have hok := Option.some.inj hok
    subst hok
    exact eWi S hr hlk rfl hP hS (Nat.le_of_ble_eq_true rfl) (Nat.le_of_ble_eq_true rfl) dX5_printedIn_38
theorem hd_X5_subscribersIn : yX5_subscribersIn.cls = RX5 ∧ yX5_subscribersIn.cls ≠ "java/lang/invoke/MethodHandle" ∧ yX5_subscribersIn.cls ≠ "java/lang/invoke/VarHandle" ∧ (parseMethodDescriptor yX5_subscribersIn.desc).map (fun d => d.parameters.length) = some 1 := by decide +kernel
def p_X5_subscribersIn (uL : tX5) (a1 : Int32) : Option (Int32 × tX5) :=
  bd (p_X5_isIn a1 (1 : Int32) (40 : Int32)) (fun v1 =>
  if v1 = 0 then
    bd (p_X5_fail (uL.1, uL.2.1, uL.2.2.1, (0 : Int32), uL.2.2.2.2) (1 : Int32)) (fun v2 =>
    some (v2.1, v2.2))
  else
    bd (p_X5_then (uL.1, uL.2.1, uL.2.2.1, (0 : Int32), uL.2.2.2.2) a1 (7 : Int32)) (fun v3 =>
    some (v3.1, v3.2)))
set_option maxHeartbeats 4000000 in
set_option maxRecDepth 100000 in
theorem c_X5_subscribersIn (l : Launch) (dC : Nat → ClassId) (dI : Nat → Nat → Nat) (cI cZ : ClassId) (l0 l4 l5 l6 l8 l10 l11 l12 l13 l14 l15 l16 : Nat) (sz : Nat) (uL : tX5) (a1 : Int32) {z : (Int32 × tX5)} (hok : p_X5_subscribersIn uL a1 = some z) : Met l yX5_subscribersIn (Cond.code yX5_subscribersIn cX5_subscribersIn 2 (some .int) :: lw_all) { frames := 8, cells := 0, slots := 0, locals := 174 } (prW (dC, dI) vwCl (TYS cI cZ) ((wX5 cI cZ l0 l4 l5 l6 l8 l10 l11 l12 l13 l14 l15 l16 uL)) sz [.ref l0, .int a1]) (va_Qi (fun (r : Int32) (_ : Unit) => r = z.1) (fun _ t => va_P (dC, dI) vwCl ((wX5 cI cZ l0 l4 l5 l6 l8 l10 l11 l12 l13 l14 l15 l16 z.2)) t.heap) (va_A ((wX5 cI cZ l0 l4 l5 l6 l8 l10 l11 l12 l13 l14 l15 l16 uL)) sz)) 0 0 (va_A ((wX5 cI cZ l0 l4 l5 l6 l8 l10 l11 l12 l13 l14 l15 l16 uL)) sz) := by
  refine oM (by decide) (Nat.le_of_ble_eq_true rfl) ?_
  intro p e s m args below meth c S hr hlk hnm hB ls hl
  have hx := S.1
  have hb := S.2.1
  have hml := S.2.2.1
  have hown : s.vm.findClass RX5 = some m.cls := S.2.2.2.1
  have hts := S.2.2.2.2
  have S : CallFix p m c cX5_subscribersIn 2 s args lw_all RX5 := S
  have hl : lv_has ls 2 [(0, .ref l0), (1, .int a1)] := hl
  obtain ⟨hsz, hP, hK, hD0⟩ := hB
  subst hsz
  have hD := hD0.self (sz := s.heap.size)
  generalize hAe : va_A ((wX5 cI cZ l0 l4 l5 l6 l8 l10 l11 l12 l13 l14 l15 l16 uL)) s.heap.size = A at hD ⊢
  have hA : ∀ q : Nat, s.heap.size ≤ q → A q := fun q h => by rw [← hAe]; exact Or.inr h
  have hS : va_S A s.heap s.heap [] := va_S.rf
  have hP : va_P (dC, dI) vwCl ((wX5 cI cZ l0 l4 l5 l6 l8 l10 l11 l12 l13 l14 l15 l16 uL)) s.heap := hP
  unfold p_X5_subscribersIn at hok
  refine lv_aload_n hx hb dX5_subscribersIn_0 rfl (lv_at hl 0 rfl) ?_
  refine lv_iconst (v := (0 : Int32)) hx hb dX5_subscribersIn_1 (by decide) ?_
  refine va_put (D := (dC, dI)) (ci := 5) (v := .int (0 : Int32)) (ty := .int) (C := RX5) (T := TX5) (N := 18) hx hb hts inX5 tyX5 tyX5_ok nmX5 hown hK hP hD hS 0 rfl rfl 0 (by decide) (hts _ qf_X5_50) (fun _ h9 => h9) rfl (tyX5_ok 0 (by decide)) rfl rfl (Nat.le_of_ble_eq_true rfl) dX5_subscribersIn_2 (fun H locs hP _ hS => ?_)
  have hP : va_P (dC, dI) vwCl ((wX5 cI cZ l0 l4 l5 l6 l8 l10 l11 l12 l13 l14 l15 l16 (uL.1, uL.2.1, uL.2.2.1, (0 : Int32), uL.2.2.2.2))) H := hP
  have hD : va_D A ((wX5 cI cZ l0 l4 l5 l6 l8 l10 l11 l12 l13 l14 l15 l16 (uL.1, uL.2.1, uL.2.2.1, (0 : Int32), uL.2.2.2.2))) := D_L hD
  refine lv_iload_n hx hb dX5_subscribersIn_5 rfl (lv_at hl 1 rfl) ?_
  refine lv_iconst (v := (1 : Int32)) hx hb dX5_subscribersIn_6 (by decide) ?_
  refine lv_bipush (v := (40 : Int32)) hx hb dX5_subscribersIn_7 (by decide) ?_
  obtain ⟨v1, hc1, hok⟩ := bd_some hok
  refine cRSi [.int a1, .int (1 : Int32), .int (40 : Int32)] S hK va_Pnil (c_X5_isIn l dC dI cI cZ a1 (1 : Int32) (40 : Int32) hc1) (lw_S qm_X5_53 qt_X5_isIn qn_X5 qc_X5_isIn) hd_X5_isIn ⟨rfl, rfl⟩ ⟨Nat.le_of_ble_eq_true rfl, Nat.le_of_ble_eq_true rfl⟩ ⟨Nat.le_of_ble_eq_true rfl, Nat.le_of_ble_eq_true rfl⟩ rfl hl.1 (Nat.le_of_ble_eq_true rfl) rfl dX5_subscribersIn_9 ?_
  refine lv_if_eq (tgt := 25) hx hb dX5_subscribersIn_12 (by decide) (fun hc => ?_) (fun hc => ?_)
  · have hok := ip hok hc
    refine lv_aload_n hx hb dX5_subscribersIn_25 rfl (lv_at hl 0 rfl) ?_
    refine lv_iconst (v := (1 : Int32)) hx hb dX5_subscribersIn_26 (by decide) ?_
    obtain ⟨v2, hc2, hok⟩ := bd_some hok
    refine cWVi (ci := 5) (q0 := 0) [.int (1 : Int32)] S hK hP hD hS hA (c_X5_fail l dC dI cI cZ l0 l4 l5 l6 l8 l10 l11 l12 l13 l14 l15 l16 _ (uL.1, uL.2.1, uL.2.2.1, (0 : Int32), uL.2.2.2.2) (1 : Int32) hc2) (lw_V qm_X5_112 qi_X5_fail qs_X5_fail qn_X5 qc_X5_fail) hd_X5_fail ⟨rfl, rfl⟩ ⟨Nat.le_of_ble_eq_true rfl, Nat.le_of_ble_eq_true rfl⟩ ⟨Nat.le_of_ble_eq_true rfl, Nat.le_of_ble_eq_true rfl⟩ rfl rfl rfl hl.1 (Nat.le_of_ble_eq_true rfl) rfl dX5_subscribersIn_27 (D_L hD) (fun H locs hP hD hS => ?_)
    have hok := Option.some.inj hok
    subst hok
    exact eWi S hr hlk rfl hP hS (Nat.le_of_ble_eq_true rfl) (Nat.le_of_ble_eq_true rfl) dX5_subscribersIn_30
  · have hok := iq hok hc
    refine lv_aload_n hx hb dX5_subscribersIn_15 rfl (lv_at hl 0 rfl) ?_
    refine lv_iload_n hx hb dX5_subscribersIn_16 rfl (lv_at hl 1 rfl) ?_
    refine lv_bipush (v := (7 : Int32)) hx hb dX5_subscribersIn_17 (by decide) ?_
    obtain ⟨v3, hc3, hok⟩ := bd_some hok
    refine cWVi (ci := 5) (q0 := 0) [.int a1, .int (7 : Int32)] S hK hP hD hS hA (c_X5_then l dC dI cI cZ l0 l4 l5 l6 l8 l10 l11 l12 l13 l14 l15 l16 _ (uL.1, uL.2.1, uL.2.2.1, (0 : Int32), uL.2.2.2.2) a1 (7 : Int32) hc3) (lw_V qm_X5_194 qi_X5_then qs_X5_then qn_X5 qc_X5_then) hd_X5_then ⟨rfl, rfl⟩ ⟨Nat.le_of_ble_eq_true rfl, Nat.le_of_ble_eq_true rfl⟩ ⟨Nat.le_of_ble_eq_true rfl, Nat.le_of_ble_eq_true rfl⟩ rfl rfl rfl hl.1 (Nat.le_of_ble_eq_true rfl) rfl dX5_subscribersIn_19 (D_L hD) (fun H locs hP hD hS => ?_)
    refine lv_goto (tgt := 30) hx hb dX5_subscribersIn_22 (by decide) ?_
    have hok := Option.some.inj hok
    subst hok
    exact eWi S hr hlk rfl hP hS (Nat.le_of_ble_eq_true rfl) (Nat.le_of_ble_eq_true rfl) dX5_subscribersIn_30
theorem hd_X5_callBest : yX5_callBest.cls = RX5 ∧ yX5_callBest.cls ≠ "java/lang/invoke/MethodHandle" ∧ yX5_callBest.cls ≠ "java/lang/invoke/VarHandle" ∧ (parseMethodDescriptor yX5_callBest.desc).map (fun d => d.parameters.length) = some 1 := by decide +kernel
def p_X5_callBest_L16 : Nat → tX5 → Int32 → Int32 → Int32 → Int32 → Int32 → Option (Int32 × tX5)
  | 0, _, _, _, _, _, _ => none
  | n + 1, uL, l16_1, l16_2, l16_3, l16_4, l16_5 =>
    if uL.2.2.2.2.1 ≤ l16_5 then
      some (l16_2, ((upd uL.1 6 l16_4), uL.2))
    else
      bd (p_X5_then ((upd uL.1 6 (l16_4 ||| ((1 : Int32) <<< (l16_5 &&& 31)))), uL.2) l16_1 (33 : Int32)) (fun v1 =>
      if l16_3 < v1.1 then
        (p_X5_callBest_L16 n) v1.2 l16_1 l16_5 v1.1 l16_4 (l16_5 + 1)
      else
        (p_X5_callBest_L16 n) v1.2 l16_1 l16_2 l16_3 l16_4 (l16_5 + 1))
def p_X5_callBest (uL : tX5) (a1 : Int32) : Option (Int32 × tX5) :=
  p_X5_callBest_L16 200 uL a1 (-1 : Int32) (-1 : Int32) (uL.1 6) (0 : Int32)
set_option maxHeartbeats 4000000 in
set_option maxRecDepth 100000 in
theorem c_X5_callBest (l : Launch) (dC : Nat → ClassId) (dI : Nat → Nat → Nat) (cI cZ : ClassId) (l0 l4 l5 l6 l8 l10 l11 l12 l13 l14 l15 l16 : Nat) (sz : Nat) (uL : tX5) (a1 : Int32) {z : (Int32 × tX5)} (hok : p_X5_callBest uL a1 = some z) : Met l yX5_callBest (Cond.code yX5_callBest cX5_callBest 7 (some .int) :: lw_all) { frames := 8, cells := 0, slots := 0, locals := 174 } (prW (dC, dI) vwCl (TYS cI cZ) ((wX5 cI cZ l0 l4 l5 l6 l8 l10 l11 l12 l13 l14 l15 l16 uL)) sz [.ref l0, .int a1]) (va_Qi (fun (r : Int32) (_ : Unit) => r = z.1) (fun _ t => va_P (dC, dI) vwCl ((wX5 cI cZ l0 l4 l5 l6 l8 l10 l11 l12 l13 l14 l15 l16 z.2)) t.heap) (va_A ((wX5 cI cZ l0 l4 l5 l6 l8 l10 l11 l12 l13 l14 l15 l16 uL)) sz)) 0 0 (va_A ((wX5 cI cZ l0 l4 l5 l6 l8 l10 l11 l12 l13 l14 l15 l16 uL)) sz) := by
  refine oM (by decide) (Nat.le_of_ble_eq_true rfl) ?_
  intro p e s m args below meth c S hr hlk hnm hB ls hl
  have hx := S.1
  have hb := S.2.1
  have hml := S.2.2.1
  have hown : s.vm.findClass RX5 = some m.cls := S.2.2.2.1
  have hts := S.2.2.2.2
  have S : CallFix p m c cX5_callBest 7 s args lw_all RX5 := S
  have hl : lv_has ls 7 [(0, .ref l0), (1, .int a1)] := hl
  obtain ⟨hsz, hP, hK, hD0⟩ := hB
  subst hsz
  have hD := hD0.self (sz := s.heap.size)
  generalize hAe : va_A ((wX5 cI cZ l0 l4 l5 l6 l8 l10 l11 l12 l13 l14 l15 l16 uL)) s.heap.size = A at hD ⊢
  have hA : ∀ q : Nat, s.heap.size ≤ q → A q := fun q h => by rw [← hAe]; exact Or.inr h
  have hS : va_S A s.heap s.heap [] := va_S.rf
  have hP : va_P (dC, dI) vwCl ((wX5 cI cZ l0 l4 l5 l6 l8 l10 l11 l12 l13 l14 l15 l16 uL)) s.heap := hP
  have L16 : ∀ n16 : Nat, ∀ (uL : tX5) (l16_1 : Int32) (l16_2 : Int32) (l16_3 : Int32) (l16_4 : Int32) (l16_5 : Int32) (H : Heap) (locs : List Loc) (hP : va_P (dC, dI) vwCl ((wX5 cI cZ l0 l4 l5 l6 l8 l10 l11 l12 l13 l14 l15 l16 uL)) H) (hD : va_D A ((wX5 cI cZ l0 l4 l5 l6 l8 l10 l11 l12 l13 l14 l15 l16 uL))) (hS : va_S A s.heap H locs) (ls : Array Slot) (hl : lv_has ls 7 [(0, .ref l0), (1, .int l16_1), (2, .int l16_2), (3, .int l16_3), (4, .int l16_4), (5, .int l16_5)]) (hok : p_X5_callBest_L16 n16 uL l16_1 l16_2 l16_3 l16_4 l16_5 = some z), W p l e { frames := 8, cells := 0, slots := 0, locals := 174 } s m args below meth c H locs 0 0 (MQ below (va_Qi (fun (r : Int32) (_ : Unit) => r = z.1) (fun _ t => va_P (dC, dI) vwCl ((wX5 cI cZ l0 l4 l5 l6 l8 l10 l11 l12 l13 l14 l15 l16 z.2)) t.heap) A) args s 0 0 A) (F0 m 16 ls []) := by
    intro n16
    induction n16 with
    | zero =>
      intro uL l16_1 l16_2 l16_3 l16_4 l16_5 H locs hP hD hS ls hl hok
      rw [p_X5_callBest_L16] at hok
      cases hok
    | succ n16 ih16 =>
      intro uL l16_1 l16_2 l16_3 l16_4 l16_5 H locs hP hD hS ls hl hok
      rw [p_X5_callBest_L16] at hok
      refine lv_iload hx hb dX5_callBest_16 (lv_at hl 5 rfl) ?_
      refine lv_aload_n hx hb dX5_callBest_18 rfl (lv_at hl 0 rfl) ?_
      refine va_get (D := (dC, dI)) (ci := 5) (v := .int uL.2.2.2.2.1) (C := RX5) (T := TX5) (N := 18) hx hb hts inX5 hown hK hP 0 rfl rfl 1 (by decide) (hts _ qf_X5_7) (fun _ h9 => h9) rfl dX5_callBest_19 ?_
      refine lv_icmp_ge (tgt := 69) hx hb dX5_callBest_22 (by decide) (fun hc => ?_) (fun hc => ?_)
      · have hok := ip hok hc
        refine lv_aload_n hx hb dX5_callBest_69 rfl (lv_at hl 0 rfl) ?_
        refine va_get (D := (dC, dI)) (ci := 5) (v := .ref l15) (C := RX5) (T := TX5) (N := 18) hx hb hts inX5 hown hK hP 0 rfl rfl 15 (by decide) (hts _ qf_X5_44) (fun _ h9 => h9) rfl dX5_callBest_70 ?_
        refine lv_bipush (v := (6 : Int32)) hx hb dX5_callBest_73 (by decide) ?_
        refine lv_iload hx hb dX5_callBest_75 (lv_at hl 4 rfl) ?_
        refine va_iastK hx hb hK hP hD hS 10 0 rfl rfl (j := 6) (by decide) (vp_inK (by decide)) dX5_callBest_77 (fun H locs hP _ hS => ?_)
        have hP : va_P (dC, dI) vwCl ((wX5 cI cZ l0 l4 l5 l6 l8 l10 l11 l12 l13 l14 l15 l16 ((upd uL.1 6 l16_4), uL.2))) H := hP
        have hD : va_D A ((wX5 cI cZ l0 l4 l5 l6 l8 l10 l11 l12 l13 l14 l15 l16 ((upd uL.1 6 l16_4), uL.2))) := D_L hD
        refine lv_iload_n hx hb dX5_callBest_78 rfl (lv_at hl 2 rfl) ?_
        have hok := Option.some.inj hok
        subst hok
        exact eWi S hr hlk rfl hP hS (Nat.le_of_ble_eq_true rfl) (Nat.le_of_ble_eq_true rfl) dX5_callBest_79
      · have hok := iq hok hc
        refine lv_aload_n hx hb dX5_callBest_25 rfl (lv_at hl 0 rfl) ?_
        refine va_get (D := (dC, dI)) (ci := 5) (v := .ref l15) (C := RX5) (T := TX5) (N := 18) hx hb hts inX5 hown hK hP 0 rfl rfl 15 (by decide) (hts _ qf_X5_44) (fun _ h9 => h9) rfl dX5_callBest_26 ?_
        refine lv_bipush (v := (6 : Int32)) hx hb dX5_callBest_29 (by decide) ?_
        refine lv_iload hx hb dX5_callBest_31 (lv_at hl 4 rfl) ?_
        refine lv_iconst (v := (1 : Int32)) hx hb dX5_callBest_33 (by decide) ?_
        refine lv_iload hx hb dX5_callBest_34 (lv_at hl 5 rfl) ?_
        refine lv_ishl hx hb dX5_callBest_36 ?_
        refine lv_ior hx hb dX5_callBest_37 ?_
        refine va_iastK hx hb hK hP hD hS 10 0 rfl rfl (j := 6) (by decide) (vp_inK (by decide)) dX5_callBest_38 (fun H locs hP _ hS => ?_)
        have hP : va_P (dC, dI) vwCl ((wX5 cI cZ l0 l4 l5 l6 l8 l10 l11 l12 l13 l14 l15 l16 ((upd uL.1 6 (l16_4 ||| ((1 : Int32) <<< (l16_5 &&& 31)))), uL.2))) H := hP
        have hD : va_D A ((wX5 cI cZ l0 l4 l5 l6 l8 l10 l11 l12 l13 l14 l15 l16 ((upd uL.1 6 (l16_4 ||| ((1 : Int32) <<< (l16_5 &&& 31)))), uL.2))) := D_L hD
        refine lv_aload_n hx hb dX5_callBest_39 rfl (lv_at hl 0 rfl) ?_
        refine lv_iload_n hx hb dX5_callBest_40 rfl (lv_at hl 1 rfl) ?_
        refine lv_bipush (v := (33 : Int32)) hx hb dX5_callBest_41 (by decide) ?_
        obtain ⟨v1, hc1, hok⟩ := bd_some hok
        refine cWVi (ci := 5) (q0 := 0) [.int l16_1, .int (33 : Int32)] S hK hP hD hS hA (c_X5_then l dC dI cI cZ l0 l4 l5 l6 l8 l10 l11 l12 l13 l14 l15 l16 _ ((upd uL.1 6 (l16_4 ||| ((1 : Int32) <<< (l16_5 &&& 31)))), uL.2) l16_1 (33 : Int32) hc1) (lw_V qm_X5_194 qi_X5_then qs_X5_then qn_X5 qc_X5_then) hd_X5_then ⟨rfl, rfl⟩ ⟨Nat.le_of_ble_eq_true rfl, Nat.le_of_ble_eq_true rfl⟩ ⟨Nat.le_of_ble_eq_true rfl, Nat.le_of_ble_eq_true rfl⟩ rfl rfl rfl hl.1 (Nat.le_of_ble_eq_true rfl) rfl dX5_callBest_43 (D_L hD) (fun H locs hP hD hS => ?_)
        refine lv_istore (lv' := [(6, .int v1.1), (0, .ref l0), (1, .int l16_1), (2, .int l16_2), (3, .int l16_3), (4, .int l16_4), (5, .int l16_5)]) hx hb dX5_callBest_46 hl (by decide) rfl (fun ls hl => ?_)
        refine lv_iload hx hb dX5_callBest_48 (lv_at hl 0 rfl) ?_
        refine lv_iload_n hx hb dX5_callBest_50 rfl (lv_at hl 4 rfl) ?_
        refine lv_icmp_gt (tgt := 57) hx hb dX5_callBest_51 (by decide) (fun hc => ?_) (fun hc => ?_)
        · have hok := ip hok hc
          refine lv_iload hx hb dX5_callBest_57 (lv_at hl 6 rfl) ?_
          refine lv_istore_n (lv' := [(2, .int l16_5), (6, .int v1.1), (0, .ref l0), (1, .int l16_1), (3, .int l16_3), (4, .int l16_4), (5, .int l16_5)]) hx hb dX5_callBest_59 rfl hl (by decide) rfl (fun ls hl => ?_)
          refine lv_iload hx hb dX5_callBest_60 (lv_at hl 1 rfl) ?_
          refine lv_istore_n (lv' := [(3, .int v1.1), (2, .int l16_5), (6, .int v1.1), (0, .ref l0), (1, .int l16_1), (4, .int l16_4), (5, .int l16_5)]) hx hb dX5_callBest_62 rfl hl (by decide) rfl (fun ls hl => ?_)
          refine lv_iinc (v := (l16_5 + 1)) (lv' := [(5, .int (l16_5 + 1)), (3, .int v1.1), (2, .int l16_5), (6, .int v1.1), (0, .ref l0), (1, .int l16_1), (4, .int l16_4)]) hx hb dX5_callBest_63 hl (k := 6) rfl rfl (by decide) rfl (fun ls hl => ?_)
          refine lv_goto (tgt := 16) hx hb dX5_callBest_66 (by decide) ?_
          exact ih16 v1.2 l16_1 l16_5 v1.1 l16_4 (l16_5 + 1) _ _ hP hD hS _ (lv_sub hl [4, 5, 2, 1, 6, 0] rfl) hok
        · have hok := iq hok hc
          refine lv_goto (tgt := 63) hx hb dX5_callBest_54 (by decide) ?_
          refine lv_iinc (v := (l16_5 + 1)) (lv' := [(5, .int (l16_5 + 1)), (6, .int v1.1), (0, .ref l0), (1, .int l16_1), (2, .int l16_2), (3, .int l16_3), (4, .int l16_4)]) hx hb dX5_callBest_63 hl (k := 6) rfl rfl (by decide) rfl (fun ls hl => ?_)
          refine lv_goto (tgt := 16) hx hb dX5_callBest_66 (by decide) ?_
          exact ih16 v1.2 l16_1 l16_2 l16_3 l16_4 (l16_5 + 1) _ _ hP hD hS _ (lv_sub hl [2, 3, 4, 5, 6, 0] rfl) hok
  unfold p_X5_callBest at hok
  refine lv_iconst (v := (-1 : Int32)) hx hb dX5_callBest_0 (by decide) ?_
  refine lv_istore_n (lv' := [(2, .int (-1 : Int32)), (0, .ref l0), (1, .int a1)]) hx hb dX5_callBest_1 rfl hl (by decide) rfl (fun ls hl => ?_)
  refine lv_iconst (v := (-1 : Int32)) hx hb dX5_callBest_2 (by decide) ?_
  refine lv_istore_n (lv' := [(3, .int (-1 : Int32)), (2, .int (-1 : Int32)), (0, .ref l0), (1, .int a1)]) hx hb dX5_callBest_3 rfl hl (by decide) rfl (fun ls hl => ?_)
  refine lv_aload_n hx hb dX5_callBest_4 rfl (lv_at hl 2 rfl) ?_
  refine va_get (D := (dC, dI)) (ci := 5) (v := .ref l15) (C := RX5) (T := TX5) (N := 18) hx hb hts inX5 hown hK hP 0 rfl rfl 15 (by decide) (hts _ qf_X5_44) (fun _ h9 => h9) rfl dX5_callBest_5 ?_
  refine lv_bipush (v := (6 : Int32)) hx hb dX5_callBest_8 (by decide) ?_
  refine va_ialdK hx hb hK hP 10 0 rfl rfl (j := 6) (by decide) (vp_inK (by decide)) dX5_callBest_10 ?_
  refine lv_istore (lv' := [(4, .int (uL.1 6)), (3, .int (-1 : Int32)), (2, .int (-1 : Int32)), (0, .ref l0), (1, .int a1)]) hx hb dX5_callBest_11 hl (by decide) rfl (fun ls hl => ?_)
  refine lv_iconst (v := (0 : Int32)) hx hb dX5_callBest_13 (by decide) ?_
  refine lv_istore (lv' := [(5, .int (0 : Int32)), (4, .int (uL.1 6)), (3, .int (-1 : Int32)), (2, .int (-1 : Int32)), (0, .ref l0), (1, .int a1)]) hx hb dX5_callBest_14 hl (by decide) rfl (fun ls hl => ?_)
  exact L16 200 uL a1 (-1 : Int32) (-1 : Int32) (uL.1 6) (0 : Int32) _ _ hP hD hS _ (lv_sub hl [4, 5, 3, 2, 1, 0] rfl) hok
theorem hd_X5_bestToCall : yX5_bestToCall.cls = RX5 ∧ yX5_bestToCall.cls ≠ "java/lang/invoke/MethodHandle" ∧ yX5_bestToCall.cls ≠ "java/lang/invoke/VarHandle" ∧ (parseMethodDescriptor yX5_bestToCall.desc).map (fun d => d.parameters.length) = some 1 := by decide +kernel
def p_X5_bestToCall (uL : tX5) (a1 : Int32) : Option (Int32 × tX5) :=
  bd (p_X5_isIn a1 (1 : Int32) (40 : Int32)) (fun v1 =>
  if v1 = 0 then
    bd (p_X5_fail (uL.1, uL.2.1, uL.2.2.1, (0 : Int32), uL.2.2.2.2) (1 : Int32)) (fun v2 =>
    some (v2.1, v2.2))
  else
    bd (p_X5_callBest (uL.1, uL.2.1, uL.2.2.1, (0 : Int32), uL.2.2.2.2) a1) (fun v3 =>
    some (v3.1, v3.2)))
set_option maxHeartbeats 4000000 in
set_option maxRecDepth 100000 in
theorem c_X5_bestToCall (l : Launch) (dC : Nat → ClassId) (dI : Nat → Nat → Nat) (cI cZ : ClassId) (l0 l4 l5 l6 l8 l10 l11 l12 l13 l14 l15 l16 : Nat) (sz : Nat) (uL : tX5) (a1 : Int32) {z : (Int32 × tX5)} (hok : p_X5_bestToCall uL a1 = some z) : Met l yX5_bestToCall (Cond.code yX5_bestToCall cX5_bestToCall 2 (some .int) :: lw_all) { frames := 9, cells := 0, slots := 0, locals := 200 } (prW (dC, dI) vwCl (TYS cI cZ) ((wX5 cI cZ l0 l4 l5 l6 l8 l10 l11 l12 l13 l14 l15 l16 uL)) sz [.ref l0, .int a1]) (va_Qi (fun (r : Int32) (_ : Unit) => r = z.1) (fun _ t => va_P (dC, dI) vwCl ((wX5 cI cZ l0 l4 l5 l6 l8 l10 l11 l12 l13 l14 l15 l16 z.2)) t.heap) (va_A ((wX5 cI cZ l0 l4 l5 l6 l8 l10 l11 l12 l13 l14 l15 l16 uL)) sz)) 0 0 (va_A ((wX5 cI cZ l0 l4 l5 l6 l8 l10 l11 l12 l13 l14 l15 l16 uL)) sz) := by
  refine oM (by decide) (Nat.le_of_ble_eq_true rfl) ?_
  intro p e s m args below meth c S hr hlk hnm hB ls hl
  have hx := S.1
  have hb := S.2.1
  have hml := S.2.2.1
  have hown : s.vm.findClass RX5 = some m.cls := S.2.2.2.1
  have hts := S.2.2.2.2
  have S : CallFix p m c cX5_bestToCall 2 s args lw_all RX5 := S
  have hl : lv_has ls 2 [(0, .ref l0), (1, .int a1)] := hl
  obtain ⟨hsz, hP, hK, hD0⟩ := hB
  subst hsz
  have hD := hD0.self (sz := s.heap.size)
  generalize hAe : va_A ((wX5 cI cZ l0 l4 l5 l6 l8 l10 l11 l12 l13 l14 l15 l16 uL)) s.heap.size = A at hD ⊢
  have hA : ∀ q : Nat, s.heap.size ≤ q → A q := fun q h => by rw [← hAe]; exact Or.inr h
  have hS : va_S A s.heap s.heap [] := va_S.rf
  have hP : va_P (dC, dI) vwCl ((wX5 cI cZ l0 l4 l5 l6 l8 l10 l11 l12 l13 l14 l15 l16 uL)) s.heap := hP
  unfold p_X5_bestToCall at hok
  refine lv_aload_n hx hb dX5_bestToCall_0 rfl (lv_at hl 0 rfl) ?_
  refine lv_iconst (v := (0 : Int32)) hx hb dX5_bestToCall_1 (by decide) ?_
  refine va_put (D := (dC, dI)) (ci := 5) (v := .int (0 : Int32)) (ty := .int) (C := RX5) (T := TX5) (N := 18) hx hb hts inX5 tyX5 tyX5_ok nmX5 hown hK hP hD hS 0 rfl rfl 0 (by decide) (hts _ qf_X5_50) (fun _ h9 => h9) rfl (tyX5_ok 0 (by decide)) rfl rfl (Nat.le_of_ble_eq_true rfl) dX5_bestToCall_2 (fun H locs hP _ hS => ?_)
  have hP : va_P (dC, dI) vwCl ((wX5 cI cZ l0 l4 l5 l6 l8 l10 l11 l12 l13 l14 l15 l16 (uL.1, uL.2.1, uL.2.2.1, (0 : Int32), uL.2.2.2.2))) H := hP
  have hD : va_D A ((wX5 cI cZ l0 l4 l5 l6 l8 l10 l11 l12 l13 l14 l15 l16 (uL.1, uL.2.1, uL.2.2.1, (0 : Int32), uL.2.2.2.2))) := D_L hD
  refine lv_iload_n hx hb dX5_bestToCall_5 rfl (lv_at hl 1 rfl) ?_
  refine lv_iconst (v := (1 : Int32)) hx hb dX5_bestToCall_6 (by decide) ?_
  refine lv_bipush (v := (40 : Int32)) hx hb dX5_bestToCall_7 (by decide) ?_
  obtain ⟨v1, hc1, hok⟩ := bd_some hok
  refine cRSi [.int a1, .int (1 : Int32), .int (40 : Int32)] S hK va_Pnil (c_X5_isIn l dC dI cI cZ a1 (1 : Int32) (40 : Int32) hc1) (lw_S qm_X5_53 qt_X5_isIn qn_X5 qc_X5_isIn) hd_X5_isIn ⟨rfl, rfl⟩ ⟨Nat.le_of_ble_eq_true rfl, Nat.le_of_ble_eq_true rfl⟩ ⟨Nat.le_of_ble_eq_true rfl, Nat.le_of_ble_eq_true rfl⟩ rfl hl.1 (Nat.le_of_ble_eq_true rfl) rfl dX5_bestToCall_9 ?_
  refine lv_if_eq (tgt := 23) hx hb dX5_bestToCall_12 (by decide) (fun hc => ?_) (fun hc => ?_)
  · have hok := ip hok hc
    refine lv_aload_n hx hb dX5_bestToCall_23 rfl (lv_at hl 0 rfl) ?_
    refine lv_iconst (v := (1 : Int32)) hx hb dX5_bestToCall_24 (by decide) ?_
    obtain ⟨v2, hc2, hok⟩ := bd_some hok
    refine cWVi (ci := 5) (q0 := 0) [.int (1 : Int32)] S hK hP hD hS hA (c_X5_fail l dC dI cI cZ l0 l4 l5 l6 l8 l10 l11 l12 l13 l14 l15 l16 _ (uL.1, uL.2.1, uL.2.2.1, (0 : Int32), uL.2.2.2.2) (1 : Int32) hc2) (lw_V qm_X5_112 qi_X5_fail qs_X5_fail qn_X5 qc_X5_fail) hd_X5_fail ⟨rfl, rfl⟩ ⟨Nat.le_of_ble_eq_true rfl, Nat.le_of_ble_eq_true rfl⟩ ⟨Nat.le_of_ble_eq_true rfl, Nat.le_of_ble_eq_true rfl⟩ rfl rfl rfl hl.1 (Nat.le_of_ble_eq_true rfl) rfl dX5_bestToCall_25 (D_L hD) (fun H locs hP hD hS => ?_)
    have hok := Option.some.inj hok
    subst hok
    exact eWi S hr hlk rfl hP hS (Nat.le_of_ble_eq_true rfl) (Nat.le_of_ble_eq_true rfl) dX5_bestToCall_28
  · have hok := iq hok hc
    refine lv_aload_n hx hb dX5_bestToCall_15 rfl (lv_at hl 0 rfl) ?_
    refine lv_iload_n hx hb dX5_bestToCall_16 rfl (lv_at hl 1 rfl) ?_
    obtain ⟨v3, hc3, hok⟩ := bd_some hok
    refine cWVi (ci := 5) (q0 := 0) [.int a1] S hK hP hD hS hA (c_X5_callBest l dC dI cI cZ l0 l4 l5 l6 l8 l10 l11 l12 l13 l14 l15 l16 _ (uL.1, uL.2.1, uL.2.2.1, (0 : Int32), uL.2.2.2.2) a1 hc3) (lw_V qm_X5_197 qi_X5_callBest qs_X5_callBest qn_X5 qc_X5_callBest) hd_X5_callBest ⟨rfl, rfl⟩ ⟨Nat.le_of_ble_eq_true rfl, Nat.le_of_ble_eq_true rfl⟩ ⟨Nat.le_of_ble_eq_true rfl, Nat.le_of_ble_eq_true rfl⟩ rfl rfl rfl hl.1 (Nat.le_of_ble_eq_true rfl) rfl dX5_bestToCall_17 (D_L hD) (fun H locs hP hD hS => ?_)
    refine lv_goto (tgt := 28) hx hb dX5_bestToCall_20 (by decide) ?_
    have hok := Option.some.inj hok
    subst hok
    exact eWi S hr hlk rfl hP hS (Nat.le_of_ble_eq_true rfl) (Nat.le_of_ble_eq_true rfl) dX5_bestToCall_28
theorem hd_X5_allowBest : yX5_allowBest.cls = RX5 ∧ yX5_allowBest.cls ≠ "java/lang/invoke/MethodHandle" ∧ yX5_allowBest.cls ≠ "java/lang/invoke/VarHandle" ∧ (parseMethodDescriptor yX5_allowBest.desc).map (fun d => d.parameters.length) = some 1 := by decide +kernel
def p_X5_allowBest_L19 : Nat → tX5 → Int32 → Int32 → Int32 → Int32 → Int32 → Option (Int32 × tX5)
  | 0, _, _, _, _, _, _ => none
  | n + 1, uL, l19_1, l19_2, l19_3, l19_4, l19_5 =>
    if (8 : Int32) ≤ l19_5 then
      some (l19_2, (uL.1, uL.2.1, uL.2.2.1, uL.2.2.2.1, uL.2.2.2.2.1, uL.2.2.2.2.2.1, l19_4, uL.2.2.2.2.2.2.2))
    else
      bd (p_X5_has l19_4 l19_5) (fun v2 =>
      if v2 = 0 then
        (p_X5_allowBest_L19 n) uL l19_1 l19_2 l19_3 l19_4 (l19_5 + 1)
      else
        bd (p_X5_then (uL.1, uL.2.1, uL.2.2.1, uL.2.2.2.1, uL.2.2.2.2.1, uL.2.2.2.2.2.1, (l19_4 &&& (((1 : Int32) <<< (l19_5 &&& 31)) ^^^ (-1 : Int32))), uL.2.2.2.2.2.2.2) l19_1 (21 : Int32)) (fun v3 =>
        if v3.1 < l19_3 then
          (p_X5_allowBest_L19 n) v3.2 l19_1 l19_5 v3.1 l19_4 (l19_5 + 1)
        else
          (p_X5_allowBest_L19 n) v3.2 l19_1 l19_2 l19_3 l19_4 (l19_5 + 1)))
def p_X5_allowBest (uL : tX5) (a1 : Int32) : Option (Int32 × tX5) :=
  bd (p_X5_then uL a1 (21 : Int32)) (fun v1 =>
  p_X5_allowBest_L19 200 v1.2 a1 (-1 : Int32) v1.1 v1.2.2.2.2.2.2.2.1 (0 : Int32))
set_option maxHeartbeats 4000000 in
set_option maxRecDepth 100000 in
theorem c_X5_allowBest (l : Launch) (dC : Nat → ClassId) (dI : Nat → Nat → Nat) (cI cZ : ClassId) (l0 l4 l5 l6 l8 l10 l11 l12 l13 l14 l15 l16 : Nat) (sz : Nat) (uL : tX5) (a1 : Int32) {z : (Int32 × tX5)} (hok : p_X5_allowBest uL a1 = some z) : Met l yX5_allowBest (Cond.code yX5_allowBest cX5_allowBest 7 (some .int) :: lw_all) { frames := 8, cells := 0, slots := 0, locals := 174 } (prW (dC, dI) vwCl (TYS cI cZ) ((wX5 cI cZ l0 l4 l5 l6 l8 l10 l11 l12 l13 l14 l15 l16 uL)) sz [.ref l0, .int a1]) (va_Qi (fun (r : Int32) (_ : Unit) => r = z.1) (fun _ t => va_P (dC, dI) vwCl ((wX5 cI cZ l0 l4 l5 l6 l8 l10 l11 l12 l13 l14 l15 l16 z.2)) t.heap) (va_A ((wX5 cI cZ l0 l4 l5 l6 l8 l10 l11 l12 l13 l14 l15 l16 uL)) sz)) 0 0 (va_A ((wX5 cI cZ l0 l4 l5 l6 l8 l10 l11 l12 l13 l14 l15 l16 uL)) sz) := by
  refine oM (by decide) (Nat.le_of_ble_eq_true rfl) ?_
  intro p e s m args below meth c S hr hlk hnm hB ls hl
  have hx := S.1
  have hb := S.2.1
  have hml := S.2.2.1
  have hown : s.vm.findClass RX5 = some m.cls := S.2.2.2.1
  have hts := S.2.2.2.2
  have S : CallFix p m c cX5_allowBest 7 s args lw_all RX5 := S
  have hl : lv_has ls 7 [(0, .ref l0), (1, .int a1)] := hl
  obtain ⟨hsz, hP, hK, hD0⟩ := hB
  subst hsz
  have hD := hD0.self (sz := s.heap.size)
  generalize hAe : va_A ((wX5 cI cZ l0 l4 l5 l6 l8 l10 l11 l12 l13 l14 l15 l16 uL)) s.heap.size = A at hD ⊢
  have hA : ∀ q : Nat, s.heap.size ≤ q → A q := fun q h => by rw [← hAe]; exact Or.inr h
  have hS : va_S A s.heap s.heap [] := va_S.rf
  have hP : va_P (dC, dI) vwCl ((wX5 cI cZ l0 l4 l5 l6 l8 l10 l11 l12 l13 l14 l15 l16 uL)) s.heap := hP
  have L19 : ∀ n19 : Nat, ∀ (uL : tX5) (l19_1 : Int32) (l19_2 : Int32) (l19_3 : Int32) (l19_4 : Int32) (l19_5 : Int32) (H : Heap) (locs : List Loc) (hP : va_P (dC, dI) vwCl ((wX5 cI cZ l0 l4 l5 l6 l8 l10 l11 l12 l13 l14 l15 l16 uL)) H) (hD : va_D A ((wX5 cI cZ l0 l4 l5 l6 l8 l10 l11 l12 l13 l14 l15 l16 uL))) (hS : va_S A s.heap H locs) (ls : Array Slot) (hl : lv_has ls 7 [(0, .ref l0), (1, .int l19_1), (2, .int l19_2), (3, .int l19_3), (4, .int l19_4), (5, .int l19_5)]) (hok : p_X5_allowBest_L19 n19 uL l19_1 l19_2 l19_3 l19_4 l19_5 = some z), W p l e { frames := 8, cells := 0, slots := 0, locals := 174 } s m args below meth c H locs 0 0 (MQ below (va_Qi (fun (r : Int32) (_ : Unit) => r = z.1) (fun _ t => va_P (dC, dI) vwCl ((wX5 cI cZ l0 l4 l5 l6 l8 l10 l11 l12 l13 l14 l15 l16 z.2)) t.heap) A) args s 0 0 A) (F0 m 19 ls []) := by
    intro n19
    induction n19 with
    | zero =>
      intro uL l19_1 l19_2 l19_3 l19_4 l19_5 H locs hP hD hS ls hl hok
      rw [p_X5_allowBest_L19] at hok
      cases hok
    | succ n19 ih19 =>
      intro uL l19_1 l19_2 l19_3 l19_4 l19_5 H locs hP hD hS ls hl hok
      rw [p_X5_allowBest_L19] at hok
      refine lv_iload hx hb dX5_allowBest_19 (lv_at hl 5 rfl) ?_
      refine lv_bipush (v := (8 : Int32)) hx hb dX5_allowBest_21 (by decide) ?_
      refine lv_icmp_ge (tgt := 82) hx hb dX5_allowBest_23 (by decide) (fun hc => ?_) (fun hc => ?_)
      · have hok := ip hok hc
        refine lv_aload_n hx hb dX5_allowBest_82 rfl (lv_at hl 0 rfl) ?_
        refine lv_iload hx hb dX5_allowBest_83 (lv_at hl 4 rfl) ?_
        refine va_put (D := (dC, dI)) (ci := 5) (v := .int l19_4) (ty := .int) (C := RX5) (T := TX5) (N := 18) hx hb hts inX5 tyX5 tyX5_ok nmX5 hown hK hP hD hS 0 rfl rfl 3 (by decide) (hts _ qf_X5_86) (fun _ h9 => h9) rfl (tyX5_ok 3 (by decide)) rfl rfl (Nat.le_of_ble_eq_true rfl) dX5_allowBest_85 (fun H locs hP _ hS => ?_)
        have hP : va_P (dC, dI) vwCl ((wX5 cI cZ l0 l4 l5 l6 l8 l10 l11 l12 l13 l14 l15 l16 (uL.1, uL.2.1, uL.2.2.1, uL.2.2.2.1, uL.2.2.2.2.1, uL.2.2.2.2.2.1, l19_4, uL.2.2.2.2.2.2.2))) H := hP
        have hD : va_D A ((wX5 cI cZ l0 l4 l5 l6 l8 l10 l11 l12 l13 l14 l15 l16 (uL.1, uL.2.1, uL.2.2.1, uL.2.2.2.1, uL.2.2.2.2.1, uL.2.2.2.2.2.1, l19_4, uL.2.2.2.2.2.2.2))) := D_L hD
        refine lv_iload_n hx hb dX5_allowBest_88 rfl (lv_at hl 2 rfl) ?_
        have hok := Option.some.inj hok
        subst hok
        exact eWi S hr hlk rfl hP hS (Nat.le_of_ble_eq_true rfl) (Nat.le_of_ble_eq_true rfl) dX5_allowBest_89
      · have hok := iq hok hc
        refine lv_iload hx hb dX5_allowBest_26 (lv_at hl 4 rfl) ?_
        refine lv_iload hx hb dX5_allowBest_28 (lv_at hl 5 rfl) ?_
        obtain ⟨v2, hc2, hok⟩ := bd_some hok
        refine cRSi [.int l19_4, .int l19_5] S hK va_Pnil (c_X5_has l dC dI cI cZ l19_4 l19_5 hc2) (lw_S qm_X5_69 qt_X5_has qn_X5 qc_X5_has) hd_X5_has ⟨rfl, rfl⟩ ⟨Nat.le_of_ble_eq_true rfl, Nat.le_of_ble_eq_true rfl⟩ ⟨Nat.le_of_ble_eq_true rfl, Nat.le_of_ble_eq_true rfl⟩ rfl hl.1 (Nat.le_of_ble_eq_true rfl) rfl dX5_allowBest_30 ?_
        refine lv_if_ne (tgt := 39) hx hb dX5_allowBest_33 (by decide) (fun hc => ?_) (fun hc => ?_)
        · have hok := iq hok hc
          refine lv_aload_n hx hb dX5_allowBest_39 rfl (lv_at hl 0 rfl) ?_
          refine lv_iload hx hb dX5_allowBest_40 (lv_at hl 4 rfl) ?_
          refine lv_iconst (v := (1 : Int32)) hx hb dX5_allowBest_42 (by decide) ?_
          refine lv_iload hx hb dX5_allowBest_43 (lv_at hl 5 rfl) ?_
          refine lv_ishl hx hb dX5_allowBest_45 ?_
          refine lv_iconst (v := (-1 : Int32)) hx hb dX5_allowBest_46 (by decide) ?_
          refine lv_ixor hx hb dX5_allowBest_47 ?_
          refine lv_iand hx hb dX5_allowBest_48 ?_
          refine va_put (D := (dC, dI)) (ci := 5) (v := .int (l19_4 &&& (((1 : Int32) <<< (l19_5 &&& 31)) ^^^ (-1 : Int32)))) (ty := .int) (C := RX5) (T := TX5) (N := 18) hx hb hts inX5 tyX5 tyX5_ok nmX5 hown hK hP hD hS 0 rfl rfl 3 (by decide) (hts _ qf_X5_86) (fun _ h9 => h9) rfl (tyX5_ok 3 (by decide)) rfl rfl (Nat.le_of_ble_eq_true rfl) dX5_allowBest_49 (fun H locs hP _ hS => ?_)
          have hP : va_P (dC, dI) vwCl ((wX5 cI cZ l0 l4 l5 l6 l8 l10 l11 l12 l13 l14 l15 l16 (uL.1, uL.2.1, uL.2.2.1, uL.2.2.2.1, uL.2.2.2.2.1, uL.2.2.2.2.2.1, (l19_4 &&& (((1 : Int32) <<< (l19_5 &&& 31)) ^^^ (-1 : Int32))), uL.2.2.2.2.2.2.2))) H := hP
          have hD : va_D A ((wX5 cI cZ l0 l4 l5 l6 l8 l10 l11 l12 l13 l14 l15 l16 (uL.1, uL.2.1, uL.2.2.1, uL.2.2.2.1, uL.2.2.2.2.1, uL.2.2.2.2.2.1, (l19_4 &&& (((1 : Int32) <<< (l19_5 &&& 31)) ^^^ (-1 : Int32))), uL.2.2.2.2.2.2.2))) := D_L hD
          refine lv_aload_n hx hb dX5_allowBest_52 rfl (lv_at hl 0 rfl) ?_
          refine lv_iload_n hx hb dX5_allowBest_53 rfl (lv_at hl 1 rfl) ?_
          refine lv_bipush (v := (21 : Int32)) hx hb dX5_allowBest_54 (by decide) ?_
          obtain ⟨v3, hc3, hok⟩ := bd_some hok
          refine cWVi (ci := 5) (q0 := 0) [.int l19_1, .int (21 : Int32)] S hK hP hD hS hA (c_X5_then l dC dI cI cZ l0 l4 l5 l6 l8 l10 l11 l12 l13 l14 l15 l16 _ (uL.1, uL.2.1, uL.2.2.1, uL.2.2.2.1, uL.2.2.2.2.1, uL.2.2.2.2.2.1, (l19_4 &&& (((1 : Int32) <<< (l19_5 &&& 31)) ^^^ (-1 : Int32))), uL.2.2.2.2.2.2.2) l19_1 (21 : Int32) hc3) (lw_V qm_X5_194 qi_X5_then qs_X5_then qn_X5 qc_X5_then) hd_X5_then ⟨rfl, rfl⟩ ⟨Nat.le_of_ble_eq_true rfl, Nat.le_of_ble_eq_true rfl⟩ ⟨Nat.le_of_ble_eq_true rfl, Nat.le_of_ble_eq_true rfl⟩ rfl rfl rfl hl.1 (Nat.le_of_ble_eq_true rfl) rfl dX5_allowBest_56 (D_L hD) (fun H locs hP hD hS => ?_)
          refine lv_istore (lv' := [(6, .int v3.1), (0, .ref l0), (1, .int l19_1), (2, .int l19_2), (3, .int l19_3), (4, .int l19_4), (5, .int l19_5)]) hx hb dX5_allowBest_59 hl (by decide) rfl (fun ls hl => ?_)
          refine lv_iload hx hb dX5_allowBest_61 (lv_at hl 0 rfl) ?_
          refine lv_iload_n hx hb dX5_allowBest_63 rfl (lv_at hl 4 rfl) ?_
          refine lv_icmp_lt (tgt := 70) hx hb dX5_allowBest_64 (by decide) (fun hc => ?_) (fun hc => ?_)
          · have hok := ip hok hc
            refine lv_iload hx hb dX5_allowBest_70 (lv_at hl 6 rfl) ?_
            refine lv_istore_n (lv' := [(2, .int l19_5), (6, .int v3.1), (0, .ref l0), (1, .int l19_1), (3, .int l19_3), (4, .int l19_4), (5, .int l19_5)]) hx hb dX5_allowBest_72 rfl hl (by decide) rfl (fun ls hl => ?_)
            refine lv_iload hx hb dX5_allowBest_73 (lv_at hl 1 rfl) ?_
            refine lv_istore_n (lv' := [(3, .int v3.1), (2, .int l19_5), (6, .int v3.1), (0, .ref l0), (1, .int l19_1), (4, .int l19_4), (5, .int l19_5)]) hx hb dX5_allowBest_75 rfl hl (by decide) rfl (fun ls hl => ?_)
            refine lv_iinc (v := (l19_5 + 1)) (lv' := [(5, .int (l19_5 + 1)), (3, .int v3.1), (2, .int l19_5), (6, .int v3.1), (0, .ref l0), (1, .int l19_1), (4, .int l19_4)]) hx hb dX5_allowBest_76 hl (k := 6) rfl rfl (by decide) rfl (fun ls hl => ?_)
            refine lv_goto (tgt := 19) hx hb dX5_allowBest_79 (by decide) ?_
            exact ih19 v3.2 l19_1 l19_5 v3.1 l19_4 (l19_5 + 1) _ _ hP hD hS _ (lv_sub hl [4, 5, 2, 1, 6, 0] rfl) hok
          · have hok := iq hok hc
            refine lv_goto (tgt := 76) hx hb dX5_allowBest_67 (by decide) ?_
            refine lv_iinc (v := (l19_5 + 1)) (lv' := [(5, .int (l19_5 + 1)), (6, .int v3.1), (0, .ref l0), (1, .int l19_1), (2, .int l19_2), (3, .int l19_3), (4, .int l19_4)]) hx hb dX5_allowBest_76 hl (k := 6) rfl rfl (by decide) rfl (fun ls hl => ?_)
            refine lv_goto (tgt := 19) hx hb dX5_allowBest_79 (by decide) ?_
            exact ih19 v3.2 l19_1 l19_2 l19_3 l19_4 (l19_5 + 1) _ _ hP hD hS _ (lv_sub hl [2, 3, 4, 5, 6, 0] rfl) hok
        · have hok := ip hok hc
          refine lv_goto (tgt := 76) hx hb dX5_allowBest_36 (by decide) ?_
          refine lv_iinc (v := (l19_5 + 1)) (lv' := [(5, .int (l19_5 + 1)), (0, .ref l0), (1, .int l19_1), (2, .int l19_2), (3, .int l19_3), (4, .int l19_4)]) hx hb dX5_allowBest_76 hl (k := 5) rfl rfl (by decide) rfl (fun ls hl => ?_)
          refine lv_goto (tgt := 19) hx hb dX5_allowBest_79 (by decide) ?_
          exact ih19 uL l19_1 l19_2 l19_3 l19_4 (l19_5 + 1) _ _ hP hD hS _ (lv_sub hl [1, 2, 3, 4, 5, 0] rfl) hok
  unfold p_X5_allowBest at hok
  refine lv_iconst (v := (-1 : Int32)) hx hb dX5_allowBest_0 (by decide) ?_
  refine lv_istore_n (lv' := [(2, .int (-1 : Int32)), (0, .ref l0), (1, .int a1)]) hx hb dX5_allowBest_1 rfl hl (by decide) rfl (fun ls hl => ?_)
  refine lv_aload_n hx hb dX5_allowBest_2 rfl (lv_at hl 1 rfl) ?_
  refine lv_iload_n hx hb dX5_allowBest_3 rfl (lv_at hl 2 rfl) ?_
  refine lv_bipush (v := (21 : Int32)) hx hb dX5_allowBest_4 (by decide) ?_
  obtain ⟨v1, hc1, hok⟩ := bd_some hok
  refine cWVi (ci := 5) (q0 := 0) [.int a1, .int (21 : Int32)] S hK hP hD hS hA (c_X5_then l dC dI cI cZ l0 l4 l5 l6 l8 l10 l11 l12 l13 l14 l15 l16 _ uL a1 (21 : Int32) hc1) (lw_V qm_X5_194 qi_X5_then qs_X5_then qn_X5 qc_X5_then) hd_X5_then ⟨rfl, rfl⟩ ⟨Nat.le_of_ble_eq_true rfl, Nat.le_of_ble_eq_true rfl⟩ ⟨Nat.le_of_ble_eq_true rfl, Nat.le_of_ble_eq_true rfl⟩ rfl rfl rfl hl.1 (Nat.le_of_ble_eq_true rfl) rfl dX5_allowBest_6 (D_L hD) (fun H locs hP hD hS => ?_)
  refine lv_istore_n (lv' := [(3, .int v1.1), (2, .int (-1 : Int32)), (0, .ref l0), (1, .int a1)]) hx hb dX5_allowBest_9 rfl hl (by decide) rfl (fun ls hl => ?_)
  refine lv_aload_n hx hb dX5_allowBest_10 rfl (lv_at hl 2 rfl) ?_
  refine va_get (D := (dC, dI)) (ci := 5) (v := .int v1.2.2.2.2.2.2.2.1) (C := RX5) (T := TX5) (N := 18) hx hb hts inX5 hown hK hP 0 rfl rfl 3 (by decide) (hts _ qf_X5_86) (fun _ h9 => h9) rfl dX5_allowBest_11 ?_
  refine lv_istore (lv' := [(4, .int v1.2.2.2.2.2.2.2.1), (3, .int v1.1), (2, .int (-1 : Int32)), (0, .ref l0), (1, .int a1)]) hx hb dX5_allowBest_14 hl (by decide) rfl (fun ls hl => ?_)
  refine lv_iconst (v := (0 : Int32)) hx hb dX5_allowBest_16 (by decide) ?_
  refine lv_istore (lv' := [(5, .int (0 : Int32)), (4, .int v1.2.2.2.2.2.2.2.1), (3, .int v1.1), (2, .int (-1 : Int32)), (0, .ref l0), (1, .int a1)]) hx hb dX5_allowBest_17 hl (by decide) rfl (fun ls hl => ?_)
  exact L19 200 v1.2 a1 (-1 : Int32) v1.1 v1.2.2.2.2.2.2.2.1 (0 : Int32) _ _ hP hD hS _ (lv_sub hl [4, 5, 3, 2, 1, 0] rfl) hok
theorem hd_X5_bestToAllow : yX5_bestToAllow.cls = RX5 ∧ yX5_bestToAllow.cls ≠ "java/lang/invoke/MethodHandle" ∧ yX5_bestToAllow.cls ≠ "java/lang/invoke/VarHandle" ∧ (parseMethodDescriptor yX5_bestToAllow.desc).map (fun d => d.parameters.length) = some 1 := by decide +kernel
def p_X5_bestToAllow (uL : tX5) (a1 : Int32) : Option (Int32 × tX5) :=
  bd (p_X5_isIn a1 (1 : Int32) (40 : Int32)) (fun v1 =>
  if v1 = 0 then
    bd (p_X5_fail (uL.1, uL.2.1, uL.2.2.1, (0 : Int32), uL.2.2.2.2) (1 : Int32)) (fun v2 =>
    some (v2.1, v2.2))
  else
    bd (p_X5_allowBest (uL.1, uL.2.1, uL.2.2.1, (0 : Int32), uL.2.2.2.2) a1) (fun v3 =>
    some (v3.1, v3.2)))
set_option maxHeartbeats 4000000 in
set_option maxRecDepth 100000 in
theorem c_X5_bestToAllow (l : Launch) (dC : Nat → ClassId) (dI : Nat → Nat → Nat) (cI cZ : ClassId) (l0 l4 l5 l6 l8 l10 l11 l12 l13 l14 l15 l16 : Nat) (sz : Nat) (uL : tX5) (a1 : Int32) {z : (Int32 × tX5)} (hok : p_X5_bestToAllow uL a1 = some z) : Met l yX5_bestToAllow (Cond.code yX5_bestToAllow cX5_bestToAllow 2 (some .int) :: lw_all) { frames := 9, cells := 0, slots := 0, locals := 200 } (prW (dC, dI) vwCl (TYS cI cZ) ((wX5 cI cZ l0 l4 l5 l6 l8 l10 l11 l12 l13 l14 l15 l16 uL)) sz [.ref l0, .int a1]) (va_Qi (fun (r : Int32) (_ : Unit) => r = z.1) (fun _ t => va_P (dC, dI) vwCl ((wX5 cI cZ l0 l4 l5 l6 l8 l10 l11 l12 l13 l14 l15 l16 z.2)) t.heap) (va_A ((wX5 cI cZ l0 l4 l5 l6 l8 l10 l11 l12 l13 l14 l15 l16 uL)) sz)) 0 0 (va_A ((wX5 cI cZ l0 l4 l5 l6 l8 l10 l11 l12 l13 l14 l15 l16 uL)) sz) := by
  refine oM (by decide) (Nat.le_of_ble_eq_true rfl) ?_
  intro p e s m args below meth c S hr hlk hnm hB ls hl
  have hx := S.1
  have hb := S.2.1
  have hml := S.2.2.1
  have hown : s.vm.findClass RX5 = some m.cls := S.2.2.2.1
  have hts := S.2.2.2.2
  have S : CallFix p m c cX5_bestToAllow 2 s args lw_all RX5 := S
  have hl : lv_has ls 2 [(0, .ref l0), (1, .int a1)] := hl
  obtain ⟨hsz, hP, hK, hD0⟩ := hB
  subst hsz
  have hD := hD0.self (sz := s.heap.size)
  generalize hAe : va_A ((wX5 cI cZ l0 l4 l5 l6 l8 l10 l11 l12 l13 l14 l15 l16 uL)) s.heap.size = A at hD ⊢
  have hA : ∀ q : Nat, s.heap.size ≤ q → A q := fun q h => by rw [← hAe]; exact Or.inr h
  have hS : va_S A s.heap s.heap [] := va_S.rf
  have hP : va_P (dC, dI) vwCl ((wX5 cI cZ l0 l4 l5 l6 l8 l10 l11 l12 l13 l14 l15 l16 uL)) s.heap := hP
  unfold p_X5_bestToAllow at hok
  refine lv_aload_n hx hb dX5_bestToAllow_0 rfl (lv_at hl 0 rfl) ?_
  refine lv_iconst (v := (0 : Int32)) hx hb dX5_bestToAllow_1 (by decide) ?_
  refine va_put (D := (dC, dI)) (ci := 5) (v := .int (0 : Int32)) (ty := .int) (C := RX5) (T := TX5) (N := 18) hx hb hts inX5 tyX5 tyX5_ok nmX5 hown hK hP hD hS 0 rfl rfl 0 (by decide) (hts _ qf_X5_50) (fun _ h9 => h9) rfl (tyX5_ok 0 (by decide)) rfl rfl (Nat.le_of_ble_eq_true rfl) dX5_bestToAllow_2 (fun H locs hP _ hS => ?_)
  have hP : va_P (dC, dI) vwCl ((wX5 cI cZ l0 l4 l5 l6 l8 l10 l11 l12 l13 l14 l15 l16 (uL.1, uL.2.1, uL.2.2.1, (0 : Int32), uL.2.2.2.2))) H := hP
  have hD : va_D A ((wX5 cI cZ l0 l4 l5 l6 l8 l10 l11 l12 l13 l14 l15 l16 (uL.1, uL.2.1, uL.2.2.1, (0 : Int32), uL.2.2.2.2))) := D_L hD
  refine lv_iload_n hx hb dX5_bestToAllow_5 rfl (lv_at hl 1 rfl) ?_
  refine lv_iconst (v := (1 : Int32)) hx hb dX5_bestToAllow_6 (by decide) ?_
  refine lv_bipush (v := (40 : Int32)) hx hb dX5_bestToAllow_7 (by decide) ?_
  obtain ⟨v1, hc1, hok⟩ := bd_some hok
  refine cRSi [.int a1, .int (1 : Int32), .int (40 : Int32)] S hK va_Pnil (c_X5_isIn l dC dI cI cZ a1 (1 : Int32) (40 : Int32) hc1) (lw_S qm_X5_53 qt_X5_isIn qn_X5 qc_X5_isIn) hd_X5_isIn ⟨rfl, rfl⟩ ⟨Nat.le_of_ble_eq_true rfl, Nat.le_of_ble_eq_true rfl⟩ ⟨Nat.le_of_ble_eq_true rfl, Nat.le_of_ble_eq_true rfl⟩ rfl hl.1 (Nat.le_of_ble_eq_true rfl) rfl dX5_bestToAllow_9 ?_
  refine lv_if_eq (tgt := 23) hx hb dX5_bestToAllow_12 (by decide) (fun hc => ?_) (fun hc => ?_)
  · have hok := ip hok hc
    refine lv_aload_n hx hb dX5_bestToAllow_23 rfl (lv_at hl 0 rfl) ?_
    refine lv_iconst (v := (1 : Int32)) hx hb dX5_bestToAllow_24 (by decide) ?_
    obtain ⟨v2, hc2, hok⟩ := bd_some hok
    refine cWVi (ci := 5) (q0 := 0) [.int (1 : Int32)] S hK hP hD hS hA (c_X5_fail l dC dI cI cZ l0 l4 l5 l6 l8 l10 l11 l12 l13 l14 l15 l16 _ (uL.1, uL.2.1, uL.2.2.1, (0 : Int32), uL.2.2.2.2) (1 : Int32) hc2) (lw_V qm_X5_112 qi_X5_fail qs_X5_fail qn_X5 qc_X5_fail) hd_X5_fail ⟨rfl, rfl⟩ ⟨Nat.le_of_ble_eq_true rfl, Nat.le_of_ble_eq_true rfl⟩ ⟨Nat.le_of_ble_eq_true rfl, Nat.le_of_ble_eq_true rfl⟩ rfl rfl rfl hl.1 (Nat.le_of_ble_eq_true rfl) rfl dX5_bestToAllow_25 (D_L hD) (fun H locs hP hD hS => ?_)
    have hok := Option.some.inj hok
    subst hok
    exact eWi S hr hlk rfl hP hS (Nat.le_of_ble_eq_true rfl) (Nat.le_of_ble_eq_true rfl) dX5_bestToAllow_28
  · have hok := iq hok hc
    refine lv_aload_n hx hb dX5_bestToAllow_15 rfl (lv_at hl 0 rfl) ?_
    refine lv_iload_n hx hb dX5_bestToAllow_16 rfl (lv_at hl 1 rfl) ?_
    obtain ⟨v3, hc3, hok⟩ := bd_some hok
    refine cWVi (ci := 5) (q0 := 0) [.int a1] S hK hP hD hS hA (c_X5_allowBest l dC dI cI cZ l0 l4 l5 l6 l8 l10 l11 l12 l13 l14 l15 l16 _ (uL.1, uL.2.1, uL.2.2.1, (0 : Int32), uL.2.2.2.2) a1 hc3) (lw_V qm_X5_200 qi_X5_allowBest qs_X5_allowBest qn_X5 qc_X5_allowBest) hd_X5_allowBest ⟨rfl, rfl⟩ ⟨Nat.le_of_ble_eq_true rfl, Nat.le_of_ble_eq_true rfl⟩ ⟨Nat.le_of_ble_eq_true rfl, Nat.le_of_ble_eq_true rfl⟩ rfl rfl rfl hl.1 (Nat.le_of_ble_eq_true rfl) rfl dX5_bestToAllow_17 (D_L hD) (fun H locs hP hD hS => ?_)
    refine lv_goto (tgt := 28) hx hb dX5_bestToAllow_20 (by decide) ?_
    have hok := Option.some.inj hok
    subst hok
    exact eWi S hr hlk rfl hP hS (Nat.le_of_ble_eq_true rfl) (Nat.le_of_ble_eq_true rfl) dX5_bestToAllow_28
theorem hd_X5_meanWarmth : yX5_meanWarmth.cls = RX5 ∧ yX5_meanWarmth.cls ≠ "java/lang/invoke/MethodHandle" ∧ yX5_meanWarmth.cls ≠ "java/lang/invoke/VarHandle" ∧ (parseMethodDescriptor yX5_meanWarmth.desc).map (fun d => d.parameters.length) = some 0 := by decide +kernel
def p_X5_meanWarmth (uL : tX5) : Option (UInt64 × tX5) :=
  bd (p_X5_ones (uL.1 7)) (fun v1 =>
  if v1 = 0 then
    some (FP.dconst0, (uL.1, uL.2.1, uL.2.2.1, (0 : Int32), uL.2.2.2.2))
  else
    bd (p_X5_warmth (uL.1, uL.2.1, uL.2.2.1, (0 : Int32), uL.2.2.2.2)) (fun v2 =>
    gq ((FP.ddiv (FP.i2d v2) (FP.i2d v1)) &&& 0x7fffffffffffffff ≤ 0x7ff0000000000000) (
    some ((FP.ddiv (FP.i2d v2) (FP.i2d v1)), (uL.1, uL.2.1, uL.2.2.1, (0 : Int32), uL.2.2.2.2)))))
set_option maxHeartbeats 4000000 in
set_option maxRecDepth 100000 in
theorem c_X5_meanWarmth (l : Launch) (dC : Nat → ClassId) (dI : Nat → Nat → Nat) (cI cZ : ClassId) (l0 l4 l5 l6 l8 l10 l11 l12 l13 l14 l15 l16 : Nat) (sz : Nat) (uL : tX5) {z : (UInt64 × tX5)} (hok : p_X5_meanWarmth uL = some z) : Met l yX5_meanWarmth (Cond.code yX5_meanWarmth cX5_meanWarmth 2 (some .double) :: lw_all) { frames := 3, cells := 0, slots := 0, locals := 64 } (prW (dC, dI) vwCl (TYS cI cZ) ((wX5 cI cZ l0 l4 l5 l6 l8 l10 l11 l12 l13 l14 l15 l16 uL)) sz [.ref l0]) (va_Qd (fun (r : UInt64) (_ : Unit) => r = z.1) (fun _ t => va_P (dC, dI) vwCl ((wX5 cI cZ l0 l4 l5 l6 l8 l10 l11 l12 l13 l14 l15 l16 z.2)) t.heap) (va_A ((wX5 cI cZ l0 l4 l5 l6 l8 l10 l11 l12 l13 l14 l15 l16 uL)) sz)) 0 0 (va_A ((wX5 cI cZ l0 l4 l5 l6 l8 l10 l11 l12 l13 l14 l15 l16 uL)) sz) := by
  refine oM (by decide) (Nat.le_of_ble_eq_true rfl) ?_
  intro p e s m args below meth c S hr hlk hnm hB ls hl
  have hx := S.1
  have hb := S.2.1
  have hml := S.2.2.1
  have hown : s.vm.findClass RX5 = some m.cls := S.2.2.2.1
  have hts := S.2.2.2.2
  have S : CallFix p m c cX5_meanWarmth 2 s args lw_all RX5 := S
  have hl : lv_has ls 2 [(0, .ref l0)] := hl
  obtain ⟨hsz, hP, hK, hD0⟩ := hB
  subst hsz
  have hD := hD0.self (sz := s.heap.size)
  generalize hAe : va_A ((wX5 cI cZ l0 l4 l5 l6 l8 l10 l11 l12 l13 l14 l15 l16 uL)) s.heap.size = A at hD ⊢
  have hA : ∀ q : Nat, s.heap.size ≤ q → A q := fun q h => by rw [← hAe]; exact Or.inr h
  have hS : va_S A s.heap s.heap [] := va_S.rf
  have hP : va_P (dC, dI) vwCl ((wX5 cI cZ l0 l4 l5 l6 l8 l10 l11 l12 l13 l14 l15 l16 uL)) s.heap := hP
  unfold p_X5_meanWarmth at hok
  refine lv_aload_n hx hb dX5_meanWarmth_0 rfl (lv_at hl 0 rfl) ?_
  refine lv_iconst (v := (0 : Int32)) hx hb dX5_meanWarmth_1 (by decide) ?_
  refine va_put (D := (dC, dI)) (ci := 5) (v := .int (0 : Int32)) (ty := .int) (C := RX5) (T := TX5) (N := 18) hx hb hts inX5 tyX5 tyX5_ok nmX5 hown hK hP hD hS 0 rfl rfl 0 (by decide) (hts _ qf_X5_50) (fun _ h9 => h9) rfl (tyX5_ok 0 (by decide)) rfl rfl (Nat.le_of_ble_eq_true rfl) dX5_meanWarmth_2 (fun H locs hP _ hS => ?_)
  have hP : va_P (dC, dI) vwCl ((wX5 cI cZ l0 l4 l5 l6 l8 l10 l11 l12 l13 l14 l15 l16 (uL.1, uL.2.1, uL.2.2.1, (0 : Int32), uL.2.2.2.2))) H := hP
  have hD : va_D A ((wX5 cI cZ l0 l4 l5 l6 l8 l10 l11 l12 l13 l14 l15 l16 (uL.1, uL.2.1, uL.2.2.1, (0 : Int32), uL.2.2.2.2))) := D_L hD
  refine lv_aload_n hx hb dX5_meanWarmth_5 rfl (lv_at hl 0 rfl) ?_
  refine va_get (D := (dC, dI)) (ci := 5) (v := .ref l15) (C := RX5) (T := TX5) (N := 18) hx hb hts inX5 hown hK hP 0 rfl rfl 15 (by decide) (hts _ qf_X5_44) (fun _ h9 => h9) rfl dX5_meanWarmth_6 ?_
  refine lv_bipush (v := (7 : Int32)) hx hb dX5_meanWarmth_9 (by decide) ?_
  refine va_ialdK hx hb hK hP 10 0 rfl rfl (j := 7) (by decide) (vp_inK (by decide)) dX5_meanWarmth_11 ?_
  obtain ⟨v1, hc1, hok⟩ := bd_some hok
  refine cRSi [.int (uL.1 7)] S hK va_Pnil (c_X5_ones l dC dI cI cZ (uL.1 7) hc1) (lw_S qm_X5_116 qt_X5_ones qn_X5 qc_X5_ones) hd_X5_ones ⟨rfl, rfl⟩ ⟨Nat.le_of_ble_eq_true rfl, Nat.le_of_ble_eq_true rfl⟩ ⟨Nat.le_of_ble_eq_true rfl, Nat.le_of_ble_eq_true rfl⟩ rfl hl.1 (Nat.le_of_ble_eq_true rfl) rfl dX5_meanWarmth_12 ?_
  refine lv_istore_n (lv' := [(1, .int v1), (0, .ref l0)]) hx hb dX5_meanWarmth_15 rfl hl (by decide) rfl (fun ls hl => ?_)
  refine lv_iload_n hx hb dX5_meanWarmth_16 rfl (lv_at hl 0 rfl) ?_
  refine lv_if_ne (tgt := 24) hx hb dX5_meanWarmth_17 (by decide) (fun hc => ?_) (fun hc => ?_)
  · have hok := iq hok hc
    refine lv_aload_n hx hb dX5_meanWarmth_24 rfl (lv_at hl 1 rfl) ?_
    obtain ⟨v2, hc2, hok⟩ := bd_some hok
    refine cRVi (ci := 5) (q0 := 0) [] S hK hP (c_X5_warmth l dC dI cI cZ l0 l4 l5 l6 l8 l10 l11 l12 l13 l14 l15 l16 (uL.1, uL.2.1, uL.2.2.1, (0 : Int32), uL.2.2.2.2) hc2) (lw_V qm_X5_191 qi_X5_warmth qs_X5_warmth qn_X5 qc_X5_warmth) hd_X5_warmth ⟨rfl, rfl⟩ ⟨Nat.le_of_ble_eq_true rfl, Nat.le_of_ble_eq_true rfl⟩ ⟨Nat.le_of_ble_eq_true rfl, Nat.le_of_ble_eq_true rfl⟩ rfl rfl rfl hl.1 (Nat.le_of_ble_eq_true rfl) rfl dX5_meanWarmth_25 ?_
    refine lv_i2d hx hb dX5_meanWarmth_28 ?_
    refine lv_iload_n hx hb dX5_meanWarmth_29 rfl (lv_at hl 0 rfl) ?_
    refine lv_i2d hx hb dX5_meanWarmth_30 ?_
    obtain ⟨hn3, hok⟩ := gq_some hok
    refine lv_ddiv hx hb dX5_meanWarmth_31 hn3 ?_
    have hok := Option.some.inj hok
    subst hok
    exact eWd S hr hlk rfl hP hS (Nat.le_of_ble_eq_true rfl) (Nat.le_of_ble_eq_true rfl) dX5_meanWarmth_32
  · have hok := ip hok hc
    refine lv_dconst0 hx hb dX5_meanWarmth_20 ?_
    refine lv_goto (tgt := 32) hx hb dX5_meanWarmth_21 (by decide) ?_
    have hok := Option.some.inj hok
    subst hok
    exact eWd S hr hlk rfl hP hS (Nat.le_of_ble_eq_true rfl) (Nat.le_of_ble_eq_true rfl) dX5_meanWarmth_32
