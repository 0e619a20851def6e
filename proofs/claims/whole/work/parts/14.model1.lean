theorem hd_X5_wayToNearest : yX5_wayToNearest.cls = RX5 ∧ yX5_wayToNearest.cls ≠ "java/lang/invoke/MethodHandle" ∧ yX5_wayToNearest.cls ≠ "java/lang/invoke/VarHandle" ∧ (parseMethodDescriptor yX5_wayToNearest.desc).map (fun d => d.parameters.length) = some 0 := by decide +kernel
def p_X5_wayToNearest_J48 (rec2 : tX5 → Int32 → Option Int32) (uL : tX5) (l48_1 : Int32) : Option Int32 :=
  bd (p_X5_isFloor uL ((uL.1 1) - l48_1)) (fun v3 =>
  if v3 = 0 then
    rec2 uL (l48_1 + 1)
  else
    bd (p_X5_has (uL.1 6) ((uL.1 1) - l48_1)) (fun v4 =>
    if v4 = 0 then
      rec2 uL (l48_1 + 1)
    else
      some (-1 : Int32)))
def p_X5_wayToNearest_L2 : Nat → tX5 → Int32 → Option Int32
  | 0, _, _ => none
  | n + 1, uL, l2_1 =>
    if uL.2.2.2.2.1 ≤ l2_1 then
      some (0 : Int32)
    else
      bd (p_X5_isFloor uL ((uL.1 1) + l2_1)) (fun v1 =>
      if v1 = 0 then
        p_X5_wayToNearest_J48 (p_X5_wayToNearest_L2 n) uL l2_1
      else
        bd (p_X5_has (uL.1 6) ((uL.1 1) + l2_1)) (fun v2 =>
        if v2 = 0 then
          p_X5_wayToNearest_J48 (p_X5_wayToNearest_L2 n) uL l2_1
        else
          some (1 : Int32)))
def p_X5_wayToNearest (uL : tX5) : Option Int32 :=
  p_X5_wayToNearest_L2 200 uL (1 : Int32)
set_option maxHeartbeats 4000000 in
set_option maxRecDepth 100000 in
theorem c_X5_wayToNearest (l : Launch) (dC : Nat → ClassId) (dI : Nat → Nat → Nat) (cI cZ : ClassId) (l0 l4 l5 l6 l8 l10 l11 l12 l13 l14 l15 l16 : Nat) (uL : tX5) {z : Int32} (hok : p_X5_wayToNearest uL = some z) : Met l yX5_wayToNearest (Cond.code yX5_wayToNearest cX5_wayToNearest 2 (some .int) :: lw_all) { frames := 2, cells := 0, slots := 0, locals := 43 } (prR (dC, dI) vwCl (TYS cI cZ) ((wX5 cI cZ l0 l4 l5 l6 l8 l10 l11 l12 l13 l14 l15 l16 uL)) [.ref l0]) (vp_Si (fun r => r = z)) 0 0 (fun _ => False) := by
  refine oM (by decide) (Nat.le_of_ble_eq_true rfl) ?_
  intro p e s m args below meth c S hr hlk hnm hB ls hl
  have hx := S.1
  have hb := S.2.1
  have hml := S.2.2.1
  have hown : s.vm.findClass RX5 = some m.cls := S.2.2.2.1
  have hts := S.2.2.2.2
  have S : CallFix p m c cX5_wayToNearest 2 s args lw_all RX5 := S
  have hl : lv_has ls 2 [(0, .ref l0)] := hl
  obtain ⟨hP, hK⟩ := hB
  have hP : va_P (dC, dI) vwCl ((wX5 cI cZ l0 l4 l5 l6 l8 l10 l11 l12 l13 l14 l15 l16 uL)) s.heap := hP
  have L2 : ∀ n2 : Nat, ∀ (l2_1 : Int32) (ls : Array Slot) (hl : lv_has ls 2 [(0, .ref l0), (1, .int l2_1)]) (hok : p_X5_wayToNearest_L2 n2 uL l2_1 = some z), W p l e { frames := 2, cells := 0, slots := 0, locals := 43 } s m args below meth c s.heap [] 0 0 (MQ below (vp_Si (fun r => r = z)) args s 0 0 (fun _ => False)) (F0 m 2 ls []) := by
    intro n2
    induction n2 with
    | zero =>
      intro l2_1 ls hl hok
      rw [p_X5_wayToNearest_L2] at hok
      cases hok
    | succ n2 ih2 =>
      have J48 : ∀ (l48_1 : Int32) (ls : Array Slot) (hl : lv_has ls 2 [(0, .ref l0), (1, .int l48_1)]) (hok : p_X5_wayToNearest_J48 (p_X5_wayToNearest_L2 n2) uL l48_1 = some z), W p l e { frames := 2, cells := 0, slots := 0, locals := 43 } s m args below meth c s.heap [] 0 0 (MQ below (vp_Si (fun r => r = z)) args s 0 0 (fun _ => False)) (F0 m 48 ls []) := by
        intro l48_1 ls hl hok
        unfold p_X5_wayToNearest_J48 at hok
        refine lv_aload_n hx hb dX5_wayToNearest_48 rfl (lv_at hl 0 rfl) ?_
        refine lv_aload_n hx hb dX5_wayToNearest_49 rfl (lv_at hl 0 rfl) ?_
        refine va_get (D := (dC, dI)) (ci := 5) (v := .ref l15) (C := RX5) (T := TX5) (N := 18) hx hb hts inX5 hown hK hP 0 rfl rfl 15 (by decide) (hts _ qf_X5_44) (fun _ h9 => h9) rfl dX5_wayToNearest_50 ?_
        refine lv_iconst (v := (1 : Int32)) hx hb dX5_wayToNearest_53 (by decide) ?_
        refine va_ialdK hx hb hK hP 10 0 rfl rfl (j := 1) (by decide) (vp_inK (by decide)) dX5_wayToNearest_54 ?_
        refine lv_iload_n hx hb dX5_wayToNearest_55 rfl (lv_at hl 1 rfl) ?_
        refine lv_isub hx hb dX5_wayToNearest_56 ?_
        obtain ⟨v3, hc3, hok⟩ := bd_some hok
        refine cRVi (ci := 5) (q0 := 0) [.int ((uL.1 1) - l48_1)] S hK hP (c_X5_isFloor l dC dI cI cZ l0 l4 l5 l6 l8 l10 l11 l12 l13 l14 l15 l16 uL ((uL.1 1) - l48_1) hc3) (lw_V qm_X5_93 qi_X5_isFloor qs_X5_isFloor qn_X5 qc_X5_isFloor) hd_X5_isFloor ⟨rfl, rfl⟩ ⟨Nat.le_of_ble_eq_true rfl, Nat.le_of_ble_eq_true rfl⟩ ⟨Nat.le_of_ble_eq_true rfl, Nat.le_of_ble_eq_true rfl⟩ rfl rfl rfl hl.1 (Nat.le_of_ble_eq_true rfl) rfl dX5_wayToNearest_57 ?_
        refine lv_if_eq (tgt := 86) hx hb dX5_wayToNearest_60 (by decide) (fun hc => ?_) (fun hc => ?_)
        · have hok := ip hok hc
          refine lv_iinc (v := (l48_1 + 1)) (lv' := [(1, .int (l48_1 + 1)), (0, .ref l0)]) hx hb dX5_wayToNearest_86 hl (k := 1) rfl rfl (by decide) rfl (fun ls hl => ?_)
          refine lv_goto (tgt := 2) hx hb dX5_wayToNearest_89 (by decide) ?_
          exact ih2 (l48_1 + 1) _ (lv_sub hl [1, 0] rfl) hok
        · have hok := iq hok hc
          refine lv_aload_n hx hb dX5_wayToNearest_63 rfl (lv_at hl 0 rfl) ?_
          refine va_get (D := (dC, dI)) (ci := 5) (v := .ref l15) (C := RX5) (T := TX5) (N := 18) hx hb hts inX5 hown hK hP 0 rfl rfl 15 (by decide) (hts _ qf_X5_44) (fun _ h9 => h9) rfl dX5_wayToNearest_64 ?_
          refine lv_bipush (v := (6 : Int32)) hx hb dX5_wayToNearest_67 (by decide) ?_
          refine va_ialdK hx hb hK hP 10 0 rfl rfl (j := 6) (by decide) (vp_inK (by decide)) dX5_wayToNearest_69 ?_
          refine lv_aload_n hx hb dX5_wayToNearest_70 rfl (lv_at hl 0 rfl) ?_
          refine va_get (D := (dC, dI)) (ci := 5) (v := .ref l15) (C := RX5) (T := TX5) (N := 18) hx hb hts inX5 hown hK hP 0 rfl rfl 15 (by decide) (hts _ qf_X5_44) (fun _ h9 => h9) rfl dX5_wayToNearest_71 ?_
          refine lv_iconst (v := (1 : Int32)) hx hb dX5_wayToNearest_74 (by decide) ?_
          refine va_ialdK hx hb hK hP 10 0 rfl rfl (j := 1) (by decide) (vp_inK (by decide)) dX5_wayToNearest_75 ?_
          refine lv_iload_n hx hb dX5_wayToNearest_76 rfl (lv_at hl 1 rfl) ?_
          refine lv_isub hx hb dX5_wayToNearest_77 ?_
          obtain ⟨v4, hc4, hok⟩ := bd_some hok
          refine cRSi [.int (uL.1 6), .int ((uL.1 1) - l48_1)] S hK va_Pnil (c_X5_has l dC dI cI cZ (uL.1 6) ((uL.1 1) - l48_1) hc4) (lw_S qm_X5_69 qt_X5_has qn_X5 qc_X5_has) hd_X5_has ⟨rfl, rfl⟩ ⟨Nat.le_of_ble_eq_true rfl, Nat.le_of_ble_eq_true rfl⟩ ⟨Nat.le_of_ble_eq_true rfl, Nat.le_of_ble_eq_true rfl⟩ rfl hl.1 (Nat.le_of_ble_eq_true rfl) rfl dX5_wayToNearest_78 ?_
          refine lv_if_eq (tgt := 86) hx hb dX5_wayToNearest_81 (by decide) (fun hc => ?_) (fun hc => ?_)
          · have hok := ip hok hc
            refine lv_iinc (v := (l48_1 + 1)) (lv' := [(1, .int (l48_1 + 1)), (0, .ref l0)]) hx hb dX5_wayToNearest_86 hl (k := 1) rfl rfl (by decide) rfl (fun ls hl => ?_)
            refine lv_goto (tgt := 2) hx hb dX5_wayToNearest_89 (by decide) ?_
            exact ih2 (l48_1 + 1) _ (lv_sub hl [1, 0] rfl) hok
          · have hok := iq hok hc
            refine lv_iconst (v := (-1 : Int32)) hx hb dX5_wayToNearest_84 (by decide) ?_
            exact eRi S hr hlk (Option.some.inj hok) dX5_wayToNearest_85
      intro l2_1 ls hl hok
      rw [p_X5_wayToNearest_L2] at hok
      refine lv_iload_n hx hb dX5_wayToNearest_2 rfl (lv_at hl 1 rfl) ?_
      refine lv_aload_n hx hb dX5_wayToNearest_3 rfl (lv_at hl 0 rfl) ?_
      refine va_get (D := (dC, dI)) (ci := 5) (v := .int uL.2.2.2.2.1) (C := RX5) (T := TX5) (N := 18) hx hb hts inX5 hown hK hP 0 rfl rfl 1 (by decide) (hts _ qf_X5_7) (fun _ h9 => h9) rfl dX5_wayToNearest_4 ?_
      refine lv_icmp_ge (tgt := 92) hx hb dX5_wayToNearest_7 (by decide) (fun hc => ?_) (fun hc => ?_)
      · have hok := ip hok hc
        refine lv_iconst (v := (0 : Int32)) hx hb dX5_wayToNearest_92 (by decide) ?_
        exact eRi S hr hlk (Option.some.inj hok) dX5_wayToNearest_93
      · have hok := iq hok hc
        refine lv_aload_n hx hb dX5_wayToNearest_10 rfl (lv_at hl 0 rfl) ?_
        refine lv_aload_n hx hb dX5_wayToNearest_11 rfl (lv_at hl 0 rfl) ?_
        refine va_get (D := (dC, dI)) (ci := 5) (v := .ref l15) (C := RX5) (T := TX5) (N := 18) hx hb hts inX5 hown hK hP 0 rfl rfl 15 (by decide) (hts _ qf_X5_44) (fun _ h9 => h9) rfl dX5_wayToNearest_12 ?_
        refine lv_iconst (v := (1 : Int32)) hx hb dX5_wayToNearest_15 (by decide) ?_
        refine va_ialdK hx hb hK hP 10 0 rfl rfl (j := 1) (by decide) (vp_inK (by decide)) dX5_wayToNearest_16 ?_
        refine lv_iload_n hx hb dX5_wayToNearest_17 rfl (lv_at hl 1 rfl) ?_
        refine lv_iadd hx hb dX5_wayToNearest_18 ?_
        obtain ⟨v1, hc1, hok⟩ := bd_some hok
        refine cRVi (ci := 5) (q0 := 0) [.int ((uL.1 1) + l2_1)] S hK hP (c_X5_isFloor l dC dI cI cZ l0 l4 l5 l6 l8 l10 l11 l12 l13 l14 l15 l16 uL ((uL.1 1) + l2_1) hc1) (lw_V qm_X5_93 qi_X5_isFloor qs_X5_isFloor qn_X5 qc_X5_isFloor) hd_X5_isFloor ⟨rfl, rfl⟩ ⟨Nat.le_of_ble_eq_true rfl, Nat.le_of_ble_eq_true rfl⟩ ⟨Nat.le_of_ble_eq_true rfl, Nat.le_of_ble_eq_true rfl⟩ rfl rfl rfl hl.1 (Nat.le_of_ble_eq_true rfl) rfl dX5_wayToNearest_19 ?_
        refine lv_if_eq (tgt := 48) hx hb dX5_wayToNearest_22 (by decide) (fun hc => ?_) (fun hc => ?_)
        · have hok := ip hok hc
          exact J48 l2_1 _ hl hok
        · have hok := iq hok hc
          refine lv_aload_n hx hb dX5_wayToNearest_25 rfl (lv_at hl 0 rfl) ?_
          refine va_get (D := (dC, dI)) (ci := 5) (v := .ref l15) (C := RX5) (T := TX5) (N := 18) hx hb hts inX5 hown hK hP 0 rfl rfl 15 (by decide) (hts _ qf_X5_44) (fun _ h9 => h9) rfl dX5_wayToNearest_26 ?_
          refine lv_bipush (v := (6 : Int32)) hx hb dX5_wayToNearest_29 (by decide) ?_
          refine va_ialdK hx hb hK hP 10 0 rfl rfl (j := 6) (by decide) (vp_inK (by decide)) dX5_wayToNearest_31 ?_
          refine lv_aload_n hx hb dX5_wayToNearest_32 rfl (lv_at hl 0 rfl) ?_
          refine va_get (D := (dC, dI)) (ci := 5) (v := .ref l15) (C := RX5) (T := TX5) (N := 18) hx hb hts inX5 hown hK hP 0 rfl rfl 15 (by decide) (hts _ qf_X5_44) (fun _ h9 => h9) rfl dX5_wayToNearest_33 ?_
          refine lv_iconst (v := (1 : Int32)) hx hb dX5_wayToNearest_36 (by decide) ?_
          refine va_ialdK hx hb hK hP 10 0 rfl rfl (j := 1) (by decide) (vp_inK (by decide)) dX5_wayToNearest_37 ?_
          refine lv_iload_n hx hb dX5_wayToNearest_38 rfl (lv_at hl 1 rfl) ?_
          refine lv_iadd hx hb dX5_wayToNearest_39 ?_
          obtain ⟨v2, hc2, hok⟩ := bd_some hok
          refine cRSi [.int (uL.1 6), .int ((uL.1 1) + l2_1)] S hK va_Pnil (c_X5_has l dC dI cI cZ (uL.1 6) ((uL.1 1) + l2_1) hc2) (lw_S qm_X5_69 qt_X5_has qn_X5 qc_X5_has) hd_X5_has ⟨rfl, rfl⟩ ⟨Nat.le_of_ble_eq_true rfl, Nat.le_of_ble_eq_true rfl⟩ ⟨Nat.le_of_ble_eq_true rfl, Nat.le_of_ble_eq_true rfl⟩ rfl hl.1 (Nat.le_of_ble_eq_true rfl) rfl dX5_wayToNearest_40 ?_
          refine lv_if_eq (tgt := 48) hx hb dX5_wayToNearest_43 (by decide) (fun hc => ?_) (fun hc => ?_)
          · have hok := ip hok hc
            exact J48 l2_1 _ hl hok
          · have hok := iq hok hc
            refine lv_iconst (v := (1 : Int32)) hx hb dX5_wayToNearest_46 (by decide) ?_
            exact eRi S hr hlk (Option.some.inj hok) dX5_wayToNearest_47
  unfold p_X5_wayToNearest at hok
  refine lv_iconst (v := (1 : Int32)) hx hb dX5_wayToNearest_0 (by decide) ?_
  refine lv_istore_n (lv' := [(1, .int (1 : Int32)), (0, .ref l0)]) hx hb dX5_wayToNearest_1 rfl hl (by decide) rfl (fun ls hl => ?_)
  exact L2 200 (1 : Int32) _ (lv_sub hl [1, 0] rfl) hok
theorem hd_X5_ride : yX5_ride.cls = RX5 ∧ yX5_ride.cls ≠ "java/lang/invoke/MethodHandle" ∧ yX5_ride.cls ≠ "java/lang/invoke/VarHandle" ∧ (parseMethodDescriptor yX5_ride.desc).map (fun d => d.parameters.length) = some 0 := by decide +kernel
def p_X5_ride_J78 (uL : tX5) : Option tX5 :=
  bd (p_X5_has (uL.1 6) (uL.1 1)) (fun v4 =>
  if v4 = 0 then
    some uL
  else
    bd (p_X5_stop uL) (fun v5 =>
    some v5))
def p_X5_ride_J53 (uL : tX5) : Option tX5 :=
  p_X5_ride_J78 ((upd (upd uL.1 1 ((uL.1 1) + (uL.1 2))) 4 (((upd uL.1 1 ((uL.1 1) + (uL.1 2))) 4) + (1 : Int32))), uL.2)
def p_X5_ride (uL : tX5) : Option tX5 :=
  if (uL.1 6) = 0 then
    some uL
  else
    bd (p_X5_has (uL.1 6) (uL.1 1)) (fun v1 =>
    if v1 = 0 then
      bd (p_X5_isWay uL (uL.1 2)) (fun v2 =>
      if v2 = 0 then
        bd (p_X5_wayToNearest uL) (fun v3 =>
        p_X5_ride_J53 ((upd uL.1 2 v3), uL.2))
      else
        p_X5_ride_J53 uL)
    else
      p_X5_ride_J78 uL)
set_option maxHeartbeats 4000000 in
set_option maxRecDepth 100000 in
theorem c_X5_ride (l : Launch) (dC : Nat → ClassId) (dI : Nat → Nat → Nat) (cI cZ : ClassId) (l0 l4 l5 l6 l8 l10 l11 l12 l13 l14 l15 l16 : Nat) (sz : Nat) (uL : tX5) {z : tX5} (hok : p_X5_ride uL = some z) : Met l yX5_ride (Cond.code yX5_ride cX5_ride 1 none :: lw_all) { frames := 4, cells := 0, slots := 0, locals := 87 } (prW (dC, dI) vwCl (TYS cI cZ) ((wX5 cI cZ l0 l4 l5 l6 l8 l10 l11 l12 l13 l14 l15 l16 uL)) sz [.ref l0]) (va_Qv (fun _ : Unit => True) (fun _ t => va_P (dC, dI) vwCl ((wX5 cI cZ l0 l4 l5 l6 l8 l10 l11 l12 l13 l14 l15 l16 z)) t.heap) (va_A ((wX5 cI cZ l0 l4 l5 l6 l8 l10 l11 l12 l13 l14 l15 l16 uL)) sz)) 0 0 (va_A ((wX5 cI cZ l0 l4 l5 l6 l8 l10 l11 l12 l13 l14 l15 l16 uL)) sz) := by
  refine oM (by decide) (Nat.le_of_ble_eq_true rfl) ?_
  intro p e s m args below meth c S hr hlk hnm hB ls hl
  have hx := S.1
  have hb := S.2.1
  have hml := S.2.2.1
  have hown : s.vm.findClass RX5 = some m.cls := S.2.2.2.1
  have hts := S.2.2.2.2
  have S : CallFix p m c cX5_ride 1 s args lw_all RX5 := S
  have hl : lv_has ls 1 [(0, .ref l0)] := hl
  obtain ⟨hsz, hP, hK, hD0⟩ := hB
  subst hsz
  have hD := hD0.self (sz := s.heap.size)
  generalize hAe : va_A ((wX5 cI cZ l0 l4 l5 l6 l8 l10 l11 l12 l13 l14 l15 l16 uL)) s.heap.size = A at hD ⊢
  have hA : ∀ q : Nat, s.heap.size ≤ q → A q := fun q h => by rw [← hAe]; exact Or.inr h
  have hS : va_S A s.heap s.heap [] := va_S.rf
  have hP : va_P (dC, dI) vwCl ((wX5 cI cZ l0 l4 l5 l6 l8 l10 l11 l12 l13 l14 l15 l16 uL)) s.heap := hP
  have J78 : ∀ (uL : tX5) (H : Heap) (locs : List Loc) (hP : va_P (dC, dI) vwCl ((wX5 cI cZ l0 l4 l5 l6 l8 l10 l11 l12 l13 l14 l15 l16 uL)) H) (hD : va_D A ((wX5 cI cZ l0 l4 l5 l6 l8 l10 l11 l12 l13 l14 l15 l16 uL))) (hS : va_S A s.heap H locs) (ls : Array Slot) (hl : lv_has ls 1 [(0, .ref l0)]) (hok : p_X5_ride_J78 uL = some z), W p l e { frames := 4, cells := 0, slots := 0, locals := 87 } s m args below meth c H locs 0 0 (MQ below (va_Qv (fun _ : Unit => True) (fun _ t => va_P (dC, dI) vwCl ((wX5 cI cZ l0 l4 l5 l6 l8 l10 l11 l12 l13 l14 l15 l16 z)) t.heap) A) args s 0 0 A) (F0 m 78 ls []) := by
    intro uL H locs hP hD hS ls hl hok
    unfold p_X5_ride_J78 at hok
    refine lv_aload_n hx hb dX5_ride_78 rfl (lv_at hl 0 rfl) ?_
    refine va_get (D := (dC, dI)) (ci := 5) (v := .ref l15) (C := RX5) (T := TX5) (N := 18) hx hb hts inX5 hown hK hP 0 rfl rfl 15 (by decide) (hts _ qf_X5_44) (fun _ h9 => h9) rfl dX5_ride_79 ?_
    refine lv_bipush (v := (6 : Int32)) hx hb dX5_ride_82 (by decide) ?_
    refine va_ialdK hx hb hK hP 10 0 rfl rfl (j := 6) (by decide) (vp_inK (by decide)) dX5_ride_84 ?_
    refine lv_aload_n hx hb dX5_ride_85 rfl (lv_at hl 0 rfl) ?_
    refine va_get (D := (dC, dI)) (ci := 5) (v := .ref l15) (C := RX5) (T := TX5) (N := 18) hx hb hts inX5 hown hK hP 0 rfl rfl 15 (by decide) (hts _ qf_X5_44) (fun _ h9 => h9) rfl dX5_ride_86 ?_
    refine lv_iconst (v := (1 : Int32)) hx hb dX5_ride_89 (by decide) ?_
    refine va_ialdK hx hb hK hP 10 0 rfl rfl (j := 1) (by decide) (vp_inK (by decide)) dX5_ride_90 ?_
    obtain ⟨v4, hc4, hok⟩ := bd_some hok
    refine cRSi [.int (uL.1 6), .int (uL.1 1)] S hK va_Pnil (c_X5_has l dC dI cI cZ (uL.1 6) (uL.1 1) hc4) (lw_S qm_X5_69 qt_X5_has qn_X5 qc_X5_has) hd_X5_has ⟨rfl, rfl⟩ ⟨Nat.le_of_ble_eq_true rfl, Nat.le_of_ble_eq_true rfl⟩ ⟨Nat.le_of_ble_eq_true rfl, Nat.le_of_ble_eq_true rfl⟩ rfl hl.1 (Nat.le_of_ble_eq_true rfl) rfl dX5_ride_91 ?_
    refine lv_if_eq (tgt := 101) hx hb dX5_ride_94 (by decide) (fun hc => ?_) (fun hc => ?_)
    · have hok := ip hok hc
      have hok := Option.some.inj hok
      subst hok
      exact eWv S hr hlk hP hS (Nat.le_of_ble_eq_true rfl) (Nat.le_of_ble_eq_true rfl) dX5_ride_101
    · have hok := iq hok hc
      refine lv_aload_n hx hb dX5_ride_97 rfl (lv_at hl 0 rfl) ?_
      obtain ⟨v5, hc5, hok⟩ := bd_some hok
      refine cWVv (ci := 5) (q0 := 0) [] S hK hP hD hS hA (c_X5_stop l dC dI cI cZ l0 l4 l5 l6 l8 l10 l11 l12 l13 l14 l15 l16 _ uL hc5) (lw_V qm_X5_103 qi_X5_stop qs_X5_stop qn_X5 qc_X5_stop) hd_X5_stop ⟨rfl, rfl⟩ ⟨Nat.le_of_ble_eq_true rfl, Nat.le_of_ble_eq_true rfl⟩ ⟨Nat.le_of_ble_eq_true rfl, Nat.le_of_ble_eq_true rfl⟩ rfl rfl rfl hl.1 (Nat.le_of_ble_eq_true rfl) rfl dX5_ride_98 (D_L hD) (fun H locs hP hD hS => ?_)
      have hok := Option.some.inj hok
      subst hok
      exact eWv S hr hlk hP hS (Nat.le_of_ble_eq_true rfl) (Nat.le_of_ble_eq_true rfl) dX5_ride_101
  have J53 : ∀ (uL : tX5) (H : Heap) (locs : List Loc) (hP : va_P (dC, dI) vwCl ((wX5 cI cZ l0 l4 l5 l6 l8 l10 l11 l12 l13 l14 l15 l16 uL)) H) (hD : va_D A ((wX5 cI cZ l0 l4 l5 l6 l8 l10 l11 l12 l13 l14 l15 l16 uL))) (hS : va_S A s.heap H locs) (ls : Array Slot) (hl : lv_has ls 1 [(0, .ref l0)]) (hok : p_X5_ride_J53 uL = some z), W p l e { frames := 4, cells := 0, slots := 0, locals := 87 } s m args below meth c H locs 0 0 (MQ below (va_Qv (fun _ : Unit => True) (fun _ t => va_P (dC, dI) vwCl ((wX5 cI cZ l0 l4 l5 l6 l8 l10 l11 l12 l13 l14 l15 l16 z)) t.heap) A) args s 0 0 A) (F0 m 53 ls []) := by
    intro uL H locs hP hD hS ls hl hok
    unfold p_X5_ride_J53 at hok
    refine lv_aload_n hx hb dX5_ride_53 rfl (lv_at hl 0 rfl) ?_
    refine va_get (D := (dC, dI)) (ci := 5) (v := .ref l15) (C := RX5) (T := TX5) (N := 18) hx hb hts inX5 hown hK hP 0 rfl rfl 15 (by decide) (hts _ qf_X5_44) (fun _ h9 => h9) rfl dX5_ride_54 ?_
    refine lv_iconst (v := (1 : Int32)) hx hb dX5_ride_57 (by decide) ?_
    refine lv_dup2_11 hx hb dX5_ride_58 rfl rfl ?_
    refine va_ialdK hx hb hK hP 10 0 rfl rfl (j := 1) (by decide) (vp_inK (by decide)) dX5_ride_59 ?_
    refine lv_aload_n hx hb dX5_ride_60 rfl (lv_at hl 0 rfl) ?_
    refine va_get (D := (dC, dI)) (ci := 5) (v := .ref l15) (C := RX5) (T := TX5) (N := 18) hx hb hts inX5 hown hK hP 0 rfl rfl 15 (by decide) (hts _ qf_X5_44) (fun _ h9 => h9) rfl dX5_ride_61 ?_
    refine lv_iconst (v := (2 : Int32)) hx hb dX5_ride_64 (by decide) ?_
    refine va_ialdK hx hb hK hP 10 0 rfl rfl (j := 2) (by decide) (vp_inK (by decide)) dX5_ride_65 ?_
    refine lv_iadd hx hb dX5_ride_66 ?_
    refine va_iastK hx hb hK hP hD hS 10 0 rfl rfl (j := 1) (by decide) (vp_inK (by decide)) dX5_ride_67 (fun H locs hP _ hS => ?_)
    have hP : va_P (dC, dI) vwCl ((wX5 cI cZ l0 l4 l5 l6 l8 l10 l11 l12 l13 l14 l15 l16 ((upd uL.1 1 ((uL.1 1) + (uL.1 2))), uL.2))) H := hP
    have hD : va_D A ((wX5 cI cZ l0 l4 l5 l6 l8 l10 l11 l12 l13 l14 l15 l16 ((upd uL.1 1 ((uL.1 1) + (uL.1 2))), uL.2))) := D_L hD
    refine lv_aload_n hx hb dX5_ride_68 rfl (lv_at hl 0 rfl) ?_
    refine va_get (D := (dC, dI)) (ci := 5) (v := .ref l15) (C := RX5) (T := TX5) (N := 18) hx hb hts inX5 hown hK hP 0 rfl rfl 15 (by decide) (hts _ qf_X5_44) (fun _ h9 => h9) rfl dX5_ride_69 ?_
    refine lv_iconst (v := (4 : Int32)) hx hb dX5_ride_72 (by decide) ?_
    refine lv_dup2_11 hx hb dX5_ride_73 rfl rfl ?_
    refine va_ialdK hx hb hK hP 10 0 rfl rfl (j := 4) (by decide) (vp_inK (by decide)) dX5_ride_74 ?_
    refine lv_iconst (v := (1 : Int32)) hx hb dX5_ride_75 (by decide) ?_
    refine lv_iadd hx hb dX5_ride_76 ?_
    refine va_iastK hx hb hK hP hD hS 10 0 rfl rfl (j := 4) (by decide) (vp_inK (by decide)) dX5_ride_77 (fun H locs hP _ hS => ?_)
    have hP : va_P (dC, dI) vwCl ((wX5 cI cZ l0 l4 l5 l6 l8 l10 l11 l12 l13 l14 l15 l16 ((upd (upd uL.1 1 ((uL.1 1) + (uL.1 2))) 4 (((upd uL.1 1 ((uL.1 1) + (uL.1 2))) 4) + (1 : Int32))), uL.2))) H := hP
    have hD : va_D A ((wX5 cI cZ l0 l4 l5 l6 l8 l10 l11 l12 l13 l14 l15 l16 ((upd (upd uL.1 1 ((uL.1 1) + (uL.1 2))) 4 (((upd uL.1 1 ((uL.1 1) + (uL.1 2))) 4) + (1 : Int32))), uL.2))) := D_L hD
    exact J78 ((upd (upd uL.1 1 ((uL.1 1) + (uL.1 2))) 4 (((upd uL.1 1 ((uL.1 1) + (uL.1 2))) 4) + (1 : Int32))), uL.2) _ _ hP hD hS _ hl hok
  unfold p_X5_ride at hok
  refine lv_aload_n hx hb dX5_ride_0 rfl (lv_at hl 0 rfl) ?_
  refine va_get (D := (dC, dI)) (ci := 5) (v := .ref l15) (C := RX5) (T := TX5) (N := 18) hx hb hts inX5 hown hK hP 0 rfl rfl 15 (by decide) (hts _ qf_X5_44) (fun _ h9 => h9) rfl dX5_ride_1 ?_
  refine lv_bipush (v := (6 : Int32)) hx hb dX5_ride_4 (by decide) ?_
  refine va_ialdK hx hb hK hP 10 0 rfl rfl (j := 6) (by decide) (vp_inK (by decide)) dX5_ride_6 ?_
  refine lv_if_ne (tgt := 11) hx hb dX5_ride_7 (by decide) (fun hc => ?_) (fun hc => ?_)
  · have hok := iq hok hc
    refine lv_aload_n hx hb dX5_ride_11 rfl (lv_at hl 0 rfl) ?_
    refine va_get (D := (dC, dI)) (ci := 5) (v := .ref l15) (C := RX5) (T := TX5) (N := 18) hx hb hts inX5 hown hK hP 0 rfl rfl 15 (by decide) (hts _ qf_X5_44) (fun _ h9 => h9) rfl dX5_ride_12 ?_
    refine lv_bipush (v := (6 : Int32)) hx hb dX5_ride_15 (by decide) ?_
    refine va_ialdK hx hb hK hP 10 0 rfl rfl (j := 6) (by decide) (vp_inK (by decide)) dX5_ride_17 ?_
    refine lv_aload_n hx hb dX5_ride_18 rfl (lv_at hl 0 rfl) ?_
    refine va_get (D := (dC, dI)) (ci := 5) (v := .ref l15) (C := RX5) (T := TX5) (N := 18) hx hb hts inX5 hown hK hP 0 rfl rfl 15 (by decide) (hts _ qf_X5_44) (fun _ h9 => h9) rfl dX5_ride_19 ?_
    refine lv_iconst (v := (1 : Int32)) hx hb dX5_ride_22 (by decide) ?_
    refine va_ialdK hx hb hK hP 10 0 rfl rfl (j := 1) (by decide) (vp_inK (by decide)) dX5_ride_23 ?_
    obtain ⟨v1, hc1, hok⟩ := bd_some hok
    refine cRSi [.int (uL.1 6), .int (uL.1 1)] S hK va_Pnil (c_X5_has l dC dI cI cZ (uL.1 6) (uL.1 1) hc1) (lw_S qm_X5_69 qt_X5_has qn_X5 qc_X5_has) hd_X5_has ⟨rfl, rfl⟩ ⟨Nat.le_of_ble_eq_true rfl, Nat.le_of_ble_eq_true rfl⟩ ⟨Nat.le_of_ble_eq_true rfl, Nat.le_of_ble_eq_true rfl⟩ rfl hl.1 (Nat.le_of_ble_eq_true rfl) rfl dX5_ride_24 ?_
    refine lv_if_ne (tgt := 78) hx hb dX5_ride_27 (by decide) (fun hc => ?_) (fun hc => ?_)
    · have hok := iq hok hc
      exact J78 uL _ _ hP hD hS _ hl hok
    · have hok := ip hok hc
      refine lv_aload_n hx hb dX5_ride_30 rfl (lv_at hl 0 rfl) ?_
      refine lv_aload_n hx hb dX5_ride_31 rfl (lv_at hl 0 rfl) ?_
      refine va_get (D := (dC, dI)) (ci := 5) (v := .ref l15) (C := RX5) (T := TX5) (N := 18) hx hb hts inX5 hown hK hP 0 rfl rfl 15 (by decide) (hts _ qf_X5_44) (fun _ h9 => h9) rfl dX5_ride_32 ?_
      refine lv_iconst (v := (2 : Int32)) hx hb dX5_ride_35 (by decide) ?_
      refine va_ialdK hx hb hK hP 10 0 rfl rfl (j := 2) (by decide) (vp_inK (by decide)) dX5_ride_36 ?_
      obtain ⟨v2, hc2, hok⟩ := bd_some hok
      refine cRVi (ci := 5) (q0 := 0) [.int (uL.1 2)] S hK hP (c_X5_isWay l dC dI cI cZ l0 l4 l5 l6 l8 l10 l11 l12 l13 l14 l15 l16 uL (uL.1 2) hc2) (lw_V qm_X5_96 qi_X5_isWay qs_X5_isWay qn_X5 qc_X5_isWay) hd_X5_isWay ⟨rfl, rfl⟩ ⟨Nat.le_of_ble_eq_true rfl, Nat.le_of_ble_eq_true rfl⟩ ⟨Nat.le_of_ble_eq_true rfl, Nat.le_of_ble_eq_true rfl⟩ rfl rfl rfl hl.1 (Nat.le_of_ble_eq_true rfl) rfl dX5_ride_37 ?_
      refine lv_if_ne (tgt := 53) hx hb dX5_ride_40 (by decide) (fun hc => ?_) (fun hc => ?_)
      · have hok := iq hok hc
        exact J53 uL _ _ hP hD hS _ hl hok
      · have hok := ip hok hc
        refine lv_aload_n hx hb dX5_ride_43 rfl (lv_at hl 0 rfl) ?_
        refine va_get (D := (dC, dI)) (ci := 5) (v := .ref l15) (C := RX5) (T := TX5) (N := 18) hx hb hts inX5 hown hK hP 0 rfl rfl 15 (by decide) (hts _ qf_X5_44) (fun _ h9 => h9) rfl dX5_ride_44 ?_
        refine lv_iconst (v := (2 : Int32)) hx hb dX5_ride_47 (by decide) ?_
        refine lv_aload_n hx hb dX5_ride_48 rfl (lv_at hl 0 rfl) ?_
        obtain ⟨v3, hc3, hok⟩ := bd_some hok
        refine cRVi (ci := 5) (q0 := 0) [] S hK hP (c_X5_wayToNearest l dC dI cI cZ l0 l4 l5 l6 l8 l10 l11 l12 l13 l14 l15 l16 uL hc3) (lw_V qm_X5_99 qi_X5_wayToNearest qs_X5_wayToNearest qn_X5 qc_X5_wayToNearest) hd_X5_wayToNearest ⟨rfl, rfl⟩ ⟨Nat.le_of_ble_eq_true rfl, Nat.le_of_ble_eq_true rfl⟩ ⟨Nat.le_of_ble_eq_true rfl, Nat.le_of_ble_eq_true rfl⟩ rfl rfl rfl hl.1 (Nat.le_of_ble_eq_true rfl) rfl dX5_ride_49 ?_
        refine va_iastK hx hb hK hP hD hS 10 0 rfl rfl (j := 2) (by decide) (vp_inK (by decide)) dX5_ride_52 (fun H locs hP _ hS => ?_)
        have hP : va_P (dC, dI) vwCl ((wX5 cI cZ l0 l4 l5 l6 l8 l10 l11 l12 l13 l14 l15 l16 ((upd uL.1 2 v3), uL.2))) H := hP
        have hD : va_D A ((wX5 cI cZ l0 l4 l5 l6 l8 l10 l11 l12 l13 l14 l15 l16 ((upd uL.1 2 v3), uL.2))) := D_L hD
        exact J53 ((upd uL.1 2 v3), uL.2) _ _ hP hD hS _ hl hok
  · have hok := ip hok hc
    have hok := Option.some.inj hok
    subst hok
    exact eWv S hr hlk hP hS (Nat.le_of_ble_eq_true rfl) (Nat.le_of_ble_eq_true rfl) dX5_ride_10
theorem hd_X5_hourOn : yX5_hourOn.cls = RX5 ∧ yX5_hourOn.cls ≠ "java/lang/invoke/MethodHandle" ∧ yX5_hourOn.cls ≠ "java/lang/invoke/VarHandle" ∧ (parseMethodDescriptor yX5_hourOn.desc).map (fun d => d.parameters.length) = some 0 := by decide +kernel
def p_X5_hourOn_J212 (uL : tX5) : Option tX5 :=
  some ((upd uL.1 0 ((uL.1 0) + (1 : Int32))), uL.2)
def p_X5_hourOn_J169 (uL : tX5) : Option tX5 :=
  if (uL.1 3) = 0 then
    if (uL.1 4) < uL.2.2.2.2.2.1 then
      p_X5_hourOn_J212 uL
    else
      p_X5_hourOn_J212 ((upd (upd uL.1 3 ((uL.2.2.2.2.2.1 / (4 : Int32)) + (1 : Int32))) 4 (0 : Int32)), uL.2)
  else
    p_X5_hourOn_J212 uL
def p_X5_hourOn_J152 (uL : tX5) : Option tX5 :=
  if (uL.1 6) = 0 then
    p_X5_hourOn_J169 ((upd uL.1 2 (0 : Int32)), uL.2)
  else
    p_X5_hourOn_J169 uL
def p_X5_hourOn_L73 : Nat → tX5 → Int32 → Int32 → Option tX5
  | 0, _, _, _ => none
  | n + 1, uL, l73_1, l73_2 =>
    if uL.2.2.2.2.2.2.2.2.2.2.1 ≤ l73_2 then
      p_X5_hourOn_J152 uL
    else
      if (uL.1 8) = l73_1 then
        bd (p_X5_reads uL l73_2) (fun v4 =>
        if v4 = 0 then
          (p_X5_hourOn_L73 n) uL l73_1 (l73_2 + 1)
        else
          gd ((33 : Int32) + l73_2) 41 (
          if (uL.1 ((33 : Int32) + l73_2).toNatClampNeg) = 0 then
            (p_X5_hourOn_L73 n) ((upd uL.1 7 ((uL.1 7) &&& (((1 : Int32) <<< (l73_2 &&& 31)) ^^^ (-1 : Int32)))), uL.2) l73_1 (l73_2 + 1)
          else
            (p_X5_hourOn_L73 n) ((upd uL.1 ((33 : Int32) + l73_2).toNatClampNeg ((uL.1 ((33 : Int32) + l73_2).toNatClampNeg) - (1 : Int32))), uL.2) l73_1 (l73_2 + 1)))
      else
        p_X5_hourOn_J152 uL
def p_X5_hourOn_J61 (uL : tX5) (l61_1 : Int32) (s61_0 : Int32) (s61_1 : Int32) (s61_2 : Int32) (s61_3 : Int32) : Option tX5 :=
  gd s61_3 41 (
  p_X5_hourOn_L73 200 ((upd uL.1 s61_3.toNatClampNeg (s61_2 + (s61_1 + s61_0))), uL.2) l61_1 (0 : Int32))
def p_X5_hourOn (uL : tX5) : Option tX5 :=
  if (uL.1 3) ≤ 0 then
    bd (p_X5_ride (uL.1, uL.2.1, (-1 : Int32), uL.2.2.2)) (fun v1 =>
    p_X5_hourOn_L73 200 v1 (uL.1 8) (0 : Int32))
  else
    if (uL.1 8) = 0 then
      p_X5_hourOn_J61 ((upd uL.1 3 ((uL.1 3) - (1 : Int32))), uL.2.1, (-1 : Int32), uL.2.2.2) (uL.1 8) (0 : Int32) (1 : Int32) ((upd uL.1 3 ((uL.1 3) - (1 : Int32))) 5) (5 : Int32)
    else
      gd ((uL.1 8) - (1 : Int32)) 108 (
      gd (uL.2.2.2.2.2.2.2.2.2.2.2.2.2.2.2.1 ((uL.1 8) - (1 : Int32)).toNatClampNeg) 108 (
      p_X5_hourOn_J61 ((upd uL.1 3 ((uL.1 3) - (1 : Int32))), uL.2.1, (-1 : Int32), uL.2.2.2) (uL.1 8) (uL.2.2.2.2.2.2.2.2.2.1 (uL.2.2.2.2.2.2.2.2.2.2.2.2.2.2.2.1 ((uL.1 8) - (1 : Int32)).toNatClampNeg).toNatClampNeg) (1 : Int32) ((upd uL.1 3 ((uL.1 3) - (1 : Int32))) 5) (5 : Int32)))
set_option maxHeartbeats 4000000 in
set_option maxRecDepth 100000 in
theorem c_X5_hourOn (l : Launch) (dC : Nat → ClassId) (dI : Nat → Nat → Nat) (cI cZ : ClassId) (l0 l4 l5 l6 l8 l10 l11 l12 l13 l14 l15 l16 : Nat) (sz : Nat) (uL : tX5) {z : tX5} (hok : p_X5_hourOn uL = some z) : Met l yX5_hourOn (Cond.code yX5_hourOn cX5_hourOn 3 none :: lw_all) { frames := 5, cells := 0, slots := 0, locals := 107 } (prW (dC, dI) vwCl (TYS cI cZ) ((wX5 cI cZ l0 l4 l5 l6 l8 l10 l11 l12 l13 l14 l15 l16 uL)) sz [.ref l0]) (va_Qv (fun _ : Unit => True) (fun _ t => va_P (dC, dI) vwCl ((wX5 cI cZ l0 l4 l5 l6 l8 l10 l11 l12 l13 l14 l15 l16 z)) t.heap) (va_A ((wX5 cI cZ l0 l4 l5 l6 l8 l10 l11 l12 l13 l14 l15 l16 uL)) sz)) 0 0 (va_A ((wX5 cI cZ l0 l4 l5 l6 l8 l10 l11 l12 l13 l14 l15 l16 uL)) sz) := by
  refine oM (by decide) (Nat.le_of_ble_eq_true rfl) ?_
  intro p e s m args below meth c S hr hlk hnm hB ls hl
  have hx := S.1
  have hb := S.2.1
  have hml := S.2.2.1
  have hown : s.vm.findClass RX5 = some m.cls := S.2.2.2.1
  have hts := S.2.2.2.2
  have S : CallFix p m c cX5_hourOn 3 s args lw_all RX5 := S
  have hl : lv_has ls 3 [(0, .ref l0)] := hl
  obtain ⟨hsz, hP, hK, hD0⟩ := hB
  subst hsz
  have hD := hD0.self (sz := s.heap.size)
  generalize hAe : va_A ((wX5 cI cZ l0 l4 l5 l6 l8 l10 l11 l12 l13 l14 l15 l16 uL)) s.heap.size = A at hD ⊢
  have hA : ∀ q : Nat, s.heap.size ≤ q → A q := fun q h => by rw [← hAe]; exact Or.inr h
  have hS : va_S A s.heap s.heap [] := va_S.rf
  have hP : va_P (dC, dI) vwCl ((wX5 cI cZ l0 l4 l5 l6 l8 l10 l11 l12 l13 l14 l15 l16 uL)) s.heap := hP
  have J212 : ∀ (uL : tX5) (H : Heap) (locs : List Loc) (hP : va_P (dC, dI) vwCl ((wX5 cI cZ l0 l4 l5 l6 l8 l10 l11 l12 l13 l14 l15 l16 uL)) H) (hD : va_D A ((wX5 cI cZ l0 l4 l5 l6 l8 l10 l11 l12 l13 l14 l15 l16 uL))) (hS : va_S A s.heap H locs) (ls : Array Slot) (hl : lv_has ls 3 [(0, .ref l0)]) (hok : p_X5_hourOn_J212 uL = some z), W p l e { frames := 5, cells := 0, slots := 0, locals := 107 } s m args below meth c H locs 0 0 (MQ below (va_Qv (fun _ : Unit => True) (fun _ t => va_P (dC, dI) vwCl ((wX5 cI cZ l0 l4 l5 l6 l8 l10 l11 l12 l13 l14 l15 l16 z)) t.heap) A) args s 0 0 A) (F0 m 212 ls []) := by
    intro uL H locs hP hD hS ls hl hok
    unfold p_X5_hourOn_J212 at hok
    refine lv_aload_n hx hb dX5_hourOn_212 rfl (lv_at hl 0 rfl) ?_
    refine va_get (D := (dC, dI)) (ci := 5) (v := .ref l15) (C := RX5) (T := TX5) (N := 18) hx hb hts inX5 hown hK hP 0 rfl rfl 15 (by decide) (hts _ qf_X5_44) (fun _ h9 => h9) rfl dX5_hourOn_213 ?_
    refine lv_iconst (v := (0 : Int32)) hx hb dX5_hourOn_216 (by decide) ?_
    refine lv_dup2_11 hx hb dX5_hourOn_217 rfl rfl ?_
    refine va_ialdK hx hb hK hP 10 0 rfl rfl (j := 0) (by decide) (vp_inK (by decide)) dX5_hourOn_218 ?_
    refine lv_iconst (v := (1 : Int32)) hx hb dX5_hourOn_219 (by decide) ?_
    refine lv_iadd hx hb dX5_hourOn_220 ?_
    refine va_iastK hx hb hK hP hD hS 10 0 rfl rfl (j := 0) (by decide) (vp_inK (by decide)) dX5_hourOn_221 (fun H locs hP _ hS => ?_)
    have hP : va_P (dC, dI) vwCl ((wX5 cI cZ l0 l4 l5 l6 l8 l10 l11 l12 l13 l14 l15 l16 ((upd uL.1 0 ((uL.1 0) + (1 : Int32))), uL.2))) H := hP
    have hD : va_D A ((wX5 cI cZ l0 l4 l5 l6 l8 l10 l11 l12 l13 l14 l15 l16 ((upd uL.1 0 ((uL.1 0) + (1 : Int32))), uL.2))) := D_L hD
    have hok := Option.some.inj hok
    subst hok
    exact eWv S hr hlk hP hS (Nat.le_of_ble_eq_true rfl) (Nat.le_of_ble_eq_true rfl) dX5_hourOn_222
  have J169 : ∀ (uL : tX5) (H : Heap) (locs : List Loc) (hP : va_P (dC, dI) vwCl ((wX5 cI cZ l0 l4 l5 l6 l8 l10 l11 l12 l13 l14 l15 l16 uL)) H) (hD : va_D A ((wX5 cI cZ l0 l4 l5 l6 l8 l10 l11 l12 l13 l14 l15 l16 uL))) (hS : va_S A s.heap H locs) (ls : Array Slot) (hl : lv_has ls 3 [(0, .ref l0)]) (hok : p_X5_hourOn_J169 uL = some z), W p l e { frames := 5, cells := 0, slots := 0, locals := 107 } s m args below meth c H locs 0 0 (MQ below (va_Qv (fun _ : Unit => True) (fun _ t => va_P (dC, dI) vwCl ((wX5 cI cZ l0 l4 l5 l6 l8 l10 l11 l12 l13 l14 l15 l16 z)) t.heap) A) args s 0 0 A) (F0 m 169 ls []) := by
    intro uL H locs hP hD hS ls hl hok
    unfold p_X5_hourOn_J169 at hok
    refine lv_aload_n hx hb dX5_hourOn_169 rfl (lv_at hl 0 rfl) ?_
    refine va_get (D := (dC, dI)) (ci := 5) (v := .ref l15) (C := RX5) (T := TX5) (N := 18) hx hb hts inX5 hown hK hP 0 rfl rfl 15 (by decide) (hts _ qf_X5_44) (fun _ h9 => h9) rfl dX5_hourOn_170 ?_
    refine lv_iconst (v := (3 : Int32)) hx hb dX5_hourOn_173 (by decide) ?_
    refine va_ialdK hx hb hK hP 10 0 rfl rfl (j := 3) (by decide) (vp_inK (by decide)) dX5_hourOn_174 ?_
    refine lv_if_ne (tgt := 212) hx hb dX5_hourOn_175 (by decide) (fun hc => ?_) (fun hc => ?_)
    · have hok := iq hok hc
      exact J212 uL _ _ hP hD hS _ hl hok
    · have hok := ip hok hc
      refine lv_aload_n hx hb dX5_hourOn_178 rfl (lv_at hl 0 rfl) ?_
      refine va_get (D := (dC, dI)) (ci := 5) (v := .ref l15) (C := RX5) (T := TX5) (N := 18) hx hb hts inX5 hown hK hP 0 rfl rfl 15 (by decide) (hts _ qf_X5_44) (fun _ h9 => h9) rfl dX5_hourOn_179 ?_
      refine lv_iconst (v := (4 : Int32)) hx hb dX5_hourOn_182 (by decide) ?_
      refine va_ialdK hx hb hK hP 10 0 rfl rfl (j := 4) (by decide) (vp_inK (by decide)) dX5_hourOn_183 ?_
      refine lv_aload_n hx hb dX5_hourOn_184 rfl (lv_at hl 0 rfl) ?_
      refine va_get (D := (dC, dI)) (ci := 5) (v := .int uL.2.2.2.2.2.1) (C := RX5) (T := TX5) (N := 18) hx hb hts inX5 hown hK hP 0 rfl rfl 2 (by decide) (hts _ qf_X5_13) (fun _ h9 => h9) rfl dX5_hourOn_185 ?_
      refine lv_icmp_lt (tgt := 212) hx hb dX5_hourOn_188 (by decide) (fun hc => ?_) (fun hc => ?_)
      · have hok := ip hok hc
        exact J212 uL _ _ hP hD hS _ hl hok
      · have hok := iq hok hc
        refine lv_aload_n hx hb dX5_hourOn_191 rfl (lv_at hl 0 rfl) ?_
        refine va_get (D := (dC, dI)) (ci := 5) (v := .ref l15) (C := RX5) (T := TX5) (N := 18) hx hb hts inX5 hown hK hP 0 rfl rfl 15 (by decide) (hts _ qf_X5_44) (fun _ h9 => h9) rfl dX5_hourOn_192 ?_
        refine lv_iconst (v := (3 : Int32)) hx hb dX5_hourOn_195 (by decide) ?_
        refine lv_aload_n hx hb dX5_hourOn_196 rfl (lv_at hl 0 rfl) ?_
        refine va_get (D := (dC, dI)) (ci := 5) (v := .int uL.2.2.2.2.2.1) (C := RX5) (T := TX5) (N := 18) hx hb hts inX5 hown hK hP 0 rfl rfl 2 (by decide) (hts _ qf_X5_13) (fun _ h9 => h9) rfl dX5_hourOn_197 ?_
        refine lv_iconst (v := (4 : Int32)) hx hb dX5_hourOn_200 (by decide) ?_
        refine lv_idiv hx hb dX5_hourOn_201 (by decide) ?_
        refine lv_iconst (v := (1 : Int32)) hx hb dX5_hourOn_202 (by decide) ?_
        refine lv_iadd hx hb dX5_hourOn_203 ?_
        refine va_iastK hx hb hK hP hD hS 10 0 rfl rfl (j := 3) (by decide) (vp_inK (by decide)) dX5_hourOn_204 (fun H locs hP _ hS => ?_)
        have hP : va_P (dC, dI) vwCl ((wX5 cI cZ l0 l4 l5 l6 l8 l10 l11 l12 l13 l14 l15 l16 ((upd uL.1 3 ((uL.2.2.2.2.2.1 / (4 : Int32)) + (1 : Int32))), uL.2))) H := hP
        have hD : va_D A ((wX5 cI cZ l0 l4 l5 l6 l8 l10 l11 l12 l13 l14 l15 l16 ((upd uL.1 3 ((uL.2.2.2.2.2.1 / (4 : Int32)) + (1 : Int32))), uL.2))) := D_L hD
        refine lv_aload_n hx hb dX5_hourOn_205 rfl (lv_at hl 0 rfl) ?_
        refine va_get (D := (dC, dI)) (ci := 5) (v := .ref l15) (C := RX5) (T := TX5) (N := 18) hx hb hts inX5 hown hK hP 0 rfl rfl 15 (by decide) (hts _ qf_X5_44) (fun _ h9 => h9) rfl dX5_hourOn_206 ?_
        refine lv_iconst (v := (4 : Int32)) hx hb dX5_hourOn_209 (by decide) ?_
        refine lv_iconst (v := (0 : Int32)) hx hb dX5_hourOn_210 (by decide) ?_
        refine va_iastK hx hb hK hP hD hS 10 0 rfl rfl (j := 4) (by decide) (vp_inK (by decide)) dX5_hourOn_211 (fun H locs hP _ hS => ?_)
        have hP : va_P (dC, dI) vwCl ((wX5 cI cZ l0 l4 l5 l6 l8 l10 l11 l12 l13 l14 l15 l16 ((upd (upd uL.1 3 ((uL.2.2.2.2.2.1 / (4 : Int32)) + (1 : Int32))) 4 (0 : Int32)), uL.2))) H := hP
        have hD : va_D A ((wX5 cI cZ l0 l4 l5 l6 l8 l10 l11 l12 l13 l14 l15 l16 ((upd (upd uL.1 3 ((uL.2.2.2.2.2.1 / (4 : Int32)) + (1 : Int32))) 4 (0 : Int32)), uL.2))) := D_L hD
        exact J212 ((upd (upd uL.1 3 ((uL.2.2.2.2.2.1 / (4 : Int32)) + (1 : Int32))) 4 (0 : Int32)), uL.2) _ _ hP hD hS _ hl hok
  have J152 : ∀ (uL : tX5) (H : Heap) (locs : List Loc) (hP : va_P (dC, dI) vwCl ((wX5 cI cZ l0 l4 l5 l6 l8 l10 l11 l12 l13 l14 l15 l16 uL)) H) (hD : va_D A ((wX5 cI cZ l0 l4 l5 l6 l8 l10 l11 l12 l13 l14 l15 l16 uL))) (hS : va_S A s.heap H locs) (ls : Array Slot) (hl : lv_has ls 3 [(0, .ref l0)]) (hok : p_X5_hourOn_J152 uL = some z), W p l e { frames := 5, cells := 0, slots := 0, locals := 107 } s m args below meth c H locs 0 0 (MQ below (va_Qv (fun _ : Unit => True) (fun _ t => va_P (dC, dI) vwCl ((wX5 cI cZ l0 l4 l5 l6 l8 l10 l11 l12 l13 l14 l15 l16 z)) t.heap) A) args s 0 0 A) (F0 m 152 ls []) := by
    intro uL H locs hP hD hS ls hl hok
    unfold p_X5_hourOn_J152 at hok
    refine lv_aload_n hx hb dX5_hourOn_152 rfl (lv_at hl 0 rfl) ?_
    refine va_get (D := (dC, dI)) (ci := 5) (v := .ref l15) (C := RX5) (T := TX5) (N := 18) hx hb hts inX5 hown hK hP 0 rfl rfl 15 (by decide) (hts _ qf_X5_44) (fun _ h9 => h9) rfl dX5_hourOn_153 ?_
    refine lv_bipush (v := (6 : Int32)) hx hb dX5_hourOn_156 (by decide) ?_
    refine va_ialdK hx hb hK hP 10 0 rfl rfl (j := 6) (by decide) (vp_inK (by decide)) dX5_hourOn_158 ?_
    refine lv_if_ne (tgt := 169) hx hb dX5_hourOn_159 (by decide) (fun hc => ?_) (fun hc => ?_)
    · have hok := iq hok hc
      exact J169 uL _ _ hP hD hS _ hl hok
    · have hok := ip hok hc
      refine lv_aload_n hx hb dX5_hourOn_162 rfl (lv_at hl 0 rfl) ?_
      refine va_get (D := (dC, dI)) (ci := 5) (v := .ref l15) (C := RX5) (T := TX5) (N := 18) hx hb hts inX5 hown hK hP 0 rfl rfl 15 (by decide) (hts _ qf_X5_44) (fun _ h9 => h9) rfl dX5_hourOn_163 ?_
      refine lv_iconst (v := (2 : Int32)) hx hb dX5_hourOn_166 (by decide) ?_
      refine lv_iconst (v := (0 : Int32)) hx hb dX5_hourOn_167 (by decide) ?_
      refine va_iastK hx hb hK hP hD hS 10 0 rfl rfl (j := 2) (by decide) (vp_inK (by decide)) dX5_hourOn_168 (fun H locs hP _ hS => ?_)
      have hP : va_P (dC, dI) vwCl ((wX5 cI cZ l0 l4 l5 l6 l8 l10 l11 l12 l13 l14 l15 l16 ((upd uL.1 2 (0 : Int32)), uL.2))) H := hP
      have hD : va_D A ((wX5 cI cZ l0 l4 l5 l6 l8 l10 l11 l12 l13 l14 l15 l16 ((upd uL.1 2 (0 : Int32)), uL.2))) := D_L hD
      exact J169 ((upd uL.1 2 (0 : Int32)), uL.2) _ _ hP hD hS _ hl hok
  have L73 : ∀ n73 : Nat, ∀ (uL : tX5) (l73_1 : Int32) (l73_2 : Int32) (H : Heap) (locs : List Loc) (hP : va_P (dC, dI) vwCl ((wX5 cI cZ l0 l4 l5 l6 l8 l10 l11 l12 l13 l14 l15 l16 uL)) H) (hD : va_D A ((wX5 cI cZ l0 l4 l5 l6 l8 l10 l11 l12 l13 l14 l15 l16 uL))) (hS : va_S A s.heap H locs) (ls : Array Slot) (hl : lv_has ls 3 [(0, .ref l0), (1, .int l73_1), (2, .int l73_2)]) (hok : p_X5_hourOn_L73 n73 uL l73_1 l73_2 = some z), W p l e { frames := 5, cells := 0, slots := 0, locals := 107 } s m args below meth c H locs 0 0 (MQ below (va_Qv (fun _ : Unit => True) (fun _ t => va_P (dC, dI) vwCl ((wX5 cI cZ l0 l4 l5 l6 l8 l10 l11 l12 l13 l14 l15 l16 z)) t.heap) A) args s 0 0 A) (F0 m 73 ls []) := by
    intro n73
    induction n73 with
    | zero =>
      intro uL l73_1 l73_2 H locs hP hD hS ls hl hok
      rw [p_X5_hourOn_L73] at hok
      cases hok
    | succ n73 ih73 =>
      intro uL l73_1 l73_2 H locs hP hD hS ls hl hok
      rw [p_X5_hourOn_L73] at hok
      refine lv_iload_n hx hb dX5_hourOn_73 rfl (lv_at hl 2 rfl) ?_
      refine lv_aload_n hx hb dX5_hourOn_74 rfl (lv_at hl 0 rfl) ?_
      refine va_get (D := (dC, dI)) (ci := 5) (v := .int uL.2.2.2.2.2.2.2.2.2.2.1) (C := RX5) (T := TX5) (N := 18) hx hb hts inX5 hown hK hP 0 rfl rfl 7 (by decide) (hts _ qf_X5_57) (fun _ h9 => h9) rfl dX5_hourOn_75 ?_
      refine lv_icmp_ge (tgt := 152) hx hb dX5_hourOn_78 (by decide) (fun hc => ?_) (fun hc => ?_)
      · have hok := ip hok hc
        exact J152 uL _ _ hP hD hS _ (lv_sub hl [0] rfl) hok
      · have hok := iq hok hc
        refine lv_aload_n hx hb dX5_hourOn_81 rfl (lv_at hl 0 rfl) ?_
        refine va_get (D := (dC, dI)) (ci := 5) (v := .ref l15) (C := RX5) (T := TX5) (N := 18) hx hb hts inX5 hown hK hP 0 rfl rfl 15 (by decide) (hts _ qf_X5_44) (fun _ h9 => h9) rfl dX5_hourOn_82 ?_
        refine lv_bipush (v := (8 : Int32)) hx hb dX5_hourOn_85 (by decide) ?_
        refine va_ialdK hx hb hK hP 10 0 rfl rfl (j := 8) (by decide) (vp_inK (by decide)) dX5_hourOn_87 ?_
        refine lv_iload_n hx hb dX5_hourOn_88 rfl (lv_at hl 1 rfl) ?_
        refine lv_icmp_ne (tgt := 152) hx hb dX5_hourOn_89 (by decide) (fun hc => ?_) (fun hc => ?_)
        · have hok := iq hok hc
          exact J152 uL _ _ hP hD hS _ (lv_sub hl [0] rfl) hok
        · have hok := ip hok hc
          refine lv_aload_n hx hb dX5_hourOn_92 rfl (lv_at hl 0 rfl) ?_
          refine lv_iload_n hx hb dX5_hourOn_93 rfl (lv_at hl 2 rfl) ?_
          obtain ⟨v4, hc4, hok⟩ := bd_some hok
          refine cRVi (ci := 5) (q0 := 0) [.int l73_2] S hK hP (c_X5_reads l dC dI cI cZ l0 l4 l5 l6 l8 l10 l11 l12 l13 l14 l15 l16 uL l73_2 hc4) (lw_V qm_X5_73 qi_X5_reads qs_X5_reads qn_X5 qc_X5_reads) hd_X5_reads ⟨rfl, rfl⟩ ⟨Nat.le_of_ble_eq_true rfl, Nat.le_of_ble_eq_true rfl⟩ ⟨Nat.le_of_ble_eq_true rfl, Nat.le_of_ble_eq_true rfl⟩ rfl rfl rfl hl.1 (Nat.le_of_ble_eq_true rfl) rfl dX5_hourOn_94 ?_
          refine lv_if_ne (tgt := 103) hx hb dX5_hourOn_97 (by decide) (fun hc => ?_) (fun hc => ?_)
          · have hok := iq hok hc
            refine lv_aload_n hx hb dX5_hourOn_103 rfl (lv_at hl 0 rfl) ?_
            refine va_get (D := (dC, dI)) (ci := 5) (v := .ref l15) (C := RX5) (T := TX5) (N := 18) hx hb hts inX5 hown hK hP 0 rfl rfl 15 (by decide) (hts _ qf_X5_44) (fun _ h9 => h9) rfl dX5_hourOn_104 ?_
            refine lv_bipush (v := (33 : Int32)) hx hb dX5_hourOn_107 (by decide) ?_
            refine lv_iload_n hx hb dX5_hourOn_109 rfl (lv_at hl 2 rfl) ?_
            refine lv_iadd hx hb dX5_hourOn_110 ?_
            obtain ⟨hi5, hok⟩ := gd_some hok
            refine va_iald hx hb hK hP 10 0 rfl rfl hi5 dX5_hourOn_111 ?_
            refine lv_if_ne (tgt := 133) hx hb dX5_hourOn_112 (by decide) (fun hc => ?_) (fun hc => ?_)
            · have hok := iq hok hc
              refine lv_aload_n hx hb dX5_hourOn_133 rfl (lv_at hl 0 rfl) ?_
              refine va_get (D := (dC, dI)) (ci := 5) (v := .ref l15) (C := RX5) (T := TX5) (N := 18) hx hb hts inX5 hown hK hP 0 rfl rfl 15 (by decide) (hts _ qf_X5_44) (fun _ h9 => h9) rfl dX5_hourOn_134 ?_
              refine lv_bipush (v := (33 : Int32)) hx hb dX5_hourOn_137 (by decide) ?_
              refine lv_iload_n hx hb dX5_hourOn_139 rfl (lv_at hl 2 rfl) ?_
              refine lv_iadd hx hb dX5_hourOn_140 ?_
              refine lv_dup2_11 hx hb dX5_hourOn_141 rfl rfl ?_
              refine va_iald hx hb hK hP 10 0 rfl rfl hi5 dX5_hourOn_142 ?_
              refine lv_iconst (v := (1 : Int32)) hx hb dX5_hourOn_143 (by decide) ?_
              refine lv_isub hx hb dX5_hourOn_144 ?_
              refine va_iast hx hb hK hP hD hS 10 0 rfl rfl hi5 dX5_hourOn_145 (fun H locs hP _ hS => ?_)
              have hP : va_P (dC, dI) vwCl ((wX5 cI cZ l0 l4 l5 l6 l8 l10 l11 l12 l13 l14 l15 l16 ((upd uL.1 ((33 : Int32) + l73_2).toNatClampNeg ((uL.1 ((33 : Int32) + l73_2).toNatClampNeg) - (1 : Int32))), uL.2))) H := hP
              have hD : va_D A ((wX5 cI cZ l0 l4 l5 l6 l8 l10 l11 l12 l13 l14 l15 l16 ((upd uL.1 ((33 : Int32) + l73_2).toNatClampNeg ((uL.1 ((33 : Int32) + l73_2).toNatClampNeg) - (1 : Int32))), uL.2))) := D_L hD
              refine lv_iinc (v := (l73_2 + 1)) (lv' := [(2, .int (l73_2 + 1)), (0, .ref l0), (1, .int l73_1)]) hx hb dX5_hourOn_146 hl (k := 2) rfl rfl (by decide) rfl (fun ls hl => ?_)
              refine lv_goto (tgt := 73) hx hb dX5_hourOn_149 (by decide) ?_
              exact ih73 ((upd uL.1 ((33 : Int32) + l73_2).toNatClampNeg ((uL.1 ((33 : Int32) + l73_2).toNatClampNeg) - (1 : Int32))), uL.2) l73_1 (l73_2 + 1) _ _ hP hD hS _ (lv_sub hl [1, 2, 0] rfl) hok
            · have hok := ip hok hc
              refine lv_aload_n hx hb dX5_hourOn_115 rfl (lv_at hl 0 rfl) ?_
              refine va_get (D := (dC, dI)) (ci := 5) (v := .ref l15) (C := RX5) (T := TX5) (N := 18) hx hb hts inX5 hown hK hP 0 rfl rfl 15 (by decide) (hts _ qf_X5_44) (fun _ h9 => h9) rfl dX5_hourOn_116 ?_
              refine lv_bipush (v := (7 : Int32)) hx hb dX5_hourOn_119 (by decide) ?_
              refine lv_dup2_11 hx hb dX5_hourOn_121 rfl rfl ?_
              refine va_ialdK hx hb hK hP 10 0 rfl rfl (j := 7) (by decide) (vp_inK (by decide)) dX5_hourOn_122 ?_
              refine lv_iconst (v := (1 : Int32)) hx hb dX5_hourOn_123 (by decide) ?_
              refine lv_iload_n hx hb dX5_hourOn_124 rfl (lv_at hl 2 rfl) ?_
              refine lv_ishl hx hb dX5_hourOn_125 ?_
              refine lv_iconst (v := (-1 : Int32)) hx hb dX5_hourOn_126 (by decide) ?_
              refine lv_ixor hx hb dX5_hourOn_127 ?_
              refine lv_iand hx hb dX5_hourOn_128 ?_
              refine va_iastK hx hb hK hP hD hS 10 0 rfl rfl (j := 7) (by decide) (vp_inK (by decide)) dX5_hourOn_129 (fun H locs hP _ hS => ?_)
              have hP : va_P (dC, dI) vwCl ((wX5 cI cZ l0 l4 l5 l6 l8 l10 l11 l12 l13 l14 l15 l16 ((upd uL.1 7 ((uL.1 7) &&& (((1 : Int32) <<< (l73_2 &&& 31)) ^^^ (-1 : Int32)))), uL.2))) H := hP
              have hD : va_D A ((wX5 cI cZ l0 l4 l5 l6 l8 l10 l11 l12 l13 l14 l15 l16 ((upd uL.1 7 ((uL.1 7) &&& (((1 : Int32) <<< (l73_2 &&& 31)) ^^^ (-1 : Int32)))), uL.2))) := D_L hD
              refine lv_goto (tgt := 146) hx hb dX5_hourOn_130 (by decide) ?_
              refine lv_iinc (v := (l73_2 + 1)) (lv' := [(2, .int (l73_2 + 1)), (0, .ref l0), (1, .int l73_1)]) hx hb dX5_hourOn_146 hl (k := 2) rfl rfl (by decide) rfl (fun ls hl => ?_)
              refine lv_goto (tgt := 73) hx hb dX5_hourOn_149 (by decide) ?_
              exact ih73 ((upd uL.1 7 ((uL.1 7) &&& (((1 : Int32) <<< (l73_2 &&& 31)) ^^^ (-1 : Int32)))), uL.2) l73_1 (l73_2 + 1) _ _ hP hD hS _ (lv_sub hl [1, 2, 0] rfl) hok
          · have hok := ip hok hc
            refine lv_goto (tgt := 146) hx hb dX5_hourOn_100 (by decide) ?_
            refine lv_iinc (v := (l73_2 + 1)) (lv' := [(2, .int (l73_2 + 1)), (0, .ref l0), (1, .int l73_1)]) hx hb dX5_hourOn_146 hl (k := 2) rfl rfl (by decide) rfl (fun ls hl => ?_)
            refine lv_goto (tgt := 73) hx hb dX5_hourOn_149 (by decide) ?_
            exact ih73 uL l73_1 (l73_2 + 1) _ _ hP hD hS _ (lv_sub hl [1, 2, 0] rfl) hok
  have J61 : ∀ (uL : tX5) (l61_1 : Int32) (s61_0 : Int32) (s61_1 : Int32) (s61_2 : Int32) (s61_3 : Int32) (H : Heap) (locs : List Loc) (hP : va_P (dC, dI) vwCl ((wX5 cI cZ l0 l4 l5 l6 l8 l10 l11 l12 l13 l14 l15 l16 uL)) H) (hD : va_D A ((wX5 cI cZ l0 l4 l5 l6 l8 l10 l11 l12 l13 l14 l15 l16 uL))) (hS : va_S A s.heap H locs) (ls : Array Slot) (hl : lv_has ls 3 [(0, .ref l0), (1, .int l61_1)]) (hok : p_X5_hourOn_J61 uL l61_1 s61_0 s61_1 s61_2 s61_3 = some z), W p l e { frames := 5, cells := 0, slots := 0, locals := 107 } s m args below meth c H locs 0 0 (MQ below (va_Qv (fun _ : Unit => True) (fun _ t => va_P (dC, dI) vwCl ((wX5 cI cZ l0 l4 l5 l6 l8 l10 l11 l12 l13 l14 l15 l16 z)) t.heap) A) args s 0 0 A) (F0 m 61 ls [.int s61_0, .int s61_1, .int s61_2, .int s61_3, .ref l15]) := by
    intro uL l61_1 s61_0 s61_1 s61_2 s61_3 H locs hP hD hS ls hl hok
    unfold p_X5_hourOn_J61 at hok
    refine lv_iadd hx hb dX5_hourOn_61 ?_
    refine lv_iadd hx hb dX5_hourOn_62 ?_
    obtain ⟨hi6, hok⟩ := gd_some hok
    refine va_iast hx hb hK hP hD hS 10 0 rfl rfl hi6 dX5_hourOn_63 (fun H locs hP _ hS => ?_)
    have hP : va_P (dC, dI) vwCl ((wX5 cI cZ l0 l4 l5 l6 l8 l10 l11 l12 l13 l14 l15 l16 ((upd uL.1 s61_3.toNatClampNeg (s61_2 + (s61_1 + s61_0))), uL.2))) H := hP
    have hD : va_D A ((wX5 cI cZ l0 l4 l5 l6 l8 l10 l11 l12 l13 l14 l15 l16 ((upd uL.1 s61_3.toNatClampNeg (s61_2 + (s61_1 + s61_0))), uL.2))) := D_L hD
    refine lv_goto (tgt := 71) hx hb dX5_hourOn_64 (by decide) ?_
    refine lv_iconst (v := (0 : Int32)) hx hb dX5_hourOn_71 (by decide) ?_
    refine lv_istore_n (lv' := [(2, .int (0 : Int32)), (0, .ref l0), (1, .int l61_1)]) hx hb dX5_hourOn_72 rfl hl (by decide) rfl (fun ls hl => ?_)
    exact L73 200 ((upd uL.1 s61_3.toNatClampNeg (s61_2 + (s61_1 + s61_0))), uL.2) l61_1 (0 : Int32) _ _ hP hD hS _ (lv_sub hl [1, 2, 0] rfl) hok
  unfold p_X5_hourOn at hok
  refine lv_aload_n hx hb dX5_hourOn_0 rfl (lv_at hl 0 rfl) ?_
  refine lv_iconst (v := (-1 : Int32)) hx hb dX5_hourOn_1 (by decide) ?_
  refine va_put (D := (dC, dI)) (ci := 5) (v := .int (-1 : Int32)) (ty := .int) (C := RX5) (T := TX5) (N := 18) hx hb hts inX5 tyX5 tyX5_ok nmX5 hown hK hP hD hS 0 rfl rfl 17 (by decide) (hts _ qf_X5_83) (fun _ h9 => h9) rfl (tyX5_ok 17 (by decide)) rfl rfl (Nat.le_of_ble_eq_true rfl) dX5_hourOn_2 (fun H locs hP _ hS => ?_)
  have hP : va_P (dC, dI) vwCl ((wX5 cI cZ l0 l4 l5 l6 l8 l10 l11 l12 l13 l14 l15 l16 (uL.1, uL.2.1, (-1 : Int32), uL.2.2.2))) H := hP
  have hD : va_D A ((wX5 cI cZ l0 l4 l5 l6 l8 l10 l11 l12 l13 l14 l15 l16 (uL.1, uL.2.1, (-1 : Int32), uL.2.2.2))) := D_L hD
  refine lv_aload_n hx hb dX5_hourOn_5 rfl (lv_at hl 0 rfl) ?_
  refine va_get (D := (dC, dI)) (ci := 5) (v := .ref l15) (C := RX5) (T := TX5) (N := 18) hx hb hts inX5 hown hK hP 0 rfl rfl 15 (by decide) (hts _ qf_X5_44) (fun _ h9 => h9) rfl dX5_hourOn_6 ?_
  refine lv_bipush (v := (8 : Int32)) hx hb dX5_hourOn_9 (by decide) ?_
  refine va_ialdK hx hb hK hP 10 0 rfl rfl (j := 8) (by decide) (vp_inK (by decide)) dX5_hourOn_11 ?_
  refine lv_istore_n (lv' := [(1, .int (uL.1 8)), (0, .ref l0)]) hx hb dX5_hourOn_12 rfl hl (by decide) rfl (fun ls hl => ?_)
  refine lv_aload_n hx hb dX5_hourOn_13 rfl (lv_at hl 1 rfl) ?_
  refine va_get (D := (dC, dI)) (ci := 5) (v := .ref l15) (C := RX5) (T := TX5) (N := 18) hx hb hts inX5 hown hK hP 0 rfl rfl 15 (by decide) (hts _ qf_X5_44) (fun _ h9 => h9) rfl dX5_hourOn_14 ?_
  refine lv_iconst (v := (3 : Int32)) hx hb dX5_hourOn_17 (by decide) ?_
  refine va_ialdK hx hb hK hP 10 0 rfl rfl (j := 3) (by decide) (vp_inK (by decide)) dX5_hourOn_18 ?_
  refine lv_if_le (tgt := 67) hx hb dX5_hourOn_19 (by decide) (fun hc => ?_) (fun hc => ?_)
  · have hok := ip hok hc
    refine lv_aload_n hx hb dX5_hourOn_67 rfl (lv_at hl 1 rfl) ?_
    obtain ⟨v1, hc1, hok⟩ := bd_some hok
    refine cWVv (ci := 5) (q0 := 0) [] S hK hP hD hS hA (c_X5_ride l dC dI cI cZ l0 l4 l5 l6 l8 l10 l11 l12 l13 l14 l15 l16 _ (uL.1, uL.2.1, (-1 : Int32), uL.2.2.2) hc1) (lw_V qm_X5_106 qi_X5_ride qs_X5_ride qn_X5 qc_X5_ride) hd_X5_ride ⟨rfl, rfl⟩ ⟨Nat.le_of_ble_eq_true rfl, Nat.le_of_ble_eq_true rfl⟩ ⟨Nat.le_of_ble_eq_true rfl, Nat.le_of_ble_eq_true rfl⟩ rfl rfl rfl hl.1 (Nat.le_of_ble_eq_true rfl) rfl dX5_hourOn_68 (D_L hD) (fun H locs hP hD hS => ?_)
    refine lv_iconst (v := (0 : Int32)) hx hb dX5_hourOn_71 (by decide) ?_
    refine lv_istore_n (lv' := [(2, .int (0 : Int32)), (1, .int (uL.1 8)), (0, .ref l0)]) hx hb dX5_hourOn_72 rfl hl (by decide) rfl (fun ls hl => ?_)
    exact L73 200 v1 (uL.1 8) (0 : Int32) _ _ hP hD hS _ (lv_sub hl [2, 1, 0] rfl) hok
  · have hok := iq hok hc
    refine lv_aload_n hx hb dX5_hourOn_22 rfl (lv_at hl 1 rfl) ?_
    refine va_get (D := (dC, dI)) (ci := 5) (v := .ref l15) (C := RX5) (T := TX5) (N := 18) hx hb hts inX5 hown hK hP 0 rfl rfl 15 (by decide) (hts _ qf_X5_44) (fun _ h9 => h9) rfl dX5_hourOn_23 ?_
    refine lv_iconst (v := (3 : Int32)) hx hb dX5_hourOn_26 (by decide) ?_
    refine lv_dup2_11 hx hb dX5_hourOn_27 rfl rfl ?_
    refine va_ialdK hx hb hK hP 10 0 rfl rfl (j := 3) (by decide) (vp_inK (by decide)) dX5_hourOn_28 ?_
    refine lv_iconst (v := (1 : Int32)) hx hb dX5_hourOn_29 (by decide) ?_
    refine lv_isub hx hb dX5_hourOn_30 ?_
    refine va_iastK hx hb hK hP hD hS 10 0 rfl rfl (j := 3) (by decide) (vp_inK (by decide)) dX5_hourOn_31 (fun H locs hP _ hS => ?_)
    have hP : va_P (dC, dI) vwCl ((wX5 cI cZ l0 l4 l5 l6 l8 l10 l11 l12 l13 l14 l15 l16 ((upd uL.1 3 ((uL.1 3) - (1 : Int32))), uL.2.1, (-1 : Int32), uL.2.2.2))) H := hP
    have hD : va_D A ((wX5 cI cZ l0 l4 l5 l6 l8 l10 l11 l12 l13 l14 l15 l16 ((upd uL.1 3 ((uL.1 3) - (1 : Int32))), uL.2.1, (-1 : Int32), uL.2.2.2))) := D_L hD
    refine lv_aload_n hx hb dX5_hourOn_32 rfl (lv_at hl 1 rfl) ?_
    refine va_get (D := (dC, dI)) (ci := 5) (v := .ref l15) (C := RX5) (T := TX5) (N := 18) hx hb hts inX5 hown hK hP 0 rfl rfl 15 (by decide) (hts _ qf_X5_44) (fun _ h9 => h9) rfl dX5_hourOn_33 ?_
    refine lv_iconst (v := (5 : Int32)) hx hb dX5_hourOn_36 (by decide) ?_
    refine lv_dup2_11 hx hb dX5_hourOn_37 rfl rfl ?_
    refine va_ialdK hx hb hK hP 10 0 rfl rfl (j := 5) (by decide) (vp_inK (by decide)) dX5_hourOn_38 ?_
    refine lv_iconst (v := (1 : Int32)) hx hb dX5_hourOn_39 (by decide) ?_
    refine lv_iload_n hx hb dX5_hourOn_40 rfl (lv_at hl 0 rfl) ?_
    refine lv_if_ne (tgt := 48) hx hb dX5_hourOn_41 (by decide) (fun hc => ?_) (fun hc => ?_)
    · have hok := iq hok hc
      refine lv_aload_n hx hb dX5_hourOn_48 rfl (lv_at hl 1 rfl) ?_
      refine va_get (D := (dC, dI)) (ci := 5) (v := .ref l6) (C := RX5) (T := TX5) (N := 18) hx hb hts inX5 hown hK hP 0 rfl rfl 6 (by decide) (hts _ qf_X5_23) (fun _ h9 => h9) rfl dX5_hourOn_49 ?_
      refine lv_aload_n hx hb dX5_hourOn_52 rfl (lv_at hl 1 rfl) ?_
      refine va_get (D := (dC, dI)) (ci := 5) (v := .ref l12) (C := RX5) (T := TX5) (N := 18) hx hb hts inX5 hown hK hP 0 rfl rfl 12 (by decide) (hts _ qf_X5_35) (fun _ h9 => h9) rfl dX5_hourOn_53 ?_
      refine lv_iload_n hx hb dX5_hourOn_56 rfl (lv_at hl 0 rfl) ?_
      refine lv_iconst (v := (1 : Int32)) hx hb dX5_hourOn_57 (by decide) ?_
      refine lv_isub hx hb dX5_hourOn_58 ?_
      obtain ⟨hi2, hok⟩ := gd_some hok
      refine va_iald hx hb hK hP 7 0 rfl rfl hi2 dX5_hourOn_59 ?_
      obtain ⟨hi3, hok⟩ := gd_some hok
      refine va_iald hx hb hK hP 3 0 rfl rfl hi3 dX5_hourOn_60 ?_
      exact J61 ((upd uL.1 3 ((uL.1 3) - (1 : Int32))), uL.2.1, (-1 : Int32), uL.2.2.2) (uL.1 8) (uL.2.2.2.2.2.2.2.2.2.1 (uL.2.2.2.2.2.2.2.2.2.2.2.2.2.2.2.1 ((uL.1 8) - (1 : Int32)).toNatClampNeg).toNatClampNeg) (1 : Int32) ((upd uL.1 3 ((uL.1 3) - (1 : Int32))) 5) (5 : Int32) _ _ hP hD hS _ (lv_sub hl [1, 0] rfl) hok
    · have hok := ip hok hc
      refine lv_iconst (v := (0 : Int32)) hx hb dX5_hourOn_44 (by decide) ?_
      refine lv_goto (tgt := 61) hx hb dX5_hourOn_45 (by decide) ?_
      exact J61 ((upd uL.1 3 ((uL.1 3) - (1 : Int32))), uL.2.1, (-1 : Int32), uL.2.2.2) (uL.1 8) (0 : Int32) (1 : Int32) ((upd uL.1 3 ((uL.1 3) - (1 : Int32))) 5) (5 : Int32) _ _ hP hD hS _ (lv_sub hl [1, 0] rfl) hok
theorem hd_X5_hoursOn : yX5_hoursOn.cls = RX5 ∧ yX5_hoursOn.cls ≠ "java/lang/invoke/MethodHandle" ∧ yX5_hoursOn.cls ≠ "java/lang/invoke/VarHandle" ∧ (parseMethodDescriptor yX5_hoursOn.desc).map (fun d => d.parameters.length) = some 1 := by decide +kernel
def p_X5_hoursOn_L2 : Nat → tX5 → Int32 → Int32 → Option tX5
  | 0, _, _, _ => none
  | n + 1, uL, l2_1, l2_2 =>
    if l2_1 ≤ l2_2 then
      some uL
    else
      bd (p_X5_hourOn uL) (fun v1 =>
      (p_X5_hoursOn_L2 n) v1 l2_1 (l2_2 + 1))
def p_X5_hoursOn (uL : tX5) (a1 : Int32) : Option tX5 :=
  p_X5_hoursOn_L2 200 uL a1 (0 : Int32)
set_option maxHeartbeats 4000000 in
set_option maxRecDepth 100000 in
theorem c_X5_hoursOn (l : Launch) (dC : Nat → ClassId) (dI : Nat → Nat → Nat) (cI cZ : ClassId) (l0 l4 l5 l6 l8 l10 l11 l12 l13 l14 l15 l16 : Nat) (sz : Nat) (uL : tX5) (a1 : Int32) {z : tX5} (hok : p_X5_hoursOn uL a1 = some z) : Met l yX5_hoursOn (Cond.code yX5_hoursOn cX5_hoursOn 3 none :: lw_all) { frames := 6, cells := 0, slots := 0, locals := 129 } (prW (dC, dI) vwCl (TYS cI cZ) ((wX5 cI cZ l0 l4 l5 l6 l8 l10 l11 l12 l13 l14 l15 l16 uL)) sz [.ref l0, .int a1]) (va_Qv (fun _ : Unit => True) (fun _ t => va_P (dC, dI) vwCl ((wX5 cI cZ l0 l4 l5 l6 l8 l10 l11 l12 l13 l14 l15 l16 z)) t.heap) (va_A ((wX5 cI cZ l0 l4 l5 l6 l8 l10 l11 l12 l13 l14 l15 l16 uL)) sz)) 0 0 (va_A ((wX5 cI cZ l0 l4 l5 l6 l8 l10 l11 l12 l13 l14 l15 l16 uL)) sz) := by
  refine oM (by decide) (Nat.le_of_ble_eq_true rfl) ?_
  intro p e s m args below meth c S hr hlk hnm hB ls hl
  have hx := S.1
  have hb := S.2.1
  have hml := S.2.2.1
  have hown : s.vm.findClass RX5 = some m.cls := S.2.2.2.1
  have hts := S.2.2.2.2
  have S : CallFix p m c cX5_hoursOn 3 s args lw_all RX5 := S
  have hl : lv_has ls 3 [(0, .ref l0), (1, .int a1)] := hl
  obtain ⟨hsz, hP, hK, hD0⟩ := hB
  subst hsz
  have hD := hD0.self (sz := s.heap.size)
  generalize hAe : va_A ((wX5 cI cZ l0 l4 l5 l6 l8 l10 l11 l12 l13 l14 l15 l16 uL)) s.heap.size = A at hD ⊢
  have hA : ∀ q : Nat, s.heap.size ≤ q → A q := fun q h => by rw [← hAe]; exact Or.inr h
  have hS : va_S A s.heap s.heap [] := va_S.rf
  have hP : va_P (dC, dI) vwCl ((wX5 cI cZ l0 l4 l5 l6 l8 l10 l11 l12 l13 l14 l15 l16 uL)) s.heap := hP
  have L2 : ∀ n2 : Nat, ∀ (uL : tX5) (l2_1 : Int32) (l2_2 : Int32) (H : Heap) (locs : List Loc) (hP : va_P (dC, dI) vwCl ((wX5 cI cZ l0 l4 l5 l6 l8 l10 l11 l12 l13 l14 l15 l16 uL)) H) (hD : va_D A ((wX5 cI cZ l0 l4 l5 l6 l8 l10 l11 l12 l13 l14 l15 l16 uL))) (hS : va_S A s.heap H locs) (ls : Array Slot) (hl : lv_has ls 3 [(0, .ref l0), (1, .int l2_1), (2, .int l2_2)]) (hok : p_X5_hoursOn_L2 n2 uL l2_1 l2_2 = some z), W p l e { frames := 6, cells := 0, slots := 0, locals := 129 } s m args below meth c H locs 0 0 (MQ below (va_Qv (fun _ : Unit => True) (fun _ t => va_P (dC, dI) vwCl ((wX5 cI cZ l0 l4 l5 l6 l8 l10 l11 l12 l13 l14 l15 l16 z)) t.heap) A) args s 0 0 A) (F0 m 2 ls []) := by
    intro n2
    induction n2 with
    | zero =>
      intro uL l2_1 l2_2 H locs hP hD hS ls hl hok
      rw [p_X5_hoursOn_L2] at hok
      cases hok
    | succ n2 ih2 =>
      intro uL l2_1 l2_2 H locs hP hD hS ls hl hok
      rw [p_X5_hoursOn_L2] at hok
      refine lv_iload_n hx hb dX5_hoursOn_2 rfl (lv_at hl 2 rfl) ?_
      refine lv_iload_n hx hb dX5_hoursOn_3 rfl (lv_at hl 1 rfl) ?_
      refine lv_icmp_ge (tgt := 17) hx hb dX5_hoursOn_4 (by decide) (fun hc => ?_) (fun hc => ?_)
      · have hok := ip hok hc
        have hok := Option.some.inj hok
        subst hok
        exact eWv S hr hlk hP hS (Nat.le_of_ble_eq_true rfl) (Nat.le_of_ble_eq_true rfl) dX5_hoursOn_17
      · have hok := iq hok hc
        refine lv_aload_n hx hb dX5_hoursOn_7 rfl (lv_at hl 0 rfl) ?_
        obtain ⟨v1, hc1, hok⟩ := bd_some hok
        refine cWVv (ci := 5) (q0 := 0) [] S hK hP hD hS hA (c_X5_hourOn l dC dI cI cZ l0 l4 l5 l6 l8 l10 l11 l12 l13 l14 l15 l16 _ uL hc1) (lw_V qm_X5_109 qi_X5_hourOn qs_X5_hourOn qn_X5 qc_X5_hourOn) hd_X5_hourOn ⟨rfl, rfl⟩ ⟨Nat.le_of_ble_eq_true rfl, Nat.le_of_ble_eq_true rfl⟩ ⟨Nat.le_of_ble_eq_true rfl, Nat.le_of_ble_eq_true rfl⟩ rfl rfl rfl hl.1 (Nat.le_of_ble_eq_true rfl) rfl dX5_hoursOn_8 (D_L hD) (fun H locs hP hD hS => ?_)
        refine lv_iinc (v := (l2_2 + 1)) (lv' := [(2, .int (l2_2 + 1)), (0, .ref l0), (1, .int l2_1)]) hx hb dX5_hoursOn_11 hl (k := 2) rfl rfl (by decide) rfl (fun ls hl => ?_)
        refine lv_goto (tgt := 2) hx hb dX5_hoursOn_14 (by decide) ?_
        exact ih2 v1 l2_1 (l2_2 + 1) _ _ hP hD hS _ (lv_sub hl [1, 2, 0] rfl) hok
  unfold p_X5_hoursOn at hok
  refine lv_iconst (v := (0 : Int32)) hx hb dX5_hoursOn_0 (by decide) ?_
  refine lv_istore_n (lv' := [(2, .int (0 : Int32)), (0, .ref l0), (1, .int a1)]) hx hb dX5_hoursOn_1 rfl hl (by decide) rfl (fun ls hl => ?_)
  exact L2 200 uL a1 (0 : Int32) _ _ hP hD hS _ (lv_sub hl [1, 2, 0] rfl) hok
theorem hd_X5_ones : yX5_ones.cls ≠ "java/lang/invoke/MethodHandle" ∧ yX5_ones.cls ≠ "java/lang/invoke/VarHandle" ∧ (parseMethodDescriptor yX5_ones.desc).map (fun d => d.parameters.length) = some 1 := by decide +kernel
def p_X5_ones_L4 : Nat → Int32 → Int32 → Option Int32
  | 0, _, _ => none
  | n + 1, l4_1, l4_2 =>
    if l4_2 ≤ 0 then
      some l4_1
    else
      (p_X5_ones_L4 n) (l4_1 + (l4_2 &&& (1 : Int32))) (l4_2 >>> ((1 : Int32) &&& 31))
def p_X5_ones (a1 : Int32) : Option Int32 :=
  p_X5_ones_L4 200 (0 : Int32) a1
set_option maxHeartbeats 4000000 in
set_option maxRecDepth 100000 in
theorem c_X5_ones (l : Launch) (dC : Nat → ClassId) (dI : Nat → Nat → Nat) (cI cZ : ClassId) (a1 : Int32) {z : Int32} (hok : p_X5_ones a1 = some z) : Met l yX5_ones (Cond.code yX5_ones cX5_ones 3 (some .int) :: lw_all) { frames := 0, cells := 0, slots := 0, locals := 0 } (prR (dC, dI) vwCl (TYS cI cZ) (([] : va_W)) [.int a1]) (vp_Si (fun r => r = z)) 0 0 (fun _ => False) := by
  refine oM (by decide) (Nat.le_of_ble_eq_true rfl) ?_
  intro p e s m args below meth c S hr hlk hnm hB ls hl
  have hx := S.1
  have hb := S.2.1
  have hml := S.2.2.1
  have hown : s.vm.findClass RX5 = some m.cls := S.2.2.2.1
  have hts := S.2.2.2.2
  have S : CallFix p m c cX5_ones 3 s args lw_all RX5 := S
  have hl : lv_has ls 3 [(0, .int a1)] := hl
  obtain ⟨hP, hK⟩ := hB
  have hP : va_P (dC, dI) vwCl (([] : va_W)) s.heap := hP
  have L4 : ∀ n4 : Nat, ∀ (l4_1 : Int32) (l4_2 : Int32) (ls : Array Slot) (hl : lv_has ls 3 [(1, .int l4_1), (2, .int l4_2)]) (hok : p_X5_ones_L4 n4 l4_1 l4_2 = some z), W p l e { frames := 0, cells := 0, slots := 0, locals := 0 } s m args below meth c s.heap [] 0 0 (MQ below (vp_Si (fun r => r = z)) args s 0 0 (fun _ => False)) (F0 m 4 ls []) := by
    intro n4
    induction n4 with
    | zero =>
      intro l4_1 l4_2 ls hl hok
      rw [p_X5_ones_L4] at hok
      cases hok
    | succ n4 ih4 =>
      intro l4_1 l4_2 ls hl hok
      rw [p_X5_ones_L4] at hok
      refine lv_iload_n hx hb dX5_ones_4 rfl (lv_at hl 1 rfl) ?_
      refine lv_if_le (tgt := 21) hx hb dX5_ones_5 (by decide) (fun hc => ?_) (fun hc => ?_)
      · have hok := ip hok hc
        refine lv_iload_n hx hb dX5_ones_21 rfl (lv_at hl 0 rfl) ?_
        exact eRi S hr hlk (Option.some.inj hok) dX5_ones_22
      · have hok := iq hok hc
        refine lv_iload_n hx hb dX5_ones_8 rfl (lv_at hl 0 rfl) ?_
        refine lv_iload_n hx hb dX5_ones_9 rfl (lv_at hl 1 rfl) ?_
        refine lv_iconst (v := (1 : Int32)) hx hb dX5_ones_10 (by decide) ?_
        refine lv_iand hx hb dX5_ones_11 ?_
        refine lv_iadd hx hb dX5_ones_12 ?_
        refine lv_istore_n (lv' := [(1, .int (l4_1 + (l4_2 &&& (1 : Int32)))), (2, .int l4_2)]) hx hb dX5_ones_13 rfl hl (by decide) rfl (fun ls hl => ?_)
        refine lv_iload_n hx hb dX5_ones_14 rfl (lv_at hl 1 rfl) ?_
        refine lv_iconst (v := (1 : Int32)) hx hb dX5_ones_15 (by decide) ?_
        refine lv_ishr hx hb dX5_ones_16 ?_
        refine lv_istore_n (lv' := [(2, .int (l4_2 >>> ((1 : Int32) &&& 31))), (1, .int (l4_1 + (l4_2 &&& (1 : Int32))))]) hx hb dX5_ones_17 rfl hl (by decide) rfl (fun ls hl => ?_)
        refine lv_goto (tgt := 4) hx hb dX5_ones_18 (by decide) ?_
        exact ih4 (l4_1 + (l4_2 &&& (1 : Int32))) (l4_2 >>> ((1 : Int32) &&& 31)) _ (lv_sub hl [1, 0] rfl) hok
  unfold p_X5_ones at hok
  refine lv_iconst (v := (0 : Int32)) hx hb dX5_ones_0 (by decide) ?_
  refine lv_istore_n (lv' := [(1, .int (0 : Int32)), (0, .int a1)]) hx hb dX5_ones_1 rfl hl (by decide) rfl (fun ls hl => ?_)
  refine lv_iload_n hx hb dX5_ones_2 rfl (lv_at hl 1 rfl) ?_
  refine lv_istore_n (lv' := [(2, .int a1), (1, .int (0 : Int32)), (0, .int a1)]) hx hb dX5_ones_3 rfl hl (by decide) rfl (fun ls hl => ?_)
  exact L4 200 (0 : Int32) a1 _ (lv_sub hl [1, 0] rfl) hok
theorem hd_X5_cut : yX5_cut.cls = RX5 ∧ yX5_cut.cls ≠ "java/lang/invoke/MethodHandle" ∧ yX5_cut.cls ≠ "java/lang/invoke/VarHandle" ∧ (parseMethodDescriptor yX5_cut.desc).map (fun d => d.parameters.length) = some 0 := by decide +kernel
def p_X5_cut_L4 : Nat → tX5 → Int32 → Int32 → Option Int32
  | 0, _, _, _ => none
  | n + 1, uL, l4_1, l4_2 =>
    if uL.2.2.2.2.1 ≤ l4_2 then
      some l4_1
    else
      gd ((21 : Int32) + l4_2) 41 (
      (p_X5_cut_L4 n) uL (l4_1 + (uL.1 ((21 : Int32) + l4_2).toNatClampNeg)) (l4_2 + 1))
def p_X5_cut (uL : tX5) : Option Int32 :=
  p_X5_cut_L4 200 uL (0 : Int32) (0 : Int32)
set_option maxHeartbeats 4000000 in
set_option maxRecDepth 100000 in
theorem c_X5_cut (l : Launch) (dC : Nat → ClassId) (dI : Nat → Nat → Nat) (cI cZ : ClassId) (l0 l4 l5 l6 l8 l10 l11 l12 l13 l14 l15 l16 : Nat) (uL : tX5) {z : Int32} (hok : p_X5_cut uL = some z) : Met l yX5_cut (Cond.code yX5_cut cX5_cut 3 (some .int) :: lw_all) { frames := 0, cells := 0, slots := 0, locals := 0 } (prR (dC, dI) vwCl (TYS cI cZ) ((wX5 cI cZ l0 l4 l5 l6 l8 l10 l11 l12 l13 l14 l15 l16 uL)) [.ref l0]) (vp_Si (fun r => r = z)) 0 0 (fun _ => False) := by
  refine oM (by decide) (Nat.le_of_ble_eq_true rfl) ?_
  intro p e s m args below meth c S hr hlk hnm hB ls hl
  have hx := S.1
  have hb := S.2.1
  have hml := S.2.2.1
  have hown : s.vm.findClass RX5 = some m.cls := S.2.2.2.1
  have hts := S.2.2.2.2
  have S : CallFix p m c cX5_cut 3 s args lw_all RX5 := S
  have hl : lv_has ls 3 [(0, .ref l0)] := hl
  obtain ⟨hP, hK⟩ := hB
  have hP : va_P (dC, dI) vwCl ((wX5 cI cZ l0 l4 l5 l6 l8 l10 l11 l12 l13 l14 l15 l16 uL)) s.heap := hP
  have L4 : ∀ n4 : Nat, ∀ (l4_1 : Int32) (l4_2 : Int32) (ls : Array Slot) (hl : lv_has ls 3 [(0, .ref l0), (1, .int l4_1), (2, .int l4_2)]) (hok : p_X5_cut_L4 n4 uL l4_1 l4_2 = some z), W p l e { frames := 0, cells := 0, slots := 0, locals := 0 } s m args below meth c s.heap [] 0 0 (MQ below (vp_Si (fun r => r = z)) args s 0 0 (fun _ => False)) (F0 m 4 ls []) := by
    intro n4
    induction n4 with
    | zero =>
      intro l4_1 l4_2 ls hl hok
      rw [p_X5_cut_L4] at hok
      cases hok
    | succ n4 ih4 =>
      intro l4_1 l4_2 ls hl hok
      rw [p_X5_cut_L4] at hok
      refine lv_iload_n hx hb dX5_cut_4 rfl (lv_at hl 2 rfl) ?_
      refine lv_aload_n hx hb dX5_cut_5 rfl (lv_at hl 0 rfl) ?_
      refine va_get (D := (dC, dI)) (ci := 5) (v := .int uL.2.2.2.2.1) (C := RX5) (T := TX5) (N := 18) hx hb hts inX5 hown hK hP 0 rfl rfl 1 (by decide) (hts _ qf_X5_7) (fun _ h9 => h9) rfl dX5_cut_6 ?_
      refine lv_icmp_ge (tgt := 30) hx hb dX5_cut_9 (by decide) (fun hc => ?_) (fun hc => ?_)
      · have hok := ip hok hc
        refine lv_iload_n hx hb dX5_cut_30 rfl (lv_at hl 1 rfl) ?_
        exact eRi S hr hlk (Option.some.inj hok) dX5_cut_31
      · have hok := iq hok hc
        refine lv_iload_n hx hb dX5_cut_12 rfl (lv_at hl 1 rfl) ?_
        refine lv_aload_n hx hb dX5_cut_13 rfl (lv_at hl 0 rfl) ?_
        refine va_get (D := (dC, dI)) (ci := 5) (v := .ref l15) (C := RX5) (T := TX5) (N := 18) hx hb hts inX5 hown hK hP 0 rfl rfl 15 (by decide) (hts _ qf_X5_44) (fun _ h9 => h9) rfl dX5_cut_14 ?_
        refine lv_bipush (v := (21 : Int32)) hx hb dX5_cut_17 (by decide) ?_
        refine lv_iload_n hx hb dX5_cut_19 rfl (lv_at hl 2 rfl) ?_
        refine lv_iadd hx hb dX5_cut_20 ?_
        obtain ⟨hi1, hok⟩ := gd_some hok
        refine va_iald hx hb hK hP 10 0 rfl rfl hi1 dX5_cut_21 ?_
        refine lv_iadd hx hb dX5_cut_22 ?_
        refine lv_istore_n (lv' := [(1, .int (l4_1 + (uL.1 ((21 : Int32) + l4_2).toNatClampNeg))), (0, .ref l0), (2, .int l4_2)]) hx hb dX5_cut_23 rfl hl (by decide) rfl (fun ls hl => ?_)
        refine lv_iinc (v := (l4_2 + 1)) (lv' := [(2, .int (l4_2 + 1)), (1, .int (l4_1 + (uL.1 ((21 : Int32) + l4_2).toNatClampNeg))), (0, .ref l0)]) hx hb dX5_cut_24 hl (k := 2) rfl rfl (by decide) rfl (fun ls hl => ?_)
        refine lv_goto (tgt := 4) hx hb dX5_cut_27 (by decide) ?_
        exact ih4 (l4_1 + (uL.1 ((21 : Int32) + l4_2).toNatClampNeg)) (l4_2 + 1) _ (lv_sub hl [2, 1, 0] rfl) hok
  unfold p_X5_cut at hok
  refine lv_iconst (v := (0 : Int32)) hx hb dX5_cut_0 (by decide) ?_
  refine lv_istore_n (lv' := [(1, .int (0 : Int32)), (0, .ref l0)]) hx hb dX5_cut_1 rfl hl (by decide) rfl (fun ls hl => ?_)
  refine lv_iconst (v := (0 : Int32)) hx hb dX5_cut_2 (by decide) ?_
  refine lv_istore_n (lv' := [(2, .int (0 : Int32)), (1, .int (0 : Int32)), (0, .ref l0)]) hx hb dX5_cut_3 rfl hl (by decide) rfl (fun ls hl => ?_)
  exact L4 200 (0 : Int32) (0 : Int32) _ (lv_sub hl [2, 1, 0] rfl) hok
theorem hd_X5_warmth : yX5_warmth.cls = RX5 ∧ yX5_warmth.cls ≠ "java/lang/invoke/MethodHandle" ∧ yX5_warmth.cls ≠ "java/lang/invoke/VarHandle" ∧ (parseMethodDescriptor yX5_warmth.desc).map (fun d => d.parameters.length) = some 0 := by decide +kernel
def p_X5_warmth_J34 (rec4 : tX5 → Int32 → Int32 → Option Int32) (uL : tX5) (l34_2 : Int32) (s34_0 : Int32) (s34_1 : Int32) : Option Int32 :=
  rec4 uL (s34_1 + s34_0) (l34_2 + 1)
def p_X5_warmth_L4 : Nat → tX5 → Int32 → Int32 → Option Int32
  | 0, _, _, _ => none
  | n + 1, uL, l4_1, l4_2 =>
    if uL.2.2.2.2.2.2.2.2.2.2.1 ≤ l4_2 then
      some l4_1
    else
      bd (p_X5_reads uL l4_2) (fun v1 =>
      if v1 = 0 then
        p_X5_warmth_J34 (p_X5_warmth_L4 n) uL l4_2 (0 : Int32) l4_1
      else
        gd ((33 : Int32) + l4_2) 41 (
        p_X5_warmth_J34 (p_X5_warmth_L4 n) uL l4_2 (uL.1 ((33 : Int32) + l4_2).toNatClampNeg) l4_1))
def p_X5_warmth (uL : tX5) : Option Int32 :=
  p_X5_warmth_L4 200 uL (0 : Int32) (0 : Int32)
set_option maxHeartbeats 4000000 in
set_option maxRecDepth 100000 in
theorem c_X5_warmth (l : Launch) (dC : Nat → ClassId) (dI : Nat → Nat → Nat) (cI cZ : ClassId) (l0 l4 l5 l6 l8 l10 l11 l12 l13 l14 l15 l16 : Nat) (uL : tX5) {z : Int32} (hok : p_X5_warmth uL = some z) : Met l yX5_warmth (Cond.code yX5_warmth cX5_warmth 3 (some .int) :: lw_all) { frames := 2, cells := 0, slots := 0, locals := 42 } (prR (dC, dI) vwCl (TYS cI cZ) ((wX5 cI cZ l0 l4 l5 l6 l8 l10 l11 l12 l13 l14 l15 l16 uL)) [.ref l0]) (vp_Si (fun r => r = z)) 0 0 (fun _ => False) := by
  refine oM (by decide) (Nat.le_of_ble_eq_true rfl) ?_
  intro p e s m args below meth c S hr hlk hnm hB ls hl
  have hx := S.1
  have hb := S.2.1
  have hml := S.2.2.1
  have hown : s.vm.findClass RX5 = some m.cls := S.2.2.2.1
  have hts := S.2.2.2.2
  have S : CallFix p m c cX5_warmth 3 s args lw_all RX5 := S
  have hl : lv_has ls 3 [(0, .ref l0)] := hl
  obtain ⟨hP, hK⟩ := hB
  have hP : va_P (dC, dI) vwCl ((wX5 cI cZ l0 l4 l5 l6 l8 l10 l11 l12 l13 l14 l15 l16 uL)) s.heap := hP
  have L4 : ∀ n4 : Nat, ∀ (l4_1 : Int32) (l4_2 : Int32) (ls : Array Slot) (hl : lv_has ls 3 [(0, .ref l0), (1, .int l4_1), (2, .int l4_2)]) (hok : p_X5_warmth_L4 n4 uL l4_1 l4_2 = some z), W p l e { frames := 2, cells := 0, slots := 0, locals := 42 } s m args below meth c s.heap [] 0 0 (MQ below (vp_Si (fun r => r = z)) args s 0 0 (fun _ => False)) (F0 m 4 ls []) := by
    intro n4
    induction n4 with
    | zero =>
      intro l4_1 l4_2 ls hl hok
      rw [p_X5_warmth_L4] at hok
      cases hok
    | succ n4 ih4 =>
      have J34 : ∀ (l34_2 : Int32) (s34_0 : Int32) (s34_1 : Int32) (ls : Array Slot) (hl : lv_has ls 3 [(0, .ref l0), (2, .int l34_2)]) (hok : p_X5_warmth_J34 (p_X5_warmth_L4 n4) uL l34_2 s34_0 s34_1 = some z), W p l e { frames := 2, cells := 0, slots := 0, locals := 42 } s m args below meth c s.heap [] 0 0 (MQ below (vp_Si (fun r => r = z)) args s 0 0 (fun _ => False)) (F0 m 34 ls [.int s34_0, .int s34_1]) := by
        intro l34_2 s34_0 s34_1 ls hl hok
        unfold p_X5_warmth_J34 at hok
        refine lv_iadd hx hb dX5_warmth_34 ?_
        refine lv_istore_n (lv' := [(1, .int (s34_1 + s34_0)), (0, .ref l0), (2, .int l34_2)]) hx hb dX5_warmth_35 rfl hl (by decide) rfl (fun ls hl => ?_)
        refine lv_iinc (v := (l34_2 + 1)) (lv' := [(2, .int (l34_2 + 1)), (1, .int (s34_1 + s34_0)), (0, .ref l0)]) hx hb dX5_warmth_36 hl (k := 2) rfl rfl (by decide) rfl (fun ls hl => ?_)
        refine lv_goto (tgt := 4) hx hb dX5_warmth_39 (by decide) ?_
        exact ih4 (s34_1 + s34_0) (l34_2 + 1) _ (lv_sub hl [2, 1, 0] rfl) hok
      intro l4_1 l4_2 ls hl hok
      rw [p_X5_warmth_L4] at hok
      refine lv_iload_n hx hb dX5_warmth_4 rfl (lv_at hl 2 rfl) ?_
      refine lv_aload_n hx hb dX5_warmth_5 rfl (lv_at hl 0 rfl) ?_
      refine va_get (D := (dC, dI)) (ci := 5) (v := .int uL.2.2.2.2.2.2.2.2.2.2.1) (C := RX5) (T := TX5) (N := 18) hx hb hts inX5 hown hK hP 0 rfl rfl 7 (by decide) (hts _ qf_X5_57) (fun _ h9 => h9) rfl dX5_warmth_6 ?_
      refine lv_icmp_ge (tgt := 42) hx hb dX5_warmth_9 (by decide) (fun hc => ?_) (fun hc => ?_)
      · have hok := ip hok hc
        refine lv_iload_n hx hb dX5_warmth_42 rfl (lv_at hl 1 rfl) ?_
        exact eRi S hr hlk (Option.some.inj hok) dX5_warmth_43
      · have hok := iq hok hc
        refine lv_iload_n hx hb dX5_warmth_12 rfl (lv_at hl 1 rfl) ?_
        refine lv_aload_n hx hb dX5_warmth_13 rfl (lv_at hl 0 rfl) ?_
        refine lv_iload_n hx hb dX5_warmth_14 rfl (lv_at hl 2 rfl) ?_
        obtain ⟨v1, hc1, hok⟩ := bd_some hok
        refine cRVi (ci := 5) (q0 := 0) [.int l4_2] S hK hP (c_X5_reads l dC dI cI cZ l0 l4 l5 l6 l8 l10 l11 l12 l13 l14 l15 l16 uL l4_2 hc1) (lw_V qm_X5_73 qi_X5_reads qs_X5_reads qn_X5 qc_X5_reads) hd_X5_reads ⟨rfl, rfl⟩ ⟨Nat.le_of_ble_eq_true rfl, Nat.le_of_ble_eq_true rfl⟩ ⟨Nat.le_of_ble_eq_true rfl, Nat.le_of_ble_eq_true rfl⟩ rfl rfl rfl hl.1 (Nat.le_of_ble_eq_true rfl) rfl dX5_warmth_15 ?_
        refine lv_if_eq (tgt := 33) hx hb dX5_warmth_18 (by decide) (fun hc => ?_) (fun hc => ?_)
        · have hok := ip hok hc
          refine lv_iconst (v := (0 : Int32)) hx hb dX5_warmth_33 (by decide) ?_
          exact J34 l4_2 (0 : Int32) l4_1 _ (lv_sub hl [0, 2] rfl) hok
        · have hok := iq hok hc
          refine lv_aload_n hx hb dX5_warmth_21 rfl (lv_at hl 0 rfl) ?_
          refine va_get (D := (dC, dI)) (ci := 5) (v := .ref l15) (C := RX5) (T := TX5) (N := 18) hx hb hts inX5 hown hK hP 0 rfl rfl 15 (by decide) (hts _ qf_X5_44) (fun _ h9 => h9) rfl dX5_warmth_22 ?_
          refine lv_bipush (v := (33 : Int32)) hx hb dX5_warmth_25 (by decide) ?_
          refine lv_iload_n hx hb dX5_warmth_27 rfl (lv_at hl 2 rfl) ?_
          refine lv_iadd hx hb dX5_warmth_28 ?_
          obtain ⟨hi2, hok⟩ := gd_some hok
          refine va_iald hx hb hK hP 10 0 rfl rfl hi2 dX5_warmth_29 ?_
          refine lv_goto (tgt := 34) hx hb dX5_warmth_30 (by decide) ?_
          exact J34 l4_2 (uL.1 ((33 : Int32) + l4_2).toNatClampNeg) l4_1 _ (lv_sub hl [0, 2] rfl) hok
  unfold p_X5_warmth at hok
  refine lv_iconst (v := (0 : Int32)) hx hb dX5_warmth_0 (by decide) ?_
  refine lv_istore_n (lv' := [(1, .int (0 : Int32)), (0, .ref l0)]) hx hb dX5_warmth_1 rfl hl (by decide) rfl (fun ls hl => ?_)
  refine lv_iconst (v := (0 : Int32)) hx hb dX5_warmth_2 (by decide) ?_
  refine lv_istore_n (lv' := [(2, .int (0 : Int32)), (1, .int (0 : Int32)), (0, .ref l0)]) hx hb dX5_warmth_3 rfl hl (by decide) rfl (fun ls hl => ?_)
  exact L4 200 (0 : Int32) (0 : Int32) _ (lv_sub hl [2, 1, 0] rfl) hok
theorem hd_X5_begin : yX5_begin.cls = RX5 ∧ yX5_begin.cls ≠ "java/lang/invoke/MethodHandle" ∧ yX5_begin.cls ≠ "java/lang/invoke/VarHandle" ∧ (parseMethodDescriptor yX5_begin.desc).map (fun d => d.parameters.length) = some 1 := by decide +kernel
def p_X5_begin_L69 : Nat → tX5 → Int32 → Option (Int32 × tX5)
  | 0, _, _ => none
  | n + 1, uL, l69_2 =>
    if (6 : Int32) < l69_2 then
      bd (p_X5_ones ((upd uL.1 8 (0 : Int32)) 7)) (fun v6 =>
      some (v6, ((upd uL.1 8 (0 : Int32)), uL.2)))
    else
      gd l69_2 41 (
      (p_X5_begin_L69 n) ((upd uL.1 l69_2.toNatClampNeg (0 : Int32)), uL.2) (l69_2 + 1))
def p_X5_begin_L28 : Nat → tX5 → Int32 → Option (Int32 × tX5)
  | 0, _, _ => none
  | n + 1, uL, l28_2 =>
    if (12 : Int32) ≤ l28_2 then
      p_X5_begin_L69 200 uL (1 : Int32)
    else
      gd l28_2 12 (
      gd ((9 : Int32) + l28_2) 41 (
      gd ((21 : Int32) + l28_2) 41 (
      (p_X5_begin_L28 n) ((upd (upd uL.1 ((9 : Int32) + l28_2).toNatClampNeg (0 : Int32)) ((21 : Int32) + l28_2).toNatClampNeg (0 : Int32)), uL.2.1, uL.2.2.1, uL.2.2.2.1, uL.2.2.2.2.1, uL.2.2.2.2.2.1, uL.2.2.2.2.2.2.1, (upd uL.2.2.2.2.2.2.2.1 l28_2.toNatClampNeg (0 : Int32)), uL.2.2.2.2.2.2.2.2) (l28_2 + 1))))
def p_X5_begin (uL : tX5) (a1 : Int32) : Option (Int32 × tX5) :=
  bd (p_X5_isIn a1 (2 : Int32) (12 : Int32)) (fun v1 =>
  if v1 = 0 then
    bd (p_X5_fail (uL.1, uL.2.1, uL.2.2.1, (0 : Int32), uL.2.2.2.2) (1 : Int32)) (fun v2 =>
    some (v2.1, v2.2))
  else
    p_X5_begin_L28 200 (uL.1, uL.2.1, uL.2.2.1, (0 : Int32), a1, uL.2.2.2.2.2) (0 : Int32))
set_option maxHeartbeats 4000000 in
set_option maxRecDepth 100000 in
theorem c_X5_begin (l : Launch) (dC : Nat → ClassId) (dI : Nat → Nat → Nat) (cI cZ : ClassId) (l0 l4 l5 l6 l8 l10 l11 l12 l13 l14 l15 l16 : Nat) (sz : Nat) (uL : tX5) (a1 : Int32) {z : (Int32 × tX5)} (hok : p_X5_begin uL a1 = some z) : Met l yX5_begin (Cond.code yX5_begin cX5_begin 3 (some .int) :: lw_all) { frames := 1, cells := 0, slots := 0, locals := 22 } (prW (dC, dI) vwCl (TYS cI cZ) ((wX5 cI cZ l0 l4 l5 l6 l8 l10 l11 l12 l13 l14 l15 l16 uL)) sz [.ref l0, .int a1]) (va_Qi (fun (r : Int32) (_ : Unit) => r = z.1) (fun _ t => va_P (dC, dI) vwCl ((wX5 cI cZ l0 l4 l5 l6 l8 l10 l11 l12 l13 l14 l15 l16 z.2)) t.heap) (va_A ((wX5 cI cZ l0 l4 l5 l6 l8 l10 l11 l12 l13 l14 l15 l16 uL)) sz)) 0 0 (va_A ((wX5 cI cZ l0 l4 l5 l6 l8 l10 l11 l12 l13 l14 l15 l16 uL)) sz) := by
  refine oM (by decide) (Nat.le_of_ble_eq_true rfl) ?_
  intro p e s m args below meth c S hr hlk hnm hB ls hl
  have hx := S.1
  have hb := S.2.1
  have hml := S.2.2.1
  have hown : s.vm.findClass RX5 = some m.cls := S.2.2.2.1
  have hts := S.2.2.2.2
  have S : CallFix p m c cX5_begin 3 s args lw_all RX5 := S
  have hl : lv_has ls 3 [(0, .ref l0), (1, .int a1)] := hl
  obtain ⟨hsz, hP, hK, hD0⟩ := hB
  subst hsz
  have hD := hD0.self (sz := s.heap.size)
  generalize hAe : va_A ((wX5 cI cZ l0 l4 l5 l6 l8 l10 l11 l12 l13 l14 l15 l16 uL)) s.heap.size = A at hD ⊢
  have hA : ∀ q : Nat, s.heap.size ≤ q → A q := fun q h => by rw [← hAe]; exact Or.inr h
  have hS : va_S A s.heap s.heap [] := va_S.rf
  have hP : va_P (dC, dI) vwCl ((wX5 cI cZ l0 l4 l5 l6 l8 l10 l11 l12 l13 l14 l15 l16 uL)) s.heap := hP
  have L69 : ∀ n69 : Nat, ∀ (uL : tX5) (l69_2 : Int32) (H : Heap) (locs : List Loc) (hP : va_P (dC, dI) vwCl ((wX5 cI cZ l0 l4 l5 l6 l8 l10 l11 l12 l13 l14 l15 l16 uL)) H) (hD : va_D A ((wX5 cI cZ l0 l4 l5 l6 l8 l10 l11 l12 l13 l14 l15 l16 uL))) (hS : va_S A s.heap H locs) (ls : Array Slot) (hl : lv_has ls 3 [(0, .ref l0), (2, .int l69_2)]) (hok : p_X5_begin_L69 n69 uL l69_2 = some z), W p l e { frames := 1, cells := 0, slots := 0, locals := 22 } s m args below meth c H locs 0 0 (MQ below (va_Qi (fun (r : Int32) (_ : Unit) => r = z.1) (fun _ t => va_P (dC, dI) vwCl ((wX5 cI cZ l0 l4 l5 l6 l8 l10 l11 l12 l13 l14 l15 l16 z.2)) t.heap) A) args s 0 0 A) (F0 m 69 ls []) := by
    intro n69
    induction n69 with
    | zero =>
      intro uL l69_2 H locs hP hD hS ls hl hok
      rw [p_X5_begin_L69] at hok
      cases hok
    | succ n69 ih69 =>
      intro uL l69_2 H locs hP hD hS ls hl hok
      rw [p_X5_begin_L69] at hok
      refine lv_iload_n hx hb dX5_begin_69 rfl (lv_at hl 1 rfl) ?_
      refine lv_bipush (v := (6 : Int32)) hx hb dX5_begin_70 (by decide) ?_
      refine lv_icmp_gt (tgt := 88) hx hb dX5_begin_72 (by decide) (fun hc => ?_) (fun hc => ?_)
      · have hok := ip hok hc
        refine lv_aload_n hx hb dX5_begin_88 rfl (lv_at hl 0 rfl) ?_
        refine va_get (D := (dC, dI)) (ci := 5) (v := .ref l15) (C := RX5) (T := TX5) (N := 18) hx hb hts inX5 hown hK hP 0 rfl rfl 15 (by decide) (hts _ qf_X5_44) (fun _ h9 => h9) rfl dX5_begin_89 ?_
        refine lv_bipush (v := (8 : Int32)) hx hb dX5_begin_92 (by decide) ?_
        refine lv_iconst (v := (0 : Int32)) hx hb dX5_begin_94 (by decide) ?_
        refine va_iastK hx hb hK hP hD hS 10 0 rfl rfl (j := 8) (by decide) (vp_inK (by decide)) dX5_begin_95 (fun H locs hP _ hS => ?_)
        have hP : va_P (dC, dI) vwCl ((wX5 cI cZ l0 l4 l5 l6 l8 l10 l11 l12 l13 l14 l15 l16 ((upd uL.1 8 (0 : Int32)), uL.2))) H := hP
        have hD : va_D A ((wX5 cI cZ l0 l4 l5 l6 l8 l10 l11 l12 l13 l14 l15 l16 ((upd uL.1 8 (0 : Int32)), uL.2))) := D_L hD
        refine lv_aload_n hx hb dX5_begin_96 rfl (lv_at hl 0 rfl) ?_
        refine va_get (D := (dC, dI)) (ci := 5) (v := .ref l15) (C := RX5) (T := TX5) (N := 18) hx hb hts inX5 hown hK hP 0 rfl rfl 15 (by decide) (hts _ qf_X5_44) (fun _ h9 => h9) rfl dX5_begin_97 ?_
        refine lv_bipush (v := (7 : Int32)) hx hb dX5_begin_100 (by decide) ?_
        refine va_ialdK hx hb hK hP 10 0 rfl rfl (j := 7) (by decide) (vp_inK (by decide)) dX5_begin_102 ?_
        obtain ⟨v6, hc6, hok⟩ := bd_some hok
        refine cRSi [.int ((upd uL.1 8 (0 : Int32)) 7)] S hK va_Pnil (c_X5_ones l dC dI cI cZ ((upd uL.1 8 (0 : Int32)) 7) hc6) (lw_S qm_X5_116 qt_X5_ones qn_X5 qc_X5_ones) hd_X5_ones ⟨rfl, rfl⟩ ⟨Nat.le_of_ble_eq_true rfl, Nat.le_of_ble_eq_true rfl⟩ ⟨Nat.le_of_ble_eq_true rfl, Nat.le_of_ble_eq_true rfl⟩ rfl hl.1 (Nat.le_of_ble_eq_true rfl) rfl dX5_begin_103 ?_
        have hok := Option.some.inj hok
        subst hok
        exact eWi S hr hlk rfl hP hS (Nat.le_of_ble_eq_true rfl) (Nat.le_of_ble_eq_true rfl) dX5_begin_106
      · have hok := iq hok hc
        refine lv_aload_n hx hb dX5_begin_75 rfl (lv_at hl 0 rfl) ?_
        refine va_get (D := (dC, dI)) (ci := 5) (v := .ref l15) (C := RX5) (T := TX5) (N := 18) hx hb hts inX5 hown hK hP 0 rfl rfl 15 (by decide) (hts _ qf_X5_44) (fun _ h9 => h9) rfl dX5_begin_76 ?_
        refine lv_iload_n hx hb dX5_begin_79 rfl (lv_at hl 1 rfl) ?_
        refine lv_iconst (v := (0 : Int32)) hx hb dX5_begin_80 (by decide) ?_
        obtain ⟨hi7, hok⟩ := gd_some hok
        refine va_iast hx hb hK hP hD hS 10 0 rfl rfl hi7 dX5_begin_81 (fun H locs hP _ hS => ?_)
        have hP : va_P (dC, dI) vwCl ((wX5 cI cZ l0 l4 l5 l6 l8 l10 l11 l12 l13 l14 l15 l16 ((upd uL.1 l69_2.toNatClampNeg (0 : Int32)), uL.2))) H := hP
        have hD : va_D A ((wX5 cI cZ l0 l4 l5 l6 l8 l10 l11 l12 l13 l14 l15 l16 ((upd uL.1 l69_2.toNatClampNeg (0 : Int32)), uL.2))) := D_L hD
        refine lv_iinc (v := (l69_2 + 1)) (lv' := [(2, .int (l69_2 + 1)), (0, .ref l0)]) hx hb dX5_begin_82 hl (k := 1) rfl rfl (by decide) rfl (fun ls hl => ?_)
        refine lv_goto (tgt := 69) hx hb dX5_begin_85 (by decide) ?_
        exact ih69 ((upd uL.1 l69_2.toNatClampNeg (0 : Int32)), uL.2) (l69_2 + 1) _ _ hP hD hS _ (lv_sub hl [1, 0] rfl) hok
  have L28 : ∀ n28 : Nat, ∀ (uL : tX5) (l28_2 : Int32) (H : Heap) (locs : List Loc) (hP : va_P (dC, dI) vwCl ((wX5 cI cZ l0 l4 l5 l6 l8 l10 l11 l12 l13 l14 l15 l16 uL)) H) (hD : va_D A ((wX5 cI cZ l0 l4 l5 l6 l8 l10 l11 l12 l13 l14 l15 l16 uL))) (hS : va_S A s.heap H locs) (ls : Array Slot) (hl : lv_has ls 3 [(0, .ref l0), (2, .int l28_2)]) (hok : p_X5_begin_L28 n28 uL l28_2 = some z), W p l e { frames := 1, cells := 0, slots := 0, locals := 22 } s m args below meth c H locs 0 0 (MQ below (va_Qi (fun (r : Int32) (_ : Unit) => r = z.1) (fun _ t => va_P (dC, dI) vwCl ((wX5 cI cZ l0 l4 l5 l6 l8 l10 l11 l12 l13 l14 l15 l16 z.2)) t.heap) A) args s 0 0 A) (F0 m 28 ls []) := by
    intro n28
    induction n28 with
    | zero =>
      intro uL l28_2 H locs hP hD hS ls hl hok
      rw [p_X5_begin_L28] at hok
      cases hok
    | succ n28 ih28 =>
      intro uL l28_2 H locs hP hD hS ls hl hok
      rw [p_X5_begin_L28] at hok
      refine lv_iload_n hx hb dX5_begin_28 rfl (lv_at hl 1 rfl) ?_
      refine lv_bipush (v := (12 : Int32)) hx hb dX5_begin_29 (by decide) ?_
      refine lv_icmp_ge (tgt := 67) hx hb dX5_begin_31 (by decide) (fun hc => ?_) (fun hc => ?_)
      · have hok := ip hok hc
        refine lv_iconst (v := (1 : Int32)) hx hb dX5_begin_67 (by decide) ?_
        refine lv_istore_n (lv' := [(2, .int (1 : Int32)), (0, .ref l0)]) hx hb dX5_begin_68 rfl hl (by decide) rfl (fun ls hl => ?_)
        exact L69 200 uL (1 : Int32) _ _ hP hD hS _ (lv_sub hl [1, 0] rfl) hok
      · have hok := iq hok hc
        refine lv_aload_n hx hb dX5_begin_34 rfl (lv_at hl 0 rfl) ?_
        refine va_get (D := (dC, dI)) (ci := 5) (v := .ref l4) (C := RX5) (T := TX5) (N := 18) hx hb hts inX5 hown hK hP 0 rfl rfl 4 (by decide) (hts _ qf_X5_16) (fun _ h9 => h9) rfl dX5_begin_35 ?_
        refine lv_iload_n hx hb dX5_begin_38 rfl (lv_at hl 1 rfl) ?_
        refine lv_iconst (v := (0 : Int32)) hx hb dX5_begin_39 (by decide) ?_
        obtain ⟨hi3, hok⟩ := gd_some hok
        refine va_iast hx hb hK hP hD hS 1 0 rfl rfl hi3 dX5_begin_40 (fun H locs hP _ hS => ?_)
        have hP : va_P (dC, dI) vwCl ((wX5 cI cZ l0 l4 l5 l6 l8 l10 l11 l12 l13 l14 l15 l16 (uL.1, uL.2.1, uL.2.2.1, uL.2.2.2.1, uL.2.2.2.2.1, uL.2.2.2.2.2.1, uL.2.2.2.2.2.2.1, (upd uL.2.2.2.2.2.2.2.1 l28_2.toNatClampNeg (0 : Int32)), uL.2.2.2.2.2.2.2.2))) H := hP
        have hD : va_D A ((wX5 cI cZ l0 l4 l5 l6 l8 l10 l11 l12 l13 l14 l15 l16 (uL.1, uL.2.1, uL.2.2.1, uL.2.2.2.1, uL.2.2.2.2.1, uL.2.2.2.2.2.1, uL.2.2.2.2.2.2.1, (upd uL.2.2.2.2.2.2.2.1 l28_2.toNatClampNeg (0 : Int32)), uL.2.2.2.2.2.2.2.2))) := D_L hD
        refine lv_aload_n hx hb dX5_begin_41 rfl (lv_at hl 0 rfl) ?_
        refine va_get (D := (dC, dI)) (ci := 5) (v := .ref l15) (C := RX5) (T := TX5) (N := 18) hx hb hts inX5 hown hK hP 0 rfl rfl 15 (by decide) (hts _ qf_X5_44) (fun _ h9 => h9) rfl dX5_begin_42 ?_
        refine lv_bipush (v := (9 : Int32)) hx hb dX5_begin_45 (by decide) ?_
        refine lv_iload_n hx hb dX5_begin_47 rfl (lv_at hl 1 rfl) ?_
        refine lv_iadd hx hb dX5_begin_48 ?_
        refine lv_iconst (v := (0 : Int32)) hx hb dX5_begin_49 (by decide) ?_
        obtain ⟨hi4, hok⟩ := gd_some hok
        refine va_iast hx hb hK hP hD hS 10 0 rfl rfl hi4 dX5_begin_50 (fun H locs hP _ hS => ?_)
        have hP : va_P (dC, dI) vwCl ((wX5 cI cZ l0 l4 l5 l6 l8 l10 l11 l12 l13 l14 l15 l16 ((upd uL.1 ((9 : Int32) + l28_2).toNatClampNeg (0 : Int32)), uL.2.1, uL.2.2.1, uL.2.2.2.1, uL.2.2.2.2.1, uL.2.2.2.2.2.1, uL.2.2.2.2.2.2.1, (upd uL.2.2.2.2.2.2.2.1 l28_2.toNatClampNeg (0 : Int32)), uL.2.2.2.2.2.2.2.2))) H := hP
        have hD : va_D A ((wX5 cI cZ l0 l4 l5 l6 l8 l10 l11 l12 l13 l14 l15 l16 ((upd uL.1 ((9 : Int32) + l28_2).toNatClampNeg (0 : Int32)), uL.2.1, uL.2.2.1, uL.2.2.2.1, uL.2.2.2.2.1, uL.2.2.2.2.2.1, uL.2.2.2.2.2.2.1, (upd uL.2.2.2.2.2.2.2.1 l28_2.toNatClampNeg (0 : Int32)), uL.2.2.2.2.2.2.2.2))) := D_L hD
        refine lv_aload_n hx hb dX5_begin_51 rfl (lv_at hl 0 rfl) ?_
        refine va_get (D := (dC, dI)) (ci := 5) (v := .ref l15) (C := RX5) (T := TX5) (N := 18) hx hb hts inX5 hown hK hP 0 rfl rfl 15 (by decide) (hts _ qf_X5_44) (fun _ h9 => h9) rfl dX5_begin_52 ?_
        refine lv_bipush (v := (21 : Int32)) hx hb dX5_begin_55 (by decide) ?_
        refine lv_iload_n hx hb dX5_begin_57 rfl (lv_at hl 1 rfl) ?_
        refine lv_iadd hx hb dX5_begin_58 ?_
        refine lv_iconst (v := (0 : Int32)) hx hb dX5_begin_59 (by decide) ?_
        obtain ⟨hi5, hok⟩ := gd_some hok
        refine va_iast hx hb hK hP hD hS 10 0 rfl rfl hi5 dX5_begin_60 (fun H locs hP _ hS => ?_)
        have hP : va_P (dC, dI) vwCl ((wX5 cI cZ l0 l4 l5 l6 l8 l10 l11 l12 l13 l14 l15 l16 ((upd (upd uL.1 ((9 : Int32) + l28_2).toNatClampNeg (0 : Int32)) ((21 : Int32) + l28_2).toNatClampNeg (0 : Int32)), uL.2.1, uL.2.2.1, uL.2.2.2.1, uL.2.2.2.2.1, uL.2.2.2.2.2.1, uL.2.2.2.2.2.2.1, (upd uL.2.2.2.2.2.2.2.1 l28_2.toNatClampNeg (0 : Int32)), uL.2.2.2.2.2.2.2.2))) H := hP
        have hD : va_D A ((wX5 cI cZ l0 l4 l5 l6 l8 l10 l11 l12 l13 l14 l15 l16 ((upd (upd uL.1 ((9 : Int32) + l28_2).toNatClampNeg (0 : Int32)) ((21 : Int32) + l28_2).toNatClampNeg (0 : Int32)), uL.2.1, uL.2.2.1, uL.2.2.2.1, uL.2.2.2.2.1, uL.2.2.2.2.2.1, uL.2.2.2.2.2.2.1, (upd uL.2.2.2.2.2.2.2.1 l28_2.toNatClampNeg (0 : Int32)), uL.2.2.2.2.2.2.2.2))) := D_L hD
        refine lv_iinc (v := (l28_2 + 1)) (lv' := [(2, .int (l28_2 + 1)), (0, .ref l0)]) hx hb dX5_begin_61 hl (k := 1) rfl rfl (by decide) rfl (fun ls hl => ?_)
        refine lv_goto (tgt := 28) hx hb dX5_begin_64 (by decide) ?_
        exact ih28 ((upd (upd uL.1 ((9 : Int32) + l28_2).toNatClampNeg (0 : Int32)) ((21 : Int32) + l28_2).toNatClampNeg (0 : Int32)), uL.2.1, uL.2.2.1, uL.2.2.2.1, uL.2.2.2.2.1, uL.2.2.2.2.2.1, uL.2.2.2.2.2.2.1, (upd uL.2.2.2.2.2.2.2.1 l28_2.toNatClampNeg (0 : Int32)), uL.2.2.2.2.2.2.2.2) (l28_2 + 1) _ _ hP hD hS _ (lv_sub hl [1, 0] rfl) hok
  unfold p_X5_begin at hok
  refine lv_aload_n hx hb dX5_begin_0 rfl (lv_at hl 0 rfl) ?_
  refine lv_iconst (v := (0 : Int32)) hx hb dX5_begin_1 (by decide) ?_
  refine va_put (D := (dC, dI)) (ci := 5) (v := .int (0 : Int32)) (ty := .int) (C := RX5) (T := TX5) (N := 18) hx hb hts inX5 tyX5 tyX5_ok nmX5 hown hK hP hD hS 0 rfl rfl 0 (by decide) (hts _ qf_X5_50) (fun _ h9 => h9) rfl (tyX5_ok 0 (by decide)) rfl rfl (Nat.le_of_ble_eq_true rfl) dX5_begin_2 (fun H locs hP _ hS => ?_)
  have hP : va_P (dC, dI) vwCl ((wX5 cI cZ l0 l4 l5 l6 l8 l10 l11 l12 l13 l14 l15 l16 (uL.1, uL.2.1, uL.2.2.1, (0 : Int32), uL.2.2.2.2))) H := hP
  have hD : va_D A ((wX5 cI cZ l0 l4 l5 l6 l8 l10 l11 l12 l13 l14 l15 l16 (uL.1, uL.2.1, uL.2.2.1, (0 : Int32), uL.2.2.2.2))) := D_L hD
  refine lv_iload_n hx hb dX5_begin_5 rfl (lv_at hl 1 rfl) ?_
  refine lv_iconst (v := (2 : Int32)) hx hb dX5_begin_6 (by decide) ?_
  refine lv_bipush (v := (12 : Int32)) hx hb dX5_begin_7 (by decide) ?_
  obtain ⟨v1, hc1, hok⟩ := bd_some hok
  refine cRSi [.int a1, .int (2 : Int32), .int (12 : Int32)] S hK va_Pnil (c_X5_isIn l dC dI cI cZ a1 (2 : Int32) (12 : Int32) hc1) (lw_S qm_X5_53 qt_X5_isIn qn_X5 qc_X5_isIn) hd_X5_isIn ⟨rfl, rfl⟩ ⟨Nat.le_of_ble_eq_true rfl, Nat.le_of_ble_eq_true rfl⟩ ⟨Nat.le_of_ble_eq_true rfl, Nat.le_of_ble_eq_true rfl⟩ rfl hl.1 (Nat.le_of_ble_eq_true rfl) rfl dX5_begin_9 ?_
  refine lv_if_ne (tgt := 21) hx hb dX5_begin_12 (by decide) (fun hc => ?_) (fun hc => ?_)
  · have hok := iq hok hc
    refine lv_aload_n hx hb dX5_begin_21 rfl (lv_at hl 0 rfl) ?_
    refine lv_iload_n hx hb dX5_begin_22 rfl (lv_at hl 1 rfl) ?_
    refine va_put (D := (dC, dI)) (ci := 5) (v := .int a1) (ty := .int) (C := RX5) (T := TX5) (N := 18) hx hb hts inX5 tyX5 tyX5_ok nmX5 hown hK hP hD hS 0 rfl rfl 1 (by decide) (hts _ qf_X5_7) (fun _ h9 => h9) rfl (tyX5_ok 1 (by decide)) rfl rfl (Nat.le_of_ble_eq_true rfl) dX5_begin_23 (fun H locs hP _ hS => ?_)
    have hP : va_P (dC, dI) vwCl ((wX5 cI cZ l0 l4 l5 l6 l8 l10 l11 l12 l13 l14 l15 l16 (uL.1, uL.2.1, uL.2.2.1, (0 : Int32), a1, uL.2.2.2.2.2))) H := hP
    have hD : va_D A ((wX5 cI cZ l0 l4 l5 l6 l8 l10 l11 l12 l13 l14 l15 l16 (uL.1, uL.2.1, uL.2.2.1, (0 : Int32), a1, uL.2.2.2.2.2))) := D_L hD
    refine lv_iconst (v := (0 : Int32)) hx hb dX5_begin_26 (by decide) ?_
    refine lv_istore_n (lv' := [(2, .int (0 : Int32)), (0, .ref l0), (1, .int a1)]) hx hb dX5_begin_27 rfl hl (by decide) rfl (fun ls hl => ?_)
    exact L28 200 (uL.1, uL.2.1, uL.2.2.1, (0 : Int32), a1, uL.2.2.2.2.2) (0 : Int32) _ _ hP hD hS _ (lv_sub hl [1, 0] rfl) hok
  · have hok := ip hok hc
    refine lv_aload_n hx hb dX5_begin_15 rfl (lv_at hl 0 rfl) ?_
    refine lv_iconst (v := (1 : Int32)) hx hb dX5_begin_16 (by decide) ?_
    obtain ⟨v2, hc2, hok⟩ := bd_some hok
    refine cWVi (ci := 5) (q0 := 0) [.int (1 : Int32)] S hK hP hD hS hA (c_X5_fail l dC dI cI cZ l0 l4 l5 l6 l8 l10 l11 l12 l13 l14 l15 l16 _ (uL.1, uL.2.1, uL.2.2.1, (0 : Int32), uL.2.2.2.2) (1 : Int32) hc2) (lw_V qm_X5_112 qi_X5_fail qs_X5_fail qn_X5 qc_X5_fail) hd_X5_fail ⟨rfl, rfl⟩ ⟨Nat.le_of_ble_eq_true rfl, Nat.le_of_ble_eq_true rfl⟩ ⟨Nat.le_of_ble_eq_true rfl, Nat.le_of_ble_eq_true rfl⟩ rfl rfl rfl hl.1 (Nat.le_of_ble_eq_true rfl) rfl dX5_begin_17 (D_L hD) (fun H locs hP hD hS => ?_)
    have hok := Option.some.inj hok
    subst hok
    exact eWi S hr hlk rfl hP hS (Nat.le_of_ble_eq_true rfl) (Nat.le_of_ble_eq_true rfl) dX5_begin_20
theorem hd_X5_addParagraph : yX5_addParagraph.cls = RX5 ∧ yX5_addParagraph.cls ≠ "java/lang/invoke/MethodHandle" ∧ yX5_addParagraph.cls ≠ "java/lang/invoke/VarHandle" ∧ (parseMethodDescriptor yX5_addParagraph.desc).map (fun d => d.parameters.length) = some 3 := by decide +kernel
def p_X5_addParagraph_J36 (uL : tX5) : Option (Int32 × tX5) :=
  bd (p_X5_fail uL (2 : Int32)) (fun v8 =>
  some (v8.1, v8.2))
def p_X5_addParagraph (uL : tX5) (a1 : Int32) (a2 : Int32) (a3 : Int32) : Option (Int32 × tX5) :=
  bd (p_X5_isFloor (uL.1, uL.2.1, uL.2.2.1, (0 : Int32), uL.2.2.2.2) a1) (fun v1 =>
  if v1 = 0 then
    bd (p_X5_fail (uL.1, uL.2.1, uL.2.2.1, (0 : Int32), uL.2.2.2.2) (1 : Int32)) (fun v7 =>
    some (v7.1, v7.2))
  else
    bd (p_X5_isTopic a2) (fun v2 =>
    if v2 = 0 then
      p_X5_addParagraph_J36 (uL.1, uL.2.1, uL.2.2.1, (0 : Int32), uL.2.2.2.2)
    else
      bd (p_X5_isIn a3 (0 : Int32) (9 : Int32)) (fun v3 =>
      if v3 = 0 then
        p_X5_addParagraph_J36 (uL.1, uL.2.1, uL.2.2.1, (0 : Int32), uL.2.2.2.2)
      else
        gd a1 12 (
        if (uL.2.2.2.2.2.2.2.1 a1.toNatClampNeg) = (9 : Int32) then
          bd (p_X5_fail (uL.1, uL.2.1, uL.2.2.1, (0 : Int32), uL.2.2.2.2) (3 : Int32)) (fun v6 =>
          some (v6.1, v6.2))
        else
          gd (((9 : Int32) * a1) + (uL.2.2.2.2.2.2.2.1 a1.toNatClampNeg)) 108 (
          some ((((upd uL.2.2.2.2.2.2.2.1 a1.toNatClampNeg ((uL.2.2.2.2.2.2.2.1 a1.toNatClampNeg) + (1 : Int32))) a1.toNatClampNeg) - (1 : Int32)), (uL.1, uL.2.1, uL.2.2.1, (0 : Int32), uL.2.2.2.2.1, uL.2.2.2.2.2.1, uL.2.2.2.2.2.2.1, (upd uL.2.2.2.2.2.2.2.1 a1.toNatClampNeg ((uL.2.2.2.2.2.2.2.1 a1.toNatClampNeg) + (1 : Int32))), (upd uL.2.2.2.2.2.2.2.2.1 (((9 : Int32) * a1) + (uL.2.2.2.2.2.2.2.1 a1.toNatClampNeg)).toNatClampNeg a2), (upd uL.2.2.2.2.2.2.2.2.2.1 (((9 : Int32) * a1) + (uL.2.2.2.2.2.2.2.1 a1.toNatClampNeg)).toNatClampNeg a3), uL.2.2.2.2.2.2.2.2.2.2)))))))
set_option maxHeartbeats 4000000 in
set_option maxRecDepth 100000 in
theorem c_X5_addParagraph (l : Launch) (dC : Nat → ClassId) (dI : Nat → Nat → Nat) (cI cZ : ClassId) (l0 l4 l5 l6 l8 l10 l11 l12 l13 l14 l15 l16 : Nat) (sz : Nat) (uL : tX5) (a1 : Int32) (a2 : Int32) (a3 : Int32) {z : (Int32 × tX5)} (hok : p_X5_addParagraph uL a1 a2 a3 = some z) : Met l yX5_addParagraph (Cond.code yX5_addParagraph cX5_addParagraph 5 (some .int) :: lw_all) { frames := 2, cells := 0, slots := 0, locals := 43 } (prW (dC, dI) vwCl (TYS cI cZ) ((wX5 cI cZ l0 l4 l5 l6 l8 l10 l11 l12 l13 l14 l15 l16 uL)) sz [.ref l0, .int a1, .int a2, .int a3]) (va_Qi (fun (r : Int32) (_ : Unit) => r = z.1) (fun _ t => va_P (dC, dI) vwCl ((wX5 cI cZ l0 l4 l5 l6 l8 l10 l11 l12 l13 l14 l15 l16 z.2)) t.heap) (va_A ((wX5 cI cZ l0 l4 l5 l6 l8 l10 l11 l12 l13 l14 l15 l16 uL)) sz)) 0 0 (va_A ((wX5 cI cZ l0 l4 l5 l6 l8 l10 l11 l12 l13 l14 l15 l16 uL)) sz) := by
  refine oM (by decide) (Nat.le_of_ble_eq_true rfl) ?_
  intro p e s m args below meth c S hr hlk hnm hB ls hl
  have hx := S.1
  have hb := S.2.1
  have hml := S.2.2.1
  have hown : s.vm.findClass RX5 = some m.cls := S.2.2.2.1
  have hts := S.2.2.2.2
  have S : CallFix p m c cX5_addParagraph 5 s args lw_all RX5 := S
  have hl : lv_has ls 5 [(0, .ref l0), (1, .int a1), (2, .int a2), (3, .int a3)] := hl
  obtain ⟨hsz, hP, hK, hD0⟩ := hB
  subst hsz
  have hD := hD0.self (sz := s.heap.size)
  generalize hAe : va_A ((wX5 cI cZ l0 l4 l5 l6 l8 l10 l11 l12 l13 l14 l15 l16 uL)) s.heap.size = A at hD ⊢
  have hA : ∀ q : Nat, s.heap.size ≤ q → A q := fun q h => by rw [← hAe]; exact Or.inr h
  have hS : va_S A s.heap s.heap [] := va_S.rf
  have hP : va_P (dC, dI) vwCl ((wX5 cI cZ l0 l4 l5 l6 l8 l10 l11 l12 l13 l14 l15 l16 uL)) s.heap := hP
  have J36 : ∀ (uL : tX5) (H : Heap) (locs : List Loc) (hP : va_P (dC, dI) vwCl ((wX5 cI cZ l0 l4 l5 l6 l8 l10 l11 l12 l13 l14 l15 l16 uL)) H) (hD : va_D A ((wX5 cI cZ l0 l4 l5 l6 l8 l10 l11 l12 l13 l14 l15 l16 uL))) (hS : va_S A s.heap H locs) (ls : Array Slot) (hl : lv_has ls 5 [(0, .ref l0)]) (hok : p_X5_addParagraph_J36 uL = some z), W p l e { frames := 2, cells := 0, slots := 0, locals := 43 } s m args below meth c H locs 0 0 (MQ below (va_Qi (fun (r : Int32) (_ : Unit) => r = z.1) (fun _ t => va_P (dC, dI) vwCl ((wX5 cI cZ l0 l4 l5 l6 l8 l10 l11 l12 l13 l14 l15 l16 z.2)) t.heap) A) args s 0 0 A) (F0 m 36 ls []) := by
    intro uL H locs hP hD hS ls hl hok
    unfold p_X5_addParagraph_J36 at hok
    refine lv_aload_n hx hb dX5_addParagraph_36 rfl (lv_at hl 0 rfl) ?_
    refine lv_iconst (v := (2 : Int32)) hx hb dX5_addParagraph_37 (by decide) ?_
    obtain ⟨v8, hc8, hok⟩ := bd_some hok
    refine cWVi (ci := 5) (q0 := 0) [.int (2 : Int32)] S hK hP hD hS hA (c_X5_fail l dC dI cI cZ l0 l4 l5 l6 l8 l10 l11 l12 l13 l14 l15 l16 _ uL (2 : Int32) hc8) (lw_V qm_X5_112 qi_X5_fail qs_X5_fail qn_X5 qc_X5_fail) hd_X5_fail ⟨rfl, rfl⟩ ⟨Nat.le_of_ble_eq_true rfl, Nat.le_of_ble_eq_true rfl⟩ ⟨Nat.le_of_ble_eq_true rfl, Nat.le_of_ble_eq_true rfl⟩ rfl rfl rfl hl.1 (Nat.le_of_ble_eq_true rfl) rfl dX5_addParagraph_38 (D_L hD) (fun H locs hP hD hS => ?_)
    have hok := Option.some.inj hok
    subst hok
    exact eWi S hr hlk rfl hP hS (Nat.le_of_ble_eq_true rfl) (Nat.le_of_ble_eq_true rfl) dX5_addParagraph_41
  unfold p_X5_addParagraph at hok
  refine lv_aload_n hx hb dX5_addParagraph_0 rfl (lv_at hl 0 rfl) ?_
  refine lv_iconst (v := (0 : Int32)) hx hb dX5_addParagraph_1 (by decide) ?_
  refine va_put (D := (dC, dI)) (ci := 5) (v := .int (0 : Int32)) (ty := .int) (C := RX5) (T := TX5) (N := 18) hx hb hts inX5 tyX5 tyX5_ok nmX5 hown hK hP hD hS 0 rfl rfl 0 (by decide) (hts _ qf_X5_50) (fun _ h9 => h9) rfl (tyX5_ok 0 (by decide)) rfl rfl (Nat.le_of_ble_eq_true rfl) dX5_addParagraph_2 (fun H locs hP _ hS => ?_)
  have hP : va_P (dC, dI) vwCl ((wX5 cI cZ l0 l4 l5 l6 l8 l10 l11 l12 l13 l14 l15 l16 (uL.1, uL.2.1, uL.2.2.1, (0 : Int32), uL.2.2.2.2))) H := hP
  have hD : va_D A ((wX5 cI cZ l0 l4 l5 l6 l8 l10 l11 l12 l13 l14 l15 l16 (uL.1, uL.2.1, uL.2.2.1, (0 : Int32), uL.2.2.2.2))) := D_L hD
  refine lv_aload_n hx hb dX5_addParagraph_5 rfl (lv_at hl 0 rfl) ?_
  refine lv_iload_n hx hb dX5_addParagraph_6 rfl (lv_at hl 1 rfl) ?_
  obtain ⟨v1, hc1, hok⟩ := bd_some hok
  refine cRVi (ci := 5) (q0 := 0) [.int a1] S hK hP (c_X5_isFloor l dC dI cI cZ l0 l4 l5 l6 l8 l10 l11 l12 l13 l14 l15 l16 (uL.1, uL.2.1, uL.2.2.1, (0 : Int32), uL.2.2.2.2) a1 hc1) (lw_V qm_X5_93 qi_X5_isFloor qs_X5_isFloor qn_X5 qc_X5_isFloor) hd_X5_isFloor ⟨rfl, rfl⟩ ⟨Nat.le_of_ble_eq_true rfl, Nat.le_of_ble_eq_true rfl⟩ ⟨Nat.le_of_ble_eq_true rfl, Nat.le_of_ble_eq_true rfl⟩ rfl rfl rfl hl.1 (Nat.le_of_ble_eq_true rfl) rfl dX5_addParagraph_7 ?_
  refine lv_if_ne (tgt := 19) hx hb dX5_addParagraph_10 (by decide) (fun hc => ?_) (fun hc => ?_)
  · have hok := iq hok hc
    refine lv_iload_n hx hb dX5_addParagraph_19 rfl (lv_at hl 2 rfl) ?_
    obtain ⟨v2, hc2, hok⟩ := bd_some hok
    refine cRSi [.int a2] S hK va_Pnil (c_X5_isTopic l dC dI cI cZ a2 hc2) (lw_S qm_X5_119 qt_X5_isTopic qn_X5 qc_X5_isTopic) hd_X5_isTopic ⟨rfl, rfl⟩ ⟨Nat.le_of_ble_eq_true rfl, Nat.le_of_ble_eq_true rfl⟩ ⟨Nat.le_of_ble_eq_true rfl, Nat.le_of_ble_eq_true rfl⟩ rfl hl.1 (Nat.le_of_ble_eq_true rfl) rfl dX5_addParagraph_20 ?_
    refine lv_if_eq (tgt := 36) hx hb dX5_addParagraph_23 (by decide) (fun hc => ?_) (fun hc => ?_)
    · have hok := ip hok hc
      exact J36 (uL.1, uL.2.1, uL.2.2.1, (0 : Int32), uL.2.2.2.2) _ _ hP hD hS _ (lv_sub hl [0] rfl) hok
    · have hok := iq hok hc
      refine lv_iload_n hx hb dX5_addParagraph_26 rfl (lv_at hl 3 rfl) ?_
      refine lv_iconst (v := (0 : Int32)) hx hb dX5_addParagraph_27 (by decide) ?_
      refine lv_bipush (v := (9 : Int32)) hx hb dX5_addParagraph_28 (by decide) ?_
      obtain ⟨v3, hc3, hok⟩ := bd_some hok
      refine cRSi [.int a3, .int (0 : Int32), .int (9 : Int32)] S hK va_Pnil (c_X5_isIn l dC dI cI cZ a3 (0 : Int32) (9 : Int32) hc3) (lw_S qm_X5_53 qt_X5_isIn qn_X5 qc_X5_isIn) hd_X5_isIn ⟨rfl, rfl⟩ ⟨Nat.le_of_ble_eq_true rfl, Nat.le_of_ble_eq_true rfl⟩ ⟨Nat.le_of_ble_eq_true rfl, Nat.le_of_ble_eq_true rfl⟩ rfl hl.1 (Nat.le_of_ble_eq_true rfl) rfl dX5_addParagraph_30 ?_
      refine lv_if_ne (tgt := 42) hx hb dX5_addParagraph_33 (by decide) (fun hc => ?_) (fun hc => ?_)
      · have hok := iq hok hc
        refine lv_aload_n hx hb dX5_addParagraph_42 rfl (lv_at hl 0 rfl) ?_
        refine va_get (D := (dC, dI)) (ci := 5) (v := .ref l4) (C := RX5) (T := TX5) (N := 18) hx hb hts inX5 hown hK hP 0 rfl rfl 4 (by decide) (hts _ qf_X5_16) (fun _ h9 => h9) rfl dX5_addParagraph_43 ?_
        refine lv_iload_n hx hb dX5_addParagraph_46 rfl (lv_at hl 1 rfl) ?_
        obtain ⟨hi4, hok⟩ := gd_some hok
        refine va_iald hx hb hK hP 1 0 rfl rfl hi4 dX5_addParagraph_47 ?_
        refine lv_bipush (v := (9 : Int32)) hx hb dX5_addParagraph_48 (by decide) ?_
        refine lv_icmp_ne (tgt := 59) hx hb dX5_addParagraph_50 (by decide) (fun hc => ?_) (fun hc => ?_)
        · have hok := iq hok hc
          refine lv_bipush (v := (9 : Int32)) hx hb dX5_addParagraph_59 (by decide) ?_
          refine lv_iload_n hx hb dX5_addParagraph_61 rfl (lv_at hl 1 rfl) ?_
          refine lv_imul hx hb dX5_addParagraph_62 ?_
          refine lv_aload_n hx hb dX5_addParagraph_63 rfl (lv_at hl 0 rfl) ?_
          refine va_get (D := (dC, dI)) (ci := 5) (v := .ref l4) (C := RX5) (T := TX5) (N := 18) hx hb hts inX5 hown hK hP 0 rfl rfl 4 (by decide) (hts _ qf_X5_16) (fun _ h9 => h9) rfl dX5_addParagraph_64 ?_
          refine lv_iload_n hx hb dX5_addParagraph_67 rfl (lv_at hl 1 rfl) ?_
          refine va_iald hx hb hK hP 1 0 rfl rfl hi4 dX5_addParagraph_68 ?_
          refine lv_iadd hx hb dX5_addParagraph_69 ?_
          refine lv_istore (lv' := [(4, .int (((9 : Int32) * a1) + (uL.2.2.2.2.2.2.2.1 a1.toNatClampNeg))), (0, .ref l0), (1, .int a1), (2, .int a2), (3, .int a3)]) hx hb dX5_addParagraph_70 hl (by decide) rfl (fun ls hl => ?_)
          refine lv_aload_n hx hb dX5_addParagraph_72 rfl (lv_at hl 1 rfl) ?_
          refine va_get (D := (dC, dI)) (ci := 5) (v := .ref l5) (C := RX5) (T := TX5) (N := 18) hx hb hts inX5 hown hK hP 0 rfl rfl 5 (by decide) (hts _ qf_X5_20) (fun _ h9 => h9) rfl dX5_addParagraph_73 ?_
          refine lv_iload hx hb dX5_addParagraph_76 (lv_at hl 0 rfl) ?_
          refine lv_iload_n hx hb dX5_addParagraph_78 rfl (lv_at hl 3 rfl) ?_
          obtain ⟨hi5, hok⟩ := gd_some hok
          refine va_iast hx hb hK hP hD hS 2 0 rfl rfl hi5 dX5_addParagraph_79 (fun H locs hP _ hS => ?_)
          have hP : va_P (dC, dI) vwCl ((wX5 cI cZ l0 l4 l5 l6 l8 l10 l11 l12 l13 l14 l15 l16 (uL.1, uL.2.1, uL.2.2.1, (0 : Int32), uL.2.2.2.2.1, uL.2.2.2.2.2.1, uL.2.2.2.2.2.2.1, uL.2.2.2.2.2.2.2.1, (upd uL.2.2.2.2.2.2.2.2.1 (((9 : Int32) * a1) + (uL.2.2.2.2.2.2.2.1 a1.toNatClampNeg)).toNatClampNeg a2), uL.2.2.2.2.2.2.2.2.2))) H := hP
          have hD : va_D A ((wX5 cI cZ l0 l4 l5 l6 l8 l10 l11 l12 l13 l14 l15 l16 (uL.1, uL.2.1, uL.2.2.1, (0 : Int32), uL.2.2.2.2.1, uL.2.2.2.2.2.1, uL.2.2.2.2.2.2.1, uL.2.2.2.2.2.2.2.1, (upd uL.2.2.2.2.2.2.2.2.1 (((9 : Int32) * a1) + (uL.2.2.2.2.2.2.2.1 a1.toNatClampNeg)).toNatClampNeg a2), uL.2.2.2.2.2.2.2.2.2))) := D_L hD
          refine lv_aload_n hx hb dX5_addParagraph_80 rfl (lv_at hl 1 rfl) ?_
          refine va_get (D := (dC, dI)) (ci := 5) (v := .ref l6) (C := RX5) (T := TX5) (N := 18) hx hb hts inX5 hown hK hP 0 rfl rfl 6 (by decide) (hts _ qf_X5_23) (fun _ h9 => h9) rfl dX5_addParagraph_81 ?_
          refine lv_iload hx hb dX5_addParagraph_84 (lv_at hl 0 rfl) ?_
          refine lv_iload_n hx hb dX5_addParagraph_86 rfl (lv_at hl 4 rfl) ?_
          refine va_iast hx hb hK hP hD hS 3 0 rfl rfl hi5 dX5_addParagraph_87 (fun H locs hP _ hS => ?_)
          have hP : va_P (dC, dI) vwCl ((wX5 cI cZ l0 l4 l5 l6 l8 l10 l11 l12 l13 l14 l15 l16 (uL.1, uL.2.1, uL.2.2.1, (0 : Int32), uL.2.2.2.2.1, uL.2.2.2.2.2.1, uL.2.2.2.2.2.2.1, uL.2.2.2.2.2.2.2.1, (upd uL.2.2.2.2.2.2.2.2.1 (((9 : Int32) * a1) + (uL.2.2.2.2.2.2.2.1 a1.toNatClampNeg)).toNatClampNeg a2), (upd uL.2.2.2.2.2.2.2.2.2.1 (((9 : Int32) * a1) + (uL.2.2.2.2.2.2.2.1 a1.toNatClampNeg)).toNatClampNeg a3), uL.2.2.2.2.2.2.2.2.2.2))) H := hP
          have hD : va_D A ((wX5 cI cZ l0 l4 l5 l6 l8 l10 l11 l12 l13 l14 l15 l16 (uL.1, uL.2.1, uL.2.2.1, (0 : Int32), uL.2.2.2.2.1, uL.2.2.2.2.2.1, uL.2.2.2.2.2.2.1, uL.2.2.2.2.2.2.2.1, (upd uL.2.2.2.2.2.2.2.2.1 (((9 : Int32) * a1) + (uL.2.2.2.2.2.2.2.1 a1.toNatClampNeg)).toNatClampNeg a2), (upd uL.2.2.2.2.2.2.2.2.2.1 (((9 : Int32) * a1) + (uL.2.2.2.2.2.2.2.1 a1.toNatClampNeg)).toNatClampNeg a3), uL.2.2.2.2.2.2.2.2.2.2))) := D_L hD
          refine lv_aload_n hx hb dX5_addParagraph_88 rfl (lv_at hl 1 rfl) ?_
          refine va_get (D := (dC, dI)) (ci := 5) (v := .ref l4) (C := RX5) (T := TX5) (N := 18) hx hb hts inX5 hown hK hP 0 rfl rfl 4 (by decide) (hts _ qf_X5_16) (fun _ h9 => h9) rfl dX5_addParagraph_89 ?_
          refine lv_iload_n hx hb dX5_addParagraph_92 rfl (lv_at hl 2 rfl) ?_
          refine lv_dup2_11 hx hb dX5_addParagraph_93 rfl rfl ?_
          refine va_iald hx hb hK hP 1 0 rfl rfl hi4 dX5_addParagraph_94 ?_
          refine lv_iconst (v := (1 : Int32)) hx hb dX5_addParagraph_95 (by decide) ?_
          refine lv_iadd hx hb dX5_addParagraph_96 ?_
          refine va_iast hx hb hK hP hD hS 1 0 rfl rfl hi4 dX5_addParagraph_97 (fun H locs hP _ hS => ?_)
          have hP : va_P (dC, dI) vwCl ((wX5 cI cZ l0 l4 l5 l6 l8 l10 l11 l12 l13 l14 l15 l16 (uL.1, uL.2.1, uL.2.2.1, (0 : Int32), uL.2.2.2.2.1, uL.2.2.2.2.2.1, uL.2.2.2.2.2.2.1, (upd uL.2.2.2.2.2.2.2.1 a1.toNatClampNeg ((uL.2.2.2.2.2.2.2.1 a1.toNatClampNeg) + (1 : Int32))), (upd uL.2.2.2.2.2.2.2.2.1 (((9 : Int32) * a1) + (uL.2.2.2.2.2.2.2.1 a1.toNatClampNeg)).toNatClampNeg a2), (upd uL.2.2.2.2.2.2.2.2.2.1 (((9 : Int32) * a1) + (uL.2.2.2.2.2.2.2.1 a1.toNatClampNeg)).toNatClampNeg a3), uL.2.2.2.2.2.2.2.2.2.2))) H := hP
          have hD : va_D A ((wX5 cI cZ l0 l4 l5 l6 l8 l10 l11 l12 l13 l14 l15 l16 (uL.1, uL.2.1, uL.2.2.1, (0 : Int32), uL.2.2.2.2.1, uL.2.2.2.2.2.1, uL.2.2.2.2.2.2.1, (upd uL.2.2.2.2.2.2.2.1 a1.toNatClampNeg ((uL.2.2.2.2.2.2.2.1 a1.toNatClampNeg) + (1 : Int32))), (upd uL.2.2.2.2.2.2.2.2.1 (((9 : Int32) * a1) + (uL.2.2.2.2.2.2.2.1 a1.toNatClampNeg)).toNatClampNeg a2), (upd uL.2.2.2.2.2.2.2.2.2.1 (((9 : Int32) * a1) + (uL.2.2.2.2.2.2.2.1 a1.toNatClampNeg)).toNatClampNeg a3), uL.2.2.2.2.2.2.2.2.2.2))) := D_L hD
          refine lv_aload_n hx hb dX5_addParagraph_98 rfl (lv_at hl 1 rfl) ?_
          refine va_get (D := (dC, dI)) (ci := 5) (v := .ref l4) (C := RX5) (T := TX5) (N := 18) hx hb hts inX5 hown hK hP 0 rfl rfl 4 (by decide) (hts _ qf_X5_16) (fun _ h9 => h9) rfl dX5_addParagraph_99 ?_
          refine lv_iload_n hx hb dX5_addParagraph_102 rfl (lv_at hl 2 rfl) ?_
          refine va_iald hx hb hK hP 1 0 rfl rfl hi4 dX5_addParagraph_103 ?_
          refine lv_iconst (v := (1 : Int32)) hx hb dX5_addParagraph_104 (by decide) ?_
          refine lv_isub hx hb dX5_addParagraph_105 ?_
          have hok := Option.some.inj hok
          subst hok
          exact eWi S hr hlk rfl hP hS (Nat.le_of_ble_eq_true rfl) (Nat.le_of_ble_eq_true rfl) dX5_addParagraph_106
        · have hok := ip hok hc
          refine lv_aload_n hx hb dX5_addParagraph_53 rfl (lv_at hl 0 rfl) ?_
          refine lv_iconst (v := (3 : Int32)) hx hb dX5_addParagraph_54 (by decide) ?_
          obtain ⟨v6, hc6, hok⟩ := bd_some hok
          refine cWVi (ci := 5) (q0 := 0) [.int (3 : Int32)] S hK hP hD hS hA (c_X5_fail l dC dI cI cZ l0 l4 l5 l6 l8 l10 l11 l12 l13 l14 l15 l16 _ (uL.1, uL.2.1, uL.2.2.1, (0 : Int32), uL.2.2.2.2) (3 : Int32) hc6) (lw_V qm_X5_112 qi_X5_fail qs_X5_fail qn_X5 qc_X5_fail) hd_X5_fail ⟨rfl, rfl⟩ ⟨Nat.le_of_ble_eq_true rfl, Nat.le_of_ble_eq_true rfl⟩ ⟨Nat.le_of_ble_eq_true rfl, Nat.le_of_ble_eq_true rfl⟩ rfl rfl rfl hl.1 (Nat.le_of_ble_eq_true rfl) rfl dX5_addParagraph_55 (D_L hD) (fun H locs hP hD hS => ?_)
          have hok := Option.some.inj hok
          subst hok
          exact eWi S hr hlk rfl hP hS (Nat.le_of_ble_eq_true rfl) (Nat.le_of_ble_eq_true rfl) dX5_addParagraph_58
      · have hok := ip hok hc
        exact J36 (uL.1, uL.2.1, uL.2.2.1, (0 : Int32), uL.2.2.2.2) _ _ hP hD hS _ (lv_sub hl [0] rfl) hok
  · have hok := ip hok hc
    refine lv_aload_n hx hb dX5_addParagraph_13 rfl (lv_at hl 0 rfl) ?_
    refine lv_iconst (v := (1 : Int32)) hx hb dX5_addParagraph_14 (by decide) ?_
    obtain ⟨v7, hc7, hok⟩ := bd_some hok
    refine cWVi (ci := 5) (q0 := 0) [.int (1 : Int32)] S hK hP hD hS hA (c_X5_fail l dC dI cI cZ l0 l4 l5 l6 l8 l10 l11 l12 l13 l14 l15 l16 _ (uL.1, uL.2.1, uL.2.2.1, (0 : Int32), uL.2.2.2.2) (1 : Int32) hc7) (lw_V qm_X5_112 qi_X5_fail qs_X5_fail qn_X5 qc_X5_fail) hd_X5_fail ⟨rfl, rfl⟩ ⟨Nat.le_of_ble_eq_true rfl, Nat.le_of_ble_eq_true rfl⟩ ⟨Nat.le_of_ble_eq_true rfl, Nat.le_of_ble_eq_true rfl⟩ rfl rfl rfl hl.1 (Nat.le_of_ble_eq_true rfl) rfl dX5_addParagraph_15 (D_L hD) (fun H locs hP hD hS => ?_)
    have hok := Option.some.inj hok
    subst hok
    exact eWi S hr hlk rfl hP hS (Nat.le_of_ble_eq_true rfl) (Nat.le_of_ble_eq_true rfl) dX5_addParagraph_18
theorem hd_X5_turnTopic : yX5_turnTopic.cls = RX5 ∧ yX5_turnTopic.cls ≠ "java/lang/invoke/MethodHandle" ∧ yX5_turnTopic.cls ≠ "java/lang/invoke/VarHandle" ∧ (parseMethodDescriptor yX5_turnTopic.desc).map (fun d => d.parameters.length) = some 1 := by decide +kernel
def p_X5_turnTopic_J13 (uL : tX5) (l13_1 : Int32) (s13_0 : Int32) : Option (Int32 × tX5) :=
  if s13_0 ≤ 0 then
    bd (p_X5_has (uL.2.2.2.2.2.2.1 ^^^ ((1 : Int32) <<< (l13_1 &&& 31))) l13_1) (fun v2 =>
    gq (v2 &&& 1 = v2) (
    some (v2, (uL.1, uL.2.1, uL.2.2.1, s13_0, uL.2.2.2.2.1, uL.2.2.2.2.2.1, (uL.2.2.2.2.2.2.1 ^^^ ((1 : Int32) <<< (l13_1 &&& 31))), uL.2.2.2.2.2.2.2))))
  else
    some ((0 : Int32), (uL.1, uL.2.1, uL.2.2.1, s13_0, uL.2.2.2.2))
def p_X5_turnTopic (uL : tX5) (a1 : Int32) : Option (Int32 × tX5) :=
  bd (p_X5_isTopic a1) (fun v1 =>
  if v1 = 0 then
    p_X5_turnTopic_J13 uL a1 (1 : Int32)
  else
    p_X5_turnTopic_J13 uL a1 (0 : Int32))
set_option maxHeartbeats 4000000 in
set_option maxRecDepth 100000 in
theorem c_X5_turnTopic (l : Launch) (dC : Nat → ClassId) (dI : Nat → Nat → Nat) (cI cZ : ClassId) (l0 l4 l5 l6 l8 l10 l11 l12 l13 l14 l15 l16 : Nat) (sz : Nat) (uL : tX5) (a1 : Int32) {z : (Int32 × tX5)} (hok : p_X5_turnTopic uL a1 = some z) : Met l yX5_turnTopic (Cond.code yX5_turnTopic cX5_turnTopic 2 (some .boolean) :: lw_all) { frames := 2, cells := 0, slots := 0, locals := 42 } (prW (dC, dI) vwCl (TYS cI cZ) ((wX5 cI cZ l0 l4 l5 l6 l8 l10 l11 l12 l13 l14 l15 l16 uL)) sz [.ref l0, .int a1]) (va_Qi (fun (r : Int32) (_ : Unit) => r = z.1) (fun _ t => va_P (dC, dI) vwCl ((wX5 cI cZ l0 l4 l5 l6 l8 l10 l11 l12 l13 l14 l15 l16 z.2)) t.heap) (va_A ((wX5 cI cZ l0 l4 l5 l6 l8 l10 l11 l12 l13 l14 l15 l16 uL)) sz)) 0 0 (va_A ((wX5 cI cZ l0 l4 l5 l6 l8 l10 l11 l12 l13 l14 l15 l16 uL)) sz) := by
  refine oM (by decide) (Nat.le_of_ble_eq_true rfl) ?_
  intro p e s m args below meth c S hr hlk hnm hB ls hl
  have hx := S.1
  have hb := S.2.1
  have hml := S.2.2.1
  have hown : s.vm.findClass RX5 = some m.cls := S.2.2.2.1
  have hts := S.2.2.2.2
  have S : CallFix p m c cX5_turnTopic 2 s args lw_all RX5 := S
  have hl : lv_has ls 2 [(0, .ref l0), (1, .int a1)] := hl
  obtain ⟨hsz, hP, hK, hD0⟩ := hB
  subst hsz
  have hD := hD0.self (sz := s.heap.size)
  generalize hAe : va_A ((wX5 cI cZ l0 l4 l5 l6 l8 l10 l11 l12 l13 l14 l15 l16 uL)) s.heap.size = A at hD ⊢
  have hA : ∀ q : Nat, s.heap.size ≤ q → A q := fun q h => by rw [← hAe]; exact Or.inr h
  have hS : va_S A s.heap s.heap [] := va_S.rf
  have hP : va_P (dC, dI) vwCl ((wX5 cI cZ l0 l4 l5 l6 l8 l10 l11 l12 l13 l14 l15 l16 uL)) s.heap := hP
  have J13 : ∀ (uL : tX5) (l13_1 : Int32) (s13_0 : Int32) (H : Heap) (locs : List Loc) (hP : va_P (dC, dI) vwCl ((wX5 cI cZ l0 l4 l5 l6 l8 l10 l11 l12 l13 l14 l15 l16 uL)) H) (hD : va_D A ((wX5 cI cZ l0 l4 l5 l6 l8 l10 l11 l12 l13 l14 l15 l16 uL))) (hS : va_S A s.heap H locs) (ls : Array Slot) (hl : lv_has ls 2 [(0, .ref l0), (1, .int l13_1)]) (hok : p_X5_turnTopic_J13 uL l13_1 s13_0 = some z), W p l e { frames := 2, cells := 0, slots := 0, locals := 42 } s m args below meth c H locs 0 0 (MQ below (va_Qi (fun (r : Int32) (_ : Unit) => r = z.1) (fun _ t => va_P (dC, dI) vwCl ((wX5 cI cZ l0 l4 l5 l6 l8 l10 l11 l12 l13 l14 l15 l16 z.2)) t.heap) A) args s 0 0 A) (F0 m 13 ls [.int s13_0, .ref l0]) := by
    intro uL l13_1 s13_0 H locs hP hD hS ls hl hok
    unfold p_X5_turnTopic_J13 at hok
    refine va_put (D := (dC, dI)) (ci := 5) (v := .int s13_0) (ty := .int) (C := RX5) (T := TX5) (N := 18) hx hb hts inX5 tyX5 tyX5_ok nmX5 hown hK hP hD hS 0 rfl rfl 0 (by decide) (hts _ qf_X5_50) (fun _ h9 => h9) rfl (tyX5_ok 0 (by decide)) rfl rfl (Nat.le_of_ble_eq_true rfl) dX5_turnTopic_13 (fun H locs hP _ hS => ?_)
    have hP : va_P (dC, dI) vwCl ((wX5 cI cZ l0 l4 l5 l6 l8 l10 l11 l12 l13 l14 l15 l16 (uL.1, uL.2.1, uL.2.2.1, s13_0, uL.2.2.2.2))) H := hP
    have hD : va_D A ((wX5 cI cZ l0 l4 l5 l6 l8 l10 l11 l12 l13 l14 l15 l16 (uL.1, uL.2.1, uL.2.2.1, s13_0, uL.2.2.2.2))) := D_L hD
    refine lv_aload_n hx hb dX5_turnTopic_16 rfl (lv_at hl 0 rfl) ?_
    refine va_get (D := (dC, dI)) (ci := 5) (v := .int s13_0) (C := RX5) (T := TX5) (N := 18) hx hb hts inX5 hown hK hP 0 rfl rfl 0 (by decide) (hts _ qf_X5_50) (fun _ h9 => h9) rfl dX5_turnTopic_17 ?_
    refine lv_if_le (tgt := 25) hx hb dX5_turnTopic_20 (by decide) (fun hc => ?_) (fun hc => ?_)
    · have hok := ip hok hc
      refine lv_aload_n hx hb dX5_turnTopic_25 rfl (lv_at hl 0 rfl) ?_
      refine lv_dup hx hb dX5_turnTopic_26 rfl ?_
      refine va_get (D := (dC, dI)) (ci := 5) (v := .int uL.2.2.2.2.2.2.1) (C := RX5) (T := TX5) (N := 18) hx hb hts inX5 hown hK hP 0 rfl rfl 3 (by decide) (hts _ qf_X5_86) (fun _ h9 => h9) rfl dX5_turnTopic_27 ?_
      refine lv_iconst (v := (1 : Int32)) hx hb dX5_turnTopic_30 (by decide) ?_
      refine lv_iload_n hx hb dX5_turnTopic_31 rfl (lv_at hl 1 rfl) ?_
      refine lv_ishl hx hb dX5_turnTopic_32 ?_
      refine lv_ixor hx hb dX5_turnTopic_33 ?_
      refine va_put (D := (dC, dI)) (ci := 5) (v := .int (uL.2.2.2.2.2.2.1 ^^^ ((1 : Int32) <<< (l13_1 &&& 31)))) (ty := .int) (C := RX5) (T := TX5) (N := 18) hx hb hts inX5 tyX5 tyX5_ok nmX5 hown hK hP hD hS 0 rfl rfl 3 (by decide) (hts _ qf_X5_86) (fun _ h9 => h9) rfl (tyX5_ok 3 (by decide)) rfl rfl (Nat.le_of_ble_eq_true rfl) dX5_turnTopic_34 (fun H locs hP _ hS => ?_)
      have hP : va_P (dC, dI) vwCl ((wX5 cI cZ l0 l4 l5 l6 l8 l10 l11 l12 l13 l14 l15 l16 (uL.1, uL.2.1, uL.2.2.1, s13_0, uL.2.2.2.2.1, uL.2.2.2.2.2.1, (uL.2.2.2.2.2.2.1 ^^^ ((1 : Int32) <<< (l13_1 &&& 31))), uL.2.2.2.2.2.2.2))) H := hP
      have hD : va_D A ((wX5 cI cZ l0 l4 l5 l6 l8 l10 l11 l12 l13 l14 l15 l16 (uL.1, uL.2.1, uL.2.2.1, s13_0, uL.2.2.2.2.1, uL.2.2.2.2.2.1, (uL.2.2.2.2.2.2.1 ^^^ ((1 : Int32) <<< (l13_1 &&& 31))), uL.2.2.2.2.2.2.2))) := D_L hD
      refine lv_aload_n hx hb dX5_turnTopic_37 rfl (lv_at hl 0 rfl) ?_
      refine va_get (D := (dC, dI)) (ci := 5) (v := .int (uL.2.2.2.2.2.2.1 ^^^ ((1 : Int32) <<< (l13_1 &&& 31)))) (C := RX5) (T := TX5) (N := 18) hx hb hts inX5 hown hK hP 0 rfl rfl 3 (by decide) (hts _ qf_X5_86) (fun _ h9 => h9) rfl dX5_turnTopic_38 ?_
      refine lv_iload_n hx hb dX5_turnTopic_41 rfl (lv_at hl 1 rfl) ?_
      obtain ⟨v2, hc2, hok⟩ := bd_some hok
      refine cRSi [.int (uL.2.2.2.2.2.2.1 ^^^ ((1 : Int32) <<< (l13_1 &&& 31))), .int l13_1] S hK va_Pnil (c_X5_has l dC dI cI cZ (uL.2.2.2.2.2.2.1 ^^^ ((1 : Int32) <<< (l13_1 &&& 31))) l13_1 hc2) (lw_S qm_X5_69 qt_X5_has qn_X5 qc_X5_has) hd_X5_has ⟨rfl, rfl⟩ ⟨Nat.le_of_ble_eq_true rfl, Nat.le_of_ble_eq_true rfl⟩ ⟨Nat.le_of_ble_eq_true rfl, Nat.le_of_ble_eq_true rfl⟩ rfl hl.1 (Nat.le_of_ble_eq_true rfl) rfl dX5_turnTopic_42 ?_
      obtain ⟨hn3, hok⟩ := gq_some hok
      have hok := Option.some.inj hok
      subst hok
      exact eWz S hr hlk hn3 rfl hP hS (Nat.le_of_ble_eq_true rfl) (Nat.le_of_ble_eq_true rfl) dX5_turnTopic_45
    · have hok := iq hok hc
      refine lv_iconst (v := (0 : Int32)) hx hb dX5_turnTopic_23 (by decide) ?_
      have hok := Option.some.inj hok
      subst hok
      exact eWz S hr hlk (by decide) rfl hP hS (Nat.le_of_ble_eq_true rfl) (Nat.le_of_ble_eq_true rfl) dX5_turnTopic_24
  unfold p_X5_turnTopic at hok
  refine lv_aload_n hx hb dX5_turnTopic_0 rfl (lv_at hl 0 rfl) ?_
  refine lv_iload_n hx hb dX5_turnTopic_1 rfl (lv_at hl 1 rfl) ?_
  obtain ⟨v1, hc1, hok⟩ := bd_some hok
  refine cRSi [.int a1] S hK va_Pnil (c_X5_isTopic l dC dI cI cZ a1 hc1) (lw_S qm_X5_119 qt_X5_isTopic qn_X5 qc_X5_isTopic) hd_X5_isTopic ⟨rfl, rfl⟩ ⟨Nat.le_of_ble_eq_true rfl, Nat.le_of_ble_eq_true rfl⟩ ⟨Nat.le_of_ble_eq_true rfl, Nat.le_of_ble_eq_true rfl⟩ rfl hl.1 (Nat.le_of_ble_eq_true rfl) rfl dX5_turnTopic_2 ?_
  refine lv_if_eq (tgt := 12) hx hb dX5_turnTopic_5 (by decide) (fun hc => ?_) (fun hc => ?_)
  · have hok := ip hok hc
    refine lv_iconst (v := (1 : Int32)) hx hb dX5_turnTopic_12 (by decide) ?_
    exact J13 uL a1 (1 : Int32) _ _ hP hD hS _ hl hok
  · have hok := iq hok hc
    refine lv_iconst (v := (0 : Int32)) hx hb dX5_turnTopic_8 (by decide) ?_
    refine lv_goto (tgt := 13) hx hb dX5_turnTopic_9 (by decide) ?_
    exact J13 uL a1 (0 : Int32) _ _ hP hD hS _ hl hok
theorem hd_X5_setLimit : yX5_setLimit.cls = RX5 ∧ yX5_setLimit.cls ≠ "java/lang/invoke/MethodHandle" ∧ yX5_setLimit.cls ≠ "java/lang/invoke/VarHandle" ∧ (parseMethodDescriptor yX5_setLimit.desc).map (fun d => d.parameters.length) = some 1 := by decide +kernel
def p_X5_setLimit (uL : tX5) (a1 : Int32) : Option (Int32 × tX5) :=
  bd (p_X5_isIn a1 (1 : Int32) (99 : Int32)) (fun v1 =>
  if v1 = 0 then
    bd (p_X5_fail (uL.1, uL.2.1, uL.2.2.1, (0 : Int32), uL.2.2.2.2) (1 : Int32)) (fun v2 =>
    some (v2.1, v2.2))
  else
    some (uL.2.2.2.2.2.1, (uL.1, uL.2.1, uL.2.2.1, (0 : Int32), uL.2.2.2.2.1, a1, uL.2.2.2.2.2.2)))
set_option maxHeartbeats 4000000 in
set_option maxRecDepth 100000 in
theorem c_X5_setLimit (l : Launch) (dC : Nat → ClassId) (dI : Nat → Nat → Nat) (cI cZ : ClassId) (l0 l4 l5 l6 l8 l10 l11 l12 l13 l14 l15 l16 : Nat) (sz : Nat) (uL : tX5) (a1 : Int32) {z : (Int32 × tX5)} (hok : p_X5_setLimit uL a1 = some z) : Met l yX5_setLimit (Cond.code yX5_setLimit cX5_setLimit 3 (some .int) :: lw_all) { frames := 1, cells := 0, slots := 0, locals := 22 } (prW (dC, dI) vwCl (TYS cI cZ) ((wX5 cI cZ l0 l4 l5 l6 l8 l10 l11 l12 l13 l14 l15 l16 uL)) sz [.ref l0, .int a1]) (va_Qi (fun (r : Int32) (_ : Unit) => r = z.1) (fun _ t => va_P (dC, dI) vwCl ((wX5 cI cZ l0 l4 l5 l6 l8 l10 l11 l12 l13 l14 l15 l16 z.2)) t.heap) (va_A ((wX5 cI cZ l0 l4 l5 l6 l8 l10 l11 l12 l13 l14 l15 l16 uL)) sz)) 0 0 (va_A ((wX5 cI cZ l0 l4 l5 l6 l8 l10 l11 l12 l13 l14 l15 l16 uL)) sz) := by
  refine oM (by decide) (Nat.le_of_ble_eq_true rfl) ?_
  intro p e s m args below meth c S hr hlk hnm hB ls hl
  have hx := S.1
  have hb := S.2.1
  have hml := S.2.2.1
  have hown : s.vm.findClass RX5 = some m.cls := S.2.2.2.1
  have hts := S.2.2.2.2
  have S : CallFix p m c cX5_setLimit 3 s args lw_all RX5 := S
  have hl : lv_has ls 3 [(0, .ref l0), (1, .int a1)] := hl
  obtain ⟨hsz, hP, hK, hD0⟩ := hB
  subst hsz
  have hD := hD0.self (sz := s.heap.size)
  generalize hAe : va_A ((wX5 cI cZ l0 l4 l5 l6 l8 l10 l11 l12 l13 l14 l15 l16 uL)) s.heap.size = A at hD ⊢
  have hA : ∀ q : Nat, s.heap.size ≤ q → A q := fun q h => by rw [← hAe]; exact Or.inr h
  have hS : va_S A s.heap s.heap [] := va_S.rf
  have hP : va_P (dC, dI) vwCl ((wX5 cI cZ l0 l4 l5 l6 l8 l10 l11 l12 l13 l14 l15 l16 uL)) s.heap := hP
  unfold p_X5_setLimit at hok
  refine lv_aload_n hx hb dX5_setLimit_0 rfl (lv_at hl 0 rfl) ?_
  refine lv_iconst (v := (0 : Int32)) hx hb dX5_setLimit_1 (by decide) ?_
  refine va_put (D := (dC, dI)) (ci := 5) (v := .int (0 : Int32)) (ty := .int) (C := RX5) (T := TX5) (N := 18) hx hb hts inX5 tyX5 tyX5_ok nmX5 hown hK hP hD hS 0 rfl rfl 0 (by decide) (hts _ qf_X5_50) (fun _ h9 => h9) rfl (tyX5_ok 0 (by decide)) rfl rfl (Nat.le_of_ble_eq_true rfl) dX5_setLimit_2 (fun H locs hP _ hS => ?_)
  have hP : va_P (dC, dI) vwCl ((wX5 cI cZ l0 l4 l5 l6 l8 l10 l11 l12 l13 l14 l15 l16 (uL.1, uL.2.1, uL.2.2.1, (0 : Int32), uL.2.2.2.2))) H := hP
  have hD : va_D A ((wX5 cI cZ l0 l4 l5 l6 l8 l10 l11 l12 l13 l14 l15 l16 (uL.1, uL.2.1, uL.2.2.1, (0 : Int32), uL.2.2.2.2))) := D_L hD
  refine lv_iload_n hx hb dX5_setLimit_5 rfl (lv_at hl 1 rfl) ?_
  refine lv_iconst (v := (1 : Int32)) hx hb dX5_setLimit_6 (by decide) ?_
  refine lv_bipush (v := (99 : Int32)) hx hb dX5_setLimit_7 (by decide) ?_
  obtain ⟨v1, hc1, hok⟩ := bd_some hok
  refine cRSi [.int a1, .int (1 : Int32), .int (99 : Int32)] S hK va_Pnil (c_X5_isIn l dC dI cI cZ a1 (1 : Int32) (99 : Int32) hc1) (lw_S qm_X5_53 qt_X5_isIn qn_X5 qc_X5_isIn) hd_X5_isIn ⟨rfl, rfl⟩ ⟨Nat.le_of_ble_eq_true rfl, Nat.le_of_ble_eq_true rfl⟩ ⟨Nat.le_of_ble_eq_true rfl, Nat.le_of_ble_eq_true rfl⟩ rfl hl.1 (Nat.le_of_ble_eq_true rfl) rfl dX5_setLimit_9 ?_
  refine lv_if_ne (tgt := 21) hx hb dX5_setLimit_12 (by decide) (fun hc => ?_) (fun hc => ?_)
  · have hok := iq hok hc
    refine lv_aload_n hx hb dX5_setLimit_21 rfl (lv_at hl 0 rfl) ?_
    refine va_get (D := (dC, dI)) (ci := 5) (v := .int uL.2.2.2.2.2.1) (C := RX5) (T := TX5) (N := 18) hx hb hts inX5 hown hK hP 0 rfl rfl 2 (by decide) (hts _ qf_X5_13) (fun _ h9 => h9) rfl dX5_setLimit_22 ?_
    refine lv_istore_n (lv' := [(2, .int uL.2.2.2.2.2.1), (0, .ref l0), (1, .int a1)]) hx hb dX5_setLimit_25 rfl hl (by decide) rfl (fun ls hl => ?_)
    refine lv_aload_n hx hb dX5_setLimit_26 rfl (lv_at hl 1 rfl) ?_
    refine lv_iload_n hx hb dX5_setLimit_27 rfl (lv_at hl 2 rfl) ?_
    refine va_put (D := (dC, dI)) (ci := 5) (v := .int a1) (ty := .int) (C := RX5) (T := TX5) (N := 18) hx hb hts inX5 tyX5 tyX5_ok nmX5 hown hK hP hD hS 0 rfl rfl 2 (by decide) (hts _ qf_X5_13) (fun _ h9 => h9) rfl (tyX5_ok 2 (by decide)) rfl rfl (Nat.le_of_ble_eq_true rfl) dX5_setLimit_28 (fun H locs hP _ hS => ?_)
    have hP : va_P (dC, dI) vwCl ((wX5 cI cZ l0 l4 l5 l6 l8 l10 l11 l12 l13 l14 l15 l16 (uL.1, uL.2.1, uL.2.2.1, (0 : Int32), uL.2.2.2.2.1, a1, uL.2.2.2.2.2.2))) H := hP
    have hD : va_D A ((wX5 cI cZ l0 l4 l5 l6 l8 l10 l11 l12 l13 l14 l15 l16 (uL.1, uL.2.1, uL.2.2.1, (0 : Int32), uL.2.2.2.2.1, a1, uL.2.2.2.2.2.2))) := D_L hD
    refine lv_iload_n hx hb dX5_setLimit_31 rfl (lv_at hl 0 rfl) ?_
    have hok := Option.some.inj hok
    subst hok
    exact eWi S hr hlk rfl hP hS (Nat.le_of_ble_eq_true rfl) (Nat.le_of_ble_eq_true rfl) dX5_setLimit_32
  · have hok := ip hok hc
    refine lv_aload_n hx hb dX5_setLimit_15 rfl (lv_at hl 0 rfl) ?_
    refine lv_iconst (v := (1 : Int32)) hx hb dX5_setLimit_16 (by decide) ?_
    obtain ⟨v2, hc2, hok⟩ := bd_some hok
    refine cWVi (ci := 5) (q0 := 0) [.int (1 : Int32)] S hK hP hD hS hA (c_X5_fail l dC dI cI cZ l0 l4 l5 l6 l8 l10 l11 l12 l13 l14 l15 l16 _ (uL.1, uL.2.1, uL.2.2.1, (0 : Int32), uL.2.2.2.2) (1 : Int32) hc2) (lw_V qm_X5_112 qi_X5_fail qs_X5_fail qn_X5 qc_X5_fail) hd_X5_fail ⟨rfl, rfl⟩ ⟨Nat.le_of_ble_eq_true rfl, Nat.le_of_ble_eq_true rfl⟩ ⟨Nat.le_of_ble_eq_true rfl, Nat.le_of_ble_eq_true rfl⟩ rfl rfl rfl hl.1 (Nat.le_of_ble_eq_true rfl) rfl dX5_setLimit_17 (D_L hD) (fun H locs hP hD hS => ?_)
    have hok := Option.some.inj hok
    subst hok
    exact eWi S hr hlk rfl hP hS (Nat.le_of_ble_eq_true rfl) (Nat.le_of_ble_eq_true rfl) dX5_setLimit_20
theorem hd_X5_addReader : yX5_addReader.cls = RX5 ∧ yX5_addReader.cls ≠ "java/lang/invoke/MethodHandle" ∧ yX5_addReader.cls ≠ "java/lang/invoke/VarHandle" ∧ (parseMethodDescriptor yX5_addReader.desc).map (fun d => d.parameters.length) = some 2 := by decide +kernel
def p_X5_addReader_J22 (uL : tX5) : Option (Int32 × tX5) :=
  bd (p_X5_fail uL (1 : Int32)) (fun v6 =>
  some (v6.1, v6.2))
def p_X5_addReader (uL : tX5) (a1 : Int32) (a2 : Int32) : Option (Int32 × tX5) :=
  bd (p_X5_isTopic a1) (fun v1 =>
  if v1 = 0 then
    p_X5_addReader_J22 (uL.1, uL.2.1, uL.2.2.1, (0 : Int32), uL.2.2.2.2)
  else
    bd (p_X5_isIn a2 (1 : Int32) (20 : Int32)) (fun v2 =>
    if v2 = 0 then
      p_X5_addReader_J22 (uL.1, uL.2.1, uL.2.2.1, (0 : Int32), uL.2.2.2.2)
    else
      if uL.2.2.2.2.2.2.2.2.2.2.1 = (8 : Int32) then
        bd (p_X5_fail (uL.1, uL.2.1, uL.2.2.1, (0 : Int32), uL.2.2.2.2) (2 : Int32)) (fun v5 =>
        some (v5.1, v5.2))
      else
        gd uL.2.2.2.2.2.2.2.2.2.2.1 8 (
        gd ((33 : Int32) + uL.2.2.2.2.2.2.2.2.2.2.1) 41 (
        some (((uL.2.2.2.2.2.2.2.2.2.2.1 + (1 : Int32)) - (1 : Int32)), ((upd (upd uL.1 ((33 : Int32) + uL.2.2.2.2.2.2.2.2.2.2.1).toNatClampNeg a2) 7 (((upd uL.1 ((33 : Int32) + uL.2.2.2.2.2.2.2.2.2.2.1).toNatClampNeg a2) 7) ||| ((1 : Int32) <<< (uL.2.2.2.2.2.2.2.2.2.2.1 &&& 31)))), uL.2.1, uL.2.2.1, (0 : Int32), uL.2.2.2.2.1, uL.2.2.2.2.2.1, uL.2.2.2.2.2.2.1, uL.2.2.2.2.2.2.2.1, uL.2.2.2.2.2.2.2.2.1, uL.2.2.2.2.2.2.2.2.2.1, (uL.2.2.2.2.2.2.2.2.2.2.1 + (1 : Int32)), (upd uL.2.2.2.2.2.2.2.2.2.2.2.1 uL.2.2.2.2.2.2.2.2.2.2.1.toNatClampNeg a1), uL.2.2.2.2.2.2.2.2.2.2.2.2))))))
set_option maxHeartbeats 4000000 in
set_option maxRecDepth 100000 in
theorem c_X5_addReader (l : Launch) (dC : Nat → ClassId) (dI : Nat → Nat → Nat) (cI cZ : ClassId) (l0 l4 l5 l6 l8 l10 l11 l12 l13 l14 l15 l16 : Nat) (sz : Nat) (uL : tX5) (a1 : Int32) (a2 : Int32) {z : (Int32 × tX5)} (hok : p_X5_addReader uL a1 a2 = some z) : Met l yX5_addReader (Cond.code yX5_addReader cX5_addReader 3 (some .int) :: lw_all) { frames := 2, cells := 0, slots := 0, locals := 42 } (prW (dC, dI) vwCl (TYS cI cZ) ((wX5 cI cZ l0 l4 l5 l6 l8 l10 l11 l12 l13 l14 l15 l16 uL)) sz [.ref l0, .int a1, .int a2]) (va_Qi (fun (r : Int32) (_ : Unit) => r = z.1) (fun _ t => va_P (dC, dI) vwCl ((wX5 cI cZ l0 l4 l5 l6 l8 l10 l11 l12 l13 l14 l15 l16 z.2)) t.heap) (va_A ((wX5 cI cZ l0 l4 l5 l6 l8 l10 l11 l12 l13 l14 l15 l16 uL)) sz)) 0 0 (va_A ((wX5 cI cZ l0 l4 l5 l6 l8 l10 l11 l12 l13 l14 l15 l16 uL)) sz) := by
  refine oM (by decide) (Nat.le_of_ble_eq_true rfl) ?_
  intro p e s m args below meth c S hr hlk hnm hB ls hl
  have hx := S.1
  have hb := S.2.1
  have hml := S.2.2.1
  have hown : s.vm.findClass RX5 = some m.cls := S.2.2.2.1
  have hts := S.2.2.2.2
  have S : CallFix p m c cX5_addReader 3 s args lw_all RX5 := S
  have hl : lv_has ls 3 [(0, .ref l0), (1, .int a1), (2, .int a2)] := hl
  obtain ⟨hsz, hP, hK, hD0⟩ := hB
  subst hsz
  have hD := hD0.self (sz := s.heap.size)
  generalize hAe : va_A ((wX5 cI cZ l0 l4 l5 l6 l8 l10 l11 l12 l13 l14 l15 l16 uL)) s.heap.size = A at hD ⊢
  have hA : ∀ q : Nat, s.heap.size ≤ q → A q := fun q h => by rw [← hAe]; exact Or.inr h
  have hS : va_S A s.heap s.heap [] := va_S.rf
  have hP : va_P (dC, dI) vwCl ((wX5 cI cZ l0 l4 l5 l6 l8 l10 l11 l12 l13 l14 l15 l16 uL)) s.heap := hP
  have J22 : ∀ (uL : tX5) (H : Heap) (locs : List Loc) (hP : va_P (dC, dI) vwCl ((wX5 cI cZ l0 l4 l5 l6 l8 l10 l11 l12 l13 l14 l15 l16 uL)) H) (hD : va_D A ((wX5 cI cZ l0 l4 l5 l6 l8 l10 l11 l12 l13 l14 l15 l16 uL))) (hS : va_S A s.heap H locs) (ls : Array Slot) (hl : lv_has ls 3 [(0, .ref l0)]) (hok : p_X5_addReader_J22 uL = some z), W p l e { frames := 2, cells := 0, slots := 0, locals := 42 } s m args below meth c H locs 0 0 (MQ below (va_Qi (fun (r : Int32) (_ : Unit) => r = z.1) (fun _ t => va_P (dC, dI) vwCl ((wX5 cI cZ l0 l4 l5 l6 l8 l10 l11 l12 l13 l14 l15 l16 z.2)) t.heap) A) args s 0 0 A) (F0 m 22 ls []) := by
    intro uL H locs hP hD hS ls hl hok
    unfold p_X5_addReader_J22 at hok
    refine lv_aload_n hx hb dX5_addReader_22 rfl (lv_at hl 0 rfl) ?_
    refine lv_iconst (v := (1 : Int32)) hx hb dX5_addReader_23 (by decide) ?_
    obtain ⟨v6, hc6, hok⟩ := bd_some hok
    refine cWVi (ci := 5) (q0 := 0) [.int (1 : Int32)] S hK hP hD hS hA (c_X5_fail l dC dI cI cZ l0 l4 l5 l6 l8 l10 l11 l12 l13 l14 l15 l16 _ uL (1 : Int32) hc6) (lw_V qm_X5_112 qi_X5_fail qs_X5_fail qn_X5 qc_X5_fail) hd_X5_fail ⟨rfl, rfl⟩ ⟨Nat.le_of_ble_eq_true rfl, Nat.le_of_ble_eq_true rfl⟩ ⟨Nat.le_of_ble_eq_true rfl, Nat.le_of_ble_eq_true rfl⟩ rfl rfl rfl hl.1 (Nat.le_of_ble_eq_true rfl) rfl dX5_addReader_24 (D_L hD) (fun H locs hP hD hS => ?_)
    have hok := Option.some.inj hok
    subst hok
    exact eWi S hr hlk rfl hP hS (Nat.le_of_ble_eq_true rfl) (Nat.le_of_ble_eq_true rfl) dX5_addReader_27
  unfold p_X5_addReader at hok
  refine lv_aload_n hx hb dX5_addReader_0 rfl (lv_at hl 0 rfl) ?_
  refine lv_iconst (v := (0 : Int32)) hx hb dX5_addReader_1 (by decide) ?_
  refine va_put (D := (dC, dI)) (ci := 5) (v := .int (0 : Int32)) (ty := .int) (C := RX5) (T := TX5) (N := 18) hx hb hts inX5 tyX5 tyX5_ok nmX5 hown hK hP hD hS 0 rfl rfl 0 (by decide) (hts _ qf_X5_50) (fun _ h9 => h9) rfl (tyX5_ok 0 (by decide)) rfl rfl (Nat.le_of_ble_eq_true rfl) dX5_addReader_2 (fun H locs hP _ hS => ?_)
  have hP : va_P (dC, dI) vwCl ((wX5 cI cZ l0 l4 l5 l6 l8 l10 l11 l12 l13 l14 l15 l16 (uL.1, uL.2.1, uL.2.2.1, (0 : Int32), uL.2.2.2.2))) H := hP
  have hD : va_D A ((wX5 cI cZ l0 l4 l5 l6 l8 l10 l11 l12 l13 l14 l15 l16 (uL.1, uL.2.1, uL.2.2.1, (0 : Int32), uL.2.2.2.2))) := D_L hD
  refine lv_iload_n hx hb dX5_addReader_5 rfl (lv_at hl 1 rfl) ?_
  obtain ⟨v1, hc1, hok⟩ := bd_some hok
  refine cRSi [.int a1] S hK va_Pnil (c_X5_isTopic l dC dI cI cZ a1 hc1) (lw_S qm_X5_119 qt_X5_isTopic qn_X5 qc_X5_isTopic) hd_X5_isTopic ⟨rfl, rfl⟩ ⟨Nat.le_of_ble_eq_true rfl, Nat.le_of_ble_eq_true rfl⟩ ⟨Nat.le_of_ble_eq_true rfl, Nat.le_of_ble_eq_true rfl⟩ rfl hl.1 (Nat.le_of_ble_eq_true rfl) rfl dX5_addReader_6 ?_
  refine lv_if_eq (tgt := 22) hx hb dX5_addReader_9 (by decide) (fun hc => ?_) (fun hc => ?_)
  · have hok := ip hok hc
    exact J22 (uL.1, uL.2.1, uL.2.2.1, (0 : Int32), uL.2.2.2.2) _ _ hP hD hS _ (lv_sub hl [0] rfl) hok
  · have hok := iq hok hc
    refine lv_iload_n hx hb dX5_addReader_12 rfl (lv_at hl 2 rfl) ?_
    refine lv_iconst (v := (1 : Int32)) hx hb dX5_addReader_13 (by decide) ?_
    refine lv_bipush (v := (20 : Int32)) hx hb dX5_addReader_14 (by decide) ?_
    obtain ⟨v2, hc2, hok⟩ := bd_some hok
    refine cRSi [.int a2, .int (1 : Int32), .int (20 : Int32)] S hK va_Pnil (c_X5_isIn l dC dI cI cZ a2 (1 : Int32) (20 : Int32) hc2) (lw_S qm_X5_53 qt_X5_isIn qn_X5 qc_X5_isIn) hd_X5_isIn ⟨rfl, rfl⟩ ⟨Nat.le_of_ble_eq_true rfl, Nat.le_of_ble_eq_true rfl⟩ ⟨Nat.le_of_ble_eq_true rfl, Nat.le_of_ble_eq_true rfl⟩ rfl hl.1 (Nat.le_of_ble_eq_true rfl) rfl dX5_addReader_16 ?_
    refine lv_if_ne (tgt := 28) hx hb dX5_addReader_19 (by decide) (fun hc => ?_) (fun hc => ?_)
    · have hok := iq hok hc
      refine lv_aload_n hx hb dX5_addReader_28 rfl (lv_at hl 0 rfl) ?_
      refine va_get (D := (dC, dI)) (ci := 5) (v := .int uL.2.2.2.2.2.2.2.2.2.2.1) (C := RX5) (T := TX5) (N := 18) hx hb hts inX5 hown hK hP 0 rfl rfl 7 (by decide) (hts _ qf_X5_57) (fun _ h9 => h9) rfl dX5_addReader_29 ?_
      refine lv_bipush (v := (8 : Int32)) hx hb dX5_addReader_32 (by decide) ?_
      refine lv_icmp_ne (tgt := 43) hx hb dX5_addReader_34 (by decide) (fun hc => ?_) (fun hc => ?_)
      · have hok := iq hok hc
        refine lv_aload_n hx hb dX5_addReader_43 rfl (lv_at hl 0 rfl) ?_
        refine va_get (D := (dC, dI)) (ci := 5) (v := .ref l8) (C := RX5) (T := TX5) (N := 18) hx hb hts inX5 hown hK hP 0 rfl rfl 8 (by decide) (hts _ qf_X5_26) (fun _ h9 => h9) rfl dX5_addReader_44 ?_
        refine lv_aload_n hx hb dX5_addReader_47 rfl (lv_at hl 0 rfl) ?_
        refine va_get (D := (dC, dI)) (ci := 5) (v := .int uL.2.2.2.2.2.2.2.2.2.2.1) (C := RX5) (T := TX5) (N := 18) hx hb hts inX5 hown hK hP 0 rfl rfl 7 (by decide) (hts _ qf_X5_57) (fun _ h9 => h9) rfl dX5_addReader_48 ?_
        refine lv_iload_n hx hb dX5_addReader_51 rfl (lv_at hl 1 rfl) ?_
        obtain ⟨hi3, hok⟩ := gd_some hok
        refine va_iast hx hb hK hP hD hS 4 0 rfl rfl hi3 dX5_addReader_52 (fun H locs hP _ hS => ?_)
        have hP : va_P (dC, dI) vwCl ((wX5 cI cZ l0 l4 l5 l6 l8 l10 l11 l12 l13 l14 l15 l16 (uL.1, uL.2.1, uL.2.2.1, (0 : Int32), uL.2.2.2.2.1, uL.2.2.2.2.2.1, uL.2.2.2.2.2.2.1, uL.2.2.2.2.2.2.2.1, uL.2.2.2.2.2.2.2.2.1, uL.2.2.2.2.2.2.2.2.2.1, uL.2.2.2.2.2.2.2.2.2.2.1, (upd uL.2.2.2.2.2.2.2.2.2.2.2.1 uL.2.2.2.2.2.2.2.2.2.2.1.toNatClampNeg a1), uL.2.2.2.2.2.2.2.2.2.2.2.2))) H := hP
        have hD : va_D A ((wX5 cI cZ l0 l4 l5 l6 l8 l10 l11 l12 l13 l14 l15 l16 (uL.1, uL.2.1, uL.2.2.1, (0 : Int32), uL.2.2.2.2.1, uL.2.2.2.2.2.1, uL.2.2.2.2.2.2.1, uL.2.2.2.2.2.2.2.1, uL.2.2.2.2.2.2.2.2.1, uL.2.2.2.2.2.2.2.2.2.1, uL.2.2.2.2.2.2.2.2.2.2.1, (upd uL.2.2.2.2.2.2.2.2.2.2.2.1 uL.2.2.2.2.2.2.2.2.2.2.1.toNatClampNeg a1), uL.2.2.2.2.2.2.2.2.2.2.2.2))) := D_L hD
        refine lv_aload_n hx hb dX5_addReader_53 rfl (lv_at hl 0 rfl) ?_
        refine va_get (D := (dC, dI)) (ci := 5) (v := .ref l15) (C := RX5) (T := TX5) (N := 18) hx hb hts inX5 hown hK hP 0 rfl rfl 15 (by decide) (hts _ qf_X5_44) (fun _ h9 => h9) rfl dX5_addReader_54 ?_
        refine lv_bipush (v := (33 : Int32)) hx hb dX5_addReader_57 (by decide) ?_
        refine lv_aload_n hx hb dX5_addReader_59 rfl (lv_at hl 0 rfl) ?_
        refine va_get (D := (dC, dI)) (ci := 5) (v := .int uL.2.2.2.2.2.2.2.2.2.2.1) (C := RX5) (T := TX5) (N := 18) hx hb hts inX5 hown hK hP 0 rfl rfl 7 (by decide) (hts _ qf_X5_57) (fun _ h9 => h9) rfl dX5_addReader_60 ?_
        refine lv_iadd hx hb dX5_addReader_63 ?_
        refine lv_iload_n hx hb dX5_addReader_64 rfl (lv_at hl 2 rfl) ?_
        obtain ⟨hi4, hok⟩ := gd_some hok
        refine va_iast hx hb hK hP hD hS 10 0 rfl rfl hi4 dX5_addReader_65 (fun H locs hP _ hS => ?_)
        have hP : va_P (dC, dI) vwCl ((wX5 cI cZ l0 l4 l5 l6 l8 l10 l11 l12 l13 l14 l15 l16 ((upd uL.1 ((33 : Int32) + uL.2.2.2.2.2.2.2.2.2.2.1).toNatClampNeg a2), uL.2.1, uL.2.2.1, (0 : Int32), uL.2.2.2.2.1, uL.2.2.2.2.2.1, uL.2.2.2.2.2.2.1, uL.2.2.2.2.2.2.2.1, uL.2.2.2.2.2.2.2.2.1, uL.2.2.2.2.2.2.2.2.2.1, uL.2.2.2.2.2.2.2.2.2.2.1, (upd uL.2.2.2.2.2.2.2.2.2.2.2.1 uL.2.2.2.2.2.2.2.2.2.2.1.toNatClampNeg a1), uL.2.2.2.2.2.2.2.2.2.2.2.2))) H := hP
        have hD : va_D A ((wX5 cI cZ l0 l4 l5 l6 l8 l10 l11 l12 l13 l14 l15 l16 ((upd uL.1 ((33 : Int32) + uL.2.2.2.2.2.2.2.2.2.2.1).toNatClampNeg a2), uL.2.1, uL.2.2.1, (0 : Int32), uL.2.2.2.2.1, uL.2.2.2.2.2.1, uL.2.2.2.2.2.2.1, uL.2.2.2.2.2.2.2.1, uL.2.2.2.2.2.2.2.2.1, uL.2.2.2.2.2.2.2.2.2.1, uL.2.2.2.2.2.2.2.2.2.2.1, (upd uL.2.2.2.2.2.2.2.2.2.2.2.1 uL.2.2.2.2.2.2.2.2.2.2.1.toNatClampNeg a1), uL.2.2.2.2.2.2.2.2.2.2.2.2))) := D_L hD
        refine lv_aload_n hx hb dX5_addReader_66 rfl (lv_at hl 0 rfl) ?_
        refine va_get (D := (dC, dI)) (ci := 5) (v := .ref l15) (C := RX5) (T := TX5) (N := 18) hx hb hts inX5 hown hK hP 0 rfl rfl 15 (by decide) (hts _ qf_X5_44) (fun _ h9 => h9) rfl dX5_addReader_67 ?_
        refine lv_bipush (v := (7 : Int32)) hx hb dX5_addReader_70 (by decide) ?_
        refine lv_dup2_11 hx hb dX5_addReader_72 rfl rfl ?_
        refine va_ialdK hx hb hK hP 10 0 rfl rfl (j := 7) (by decide) (vp_inK (by decide)) dX5_addReader_73 ?_
        refine lv_iconst (v := (1 : Int32)) hx hb dX5_addReader_74 (by decide) ?_
        refine lv_aload_n hx hb dX5_addReader_75 rfl (lv_at hl 0 rfl) ?_
        refine va_get (D := (dC, dI)) (ci := 5) (v := .int uL.2.2.2.2.2.2.2.2.2.2.1) (C := RX5) (T := TX5) (N := 18) hx hb hts inX5 hown hK hP 0 rfl rfl 7 (by decide) (hts _ qf_X5_57) (fun _ h9 => h9) rfl dX5_addReader_76 ?_
        refine lv_ishl hx hb dX5_addReader_79 ?_
        refine lv_ior hx hb dX5_addReader_80 ?_
        refine va_iastK hx hb hK hP hD hS 10 0 rfl rfl (j := 7) (by decide) (vp_inK (by decide)) dX5_addReader_81 (fun H locs hP _ hS => ?_)
        have hP : va_P (dC, dI) vwCl ((wX5 cI cZ l0 l4 l5 l6 l8 l10 l11 l12 l13 l14 l15 l16 ((upd (upd uL.1 ((33 : Int32) + uL.2.2.2.2.2.2.2.2.2.2.1).toNatClampNeg a2) 7 (((upd uL.1 ((33 : Int32) + uL.2.2.2.2.2.2.2.2.2.2.1).toNatClampNeg a2) 7) ||| ((1 : Int32) <<< (uL.2.2.2.2.2.2.2.2.2.2.1 &&& 31)))), uL.2.1, uL.2.2.1, (0 : Int32), uL.2.2.2.2.1, uL.2.2.2.2.2.1, uL.2.2.2.2.2.2.1, uL.2.2.2.2.2.2.2.1, uL.2.2.2.2.2.2.2.2.1, uL.2.2.2.2.2.2.2.2.2.1, uL.2.2.2.2.2.2.2.2.2.2.1, (upd uL.2.2.2.2.2.2.2.2.2.2.2.1 uL.2.2.2.2.2.2.2.2.2.2.1.toNatClampNeg a1), uL.2.2.2.2.2.2.2.2.2.2.2.2))) H := hP
        have hD : va_D A ((wX5 cI cZ l0 l4 l5 l6 l8 l10 l11 l12 l13 l14 l15 l16 ((upd (upd uL.1 ((33 : Int32) + uL.2.2.2.2.2.2.2.2.2.2.1).toNatClampNeg a2) 7 (((upd uL.1 ((33 : Int32) + uL.2.2.2.2.2.2.2.2.2.2.1).toNatClampNeg a2) 7) ||| ((1 : Int32) <<< (uL.2.2.2.2.2.2.2.2.2.2.1 &&& 31)))), uL.2.1, uL.2.2.1, (0 : Int32), uL.2.2.2.2.1, uL.2.2.2.2.2.1, uL.2.2.2.2.2.2.1, uL.2.2.2.2.2.2.2.1, uL.2.2.2.2.2.2.2.2.1, uL.2.2.2.2.2.2.2.2.2.1, uL.2.2.2.2.2.2.2.2.2.2.1, (upd uL.2.2.2.2.2.2.2.2.2.2.2.1 uL.2.2.2.2.2.2.2.2.2.2.1.toNatClampNeg a1), uL.2.2.2.2.2.2.2.2.2.2.2.2))) := D_L hD
        refine lv_aload_n hx hb dX5_addReader_82 rfl (lv_at hl 0 rfl) ?_
        refine lv_dup hx hb dX5_addReader_83 rfl ?_
        refine va_get (D := (dC, dI)) (ci := 5) (v := .int uL.2.2.2.2.2.2.2.2.2.2.1) (C := RX5) (T := TX5) (N := 18) hx hb hts inX5 hown hK hP 0 rfl rfl 7 (by decide) (hts _ qf_X5_57) (fun _ h9 => h9) rfl dX5_addReader_84 ?_
        refine lv_iconst (v := (1 : Int32)) hx hb dX5_addReader_87 (by decide) ?_
        refine lv_iadd hx hb dX5_addReader_88 ?_
        refine va_put (D := (dC, dI)) (ci := 5) (v := .int (uL.2.2.2.2.2.2.2.2.2.2.1 + (1 : Int32))) (ty := .int) (C := RX5) (T := TX5) (N := 18) hx hb hts inX5 tyX5 tyX5_ok nmX5 hown hK hP hD hS 0 rfl rfl 7 (by decide) (hts _ qf_X5_57) (fun _ h9 => h9) rfl (tyX5_ok 7 (by decide)) rfl rfl (Nat.le_of_ble_eq_true rfl) dX5_addReader_89 (fun H locs hP _ hS => ?_)
        have hP : va_P (dC, dI) vwCl ((wX5 cI cZ l0 l4 l5 l6 l8 l10 l11 l12 l13 l14 l15 l16 ((upd (upd uL.1 ((33 : Int32) + uL.2.2.2.2.2.2.2.2.2.2.1).toNatClampNeg a2) 7 (((upd uL.1 ((33 : Int32) + uL.2.2.2.2.2.2.2.2.2.2.1).toNatClampNeg a2) 7) ||| ((1 : Int32) <<< (uL.2.2.2.2.2.2.2.2.2.2.1 &&& 31)))), uL.2.1, uL.2.2.1, (0 : Int32), uL.2.2.2.2.1, uL.2.2.2.2.2.1, uL.2.2.2.2.2.2.1, uL.2.2.2.2.2.2.2.1, uL.2.2.2.2.2.2.2.2.1, uL.2.2.2.2.2.2.2.2.2.1, (uL.2.2.2.2.2.2.2.2.2.2.1 + (1 : Int32)), (upd uL.2.2.2.2.2.2.2.2.2.2.2.1 uL.2.2.2.2.2.2.2.2.2.2.1.toNatClampNeg a1), uL.2.2.2.2.2.2.2.2.2.2.2.2))) H := hP
        have hD : va_D A ((wX5 cI cZ l0 l4 l5 l6 l8 l10 l11 l12 l13 l14 l15 l16 ((upd (upd uL.1 ((33 : Int32) + uL.2.2.2.2.2.2.2.2.2.2.1).toNatClampNeg a2) 7 (((upd uL.1 ((33 : Int32) + uL.2.2.2.2.2.2.2.2.2.2.1).toNatClampNeg a2) 7) ||| ((1 : Int32) <<< (uL.2.2.2.2.2.2.2.2.2.2.1 &&& 31)))), uL.2.1, uL.2.2.1, (0 : Int32), uL.2.2.2.2.1, uL.2.2.2.2.2.1, uL.2.2.2.2.2.2.1, uL.2.2.2.2.2.2.2.1, uL.2.2.2.2.2.2.2.2.1, uL.2.2.2.2.2.2.2.2.2.1, (uL.2.2.2.2.2.2.2.2.2.2.1 + (1 : Int32)), (upd uL.2.2.2.2.2.2.2.2.2.2.2.1 uL.2.2.2.2.2.2.2.2.2.2.1.toNatClampNeg a1), uL.2.2.2.2.2.2.2.2.2.2.2.2))) := D_L hD
        refine lv_aload_n hx hb dX5_addReader_92 rfl (lv_at hl 0 rfl) ?_
        refine va_get (D := (dC, dI)) (ci := 5) (v := .int (uL.2.2.2.2.2.2.2.2.2.2.1 + (1 : Int32))) (C := RX5) (T := TX5) (N := 18) hx hb hts inX5 hown hK hP 0 rfl rfl 7 (by decide) (hts _ qf_X5_57) (fun _ h9 => h9) rfl dX5_addReader_93 ?_
        refine lv_iconst (v := (1 : Int32)) hx hb dX5_addReader_96 (by decide) ?_
        refine lv_isub hx hb dX5_addReader_97 ?_
        have hok := Option.some.inj hok
        subst hok
        exact eWi S hr hlk rfl hP hS (Nat.le_of_ble_eq_true rfl) (Nat.le_of_ble_eq_true rfl) dX5_addReader_98
      · have hok := ip hok hc
        refine lv_aload_n hx hb dX5_addReader_37 rfl (lv_at hl 0 rfl) ?_
        refine lv_iconst (v := (2 : Int32)) hx hb dX5_addReader_38 (by decide) ?_
        obtain ⟨v5, hc5, hok⟩ := bd_some hok
        refine cWVi (ci := 5) (q0 := 0) [.int (2 : Int32)] S hK hP hD hS hA (c_X5_fail l dC dI cI cZ l0 l4 l5 l6 l8 l10 l11 l12 l13 l14 l15 l16 _ (uL.1, uL.2.1, uL.2.2.1, (0 : Int32), uL.2.2.2.2) (2 : Int32) hc5) (lw_V qm_X5_112 qi_X5_fail qs_X5_fail qn_X5 qc_X5_fail) hd_X5_fail ⟨rfl, rfl⟩ ⟨Nat.le_of_ble_eq_true rfl, Nat.le_of_ble_eq_true rfl⟩ ⟨Nat.le_of_ble_eq_true rfl, Nat.le_of_ble_eq_true rfl⟩ rfl rfl rfl hl.1 (Nat.le_of_ble_eq_true rfl) rfl dX5_addReader_39 (D_L hD) (fun H locs hP hD hS => ?_)
        have hok := Option.some.inj hok
        subst hok
        exact eWi S hr hlk rfl hP hS (Nat.le_of_ble_eq_true rfl) (Nat.le_of_ble_eq_true rfl) dX5_addReader_42
    · have hok := ip hok hc
      exact J22 (uL.1, uL.2.1, uL.2.2.1, (0 : Int32), uL.2.2.2.2) _ _ hP hD hS _ (lv_sub hl [0] rfl) hok
theorem hd_X5_addMirror : yX5_addMirror.cls = RX5 ∧ yX5_addMirror.cls ≠ "java/lang/invoke/MethodHandle" ∧ yX5_addMirror.cls ≠ "java/lang/invoke/VarHandle" ∧ (parseMethodDescriptor yX5_addMirror.desc).map (fun d => d.parameters.length) = some 2 := by decide +kernel
def p_X5_addMirror_J24 (uL : tX5) : Option (Int32 × tX5) :=
  bd (p_X5_fail uL (1 : Int32)) (fun v5 =>
  some (v5.1, v5.2))
def p_X5_addMirror (uL : tX5) (a1 : Int32) (a2 : Int32) : Option (Int32 × tX5) :=
  bd (p_X5_isTopic a1) (fun v1 =>
  if v1 = 0 then
    p_X5_addMirror_J24 (uL.1, uL.2.1, uL.2.2.1, (0 : Int32), uL.2.2.2.2)
  else
    bd (p_X5_isTopic a2) (fun v2 =>
    if v2 = 0 then
      p_X5_addMirror_J24 (uL.1, uL.2.1, uL.2.2.1, (0 : Int32), uL.2.2.2.2)
    else
      if a1 = a2 then
        p_X5_addMirror_J24 (uL.1, uL.2.1, uL.2.2.1, (0 : Int32), uL.2.2.2.2)
      else
        if uL.2.2.2.2.2.2.2.2.2.2.2.2.1 = (4 : Int32) then
          bd (p_X5_fail (uL.1, uL.2.1, uL.2.2.1, (0 : Int32), uL.2.2.2.2) (2 : Int32)) (fun v4 =>
          some (v4.1, v4.2))
        else
          gd uL.2.2.2.2.2.2.2.2.2.2.2.2.1 4 (
          some (((uL.2.2.2.2.2.2.2.2.2.2.2.2.1 + (1 : Int32)) - (1 : Int32)), (uL.1, uL.2.1, uL.2.2.1, (0 : Int32), uL.2.2.2.2.1, uL.2.2.2.2.2.1, uL.2.2.2.2.2.2.1, uL.2.2.2.2.2.2.2.1, uL.2.2.2.2.2.2.2.2.1, uL.2.2.2.2.2.2.2.2.2.1, uL.2.2.2.2.2.2.2.2.2.2.1, uL.2.2.2.2.2.2.2.2.2.2.2.1, (uL.2.2.2.2.2.2.2.2.2.2.2.2.1 + (1 : Int32)), (upd uL.2.2.2.2.2.2.2.2.2.2.2.2.2.1 uL.2.2.2.2.2.2.2.2.2.2.2.2.1.toNatClampNeg a1), (upd uL.2.2.2.2.2.2.2.2.2.2.2.2.2.2.1 uL.2.2.2.2.2.2.2.2.2.2.2.2.1.toNatClampNeg a2), uL.2.2.2.2.2.2.2.2.2.2.2.2.2.2.2)))))
set_option maxHeartbeats 4000000 in
set_option maxRecDepth 100000 in
theorem c_X5_addMirror (l : Launch) (dC : Nat → ClassId) (dI : Nat → Nat → Nat) (cI cZ : ClassId) (l0 l4 l5 l6 l8 l10 l11 l12 l13 l14 l15 l16 : Nat) (sz : Nat) (uL : tX5) (a1 : Int32) (a2 : Int32) {z : (Int32 × tX5)} (hok : p_X5_addMirror uL a1 a2 = some z) : Met l yX5_addMirror (Cond.code yX5_addMirror cX5_addMirror 3 (some .int) :: lw_all) { frames := 2, cells := 0, slots := 0, locals := 42 } (prW (dC, dI) vwCl (TYS cI cZ) ((wX5 cI cZ l0 l4 l5 l6 l8 l10 l11 l12 l13 l14 l15 l16 uL)) sz [.ref l0, .int a1, .int a2]) (va_Qi (fun (r : Int32) (_ : Unit) => r = z.1) (fun _ t => va_P (dC, dI) vwCl ((wX5 cI cZ l0 l4 l5 l6 l8 l10 l11 l12 l13 l14 l15 l16 z.2)) t.heap) (va_A ((wX5 cI cZ l0 l4 l5 l6 l8 l10 l11 l12 l13 l14 l15 l16 uL)) sz)) 0 0 (va_A ((wX5 cI cZ l0 l4 l5 l6 l8 l10 l11 l12 l13 l14 l15 l16 uL)) sz) := by
  refine oM (by decide) (Nat.le_of_ble_eq_true rfl) ?_
  intro p e s m args below meth c S hr hlk hnm hB ls hl
  have hx := S.1
  have hb := S.2.1
  have hml := S.2.2.1
  have hown : s.vm.findClass RX5 = some m.cls := S.2.2.2.1
  have hts := S.2.2.2.2
  have S : CallFix p m c cX5_addMirror 3 s args lw_all RX5 := S
  have hl : lv_has ls 3 [(0, .ref l0), (1, .int a1), (2, .int a2)] := hl
  obtain ⟨hsz, hP, hK, hD0⟩ := hB
  subst hsz
  have hD := hD0.self (sz := s.heap.size)
  generalize hAe : va_A ((wX5 cI cZ l0 l4 l5 l6 l8 l10 l11 l12 l13 l14 l15 l16 uL)) s.heap.size = A at hD ⊢
  have hA : ∀ q : Nat, s.heap.size ≤ q → A q := fun q h => by rw [← hAe]; exact Or.inr h
  have hS : va_S A s.heap s.heap [] := va_S.rf
  have hP : va_P (dC, dI) vwCl ((wX5 cI cZ l0 l4 l5 l6 l8 l10 l11 l12 l13 l14 l15 l16 uL)) s.heap := hP
  have J24 : ∀ (uL : tX5) (H : Heap) (locs : List Loc) (hP : va_P (dC, dI) vwCl ((wX5 cI cZ l0 l4 l5 l6 l8 l10 l11 l12 l13 l14 l15 l16 uL)) H) (hD : va_D A ((wX5 cI cZ l0 l4 l5 l6 l8 l10 l11 l12 l13 l14 l15 l16 uL))) (hS : va_S A s.heap H locs) (ls : Array Slot) (hl : lv_has ls 3 [(0, .ref l0)]) (hok : p_X5_addMirror_J24 uL = some z), W p l e { frames := 2, cells := 0, slots := 0, locals := 42 } s m args below meth c H locs 0 0 (MQ below (va_Qi (fun (r : Int32) (_ : Unit) => r = z.1) (fun _ t => va_P (dC, dI) vwCl ((wX5 cI cZ l0 l4 l5 l6 l8 l10 l11 l12 l13 l14 l15 l16 z.2)) t.heap) A) args s 0 0 A) (F0 m 24 ls []) := by
    intro uL H locs hP hD hS ls hl hok
    unfold p_X5_addMirror_J24 at hok
    refine lv_aload_n hx hb dX5_addMirror_24 rfl (lv_at hl 0 rfl) ?_
    refine lv_iconst (v := (1 : Int32)) hx hb dX5_addMirror_25 (by decide) ?_
    obtain ⟨v5, hc5, hok⟩ := bd_some hok
    refine cWVi (ci := 5) (q0 := 0) [.int (1 : Int32)] S hK hP hD hS hA (c_X5_fail l dC dI cI cZ l0 l4 l5 l6 l8 l10 l11 l12 l13 l14 l15 l16 _ uL (1 : Int32) hc5) (lw_V qm_X5_112 qi_X5_fail qs_X5_fail qn_X5 qc_X5_fail) hd_X5_fail ⟨rfl, rfl⟩ ⟨Nat.le_of_ble_eq_true rfl, Nat.le_of_ble_eq_true rfl⟩ ⟨Nat.le_of_ble_eq_true rfl, Nat.le_of_ble_eq_true rfl⟩ rfl rfl rfl hl.1 (Nat.le_of_ble_eq_true rfl) rfl dX5_addMirror_26 (D_L hD) (fun H locs hP hD hS => ?_)
    have hok := Option.some.inj hok
    subst hok
    exact eWi S hr hlk rfl hP hS (Nat.le_of_ble_eq_true rfl) (Nat.le_of_ble_eq_true rfl) dX5_addMirror_29
  unfold p_X5_addMirror at hok
  refine lv_aload_n hx hb dX5_addMirror_0 rfl (lv_at hl 0 rfl) ?_
  refine lv_iconst (v := (0 : Int32)) hx hb dX5_addMirror_1 (by decide) ?_
  refine va_put (D := (dC, dI)) (ci := 5) (v := .int (0 : Int32)) (ty := .int) (C := RX5) (T := TX5) (N := 18) hx hb hts inX5 tyX5 tyX5_ok nmX5 hown hK hP hD hS 0 rfl rfl 0 (by decide) (hts _ qf_X5_50) (fun _ h9 => h9) rfl (tyX5_ok 0 (by decide)) rfl rfl (Nat.le_of_ble_eq_true rfl) dX5_addMirror_2 (fun H locs hP _ hS => ?_)
  have hP : va_P (dC, dI) vwCl ((wX5 cI cZ l0 l4 l5 l6 l8 l10 l11 l12 l13 l14 l15 l16 (uL.1, uL.2.1, uL.2.2.1, (0 : Int32), uL.2.2.2.2))) H := hP
  have hD : va_D A ((wX5 cI cZ l0 l4 l5 l6 l8 l10 l11 l12 l13 l14 l15 l16 (uL.1, uL.2.1, uL.2.2.1, (0 : Int32), uL.2.2.2.2))) := D_L hD
  refine lv_iload_n hx hb dX5_addMirror_5 rfl (lv_at hl 1 rfl) ?_
  obtain ⟨v1, hc1, hok⟩ := bd_some hok
  refine cRSi [.int a1] S hK va_Pnil (c_X5_isTopic l dC dI cI cZ a1 hc1) (lw_S qm_X5_119 qt_X5_isTopic qn_X5 qc_X5_isTopic) hd_X5_isTopic ⟨rfl, rfl⟩ ⟨Nat.le_of_ble_eq_true rfl, Nat.le_of_ble_eq_true rfl⟩ ⟨Nat.le_of_ble_eq_true rfl, Nat.le_of_ble_eq_true rfl⟩ rfl hl.1 (Nat.le_of_ble_eq_true rfl) rfl dX5_addMirror_6 ?_
  refine lv_if_eq (tgt := 24) hx hb dX5_addMirror_9 (by decide) (fun hc => ?_) (fun hc => ?_)
  · have hok := ip hok hc
    exact J24 (uL.1, uL.2.1, uL.2.2.1, (0 : Int32), uL.2.2.2.2) _ _ hP hD hS _ (lv_sub hl [0] rfl) hok
  · have hok := iq hok hc
    refine lv_iload_n hx hb dX5_addMirror_12 rfl (lv_at hl 2 rfl) ?_
    obtain ⟨v2, hc2, hok⟩ := bd_some hok
    refine cRSi [.int a2] S hK va_Pnil (c_X5_isTopic l dC dI cI cZ a2 hc2) (lw_S qm_X5_119 qt_X5_isTopic qn_X5 qc_X5_isTopic) hd_X5_isTopic ⟨rfl, rfl⟩ ⟨Nat.le_of_ble_eq_true rfl, Nat.le_of_ble_eq_true rfl⟩ ⟨Nat.le_of_ble_eq_true rfl, Nat.le_of_ble_eq_true rfl⟩ rfl hl.1 (Nat.le_of_ble_eq_true rfl) rfl dX5_addMirror_13 ?_
    refine lv_if_eq (tgt := 24) hx hb dX5_addMirror_16 (by decide) (fun hc => ?_) (fun hc => ?_)
    · have hok := ip hok hc
      exact J24 (uL.1, uL.2.1, uL.2.2.1, (0 : Int32), uL.2.2.2.2) _ _ hP hD hS _ (lv_sub hl [0] rfl) hok
    · have hok := iq hok hc
      refine lv_iload_n hx hb dX5_addMirror_19 rfl (lv_at hl 1 rfl) ?_
      refine lv_iload_n hx hb dX5_addMirror_20 rfl (lv_at hl 2 rfl) ?_
      refine lv_icmp_ne (tgt := 30) hx hb dX5_addMirror_21 (by decide) (fun hc => ?_) (fun hc => ?_)
      · have hok := iq hok hc
        refine lv_aload_n hx hb dX5_addMirror_30 rfl (lv_at hl 0 rfl) ?_
        refine va_get (D := (dC, dI)) (ci := 5) (v := .int uL.2.2.2.2.2.2.2.2.2.2.2.2.1) (C := RX5) (T := TX5) (N := 18) hx hb hts inX5 hown hK hP 0 rfl rfl 9 (by decide) (hts _ qf_X5_60) (fun _ h9 => h9) rfl dX5_addMirror_31 ?_
        refine lv_iconst (v := (4 : Int32)) hx hb dX5_addMirror_34 (by decide) ?_
        refine lv_icmp_ne (tgt := 44) hx hb dX5_addMirror_35 (by decide) (fun hc => ?_) (fun hc => ?_)
        · have hok := iq hok hc
          refine lv_aload_n hx hb dX5_addMirror_44 rfl (lv_at hl 0 rfl) ?_
          refine va_get (D := (dC, dI)) (ci := 5) (v := .ref l10) (C := RX5) (T := TX5) (N := 18) hx hb hts inX5 hown hK hP 0 rfl rfl 10 (by decide) (hts _ qf_X5_29) (fun _ h9 => h9) rfl dX5_addMirror_45 ?_
          refine lv_aload_n hx hb dX5_addMirror_48 rfl (lv_at hl 0 rfl) ?_
          refine va_get (D := (dC, dI)) (ci := 5) (v := .int uL.2.2.2.2.2.2.2.2.2.2.2.2.1) (C := RX5) (T := TX5) (N := 18) hx hb hts inX5 hown hK hP 0 rfl rfl 9 (by decide) (hts _ qf_X5_60) (fun _ h9 => h9) rfl dX5_addMirror_49 ?_
          refine lv_iload_n hx hb dX5_addMirror_52 rfl (lv_at hl 1 rfl) ?_
          obtain ⟨hi3, hok⟩ := gd_some hok
          refine va_iast hx hb hK hP hD hS 5 0 rfl rfl hi3 dX5_addMirror_53 (fun H locs hP _ hS => ?_)
          have hP : va_P (dC, dI) vwCl ((wX5 cI cZ l0 l4 l5 l6 l8 l10 l11 l12 l13 l14 l15 l16 (uL.1, uL.2.1, uL.2.2.1, (0 : Int32), uL.2.2.2.2.1, uL.2.2.2.2.2.1, uL.2.2.2.2.2.2.1, uL.2.2.2.2.2.2.2.1, uL.2.2.2.2.2.2.2.2.1, uL.2.2.2.2.2.2.2.2.2.1, uL.2.2.2.2.2.2.2.2.2.2.1, uL.2.2.2.2.2.2.2.2.2.2.2.1, uL.2.2.2.2.2.2.2.2.2.2.2.2.1, (upd uL.2.2.2.2.2.2.2.2.2.2.2.2.2.1 uL.2.2.2.2.2.2.2.2.2.2.2.2.1.toNatClampNeg a1), uL.2.2.2.2.2.2.2.2.2.2.2.2.2.2))) H := hP
          have hD : va_D A ((wX5 cI cZ l0 l4 l5 l6 l8 l10 l11 l12 l13 l14 l15 l16 (uL.1, uL.2.1, uL.2.2.1, (0 : Int32), uL.2.2.2.2.1, uL.2.2.2.2.2.1, uL.2.2.2.2.2.2.1, uL.2.2.2.2.2.2.2.1, uL.2.2.2.2.2.2.2.2.1, uL.2.2.2.2.2.2.2.2.2.1, uL.2.2.2.2.2.2.2.2.2.2.1, uL.2.2.2.2.2.2.2.2.2.2.2.1, uL.2.2.2.2.2.2.2.2.2.2.2.2.1, (upd uL.2.2.2.2.2.2.2.2.2.2.2.2.2.1 uL.2.2.2.2.2.2.2.2.2.2.2.2.1.toNatClampNeg a1), uL.2.2.2.2.2.2.2.2.2.2.2.2.2.2))) := D_L hD
          refine lv_aload_n hx hb dX5_addMirror_54 rfl (lv_at hl 0 rfl) ?_
          refine va_get (D := (dC, dI)) (ci := 5) (v := .ref l11) (C := RX5) (T := TX5) (N := 18) hx hb hts inX5 hown hK hP 0 rfl rfl 11 (by decide) (hts _ qf_X5_32) (fun _ h9 => h9) rfl dX5_addMirror_55 ?_
          refine lv_aload_n hx hb dX5_addMirror_58 rfl (lv_at hl 0 rfl) ?_
          refine va_get (D := (dC, dI)) (ci := 5) (v := .int uL.2.2.2.2.2.2.2.2.2.2.2.2.1) (C := RX5) (T := TX5) (N := 18) hx hb hts inX5 hown hK hP 0 rfl rfl 9 (by decide) (hts _ qf_X5_60) (fun _ h9 => h9) rfl dX5_addMirror_59 ?_
          refine lv_iload_n hx hb dX5_addMirror_62 rfl (lv_at hl 2 rfl) ?_
          refine va_iast hx hb hK hP hD hS 6 0 rfl rfl hi3 dX5_addMirror_63 (fun H locs hP _ hS => ?_)
          have hP : va_P (dC, dI) vwCl ((wX5 cI cZ l0 l4 l5 l6 l8 l10 l11 l12 l13 l14 l15 l16 (uL.1, uL.2.1, uL.2.2.1, (0 : Int32), uL.2.2.2.2.1, uL.2.2.2.2.2.1, uL.2.2.2.2.2.2.1, uL.2.2.2.2.2.2.2.1, uL.2.2.2.2.2.2.2.2.1, uL.2.2.2.2.2.2.2.2.2.1, uL.2.2.2.2.2.2.2.2.2.2.1, uL.2.2.2.2.2.2.2.2.2.2.2.1, uL.2.2.2.2.2.2.2.2.2.2.2.2.1, (upd uL.2.2.2.2.2.2.2.2.2.2.2.2.2.1 uL.2.2.2.2.2.2.2.2.2.2.2.2.1.toNatClampNeg a1), (upd uL.2.2.2.2.2.2.2.2.2.2.2.2.2.2.1 uL.2.2.2.2.2.2.2.2.2.2.2.2.1.toNatClampNeg a2), uL.2.2.2.2.2.2.2.2.2.2.2.2.2.2.2))) H := hP
          have hD : va_D A ((wX5 cI cZ l0 l4 l5 l6 l8 l10 l11 l12 l13 l14 l15 l16 (uL.1, uL.2.1, uL.2.2.1, (0 : Int32), uL.2.2.2.2.1, uL.2.2.2.2.2.1, uL.2.2.2.2.2.2.1, uL.2.2.2.2.2.2.2.1, uL.2.2.2.2.2.2.2.2.1, uL.2.2.2.2.2.2.2.2.2.1, uL.2.2.2.2.2.2.2.2.2.2.1, uL.2.2.2.2.2.2.2.2.2.2.2.1, uL.2.2.2.2.2.2.2.2.2.2.2.2.1, (upd uL.2.2.2.2.2.2.2.2.2.2.2.2.2.1 uL.2.2.2.2.2.2.2.2.2.2.2.2.1.toNatClampNeg a1), (upd uL.2.2.2.2.2.2.2.2.2.2.2.2.2.2.1 uL.2.2.2.2.2.2.2.2.2.2.2.2.1.toNatClampNeg a2), uL.2.2.2.2.2.2.2.2.2.2.2.2.2.2.2))) := D_L hD
          refine lv_aload_n hx hb dX5_addMirror_64 rfl (lv_at hl 0 rfl) ?_
          refine lv_dup hx hb dX5_addMirror_65 rfl ?_
          refine va_get (D := (dC, dI)) (ci := 5) (v := .int uL.2.2.2.2.2.2.2.2.2.2.2.2.1) (C := RX5) (T := TX5) (N := 18) hx hb hts inX5 hown hK hP 0 rfl rfl 9 (by decide) (hts _ qf_X5_60) (fun _ h9 => h9) rfl dX5_addMirror_66 ?_
          refine lv_iconst (v := (1 : Int32)) hx hb dX5_addMirror_69 (by decide) ?_
          refine lv_iadd hx hb dX5_addMirror_70 ?_
          refine va_put (D := (dC, dI)) (ci := 5) (v := .int (uL.2.2.2.2.2.2.2.2.2.2.2.2.1 + (1 : Int32))) (ty := .int) (C := RX5) (T := TX5) (N := 18) hx hb hts inX5 tyX5 tyX5_ok nmX5 hown hK hP hD hS 0 rfl rfl 9 (by decide) (hts _ qf_X5_60) (fun _ h9 => h9) rfl (tyX5_ok 9 (by decide)) rfl rfl (Nat.le_of_ble_eq_true rfl) dX5_addMirror_71 (fun H locs hP _ hS => ?_)
          have hP : va_P (dC, dI) vwCl ((wX5 cI cZ l0 l4 l5 l6 l8 l10 l11 l12 l13 l14 l15 l16 (uL.1, uL.2.1, uL.2.2.1, (0 : Int32), uL.2.2.2.2.1, uL.2.2.2.2.2.1, uL.2.2.2.2.2.2.1, uL.2.2.2.2.2.2.2.1, uL.2.2.2.2.2.2.2.2.1, uL.2.2.2.2.2.2.2.2.2.1, uL.2.2.2.2.2.2.2.2.2.2.1, uL.2.2.2.2.2.2.2.2.2.2.2.1, (uL.2.2.2.2.2.2.2.2.2.2.2.2.1 + (1 : Int32)), (upd uL.2.2.2.2.2.2.2.2.2.2.2.2.2.1 uL.2.2.2.2.2.2.2.2.2.2.2.2.1.toNatClampNeg a1), (upd uL.2.2.2.2.2.2.2.2.2.2.2.2.2.2.1 uL.2.2.2.2.2.2.2.2.2.2.2.2.1.toNatClampNeg a2), uL.2.2.2.2.2.2.2.2.2.2.2.2.2.2.2))) H := hP
          have hD : va_D A ((wX5 cI cZ l0 l4 l5 l6 l8 l10 l11 l12 l13 l14 l15 l16 (uL.1, uL.2.1, uL.2.2.1, (0 : Int32), uL.2.2.2.2.1, uL.2.2.2.2.2.1, uL.2.2.2.2.2.2.1, uL.2.2.2.2.2.2.2.1, uL.2.2.2.2.2.2.2.2.1, uL.2.2.2.2.2.2.2.2.2.1, uL.2.2.2.2.2.2.2.2.2.2.1, uL.2.2.2.2.2.2.2.2.2.2.2.1, (uL.2.2.2.2.2.2.2.2.2.2.2.2.1 + (1 : Int32)), (upd uL.2.2.2.2.2.2.2.2.2.2.2.2.2.1 uL.2.2.2.2.2.2.2.2.2.2.2.2.1.toNatClampNeg a1), (upd uL.2.2.2.2.2.2.2.2.2.2.2.2.2.2.1 uL.2.2.2.2.2.2.2.2.2.2.2.2.1.toNatClampNeg a2), uL.2.2.2.2.2.2.2.2.2.2.2.2.2.2.2))) := D_L hD
          refine lv_aload_n hx hb dX5_addMirror_74 rfl (lv_at hl 0 rfl) ?_
          refine va_get (D := (dC, dI)) (ci := 5) (v := .int (uL.2.2.2.2.2.2.2.2.2.2.2.2.1 + (1 : Int32))) (C := RX5) (T := TX5) (N := 18) hx hb hts inX5 hown hK hP 0 rfl rfl 9 (by decide) (hts _ qf_X5_60) (fun _ h9 => h9) rfl dX5_addMirror_75 ?_
          refine lv_iconst (v := (1 : Int32)) hx hb dX5_addMirror_78 (by decide) ?_
          refine lv_isub hx hb dX5_addMirror_79 ?_
          have hok := Option.some.inj hok
          subst hok
          exact eWi S hr hlk rfl hP hS (Nat.le_of_ble_eq_true rfl) (Nat.le_of_ble_eq_true rfl) dX5_addMirror_80
        · have hok := ip hok hc
          refine lv_aload_n hx hb dX5_addMirror_38 rfl (lv_at hl 0 rfl) ?_
          refine lv_iconst (v := (2 : Int32)) hx hb dX5_addMirror_39 (by decide) ?_
          obtain ⟨v4, hc4, hok⟩ := bd_some hok
          refine cWVi (ci := 5) (q0 := 0) [.int (2 : Int32)] S hK hP hD hS hA (c_X5_fail l dC dI cI cZ l0 l4 l5 l6 l8 l10 l11 l12 l13 l14 l15 l16 _ (uL.1, uL.2.1, uL.2.2.1, (0 : Int32), uL.2.2.2.2) (2 : Int32) hc4) (lw_V qm_X5_112 qi_X5_fail qs_X5_fail qn_X5 qc_X5_fail) hd_X5_fail ⟨rfl, rfl⟩ ⟨Nat.le_of_ble_eq_true rfl, Nat.le_of_ble_eq_true rfl⟩ ⟨Nat.le_of_ble_eq_true rfl, Nat.le_of_ble_eq_true rfl⟩ rfl rfl rfl hl.1 (Nat.le_of_ble_eq_true rfl) rfl dX5_addMirror_40 (D_L hD) (fun H locs hP hD hS => ?_)
          have hok := Option.some.inj hok
          subst hok
          exact eWi S hr hlk rfl hP hS (Nat.le_of_ble_eq_true rfl) (Nat.le_of_ble_eq_true rfl) dX5_addMirror_43
      · have hok := ip hok hc
        exact J24 (uL.1, uL.2.1, uL.2.2.1, (0 : Int32), uL.2.2.2.2) _ _ hP hD hS _ (lv_sub hl [0] rfl) hok
theorem hd_X5_call : yX5_call.cls = RX5 ∧ yX5_call.cls ≠ "java/lang/invoke/MethodHandle" ∧ yX5_call.cls ≠ "java/lang/invoke/VarHandle" ∧ (parseMethodDescriptor yX5_call.desc).map (fun d => d.parameters.length) = some 1 := by decide +kernel
def p_X5_call_J45 (uL : tX5) (l45_1 : Int32) (s45_0 : Int32) : Option (Int32 × tX5) :=
  gq (s45_0 &&& 1 = s45_0) (
  some (s45_0, ((upd uL.1 6 ((uL.1 6) ||| ((1 : Int32) <<< (l45_1 &&& 31)))), uL.2)))
def p_X5_call_J14 (uL : tX5) (l14_1 : Int32) (s14_0 : Int32) : Option (Int32 × tX5) :=
  if s14_0 ≤ 0 then
    bd (p_X5_has (uL.1 6) l14_1) (fun v2 =>
    if v2 = 0 then
      p_X5_call_J45 (uL.1, uL.2.1, uL.2.2.1, s14_0, uL.2.2.2.2) l14_1 (1 : Int32)
    else
      p_X5_call_J45 (uL.1, uL.2.1, uL.2.2.1, s14_0, uL.2.2.2.2) l14_1 (0 : Int32))
  else
    some ((0 : Int32), (uL.1, uL.2.1, uL.2.2.1, s14_0, uL.2.2.2.2))
def p_X5_call (uL : tX5) (a1 : Int32) : Option (Int32 × tX5) :=
  bd (p_X5_isFloor uL a1) (fun v1 =>
  if v1 = 0 then
    p_X5_call_J14 uL a1 (1 : Int32)
  else
    p_X5_call_J14 uL a1 (0 : Int32))
set_option maxHeartbeats 4000000 in
set_option maxRecDepth 100000 in
theorem c_X5_call (l : Launch) (dC : Nat → ClassId) (dI : Nat → Nat → Nat) (cI cZ : ClassId) (l0 l4 l5 l6 l8 l10 l11 l12 l13 l14 l15 l16 : Nat) (sz : Nat) (uL : tX5) (a1 : Int32) {z : (Int32 × tX5)} (hok : p_X5_call uL a1 = some z) : Met l yX5_call (Cond.code yX5_call cX5_call 3 (some .boolean) :: lw_all) { frames := 2, cells := 0, slots := 0, locals := 43 } (prW (dC, dI) vwCl (TYS cI cZ) ((wX5 cI cZ l0 l4 l5 l6 l8 l10 l11 l12 l13 l14 l15 l16 uL)) sz [.ref l0, .int a1]) (va_Qi (fun (r : Int32) (_ : Unit) => r = z.1) (fun _ t => va_P (dC, dI) vwCl ((wX5 cI cZ l0 l4 l5 l6 l8 l10 l11 l12 l13 l14 l15 l16 z.2)) t.heap) (va_A ((wX5 cI cZ l0 l4 l5 l6 l8 l10 l11 l12 l13 l14 l15 l16 uL)) sz)) 0 0 (va_A ((wX5 cI cZ l0 l4 l5 l6 l8 l10 l11 l12 l13 l14 l15 l16 uL)) sz) := by
  refine oM (by decide) (Nat.le_of_ble_eq_true rfl) ?_
  intro p e s m args below meth c S hr hlk hnm hB ls hl
  have hx := S.1
  have hb := S.2.1
  have hml := S.2.2.1
  have hown : s.vm.findClass RX5 = some m.cls := S.2.2.2.1
  have hts := S.2.2.2.2
  have S : CallFix p m c cX5_call 3 s args lw_all RX5 := S
  have hl : lv_has ls 3 [(0, .ref l0), (1, .int a1)] := hl
  obtain ⟨hsz, hP, hK, hD0⟩ := hB
  subst hsz
  have hD := hD0.self (sz := s.heap.size)
  generalize hAe : va_A ((wX5 cI cZ l0 l4 l5 l6 l8 l10 l11 l12 l13 l14 l15 l16 uL)) s.heap.size = A at hD ⊢
  have hA : ∀ q : Nat, s.heap.size ≤ q → A q := fun q h => by rw [← hAe]; exact Or.inr h
  have hS : va_S A s.heap s.heap [] := va_S.rf
  have hP : va_P (dC, dI) vwCl ((wX5 cI cZ l0 l4 l5 l6 l8 l10 l11 l12 l13 l14 l15 l16 uL)) s.heap := hP
  have J45 : ∀ (uL : tX5) (l45_1 : Int32) (s45_0 : Int32) (H : Heap) (locs : List Loc) (hP : va_P (dC, dI) vwCl ((wX5 cI cZ l0 l4 l5 l6 l8 l10 l11 l12 l13 l14 l15 l16 uL)) H) (hD : va_D A ((wX5 cI cZ l0 l4 l5 l6 l8 l10 l11 l12 l13 l14 l15 l16 uL))) (hS : va_S A s.heap H locs) (ls : Array Slot) (hl : lv_has ls 3 [(0, .ref l0), (1, .int l45_1)]) (hok : p_X5_call_J45 uL l45_1 s45_0 = some z), W p l e { frames := 2, cells := 0, slots := 0, locals := 43 } s m args below meth c H locs 0 0 (MQ below (va_Qi (fun (r : Int32) (_ : Unit) => r = z.1) (fun _ t => va_P (dC, dI) vwCl ((wX5 cI cZ l0 l4 l5 l6 l8 l10 l11 l12 l13 l14 l15 l16 z.2)) t.heap) A) args s 0 0 A) (F0 m 45 ls [.int s45_0]) := by
    intro uL l45_1 s45_0 H locs hP hD hS ls hl hok
    unfold p_X5_call_J45 at hok
    refine lv_istore_n (lv' := [(2, .int s45_0), (0, .ref l0), (1, .int l45_1)]) hx hb dX5_call_45 rfl hl (by decide) rfl (fun ls hl => ?_)
    refine lv_aload_n hx hb dX5_call_46 rfl (lv_at hl 1 rfl) ?_
    refine va_get (D := (dC, dI)) (ci := 5) (v := .ref l15) (C := RX5) (T := TX5) (N := 18) hx hb hts inX5 hown hK hP 0 rfl rfl 15 (by decide) (hts _ qf_X5_44) (fun _ h9 => h9) rfl dX5_call_47 ?_
    refine lv_bipush (v := (6 : Int32)) hx hb dX5_call_50 (by decide) ?_
    refine lv_dup2_11 hx hb dX5_call_52 rfl rfl ?_
    refine va_ialdK hx hb hK hP 10 0 rfl rfl (j := 6) (by decide) (vp_inK (by decide)) dX5_call_53 ?_
    refine lv_iconst (v := (1 : Int32)) hx hb dX5_call_54 (by decide) ?_
    refine lv_iload_n hx hb dX5_call_55 rfl (lv_at hl 2 rfl) ?_
    refine lv_ishl hx hb dX5_call_56 ?_
    refine lv_ior hx hb dX5_call_57 ?_
    refine va_iastK hx hb hK hP hD hS 10 0 rfl rfl (j := 6) (by decide) (vp_inK (by decide)) dX5_call_58 (fun H locs hP _ hS => ?_)
    have hP : va_P (dC, dI) vwCl ((wX5 cI cZ l0 l4 l5 l6 l8 l10 l11 l12 l13 l14 l15 l16 ((upd uL.1 6 ((uL.1 6) ||| ((1 : Int32) <<< (l45_1 &&& 31)))), uL.2))) H := hP
    have hD : va_D A ((wX5 cI cZ l0 l4 l5 l6 l8 l10 l11 l12 l13 l14 l15 l16 ((upd uL.1 6 ((uL.1 6) ||| ((1 : Int32) <<< (l45_1 &&& 31)))), uL.2))) := D_L hD
    refine lv_iload_n hx hb dX5_call_59 rfl (lv_at hl 0 rfl) ?_
    obtain ⟨hn3, hok⟩ := gq_some hok
    have hok := Option.some.inj hok
    subst hok
    exact eWz S hr hlk hn3 rfl hP hS (Nat.le_of_ble_eq_true rfl) (Nat.le_of_ble_eq_true rfl) dX5_call_60
  have J14 : ∀ (uL : tX5) (l14_1 : Int32) (s14_0 : Int32) (H : Heap) (locs : List Loc) (hP : va_P (dC, dI) vwCl ((wX5 cI cZ l0 l4 l5 l6 l8 l10 l11 l12 l13 l14 l15 l16 uL)) H) (hD : va_D A ((wX5 cI cZ l0 l4 l5 l6 l8 l10 l11 l12 l13 l14 l15 l16 uL))) (hS : va_S A s.heap H locs) (ls : Array Slot) (hl : lv_has ls 3 [(0, .ref l0), (1, .int l14_1)]) (hok : p_X5_call_J14 uL l14_1 s14_0 = some z), W p l e { frames := 2, cells := 0, slots := 0, locals := 43 } s m args below meth c H locs 0 0 (MQ below (va_Qi (fun (r : Int32) (_ : Unit) => r = z.1) (fun _ t => va_P (dC, dI) vwCl ((wX5 cI cZ l0 l4 l5 l6 l8 l10 l11 l12 l13 l14 l15 l16 z.2)) t.heap) A) args s 0 0 A) (F0 m 14 ls [.int s14_0, .ref l0]) := by
    intro uL l14_1 s14_0 H locs hP hD hS ls hl hok
    unfold p_X5_call_J14 at hok
    refine va_put (D := (dC, dI)) (ci := 5) (v := .int s14_0) (ty := .int) (C := RX5) (T := TX5) (N := 18) hx hb hts inX5 tyX5 tyX5_ok nmX5 hown hK hP hD hS 0 rfl rfl 0 (by decide) (hts _ qf_X5_50) (fun _ h9 => h9) rfl (tyX5_ok 0 (by decide)) rfl rfl (Nat.le_of_ble_eq_true rfl) dX5_call_14 (fun H locs hP _ hS => ?_)
    have hP : va_P (dC, dI) vwCl ((wX5 cI cZ l0 l4 l5 l6 l8 l10 l11 l12 l13 l14 l15 l16 (uL.1, uL.2.1, uL.2.2.1, s14_0, uL.2.2.2.2))) H := hP
    have hD : va_D A ((wX5 cI cZ l0 l4 l5 l6 l8 l10 l11 l12 l13 l14 l15 l16 (uL.1, uL.2.1, uL.2.2.1, s14_0, uL.2.2.2.2))) := D_L hD
    refine lv_aload_n hx hb dX5_call_17 rfl (lv_at hl 0 rfl) ?_
    refine va_get (D := (dC, dI)) (ci := 5) (v := .int s14_0) (C := RX5) (T := TX5) (N := 18) hx hb hts inX5 hown hK hP 0 rfl rfl 0 (by decide) (hts _ qf_X5_50) (fun _ h9 => h9) rfl dX5_call_18 ?_
    refine lv_if_le (tgt := 26) hx hb dX5_call_21 (by decide) (fun hc => ?_) (fun hc => ?_)
    · have hok := ip hok hc
      refine lv_aload_n hx hb dX5_call_26 rfl (lv_at hl 0 rfl) ?_
      refine va_get (D := (dC, dI)) (ci := 5) (v := .ref l15) (C := RX5) (T := TX5) (N := 18) hx hb hts inX5 hown hK hP 0 rfl rfl 15 (by decide) (hts _ qf_X5_44) (fun _ h9 => h9) rfl dX5_call_27 ?_
      refine lv_bipush (v := (6 : Int32)) hx hb dX5_call_30 (by decide) ?_
      refine va_ialdK hx hb hK hP 10 0 rfl rfl (j := 6) (by decide) (vp_inK (by decide)) dX5_call_32 ?_
      refine lv_iload_n hx hb dX5_call_33 rfl (lv_at hl 1 rfl) ?_
      obtain ⟨v2, hc2, hok⟩ := bd_some hok
      refine cRSi [.int (uL.1 6), .int l14_1] S hK va_Pnil (c_X5_has l dC dI cI cZ (uL.1 6) l14_1 hc2) (lw_S qm_X5_69 qt_X5_has qn_X5 qc_X5_has) hd_X5_has ⟨rfl, rfl⟩ ⟨Nat.le_of_ble_eq_true rfl, Nat.le_of_ble_eq_true rfl⟩ ⟨Nat.le_of_ble_eq_true rfl, Nat.le_of_ble_eq_true rfl⟩ rfl hl.1 (Nat.le_of_ble_eq_true rfl) rfl dX5_call_34 ?_
      refine lv_if_ne (tgt := 44) hx hb dX5_call_37 (by decide) (fun hc => ?_) (fun hc => ?_)
      · have hok := iq hok hc
        refine lv_iconst (v := (0 : Int32)) hx hb dX5_call_44 (by decide) ?_
        exact J45 (uL.1, uL.2.1, uL.2.2.1, s14_0, uL.2.2.2.2) l14_1 (0 : Int32) _ _ hP hD hS _ hl hok
      · have hok := ip hok hc
        refine lv_iconst (v := (1 : Int32)) hx hb dX5_call_40 (by decide) ?_
        refine lv_goto (tgt := 45) hx hb dX5_call_41 (by decide) ?_
        exact J45 (uL.1, uL.2.1, uL.2.2.1, s14_0, uL.2.2.2.2) l14_1 (1 : Int32) _ _ hP hD hS _ hl hok
    · have hok := iq hok hc
      refine lv_iconst (v := (0 : Int32)) hx hb dX5_call_24 (by decide) ?_
      have hok := Option.some.inj hok
      subst hok
      exact eWz S hr hlk (by decide) rfl hP hS (Nat.le_of_ble_eq_true rfl) (Nat.le_of_ble_eq_true rfl) dX5_call_25
  unfold p_X5_call at hok
  refine lv_aload_n hx hb dX5_call_0 rfl (lv_at hl 0 rfl) ?_
  refine lv_aload_n hx hb dX5_call_1 rfl (lv_at hl 0 rfl) ?_
  refine lv_iload_n hx hb dX5_call_2 rfl (lv_at hl 1 rfl) ?_
  obtain ⟨v1, hc1, hok⟩ := bd_some hok
  refine cRVi (ci := 5) (q0 := 0) [.int a1] S hK hP (c_X5_isFloor l dC dI cI cZ l0 l4 l5 l6 l8 l10 l11 l12 l13 l14 l15 l16 uL a1 hc1) (lw_V qm_X5_93 qi_X5_isFloor qs_X5_isFloor qn_X5 qc_X5_isFloor) hd_X5_isFloor ⟨rfl, rfl⟩ ⟨Nat.le_of_ble_eq_true rfl, Nat.le_of_ble_eq_true rfl⟩ ⟨Nat.le_of_ble_eq_true rfl, Nat.le_of_ble_eq_true rfl⟩ rfl rfl rfl hl.1 (Nat.le_of_ble_eq_true rfl) rfl dX5_call_3 ?_
  refine lv_if_eq (tgt := 13) hx hb dX5_call_6 (by decide) (fun hc => ?_) (fun hc => ?_)
  · have hok := ip hok hc
    refine lv_iconst (v := (1 : Int32)) hx hb dX5_call_13 (by decide) ?_
    exact J14 uL a1 (1 : Int32) _ _ hP hD hS _ hl hok
  · have hok := iq hok hc
    refine lv_iconst (v := (0 : Int32)) hx hb dX5_call_9 (by decide) ?_
    refine lv_goto (tgt := 14) hx hb dX5_call_10 (by decide) ?_
    exact J14 uL a1 (0 : Int32) _ _ hP hD hS _ hl hok
theorem hd_X5_repair : yX5_repair.cls = RX5 ∧ yX5_repair.cls ≠ "java/lang/invoke/MethodHandle" ∧ yX5_repair.cls ≠ "java/lang/invoke/VarHandle" ∧ (parseMethodDescriptor yX5_repair.desc).map (fun d => d.parameters.length) = some 0 := by decide +kernel
def p_X5_repair (uL : tX5) : Option (Int32 × tX5) :=
  some ((uL.1 3), ((upd (upd uL.1 3 (0 : Int32)) 4 (0 : Int32)), uL.2.1, uL.2.2.1, (0 : Int32), uL.2.2.2.2))
set_option maxHeartbeats 4000000 in
set_option maxRecDepth 100000 in
theorem c_X5_repair (l : Launch) (dC : Nat → ClassId) (dI : Nat → Nat → Nat) (cI cZ : ClassId) (l0 l4 l5 l6 l8 l10 l11 l12 l13 l14 l15 l16 : Nat) (sz : Nat) (uL : tX5) {z : (Int32 × tX5)} (hok : p_X5_repair uL = some z) : Met l yX5_repair (Cond.code yX5_repair cX5_repair 2 (some .int) :: lw_all) { frames := 0, cells := 0, slots := 0, locals := 0 } (prW (dC, dI) vwCl (TYS cI cZ) ((wX5 cI cZ l0 l4 l5 l6 l8 l10 l11 l12 l13 l14 l15 l16 uL)) sz [.ref l0]) (va_Qi (fun (r : Int32) (_ : Unit) => r = z.1) (fun _ t => va_P (dC, dI) vwCl ((wX5 cI cZ l0 l4 l5 l6 l8 l10 l11 l12 l13 l14 l15 l16 z.2)) t.heap) (va_A ((wX5 cI cZ l0 l4 l5 l6 l8 l10 l11 l12 l13 l14 l15 l16 uL)) sz)) 0 0 (va_A ((wX5 cI cZ l0 l4 l5 l6 l8 l10 l11 l12 l13 l14 l15 l16 uL)) sz) := by
  refine oM (by decide) (Nat.le_of_ble_eq_true rfl) ?_
  intro p e s m args below meth c S hr hlk hnm hB ls hl
  have hx := S.1
  have hb := S.2.1
  have hml := S.2.2.1
  have hown : s.vm.findClass RX5 = some m.cls := S.2.2.2.1
  have hts := S.2.2.2.2
  have S : CallFix p m c cX5_repair 2 s args lw_all RX5 := S
  have hl : lv_has ls 2 [(0, .ref l0)] := hl
  obtain ⟨hsz, hP, hK, hD0⟩ := hB
  subst hsz
  have hD := hD0.self (sz := s.heap.size)
  generalize hAe : va_A ((wX5 cI cZ l0 l4 l5 l6 l8 l10 l11 l12 l13 l14 l15 l16 uL)) s.heap.size = A at hD ⊢
  have hA : ∀ q : Nat, s.heap.size ≤ q → A q := fun q h => by rw [← hAe]; exact Or.inr h
  have hS : va_S A s.heap s.heap [] := va_S.rf
  have hP : va_P (dC, dI) vwCl ((wX5 cI cZ l0 l4 l5 l6 l8 l10 l11 l12 l13 l14 l15 l16 uL)) s.heap := hP
  unfold p_X5_repair at hok
  refine lv_aload_n hx hb dX5_repair_0 rfl (lv_at hl 0 rfl) ?_
  refine lv_iconst (v := (0 : Int32)) hx hb dX5_repair_1 (by decide) ?_
  refine va_put (D := (dC, dI)) (ci := 5) (v := .int (0 : Int32)) (ty := .int) (C := RX5) (T := TX5) (N := 18) hx hb hts inX5 tyX5 tyX5_ok nmX5 hown hK hP hD hS 0 rfl rfl 0 (by decide) (hts _ qf_X5_50) (fun _ h9 => h9) rfl (tyX5_ok 0 (by decide)) rfl rfl (Nat.le_of_ble_eq_true rfl) dX5_repair_2 (fun H locs hP _ hS => ?_)
  have hP : va_P (dC, dI) vwCl ((wX5 cI cZ l0 l4 l5 l6 l8 l10 l11 l12 l13 l14 l15 l16 (uL.1, uL.2.1, uL.2.2.1, (0 : Int32), uL.2.2.2.2))) H := hP
  have hD : va_D A ((wX5 cI cZ l0 l4 l5 l6 l8 l10 l11 l12 l13 l14 l15 l16 (uL.1, uL.2.1, uL.2.2.1, (0 : Int32), uL.2.2.2.2))) := D_L hD
  refine lv_aload_n hx hb dX5_repair_5 rfl (lv_at hl 0 rfl) ?_
  refine va_get (D := (dC, dI)) (ci := 5) (v := .ref l15) (C := RX5) (T := TX5) (N := 18) hx hb hts inX5 hown hK hP 0 rfl rfl 15 (by decide) (hts _ qf_X5_44) (fun _ h9 => h9) rfl dX5_repair_6 ?_
  refine lv_iconst (v := (3 : Int32)) hx hb dX5_repair_9 (by decide) ?_
  refine va_ialdK hx hb hK hP 10 0 rfl rfl (j := 3) (by decide) (vp_inK (by decide)) dX5_repair_10 ?_
  refine lv_istore_n (lv' := [(1, .int (uL.1 3)), (0, .ref l0)]) hx hb dX5_repair_11 rfl hl (by decide) rfl (fun ls hl => ?_)
  refine lv_aload_n hx hb dX5_repair_12 rfl (lv_at hl 1 rfl) ?_
  refine va_get (D := (dC, dI)) (ci := 5) (v := .ref l15) (C := RX5) (T := TX5) (N := 18) hx hb hts inX5 hown hK hP 0 rfl rfl 15 (by decide) (hts _ qf_X5_44) (fun _ h9 => h9) rfl dX5_repair_13 ?_
  refine lv_iconst (v := (3 : Int32)) hx hb dX5_repair_16 (by decide) ?_
  refine lv_iconst (v := (0 : Int32)) hx hb dX5_repair_17 (by decide) ?_
  refine va_iastK hx hb hK hP hD hS 10 0 rfl rfl (j := 3) (by decide) (vp_inK (by decide)) dX5_repair_18 (fun H locs hP _ hS => ?_)
  have hP : va_P (dC, dI) vwCl ((wX5 cI cZ l0 l4 l5 l6 l8 l10 l11 l12 l13 l14 l15 l16 ((upd uL.1 3 (0 : Int32)), uL.2.1, uL.2.2.1, (0 : Int32), uL.2.2.2.2))) H := hP
  have hD : va_D A ((wX5 cI cZ l0 l4 l5 l6 l8 l10 l11 l12 l13 l14 l15 l16 ((upd uL.1 3 (0 : Int32)), uL.2.1, uL.2.2.1, (0 : Int32), uL.2.2.2.2))) := D_L hD
  refine lv_aload_n hx hb dX5_repair_19 rfl (lv_at hl 1 rfl) ?_
  refine va_get (D := (dC, dI)) (ci := 5) (v := .ref l15) (C := RX5) (T := TX5) (N := 18) hx hb hts inX5 hown hK hP 0 rfl rfl 15 (by decide) (hts _ qf_X5_44) (fun _ h9 => h9) rfl dX5_repair_20 ?_
  refine lv_iconst (v := (4 : Int32)) hx hb dX5_repair_23 (by decide) ?_
  refine lv_iconst (v := (0 : Int32)) hx hb dX5_repair_24 (by decide) ?_
  refine va_iastK hx hb hK hP hD hS 10 0 rfl rfl (j := 4) (by decide) (vp_inK (by decide)) dX5_repair_25 (fun H locs hP _ hS => ?_)
  have hP : va_P (dC, dI) vwCl ((wX5 cI cZ l0 l4 l5 l6 l8 l10 l11 l12 l13 l14 l15 l16 ((upd (upd uL.1 3 (0 : Int32)) 4 (0 : Int32)), uL.2.1, uL.2.2.1, (0 : Int32), uL.2.2.2.2))) H := hP
  have hD : va_D A ((wX5 cI cZ l0 l4 l5 l6 l8 l10 l11 l12 l13 l14 l15 l16 ((upd (upd uL.1 3 (0 : Int32)) 4 (0 : Int32)), uL.2.1, uL.2.2.1, (0 : Int32), uL.2.2.2.2))) := D_L hD
  refine lv_iload_n hx hb dX5_repair_26 rfl (lv_at hl 0 rfl) ?_
  have hok := Option.some.inj hok
  subst hok
  exact eWi S hr hlk rfl hP hS (Nat.le_of_ble_eq_true rfl) (Nat.le_of_ble_eq_true rfl) dX5_repair_27
theorem hd_X5_passHours : yX5_passHours.cls = RX5 ∧ yX5_passHours.cls ≠ "java/lang/invoke/MethodHandle" ∧ yX5_passHours.cls ≠ "java/lang/invoke/VarHandle" ∧ (parseMethodDescriptor yX5_passHours.desc).map (fun d => d.parameters.length) = some 1 := by decide +kernel
def p_X5_passHours (uL : tX5) (a1 : Int32) : Option (Int32 × tX5) :=
  bd (p_X5_isIn a1 (1 : Int32) (60 : Int32)) (fun v1 =>
  if v1 = 0 then
    bd (p_X5_fail (uL.1, uL.2.1, uL.2.2.1, (0 : Int32), uL.2.2.2.2) (1 : Int32)) (fun v3 =>
    some (v3.1, v3.2))
  else
    bd (p_X5_hoursOn (uL.1, uL.2.1, uL.2.2.1, (0 : Int32), uL.2.2.2.2) a1) (fun v2 =>
    some (((v2.1 8) - (uL.1 8)), v2)))
set_option maxHeartbeats 4000000 in
set_option maxRecDepth 100000 in
theorem c_X5_passHours (l : Launch) (dC : Nat → ClassId) (dI : Nat → Nat → Nat) (cI cZ : ClassId) (l0 l4 l5 l6 l8 l10 l11 l12 l13 l14 l15 l16 : Nat) (sz : Nat) (uL : tX5) (a1 : Int32) {z : (Int32 × tX5)} (hok : p_X5_passHours uL a1 = some z) : Met l yX5_passHours (Cond.code yX5_passHours cX5_passHours 3 (some .int) :: lw_all) { frames := 7, cells := 0, slots := 0, locals := 151 } (prW (dC, dI) vwCl (TYS cI cZ) ((wX5 cI cZ l0 l4 l5 l6 l8 l10 l11 l12 l13 l14 l15 l16 uL)) sz [.ref l0, .int a1]) (va_Qi (fun (r : Int32) (_ : Unit) => r = z.1) (fun _ t => va_P (dC, dI) vwCl ((wX5 cI cZ l0 l4 l5 l6 l8 l10 l11 l12 l13 l14 l15 l16 z.2)) t.heap) (va_A ((wX5 cI cZ l0 l4 l5 l6 l8 l10 l11 l12 l13 l14 l15 l16 uL)) sz)) 0 0 (va_A ((wX5 cI cZ l0 l4 l5 l6 l8 l10 l11 l12 l13 l14 l15 l16 uL)) sz) := by
  refine oM (by decide) (Nat.le_of_ble_eq_true rfl) ?_
  intro p e s m args below meth c S hr hlk hnm hB ls hl
  have hx := S.1
  have hb := S.2.1
  have hml := S.2.2.1
  have hown : s.vm.findClass RX5 = some m.cls := S.2.2.2.1
  have hts := S.2.2.2.2
  have S : CallFix p m c cX5_passHours 3 s args lw_all RX5 := S
  have hl : lv_has ls 3 [(0, .ref l0), (1, .int a1)] := hl
  obtain ⟨hsz, hP, hK, hD0⟩ := hB
  subst hsz
  have hD := hD0.self (sz := s.heap.size)
  generalize hAe : va_A ((wX5 cI cZ l0 l4 l5 l6 l8 l10 l11 l12 l13 l14 l15 l16 uL)) s.heap.size = A at hD ⊢
  have hA : ∀ q : Nat, s.heap.size ≤ q → A q := fun q h => by rw [← hAe]; exact Or.inr h
  have hS : va_S A s.heap s.heap [] := va_S.rf
  have hP : va_P (dC, dI) vwCl ((wX5 cI cZ l0 l4 l5 l6 l8 l10 l11 l12 l13 l14 l15 l16 uL)) s.heap := hP
  unfold p_X5_passHours at hok
  refine lv_aload_n hx hb dX5_passHours_0 rfl (lv_at hl 0 rfl) ?_
  refine lv_iconst (v := (0 : Int32)) hx hb dX5_passHours_1 (by decide) ?_
  refine va_put (D := (dC, dI)) (ci := 5) (v := .int (0 : Int32)) (ty := .int) (C := RX5) (T := TX5) (N := 18) hx hb hts inX5 tyX5 tyX5_ok nmX5 hown hK hP hD hS 0 rfl rfl 0 (by decide) (hts _ qf_X5_50) (fun _ h9 => h9) rfl (tyX5_ok 0 (by decide)) rfl rfl (Nat.le_of_ble_eq_true rfl) dX5_passHours_2 (fun H locs hP _ hS => ?_)
  have hP : va_P (dC, dI) vwCl ((wX5 cI cZ l0 l4 l5 l6 l8 l10 l11 l12 l13 l14 l15 l16 (uL.1, uL.2.1, uL.2.2.1, (0 : Int32), uL.2.2.2.2))) H := hP
  have hD : va_D A ((wX5 cI cZ l0 l4 l5 l6 l8 l10 l11 l12 l13 l14 l15 l16 (uL.1, uL.2.1, uL.2.2.1, (0 : Int32), uL.2.2.2.2))) := D_L hD
  refine lv_iload_n hx hb dX5_passHours_5 rfl (lv_at hl 1 rfl) ?_
  refine lv_iconst (v := (1 : Int32)) hx hb dX5_passHours_6 (by decide) ?_
  refine lv_bipush (v := (60 : Int32)) hx hb dX5_passHours_7 (by decide) ?_
  obtain ⟨v1, hc1, hok⟩ := bd_some hok
  refine cRSi [.int a1, .int (1 : Int32), .int (60 : Int32)] S hK va_Pnil (c_X5_isIn l dC dI cI cZ a1 (1 : Int32) (60 : Int32) hc1) (lw_S qm_X5_53 qt_X5_isIn qn_X5 qc_X5_isIn) hd_X5_isIn ⟨rfl, rfl⟩ ⟨Nat.le_of_ble_eq_true rfl, Nat.le_of_ble_eq_true rfl⟩ ⟨Nat.le_of_ble_eq_true rfl, Nat.le_of_ble_eq_true rfl⟩ rfl hl.1 (Nat.le_of_ble_eq_true rfl) rfl dX5_passHours_9 ?_
  refine lv_if_ne (tgt := 21) hx hb dX5_passHours_12 (by decide) (fun hc => ?_) (fun hc => ?_)
  · have hok := iq hok hc
    refine lv_aload_n hx hb dX5_passHours_21 rfl (lv_at hl 0 rfl) ?_
    refine va_get (D := (dC, dI)) (ci := 5) (v := .ref l15) (C := RX5) (T := TX5) (N := 18) hx hb hts inX5 hown hK hP 0 rfl rfl 15 (by decide) (hts _ qf_X5_44) (fun _ h9 => h9) rfl dX5_passHours_22 ?_
    refine lv_bipush (v := (8 : Int32)) hx hb dX5_passHours_25 (by decide) ?_
    refine va_ialdK hx hb hK hP 10 0 rfl rfl (j := 8) (by decide) (vp_inK (by decide)) dX5_passHours_27 ?_
    refine lv_istore_n (lv' := [(2, .int (uL.1 8)), (0, .ref l0), (1, .int a1)]) hx hb dX5_passHours_28 rfl hl (by decide) rfl (fun ls hl => ?_)
    refine lv_aload_n hx hb dX5_passHours_29 rfl (lv_at hl 1 rfl) ?_
    refine lv_iload_n hx hb dX5_passHours_30 rfl (lv_at hl 2 rfl) ?_
    obtain ⟨v2, hc2, hok⟩ := bd_some hok
    refine cWVv (ci := 5) (q0 := 0) [.int a1] S hK hP hD hS hA (c_X5_hoursOn l dC dI cI cZ l0 l4 l5 l6 l8 l10 l11 l12 l13 l14 l15 l16 _ (uL.1, uL.2.1, uL.2.2.1, (0 : Int32), uL.2.2.2.2) a1 hc2) (lw_V qm_X5_122 qi_X5_hoursOn qs_X5_hoursOn qn_X5 qc_X5_hoursOn) hd_X5_hoursOn ⟨rfl, rfl⟩ ⟨Nat.le_of_ble_eq_true rfl, Nat.le_of_ble_eq_true rfl⟩ ⟨Nat.le_of_ble_eq_true rfl, Nat.le_of_ble_eq_true rfl⟩ rfl rfl rfl hl.1 (Nat.le_of_ble_eq_true rfl) rfl dX5_passHours_31 (D_L hD) (fun H locs hP hD hS => ?_)
    refine lv_aload_n hx hb dX5_passHours_34 rfl (lv_at hl 1 rfl) ?_
    refine va_get (D := (dC, dI)) (ci := 5) (v := .ref l15) (C := RX5) (T := TX5) (N := 18) hx hb hts inX5 hown hK hP 0 rfl rfl 15 (by decide) (hts _ qf_X5_44) (fun _ h9 => h9) rfl dX5_passHours_35 ?_
    refine lv_bipush (v := (8 : Int32)) hx hb dX5_passHours_38 (by decide) ?_
    refine va_ialdK hx hb hK hP 10 0 rfl rfl (j := 8) (by decide) (vp_inK (by decide)) dX5_passHours_40 ?_
    refine lv_iload_n hx hb dX5_passHours_41 rfl (lv_at hl 0 rfl) ?_
    refine lv_isub hx hb dX5_passHours_42 ?_
    have hok := Option.some.inj hok
    subst hok
    exact eWi S hr hlk rfl hP hS (Nat.le_of_ble_eq_true rfl) (Nat.le_of_ble_eq_true rfl) dX5_passHours_43
  · have hok := ip hok hc
    refine lv_aload_n hx hb dX5_passHours_15 rfl (lv_at hl 0 rfl) ?_
    refine lv_iconst (v := (1 : Int32)) hx hb dX5_passHours_16 (by decide) ?_
    obtain ⟨v3, hc3, hok⟩ := bd_some hok
    refine cWVi (ci := 5) (q0 := 0) [.int (1 : Int32)] S hK hP hD hS hA (c_X5_fail l dC dI cI cZ l0 l4 l5 l6 l8 l10 l11 l12 l13 l14 l15 l16 _ (uL.1, uL.2.1, uL.2.2.1, (0 : Int32), uL.2.2.2.2) (1 : Int32) hc3) (lw_V qm_X5_112 qi_X5_fail qs_X5_fail qn_X5 qc_X5_fail) hd_X5_fail ⟨rfl, rfl⟩ ⟨Nat.le_of_ble_eq_true rfl, Nat.le_of_ble_eq_true rfl⟩ ⟨Nat.le_of_ble_eq_true rfl, Nat.le_of_ble_eq_true rfl⟩ rfl rfl rfl hl.1 (Nat.le_of_ble_eq_true rfl) rfl dX5_passHours_17 (D_L hD) (fun H locs hP hD hS => ?_)
    have hok := Option.some.inj hok
    subst hok
    exact eWi S hr hlk rfl hP hS (Nat.le_of_ble_eq_true rfl) (Nat.le_of_ble_eq_true rfl) dX5_passHours_20
