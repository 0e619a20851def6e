def p_L_C27 (xs : Nat → Int32) (Lc : Nat) (i : Int32) (uL : tX5) (uH : tX1) (uC : tX0) (uT : tX0) (uI : tX2) (uM : tX3) (fO : Nat → Int64) : Option (tX5 × tX1 × tX0 × tX0 × tX2 × tX3 × (Nat → Int64)) :=
  bd (p_X4_instalments uH uC uT uI uM) (fun v1 =>
  bd (p_X5_instalments uL) (fun v2 =>
  if v1 = v2.1 then
    some (v2.2, uH, uC, uT, uI, uM, fO)
  else
    none))
set_option maxHeartbeats 4000000 in
set_option maxRecDepth 100000 in
theorem c_L_C27 {p : Program} {e : Env} {s : State} {m : MethodId} {below : List Frame} {meth : Method} {c : Code} (l : Launch) (hlt : l.stackTraces = false) (dC : Nat → ClassId) (dI : Nat → Nat → Nat) (cI cZ cJ : ClassId) (sa : Nat → Nat) (l0 l4 l5 l6 l8 l10 l11 l12 l13 l14 l15 l16 n0 h0 h3 h4 h5 h6 c0 c8 c9 c10 c11 c12 c13 t0 t8 t9 t10 t11 t12 t13 i0 i1 i2 i3 i4 m0 m1 m2 o0 : Nat) {b Lc : Nat} {xs : Nat → Int32} (S : CallFix p m c cL_law 9 s #[Value.ref b] lw_all RL) (hK : va_K (dC, dI) vwCl (TYJ cI cZ cJ) s) (hX : xb (fun q : Nat => s.heap.size ≤ q) sa s) (hxn : xn s) (hXs : va_X b Lc xs s s.heap) (hbl : b < s.heap.size) (i : Int32) (uL : tX5) (uH : tX1) (uC : tX0) (uT : tX0) (uI : tX2) (uM : tX3) (fO : Nat → Int64) {z : (tX5 × tX1 × tX0 × tX0 × tX2 × tX3 × (Nat → Int64))} (hok : p_L_C27 xs Lc i uL uH uC uT uI uM fO = some z) {Q : State → Prop} {kc sc : Nat} (hkc : kc + 565 ≤ 601024) (hsc : sc + 3393 ≤ 7293034) (H : Heap) (locs : List Loc) (hP : va_P (dC, dI) vwCl (wX5 cI cZ l0 l4 l5 l6 l8 l10 l11 l12 l13 l14 l15 l16 uL ++ (wN cI cZ n0 h0 h3 h4 h5 h6 c0 c8 c9 c10 c11 c12 c13 t0 t8 t9 t10 t11 t12 t13 i0 i1 i2 i3 i4 m0 m1 m2 uH uC uT uI uM ++ [(o0, .inl (cJ, 1, .inr (.inl fO)))])) H) (hD : va_D (fun q : Nat => s.heap.size ≤ q) (wX5 cI cZ l0 l4 l5 l6 l8 l10 l11 l12 l13 l14 l15 l16 uL ++ (wN cI cZ n0 h0 h3 h4 h5 h6 c0 c8 c9 c10 c11 c12 c13 t0 t8 t9 t10 t11 t12 t13 i0 i1 i2 i3 i4 m0 m1 m2 uH uC uT uI uM ++ [(o0, .inl (cJ, 1, .inr (.inl fO)))]))) (hS : va_S (fun q : Nat => s.heap.size ≤ q) s.heap H locs) (ls : Array Slot) (hl : lv_has ls 9 [(0, .ref b), (1, .ref n0), (2, .ref l0), (3, .ref o0), (4, .int i)])
    (hk : ∀ (kc' sc' : Nat) (H : Heap) (locs : List Loc), kc' ≤ kc + 565 → sc' ≤ sc + 3393 → va_P (dC, dI) vwCl (wX5 cI cZ l0 l4 l5 l6 l8 l10 l11 l12 l13 l14 l15 l16 z.1 ++ (wN cI cZ n0 h0 h3 h4 h5 h6 c0 c8 c9 c10 c11 c12 c13 t0 t8 t9 t10 t11 t12 t13 i0 i1 i2 i3 i4 m0 m1 m2 z.2.1 z.2.2.1 z.2.2.2.1 z.2.2.2.2.1 z.2.2.2.2.2.1 ++ [(o0, .inl (cJ, 1, .inr (.inl z.2.2.2.2.2.2)))])) H → va_D (fun q : Nat => s.heap.size ≤ q) (wX5 cI cZ l0 l4 l5 l6 l8 l10 l11 l12 l13 l14 l15 l16 z.1 ++ (wN cI cZ n0 h0 h3 h4 h5 h6 c0 c8 c9 c10 c11 c12 c13 t0 t8 t9 t10 t11 t12 t13 i0 i1 i2 i3 i4 m0 m1 m2 z.2.1 z.2.2.1 z.2.2.2.1 z.2.2.2.2.1 z.2.2.2.2.2.1 ++ [(o0, .inl (cJ, 1, .inr (.inl z.2.2.2.2.2.2)))])) → va_S (fun q : Nat => s.heap.size ≤ q) s.heap H locs → ∀ (ls : Array Slot), lv_has ls 9 [(0, .ref b), (1, .ref n0), (2, .ref l0), (3, .ref o0), (4, .int i)] → W p l e room_1 s m #[Value.ref b] below meth c H locs kc' sc' Q (F0 m 2451 ls [])) : W p l e room_1 s m #[Value.ref b] below meth c H locs kc sc Q (F0 m 1407 ls []) := by
  have hx := S.1
  have hb := S.2.1
  have hml := S.2.2.1
  have hown : s.vm.findClass RL = some m.cls := S.2.2.2.1
  have hts := S.2.2.2.2
  have hA : ∀ q : Nat, s.heap.size ≤ q → (fun q : Nat => s.heap.size ≤ q) q := fun _ h => h
  have hbA : ¬ (fun q : Nat => s.heap.size ≤ q) b := Nat.not_le.mpr hbl
  have hK2 : va_K (dC, dI) vwCl (TYS cI cZ) s := hK.sub [0, 1] rfl
  unfold p_L_C27 at hok
  refine lv_aload_n hx hb dL_law_1407 rfl (lv_at hl 1 rfl) ?_
  obtain ⟨v1, hc1, hok⟩ := bd_some hok
  refine cRVi (ci := 4) (q0 := 0) [] S hK2 (va_Pmid hP) (c_X4_instalments l dC dI cI cZ n0 h0 h3 h4 h5 h6 c0 c8 c9 c10 c11 c12 c13 t0 t8 t9 t10 t11 t12 t13 i0 i1 i2 i3 i4 m0 m1 m2 uH uC uT uI uM hc1) (lw_V qm_L_217 qi_X4_instalments qs_X4_instalments qn_X4 qc_X4_instalments) hd_X4_instalments ⟨rfl, rfl⟩ ⟨Nat.le_of_ble_eq_true rfl, Nat.le_of_ble_eq_true rfl⟩ ⟨by show kc ≤ 601024; omega, by show sc ≤ 7293034; omega⟩ rfl rfl rfl hl.1 (Nat.le_of_ble_eq_true rfl) rfl dL_law_1408 ?_
  refine lv_aload_n hx hb dL_law_1411 rfl (lv_at hl 2 rfl) ?_
  obtain ⟨v2, hc2, hok⟩ := bd_some hok
  refine cUVi (ci := 5) (q0 := 0) [] S hK2 (va_Pmid (wa := []) hP) (va_Dmid (wa := []) hD) hS hA (c_X5_instalments l dC dI cI cZ l0 l4 l5 l6 l8 l10 l11 l12 l13 l14 l15 l16 _ uL hc2) (lw_V qm_L_220 qi_X5_instalments qs_X5_instalments qn_X5 qc_X5_instalments) hd_X5_instalments ⟨rfl, rfl⟩ ⟨Nat.le_of_ble_eq_true rfl, Nat.le_of_ble_eq_true rfl⟩ ⟨by show kc + 0 ≤ 601024; omega, by show sc + 0 ≤ 7293034; omega⟩ rfl rfl rfl hl.1 (Nat.le_of_ble_eq_true rfl) rfl dL_law_1412 (fun H1 hk9 h9 => fr_joinM (wa := []) hP hD K_L hk9 h9) (D_W hD) (fun H locs hP hD hS => ?_)
  refine lv_icmp_eq (tgt := 2451) hx hb dL_law_1415 (by decide) (fun hc => ?_) (fun hc => ?_)
  · have hok := ip hok hc
    have hok := Option.some.inj hok
    subst hok
    exact hk _ _ _ _ (by omega) (by omega) hP hD hS _ (lv_sub hl [0, 1, 2, 3, 4] rfl)
  · have hok := iq hok hc
    refine lv_iconst (v := (0 : Int32)) hx hb dL_law_1418 (by decide) ?_
    cases hok
def p_L_C28 (xs : Nat → Int32) (Lc : Nat) (i : Int32) (uL : tX5) (uH : tX1) (uC : tX0) (uT : tX0) (uI : tX2) (uM : tX3) (fO : Nat → Int64) : Option (tX5 × tX1 × tX0 × tX0 × tX2 × tX3 × (Nat → Int64)) :=
  gd (i + (1 : Int32)) Lc (
  bd (p_L_floorIn uH uC uT uI uM fO (xs (i + (1 : Int32)).toNatClampNeg)) (fun v2 =>
  bd (p_X5_floorIn uL (xs (i + (1 : Int32)).toNatClampNeg)) (fun v3 =>
  bd (p_X5_thrown v3.2) (fun v4 =>
  if v4 = v2.1 then
    if v2.1 = 0 then
      if (lg_cmp (v2.2 0) v3.1.toInt64) = 0 then
        some (v3.2, uH, uC, uT, uI, uM, v2.2)
      else
        none
    else
      some (v3.2, uH, uC, uT, uI, uM, v2.2)
  else
    none))))
set_option maxHeartbeats 4000000 in
set_option maxRecDepth 100000 in
theorem c_L_C28 {p : Program} {e : Env} {s : State} {m : MethodId} {below : List Frame} {meth : Method} {c : Code} (l : Launch) (hlt : l.stackTraces = false) (dC : Nat → ClassId) (dI : Nat → Nat → Nat) (cI cZ cJ : ClassId) (sa : Nat → Nat) (l0 l4 l5 l6 l8 l10 l11 l12 l13 l14 l15 l16 n0 h0 h3 h4 h5 h6 c0 c8 c9 c10 c11 c12 c13 t0 t8 t9 t10 t11 t12 t13 i0 i1 i2 i3 i4 m0 m1 m2 o0 : Nat) {b Lc : Nat} {xs : Nat → Int32} (S : CallFix p m c cL_law 9 s #[Value.ref b] lw_all RL) (hK : va_K (dC, dI) vwCl (TYJ cI cZ cJ) s) (hX : xb (fun q : Nat => s.heap.size ≤ q) sa s) (hxn : xn s) (hXs : va_X b Lc xs s s.heap) (hbl : b < s.heap.size) (i : Int32) (uL : tX5) (uH : tX1) (uC : tX0) (uT : tX0) (uI : tX2) (uM : tX3) (fO : Nat → Int64) {z : (tX5 × tX1 × tX0 × tX0 × tX2 × tX3 × (Nat → Int64))} (hok : p_L_C28 xs Lc i uL uH uC uT uI uM fO = some z) {Q : State → Prop} {kc sc : Nat} (hkc : kc + 565 ≤ 601024) (hsc : sc + 3393 ≤ 7293034) (H : Heap) (locs : List Loc) (hP : va_P (dC, dI) vwCl (wX5 cI cZ l0 l4 l5 l6 l8 l10 l11 l12 l13 l14 l15 l16 uL ++ (wN cI cZ n0 h0 h3 h4 h5 h6 c0 c8 c9 c10 c11 c12 c13 t0 t8 t9 t10 t11 t12 t13 i0 i1 i2 i3 i4 m0 m1 m2 uH uC uT uI uM ++ [(o0, .inl (cJ, 1, .inr (.inl fO)))])) H) (hD : va_D (fun q : Nat => s.heap.size ≤ q) (wX5 cI cZ l0 l4 l5 l6 l8 l10 l11 l12 l13 l14 l15 l16 uL ++ (wN cI cZ n0 h0 h3 h4 h5 h6 c0 c8 c9 c10 c11 c12 c13 t0 t8 t9 t10 t11 t12 t13 i0 i1 i2 i3 i4 m0 m1 m2 uH uC uT uI uM ++ [(o0, .inl (cJ, 1, .inr (.inl fO)))]))) (hS : va_S (fun q : Nat => s.heap.size ≤ q) s.heap H locs) (ls : Array Slot) (hl : lv_has ls 9 [(0, .ref b), (1, .ref n0), (2, .ref l0), (3, .ref o0), (4, .int i)])
    (hk : ∀ (kc' sc' : Nat) (H : Heap) (locs : List Loc), kc' ≤ kc + 565 → sc' ≤ sc + 3393 → va_P (dC, dI) vwCl (wX5 cI cZ l0 l4 l5 l6 l8 l10 l11 l12 l13 l14 l15 l16 z.1 ++ (wN cI cZ n0 h0 h3 h4 h5 h6 c0 c8 c9 c10 c11 c12 c13 t0 t8 t9 t10 t11 t12 t13 i0 i1 i2 i3 i4 m0 m1 m2 z.2.1 z.2.2.1 z.2.2.2.1 z.2.2.2.2.1 z.2.2.2.2.2.1 ++ [(o0, .inl (cJ, 1, .inr (.inl z.2.2.2.2.2.2)))])) H → va_D (fun q : Nat => s.heap.size ≤ q) (wX5 cI cZ l0 l4 l5 l6 l8 l10 l11 l12 l13 l14 l15 l16 z.1 ++ (wN cI cZ n0 h0 h3 h4 h5 h6 c0 c8 c9 c10 c11 c12 c13 t0 t8 t9 t10 t11 t12 t13 i0 i1 i2 i3 i4 m0 m1 m2 z.2.1 z.2.2.1 z.2.2.2.1 z.2.2.2.2.1 z.2.2.2.2.2.1 ++ [(o0, .inl (cJ, 1, .inr (.inl z.2.2.2.2.2.2)))])) → va_S (fun q : Nat => s.heap.size ≤ q) s.heap H locs → ∀ (ls : Array Slot), lv_has ls 9 [(0, .ref b), (1, .ref n0), (2, .ref l0), (3, .ref o0), (4, .int i)] → W p l e room_1 s m #[Value.ref b] below meth c H locs kc' sc' Q (F0 m 2451 ls [])) : W p l e room_1 s m #[Value.ref b] below meth c H locs kc sc Q (F0 m 1420 ls []) := by
  have hx := S.1
  have hb := S.2.1
  have hml := S.2.2.1
  have hown : s.vm.findClass RL = some m.cls := S.2.2.2.1
  have hts := S.2.2.2.2
  have hA : ∀ q : Nat, s.heap.size ≤ q → (fun q : Nat => s.heap.size ≤ q) q := fun _ h => h
  have hbA : ¬ (fun q : Nat => s.heap.size ≤ q) b := Nat.not_le.mpr hbl
  have hK2 : va_K (dC, dI) vwCl (TYS cI cZ) s := hK.sub [0, 1] rfl
  unfold p_L_C28 at hok
  refine lv_aload_n hx hb dL_law_1420 rfl (lv_at hl 1 rfl) ?_
  refine lv_aload_n hx hb dL_law_1421 rfl (lv_at hl 0 rfl) ?_
  refine lv_iload hx hb dL_law_1422 (lv_at hl 4 rfl) ?_
  refine lv_iconst (v := (1 : Int32)) hx hb dL_law_1424 (by decide) ?_
  refine lv_iadd hx hb dL_law_1425 ?_
  obtain ⟨hi1, hok⟩ := gd_some hok
  refine va_sld hx hb hXs hbl hbA hS hi1 dL_law_1426 ?_
  refine lv_aload_n hx hb dL_law_1427 rfl (lv_at hl 3 rfl) ?_
  obtain ⟨v2, hc2, hok⟩ := bd_some hok
  refine cHSi [.ref n0, .int (xs (i + (1 : Int32)).toNatClampNeg), .ref o0] S hK (va_Psuf hP) (va_Dsuf hD) hS hA hX hxn (c_L_floorIn l hlt dC dI cI cZ cJ n0 h0 h3 h4 h5 h6 c0 c8 c9 c10 c11 c12 c13 t0 t8 t9 t10 t11 t12 t13 i0 i1 i2 i3 i4 m0 m1 m2 o0 _ sa uH uC uT uI uM fO (xs (i + (1 : Int32)).toNatClampNeg) hc2) (lw_S qm_L_221 qt_L_floorIn qn_L qc_L_floorIn) hd_L_floorIn ⟨rfl, rfl⟩ ⟨Nat.le_of_ble_eq_true rfl, Nat.le_of_ble_eq_true rfl⟩ ⟨by show kc + 1 ≤ 601024; omega, by show sc + 6 ≤ 7293034; omega⟩ rfl hl.1 (Nat.le_of_ble_eq_true rfl) rfl dL_law_1428 (fun H1 hk9 h9 => fr_joinR hP hD K_NO hk9 h9) (D_W hD) (fun H locs hP hD hS => ?_)
  refine lv_istore (lv' := [(5, .int v2.1), (0, .ref b), (1, .ref n0), (2, .ref l0), (3, .ref o0), (4, .int i)]) hx hb dL_law_1431 hl (by decide) rfl (fun ls hl => ?_)
  refine lv_aload_n hx hb dL_law_1433 rfl (lv_at hl 3 rfl) ?_
  refine lv_aload_n hx hb dL_law_1434 rfl (lv_at hl 1 rfl) ?_
  refine lv_iload hx hb dL_law_1435 (lv_at hl 5 rfl) ?_
  refine lv_iconst (v := (1 : Int32)) hx hb dL_law_1437 (by decide) ?_
  refine lv_iadd hx hb dL_law_1438 ?_
  refine va_sld hx hb hXs hbl hbA hS hi1 dL_law_1439 ?_
  obtain ⟨v3, hc3, hok⟩ := bd_some hok
  refine cUVi (ci := 5) (q0 := 0) [.int (xs (i + (1 : Int32)).toNatClampNeg)] S hK2 (va_Pmid (wa := []) hP) (va_Dmid (wa := []) hD) hS hA (c_X5_floorIn l dC dI cI cZ l0 l4 l5 l6 l8 l10 l11 l12 l13 l14 l15 l16 _ uL (xs (i + (1 : Int32)).toNatClampNeg) hc3) (lw_V qm_L_223 qi_X5_floorIn qs_X5_floorIn qn_X5 qc_X5_floorIn) hd_X5_floorIn ⟨rfl, rfl⟩ ⟨Nat.le_of_ble_eq_true rfl, Nat.le_of_ble_eq_true rfl⟩ ⟨by show (kc + 1) + 0 ≤ 601024; omega, by show (sc + 6) + 0 ≤ 7293034; omega⟩ rfl rfl rfl hl.1 (Nat.le_of_ble_eq_true rfl) rfl dL_law_1440 (fun H1 hk9 h9 => fr_joinM (wa := []) hP hD K_L hk9 h9) (D_W hD) (fun H locs hP hD hS => ?_)
  refine lv_istore (lv' := [(6, .int v3.1), (5, .int v2.1), (0, .ref b), (1, .ref n0), (2, .ref l0), (3, .ref o0), (4, .int i)]) hx hb dL_law_1443 hl (by decide) rfl (fun ls hl => ?_)
  refine lv_aload_n hx hb dL_law_1445 rfl (lv_at hl 4 rfl) ?_
  obtain ⟨v4, hc4, hok⟩ := bd_some hok
  refine cRVi (ci := 5) (q0 := 0) [] S hK2 (va_Pmid (wa := []) hP) (c_X5_thrown l dC dI cI cZ l0 l4 l5 l6 l8 l10 l11 l12 l13 l14 l15 l16 v3.2 hc4) (lw_V qm_L_122 qi_X5_thrown qs_X5_thrown qn_X5 qc_X5_thrown) hd_X5_thrown ⟨rfl, rfl⟩ ⟨Nat.le_of_ble_eq_true rfl, Nat.le_of_ble_eq_true rfl⟩ ⟨by show ((kc + 1) + 0) ≤ 601024; omega, by show ((sc + 6) + 0) ≤ 7293034; omega⟩ rfl rfl rfl hl.1 (Nat.le_of_ble_eq_true rfl) rfl dL_law_1446 ?_
  refine lv_iload hx hb dL_law_1449 (lv_at hl 1 rfl) ?_
  refine lv_icmp_eq (tgt := 1456) hx hb dL_law_1451 (by decide) (fun hc => ?_) (fun hc => ?_)
  · have hok := ip hok hc
    refine lv_iload hx hb dL_law_1456 (lv_at hl 1 rfl) ?_
    refine lv_if_ne (tgt := 1473) hx hb dL_law_1458 (by decide) (fun hc => ?_) (fun hc => ?_)
    · have hok := iq hok hc
      refine lv_goto (tgt := 2451) hx hb dL_law_1473 (by decide) ?_
      have hok := Option.some.inj hok
      subst hok
      exact hk _ _ _ _ (by omega) (by omega) hP hD hS _ (lv_sub hl [2, 3, 4, 5, 6] rfl)
    · have hok := ip hok hc
      refine lv_aload_n hx hb dL_law_1461 rfl (lv_at hl 5 rfl) ?_
      refine lv_iconst (v := (0 : Int32)) hx hb dL_law_1462 (by decide) ?_
      refine va_laldK hx hb hK hP 40 2 rfl rfl (j := 0) (by decide) (vp_inK (by decide)) dL_law_1463 ?_
      refine lv_iload hx hb dL_law_1464 (lv_at hl 0 rfl) ?_
      refine lv_i2l (v := v3.1.toInt64) hx hb dL_law_1466 rfl ?_
      refine W.lcmp hx hb dL_law_1467 ?_
      refine lv_if_eq (tgt := 1473) hx hb dL_law_1468 (by decide) (fun hc => ?_) (fun hc => ?_)
      · have hok := ip hok hc
        refine lv_goto (tgt := 2451) hx hb dL_law_1473 (by decide) ?_
        have hok := Option.some.inj hok
        subst hok
        exact hk _ _ _ _ (by omega) (by omega) hP hD hS _ (lv_sub hl [2, 3, 4, 5, 6] rfl)
      · have hok := iq hok hc
        refine lv_iconst (v := (0 : Int32)) hx hb dL_law_1471 (by decide) ?_
        cases hok
  · have hok := iq hok hc
    refine lv_iconst (v := (0 : Int32)) hx hb dL_law_1454 (by decide) ?_
    cases hok
def p_L_C29 (xs : Nat → Int32) (Lc : Nat) (i : Int32) (uL : tX5) (uH : tX1) (uC : tX0) (uT : tX0) (uI : tX2) (uM : tX3) (fO : Nat → Int64) : Option (tX5 × tX1 × tX0 × tX0 × tX2 × tX3 × (Nat → Int64)) :=
  gd (i + (1 : Int32)) Lc (
  bd (p_L_paragraphIn uH uC uT uI uM fO (xs (i + (1 : Int32)).toNatClampNeg)) (fun v2 =>
  bd (p_X5_paragraphIn uL (xs (i + (1 : Int32)).toNatClampNeg)) (fun v3 =>
  bd (p_X5_thrown v3.2) (fun v4 =>
  if v4 = v2.1 then
    if v2.1 = 0 then
      if (lg_cmp (v2.2 0) v3.1.toInt64) = 0 then
        some (v3.2, uH, uC, uT, uI, uM, v2.2)
      else
        none
    else
      some (v3.2, uH, uC, uT, uI, uM, v2.2)
  else
    none))))
set_option maxHeartbeats 4000000 in
set_option maxRecDepth 100000 in
theorem c_L_C29 {p : Program} {e : Env} {s : State} {m : MethodId} {below : List Frame} {meth : Method} {c : Code} (l : Launch) (hlt : l.stackTraces = false) (dC : Nat → ClassId) (dI : Nat → Nat → Nat) (cI cZ cJ : ClassId) (sa : Nat → Nat) (l0 l4 l5 l6 l8 l10 l11 l12 l13 l14 l15 l16 n0 h0 h3 h4 h5 h6 c0 c8 c9 c10 c11 c12 c13 t0 t8 t9 t10 t11 t12 t13 i0 i1 i2 i3 i4 m0 m1 m2 o0 : Nat) {b Lc : Nat} {xs : Nat → Int32} (S : CallFix p m c cL_law 9 s #[Value.ref b] lw_all RL) (hK : va_K (dC, dI) vwCl (TYJ cI cZ cJ) s) (hX : xb (fun q : Nat => s.heap.size ≤ q) sa s) (hxn : xn s) (hXs : va_X b Lc xs s s.heap) (hbl : b < s.heap.size) (i : Int32) (uL : tX5) (uH : tX1) (uC : tX0) (uT : tX0) (uI : tX2) (uM : tX3) (fO : Nat → Int64) {z : (tX5 × tX1 × tX0 × tX0 × tX2 × tX3 × (Nat → Int64))} (hok : p_L_C29 xs Lc i uL uH uC uT uI uM fO = some z) {Q : State → Prop} {kc sc : Nat} (hkc : kc + 565 ≤ 601024) (hsc : sc + 3393 ≤ 7293034) (H : Heap) (locs : List Loc) (hP : va_P (dC, dI) vwCl (wX5 cI cZ l0 l4 l5 l6 l8 l10 l11 l12 l13 l14 l15 l16 uL ++ (wN cI cZ n0 h0 h3 h4 h5 h6 c0 c8 c9 c10 c11 c12 c13 t0 t8 t9 t10 t11 t12 t13 i0 i1 i2 i3 i4 m0 m1 m2 uH uC uT uI uM ++ [(o0, .inl (cJ, 1, .inr (.inl fO)))])) H) (hD : va_D (fun q : Nat => s.heap.size ≤ q) (wX5 cI cZ l0 l4 l5 l6 l8 l10 l11 l12 l13 l14 l15 l16 uL ++ (wN cI cZ n0 h0 h3 h4 h5 h6 c0 c8 c9 c10 c11 c12 c13 t0 t8 t9 t10 t11 t12 t13 i0 i1 i2 i3 i4 m0 m1 m2 uH uC uT uI uM ++ [(o0, .inl (cJ, 1, .inr (.inl fO)))]))) (hS : va_S (fun q : Nat => s.heap.size ≤ q) s.heap H locs) (ls : Array Slot) (hl : lv_has ls 9 [(0, .ref b), (1, .ref n0), (2, .ref l0), (3, .ref o0), (4, .int i)])
    (hk : ∀ (kc' sc' : Nat) (H : Heap) (locs : List Loc), kc' ≤ kc + 565 → sc' ≤ sc + 3393 → va_P (dC, dI) vwCl (wX5 cI cZ l0 l4 l5 l6 l8 l10 l11 l12 l13 l14 l15 l16 z.1 ++ (wN cI cZ n0 h0 h3 h4 h5 h6 c0 c8 c9 c10 c11 c12 c13 t0 t8 t9 t10 t11 t12 t13 i0 i1 i2 i3 i4 m0 m1 m2 z.2.1 z.2.2.1 z.2.2.2.1 z.2.2.2.2.1 z.2.2.2.2.2.1 ++ [(o0, .inl (cJ, 1, .inr (.inl z.2.2.2.2.2.2)))])) H → va_D (fun q : Nat => s.heap.size ≤ q) (wX5 cI cZ l0 l4 l5 l6 l8 l10 l11 l12 l13 l14 l15 l16 z.1 ++ (wN cI cZ n0 h0 h3 h4 h5 h6 c0 c8 c9 c10 c11 c12 c13 t0 t8 t9 t10 t11 t12 t13 i0 i1 i2 i3 i4 m0 m1 m2 z.2.1 z.2.2.1 z.2.2.2.1 z.2.2.2.2.1 z.2.2.2.2.2.1 ++ [(o0, .inl (cJ, 1, .inr (.inl z.2.2.2.2.2.2)))])) → va_S (fun q : Nat => s.heap.size ≤ q) s.heap H locs → ∀ (ls : Array Slot), lv_has ls 9 [(0, .ref b), (1, .ref n0), (2, .ref l0), (3, .ref o0), (4, .int i)] → W p l e room_1 s m #[Value.ref b] below meth c H locs kc' sc' Q (F0 m 2451 ls [])) : W p l e room_1 s m #[Value.ref b] below meth c H locs kc sc Q (F0 m 1476 ls []) := by
  have hx := S.1
  have hb := S.2.1
  have hml := S.2.2.1
  have hown : s.vm.findClass RL = some m.cls := S.2.2.2.1
  have hts := S.2.2.2.2
  have hA : ∀ q : Nat, s.heap.size ≤ q → (fun q : Nat => s.heap.size ≤ q) q := fun _ h => h
  have hbA : ¬ (fun q : Nat => s.heap.size ≤ q) b := Nat.not_le.mpr hbl
  have hK2 : va_K (dC, dI) vwCl (TYS cI cZ) s := hK.sub [0, 1] rfl
  unfold p_L_C29 at hok
  refine lv_aload_n hx hb dL_law_1476 rfl (lv_at hl 1 rfl) ?_
  refine lv_aload_n hx hb dL_law_1477 rfl (lv_at hl 0 rfl) ?_
  refine lv_iload hx hb dL_law_1478 (lv_at hl 4 rfl) ?_
  refine lv_iconst (v := (1 : Int32)) hx hb dL_law_1480 (by decide) ?_
  refine lv_iadd hx hb dL_law_1481 ?_
  obtain ⟨hi1, hok⟩ := gd_some hok
  refine va_sld hx hb hXs hbl hbA hS hi1 dL_law_1482 ?_
  refine lv_aload_n hx hb dL_law_1483 rfl (lv_at hl 3 rfl) ?_
  obtain ⟨v2, hc2, hok⟩ := bd_some hok
  refine cHSi [.ref n0, .int (xs (i + (1 : Int32)).toNatClampNeg), .ref o0] S hK (va_Psuf hP) (va_Dsuf hD) hS hA hX hxn (c_L_paragraphIn l hlt dC dI cI cZ cJ n0 h0 h3 h4 h5 h6 c0 c8 c9 c10 c11 c12 c13 t0 t8 t9 t10 t11 t12 t13 i0 i1 i2 i3 i4 m0 m1 m2 o0 _ sa uH uC uT uI uM fO (xs (i + (1 : Int32)).toNatClampNeg) hc2) (lw_S qm_L_224 qt_L_paragraphIn qn_L qc_L_paragraphIn) hd_L_paragraphIn ⟨rfl, rfl⟩ ⟨Nat.le_of_ble_eq_true rfl, Nat.le_of_ble_eq_true rfl⟩ ⟨by show kc + 1 ≤ 601024; omega, by show sc + 6 ≤ 7293034; omega⟩ rfl hl.1 (Nat.le_of_ble_eq_true rfl) rfl dL_law_1484 (fun H1 hk9 h9 => fr_joinR hP hD K_NO hk9 h9) (D_W hD) (fun H locs hP hD hS => ?_)
  refine lv_istore (lv' := [(5, .int v2.1), (0, .ref b), (1, .ref n0), (2, .ref l0), (3, .ref o0), (4, .int i)]) hx hb dL_law_1487 hl (by decide) rfl (fun ls hl => ?_)
  refine lv_aload_n hx hb dL_law_1489 rfl (lv_at hl 3 rfl) ?_
  refine lv_aload_n hx hb dL_law_1490 rfl (lv_at hl 1 rfl) ?_
  refine lv_iload hx hb dL_law_1491 (lv_at hl 5 rfl) ?_
  refine lv_iconst (v := (1 : Int32)) hx hb dL_law_1493 (by decide) ?_
  refine lv_iadd hx hb dL_law_1494 ?_
  refine va_sld hx hb hXs hbl hbA hS hi1 dL_law_1495 ?_
  obtain ⟨v3, hc3, hok⟩ := bd_some hok
  refine cUVi (ci := 5) (q0 := 0) [.int (xs (i + (1 : Int32)).toNatClampNeg)] S hK2 (va_Pmid (wa := []) hP) (va_Dmid (wa := []) hD) hS hA (c_X5_paragraphIn l dC dI cI cZ l0 l4 l5 l6 l8 l10 l11 l12 l13 l14 l15 l16 _ uL (xs (i + (1 : Int32)).toNatClampNeg) hc3) (lw_V qm_L_226 qi_X5_paragraphIn qs_X5_paragraphIn qn_X5 qc_X5_paragraphIn) hd_X5_paragraphIn ⟨rfl, rfl⟩ ⟨Nat.le_of_ble_eq_true rfl, Nat.le_of_ble_eq_true rfl⟩ ⟨by show (kc + 1) + 0 ≤ 601024; omega, by show (sc + 6) + 0 ≤ 7293034; omega⟩ rfl rfl rfl hl.1 (Nat.le_of_ble_eq_true rfl) rfl dL_law_1496 (fun H1 hk9 h9 => fr_joinM (wa := []) hP hD K_L hk9 h9) (D_W hD) (fun H locs hP hD hS => ?_)
  refine lv_istore (lv' := [(6, .int v3.1), (5, .int v2.1), (0, .ref b), (1, .ref n0), (2, .ref l0), (3, .ref o0), (4, .int i)]) hx hb dL_law_1499 hl (by decide) rfl (fun ls hl => ?_)
  refine lv_aload_n hx hb dL_law_1501 rfl (lv_at hl 4 rfl) ?_
  obtain ⟨v4, hc4, hok⟩ := bd_some hok
  refine cRVi (ci := 5) (q0 := 0) [] S hK2 (va_Pmid (wa := []) hP) (c_X5_thrown l dC dI cI cZ l0 l4 l5 l6 l8 l10 l11 l12 l13 l14 l15 l16 v3.2 hc4) (lw_V qm_L_122 qi_X5_thrown qs_X5_thrown qn_X5 qc_X5_thrown) hd_X5_thrown ⟨rfl, rfl⟩ ⟨Nat.le_of_ble_eq_true rfl, Nat.le_of_ble_eq_true rfl⟩ ⟨by show ((kc + 1) + 0) ≤ 601024; omega, by show ((sc + 6) + 0) ≤ 7293034; omega⟩ rfl rfl rfl hl.1 (Nat.le_of_ble_eq_true rfl) rfl dL_law_1502 ?_
  refine lv_iload hx hb dL_law_1505 (lv_at hl 1 rfl) ?_
  refine lv_icmp_eq (tgt := 1512) hx hb dL_law_1507 (by decide) (fun hc => ?_) (fun hc => ?_)
  · have hok := ip hok hc
    refine lv_iload hx hb dL_law_1512 (lv_at hl 1 rfl) ?_
    refine lv_if_ne (tgt := 1529) hx hb dL_law_1514 (by decide) (fun hc => ?_) (fun hc => ?_)
    · have hok := iq hok hc
      refine lv_goto (tgt := 2451) hx hb dL_law_1529 (by decide) ?_
      have hok := Option.some.inj hok
      subst hok
      exact hk _ _ _ _ (by omega) (by omega) hP hD hS _ (lv_sub hl [2, 3, 4, 5, 6] rfl)
    · have hok := ip hok hc
      refine lv_aload_n hx hb dL_law_1517 rfl (lv_at hl 5 rfl) ?_
      refine lv_iconst (v := (0 : Int32)) hx hb dL_law_1518 (by decide) ?_
      refine va_laldK hx hb hK hP 40 2 rfl rfl (j := 0) (by decide) (vp_inK (by decide)) dL_law_1519 ?_
      refine lv_iload hx hb dL_law_1520 (lv_at hl 0 rfl) ?_
      refine lv_i2l (v := v3.1.toInt64) hx hb dL_law_1522 rfl ?_
      refine W.lcmp hx hb dL_law_1523 ?_
      refine lv_if_eq (tgt := 1529) hx hb dL_law_1524 (by decide) (fun hc => ?_) (fun hc => ?_)
      · have hok := ip hok hc
        refine lv_goto (tgt := 2451) hx hb dL_law_1529 (by decide) ?_
        have hok := Option.some.inj hok
        subst hok
        exact hk _ _ _ _ (by omega) (by omega) hP hD hS _ (lv_sub hl [2, 3, 4, 5, 6] rfl)
      · have hok := iq hok hc
        refine lv_iconst (v := (0 : Int32)) hx hb dL_law_1527 (by decide) ?_
        cases hok
  · have hok := iq hok hc
    refine lv_iconst (v := (0 : Int32)) hx hb dL_law_1510 (by decide) ?_
    cases hok
def p_L_C30 (xs : Nat → Int32) (Lc : Nat) (i : Int32) (uL : tX5) (uH : tX1) (uC : tX0) (uT : tX0) (uI : tX2) (uM : tX3) (fO : Nat → Int64) : Option (tX5 × tX1 × tX0 × tX0 × tX2 × tX3 × (Nat → Int64)) :=
  gd (i + (1 : Int32)) Lc (
  bd (p_L_thrillIn uH uC uT uI uM fO (xs (i + (1 : Int32)).toNatClampNeg)) (fun v2 =>
  bd (p_X5_thrillIn uL (xs (i + (1 : Int32)).toNatClampNeg)) (fun v3 =>
  bd (p_X5_thrown v3.2) (fun v4 =>
  if v4 = v2.1 then
    if v2.1 = 0 then
      if (lg_cmp (v2.2 0) v3.1.toInt64) = 0 then
        some (v3.2, uH, uC, uT, uI, uM, v2.2)
      else
        none
    else
      some (v3.2, uH, uC, uT, uI, uM, v2.2)
  else
    none))))
set_option maxHeartbeats 4000000 in
set_option maxRecDepth 100000 in
theorem c_L_C30 {p : Program} {e : Env} {s : State} {m : MethodId} {below : List Frame} {meth : Method} {c : Code} (l : Launch) (hlt : l.stackTraces = false) (dC : Nat → ClassId) (dI : Nat → Nat → Nat) (cI cZ cJ : ClassId) (sa : Nat → Nat) (l0 l4 l5 l6 l8 l10 l11 l12 l13 l14 l15 l16 n0 h0 h3 h4 h5 h6 c0 c8 c9 c10 c11 c12 c13 t0 t8 t9 t10 t11 t12 t13 i0 i1 i2 i3 i4 m0 m1 m2 o0 : Nat) {b Lc : Nat} {xs : Nat → Int32} (S : CallFix p m c cL_law 9 s #[Value.ref b] lw_all RL) (hK : va_K (dC, dI) vwCl (TYJ cI cZ cJ) s) (hX : xb (fun q : Nat => s.heap.size ≤ q) sa s) (hxn : xn s) (hXs : va_X b Lc xs s s.heap) (hbl : b < s.heap.size) (i : Int32) (uL : tX5) (uH : tX1) (uC : tX0) (uT : tX0) (uI : tX2) (uM : tX3) (fO : Nat → Int64) {z : (tX5 × tX1 × tX0 × tX0 × tX2 × tX3 × (Nat → Int64))} (hok : p_L_C30 xs Lc i uL uH uC uT uI uM fO = some z) {Q : State → Prop} {kc sc : Nat} (hkc : kc + 565 ≤ 601024) (hsc : sc + 3393 ≤ 7293034) (H : Heap) (locs : List Loc) (hP : va_P (dC, dI) vwCl (wX5 cI cZ l0 l4 l5 l6 l8 l10 l11 l12 l13 l14 l15 l16 uL ++ (wN cI cZ n0 h0 h3 h4 h5 h6 c0 c8 c9 c10 c11 c12 c13 t0 t8 t9 t10 t11 t12 t13 i0 i1 i2 i3 i4 m0 m1 m2 uH uC uT uI uM ++ [(o0, .inl (cJ, 1, .inr (.inl fO)))])) H) (hD : va_D (fun q : Nat => s.heap.size ≤ q) (wX5 cI cZ l0 l4 l5 l6 l8 l10 l11 l12 l13 l14 l15 l16 uL ++ (wN cI cZ n0 h0 h3 h4 h5 h6 c0 c8 c9 c10 c11 c12 c13 t0 t8 t9 t10 t11 t12 t13 i0 i1 i2 i3 i4 m0 m1 m2 uH uC uT uI uM ++ [(o0, .inl (cJ, 1, .inr (.inl fO)))]))) (hS : va_S (fun q : Nat => s.heap.size ≤ q) s.heap H locs) (ls : Array Slot) (hl : lv_has ls 9 [(0, .ref b), (1, .ref n0), (2, .ref l0), (3, .ref o0), (4, .int i)])
    (hk : ∀ (kc' sc' : Nat) (H : Heap) (locs : List Loc), kc' ≤ kc + 565 → sc' ≤ sc + 3393 → va_P (dC, dI) vwCl (wX5 cI cZ l0 l4 l5 l6 l8 l10 l11 l12 l13 l14 l15 l16 z.1 ++ (wN cI cZ n0 h0 h3 h4 h5 h6 c0 c8 c9 c10 c11 c12 c13 t0 t8 t9 t10 t11 t12 t13 i0 i1 i2 i3 i4 m0 m1 m2 z.2.1 z.2.2.1 z.2.2.2.1 z.2.2.2.2.1 z.2.2.2.2.2.1 ++ [(o0, .inl (cJ, 1, .inr (.inl z.2.2.2.2.2.2)))])) H → va_D (fun q : Nat => s.heap.size ≤ q) (wX5 cI cZ l0 l4 l5 l6 l8 l10 l11 l12 l13 l14 l15 l16 z.1 ++ (wN cI cZ n0 h0 h3 h4 h5 h6 c0 c8 c9 c10 c11 c12 c13 t0 t8 t9 t10 t11 t12 t13 i0 i1 i2 i3 i4 m0 m1 m2 z.2.1 z.2.2.1 z.2.2.2.1 z.2.2.2.2.1 z.2.2.2.2.2.1 ++ [(o0, .inl (cJ, 1, .inr (.inl z.2.2.2.2.2.2)))])) → va_S (fun q : Nat => s.heap.size ≤ q) s.heap H locs → ∀ (ls : Array Slot), lv_has ls 9 [(0, .ref b), (1, .ref n0), (2, .ref l0), (3, .ref o0), (4, .int i)] → W p l e room_1 s m #[Value.ref b] below meth c H locs kc' sc' Q (F0 m 2451 ls [])) : W p l e room_1 s m #[Value.ref b] below meth c H locs kc sc Q (F0 m 1532 ls []) := by
  have hx := S.1
  have hb := S.2.1
  have hml := S.2.2.1
  have hown : s.vm.findClass RL = some m.cls := S.2.2.2.1
  have hts := S.2.2.2.2
  have hA : ∀ q : Nat, s.heap.size ≤ q → (fun q : Nat => s.heap.size ≤ q) q := fun _ h => h
  have hbA : ¬ (fun q : Nat => s.heap.size ≤ q) b := Nat.not_le.mpr hbl
  have hK2 : va_K (dC, dI) vwCl (TYS cI cZ) s := hK.sub [0, 1] rfl
  unfold p_L_C30 at hok
  refine lv_aload_n hx hb dL_law_1532 rfl (lv_at hl 1 rfl) ?_
  refine lv_aload_n hx hb dL_law_1533 rfl (lv_at hl 0 rfl) ?_
  refine lv_iload hx hb dL_law_1534 (lv_at hl 4 rfl) ?_
  refine lv_iconst (v := (1 : Int32)) hx hb dL_law_1536 (by decide) ?_
  refine lv_iadd hx hb dL_law_1537 ?_
  obtain ⟨hi1, hok⟩ := gd_some hok
  refine va_sld hx hb hXs hbl hbA hS hi1 dL_law_1538 ?_
  refine lv_aload_n hx hb dL_law_1539 rfl (lv_at hl 3 rfl) ?_
  obtain ⟨v2, hc2, hok⟩ := bd_some hok
  refine cHSi [.ref n0, .int (xs (i + (1 : Int32)).toNatClampNeg), .ref o0] S hK (va_Psuf hP) (va_Dsuf hD) hS hA hX hxn (c_L_thrillIn l hlt dC dI cI cZ cJ n0 h0 h3 h4 h5 h6 c0 c8 c9 c10 c11 c12 c13 t0 t8 t9 t10 t11 t12 t13 i0 i1 i2 i3 i4 m0 m1 m2 o0 _ sa uH uC uT uI uM fO (xs (i + (1 : Int32)).toNatClampNeg) hc2) (lw_S qm_L_227 qt_L_thrillIn qn_L qc_L_thrillIn) hd_L_thrillIn ⟨rfl, rfl⟩ ⟨Nat.le_of_ble_eq_true rfl, Nat.le_of_ble_eq_true rfl⟩ ⟨by show kc + 1 ≤ 601024; omega, by show sc + 6 ≤ 7293034; omega⟩ rfl hl.1 (Nat.le_of_ble_eq_true rfl) rfl dL_law_1540 (fun H1 hk9 h9 => fr_joinR hP hD K_NO hk9 h9) (D_W hD) (fun H locs hP hD hS => ?_)
  refine lv_istore (lv' := [(5, .int v2.1), (0, .ref b), (1, .ref n0), (2, .ref l0), (3, .ref o0), (4, .int i)]) hx hb dL_law_1543 hl (by decide) rfl (fun ls hl => ?_)
  refine lv_aload_n hx hb dL_law_1545 rfl (lv_at hl 3 rfl) ?_
  refine lv_aload_n hx hb dL_law_1546 rfl (lv_at hl 1 rfl) ?_
  refine lv_iload hx hb dL_law_1547 (lv_at hl 5 rfl) ?_
  refine lv_iconst (v := (1 : Int32)) hx hb dL_law_1549 (by decide) ?_
  refine lv_iadd hx hb dL_law_1550 ?_
  refine va_sld hx hb hXs hbl hbA hS hi1 dL_law_1551 ?_
  obtain ⟨v3, hc3, hok⟩ := bd_some hok
  refine cUVi (ci := 5) (q0 := 0) [.int (xs (i + (1 : Int32)).toNatClampNeg)] S hK2 (va_Pmid (wa := []) hP) (va_Dmid (wa := []) hD) hS hA (c_X5_thrillIn l dC dI cI cZ l0 l4 l5 l6 l8 l10 l11 l12 l13 l14 l15 l16 _ uL (xs (i + (1 : Int32)).toNatClampNeg) hc3) (lw_V qm_L_229 qi_X5_thrillIn qs_X5_thrillIn qn_X5 qc_X5_thrillIn) hd_X5_thrillIn ⟨rfl, rfl⟩ ⟨Nat.le_of_ble_eq_true rfl, Nat.le_of_ble_eq_true rfl⟩ ⟨by show (kc + 1) + 0 ≤ 601024; omega, by show (sc + 6) + 0 ≤ 7293034; omega⟩ rfl rfl rfl hl.1 (Nat.le_of_ble_eq_true rfl) rfl dL_law_1552 (fun H1 hk9 h9 => fr_joinM (wa := []) hP hD K_L hk9 h9) (D_W hD) (fun H locs hP hD hS => ?_)
  refine lv_istore (lv' := [(6, .int v3.1), (5, .int v2.1), (0, .ref b), (1, .ref n0), (2, .ref l0), (3, .ref o0), (4, .int i)]) hx hb dL_law_1555 hl (by decide) rfl (fun ls hl => ?_)
  refine lv_aload_n hx hb dL_law_1557 rfl (lv_at hl 4 rfl) ?_
  obtain ⟨v4, hc4, hok⟩ := bd_some hok
  refine cRVi (ci := 5) (q0 := 0) [] S hK2 (va_Pmid (wa := []) hP) (c_X5_thrown l dC dI cI cZ l0 l4 l5 l6 l8 l10 l11 l12 l13 l14 l15 l16 v3.2 hc4) (lw_V qm_L_122 qi_X5_thrown qs_X5_thrown qn_X5 qc_X5_thrown) hd_X5_thrown ⟨rfl, rfl⟩ ⟨Nat.le_of_ble_eq_true rfl, Nat.le_of_ble_eq_true rfl⟩ ⟨by show ((kc + 1) + 0) ≤ 601024; omega, by show ((sc + 6) + 0) ≤ 7293034; omega⟩ rfl rfl rfl hl.1 (Nat.le_of_ble_eq_true rfl) rfl dL_law_1558 ?_
  refine lv_iload hx hb dL_law_1561 (lv_at hl 1 rfl) ?_
  refine lv_icmp_eq (tgt := 1568) hx hb dL_law_1563 (by decide) (fun hc => ?_) (fun hc => ?_)
  · have hok := ip hok hc
    refine lv_iload hx hb dL_law_1568 (lv_at hl 1 rfl) ?_
    refine lv_if_ne (tgt := 1585) hx hb dL_law_1570 (by decide) (fun hc => ?_) (fun hc => ?_)
    · have hok := iq hok hc
      refine lv_goto (tgt := 2451) hx hb dL_law_1585 (by decide) ?_
      have hok := Option.some.inj hok
      subst hok
      exact hk _ _ _ _ (by omega) (by omega) hP hD hS _ (lv_sub hl [2, 3, 4, 5, 6] rfl)
    · have hok := ip hok hc
      refine lv_aload_n hx hb dL_law_1573 rfl (lv_at hl 5 rfl) ?_
      refine lv_iconst (v := (0 : Int32)) hx hb dL_law_1574 (by decide) ?_
      refine va_laldK hx hb hK hP 40 2 rfl rfl (j := 0) (by decide) (vp_inK (by decide)) dL_law_1575 ?_
      refine lv_iload hx hb dL_law_1576 (lv_at hl 0 rfl) ?_
      refine lv_i2l (v := v3.1.toInt64) hx hb dL_law_1578 rfl ?_
      refine W.lcmp hx hb dL_law_1579 ?_
      refine lv_if_eq (tgt := 1585) hx hb dL_law_1580 (by decide) (fun hc => ?_) (fun hc => ?_)
      · have hok := ip hok hc
        refine lv_goto (tgt := 2451) hx hb dL_law_1585 (by decide) ?_
        have hok := Option.some.inj hok
        subst hok
        exact hk _ _ _ _ (by omega) (by omega) hP hD hS _ (lv_sub hl [2, 3, 4, 5, 6] rfl)
      · have hok := iq hok hc
        refine lv_iconst (v := (0 : Int32)) hx hb dL_law_1583 (by decide) ?_
        cases hok
  · have hok := iq hok hc
    refine lv_iconst (v := (0 : Int32)) hx hb dL_law_1566 (by decide) ?_
    cases hok
def p_L_C31 (xs : Nat → Int32) (Lc : Nat) (i : Int32) (uL : tX5) (uH : tX1) (uC : tX0) (uT : tX0) (uI : tX2) (uM : tX3) (fO : Nat → Int64) : Option (tX5 × tX1 × tX0 × tX0 × tX2 × tX3 × (Nat → Int64)) :=
  gd (i + (1 : Int32)) Lc (
  bd (p_L_hourIn uH uC uT uI uM fO (xs (i + (1 : Int32)).toNatClampNeg)) (fun v2 =>
  bd (p_X5_hourIn uL (xs (i + (1 : Int32)).toNatClampNeg)) (fun v3 =>
  bd (p_X5_thrown v3.2) (fun v4 =>
  if v4 = v2.1 then
    if v2.1 = 0 then
      if (lg_cmp (v2.2 0) v3.1.toInt64) = 0 then
        some (v3.2, uH, uC, uT, uI, uM, v2.2)
      else
        none
    else
      some (v3.2, uH, uC, uT, uI, uM, v2.2)
  else
    none))))
set_option maxHeartbeats 4000000 in
set_option maxRecDepth 100000 in
theorem c_L_C31 {p : Program} {e : Env} {s : State} {m : MethodId} {below : List Frame} {meth : Method} {c : Code} (l : Launch) (hlt : l.stackTraces = false) (dC : Nat → ClassId) (dI : Nat → Nat → Nat) (cI cZ cJ : ClassId) (sa : Nat → Nat) (l0 l4 l5 l6 l8 l10 l11 l12 l13 l14 l15 l16 n0 h0 h3 h4 h5 h6 c0 c8 c9 c10 c11 c12 c13 t0 t8 t9 t10 t11 t12 t13 i0 i1 i2 i3 i4 m0 m1 m2 o0 : Nat) {b Lc : Nat} {xs : Nat → Int32} (S : CallFix p m c cL_law 9 s #[Value.ref b] lw_all RL) (hK : va_K (dC, dI) vwCl (TYJ cI cZ cJ) s) (hX : xb (fun q : Nat => s.heap.size ≤ q) sa s) (hxn : xn s) (hXs : va_X b Lc xs s s.heap) (hbl : b < s.heap.size) (i : Int32) (uL : tX5) (uH : tX1) (uC : tX0) (uT : tX0) (uI : tX2) (uM : tX3) (fO : Nat → Int64) {z : (tX5 × tX1 × tX0 × tX0 × tX2 × tX3 × (Nat → Int64))} (hok : p_L_C31 xs Lc i uL uH uC uT uI uM fO = some z) {Q : State → Prop} {kc sc : Nat} (hkc : kc + 565 ≤ 601024) (hsc : sc + 3393 ≤ 7293034) (H : Heap) (locs : List Loc) (hP : va_P (dC, dI) vwCl (wX5 cI cZ l0 l4 l5 l6 l8 l10 l11 l12 l13 l14 l15 l16 uL ++ (wN cI cZ n0 h0 h3 h4 h5 h6 c0 c8 c9 c10 c11 c12 c13 t0 t8 t9 t10 t11 t12 t13 i0 i1 i2 i3 i4 m0 m1 m2 uH uC uT uI uM ++ [(o0, .inl (cJ, 1, .inr (.inl fO)))])) H) (hD : va_D (fun q : Nat => s.heap.size ≤ q) (wX5 cI cZ l0 l4 l5 l6 l8 l10 l11 l12 l13 l14 l15 l16 uL ++ (wN cI cZ n0 h0 h3 h4 h5 h6 c0 c8 c9 c10 c11 c12 c13 t0 t8 t9 t10 t11 t12 t13 i0 i1 i2 i3 i4 m0 m1 m2 uH uC uT uI uM ++ [(o0, .inl (cJ, 1, .inr (.inl fO)))]))) (hS : va_S (fun q : Nat => s.heap.size ≤ q) s.heap H locs) (ls : Array Slot) (hl : lv_has ls 9 [(0, .ref b), (1, .ref n0), (2, .ref l0), (3, .ref o0), (4, .int i)])
    (hk : ∀ (kc' sc' : Nat) (H : Heap) (locs : List Loc), kc' ≤ kc + 565 → sc' ≤ sc + 3393 → va_P (dC, dI) vwCl (wX5 cI cZ l0 l4 l5 l6 l8 l10 l11 l12 l13 l14 l15 l16 z.1 ++ (wN cI cZ n0 h0 h3 h4 h5 h6 c0 c8 c9 c10 c11 c12 c13 t0 t8 t9 t10 t11 t12 t13 i0 i1 i2 i3 i4 m0 m1 m2 z.2.1 z.2.2.1 z.2.2.2.1 z.2.2.2.2.1 z.2.2.2.2.2.1 ++ [(o0, .inl (cJ, 1, .inr (.inl z.2.2.2.2.2.2)))])) H → va_D (fun q : Nat => s.heap.size ≤ q) (wX5 cI cZ l0 l4 l5 l6 l8 l10 l11 l12 l13 l14 l15 l16 z.1 ++ (wN cI cZ n0 h0 h3 h4 h5 h6 c0 c8 c9 c10 c11 c12 c13 t0 t8 t9 t10 t11 t12 t13 i0 i1 i2 i3 i4 m0 m1 m2 z.2.1 z.2.2.1 z.2.2.2.1 z.2.2.2.2.1 z.2.2.2.2.2.1 ++ [(o0, .inl (cJ, 1, .inr (.inl z.2.2.2.2.2.2)))])) → va_S (fun q : Nat => s.heap.size ≤ q) s.heap H locs → ∀ (ls : Array Slot), lv_has ls 9 [(0, .ref b), (1, .ref n0), (2, .ref l0), (3, .ref o0), (4, .int i)] → W p l e room_1 s m #[Value.ref b] below meth c H locs kc' sc' Q (F0 m 2451 ls [])) : W p l e room_1 s m #[Value.ref b] below meth c H locs kc sc Q (F0 m 1588 ls []) := by
  have hx := S.1
  have hb := S.2.1
  have hml := S.2.2.1
  have hown : s.vm.findClass RL = some m.cls := S.2.2.2.1
  have hts := S.2.2.2.2
  have hA : ∀ q : Nat, s.heap.size ≤ q → (fun q : Nat => s.heap.size ≤ q) q := fun _ h => h
  have hbA : ¬ (fun q : Nat => s.heap.size ≤ q) b := Nat.not_le.mpr hbl
  have hK2 : va_K (dC, dI) vwCl (TYS cI cZ) s := hK.sub [0, 1] rfl
  unfold p_L_C31 at hok
  refine lv_aload_n hx hb dL_law_1588 rfl (lv_at hl 1 rfl) ?_
  refine lv_aload_n hx hb dL_law_1589 rfl (lv_at hl 0 rfl) ?_
  refine lv_iload hx hb dL_law_1590 (lv_at hl 4 rfl) ?_
  refine lv_iconst (v := (1 : Int32)) hx hb dL_law_1592 (by decide) ?_
  refine lv_iadd hx hb dL_law_1593 ?_
  obtain ⟨hi1, hok⟩ := gd_some hok
  refine va_sld hx hb hXs hbl hbA hS hi1 dL_law_1594 ?_
  refine lv_aload_n hx hb dL_law_1595 rfl (lv_at hl 3 rfl) ?_
  obtain ⟨v2, hc2, hok⟩ := bd_some hok
  refine cHSi [.ref n0, .int (xs (i + (1 : Int32)).toNatClampNeg), .ref o0] S hK (va_Psuf hP) (va_Dsuf hD) hS hA hX hxn (c_L_hourIn l hlt dC dI cI cZ cJ n0 h0 h3 h4 h5 h6 c0 c8 c9 c10 c11 c12 c13 t0 t8 t9 t10 t11 t12 t13 i0 i1 i2 i3 i4 m0 m1 m2 o0 _ sa uH uC uT uI uM fO (xs (i + (1 : Int32)).toNatClampNeg) hc2) (lw_S qm_L_230 qt_L_hourIn qn_L qc_L_hourIn) hd_L_hourIn ⟨rfl, rfl⟩ ⟨Nat.le_of_ble_eq_true rfl, Nat.le_of_ble_eq_true rfl⟩ ⟨by show kc + 1 ≤ 601024; omega, by show sc + 6 ≤ 7293034; omega⟩ rfl hl.1 (Nat.le_of_ble_eq_true rfl) rfl dL_law_1596 (fun H1 hk9 h9 => fr_joinR hP hD K_NO hk9 h9) (D_W hD) (fun H locs hP hD hS => ?_)
  refine lv_istore (lv' := [(5, .int v2.1), (0, .ref b), (1, .ref n0), (2, .ref l0), (3, .ref o0), (4, .int i)]) hx hb dL_law_1599 hl (by decide) rfl (fun ls hl => ?_)
  refine lv_aload_n hx hb dL_law_1601 rfl (lv_at hl 3 rfl) ?_
  refine lv_aload_n hx hb dL_law_1602 rfl (lv_at hl 1 rfl) ?_
  refine lv_iload hx hb dL_law_1603 (lv_at hl 5 rfl) ?_
  refine lv_iconst (v := (1 : Int32)) hx hb dL_law_1605 (by decide) ?_
  refine lv_iadd hx hb dL_law_1606 ?_
  refine va_sld hx hb hXs hbl hbA hS hi1 dL_law_1607 ?_
  obtain ⟨v3, hc3, hok⟩ := bd_some hok
  refine cUVi (ci := 5) (q0 := 0) [.int (xs (i + (1 : Int32)).toNatClampNeg)] S hK2 (va_Pmid (wa := []) hP) (va_Dmid (wa := []) hD) hS hA (c_X5_hourIn l dC dI cI cZ l0 l4 l5 l6 l8 l10 l11 l12 l13 l14 l15 l16 _ uL (xs (i + (1 : Int32)).toNatClampNeg) hc3) (lw_V qm_L_232 qi_X5_hourIn qs_X5_hourIn qn_X5 qc_X5_hourIn) hd_X5_hourIn ⟨rfl, rfl⟩ ⟨Nat.le_of_ble_eq_true rfl, Nat.le_of_ble_eq_true rfl⟩ ⟨by show (kc + 1) + 0 ≤ 601024; omega, by show (sc + 6) + 0 ≤ 7293034; omega⟩ rfl rfl rfl hl.1 (Nat.le_of_ble_eq_true rfl) rfl dL_law_1608 (fun H1 hk9 h9 => fr_joinM (wa := []) hP hD K_L hk9 h9) (D_W hD) (fun H locs hP hD hS => ?_)
  refine lv_istore (lv' := [(6, .int v3.1), (5, .int v2.1), (0, .ref b), (1, .ref n0), (2, .ref l0), (3, .ref o0), (4, .int i)]) hx hb dL_law_1611 hl (by decide) rfl (fun ls hl => ?_)
  refine lv_aload_n hx hb dL_law_1613 rfl (lv_at hl 4 rfl) ?_
  obtain ⟨v4, hc4, hok⟩ := bd_some hok
  refine cRVi (ci := 5) (q0 := 0) [] S hK2 (va_Pmid (wa := []) hP) (c_X5_thrown l dC dI cI cZ l0 l4 l5 l6 l8 l10 l11 l12 l13 l14 l15 l16 v3.2 hc4) (lw_V qm_L_122 qi_X5_thrown qs_X5_thrown qn_X5 qc_X5_thrown) hd_X5_thrown ⟨rfl, rfl⟩ ⟨Nat.le_of_ble_eq_true rfl, Nat.le_of_ble_eq_true rfl⟩ ⟨by show ((kc + 1) + 0) ≤ 601024; omega, by show ((sc + 6) + 0) ≤ 7293034; omega⟩ rfl rfl rfl hl.1 (Nat.le_of_ble_eq_true rfl) rfl dL_law_1614 ?_
  refine lv_iload hx hb dL_law_1617 (lv_at hl 1 rfl) ?_
  refine lv_icmp_eq (tgt := 1624) hx hb dL_law_1619 (by decide) (fun hc => ?_) (fun hc => ?_)
  · have hok := ip hok hc
    refine lv_iload hx hb dL_law_1624 (lv_at hl 1 rfl) ?_
    refine lv_if_ne (tgt := 1641) hx hb dL_law_1626 (by decide) (fun hc => ?_) (fun hc => ?_)
    · have hok := iq hok hc
      refine lv_goto (tgt := 2451) hx hb dL_law_1641 (by decide) ?_
      have hok := Option.some.inj hok
      subst hok
      exact hk _ _ _ _ (by omega) (by omega) hP hD hS _ (lv_sub hl [2, 3, 4, 5, 6] rfl)
    · have hok := ip hok hc
      refine lv_aload_n hx hb dL_law_1629 rfl (lv_at hl 5 rfl) ?_
      refine lv_iconst (v := (0 : Int32)) hx hb dL_law_1630 (by decide) ?_
      refine va_laldK hx hb hK hP 40 2 rfl rfl (j := 0) (by decide) (vp_inK (by decide)) dL_law_1631 ?_
      refine lv_iload hx hb dL_law_1632 (lv_at hl 0 rfl) ?_
      refine lv_i2l (v := v3.1.toInt64) hx hb dL_law_1634 rfl ?_
      refine W.lcmp hx hb dL_law_1635 ?_
      refine lv_if_eq (tgt := 1641) hx hb dL_law_1636 (by decide) (fun hc => ?_) (fun hc => ?_)
      · have hok := ip hok hc
        refine lv_goto (tgt := 2451) hx hb dL_law_1641 (by decide) ?_
        have hok := Option.some.inj hok
        subst hok
        exact hk _ _ _ _ (by omega) (by omega) hP hD hS _ (lv_sub hl [2, 3, 4, 5, 6] rfl)
      · have hok := iq hok hc
        refine lv_iconst (v := (0 : Int32)) hx hb dL_law_1639 (by decide) ?_
        cases hok
  · have hok := iq hok hc
    refine lv_iconst (v := (0 : Int32)) hx hb dL_law_1622 (by decide) ?_
    cases hok
def p_L_C32 (xs : Nat → Int32) (Lc : Nat) (i : Int32) (uL : tX5) (uH : tX1) (uC : tX0) (uT : tX0) (uI : tX2) (uM : tX3) (fO : Nat → Int64) : Option (tX5 × tX1 × tX0 × tX0 × tX2 × tX3 × (Nat → Int64)) :=
  bd (p_X4_mostThrilling uH uC uT uI uM) (fun v1 =>
  bd (p_X5_mostThrilling uL) (fun v2 =>
  if v1 = v2.1 then
    some (v2.2, uH, uC, uT, uI, uM, fO)
  else
    none))
set_option maxHeartbeats 4000000 in
set_option maxRecDepth 100000 in
theorem c_L_C32 {p : Program} {e : Env} {s : State} {m : MethodId} {below : List Frame} {meth : Method} {c : Code} (l : Launch) (hlt : l.stackTraces = false) (dC : Nat → ClassId) (dI : Nat → Nat → Nat) (cI cZ cJ : ClassId) (sa : Nat → Nat) (l0 l4 l5 l6 l8 l10 l11 l12 l13 l14 l15 l16 n0 h0 h3 h4 h5 h6 c0 c8 c9 c10 c11 c12 c13 t0 t8 t9 t10 t11 t12 t13 i0 i1 i2 i3 i4 m0 m1 m2 o0 : Nat) {b Lc : Nat} {xs : Nat → Int32} (S : CallFix p m c cL_law 9 s #[Value.ref b] lw_all RL) (hK : va_K (dC, dI) vwCl (TYJ cI cZ cJ) s) (hX : xb (fun q : Nat => s.heap.size ≤ q) sa s) (hxn : xn s) (hXs : va_X b Lc xs s s.heap) (hbl : b < s.heap.size) (i : Int32) (uL : tX5) (uH : tX1) (uC : tX0) (uT : tX0) (uI : tX2) (uM : tX3) (fO : Nat → Int64) {z : (tX5 × tX1 × tX0 × tX0 × tX2 × tX3 × (Nat → Int64))} (hok : p_L_C32 xs Lc i uL uH uC uT uI uM fO = some z) {Q : State → Prop} {kc sc : Nat} (hkc : kc + 565 ≤ 601024) (hsc : sc + 3393 ≤ 7293034) (H : Heap) (locs : List Loc) (hP : va_P (dC, dI) vwCl (wX5 cI cZ l0 l4 l5 l6 l8 l10 l11 l12 l13 l14 l15 l16 uL ++ (wN cI cZ n0 h0 h3 h4 h5 h6 c0 c8 c9 c10 c11 c12 c13 t0 t8 t9 t10 t11 t12 t13 i0 i1 i2 i3 i4 m0 m1 m2 uH uC uT uI uM ++ [(o0, .inl (cJ, 1, .inr (.inl fO)))])) H) (hD : va_D (fun q : Nat => s.heap.size ≤ q) (wX5 cI cZ l0 l4 l5 l6 l8 l10 l11 l12 l13 l14 l15 l16 uL ++ (wN cI cZ n0 h0 h3 h4 h5 h6 c0 c8 c9 c10 c11 c12 c13 t0 t8 t9 t10 t11 t12 t13 i0 i1 i2 i3 i4 m0 m1 m2 uH uC uT uI uM ++ [(o0, .inl (cJ, 1, .inr (.inl fO)))]))) (hS : va_S (fun q : Nat => s.heap.size ≤ q) s.heap H locs) (ls : Array Slot) (hl : lv_has ls 9 [(0, .ref b), (1, .ref n0), (2, .ref l0), (3, .ref o0), (4, .int i)])
    (hk : ∀ (kc' sc' : Nat) (H : Heap) (locs : List Loc), kc' ≤ kc + 565 → sc' ≤ sc + 3393 → va_P (dC, dI) vwCl (wX5 cI cZ l0 l4 l5 l6 l8 l10 l11 l12 l13 l14 l15 l16 z.1 ++ (wN cI cZ n0 h0 h3 h4 h5 h6 c0 c8 c9 c10 c11 c12 c13 t0 t8 t9 t10 t11 t12 t13 i0 i1 i2 i3 i4 m0 m1 m2 z.2.1 z.2.2.1 z.2.2.2.1 z.2.2.2.2.1 z.2.2.2.2.2.1 ++ [(o0, .inl (cJ, 1, .inr (.inl z.2.2.2.2.2.2)))])) H → va_D (fun q : Nat => s.heap.size ≤ q) (wX5 cI cZ l0 l4 l5 l6 l8 l10 l11 l12 l13 l14 l15 l16 z.1 ++ (wN cI cZ n0 h0 h3 h4 h5 h6 c0 c8 c9 c10 c11 c12 c13 t0 t8 t9 t10 t11 t12 t13 i0 i1 i2 i3 i4 m0 m1 m2 z.2.1 z.2.2.1 z.2.2.2.1 z.2.2.2.2.1 z.2.2.2.2.2.1 ++ [(o0, .inl (cJ, 1, .inr (.inl z.2.2.2.2.2.2)))])) → va_S (fun q : Nat => s.heap.size ≤ q) s.heap H locs → ∀ (ls : Array Slot), lv_has ls 9 [(0, .ref b), (1, .ref n0), (2, .ref l0), (3, .ref o0), (4, .int i)] → W p l e room_1 s m #[Value.ref b] below meth c H locs kc' sc' Q (F0 m 2451 ls [])) : W p l e room_1 s m #[Value.ref b] below meth c H locs kc sc Q (F0 m 1644 ls []) := by
  have hx := S.1
  have hb := S.2.1
  have hml := S.2.2.1
  have hown : s.vm.findClass RL = some m.cls := S.2.2.2.1
  have hts := S.2.2.2.2
  have hA : ∀ q : Nat, s.heap.size ≤ q → (fun q : Nat => s.heap.size ≤ q) q := fun _ h => h
  have hbA : ¬ (fun q : Nat => s.heap.size ≤ q) b := Nat.not_le.mpr hbl
  have hK2 : va_K (dC, dI) vwCl (TYS cI cZ) s := hK.sub [0, 1] rfl
  unfold p_L_C32 at hok
  refine lv_aload_n hx hb dL_law_1644 rfl (lv_at hl 1 rfl) ?_
  obtain ⟨v1, hc1, hok⟩ := bd_some hok
  refine cRVi (ci := 4) (q0 := 0) [] S hK2 (va_Pmid hP) (c_X4_mostThrilling l dC dI cI cZ n0 h0 h3 h4 h5 h6 c0 c8 c9 c10 c11 c12 c13 t0 t8 t9 t10 t11 t12 t13 i0 i1 i2 i3 i4 m0 m1 m2 uH uC uT uI uM hc1) (lw_V qm_L_233 qi_X4_mostThrilling qs_X4_mostThrilling qn_X4 qc_X4_mostThrilling) hd_X4_mostThrilling ⟨rfl, rfl⟩ ⟨Nat.le_of_ble_eq_true rfl, Nat.le_of_ble_eq_true rfl⟩ ⟨by show kc ≤ 601024; omega, by show sc ≤ 7293034; omega⟩ rfl rfl rfl hl.1 (Nat.le_of_ble_eq_true rfl) rfl dL_law_1645 ?_
  refine lv_aload_n hx hb dL_law_1648 rfl (lv_at hl 2 rfl) ?_
  obtain ⟨v2, hc2, hok⟩ := bd_some hok
  refine cUVi (ci := 5) (q0 := 0) [] S hK2 (va_Pmid (wa := []) hP) (va_Dmid (wa := []) hD) hS hA (c_X5_mostThrilling l dC dI cI cZ l0 l4 l5 l6 l8 l10 l11 l12 l13 l14 l15 l16 _ uL hc2) (lw_V qm_L_236 qi_X5_mostThrilling qs_X5_mostThrilling qn_X5 qc_X5_mostThrilling) hd_X5_mostThrilling ⟨rfl, rfl⟩ ⟨Nat.le_of_ble_eq_true rfl, Nat.le_of_ble_eq_true rfl⟩ ⟨by show kc + 0 ≤ 601024; omega, by show sc + 0 ≤ 7293034; omega⟩ rfl rfl rfl hl.1 (Nat.le_of_ble_eq_true rfl) rfl dL_law_1649 (fun H1 hk9 h9 => fr_joinM (wa := []) hP hD K_L hk9 h9) (D_W hD) (fun H locs hP hD hS => ?_)
  refine lv_icmp_eq (tgt := 2451) hx hb dL_law_1652 (by decide) (fun hc => ?_) (fun hc => ?_)
  · have hok := ip hok hc
    have hok := Option.some.inj hok
    subst hok
    exact hk _ _ _ _ (by omega) (by omega) hP hD hS _ (lv_sub hl [0, 1, 2, 3, 4] rfl)
  · have hok := iq hok hc
    refine lv_iconst (v := (0 : Int32)) hx hb dL_law_1655 (by decide) ?_
    cases hok
def p_L_C33 (xs : Nat → Int32) (Lc : Nat) (i : Int32) (uL : tX5) (uH : tX1) (uC : tX0) (uT : tX0) (uI : tX2) (uM : tX3) (fO : Nat → Int64) : Option (tX5 × tX1 × tX0 × tX0 × tX2 × tX3 × (Nat → Int64)) :=
  bd (p_X4_longestWait uH uC uT uI uM) (fun v1 =>
  bd (p_X5_longestWait uL) (fun v2 =>
  if v1 = v2.1 then
    some (v2.2, uH, uC, uT, uI, uM, fO)
  else
    none))
set_option maxHeartbeats 4000000 in
set_option maxRecDepth 100000 in
theorem c_L_C33 {p : Program} {e : Env} {s : State} {m : MethodId} {below : List Frame} {meth : Method} {c : Code} (l : Launch) (hlt : l.stackTraces = false) (dC : Nat → ClassId) (dI : Nat → Nat → Nat) (cI cZ cJ : ClassId) (sa : Nat → Nat) (l0 l4 l5 l6 l8 l10 l11 l12 l13 l14 l15 l16 n0 h0 h3 h4 h5 h6 c0 c8 c9 c10 c11 c12 c13 t0 t8 t9 t10 t11 t12 t13 i0 i1 i2 i3 i4 m0 m1 m2 o0 : Nat) {b Lc : Nat} {xs : Nat → Int32} (S : CallFix p m c cL_law 9 s #[Value.ref b] lw_all RL) (hK : va_K (dC, dI) vwCl (TYJ cI cZ cJ) s) (hX : xb (fun q : Nat => s.heap.size ≤ q) sa s) (hxn : xn s) (hXs : va_X b Lc xs s s.heap) (hbl : b < s.heap.size) (i : Int32) (uL : tX5) (uH : tX1) (uC : tX0) (uT : tX0) (uI : tX2) (uM : tX3) (fO : Nat → Int64) {z : (tX5 × tX1 × tX0 × tX0 × tX2 × tX3 × (Nat → Int64))} (hok : p_L_C33 xs Lc i uL uH uC uT uI uM fO = some z) {Q : State → Prop} {kc sc : Nat} (hkc : kc + 565 ≤ 601024) (hsc : sc + 3393 ≤ 7293034) (H : Heap) (locs : List Loc) (hP : va_P (dC, dI) vwCl (wX5 cI cZ l0 l4 l5 l6 l8 l10 l11 l12 l13 l14 l15 l16 uL ++ (wN cI cZ n0 h0 h3 h4 h5 h6 c0 c8 c9 c10 c11 c12 c13 t0 t8 t9 t10 t11 t12 t13 i0 i1 i2 i3 i4 m0 m1 m2 uH uC uT uI uM ++ [(o0, .inl (cJ, 1, .inr (.inl fO)))])) H) (hD : va_D (fun q : Nat => s.heap.size ≤ q) (wX5 cI cZ l0 l4 l5 l6 l8 l10 l11 l12 l13 l14 l15 l16 uL ++ (wN cI cZ n0 h0 h3 h4 h5 h6 c0 c8 c9 c10 c11 c12 c13 t0 t8 t9 t10 t11 t12 t13 i0 i1 i2 i3 i4 m0 m1 m2 uH uC uT uI uM ++ [(o0, .inl (cJ, 1, .inr (.inl fO)))]))) (hS : va_S (fun q : Nat => s.heap.size ≤ q) s.heap H locs) (ls : Array Slot) (hl : lv_has ls 9 [(0, .ref b), (1, .ref n0), (2, .ref l0), (3, .ref o0), (4, .int i)])
    (hk : ∀ (kc' sc' : Nat) (H : Heap) (locs : List Loc), kc' ≤ kc + 565 → sc' ≤ sc + 3393 → va_P (dC, dI) vwCl (wX5 cI cZ l0 l4 l5 l6 l8 l10 l11 l12 l13 l14 l15 l16 z.1 ++ (wN cI cZ n0 h0 h3 h4 h5 h6 c0 c8 c9 c10 c11 c12 c13 t0 t8 t9 t10 t11 t12 t13 i0 i1 i2 i3 i4 m0 m1 m2 z.2.1 z.2.2.1 z.2.2.2.1 z.2.2.2.2.1 z.2.2.2.2.2.1 ++ [(o0, .inl (cJ, 1, .inr (.inl z.2.2.2.2.2.2)))])) H → va_D (fun q : Nat => s.heap.size ≤ q) (wX5 cI cZ l0 l4 l5 l6 l8 l10 l11 l12 l13 l14 l15 l16 z.1 ++ (wN cI cZ n0 h0 h3 h4 h5 h6 c0 c8 c9 c10 c11 c12 c13 t0 t8 t9 t10 t11 t12 t13 i0 i1 i2 i3 i4 m0 m1 m2 z.2.1 z.2.2.1 z.2.2.2.1 z.2.2.2.2.1 z.2.2.2.2.2.1 ++ [(o0, .inl (cJ, 1, .inr (.inl z.2.2.2.2.2.2)))])) → va_S (fun q : Nat => s.heap.size ≤ q) s.heap H locs → ∀ (ls : Array Slot), lv_has ls 9 [(0, .ref b), (1, .ref n0), (2, .ref l0), (3, .ref o0), (4, .int i)] → W p l e room_1 s m #[Value.ref b] below meth c H locs kc' sc' Q (F0 m 2451 ls [])) : W p l e room_1 s m #[Value.ref b] below meth c H locs kc sc Q (F0 m 1657 ls []) := by
  have hx := S.1
  have hb := S.2.1
  have hml := S.2.2.1
  have hown : s.vm.findClass RL = some m.cls := S.2.2.2.1
  have hts := S.2.2.2.2
  have hA : ∀ q : Nat, s.heap.size ≤ q → (fun q : Nat => s.heap.size ≤ q) q := fun _ h => h
  have hbA : ¬ (fun q : Nat => s.heap.size ≤ q) b := Nat.not_le.mpr hbl
  have hK2 : va_K (dC, dI) vwCl (TYS cI cZ) s := hK.sub [0, 1] rfl
  unfold p_L_C33 at hok
  refine lv_aload_n hx hb dL_law_1657 rfl (lv_at hl 1 rfl) ?_
  obtain ⟨v1, hc1, hok⟩ := bd_some hok
  refine cRVi (ci := 4) (q0 := 0) [] S hK2 (va_Pmid hP) (c_X4_longestWait l dC dI cI cZ n0 h0 h3 h4 h5 h6 c0 c8 c9 c10 c11 c12 c13 t0 t8 t9 t10 t11 t12 t13 i0 i1 i2 i3 i4 m0 m1 m2 uH uC uT uI uM hc1) (lw_V qm_L_237 qi_X4_longestWait qs_X4_longestWait qn_X4 qc_X4_longestWait) hd_X4_longestWait ⟨rfl, rfl⟩ ⟨Nat.le_of_ble_eq_true rfl, Nat.le_of_ble_eq_true rfl⟩ ⟨by show kc ≤ 601024; omega, by show sc ≤ 7293034; omega⟩ rfl rfl rfl hl.1 (Nat.le_of_ble_eq_true rfl) rfl dL_law_1658 ?_
  refine lv_aload_n hx hb dL_law_1661 rfl (lv_at hl 2 rfl) ?_
  obtain ⟨v2, hc2, hok⟩ := bd_some hok
  refine cUVi (ci := 5) (q0 := 0) [] S hK2 (va_Pmid (wa := []) hP) (va_Dmid (wa := []) hD) hS hA (c_X5_longestWait l dC dI cI cZ l0 l4 l5 l6 l8 l10 l11 l12 l13 l14 l15 l16 _ uL hc2) (lw_V qm_L_240 qi_X5_longestWait qs_X5_longestWait qn_X5 qc_X5_longestWait) hd_X5_longestWait ⟨rfl, rfl⟩ ⟨Nat.le_of_ble_eq_true rfl, Nat.le_of_ble_eq_true rfl⟩ ⟨by show kc + 0 ≤ 601024; omega, by show sc + 0 ≤ 7293034; omega⟩ rfl rfl rfl hl.1 (Nat.le_of_ble_eq_true rfl) rfl dL_law_1662 (fun H1 hk9 h9 => fr_joinM (wa := []) hP hD K_L hk9 h9) (D_W hD) (fun H locs hP hD hS => ?_)
  refine lv_icmp_eq (tgt := 2451) hx hb dL_law_1665 (by decide) (fun hc => ?_) (fun hc => ?_)
  · have hok := ip hok hc
    have hok := Option.some.inj hok
    subst hok
    exact hk _ _ _ _ (by omega) (by omega) hP hD hS _ (lv_sub hl [0, 1, 2, 3, 4] rfl)
  · have hok := iq hok hc
    refine lv_iconst (v := (0 : Int32)) hx hb dL_law_1668 (by decide) ?_
    cases hok
def p_L_C34 (xs : Nat → Int32) (Lc : Nat) (i : Int32) (uL : tX5) (uH : tX1) (uC : tX0) (uT : tX0) (uI : tX2) (uM : tX3) (fO : Nat → Int64) : Option (tX5 × tX1 × tX0 × tX0 × tX2 × tX3 × (Nat → Int64)) :=
  bd (p_X4_climbs uH uC uT uI uM) (fun v1 =>
  bd (p_X5_climbs uL) (fun v2 =>
  if v1 = v2.1 then
    some (v2.2, uH, uC, uT, uI, uM, fO)
  else
    none))
set_option maxHeartbeats 4000000 in
set_option maxRecDepth 100000 in
theorem c_L_C34 {p : Program} {e : Env} {s : State} {m : MethodId} {below : List Frame} {meth : Method} {c : Code} (l : Launch) (hlt : l.stackTraces = false) (dC : Nat → ClassId) (dI : Nat → Nat → Nat) (cI cZ cJ : ClassId) (sa : Nat → Nat) (l0 l4 l5 l6 l8 l10 l11 l12 l13 l14 l15 l16 n0 h0 h3 h4 h5 h6 c0 c8 c9 c10 c11 c12 c13 t0 t8 t9 t10 t11 t12 t13 i0 i1 i2 i3 i4 m0 m1 m2 o0 : Nat) {b Lc : Nat} {xs : Nat → Int32} (S : CallFix p m c cL_law 9 s #[Value.ref b] lw_all RL) (hK : va_K (dC, dI) vwCl (TYJ cI cZ cJ) s) (hX : xb (fun q : Nat => s.heap.size ≤ q) sa s) (hxn : xn s) (hXs : va_X b Lc xs s s.heap) (hbl : b < s.heap.size) (i : Int32) (uL : tX5) (uH : tX1) (uC : tX0) (uT : tX0) (uI : tX2) (uM : tX3) (fO : Nat → Int64) {z : (tX5 × tX1 × tX0 × tX0 × tX2 × tX3 × (Nat → Int64))} (hok : p_L_C34 xs Lc i uL uH uC uT uI uM fO = some z) {Q : State → Prop} {kc sc : Nat} (hkc : kc + 565 ≤ 601024) (hsc : sc + 3393 ≤ 7293034) (H : Heap) (locs : List Loc) (hP : va_P (dC, dI) vwCl (wX5 cI cZ l0 l4 l5 l6 l8 l10 l11 l12 l13 l14 l15 l16 uL ++ (wN cI cZ n0 h0 h3 h4 h5 h6 c0 c8 c9 c10 c11 c12 c13 t0 t8 t9 t10 t11 t12 t13 i0 i1 i2 i3 i4 m0 m1 m2 uH uC uT uI uM ++ [(o0, .inl (cJ, 1, .inr (.inl fO)))])) H) (hD : va_D (fun q : Nat => s.heap.size ≤ q) (wX5 cI cZ l0 l4 l5 l6 l8 l10 l11 l12 l13 l14 l15 l16 uL ++ (wN cI cZ n0 h0 h3 h4 h5 h6 c0 c8 c9 c10 c11 c12 c13 t0 t8 t9 t10 t11 t12 t13 i0 i1 i2 i3 i4 m0 m1 m2 uH uC uT uI uM ++ [(o0, .inl (cJ, 1, .inr (.inl fO)))]))) (hS : va_S (fun q : Nat => s.heap.size ≤ q) s.heap H locs) (ls : Array Slot) (hl : lv_has ls 9 [(0, .ref b), (1, .ref n0), (2, .ref l0), (3, .ref o0), (4, .int i)])
    (hk : ∀ (kc' sc' : Nat) (H : Heap) (locs : List Loc), kc' ≤ kc + 565 → sc' ≤ sc + 3393 → va_P (dC, dI) vwCl (wX5 cI cZ l0 l4 l5 l6 l8 l10 l11 l12 l13 l14 l15 l16 z.1 ++ (wN cI cZ n0 h0 h3 h4 h5 h6 c0 c8 c9 c10 c11 c12 c13 t0 t8 t9 t10 t11 t12 t13 i0 i1 i2 i3 i4 m0 m1 m2 z.2.1 z.2.2.1 z.2.2.2.1 z.2.2.2.2.1 z.2.2.2.2.2.1 ++ [(o0, .inl (cJ, 1, .inr (.inl z.2.2.2.2.2.2)))])) H → va_D (fun q : Nat => s.heap.size ≤ q) (wX5 cI cZ l0 l4 l5 l6 l8 l10 l11 l12 l13 l14 l15 l16 z.1 ++ (wN cI cZ n0 h0 h3 h4 h5 h6 c0 c8 c9 c10 c11 c12 c13 t0 t8 t9 t10 t11 t12 t13 i0 i1 i2 i3 i4 m0 m1 m2 z.2.1 z.2.2.1 z.2.2.2.1 z.2.2.2.2.1 z.2.2.2.2.2.1 ++ [(o0, .inl (cJ, 1, .inr (.inl z.2.2.2.2.2.2)))])) → va_S (fun q : Nat => s.heap.size ≤ q) s.heap H locs → ∀ (ls : Array Slot), lv_has ls 9 [(0, .ref b), (1, .ref n0), (2, .ref l0), (3, .ref o0), (4, .int i)] → W p l e room_1 s m #[Value.ref b] below meth c H locs kc' sc' Q (F0 m 2451 ls [])) : W p l e room_1 s m #[Value.ref b] below meth c H locs kc sc Q (F0 m 1670 ls []) := by
  have hx := S.1
  have hb := S.2.1
  have hml := S.2.2.1
  have hown : s.vm.findClass RL = some m.cls := S.2.2.2.1
  have hts := S.2.2.2.2
  have hA : ∀ q : Nat, s.heap.size ≤ q → (fun q : Nat => s.heap.size ≤ q) q := fun _ h => h
  have hbA : ¬ (fun q : Nat => s.heap.size ≤ q) b := Nat.not_le.mpr hbl
  have hK2 : va_K (dC, dI) vwCl (TYS cI cZ) s := hK.sub [0, 1] rfl
  unfold p_L_C34 at hok
  refine lv_aload_n hx hb dL_law_1670 rfl (lv_at hl 1 rfl) ?_
  obtain ⟨v1, hc1, hok⟩ := bd_some hok
  refine cRVi (ci := 4) (q0 := 0) [] S hK2 (va_Pmid hP) (c_X4_climbs l dC dI cI cZ n0 h0 h3 h4 h5 h6 c0 c8 c9 c10 c11 c12 c13 t0 t8 t9 t10 t11 t12 t13 i0 i1 i2 i3 i4 m0 m1 m2 uH uC uT uI uM hc1) (lw_V qm_L_241 qi_X4_climbs qs_X4_climbs qn_X4 qc_X4_climbs) hd_X4_climbs ⟨rfl, rfl⟩ ⟨Nat.le_of_ble_eq_true rfl, Nat.le_of_ble_eq_true rfl⟩ ⟨by show kc ≤ 601024; omega, by show sc ≤ 7293034; omega⟩ rfl rfl rfl hl.1 (Nat.le_of_ble_eq_true rfl) rfl dL_law_1671 ?_
  refine lv_aload_n hx hb dL_law_1674 rfl (lv_at hl 2 rfl) ?_
  obtain ⟨v2, hc2, hok⟩ := bd_some hok
  refine cUVi (ci := 5) (q0 := 0) [] S hK2 (va_Pmid (wa := []) hP) (va_Dmid (wa := []) hD) hS hA (c_X5_climbs l dC dI cI cZ l0 l4 l5 l6 l8 l10 l11 l12 l13 l14 l15 l16 _ uL hc2) (lw_V qm_L_244 qi_X5_climbs qs_X5_climbs qn_X5 qc_X5_climbs) hd_X5_climbs ⟨rfl, rfl⟩ ⟨Nat.le_of_ble_eq_true rfl, Nat.le_of_ble_eq_true rfl⟩ ⟨by show kc + 0 ≤ 601024; omega, by show sc + 0 ≤ 7293034; omega⟩ rfl rfl rfl hl.1 (Nat.le_of_ble_eq_true rfl) rfl dL_law_1675 (fun H1 hk9 h9 => fr_joinM (wa := []) hP hD K_L hk9 h9) (D_W hD) (fun H locs hP hD hS => ?_)
  refine lv_icmp_eq (tgt := 2451) hx hb dL_law_1678 (by decide) (fun hc => ?_) (fun hc => ?_)
  · have hok := ip hok hc
    have hok := Option.some.inj hok
    subst hok
    exact hk _ _ _ _ (by omega) (by omega) hP hD hS _ (lv_sub hl [0, 1, 2, 3, 4] rfl)
  · have hok := iq hok hc
    refine lv_iconst (v := (0 : Int32)) hx hb dL_law_1681 (by decide) ?_
    cases hok
def p_L_C35 (xs : Nat → Int32) (Lc : Nat) (i : Int32) (uL : tX5) (uH : tX1) (uC : tX0) (uT : tX0) (uI : tX2) (uM : tX3) (fO : Nat → Int64) : Option (tX5 × tX1 × tX0 × tX0 × tX2 × tX3 × (Nat → Int64)) :=
  bd (p_X4_readers uH uC uT uI uM) (fun v1 =>
  bd (p_X5_readers uL) (fun v2 =>
  if v1 = v2.1 then
    some (v2.2, uH, uC, uT, uI, uM, fO)
  else
    none))
set_option maxHeartbeats 4000000 in
set_option maxRecDepth 100000 in
theorem c_L_C35 {p : Program} {e : Env} {s : State} {m : MethodId} {below : List Frame} {meth : Method} {c : Code} (l : Launch) (hlt : l.stackTraces = false) (dC : Nat → ClassId) (dI : Nat → Nat → Nat) (cI cZ cJ : ClassId) (sa : Nat → Nat) (l0 l4 l5 l6 l8 l10 l11 l12 l13 l14 l15 l16 n0 h0 h3 h4 h5 h6 c0 c8 c9 c10 c11 c12 c13 t0 t8 t9 t10 t11 t12 t13 i0 i1 i2 i3 i4 m0 m1 m2 o0 : Nat) {b Lc : Nat} {xs : Nat → Int32} (S : CallFix p m c cL_law 9 s #[Value.ref b] lw_all RL) (hK : va_K (dC, dI) vwCl (TYJ cI cZ cJ) s) (hX : xb (fun q : Nat => s.heap.size ≤ q) sa s) (hxn : xn s) (hXs : va_X b Lc xs s s.heap) (hbl : b < s.heap.size) (i : Int32) (uL : tX5) (uH : tX1) (uC : tX0) (uT : tX0) (uI : tX2) (uM : tX3) (fO : Nat → Int64) {z : (tX5 × tX1 × tX0 × tX0 × tX2 × tX3 × (Nat → Int64))} (hok : p_L_C35 xs Lc i uL uH uC uT uI uM fO = some z) {Q : State → Prop} {kc sc : Nat} (hkc : kc + 565 ≤ 601024) (hsc : sc + 3393 ≤ 7293034) (H : Heap) (locs : List Loc) (hP : va_P (dC, dI) vwCl (wX5 cI cZ l0 l4 l5 l6 l8 l10 l11 l12 l13 l14 l15 l16 uL ++ (wN cI cZ n0 h0 h3 h4 h5 h6 c0 c8 c9 c10 c11 c12 c13 t0 t8 t9 t10 t11 t12 t13 i0 i1 i2 i3 i4 m0 m1 m2 uH uC uT uI uM ++ [(o0, .inl (cJ, 1, .inr (.inl fO)))])) H) (hD : va_D (fun q : Nat => s.heap.size ≤ q) (wX5 cI cZ l0 l4 l5 l6 l8 l10 l11 l12 l13 l14 l15 l16 uL ++ (wN cI cZ n0 h0 h3 h4 h5 h6 c0 c8 c9 c10 c11 c12 c13 t0 t8 t9 t10 t11 t12 t13 i0 i1 i2 i3 i4 m0 m1 m2 uH uC uT uI uM ++ [(o0, .inl (cJ, 1, .inr (.inl fO)))]))) (hS : va_S (fun q : Nat => s.heap.size ≤ q) s.heap H locs) (ls : Array Slot) (hl : lv_has ls 9 [(0, .ref b), (1, .ref n0), (2, .ref l0), (3, .ref o0), (4, .int i)])
    (hk : ∀ (kc' sc' : Nat) (H : Heap) (locs : List Loc), kc' ≤ kc + 565 → sc' ≤ sc + 3393 → va_P (dC, dI) vwCl (wX5 cI cZ l0 l4 l5 l6 l8 l10 l11 l12 l13 l14 l15 l16 z.1 ++ (wN cI cZ n0 h0 h3 h4 h5 h6 c0 c8 c9 c10 c11 c12 c13 t0 t8 t9 t10 t11 t12 t13 i0 i1 i2 i3 i4 m0 m1 m2 z.2.1 z.2.2.1 z.2.2.2.1 z.2.2.2.2.1 z.2.2.2.2.2.1 ++ [(o0, .inl (cJ, 1, .inr (.inl z.2.2.2.2.2.2)))])) H → va_D (fun q : Nat => s.heap.size ≤ q) (wX5 cI cZ l0 l4 l5 l6 l8 l10 l11 l12 l13 l14 l15 l16 z.1 ++ (wN cI cZ n0 h0 h3 h4 h5 h6 c0 c8 c9 c10 c11 c12 c13 t0 t8 t9 t10 t11 t12 t13 i0 i1 i2 i3 i4 m0 m1 m2 z.2.1 z.2.2.1 z.2.2.2.1 z.2.2.2.2.1 z.2.2.2.2.2.1 ++ [(o0, .inl (cJ, 1, .inr (.inl z.2.2.2.2.2.2)))])) → va_S (fun q : Nat => s.heap.size ≤ q) s.heap H locs → ∀ (ls : Array Slot), lv_has ls 9 [(0, .ref b), (1, .ref n0), (2, .ref l0), (3, .ref o0), (4, .int i)] → W p l e room_1 s m #[Value.ref b] below meth c H locs kc' sc' Q (F0 m 2451 ls [])) : W p l e room_1 s m #[Value.ref b] below meth c H locs kc sc Q (F0 m 1683 ls []) := by
  have hx := S.1
  have hb := S.2.1
  have hml := S.2.2.1
  have hown : s.vm.findClass RL = some m.cls := S.2.2.2.1
  have hts := S.2.2.2.2
  have hA : ∀ q : Nat, s.heap.size ≤ q → (fun q : Nat => s.heap.size ≤ q) q := fun _ h => h
  have hbA : ¬ (fun q : Nat => s.heap.size ≤ q) b := Nat.not_le.mpr hbl
  have hK2 : va_K (dC, dI) vwCl (TYS cI cZ) s := hK.sub [0, 1] rfl
  unfold p_L_C35 at hok
  refine lv_aload_n hx hb dL_law_1683 rfl (lv_at hl 1 rfl) ?_
  obtain ⟨v1, hc1, hok⟩ := bd_some hok
  refine cRVi (ci := 4) (q0 := 0) [] S hK2 (va_Pmid hP) (c_X4_readers l dC dI cI cZ n0 h0 h3 h4 h5 h6 c0 c8 c9 c10 c11 c12 c13 t0 t8 t9 t10 t11 t12 t13 i0 i1 i2 i3 i4 m0 m1 m2 uH uC uT uI uM hc1) (lw_V qm_L_245 qi_X4_readers qs_X4_readers qn_X4 qc_X4_readers) hd_X4_readers ⟨rfl, rfl⟩ ⟨Nat.le_of_ble_eq_true rfl, Nat.le_of_ble_eq_true rfl⟩ ⟨by show kc ≤ 601024; omega, by show sc ≤ 7293034; omega⟩ rfl rfl rfl hl.1 (Nat.le_of_ble_eq_true rfl) rfl dL_law_1684 ?_
  refine lv_aload_n hx hb dL_law_1687 rfl (lv_at hl 2 rfl) ?_
  obtain ⟨v2, hc2, hok⟩ := bd_some hok
  refine cUVi (ci := 5) (q0 := 0) [] S hK2 (va_Pmid (wa := []) hP) (va_Dmid (wa := []) hD) hS hA (c_X5_readers l dC dI cI cZ l0 l4 l5 l6 l8 l10 l11 l12 l13 l14 l15 l16 _ uL hc2) (lw_V qm_L_248 qi_X5_readers qs_X5_readers qn_X5 qc_X5_readers) hd_X5_readers ⟨rfl, rfl⟩ ⟨Nat.le_of_ble_eq_true rfl, Nat.le_of_ble_eq_true rfl⟩ ⟨by show kc + 0 ≤ 601024; omega, by show sc + 0 ≤ 7293034; omega⟩ rfl rfl rfl hl.1 (Nat.le_of_ble_eq_true rfl) rfl dL_law_1688 (fun H1 hk9 h9 => fr_joinM (wa := []) hP hD K_L hk9 h9) (D_W hD) (fun H locs hP hD hS => ?_)
  refine lv_icmp_eq (tgt := 2451) hx hb dL_law_1691 (by decide) (fun hc => ?_) (fun hc => ?_)
  · have hok := ip hok hc
    have hok := Option.some.inj hok
    subst hok
    exact hk _ _ _ _ (by omega) (by omega) hP hD hS _ (lv_sub hl [0, 1, 2, 3, 4] rfl)
  · have hok := iq hok hc
    refine lv_iconst (v := (0 : Int32)) hx hb dL_law_1694 (by decide) ?_
    cases hok
