def p_L_C36 (xs : Nat → Int32) (Lc : Nat) (i : Int32) (uL : tX5) (uH : tX1) (uC : tX0) (uT : tX0) (uI : tX2) (uM : tX3) (fO : Nat → Int64) : Option (tX5 × tX1 × tX0 × tX0 × tX2 × tX3 × (Nat → Int64)) :=
  bd (p_X4_subscribers uH uC uT uI uM) (fun v1 =>
  bd (p_X5_subscribers uL) (fun v2 =>
  if v1 = v2.1 then
    some (v2.2, uH, uC, uT, uI, uM, fO)
  else
    none))
set_option maxHeartbeats 4000000 in
set_option maxRecDepth 100000 in
theorem c_L_C36 {p : Program} {e : Env} {s : State} {m : MethodId} {below : List Frame} {meth : Method} {c : Code} (l : Launch) (hlt : l.stackTraces = false) (dC : Nat → ClassId) (dI : Nat → Nat → Nat) (cI cZ cJ : ClassId) (sa : Nat → Nat) (l0 l4 l5 l6 l8 l10 l11 l12 l13 l14 l15 l16 n0 h0 h3 h4 h5 h6 c0 c8 c9 c10 c11 c12 c13 t0 t8 t9 t10 t11 t12 t13 i0 i1 i2 i3 i4 m0 m1 m2 o0 : Nat) {b Lc : Nat} {xs : Nat → Int32} (S : CallFix p m c cL_law 9 s #[Value.ref b] lw_all RL) (hK : va_K (dC, dI) vwCl (TYJ cI cZ cJ) s) (hX : xb (fun q : Nat => s.heap.size ≤ q) sa s) (hxn : xn s) (hXs : va_X b Lc xs s s.heap) (hbl : b < s.heap.size) (i : Int32) (uL : tX5) (uH : tX1) (uC : tX0) (uT : tX0) (uI : tX2) (uM : tX3) (fO : Nat → Int64) {z : (tX5 × tX1 × tX0 × tX0 × tX2 × tX3 × (Nat → Int64))} (hok : p_L_C36 xs Lc i uL uH uC uT uI uM fO = some z) {Q : State → Prop} {kc sc : Nat} (hkc : kc + 565 ≤ 601024) (hsc : sc + 3393 ≤ 7293034) (H : Heap) (locs : List Loc) (hP : va_P (dC, dI) vwCl (wX5 cI cZ l0 l4 l5 l6 l8 l10 l11 l12 l13 l14 l15 l16 uL ++ (wN cI cZ n0 h0 h3 h4 h5 h6 c0 c8 c9 c10 c11 c12 c13 t0 t8 t9 t10 t11 t12 t13 i0 i1 i2 i3 i4 m0 m1 m2 uH uC uT uI uM ++ [(o0, .inl (cJ, 1, .inr (.inl fO)))])) H) (hD : va_D (fun q : Nat => s.heap.size ≤ q) (wX5 cI cZ l0 l4 l5 l6 l8 l10 l11 l12 l13 l14 l15 l16 uL ++ (wN cI cZ n0 h0 h3 h4 h5 h6 c0 c8 c9 c10 c11 c12 c13 t0 t8 t9 t10 t11 t12 t13 i0 i1 i2 i3 i4 m0 m1 m2 uH uC uT uI uM ++ [(o0, .inl (cJ, 1, .inr (.inl fO)))]))) (hS : va_S (fun q : Nat => s.heap.size ≤ q) s.heap H locs) (ls : Array Slot) (hl : lv_has ls 9 [(0, .ref b), (1, .ref n0), (2, .ref l0), (3, .ref o0), (4, .int i)])
    (hk : ∀ (kc' sc' : Nat) (H : Heap) (locs : List Loc), kc' ≤ kc + 565 → sc' ≤ sc + 3393 → va_P (dC, dI) vwCl (wX5 cI cZ l0 l4 l5 l6 l8 l10 l11 l12 l13 l14 l15 l16 z.1 ++ (wN cI cZ n0 h0 h3 h4 h5 h6 c0 c8 c9 c10 c11 c12 c13 t0 t8 t9 t10 t11 t12 t13 i0 i1 i2 i3 i4 m0 m1 m2 z.2.1 z.2.2.1 z.2.2.2.1 z.2.2.2.2.1 z.2.2.2.2.2.1 ++ [(o0, .inl (cJ, 1, .inr (.inl z.2.2.2.2.2.2)))])) H → va_D (fun q : Nat => s.heap.size ≤ q) (wX5 cI cZ l0 l4 l5 l6 l8 l10 l11 l12 l13 l14 l15 l16 z.1 ++ (wN cI cZ n0 h0 h3 h4 h5 h6 c0 c8 c9 c10 c11 c12 c13 t0 t8 t9 t10 t11 t12 t13 i0 i1 i2 i3 i4 m0 m1 m2 z.2.1 z.2.2.1 z.2.2.2.1 z.2.2.2.2.1 z.2.2.2.2.2.1 ++ [(o0, .inl (cJ, 1, .inr (.inl z.2.2.2.2.2.2)))])) → va_S (fun q : Nat => s.heap.size ≤ q) s.heap H locs → ∀ (ls : Array Slot), lv_has ls 9 [(0, .ref b), (1, .ref n0), (2, .ref l0), (3, .ref o0), (4, .int i)] → W p l e room_1 s m #[Value.ref b] below meth c H locs kc' sc' Q (F0 m 2451 ls [])) : W p l e room_1 s m #[Value.ref b] below meth c H locs kc sc Q (F0 m 1696 ls []) := by
  have hx := S.1
  have hb := S.2.1
  have hml := S.2.2.1
  have hown : s.vm.findClass RL = some m.cls := S.2.2.2.1
  have hts := S.2.2.2.2
  have hA : ∀ q : Nat, s.heap.size ≤ q → (fun q : Nat => s.heap.size ≤ q) q := fun _ h => h
  have hbA : ¬ (fun q : Nat => s.heap.size ≤ q) b := Nat.not_le.mpr hbl
  have hK2 : va_K (dC, dI) vwCl (TYS cI cZ) s := hK.sub [0, 1] rfl
  unfold p_L_C36 at hok
  refine lv_aload_n hx hb dL_law_1696 rfl (lv_at hl 1 rfl) ?_
  obtain ⟨v1, hc1, hok⟩ := bd_some hok
  refine cRVi (ci := 4) (q0 := 0) [] S hK2 (va_Pmid hP) (c_X4_subscribers l dC dI cI cZ n0 h0 h3 h4 h5 h6 c0 c8 c9 c10 c11 c12 c13 t0 t8 t9 t10 t11 t12 t13 i0 i1 i2 i3 i4 m0 m1 m2 uH uC uT uI uM hc1) (lw_V qm_L_249 qi_X4_subscribers qs_X4_subscribers qn_X4 qc_X4_subscribers) hd_X4_subscribers ⟨rfl, rfl⟩ ⟨Nat.le_of_ble_eq_true rfl, Nat.le_of_ble_eq_true rfl⟩ ⟨by show kc ≤ 601024; omega, by show sc ≤ 7293034; omega⟩ rfl rfl rfl hl.1 (Nat.le_of_ble_eq_true rfl) rfl dL_law_1697 ?_
  refine lv_aload_n hx hb dL_law_1700 rfl (lv_at hl 2 rfl) ?_
  obtain ⟨v2, hc2, hok⟩ := bd_some hok
  refine cUVi (ci := 5) (q0 := 0) [] S hK2 (va_Pmid (wa := []) hP) (va_Dmid (wa := []) hD) hS hA (c_X5_subscribers l dC dI cI cZ l0 l4 l5 l6 l8 l10 l11 l12 l13 l14 l15 l16 _ uL hc2) (lw_V qm_L_252 qi_X5_subscribers qs_X5_subscribers qn_X5 qc_X5_subscribers) hd_X5_subscribers ⟨rfl, rfl⟩ ⟨Nat.le_of_ble_eq_true rfl, Nat.le_of_ble_eq_true rfl⟩ ⟨by show kc + 0 ≤ 601024; omega, by show sc + 0 ≤ 7293034; omega⟩ rfl rfl rfl hl.1 (Nat.le_of_ble_eq_true rfl) rfl dL_law_1701 (fun H1 hk9 h9 => fr_joinM (wa := []) hP hD K_L hk9 h9) (D_W hD) (fun H locs hP hD hS => ?_)
  refine lv_icmp_eq (tgt := 2451) hx hb dL_law_1704 (by decide) (fun hc => ?_) (fun hc => ?_)
  · have hok := ip hok hc
    have hok := Option.some.inj hok
    subst hok
    exact hk _ _ _ _ (by omega) (by omega) hP hD hS _ (lv_sub hl [0, 1, 2, 3, 4] rfl)
  · have hok := iq hok hc
    refine lv_iconst (v := (0 : Int32)) hx hb dL_law_1707 (by decide) ?_
    cases hok
def p_L_C37 (xs : Nat → Int32) (Lc : Nat) (i : Int32) (uL : tX5) (uH : tX1) (uC : tX0) (uT : tX0) (uI : tX2) (uM : tX3) (fO : Nat → Int64) : Option (tX5 × tX1 × tX0 × tX0 × tX2 × tX3 × (Nat → Int64)) :=
  gd (i + (1 : Int32)) Lc (
  bd (p_L_tasteOf uH uC uT uI uM fO (xs (i + (1 : Int32)).toNatClampNeg)) (fun v2 =>
  bd (p_X5_tasteOf uL (xs (i + (1 : Int32)).toNatClampNeg)) (fun v3 =>
  bd (p_X5_thrown v3.2) (fun v4 =>
  if v4 = v2.1 then
    if v2.1 = 0 then
      if (lg_cmp (v2.2 0) v3.1.toInt64) = 0 then
        some (v3.2, uH, uC, uT, uI, uM, v2.2)
      else
        none
    else
      some (v3.2, uH, uC, uT, uI, uM, v2.2)
  else
    none))))
set_option maxHeartbeats 4000000 in
set_option maxRecDepth 100000 in
theorem c_L_C37 {p : Program} {e : Env} {s : State} {m : MethodId} {below : List Frame} {meth : Method} {c : Code} (l : Launch) (hlt : l.stackTraces = false) (dC : Nat → ClassId) (dI : Nat → Nat → Nat) (cI cZ cJ : ClassId) (sa : Nat → Nat) (l0 l4 l5 l6 l8 l10 l11 l12 l13 l14 l15 l16 n0 h0 h3 h4 h5 h6 c0 c8 c9 c10 c11 c12 c13 t0 t8 t9 t10 t11 t12 t13 i0 i1 i2 i3 i4 m0 m1 m2 o0 : Nat) {b Lc : Nat} {xs : Nat → Int32} (S : CallFix p m c cL_law 9 s #[Value.ref b] lw_all RL) (hK : va_K (dC, dI) vwCl (TYJ cI cZ cJ) s) (hX : xb (fun q : Nat => s.heap.size ≤ q) sa s) (hxn : xn s) (hXs : va_X b Lc xs s s.heap) (hbl : b < s.heap.size) (i : Int32) (uL : tX5) (uH : tX1) (uC : tX0) (uT : tX0) (uI : tX2) (uM : tX3) (fO : Nat → Int64) {z : (tX5 × tX1 × tX0 × tX0 × tX2 × tX3 × (Nat → Int64))} (hok : p_L_C37 xs Lc i uL uH uC uT uI uM fO = some z) {Q : State → Prop} {kc sc : Nat} (hkc : kc + 565 ≤ 601024) (hsc : sc + 3393 ≤ 7293034) (H : Heap) (locs : List Loc) (hP : va_P (dC, dI) vwCl (wX5 cI cZ l0 l4 l5 l6 l8 l10 l11 l12 l13 l14 l15 l16 uL ++ (wN cI cZ n0 h0 h3 h4 h5 h6 c0 c8 c9 c10 c11 c12 c13 t0 t8 t9 t10 t11 t12 t13 i0 i1 i2 i3 i4 m0 m1 m2 uH uC uT uI uM ++ [(o0, .inl (cJ, 1, .inr (.inl fO)))])) H) (hD : va_D (fun q : Nat => s.heap.size ≤ q) (wX5 cI cZ l0 l4 l5 l6 l8 l10 l11 l12 l13 l14 l15 l16 uL ++ (wN cI cZ n0 h0 h3 h4 h5 h6 c0 c8 c9 c10 c11 c12 c13 t0 t8 t9 t10 t11 t12 t13 i0 i1 i2 i3 i4 m0 m1 m2 uH uC uT uI uM ++ [(o0, .inl (cJ, 1, .inr (.inl fO)))]))) (hS : va_S (fun q : Nat => s.heap.size ≤ q) s.heap H locs) (ls : Array Slot) (hl : lv_has ls 9 [(0, .ref b), (1, .ref n0), (2, .ref l0), (3, .ref o0), (4, .int i)])
    (hk : ∀ (kc' sc' : Nat) (H : Heap) (locs : List Loc), kc' ≤ kc + 565 → sc' ≤ sc + 3393 → va_P (dC, dI) vwCl (wX5 cI cZ l0 l4 l5 l6 l8 l10 l11 l12 l13 l14 l15 l16 z.1 ++ (wN cI cZ n0 h0 h3 h4 h5 h6 c0 c8 c9 c10 c11 c12 c13 t0 t8 t9 t10 t11 t12 t13 i0 i1 i2 i3 i4 m0 m1 m2 z.2.1 z.2.2.1 z.2.2.2.1 z.2.2.2.2.1 z.2.2.2.2.2.1 ++ [(o0, .inl (cJ, 1, .inr (.inl z.2.2.2.2.2.2)))])) H → va_D (fun q : Nat => s.heap.size ≤ q) (wX5 cI cZ l0 l4 l5 l6 l8 l10 l11 l12 l13 l14 l15 l16 z.1 ++ (wN cI cZ n0 h0 h3 h4 h5 h6 c0 c8 c9 c10 c11 c12 c13 t0 t8 t9 t10 t11 t12 t13 i0 i1 i2 i3 i4 m0 m1 m2 z.2.1 z.2.2.1 z.2.2.2.1 z.2.2.2.2.1 z.2.2.2.2.2.1 ++ [(o0, .inl (cJ, 1, .inr (.inl z.2.2.2.2.2.2)))])) → va_S (fun q : Nat => s.heap.size ≤ q) s.heap H locs → ∀ (ls : Array Slot), lv_has ls 9 [(0, .ref b), (1, .ref n0), (2, .ref l0), (3, .ref o0), (4, .int i)] → W p l e room_1 s m #[Value.ref b] below meth c H locs kc' sc' Q (F0 m 2451 ls [])) : W p l e room_1 s m #[Value.ref b] below meth c H locs kc sc Q (F0 m 1709 ls []) := by
  have hx := S.1
  have hb := S.2.1
  have hml := S.2.2.1
  have hown : s.vm.findClass RL = some m.cls := S.2.2.2.1
  have hts := S.2.2.2.2
  have hA : ∀ q : Nat, s.heap.size ≤ q → (fun q : Nat => s.heap.size ≤ q) q := fun _ h => h
  have hbA : ¬ (fun q : Nat => s.heap.size ≤ q) b := Nat.not_le.mpr hbl
  have hK2 : va_K (dC, dI) vwCl (TYS cI cZ) s := hK.sub [0, 1] rfl
  unfold p_L_C37 at hok
  refine lv_aload_n hx hb dL_law_1709 rfl (lv_at hl 1 rfl) ?_
  refine lv_aload_n hx hb dL_law_1710 rfl (lv_at hl 0 rfl) ?_
  refine lv_iload hx hb dL_law_1711 (lv_at hl 4 rfl) ?_
  refine lv_iconst (v := (1 : Int32)) hx hb dL_law_1713 (by decide) ?_
  refine lv_iadd hx hb dL_law_1714 ?_
  obtain ⟨hi1, hok⟩ := gd_some hok
  refine va_sld hx hb hXs hbl hbA hS hi1 dL_law_1715 ?_
  refine lv_aload_n hx hb dL_law_1716 rfl (lv_at hl 3 rfl) ?_
  obtain ⟨v2, hc2, hok⟩ := bd_some hok
  refine cHSi [.ref n0, .int (xs (i + (1 : Int32)).toNatClampNeg), .ref o0] S hK (va_Psuf hP) (va_Dsuf hD) hS hA hX hxn (c_L_tasteOf l hlt dC dI cI cZ cJ n0 h0 h3 h4 h5 h6 c0 c8 c9 c10 c11 c12 c13 t0 t8 t9 t10 t11 t12 t13 i0 i1 i2 i3 i4 m0 m1 m2 o0 _ sa uH uC uT uI uM fO (xs (i + (1 : Int32)).toNatClampNeg) hc2) (lw_S qm_L_253 qt_L_tasteOf qn_L qc_L_tasteOf) hd_L_tasteOf ⟨rfl, rfl⟩ ⟨Nat.le_of_ble_eq_true rfl, Nat.le_of_ble_eq_true rfl⟩ ⟨by show kc + 1 ≤ 601024; omega, by show sc + 6 ≤ 7293034; omega⟩ rfl hl.1 (Nat.le_of_ble_eq_true rfl) rfl dL_law_1717 (fun H1 hk9 h9 => fr_joinR hP hD K_NO hk9 h9) (D_W hD) (fun H locs hP hD hS => ?_)
  refine lv_istore (lv' := [(5, .int v2.1), (0, .ref b), (1, .ref n0), (2, .ref l0), (3, .ref o0), (4, .int i)]) hx hb dL_law_1720 hl (by decide) rfl (fun ls hl => ?_)
  refine lv_aload_n hx hb dL_law_1722 rfl (lv_at hl 3 rfl) ?_
  refine lv_aload_n hx hb dL_law_1723 rfl (lv_at hl 1 rfl) ?_
  refine lv_iload hx hb dL_law_1724 (lv_at hl 5 rfl) ?_
  refine lv_iconst (v := (1 : Int32)) hx hb dL_law_1726 (by decide) ?_
  refine lv_iadd hx hb dL_law_1727 ?_
  refine va_sld hx hb hXs hbl hbA hS hi1 dL_law_1728 ?_
  obtain ⟨v3, hc3, hok⟩ := bd_some hok
  refine cUVi (ci := 5) (q0 := 0) [.int (xs (i + (1 : Int32)).toNatClampNeg)] S hK2 (va_Pmid (wa := []) hP) (va_Dmid (wa := []) hD) hS hA (c_X5_tasteOf l dC dI cI cZ l0 l4 l5 l6 l8 l10 l11 l12 l13 l14 l15 l16 _ uL (xs (i + (1 : Int32)).toNatClampNeg) hc3) (lw_V qm_L_255 qi_X5_tasteOf qs_X5_tasteOf qn_X5 qc_X5_tasteOf) hd_X5_tasteOf ⟨rfl, rfl⟩ ⟨Nat.le_of_ble_eq_true rfl, Nat.le_of_ble_eq_true rfl⟩ ⟨by show (kc + 1) + 0 ≤ 601024; omega, by show (sc + 6) + 0 ≤ 7293034; omega⟩ rfl rfl rfl hl.1 (Nat.le_of_ble_eq_true rfl) rfl dL_law_1729 (fun H1 hk9 h9 => fr_joinM (wa := []) hP hD K_L hk9 h9) (D_W hD) (fun H locs hP hD hS => ?_)
  refine lv_istore (lv' := [(6, .int v3.1), (5, .int v2.1), (0, .ref b), (1, .ref n0), (2, .ref l0), (3, .ref o0), (4, .int i)]) hx hb dL_law_1732 hl (by decide) rfl (fun ls hl => ?_)
  refine lv_aload_n hx hb dL_law_1734 rfl (lv_at hl 4 rfl) ?_
  obtain ⟨v4, hc4, hok⟩ := bd_some hok
  refine cRVi (ci := 5) (q0 := 0) [] S hK2 (va_Pmid (wa := []) hP) (c_X5_thrown l dC dI cI cZ l0 l4 l5 l6 l8 l10 l11 l12 l13 l14 l15 l16 v3.2 hc4) (lw_V qm_L_122 qi_X5_thrown qs_X5_thrown qn_X5 qc_X5_thrown) hd_X5_thrown ⟨rfl, rfl⟩ ⟨Nat.le_of_ble_eq_true rfl, Nat.le_of_ble_eq_true rfl⟩ ⟨by show ((kc + 1) + 0) ≤ 601024; omega, by show ((sc + 6) + 0) ≤ 7293034; omega⟩ rfl rfl rfl hl.1 (Nat.le_of_ble_eq_true rfl) rfl dL_law_1735 ?_
  refine lv_iload hx hb dL_law_1738 (lv_at hl 1 rfl) ?_
  refine lv_icmp_eq (tgt := 1745) hx hb dL_law_1740 (by decide) (fun hc => ?_) (fun hc => ?_)
  · have hok := ip hok hc
    refine lv_iload hx hb dL_law_1745 (lv_at hl 1 rfl) ?_
    refine lv_if_ne (tgt := 1762) hx hb dL_law_1747 (by decide) (fun hc => ?_) (fun hc => ?_)
    · have hok := iq hok hc
      refine lv_goto (tgt := 2451) hx hb dL_law_1762 (by decide) ?_
      have hok := Option.some.inj hok
      subst hok
      exact hk _ _ _ _ (by omega) (by omega) hP hD hS _ (lv_sub hl [2, 3, 4, 5, 6] rfl)
    · have hok := ip hok hc
      refine lv_aload_n hx hb dL_law_1750 rfl (lv_at hl 5 rfl) ?_
      refine lv_iconst (v := (0 : Int32)) hx hb dL_law_1751 (by decide) ?_
      refine va_laldK hx hb hK hP 40 2 rfl rfl (j := 0) (by decide) (vp_inK (by decide)) dL_law_1752 ?_
      refine lv_iload hx hb dL_law_1753 (lv_at hl 0 rfl) ?_
      refine lv_i2l (v := v3.1.toInt64) hx hb dL_law_1755 rfl ?_
      refine W.lcmp hx hb dL_law_1756 ?_
      refine lv_if_eq (tgt := 1762) hx hb dL_law_1757 (by decide) (fun hc => ?_) (fun hc => ?_)
      · have hok := ip hok hc
        refine lv_goto (tgt := 2451) hx hb dL_law_1762 (by decide) ?_
        have hok := Option.some.inj hok
        subst hok
        exact hk _ _ _ _ (by omega) (by omega) hP hD hS _ (lv_sub hl [2, 3, 4, 5, 6] rfl)
      · have hok := iq hok hc
        refine lv_iconst (v := (0 : Int32)) hx hb dL_law_1760 (by decide) ?_
        cases hok
  · have hok := iq hok hc
    refine lv_iconst (v := (0 : Int32)) hx hb dL_law_1743 (by decide) ?_
    cases hok
def p_L_C38 (xs : Nat → Int32) (Lc : Nat) (i : Int32) (uL : tX5) (uH : tX1) (uC : tX0) (uT : tX0) (uI : tX2) (uM : tX3) (fO : Nat → Int64) : Option (tX5 × tX1 × tX0 × tX0 × tX2 × tX3 × (Nat → Int64)) :=
  gd (i + (1 : Int32)) Lc (
  bd (p_L_warmthOf uH uC uT uI uM fO (xs (i + (1 : Int32)).toNatClampNeg)) (fun v2 =>
  bd (p_X5_warmthOf uL (xs (i + (1 : Int32)).toNatClampNeg)) (fun v3 =>
  bd (p_X5_thrown v3.2) (fun v4 =>
  if v4 = v2.1 then
    if v2.1 = 0 then
      if (lg_cmp (v2.2 0) v3.1.toInt64) = 0 then
        some (v3.2, uH, uC, uT, uI, uM, v2.2)
      else
        none
    else
      some (v3.2, uH, uC, uT, uI, uM, v2.2)
  else
    none))))
set_option maxHeartbeats 4000000 in
set_option maxRecDepth 100000 in
theorem c_L_C38 {p : Program} {e : Env} {s : State} {m : MethodId} {below : List Frame} {meth : Method} {c : Code} (l : Launch) (hlt : l.stackTraces = false) (dC : Nat → ClassId) (dI : Nat → Nat → Nat) (cI cZ cJ : ClassId) (sa : Nat → Nat) (l0 l4 l5 l6 l8 l10 l11 l12 l13 l14 l15 l16 n0 h0 h3 h4 h5 h6 c0 c8 c9 c10 c11 c12 c13 t0 t8 t9 t10 t11 t12 t13 i0 i1 i2 i3 i4 m0 m1 m2 o0 : Nat) {b Lc : Nat} {xs : Nat → Int32} (S : CallFix p m c cL_law 9 s #[Value.ref b] lw_all RL) (hK : va_K (dC, dI) vwCl (TYJ cI cZ cJ) s) (hX : xb (fun q : Nat => s.heap.size ≤ q) sa s) (hxn : xn s) (hXs : va_X b Lc xs s s.heap) (hbl : b < s.heap.size) (i : Int32) (uL : tX5) (uH : tX1) (uC : tX0) (uT : tX0) (uI : tX2) (uM : tX3) (fO : Nat → Int64) {z : (tX5 × tX1 × tX0 × tX0 × tX2 × tX3 × (Nat → Int64))} (hok : p_L_C38 xs Lc i uL uH uC uT uI uM fO = some z) {Q : State → Prop} {kc sc : Nat} (hkc : kc + 565 ≤ 601024) (hsc : sc + 3393 ≤ 7293034) (H : Heap) (locs : List Loc) (hP : va_P (dC, dI) vwCl (wX5 cI cZ l0 l4 l5 l6 l8 l10 l11 l12 l13 l14 l15 l16 uL ++ (wN cI cZ n0 h0 h3 h4 h5 h6 c0 c8 c9 c10 c11 c12 c13 t0 t8 t9 t10 t11 t12 t13 i0 i1 i2 i3 i4 m0 m1 m2 uH uC uT uI uM ++ [(o0, .inl (cJ, 1, .inr (.inl fO)))])) H) (hD : va_D (fun q : Nat => s.heap.size ≤ q) (wX5 cI cZ l0 l4 l5 l6 l8 l10 l11 l12 l13 l14 l15 l16 uL ++ (wN cI cZ n0 h0 h3 h4 h5 h6 c0 c8 c9 c10 c11 c12 c13 t0 t8 t9 t10 t11 t12 t13 i0 i1 i2 i3 i4 m0 m1 m2 uH uC uT uI uM ++ [(o0, .inl (cJ, 1, .inr (.inl fO)))]))) (hS : va_S (fun q : Nat => s.heap.size ≤ q) s.heap H locs) (ls : Array Slot) (hl : lv_has ls 9 [(0, .ref b), (1, .ref n0), (2, .ref l0), (3, .ref o0), (4, .int i)])
    (hk : ∀ (kc' sc' : Nat) (H : Heap) (locs : List Loc), kc' ≤ kc + 565 → sc' ≤ sc + 3393 → va_P (dC, dI) vwCl (wX5 cI cZ l0 l4 l5 l6 l8 l10 l11 l12 l13 l14 l15 l16 z.1 ++ (wN cI cZ n0 h0 h3 h4 h5 h6 c0 c8 c9 c10 c11 c12 c13 t0 t8 t9 t10 t11 t12 t13 i0 i1 i2 i3 i4 m0 m1 m2 z.2.1 z.2.2.1 z.2.2.2.1 z.2.2.2.2.1 z.2.2.2.2.2.1 ++ [(o0, .inl (cJ, 1, .inr (.inl z.2.2.2.2.2.2)))])) H → va_D (fun q : Nat => s.heap.size ≤ q) (wX5 cI cZ l0 l4 l5 l6 l8 l10 l11 l12 l13 l14 l15 l16 z.1 ++ (wN cI cZ n0 h0 h3 h4 h5 h6 c0 c8 c9 c10 c11 c12 c13 t0 t8 t9 t10 t11 t12 t13 i0 i1 i2 i3 i4 m0 m1 m2 z.2.1 z.2.2.1 z.2.2.2.1 z.2.2.2.2.1 z.2.2.2.2.2.1 ++ [(o0, .inl (cJ, 1, .inr (.inl z.2.2.2.2.2.2)))])) → va_S (fun q : Nat => s.heap.size ≤ q) s.heap H locs → ∀ (ls : Array Slot), lv_has ls 9 [(0, .ref b), (1, .ref n0), (2, .ref l0), (3, .ref o0), (4, .int i)] → W p l e room_1 s m #[Value.ref b] below meth c H locs kc' sc' Q (F0 m 2451 ls [])) : W p l e room_1 s m #[Value.ref b] below meth c H locs kc sc Q (F0 m 1765 ls []) := by
  have hx := S.1
  have hb := S.2.1
  have hml := S.2.2.1
  have hown : s.vm.findClass RL = some m.cls := S.2.2.2.1
  have hts := S.2.2.2.2
  have hA : ∀ q : Nat, s.heap.size ≤ q → (fun q : Nat => s.heap.size ≤ q) q := fun _ h => h
  have hbA : ¬ (fun q : Nat => s.heap.size ≤ q) b := Nat.not_le.mpr hbl
  have hK2 : va_K (dC, dI) vwCl (TYS cI cZ) s := hK.sub [0, 1] rfl
  unfold p_L_C38 at hok
  refine lv_aload_n hx hb dL_law_1765 rfl (lv_at hl 1 rfl) ?_
  refine lv_aload_n hx hb dL_law_1766 rfl (lv_at hl 0 rfl) ?_
  refine lv_iload hx hb dL_law_1767 (lv_at hl 4 rfl) ?_
  refine lv_iconst (v := (1 : Int32)) hx hb dL_law_1769 (by decide) ?_
  refine lv_iadd hx hb dL_law_1770 ?_
  obtain ⟨hi1, hok⟩ := gd_some hok
  refine va_sld hx hb hXs hbl hbA hS hi1 dL_law_1771 ?_
  refine lv_aload_n hx hb dL_law_1772 rfl (lv_at hl 3 rfl) ?_
  obtain ⟨v2, hc2, hok⟩ := bd_some hok
  refine cHSi [.ref n0, .int (xs (i + (1 : Int32)).toNatClampNeg), .ref o0] S hK (va_Psuf hP) (va_Dsuf hD) hS hA hX hxn (c_L_warmthOf l hlt dC dI cI cZ cJ n0 h0 h3 h4 h5 h6 c0 c8 c9 c10 c11 c12 c13 t0 t8 t9 t10 t11 t12 t13 i0 i1 i2 i3 i4 m0 m1 m2 o0 _ sa uH uC uT uI uM fO (xs (i + (1 : Int32)).toNatClampNeg) hc2) (lw_S qm_L_256 qt_L_warmthOf qn_L qc_L_warmthOf) hd_L_warmthOf ⟨rfl, rfl⟩ ⟨Nat.le_of_ble_eq_true rfl, Nat.le_of_ble_eq_true rfl⟩ ⟨by show kc + 1 ≤ 601024; omega, by show sc + 6 ≤ 7293034; omega⟩ rfl hl.1 (Nat.le_of_ble_eq_true rfl) rfl dL_law_1773 (fun H1 hk9 h9 => fr_joinR hP hD K_NO hk9 h9) (D_W hD) (fun H locs hP hD hS => ?_)
  refine lv_istore (lv' := [(5, .int v2.1), (0, .ref b), (1, .ref n0), (2, .ref l0), (3, .ref o0), (4, .int i)]) hx hb dL_law_1776 hl (by decide) rfl (fun ls hl => ?_)
  refine lv_aload_n hx hb dL_law_1778 rfl (lv_at hl 3 rfl) ?_
  refine lv_aload_n hx hb dL_law_1779 rfl (lv_at hl 1 rfl) ?_
  refine lv_iload hx hb dL_law_1780 (lv_at hl 5 rfl) ?_
  refine lv_iconst (v := (1 : Int32)) hx hb dL_law_1782 (by decide) ?_
  refine lv_iadd hx hb dL_law_1783 ?_
  refine va_sld hx hb hXs hbl hbA hS hi1 dL_law_1784 ?_
  obtain ⟨v3, hc3, hok⟩ := bd_some hok
  refine cUVi (ci := 5) (q0 := 0) [.int (xs (i + (1 : Int32)).toNatClampNeg)] S hK2 (va_Pmid (wa := []) hP) (va_Dmid (wa := []) hD) hS hA (c_X5_warmthOf l dC dI cI cZ l0 l4 l5 l6 l8 l10 l11 l12 l13 l14 l15 l16 _ uL (xs (i + (1 : Int32)).toNatClampNeg) hc3) (lw_V qm_L_258 qi_X5_warmthOf qs_X5_warmthOf qn_X5 qc_X5_warmthOf) hd_X5_warmthOf ⟨rfl, rfl⟩ ⟨Nat.le_of_ble_eq_true rfl, Nat.le_of_ble_eq_true rfl⟩ ⟨by show (kc + 1) + 0 ≤ 601024; omega, by show (sc + 6) + 0 ≤ 7293034; omega⟩ rfl rfl rfl hl.1 (Nat.le_of_ble_eq_true rfl) rfl dL_law_1785 (fun H1 hk9 h9 => fr_joinM (wa := []) hP hD K_L hk9 h9) (D_W hD) (fun H locs hP hD hS => ?_)
  refine lv_istore (lv' := [(6, .int v3.1), (5, .int v2.1), (0, .ref b), (1, .ref n0), (2, .ref l0), (3, .ref o0), (4, .int i)]) hx hb dL_law_1788 hl (by decide) rfl (fun ls hl => ?_)
  refine lv_aload_n hx hb dL_law_1790 rfl (lv_at hl 4 rfl) ?_
  obtain ⟨v4, hc4, hok⟩ := bd_some hok
  refine cRVi (ci := 5) (q0 := 0) [] S hK2 (va_Pmid (wa := []) hP) (c_X5_thrown l dC dI cI cZ l0 l4 l5 l6 l8 l10 l11 l12 l13 l14 l15 l16 v3.2 hc4) (lw_V qm_L_122 qi_X5_thrown qs_X5_thrown qn_X5 qc_X5_thrown) hd_X5_thrown ⟨rfl, rfl⟩ ⟨Nat.le_of_ble_eq_true rfl, Nat.le_of_ble_eq_true rfl⟩ ⟨by show ((kc + 1) + 0) ≤ 601024; omega, by show ((sc + 6) + 0) ≤ 7293034; omega⟩ rfl rfl rfl hl.1 (Nat.le_of_ble_eq_true rfl) rfl dL_law_1791 ?_
  refine lv_iload hx hb dL_law_1794 (lv_at hl 1 rfl) ?_
  refine lv_icmp_eq (tgt := 1801) hx hb dL_law_1796 (by decide) (fun hc => ?_) (fun hc => ?_)
  · have hok := ip hok hc
    refine lv_iload hx hb dL_law_1801 (lv_at hl 1 rfl) ?_
    refine lv_if_ne (tgt := 1818) hx hb dL_law_1803 (by decide) (fun hc => ?_) (fun hc => ?_)
    · have hok := iq hok hc
      refine lv_goto (tgt := 2451) hx hb dL_law_1818 (by decide) ?_
      have hok := Option.some.inj hok
      subst hok
      exact hk _ _ _ _ (by omega) (by omega) hP hD hS _ (lv_sub hl [2, 3, 4, 5, 6] rfl)
    · have hok := ip hok hc
      refine lv_aload_n hx hb dL_law_1806 rfl (lv_at hl 5 rfl) ?_
      refine lv_iconst (v := (0 : Int32)) hx hb dL_law_1807 (by decide) ?_
      refine va_laldK hx hb hK hP 40 2 rfl rfl (j := 0) (by decide) (vp_inK (by decide)) dL_law_1808 ?_
      refine lv_iload hx hb dL_law_1809 (lv_at hl 0 rfl) ?_
      refine lv_i2l (v := v3.1.toInt64) hx hb dL_law_1811 rfl ?_
      refine W.lcmp hx hb dL_law_1812 ?_
      refine lv_if_eq (tgt := 1818) hx hb dL_law_1813 (by decide) (fun hc => ?_) (fun hc => ?_)
      · have hok := ip hok hc
        refine lv_goto (tgt := 2451) hx hb dL_law_1818 (by decide) ?_
        have hok := Option.some.inj hok
        subst hok
        exact hk _ _ _ _ (by omega) (by omega) hP hD hS _ (lv_sub hl [2, 3, 4, 5, 6] rfl)
      · have hok := iq hok hc
        refine lv_iconst (v := (0 : Int32)) hx hb dL_law_1816 (by decide) ?_
        cases hok
  · have hok := iq hok hc
    refine lv_iconst (v := (0 : Int32)) hx hb dL_law_1799 (by decide) ?_
    cases hok
def p_L_C39 (xs : Nat → Int32) (Lc : Nat) (i : Int32) (uL : tX5) (uH : tX1) (uC : tX0) (uT : tX0) (uI : tX2) (uM : tX3) (fO : Nat → Int64) : Option (tX5 × tX1 × tX0 × tX0 × tX2 × tX3 × (Nat → Int64)) :=
  gd (i + (1 : Int32)) Lc (
  bd (p_L_isSubscriber uH uC uT uI uM fO (xs (i + (1 : Int32)).toNatClampNeg)) (fun v2 =>
  bd (p_X5_isSubscriber uL (xs (i + (1 : Int32)).toNatClampNeg)) (fun v3 =>
  bd (p_X5_thrown v3.2) (fun v4 =>
  if v4 = v2.1 then
    if v2.1 = 0 then
      if v3.1 = 0 then
        if (lg_cmp (v2.2 0) (0 : Int64)) = 0 then
          some (v3.2, uH, uC, uT, uI, uM, v2.2)
        else
          none
      else
        if (lg_cmp (v2.2 0) (1 : Int64)) = 0 then
          some (v3.2, uH, uC, uT, uI, uM, v2.2)
        else
          none
    else
      some (v3.2, uH, uC, uT, uI, uM, v2.2)
  else
    none))))
set_option maxHeartbeats 4000000 in
set_option maxRecDepth 100000 in
theorem c_L_C39 {p : Program} {e : Env} {s : State} {m : MethodId} {below : List Frame} {meth : Method} {c : Code} (l : Launch) (hlt : l.stackTraces = false) (dC : Nat → ClassId) (dI : Nat → Nat → Nat) (cI cZ cJ : ClassId) (sa : Nat → Nat) (l0 l4 l5 l6 l8 l10 l11 l12 l13 l14 l15 l16 n0 h0 h3 h4 h5 h6 c0 c8 c9 c10 c11 c12 c13 t0 t8 t9 t10 t11 t12 t13 i0 i1 i2 i3 i4 m0 m1 m2 o0 : Nat) {b Lc : Nat} {xs : Nat → Int32} (S : CallFix p m c cL_law 9 s #[Value.ref b] lw_all RL) (hK : va_K (dC, dI) vwCl (TYJ cI cZ cJ) s) (hX : xb (fun q : Nat => s.heap.size ≤ q) sa s) (hxn : xn s) (hXs : va_X b Lc xs s s.heap) (hbl : b < s.heap.size) (i : Int32) (uL : tX5) (uH : tX1) (uC : tX0) (uT : tX0) (uI : tX2) (uM : tX3) (fO : Nat → Int64) {z : (tX5 × tX1 × tX0 × tX0 × tX2 × tX3 × (Nat → Int64))} (hok : p_L_C39 xs Lc i uL uH uC uT uI uM fO = some z) {Q : State → Prop} {kc sc : Nat} (hkc : kc + 565 ≤ 601024) (hsc : sc + 3393 ≤ 7293034) (H : Heap) (locs : List Loc) (hP : va_P (dC, dI) vwCl (wX5 cI cZ l0 l4 l5 l6 l8 l10 l11 l12 l13 l14 l15 l16 uL ++ (wN cI cZ n0 h0 h3 h4 h5 h6 c0 c8 c9 c10 c11 c12 c13 t0 t8 t9 t10 t11 t12 t13 i0 i1 i2 i3 i4 m0 m1 m2 uH uC uT uI uM ++ [(o0, .inl (cJ, 1, .inr (.inl fO)))])) H) (hD : va_D (fun q : Nat => s.heap.size ≤ q) (wX5 cI cZ l0 l4 l5 l6 l8 l10 l11 l12 l13 l14 l15 l16 uL ++ (wN cI cZ n0 h0 h3 h4 h5 h6 c0 c8 c9 c10 c11 c12 c13 t0 t8 t9 t10 t11 t12 t13 i0 i1 i2 i3 i4 m0 m1 m2 uH uC uT uI uM ++ [(o0, .inl (cJ, 1, .inr (.inl fO)))]))) (hS : va_S (fun q : Nat => s.heap.size ≤ q) s.heap H locs) (ls : Array Slot) (hl : lv_has ls 9 [(0, .ref b), (1, .ref n0), (2, .ref l0), (3, .ref o0), (4, .int i)])
    (hk : ∀ (kc' sc' : Nat) (H : Heap) (locs : List Loc), kc' ≤ kc + 565 → sc' ≤ sc + 3393 → va_P (dC, dI) vwCl (wX5 cI cZ l0 l4 l5 l6 l8 l10 l11 l12 l13 l14 l15 l16 z.1 ++ (wN cI cZ n0 h0 h3 h4 h5 h6 c0 c8 c9 c10 c11 c12 c13 t0 t8 t9 t10 t11 t12 t13 i0 i1 i2 i3 i4 m0 m1 m2 z.2.1 z.2.2.1 z.2.2.2.1 z.2.2.2.2.1 z.2.2.2.2.2.1 ++ [(o0, .inl (cJ, 1, .inr (.inl z.2.2.2.2.2.2)))])) H → va_D (fun q : Nat => s.heap.size ≤ q) (wX5 cI cZ l0 l4 l5 l6 l8 l10 l11 l12 l13 l14 l15 l16 z.1 ++ (wN cI cZ n0 h0 h3 h4 h5 h6 c0 c8 c9 c10 c11 c12 c13 t0 t8 t9 t10 t11 t12 t13 i0 i1 i2 i3 i4 m0 m1 m2 z.2.1 z.2.2.1 z.2.2.2.1 z.2.2.2.2.1 z.2.2.2.2.2.1 ++ [(o0, .inl (cJ, 1, .inr (.inl z.2.2.2.2.2.2)))])) → va_S (fun q : Nat => s.heap.size ≤ q) s.heap H locs → ∀ (ls : Array Slot), lv_has ls 9 [(0, .ref b), (1, .ref n0), (2, .ref l0), (3, .ref o0), (4, .int i)] → W p l e room_1 s m #[Value.ref b] below meth c H locs kc' sc' Q (F0 m 2451 ls [])) : W p l e room_1 s m #[Value.ref b] below meth c H locs kc sc Q (F0 m 1821 ls []) := by
  have hx := S.1
  have hb := S.2.1
  have hml := S.2.2.1
  have hown : s.vm.findClass RL = some m.cls := S.2.2.2.1
  have hts := S.2.2.2.2
  have hA : ∀ q : Nat, s.heap.size ≤ q → (fun q : Nat => s.heap.size ≤ q) q := fun _ h => h
  have hbA : ¬ (fun q : Nat => s.heap.size ≤ q) b := Nat.not_le.mpr hbl
  have hK2 : va_K (dC, dI) vwCl (TYS cI cZ) s := hK.sub [0, 1] rfl
  unfold p_L_C39 at hok
  refine lv_aload_n hx hb dL_law_1821 rfl (lv_at hl 1 rfl) ?_
  refine lv_aload_n hx hb dL_law_1822 rfl (lv_at hl 0 rfl) ?_
  refine lv_iload hx hb dL_law_1823 (lv_at hl 4 rfl) ?_
  refine lv_iconst (v := (1 : Int32)) hx hb dL_law_1825 (by decide) ?_
  refine lv_iadd hx hb dL_law_1826 ?_
  obtain ⟨hi1, hok⟩ := gd_some hok
  refine va_sld hx hb hXs hbl hbA hS hi1 dL_law_1827 ?_
  refine lv_aload_n hx hb dL_law_1828 rfl (lv_at hl 3 rfl) ?_
  obtain ⟨v2, hc2, hok⟩ := bd_some hok
  refine cHSi [.ref n0, .int (xs (i + (1 : Int32)).toNatClampNeg), .ref o0] S hK (va_Psuf hP) (va_Dsuf hD) hS hA hX hxn (c_L_isSubscriber l hlt dC dI cI cZ cJ n0 h0 h3 h4 h5 h6 c0 c8 c9 c10 c11 c12 c13 t0 t8 t9 t10 t11 t12 t13 i0 i1 i2 i3 i4 m0 m1 m2 o0 _ sa uH uC uT uI uM fO (xs (i + (1 : Int32)).toNatClampNeg) hc2) (lw_S qm_L_259 qt_L_isSubscriber qn_L qc_L_isSubscriber) hd_L_isSubscriber ⟨rfl, rfl⟩ ⟨Nat.le_of_ble_eq_true rfl, Nat.le_of_ble_eq_true rfl⟩ ⟨by show kc + 1 ≤ 601024; omega, by show sc + 6 ≤ 7293034; omega⟩ rfl hl.1 (Nat.le_of_ble_eq_true rfl) rfl dL_law_1829 (fun H1 hk9 h9 => fr_joinR hP hD K_NO hk9 h9) (D_W hD) (fun H locs hP hD hS => ?_)
  refine lv_istore (lv' := [(5, .int v2.1), (0, .ref b), (1, .ref n0), (2, .ref l0), (3, .ref o0), (4, .int i)]) hx hb dL_law_1832 hl (by decide) rfl (fun ls hl => ?_)
  refine lv_aload_n hx hb dL_law_1834 rfl (lv_at hl 3 rfl) ?_
  refine lv_aload_n hx hb dL_law_1835 rfl (lv_at hl 1 rfl) ?_
  refine lv_iload hx hb dL_law_1836 (lv_at hl 5 rfl) ?_
  refine lv_iconst (v := (1 : Int32)) hx hb dL_law_1838 (by decide) ?_
  refine lv_iadd hx hb dL_law_1839 ?_
  refine va_sld hx hb hXs hbl hbA hS hi1 dL_law_1840 ?_
  obtain ⟨v3, hc3, hok⟩ := bd_some hok
  refine cUVi (ci := 5) (q0 := 0) [.int (xs (i + (1 : Int32)).toNatClampNeg)] S hK2 (va_Pmid (wa := []) hP) (va_Dmid (wa := []) hD) hS hA (c_X5_isSubscriber l dC dI cI cZ l0 l4 l5 l6 l8 l10 l11 l12 l13 l14 l15 l16 _ uL (xs (i + (1 : Int32)).toNatClampNeg) hc3) (lw_V qm_L_261 qi_X5_isSubscriber qs_X5_isSubscriber qn_X5 qc_X5_isSubscriber) hd_X5_isSubscriber ⟨rfl, rfl⟩ ⟨Nat.le_of_ble_eq_true rfl, Nat.le_of_ble_eq_true rfl⟩ ⟨by show (kc + 1) + 0 ≤ 601024; omega, by show (sc + 6) + 0 ≤ 7293034; omega⟩ rfl rfl rfl hl.1 (Nat.le_of_ble_eq_true rfl) rfl dL_law_1841 (fun H1 hk9 h9 => fr_joinM (wa := []) hP hD K_L hk9 h9) (D_W hD) (fun H locs hP hD hS => ?_)
  refine lv_istore (lv' := [(6, .int v3.1), (5, .int v2.1), (0, .ref b), (1, .ref n0), (2, .ref l0), (3, .ref o0), (4, .int i)]) hx hb dL_law_1844 hl (by decide) rfl (fun ls hl => ?_)
  refine lv_aload_n hx hb dL_law_1846 rfl (lv_at hl 4 rfl) ?_
  obtain ⟨v4, hc4, hok⟩ := bd_some hok
  refine cRVi (ci := 5) (q0 := 0) [] S hK2 (va_Pmid (wa := []) hP) (c_X5_thrown l dC dI cI cZ l0 l4 l5 l6 l8 l10 l11 l12 l13 l14 l15 l16 v3.2 hc4) (lw_V qm_L_122 qi_X5_thrown qs_X5_thrown qn_X5 qc_X5_thrown) hd_X5_thrown ⟨rfl, rfl⟩ ⟨Nat.le_of_ble_eq_true rfl, Nat.le_of_ble_eq_true rfl⟩ ⟨by show ((kc + 1) + 0) ≤ 601024; omega, by show ((sc + 6) + 0) ≤ 7293034; omega⟩ rfl rfl rfl hl.1 (Nat.le_of_ble_eq_true rfl) rfl dL_law_1847 ?_
  refine lv_iload hx hb dL_law_1850 (lv_at hl 1 rfl) ?_
  refine lv_icmp_eq (tgt := 1857) hx hb dL_law_1852 (by decide) (fun hc => ?_) (fun hc => ?_)
  · have hok := ip hok hc
    refine lv_iload hx hb dL_law_1857 (lv_at hl 1 rfl) ?_
    refine lv_if_ne (tgt := 1881) hx hb dL_law_1859 (by decide) (fun hc => ?_) (fun hc => ?_)
    · have hok := iq hok hc
      refine lv_goto (tgt := 2451) hx hb dL_law_1881 (by decide) ?_
      have hok := Option.some.inj hok
      subst hok
      exact hk _ _ _ _ (by omega) (by omega) hP hD hS _ (lv_sub hl [2, 3, 4, 5, 6] rfl)
    · have hok := ip hok hc
      refine lv_aload_n hx hb dL_law_1862 rfl (lv_at hl 5 rfl) ?_
      refine lv_iconst (v := (0 : Int32)) hx hb dL_law_1863 (by decide) ?_
      refine va_laldK hx hb hK hP 40 2 rfl rfl (j := 0) (by decide) (vp_inK (by decide)) dL_law_1864 ?_
      refine lv_iload hx hb dL_law_1865 (lv_at hl 0 rfl) ?_
      refine lv_if_eq (tgt := 1874) hx hb dL_law_1867 (by decide) (fun hc => ?_) (fun hc => ?_)
      · have hok := ip hok hc
        refine lv_lconst (v := (0 : Int64)) hx hb dL_law_1874 (by decide) ?_
        refine W.lcmp hx hb dL_law_1875 ?_
        refine lv_if_eq (tgt := 1881) hx hb dL_law_1876 (by decide) (fun hc => ?_) (fun hc => ?_)
        · have hok := ip hok hc
          refine lv_goto (tgt := 2451) hx hb dL_law_1881 (by decide) ?_
          have hok := Option.some.inj hok
          subst hok
          exact hk _ _ _ _ (by omega) (by omega) hP hD hS _ (lv_sub hl [2, 3, 4, 5, 6] rfl)
        · have hok := iq hok hc
          refine lv_iconst (v := (0 : Int32)) hx hb dL_law_1879 (by decide) ?_
          cases hok
      · have hok := iq hok hc
        refine lv_lconst (v := (1 : Int64)) hx hb dL_law_1870 (by decide) ?_
        refine lv_goto (tgt := 1875) hx hb dL_law_1871 (by decide) ?_
        refine W.lcmp hx hb dL_law_1875 ?_
        refine lv_if_eq (tgt := 1881) hx hb dL_law_1876 (by decide) (fun hc => ?_) (fun hc => ?_)
        · have hok := ip hok hc
          refine lv_goto (tgt := 2451) hx hb dL_law_1881 (by decide) ?_
          have hok := Option.some.inj hok
          subst hok
          exact hk _ _ _ _ (by omega) (by omega) hP hD hS _ (lv_sub hl [2, 3, 4, 5, 6] rfl)
        · have hok := iq hok hc
          refine lv_iconst (v := (0 : Int32)) hx hb dL_law_1879 (by decide) ?_
          cases hok
  · have hok := iq hok hc
    refine lv_iconst (v := (0 : Int32)) hx hb dL_law_1855 (by decide) ?_
    cases hok
def p_L_C40 (xs : Nat → Int32) (Lc : Nat) (i : Int32) (uL : tX5) (uH : tX1) (uC : tX0) (uT : tX0) (uI : tX2) (uM : tX3) (fO : Nat → Int64) : Option (tX5 × tX1 × tX0 × tX0 × tX2 × tX3 × (Nat → Int64)) :=
  bd (p_X4_warmest uH uC uT uI uM) (fun v1 =>
  bd (p_X5_warmest uL) (fun v2 =>
  if v1 = v2.1 then
    some (v2.2, uH, uC, uT, uI, uM, fO)
  else
    none))
set_option maxHeartbeats 4000000 in
set_option maxRecDepth 100000 in
theorem c_L_C40 {p : Program} {e : Env} {s : State} {m : MethodId} {below : List Frame} {meth : Method} {c : Code} (l : Launch) (hlt : l.stackTraces = false) (dC : Nat → ClassId) (dI : Nat → Nat → Nat) (cI cZ cJ : ClassId) (sa : Nat → Nat) (l0 l4 l5 l6 l8 l10 l11 l12 l13 l14 l15 l16 n0 h0 h3 h4 h5 h6 c0 c8 c9 c10 c11 c12 c13 t0 t8 t9 t10 t11 t12 t13 i0 i1 i2 i3 i4 m0 m1 m2 o0 : Nat) {b Lc : Nat} {xs : Nat → Int32} (S : CallFix p m c cL_law 9 s #[Value.ref b] lw_all RL) (hK : va_K (dC, dI) vwCl (TYJ cI cZ cJ) s) (hX : xb (fun q : Nat => s.heap.size ≤ q) sa s) (hxn : xn s) (hXs : va_X b Lc xs s s.heap) (hbl : b < s.heap.size) (i : Int32) (uL : tX5) (uH : tX1) (uC : tX0) (uT : tX0) (uI : tX2) (uM : tX3) (fO : Nat → Int64) {z : (tX5 × tX1 × tX0 × tX0 × tX2 × tX3 × (Nat → Int64))} (hok : p_L_C40 xs Lc i uL uH uC uT uI uM fO = some z) {Q : State → Prop} {kc sc : Nat} (hkc : kc + 565 ≤ 601024) (hsc : sc + 3393 ≤ 7293034) (H : Heap) (locs : List Loc) (hP : va_P (dC, dI) vwCl (wX5 cI cZ l0 l4 l5 l6 l8 l10 l11 l12 l13 l14 l15 l16 uL ++ (wN cI cZ n0 h0 h3 h4 h5 h6 c0 c8 c9 c10 c11 c12 c13 t0 t8 t9 t10 t11 t12 t13 i0 i1 i2 i3 i4 m0 m1 m2 uH uC uT uI uM ++ [(o0, .inl (cJ, 1, .inr (.inl fO)))])) H) (hD : va_D (fun q : Nat => s.heap.size ≤ q) (wX5 cI cZ l0 l4 l5 l6 l8 l10 l11 l12 l13 l14 l15 l16 uL ++ (wN cI cZ n0 h0 h3 h4 h5 h6 c0 c8 c9 c10 c11 c12 c13 t0 t8 t9 t10 t11 t12 t13 i0 i1 i2 i3 i4 m0 m1 m2 uH uC uT uI uM ++ [(o0, .inl (cJ, 1, .inr (.inl fO)))]))) (hS : va_S (fun q : Nat => s.heap.size ≤ q) s.heap H locs) (ls : Array Slot) (hl : lv_has ls 9 [(0, .ref b), (1, .ref n0), (2, .ref l0), (3, .ref o0), (4, .int i)])
    (hk : ∀ (kc' sc' : Nat) (H : Heap) (locs : List Loc), kc' ≤ kc + 565 → sc' ≤ sc + 3393 → va_P (dC, dI) vwCl (wX5 cI cZ l0 l4 l5 l6 l8 l10 l11 l12 l13 l14 l15 l16 z.1 ++ (wN cI cZ n0 h0 h3 h4 h5 h6 c0 c8 c9 c10 c11 c12 c13 t0 t8 t9 t10 t11 t12 t13 i0 i1 i2 i3 i4 m0 m1 m2 z.2.1 z.2.2.1 z.2.2.2.1 z.2.2.2.2.1 z.2.2.2.2.2.1 ++ [(o0, .inl (cJ, 1, .inr (.inl z.2.2.2.2.2.2)))])) H → va_D (fun q : Nat => s.heap.size ≤ q) (wX5 cI cZ l0 l4 l5 l6 l8 l10 l11 l12 l13 l14 l15 l16 z.1 ++ (wN cI cZ n0 h0 h3 h4 h5 h6 c0 c8 c9 c10 c11 c12 c13 t0 t8 t9 t10 t11 t12 t13 i0 i1 i2 i3 i4 m0 m1 m2 z.2.1 z.2.2.1 z.2.2.2.1 z.2.2.2.2.1 z.2.2.2.2.2.1 ++ [(o0, .inl (cJ, 1, .inr (.inl z.2.2.2.2.2.2)))])) → va_S (fun q : Nat => s.heap.size ≤ q) s.heap H locs → ∀ (ls : Array Slot), lv_has ls 9 [(0, .ref b), (1, .ref n0), (2, .ref l0), (3, .ref o0), (4, .int i)] → W p l e room_1 s m #[Value.ref b] below meth c H locs kc' sc' Q (F0 m 2451 ls [])) : W p l e room_1 s m #[Value.ref b] below meth c H locs kc sc Q (F0 m 1884 ls []) := by
  have hx := S.1
  have hb := S.2.1
  have hml := S.2.2.1
  have hown : s.vm.findClass RL = some m.cls := S.2.2.2.1
  have hts := S.2.2.2.2
  have hA : ∀ q : Nat, s.heap.size ≤ q → (fun q : Nat => s.heap.size ≤ q) q := fun _ h => h
  have hbA : ¬ (fun q : Nat => s.heap.size ≤ q) b := Nat.not_le.mpr hbl
  have hK2 : va_K (dC, dI) vwCl (TYS cI cZ) s := hK.sub [0, 1] rfl
  unfold p_L_C40 at hok
  refine lv_aload_n hx hb dL_law_1884 rfl (lv_at hl 1 rfl) ?_
  obtain ⟨v1, hc1, hok⟩ := bd_some hok
  refine cRVi (ci := 4) (q0 := 0) [] S hK2 (va_Pmid hP) (c_X4_warmest l dC dI cI cZ n0 h0 h3 h4 h5 h6 c0 c8 c9 c10 c11 c12 c13 t0 t8 t9 t10 t11 t12 t13 i0 i1 i2 i3 i4 m0 m1 m2 uH uC uT uI uM hc1) (lw_V qm_L_262 qi_X4_warmest qs_X4_warmest qn_X4 qc_X4_warmest) hd_X4_warmest ⟨rfl, rfl⟩ ⟨Nat.le_of_ble_eq_true rfl, Nat.le_of_ble_eq_true rfl⟩ ⟨by show kc ≤ 601024; omega, by show sc ≤ 7293034; omega⟩ rfl rfl rfl hl.1 (Nat.le_of_ble_eq_true rfl) rfl dL_law_1885 ?_
  refine lv_aload_n hx hb dL_law_1888 rfl (lv_at hl 2 rfl) ?_
  obtain ⟨v2, hc2, hok⟩ := bd_some hok
  refine cUVi (ci := 5) (q0 := 0) [] S hK2 (va_Pmid (wa := []) hP) (va_Dmid (wa := []) hD) hS hA (c_X5_warmest l dC dI cI cZ l0 l4 l5 l6 l8 l10 l11 l12 l13 l14 l15 l16 _ uL hc2) (lw_V qm_L_265 qi_X5_warmest qs_X5_warmest qn_X5 qc_X5_warmest) hd_X5_warmest ⟨rfl, rfl⟩ ⟨Nat.le_of_ble_eq_true rfl, Nat.le_of_ble_eq_true rfl⟩ ⟨by show kc + 0 ≤ 601024; omega, by show sc + 0 ≤ 7293034; omega⟩ rfl rfl rfl hl.1 (Nat.le_of_ble_eq_true rfl) rfl dL_law_1889 (fun H1 hk9 h9 => fr_joinM (wa := []) hP hD K_L hk9 h9) (D_W hD) (fun H locs hP hD hS => ?_)
  refine lv_icmp_eq (tgt := 2451) hx hb dL_law_1892 (by decide) (fun hc => ?_) (fun hc => ?_)
  · have hok := ip hok hc
    have hok := Option.some.inj hok
    subst hok
    exact hk _ _ _ _ (by omega) (by omega) hP hD hS _ (lv_sub hl [0, 1, 2, 3, 4] rfl)
  · have hok := iq hok hc
    refine lv_iconst (v := (0 : Int32)) hx hb dL_law_1895 (by decide) ?_
    cases hok
def p_L_C41 (xs : Nat → Int32) (Lc : Nat) (i : Int32) (uL : tX5) (uH : tX1) (uC : tX0) (uT : tX0) (uI : tX2) (uM : tX3) (fO : Nat → Int64) : Option (tX5 × tX1 × tX0 × tX0 × tX2 × tX3 × (Nat → Int64)) :=
  bd (p_X4_mirrors uH uC uT uI uM) (fun v1 =>
  bd (p_X5_mirrors uL) (fun v2 =>
  if v1 = v2.1 then
    some (v2.2, uH, uC, uT, uI, uM, fO)
  else
    none))
set_option maxHeartbeats 4000000 in
set_option maxRecDepth 100000 in
theorem c_L_C41 {p : Program} {e : Env} {s : State} {m : MethodId} {below : List Frame} {meth : Method} {c : Code} (l : Launch) (hlt : l.stackTraces = false) (dC : Nat → ClassId) (dI : Nat → Nat → Nat) (cI cZ cJ : ClassId) (sa : Nat → Nat) (l0 l4 l5 l6 l8 l10 l11 l12 l13 l14 l15 l16 n0 h0 h3 h4 h5 h6 c0 c8 c9 c10 c11 c12 c13 t0 t8 t9 t10 t11 t12 t13 i0 i1 i2 i3 i4 m0 m1 m2 o0 : Nat) {b Lc : Nat} {xs : Nat → Int32} (S : CallFix p m c cL_law 9 s #[Value.ref b] lw_all RL) (hK : va_K (dC, dI) vwCl (TYJ cI cZ cJ) s) (hX : xb (fun q : Nat => s.heap.size ≤ q) sa s) (hxn : xn s) (hXs : va_X b Lc xs s s.heap) (hbl : b < s.heap.size) (i : Int32) (uL : tX5) (uH : tX1) (uC : tX0) (uT : tX0) (uI : tX2) (uM : tX3) (fO : Nat → Int64) {z : (tX5 × tX1 × tX0 × tX0 × tX2 × tX3 × (Nat → Int64))} (hok : p_L_C41 xs Lc i uL uH uC uT uI uM fO = some z) {Q : State → Prop} {kc sc : Nat} (hkc : kc + 565 ≤ 601024) (hsc : sc + 3393 ≤ 7293034) (H : Heap) (locs : List Loc) (hP : va_P (dC, dI) vwCl (wX5 cI cZ l0 l4 l5 l6 l8 l10 l11 l12 l13 l14 l15 l16 uL ++ (wN cI cZ n0 h0 h3 h4 h5 h6 c0 c8 c9 c10 c11 c12 c13 t0 t8 t9 t10 t11 t12 t13 i0 i1 i2 i3 i4 m0 m1 m2 uH uC uT uI uM ++ [(o0, .inl (cJ, 1, .inr (.inl fO)))])) H) (hD : va_D (fun q : Nat => s.heap.size ≤ q) (wX5 cI cZ l0 l4 l5 l6 l8 l10 l11 l12 l13 l14 l15 l16 uL ++ (wN cI cZ n0 h0 h3 h4 h5 h6 c0 c8 c9 c10 c11 c12 c13 t0 t8 t9 t10 t11 t12 t13 i0 i1 i2 i3 i4 m0 m1 m2 uH uC uT uI uM ++ [(o0, .inl (cJ, 1, .inr (.inl fO)))]))) (hS : va_S (fun q : Nat => s.heap.size ≤ q) s.heap H locs) (ls : Array Slot) (hl : lv_has ls 9 [(0, .ref b), (1, .ref n0), (2, .ref l0), (3, .ref o0), (4, .int i)])
    (hk : ∀ (kc' sc' : Nat) (H : Heap) (locs : List Loc), kc' ≤ kc + 565 → sc' ≤ sc + 3393 → va_P (dC, dI) vwCl (wX5 cI cZ l0 l4 l5 l6 l8 l10 l11 l12 l13 l14 l15 l16 z.1 ++ (wN cI cZ n0 h0 h3 h4 h5 h6 c0 c8 c9 c10 c11 c12 c13 t0 t8 t9 t10 t11 t12 t13 i0 i1 i2 i3 i4 m0 m1 m2 z.2.1 z.2.2.1 z.2.2.2.1 z.2.2.2.2.1 z.2.2.2.2.2.1 ++ [(o0, .inl (cJ, 1, .inr (.inl z.2.2.2.2.2.2)))])) H → va_D (fun q : Nat => s.heap.size ≤ q) (wX5 cI cZ l0 l4 l5 l6 l8 l10 l11 l12 l13 l14 l15 l16 z.1 ++ (wN cI cZ n0 h0 h3 h4 h5 h6 c0 c8 c9 c10 c11 c12 c13 t0 t8 t9 t10 t11 t12 t13 i0 i1 i2 i3 i4 m0 m1 m2 z.2.1 z.2.2.1 z.2.2.2.1 z.2.2.2.2.1 z.2.2.2.2.2.1 ++ [(o0, .inl (cJ, 1, .inr (.inl z.2.2.2.2.2.2)))])) → va_S (fun q : Nat => s.heap.size ≤ q) s.heap H locs → ∀ (ls : Array Slot), lv_has ls 9 [(0, .ref b), (1, .ref n0), (2, .ref l0), (3, .ref o0), (4, .int i)] → W p l e room_1 s m #[Value.ref b] below meth c H locs kc' sc' Q (F0 m 2451 ls [])) : W p l e room_1 s m #[Value.ref b] below meth c H locs kc sc Q (F0 m 1897 ls []) := by
  have hx := S.1
  have hb := S.2.1
  have hml := S.2.2.1
  have hown : s.vm.findClass RL = some m.cls := S.2.2.2.1
  have hts := S.2.2.2.2
  have hA : ∀ q : Nat, s.heap.size ≤ q → (fun q : Nat => s.heap.size ≤ q) q := fun _ h => h
  have hbA : ¬ (fun q : Nat => s.heap.size ≤ q) b := Nat.not_le.mpr hbl
  have hK2 : va_K (dC, dI) vwCl (TYS cI cZ) s := hK.sub [0, 1] rfl
  unfold p_L_C41 at hok
  refine lv_aload_n hx hb dL_law_1897 rfl (lv_at hl 1 rfl) ?_
  obtain ⟨v1, hc1, hok⟩ := bd_some hok
  refine cRVi (ci := 4) (q0 := 0) [] S hK2 (va_Pmid hP) (c_X4_mirrors l dC dI cI cZ n0 h0 h3 h4 h5 h6 c0 c8 c9 c10 c11 c12 c13 t0 t8 t9 t10 t11 t12 t13 i0 i1 i2 i3 i4 m0 m1 m2 uH uC uT uI uM hc1) (lw_V qm_L_266 qi_X4_mirrors qs_X4_mirrors qn_X4 qc_X4_mirrors) hd_X4_mirrors ⟨rfl, rfl⟩ ⟨Nat.le_of_ble_eq_true rfl, Nat.le_of_ble_eq_true rfl⟩ ⟨by show kc ≤ 601024; omega, by show sc ≤ 7293034; omega⟩ rfl rfl rfl hl.1 (Nat.le_of_ble_eq_true rfl) rfl dL_law_1898 ?_
  refine lv_aload_n hx hb dL_law_1901 rfl (lv_at hl 2 rfl) ?_
  obtain ⟨v2, hc2, hok⟩ := bd_some hok
  refine cUVi (ci := 5) (q0 := 0) [] S hK2 (va_Pmid (wa := []) hP) (va_Dmid (wa := []) hD) hS hA (c_X5_mirrors l dC dI cI cZ l0 l4 l5 l6 l8 l10 l11 l12 l13 l14 l15 l16 _ uL hc2) (lw_V qm_L_269 qi_X5_mirrors qs_X5_mirrors qn_X5 qc_X5_mirrors) hd_X5_mirrors ⟨rfl, rfl⟩ ⟨Nat.le_of_ble_eq_true rfl, Nat.le_of_ble_eq_true rfl⟩ ⟨by show kc + 0 ≤ 601024; omega, by show sc + 0 ≤ 7293034; omega⟩ rfl rfl rfl hl.1 (Nat.le_of_ble_eq_true rfl) rfl dL_law_1902 (fun H1 hk9 h9 => fr_joinM (wa := []) hP hD K_L hk9 h9) (D_W hD) (fun H locs hP hD hS => ?_)
  refine lv_icmp_eq (tgt := 2451) hx hb dL_law_1905 (by decide) (fun hc => ?_) (fun hc => ?_)
  · have hok := ip hok hc
    have hok := Option.some.inj hok
    subst hok
    exact hk _ _ _ _ (by omega) (by omega) hP hD hS _ (lv_sub hl [0, 1, 2, 3, 4] rfl)
  · have hok := iq hok hc
    refine lv_iconst (v := (0 : Int32)) hx hb dL_law_1908 (by decide) ?_
    cases hok
def p_L_C42 (xs : Nat → Int32) (Lc : Nat) (i : Int32) (uL : tX5) (uH : tX1) (uC : tX0) (uT : tX0) (uI : tX2) (uM : tX3) (fO : Nat → Int64) : Option (tX5 × tX1 × tX0 × tX0 × tX2 × tX3 × (Nat → Int64)) :=
  gd (i + (1 : Int32)) Lc (
  gd (i + (2 : Int32)) Lc (
  bd (p_L_grade uH uC uT uI uM fO (xs (i + (1 : Int32)).toNatClampNeg) (xs (i + (2 : Int32)).toNatClampNeg)) (fun v3 =>
  bd (p_X5_grade uL (xs (i + (1 : Int32)).toNatClampNeg) (xs (i + (2 : Int32)).toNatClampNeg)) (fun v4 =>
  bd (p_X5_thrown v4.2) (fun v5 =>
  if v5 = v3.1 then
    if v3.1 = 0 then
      if (lg_cmp (v3.2 0) v4.1.toInt64) = 0 then
        some (v4.2, uH, uC, uT, uI, uM, v3.2)
      else
        none
    else
      some (v4.2, uH, uC, uT, uI, uM, v3.2)
  else
    none)))))
set_option maxHeartbeats 4000000 in
set_option maxRecDepth 100000 in
theorem c_L_C42 {p : Program} {e : Env} {s : State} {m : MethodId} {below : List Frame} {meth : Method} {c : Code} (l : Launch) (hlt : l.stackTraces = false) (dC : Nat → ClassId) (dI : Nat → Nat → Nat) (cI cZ cJ : ClassId) (sa : Nat → Nat) (l0 l4 l5 l6 l8 l10 l11 l12 l13 l14 l15 l16 n0 h0 h3 h4 h5 h6 c0 c8 c9 c10 c11 c12 c13 t0 t8 t9 t10 t11 t12 t13 i0 i1 i2 i3 i4 m0 m1 m2 o0 : Nat) {b Lc : Nat} {xs : Nat → Int32} (S : CallFix p m c cL_law 9 s #[Value.ref b] lw_all RL) (hK : va_K (dC, dI) vwCl (TYJ cI cZ cJ) s) (hX : xb (fun q : Nat => s.heap.size ≤ q) sa s) (hxn : xn s) (hXs : va_X b Lc xs s s.heap) (hbl : b < s.heap.size) (i : Int32) (uL : tX5) (uH : tX1) (uC : tX0) (uT : tX0) (uI : tX2) (uM : tX3) (fO : Nat → Int64) {z : (tX5 × tX1 × tX0 × tX0 × tX2 × tX3 × (Nat → Int64))} (hok : p_L_C42 xs Lc i uL uH uC uT uI uM fO = some z) {Q : State → Prop} {kc sc : Nat} (hkc : kc + 565 ≤ 601024) (hsc : sc + 3393 ≤ 7293034) (H : Heap) (locs : List Loc) (hP : va_P (dC, dI) vwCl (wX5 cI cZ l0 l4 l5 l6 l8 l10 l11 l12 l13 l14 l15 l16 uL ++ (wN cI cZ n0 h0 h3 h4 h5 h6 c0 c8 c9 c10 c11 c12 c13 t0 t8 t9 t10 t11 t12 t13 i0 i1 i2 i3 i4 m0 m1 m2 uH uC uT uI uM ++ [(o0, .inl (cJ, 1, .inr (.inl fO)))])) H) (hD : va_D (fun q : Nat => s.heap.size ≤ q) (wX5 cI cZ l0 l4 l5 l6 l8 l10 l11 l12 l13 l14 l15 l16 uL ++ (wN cI cZ n0 h0 h3 h4 h5 h6 c0 c8 c9 c10 c11 c12 c13 t0 t8 t9 t10 t11 t12 t13 i0 i1 i2 i3 i4 m0 m1 m2 uH uC uT uI uM ++ [(o0, .inl (cJ, 1, .inr (.inl fO)))]))) (hS : va_S (fun q : Nat => s.heap.size ≤ q) s.heap H locs) (ls : Array Slot) (hl : lv_has ls 9 [(0, .ref b), (1, .ref n0), (2, .ref l0), (3, .ref o0), (4, .int i)])
    (hk : ∀ (kc' sc' : Nat) (H : Heap) (locs : List Loc), kc' ≤ kc + 565 → sc' ≤ sc + 3393 → va_P (dC, dI) vwCl (wX5 cI cZ l0 l4 l5 l6 l8 l10 l11 l12 l13 l14 l15 l16 z.1 ++ (wN cI cZ n0 h0 h3 h4 h5 h6 c0 c8 c9 c10 c11 c12 c13 t0 t8 t9 t10 t11 t12 t13 i0 i1 i2 i3 i4 m0 m1 m2 z.2.1 z.2.2.1 z.2.2.2.1 z.2.2.2.2.1 z.2.2.2.2.2.1 ++ [(o0, .inl (cJ, 1, .inr (.inl z.2.2.2.2.2.2)))])) H → va_D (fun q : Nat => s.heap.size ≤ q) (wX5 cI cZ l0 l4 l5 l6 l8 l10 l11 l12 l13 l14 l15 l16 z.1 ++ (wN cI cZ n0 h0 h3 h4 h5 h6 c0 c8 c9 c10 c11 c12 c13 t0 t8 t9 t10 t11 t12 t13 i0 i1 i2 i3 i4 m0 m1 m2 z.2.1 z.2.2.1 z.2.2.2.1 z.2.2.2.2.1 z.2.2.2.2.2.1 ++ [(o0, .inl (cJ, 1, .inr (.inl z.2.2.2.2.2.2)))])) → va_S (fun q : Nat => s.heap.size ≤ q) s.heap H locs → ∀ (ls : Array Slot), lv_has ls 9 [(0, .ref b), (1, .ref n0), (2, .ref l0), (3, .ref o0), (4, .int i)] → W p l e room_1 s m #[Value.ref b] below meth c H locs kc' sc' Q (F0 m 2451 ls [])) : W p l e room_1 s m #[Value.ref b] below meth c H locs kc sc Q (F0 m 1910 ls []) := by
  have hx := S.1
  have hb := S.2.1
  have hml := S.2.2.1
  have hown : s.vm.findClass RL = some m.cls := S.2.2.2.1
  have hts := S.2.2.2.2
  have hA : ∀ q : Nat, s.heap.size ≤ q → (fun q : Nat => s.heap.size ≤ q) q := fun _ h => h
  have hbA : ¬ (fun q : Nat => s.heap.size ≤ q) b := Nat.not_le.mpr hbl
  have hK2 : va_K (dC, dI) vwCl (TYS cI cZ) s := hK.sub [0, 1] rfl
  unfold p_L_C42 at hok
  refine lv_aload_n hx hb dL_law_1910 rfl (lv_at hl 1 rfl) ?_
  refine lv_aload_n hx hb dL_law_1911 rfl (lv_at hl 0 rfl) ?_
  refine lv_iload hx hb dL_law_1912 (lv_at hl 4 rfl) ?_
  refine lv_iconst (v := (1 : Int32)) hx hb dL_law_1914 (by decide) ?_
  refine lv_iadd hx hb dL_law_1915 ?_
  obtain ⟨hi1, hok⟩ := gd_some hok
  refine va_sld hx hb hXs hbl hbA hS hi1 dL_law_1916 ?_
  refine lv_aload_n hx hb dL_law_1917 rfl (lv_at hl 0 rfl) ?_
  refine lv_iload hx hb dL_law_1918 (lv_at hl 4 rfl) ?_
  refine lv_iconst (v := (2 : Int32)) hx hb dL_law_1920 (by decide) ?_
  refine lv_iadd hx hb dL_law_1921 ?_
  obtain ⟨hi2, hok⟩ := gd_some hok
  refine va_sld hx hb hXs hbl hbA hS hi2 dL_law_1922 ?_
  refine lv_aload_n hx hb dL_law_1923 rfl (lv_at hl 3 rfl) ?_
  obtain ⟨v3, hc3, hok⟩ := bd_some hok
  refine cHSi [.ref n0, .int (xs (i + (1 : Int32)).toNatClampNeg), .int (xs (i + (2 : Int32)).toNatClampNeg), .ref o0] S hK (va_Psuf hP) (va_Dsuf hD) hS hA hX hxn (c_L_grade l hlt dC dI cI cZ cJ n0 h0 h3 h4 h5 h6 c0 c8 c9 c10 c11 c12 c13 t0 t8 t9 t10 t11 t12 t13 i0 i1 i2 i3 i4 m0 m1 m2 o0 _ sa uH uC uT uI uM fO (xs (i + (1 : Int32)).toNatClampNeg) (xs (i + (2 : Int32)).toNatClampNeg) hc3) (lw_S qm_L_270 qt_L_grade qn_L qc_L_grade) hd_L_grade ⟨rfl, rfl⟩ ⟨Nat.le_of_ble_eq_true rfl, Nat.le_of_ble_eq_true rfl⟩ ⟨by show kc + 2 ≤ 601024; omega, by show sc + 12 ≤ 7293034; omega⟩ rfl hl.1 (Nat.le_of_ble_eq_true rfl) rfl dL_law_1924 (fun H1 hk9 h9 => fr_joinR hP hD K_NO hk9 h9) (D_W hD) (fun H locs hP hD hS => ?_)
  refine lv_istore (lv' := [(5, .int v3.1), (0, .ref b), (1, .ref n0), (2, .ref l0), (3, .ref o0), (4, .int i)]) hx hb dL_law_1927 hl (by decide) rfl (fun ls hl => ?_)
  refine lv_aload_n hx hb dL_law_1929 rfl (lv_at hl 3 rfl) ?_
  refine lv_aload_n hx hb dL_law_1930 rfl (lv_at hl 1 rfl) ?_
  refine lv_iload hx hb dL_law_1931 (lv_at hl 5 rfl) ?_
  refine lv_iconst (v := (1 : Int32)) hx hb dL_law_1933 (by decide) ?_
  refine lv_iadd hx hb dL_law_1934 ?_
  refine va_sld hx hb hXs hbl hbA hS hi1 dL_law_1935 ?_
  refine lv_aload_n hx hb dL_law_1936 rfl (lv_at hl 1 rfl) ?_
  refine lv_iload hx hb dL_law_1937 (lv_at hl 5 rfl) ?_
  refine lv_iconst (v := (2 : Int32)) hx hb dL_law_1939 (by decide) ?_
  refine lv_iadd hx hb dL_law_1940 ?_
  refine va_sld hx hb hXs hbl hbA hS hi2 dL_law_1941 ?_
  obtain ⟨v4, hc4, hok⟩ := bd_some hok
  refine cUVi (ci := 5) (q0 := 0) [.int (xs (i + (1 : Int32)).toNatClampNeg), .int (xs (i + (2 : Int32)).toNatClampNeg)] S hK2 (va_Pmid (wa := []) hP) (va_Dmid (wa := []) hD) hS hA (c_X5_grade l dC dI cI cZ l0 l4 l5 l6 l8 l10 l11 l12 l13 l14 l15 l16 _ uL (xs (i + (1 : Int32)).toNatClampNeg) (xs (i + (2 : Int32)).toNatClampNeg) hc4) (lw_V qm_L_272 qi_X5_grade qs_X5_grade qn_X5 qc_X5_grade) hd_X5_grade ⟨rfl, rfl⟩ ⟨Nat.le_of_ble_eq_true rfl, Nat.le_of_ble_eq_true rfl⟩ ⟨by show (kc + 2) + 0 ≤ 601024; omega, by show (sc + 12) + 0 ≤ 7293034; omega⟩ rfl rfl rfl hl.1 (Nat.le_of_ble_eq_true rfl) rfl dL_law_1942 (fun H1 hk9 h9 => fr_joinM (wa := []) hP hD K_L hk9 h9) (D_W hD) (fun H locs hP hD hS => ?_)
  refine lv_istore (lv' := [(6, .int v4.1), (5, .int v3.1), (0, .ref b), (1, .ref n0), (2, .ref l0), (3, .ref o0), (4, .int i)]) hx hb dL_law_1945 hl (by decide) rfl (fun ls hl => ?_)
  refine lv_aload_n hx hb dL_law_1947 rfl (lv_at hl 4 rfl) ?_
  obtain ⟨v5, hc5, hok⟩ := bd_some hok
  refine cRVi (ci := 5) (q0 := 0) [] S hK2 (va_Pmid (wa := []) hP) (c_X5_thrown l dC dI cI cZ l0 l4 l5 l6 l8 l10 l11 l12 l13 l14 l15 l16 v4.2 hc5) (lw_V qm_L_122 qi_X5_thrown qs_X5_thrown qn_X5 qc_X5_thrown) hd_X5_thrown ⟨rfl, rfl⟩ ⟨Nat.le_of_ble_eq_true rfl, Nat.le_of_ble_eq_true rfl⟩ ⟨by show ((kc + 2) + 0) ≤ 601024; omega, by show ((sc + 12) + 0) ≤ 7293034; omega⟩ rfl rfl rfl hl.1 (Nat.le_of_ble_eq_true rfl) rfl dL_law_1948 ?_
  refine lv_iload hx hb dL_law_1951 (lv_at hl 1 rfl) ?_
  refine lv_icmp_eq (tgt := 1958) hx hb dL_law_1953 (by decide) (fun hc => ?_) (fun hc => ?_)
  · have hok := ip hok hc
    refine lv_iload hx hb dL_law_1958 (lv_at hl 1 rfl) ?_
    refine lv_if_ne (tgt := 1975) hx hb dL_law_1960 (by decide) (fun hc => ?_) (fun hc => ?_)
    · have hok := iq hok hc
      refine lv_goto (tgt := 2451) hx hb dL_law_1975 (by decide) ?_
      have hok := Option.some.inj hok
      subst hok
      exact hk _ _ _ _ (by omega) (by omega) hP hD hS _ (lv_sub hl [2, 3, 4, 5, 6] rfl)
    · have hok := ip hok hc
      refine lv_aload_n hx hb dL_law_1963 rfl (lv_at hl 5 rfl) ?_
      refine lv_iconst (v := (0 : Int32)) hx hb dL_law_1964 (by decide) ?_
      refine va_laldK hx hb hK hP 40 2 rfl rfl (j := 0) (by decide) (vp_inK (by decide)) dL_law_1965 ?_
      refine lv_iload hx hb dL_law_1966 (lv_at hl 0 rfl) ?_
      refine lv_i2l (v := v4.1.toInt64) hx hb dL_law_1968 rfl ?_
      refine W.lcmp hx hb dL_law_1969 ?_
      refine lv_if_eq (tgt := 1975) hx hb dL_law_1970 (by decide) (fun hc => ?_) (fun hc => ?_)
      · have hok := ip hok hc
        refine lv_goto (tgt := 2451) hx hb dL_law_1975 (by decide) ?_
        have hok := Option.some.inj hok
        subst hok
        exact hk _ _ _ _ (by omega) (by omega) hP hD hS _ (lv_sub hl [2, 3, 4, 5, 6] rfl)
      · have hok := iq hok hc
        refine lv_iconst (v := (0 : Int32)) hx hb dL_law_1973 (by decide) ?_
        cases hok
  · have hok := iq hok hc
    refine lv_iconst (v := (0 : Int32)) hx hb dL_law_1956 (by decide) ?_
    cases hok
def p_L_C43 (xs : Nat → Int32) (Lc : Nat) (i : Int32) (uL : tX5) (uH : tX1) (uC : tX0) (uT : tX0) (uI : tX2) (uM : tX3) (fO : Nat → Int64) : Option (tX5 × tX1 × tX0 × tX0 × tX2 × tX3 × (Nat → Int64)) :=
  gd (i + (1 : Int32)) Lc (
  bd (p_L_gradesBy uH uC uT uI uM fO (xs (i + (1 : Int32)).toNatClampNeg)) (fun v2 =>
  bd (p_X5_gradesBy uL (xs (i + (1 : Int32)).toNatClampNeg)) (fun v3 =>
  bd (p_X5_thrown v3.2) (fun v4 =>
  if v4 = v2.1 then
    if v2.1 = 0 then
      if (lg_cmp (v2.2 0) v3.1.toInt64) = 0 then
        some (v3.2, uH, uC, uT, uI, uM, v2.2)
      else
        none
    else
      some (v3.2, uH, uC, uT, uI, uM, v2.2)
  else
    none))))
set_option maxHeartbeats 4000000 in
set_option maxRecDepth 100000 in
theorem c_L_C43 {p : Program} {e : Env} {s : State} {m : MethodId} {below : List Frame} {meth : Method} {c : Code} (l : Launch) (hlt : l.stackTraces = false) (dC : Nat → ClassId) (dI : Nat → Nat → Nat) (cI cZ cJ : ClassId) (sa : Nat → Nat) (l0 l4 l5 l6 l8 l10 l11 l12 l13 l14 l15 l16 n0 h0 h3 h4 h5 h6 c0 c8 c9 c10 c11 c12 c13 t0 t8 t9 t10 t11 t12 t13 i0 i1 i2 i3 i4 m0 m1 m2 o0 : Nat) {b Lc : Nat} {xs : Nat → Int32} (S : CallFix p m c cL_law 9 s #[Value.ref b] lw_all RL) (hK : va_K (dC, dI) vwCl (TYJ cI cZ cJ) s) (hX : xb (fun q : Nat => s.heap.size ≤ q) sa s) (hxn : xn s) (hXs : va_X b Lc xs s s.heap) (hbl : b < s.heap.size) (i : Int32) (uL : tX5) (uH : tX1) (uC : tX0) (uT : tX0) (uI : tX2) (uM : tX3) (fO : Nat → Int64) {z : (tX5 × tX1 × tX0 × tX0 × tX2 × tX3 × (Nat → Int64))} (hok : p_L_C43 xs Lc i uL uH uC uT uI uM fO = some z) {Q : State → Prop} {kc sc : Nat} (hkc : kc + 565 ≤ 601024) (hsc : sc + 3393 ≤ 7293034) (H : Heap) (locs : List Loc) (hP : va_P (dC, dI) vwCl (wX5 cI cZ l0 l4 l5 l6 l8 l10 l11 l12 l13 l14 l15 l16 uL ++ (wN cI cZ n0 h0 h3 h4 h5 h6 c0 c8 c9 c10 c11 c12 c13 t0 t8 t9 t10 t11 t12 t13 i0 i1 i2 i3 i4 m0 m1 m2 uH uC uT uI uM ++ [(o0, .inl (cJ, 1, .inr (.inl fO)))])) H) (hD : va_D (fun q : Nat => s.heap.size ≤ q) (wX5 cI cZ l0 l4 l5 l6 l8 l10 l11 l12 l13 l14 l15 l16 uL ++ (wN cI cZ n0 h0 h3 h4 h5 h6 c0 c8 c9 c10 c11 c12 c13 t0 t8 t9 t10 t11 t12 t13 i0 i1 i2 i3 i4 m0 m1 m2 uH uC uT uI uM ++ [(o0, .inl (cJ, 1, .inr (.inl fO)))]))) (hS : va_S (fun q : Nat => s.heap.size ≤ q) s.heap H locs) (ls : Array Slot) (hl : lv_has ls 9 [(0, .ref b), (1, .ref n0), (2, .ref l0), (3, .ref o0), (4, .int i)])
    (hk : ∀ (kc' sc' : Nat) (H : Heap) (locs : List Loc), kc' ≤ kc + 565 → sc' ≤ sc + 3393 → va_P (dC, dI) vwCl (wX5 cI cZ l0 l4 l5 l6 l8 l10 l11 l12 l13 l14 l15 l16 z.1 ++ (wN cI cZ n0 h0 h3 h4 h5 h6 c0 c8 c9 c10 c11 c12 c13 t0 t8 t9 t10 t11 t12 t13 i0 i1 i2 i3 i4 m0 m1 m2 z.2.1 z.2.2.1 z.2.2.2.1 z.2.2.2.2.1 z.2.2.2.2.2.1 ++ [(o0, .inl (cJ, 1, .inr (.inl z.2.2.2.2.2.2)))])) H → va_D (fun q : Nat => s.heap.size ≤ q) (wX5 cI cZ l0 l4 l5 l6 l8 l10 l11 l12 l13 l14 l15 l16 z.1 ++ (wN cI cZ n0 h0 h3 h4 h5 h6 c0 c8 c9 c10 c11 c12 c13 t0 t8 t9 t10 t11 t12 t13 i0 i1 i2 i3 i4 m0 m1 m2 z.2.1 z.2.2.1 z.2.2.2.1 z.2.2.2.2.1 z.2.2.2.2.2.1 ++ [(o0, .inl (cJ, 1, .inr (.inl z.2.2.2.2.2.2)))])) → va_S (fun q : Nat => s.heap.size ≤ q) s.heap H locs → ∀ (ls : Array Slot), lv_has ls 9 [(0, .ref b), (1, .ref n0), (2, .ref l0), (3, .ref o0), (4, .int i)] → W p l e room_1 s m #[Value.ref b] below meth c H locs kc' sc' Q (F0 m 2451 ls [])) : W p l e room_1 s m #[Value.ref b] below meth c H locs kc sc Q (F0 m 1978 ls []) := by
  have hx := S.1
  have hb := S.2.1
  have hml := S.2.2.1
  have hown : s.vm.findClass RL = some m.cls := S.2.2.2.1
  have hts := S.2.2.2.2
  have hA : ∀ q : Nat, s.heap.size ≤ q → (fun q : Nat => s.heap.size ≤ q) q := fun _ h => h
  have hbA : ¬ (fun q : Nat => s.heap.size ≤ q) b := Nat.not_le.mpr hbl
  have hK2 : va_K (dC, dI) vwCl (TYS cI cZ) s := hK.sub [0, 1] rfl
  unfold p_L_C43 at hok
  refine lv_aload_n hx hb dL_law_1978 rfl (lv_at hl 1 rfl) ?_
  refine lv_aload_n hx hb dL_law_1979 rfl (lv_at hl 0 rfl) ?_
  refine lv_iload hx hb dL_law_1980 (lv_at hl 4 rfl) ?_
  refine lv_iconst (v := (1 : Int32)) hx hb dL_law_1982 (by decide) ?_
  refine lv_iadd hx hb dL_law_1983 ?_
  obtain ⟨hi1, hok⟩ := gd_some hok
  refine va_sld hx hb hXs hbl hbA hS hi1 dL_law_1984 ?_
  refine lv_aload_n hx hb dL_law_1985 rfl (lv_at hl 3 rfl) ?_
  obtain ⟨v2, hc2, hok⟩ := bd_some hok
  refine cHSi [.ref n0, .int (xs (i + (1 : Int32)).toNatClampNeg), .ref o0] S hK (va_Psuf hP) (va_Dsuf hD) hS hA hX hxn (c_L_gradesBy l hlt dC dI cI cZ cJ n0 h0 h3 h4 h5 h6 c0 c8 c9 c10 c11 c12 c13 t0 t8 t9 t10 t11 t12 t13 i0 i1 i2 i3 i4 m0 m1 m2 o0 _ sa uH uC uT uI uM fO (xs (i + (1 : Int32)).toNatClampNeg) hc2) (lw_S qm_L_273 qt_L_gradesBy qn_L qc_L_gradesBy) hd_L_gradesBy ⟨rfl, rfl⟩ ⟨Nat.le_of_ble_eq_true rfl, Nat.le_of_ble_eq_true rfl⟩ ⟨by show kc + 1 ≤ 601024; omega, by show sc + 6 ≤ 7293034; omega⟩ rfl hl.1 (Nat.le_of_ble_eq_true rfl) rfl dL_law_1986 (fun H1 hk9 h9 => fr_joinR hP hD K_NO hk9 h9) (D_W hD) (fun H locs hP hD hS => ?_)
  refine lv_istore (lv' := [(5, .int v2.1), (0, .ref b), (1, .ref n0), (2, .ref l0), (3, .ref o0), (4, .int i)]) hx hb dL_law_1989 hl (by decide) rfl (fun ls hl => ?_)
  refine lv_aload_n hx hb dL_law_1991 rfl (lv_at hl 3 rfl) ?_
  refine lv_aload_n hx hb dL_law_1992 rfl (lv_at hl 1 rfl) ?_
  refine lv_iload hx hb dL_law_1993 (lv_at hl 5 rfl) ?_
  refine lv_iconst (v := (1 : Int32)) hx hb dL_law_1995 (by decide) ?_
  refine lv_iadd hx hb dL_law_1996 ?_
  refine va_sld hx hb hXs hbl hbA hS hi1 dL_law_1997 ?_
  obtain ⟨v3, hc3, hok⟩ := bd_some hok
  refine cUVi (ci := 5) (q0 := 0) [.int (xs (i + (1 : Int32)).toNatClampNeg)] S hK2 (va_Pmid (wa := []) hP) (va_Dmid (wa := []) hD) hS hA (c_X5_gradesBy l dC dI cI cZ l0 l4 l5 l6 l8 l10 l11 l12 l13 l14 l15 l16 _ uL (xs (i + (1 : Int32)).toNatClampNeg) hc3) (lw_V qm_L_275 qi_X5_gradesBy qs_X5_gradesBy qn_X5 qc_X5_gradesBy) hd_X5_gradesBy ⟨rfl, rfl⟩ ⟨Nat.le_of_ble_eq_true rfl, Nat.le_of_ble_eq_true rfl⟩ ⟨by show (kc + 1) + 0 ≤ 601024; omega, by show (sc + 6) + 0 ≤ 7293034; omega⟩ rfl rfl rfl hl.1 (Nat.le_of_ble_eq_true rfl) rfl dL_law_1998 (fun H1 hk9 h9 => fr_joinM (wa := []) hP hD K_L hk9 h9) (D_W hD) (fun H locs hP hD hS => ?_)
  refine lv_istore (lv' := [(6, .int v3.1), (5, .int v2.1), (0, .ref b), (1, .ref n0), (2, .ref l0), (3, .ref o0), (4, .int i)]) hx hb dL_law_2001 hl (by decide) rfl (fun ls hl => ?_)
  refine lv_aload_n hx hb dL_law_2003 rfl (lv_at hl 4 rfl) ?_
  obtain ⟨v4, hc4, hok⟩ := bd_some hok
  refine cRVi (ci := 5) (q0 := 0) [] S hK2 (va_Pmid (wa := []) hP) (c_X5_thrown l dC dI cI cZ l0 l4 l5 l6 l8 l10 l11 l12 l13 l14 l15 l16 v3.2 hc4) (lw_V qm_L_122 qi_X5_thrown qs_X5_thrown qn_X5 qc_X5_thrown) hd_X5_thrown ⟨rfl, rfl⟩ ⟨Nat.le_of_ble_eq_true rfl, Nat.le_of_ble_eq_true rfl⟩ ⟨by show ((kc + 1) + 0) ≤ 601024; omega, by show ((sc + 6) + 0) ≤ 7293034; omega⟩ rfl rfl rfl hl.1 (Nat.le_of_ble_eq_true rfl) rfl dL_law_2004 ?_
  refine lv_iload hx hb dL_law_2007 (lv_at hl 1 rfl) ?_
  refine lv_icmp_eq (tgt := 2014) hx hb dL_law_2009 (by decide) (fun hc => ?_) (fun hc => ?_)
  · have hok := ip hok hc
    refine lv_iload hx hb dL_law_2014 (lv_at hl 1 rfl) ?_
    refine lv_if_ne (tgt := 2031) hx hb dL_law_2016 (by decide) (fun hc => ?_) (fun hc => ?_)
    · have hok := iq hok hc
      refine lv_goto (tgt := 2451) hx hb dL_law_2031 (by decide) ?_
      have hok := Option.some.inj hok
      subst hok
      exact hk _ _ _ _ (by omega) (by omega) hP hD hS _ (lv_sub hl [2, 3, 4, 5, 6] rfl)
    · have hok := ip hok hc
      refine lv_aload_n hx hb dL_law_2019 rfl (lv_at hl 5 rfl) ?_
      refine lv_iconst (v := (0 : Int32)) hx hb dL_law_2020 (by decide) ?_
      refine va_laldK hx hb hK hP 40 2 rfl rfl (j := 0) (by decide) (vp_inK (by decide)) dL_law_2021 ?_
      refine lv_iload hx hb dL_law_2022 (lv_at hl 0 rfl) ?_
      refine lv_i2l (v := v3.1.toInt64) hx hb dL_law_2024 rfl ?_
      refine W.lcmp hx hb dL_law_2025 ?_
      refine lv_if_eq (tgt := 2031) hx hb dL_law_2026 (by decide) (fun hc => ?_) (fun hc => ?_)
      · have hok := ip hok hc
        refine lv_goto (tgt := 2451) hx hb dL_law_2031 (by decide) ?_
        have hok := Option.some.inj hok
        subst hok
        exact hk _ _ _ _ (by omega) (by omega) hP hD hS _ (lv_sub hl [2, 3, 4, 5, 6] rfl)
      · have hok := iq hok hc
        refine lv_iconst (v := (0 : Int32)) hx hb dL_law_2029 (by decide) ?_
        cases hok
  · have hok := iq hok hc
    refine lv_iconst (v := (0 : Int32)) hx hb dL_law_2012 (by decide) ?_
    cases hok
def p_L_C44 (xs : Nat → Int32) (Lc : Nat) (i : Int32) (uL : tX5) (uH : tX1) (uC : tX0) (uT : tX0) (uI : tX2) (uM : tX3) (fO : Nat → Int64) : Option (tX5 × tX1 × tX0 × tX0 × tX2 × tX3 × (Nat → Int64)) :=
  gd (i + (1 : Int32)) Lc (
  bd (p_L_favouriteOf uH uC uT uI uM fO (xs (i + (1 : Int32)).toNatClampNeg)) (fun v2 =>
  bd (p_X5_favouriteOf uL (xs (i + (1 : Int32)).toNatClampNeg)) (fun v3 =>
  bd (p_X5_thrown v3.2) (fun v4 =>
  if v4 = v2.1 then
    if v2.1 = 0 then
      if (lg_cmp (v2.2 0) v3.1.toInt64) = 0 then
        some (v3.2, uH, uC, uT, uI, uM, v2.2)
      else
        none
    else
      some (v3.2, uH, uC, uT, uI, uM, v2.2)
  else
    none))))
set_option maxHeartbeats 4000000 in
set_option maxRecDepth 100000 in
theorem c_L_C44 {p : Program} {e : Env} {s : State} {m : MethodId} {below : List Frame} {meth : Method} {c : Code} (l : Launch) (hlt : l.stackTraces = false) (dC : Nat → ClassId) (dI : Nat → Nat → Nat) (cI cZ cJ : ClassId) (sa : Nat → Nat) (l0 l4 l5 l6 l8 l10 l11 l12 l13 l14 l15 l16 n0 h0 h3 h4 h5 h6 c0 c8 c9 c10 c11 c12 c13 t0 t8 t9 t10 t11 t12 t13 i0 i1 i2 i3 i4 m0 m1 m2 o0 : Nat) {b Lc : Nat} {xs : Nat → Int32} (S : CallFix p m c cL_law 9 s #[Value.ref b] lw_all RL) (hK : va_K (dC, dI) vwCl (TYJ cI cZ cJ) s) (hX : xb (fun q : Nat => s.heap.size ≤ q) sa s) (hxn : xn s) (hXs : va_X b Lc xs s s.heap) (hbl : b < s.heap.size) (i : Int32) (uL : tX5) (uH : tX1) (uC : tX0) (uT : tX0) (uI : tX2) (uM : tX3) (fO : Nat → Int64) {z : (tX5 × tX1 × tX0 × tX0 × tX2 × tX3 × (Nat → Int64))} (hok : p_L_C44 xs Lc i uL uH uC uT uI uM fO = some z) {Q : State → Prop} {kc sc : Nat} (hkc : kc + 565 ≤ 601024) (hsc : sc + 3393 ≤ 7293034) (H : Heap) (locs : List Loc) (hP : va_P (dC, dI) vwCl (wX5 cI cZ l0 l4 l5 l6 l8 l10 l11 l12 l13 l14 l15 l16 uL ++ (wN cI cZ n0 h0 h3 h4 h5 h6 c0 c8 c9 c10 c11 c12 c13 t0 t8 t9 t10 t11 t12 t13 i0 i1 i2 i3 i4 m0 m1 m2 uH uC uT uI uM ++ [(o0, .inl (cJ, 1, .inr (.inl fO)))])) H) (hD : va_D (fun q : Nat => s.heap.size ≤ q) (wX5 cI cZ l0 l4 l5 l6 l8 l10 l11 l12 l13 l14 l15 l16 uL ++ (wN cI cZ n0 h0 h3 h4 h5 h6 c0 c8 c9 c10 c11 c12 c13 t0 t8 t9 t10 t11 t12 t13 i0 i1 i2 i3 i4 m0 m1 m2 uH uC uT uI uM ++ [(o0, .inl (cJ, 1, .inr (.inl fO)))]))) (hS : va_S (fun q : Nat => s.heap.size ≤ q) s.heap H locs) (ls : Array Slot) (hl : lv_has ls 9 [(0, .ref b), (1, .ref n0), (2, .ref l0), (3, .ref o0), (4, .int i)])
    (hk : ∀ (kc' sc' : Nat) (H : Heap) (locs : List Loc), kc' ≤ kc + 565 → sc' ≤ sc + 3393 → va_P (dC, dI) vwCl (wX5 cI cZ l0 l4 l5 l6 l8 l10 l11 l12 l13 l14 l15 l16 z.1 ++ (wN cI cZ n0 h0 h3 h4 h5 h6 c0 c8 c9 c10 c11 c12 c13 t0 t8 t9 t10 t11 t12 t13 i0 i1 i2 i3 i4 m0 m1 m2 z.2.1 z.2.2.1 z.2.2.2.1 z.2.2.2.2.1 z.2.2.2.2.2.1 ++ [(o0, .inl (cJ, 1, .inr (.inl z.2.2.2.2.2.2)))])) H → va_D (fun q : Nat => s.heap.size ≤ q) (wX5 cI cZ l0 l4 l5 l6 l8 l10 l11 l12 l13 l14 l15 l16 z.1 ++ (wN cI cZ n0 h0 h3 h4 h5 h6 c0 c8 c9 c10 c11 c12 c13 t0 t8 t9 t10 t11 t12 t13 i0 i1 i2 i3 i4 m0 m1 m2 z.2.1 z.2.2.1 z.2.2.2.1 z.2.2.2.2.1 z.2.2.2.2.2.1 ++ [(o0, .inl (cJ, 1, .inr (.inl z.2.2.2.2.2.2)))])) → va_S (fun q : Nat => s.heap.size ≤ q) s.heap H locs → ∀ (ls : Array Slot), lv_has ls 9 [(0, .ref b), (1, .ref n0), (2, .ref l0), (3, .ref o0), (4, .int i)] → W p l e room_1 s m #[Value.ref b] below meth c H locs kc' sc' Q (F0 m 2451 ls [])) : W p l e room_1 s m #[Value.ref b] below meth c H locs kc sc Q (F0 m 2034 ls []) := by
  have hx := S.1
  have hb := S.2.1
  have hml := S.2.2.1
  have hown : s.vm.findClass RL = some m.cls := S.2.2.2.1
  have hts := S.2.2.2.2
  have hA : ∀ q : Nat, s.heap.size ≤ q → (fun q : Nat => s.heap.size ≤ q) q := fun _ h => h
  have hbA : ¬ (fun q : Nat => s.heap.size ≤ q) b := Nat.not_le.mpr hbl
  have hK2 : va_K (dC, dI) vwCl (TYS cI cZ) s := hK.sub [0, 1] rfl
  unfold p_L_C44 at hok
  refine lv_aload_n hx hb dL_law_2034 rfl (lv_at hl 1 rfl) ?_
  refine lv_aload_n hx hb dL_law_2035 rfl (lv_at hl 0 rfl) ?_
  refine lv_iload hx hb dL_law_2036 (lv_at hl 4 rfl) ?_
  refine lv_iconst (v := (1 : Int32)) hx hb dL_law_2038 (by decide) ?_
  refine lv_iadd hx hb dL_law_2039 ?_
  obtain ⟨hi1, hok⟩ := gd_some hok
  refine va_sld hx hb hXs hbl hbA hS hi1 dL_law_2040 ?_
  refine lv_aload_n hx hb dL_law_2041 rfl (lv_at hl 3 rfl) ?_
  obtain ⟨v2, hc2, hok⟩ := bd_some hok
  refine cHSi [.ref n0, .int (xs (i + (1 : Int32)).toNatClampNeg), .ref o0] S hK (va_Psuf hP) (va_Dsuf hD) hS hA hX hxn (c_L_favouriteOf l hlt dC dI cI cZ cJ n0 h0 h3 h4 h5 h6 c0 c8 c9 c10 c11 c12 c13 t0 t8 t9 t10 t11 t12 t13 i0 i1 i2 i3 i4 m0 m1 m2 o0 _ sa uH uC uT uI uM fO (xs (i + (1 : Int32)).toNatClampNeg) hc2) (lw_S qm_L_276 qt_L_favouriteOf qn_L qc_L_favouriteOf) hd_L_favouriteOf ⟨rfl, rfl⟩ ⟨Nat.le_of_ble_eq_true rfl, Nat.le_of_ble_eq_true rfl⟩ ⟨by show kc + 1 ≤ 601024; omega, by show sc + 6 ≤ 7293034; omega⟩ rfl hl.1 (Nat.le_of_ble_eq_true rfl) rfl dL_law_2042 (fun H1 hk9 h9 => fr_joinR hP hD K_NO hk9 h9) (D_W hD) (fun H locs hP hD hS => ?_)
  refine lv_istore (lv' := [(5, .int v2.1), (0, .ref b), (1, .ref n0), (2, .ref l0), (3, .ref o0), (4, .int i)]) hx hb dL_law_2045 hl (by decide) rfl (fun ls hl => ?_)
  refine lv_aload_n hx hb dL_law_2047 rfl (lv_at hl 3 rfl) ?_
  refine lv_aload_n hx hb dL_law_2048 rfl (lv_at hl 1 rfl) ?_
  refine lv_iload hx hb dL_law_2049 (lv_at hl 5 rfl) ?_
  refine lv_iconst (v := (1 : Int32)) hx hb dL_law_2051 (by decide) ?_
  refine lv_iadd hx hb dL_law_2052 ?_
  refine va_sld hx hb hXs hbl hbA hS hi1 dL_law_2053 ?_
  obtain ⟨v3, hc3, hok⟩ := bd_some hok
  refine cUVi (ci := 5) (q0 := 0) [.int (xs (i + (1 : Int32)).toNatClampNeg)] S hK2 (va_Pmid (wa := []) hP) (va_Dmid (wa := []) hD) hS hA (c_X5_favouriteOf l dC dI cI cZ l0 l4 l5 l6 l8 l10 l11 l12 l13 l14 l15 l16 _ uL (xs (i + (1 : Int32)).toNatClampNeg) hc3) (lw_V qm_L_278 qi_X5_favouriteOf qs_X5_favouriteOf qn_X5 qc_X5_favouriteOf) hd_X5_favouriteOf ⟨rfl, rfl⟩ ⟨Nat.le_of_ble_eq_true rfl, Nat.le_of_ble_eq_true rfl⟩ ⟨by show (kc + 1) + 0 ≤ 601024; omega, by show (sc + 6) + 0 ≤ 7293034; omega⟩ rfl rfl rfl hl.1 (Nat.le_of_ble_eq_true rfl) rfl dL_law_2054 (fun H1 hk9 h9 => fr_joinM (wa := []) hP hD K_L hk9 h9) (D_W hD) (fun H locs hP hD hS => ?_)
  refine lv_istore (lv' := [(6, .int v3.1), (5, .int v2.1), (0, .ref b), (1, .ref n0), (2, .ref l0), (3, .ref o0), (4, .int i)]) hx hb dL_law_2057 hl (by decide) rfl (fun ls hl => ?_)
  refine lv_aload_n hx hb dL_law_2059 rfl (lv_at hl 4 rfl) ?_
  obtain ⟨v4, hc4, hok⟩ := bd_some hok
  refine cRVi (ci := 5) (q0 := 0) [] S hK2 (va_Pmid (wa := []) hP) (c_X5_thrown l dC dI cI cZ l0 l4 l5 l6 l8 l10 l11 l12 l13 l14 l15 l16 v3.2 hc4) (lw_V qm_L_122 qi_X5_thrown qs_X5_thrown qn_X5 qc_X5_thrown) hd_X5_thrown ⟨rfl, rfl⟩ ⟨Nat.le_of_ble_eq_true rfl, Nat.le_of_ble_eq_true rfl⟩ ⟨by show ((kc + 1) + 0) ≤ 601024; omega, by show ((sc + 6) + 0) ≤ 7293034; omega⟩ rfl rfl rfl hl.1 (Nat.le_of_ble_eq_true rfl) rfl dL_law_2060 ?_
  refine lv_iload hx hb dL_law_2063 (lv_at hl 1 rfl) ?_
  refine lv_icmp_eq (tgt := 2070) hx hb dL_law_2065 (by decide) (fun hc => ?_) (fun hc => ?_)
  · have hok := ip hok hc
    refine lv_iload hx hb dL_law_2070 (lv_at hl 1 rfl) ?_
    refine lv_if_ne (tgt := 2087) hx hb dL_law_2072 (by decide) (fun hc => ?_) (fun hc => ?_)
    · have hok := iq hok hc
      refine lv_goto (tgt := 2451) hx hb dL_law_2087 (by decide) ?_
      have hok := Option.some.inj hok
      subst hok
      exact hk _ _ _ _ (by omega) (by omega) hP hD hS _ (lv_sub hl [2, 3, 4, 5, 6] rfl)
    · have hok := ip hok hc
      refine lv_aload_n hx hb dL_law_2075 rfl (lv_at hl 5 rfl) ?_
      refine lv_iconst (v := (0 : Int32)) hx hb dL_law_2076 (by decide) ?_
      refine va_laldK hx hb hK hP 40 2 rfl rfl (j := 0) (by decide) (vp_inK (by decide)) dL_law_2077 ?_
      refine lv_iload hx hb dL_law_2078 (lv_at hl 0 rfl) ?_
      refine lv_i2l (v := v3.1.toInt64) hx hb dL_law_2080 rfl ?_
      refine W.lcmp hx hb dL_law_2081 ?_
      refine lv_if_eq (tgt := 2087) hx hb dL_law_2082 (by decide) (fun hc => ?_) (fun hc => ?_)
      · have hok := ip hok hc
        refine lv_goto (tgt := 2451) hx hb dL_law_2087 (by decide) ?_
        have hok := Option.some.inj hok
        subst hok
        exact hk _ _ _ _ (by omega) (by omega) hP hD hS _ (lv_sub hl [2, 3, 4, 5, 6] rfl)
      · have hok := iq hok hc
        refine lv_iconst (v := (0 : Int32)) hx hb dL_law_2085 (by decide) ?_
        cases hok
  · have hok := iq hok hc
    refine lv_iconst (v := (0 : Int32)) hx hb dL_law_2068 (by decide) ?_
    cases hok
