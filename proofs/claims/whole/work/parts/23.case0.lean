def p_L_C0 (xs : Nat → Int32) (Lc : Nat) (i : Int32) (uL : tX5) (uH : tX1) (uC : tX0) (uT : tX0) (uI : tX2) (uM : tX3) (fO : Nat → Int64) : Option (tX5 × tX1 × tX0 × tX0 × tX2 × tX3 × (Nat → Int64)) :=
  gd (i + (1 : Int32)) Lc (
  bd (p_L_begin uH uC uT uI uM fO (xs (i + (1 : Int32)).toNatClampNeg)) (fun v2 =>
  bd (p_X5_begin uL (xs (i + (1 : Int32)).toNatClampNeg)) (fun v3 =>
  bd (p_X5_thrown v3.2) (fun v4 =>
  if v4 = v2.1 then
    if v2.1 = 0 then
      if (lg_cmp (v2.2.2.2.2 0) v3.1.toInt64) = 0 then
        some (v3.2, v2.2.1, v2.2.2.1, uT, v2.2.2.2.1, uM, v2.2.2.2.2)
      else
        none
    else
      some (v3.2, v2.2.1, v2.2.2.1, uT, v2.2.2.2.1, uM, v2.2.2.2.2)
  else
    none))))
set_option maxHeartbeats 4000000 in
set_option maxRecDepth 100000 in
theorem c_L_C0 {p : Program} {e : Env} {s : State} {m : MethodId} {below : List Frame} {meth : Method} {c : Code} (l : Launch) (hlt : l.stackTraces = false) (dC : Nat → ClassId) (dI : Nat → Nat → Nat) (cI cZ cJ : ClassId) (sa : Nat → Nat) (l0 l4 l5 l6 l8 l10 l11 l12 l13 l14 l15 l16 n0 h0 h3 h4 h5 h6 c0 c8 c9 c10 c11 c12 c13 t0 t8 t9 t10 t11 t12 t13 i0 i1 i2 i3 i4 m0 m1 m2 o0 : Nat) {b Lc : Nat} {xs : Nat → Int32} (S : CallFix p m c cL_law 9 s #[Value.ref b] lw_all RL) (hK : va_K (dC, dI) vwCl (TYJ cI cZ cJ) s) (hX : xb (fun q : Nat => s.heap.size ≤ q) sa s) (hxn : xn s) (hXs : va_X b Lc xs s s.heap) (hbl : b < s.heap.size) (i : Int32) (uL : tX5) (uH : tX1) (uC : tX0) (uT : tX0) (uI : tX2) (uM : tX3) (fO : Nat → Int64) {z : (tX5 × tX1 × tX0 × tX0 × tX2 × tX3 × (Nat → Int64))} (hok : p_L_C0 xs Lc i uL uH uC uT uI uM fO = some z) {Q : State → Prop} {kc sc : Nat} (hkc : kc + 565 ≤ 601024) (hsc : sc + 3393 ≤ 7293034) (H : Heap) (locs : List Loc) (hP : va_P (dC, dI) vwCl (wX5 cI cZ l0 l4 l5 l6 l8 l10 l11 l12 l13 l14 l15 l16 uL ++ (wN cI cZ n0 h0 h3 h4 h5 h6 c0 c8 c9 c10 c11 c12 c13 t0 t8 t9 t10 t11 t12 t13 i0 i1 i2 i3 i4 m0 m1 m2 uH uC uT uI uM ++ [(o0, .inl (cJ, 1, .inr (.inl fO)))])) H) (hD : va_D (fun q : Nat => s.heap.size ≤ q) (wX5 cI cZ l0 l4 l5 l6 l8 l10 l11 l12 l13 l14 l15 l16 uL ++ (wN cI cZ n0 h0 h3 h4 h5 h6 c0 c8 c9 c10 c11 c12 c13 t0 t8 t9 t10 t11 t12 t13 i0 i1 i2 i3 i4 m0 m1 m2 uH uC uT uI uM ++ [(o0, .inl (cJ, 1, .inr (.inl fO)))]))) (hS : va_S (fun q : Nat => s.heap.size ≤ q) s.heap H locs) (ls : Array Slot) (hl : lv_has ls 9 [(0, .ref b), (1, .ref n0), (2, .ref l0), (3, .ref o0), (4, .int i)])
    (hk : ∀ (kc' sc' : Nat) (H : Heap) (locs : List Loc), kc' ≤ kc + 565 → sc' ≤ sc + 3393 → va_P (dC, dI) vwCl (wX5 cI cZ l0 l4 l5 l6 l8 l10 l11 l12 l13 l14 l15 l16 z.1 ++ (wN cI cZ n0 h0 h3 h4 h5 h6 c0 c8 c9 c10 c11 c12 c13 t0 t8 t9 t10 t11 t12 t13 i0 i1 i2 i3 i4 m0 m1 m2 z.2.1 z.2.2.1 z.2.2.2.1 z.2.2.2.2.1 z.2.2.2.2.2.1 ++ [(o0, .inl (cJ, 1, .inr (.inl z.2.2.2.2.2.2)))])) H → va_D (fun q : Nat => s.heap.size ≤ q) (wX5 cI cZ l0 l4 l5 l6 l8 l10 l11 l12 l13 l14 l15 l16 z.1 ++ (wN cI cZ n0 h0 h3 h4 h5 h6 c0 c8 c9 c10 c11 c12 c13 t0 t8 t9 t10 t11 t12 t13 i0 i1 i2 i3 i4 m0 m1 m2 z.2.1 z.2.2.1 z.2.2.2.1 z.2.2.2.2.1 z.2.2.2.2.2.1 ++ [(o0, .inl (cJ, 1, .inr (.inl z.2.2.2.2.2.2)))])) → va_S (fun q : Nat => s.heap.size ≤ q) s.heap H locs → ∀ (ls : Array Slot), lv_has ls 9 [(0, .ref b), (1, .ref n0), (2, .ref l0), (3, .ref o0), (4, .int i)] → W p l e room_1 s m #[Value.ref b] below meth c H locs kc' sc' Q (F0 m 2451 ls [])) : W p l e room_1 s m #[Value.ref b] below meth c H locs kc sc Q (F0 m 268 ls []) := by
  have hx := S.1
  have hb := S.2.1
  have hml := S.2.2.1
  have hown : s.vm.findClass RL = some m.cls := S.2.2.2.1
  have hts := S.2.2.2.2
  have hA : ∀ q : Nat, s.heap.size ≤ q → (fun q : Nat => s.heap.size ≤ q) q := fun _ h => h
  have hbA : ¬ (fun q : Nat => s.heap.size ≤ q) b := Nat.not_le.mpr hbl
  have hK2 : va_K (dC, dI) vwCl (TYS cI cZ) s := hK.sub [0, 1] rfl
  unfold p_L_C0 at hok
  refine lv_aload_n hx hb dL_law_268 rfl (lv_at hl 1 rfl) ?_
  refine lv_aload_n hx hb dL_law_269 rfl (lv_at hl 0 rfl) ?_
  refine lv_iload hx hb dL_law_270 (lv_at hl 4 rfl) ?_
  refine lv_iconst (v := (1 : Int32)) hx hb dL_law_272 (by decide) ?_
  refine lv_iadd hx hb dL_law_273 ?_
  obtain ⟨hi1, hok⟩ := gd_some hok
  refine va_sld hx hb hXs hbl hbA hS hi1 dL_law_274 ?_
  refine lv_aload_n hx hb dL_law_275 rfl (lv_at hl 3 rfl) ?_
  obtain ⟨v2, hc2, hok⟩ := bd_some hok
  refine cHSi [.ref n0, .int (xs (i + (1 : Int32)).toNatClampNeg), .ref o0] S hK (va_Psuf hP) (va_Dsuf hD) hS hA hX hxn (c_L_begin l hlt dC dI cI cZ cJ n0 h0 h3 h4 h5 h6 c0 c8 c9 c10 c11 c12 c13 t0 t8 t9 t10 t11 t12 t13 i0 i1 i2 i3 i4 m0 m1 m2 o0 _ sa uH uC uT uI uM fO (xs (i + (1 : Int32)).toNatClampNeg) hc2) (lw_S qm_L_116 qt_L_begin qn_L qc_L_begin) hd_L_begin ⟨rfl, rfl⟩ ⟨Nat.le_of_ble_eq_true rfl, Nat.le_of_ble_eq_true rfl⟩ ⟨by show kc + 1 ≤ 601024; omega, by show sc + 6 ≤ 7293034; omega⟩ rfl hl.1 (Nat.le_of_ble_eq_true rfl) rfl dL_law_276 (fun H1 hk9 h9 => fr_joinR hP hD K_NO hk9 h9) (D_W hD) (fun H locs hP hD hS => ?_)
  refine lv_istore (lv' := [(5, .int v2.1), (0, .ref b), (1, .ref n0), (2, .ref l0), (3, .ref o0), (4, .int i)]) hx hb dL_law_279 hl (by decide) rfl (fun ls hl => ?_)
  refine lv_aload_n hx hb dL_law_281 rfl (lv_at hl 3 rfl) ?_
  refine lv_aload_n hx hb dL_law_282 rfl (lv_at hl 1 rfl) ?_
  refine lv_iload hx hb dL_law_283 (lv_at hl 5 rfl) ?_
  refine lv_iconst (v := (1 : Int32)) hx hb dL_law_285 (by decide) ?_
  refine lv_iadd hx hb dL_law_286 ?_
  refine va_sld hx hb hXs hbl hbA hS hi1 dL_law_287 ?_
  obtain ⟨v3, hc3, hok⟩ := bd_some hok
  refine cUVi (ci := 5) (q0 := 0) [.int (xs (i + (1 : Int32)).toNatClampNeg)] S hK2 (va_Pmid (wa := []) hP) (va_Dmid (wa := []) hD) hS hA (c_X5_begin l dC dI cI cZ l0 l4 l5 l6 l8 l10 l11 l12 l13 l14 l15 l16 _ uL (xs (i + (1 : Int32)).toNatClampNeg) hc3) (lw_V qm_L_121 qi_X5_begin qs_X5_begin qn_X5 qc_X5_begin) hd_X5_begin ⟨rfl, rfl⟩ ⟨Nat.le_of_ble_eq_true rfl, Nat.le_of_ble_eq_true rfl⟩ ⟨by show (kc + 1) + 0 ≤ 601024; omega, by show (sc + 6) + 0 ≤ 7293034; omega⟩ rfl rfl rfl hl.1 (Nat.le_of_ble_eq_true rfl) rfl dL_law_288 (fun H1 hk9 h9 => fr_joinM (wa := []) hP hD K_L hk9 h9) (D_W hD) (fun H locs hP hD hS => ?_)
  refine lv_istore (lv' := [(6, .int v3.1), (5, .int v2.1), (0, .ref b), (1, .ref n0), (2, .ref l0), (3, .ref o0), (4, .int i)]) hx hb dL_law_291 hl (by decide) rfl (fun ls hl => ?_)
  refine lv_aload_n hx hb dL_law_293 rfl (lv_at hl 4 rfl) ?_
  obtain ⟨v4, hc4, hok⟩ := bd_some hok
  refine cRVi (ci := 5) (q0 := 0) [] S hK2 (va_Pmid (wa := []) hP) (c_X5_thrown l dC dI cI cZ l0 l4 l5 l6 l8 l10 l11 l12 l13 l14 l15 l16 v3.2 hc4) (lw_V qm_L_122 qi_X5_thrown qs_X5_thrown qn_X5 qc_X5_thrown) hd_X5_thrown ⟨rfl, rfl⟩ ⟨Nat.le_of_ble_eq_true rfl, Nat.le_of_ble_eq_true rfl⟩ ⟨by show ((kc + 1) + 0) ≤ 601024; omega, by show ((sc + 6) + 0) ≤ 7293034; omega⟩ rfl rfl rfl hl.1 (Nat.le_of_ble_eq_true rfl) rfl dL_law_294 ?_
  refine lv_iload hx hb dL_law_297 (lv_at hl 1 rfl) ?_
  refine lv_icmp_eq (tgt := 304) hx hb dL_law_299 (by decide) (fun hc => ?_) (fun hc => ?_)
  · have hok := ip hok hc
    refine lv_iload hx hb dL_law_304 (lv_at hl 1 rfl) ?_
    refine lv_if_ne (tgt := 321) hx hb dL_law_306 (by decide) (fun hc => ?_) (fun hc => ?_)
    · have hok := iq hok hc
      refine lv_goto (tgt := 2451) hx hb dL_law_321 (by decide) ?_
      have hok := Option.some.inj hok
      subst hok
      exact hk _ _ _ _ (by omega) (by omega) hP hD hS _ (lv_sub hl [2, 3, 4, 5, 6] rfl)
    · have hok := ip hok hc
      refine lv_aload_n hx hb dL_law_309 rfl (lv_at hl 5 rfl) ?_
      refine lv_iconst (v := (0 : Int32)) hx hb dL_law_310 (by decide) ?_
      refine va_laldK hx hb hK hP 40 2 rfl rfl (j := 0) (by decide) (vp_inK (by decide)) dL_law_311 ?_
      refine lv_iload hx hb dL_law_312 (lv_at hl 0 rfl) ?_
      refine lv_i2l (v := v3.1.toInt64) hx hb dL_law_314 rfl ?_
      refine W.lcmp hx hb dL_law_315 ?_
      refine lv_if_eq (tgt := 321) hx hb dL_law_316 (by decide) (fun hc => ?_) (fun hc => ?_)
      · have hok := ip hok hc
        refine lv_goto (tgt := 2451) hx hb dL_law_321 (by decide) ?_
        have hok := Option.some.inj hok
        subst hok
        exact hk _ _ _ _ (by omega) (by omega) hP hD hS _ (lv_sub hl [2, 3, 4, 5, 6] rfl)
      · have hok := iq hok hc
        refine lv_iconst (v := (0 : Int32)) hx hb dL_law_319 (by decide) ?_
        cases hok
  · have hok := iq hok hc
    refine lv_iconst (v := (0 : Int32)) hx hb dL_law_302 (by decide) ?_
    cases hok
def p_L_C1 (xs : Nat → Int32) (Lc : Nat) (i : Int32) (uL : tX5) (uH : tX1) (uC : tX0) (uT : tX0) (uI : tX2) (uM : tX3) (fO : Nat → Int64) : Option (tX5 × tX1 × tX0 × tX0 × tX2 × tX3 × (Nat → Int64)) :=
  gd (i + (1 : Int32)) Lc (
  gd (i + (2 : Int32)) Lc (
  gd (i + (3 : Int32)) Lc (
  bd (p_L_addParagraph uH uC uT uI uM fO (xs (i + (1 : Int32)).toNatClampNeg) (xs (i + (2 : Int32)).toNatClampNeg) (xs (i + (3 : Int32)).toNatClampNeg)) (fun v4 =>
  bd (p_X5_addParagraph uL (xs (i + (1 : Int32)).toNatClampNeg) (xs (i + (2 : Int32)).toNatClampNeg) (xs (i + (3 : Int32)).toNatClampNeg)) (fun v5 =>
  bd (p_X5_thrown v5.2) (fun v6 =>
  if v6 = v4.1 then
    if v4.1 = 0 then
      if (lg_cmp (v4.2.2 0) v5.1.toInt64) = 0 then
        some (v5.2, v4.2.1, uC, uT, uI, uM, v4.2.2)
      else
        none
    else
      some (v5.2, v4.2.1, uC, uT, uI, uM, v4.2.2)
  else
    none))))))
set_option maxHeartbeats 4000000 in
set_option maxRecDepth 100000 in
theorem c_L_C1 {p : Program} {e : Env} {s : State} {m : MethodId} {below : List Frame} {meth : Method} {c : Code} (l : Launch) (hlt : l.stackTraces = false) (dC : Nat → ClassId) (dI : Nat → Nat → Nat) (cI cZ cJ : ClassId) (sa : Nat → Nat) (l0 l4 l5 l6 l8 l10 l11 l12 l13 l14 l15 l16 n0 h0 h3 h4 h5 h6 c0 c8 c9 c10 c11 c12 c13 t0 t8 t9 t10 t11 t12 t13 i0 i1 i2 i3 i4 m0 m1 m2 o0 : Nat) {b Lc : Nat} {xs : Nat → Int32} (S : CallFix p m c cL_law 9 s #[Value.ref b] lw_all RL) (hK : va_K (dC, dI) vwCl (TYJ cI cZ cJ) s) (hX : xb (fun q : Nat => s.heap.size ≤ q) sa s) (hxn : xn s) (hXs : va_X b Lc xs s s.heap) (hbl : b < s.heap.size) (i : Int32) (uL : tX5) (uH : tX1) (uC : tX0) (uT : tX0) (uI : tX2) (uM : tX3) (fO : Nat → Int64) {z : (tX5 × tX1 × tX0 × tX0 × tX2 × tX3 × (Nat → Int64))} (hok : p_L_C1 xs Lc i uL uH uC uT uI uM fO = some z) {Q : State → Prop} {kc sc : Nat} (hkc : kc + 565 ≤ 601024) (hsc : sc + 3393 ≤ 7293034) (H : Heap) (locs : List Loc) (hP : va_P (dC, dI) vwCl (wX5 cI cZ l0 l4 l5 l6 l8 l10 l11 l12 l13 l14 l15 l16 uL ++ (wN cI cZ n0 h0 h3 h4 h5 h6 c0 c8 c9 c10 c11 c12 c13 t0 t8 t9 t10 t11 t12 t13 i0 i1 i2 i3 i4 m0 m1 m2 uH uC uT uI uM ++ [(o0, .inl (cJ, 1, .inr (.inl fO)))])) H) (hD : va_D (fun q : Nat => s.heap.size ≤ q) (wX5 cI cZ l0 l4 l5 l6 l8 l10 l11 l12 l13 l14 l15 l16 uL ++ (wN cI cZ n0 h0 h3 h4 h5 h6 c0 c8 c9 c10 c11 c12 c13 t0 t8 t9 t10 t11 t12 t13 i0 i1 i2 i3 i4 m0 m1 m2 uH uC uT uI uM ++ [(o0, .inl (cJ, 1, .inr (.inl fO)))]))) (hS : va_S (fun q : Nat => s.heap.size ≤ q) s.heap H locs) (ls : Array Slot) (hl : lv_has ls 9 [(0, .ref b), (1, .ref n0), (2, .ref l0), (3, .ref o0), (4, .int i)])
    (hk : ∀ (kc' sc' : Nat) (H : Heap) (locs : List Loc), kc' ≤ kc + 565 → sc' ≤ sc + 3393 → va_P (dC, dI) vwCl (wX5 cI cZ l0 l4 l5 l6 l8 l10 l11 l12 l13 l14 l15 l16 z.1 ++ (wN cI cZ n0 h0 h3 h4 h5 h6 c0 c8 c9 c10 c11 c12 c13 t0 t8 t9 t10 t11 t12 t13 i0 i1 i2 i3 i4 m0 m1 m2 z.2.1 z.2.2.1 z.2.2.2.1 z.2.2.2.2.1 z.2.2.2.2.2.1 ++ [(o0, .inl (cJ, 1, .inr (.inl z.2.2.2.2.2.2)))])) H → va_D (fun q : Nat => s.heap.size ≤ q) (wX5 cI cZ l0 l4 l5 l6 l8 l10 l11 l12 l13 l14 l15 l16 z.1 ++ (wN cI cZ n0 h0 h3 h4 h5 h6 c0 c8 c9 c10 c11 c12 c13 t0 t8 t9 t10 t11 t12 t13 i0 i1 i2 i3 i4 m0 m1 m2 z.2.1 z.2.2.1 z.2.2.2.1 z.2.2.2.2.1 z.2.2.2.2.2.1 ++ [(o0, .inl (cJ, 1, .inr (.inl z.2.2.2.2.2.2)))])) → va_S (fun q : Nat => s.heap.size ≤ q) s.heap H locs → ∀ (ls : Array Slot), lv_has ls 9 [(0, .ref b), (1, .ref n0), (2, .ref l0), (3, .ref o0), (4, .int i)] → W p l e room_1 s m #[Value.ref b] below meth c H locs kc' sc' Q (F0 m 2451 ls [])) : W p l e room_1 s m #[Value.ref b] below meth c H locs kc sc Q (F0 m 324 ls []) := by
  have hx := S.1
  have hb := S.2.1
  have hml := S.2.2.1
  have hown : s.vm.findClass RL = some m.cls := S.2.2.2.1
  have hts := S.2.2.2.2
  have hA : ∀ q : Nat, s.heap.size ≤ q → (fun q : Nat => s.heap.size ≤ q) q := fun _ h => h
  have hbA : ¬ (fun q : Nat => s.heap.size ≤ q) b := Nat.not_le.mpr hbl
  have hK2 : va_K (dC, dI) vwCl (TYS cI cZ) s := hK.sub [0, 1] rfl
  unfold p_L_C1 at hok
  refine lv_aload_n hx hb dL_law_324 rfl (lv_at hl 1 rfl) ?_
  refine lv_aload_n hx hb dL_law_325 rfl (lv_at hl 0 rfl) ?_
  refine lv_iload hx hb dL_law_326 (lv_at hl 4 rfl) ?_
  refine lv_iconst (v := (1 : Int32)) hx hb dL_law_328 (by decide) ?_
  refine lv_iadd hx hb dL_law_329 ?_
  obtain ⟨hi1, hok⟩ := gd_some hok
  refine va_sld hx hb hXs hbl hbA hS hi1 dL_law_330 ?_
  refine lv_aload_n hx hb dL_law_331 rfl (lv_at hl 0 rfl) ?_
  refine lv_iload hx hb dL_law_332 (lv_at hl 4 rfl) ?_
  refine lv_iconst (v := (2 : Int32)) hx hb dL_law_334 (by decide) ?_
  refine lv_iadd hx hb dL_law_335 ?_
  obtain ⟨hi2, hok⟩ := gd_some hok
  refine va_sld hx hb hXs hbl hbA hS hi2 dL_law_336 ?_
  refine lv_aload_n hx hb dL_law_337 rfl (lv_at hl 0 rfl) ?_
  refine lv_iload hx hb dL_law_338 (lv_at hl 4 rfl) ?_
  refine lv_iconst (v := (3 : Int32)) hx hb dL_law_340 (by decide) ?_
  refine lv_iadd hx hb dL_law_341 ?_
  obtain ⟨hi3, hok⟩ := gd_some hok
  refine va_sld hx hb hXs hbl hbA hS hi3 dL_law_342 ?_
  refine lv_aload_n hx hb dL_law_343 rfl (lv_at hl 3 rfl) ?_
  obtain ⟨v4, hc4, hok⟩ := bd_some hok
  refine cHSi [.ref n0, .int (xs (i + (1 : Int32)).toNatClampNeg), .int (xs (i + (2 : Int32)).toNatClampNeg), .int (xs (i + (3 : Int32)).toNatClampNeg), .ref o0] S hK (va_Psuf hP) (va_Dsuf hD) hS hA hX hxn (c_L_addParagraph l hlt dC dI cI cZ cJ n0 h0 h3 h4 h5 h6 c0 c8 c9 c10 c11 c12 c13 t0 t8 t9 t10 t11 t12 t13 i0 i1 i2 i3 i4 m0 m1 m2 o0 _ sa uH uC uT uI uM fO (xs (i + (1 : Int32)).toNatClampNeg) (xs (i + (2 : Int32)).toNatClampNeg) (xs (i + (3 : Int32)).toNatClampNeg) hc4) (lw_S qm_L_126 qt_L_addParagraph qn_L qc_L_addParagraph) hd_L_addParagraph ⟨rfl, rfl⟩ ⟨Nat.le_of_ble_eq_true rfl, Nat.le_of_ble_eq_true rfl⟩ ⟨by show kc + 2 ≤ 601024; omega, by show sc + 12 ≤ 7293034; omega⟩ rfl hl.1 (Nat.le_of_ble_eq_true rfl) rfl dL_law_344 (fun H1 hk9 h9 => fr_joinR hP hD K_NO hk9 h9) (D_W hD) (fun H locs hP hD hS => ?_)
  refine lv_istore (lv' := [(5, .int v4.1), (0, .ref b), (1, .ref n0), (2, .ref l0), (3, .ref o0), (4, .int i)]) hx hb dL_law_347 hl (by decide) rfl (fun ls hl => ?_)
  refine lv_aload_n hx hb dL_law_349 rfl (lv_at hl 3 rfl) ?_
  refine lv_aload_n hx hb dL_law_350 rfl (lv_at hl 1 rfl) ?_
  refine lv_iload hx hb dL_law_351 (lv_at hl 5 rfl) ?_
  refine lv_iconst (v := (1 : Int32)) hx hb dL_law_353 (by decide) ?_
  refine lv_iadd hx hb dL_law_354 ?_
  refine va_sld hx hb hXs hbl hbA hS hi1 dL_law_355 ?_
  refine lv_aload_n hx hb dL_law_356 rfl (lv_at hl 1 rfl) ?_
  refine lv_iload hx hb dL_law_357 (lv_at hl 5 rfl) ?_
  refine lv_iconst (v := (2 : Int32)) hx hb dL_law_359 (by decide) ?_
  refine lv_iadd hx hb dL_law_360 ?_
  refine va_sld hx hb hXs hbl hbA hS hi2 dL_law_361 ?_
  refine lv_aload_n hx hb dL_law_362 rfl (lv_at hl 1 rfl) ?_
  refine lv_iload hx hb dL_law_363 (lv_at hl 5 rfl) ?_
  refine lv_iconst (v := (3 : Int32)) hx hb dL_law_365 (by decide) ?_
  refine lv_iadd hx hb dL_law_366 ?_
  refine va_sld hx hb hXs hbl hbA hS hi3 dL_law_367 ?_
  obtain ⟨v5, hc5, hok⟩ := bd_some hok
  refine cUVi (ci := 5) (q0 := 0) [.int (xs (i + (1 : Int32)).toNatClampNeg), .int (xs (i + (2 : Int32)).toNatClampNeg), .int (xs (i + (3 : Int32)).toNatClampNeg)] S hK2 (va_Pmid (wa := []) hP) (va_Dmid (wa := []) hD) hS hA (c_X5_addParagraph l dC dI cI cZ l0 l4 l5 l6 l8 l10 l11 l12 l13 l14 l15 l16 _ uL (xs (i + (1 : Int32)).toNatClampNeg) (xs (i + (2 : Int32)).toNatClampNeg) (xs (i + (3 : Int32)).toNatClampNeg) hc5) (lw_V qm_L_129 qi_X5_addParagraph qs_X5_addParagraph qn_X5 qc_X5_addParagraph) hd_X5_addParagraph ⟨rfl, rfl⟩ ⟨Nat.le_of_ble_eq_true rfl, Nat.le_of_ble_eq_true rfl⟩ ⟨by show (kc + 2) + 0 ≤ 601024; omega, by show (sc + 12) + 0 ≤ 7293034; omega⟩ rfl rfl rfl hl.1 (Nat.le_of_ble_eq_true rfl) rfl dL_law_368 (fun H1 hk9 h9 => fr_joinM (wa := []) hP hD K_L hk9 h9) (D_W hD) (fun H locs hP hD hS => ?_)
  refine lv_istore (lv' := [(6, .int v5.1), (5, .int v4.1), (0, .ref b), (1, .ref n0), (2, .ref l0), (3, .ref o0), (4, .int i)]) hx hb dL_law_371 hl (by decide) rfl (fun ls hl => ?_)
  refine lv_aload_n hx hb dL_law_373 rfl (lv_at hl 4 rfl) ?_
  obtain ⟨v6, hc6, hok⟩ := bd_some hok
  refine cRVi (ci := 5) (q0 := 0) [] S hK2 (va_Pmid (wa := []) hP) (c_X5_thrown l dC dI cI cZ l0 l4 l5 l6 l8 l10 l11 l12 l13 l14 l15 l16 v5.2 hc6) (lw_V qm_L_122 qi_X5_thrown qs_X5_thrown qn_X5 qc_X5_thrown) hd_X5_thrown ⟨rfl, rfl⟩ ⟨Nat.le_of_ble_eq_true rfl, Nat.le_of_ble_eq_true rfl⟩ ⟨by show ((kc + 2) + 0) ≤ 601024; omega, by show ((sc + 12) + 0) ≤ 7293034; omega⟩ rfl rfl rfl hl.1 (Nat.le_of_ble_eq_true rfl) rfl dL_law_374 ?_
  refine lv_iload hx hb dL_law_377 (lv_at hl 1 rfl) ?_
  refine lv_icmp_eq (tgt := 384) hx hb dL_law_379 (by decide) (fun hc => ?_) (fun hc => ?_)
  · have hok := ip hok hc
    refine lv_iload hx hb dL_law_384 (lv_at hl 1 rfl) ?_
    refine lv_if_ne (tgt := 401) hx hb dL_law_386 (by decide) (fun hc => ?_) (fun hc => ?_)
    · have hok := iq hok hc
      refine lv_goto (tgt := 2451) hx hb dL_law_401 (by decide) ?_
      have hok := Option.some.inj hok
      subst hok
      exact hk _ _ _ _ (by omega) (by omega) hP hD hS _ (lv_sub hl [2, 3, 4, 5, 6] rfl)
    · have hok := ip hok hc
      refine lv_aload_n hx hb dL_law_389 rfl (lv_at hl 5 rfl) ?_
      refine lv_iconst (v := (0 : Int32)) hx hb dL_law_390 (by decide) ?_
      refine va_laldK hx hb hK hP 40 2 rfl rfl (j := 0) (by decide) (vp_inK (by decide)) dL_law_391 ?_
      refine lv_iload hx hb dL_law_392 (lv_at hl 0 rfl) ?_
      refine lv_i2l (v := v5.1.toInt64) hx hb dL_law_394 rfl ?_
      refine W.lcmp hx hb dL_law_395 ?_
      refine lv_if_eq (tgt := 401) hx hb dL_law_396 (by decide) (fun hc => ?_) (fun hc => ?_)
      · have hok := ip hok hc
        refine lv_goto (tgt := 2451) hx hb dL_law_401 (by decide) ?_
        have hok := Option.some.inj hok
        subst hok
        exact hk _ _ _ _ (by omega) (by omega) hP hD hS _ (lv_sub hl [2, 3, 4, 5, 6] rfl)
      · have hok := iq hok hc
        refine lv_iconst (v := (0 : Int32)) hx hb dL_law_399 (by decide) ?_
        cases hok
  · have hok := iq hok hc
    refine lv_iconst (v := (0 : Int32)) hx hb dL_law_382 (by decide) ?_
    cases hok
def p_L_C2 (xs : Nat → Int32) (Lc : Nat) (i : Int32) (uL : tX5) (uH : tX1) (uC : tX0) (uT : tX0) (uI : tX2) (uM : tX3) (fO : Nat → Int64) : Option (tX5 × tX1 × tX0 × tX0 × tX2 × tX3 × (Nat → Int64)) :=
  gd (i + (1 : Int32)) Lc (
  bd (p_L_turnTopic uH uC uT uI uM fO (xs (i + (1 : Int32)).toNatClampNeg)) (fun v2 =>
  bd (p_X5_turnTopic uL (xs (i + (1 : Int32)).toNatClampNeg)) (fun v3 =>
  bd (p_X5_thrown v3.2) (fun v4 =>
  if v4 = v2.1 then
    if v2.1 = 0 then
      if v3.1 = 0 then
        if (lg_cmp (v2.2.2 0) (0 : Int64)) = 0 then
          some (v3.2, uH, v2.2.1, uT, uI, uM, v2.2.2)
        else
          none
      else
        if (lg_cmp (v2.2.2 0) (1 : Int64)) = 0 then
          some (v3.2, uH, v2.2.1, uT, uI, uM, v2.2.2)
        else
          none
    else
      some (v3.2, uH, v2.2.1, uT, uI, uM, v2.2.2)
  else
    none))))
set_option maxHeartbeats 4000000 in
set_option maxRecDepth 100000 in
theorem c_L_C2 {p : Program} {e : Env} {s : State} {m : MethodId} {below : List Frame} {meth : Method} {c : Code} (l : Launch) (hlt : l.stackTraces = false) (dC : Nat → ClassId) (dI : Nat → Nat → Nat) (cI cZ cJ : ClassId) (sa : Nat → Nat) (l0 l4 l5 l6 l8 l10 l11 l12 l13 l14 l15 l16 n0 h0 h3 h4 h5 h6 c0 c8 c9 c10 c11 c12 c13 t0 t8 t9 t10 t11 t12 t13 i0 i1 i2 i3 i4 m0 m1 m2 o0 : Nat) {b Lc : Nat} {xs : Nat → Int32} (S : CallFix p m c cL_law 9 s #[Value.ref b] lw_all RL) (hK : va_K (dC, dI) vwCl (TYJ cI cZ cJ) s) (hX : xb (fun q : Nat => s.heap.size ≤ q) sa s) (hxn : xn s) (hXs : va_X b Lc xs s s.heap) (hbl : b < s.heap.size) (i : Int32) (uL : tX5) (uH : tX1) (uC : tX0) (uT : tX0) (uI : tX2) (uM : tX3) (fO : Nat → Int64) {z : (tX5 × tX1 × tX0 × tX0 × tX2 × tX3 × (Nat → Int64))} (hok : p_L_C2 xs Lc i uL uH uC uT uI uM fO = some z) {Q : State → Prop} {kc sc : Nat} (hkc : kc + 565 ≤ 601024) (hsc : sc + 3393 ≤ 7293034) (H : Heap) (locs : List Loc) (hP : va_P (dC, dI) vwCl (wX5 cI cZ l0 l4 l5 l6 l8 l10 l11 l12 l13 l14 l15 l16 uL ++ (wN cI cZ n0 h0 h3 h4 h5 h6 c0 c8 c9 c10 c11 c12 c13 t0 t8 t9 t10 t11 t12 t13 i0 i1 i2 i3 i4 m0 m1 m2 uH uC uT uI uM ++ [(o0, .inl (cJ, 1, .inr (.inl fO)))])) H) (hD : va_D (fun q : Nat => s.heap.size ≤ q) (wX5 cI cZ l0 l4 l5 l6 l8 l10 l11 l12 l13 l14 l15 l16 uL ++ (wN cI cZ n0 h0 h3 h4 h5 h6 c0 c8 c9 c10 c11 c12 c13 t0 t8 t9 t10 t11 t12 t13 i0 i1 i2 i3 i4 m0 m1 m2 uH uC uT uI uM ++ [(o0, .inl (cJ, 1, .inr (.inl fO)))]))) (hS : va_S (fun q : Nat => s.heap.size ≤ q) s.heap H locs) (ls : Array Slot) (hl : lv_has ls 9 [(0, .ref b), (1, .ref n0), (2, .ref l0), (3, .ref o0), (4, .int i)])
    (hk : ∀ (kc' sc' : Nat) (H : Heap) (locs : List Loc), kc' ≤ kc + 565 → sc' ≤ sc + 3393 → va_P (dC, dI) vwCl (wX5 cI cZ l0 l4 l5 l6 l8 l10 l11 l12 l13 l14 l15 l16 z.1 ++ (wN cI cZ n0 h0 h3 h4 h5 h6 c0 c8 c9 c10 c11 c12 c13 t0 t8 t9 t10 t11 t12 t13 i0 i1 i2 i3 i4 m0 m1 m2 z.2.1 z.2.2.1 z.2.2.2.1 z.2.2.2.2.1 z.2.2.2.2.2.1 ++ [(o0, .inl (cJ, 1, .inr (.inl z.2.2.2.2.2.2)))])) H → va_D (fun q : Nat => s.heap.size ≤ q) (wX5 cI cZ l0 l4 l5 l6 l8 l10 l11 l12 l13 l14 l15 l16 z.1 ++ (wN cI cZ n0 h0 h3 h4 h5 h6 c0 c8 c9 c10 c11 c12 c13 t0 t8 t9 t10 t11 t12 t13 i0 i1 i2 i3 i4 m0 m1 m2 z.2.1 z.2.2.1 z.2.2.2.1 z.2.2.2.2.1 z.2.2.2.2.2.1 ++ [(o0, .inl (cJ, 1, .inr (.inl z.2.2.2.2.2.2)))])) → va_S (fun q : Nat => s.heap.size ≤ q) s.heap H locs → ∀ (ls : Array Slot), lv_has ls 9 [(0, .ref b), (1, .ref n0), (2, .ref l0), (3, .ref o0), (4, .int i)] → W p l e room_1 s m #[Value.ref b] below meth c H locs kc' sc' Q (F0 m 2451 ls [])) : W p l e room_1 s m #[Value.ref b] below meth c H locs kc sc Q (F0 m 404 ls []) := by
  have hx := S.1
  have hb := S.2.1
  have hml := S.2.2.1
  have hown : s.vm.findClass RL = some m.cls := S.2.2.2.1
  have hts := S.2.2.2.2
  have hA : ∀ q : Nat, s.heap.size ≤ q → (fun q : Nat => s.heap.size ≤ q) q := fun _ h => h
  have hbA : ¬ (fun q : Nat => s.heap.size ≤ q) b := Nat.not_le.mpr hbl
  have hK2 : va_K (dC, dI) vwCl (TYS cI cZ) s := hK.sub [0, 1] rfl
  unfold p_L_C2 at hok
  refine lv_aload_n hx hb dL_law_404 rfl (lv_at hl 1 rfl) ?_
  refine lv_aload_n hx hb dL_law_405 rfl (lv_at hl 0 rfl) ?_
  refine lv_iload hx hb dL_law_406 (lv_at hl 4 rfl) ?_
  refine lv_iconst (v := (1 : Int32)) hx hb dL_law_408 (by decide) ?_
  refine lv_iadd hx hb dL_law_409 ?_
  obtain ⟨hi1, hok⟩ := gd_some hok
  refine va_sld hx hb hXs hbl hbA hS hi1 dL_law_410 ?_
  refine lv_aload_n hx hb dL_law_411 rfl (lv_at hl 3 rfl) ?_
  obtain ⟨v2, hc2, hok⟩ := bd_some hok
  refine cHSi [.ref n0, .int (xs (i + (1 : Int32)).toNatClampNeg), .ref o0] S hK (va_Psuf hP) (va_Dsuf hD) hS hA hX hxn (c_L_turnTopic l hlt dC dI cI cZ cJ n0 h0 h3 h4 h5 h6 c0 c8 c9 c10 c11 c12 c13 t0 t8 t9 t10 t11 t12 t13 i0 i1 i2 i3 i4 m0 m1 m2 o0 _ sa uH uC uT uI uM fO (xs (i + (1 : Int32)).toNatClampNeg) hc2) (lw_S qm_L_130 qt_L_turnTopic qn_L qc_L_turnTopic) hd_L_turnTopic ⟨rfl, rfl⟩ ⟨Nat.le_of_ble_eq_true rfl, Nat.le_of_ble_eq_true rfl⟩ ⟨by show kc + 1 ≤ 601024; omega, by show sc + 6 ≤ 7293034; omega⟩ rfl hl.1 (Nat.le_of_ble_eq_true rfl) rfl dL_law_412 (fun H1 hk9 h9 => fr_joinR hP hD K_NO hk9 h9) (D_W hD) (fun H locs hP hD hS => ?_)
  refine lv_istore (lv' := [(5, .int v2.1), (0, .ref b), (1, .ref n0), (2, .ref l0), (3, .ref o0), (4, .int i)]) hx hb dL_law_415 hl (by decide) rfl (fun ls hl => ?_)
  refine lv_aload_n hx hb dL_law_417 rfl (lv_at hl 3 rfl) ?_
  refine lv_aload_n hx hb dL_law_418 rfl (lv_at hl 1 rfl) ?_
  refine lv_iload hx hb dL_law_419 (lv_at hl 5 rfl) ?_
  refine lv_iconst (v := (1 : Int32)) hx hb dL_law_421 (by decide) ?_
  refine lv_iadd hx hb dL_law_422 ?_
  refine va_sld hx hb hXs hbl hbA hS hi1 dL_law_423 ?_
  obtain ⟨v3, hc3, hok⟩ := bd_some hok
  refine cUVi (ci := 5) (q0 := 0) [.int (xs (i + (1 : Int32)).toNatClampNeg)] S hK2 (va_Pmid (wa := []) hP) (va_Dmid (wa := []) hD) hS hA (c_X5_turnTopic l dC dI cI cZ l0 l4 l5 l6 l8 l10 l11 l12 l13 l14 l15 l16 _ uL (xs (i + (1 : Int32)).toNatClampNeg) hc3) (lw_V qm_L_132 qi_X5_turnTopic qs_X5_turnTopic qn_X5 qc_X5_turnTopic) hd_X5_turnTopic ⟨rfl, rfl⟩ ⟨Nat.le_of_ble_eq_true rfl, Nat.le_of_ble_eq_true rfl⟩ ⟨by show (kc + 1) + 0 ≤ 601024; omega, by show (sc + 6) + 0 ≤ 7293034; omega⟩ rfl rfl rfl hl.1 (Nat.le_of_ble_eq_true rfl) rfl dL_law_424 (fun H1 hk9 h9 => fr_joinM (wa := []) hP hD K_L hk9 h9) (D_W hD) (fun H locs hP hD hS => ?_)
  refine lv_istore (lv' := [(6, .int v3.1), (5, .int v2.1), (0, .ref b), (1, .ref n0), (2, .ref l0), (3, .ref o0), (4, .int i)]) hx hb dL_law_427 hl (by decide) rfl (fun ls hl => ?_)
  refine lv_aload_n hx hb dL_law_429 rfl (lv_at hl 4 rfl) ?_
  obtain ⟨v4, hc4, hok⟩ := bd_some hok
  refine cRVi (ci := 5) (q0 := 0) [] S hK2 (va_Pmid (wa := []) hP) (c_X5_thrown l dC dI cI cZ l0 l4 l5 l6 l8 l10 l11 l12 l13 l14 l15 l16 v3.2 hc4) (lw_V qm_L_122 qi_X5_thrown qs_X5_thrown qn_X5 qc_X5_thrown) hd_X5_thrown ⟨rfl, rfl⟩ ⟨Nat.le_of_ble_eq_true rfl, Nat.le_of_ble_eq_true rfl⟩ ⟨by show ((kc + 1) + 0) ≤ 601024; omega, by show ((sc + 6) + 0) ≤ 7293034; omega⟩ rfl rfl rfl hl.1 (Nat.le_of_ble_eq_true rfl) rfl dL_law_430 ?_
  refine lv_iload hx hb dL_law_433 (lv_at hl 1 rfl) ?_
  refine lv_icmp_eq (tgt := 440) hx hb dL_law_435 (by decide) (fun hc => ?_) (fun hc => ?_)
  · have hok := ip hok hc
    refine lv_iload hx hb dL_law_440 (lv_at hl 1 rfl) ?_
    refine lv_if_ne (tgt := 464) hx hb dL_law_442 (by decide) (fun hc => ?_) (fun hc => ?_)
    · have hok := iq hok hc
      refine lv_goto (tgt := 2451) hx hb dL_law_464 (by decide) ?_
      have hok := Option.some.inj hok
      subst hok
      exact hk _ _ _ _ (by omega) (by omega) hP hD hS _ (lv_sub hl [2, 3, 4, 5, 6] rfl)
    · have hok := ip hok hc
      refine lv_aload_n hx hb dL_law_445 rfl (lv_at hl 5 rfl) ?_
      refine lv_iconst (v := (0 : Int32)) hx hb dL_law_446 (by decide) ?_
      refine va_laldK hx hb hK hP 40 2 rfl rfl (j := 0) (by decide) (vp_inK (by decide)) dL_law_447 ?_
      refine lv_iload hx hb dL_law_448 (lv_at hl 0 rfl) ?_
      refine lv_if_eq (tgt := 457) hx hb dL_law_450 (by decide) (fun hc => ?_) (fun hc => ?_)
      · have hok := ip hok hc
        refine lv_lconst (v := (0 : Int64)) hx hb dL_law_457 (by decide) ?_
        refine W.lcmp hx hb dL_law_458 ?_
        refine lv_if_eq (tgt := 464) hx hb dL_law_459 (by decide) (fun hc => ?_) (fun hc => ?_)
        · have hok := ip hok hc
          refine lv_goto (tgt := 2451) hx hb dL_law_464 (by decide) ?_
          have hok := Option.some.inj hok
          subst hok
          exact hk _ _ _ _ (by omega) (by omega) hP hD hS _ (lv_sub hl [2, 3, 4, 5, 6] rfl)
        · have hok := iq hok hc
          refine lv_iconst (v := (0 : Int32)) hx hb dL_law_462 (by decide) ?_
          cases hok
      · have hok := iq hok hc
        refine lv_lconst (v := (1 : Int64)) hx hb dL_law_453 (by decide) ?_
        refine lv_goto (tgt := 458) hx hb dL_law_454 (by decide) ?_
        refine W.lcmp hx hb dL_law_458 ?_
        refine lv_if_eq (tgt := 464) hx hb dL_law_459 (by decide) (fun hc => ?_) (fun hc => ?_)
        · have hok := ip hok hc
          refine lv_goto (tgt := 2451) hx hb dL_law_464 (by decide) ?_
          have hok := Option.some.inj hok
          subst hok
          exact hk _ _ _ _ (by omega) (by omega) hP hD hS _ (lv_sub hl [2, 3, 4, 5, 6] rfl)
        · have hok := iq hok hc
          refine lv_iconst (v := (0 : Int32)) hx hb dL_law_462 (by decide) ?_
          cases hok
  · have hok := iq hok hc
    refine lv_iconst (v := (0 : Int32)) hx hb dL_law_438 (by decide) ?_
    cases hok
def p_L_C3 (xs : Nat → Int32) (Lc : Nat) (i : Int32) (uL : tX5) (uH : tX1) (uC : tX0) (uT : tX0) (uI : tX2) (uM : tX3) (fO : Nat → Int64) : Option (tX5 × tX1 × tX0 × tX0 × tX2 × tX3 × (Nat → Int64)) :=
  gd (i + (1 : Int32)) Lc (
  bd (p_L_setLimit uH uC uT uI uM fO (xs (i + (1 : Int32)).toNatClampNeg)) (fun v2 =>
  bd (p_X5_setLimit uL (xs (i + (1 : Int32)).toNatClampNeg)) (fun v3 =>
  bd (p_X5_thrown v3.2) (fun v4 =>
  if v4 = v2.1 then
    if v2.1 = 0 then
      if (lg_cmp (v2.2.2 0) v3.1.toInt64) = 0 then
        some (v3.2, v2.2.1, uC, uT, uI, uM, v2.2.2)
      else
        none
    else
      some (v3.2, v2.2.1, uC, uT, uI, uM, v2.2.2)
  else
    none))))
set_option maxHeartbeats 4000000 in
set_option maxRecDepth 100000 in
theorem c_L_C3 {p : Program} {e : Env} {s : State} {m : MethodId} {below : List Frame} {meth : Method} {c : Code} (l : Launch) (hlt : l.stackTraces = false) (dC : Nat → ClassId) (dI : Nat → Nat → Nat) (cI cZ cJ : ClassId) (sa : Nat → Nat) (l0 l4 l5 l6 l8 l10 l11 l12 l13 l14 l15 l16 n0 h0 h3 h4 h5 h6 c0 c8 c9 c10 c11 c12 c13 t0 t8 t9 t10 t11 t12 t13 i0 i1 i2 i3 i4 m0 m1 m2 o0 : Nat) {b Lc : Nat} {xs : Nat → Int32} (S : CallFix p m c cL_law 9 s #[Value.ref b] lw_all RL) (hK : va_K (dC, dI) vwCl (TYJ cI cZ cJ) s) (hX : xb (fun q : Nat => s.heap.size ≤ q) sa s) (hxn : xn s) (hXs : va_X b Lc xs s s.heap) (hbl : b < s.heap.size) (i : Int32) (uL : tX5) (uH : tX1) (uC : tX0) (uT : tX0) (uI : tX2) (uM : tX3) (fO : Nat → Int64) {z : (tX5 × tX1 × tX0 × tX0 × tX2 × tX3 × (Nat → Int64))} (hok : p_L_C3 xs Lc i uL uH uC uT uI uM fO = some z) {Q : State → Prop} {kc sc : Nat} (hkc : kc + 565 ≤ 601024) (hsc : sc + 3393 ≤ 7293034) (H : Heap) (locs : List Loc) (hP : va_P (dC, dI) vwCl (wX5 cI cZ l0 l4 l5 l6 l8 l10 l11 l12 l13 l14 l15 l16 uL ++ (wN cI cZ n0 h0 h3 h4 h5 h6 c0 c8 c9 c10 c11 c12 c13 t0 t8 t9 t10 t11 t12 t13 i0 i1 i2 i3 i4 m0 m1 m2 uH uC uT uI uM ++ [(o0, .inl (cJ, 1, .inr (.inl fO)))])) H) (hD : va_D (fun q : Nat => s.heap.size ≤ q) (wX5 cI cZ l0 l4 l5 l6 l8 l10 l11 l12 l13 l14 l15 l16 uL ++ (wN cI cZ n0 h0 h3 h4 h5 h6 c0 c8 c9 c10 c11 c12 c13 t0 t8 t9 t10 t11 t12 t13 i0 i1 i2 i3 i4 m0 m1 m2 uH uC uT uI uM ++ [(o0, .inl (cJ, 1, .inr (.inl fO)))]))) (hS : va_S (fun q : Nat => s.heap.size ≤ q) s.heap H locs) (ls : Array Slot) (hl : lv_has ls 9 [(0, .ref b), (1, .ref n0), (2, .ref l0), (3, .ref o0), (4, .int i)])
    (hk : ∀ (kc' sc' : Nat) (H : Heap) (locs : List Loc), kc' ≤ kc + 565 → sc' ≤ sc + 3393 → va_P (dC, dI) vwCl (wX5 cI cZ l0 l4 l5 l6 l8 l10 l11 l12 l13 l14 l15 l16 z.1 ++ (wN cI cZ n0 h0 h3 h4 h5 h6 c0 c8 c9 c10 c11 c12 c13 t0 t8 t9 t10 t11 t12 t13 i0 i1 i2 i3 i4 m0 m1 m2 z.2.1 z.2.2.1 z.2.2.2.1 z.2.2.2.2.1 z.2.2.2.2.2.1 ++ [(o0, .inl (cJ, 1, .inr (.inl z.2.2.2.2.2.2)))])) H → va_D (fun q : Nat => s.heap.size ≤ q) (wX5 cI cZ l0 l4 l5 l6 l8 l10 l11 l12 l13 l14 l15 l16 z.1 ++ (wN cI cZ n0 h0 h3 h4 h5 h6 c0 c8 c9 c10 c11 c12 c13 t0 t8 t9 t10 t11 t12 t13 i0 i1 i2 i3 i4 m0 m1 m2 z.2.1 z.2.2.1 z.2.2.2.1 z.2.2.2.2.1 z.2.2.2.2.2.1 ++ [(o0, .inl (cJ, 1, .inr (.inl z.2.2.2.2.2.2)))])) → va_S (fun q : Nat => s.heap.size ≤ q) s.heap H locs → ∀ (ls : Array Slot), lv_has ls 9 [(0, .ref b), (1, .ref n0), (2, .ref l0), (3, .ref o0), (4, .int i)] → W p l e room_1 s m #[Value.ref b] below meth c H locs kc' sc' Q (F0 m 2451 ls [])) : W p l e room_1 s m #[Value.ref b] below meth c H locs kc sc Q (F0 m 467 ls []) := by
  have hx := S.1
  have hb := S.2.1
  have hml := S.2.2.1
  have hown : s.vm.findClass RL = some m.cls := S.2.2.2.1
  have hts := S.2.2.2.2
  have hA : ∀ q : Nat, s.heap.size ≤ q → (fun q : Nat => s.heap.size ≤ q) q := fun _ h => h
  have hbA : ¬ (fun q : Nat => s.heap.size ≤ q) b := Nat.not_le.mpr hbl
  have hK2 : va_K (dC, dI) vwCl (TYS cI cZ) s := hK.sub [0, 1] rfl
  unfold p_L_C3 at hok
  refine lv_aload_n hx hb dL_law_467 rfl (lv_at hl 1 rfl) ?_
  refine lv_aload_n hx hb dL_law_468 rfl (lv_at hl 0 rfl) ?_
  refine lv_iload hx hb dL_law_469 (lv_at hl 4 rfl) ?_
  refine lv_iconst (v := (1 : Int32)) hx hb dL_law_471 (by decide) ?_
  refine lv_iadd hx hb dL_law_472 ?_
  obtain ⟨hi1, hok⟩ := gd_some hok
  refine va_sld hx hb hXs hbl hbA hS hi1 dL_law_473 ?_
  refine lv_aload_n hx hb dL_law_474 rfl (lv_at hl 3 rfl) ?_
  obtain ⟨v2, hc2, hok⟩ := bd_some hok
  refine cHSi [.ref n0, .int (xs (i + (1 : Int32)).toNatClampNeg), .ref o0] S hK (va_Psuf hP) (va_Dsuf hD) hS hA hX hxn (c_L_setLimit l hlt dC dI cI cZ cJ n0 h0 h3 h4 h5 h6 c0 c8 c9 c10 c11 c12 c13 t0 t8 t9 t10 t11 t12 t13 i0 i1 i2 i3 i4 m0 m1 m2 o0 _ sa uH uC uT uI uM fO (xs (i + (1 : Int32)).toNatClampNeg) hc2) (lw_S qm_L_133 qt_L_setLimit qn_L qc_L_setLimit) hd_L_setLimit ⟨rfl, rfl⟩ ⟨Nat.le_of_ble_eq_true rfl, Nat.le_of_ble_eq_true rfl⟩ ⟨by show kc + 1 ≤ 601024; omega, by show sc + 6 ≤ 7293034; omega⟩ rfl hl.1 (Nat.le_of_ble_eq_true rfl) rfl dL_law_475 (fun H1 hk9 h9 => fr_joinR hP hD K_NO hk9 h9) (D_W hD) (fun H locs hP hD hS => ?_)
  refine lv_istore (lv' := [(5, .int v2.1), (0, .ref b), (1, .ref n0), (2, .ref l0), (3, .ref o0), (4, .int i)]) hx hb dL_law_478 hl (by decide) rfl (fun ls hl => ?_)
  refine lv_aload_n hx hb dL_law_480 rfl (lv_at hl 3 rfl) ?_
  refine lv_aload_n hx hb dL_law_481 rfl (lv_at hl 1 rfl) ?_
  refine lv_iload hx hb dL_law_482 (lv_at hl 5 rfl) ?_
  refine lv_iconst (v := (1 : Int32)) hx hb dL_law_484 (by decide) ?_
  refine lv_iadd hx hb dL_law_485 ?_
  refine va_sld hx hb hXs hbl hbA hS hi1 dL_law_486 ?_
  obtain ⟨v3, hc3, hok⟩ := bd_some hok
  refine cUVi (ci := 5) (q0 := 0) [.int (xs (i + (1 : Int32)).toNatClampNeg)] S hK2 (va_Pmid (wa := []) hP) (va_Dmid (wa := []) hD) hS hA (c_X5_setLimit l dC dI cI cZ l0 l4 l5 l6 l8 l10 l11 l12 l13 l14 l15 l16 _ uL (xs (i + (1 : Int32)).toNatClampNeg) hc3) (lw_V qm_L_135 qi_X5_setLimit qs_X5_setLimit qn_X5 qc_X5_setLimit) hd_X5_setLimit ⟨rfl, rfl⟩ ⟨Nat.le_of_ble_eq_true rfl, Nat.le_of_ble_eq_true rfl⟩ ⟨by show (kc + 1) + 0 ≤ 601024; omega, by show (sc + 6) + 0 ≤ 7293034; omega⟩ rfl rfl rfl hl.1 (Nat.le_of_ble_eq_true rfl) rfl dL_law_487 (fun H1 hk9 h9 => fr_joinM (wa := []) hP hD K_L hk9 h9) (D_W hD) (fun H locs hP hD hS => ?_)
  refine lv_istore (lv' := [(6, .int v3.1), (5, .int v2.1), (0, .ref b), (1, .ref n0), (2, .ref l0), (3, .ref o0), (4, .int i)]) hx hb dL_law_490 hl (by decide) rfl (fun ls hl => ?_)
  refine lv_aload_n hx hb dL_law_492 rfl (lv_at hl 4 rfl) ?_
  obtain ⟨v4, hc4, hok⟩ := bd_some hok
  refine cRVi (ci := 5) (q0 := 0) [] S hK2 (va_Pmid (wa := []) hP) (c_X5_thrown l dC dI cI cZ l0 l4 l5 l6 l8 l10 l11 l12 l13 l14 l15 l16 v3.2 hc4) (lw_V qm_L_122 qi_X5_thrown qs_X5_thrown qn_X5 qc_X5_thrown) hd_X5_thrown ⟨rfl, rfl⟩ ⟨Nat.le_of_ble_eq_true rfl, Nat.le_of_ble_eq_true rfl⟩ ⟨by show ((kc + 1) + 0) ≤ 601024; omega, by show ((sc + 6) + 0) ≤ 7293034; omega⟩ rfl rfl rfl hl.1 (Nat.le_of_ble_eq_true rfl) rfl dL_law_493 ?_
  refine lv_iload hx hb dL_law_496 (lv_at hl 1 rfl) ?_
  refine lv_icmp_eq (tgt := 503) hx hb dL_law_498 (by decide) (fun hc => ?_) (fun hc => ?_)
  · have hok := ip hok hc
    refine lv_iload hx hb dL_law_503 (lv_at hl 1 rfl) ?_
    refine lv_if_ne (tgt := 520) hx hb dL_law_505 (by decide) (fun hc => ?_) (fun hc => ?_)
    · have hok := iq hok hc
      refine lv_goto (tgt := 2451) hx hb dL_law_520 (by decide) ?_
      have hok := Option.some.inj hok
      subst hok
      exact hk _ _ _ _ (by omega) (by omega) hP hD hS _ (lv_sub hl [2, 3, 4, 5, 6] rfl)
    · have hok := ip hok hc
      refine lv_aload_n hx hb dL_law_508 rfl (lv_at hl 5 rfl) ?_
      refine lv_iconst (v := (0 : Int32)) hx hb dL_law_509 (by decide) ?_
      refine va_laldK hx hb hK hP 40 2 rfl rfl (j := 0) (by decide) (vp_inK (by decide)) dL_law_510 ?_
      refine lv_iload hx hb dL_law_511 (lv_at hl 0 rfl) ?_
      refine lv_i2l (v := v3.1.toInt64) hx hb dL_law_513 rfl ?_
      refine W.lcmp hx hb dL_law_514 ?_
      refine lv_if_eq (tgt := 520) hx hb dL_law_515 (by decide) (fun hc => ?_) (fun hc => ?_)
      · have hok := ip hok hc
        refine lv_goto (tgt := 2451) hx hb dL_law_520 (by decide) ?_
        have hok := Option.some.inj hok
        subst hok
        exact hk _ _ _ _ (by omega) (by omega) hP hD hS _ (lv_sub hl [2, 3, 4, 5, 6] rfl)
      · have hok := iq hok hc
        refine lv_iconst (v := (0 : Int32)) hx hb dL_law_518 (by decide) ?_
        cases hok
  · have hok := iq hok hc
    refine lv_iconst (v := (0 : Int32)) hx hb dL_law_501 (by decide) ?_
    cases hok
def p_L_C4 (xs : Nat → Int32) (Lc : Nat) (i : Int32) (uL : tX5) (uH : tX1) (uC : tX0) (uT : tX0) (uI : tX2) (uM : tX3) (fO : Nat → Int64) : Option (tX5 × tX1 × tX0 × tX0 × tX2 × tX3 × (Nat → Int64)) :=
  gd (i + (1 : Int32)) Lc (
  gd (i + (2 : Int32)) Lc (
  bd (p_L_addReader uH uC uT uI uM fO (xs (i + (1 : Int32)).toNatClampNeg) (xs (i + (2 : Int32)).toNatClampNeg)) (fun v3 =>
  bd (p_X5_addReader uL (xs (i + (1 : Int32)).toNatClampNeg) (xs (i + (2 : Int32)).toNatClampNeg)) (fun v4 =>
  bd (p_X5_thrown v4.2) (fun v5 =>
  if v5 = v3.1 then
    if v3.1 = 0 then
      if (lg_cmp (v3.2.2.2 0) v4.1.toInt64) = 0 then
        some (v4.2, v3.2.1, v3.2.2.1, uT, uI, uM, v3.2.2.2)
      else
        none
    else
      some (v4.2, v3.2.1, v3.2.2.1, uT, uI, uM, v3.2.2.2)
  else
    none)))))
set_option maxHeartbeats 4000000 in
set_option maxRecDepth 100000 in
theorem c_L_C4 {p : Program} {e : Env} {s : State} {m : MethodId} {below : List Frame} {meth : Method} {c : Code} (l : Launch) (hlt : l.stackTraces = false) (dC : Nat → ClassId) (dI : Nat → Nat → Nat) (cI cZ cJ : ClassId) (sa : Nat → Nat) (l0 l4 l5 l6 l8 l10 l11 l12 l13 l14 l15 l16 n0 h0 h3 h4 h5 h6 c0 c8 c9 c10 c11 c12 c13 t0 t8 t9 t10 t11 t12 t13 i0 i1 i2 i3 i4 m0 m1 m2 o0 : Nat) {b Lc : Nat} {xs : Nat → Int32} (S : CallFix p m c cL_law 9 s #[Value.ref b] lw_all RL) (hK : va_K (dC, dI) vwCl (TYJ cI cZ cJ) s) (hX : xb (fun q : Nat => s.heap.size ≤ q) sa s) (hxn : xn s) (hXs : va_X b Lc xs s s.heap) (hbl : b < s.heap.size) (i : Int32) (uL : tX5) (uH : tX1) (uC : tX0) (uT : tX0) (uI : tX2) (uM : tX3) (fO : Nat → Int64) {z : (tX5 × tX1 × tX0 × tX0 × tX2 × tX3 × (Nat → Int64))} (hok : p_L_C4 xs Lc i uL uH uC uT uI uM fO = some z) {Q : State → Prop} {kc sc : Nat} (hkc : kc + 565 ≤ 601024) (hsc : sc + 3393 ≤ 7293034) (H : Heap) (locs : List Loc) (hP : va_P (dC, dI) vwCl (wX5 cI cZ l0 l4 l5 l6 l8 l10 l11 l12 l13 l14 l15 l16 uL ++ (wN cI cZ n0 h0 h3 h4 h5 h6 c0 c8 c9 c10 c11 c12 c13 t0 t8 t9 t10 t11 t12 t13 i0 i1 i2 i3 i4 m0 m1 m2 uH uC uT uI uM ++ [(o0, .inl (cJ, 1, .inr (.inl fO)))])) H) (hD : va_D (fun q : Nat => s.heap.size ≤ q) (wX5 cI cZ l0 l4 l5 l6 l8 l10 l11 l12 l13 l14 l15 l16 uL ++ (wN cI cZ n0 h0 h3 h4 h5 h6 c0 c8 c9 c10 c11 c12 c13 t0 t8 t9 t10 t11 t12 t13 i0 i1 i2 i3 i4 m0 m1 m2 uH uC uT uI uM ++ [(o0, .inl (cJ, 1, .inr (.inl fO)))]))) (hS : va_S (fun q : Nat => s.heap.size ≤ q) s.heap H locs) (ls : Array Slot) (hl : lv_has ls 9 [(0, .ref b), (1, .ref n0), (2, .ref l0), (3, .ref o0), (4, .int i)])
    (hk : ∀ (kc' sc' : Nat) (H : Heap) (locs : List Loc), kc' ≤ kc + 565 → sc' ≤ sc + 3393 → va_P (dC, dI) vwCl (wX5 cI cZ l0 l4 l5 l6 l8 l10 l11 l12 l13 l14 l15 l16 z.1 ++ (wN cI cZ n0 h0 h3 h4 h5 h6 c0 c8 c9 c10 c11 c12 c13 t0 t8 t9 t10 t11 t12 t13 i0 i1 i2 i3 i4 m0 m1 m2 z.2.1 z.2.2.1 z.2.2.2.1 z.2.2.2.2.1 z.2.2.2.2.2.1 ++ [(o0, .inl (cJ, 1, .inr (.inl z.2.2.2.2.2.2)))])) H → va_D (fun q : Nat => s.heap.size ≤ q) (wX5 cI cZ l0 l4 l5 l6 l8 l10 l11 l12 l13 l14 l15 l16 z.1 ++ (wN cI cZ n0 h0 h3 h4 h5 h6 c0 c8 c9 c10 c11 c12 c13 t0 t8 t9 t10 t11 t12 t13 i0 i1 i2 i3 i4 m0 m1 m2 z.2.1 z.2.2.1 z.2.2.2.1 z.2.2.2.2.1 z.2.2.2.2.2.1 ++ [(o0, .inl (cJ, 1, .inr (.inl z.2.2.2.2.2.2)))])) → va_S (fun q : Nat => s.heap.size ≤ q) s.heap H locs → ∀ (ls : Array Slot), lv_has ls 9 [(0, .ref b), (1, .ref n0), (2, .ref l0), (3, .ref o0), (4, .int i)] → W p l e room_1 s m #[Value.ref b] below meth c H locs kc' sc' Q (F0 m 2451 ls [])) : W p l e room_1 s m #[Value.ref b] below meth c H locs kc sc Q (F0 m 523 ls []) := by
  have hx := S.1
  have hb := S.2.1
  have hml := S.2.2.1
  have hown : s.vm.findClass RL = some m.cls := S.2.2.2.1
  have hts := S.2.2.2.2
  have hA : ∀ q : Nat, s.heap.size ≤ q → (fun q : Nat => s.heap.size ≤ q) q := fun _ h => h
  have hbA : ¬ (fun q : Nat => s.heap.size ≤ q) b := Nat.not_le.mpr hbl
  have hK2 : va_K (dC, dI) vwCl (TYS cI cZ) s := hK.sub [0, 1] rfl
  unfold p_L_C4 at hok
  refine lv_aload_n hx hb dL_law_523 rfl (lv_at hl 1 rfl) ?_
  refine lv_aload_n hx hb dL_law_524 rfl (lv_at hl 0 rfl) ?_
  refine lv_iload hx hb dL_law_525 (lv_at hl 4 rfl) ?_
  refine lv_iconst (v := (1 : Int32)) hx hb dL_law_527 (by decide) ?_
  refine lv_iadd hx hb dL_law_528 ?_
  obtain ⟨hi1, hok⟩ := gd_some hok
  refine va_sld hx hb hXs hbl hbA hS hi1 dL_law_529 ?_
  refine lv_aload_n hx hb dL_law_530 rfl (lv_at hl 0 rfl) ?_
  refine lv_iload hx hb dL_law_531 (lv_at hl 4 rfl) ?_
  refine lv_iconst (v := (2 : Int32)) hx hb dL_law_533 (by decide) ?_
  refine lv_iadd hx hb dL_law_534 ?_
  obtain ⟨hi2, hok⟩ := gd_some hok
  refine va_sld hx hb hXs hbl hbA hS hi2 dL_law_535 ?_
  refine lv_aload_n hx hb dL_law_536 rfl (lv_at hl 3 rfl) ?_
  obtain ⟨v3, hc3, hok⟩ := bd_some hok
  refine cHSi [.ref n0, .int (xs (i + (1 : Int32)).toNatClampNeg), .int (xs (i + (2 : Int32)).toNatClampNeg), .ref o0] S hK (va_Psuf hP) (va_Dsuf hD) hS hA hX hxn (c_L_addReader l hlt dC dI cI cZ cJ n0 h0 h3 h4 h5 h6 c0 c8 c9 c10 c11 c12 c13 t0 t8 t9 t10 t11 t12 t13 i0 i1 i2 i3 i4 m0 m1 m2 o0 _ sa uH uC uT uI uM fO (xs (i + (1 : Int32)).toNatClampNeg) (xs (i + (2 : Int32)).toNatClampNeg) hc3) (lw_S qm_L_136 qt_L_addReader qn_L qc_L_addReader) hd_L_addReader ⟨rfl, rfl⟩ ⟨Nat.le_of_ble_eq_true rfl, Nat.le_of_ble_eq_true rfl⟩ ⟨by show kc + 1 ≤ 601024; omega, by show sc + 6 ≤ 7293034; omega⟩ rfl hl.1 (Nat.le_of_ble_eq_true rfl) rfl dL_law_537 (fun H1 hk9 h9 => fr_joinR hP hD K_NO hk9 h9) (D_W hD) (fun H locs hP hD hS => ?_)
  refine lv_istore (lv' := [(5, .int v3.1), (0, .ref b), (1, .ref n0), (2, .ref l0), (3, .ref o0), (4, .int i)]) hx hb dL_law_540 hl (by decide) rfl (fun ls hl => ?_)
  refine lv_aload_n hx hb dL_law_542 rfl (lv_at hl 3 rfl) ?_
  refine lv_aload_n hx hb dL_law_543 rfl (lv_at hl 1 rfl) ?_
  refine lv_iload hx hb dL_law_544 (lv_at hl 5 rfl) ?_
  refine lv_iconst (v := (1 : Int32)) hx hb dL_law_546 (by decide) ?_
  refine lv_iadd hx hb dL_law_547 ?_
  refine va_sld hx hb hXs hbl hbA hS hi1 dL_law_548 ?_
  refine lv_aload_n hx hb dL_law_549 rfl (lv_at hl 1 rfl) ?_
  refine lv_iload hx hb dL_law_550 (lv_at hl 5 rfl) ?_
  refine lv_iconst (v := (2 : Int32)) hx hb dL_law_552 (by decide) ?_
  refine lv_iadd hx hb dL_law_553 ?_
  refine va_sld hx hb hXs hbl hbA hS hi2 dL_law_554 ?_
  obtain ⟨v4, hc4, hok⟩ := bd_some hok
  refine cUVi (ci := 5) (q0 := 0) [.int (xs (i + (1 : Int32)).toNatClampNeg), .int (xs (i + (2 : Int32)).toNatClampNeg)] S hK2 (va_Pmid (wa := []) hP) (va_Dmid (wa := []) hD) hS hA (c_X5_addReader l dC dI cI cZ l0 l4 l5 l6 l8 l10 l11 l12 l13 l14 l15 l16 _ uL (xs (i + (1 : Int32)).toNatClampNeg) (xs (i + (2 : Int32)).toNatClampNeg) hc4) (lw_V qm_L_139 qi_X5_addReader qs_X5_addReader qn_X5 qc_X5_addReader) hd_X5_addReader ⟨rfl, rfl⟩ ⟨Nat.le_of_ble_eq_true rfl, Nat.le_of_ble_eq_true rfl⟩ ⟨by show (kc + 1) + 0 ≤ 601024; omega, by show (sc + 6) + 0 ≤ 7293034; omega⟩ rfl rfl rfl hl.1 (Nat.le_of_ble_eq_true rfl) rfl dL_law_555 (fun H1 hk9 h9 => fr_joinM (wa := []) hP hD K_L hk9 h9) (D_W hD) (fun H locs hP hD hS => ?_)
  refine lv_istore (lv' := [(6, .int v4.1), (5, .int v3.1), (0, .ref b), (1, .ref n0), (2, .ref l0), (3, .ref o0), (4, .int i)]) hx hb dL_law_558 hl (by decide) rfl (fun ls hl => ?_)
  refine lv_aload_n hx hb dL_law_560 rfl (lv_at hl 4 rfl) ?_
  obtain ⟨v5, hc5, hok⟩ := bd_some hok
  refine cRVi (ci := 5) (q0 := 0) [] S hK2 (va_Pmid (wa := []) hP) (c_X5_thrown l dC dI cI cZ l0 l4 l5 l6 l8 l10 l11 l12 l13 l14 l15 l16 v4.2 hc5) (lw_V qm_L_122 qi_X5_thrown qs_X5_thrown qn_X5 qc_X5_thrown) hd_X5_thrown ⟨rfl, rfl⟩ ⟨Nat.le_of_ble_eq_true rfl, Nat.le_of_ble_eq_true rfl⟩ ⟨by show ((kc + 1) + 0) ≤ 601024; omega, by show ((sc + 6) + 0) ≤ 7293034; omega⟩ rfl rfl rfl hl.1 (Nat.le_of_ble_eq_true rfl) rfl dL_law_561 ?_
  refine lv_iload hx hb dL_law_564 (lv_at hl 1 rfl) ?_
  refine lv_icmp_eq (tgt := 571) hx hb dL_law_566 (by decide) (fun hc => ?_) (fun hc => ?_)
  · have hok := ip hok hc
    refine lv_iload hx hb dL_law_571 (lv_at hl 1 rfl) ?_
    refine lv_if_ne (tgt := 588) hx hb dL_law_573 (by decide) (fun hc => ?_) (fun hc => ?_)
    · have hok := iq hok hc
      refine lv_goto (tgt := 2451) hx hb dL_law_588 (by decide) ?_
      have hok := Option.some.inj hok
      subst hok
      exact hk _ _ _ _ (by omega) (by omega) hP hD hS _ (lv_sub hl [2, 3, 4, 5, 6] rfl)
    · have hok := ip hok hc
      refine lv_aload_n hx hb dL_law_576 rfl (lv_at hl 5 rfl) ?_
      refine lv_iconst (v := (0 : Int32)) hx hb dL_law_577 (by decide) ?_
      refine va_laldK hx hb hK hP 40 2 rfl rfl (j := 0) (by decide) (vp_inK (by decide)) dL_law_578 ?_
      refine lv_iload hx hb dL_law_579 (lv_at hl 0 rfl) ?_
      refine lv_i2l (v := v4.1.toInt64) hx hb dL_law_581 rfl ?_
      refine W.lcmp hx hb dL_law_582 ?_
      refine lv_if_eq (tgt := 588) hx hb dL_law_583 (by decide) (fun hc => ?_) (fun hc => ?_)
      · have hok := ip hok hc
        refine lv_goto (tgt := 2451) hx hb dL_law_588 (by decide) ?_
        have hok := Option.some.inj hok
        subst hok
        exact hk _ _ _ _ (by omega) (by omega) hP hD hS _ (lv_sub hl [2, 3, 4, 5, 6] rfl)
      · have hok := iq hok hc
        refine lv_iconst (v := (0 : Int32)) hx hb dL_law_586 (by decide) ?_
        cases hok
  · have hok := iq hok hc
    refine lv_iconst (v := (0 : Int32)) hx hb dL_law_569 (by decide) ?_
    cases hok
def p_L_C5 (xs : Nat → Int32) (Lc : Nat) (i : Int32) (uL : tX5) (uH : tX1) (uC : tX0) (uT : tX0) (uI : tX2) (uM : tX3) (fO : Nat → Int64) : Option (tX5 × tX1 × tX0 × tX0 × tX2 × tX3 × (Nat → Int64)) :=
  gd (i + (1 : Int32)) Lc (
  gd (i + (2 : Int32)) Lc (
  bd (p_L_addMirror uH uC uT uI uM fO (xs (i + (1 : Int32)).toNatClampNeg) (xs (i + (2 : Int32)).toNatClampNeg)) (fun v3 =>
  bd (p_X5_addMirror uL (xs (i + (1 : Int32)).toNatClampNeg) (xs (i + (2 : Int32)).toNatClampNeg)) (fun v4 =>
  bd (p_X5_thrown v4.2) (fun v5 =>
  if v5 = v3.1 then
    if v3.1 = 0 then
      if (lg_cmp (v3.2.2 0) v4.1.toInt64) = 0 then
        some (v4.2, uH, uC, uT, uI, v3.2.1, v3.2.2)
      else
        none
    else
      some (v4.2, uH, uC, uT, uI, v3.2.1, v3.2.2)
  else
    none)))))
set_option maxHeartbeats 4000000 in
set_option maxRecDepth 100000 in
theorem c_L_C5 {p : Program} {e : Env} {s : State} {m : MethodId} {below : List Frame} {meth : Method} {c : Code} (l : Launch) (hlt : l.stackTraces = false) (dC : Nat → ClassId) (dI : Nat → Nat → Nat) (cI cZ cJ : ClassId) (sa : Nat → Nat) (l0 l4 l5 l6 l8 l10 l11 l12 l13 l14 l15 l16 n0 h0 h3 h4 h5 h6 c0 c8 c9 c10 c11 c12 c13 t0 t8 t9 t10 t11 t12 t13 i0 i1 i2 i3 i4 m0 m1 m2 o0 : Nat) {b Lc : Nat} {xs : Nat → Int32} (S : CallFix p m c cL_law 9 s #[Value.ref b] lw_all RL) (hK : va_K (dC, dI) vwCl (TYJ cI cZ cJ) s) (hX : xb (fun q : Nat => s.heap.size ≤ q) sa s) (hxn : xn s) (hXs : va_X b Lc xs s s.heap) (hbl : b < s.heap.size) (i : Int32) (uL : tX5) (uH : tX1) (uC : tX0) (uT : tX0) (uI : tX2) (uM : tX3) (fO : Nat → Int64) {z : (tX5 × tX1 × tX0 × tX0 × tX2 × tX3 × (Nat → Int64))} (hok : p_L_C5 xs Lc i uL uH uC uT uI uM fO = some z) {Q : State → Prop} {kc sc : Nat} (hkc : kc + 565 ≤ 601024) (hsc : sc + 3393 ≤ 7293034) (H : Heap) (locs : List Loc) (hP : va_P (dC, dI) vwCl (wX5 cI cZ l0 l4 l5 l6 l8 l10 l11 l12 l13 l14 l15 l16 uL ++ (wN cI cZ n0 h0 h3 h4 h5 h6 c0 c8 c9 c10 c11 c12 c13 t0 t8 t9 t10 t11 t12 t13 i0 i1 i2 i3 i4 m0 m1 m2 uH uC uT uI uM ++ [(o0, .inl (cJ, 1, .inr (.inl fO)))])) H) (hD : va_D (fun q : Nat => s.heap.size ≤ q) (wX5 cI cZ l0 l4 l5 l6 l8 l10 l11 l12 l13 l14 l15 l16 uL ++ (wN cI cZ n0 h0 h3 h4 h5 h6 c0 c8 c9 c10 c11 c12 c13 t0 t8 t9 t10 t11 t12 t13 i0 i1 i2 i3 i4 m0 m1 m2 uH uC uT uI uM ++ [(o0, .inl (cJ, 1, .inr (.inl fO)))]))) (hS : va_S (fun q : Nat => s.heap.size ≤ q) s.heap H locs) (ls : Array Slot) (hl : lv_has ls 9 [(0, .ref b), (1, .ref n0), (2, .ref l0), (3, .ref o0), (4, .int i)])
    (hk : ∀ (kc' sc' : Nat) (H : Heap) (locs : List Loc), kc' ≤ kc + 565 → sc' ≤ sc + 3393 → va_P (dC, dI) vwCl (wX5 cI cZ l0 l4 l5 l6 l8 l10 l11 l12 l13 l14 l15 l16 z.1 ++ (wN cI cZ n0 h0 h3 h4 h5 h6 c0 c8 c9 c10 c11 c12 c13 t0 t8 t9 t10 t11 t12 t13 i0 i1 i2 i3 i4 m0 m1 m2 z.2.1 z.2.2.1 z.2.2.2.1 z.2.2.2.2.1 z.2.2.2.2.2.1 ++ [(o0, .inl (cJ, 1, .inr (.inl z.2.2.2.2.2.2)))])) H → va_D (fun q : Nat => s.heap.size ≤ q) (wX5 cI cZ l0 l4 l5 l6 l8 l10 l11 l12 l13 l14 l15 l16 z.1 ++ (wN cI cZ n0 h0 h3 h4 h5 h6 c0 c8 c9 c10 c11 c12 c13 t0 t8 t9 t10 t11 t12 t13 i0 i1 i2 i3 i4 m0 m1 m2 z.2.1 z.2.2.1 z.2.2.2.1 z.2.2.2.2.1 z.2.2.2.2.2.1 ++ [(o0, .inl (cJ, 1, .inr (.inl z.2.2.2.2.2.2)))])) → va_S (fun q : Nat => s.heap.size ≤ q) s.heap H locs → ∀ (ls : Array Slot), lv_has ls 9 [(0, .ref b), (1, .ref n0), (2, .ref l0), (3, .ref o0), (4, .int i)] → W p l e room_1 s m #[Value.ref b] below meth c H locs kc' sc' Q (F0 m 2451 ls [])) : W p l e room_1 s m #[Value.ref b] below meth c H locs kc sc Q (F0 m 591 ls []) := by
  have hx := S.1
  have hb := S.2.1
  have hml := S.2.2.1
  have hown : s.vm.findClass RL = some m.cls := S.2.2.2.1
  have hts := S.2.2.2.2
  have hA : ∀ q : Nat, s.heap.size ≤ q → (fun q : Nat => s.heap.size ≤ q) q := fun _ h => h
  have hbA : ¬ (fun q : Nat => s.heap.size ≤ q) b := Nat.not_le.mpr hbl
  have hK2 : va_K (dC, dI) vwCl (TYS cI cZ) s := hK.sub [0, 1] rfl
  unfold p_L_C5 at hok
  refine lv_aload_n hx hb dL_law_591 rfl (lv_at hl 1 rfl) ?_
  refine lv_aload_n hx hb dL_law_592 rfl (lv_at hl 0 rfl) ?_
  refine lv_iload hx hb dL_law_593 (lv_at hl 4 rfl) ?_
  refine lv_iconst (v := (1 : Int32)) hx hb dL_law_595 (by decide) ?_
  refine lv_iadd hx hb dL_law_596 ?_
  obtain ⟨hi1, hok⟩ := gd_some hok
  refine va_sld hx hb hXs hbl hbA hS hi1 dL_law_597 ?_
  refine lv_aload_n hx hb dL_law_598 rfl (lv_at hl 0 rfl) ?_
  refine lv_iload hx hb dL_law_599 (lv_at hl 4 rfl) ?_
  refine lv_iconst (v := (2 : Int32)) hx hb dL_law_601 (by decide) ?_
  refine lv_iadd hx hb dL_law_602 ?_
  obtain ⟨hi2, hok⟩ := gd_some hok
  refine va_sld hx hb hXs hbl hbA hS hi2 dL_law_603 ?_
  refine lv_aload_n hx hb dL_law_604 rfl (lv_at hl 3 rfl) ?_
  obtain ⟨v3, hc3, hok⟩ := bd_some hok
  refine cHSi [.ref n0, .int (xs (i + (1 : Int32)).toNatClampNeg), .int (xs (i + (2 : Int32)).toNatClampNeg), .ref o0] S hK (va_Psuf hP) (va_Dsuf hD) hS hA hX hxn (c_L_addMirror l hlt dC dI cI cZ cJ n0 h0 h3 h4 h5 h6 c0 c8 c9 c10 c11 c12 c13 t0 t8 t9 t10 t11 t12 t13 i0 i1 i2 i3 i4 m0 m1 m2 o0 _ sa uH uC uT uI uM fO (xs (i + (1 : Int32)).toNatClampNeg) (xs (i + (2 : Int32)).toNatClampNeg) hc3) (lw_S qm_L_140 qt_L_addMirror qn_L qc_L_addMirror) hd_L_addMirror ⟨rfl, rfl⟩ ⟨Nat.le_of_ble_eq_true rfl, Nat.le_of_ble_eq_true rfl⟩ ⟨by show kc + 1 ≤ 601024; omega, by show sc + 6 ≤ 7293034; omega⟩ rfl hl.1 (Nat.le_of_ble_eq_true rfl) rfl dL_law_605 (fun H1 hk9 h9 => fr_joinR hP hD K_NO hk9 h9) (D_W hD) (fun H locs hP hD hS => ?_)
  refine lv_istore (lv' := [(5, .int v3.1), (0, .ref b), (1, .ref n0), (2, .ref l0), (3, .ref o0), (4, .int i)]) hx hb dL_law_608 hl (by decide) rfl (fun ls hl => ?_)
  refine lv_aload_n hx hb dL_law_610 rfl (lv_at hl 3 rfl) ?_
  refine lv_aload_n hx hb dL_law_611 rfl (lv_at hl 1 rfl) ?_
  refine lv_iload hx hb dL_law_612 (lv_at hl 5 rfl) ?_
  refine lv_iconst (v := (1 : Int32)) hx hb dL_law_614 (by decide) ?_
  refine lv_iadd hx hb dL_law_615 ?_
  refine va_sld hx hb hXs hbl hbA hS hi1 dL_law_616 ?_
  refine lv_aload_n hx hb dL_law_617 rfl (lv_at hl 1 rfl) ?_
  refine lv_iload hx hb dL_law_618 (lv_at hl 5 rfl) ?_
  refine lv_iconst (v := (2 : Int32)) hx hb dL_law_620 (by decide) ?_
  refine lv_iadd hx hb dL_law_621 ?_
  refine va_sld hx hb hXs hbl hbA hS hi2 dL_law_622 ?_
  obtain ⟨v4, hc4, hok⟩ := bd_some hok
  refine cUVi (ci := 5) (q0 := 0) [.int (xs (i + (1 : Int32)).toNatClampNeg), .int (xs (i + (2 : Int32)).toNatClampNeg)] S hK2 (va_Pmid (wa := []) hP) (va_Dmid (wa := []) hD) hS hA (c_X5_addMirror l dC dI cI cZ l0 l4 l5 l6 l8 l10 l11 l12 l13 l14 l15 l16 _ uL (xs (i + (1 : Int32)).toNatClampNeg) (xs (i + (2 : Int32)).toNatClampNeg) hc4) (lw_V qm_L_142 qi_X5_addMirror qs_X5_addMirror qn_X5 qc_X5_addMirror) hd_X5_addMirror ⟨rfl, rfl⟩ ⟨Nat.le_of_ble_eq_true rfl, Nat.le_of_ble_eq_true rfl⟩ ⟨by show (kc + 1) + 0 ≤ 601024; omega, by show (sc + 6) + 0 ≤ 7293034; omega⟩ rfl rfl rfl hl.1 (Nat.le_of_ble_eq_true rfl) rfl dL_law_623 (fun H1 hk9 h9 => fr_joinM (wa := []) hP hD K_L hk9 h9) (D_W hD) (fun H locs hP hD hS => ?_)
  refine lv_istore (lv' := [(6, .int v4.1), (5, .int v3.1), (0, .ref b), (1, .ref n0), (2, .ref l0), (3, .ref o0), (4, .int i)]) hx hb dL_law_626 hl (by decide) rfl (fun ls hl => ?_)
  refine lv_aload_n hx hb dL_law_628 rfl (lv_at hl 4 rfl) ?_
  obtain ⟨v5, hc5, hok⟩ := bd_some hok
  refine cRVi (ci := 5) (q0 := 0) [] S hK2 (va_Pmid (wa := []) hP) (c_X5_thrown l dC dI cI cZ l0 l4 l5 l6 l8 l10 l11 l12 l13 l14 l15 l16 v4.2 hc5) (lw_V qm_L_122 qi_X5_thrown qs_X5_thrown qn_X5 qc_X5_thrown) hd_X5_thrown ⟨rfl, rfl⟩ ⟨Nat.le_of_ble_eq_true rfl, Nat.le_of_ble_eq_true rfl⟩ ⟨by show ((kc + 1) + 0) ≤ 601024; omega, by show ((sc + 6) + 0) ≤ 7293034; omega⟩ rfl rfl rfl hl.1 (Nat.le_of_ble_eq_true rfl) rfl dL_law_629 ?_
  refine lv_iload hx hb dL_law_632 (lv_at hl 1 rfl) ?_
  refine lv_icmp_eq (tgt := 639) hx hb dL_law_634 (by decide) (fun hc => ?_) (fun hc => ?_)
  · have hok := ip hok hc
    refine lv_iload hx hb dL_law_639 (lv_at hl 1 rfl) ?_
    refine lv_if_ne (tgt := 656) hx hb dL_law_641 (by decide) (fun hc => ?_) (fun hc => ?_)
    · have hok := iq hok hc
      refine lv_goto (tgt := 2451) hx hb dL_law_656 (by decide) ?_
      have hok := Option.some.inj hok
      subst hok
      exact hk _ _ _ _ (by omega) (by omega) hP hD hS _ (lv_sub hl [2, 3, 4, 5, 6] rfl)
    · have hok := ip hok hc
      refine lv_aload_n hx hb dL_law_644 rfl (lv_at hl 5 rfl) ?_
      refine lv_iconst (v := (0 : Int32)) hx hb dL_law_645 (by decide) ?_
      refine va_laldK hx hb hK hP 40 2 rfl rfl (j := 0) (by decide) (vp_inK (by decide)) dL_law_646 ?_
      refine lv_iload hx hb dL_law_647 (lv_at hl 0 rfl) ?_
      refine lv_i2l (v := v4.1.toInt64) hx hb dL_law_649 rfl ?_
      refine W.lcmp hx hb dL_law_650 ?_
      refine lv_if_eq (tgt := 656) hx hb dL_law_651 (by decide) (fun hc => ?_) (fun hc => ?_)
      · have hok := ip hok hc
        refine lv_goto (tgt := 2451) hx hb dL_law_656 (by decide) ?_
        have hok := Option.some.inj hok
        subst hok
        exact hk _ _ _ _ (by omega) (by omega) hP hD hS _ (lv_sub hl [2, 3, 4, 5, 6] rfl)
      · have hok := iq hok hc
        refine lv_iconst (v := (0 : Int32)) hx hb dL_law_654 (by decide) ?_
        cases hok
  · have hok := iq hok hc
    refine lv_iconst (v := (0 : Int32)) hx hb dL_law_637 (by decide) ?_
    cases hok
def p_L_C6 (xs : Nat → Int32) (Lc : Nat) (i : Int32) (uL : tX5) (uH : tX1) (uC : tX0) (uT : tX0) (uI : tX2) (uM : tX3) (fO : Nat → Int64) : Option (tX5 × tX1 × tX0 × tX0 × tX2 × tX3 × (Nat → Int64)) :=
  gd (i + (1 : Int32)) Lc (
  bd (p_L_call uH uC uT uI uM fO (xs (i + (1 : Int32)).toNatClampNeg)) (fun v2 =>
  bd (p_X5_call uL (xs (i + (1 : Int32)).toNatClampNeg)) (fun v3 =>
  bd (p_X5_thrown v3.2) (fun v4 =>
  if v4 = v2.1 then
    if v2.1 = 0 then
      if v3.1 = 0 then
        if (lg_cmp (v2.2.2 0) (0 : Int64)) = 0 then
          some (v3.2, uH, v2.2.1, uT, uI, uM, v2.2.2)
        else
          none
      else
        if (lg_cmp (v2.2.2 0) (1 : Int64)) = 0 then
          some (v3.2, uH, v2.2.1, uT, uI, uM, v2.2.2)
        else
          none
    else
      some (v3.2, uH, v2.2.1, uT, uI, uM, v2.2.2)
  else
    none))))
set_option maxHeartbeats 4000000 in
set_option maxRecDepth 100000 in
theorem c_L_C6 {p : Program} {e : Env} {s : State} {m : MethodId} {below : List Frame} {meth : Method} {c : Code} (l : Launch) (hlt : l.stackTraces = false) (dC : Nat → ClassId) (dI : Nat → Nat → Nat) (cI cZ cJ : ClassId) (sa : Nat → Nat) (l0 l4 l5 l6 l8 l10 l11 l12 l13 l14 l15 l16 n0 h0 h3 h4 h5 h6 c0 c8 c9 c10 c11 c12 c13 t0 t8 t9 t10 t11 t12 t13 i0 i1 i2 i3 i4 m0 m1 m2 o0 : Nat) {b Lc : Nat} {xs : Nat → Int32} (S : CallFix p m c cL_law 9 s #[Value.ref b] lw_all RL) (hK : va_K (dC, dI) vwCl (TYJ cI cZ cJ) s) (hX : xb (fun q : Nat => s.heap.size ≤ q) sa s) (hxn : xn s) (hXs : va_X b Lc xs s s.heap) (hbl : b < s.heap.size) (i : Int32) (uL : tX5) (uH : tX1) (uC : tX0) (uT : tX0) (uI : tX2) (uM : tX3) (fO : Nat → Int64) {z : (tX5 × tX1 × tX0 × tX0 × tX2 × tX3 × (Nat → Int64))} (hok : p_L_C6 xs Lc i uL uH uC uT uI uM fO = some z) {Q : State → Prop} {kc sc : Nat} (hkc : kc + 565 ≤ 601024) (hsc : sc + 3393 ≤ 7293034) (H : Heap) (locs : List Loc) (hP : va_P (dC, dI) vwCl (wX5 cI cZ l0 l4 l5 l6 l8 l10 l11 l12 l13 l14 l15 l16 uL ++ (wN cI cZ n0 h0 h3 h4 h5 h6 c0 c8 c9 c10 c11 c12 c13 t0 t8 t9 t10 t11 t12 t13 i0 i1 i2 i3 i4 m0 m1 m2 uH uC uT uI uM ++ [(o0, .inl (cJ, 1, .inr (.inl fO)))])) H) (hD : va_D (fun q : Nat => s.heap.size ≤ q) (wX5 cI cZ l0 l4 l5 l6 l8 l10 l11 l12 l13 l14 l15 l16 uL ++ (wN cI cZ n0 h0 h3 h4 h5 h6 c0 c8 c9 c10 c11 c12 c13 t0 t8 t9 t10 t11 t12 t13 i0 i1 i2 i3 i4 m0 m1 m2 uH uC uT uI uM ++ [(o0, .inl (cJ, 1, .inr (.inl fO)))]))) (hS : va_S (fun q : Nat => s.heap.size ≤ q) s.heap H locs) (ls : Array Slot) (hl : lv_has ls 9 [(0, .ref b), (1, .ref n0), (2, .ref l0), (3, .ref o0), (4, .int i)])
    (hk : ∀ (kc' sc' : Nat) (H : Heap) (locs : List Loc), kc' ≤ kc + 565 → sc' ≤ sc + 3393 → va_P (dC, dI) vwCl (wX5 cI cZ l0 l4 l5 l6 l8 l10 l11 l12 l13 l14 l15 l16 z.1 ++ (wN cI cZ n0 h0 h3 h4 h5 h6 c0 c8 c9 c10 c11 c12 c13 t0 t8 t9 t10 t11 t12 t13 i0 i1 i2 i3 i4 m0 m1 m2 z.2.1 z.2.2.1 z.2.2.2.1 z.2.2.2.2.1 z.2.2.2.2.2.1 ++ [(o0, .inl (cJ, 1, .inr (.inl z.2.2.2.2.2.2)))])) H → va_D (fun q : Nat => s.heap.size ≤ q) (wX5 cI cZ l0 l4 l5 l6 l8 l10 l11 l12 l13 l14 l15 l16 z.1 ++ (wN cI cZ n0 h0 h3 h4 h5 h6 c0 c8 c9 c10 c11 c12 c13 t0 t8 t9 t10 t11 t12 t13 i0 i1 i2 i3 i4 m0 m1 m2 z.2.1 z.2.2.1 z.2.2.2.1 z.2.2.2.2.1 z.2.2.2.2.2.1 ++ [(o0, .inl (cJ, 1, .inr (.inl z.2.2.2.2.2.2)))])) → va_S (fun q : Nat => s.heap.size ≤ q) s.heap H locs → ∀ (ls : Array Slot), lv_has ls 9 [(0, .ref b), (1, .ref n0), (2, .ref l0), (3, .ref o0), (4, .int i)] → W p l e room_1 s m #[Value.ref b] below meth c H locs kc' sc' Q (F0 m 2451 ls [])) : W p l e room_1 s m #[Value.ref b] below meth c H locs kc sc Q (F0 m 659 ls []) := by
  have hx := S.1
  have hb := S.2.1
  have hml := S.2.2.1
  have hown : s.vm.findClass RL = some m.cls := S.2.2.2.1
  have hts := S.2.2.2.2
  have hA : ∀ q : Nat, s.heap.size ≤ q → (fun q : Nat => s.heap.size ≤ q) q := fun _ h => h
  have hbA : ¬ (fun q : Nat => s.heap.size ≤ q) b := Nat.not_le.mpr hbl
  have hK2 : va_K (dC, dI) vwCl (TYS cI cZ) s := hK.sub [0, 1] rfl
  unfold p_L_C6 at hok
  refine lv_aload_n hx hb dL_law_659 rfl (lv_at hl 1 rfl) ?_
  refine lv_aload_n hx hb dL_law_660 rfl (lv_at hl 0 rfl) ?_
  refine lv_iload hx hb dL_law_661 (lv_at hl 4 rfl) ?_
  refine lv_iconst (v := (1 : Int32)) hx hb dL_law_663 (by decide) ?_
  refine lv_iadd hx hb dL_law_664 ?_
  obtain ⟨hi1, hok⟩ := gd_some hok
  refine va_sld hx hb hXs hbl hbA hS hi1 dL_law_665 ?_
  refine lv_aload_n hx hb dL_law_666 rfl (lv_at hl 3 rfl) ?_
  obtain ⟨v2, hc2, hok⟩ := bd_some hok
  refine cHSi [.ref n0, .int (xs (i + (1 : Int32)).toNatClampNeg), .ref o0] S hK (va_Psuf hP) (va_Dsuf hD) hS hA hX hxn (c_L_call l hlt dC dI cI cZ cJ n0 h0 h3 h4 h5 h6 c0 c8 c9 c10 c11 c12 c13 t0 t8 t9 t10 t11 t12 t13 i0 i1 i2 i3 i4 m0 m1 m2 o0 _ sa uH uC uT uI uM fO (xs (i + (1 : Int32)).toNatClampNeg) hc2) (lw_S qm_L_143 qt_L_call qn_L qc_L_call) hd_L_call ⟨rfl, rfl⟩ ⟨Nat.le_of_ble_eq_true rfl, Nat.le_of_ble_eq_true rfl⟩ ⟨by show kc + 1 ≤ 601024; omega, by show sc + 6 ≤ 7293034; omega⟩ rfl hl.1 (Nat.le_of_ble_eq_true rfl) rfl dL_law_667 (fun H1 hk9 h9 => fr_joinR hP hD K_NO hk9 h9) (D_W hD) (fun H locs hP hD hS => ?_)
  refine lv_istore (lv' := [(5, .int v2.1), (0, .ref b), (1, .ref n0), (2, .ref l0), (3, .ref o0), (4, .int i)]) hx hb dL_law_670 hl (by decide) rfl (fun ls hl => ?_)
  refine lv_aload_n hx hb dL_law_672 rfl (lv_at hl 3 rfl) ?_
  refine lv_aload_n hx hb dL_law_673 rfl (lv_at hl 1 rfl) ?_
  refine lv_iload hx hb dL_law_674 (lv_at hl 5 rfl) ?_
  refine lv_iconst (v := (1 : Int32)) hx hb dL_law_676 (by decide) ?_
  refine lv_iadd hx hb dL_law_677 ?_
  refine va_sld hx hb hXs hbl hbA hS hi1 dL_law_678 ?_
  obtain ⟨v3, hc3, hok⟩ := bd_some hok
  refine cUVi (ci := 5) (q0 := 0) [.int (xs (i + (1 : Int32)).toNatClampNeg)] S hK2 (va_Pmid (wa := []) hP) (va_Dmid (wa := []) hD) hS hA (c_X5_call l dC dI cI cZ l0 l4 l5 l6 l8 l10 l11 l12 l13 l14 l15 l16 _ uL (xs (i + (1 : Int32)).toNatClampNeg) hc3) (lw_V qm_L_145 qi_X5_call qs_X5_call qn_X5 qc_X5_call) hd_X5_call ⟨rfl, rfl⟩ ⟨Nat.le_of_ble_eq_true rfl, Nat.le_of_ble_eq_true rfl⟩ ⟨by show (kc + 1) + 0 ≤ 601024; omega, by show (sc + 6) + 0 ≤ 7293034; omega⟩ rfl rfl rfl hl.1 (Nat.le_of_ble_eq_true rfl) rfl dL_law_679 (fun H1 hk9 h9 => fr_joinM (wa := []) hP hD K_L hk9 h9) (D_W hD) (fun H locs hP hD hS => ?_)
  refine lv_istore (lv' := [(6, .int v3.1), (5, .int v2.1), (0, .ref b), (1, .ref n0), (2, .ref l0), (3, .ref o0), (4, .int i)]) hx hb dL_law_682 hl (by decide) rfl (fun ls hl => ?_)
  refine lv_aload_n hx hb dL_law_684 rfl (lv_at hl 4 rfl) ?_
  obtain ⟨v4, hc4, hok⟩ := bd_some hok
  refine cRVi (ci := 5) (q0 := 0) [] S hK2 (va_Pmid (wa := []) hP) (c_X5_thrown l dC dI cI cZ l0 l4 l5 l6 l8 l10 l11 l12 l13 l14 l15 l16 v3.2 hc4) (lw_V qm_L_122 qi_X5_thrown qs_X5_thrown qn_X5 qc_X5_thrown) hd_X5_thrown ⟨rfl, rfl⟩ ⟨Nat.le_of_ble_eq_true rfl, Nat.le_of_ble_eq_true rfl⟩ ⟨by show ((kc + 1) + 0) ≤ 601024; omega, by show ((sc + 6) + 0) ≤ 7293034; omega⟩ rfl rfl rfl hl.1 (Nat.le_of_ble_eq_true rfl) rfl dL_law_685 ?_
  refine lv_iload hx hb dL_law_688 (lv_at hl 1 rfl) ?_
  refine lv_icmp_eq (tgt := 695) hx hb dL_law_690 (by decide) (fun hc => ?_) (fun hc => ?_)
  · have hok := ip hok hc
    refine lv_iload hx hb dL_law_695 (lv_at hl 1 rfl) ?_
    refine lv_if_ne (tgt := 719) hx hb dL_law_697 (by decide) (fun hc => ?_) (fun hc => ?_)
    · have hok := iq hok hc
      refine lv_goto (tgt := 2451) hx hb dL_law_719 (by decide) ?_
      have hok := Option.some.inj hok
      subst hok
      exact hk _ _ _ _ (by omega) (by omega) hP hD hS _ (lv_sub hl [2, 3, 4, 5, 6] rfl)
    · have hok := ip hok hc
      refine lv_aload_n hx hb dL_law_700 rfl (lv_at hl 5 rfl) ?_
      refine lv_iconst (v := (0 : Int32)) hx hb dL_law_701 (by decide) ?_
      refine va_laldK hx hb hK hP 40 2 rfl rfl (j := 0) (by decide) (vp_inK (by decide)) dL_law_702 ?_
      refine lv_iload hx hb dL_law_703 (lv_at hl 0 rfl) ?_
      refine lv_if_eq (tgt := 712) hx hb dL_law_705 (by decide) (fun hc => ?_) (fun hc => ?_)
      · have hok := ip hok hc
        refine lv_lconst (v := (0 : Int64)) hx hb dL_law_712 (by decide) ?_
        refine W.lcmp hx hb dL_law_713 ?_
        refine lv_if_eq (tgt := 719) hx hb dL_law_714 (by decide) (fun hc => ?_) (fun hc => ?_)
        · have hok := ip hok hc
          refine lv_goto (tgt := 2451) hx hb dL_law_719 (by decide) ?_
          have hok := Option.some.inj hok
          subst hok
          exact hk _ _ _ _ (by omega) (by omega) hP hD hS _ (lv_sub hl [2, 3, 4, 5, 6] rfl)
        · have hok := iq hok hc
          refine lv_iconst (v := (0 : Int32)) hx hb dL_law_717 (by decide) ?_
          cases hok
      · have hok := iq hok hc
        refine lv_lconst (v := (1 : Int64)) hx hb dL_law_708 (by decide) ?_
        refine lv_goto (tgt := 713) hx hb dL_law_709 (by decide) ?_
        refine W.lcmp hx hb dL_law_713 ?_
        refine lv_if_eq (tgt := 719) hx hb dL_law_714 (by decide) (fun hc => ?_) (fun hc => ?_)
        · have hok := ip hok hc
          refine lv_goto (tgt := 2451) hx hb dL_law_719 (by decide) ?_
          have hok := Option.some.inj hok
          subst hok
          exact hk _ _ _ _ (by omega) (by omega) hP hD hS _ (lv_sub hl [2, 3, 4, 5, 6] rfl)
        · have hok := iq hok hc
          refine lv_iconst (v := (0 : Int32)) hx hb dL_law_717 (by decide) ?_
          cases hok
  · have hok := iq hok hc
    refine lv_iconst (v := (0 : Int32)) hx hb dL_law_693 (by decide) ?_
    cases hok
def p_L_C7 (xs : Nat → Int32) (Lc : Nat) (i : Int32) (uL : tX5) (uH : tX1) (uC : tX0) (uT : tX0) (uI : tX2) (uM : tX3) (fO : Nat → Int64) : Option (tX5 × tX1 × tX0 × tX0 × tX2 × tX3 × (Nat → Int64)) :=
  bd (p_X4_repair uH uC uT uI uM) (fun v1 =>
  bd (p_X5_repair uL) (fun v2 =>
  if v1.1 = v2.1 then
    some (v2.2, uH, v1.2, uT, uI, uM, fO)
  else
    none))
set_option maxHeartbeats 4000000 in
set_option maxRecDepth 100000 in
theorem c_L_C7 {p : Program} {e : Env} {s : State} {m : MethodId} {below : List Frame} {meth : Method} {c : Code} (l : Launch) (hlt : l.stackTraces = false) (dC : Nat → ClassId) (dI : Nat → Nat → Nat) (cI cZ cJ : ClassId) (sa : Nat → Nat) (l0 l4 l5 l6 l8 l10 l11 l12 l13 l14 l15 l16 n0 h0 h3 h4 h5 h6 c0 c8 c9 c10 c11 c12 c13 t0 t8 t9 t10 t11 t12 t13 i0 i1 i2 i3 i4 m0 m1 m2 o0 : Nat) {b Lc : Nat} {xs : Nat → Int32} (S : CallFix p m c cL_law 9 s #[Value.ref b] lw_all RL) (hK : va_K (dC, dI) vwCl (TYJ cI cZ cJ) s) (hX : xb (fun q : Nat => s.heap.size ≤ q) sa s) (hxn : xn s) (hXs : va_X b Lc xs s s.heap) (hbl : b < s.heap.size) (i : Int32) (uL : tX5) (uH : tX1) (uC : tX0) (uT : tX0) (uI : tX2) (uM : tX3) (fO : Nat → Int64) {z : (tX5 × tX1 × tX0 × tX0 × tX2 × tX3 × (Nat → Int64))} (hok : p_L_C7 xs Lc i uL uH uC uT uI uM fO = some z) {Q : State → Prop} {kc sc : Nat} (hkc : kc + 565 ≤ 601024) (hsc : sc + 3393 ≤ 7293034) (H : Heap) (locs : List Loc) (hP : va_P (dC, dI) vwCl (wX5 cI cZ l0 l4 l5 l6 l8 l10 l11 l12 l13 l14 l15 l16 uL ++ (wN cI cZ n0 h0 h3 h4 h5 h6 c0 c8 c9 c10 c11 c12 c13 t0 t8 t9 t10 t11 t12 t13 i0 i1 i2 i3 i4 m0 m1 m2 uH uC uT uI uM ++ [(o0, .inl (cJ, 1, .inr (.inl fO)))])) H) (hD : va_D (fun q : Nat => s.heap.size ≤ q) (wX5 cI cZ l0 l4 l5 l6 l8 l10 l11 l12 l13 l14 l15 l16 uL ++ (wN cI cZ n0 h0 h3 h4 h5 h6 c0 c8 c9 c10 c11 c12 c13 t0 t8 t9 t10 t11 t12 t13 i0 i1 i2 i3 i4 m0 m1 m2 uH uC uT uI uM ++ [(o0, .inl (cJ, 1, .inr (.inl fO)))]))) (hS : va_S (fun q : Nat => s.heap.size ≤ q) s.heap H locs) (ls : Array Slot) (hl : lv_has ls 9 [(0, .ref b), (1, .ref n0), (2, .ref l0), (3, .ref o0), (4, .int i)])
    (hk : ∀ (kc' sc' : Nat) (H : Heap) (locs : List Loc), kc' ≤ kc + 565 → sc' ≤ sc + 3393 → va_P (dC, dI) vwCl (wX5 cI cZ l0 l4 l5 l6 l8 l10 l11 l12 l13 l14 l15 l16 z.1 ++ (wN cI cZ n0 h0 h3 h4 h5 h6 c0 c8 c9 c10 c11 c12 c13 t0 t8 t9 t10 t11 t12 t13 i0 i1 i2 i3 i4 m0 m1 m2 z.2.1 z.2.2.1 z.2.2.2.1 z.2.2.2.2.1 z.2.2.2.2.2.1 ++ [(o0, .inl (cJ, 1, .inr (.inl z.2.2.2.2.2.2)))])) H → va_D (fun q : Nat => s.heap.size ≤ q) (wX5 cI cZ l0 l4 l5 l6 l8 l10 l11 l12 l13 l14 l15 l16 z.1 ++ (wN cI cZ n0 h0 h3 h4 h5 h6 c0 c8 c9 c10 c11 c12 c13 t0 t8 t9 t10 t11 t12 t13 i0 i1 i2 i3 i4 m0 m1 m2 z.2.1 z.2.2.1 z.2.2.2.1 z.2.2.2.2.1 z.2.2.2.2.2.1 ++ [(o0, .inl (cJ, 1, .inr (.inl z.2.2.2.2.2.2)))])) → va_S (fun q : Nat => s.heap.size ≤ q) s.heap H locs → ∀ (ls : Array Slot), lv_has ls 9 [(0, .ref b), (1, .ref n0), (2, .ref l0), (3, .ref o0), (4, .int i)] → W p l e room_1 s m #[Value.ref b] below meth c H locs kc' sc' Q (F0 m 2451 ls [])) : W p l e room_1 s m #[Value.ref b] below meth c H locs kc sc Q (F0 m 722 ls []) := by
  have hx := S.1
  have hb := S.2.1
  have hml := S.2.2.1
  have hown : s.vm.findClass RL = some m.cls := S.2.2.2.1
  have hts := S.2.2.2.2
  have hA : ∀ q : Nat, s.heap.size ≤ q → (fun q : Nat => s.heap.size ≤ q) q := fun _ h => h
  have hbA : ¬ (fun q : Nat => s.heap.size ≤ q) b := Nat.not_le.mpr hbl
  have hK2 : va_K (dC, dI) vwCl (TYS cI cZ) s := hK.sub [0, 1] rfl
  unfold p_L_C7 at hok
  refine lv_aload_n hx hb dL_law_722 rfl (lv_at hl 1 rfl) ?_
  obtain ⟨v1, hc1, hok⟩ := bd_some hok
  refine cUVi (ci := 4) (q0 := 0) [] S hK2 (va_Pmid hP) (va_Dmid hD) hS hA (c_X4_repair l dC dI cI cZ n0 h0 h3 h4 h5 h6 c0 c8 c9 c10 c11 c12 c13 t0 t8 t9 t10 t11 t12 t13 i0 i1 i2 i3 i4 m0 m1 m2 _ uH uC uT uI uM hc1) (lw_V qm_L_146 qi_X4_repair qs_X4_repair qn_X4 qc_X4_repair) hd_X4_repair ⟨rfl, rfl⟩ ⟨Nat.le_of_ble_eq_true rfl, Nat.le_of_ble_eq_true rfl⟩ ⟨by show kc + 0 ≤ 601024; omega, by show sc + 0 ≤ 7293034; omega⟩ rfl rfl rfl hl.1 (Nat.le_of_ble_eq_true rfl) rfl dL_law_723 (fun H1 hk9 h9 => fr_joinM hP hD K_N hk9 h9) (D_W hD) (fun H locs hP hD hS => ?_)
  refine lv_aload_n hx hb dL_law_726 rfl (lv_at hl 2 rfl) ?_
  obtain ⟨v2, hc2, hok⟩ := bd_some hok
  refine cUVi (ci := 5) (q0 := 0) [] S hK2 (va_Pmid (wa := []) hP) (va_Dmid (wa := []) hD) hS hA (c_X5_repair l dC dI cI cZ l0 l4 l5 l6 l8 l10 l11 l12 l13 l14 l15 l16 _ uL hc2) (lw_V qm_L_149 qi_X5_repair qs_X5_repair qn_X5 qc_X5_repair) hd_X5_repair ⟨rfl, rfl⟩ ⟨Nat.le_of_ble_eq_true rfl, Nat.le_of_ble_eq_true rfl⟩ ⟨by show (kc + 0) + 0 ≤ 601024; omega, by show (sc + 0) + 0 ≤ 7293034; omega⟩ rfl rfl rfl hl.1 (Nat.le_of_ble_eq_true rfl) rfl dL_law_727 (fun H1 hk9 h9 => fr_joinM (wa := []) hP hD K_L hk9 h9) (D_W hD) (fun H locs hP hD hS => ?_)
  refine lv_icmp_eq (tgt := 2451) hx hb dL_law_730 (by decide) (fun hc => ?_) (fun hc => ?_)
  · have hok := ip hok hc
    have hok := Option.some.inj hok
    subst hok
    exact hk _ _ _ _ (by omega) (by omega) hP hD hS _ (lv_sub hl [0, 1, 2, 3, 4] rfl)
  · have hok := iq hok hc
    refine lv_iconst (v := (0 : Int32)) hx hb dL_law_733 (by decide) ?_
    cases hok
def p_L_C8 (xs : Nat → Int32) (Lc : Nat) (i : Int32) (uL : tX5) (uH : tX1) (uC : tX0) (uT : tX0) (uI : tX2) (uM : tX3) (fO : Nat → Int64) : Option (tX5 × tX1 × tX0 × tX0 × tX2 × tX3 × (Nat → Int64)) :=
  gd (i + (1 : Int32)) Lc (
  bd (p_L_passHours uH uC uT uI uM fO (xs (i + (1 : Int32)).toNatClampNeg)) (fun v2 =>
  bd (p_X5_passHours uL (xs (i + (1 : Int32)).toNatClampNeg)) (fun v3 =>
  bd (p_X5_thrown v3.2) (fun v4 =>
  if v4 = v2.1 then
    if v2.1 = 0 then
      if (lg_cmp (v2.2.2.2 0) v3.1.toInt64) = 0 then
        some (v3.2, uH, v2.2.1, uT, v2.2.2.1, uM, v2.2.2.2)
      else
        none
    else
      some (v3.2, uH, v2.2.1, uT, v2.2.2.1, uM, v2.2.2.2)
  else
    none))))
set_option maxHeartbeats 4000000 in
set_option maxRecDepth 100000 in
theorem c_L_C8 {p : Program} {e : Env} {s : State} {m : MethodId} {below : List Frame} {meth : Method} {c : Code} (l : Launch) (hlt : l.stackTraces = false) (dC : Nat → ClassId) (dI : Nat → Nat → Nat) (cI cZ cJ : ClassId) (sa : Nat → Nat) (l0 l4 l5 l6 l8 l10 l11 l12 l13 l14 l15 l16 n0 h0 h3 h4 h5 h6 c0 c8 c9 c10 c11 c12 c13 t0 t8 t9 t10 t11 t12 t13 i0 i1 i2 i3 i4 m0 m1 m2 o0 : Nat) {b Lc : Nat} {xs : Nat → Int32} (S : CallFix p m c cL_law 9 s #[Value.ref b] lw_all RL) (hK : va_K (dC, dI) vwCl (TYJ cI cZ cJ) s) (hX : xb (fun q : Nat => s.heap.size ≤ q) sa s) (hxn : xn s) (hXs : va_X b Lc xs s s.heap) (hbl : b < s.heap.size) (i : Int32) (uL : tX5) (uH : tX1) (uC : tX0) (uT : tX0) (uI : tX2) (uM : tX3) (fO : Nat → Int64) {z : (tX5 × tX1 × tX0 × tX0 × tX2 × tX3 × (Nat → Int64))} (hok : p_L_C8 xs Lc i uL uH uC uT uI uM fO = some z) {Q : State → Prop} {kc sc : Nat} (hkc : kc + 565 ≤ 601024) (hsc : sc + 3393 ≤ 7293034) (H : Heap) (locs : List Loc) (hP : va_P (dC, dI) vwCl (wX5 cI cZ l0 l4 l5 l6 l8 l10 l11 l12 l13 l14 l15 l16 uL ++ (wN cI cZ n0 h0 h3 h4 h5 h6 c0 c8 c9 c10 c11 c12 c13 t0 t8 t9 t10 t11 t12 t13 i0 i1 i2 i3 i4 m0 m1 m2 uH uC uT uI uM ++ [(o0, .inl (cJ, 1, .inr (.inl fO)))])) H) (hD : va_D (fun q : Nat => s.heap.size ≤ q) (wX5 cI cZ l0 l4 l5 l6 l8 l10 l11 l12 l13 l14 l15 l16 uL ++ (wN cI cZ n0 h0 h3 h4 h5 h6 c0 c8 c9 c10 c11 c12 c13 t0 t8 t9 t10 t11 t12 t13 i0 i1 i2 i3 i4 m0 m1 m2 uH uC uT uI uM ++ [(o0, .inl (cJ, 1, .inr (.inl fO)))]))) (hS : va_S (fun q : Nat => s.heap.size ≤ q) s.heap H locs) (ls : Array Slot) (hl : lv_has ls 9 [(0, .ref b), (1, .ref n0), (2, .ref l0), (3, .ref o0), (4, .int i)])
    (hk : ∀ (kc' sc' : Nat) (H : Heap) (locs : List Loc), kc' ≤ kc + 565 → sc' ≤ sc + 3393 → va_P (dC, dI) vwCl (wX5 cI cZ l0 l4 l5 l6 l8 l10 l11 l12 l13 l14 l15 l16 z.1 ++ (wN cI cZ n0 h0 h3 h4 h5 h6 c0 c8 c9 c10 c11 c12 c13 t0 t8 t9 t10 t11 t12 t13 i0 i1 i2 i3 i4 m0 m1 m2 z.2.1 z.2.2.1 z.2.2.2.1 z.2.2.2.2.1 z.2.2.2.2.2.1 ++ [(o0, .inl (cJ, 1, .inr (.inl z.2.2.2.2.2.2)))])) H → va_D (fun q : Nat => s.heap.size ≤ q) (wX5 cI cZ l0 l4 l5 l6 l8 l10 l11 l12 l13 l14 l15 l16 z.1 ++ (wN cI cZ n0 h0 h3 h4 h5 h6 c0 c8 c9 c10 c11 c12 c13 t0 t8 t9 t10 t11 t12 t13 i0 i1 i2 i3 i4 m0 m1 m2 z.2.1 z.2.2.1 z.2.2.2.1 z.2.2.2.2.1 z.2.2.2.2.2.1 ++ [(o0, .inl (cJ, 1, .inr (.inl z.2.2.2.2.2.2)))])) → va_S (fun q : Nat => s.heap.size ≤ q) s.heap H locs → ∀ (ls : Array Slot), lv_has ls 9 [(0, .ref b), (1, .ref n0), (2, .ref l0), (3, .ref o0), (4, .int i)] → W p l e room_1 s m #[Value.ref b] below meth c H locs kc' sc' Q (F0 m 2451 ls [])) : W p l e room_1 s m #[Value.ref b] below meth c H locs kc sc Q (F0 m 735 ls []) := by
  have hx := S.1
  have hb := S.2.1
  have hml := S.2.2.1
  have hown : s.vm.findClass RL = some m.cls := S.2.2.2.1
  have hts := S.2.2.2.2
  have hA : ∀ q : Nat, s.heap.size ≤ q → (fun q : Nat => s.heap.size ≤ q) q := fun _ h => h
  have hbA : ¬ (fun q : Nat => s.heap.size ≤ q) b := Nat.not_le.mpr hbl
  have hK2 : va_K (dC, dI) vwCl (TYS cI cZ) s := hK.sub [0, 1] rfl
  unfold p_L_C8 at hok
  refine lv_aload_n hx hb dL_law_735 rfl (lv_at hl 1 rfl) ?_
  refine lv_aload_n hx hb dL_law_736 rfl (lv_at hl 0 rfl) ?_
  refine lv_iload hx hb dL_law_737 (lv_at hl 4 rfl) ?_
  refine lv_iconst (v := (1 : Int32)) hx hb dL_law_739 (by decide) ?_
  refine lv_iadd hx hb dL_law_740 ?_
  obtain ⟨hi1, hok⟩ := gd_some hok
  refine va_sld hx hb hXs hbl hbA hS hi1 dL_law_741 ?_
  refine lv_aload_n hx hb dL_law_742 rfl (lv_at hl 3 rfl) ?_
  obtain ⟨v2, hc2, hok⟩ := bd_some hok
  refine cHSi [.ref n0, .int (xs (i + (1 : Int32)).toNatClampNeg), .ref o0] S hK (va_Psuf hP) (va_Dsuf hD) hS hA hX hxn (c_L_passHours l hlt dC dI cI cZ cJ n0 h0 h3 h4 h5 h6 c0 c8 c9 c10 c11 c12 c13 t0 t8 t9 t10 t11 t12 t13 i0 i1 i2 i3 i4 m0 m1 m2 o0 _ sa uH uC uT uI uM fO (xs (i + (1 : Int32)).toNatClampNeg) hc2) (lw_S qm_L_150 qt_L_passHours qn_L qc_L_passHours) hd_L_passHours ⟨rfl, rfl⟩ ⟨Nat.le_of_ble_eq_true rfl, Nat.le_of_ble_eq_true rfl⟩ ⟨by show kc + 1 ≤ 601024; omega, by show sc + 6 ≤ 7293034; omega⟩ rfl hl.1 (Nat.le_of_ble_eq_true rfl) rfl dL_law_743 (fun H1 hk9 h9 => fr_joinR hP hD K_NO hk9 h9) (D_W hD) (fun H locs hP hD hS => ?_)
  refine lv_istore (lv' := [(5, .int v2.1), (0, .ref b), (1, .ref n0), (2, .ref l0), (3, .ref o0), (4, .int i)]) hx hb dL_law_746 hl (by decide) rfl (fun ls hl => ?_)
  refine lv_aload_n hx hb dL_law_748 rfl (lv_at hl 3 rfl) ?_
  refine lv_aload_n hx hb dL_law_749 rfl (lv_at hl 1 rfl) ?_
  refine lv_iload hx hb dL_law_750 (lv_at hl 5 rfl) ?_
  refine lv_iconst (v := (1 : Int32)) hx hb dL_law_752 (by decide) ?_
  refine lv_iadd hx hb dL_law_753 ?_
  refine va_sld hx hb hXs hbl hbA hS hi1 dL_law_754 ?_
  obtain ⟨v3, hc3, hok⟩ := bd_some hok
  refine cUVi (ci := 5) (q0 := 0) [.int (xs (i + (1 : Int32)).toNatClampNeg)] S hK2 (va_Pmid (wa := []) hP) (va_Dmid (wa := []) hD) hS hA (c_X5_passHours l dC dI cI cZ l0 l4 l5 l6 l8 l10 l11 l12 l13 l14 l15 l16 _ uL (xs (i + (1 : Int32)).toNatClampNeg) hc3) (lw_V qm_L_152 qi_X5_passHours qs_X5_passHours qn_X5 qc_X5_passHours) hd_X5_passHours ⟨rfl, rfl⟩ ⟨Nat.le_of_ble_eq_true rfl, Nat.le_of_ble_eq_true rfl⟩ ⟨by show (kc + 1) + 0 ≤ 601024; omega, by show (sc + 6) + 0 ≤ 7293034; omega⟩ rfl rfl rfl hl.1 (Nat.le_of_ble_eq_true rfl) rfl dL_law_755 (fun H1 hk9 h9 => fr_joinM (wa := []) hP hD K_L hk9 h9) (D_W hD) (fun H locs hP hD hS => ?_)
  refine lv_istore (lv' := [(6, .int v3.1), (5, .int v2.1), (0, .ref b), (1, .ref n0), (2, .ref l0), (3, .ref o0), (4, .int i)]) hx hb dL_law_758 hl (by decide) rfl (fun ls hl => ?_)
  refine lv_aload_n hx hb dL_law_760 rfl (lv_at hl 4 rfl) ?_
  obtain ⟨v4, hc4, hok⟩ := bd_some hok
  refine cRVi (ci := 5) (q0 := 0) [] S hK2 (va_Pmid (wa := []) hP) (c_X5_thrown l dC dI cI cZ l0 l4 l5 l6 l8 l10 l11 l12 l13 l14 l15 l16 v3.2 hc4) (lw_V qm_L_122 qi_X5_thrown qs_X5_thrown qn_X5 qc_X5_thrown) hd_X5_thrown ⟨rfl, rfl⟩ ⟨Nat.le_of_ble_eq_true rfl, Nat.le_of_ble_eq_true rfl⟩ ⟨by show ((kc + 1) + 0) ≤ 601024; omega, by show ((sc + 6) + 0) ≤ 7293034; omega⟩ rfl rfl rfl hl.1 (Nat.le_of_ble_eq_true rfl) rfl dL_law_761 ?_
  refine lv_iload hx hb dL_law_764 (lv_at hl 1 rfl) ?_
  refine lv_icmp_eq (tgt := 771) hx hb dL_law_766 (by decide) (fun hc => ?_) (fun hc => ?_)
  · have hok := ip hok hc
    refine lv_iload hx hb dL_law_771 (lv_at hl 1 rfl) ?_
    refine lv_if_ne (tgt := 788) hx hb dL_law_773 (by decide) (fun hc => ?_) (fun hc => ?_)
    · have hok := iq hok hc
      refine lv_goto (tgt := 2451) hx hb dL_law_788 (by decide) ?_
      have hok := Option.some.inj hok
      subst hok
      exact hk _ _ _ _ (by omega) (by omega) hP hD hS _ (lv_sub hl [2, 3, 4, 5, 6] rfl)
    · have hok := ip hok hc
      refine lv_aload_n hx hb dL_law_776 rfl (lv_at hl 5 rfl) ?_
      refine lv_iconst (v := (0 : Int32)) hx hb dL_law_777 (by decide) ?_
      refine va_laldK hx hb hK hP 40 2 rfl rfl (j := 0) (by decide) (vp_inK (by decide)) dL_law_778 ?_
      refine lv_iload hx hb dL_law_779 (lv_at hl 0 rfl) ?_
      refine lv_i2l (v := v3.1.toInt64) hx hb dL_law_781 rfl ?_
      refine W.lcmp hx hb dL_law_782 ?_
      refine lv_if_eq (tgt := 788) hx hb dL_law_783 (by decide) (fun hc => ?_) (fun hc => ?_)
      · have hok := ip hok hc
        refine lv_goto (tgt := 2451) hx hb dL_law_788 (by decide) ?_
        have hok := Option.some.inj hok
        subst hok
        exact hk _ _ _ _ (by omega) (by omega) hP hD hS _ (lv_sub hl [2, 3, 4, 5, 6] rfl)
      · have hok := iq hok hc
        refine lv_iconst (v := (0 : Int32)) hx hb dL_law_786 (by decide) ?_
        cases hok
  · have hok := iq hok hc
    refine lv_iconst (v := (0 : Int32)) hx hb dL_law_769 (by decide) ?_
    cases hok
