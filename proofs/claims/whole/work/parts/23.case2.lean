def p_L_C18 (xs : Nat → Int32) (Lc : Nat) (i : Int32) (uL : tX5) (uH : tX1) (uC : tX0) (uT : tX0) (uI : tX2) (uM : tX3) (fO : Nat → Int64) : Option (tX5 × tX1 × tX0 × tX0 × tX2 × tX3 × (Nat → Int64)) :=
  bd (p_X4_suspense uH uC uT uI uM) (fun v1 =>
  bd (p_X5_suspense uL) (fun v2 =>
  if v1 = v2.1 then
    some (v2.2, uH, uC, uT, uI, uM, fO)
  else
    none))
set_option maxHeartbeats 4000000 in
set_option maxRecDepth 100000 in
theorem c_L_C18 {p : Program} {e : Env} {s : State} {m : MethodId} {below : List Frame} {meth : Method} {c : Code} (l : Launch) (hlt : l.stackTraces = false) (dC : Nat → ClassId) (dI : Nat → Nat → Nat) (cI cZ cJ : ClassId) (sa : Nat → Nat) (l0 l4 l5 l6 l8 l10 l11 l12 l13 l14 l15 l16 n0 h0 h3 h4 h5 h6 c0 c8 c9 c10 c11 c12 c13 t0 t8 t9 t10 t11 t12 t13 i0 i1 i2 i3 i4 m0 m1 m2 o0 : Nat) {b Lc : Nat} {xs : Nat → Int32} (S : CallFix p m c cL_law 9 s #[Value.ref b] lw_all RL) (hK : va_K (dC, dI) vwCl (TYJ cI cZ cJ) s) (hX : xb (fun q : Nat => s.heap.size ≤ q) sa s) (hxn : xn s) (hXs : va_X b Lc xs s s.heap) (hbl : b < s.heap.size) (i : Int32) (uL : tX5) (uH : tX1) (uC : tX0) (uT : tX0) (uI : tX2) (uM : tX3) (fO : Nat → Int64) {z : (tX5 × tX1 × tX0 × tX0 × tX2 × tX3 × (Nat → Int64))} (hok : p_L_C18 xs Lc i uL uH uC uT uI uM fO = some z) {Q : State → Prop} {kc sc : Nat} (hkc : kc + 565 ≤ 601024) (hsc : sc + 3393 ≤ 7293034) (H : Heap) (locs : List Loc) (hP : va_P (dC, dI) vwCl (wX5 cI cZ l0 l4 l5 l6 l8 l10 l11 l12 l13 l14 l15 l16 uL ++ (wN cI cZ n0 h0 h3 h4 h5 h6 c0 c8 c9 c10 c11 c12 c13 t0 t8 t9 t10 t11 t12 t13 i0 i1 i2 i3 i4 m0 m1 m2 uH uC uT uI uM ++ [(o0, .inl (cJ, 1, .inr (.inl fO)))])) H) (hD : va_D (fun q : Nat => s.heap.size ≤ q) (wX5 cI cZ l0 l4 l5 l6 l8 l10 l11 l12 l13 l14 l15 l16 uL ++ (wN cI cZ n0 h0 h3 h4 h5 h6 c0 c8 c9 c10 c11 c12 c13 t0 t8 t9 t10 t11 t12 t13 i0 i1 i2 i3 i4 m0 m1 m2 uH uC uT uI uM ++ [(o0, .inl (cJ, 1, .inr (.inl fO)))]))) (hS : va_S (fun q : Nat => s.heap.size ≤ q) s.heap H locs) (ls : Array Slot) (hl : lv_has ls 9 [(0, .ref b), (1, .ref n0), (2, .ref l0), (3, .ref o0), (4, .int i)])
    (hk : ∀ (kc' sc' : Nat) (H : Heap) (locs : List Loc), kc' ≤ kc + 565 → sc' ≤ sc + 3393 → va_P (dC, dI) vwCl (wX5 cI cZ l0 l4 l5 l6 l8 l10 l11 l12 l13 l14 l15 l16 z.1 ++ (wN cI cZ n0 h0 h3 h4 h5 h6 c0 c8 c9 c10 c11 c12 c13 t0 t8 t9 t10 t11 t12 t13 i0 i1 i2 i3 i4 m0 m1 m2 z.2.1 z.2.2.1 z.2.2.2.1 z.2.2.2.2.1 z.2.2.2.2.2.1 ++ [(o0, .inl (cJ, 1, .inr (.inl z.2.2.2.2.2.2)))])) H → va_D (fun q : Nat => s.heap.size ≤ q) (wX5 cI cZ l0 l4 l5 l6 l8 l10 l11 l12 l13 l14 l15 l16 z.1 ++ (wN cI cZ n0 h0 h3 h4 h5 h6 c0 c8 c9 c10 c11 c12 c13 t0 t8 t9 t10 t11 t12 t13 i0 i1 i2 i3 i4 m0 m1 m2 z.2.1 z.2.2.1 z.2.2.2.1 z.2.2.2.2.1 z.2.2.2.2.2.1 ++ [(o0, .inl (cJ, 1, .inr (.inl z.2.2.2.2.2.2)))])) → va_S (fun q : Nat => s.heap.size ≤ q) s.heap H locs → ∀ (ls : Array Slot), lv_has ls 9 [(0, .ref b), (1, .ref n0), (2, .ref l0), (3, .ref o0), (4, .int i)] → W p l e room_1 s m #[Value.ref b] below meth c H locs kc' sc' Q (F0 m 2451 ls [])) : W p l e room_1 s m #[Value.ref b] below meth c H locs kc sc Q (F0 m 958 ls []) := by
  have hx := S.1
  have hb := S.2.1
  have hml := S.2.2.1
  have hown : s.vm.findClass RL = some m.cls := S.2.2.2.1
  have hts := S.2.2.2.2
  have hA : ∀ q : Nat, s.heap.size ≤ q → (fun q : Nat => s.heap.size ≤ q) q := fun _ h => h
  have hbA : ¬ (fun q : Nat => s.heap.size ≤ q) b := Nat.not_le.mpr hbl
  have hK2 : va_K (dC, dI) vwCl (TYS cI cZ) s := hK.sub [0, 1] rfl
  unfold p_L_C18 at hok
  refine lv_aload_n hx hb dL_law_958 rfl (lv_at hl 1 rfl) ?_
  obtain ⟨v1, hc1, hok⟩ := bd_some hok
  refine cRVi (ci := 4) (q0 := 0) [] S hK2 (va_Pmid hP) (c_X4_suspense l dC dI cI cZ n0 h0 h3 h4 h5 h6 c0 c8 c9 c10 c11 c12 c13 t0 t8 t9 t10 t11 t12 t13 i0 i1 i2 i3 i4 m0 m1 m2 uH uC uT uI uM hc1) (lw_V qm_L_188 qi_X4_suspense qs_X4_suspense qn_X4 qc_X4_suspense) hd_X4_suspense ⟨rfl, rfl⟩ ⟨Nat.le_of_ble_eq_true rfl, Nat.le_of_ble_eq_true rfl⟩ ⟨by show kc ≤ 601024; omega, by show sc ≤ 7293034; omega⟩ rfl rfl rfl hl.1 (Nat.le_of_ble_eq_true rfl) rfl dL_law_959 ?_
  refine lv_aload_n hx hb dL_law_962 rfl (lv_at hl 2 rfl) ?_
  obtain ⟨v2, hc2, hok⟩ := bd_some hok
  refine cUVi (ci := 5) (q0 := 0) [] S hK2 (va_Pmid (wa := []) hP) (va_Dmid (wa := []) hD) hS hA (c_X5_suspense l dC dI cI cZ l0 l4 l5 l6 l8 l10 l11 l12 l13 l14 l15 l16 _ uL hc2) (lw_V qm_L_191 qi_X5_suspense qs_X5_suspense qn_X5 qc_X5_suspense) hd_X5_suspense ⟨rfl, rfl⟩ ⟨Nat.le_of_ble_eq_true rfl, Nat.le_of_ble_eq_true rfl⟩ ⟨by show kc + 0 ≤ 601024; omega, by show sc + 0 ≤ 7293034; omega⟩ rfl rfl rfl hl.1 (Nat.le_of_ble_eq_true rfl) rfl dL_law_963 (fun H1 hk9 h9 => fr_joinM (wa := []) hP hD K_L hk9 h9) (D_W hD) (fun H locs hP hD hS => ?_)
  refine lv_icmp_eq (tgt := 2451) hx hb dL_law_966 (by decide) (fun hc => ?_) (fun hc => ?_)
  · have hok := ip hok hc
    have hok := Option.some.inj hok
    subst hok
    exact hk _ _ _ _ (by omega) (by omega) hP hD hS _ (lv_sub hl [0, 1, 2, 3, 4] rfl)
  · have hok := iq hok hc
    refine lv_iconst (v := (0 : Int32)) hx hb dL_law_969 (by decide) ?_
    cases hok
def p_L_C19 (xs : Nat → Int32) (Lc : Nat) (i : Int32) (uL : tX5) (uH : tX1) (uC : tX0) (uT : tX0) (uI : tX2) (uM : tX3) (fO : Nat → Int64) : Option (tX5 × tX1 × tX0 × tX0 × tX2 × tX3 × (Nat → Int64)) :=
  gd (i + (1 : Int32)) Lc (
  bd (p_L_paragraphs uH uC uT uI uM fO (xs (i + (1 : Int32)).toNatClampNeg)) (fun v2 =>
  bd (p_X5_paragraphs uL (xs (i + (1 : Int32)).toNatClampNeg)) (fun v3 =>
  bd (p_X5_thrown v3.2) (fun v4 =>
  if v4 = v2.1 then
    if v2.1 = 0 then
      if (lg_cmp (v2.2 0) v3.1.toInt64) = 0 then
        some (v3.2, uH, uC, uT, uI, uM, v2.2)
      else
        none
    else
      some (v3.2, uH, uC, uT, uI, uM, v2.2)
  else
    none))))
set_option maxHeartbeats 4000000 in
set_option maxRecDepth 100000 in
theorem c_L_C19 {p : Program} {e : Env} {s : State} {m : MethodId} {below : List Frame} {meth : Method} {c : Code} (l : Launch) (hlt : l.stackTraces = false) (dC : Nat → ClassId) (dI : Nat → Nat → Nat) (cI cZ cJ : ClassId) (sa : Nat → Nat) (l0 l4 l5 l6 l8 l10 l11 l12 l13 l14 l15 l16 n0 h0 h3 h4 h5 h6 c0 c8 c9 c10 c11 c12 c13 t0 t8 t9 t10 t11 t12 t13 i0 i1 i2 i3 i4 m0 m1 m2 o0 : Nat) {b Lc : Nat} {xs : Nat → Int32} (S : CallFix p m c cL_law 9 s #[Value.ref b] lw_all RL) (hK : va_K (dC, dI) vwCl (TYJ cI cZ cJ) s) (hX : xb (fun q : Nat => s.heap.size ≤ q) sa s) (hxn : xn s) (hXs : va_X b Lc xs s s.heap) (hbl : b < s.heap.size) (i : Int32) (uL : tX5) (uH : tX1) (uC : tX0) (uT : tX0) (uI : tX2) (uM : tX3) (fO : Nat → Int64) {z : (tX5 × tX1 × tX0 × tX0 × tX2 × tX3 × (Nat → Int64))} (hok : p_L_C19 xs Lc i uL uH uC uT uI uM fO = some z) {Q : State → Prop} {kc sc : Nat} (hkc : kc + 565 ≤ 601024) (hsc : sc + 3393 ≤ 7293034) (H : Heap) (locs : List Loc) (hP : va_P (dC, dI) vwCl (wX5 cI cZ l0 l4 l5 l6 l8 l10 l11 l12 l13 l14 l15 l16 uL ++ (wN cI cZ n0 h0 h3 h4 h5 h6 c0 c8 c9 c10 c11 c12 c13 t0 t8 t9 t10 t11 t12 t13 i0 i1 i2 i3 i4 m0 m1 m2 uH uC uT uI uM ++ [(o0, .inl (cJ, 1, .inr (.inl fO)))])) H) (hD : va_D (fun q : Nat => s.heap.size ≤ q) (wX5 cI cZ l0 l4 l5 l6 l8 l10 l11 l12 l13 l14 l15 l16 uL ++ (wN cI cZ n0 h0 h3 h4 h5 h6 c0 c8 c9 c10 c11 c12 c13 t0 t8 t9 t10 t11 t12 t13 i0 i1 i2 i3 i4 m0 m1 m2 uH uC uT uI uM ++ [(o0, .inl (cJ, 1, .inr (.inl fO)))]))) (hS : va_S (fun q : Nat => s.heap.size ≤ q) s.heap H locs) (ls : Array Slot) (hl : lv_has ls 9 [(0, .ref b), (1, .ref n0), (2, .ref l0), (3, .ref o0), (4, .int i)])
    (hk : ∀ (kc' sc' : Nat) (H : Heap) (locs : List Loc), kc' ≤ kc + 565 → sc' ≤ sc + 3393 → va_P (dC, dI) vwCl (wX5 cI cZ l0 l4 l5 l6 l8 l10 l11 l12 l13 l14 l15 l16 z.1 ++ (wN cI cZ n0 h0 h3 h4 h5 h6 c0 c8 c9 c10 c11 c12 c13 t0 t8 t9 t10 t11 t12 t13 i0 i1 i2 i3 i4 m0 m1 m2 z.2.1 z.2.2.1 z.2.2.2.1 z.2.2.2.2.1 z.2.2.2.2.2.1 ++ [(o0, .inl (cJ, 1, .inr (.inl z.2.2.2.2.2.2)))])) H → va_D (fun q : Nat => s.heap.size ≤ q) (wX5 cI cZ l0 l4 l5 l6 l8 l10 l11 l12 l13 l14 l15 l16 z.1 ++ (wN cI cZ n0 h0 h3 h4 h5 h6 c0 c8 c9 c10 c11 c12 c13 t0 t8 t9 t10 t11 t12 t13 i0 i1 i2 i3 i4 m0 m1 m2 z.2.1 z.2.2.1 z.2.2.2.1 z.2.2.2.2.1 z.2.2.2.2.2.1 ++ [(o0, .inl (cJ, 1, .inr (.inl z.2.2.2.2.2.2)))])) → va_S (fun q : Nat => s.heap.size ≤ q) s.heap H locs → ∀ (ls : Array Slot), lv_has ls 9 [(0, .ref b), (1, .ref n0), (2, .ref l0), (3, .ref o0), (4, .int i)] → W p l e room_1 s m #[Value.ref b] below meth c H locs kc' sc' Q (F0 m 2451 ls [])) : W p l e room_1 s m #[Value.ref b] below meth c H locs kc sc Q (F0 m 971 ls []) := by
  have hx := S.1
  have hb := S.2.1
  have hml := S.2.2.1
  have hown : s.vm.findClass RL = some m.cls := S.2.2.2.1
  have hts := S.2.2.2.2
  have hA : ∀ q : Nat, s.heap.size ≤ q → (fun q : Nat => s.heap.size ≤ q) q := fun _ h => h
  have hbA : ¬ (fun q : Nat => s.heap.size ≤ q) b := Nat.not_le.mpr hbl
  have hK2 : va_K (dC, dI) vwCl (TYS cI cZ) s := hK.sub [0, 1] rfl
  unfold p_L_C19 at hok
  refine lv_aload_n hx hb dL_law_971 rfl (lv_at hl 1 rfl) ?_
  refine lv_aload_n hx hb dL_law_972 rfl (lv_at hl 0 rfl) ?_
  refine lv_iload hx hb dL_law_973 (lv_at hl 4 rfl) ?_
  refine lv_iconst (v := (1 : Int32)) hx hb dL_law_975 (by decide) ?_
  refine lv_iadd hx hb dL_law_976 ?_
  obtain ⟨hi1, hok⟩ := gd_some hok
  refine va_sld hx hb hXs hbl hbA hS hi1 dL_law_977 ?_
  refine lv_aload_n hx hb dL_law_978 rfl (lv_at hl 3 rfl) ?_
  obtain ⟨v2, hc2, hok⟩ := bd_some hok
  refine cHSi [.ref n0, .int (xs (i + (1 : Int32)).toNatClampNeg), .ref o0] S hK (va_Psuf hP) (va_Dsuf hD) hS hA hX hxn (c_L_paragraphs l hlt dC dI cI cZ cJ n0 h0 h3 h4 h5 h6 c0 c8 c9 c10 c11 c12 c13 t0 t8 t9 t10 t11 t12 t13 i0 i1 i2 i3 i4 m0 m1 m2 o0 _ sa uH uC uT uI uM fO (xs (i + (1 : Int32)).toNatClampNeg) hc2) (lw_S qm_L_192 qt_L_paragraphs qn_L qc_L_paragraphs) hd_L_paragraphs ⟨rfl, rfl⟩ ⟨Nat.le_of_ble_eq_true rfl, Nat.le_of_ble_eq_true rfl⟩ ⟨by show kc + 1 ≤ 601024; omega, by show sc + 6 ≤ 7293034; omega⟩ rfl hl.1 (Nat.le_of_ble_eq_true rfl) rfl dL_law_979 (fun H1 hk9 h9 => fr_joinR hP hD K_NO hk9 h9) (D_W hD) (fun H locs hP hD hS => ?_)
  refine lv_istore (lv' := [(5, .int v2.1), (0, .ref b), (1, .ref n0), (2, .ref l0), (3, .ref o0), (4, .int i)]) hx hb dL_law_982 hl (by decide) rfl (fun ls hl => ?_)
  refine lv_aload_n hx hb dL_law_984 rfl (lv_at hl 3 rfl) ?_
  refine lv_aload_n hx hb dL_law_985 rfl (lv_at hl 1 rfl) ?_
  refine lv_iload hx hb dL_law_986 (lv_at hl 5 rfl) ?_
  refine lv_iconst (v := (1 : Int32)) hx hb dL_law_988 (by decide) ?_
  refine lv_iadd hx hb dL_law_989 ?_
  refine va_sld hx hb hXs hbl hbA hS hi1 dL_law_990 ?_
  obtain ⟨v3, hc3, hok⟩ := bd_some hok
  refine cUVi (ci := 5) (q0 := 0) [.int (xs (i + (1 : Int32)).toNatClampNeg)] S hK2 (va_Pmid (wa := []) hP) (va_Dmid (wa := []) hD) hS hA (c_X5_paragraphs l dC dI cI cZ l0 l4 l5 l6 l8 l10 l11 l12 l13 l14 l15 l16 _ uL (xs (i + (1 : Int32)).toNatClampNeg) hc3) (lw_V qm_L_194 qi_X5_paragraphs qs_X5_paragraphs qn_X5 qc_X5_paragraphs) hd_X5_paragraphs ⟨rfl, rfl⟩ ⟨Nat.le_of_ble_eq_true rfl, Nat.le_of_ble_eq_true rfl⟩ ⟨by show (kc + 1) + 0 ≤ 601024; omega, by show (sc + 6) + 0 ≤ 7293034; omega⟩ rfl rfl rfl hl.1 (Nat.le_of_ble_eq_true rfl) rfl dL_law_991 (fun H1 hk9 h9 => fr_joinM (wa := []) hP hD K_L hk9 h9) (D_W hD) (fun H locs hP hD hS => ?_)
  refine lv_istore (lv' := [(6, .int v3.1), (5, .int v2.1), (0, .ref b), (1, .ref n0), (2, .ref l0), (3, .ref o0), (4, .int i)]) hx hb dL_law_994 hl (by decide) rfl (fun ls hl => ?_)
  refine lv_aload_n hx hb dL_law_996 rfl (lv_at hl 4 rfl) ?_
  obtain ⟨v4, hc4, hok⟩ := bd_some hok
  refine cRVi (ci := 5) (q0 := 0) [] S hK2 (va_Pmid (wa := []) hP) (c_X5_thrown l dC dI cI cZ l0 l4 l5 l6 l8 l10 l11 l12 l13 l14 l15 l16 v3.2 hc4) (lw_V qm_L_122 qi_X5_thrown qs_X5_thrown qn_X5 qc_X5_thrown) hd_X5_thrown ⟨rfl, rfl⟩ ⟨Nat.le_of_ble_eq_true rfl, Nat.le_of_ble_eq_true rfl⟩ ⟨by show ((kc + 1) + 0) ≤ 601024; omega, by show ((sc + 6) + 0) ≤ 7293034; omega⟩ rfl rfl rfl hl.1 (Nat.le_of_ble_eq_true rfl) rfl dL_law_997 ?_
  refine lv_iload hx hb dL_law_1000 (lv_at hl 1 rfl) ?_
  refine lv_icmp_eq (tgt := 1007) hx hb dL_law_1002 (by decide) (fun hc => ?_) (fun hc => ?_)
  · have hok := ip hok hc
    refine lv_iload hx hb dL_law_1007 (lv_at hl 1 rfl) ?_
    refine lv_if_ne (tgt := 1024) hx hb dL_law_1009 (by decide) (fun hc => ?_) (fun hc => ?_)
    · have hok := iq hok hc
      refine lv_goto (tgt := 2451) hx hb dL_law_1024 (by decide) ?_
      have hok := Option.some.inj hok
      subst hok
      exact hk _ _ _ _ (by omega) (by omega) hP hD hS _ (lv_sub hl [2, 3, 4, 5, 6] rfl)
    · have hok := ip hok hc
      refine lv_aload_n hx hb dL_law_1012 rfl (lv_at hl 5 rfl) ?_
      refine lv_iconst (v := (0 : Int32)) hx hb dL_law_1013 (by decide) ?_
      refine va_laldK hx hb hK hP 40 2 rfl rfl (j := 0) (by decide) (vp_inK (by decide)) dL_law_1014 ?_
      refine lv_iload hx hb dL_law_1015 (lv_at hl 0 rfl) ?_
      refine lv_i2l (v := v3.1.toInt64) hx hb dL_law_1017 rfl ?_
      refine W.lcmp hx hb dL_law_1018 ?_
      refine lv_if_eq (tgt := 1024) hx hb dL_law_1019 (by decide) (fun hc => ?_) (fun hc => ?_)
      · have hok := ip hok hc
        refine lv_goto (tgt := 2451) hx hb dL_law_1024 (by decide) ?_
        have hok := Option.some.inj hok
        subst hok
        exact hk _ _ _ _ (by omega) (by omega) hP hD hS _ (lv_sub hl [2, 3, 4, 5, 6] rfl)
      · have hok := iq hok hc
        refine lv_iconst (v := (0 : Int32)) hx hb dL_law_1022 (by decide) ?_
        cases hok
  · have hok := iq hok hc
    refine lv_iconst (v := (0 : Int32)) hx hb dL_law_1005 (by decide) ?_
    cases hok
def p_L_C20 (xs : Nat → Int32) (Lc : Nat) (i : Int32) (uL : tX5) (uH : tX1) (uC : tX0) (uT : tX0) (uI : tX2) (uM : tX3) (fO : Nat → Int64) : Option (tX5 × tX1 × tX0 × tX0 × tX2 × tX3 × (Nat → Int64)) :=
  gd (i + (1 : Int32)) Lc (
  bd (p_L_nextParagraph uH uC uT uI uM fO (xs (i + (1 : Int32)).toNatClampNeg)) (fun v2 =>
  bd (p_X5_nextParagraph uL (xs (i + (1 : Int32)).toNatClampNeg)) (fun v3 =>
  bd (p_X5_thrown v3.2) (fun v4 =>
  if v4 = v2.1 then
    if v2.1 = 0 then
      if (lg_cmp (v2.2 0) v3.1.toInt64) = 0 then
        some (v3.2, uH, uC, uT, uI, uM, v2.2)
      else
        none
    else
      some (v3.2, uH, uC, uT, uI, uM, v2.2)
  else
    none))))
set_option maxHeartbeats 4000000 in
set_option maxRecDepth 100000 in
theorem c_L_C20 {p : Program} {e : Env} {s : State} {m : MethodId} {below : List Frame} {meth : Method} {c : Code} (l : Launch) (hlt : l.stackTraces = false) (dC : Nat → ClassId) (dI : Nat → Nat → Nat) (cI cZ cJ : ClassId) (sa : Nat → Nat) (l0 l4 l5 l6 l8 l10 l11 l12 l13 l14 l15 l16 n0 h0 h3 h4 h5 h6 c0 c8 c9 c10 c11 c12 c13 t0 t8 t9 t10 t11 t12 t13 i0 i1 i2 i3 i4 m0 m1 m2 o0 : Nat) {b Lc : Nat} {xs : Nat → Int32} (S : CallFix p m c cL_law 9 s #[Value.ref b] lw_all RL) (hK : va_K (dC, dI) vwCl (TYJ cI cZ cJ) s) (hX : xb (fun q : Nat => s.heap.size ≤ q) sa s) (hxn : xn s) (hXs : va_X b Lc xs s s.heap) (hbl : b < s.heap.size) (i : Int32) (uL : tX5) (uH : tX1) (uC : tX0) (uT : tX0) (uI : tX2) (uM : tX3) (fO : Nat → Int64) {z : (tX5 × tX1 × tX0 × tX0 × tX2 × tX3 × (Nat → Int64))} (hok : p_L_C20 xs Lc i uL uH uC uT uI uM fO = some z) {Q : State → Prop} {kc sc : Nat} (hkc : kc + 565 ≤ 601024) (hsc : sc + 3393 ≤ 7293034) (H : Heap) (locs : List Loc) (hP : va_P (dC, dI) vwCl (wX5 cI cZ l0 l4 l5 l6 l8 l10 l11 l12 l13 l14 l15 l16 uL ++ (wN cI cZ n0 h0 h3 h4 h5 h6 c0 c8 c9 c10 c11 c12 c13 t0 t8 t9 t10 t11 t12 t13 i0 i1 i2 i3 i4 m0 m1 m2 uH uC uT uI uM ++ [(o0, .inl (cJ, 1, .inr (.inl fO)))])) H) (hD : va_D (fun q : Nat => s.heap.size ≤ q) (wX5 cI cZ l0 l4 l5 l6 l8 l10 l11 l12 l13 l14 l15 l16 uL ++ (wN cI cZ n0 h0 h3 h4 h5 h6 c0 c8 c9 c10 c11 c12 c13 t0 t8 t9 t10 t11 t12 t13 i0 i1 i2 i3 i4 m0 m1 m2 uH uC uT uI uM ++ [(o0, .inl (cJ, 1, .inr (.inl fO)))]))) (hS : va_S (fun q : Nat => s.heap.size ≤ q) s.heap H locs) (ls : Array Slot) (hl : lv_has ls 9 [(0, .ref b), (1, .ref n0), (2, .ref l0), (3, .ref o0), (4, .int i)])
    (hk : ∀ (kc' sc' : Nat) (H : Heap) (locs : List Loc), kc' ≤ kc + 565 → sc' ≤ sc + 3393 → va_P (dC, dI) vwCl (wX5 cI cZ l0 l4 l5 l6 l8 l10 l11 l12 l13 l14 l15 l16 z.1 ++ (wN cI cZ n0 h0 h3 h4 h5 h6 c0 c8 c9 c10 c11 c12 c13 t0 t8 t9 t10 t11 t12 t13 i0 i1 i2 i3 i4 m0 m1 m2 z.2.1 z.2.2.1 z.2.2.2.1 z.2.2.2.2.1 z.2.2.2.2.2.1 ++ [(o0, .inl (cJ, 1, .inr (.inl z.2.2.2.2.2.2)))])) H → va_D (fun q : Nat => s.heap.size ≤ q) (wX5 cI cZ l0 l4 l5 l6 l8 l10 l11 l12 l13 l14 l15 l16 z.1 ++ (wN cI cZ n0 h0 h3 h4 h5 h6 c0 c8 c9 c10 c11 c12 c13 t0 t8 t9 t10 t11 t12 t13 i0 i1 i2 i3 i4 m0 m1 m2 z.2.1 z.2.2.1 z.2.2.2.1 z.2.2.2.2.1 z.2.2.2.2.2.1 ++ [(o0, .inl (cJ, 1, .inr (.inl z.2.2.2.2.2.2)))])) → va_S (fun q : Nat => s.heap.size ≤ q) s.heap H locs → ∀ (ls : Array Slot), lv_has ls 9 [(0, .ref b), (1, .ref n0), (2, .ref l0), (3, .ref o0), (4, .int i)] → W p l e room_1 s m #[Value.ref b] below meth c H locs kc' sc' Q (F0 m 2451 ls [])) : W p l e room_1 s m #[Value.ref b] below meth c H locs kc sc Q (F0 m 1027 ls []) := by
  have hx := S.1
  have hb := S.2.1
  have hml := S.2.2.1
  have hown : s.vm.findClass RL = some m.cls := S.2.2.2.1
  have hts := S.2.2.2.2
  have hA : ∀ q : Nat, s.heap.size ≤ q → (fun q : Nat => s.heap.size ≤ q) q := fun _ h => h
  have hbA : ¬ (fun q : Nat => s.heap.size ≤ q) b := Nat.not_le.mpr hbl
  have hK2 : va_K (dC, dI) vwCl (TYS cI cZ) s := hK.sub [0, 1] rfl
  unfold p_L_C20 at hok
  refine lv_aload_n hx hb dL_law_1027 rfl (lv_at hl 1 rfl) ?_
  refine lv_aload_n hx hb dL_law_1028 rfl (lv_at hl 0 rfl) ?_
  refine lv_iload hx hb dL_law_1029 (lv_at hl 4 rfl) ?_
  refine lv_iconst (v := (1 : Int32)) hx hb dL_law_1031 (by decide) ?_
  refine lv_iadd hx hb dL_law_1032 ?_
  obtain ⟨hi1, hok⟩ := gd_some hok
  refine va_sld hx hb hXs hbl hbA hS hi1 dL_law_1033 ?_
  refine lv_aload_n hx hb dL_law_1034 rfl (lv_at hl 3 rfl) ?_
  obtain ⟨v2, hc2, hok⟩ := bd_some hok
  refine cHSi [.ref n0, .int (xs (i + (1 : Int32)).toNatClampNeg), .ref o0] S hK (va_Psuf hP) (va_Dsuf hD) hS hA hX hxn (c_L_nextParagraph l hlt dC dI cI cZ cJ n0 h0 h3 h4 h5 h6 c0 c8 c9 c10 c11 c12 c13 t0 t8 t9 t10 t11 t12 t13 i0 i1 i2 i3 i4 m0 m1 m2 o0 _ sa uH uC uT uI uM fO (xs (i + (1 : Int32)).toNatClampNeg) hc2) (lw_S qm_L_195 qt_L_nextParagraph qn_L qc_L_nextParagraph) hd_L_nextParagraph ⟨rfl, rfl⟩ ⟨Nat.le_of_ble_eq_true rfl, Nat.le_of_ble_eq_true rfl⟩ ⟨by show kc + 1 ≤ 601024; omega, by show sc + 6 ≤ 7293034; omega⟩ rfl hl.1 (Nat.le_of_ble_eq_true rfl) rfl dL_law_1035 (fun H1 hk9 h9 => fr_joinR hP hD K_NO hk9 h9) (D_W hD) (fun H locs hP hD hS => ?_)
  refine lv_istore (lv' := [(5, .int v2.1), (0, .ref b), (1, .ref n0), (2, .ref l0), (3, .ref o0), (4, .int i)]) hx hb dL_law_1038 hl (by decide) rfl (fun ls hl => ?_)
  refine lv_aload_n hx hb dL_law_1040 rfl (lv_at hl 3 rfl) ?_
  refine lv_aload_n hx hb dL_law_1041 rfl (lv_at hl 1 rfl) ?_
  refine lv_iload hx hb dL_law_1042 (lv_at hl 5 rfl) ?_
  refine lv_iconst (v := (1 : Int32)) hx hb dL_law_1044 (by decide) ?_
  refine lv_iadd hx hb dL_law_1045 ?_
  refine va_sld hx hb hXs hbl hbA hS hi1 dL_law_1046 ?_
  obtain ⟨v3, hc3, hok⟩ := bd_some hok
  refine cUVi (ci := 5) (q0 := 0) [.int (xs (i + (1 : Int32)).toNatClampNeg)] S hK2 (va_Pmid (wa := []) hP) (va_Dmid (wa := []) hD) hS hA (c_X5_nextParagraph l dC dI cI cZ l0 l4 l5 l6 l8 l10 l11 l12 l13 l14 l15 l16 _ uL (xs (i + (1 : Int32)).toNatClampNeg) hc3) (lw_V qm_L_197 qi_X5_nextParagraph qs_X5_nextParagraph qn_X5 qc_X5_nextParagraph) hd_X5_nextParagraph ⟨rfl, rfl⟩ ⟨Nat.le_of_ble_eq_true rfl, Nat.le_of_ble_eq_true rfl⟩ ⟨by show (kc + 1) + 0 ≤ 601024; omega, by show (sc + 6) + 0 ≤ 7293034; omega⟩ rfl rfl rfl hl.1 (Nat.le_of_ble_eq_true rfl) rfl dL_law_1047 (fun H1 hk9 h9 => fr_joinM (wa := []) hP hD K_L hk9 h9) (D_W hD) (fun H locs hP hD hS => ?_)
  refine lv_istore (lv' := [(6, .int v3.1), (5, .int v2.1), (0, .ref b), (1, .ref n0), (2, .ref l0), (3, .ref o0), (4, .int i)]) hx hb dL_law_1050 hl (by decide) rfl (fun ls hl => ?_)
  refine lv_aload_n hx hb dL_law_1052 rfl (lv_at hl 4 rfl) ?_
  obtain ⟨v4, hc4, hok⟩ := bd_some hok
  refine cRVi (ci := 5) (q0 := 0) [] S hK2 (va_Pmid (wa := []) hP) (c_X5_thrown l dC dI cI cZ l0 l4 l5 l6 l8 l10 l11 l12 l13 l14 l15 l16 v3.2 hc4) (lw_V qm_L_122 qi_X5_thrown qs_X5_thrown qn_X5 qc_X5_thrown) hd_X5_thrown ⟨rfl, rfl⟩ ⟨Nat.le_of_ble_eq_true rfl, Nat.le_of_ble_eq_true rfl⟩ ⟨by show ((kc + 1) + 0) ≤ 601024; omega, by show ((sc + 6) + 0) ≤ 7293034; omega⟩ rfl rfl rfl hl.1 (Nat.le_of_ble_eq_true rfl) rfl dL_law_1053 ?_
  refine lv_iload hx hb dL_law_1056 (lv_at hl 1 rfl) ?_
  refine lv_icmp_eq (tgt := 1063) hx hb dL_law_1058 (by decide) (fun hc => ?_) (fun hc => ?_)
  · have hok := ip hok hc
    refine lv_iload hx hb dL_law_1063 (lv_at hl 1 rfl) ?_
    refine lv_if_ne (tgt := 1080) hx hb dL_law_1065 (by decide) (fun hc => ?_) (fun hc => ?_)
    · have hok := iq hok hc
      refine lv_goto (tgt := 2451) hx hb dL_law_1080 (by decide) ?_
      have hok := Option.some.inj hok
      subst hok
      exact hk _ _ _ _ (by omega) (by omega) hP hD hS _ (lv_sub hl [2, 3, 4, 5, 6] rfl)
    · have hok := ip hok hc
      refine lv_aload_n hx hb dL_law_1068 rfl (lv_at hl 5 rfl) ?_
      refine lv_iconst (v := (0 : Int32)) hx hb dL_law_1069 (by decide) ?_
      refine va_laldK hx hb hK hP 40 2 rfl rfl (j := 0) (by decide) (vp_inK (by decide)) dL_law_1070 ?_
      refine lv_iload hx hb dL_law_1071 (lv_at hl 0 rfl) ?_
      refine lv_i2l (v := v3.1.toInt64) hx hb dL_law_1073 rfl ?_
      refine W.lcmp hx hb dL_law_1074 ?_
      refine lv_if_eq (tgt := 1080) hx hb dL_law_1075 (by decide) (fun hc => ?_) (fun hc => ?_)
      · have hok := ip hok hc
        refine lv_goto (tgt := 2451) hx hb dL_law_1080 (by decide) ?_
        have hok := Option.some.inj hok
        subst hok
        exact hk _ _ _ _ (by omega) (by omega) hP hD hS _ (lv_sub hl [2, 3, 4, 5, 6] rfl)
      · have hok := iq hok hc
        refine lv_iconst (v := (0 : Int32)) hx hb dL_law_1078 (by decide) ?_
        cases hok
  · have hok := iq hok hc
    refine lv_iconst (v := (0 : Int32)) hx hb dL_law_1061 (by decide) ?_
    cases hok
def p_L_C21 (xs : Nat → Int32) (Lc : Nat) (i : Int32) (uL : tX5) (uH : tX1) (uC : tX0) (uT : tX0) (uI : tX2) (uM : tX3) (fO : Nat → Int64) : Option (tX5 × tX1 × tX0 × tX0 × tX2 × tX3 × (Nat → Int64)) :=
  gd (i + (1 : Int32)) Lc (
  gd (i + (2 : Int32)) Lc (
  bd (p_L_topicOf uH uC uT uI uM fO (xs (i + (1 : Int32)).toNatClampNeg) (xs (i + (2 : Int32)).toNatClampNeg)) (fun v3 =>
  bd (p_X5_topicOf uL (xs (i + (1 : Int32)).toNatClampNeg) (xs (i + (2 : Int32)).toNatClampNeg)) (fun v4 =>
  bd (p_X5_thrown v4.2) (fun v5 =>
  if v5 = v3.1 then
    if v3.1 = 0 then
      if (lg_cmp (v3.2 0) v4.1.toInt64) = 0 then
        some (v4.2, uH, uC, uT, uI, uM, v3.2)
      else
        none
    else
      some (v4.2, uH, uC, uT, uI, uM, v3.2)
  else
    none)))))
set_option maxHeartbeats 4000000 in
set_option maxRecDepth 100000 in
theorem c_L_C21 {p : Program} {e : Env} {s : State} {m : MethodId} {below : List Frame} {meth : Method} {c : Code} (l : Launch) (hlt : l.stackTraces = false) (dC : Nat → ClassId) (dI : Nat → Nat → Nat) (cI cZ cJ : ClassId) (sa : Nat → Nat) (l0 l4 l5 l6 l8 l10 l11 l12 l13 l14 l15 l16 n0 h0 h3 h4 h5 h6 c0 c8 c9 c10 c11 c12 c13 t0 t8 t9 t10 t11 t12 t13 i0 i1 i2 i3 i4 m0 m1 m2 o0 : Nat) {b Lc : Nat} {xs : Nat → Int32} (S : CallFix p m c cL_law 9 s #[Value.ref b] lw_all RL) (hK : va_K (dC, dI) vwCl (TYJ cI cZ cJ) s) (hX : xb (fun q : Nat => s.heap.size ≤ q) sa s) (hxn : xn s) (hXs : va_X b Lc xs s s.heap) (hbl : b < s.heap.size) (i : Int32) (uL : tX5) (uH : tX1) (uC : tX0) (uT : tX0) (uI : tX2) (uM : tX3) (fO : Nat → Int64) {z : (tX5 × tX1 × tX0 × tX0 × tX2 × tX3 × (Nat → Int64))} (hok : p_L_C21 xs Lc i uL uH uC uT uI uM fO = some z) {Q : State → Prop} {kc sc : Nat} (hkc : kc + 565 ≤ 601024) (hsc : sc + 3393 ≤ 7293034) (H : Heap) (locs : List Loc) (hP : va_P (dC, dI) vwCl (wX5 cI cZ l0 l4 l5 l6 l8 l10 l11 l12 l13 l14 l15 l16 uL ++ (wN cI cZ n0 h0 h3 h4 h5 h6 c0 c8 c9 c10 c11 c12 c13 t0 t8 t9 t10 t11 t12 t13 i0 i1 i2 i3 i4 m0 m1 m2 uH uC uT uI uM ++ [(o0, .inl (cJ, 1, .inr (.inl fO)))])) H) (hD : va_D (fun q : Nat => s.heap.size ≤ q) (wX5 cI cZ l0 l4 l5 l6 l8 l10 l11 l12 l13 l14 l15 l16 uL ++ (wN cI cZ n0 h0 h3 h4 h5 h6 c0 c8 c9 c10 c11 c12 c13 t0 t8 t9 t10 t11 t12 t13 i0 i1 i2 i3 i4 m0 m1 m2 uH uC uT uI uM ++ [(o0, .inl (cJ, 1, .inr (.inl fO)))]))) (hS : va_S (fun q : Nat => s.heap.size ≤ q) s.heap H locs) (ls : Array Slot) (hl : lv_has ls 9 [(0, .ref b), (1, .ref n0), (2, .ref l0), (3, .ref o0), (4, .int i)])
    (hk : ∀ (kc' sc' : Nat) (H : Heap) (locs : List Loc), kc' ≤ kc + 565 → sc' ≤ sc + 3393 → va_P (dC, dI) vwCl (wX5 cI cZ l0 l4 l5 l6 l8 l10 l11 l12 l13 l14 l15 l16 z.1 ++ (wN cI cZ n0 h0 h3 h4 h5 h6 c0 c8 c9 c10 c11 c12 c13 t0 t8 t9 t10 t11 t12 t13 i0 i1 i2 i3 i4 m0 m1 m2 z.2.1 z.2.2.1 z.2.2.2.1 z.2.2.2.2.1 z.2.2.2.2.2.1 ++ [(o0, .inl (cJ, 1, .inr (.inl z.2.2.2.2.2.2)))])) H → va_D (fun q : Nat => s.heap.size ≤ q) (wX5 cI cZ l0 l4 l5 l6 l8 l10 l11 l12 l13 l14 l15 l16 z.1 ++ (wN cI cZ n0 h0 h3 h4 h5 h6 c0 c8 c9 c10 c11 c12 c13 t0 t8 t9 t10 t11 t12 t13 i0 i1 i2 i3 i4 m0 m1 m2 z.2.1 z.2.2.1 z.2.2.2.1 z.2.2.2.2.1 z.2.2.2.2.2.1 ++ [(o0, .inl (cJ, 1, .inr (.inl z.2.2.2.2.2.2)))])) → va_S (fun q : Nat => s.heap.size ≤ q) s.heap H locs → ∀ (ls : Array Slot), lv_has ls 9 [(0, .ref b), (1, .ref n0), (2, .ref l0), (3, .ref o0), (4, .int i)] → W p l e room_1 s m #[Value.ref b] below meth c H locs kc' sc' Q (F0 m 2451 ls [])) : W p l e room_1 s m #[Value.ref b] below meth c H locs kc sc Q (F0 m 1083 ls []) := by
  have hx := S.1
  have hb := S.2.1
  have hml := S.2.2.1
  have hown : s.vm.findClass RL = some m.cls := S.2.2.2.1
  have hts := S.2.2.2.2
  have hA : ∀ q : Nat, s.heap.size ≤ q → (fun q : Nat => s.heap.size ≤ q) q := fun _ h => h
  have hbA : ¬ (fun q : Nat => s.heap.size ≤ q) b := Nat.not_le.mpr hbl
  have hK2 : va_K (dC, dI) vwCl (TYS cI cZ) s := hK.sub [0, 1] rfl
  unfold p_L_C21 at hok
  refine lv_aload_n hx hb dL_law_1083 rfl (lv_at hl 1 rfl) ?_
  refine lv_aload_n hx hb dL_law_1084 rfl (lv_at hl 0 rfl) ?_
  refine lv_iload hx hb dL_law_1085 (lv_at hl 4 rfl) ?_
  refine lv_iconst (v := (1 : Int32)) hx hb dL_law_1087 (by decide) ?_
  refine lv_iadd hx hb dL_law_1088 ?_
  obtain ⟨hi1, hok⟩ := gd_some hok
  refine va_sld hx hb hXs hbl hbA hS hi1 dL_law_1089 ?_
  refine lv_aload_n hx hb dL_law_1090 rfl (lv_at hl 0 rfl) ?_
  refine lv_iload hx hb dL_law_1091 (lv_at hl 4 rfl) ?_
  refine lv_iconst (v := (2 : Int32)) hx hb dL_law_1093 (by decide) ?_
  refine lv_iadd hx hb dL_law_1094 ?_
  obtain ⟨hi2, hok⟩ := gd_some hok
  refine va_sld hx hb hXs hbl hbA hS hi2 dL_law_1095 ?_
  refine lv_aload_n hx hb dL_law_1096 rfl (lv_at hl 3 rfl) ?_
  obtain ⟨v3, hc3, hok⟩ := bd_some hok
  refine cHSi [.ref n0, .int (xs (i + (1 : Int32)).toNatClampNeg), .int (xs (i + (2 : Int32)).toNatClampNeg), .ref o0] S hK (va_Psuf hP) (va_Dsuf hD) hS hA hX hxn (c_L_topicOf l hlt dC dI cI cZ cJ n0 h0 h3 h4 h5 h6 c0 c8 c9 c10 c11 c12 c13 t0 t8 t9 t10 t11 t12 t13 i0 i1 i2 i3 i4 m0 m1 m2 o0 _ sa uH uC uT uI uM fO (xs (i + (1 : Int32)).toNatClampNeg) (xs (i + (2 : Int32)).toNatClampNeg) hc3) (lw_S qm_L_198 qt_L_topicOf qn_L qc_L_topicOf) hd_L_topicOf ⟨rfl, rfl⟩ ⟨Nat.le_of_ble_eq_true rfl, Nat.le_of_ble_eq_true rfl⟩ ⟨by show kc + 2 ≤ 601024; omega, by show sc + 12 ≤ 7293034; omega⟩ rfl hl.1 (Nat.le_of_ble_eq_true rfl) rfl dL_law_1097 (fun H1 hk9 h9 => fr_joinR hP hD K_NO hk9 h9) (D_W hD) (fun H locs hP hD hS => ?_)
  refine lv_istore (lv' := [(5, .int v3.1), (0, .ref b), (1, .ref n0), (2, .ref l0), (3, .ref o0), (4, .int i)]) hx hb dL_law_1100 hl (by decide) rfl (fun ls hl => ?_)
  refine lv_aload_n hx hb dL_law_1102 rfl (lv_at hl 3 rfl) ?_
  refine lv_aload_n hx hb dL_law_1103 rfl (lv_at hl 1 rfl) ?_
  refine lv_iload hx hb dL_law_1104 (lv_at hl 5 rfl) ?_
  refine lv_iconst (v := (1 : Int32)) hx hb dL_law_1106 (by decide) ?_
  refine lv_iadd hx hb dL_law_1107 ?_
  refine va_sld hx hb hXs hbl hbA hS hi1 dL_law_1108 ?_
  refine lv_aload_n hx hb dL_law_1109 rfl (lv_at hl 1 rfl) ?_
  refine lv_iload hx hb dL_law_1110 (lv_at hl 5 rfl) ?_
  refine lv_iconst (v := (2 : Int32)) hx hb dL_law_1112 (by decide) ?_
  refine lv_iadd hx hb dL_law_1113 ?_
  refine va_sld hx hb hXs hbl hbA hS hi2 dL_law_1114 ?_
  obtain ⟨v4, hc4, hok⟩ := bd_some hok
  refine cUVi (ci := 5) (q0 := 0) [.int (xs (i + (1 : Int32)).toNatClampNeg), .int (xs (i + (2 : Int32)).toNatClampNeg)] S hK2 (va_Pmid (wa := []) hP) (va_Dmid (wa := []) hD) hS hA (c_X5_topicOf l dC dI cI cZ l0 l4 l5 l6 l8 l10 l11 l12 l13 l14 l15 l16 _ uL (xs (i + (1 : Int32)).toNatClampNeg) (xs (i + (2 : Int32)).toNatClampNeg) hc4) (lw_V qm_L_200 qi_X5_topicOf qs_X5_topicOf qn_X5 qc_X5_topicOf) hd_X5_topicOf ⟨rfl, rfl⟩ ⟨Nat.le_of_ble_eq_true rfl, Nat.le_of_ble_eq_true rfl⟩ ⟨by show (kc + 2) + 0 ≤ 601024; omega, by show (sc + 12) + 0 ≤ 7293034; omega⟩ rfl rfl rfl hl.1 (Nat.le_of_ble_eq_true rfl) rfl dL_law_1115 (fun H1 hk9 h9 => fr_joinM (wa := []) hP hD K_L hk9 h9) (D_W hD) (fun H locs hP hD hS => ?_)
  refine lv_istore (lv' := [(6, .int v4.1), (5, .int v3.1), (0, .ref b), (1, .ref n0), (2, .ref l0), (3, .ref o0), (4, .int i)]) hx hb dL_law_1118 hl (by decide) rfl (fun ls hl => ?_)
  refine lv_aload_n hx hb dL_law_1120 rfl (lv_at hl 4 rfl) ?_
  obtain ⟨v5, hc5, hok⟩ := bd_some hok
  refine cRVi (ci := 5) (q0 := 0) [] S hK2 (va_Pmid (wa := []) hP) (c_X5_thrown l dC dI cI cZ l0 l4 l5 l6 l8 l10 l11 l12 l13 l14 l15 l16 v4.2 hc5) (lw_V qm_L_122 qi_X5_thrown qs_X5_thrown qn_X5 qc_X5_thrown) hd_X5_thrown ⟨rfl, rfl⟩ ⟨Nat.le_of_ble_eq_true rfl, Nat.le_of_ble_eq_true rfl⟩ ⟨by show ((kc + 2) + 0) ≤ 601024; omega, by show ((sc + 12) + 0) ≤ 7293034; omega⟩ rfl rfl rfl hl.1 (Nat.le_of_ble_eq_true rfl) rfl dL_law_1121 ?_
  refine lv_iload hx hb dL_law_1124 (lv_at hl 1 rfl) ?_
  refine lv_icmp_eq (tgt := 1131) hx hb dL_law_1126 (by decide) (fun hc => ?_) (fun hc => ?_)
  · have hok := ip hok hc
    refine lv_iload hx hb dL_law_1131 (lv_at hl 1 rfl) ?_
    refine lv_if_ne (tgt := 1148) hx hb dL_law_1133 (by decide) (fun hc => ?_) (fun hc => ?_)
    · have hok := iq hok hc
      refine lv_goto (tgt := 2451) hx hb dL_law_1148 (by decide) ?_
      have hok := Option.some.inj hok
      subst hok
      exact hk _ _ _ _ (by omega) (by omega) hP hD hS _ (lv_sub hl [2, 3, 4, 5, 6] rfl)
    · have hok := ip hok hc
      refine lv_aload_n hx hb dL_law_1136 rfl (lv_at hl 5 rfl) ?_
      refine lv_iconst (v := (0 : Int32)) hx hb dL_law_1137 (by decide) ?_
      refine va_laldK hx hb hK hP 40 2 rfl rfl (j := 0) (by decide) (vp_inK (by decide)) dL_law_1138 ?_
      refine lv_iload hx hb dL_law_1139 (lv_at hl 0 rfl) ?_
      refine lv_i2l (v := v4.1.toInt64) hx hb dL_law_1141 rfl ?_
      refine W.lcmp hx hb dL_law_1142 ?_
      refine lv_if_eq (tgt := 1148) hx hb dL_law_1143 (by decide) (fun hc => ?_) (fun hc => ?_)
      · have hok := ip hok hc
        refine lv_goto (tgt := 2451) hx hb dL_law_1148 (by decide) ?_
        have hok := Option.some.inj hok
        subst hok
        exact hk _ _ _ _ (by omega) (by omega) hP hD hS _ (lv_sub hl [2, 3, 4, 5, 6] rfl)
      · have hok := iq hok hc
        refine lv_iconst (v := (0 : Int32)) hx hb dL_law_1146 (by decide) ?_
        cases hok
  · have hok := iq hok hc
    refine lv_iconst (v := (0 : Int32)) hx hb dL_law_1129 (by decide) ?_
    cases hok
def p_L_C22 (xs : Nat → Int32) (Lc : Nat) (i : Int32) (uL : tX5) (uH : tX1) (uC : tX0) (uT : tX0) (uI : tX2) (uM : tX3) (fO : Nat → Int64) : Option (tX5 × tX1 × tX0 × tX0 × tX2 × tX3 × (Nat → Int64)) :=
  gd (i + (1 : Int32)) Lc (
  gd (i + (2 : Int32)) Lc (
  bd (p_L_thrillOf uH uC uT uI uM fO (xs (i + (1 : Int32)).toNatClampNeg) (xs (i + (2 : Int32)).toNatClampNeg)) (fun v3 =>
  bd (p_X5_thrillOf uL (xs (i + (1 : Int32)).toNatClampNeg) (xs (i + (2 : Int32)).toNatClampNeg)) (fun v4 =>
  bd (p_X5_thrown v4.2) (fun v5 =>
  if v5 = v3.1 then
    if v3.1 = 0 then
      if (lg_cmp (v3.2 0) v4.1.toInt64) = 0 then
        some (v4.2, uH, uC, uT, uI, uM, v3.2)
      else
        none
    else
      some (v4.2, uH, uC, uT, uI, uM, v3.2)
  else
    none)))))
set_option maxHeartbeats 4000000 in
set_option maxRecDepth 100000 in
theorem c_L_C22 {p : Program} {e : Env} {s : State} {m : MethodId} {below : List Frame} {meth : Method} {c : Code} (l : Launch) (hlt : l.stackTraces = false) (dC : Nat → ClassId) (dI : Nat → Nat → Nat) (cI cZ cJ : ClassId) (sa : Nat → Nat) (l0 l4 l5 l6 l8 l10 l11 l12 l13 l14 l15 l16 n0 h0 h3 h4 h5 h6 c0 c8 c9 c10 c11 c12 c13 t0 t8 t9 t10 t11 t12 t13 i0 i1 i2 i3 i4 m0 m1 m2 o0 : Nat) {b Lc : Nat} {xs : Nat → Int32} (S : CallFix p m c cL_law 9 s #[Value.ref b] lw_all RL) (hK : va_K (dC, dI) vwCl (TYJ cI cZ cJ) s) (hX : xb (fun q : Nat => s.heap.size ≤ q) sa s) (hxn : xn s) (hXs : va_X b Lc xs s s.heap) (hbl : b < s.heap.size) (i : Int32) (uL : tX5) (uH : tX1) (uC : tX0) (uT : tX0) (uI : tX2) (uM : tX3) (fO : Nat → Int64) {z : (tX5 × tX1 × tX0 × tX0 × tX2 × tX3 × (Nat → Int64))} (hok : p_L_C22 xs Lc i uL uH uC uT uI uM fO = some z) {Q : State → Prop} {kc sc : Nat} (hkc : kc + 565 ≤ 601024) (hsc : sc + 3393 ≤ 7293034) (H : Heap) (locs : List Loc) (hP : va_P (dC, dI) vwCl (wX5 cI cZ l0 l4 l5 l6 l8 l10 l11 l12 l13 l14 l15 l16 uL ++ (wN cI cZ n0 h0 h3 h4 h5 h6 c0 c8 c9 c10 c11 c12 c13 t0 t8 t9 t10 t11 t12 t13 i0 i1 i2 i3 i4 m0 m1 m2 uH uC uT uI uM ++ [(o0, .inl (cJ, 1, .inr (.inl fO)))])) H) (hD : va_D (fun q : Nat => s.heap.size ≤ q) (wX5 cI cZ l0 l4 l5 l6 l8 l10 l11 l12 l13 l14 l15 l16 uL ++ (wN cI cZ n0 h0 h3 h4 h5 h6 c0 c8 c9 c10 c11 c12 c13 t0 t8 t9 t10 t11 t12 t13 i0 i1 i2 i3 i4 m0 m1 m2 uH uC uT uI uM ++ [(o0, .inl (cJ, 1, .inr (.inl fO)))]))) (hS : va_S (fun q : Nat => s.heap.size ≤ q) s.heap H locs) (ls : Array Slot) (hl : lv_has ls 9 [(0, .ref b), (1, .ref n0), (2, .ref l0), (3, .ref o0), (4, .int i)])
    (hk : ∀ (kc' sc' : Nat) (H : Heap) (locs : List Loc), kc' ≤ kc + 565 → sc' ≤ sc + 3393 → va_P (dC, dI) vwCl (wX5 cI cZ l0 l4 l5 l6 l8 l10 l11 l12 l13 l14 l15 l16 z.1 ++ (wN cI cZ n0 h0 h3 h4 h5 h6 c0 c8 c9 c10 c11 c12 c13 t0 t8 t9 t10 t11 t12 t13 i0 i1 i2 i3 i4 m0 m1 m2 z.2.1 z.2.2.1 z.2.2.2.1 z.2.2.2.2.1 z.2.2.2.2.2.1 ++ [(o0, .inl (cJ, 1, .inr (.inl z.2.2.2.2.2.2)))])) H → va_D (fun q : Nat => s.heap.size ≤ q) (wX5 cI cZ l0 l4 l5 l6 l8 l10 l11 l12 l13 l14 l15 l16 z.1 ++ (wN cI cZ n0 h0 h3 h4 h5 h6 c0 c8 c9 c10 c11 c12 c13 t0 t8 t9 t10 t11 t12 t13 i0 i1 i2 i3 i4 m0 m1 m2 z.2.1 z.2.2.1 z.2.2.2.1 z.2.2.2.2.1 z.2.2.2.2.2.1 ++ [(o0, .inl (cJ, 1, .inr (.inl z.2.2.2.2.2.2)))])) → va_S (fun q : Nat => s.heap.size ≤ q) s.heap H locs → ∀ (ls : Array Slot), lv_has ls 9 [(0, .ref b), (1, .ref n0), (2, .ref l0), (3, .ref o0), (4, .int i)] → W p l e room_1 s m #[Value.ref b] below meth c H locs kc' sc' Q (F0 m 2451 ls [])) : W p l e room_1 s m #[Value.ref b] below meth c H locs kc sc Q (F0 m 1151 ls []) := by
  have hx := S.1
  have hb := S.2.1
  have hml := S.2.2.1
  have hown : s.vm.findClass RL = some m.cls := S.2.2.2.1
  have hts := S.2.2.2.2
  have hA : ∀ q : Nat, s.heap.size ≤ q → (fun q : Nat => s.heap.size ≤ q) q := fun _ h => h
  have hbA : ¬ (fun q : Nat => s.heap.size ≤ q) b := Nat.not_le.mpr hbl
  have hK2 : va_K (dC, dI) vwCl (TYS cI cZ) s := hK.sub [0, 1] rfl
  unfold p_L_C22 at hok
  refine lv_aload_n hx hb dL_law_1151 rfl (lv_at hl 1 rfl) ?_
  refine lv_aload_n hx hb dL_law_1152 rfl (lv_at hl 0 rfl) ?_
  refine lv_iload hx hb dL_law_1153 (lv_at hl 4 rfl) ?_
  refine lv_iconst (v := (1 : Int32)) hx hb dL_law_1155 (by decide) ?_
  refine lv_iadd hx hb dL_law_1156 ?_
  obtain ⟨hi1, hok⟩ := gd_some hok
  refine va_sld hx hb hXs hbl hbA hS hi1 dL_law_1157 ?_
  refine lv_aload_n hx hb dL_law_1158 rfl (lv_at hl 0 rfl) ?_
  refine lv_iload hx hb dL_law_1159 (lv_at hl 4 rfl) ?_
  refine lv_iconst (v := (2 : Int32)) hx hb dL_law_1161 (by decide) ?_
  refine lv_iadd hx hb dL_law_1162 ?_
  obtain ⟨hi2, hok⟩ := gd_some hok
  refine va_sld hx hb hXs hbl hbA hS hi2 dL_law_1163 ?_
  refine lv_aload_n hx hb dL_law_1164 rfl (lv_at hl 3 rfl) ?_
  obtain ⟨v3, hc3, hok⟩ := bd_some hok
  refine cHSi [.ref n0, .int (xs (i + (1 : Int32)).toNatClampNeg), .int (xs (i + (2 : Int32)).toNatClampNeg), .ref o0] S hK (va_Psuf hP) (va_Dsuf hD) hS hA hX hxn (c_L_thrillOf l hlt dC dI cI cZ cJ n0 h0 h3 h4 h5 h6 c0 c8 c9 c10 c11 c12 c13 t0 t8 t9 t10 t11 t12 t13 i0 i1 i2 i3 i4 m0 m1 m2 o0 _ sa uH uC uT uI uM fO (xs (i + (1 : Int32)).toNatClampNeg) (xs (i + (2 : Int32)).toNatClampNeg) hc3) (lw_S qm_L_201 qt_L_thrillOf qn_L qc_L_thrillOf) hd_L_thrillOf ⟨rfl, rfl⟩ ⟨Nat.le_of_ble_eq_true rfl, Nat.le_of_ble_eq_true rfl⟩ ⟨by show kc + 2 ≤ 601024; omega, by show sc + 12 ≤ 7293034; omega⟩ rfl hl.1 (Nat.le_of_ble_eq_true rfl) rfl dL_law_1165 (fun H1 hk9 h9 => fr_joinR hP hD K_NO hk9 h9) (D_W hD) (fun H locs hP hD hS => ?_)
  refine lv_istore (lv' := [(5, .int v3.1), (0, .ref b), (1, .ref n0), (2, .ref l0), (3, .ref o0), (4, .int i)]) hx hb dL_law_1168 hl (by decide) rfl (fun ls hl => ?_)
  refine lv_aload_n hx hb dL_law_1170 rfl (lv_at hl 3 rfl) ?_
  refine lv_aload_n hx hb dL_law_1171 rfl (lv_at hl 1 rfl) ?_
  refine lv_iload hx hb dL_law_1172 (lv_at hl 5 rfl) ?_
  refine lv_iconst (v := (1 : Int32)) hx hb dL_law_1174 (by decide) ?_
  refine lv_iadd hx hb dL_law_1175 ?_
  refine va_sld hx hb hXs hbl hbA hS hi1 dL_law_1176 ?_
  refine lv_aload_n hx hb dL_law_1177 rfl (lv_at hl 1 rfl) ?_
  refine lv_iload hx hb dL_law_1178 (lv_at hl 5 rfl) ?_
  refine lv_iconst (v := (2 : Int32)) hx hb dL_law_1180 (by decide) ?_
  refine lv_iadd hx hb dL_law_1181 ?_
  refine va_sld hx hb hXs hbl hbA hS hi2 dL_law_1182 ?_
  obtain ⟨v4, hc4, hok⟩ := bd_some hok
  refine cUVi (ci := 5) (q0 := 0) [.int (xs (i + (1 : Int32)).toNatClampNeg), .int (xs (i + (2 : Int32)).toNatClampNeg)] S hK2 (va_Pmid (wa := []) hP) (va_Dmid (wa := []) hD) hS hA (c_X5_thrillOf l dC dI cI cZ l0 l4 l5 l6 l8 l10 l11 l12 l13 l14 l15 l16 _ uL (xs (i + (1 : Int32)).toNatClampNeg) (xs (i + (2 : Int32)).toNatClampNeg) hc4) (lw_V qm_L_203 qi_X5_thrillOf qs_X5_thrillOf qn_X5 qc_X5_thrillOf) hd_X5_thrillOf ⟨rfl, rfl⟩ ⟨Nat.le_of_ble_eq_true rfl, Nat.le_of_ble_eq_true rfl⟩ ⟨by show (kc + 2) + 0 ≤ 601024; omega, by show (sc + 12) + 0 ≤ 7293034; omega⟩ rfl rfl rfl hl.1 (Nat.le_of_ble_eq_true rfl) rfl dL_law_1183 (fun H1 hk9 h9 => fr_joinM (wa := []) hP hD K_L hk9 h9) (D_W hD) (fun H locs hP hD hS => ?_)
  refine lv_istore (lv' := [(6, .int v4.1), (5, .int v3.1), (0, .ref b), (1, .ref n0), (2, .ref l0), (3, .ref o0), (4, .int i)]) hx hb dL_law_1186 hl (by decide) rfl (fun ls hl => ?_)
  refine lv_aload_n hx hb dL_law_1188 rfl (lv_at hl 4 rfl) ?_
  obtain ⟨v5, hc5, hok⟩ := bd_some hok
  refine cRVi (ci := 5) (q0 := 0) [] S hK2 (va_Pmid (wa := []) hP) (c_X5_thrown l dC dI cI cZ l0 l4 l5 l6 l8 l10 l11 l12 l13 l14 l15 l16 v4.2 hc5) (lw_V qm_L_122 qi_X5_thrown qs_X5_thrown qn_X5 qc_X5_thrown) hd_X5_thrown ⟨rfl, rfl⟩ ⟨Nat.le_of_ble_eq_true rfl, Nat.le_of_ble_eq_true rfl⟩ ⟨by show ((kc + 2) + 0) ≤ 601024; omega, by show ((sc + 12) + 0) ≤ 7293034; omega⟩ rfl rfl rfl hl.1 (Nat.le_of_ble_eq_true rfl) rfl dL_law_1189 ?_
  refine lv_iload hx hb dL_law_1192 (lv_at hl 1 rfl) ?_
  refine lv_icmp_eq (tgt := 1199) hx hb dL_law_1194 (by decide) (fun hc => ?_) (fun hc => ?_)
  · have hok := ip hok hc
    refine lv_iload hx hb dL_law_1199 (lv_at hl 1 rfl) ?_
    refine lv_if_ne (tgt := 1216) hx hb dL_law_1201 (by decide) (fun hc => ?_) (fun hc => ?_)
    · have hok := iq hok hc
      refine lv_goto (tgt := 2451) hx hb dL_law_1216 (by decide) ?_
      have hok := Option.some.inj hok
      subst hok
      exact hk _ _ _ _ (by omega) (by omega) hP hD hS _ (lv_sub hl [2, 3, 4, 5, 6] rfl)
    · have hok := ip hok hc
      refine lv_aload_n hx hb dL_law_1204 rfl (lv_at hl 5 rfl) ?_
      refine lv_iconst (v := (0 : Int32)) hx hb dL_law_1205 (by decide) ?_
      refine va_laldK hx hb hK hP 40 2 rfl rfl (j := 0) (by decide) (vp_inK (by decide)) dL_law_1206 ?_
      refine lv_iload hx hb dL_law_1207 (lv_at hl 0 rfl) ?_
      refine lv_i2l (v := v4.1.toInt64) hx hb dL_law_1209 rfl ?_
      refine W.lcmp hx hb dL_law_1210 ?_
      refine lv_if_eq (tgt := 1216) hx hb dL_law_1211 (by decide) (fun hc => ?_) (fun hc => ?_)
      · have hok := ip hok hc
        refine lv_goto (tgt := 2451) hx hb dL_law_1216 (by decide) ?_
        have hok := Option.some.inj hok
        subst hok
        exact hk _ _ _ _ (by omega) (by omega) hP hD hS _ (lv_sub hl [2, 3, 4, 5, 6] rfl)
      · have hok := iq hok hc
        refine lv_iconst (v := (0 : Int32)) hx hb dL_law_1214 (by decide) ?_
        cases hok
  · have hok := iq hok hc
    refine lv_iconst (v := (0 : Int32)) hx hb dL_law_1197 (by decide) ?_
    cases hok
def p_L_C23 (xs : Nat → Int32) (Lc : Nat) (i : Int32) (uL : tX5) (uH : tX1) (uC : tX0) (uT : tX0) (uI : tX2) (uM : tX3) (fO : Nat → Int64) : Option (tX5 × tX1 × tX0 × tX0 × tX2 × tX3 × (Nat → Int64)) :=
  gd (i + (1 : Int32)) Lc (
  bd (p_L_cutOn uH uC uT uI uM fO (xs (i + (1 : Int32)).toNatClampNeg)) (fun v2 =>
  bd (p_X5_cutOn uL (xs (i + (1 : Int32)).toNatClampNeg)) (fun v3 =>
  bd (p_X5_thrown v3.2) (fun v4 =>
  if v4 = v2.1 then
    if v2.1 = 0 then
      if (lg_cmp (v2.2 0) v3.1.toInt64) = 0 then
        some (v3.2, uH, uC, uT, uI, uM, v2.2)
      else
        none
    else
      some (v3.2, uH, uC, uT, uI, uM, v2.2)
  else
    none))))
set_option maxHeartbeats 4000000 in
set_option maxRecDepth 100000 in
theorem c_L_C23 {p : Program} {e : Env} {s : State} {m : MethodId} {below : List Frame} {meth : Method} {c : Code} (l : Launch) (hlt : l.stackTraces = false) (dC : Nat → ClassId) (dI : Nat → Nat → Nat) (cI cZ cJ : ClassId) (sa : Nat → Nat) (l0 l4 l5 l6 l8 l10 l11 l12 l13 l14 l15 l16 n0 h0 h3 h4 h5 h6 c0 c8 c9 c10 c11 c12 c13 t0 t8 t9 t10 t11 t12 t13 i0 i1 i2 i3 i4 m0 m1 m2 o0 : Nat) {b Lc : Nat} {xs : Nat → Int32} (S : CallFix p m c cL_law 9 s #[Value.ref b] lw_all RL) (hK : va_K (dC, dI) vwCl (TYJ cI cZ cJ) s) (hX : xb (fun q : Nat => s.heap.size ≤ q) sa s) (hxn : xn s) (hXs : va_X b Lc xs s s.heap) (hbl : b < s.heap.size) (i : Int32) (uL : tX5) (uH : tX1) (uC : tX0) (uT : tX0) (uI : tX2) (uM : tX3) (fO : Nat → Int64) {z : (tX5 × tX1 × tX0 × tX0 × tX2 × tX3 × (Nat → Int64))} (hok : p_L_C23 xs Lc i uL uH uC uT uI uM fO = some z) {Q : State → Prop} {kc sc : Nat} (hkc : kc + 565 ≤ 601024) (hsc : sc + 3393 ≤ 7293034) (H : Heap) (locs : List Loc) (hP : va_P (dC, dI) vwCl (wX5 cI cZ l0 l4 l5 l6 l8 l10 l11 l12 l13 l14 l15 l16 uL ++ (wN cI cZ n0 h0 h3 h4 h5 h6 c0 c8 c9 c10 c11 c12 c13 t0 t8 t9 t10 t11 t12 t13 i0 i1 i2 i3 i4 m0 m1 m2 uH uC uT uI uM ++ [(o0, .inl (cJ, 1, .inr (.inl fO)))])) H) (hD : va_D (fun q : Nat => s.heap.size ≤ q) (wX5 cI cZ l0 l4 l5 l6 l8 l10 l11 l12 l13 l14 l15 l16 uL ++ (wN cI cZ n0 h0 h3 h4 h5 h6 c0 c8 c9 c10 c11 c12 c13 t0 t8 t9 t10 t11 t12 t13 i0 i1 i2 i3 i4 m0 m1 m2 uH uC uT uI uM ++ [(o0, .inl (cJ, 1, .inr (.inl fO)))]))) (hS : va_S (fun q : Nat => s.heap.size ≤ q) s.heap H locs) (ls : Array Slot) (hl : lv_has ls 9 [(0, .ref b), (1, .ref n0), (2, .ref l0), (3, .ref o0), (4, .int i)])
    (hk : ∀ (kc' sc' : Nat) (H : Heap) (locs : List Loc), kc' ≤ kc + 565 → sc' ≤ sc + 3393 → va_P (dC, dI) vwCl (wX5 cI cZ l0 l4 l5 l6 l8 l10 l11 l12 l13 l14 l15 l16 z.1 ++ (wN cI cZ n0 h0 h3 h4 h5 h6 c0 c8 c9 c10 c11 c12 c13 t0 t8 t9 t10 t11 t12 t13 i0 i1 i2 i3 i4 m0 m1 m2 z.2.1 z.2.2.1 z.2.2.2.1 z.2.2.2.2.1 z.2.2.2.2.2.1 ++ [(o0, .inl (cJ, 1, .inr (.inl z.2.2.2.2.2.2)))])) H → va_D (fun q : Nat => s.heap.size ≤ q) (wX5 cI cZ l0 l4 l5 l6 l8 l10 l11 l12 l13 l14 l15 l16 z.1 ++ (wN cI cZ n0 h0 h3 h4 h5 h6 c0 c8 c9 c10 c11 c12 c13 t0 t8 t9 t10 t11 t12 t13 i0 i1 i2 i3 i4 m0 m1 m2 z.2.1 z.2.2.1 z.2.2.2.1 z.2.2.2.2.1 z.2.2.2.2.2.1 ++ [(o0, .inl (cJ, 1, .inr (.inl z.2.2.2.2.2.2)))])) → va_S (fun q : Nat => s.heap.size ≤ q) s.heap H locs → ∀ (ls : Array Slot), lv_has ls 9 [(0, .ref b), (1, .ref n0), (2, .ref l0), (3, .ref o0), (4, .int i)] → W p l e room_1 s m #[Value.ref b] below meth c H locs kc' sc' Q (F0 m 2451 ls [])) : W p l e room_1 s m #[Value.ref b] below meth c H locs kc sc Q (F0 m 1219 ls []) := by
  have hx := S.1
  have hb := S.2.1
  have hml := S.2.2.1
  have hown : s.vm.findClass RL = some m.cls := S.2.2.2.1
  have hts := S.2.2.2.2
  have hA : ∀ q : Nat, s.heap.size ≤ q → (fun q : Nat => s.heap.size ≤ q) q := fun _ h => h
  have hbA : ¬ (fun q : Nat => s.heap.size ≤ q) b := Nat.not_le.mpr hbl
  have hK2 : va_K (dC, dI) vwCl (TYS cI cZ) s := hK.sub [0, 1] rfl
  unfold p_L_C23 at hok
  refine lv_aload_n hx hb dL_law_1219 rfl (lv_at hl 1 rfl) ?_
  refine lv_aload_n hx hb dL_law_1220 rfl (lv_at hl 0 rfl) ?_
  refine lv_iload hx hb dL_law_1221 (lv_at hl 4 rfl) ?_
  refine lv_iconst (v := (1 : Int32)) hx hb dL_law_1223 (by decide) ?_
  refine lv_iadd hx hb dL_law_1224 ?_
  obtain ⟨hi1, hok⟩ := gd_some hok
  refine va_sld hx hb hXs hbl hbA hS hi1 dL_law_1225 ?_
  refine lv_aload_n hx hb dL_law_1226 rfl (lv_at hl 3 rfl) ?_
  obtain ⟨v2, hc2, hok⟩ := bd_some hok
  refine cHSi [.ref n0, .int (xs (i + (1 : Int32)).toNatClampNeg), .ref o0] S hK (va_Psuf hP) (va_Dsuf hD) hS hA hX hxn (c_L_cutOn l hlt dC dI cI cZ cJ n0 h0 h3 h4 h5 h6 c0 c8 c9 c10 c11 c12 c13 t0 t8 t9 t10 t11 t12 t13 i0 i1 i2 i3 i4 m0 m1 m2 o0 _ sa uH uC uT uI uM fO (xs (i + (1 : Int32)).toNatClampNeg) hc2) (lw_S qm_L_204 qt_L_cutOn qn_L qc_L_cutOn) hd_L_cutOn ⟨rfl, rfl⟩ ⟨Nat.le_of_ble_eq_true rfl, Nat.le_of_ble_eq_true rfl⟩ ⟨by show kc + 1 ≤ 601024; omega, by show sc + 6 ≤ 7293034; omega⟩ rfl hl.1 (Nat.le_of_ble_eq_true rfl) rfl dL_law_1227 (fun H1 hk9 h9 => fr_joinR hP hD K_NO hk9 h9) (D_W hD) (fun H locs hP hD hS => ?_)
  refine lv_istore (lv' := [(5, .int v2.1), (0, .ref b), (1, .ref n0), (2, .ref l0), (3, .ref o0), (4, .int i)]) hx hb dL_law_1230 hl (by decide) rfl (fun ls hl => ?_)
  refine lv_aload_n hx hb dL_law_1232 rfl (lv_at hl 3 rfl) ?_
  refine lv_aload_n hx hb dL_law_1233 rfl (lv_at hl 1 rfl) ?_
  refine lv_iload hx hb dL_law_1234 (lv_at hl 5 rfl) ?_
  refine lv_iconst (v := (1 : Int32)) hx hb dL_law_1236 (by decide) ?_
  refine lv_iadd hx hb dL_law_1237 ?_
  refine va_sld hx hb hXs hbl hbA hS hi1 dL_law_1238 ?_
  obtain ⟨v3, hc3, hok⟩ := bd_some hok
  refine cUVi (ci := 5) (q0 := 0) [.int (xs (i + (1 : Int32)).toNatClampNeg)] S hK2 (va_Pmid (wa := []) hP) (va_Dmid (wa := []) hD) hS hA (c_X5_cutOn l dC dI cI cZ l0 l4 l5 l6 l8 l10 l11 l12 l13 l14 l15 l16 _ uL (xs (i + (1 : Int32)).toNatClampNeg) hc3) (lw_V qm_L_206 qi_X5_cutOn qs_X5_cutOn qn_X5 qc_X5_cutOn) hd_X5_cutOn ⟨rfl, rfl⟩ ⟨Nat.le_of_ble_eq_true rfl, Nat.le_of_ble_eq_true rfl⟩ ⟨by show (kc + 1) + 0 ≤ 601024; omega, by show (sc + 6) + 0 ≤ 7293034; omega⟩ rfl rfl rfl hl.1 (Nat.le_of_ble_eq_true rfl) rfl dL_law_1239 (fun H1 hk9 h9 => fr_joinM (wa := []) hP hD K_L hk9 h9) (D_W hD) (fun H locs hP hD hS => ?_)
  refine lv_istore (lv' := [(6, .int v3.1), (5, .int v2.1), (0, .ref b), (1, .ref n0), (2, .ref l0), (3, .ref o0), (4, .int i)]) hx hb dL_law_1242 hl (by decide) rfl (fun ls hl => ?_)
  refine lv_aload_n hx hb dL_law_1244 rfl (lv_at hl 4 rfl) ?_
  obtain ⟨v4, hc4, hok⟩ := bd_some hok
  refine cRVi (ci := 5) (q0 := 0) [] S hK2 (va_Pmid (wa := []) hP) (c_X5_thrown l dC dI cI cZ l0 l4 l5 l6 l8 l10 l11 l12 l13 l14 l15 l16 v3.2 hc4) (lw_V qm_L_122 qi_X5_thrown qs_X5_thrown qn_X5 qc_X5_thrown) hd_X5_thrown ⟨rfl, rfl⟩ ⟨Nat.le_of_ble_eq_true rfl, Nat.le_of_ble_eq_true rfl⟩ ⟨by show ((kc + 1) + 0) ≤ 601024; omega, by show ((sc + 6) + 0) ≤ 7293034; omega⟩ rfl rfl rfl hl.1 (Nat.le_of_ble_eq_true rfl) rfl dL_law_1245 ?_
  refine lv_iload hx hb dL_law_1248 (lv_at hl 1 rfl) ?_
  refine lv_icmp_eq (tgt := 1255) hx hb dL_law_1250 (by decide) (fun hc => ?_) (fun hc => ?_)
  · have hok := ip hok hc
    refine lv_iload hx hb dL_law_1255 (lv_at hl 1 rfl) ?_
    refine lv_if_ne (tgt := 1272) hx hb dL_law_1257 (by decide) (fun hc => ?_) (fun hc => ?_)
    · have hok := iq hok hc
      refine lv_goto (tgt := 2451) hx hb dL_law_1272 (by decide) ?_
      have hok := Option.some.inj hok
      subst hok
      exact hk _ _ _ _ (by omega) (by omega) hP hD hS _ (lv_sub hl [2, 3, 4, 5, 6] rfl)
    · have hok := ip hok hc
      refine lv_aload_n hx hb dL_law_1260 rfl (lv_at hl 5 rfl) ?_
      refine lv_iconst (v := (0 : Int32)) hx hb dL_law_1261 (by decide) ?_
      refine va_laldK hx hb hK hP 40 2 rfl rfl (j := 0) (by decide) (vp_inK (by decide)) dL_law_1262 ?_
      refine lv_iload hx hb dL_law_1263 (lv_at hl 0 rfl) ?_
      refine lv_i2l (v := v3.1.toInt64) hx hb dL_law_1265 rfl ?_
      refine W.lcmp hx hb dL_law_1266 ?_
      refine lv_if_eq (tgt := 1272) hx hb dL_law_1267 (by decide) (fun hc => ?_) (fun hc => ?_)
      · have hok := ip hok hc
        refine lv_goto (tgt := 2451) hx hb dL_law_1272 (by decide) ?_
        have hok := Option.some.inj hok
        subst hok
        exact hk _ _ _ _ (by omega) (by omega) hP hD hS _ (lv_sub hl [2, 3, 4, 5, 6] rfl)
      · have hok := iq hok hc
        refine lv_iconst (v := (0 : Int32)) hx hb dL_law_1270 (by decide) ?_
        cases hok
  · have hok := iq hok hc
    refine lv_iconst (v := (0 : Int32)) hx hb dL_law_1253 (by decide) ?_
    cases hok
def p_L_C24 (xs : Nat → Int32) (Lc : Nat) (i : Int32) (uL : tX5) (uH : tX1) (uC : tX0) (uT : tX0) (uI : tX2) (uM : tX3) (fO : Nat → Int64) : Option (tX5 × tX1 × tX0 × tX0 × tX2 × tX3 × (Nat → Int64)) :=
  gd (i + (1 : Int32)) Lc (
  bd (p_L_isForbidden uH uC uT uI uM fO (xs (i + (1 : Int32)).toNatClampNeg)) (fun v2 =>
  bd (p_X5_isForbidden uL (xs (i + (1 : Int32)).toNatClampNeg)) (fun v3 =>
  bd (p_X5_thrown v3.2) (fun v4 =>
  if v4 = v2.1 then
    if v2.1 = 0 then
      if v3.1 = 0 then
        if (lg_cmp (v2.2 0) (0 : Int64)) = 0 then
          some (v3.2, uH, uC, uT, uI, uM, v2.2)
        else
          none
      else
        if (lg_cmp (v2.2 0) (1 : Int64)) = 0 then
          some (v3.2, uH, uC, uT, uI, uM, v2.2)
        else
          none
    else
      some (v3.2, uH, uC, uT, uI, uM, v2.2)
  else
    none))))
set_option maxHeartbeats 4000000 in
set_option maxRecDepth 100000 in
theorem c_L_C24 {p : Program} {e : Env} {s : State} {m : MethodId} {below : List Frame} {meth : Method} {c : Code} (l : Launch) (hlt : l.stackTraces = false) (dC : Nat → ClassId) (dI : Nat → Nat → Nat) (cI cZ cJ : ClassId) (sa : Nat → Nat) (l0 l4 l5 l6 l8 l10 l11 l12 l13 l14 l15 l16 n0 h0 h3 h4 h5 h6 c0 c8 c9 c10 c11 c12 c13 t0 t8 t9 t10 t11 t12 t13 i0 i1 i2 i3 i4 m0 m1 m2 o0 : Nat) {b Lc : Nat} {xs : Nat → Int32} (S : CallFix p m c cL_law 9 s #[Value.ref b] lw_all RL) (hK : va_K (dC, dI) vwCl (TYJ cI cZ cJ) s) (hX : xb (fun q : Nat => s.heap.size ≤ q) sa s) (hxn : xn s) (hXs : va_X b Lc xs s s.heap) (hbl : b < s.heap.size) (i : Int32) (uL : tX5) (uH : tX1) (uC : tX0) (uT : tX0) (uI : tX2) (uM : tX3) (fO : Nat → Int64) {z : (tX5 × tX1 × tX0 × tX0 × tX2 × tX3 × (Nat → Int64))} (hok : p_L_C24 xs Lc i uL uH uC uT uI uM fO = some z) {Q : State → Prop} {kc sc : Nat} (hkc : kc + 565 ≤ 601024) (hsc : sc + 3393 ≤ 7293034) (H : Heap) (locs : List Loc) (hP : va_P (dC, dI) vwCl (wX5 cI cZ l0 l4 l5 l6 l8 l10 l11 l12 l13 l14 l15 l16 uL ++ (wN cI cZ n0 h0 h3 h4 h5 h6 c0 c8 c9 c10 c11 c12 c13 t0 t8 t9 t10 t11 t12 t13 i0 i1 i2 i3 i4 m0 m1 m2 uH uC uT uI uM ++ [(o0, .inl (cJ, 1, .inr (.inl fO)))])) H) (hD : va_D (fun q : Nat => s.heap.size ≤ q) (wX5 cI cZ l0 l4 l5 l6 l8 l10 l11 l12 l13 l14 l15 l16 uL ++ (wN cI cZ n0 h0 h3 h4 h5 h6 c0 c8 c9 c10 c11 c12 c13 t0 t8 t9 t10 t11 t12 t13 i0 i1 i2 i3 i4 m0 m1 m2 uH uC uT uI uM ++ [(o0, .inl (cJ, 1, .inr (.inl fO)))]))) (hS : va_S (fun q : Nat => s.heap.size ≤ q) s.heap H locs) (ls : Array Slot) (hl : lv_has ls 9 [(0, .ref b), (1, .ref n0), (2, .ref l0), (3, .ref o0), (4, .int i)])
    (hk : ∀ (kc' sc' : Nat) (H : Heap) (locs : List Loc), kc' ≤ kc + 565 → sc' ≤ sc + 3393 → va_P (dC, dI) vwCl (wX5 cI cZ l0 l4 l5 l6 l8 l10 l11 l12 l13 l14 l15 l16 z.1 ++ (wN cI cZ n0 h0 h3 h4 h5 h6 c0 c8 c9 c10 c11 c12 c13 t0 t8 t9 t10 t11 t12 t13 i0 i1 i2 i3 i4 m0 m1 m2 z.2.1 z.2.2.1 z.2.2.2.1 z.2.2.2.2.1 z.2.2.2.2.2.1 ++ [(o0, .inl (cJ, 1, .inr (.inl z.2.2.2.2.2.2)))])) H → va_D (fun q : Nat => s.heap.size ≤ q) (wX5 cI cZ l0 l4 l5 l6 l8 l10 l11 l12 l13 l14 l15 l16 z.1 ++ (wN cI cZ n0 h0 h3 h4 h5 h6 c0 c8 c9 c10 c11 c12 c13 t0 t8 t9 t10 t11 t12 t13 i0 i1 i2 i3 i4 m0 m1 m2 z.2.1 z.2.2.1 z.2.2.2.1 z.2.2.2.2.1 z.2.2.2.2.2.1 ++ [(o0, .inl (cJ, 1, .inr (.inl z.2.2.2.2.2.2)))])) → va_S (fun q : Nat => s.heap.size ≤ q) s.heap H locs → ∀ (ls : Array Slot), lv_has ls 9 [(0, .ref b), (1, .ref n0), (2, .ref l0), (3, .ref o0), (4, .int i)] → W p l e room_1 s m #[Value.ref b] below meth c H locs kc' sc' Q (F0 m 2451 ls [])) : W p l e room_1 s m #[Value.ref b] below meth c H locs kc sc Q (F0 m 1275 ls []) := by
  have hx := S.1
  have hb := S.2.1
  have hml := S.2.2.1
  have hown : s.vm.findClass RL = some m.cls := S.2.2.2.1
  have hts := S.2.2.2.2
  have hA : ∀ q : Nat, s.heap.size ≤ q → (fun q : Nat => s.heap.size ≤ q) q := fun _ h => h
  have hbA : ¬ (fun q : Nat => s.heap.size ≤ q) b := Nat.not_le.mpr hbl
  have hK2 : va_K (dC, dI) vwCl (TYS cI cZ) s := hK.sub [0, 1] rfl
  unfold p_L_C24 at hok
  refine lv_aload_n hx hb dL_law_1275 rfl (lv_at hl 1 rfl) ?_
  refine lv_aload_n hx hb dL_law_1276 rfl (lv_at hl 0 rfl) ?_
  refine lv_iload hx hb dL_law_1277 (lv_at hl 4 rfl) ?_
  refine lv_iconst (v := (1 : Int32)) hx hb dL_law_1279 (by decide) ?_
  refine lv_iadd hx hb dL_law_1280 ?_
  obtain ⟨hi1, hok⟩ := gd_some hok
  refine va_sld hx hb hXs hbl hbA hS hi1 dL_law_1281 ?_
  refine lv_aload_n hx hb dL_law_1282 rfl (lv_at hl 3 rfl) ?_
  obtain ⟨v2, hc2, hok⟩ := bd_some hok
  refine cHSi [.ref n0, .int (xs (i + (1 : Int32)).toNatClampNeg), .ref o0] S hK (va_Psuf hP) (va_Dsuf hD) hS hA hX hxn (c_L_isForbidden l hlt dC dI cI cZ cJ n0 h0 h3 h4 h5 h6 c0 c8 c9 c10 c11 c12 c13 t0 t8 t9 t10 t11 t12 t13 i0 i1 i2 i3 i4 m0 m1 m2 o0 _ sa uH uC uT uI uM fO (xs (i + (1 : Int32)).toNatClampNeg) hc2) (lw_S qm_L_207 qt_L_isForbidden qn_L qc_L_isForbidden) hd_L_isForbidden ⟨rfl, rfl⟩ ⟨Nat.le_of_ble_eq_true rfl, Nat.le_of_ble_eq_true rfl⟩ ⟨by show kc + 1 ≤ 601024; omega, by show sc + 6 ≤ 7293034; omega⟩ rfl hl.1 (Nat.le_of_ble_eq_true rfl) rfl dL_law_1283 (fun H1 hk9 h9 => fr_joinR hP hD K_NO hk9 h9) (D_W hD) (fun H locs hP hD hS => ?_)
  refine lv_istore (lv' := [(5, .int v2.1), (0, .ref b), (1, .ref n0), (2, .ref l0), (3, .ref o0), (4, .int i)]) hx hb dL_law_1286 hl (by decide) rfl (fun ls hl => ?_)
  refine lv_aload_n hx hb dL_law_1288 rfl (lv_at hl 3 rfl) ?_
  refine lv_aload_n hx hb dL_law_1289 rfl (lv_at hl 1 rfl) ?_
  refine lv_iload hx hb dL_law_1290 (lv_at hl 5 rfl) ?_
  refine lv_iconst (v := (1 : Int32)) hx hb dL_law_1292 (by decide) ?_
  refine lv_iadd hx hb dL_law_1293 ?_
  refine va_sld hx hb hXs hbl hbA hS hi1 dL_law_1294 ?_
  obtain ⟨v3, hc3, hok⟩ := bd_some hok
  refine cUVi (ci := 5) (q0 := 0) [.int (xs (i + (1 : Int32)).toNatClampNeg)] S hK2 (va_Pmid (wa := []) hP) (va_Dmid (wa := []) hD) hS hA (c_X5_isForbidden l dC dI cI cZ l0 l4 l5 l6 l8 l10 l11 l12 l13 l14 l15 l16 _ uL (xs (i + (1 : Int32)).toNatClampNeg) hc3) (lw_V qm_L_209 qi_X5_isForbidden qs_X5_isForbidden qn_X5 qc_X5_isForbidden) hd_X5_isForbidden ⟨rfl, rfl⟩ ⟨Nat.le_of_ble_eq_true rfl, Nat.le_of_ble_eq_true rfl⟩ ⟨by show (kc + 1) + 0 ≤ 601024; omega, by show (sc + 6) + 0 ≤ 7293034; omega⟩ rfl rfl rfl hl.1 (Nat.le_of_ble_eq_true rfl) rfl dL_law_1295 (fun H1 hk9 h9 => fr_joinM (wa := []) hP hD K_L hk9 h9) (D_W hD) (fun H locs hP hD hS => ?_)
  refine lv_istore (lv' := [(6, .int v3.1), (5, .int v2.1), (0, .ref b), (1, .ref n0), (2, .ref l0), (3, .ref o0), (4, .int i)]) hx hb dL_law_1298 hl (by decide) rfl (fun ls hl => ?_)
  refine lv_aload_n hx hb dL_law_1300 rfl (lv_at hl 4 rfl) ?_
  obtain ⟨v4, hc4, hok⟩ := bd_some hok
  refine cRVi (ci := 5) (q0 := 0) [] S hK2 (va_Pmid (wa := []) hP) (c_X5_thrown l dC dI cI cZ l0 l4 l5 l6 l8 l10 l11 l12 l13 l14 l15 l16 v3.2 hc4) (lw_V qm_L_122 qi_X5_thrown qs_X5_thrown qn_X5 qc_X5_thrown) hd_X5_thrown ⟨rfl, rfl⟩ ⟨Nat.le_of_ble_eq_true rfl, Nat.le_of_ble_eq_true rfl⟩ ⟨by show ((kc + 1) + 0) ≤ 601024; omega, by show ((sc + 6) + 0) ≤ 7293034; omega⟩ rfl rfl rfl hl.1 (Nat.le_of_ble_eq_true rfl) rfl dL_law_1301 ?_
  refine lv_iload hx hb dL_law_1304 (lv_at hl 1 rfl) ?_
  refine lv_icmp_eq (tgt := 1311) hx hb dL_law_1306 (by decide) (fun hc => ?_) (fun hc => ?_)
  · have hok := ip hok hc
    refine lv_iload hx hb dL_law_1311 (lv_at hl 1 rfl) ?_
    refine lv_if_ne (tgt := 1335) hx hb dL_law_1313 (by decide) (fun hc => ?_) (fun hc => ?_)
    · have hok := iq hok hc
      refine lv_goto (tgt := 2451) hx hb dL_law_1335 (by decide) ?_
      have hok := Option.some.inj hok
      subst hok
      exact hk _ _ _ _ (by omega) (by omega) hP hD hS _ (lv_sub hl [2, 3, 4, 5, 6] rfl)
    · have hok := ip hok hc
      refine lv_aload_n hx hb dL_law_1316 rfl (lv_at hl 5 rfl) ?_
      refine lv_iconst (v := (0 : Int32)) hx hb dL_law_1317 (by decide) ?_
      refine va_laldK hx hb hK hP 40 2 rfl rfl (j := 0) (by decide) (vp_inK (by decide)) dL_law_1318 ?_
      refine lv_iload hx hb dL_law_1319 (lv_at hl 0 rfl) ?_
      refine lv_if_eq (tgt := 1328) hx hb dL_law_1321 (by decide) (fun hc => ?_) (fun hc => ?_)
      · have hok := ip hok hc
        refine lv_lconst (v := (0 : Int64)) hx hb dL_law_1328 (by decide) ?_
        refine W.lcmp hx hb dL_law_1329 ?_
        refine lv_if_eq (tgt := 1335) hx hb dL_law_1330 (by decide) (fun hc => ?_) (fun hc => ?_)
        · have hok := ip hok hc
          refine lv_goto (tgt := 2451) hx hb dL_law_1335 (by decide) ?_
          have hok := Option.some.inj hok
          subst hok
          exact hk _ _ _ _ (by omega) (by omega) hP hD hS _ (lv_sub hl [2, 3, 4, 5, 6] rfl)
        · have hok := iq hok hc
          refine lv_iconst (v := (0 : Int32)) hx hb dL_law_1333 (by decide) ?_
          cases hok
      · have hok := iq hok hc
        refine lv_lconst (v := (1 : Int64)) hx hb dL_law_1324 (by decide) ?_
        refine lv_goto (tgt := 1329) hx hb dL_law_1325 (by decide) ?_
        refine W.lcmp hx hb dL_law_1329 ?_
        refine lv_if_eq (tgt := 1335) hx hb dL_law_1330 (by decide) (fun hc => ?_) (fun hc => ?_)
        · have hok := ip hok hc
          refine lv_goto (tgt := 2451) hx hb dL_law_1335 (by decide) ?_
          have hok := Option.some.inj hok
          subst hok
          exact hk _ _ _ _ (by omega) (by omega) hP hD hS _ (lv_sub hl [2, 3, 4, 5, 6] rfl)
        · have hok := iq hok hc
          refine lv_iconst (v := (0 : Int32)) hx hb dL_law_1333 (by decide) ?_
          cases hok
  · have hok := iq hok hc
    refine lv_iconst (v := (0 : Int32)) hx hb dL_law_1309 (by decide) ?_
    cases hok
def p_L_C25 (xs : Nat → Int32) (Lc : Nat) (i : Int32) (uL : tX5) (uH : tX1) (uC : tX0) (uT : tX0) (uI : tX2) (uM : tX3) (fO : Nat → Int64) : Option (tX5 × tX1 × tX0 × tX0 × tX2 × tX3 × (Nat → Int64)) :=
  bd (p_X4_cuts uH uC uT uI uM) (fun v1 =>
  bd (p_X5_cuts uL) (fun v2 =>
  if v1 = v2.1 then
    some (v2.2, uH, uC, uT, uI, uM, fO)
  else
    none))
set_option maxHeartbeats 4000000 in
set_option maxRecDepth 100000 in
theorem c_L_C25 {p : Program} {e : Env} {s : State} {m : MethodId} {below : List Frame} {meth : Method} {c : Code} (l : Launch) (hlt : l.stackTraces = false) (dC : Nat → ClassId) (dI : Nat → Nat → Nat) (cI cZ cJ : ClassId) (sa : Nat → Nat) (l0 l4 l5 l6 l8 l10 l11 l12 l13 l14 l15 l16 n0 h0 h3 h4 h5 h6 c0 c8 c9 c10 c11 c12 c13 t0 t8 t9 t10 t11 t12 t13 i0 i1 i2 i3 i4 m0 m1 m2 o0 : Nat) {b Lc : Nat} {xs : Nat → Int32} (S : CallFix p m c cL_law 9 s #[Value.ref b] lw_all RL) (hK : va_K (dC, dI) vwCl (TYJ cI cZ cJ) s) (hX : xb (fun q : Nat => s.heap.size ≤ q) sa s) (hxn : xn s) (hXs : va_X b Lc xs s s.heap) (hbl : b < s.heap.size) (i : Int32) (uL : tX5) (uH : tX1) (uC : tX0) (uT : tX0) (uI : tX2) (uM : tX3) (fO : Nat → Int64) {z : (tX5 × tX1 × tX0 × tX0 × tX2 × tX3 × (Nat → Int64))} (hok : p_L_C25 xs Lc i uL uH uC uT uI uM fO = some z) {Q : State → Prop} {kc sc : Nat} (hkc : kc + 565 ≤ 601024) (hsc : sc + 3393 ≤ 7293034) (H : Heap) (locs : List Loc) (hP : va_P (dC, dI) vwCl (wX5 cI cZ l0 l4 l5 l6 l8 l10 l11 l12 l13 l14 l15 l16 uL ++ (wN cI cZ n0 h0 h3 h4 h5 h6 c0 c8 c9 c10 c11 c12 c13 t0 t8 t9 t10 t11 t12 t13 i0 i1 i2 i3 i4 m0 m1 m2 uH uC uT uI uM ++ [(o0, .inl (cJ, 1, .inr (.inl fO)))])) H) (hD : va_D (fun q : Nat => s.heap.size ≤ q) (wX5 cI cZ l0 l4 l5 l6 l8 l10 l11 l12 l13 l14 l15 l16 uL ++ (wN cI cZ n0 h0 h3 h4 h5 h6 c0 c8 c9 c10 c11 c12 c13 t0 t8 t9 t10 t11 t12 t13 i0 i1 i2 i3 i4 m0 m1 m2 uH uC uT uI uM ++ [(o0, .inl (cJ, 1, .inr (.inl fO)))]))) (hS : va_S (fun q : Nat => s.heap.size ≤ q) s.heap H locs) (ls : Array Slot) (hl : lv_has ls 9 [(0, .ref b), (1, .ref n0), (2, .ref l0), (3, .ref o0), (4, .int i)])
    (hk : ∀ (kc' sc' : Nat) (H : Heap) (locs : List Loc), kc' ≤ kc + 565 → sc' ≤ sc + 3393 → va_P (dC, dI) vwCl (wX5 cI cZ l0 l4 l5 l6 l8 l10 l11 l12 l13 l14 l15 l16 z.1 ++ (wN cI cZ n0 h0 h3 h4 h5 h6 c0 c8 c9 c10 c11 c12 c13 t0 t8 t9 t10 t11 t12 t13 i0 i1 i2 i3 i4 m0 m1 m2 z.2.1 z.2.2.1 z.2.2.2.1 z.2.2.2.2.1 z.2.2.2.2.2.1 ++ [(o0, .inl (cJ, 1, .inr (.inl z.2.2.2.2.2.2)))])) H → va_D (fun q : Nat => s.heap.size ≤ q) (wX5 cI cZ l0 l4 l5 l6 l8 l10 l11 l12 l13 l14 l15 l16 z.1 ++ (wN cI cZ n0 h0 h3 h4 h5 h6 c0 c8 c9 c10 c11 c12 c13 t0 t8 t9 t10 t11 t12 t13 i0 i1 i2 i3 i4 m0 m1 m2 z.2.1 z.2.2.1 z.2.2.2.1 z.2.2.2.2.1 z.2.2.2.2.2.1 ++ [(o0, .inl (cJ, 1, .inr (.inl z.2.2.2.2.2.2)))])) → va_S (fun q : Nat => s.heap.size ≤ q) s.heap H locs → ∀ (ls : Array Slot), lv_has ls 9 [(0, .ref b), (1, .ref n0), (2, .ref l0), (3, .ref o0), (4, .int i)] → W p l e room_1 s m #[Value.ref b] below meth c H locs kc' sc' Q (F0 m 2451 ls [])) : W p l e room_1 s m #[Value.ref b] below meth c H locs kc sc Q (F0 m 1338 ls []) := by
  have hx := S.1
  have hb := S.2.1
  have hml := S.2.2.1
  have hown : s.vm.findClass RL = some m.cls := S.2.2.2.1
  have hts := S.2.2.2.2
  have hA : ∀ q : Nat, s.heap.size ≤ q → (fun q : Nat => s.heap.size ≤ q) q := fun _ h => h
  have hbA : ¬ (fun q : Nat => s.heap.size ≤ q) b := Nat.not_le.mpr hbl
  have hK2 : va_K (dC, dI) vwCl (TYS cI cZ) s := hK.sub [0, 1] rfl
  unfold p_L_C25 at hok
  refine lv_aload_n hx hb dL_law_1338 rfl (lv_at hl 1 rfl) ?_
  obtain ⟨v1, hc1, hok⟩ := bd_some hok
  refine cRVi (ci := 4) (q0 := 0) [] S hK2 (va_Pmid hP) (c_X4_cuts l dC dI cI cZ n0 h0 h3 h4 h5 h6 c0 c8 c9 c10 c11 c12 c13 t0 t8 t9 t10 t11 t12 t13 i0 i1 i2 i3 i4 m0 m1 m2 uH uC uT uI uM hc1) (lw_V qm_L_210 qi_X4_cuts qs_X4_cuts qn_X4 qc_X4_cuts) hd_X4_cuts ⟨rfl, rfl⟩ ⟨Nat.le_of_ble_eq_true rfl, Nat.le_of_ble_eq_true rfl⟩ ⟨by show kc ≤ 601024; omega, by show sc ≤ 7293034; omega⟩ rfl rfl rfl hl.1 (Nat.le_of_ble_eq_true rfl) rfl dL_law_1339 ?_
  refine lv_aload_n hx hb dL_law_1342 rfl (lv_at hl 2 rfl) ?_
  obtain ⟨v2, hc2, hok⟩ := bd_some hok
  refine cUVi (ci := 5) (q0 := 0) [] S hK2 (va_Pmid (wa := []) hP) (va_Dmid (wa := []) hD) hS hA (c_X5_cuts l dC dI cI cZ l0 l4 l5 l6 l8 l10 l11 l12 l13 l14 l15 l16 _ uL hc2) (lw_V qm_L_213 qi_X5_cuts qs_X5_cuts qn_X5 qc_X5_cuts) hd_X5_cuts ⟨rfl, rfl⟩ ⟨Nat.le_of_ble_eq_true rfl, Nat.le_of_ble_eq_true rfl⟩ ⟨by show kc + 0 ≤ 601024; omega, by show sc + 0 ≤ 7293034; omega⟩ rfl rfl rfl hl.1 (Nat.le_of_ble_eq_true rfl) rfl dL_law_1343 (fun H1 hk9 h9 => fr_joinM (wa := []) hP hD K_L hk9 h9) (D_W hD) (fun H locs hP hD hS => ?_)
  refine lv_icmp_eq (tgt := 2451) hx hb dL_law_1346 (by decide) (fun hc => ?_) (fun hc => ?_)
  · have hok := ip hok hc
    have hok := Option.some.inj hok
    subst hok
    exact hk _ _ _ _ (by omega) (by omega) hP hD hS _ (lv_sub hl [0, 1, 2, 3, 4] rfl)
  · have hok := iq hok hc
    refine lv_iconst (v := (0 : Int32)) hx hb dL_law_1349 (by decide) ?_
    cases hok
def p_L_C26 (xs : Nat → Int32) (Lc : Nat) (i : Int32) (uL : tX5) (uH : tX1) (uC : tX0) (uT : tX0) (uI : tX2) (uM : tX3) (fO : Nat → Int64) : Option (tX5 × tX1 × tX0 × tX0 × tX2 × tX3 × (Nat → Int64)) :=
  gd (i + (1 : Int32)) Lc (
  bd (p_L_toCome uH uC uT uI uM fO (xs (i + (1 : Int32)).toNatClampNeg)) (fun v2 =>
  bd (p_X5_toCome uL (xs (i + (1 : Int32)).toNatClampNeg)) (fun v3 =>
  bd (p_X5_thrown v3.2) (fun v4 =>
  if v4 = v2.1 then
    if v2.1 = 0 then
      if (lg_cmp (v2.2 0) v3.1.toInt64) = 0 then
        some (v3.2, uH, uC, uT, uI, uM, v2.2)
      else
        none
    else
      some (v3.2, uH, uC, uT, uI, uM, v2.2)
  else
    none))))
set_option maxHeartbeats 4000000 in
set_option maxRecDepth 100000 in
theorem c_L_C26 {p : Program} {e : Env} {s : State} {m : MethodId} {below : List Frame} {meth : Method} {c : Code} (l : Launch) (hlt : l.stackTraces = false) (dC : Nat → ClassId) (dI : Nat → Nat → Nat) (cI cZ cJ : ClassId) (sa : Nat → Nat) (l0 l4 l5 l6 l8 l10 l11 l12 l13 l14 l15 l16 n0 h0 h3 h4 h5 h6 c0 c8 c9 c10 c11 c12 c13 t0 t8 t9 t10 t11 t12 t13 i0 i1 i2 i3 i4 m0 m1 m2 o0 : Nat) {b Lc : Nat} {xs : Nat → Int32} (S : CallFix p m c cL_law 9 s #[Value.ref b] lw_all RL) (hK : va_K (dC, dI) vwCl (TYJ cI cZ cJ) s) (hX : xb (fun q : Nat => s.heap.size ≤ q) sa s) (hxn : xn s) (hXs : va_X b Lc xs s s.heap) (hbl : b < s.heap.size) (i : Int32) (uL : tX5) (uH : tX1) (uC : tX0) (uT : tX0) (uI : tX2) (uM : tX3) (fO : Nat → Int64) {z : (tX5 × tX1 × tX0 × tX0 × tX2 × tX3 × (Nat → Int64))} (hok : p_L_C26 xs Lc i uL uH uC uT uI uM fO = some z) {Q : State → Prop} {kc sc : Nat} (hkc : kc + 565 ≤ 601024) (hsc : sc + 3393 ≤ 7293034) (H : Heap) (locs : List Loc) (hP : va_P (dC, dI) vwCl (wX5 cI cZ l0 l4 l5 l6 l8 l10 l11 l12 l13 l14 l15 l16 uL ++ (wN cI cZ n0 h0 h3 h4 h5 h6 c0 c8 c9 c10 c11 c12 c13 t0 t8 t9 t10 t11 t12 t13 i0 i1 i2 i3 i4 m0 m1 m2 uH uC uT uI uM ++ [(o0, .inl (cJ, 1, .inr (.inl fO)))])) H) (hD : va_D (fun q : Nat => s.heap.size ≤ q) (wX5 cI cZ l0 l4 l5 l6 l8 l10 l11 l12 l13 l14 l15 l16 uL ++ (wN cI cZ n0 h0 h3 h4 h5 h6 c0 c8 c9 c10 c11 c12 c13 t0 t8 t9 t10 t11 t12 t13 i0 i1 i2 i3 i4 m0 m1 m2 uH uC uT uI uM ++ [(o0, .inl (cJ, 1, .inr (.inl fO)))]))) (hS : va_S (fun q : Nat => s.heap.size ≤ q) s.heap H locs) (ls : Array Slot) (hl : lv_has ls 9 [(0, .ref b), (1, .ref n0), (2, .ref l0), (3, .ref o0), (4, .int i)])
    (hk : ∀ (kc' sc' : Nat) (H : Heap) (locs : List Loc), kc' ≤ kc + 565 → sc' ≤ sc + 3393 → va_P (dC, dI) vwCl (wX5 cI cZ l0 l4 l5 l6 l8 l10 l11 l12 l13 l14 l15 l16 z.1 ++ (wN cI cZ n0 h0 h3 h4 h5 h6 c0 c8 c9 c10 c11 c12 c13 t0 t8 t9 t10 t11 t12 t13 i0 i1 i2 i3 i4 m0 m1 m2 z.2.1 z.2.2.1 z.2.2.2.1 z.2.2.2.2.1 z.2.2.2.2.2.1 ++ [(o0, .inl (cJ, 1, .inr (.inl z.2.2.2.2.2.2)))])) H → va_D (fun q : Nat => s.heap.size ≤ q) (wX5 cI cZ l0 l4 l5 l6 l8 l10 l11 l12 l13 l14 l15 l16 z.1 ++ (wN cI cZ n0 h0 h3 h4 h5 h6 c0 c8 c9 c10 c11 c12 c13 t0 t8 t9 t10 t11 t12 t13 i0 i1 i2 i3 i4 m0 m1 m2 z.2.1 z.2.2.1 z.2.2.2.1 z.2.2.2.2.1 z.2.2.2.2.2.1 ++ [(o0, .inl (cJ, 1, .inr (.inl z.2.2.2.2.2.2)))])) → va_S (fun q : Nat => s.heap.size ≤ q) s.heap H locs → ∀ (ls : Array Slot), lv_has ls 9 [(0, .ref b), (1, .ref n0), (2, .ref l0), (3, .ref o0), (4, .int i)] → W p l e room_1 s m #[Value.ref b] below meth c H locs kc' sc' Q (F0 m 2451 ls [])) : W p l e room_1 s m #[Value.ref b] below meth c H locs kc sc Q (F0 m 1351 ls []) := by
  have hx := S.1
  have hb := S.2.1
  have hml := S.2.2.1
  have hown : s.vm.findClass RL = some m.cls := S.2.2.2.1
  have hts := S.2.2.2.2
  have hA : ∀ q : Nat, s.heap.size ≤ q → (fun q : Nat => s.heap.size ≤ q) q := fun _ h => h
  have hbA : ¬ (fun q : Nat => s.heap.size ≤ q) b := Nat.not_le.mpr hbl
  have hK2 : va_K (dC, dI) vwCl (TYS cI cZ) s := hK.sub [0, 1] rfl
  unfold p_L_C26 at hok
  refine lv_aload_n hx hb dL_law_1351 rfl (lv_at hl 1 rfl) ?_
  refine lv_aload_n hx hb dL_law_1352 rfl (lv_at hl 0 rfl) ?_
  refine lv_iload hx hb dL_law_1353 (lv_at hl 4 rfl) ?_
  refine lv_iconst (v := (1 : Int32)) hx hb dL_law_1355 (by decide) ?_
  refine lv_iadd hx hb dL_law_1356 ?_
  obtain ⟨hi1, hok⟩ := gd_some hok
  refine va_sld hx hb hXs hbl hbA hS hi1 dL_law_1357 ?_
  refine lv_aload_n hx hb dL_law_1358 rfl (lv_at hl 3 rfl) ?_
  obtain ⟨v2, hc2, hok⟩ := bd_some hok
  refine cHSi [.ref n0, .int (xs (i + (1 : Int32)).toNatClampNeg), .ref o0] S hK (va_Psuf hP) (va_Dsuf hD) hS hA hX hxn (c_L_toCome l hlt dC dI cI cZ cJ n0 h0 h3 h4 h5 h6 c0 c8 c9 c10 c11 c12 c13 t0 t8 t9 t10 t11 t12 t13 i0 i1 i2 i3 i4 m0 m1 m2 o0 _ sa uH uC uT uI uM fO (xs (i + (1 : Int32)).toNatClampNeg) hc2) (lw_S qm_L_214 qt_L_toCome qn_L qc_L_toCome) hd_L_toCome ⟨rfl, rfl⟩ ⟨Nat.le_of_ble_eq_true rfl, Nat.le_of_ble_eq_true rfl⟩ ⟨by show kc + 1 ≤ 601024; omega, by show sc + 6 ≤ 7293034; omega⟩ rfl hl.1 (Nat.le_of_ble_eq_true rfl) rfl dL_law_1359 (fun H1 hk9 h9 => fr_joinR hP hD K_NO hk9 h9) (D_W hD) (fun H locs hP hD hS => ?_)
  refine lv_istore (lv' := [(5, .int v2.1), (0, .ref b), (1, .ref n0), (2, .ref l0), (3, .ref o0), (4, .int i)]) hx hb dL_law_1362 hl (by decide) rfl (fun ls hl => ?_)
  refine lv_aload_n hx hb dL_law_1364 rfl (lv_at hl 3 rfl) ?_
  refine lv_aload_n hx hb dL_law_1365 rfl (lv_at hl 1 rfl) ?_
  refine lv_iload hx hb dL_law_1366 (lv_at hl 5 rfl) ?_
  refine lv_iconst (v := (1 : Int32)) hx hb dL_law_1368 (by decide) ?_
  refine lv_iadd hx hb dL_law_1369 ?_
  refine va_sld hx hb hXs hbl hbA hS hi1 dL_law_1370 ?_
  obtain ⟨v3, hc3, hok⟩ := bd_some hok
  refine cUVi (ci := 5) (q0 := 0) [.int (xs (i + (1 : Int32)).toNatClampNeg)] S hK2 (va_Pmid (wa := []) hP) (va_Dmid (wa := []) hD) hS hA (c_X5_toCome l dC dI cI cZ l0 l4 l5 l6 l8 l10 l11 l12 l13 l14 l15 l16 _ uL (xs (i + (1 : Int32)).toNatClampNeg) hc3) (lw_V qm_L_216 qi_X5_toCome qs_X5_toCome qn_X5 qc_X5_toCome) hd_X5_toCome ⟨rfl, rfl⟩ ⟨Nat.le_of_ble_eq_true rfl, Nat.le_of_ble_eq_true rfl⟩ ⟨by show (kc + 1) + 0 ≤ 601024; omega, by show (sc + 6) + 0 ≤ 7293034; omega⟩ rfl rfl rfl hl.1 (Nat.le_of_ble_eq_true rfl) rfl dL_law_1371 (fun H1 hk9 h9 => fr_joinM (wa := []) hP hD K_L hk9 h9) (D_W hD) (fun H locs hP hD hS => ?_)
  refine lv_istore (lv' := [(6, .int v3.1), (5, .int v2.1), (0, .ref b), (1, .ref n0), (2, .ref l0), (3, .ref o0), (4, .int i)]) hx hb dL_law_1374 hl (by decide) rfl (fun ls hl => ?_)
  refine lv_aload_n hx hb dL_law_1376 rfl (lv_at hl 4 rfl) ?_
  obtain ⟨v4, hc4, hok⟩ := bd_some hok
  refine cRVi (ci := 5) (q0 := 0) [] S hK2 (va_Pmid (wa := []) hP) (c_X5_thrown l dC dI cI cZ l0 l4 l5 l6 l8 l10 l11 l12 l13 l14 l15 l16 v3.2 hc4) (lw_V qm_L_122 qi_X5_thrown qs_X5_thrown qn_X5 qc_X5_thrown) hd_X5_thrown ⟨rfl, rfl⟩ ⟨Nat.le_of_ble_eq_true rfl, Nat.le_of_ble_eq_true rfl⟩ ⟨by show ((kc + 1) + 0) ≤ 601024; omega, by show ((sc + 6) + 0) ≤ 7293034; omega⟩ rfl rfl rfl hl.1 (Nat.le_of_ble_eq_true rfl) rfl dL_law_1377 ?_
  refine lv_iload hx hb dL_law_1380 (lv_at hl 1 rfl) ?_
  refine lv_icmp_eq (tgt := 1387) hx hb dL_law_1382 (by decide) (fun hc => ?_) (fun hc => ?_)
  · have hok := ip hok hc
    refine lv_iload hx hb dL_law_1387 (lv_at hl 1 rfl) ?_
    refine lv_if_ne (tgt := 1404) hx hb dL_law_1389 (by decide) (fun hc => ?_) (fun hc => ?_)
    · have hok := iq hok hc
      refine lv_goto (tgt := 2451) hx hb dL_law_1404 (by decide) ?_
      have hok := Option.some.inj hok
      subst hok
      exact hk _ _ _ _ (by omega) (by omega) hP hD hS _ (lv_sub hl [2, 3, 4, 5, 6] rfl)
    · have hok := ip hok hc
      refine lv_aload_n hx hb dL_law_1392 rfl (lv_at hl 5 rfl) ?_
      refine lv_iconst (v := (0 : Int32)) hx hb dL_law_1393 (by decide) ?_
      refine va_laldK hx hb hK hP 40 2 rfl rfl (j := 0) (by decide) (vp_inK (by decide)) dL_law_1394 ?_
      refine lv_iload hx hb dL_law_1395 (lv_at hl 0 rfl) ?_
      refine lv_i2l (v := v3.1.toInt64) hx hb dL_law_1397 rfl ?_
      refine W.lcmp hx hb dL_law_1398 ?_
      refine lv_if_eq (tgt := 1404) hx hb dL_law_1399 (by decide) (fun hc => ?_) (fun hc => ?_)
      · have hok := ip hok hc
        refine lv_goto (tgt := 2451) hx hb dL_law_1404 (by decide) ?_
        have hok := Option.some.inj hok
        subst hok
        exact hk _ _ _ _ (by omega) (by omega) hP hD hS _ (lv_sub hl [2, 3, 4, 5, 6] rfl)
      · have hok := iq hok hc
        refine lv_iconst (v := (0 : Int32)) hx hb dL_law_1402 (by decide) ?_
        cases hok
  · have hok := iq hok hc
    refine lv_iconst (v := (0 : Int32)) hx hb dL_law_1385 (by decide) ?_
    cases hok
