def p_L_C9 (xs : Nat → Int32) (Lc : Nat) (i : Int32) (uL : tX5) (uH : tX1) (uC : tX0) (uT : tX0) (uI : tX2) (uM : tX3) (fO : Nat → Int64) : Option (tX5 × tX1 × tX0 × tX0 × tX2 × tX3 × (Nat → Int64)) :=
  bd (p_X4_floors uH uC uT uI uM) (fun v1 =>
  bd (p_X5_floors uL) (fun v2 =>
  if v1 = v2.1 then
    some (v2.2, uH, uC, uT, uI, uM, fO)
  else
    none))
set_option maxHeartbeats 4000000 in
set_option maxRecDepth 100000 in
theorem c_L_C9 {p : Program} {e : Env} {s : State} {m : MethodId} {below : List Frame} {meth : Method} {c : Code} (l : Launch) (hlt : l.stackTraces = false) (dC : Nat → ClassId) (dI : Nat → Nat → Nat) (cI cZ cJ : ClassId) (sa : Nat → Nat) (l0 l4 l5 l6 l8 l10 l11 l12 l13 l14 l15 l16 n0 h0 h3 h4 h5 h6 c0 c8 c9 c10 c11 c12 c13 t0 t8 t9 t10 t11 t12 t13 i0 i1 i2 i3 i4 m0 m1 m2 o0 : Nat) {b Lc : Nat} {xs : Nat → Int32} (S : CallFix p m c cL_law 9 s #[Value.ref b] lw_all RL) (hK : va_K (dC, dI) vwCl (TYJ cI cZ cJ) s) (hX : xb (fun q : Nat => s.heap.size ≤ q) sa s) (hxn : xn s) (hXs : va_X b Lc xs s s.heap) (hbl : b < s.heap.size) (i : Int32) (uL : tX5) (uH : tX1) (uC : tX0) (uT : tX0) (uI : tX2) (uM : tX3) (fO : Nat → Int64) {z : (tX5 × tX1 × tX0 × tX0 × tX2 × tX3 × (Nat → Int64))} (hok : p_L_C9 xs Lc i uL uH uC uT uI uM fO = some z) {Q : State → Prop} {kc sc : Nat} (hkc : kc + 565 ≤ 601024) (hsc : sc + 3393 ≤ 7293034) (H : Heap) (locs : List Loc) (hP : va_P (dC, dI) vwCl (wX5 cI cZ l0 l4 l5 l6 l8 l10 l11 l12 l13 l14 l15 l16 uL ++ (wN cI cZ n0 h0 h3 h4 h5 h6 c0 c8 c9 c10 c11 c12 c13 t0 t8 t9 t10 t11 t12 t13 i0 i1 i2 i3 i4 m0 m1 m2 uH uC uT uI uM ++ [(o0, .inl (cJ, 1, .inr (.inl fO)))])) H) (hD : va_D (fun q : Nat => s.heap.size ≤ q) (wX5 cI cZ l0 l4 l5 l6 l8 l10 l11 l12 l13 l14 l15 l16 uL ++ (wN cI cZ n0 h0 h3 h4 h5 h6 c0 c8 c9 c10 c11 c12 c13 t0 t8 t9 t10 t11 t12 t13 i0 i1 i2 i3 i4 m0 m1 m2 uH uC uT uI uM ++ [(o0, .inl (cJ, 1, .inr (.inl fO)))]))) (hS : va_S (fun q : Nat => s.heap.size ≤ q) s.heap H locs) (ls : Array Slot) (hl : lv_has ls 9 [(0, .ref b), (1, .ref n0), (2, .ref l0), (3, .ref o0), (4, .int i)])
    (hk : ∀ (kc' sc' : Nat) (H : Heap) (locs : List Loc), kc' ≤ kc + 565 → sc' ≤ sc + 3393 → va_P (dC, dI) vwCl (wX5 cI cZ l0 l4 l5 l6 l8 l10 l11 l12 l13 l14 l15 l16 z.1 ++ (wN cI cZ n0 h0 h3 h4 h5 h6 c0 c8 c9 c10 c11 c12 c13 t0 t8 t9 t10 t11 t12 t13 i0 i1 i2 i3 i4 m0 m1 m2 z.2.1 z.2.2.1 z.2.2.2.1 z.2.2.2.2.1 z.2.2.2.2.2.1 ++ [(o0, .inl (cJ, 1, .inr (.inl z.2.2.2.2.2.2)))])) H → va_D (fun q : Nat => s.heap.size ≤ q) (wX5 cI cZ l0 l4 l5 l6 l8 l10 l11 l12 l13 l14 l15 l16 z.1 ++ (wN cI cZ n0 h0 h3 h4 h5 h6 c0 c8 c9 c10 c11 c12 c13 t0 t8 t9 t10 t11 t12 t13 i0 i1 i2 i3 i4 m0 m1 m2 z.2.1 z.2.2.1 z.2.2.2.1 z.2.2.2.2.1 z.2.2.2.2.2.1 ++ [(o0, .inl (cJ, 1, .inr (.inl z.2.2.2.2.2.2)))])) → va_S (fun q : Nat => s.heap.size ≤ q) s.heap H locs → ∀ (ls : Array Slot), lv_has ls 9 [(0, .ref b), (1, .ref n0), (2, .ref l0), (3, .ref o0), (4, .int i)] → W p l e room_1 s m #[Value.ref b] below meth c H locs kc' sc' Q (F0 m 2451 ls [])) : W p l e room_1 s m #[Value.ref b] below meth c H locs kc sc Q (F0 m 791 ls []) := by
  have hx := S.1
  have hb := S.2.1
  have hml := S.2.2.1
  have hown : s.vm.findClass RL = some m.cls := S.2.2.2.1
  have hts := S.2.2.2.2
  have hA : ∀ q : Nat, s.heap.size ≤ q → (fun q : Nat => s.heap.size ≤ q) q := fun _ h => h
  have hbA : ¬ (fun q : Nat => s.heap.size ≤ q) b := Nat.not_le.mpr hbl
  have hK2 : va_K (dC, dI) vwCl (TYS cI cZ) s := hK.sub [0, 1] rfl
  unfold p_L_C9 at hok
  refine lv_aload_n hx hb dL_law_791 rfl (lv_at hl 1 rfl) ?_
  obtain ⟨v1, hc1, hok⟩ := bd_some hok
  refine cRVi (ci := 4) (q0 := 0) [] S hK2 (va_Pmid hP) (c_X4_floors l dC dI cI cZ n0 h0 h3 h4 h5 h6 c0 c8 c9 c10 c11 c12 c13 t0 t8 t9 t10 t11 t12 t13 i0 i1 i2 i3 i4 m0 m1 m2 uH uC uT uI uM hc1) (lw_V qm_L_153 qi_X4_floors qs_X4_floors qn_X4 qc_X4_floors) hd_X4_floors ⟨rfl, rfl⟩ ⟨Nat.le_of_ble_eq_true rfl, Nat.le_of_ble_eq_true rfl⟩ ⟨by show kc ≤ 601024; omega, by show sc ≤ 7293034; omega⟩ rfl rfl rfl hl.1 (Nat.le_of_ble_eq_true rfl) rfl dL_law_792 ?_
  refine lv_aload_n hx hb dL_law_795 rfl (lv_at hl 2 rfl) ?_
  obtain ⟨v2, hc2, hok⟩ := bd_some hok
  refine cUVi (ci := 5) (q0 := 0) [] S hK2 (va_Pmid (wa := []) hP) (va_Dmid (wa := []) hD) hS hA (c_X5_floors l dC dI cI cZ l0 l4 l5 l6 l8 l10 l11 l12 l13 l14 l15 l16 _ uL hc2) (lw_V qm_L_156 qi_X5_floors qs_X5_floors qn_X5 qc_X5_floors) hd_X5_floors ⟨rfl, rfl⟩ ⟨Nat.le_of_ble_eq_true rfl, Nat.le_of_ble_eq_true rfl⟩ ⟨by show kc + 0 ≤ 601024; omega, by show sc + 0 ≤ 7293034; omega⟩ rfl rfl rfl hl.1 (Nat.le_of_ble_eq_true rfl) rfl dL_law_796 (fun H1 hk9 h9 => fr_joinM (wa := []) hP hD K_L hk9 h9) (D_W hD) (fun H locs hP hD hS => ?_)
  refine lv_icmp_eq (tgt := 2451) hx hb dL_law_799 (by decide) (fun hc => ?_) (fun hc => ?_)
  · have hok := ip hok hc
    have hok := Option.some.inj hok
    subst hok
    exact hk _ _ _ _ (by omega) (by omega) hP hD hS _ (lv_sub hl [0, 1, 2, 3, 4] rfl)
  · have hok := iq hok hc
    refine lv_iconst (v := (0 : Int32)) hx hb dL_law_802 (by decide) ?_
    cases hok
def p_L_C10 (xs : Nat → Int32) (Lc : Nat) (i : Int32) (uL : tX5) (uH : tX1) (uC : tX0) (uT : tX0) (uI : tX2) (uM : tX3) (fO : Nat → Int64) : Option (tX5 × tX1 × tX0 × tX0 × tX2 × tX3 × (Nat → Int64)) :=
  bd (p_X4_hours uH uC uT uI uM) (fun v1 =>
  bd (p_X5_hours uL) (fun v2 =>
  if v1 = v2.1 then
    some (v2.2, uH, uC, uT, uI, uM, fO)
  else
    none))
set_option maxHeartbeats 4000000 in
set_option maxRecDepth 100000 in
theorem c_L_C10 {p : Program} {e : Env} {s : State} {m : MethodId} {below : List Frame} {meth : Method} {c : Code} (l : Launch) (hlt : l.stackTraces = false) (dC : Nat → ClassId) (dI : Nat → Nat → Nat) (cI cZ cJ : ClassId) (sa : Nat → Nat) (l0 l4 l5 l6 l8 l10 l11 l12 l13 l14 l15 l16 n0 h0 h3 h4 h5 h6 c0 c8 c9 c10 c11 c12 c13 t0 t8 t9 t10 t11 t12 t13 i0 i1 i2 i3 i4 m0 m1 m2 o0 : Nat) {b Lc : Nat} {xs : Nat → Int32} (S : CallFix p m c cL_law 9 s #[Value.ref b] lw_all RL) (hK : va_K (dC, dI) vwCl (TYJ cI cZ cJ) s) (hX : xb (fun q : Nat => s.heap.size ≤ q) sa s) (hxn : xn s) (hXs : va_X b Lc xs s s.heap) (hbl : b < s.heap.size) (i : Int32) (uL : tX5) (uH : tX1) (uC : tX0) (uT : tX0) (uI : tX2) (uM : tX3) (fO : Nat → Int64) {z : (tX5 × tX1 × tX0 × tX0 × tX2 × tX3 × (Nat → Int64))} (hok : p_L_C10 xs Lc i uL uH uC uT uI uM fO = some z) {Q : State → Prop} {kc sc : Nat} (hkc : kc + 565 ≤ 601024) (hsc : sc + 3393 ≤ 7293034) (H : Heap) (locs : List Loc) (hP : va_P (dC, dI) vwCl (wX5 cI cZ l0 l4 l5 l6 l8 l10 l11 l12 l13 l14 l15 l16 uL ++ (wN cI cZ n0 h0 h3 h4 h5 h6 c0 c8 c9 c10 c11 c12 c13 t0 t8 t9 t10 t11 t12 t13 i0 i1 i2 i3 i4 m0 m1 m2 uH uC uT uI uM ++ [(o0, .inl (cJ, 1, .inr (.inl fO)))])) H) (hD : va_D (fun q : Nat => s.heap.size ≤ q) (wX5 cI cZ l0 l4 l5 l6 l8 l10 l11 l12 l13 l14 l15 l16 uL ++ (wN cI cZ n0 h0 h3 h4 h5 h6 c0 c8 c9 c10 c11 c12 c13 t0 t8 t9 t10 t11 t12 t13 i0 i1 i2 i3 i4 m0 m1 m2 uH uC uT uI uM ++ [(o0, .inl (cJ, 1, .inr (.inl fO)))]))) (hS : va_S (fun q : Nat => s.heap.size ≤ q) s.heap H locs) (ls : Array Slot) (hl : lv_has ls 9 [(0, .ref b), (1, .ref n0), (2, .ref l0), (3, .ref o0), (4, .int i)])
    (hk : ∀ (kc' sc' : Nat) (H : Heap) (locs : List Loc), kc' ≤ kc + 565 → sc' ≤ sc + 3393 → va_P (dC, dI) vwCl (wX5 cI cZ l0 l4 l5 l6 l8 l10 l11 l12 l13 l14 l15 l16 z.1 ++ (wN cI cZ n0 h0 h3 h4 h5 h6 c0 c8 c9 c10 c11 c12 c13 t0 t8 t9 t10 t11 t12 t13 i0 i1 i2 i3 i4 m0 m1 m2 z.2.1 z.2.2.1 z.2.2.2.1 z.2.2.2.2.1 z.2.2.2.2.2.1 ++ [(o0, .inl (cJ, 1, .inr (.inl z.2.2.2.2.2.2)))])) H → va_D (fun q : Nat => s.heap.size ≤ q) (wX5 cI cZ l0 l4 l5 l6 l8 l10 l11 l12 l13 l14 l15 l16 z.1 ++ (wN cI cZ n0 h0 h3 h4 h5 h6 c0 c8 c9 c10 c11 c12 c13 t0 t8 t9 t10 t11 t12 t13 i0 i1 i2 i3 i4 m0 m1 m2 z.2.1 z.2.2.1 z.2.2.2.1 z.2.2.2.2.1 z.2.2.2.2.2.1 ++ [(o0, .inl (cJ, 1, .inr (.inl z.2.2.2.2.2.2)))])) → va_S (fun q : Nat => s.heap.size ≤ q) s.heap H locs → ∀ (ls : Array Slot), lv_has ls 9 [(0, .ref b), (1, .ref n0), (2, .ref l0), (3, .ref o0), (4, .int i)] → W p l e room_1 s m #[Value.ref b] below meth c H locs kc' sc' Q (F0 m 2451 ls [])) : W p l e room_1 s m #[Value.ref b] below meth c H locs kc sc Q (F0 m 804 ls []) := by
  have hx := S.1
  have hb := S.2.1
  have hml := S.2.2.1
  have hown : s.vm.findClass RL = some m.cls := S.2.2.2.1
  have hts := S.2.2.2.2
  have hA : ∀ q : Nat, s.heap.size ≤ q → (fun q : Nat => s.heap.size ≤ q) q := fun _ h => h
  have hbA : ¬ (fun q : Nat => s.heap.size ≤ q) b := Nat.not_le.mpr hbl
  have hK2 : va_K (dC, dI) vwCl (TYS cI cZ) s := hK.sub [0, 1] rfl
  unfold p_L_C10 at hok
  refine lv_aload_n hx hb dL_law_804 rfl (lv_at hl 1 rfl) ?_
  obtain ⟨v1, hc1, hok⟩ := bd_some hok
  refine cRVi (ci := 4) (q0 := 0) [] S hK2 (va_Pmid hP) (c_X4_hours l dC dI cI cZ n0 h0 h3 h4 h5 h6 c0 c8 c9 c10 c11 c12 c13 t0 t8 t9 t10 t11 t12 t13 i0 i1 i2 i3 i4 m0 m1 m2 uH uC uT uI uM hc1) (lw_V qm_L_157 qi_X4_hours qs_X4_hours qn_X4 qc_X4_hours) hd_X4_hours ⟨rfl, rfl⟩ ⟨Nat.le_of_ble_eq_true rfl, Nat.le_of_ble_eq_true rfl⟩ ⟨by show kc ≤ 601024; omega, by show sc ≤ 7293034; omega⟩ rfl rfl rfl hl.1 (Nat.le_of_ble_eq_true rfl) rfl dL_law_805 ?_
  refine lv_aload_n hx hb dL_law_808 rfl (lv_at hl 2 rfl) ?_
  obtain ⟨v2, hc2, hok⟩ := bd_some hok
  refine cUVi (ci := 5) (q0 := 0) [] S hK2 (va_Pmid (wa := []) hP) (va_Dmid (wa := []) hD) hS hA (c_X5_hours l dC dI cI cZ l0 l4 l5 l6 l8 l10 l11 l12 l13 l14 l15 l16 _ uL hc2) (lw_V qm_L_160 qi_X5_hours qs_X5_hours qn_X5 qc_X5_hours) hd_X5_hours ⟨rfl, rfl⟩ ⟨Nat.le_of_ble_eq_true rfl, Nat.le_of_ble_eq_true rfl⟩ ⟨by show kc + 0 ≤ 601024; omega, by show sc + 0 ≤ 7293034; omega⟩ rfl rfl rfl hl.1 (Nat.le_of_ble_eq_true rfl) rfl dL_law_809 (fun H1 hk9 h9 => fr_joinM (wa := []) hP hD K_L hk9 h9) (D_W hD) (fun H locs hP hD hS => ?_)
  refine lv_icmp_eq (tgt := 2451) hx hb dL_law_812 (by decide) (fun hc => ?_) (fun hc => ?_)
  · have hok := ip hok hc
    have hok := Option.some.inj hok
    subst hok
    exact hk _ _ _ _ (by omega) (by omega) hP hD hS _ (lv_sub hl [0, 1, 2, 3, 4] rfl)
  · have hok := iq hok hc
    refine lv_iconst (v := (0 : Int32)) hx hb dL_law_815 (by decide) ?_
    cases hok
def p_L_C11 (xs : Nat → Int32) (Lc : Nat) (i : Int32) (uL : tX5) (uH : tX1) (uC : tX0) (uT : tX0) (uI : tX2) (uM : tX3) (fO : Nat → Int64) : Option (tX5 × tX1 × tX0 × tX0 × tX2 × tX3 × (Nat → Int64)) :=
  bd (p_X4_liftAt uH uC uT uI uM) (fun v1 =>
  bd (p_X5_liftAt uL) (fun v2 =>
  if v1 = v2.1 then
    some (v2.2, uH, uC, uT, uI, uM, fO)
  else
    none))
set_option maxHeartbeats 4000000 in
set_option maxRecDepth 100000 in
theorem c_L_C11 {p : Program} {e : Env} {s : State} {m : MethodId} {below : List Frame} {meth : Method} {c : Code} (l : Launch) (hlt : l.stackTraces = false) (dC : Nat → ClassId) (dI : Nat → Nat → Nat) (cI cZ cJ : ClassId) (sa : Nat → Nat) (l0 l4 l5 l6 l8 l10 l11 l12 l13 l14 l15 l16 n0 h0 h3 h4 h5 h6 c0 c8 c9 c10 c11 c12 c13 t0 t8 t9 t10 t11 t12 t13 i0 i1 i2 i3 i4 m0 m1 m2 o0 : Nat) {b Lc : Nat} {xs : Nat → Int32} (S : CallFix p m c cL_law 9 s #[Value.ref b] lw_all RL) (hK : va_K (dC, dI) vwCl (TYJ cI cZ cJ) s) (hX : xb (fun q : Nat => s.heap.size ≤ q) sa s) (hxn : xn s) (hXs : va_X b Lc xs s s.heap) (hbl : b < s.heap.size) (i : Int32) (uL : tX5) (uH : tX1) (uC : tX0) (uT : tX0) (uI : tX2) (uM : tX3) (fO : Nat → Int64) {z : (tX5 × tX1 × tX0 × tX0 × tX2 × tX3 × (Nat → Int64))} (hok : p_L_C11 xs Lc i uL uH uC uT uI uM fO = some z) {Q : State → Prop} {kc sc : Nat} (hkc : kc + 565 ≤ 601024) (hsc : sc + 3393 ≤ 7293034) (H : Heap) (locs : List Loc) (hP : va_P (dC, dI) vwCl (wX5 cI cZ l0 l4 l5 l6 l8 l10 l11 l12 l13 l14 l15 l16 uL ++ (wN cI cZ n0 h0 h3 h4 h5 h6 c0 c8 c9 c10 c11 c12 c13 t0 t8 t9 t10 t11 t12 t13 i0 i1 i2 i3 i4 m0 m1 m2 uH uC uT uI uM ++ [(o0, .inl (cJ, 1, .inr (.inl fO)))])) H) (hD : va_D (fun q : Nat => s.heap.size ≤ q) (wX5 cI cZ l0 l4 l5 l6 l8 l10 l11 l12 l13 l14 l15 l16 uL ++ (wN cI cZ n0 h0 h3 h4 h5 h6 c0 c8 c9 c10 c11 c12 c13 t0 t8 t9 t10 t11 t12 t13 i0 i1 i2 i3 i4 m0 m1 m2 uH uC uT uI uM ++ [(o0, .inl (cJ, 1, .inr (.inl fO)))]))) (hS : va_S (fun q : Nat => s.heap.size ≤ q) s.heap H locs) (ls : Array Slot) (hl : lv_has ls 9 [(0, .ref b), (1, .ref n0), (2, .ref l0), (3, .ref o0), (4, .int i)])
    (hk : ∀ (kc' sc' : Nat) (H : Heap) (locs : List Loc), kc' ≤ kc + 565 → sc' ≤ sc + 3393 → va_P (dC, dI) vwCl (wX5 cI cZ l0 l4 l5 l6 l8 l10 l11 l12 l13 l14 l15 l16 z.1 ++ (wN cI cZ n0 h0 h3 h4 h5 h6 c0 c8 c9 c10 c11 c12 c13 t0 t8 t9 t10 t11 t12 t13 i0 i1 i2 i3 i4 m0 m1 m2 z.2.1 z.2.2.1 z.2.2.2.1 z.2.2.2.2.1 z.2.2.2.2.2.1 ++ [(o0, .inl (cJ, 1, .inr (.inl z.2.2.2.2.2.2)))])) H → va_D (fun q : Nat => s.heap.size ≤ q) (wX5 cI cZ l0 l4 l5 l6 l8 l10 l11 l12 l13 l14 l15 l16 z.1 ++ (wN cI cZ n0 h0 h3 h4 h5 h6 c0 c8 c9 c10 c11 c12 c13 t0 t8 t9 t10 t11 t12 t13 i0 i1 i2 i3 i4 m0 m1 m2 z.2.1 z.2.2.1 z.2.2.2.1 z.2.2.2.2.1 z.2.2.2.2.2.1 ++ [(o0, .inl (cJ, 1, .inr (.inl z.2.2.2.2.2.2)))])) → va_S (fun q : Nat => s.heap.size ≤ q) s.heap H locs → ∀ (ls : Array Slot), lv_has ls 9 [(0, .ref b), (1, .ref n0), (2, .ref l0), (3, .ref o0), (4, .int i)] → W p l e room_1 s m #[Value.ref b] below meth c H locs kc' sc' Q (F0 m 2451 ls [])) : W p l e room_1 s m #[Value.ref b] below meth c H locs kc sc Q (F0 m 817 ls []) := by
  have hx := S.1
  have hb := S.2.1
  have hml := S.2.2.1
  have hown : s.vm.findClass RL = some m.cls := S.2.2.2.1
  have hts := S.2.2.2.2
  have hA : ∀ q : Nat, s.heap.size ≤ q → (fun q : Nat => s.heap.size ≤ q) q := fun _ h => h
  have hbA : ¬ (fun q : Nat => s.heap.size ≤ q) b := Nat.not_le.mpr hbl
  have hK2 : va_K (dC, dI) vwCl (TYS cI cZ) s := hK.sub [0, 1] rfl
  unfold p_L_C11 at hok
  refine lv_aload_n hx hb dL_law_817 rfl (lv_at hl 1 rfl) ?_
  obtain ⟨v1, hc1, hok⟩ := bd_some hok
  refine cRVi (ci := 4) (q0 := 0) [] S hK2 (va_Pmid hP) (c_X4_liftAt l dC dI cI cZ n0 h0 h3 h4 h5 h6 c0 c8 c9 c10 c11 c12 c13 t0 t8 t9 t10 t11 t12 t13 i0 i1 i2 i3 i4 m0 m1 m2 uH uC uT uI uM hc1) (lw_V qm_L_161 qi_X4_liftAt qs_X4_liftAt qn_X4 qc_X4_liftAt) hd_X4_liftAt ⟨rfl, rfl⟩ ⟨Nat.le_of_ble_eq_true rfl, Nat.le_of_ble_eq_true rfl⟩ ⟨by show kc ≤ 601024; omega, by show sc ≤ 7293034; omega⟩ rfl rfl rfl hl.1 (Nat.le_of_ble_eq_true rfl) rfl dL_law_818 ?_
  refine lv_aload_n hx hb dL_law_821 rfl (lv_at hl 2 rfl) ?_
  obtain ⟨v2, hc2, hok⟩ := bd_some hok
  refine cUVi (ci := 5) (q0 := 0) [] S hK2 (va_Pmid (wa := []) hP) (va_Dmid (wa := []) hD) hS hA (c_X5_liftAt l dC dI cI cZ l0 l4 l5 l6 l8 l10 l11 l12 l13 l14 l15 l16 _ uL hc2) (lw_V qm_L_164 qi_X5_liftAt qs_X5_liftAt qn_X5 qc_X5_liftAt) hd_X5_liftAt ⟨rfl, rfl⟩ ⟨Nat.le_of_ble_eq_true rfl, Nat.le_of_ble_eq_true rfl⟩ ⟨by show kc + 0 ≤ 601024; omega, by show sc + 0 ≤ 7293034; omega⟩ rfl rfl rfl hl.1 (Nat.le_of_ble_eq_true rfl) rfl dL_law_822 (fun H1 hk9 h9 => fr_joinM (wa := []) hP hD K_L hk9 h9) (D_W hD) (fun H locs hP hD hS => ?_)
  refine lv_icmp_eq (tgt := 2451) hx hb dL_law_825 (by decide) (fun hc => ?_) (fun hc => ?_)
  · have hok := ip hok hc
    have hok := Option.some.inj hok
    subst hok
    exact hk _ _ _ _ (by omega) (by omega) hP hD hS _ (lv_sub hl [0, 1, 2, 3, 4] rfl)
  · have hok := iq hok hc
    refine lv_iconst (v := (0 : Int32)) hx hb dL_law_828 (by decide) ?_
    cases hok
def p_L_C12 (xs : Nat → Int32) (Lc : Nat) (i : Int32) (uL : tX5) (uH : tX1) (uC : tX0) (uT : tX0) (uI : tX2) (uM : tX3) (fO : Nat → Int64) : Option (tX5 × tX1 × tX0 × tX0 × tX2 × tX3 × (Nat → Int64)) :=
  bd (p_X4_goes uH uC uT uI uM) (fun v1 =>
  bd (p_X5_goes uL) (fun v2 =>
  if v1 = v2.1 then
    some (v2.2, uH, uC, uT, uI, uM, fO)
  else
    none))
set_option maxHeartbeats 4000000 in
set_option maxRecDepth 100000 in
theorem c_L_C12 {p : Program} {e : Env} {s : State} {m : MethodId} {below : List Frame} {meth : Method} {c : Code} (l : Launch) (hlt : l.stackTraces = false) (dC : Nat → ClassId) (dI : Nat → Nat → Nat) (cI cZ cJ : ClassId) (sa : Nat → Nat) (l0 l4 l5 l6 l8 l10 l11 l12 l13 l14 l15 l16 n0 h0 h3 h4 h5 h6 c0 c8 c9 c10 c11 c12 c13 t0 t8 t9 t10 t11 t12 t13 i0 i1 i2 i3 i4 m0 m1 m2 o0 : Nat) {b Lc : Nat} {xs : Nat → Int32} (S : CallFix p m c cL_law 9 s #[Value.ref b] lw_all RL) (hK : va_K (dC, dI) vwCl (TYJ cI cZ cJ) s) (hX : xb (fun q : Nat => s.heap.size ≤ q) sa s) (hxn : xn s) (hXs : va_X b Lc xs s s.heap) (hbl : b < s.heap.size) (i : Int32) (uL : tX5) (uH : tX1) (uC : tX0) (uT : tX0) (uI : tX2) (uM : tX3) (fO : Nat → Int64) {z : (tX5 × tX1 × tX0 × tX0 × tX2 × tX3 × (Nat → Int64))} (hok : p_L_C12 xs Lc i uL uH uC uT uI uM fO = some z) {Q : State → Prop} {kc sc : Nat} (hkc : kc + 565 ≤ 601024) (hsc : sc + 3393 ≤ 7293034) (H : Heap) (locs : List Loc) (hP : va_P (dC, dI) vwCl (wX5 cI cZ l0 l4 l5 l6 l8 l10 l11 l12 l13 l14 l15 l16 uL ++ (wN cI cZ n0 h0 h3 h4 h5 h6 c0 c8 c9 c10 c11 c12 c13 t0 t8 t9 t10 t11 t12 t13 i0 i1 i2 i3 i4 m0 m1 m2 uH uC uT uI uM ++ [(o0, .inl (cJ, 1, .inr (.inl fO)))])) H) (hD : va_D (fun q : Nat => s.heap.size ≤ q) (wX5 cI cZ l0 l4 l5 l6 l8 l10 l11 l12 l13 l14 l15 l16 uL ++ (wN cI cZ n0 h0 h3 h4 h5 h6 c0 c8 c9 c10 c11 c12 c13 t0 t8 t9 t10 t11 t12 t13 i0 i1 i2 i3 i4 m0 m1 m2 uH uC uT uI uM ++ [(o0, .inl (cJ, 1, .inr (.inl fO)))]))) (hS : va_S (fun q : Nat => s.heap.size ≤ q) s.heap H locs) (ls : Array Slot) (hl : lv_has ls 9 [(0, .ref b), (1, .ref n0), (2, .ref l0), (3, .ref o0), (4, .int i)])
    (hk : ∀ (kc' sc' : Nat) (H : Heap) (locs : List Loc), kc' ≤ kc + 565 → sc' ≤ sc + 3393 → va_P (dC, dI) vwCl (wX5 cI cZ l0 l4 l5 l6 l8 l10 l11 l12 l13 l14 l15 l16 z.1 ++ (wN cI cZ n0 h0 h3 h4 h5 h6 c0 c8 c9 c10 c11 c12 c13 t0 t8 t9 t10 t11 t12 t13 i0 i1 i2 i3 i4 m0 m1 m2 z.2.1 z.2.2.1 z.2.2.2.1 z.2.2.2.2.1 z.2.2.2.2.2.1 ++ [(o0, .inl (cJ, 1, .inr (.inl z.2.2.2.2.2.2)))])) H → va_D (fun q : Nat => s.heap.size ≤ q) (wX5 cI cZ l0 l4 l5 l6 l8 l10 l11 l12 l13 l14 l15 l16 z.1 ++ (wN cI cZ n0 h0 h3 h4 h5 h6 c0 c8 c9 c10 c11 c12 c13 t0 t8 t9 t10 t11 t12 t13 i0 i1 i2 i3 i4 m0 m1 m2 z.2.1 z.2.2.1 z.2.2.2.1 z.2.2.2.2.1 z.2.2.2.2.2.1 ++ [(o0, .inl (cJ, 1, .inr (.inl z.2.2.2.2.2.2)))])) → va_S (fun q : Nat => s.heap.size ≤ q) s.heap H locs → ∀ (ls : Array Slot), lv_has ls 9 [(0, .ref b), (1, .ref n0), (2, .ref l0), (3, .ref o0), (4, .int i)] → W p l e room_1 s m #[Value.ref b] below meth c H locs kc' sc' Q (F0 m 2451 ls [])) : W p l e room_1 s m #[Value.ref b] below meth c H locs kc sc Q (F0 m 830 ls []) := by
  have hx := S.1
  have hb := S.2.1
  have hml := S.2.2.1
  have hown : s.vm.findClass RL = some m.cls := S.2.2.2.1
  have hts := S.2.2.2.2
  have hA : ∀ q : Nat, s.heap.size ≤ q → (fun q : Nat => s.heap.size ≤ q) q := fun _ h => h
  have hbA : ¬ (fun q : Nat => s.heap.size ≤ q) b := Nat.not_le.mpr hbl
  have hK2 : va_K (dC, dI) vwCl (TYS cI cZ) s := hK.sub [0, 1] rfl
  unfold p_L_C12 at hok
  refine lv_aload_n hx hb dL_law_830 rfl (lv_at hl 1 rfl) ?_
  obtain ⟨v1, hc1, hok⟩ := bd_some hok
  refine cRVi (ci := 4) (q0 := 0) [] S hK2 (va_Pmid hP) (c_X4_goes l dC dI cI cZ n0 h0 h3 h4 h5 h6 c0 c8 c9 c10 c11 c12 c13 t0 t8 t9 t10 t11 t12 t13 i0 i1 i2 i3 i4 m0 m1 m2 uH uC uT uI uM hc1) (lw_V qm_L_165 qi_X4_goes qs_X4_goes qn_X4 qc_X4_goes) hd_X4_goes ⟨rfl, rfl⟩ ⟨Nat.le_of_ble_eq_true rfl, Nat.le_of_ble_eq_true rfl⟩ ⟨by show kc ≤ 601024; omega, by show sc ≤ 7293034; omega⟩ rfl rfl rfl hl.1 (Nat.le_of_ble_eq_true rfl) rfl dL_law_831 ?_
  refine lv_aload_n hx hb dL_law_834 rfl (lv_at hl 2 rfl) ?_
  obtain ⟨v2, hc2, hok⟩ := bd_some hok
  refine cUVi (ci := 5) (q0 := 0) [] S hK2 (va_Pmid (wa := []) hP) (va_Dmid (wa := []) hD) hS hA (c_X5_goes l dC dI cI cZ l0 l4 l5 l6 l8 l10 l11 l12 l13 l14 l15 l16 _ uL hc2) (lw_V qm_L_168 qi_X5_goes qs_X5_goes qn_X5 qc_X5_goes) hd_X5_goes ⟨rfl, rfl⟩ ⟨Nat.le_of_ble_eq_true rfl, Nat.le_of_ble_eq_true rfl⟩ ⟨by show kc + 0 ≤ 601024; omega, by show sc + 0 ≤ 7293034; omega⟩ rfl rfl rfl hl.1 (Nat.le_of_ble_eq_true rfl) rfl dL_law_835 (fun H1 hk9 h9 => fr_joinM (wa := []) hP hD K_L hk9 h9) (D_W hD) (fun H locs hP hD hS => ?_)
  refine lv_icmp_eq (tgt := 2451) hx hb dL_law_838 (by decide) (fun hc => ?_) (fun hc => ?_)
  · have hok := ip hok hc
    have hok := Option.some.inj hok
    subst hok
    exact hk _ _ _ _ (by omega) (by omega) hP hD hS _ (lv_sub hl [0, 1, 2, 3, 4] rfl)
  · have hok := iq hok hc
    refine lv_iconst (v := (0 : Int32)) hx hb dL_law_841 (by decide) ?_
    cases hok
def p_L_C13 (xs : Nat → Int32) (Lc : Nat) (i : Int32) (uL : tX5) (uH : tX1) (uC : tX0) (uT : tX0) (uI : tX2) (uM : tX3) (fO : Nat → Int64) : Option (tX5 × tX1 × tX0 × tX0 × tX2 × tX3 × (Nat → Int64)) :=
  gd (i + (1 : Int32)) Lc (
  bd (p_L_isCalled uH uC uT uI uM fO (xs (i + (1 : Int32)).toNatClampNeg)) (fun v2 =>
  bd (p_X5_isCalled uL (xs (i + (1 : Int32)).toNatClampNeg)) (fun v3 =>
  bd (p_X5_thrown v3.2) (fun v4 =>
  if v4 = v2.1 then
    if v2.1 = 0 then
      if v3.1 = 0 then
        if (lg_cmp (v2.2 0) (0 : Int64)) = 0 then
          some (v3.2, uH, uC, uT, uI, uM, v2.2)
        else
          none
      else
        if (lg_cmp (v2.2 0) (1 : Int64)) = 0 then
          some (v3.2, uH, uC, uT, uI, uM, v2.2)
        else
          none
    else
      some (v3.2, uH, uC, uT, uI, uM, v2.2)
  else
    none))))
set_option maxHeartbeats 4000000 in
set_option maxRecDepth 100000 in
theorem c_L_C13 {p : Program} {e : Env} {s : State} {m : MethodId} {below : List Frame} {meth : Method} {c : Code} (l : Launch) (hlt : l.stackTraces = false) (dC : Nat → ClassId) (dI : Nat → Nat → Nat) (cI cZ cJ : ClassId) (sa : Nat → Nat) (l0 l4 l5 l6 l8 l10 l11 l12 l13 l14 l15 l16 n0 h0 h3 h4 h5 h6 c0 c8 c9 c10 c11 c12 c13 t0 t8 t9 t10 t11 t12 t13 i0 i1 i2 i3 i4 m0 m1 m2 o0 : Nat) {b Lc : Nat} {xs : Nat → Int32} (S : CallFix p m c cL_law 9 s #[Value.ref b] lw_all RL) (hK : va_K (dC, dI) vwCl (TYJ cI cZ cJ) s) (hX : xb (fun q : Nat => s.heap.size ≤ q) sa s) (hxn : xn s) (hXs : va_X b Lc xs s s.heap) (hbl : b < s.heap.size) (i : Int32) (uL : tX5) (uH : tX1) (uC : tX0) (uT : tX0) (uI : tX2) (uM : tX3) (fO : Nat → Int64) {z : (tX5 × tX1 × tX0 × tX0 × tX2 × tX3 × (Nat → Int64))} (hok : p_L_C13 xs Lc i uL uH uC uT uI uM fO = some z) {Q : State → Prop} {kc sc : Nat} (hkc : kc + 565 ≤ 601024) (hsc : sc + 3393 ≤ 7293034) (H : Heap) (locs : List Loc) (hP : va_P (dC, dI) vwCl (wX5 cI cZ l0 l4 l5 l6 l8 l10 l11 l12 l13 l14 l15 l16 uL ++ (wN cI cZ n0 h0 h3 h4 h5 h6 c0 c8 c9 c10 c11 c12 c13 t0 t8 t9 t10 t11 t12 t13 i0 i1 i2 i3 i4 m0 m1 m2 uH uC uT uI uM ++ [(o0, .inl (cJ, 1, .inr (.inl fO)))])) H) (hD : va_D (fun q : Nat => s.heap.size ≤ q) (wX5 cI cZ l0 l4 l5 l6 l8 l10 l11 l12 l13 l14 l15 l16 uL ++ (wN cI cZ n0 h0 h3 h4 h5 h6 c0 c8 c9 c10 c11 c12 c13 t0 t8 t9 t10 t11 t12 t13 i0 i1 i2 i3 i4 m0 m1 m2 uH uC uT uI uM ++ [(o0, .inl (cJ, 1, .inr (.inl fO)))]))) (hS : va_S (fun q : Nat => s.heap.size ≤ q) s.heap H locs) (ls : Array Slot) (hl : lv_has ls 9 [(0, .ref b), (1, .ref n0), (2, .ref l0), (3, .ref o0), (4, .int i)])
    (hk : ∀ (kc' sc' : Nat) (H : Heap) (locs : List Loc), kc' ≤ kc + 565 → sc' ≤ sc + 3393 → va_P (dC, dI) vwCl (wX5 cI cZ l0 l4 l5 l6 l8 l10 l11 l12 l13 l14 l15 l16 z.1 ++ (wN cI cZ n0 h0 h3 h4 h5 h6 c0 c8 c9 c10 c11 c12 c13 t0 t8 t9 t10 t11 t12 t13 i0 i1 i2 i3 i4 m0 m1 m2 z.2.1 z.2.2.1 z.2.2.2.1 z.2.2.2.2.1 z.2.2.2.2.2.1 ++ [(o0, .inl (cJ, 1, .inr (.inl z.2.2.2.2.2.2)))])) H → va_D (fun q : Nat => s.heap.size ≤ q) (wX5 cI cZ l0 l4 l5 l6 l8 l10 l11 l12 l13 l14 l15 l16 z.1 ++ (wN cI cZ n0 h0 h3 h4 h5 h6 c0 c8 c9 c10 c11 c12 c13 t0 t8 t9 t10 t11 t12 t13 i0 i1 i2 i3 i4 m0 m1 m2 z.2.1 z.2.2.1 z.2.2.2.1 z.2.2.2.2.1 z.2.2.2.2.2.1 ++ [(o0, .inl (cJ, 1, .inr (.inl z.2.2.2.2.2.2)))])) → va_S (fun q : Nat => s.heap.size ≤ q) s.heap H locs → ∀ (ls : Array Slot), lv_has ls 9 [(0, .ref b), (1, .ref n0), (2, .ref l0), (3, .ref o0), (4, .int i)] → W p l e room_1 s m #[Value.ref b] below meth c H locs kc' sc' Q (F0 m 2451 ls [])) : W p l e room_1 s m #[Value.ref b] below meth c H locs kc sc Q (F0 m 843 ls []) := by
  have hx := S.1
  have hb := S.2.1
  have hml := S.2.2.1
  have hown : s.vm.findClass RL = some m.cls := S.2.2.2.1
  have hts := S.2.2.2.2
  have hA : ∀ q : Nat, s.heap.size ≤ q → (fun q : Nat => s.heap.size ≤ q) q := fun _ h => h
  have hbA : ¬ (fun q : Nat => s.heap.size ≤ q) b := Nat.not_le.mpr hbl
  have hK2 : va_K (dC, dI) vwCl (TYS cI cZ) s := hK.sub [0, 1] rfl
  unfold p_L_C13 at hok
  refine lv_aload_n hx hb dL_law_843 rfl (lv_at hl 1 rfl) ?_
  refine lv_aload_n hx hb dL_law_844 rfl (lv_at hl 0 rfl) ?_
  refine lv_iload hx hb dL_law_845 (lv_at hl 4 rfl) ?_
  refine lv_iconst (v := (1 : Int32)) hx hb dL_law_847 (by decide) ?_
  refine lv_iadd hx hb dL_law_848 ?_
  obtain ⟨hi1, hok⟩ := gd_some hok
  refine va_sld hx hb hXs hbl hbA hS hi1 dL_law_849 ?_
  refine lv_aload_n hx hb dL_law_850 rfl (lv_at hl 3 rfl) ?_
  obtain ⟨v2, hc2, hok⟩ := bd_some hok
  refine cHSi [.ref n0, .int (xs (i + (1 : Int32)).toNatClampNeg), .ref o0] S hK (va_Psuf hP) (va_Dsuf hD) hS hA hX hxn (c_L_isCalled l hlt dC dI cI cZ cJ n0 h0 h3 h4 h5 h6 c0 c8 c9 c10 c11 c12 c13 t0 t8 t9 t10 t11 t12 t13 i0 i1 i2 i3 i4 m0 m1 m2 o0 _ sa uH uC uT uI uM fO (xs (i + (1 : Int32)).toNatClampNeg) hc2) (lw_S qm_L_169 qt_L_isCalled qn_L qc_L_isCalled) hd_L_isCalled ⟨rfl, rfl⟩ ⟨Nat.le_of_ble_eq_true rfl, Nat.le_of_ble_eq_true rfl⟩ ⟨by show kc + 1 ≤ 601024; omega, by show sc + 6 ≤ 7293034; omega⟩ rfl hl.1 (Nat.le_of_ble_eq_true rfl) rfl dL_law_851 (fun H1 hk9 h9 => fr_joinR hP hD K_NO hk9 h9) (D_W hD) (fun H locs hP hD hS => ?_)
  refine lv_istore (lv' := [(5, .int v2.1), (0, .ref b), (1, .ref n0), (2, .ref l0), (3, .ref o0), (4, .int i)]) hx hb dL_law_854 hl (by decide) rfl (fun ls hl => ?_)
  refine lv_aload_n hx hb dL_law_856 rfl (lv_at hl 3 rfl) ?_
  refine lv_aload_n hx hb dL_law_857 rfl (lv_at hl 1 rfl) ?_
  refine lv_iload hx hb dL_law_858 (lv_at hl 5 rfl) ?_
  refine lv_iconst (v := (1 : Int32)) hx hb dL_law_860 (by decide) ?_
  refine lv_iadd hx hb dL_law_861 ?_
  refine va_sld hx hb hXs hbl hbA hS hi1 dL_law_862 ?_
  obtain ⟨v3, hc3, hok⟩ := bd_some hok
  refine cUVi (ci := 5) (q0 := 0) [.int (xs (i + (1 : Int32)).toNatClampNeg)] S hK2 (va_Pmid (wa := []) hP) (va_Dmid (wa := []) hD) hS hA (c_X5_isCalled l dC dI cI cZ l0 l4 l5 l6 l8 l10 l11 l12 l13 l14 l15 l16 _ uL (xs (i + (1 : Int32)).toNatClampNeg) hc3) (lw_V qm_L_171 qi_X5_isCalled qs_X5_isCalled qn_X5 qc_X5_isCalled) hd_X5_isCalled ⟨rfl, rfl⟩ ⟨Nat.le_of_ble_eq_true rfl, Nat.le_of_ble_eq_true rfl⟩ ⟨by show (kc + 1) + 0 ≤ 601024; omega, by show (sc + 6) + 0 ≤ 7293034; omega⟩ rfl rfl rfl hl.1 (Nat.le_of_ble_eq_true rfl) rfl dL_law_863 (fun H1 hk9 h9 => fr_joinM (wa := []) hP hD K_L hk9 h9) (D_W hD) (fun H locs hP hD hS => ?_)
  refine lv_istore (lv' := [(6, .int v3.1), (5, .int v2.1), (0, .ref b), (1, .ref n0), (2, .ref l0), (3, .ref o0), (4, .int i)]) hx hb dL_law_866 hl (by decide) rfl (fun ls hl => ?_)
  refine lv_aload_n hx hb dL_law_868 rfl (lv_at hl 4 rfl) ?_
  obtain ⟨v4, hc4, hok⟩ := bd_some hok
  refine cRVi (ci := 5) (q0 := 0) [] S hK2 (va_Pmid (wa := []) hP) (c_X5_thrown l dC dI cI cZ l0 l4 l5 l6 l8 l10 l11 l12 l13 l14 l15 l16 v3.2 hc4) (lw_V qm_L_122 qi_X5_thrown qs_X5_thrown qn_X5 qc_X5_thrown) hd_X5_thrown ⟨rfl, rfl⟩ ⟨Nat.le_of_ble_eq_true rfl, Nat.le_of_ble_eq_true rfl⟩ ⟨by show ((kc + 1) + 0) ≤ 601024; omega, by show ((sc + 6) + 0) ≤ 7293034; omega⟩ rfl rfl rfl hl.1 (Nat.le_of_ble_eq_true rfl) rfl dL_law_869 ?_
  refine lv_iload hx hb dL_law_872 (lv_at hl 1 rfl) ?_
  refine lv_icmp_eq (tgt := 879) hx hb dL_law_874 (by decide) (fun hc => ?_) (fun hc => ?_)
  · have hok := ip hok hc
    refine lv_iload hx hb dL_law_879 (lv_at hl 1 rfl) ?_
    refine lv_if_ne (tgt := 903) hx hb dL_law_881 (by decide) (fun hc => ?_) (fun hc => ?_)
    · have hok := iq hok hc
      refine lv_goto (tgt := 2451) hx hb dL_law_903 (by decide) ?_
      have hok := Option.some.inj hok
      subst hok
      exact hk _ _ _ _ (by omega) (by omega) hP hD hS _ (lv_sub hl [2, 3, 4, 5, 6] rfl)
    · have hok := ip hok hc
      refine lv_aload_n hx hb dL_law_884 rfl (lv_at hl 5 rfl) ?_
      refine lv_iconst (v := (0 : Int32)) hx hb dL_law_885 (by decide) ?_
      refine va_laldK hx hb hK hP 40 2 rfl rfl (j := 0) (by decide) (vp_inK (by decide)) dL_law_886 ?_
      refine lv_iload hx hb dL_law_887 (lv_at hl 0 rfl) ?_
      refine lv_if_eq (tgt := 896) hx hb dL_law_889 (by decide) (fun hc => ?_) (fun hc => ?_)
      · have hok := ip hok hc
        refine lv_lconst (v := (0 : Int64)) hx hb dL_law_896 (by decide) ?_
        refine W.lcmp hx hb dL_law_897 ?_
        refine lv_if_eq (tgt := 903) hx hb dL_law_898 (by decide) (fun hc => ?_) (fun hc => ?_)
        · have hok := ip hok hc
          refine lv_goto (tgt := 2451) hx hb dL_law_903 (by decide) ?_
          have hok := Option.some.inj hok
          subst hok
          exact hk _ _ _ _ (by omega) (by omega) hP hD hS _ (lv_sub hl [2, 3, 4, 5, 6] rfl)
        · have hok := iq hok hc
          refine lv_iconst (v := (0 : Int32)) hx hb dL_law_901 (by decide) ?_
          cases hok
      · have hok := iq hok hc
        refine lv_lconst (v := (1 : Int64)) hx hb dL_law_892 (by decide) ?_
        refine lv_goto (tgt := 897) hx hb dL_law_893 (by decide) ?_
        refine W.lcmp hx hb dL_law_897 ?_
        refine lv_if_eq (tgt := 903) hx hb dL_law_898 (by decide) (fun hc => ?_) (fun hc => ?_)
        · have hok := ip hok hc
          refine lv_goto (tgt := 2451) hx hb dL_law_903 (by decide) ?_
          have hok := Option.some.inj hok
          subst hok
          exact hk _ _ _ _ (by omega) (by omega) hP hD hS _ (lv_sub hl [2, 3, 4, 5, 6] rfl)
        · have hok := iq hok hc
          refine lv_iconst (v := (0 : Int32)) hx hb dL_law_901 (by decide) ?_
          cases hok
  · have hok := iq hok hc
    refine lv_iconst (v := (0 : Int32)) hx hb dL_law_877 (by decide) ?_
    cases hok
def p_L_C14 (xs : Nat → Int32) (Lc : Nat) (i : Int32) (uL : tX5) (uH : tX1) (uC : tX0) (uT : tX0) (uI : tX2) (uM : tX3) (fO : Nat → Int64) : Option (tX5 × tX1 × tX0 × tX0 × tX2 × tX3 × (Nat → Int64)) :=
  bd (p_X4_calls uH uC uT uI uM) (fun v1 =>
  bd (p_X5_calls uL) (fun v2 =>
  if v1 = v2.1 then
    some (v2.2, uH, uC, uT, uI, uM, fO)
  else
    none))
set_option maxHeartbeats 4000000 in
set_option maxRecDepth 100000 in
theorem c_L_C14 {p : Program} {e : Env} {s : State} {m : MethodId} {below : List Frame} {meth : Method} {c : Code} (l : Launch) (hlt : l.stackTraces = false) (dC : Nat → ClassId) (dI : Nat → Nat → Nat) (cI cZ cJ : ClassId) (sa : Nat → Nat) (l0 l4 l5 l6 l8 l10 l11 l12 l13 l14 l15 l16 n0 h0 h3 h4 h5 h6 c0 c8 c9 c10 c11 c12 c13 t0 t8 t9 t10 t11 t12 t13 i0 i1 i2 i3 i4 m0 m1 m2 o0 : Nat) {b Lc : Nat} {xs : Nat → Int32} (S : CallFix p m c cL_law 9 s #[Value.ref b] lw_all RL) (hK : va_K (dC, dI) vwCl (TYJ cI cZ cJ) s) (hX : xb (fun q : Nat => s.heap.size ≤ q) sa s) (hxn : xn s) (hXs : va_X b Lc xs s s.heap) (hbl : b < s.heap.size) (i : Int32) (uL : tX5) (uH : tX1) (uC : tX0) (uT : tX0) (uI : tX2) (uM : tX3) (fO : Nat → Int64) {z : (tX5 × tX1 × tX0 × tX0 × tX2 × tX3 × (Nat → Int64))} (hok : p_L_C14 xs Lc i uL uH uC uT uI uM fO = some z) {Q : State → Prop} {kc sc : Nat} (hkc : kc + 565 ≤ 601024) (hsc : sc + 3393 ≤ 7293034) (H : Heap) (locs : List Loc) (hP : va_P (dC, dI) vwCl (wX5 cI cZ l0 l4 l5 l6 l8 l10 l11 l12 l13 l14 l15 l16 uL ++ (wN cI cZ n0 h0 h3 h4 h5 h6 c0 c8 c9 c10 c11 c12 c13 t0 t8 t9 t10 t11 t12 t13 i0 i1 i2 i3 i4 m0 m1 m2 uH uC uT uI uM ++ [(o0, .inl (cJ, 1, .inr (.inl fO)))])) H) (hD : va_D (fun q : Nat => s.heap.size ≤ q) (wX5 cI cZ l0 l4 l5 l6 l8 l10 l11 l12 l13 l14 l15 l16 uL ++ (wN cI cZ n0 h0 h3 h4 h5 h6 c0 c8 c9 c10 c11 c12 c13 t0 t8 t9 t10 t11 t12 t13 i0 i1 i2 i3 i4 m0 m1 m2 uH uC uT uI uM ++ [(o0, .inl (cJ, 1, .inr (.inl fO)))]))) (hS : va_S (fun q : Nat => s.heap.size ≤ q) s.heap H locs) (ls : Array Slot) (hl : lv_has ls 9 [(0, .ref b), (1, .ref n0), (2, .ref l0), (3, .ref o0), (4, .int i)])
    (hk : ∀ (kc' sc' : Nat) (H : Heap) (locs : List Loc), kc' ≤ kc + 565 → sc' ≤ sc + 3393 → va_P (dC, dI) vwCl (wX5 cI cZ l0 l4 l5 l6 l8 l10 l11 l12 l13 l14 l15 l16 z.1 ++ (wN cI cZ n0 h0 h3 h4 h5 h6 c0 c8 c9 c10 c11 c12 c13 t0 t8 t9 t10 t11 t12 t13 i0 i1 i2 i3 i4 m0 m1 m2 z.2.1 z.2.2.1 z.2.2.2.1 z.2.2.2.2.1 z.2.2.2.2.2.1 ++ [(o0, .inl (cJ, 1, .inr (.inl z.2.2.2.2.2.2)))])) H → va_D (fun q : Nat => s.heap.size ≤ q) (wX5 cI cZ l0 l4 l5 l6 l8 l10 l11 l12 l13 l14 l15 l16 z.1 ++ (wN cI cZ n0 h0 h3 h4 h5 h6 c0 c8 c9 c10 c11 c12 c13 t0 t8 t9 t10 t11 t12 t13 i0 i1 i2 i3 i4 m0 m1 m2 z.2.1 z.2.2.1 z.2.2.2.1 z.2.2.2.2.1 z.2.2.2.2.2.1 ++ [(o0, .inl (cJ, 1, .inr (.inl z.2.2.2.2.2.2)))])) → va_S (fun q : Nat => s.heap.size ≤ q) s.heap H locs → ∀ (ls : Array Slot), lv_has ls 9 [(0, .ref b), (1, .ref n0), (2, .ref l0), (3, .ref o0), (4, .int i)] → W p l e room_1 s m #[Value.ref b] below meth c H locs kc' sc' Q (F0 m 2451 ls [])) : W p l e room_1 s m #[Value.ref b] below meth c H locs kc sc Q (F0 m 906 ls []) := by
  have hx := S.1
  have hb := S.2.1
  have hml := S.2.2.1
  have hown : s.vm.findClass RL = some m.cls := S.2.2.2.1
  have hts := S.2.2.2.2
  have hA : ∀ q : Nat, s.heap.size ≤ q → (fun q : Nat => s.heap.size ≤ q) q := fun _ h => h
  have hbA : ¬ (fun q : Nat => s.heap.size ≤ q) b := Nat.not_le.mpr hbl
  have hK2 : va_K (dC, dI) vwCl (TYS cI cZ) s := hK.sub [0, 1] rfl
  unfold p_L_C14 at hok
  refine lv_aload_n hx hb dL_law_906 rfl (lv_at hl 1 rfl) ?_
  obtain ⟨v1, hc1, hok⟩ := bd_some hok
  refine cRVi (ci := 4) (q0 := 0) [] S hK2 (va_Pmid hP) (c_X4_calls l dC dI cI cZ n0 h0 h3 h4 h5 h6 c0 c8 c9 c10 c11 c12 c13 t0 t8 t9 t10 t11 t12 t13 i0 i1 i2 i3 i4 m0 m1 m2 uH uC uT uI uM hc1) (lw_V qm_L_172 qi_X4_calls qs_X4_calls qn_X4 qc_X4_calls) hd_X4_calls ⟨rfl, rfl⟩ ⟨Nat.le_of_ble_eq_true rfl, Nat.le_of_ble_eq_true rfl⟩ ⟨by show kc ≤ 601024; omega, by show sc ≤ 7293034; omega⟩ rfl rfl rfl hl.1 (Nat.le_of_ble_eq_true rfl) rfl dL_law_907 ?_
  refine lv_aload_n hx hb dL_law_910 rfl (lv_at hl 2 rfl) ?_
  obtain ⟨v2, hc2, hok⟩ := bd_some hok
  refine cUVi (ci := 5) (q0 := 0) [] S hK2 (va_Pmid (wa := []) hP) (va_Dmid (wa := []) hD) hS hA (c_X5_calls l dC dI cI cZ l0 l4 l5 l6 l8 l10 l11 l12 l13 l14 l15 l16 _ uL hc2) (lw_V qm_L_175 qi_X5_calls qs_X5_calls qn_X5 qc_X5_calls) hd_X5_calls ⟨rfl, rfl⟩ ⟨Nat.le_of_ble_eq_true rfl, Nat.le_of_ble_eq_true rfl⟩ ⟨by show kc + 0 ≤ 601024; omega, by show sc + 0 ≤ 7293034; omega⟩ rfl rfl rfl hl.1 (Nat.le_of_ble_eq_true rfl) rfl dL_law_911 (fun H1 hk9 h9 => fr_joinM (wa := []) hP hD K_L hk9 h9) (D_W hD) (fun H locs hP hD hS => ?_)
  refine lv_icmp_eq (tgt := 2451) hx hb dL_law_914 (by decide) (fun hc => ?_) (fun hc => ?_)
  · have hok := ip hok hc
    have hok := Option.some.inj hok
    subst hok
    exact hk _ _ _ _ (by omega) (by omega) hP hD hS _ (lv_sub hl [0, 1, 2, 3, 4] rfl)
  · have hok := iq hok hc
    refine lv_iconst (v := (0 : Int32)) hx hb dL_law_917 (by decide) ?_
    cases hok
def p_L_C15 (xs : Nat → Int32) (Lc : Nat) (i : Int32) (uL : tX5) (uH : tX1) (uC : tX0) (uT : tX0) (uI : tX2) (uM : tX3) (fO : Nat → Int64) : Option (tX5 × tX1 × tX0 × tX0 × tX2 × tX3 × (Nat → Int64)) :=
  bd (p_X4_stuckFor uH uC uT uI uM) (fun v1 =>
  bd (p_X5_stuckFor uL) (fun v2 =>
  if v1 = v2.1 then
    some (v2.2, uH, uC, uT, uI, uM, fO)
  else
    none))
set_option maxHeartbeats 4000000 in
set_option maxRecDepth 100000 in
theorem c_L_C15 {p : Program} {e : Env} {s : State} {m : MethodId} {below : List Frame} {meth : Method} {c : Code} (l : Launch) (hlt : l.stackTraces = false) (dC : Nat → ClassId) (dI : Nat → Nat → Nat) (cI cZ cJ : ClassId) (sa : Nat → Nat) (l0 l4 l5 l6 l8 l10 l11 l12 l13 l14 l15 l16 n0 h0 h3 h4 h5 h6 c0 c8 c9 c10 c11 c12 c13 t0 t8 t9 t10 t11 t12 t13 i0 i1 i2 i3 i4 m0 m1 m2 o0 : Nat) {b Lc : Nat} {xs : Nat → Int32} (S : CallFix p m c cL_law 9 s #[Value.ref b] lw_all RL) (hK : va_K (dC, dI) vwCl (TYJ cI cZ cJ) s) (hX : xb (fun q : Nat => s.heap.size ≤ q) sa s) (hxn : xn s) (hXs : va_X b Lc xs s s.heap) (hbl : b < s.heap.size) (i : Int32) (uL : tX5) (uH : tX1) (uC : tX0) (uT : tX0) (uI : tX2) (uM : tX3) (fO : Nat → Int64) {z : (tX5 × tX1 × tX0 × tX0 × tX2 × tX3 × (Nat → Int64))} (hok : p_L_C15 xs Lc i uL uH uC uT uI uM fO = some z) {Q : State → Prop} {kc sc : Nat} (hkc : kc + 565 ≤ 601024) (hsc : sc + 3393 ≤ 7293034) (H : Heap) (locs : List Loc) (hP : va_P (dC, dI) vwCl (wX5 cI cZ l0 l4 l5 l6 l8 l10 l11 l12 l13 l14 l15 l16 uL ++ (wN cI cZ n0 h0 h3 h4 h5 h6 c0 c8 c9 c10 c11 c12 c13 t0 t8 t9 t10 t11 t12 t13 i0 i1 i2 i3 i4 m0 m1 m2 uH uC uT uI uM ++ [(o0, .inl (cJ, 1, .inr (.inl fO)))])) H) (hD : va_D (fun q : Nat => s.heap.size ≤ q) (wX5 cI cZ l0 l4 l5 l6 l8 l10 l11 l12 l13 l14 l15 l16 uL ++ (wN cI cZ n0 h0 h3 h4 h5 h6 c0 c8 c9 c10 c11 c12 c13 t0 t8 t9 t10 t11 t12 t13 i0 i1 i2 i3 i4 m0 m1 m2 uH uC uT uI uM ++ [(o0, .inl (cJ, 1, .inr (.inl fO)))]))) (hS : va_S (fun q : Nat => s.heap.size ≤ q) s.heap H locs) (ls : Array Slot) (hl : lv_has ls 9 [(0, .ref b), (1, .ref n0), (2, .ref l0), (3, .ref o0), (4, .int i)])
    (hk : ∀ (kc' sc' : Nat) (H : Heap) (locs : List Loc), kc' ≤ kc + 565 → sc' ≤ sc + 3393 → va_P (dC, dI) vwCl (wX5 cI cZ l0 l4 l5 l6 l8 l10 l11 l12 l13 l14 l15 l16 z.1 ++ (wN cI cZ n0 h0 h3 h4 h5 h6 c0 c8 c9 c10 c11 c12 c13 t0 t8 t9 t10 t11 t12 t13 i0 i1 i2 i3 i4 m0 m1 m2 z.2.1 z.2.2.1 z.2.2.2.1 z.2.2.2.2.1 z.2.2.2.2.2.1 ++ [(o0, .inl (cJ, 1, .inr (.inl z.2.2.2.2.2.2)))])) H → va_D (fun q : Nat => s.heap.size ≤ q) (wX5 cI cZ l0 l4 l5 l6 l8 l10 l11 l12 l13 l14 l15 l16 z.1 ++ (wN cI cZ n0 h0 h3 h4 h5 h6 c0 c8 c9 c10 c11 c12 c13 t0 t8 t9 t10 t11 t12 t13 i0 i1 i2 i3 i4 m0 m1 m2 z.2.1 z.2.2.1 z.2.2.2.1 z.2.2.2.2.1 z.2.2.2.2.2.1 ++ [(o0, .inl (cJ, 1, .inr (.inl z.2.2.2.2.2.2)))])) → va_S (fun q : Nat => s.heap.size ≤ q) s.heap H locs → ∀ (ls : Array Slot), lv_has ls 9 [(0, .ref b), (1, .ref n0), (2, .ref l0), (3, .ref o0), (4, .int i)] → W p l e room_1 s m #[Value.ref b] below meth c H locs kc' sc' Q (F0 m 2451 ls [])) : W p l e room_1 s m #[Value.ref b] below meth c H locs kc sc Q (F0 m 919 ls []) := by
  have hx := S.1
  have hb := S.2.1
  have hml := S.2.2.1
  have hown : s.vm.findClass RL = some m.cls := S.2.2.2.1
  have hts := S.2.2.2.2
  have hA : ∀ q : Nat, s.heap.size ≤ q → (fun q : Nat => s.heap.size ≤ q) q := fun _ h => h
  have hbA : ¬ (fun q : Nat => s.heap.size ≤ q) b := Nat.not_le.mpr hbl
  have hK2 : va_K (dC, dI) vwCl (TYS cI cZ) s := hK.sub [0, 1] rfl
  unfold p_L_C15 at hok
  refine lv_aload_n hx hb dL_law_919 rfl (lv_at hl 1 rfl) ?_
  obtain ⟨v1, hc1, hok⟩ := bd_some hok
  refine cRVi (ci := 4) (q0 := 0) [] S hK2 (va_Pmid hP) (c_X4_stuckFor l dC dI cI cZ n0 h0 h3 h4 h5 h6 c0 c8 c9 c10 c11 c12 c13 t0 t8 t9 t10 t11 t12 t13 i0 i1 i2 i3 i4 m0 m1 m2 uH uC uT uI uM hc1) (lw_V qm_L_176 qi_X4_stuckFor qs_X4_stuckFor qn_X4 qc_X4_stuckFor) hd_X4_stuckFor ⟨rfl, rfl⟩ ⟨Nat.le_of_ble_eq_true rfl, Nat.le_of_ble_eq_true rfl⟩ ⟨by show kc ≤ 601024; omega, by show sc ≤ 7293034; omega⟩ rfl rfl rfl hl.1 (Nat.le_of_ble_eq_true rfl) rfl dL_law_920 ?_
  refine lv_aload_n hx hb dL_law_923 rfl (lv_at hl 2 rfl) ?_
  obtain ⟨v2, hc2, hok⟩ := bd_some hok
  refine cUVi (ci := 5) (q0 := 0) [] S hK2 (va_Pmid (wa := []) hP) (va_Dmid (wa := []) hD) hS hA (c_X5_stuckFor l dC dI cI cZ l0 l4 l5 l6 l8 l10 l11 l12 l13 l14 l15 l16 _ uL hc2) (lw_V qm_L_179 qi_X5_stuckFor qs_X5_stuckFor qn_X5 qc_X5_stuckFor) hd_X5_stuckFor ⟨rfl, rfl⟩ ⟨Nat.le_of_ble_eq_true rfl, Nat.le_of_ble_eq_true rfl⟩ ⟨by show kc + 0 ≤ 601024; omega, by show sc + 0 ≤ 7293034; omega⟩ rfl rfl rfl hl.1 (Nat.le_of_ble_eq_true rfl) rfl dL_law_924 (fun H1 hk9 h9 => fr_joinM (wa := []) hP hD K_L hk9 h9) (D_W hD) (fun H locs hP hD hS => ?_)
  refine lv_icmp_eq (tgt := 2451) hx hb dL_law_927 (by decide) (fun hc => ?_) (fun hc => ?_)
  · have hok := ip hok hc
    have hok := Option.some.inj hok
    subst hok
    exact hk _ _ _ _ (by omega) (by omega) hP hD hS _ (lv_sub hl [0, 1, 2, 3, 4] rfl)
  · have hok := iq hok hc
    refine lv_iconst (v := (0 : Int32)) hx hb dL_law_930 (by decide) ?_
    cases hok
def p_L_C16 (xs : Nat → Int32) (Lc : Nat) (i : Int32) (uL : tX5) (uH : tX1) (uC : tX0) (uT : tX0) (uI : tX2) (uM : tX3) (fO : Nat → Int64) : Option (tX5 × tX1 × tX0 × tX0 × tX2 × tX3 × (Nat → Int64)) :=
  bd (p_X4_wear uH uC uT uI uM) (fun v1 =>
  bd (p_X5_wear uL) (fun v2 =>
  if v1 = v2.1 then
    some (v2.2, uH, uC, uT, uI, uM, fO)
  else
    none))
set_option maxHeartbeats 4000000 in
set_option maxRecDepth 100000 in
theorem c_L_C16 {p : Program} {e : Env} {s : State} {m : MethodId} {below : List Frame} {meth : Method} {c : Code} (l : Launch) (hlt : l.stackTraces = false) (dC : Nat → ClassId) (dI : Nat → Nat → Nat) (cI cZ cJ : ClassId) (sa : Nat → Nat) (l0 l4 l5 l6 l8 l10 l11 l12 l13 l14 l15 l16 n0 h0 h3 h4 h5 h6 c0 c8 c9 c10 c11 c12 c13 t0 t8 t9 t10 t11 t12 t13 i0 i1 i2 i3 i4 m0 m1 m2 o0 : Nat) {b Lc : Nat} {xs : Nat → Int32} (S : CallFix p m c cL_law 9 s #[Value.ref b] lw_all RL) (hK : va_K (dC, dI) vwCl (TYJ cI cZ cJ) s) (hX : xb (fun q : Nat => s.heap.size ≤ q) sa s) (hxn : xn s) (hXs : va_X b Lc xs s s.heap) (hbl : b < s.heap.size) (i : Int32) (uL : tX5) (uH : tX1) (uC : tX0) (uT : tX0) (uI : tX2) (uM : tX3) (fO : Nat → Int64) {z : (tX5 × tX1 × tX0 × tX0 × tX2 × tX3 × (Nat → Int64))} (hok : p_L_C16 xs Lc i uL uH uC uT uI uM fO = some z) {Q : State → Prop} {kc sc : Nat} (hkc : kc + 565 ≤ 601024) (hsc : sc + 3393 ≤ 7293034) (H : Heap) (locs : List Loc) (hP : va_P (dC, dI) vwCl (wX5 cI cZ l0 l4 l5 l6 l8 l10 l11 l12 l13 l14 l15 l16 uL ++ (wN cI cZ n0 h0 h3 h4 h5 h6 c0 c8 c9 c10 c11 c12 c13 t0 t8 t9 t10 t11 t12 t13 i0 i1 i2 i3 i4 m0 m1 m2 uH uC uT uI uM ++ [(o0, .inl (cJ, 1, .inr (.inl fO)))])) H) (hD : va_D (fun q : Nat => s.heap.size ≤ q) (wX5 cI cZ l0 l4 l5 l6 l8 l10 l11 l12 l13 l14 l15 l16 uL ++ (wN cI cZ n0 h0 h3 h4 h5 h6 c0 c8 c9 c10 c11 c12 c13 t0 t8 t9 t10 t11 t12 t13 i0 i1 i2 i3 i4 m0 m1 m2 uH uC uT uI uM ++ [(o0, .inl (cJ, 1, .inr (.inl fO)))]))) (hS : va_S (fun q : Nat => s.heap.size ≤ q) s.heap H locs) (ls : Array Slot) (hl : lv_has ls 9 [(0, .ref b), (1, .ref n0), (2, .ref l0), (3, .ref o0), (4, .int i)])
    (hk : ∀ (kc' sc' : Nat) (H : Heap) (locs : List Loc), kc' ≤ kc + 565 → sc' ≤ sc + 3393 → va_P (dC, dI) vwCl (wX5 cI cZ l0 l4 l5 l6 l8 l10 l11 l12 l13 l14 l15 l16 z.1 ++ (wN cI cZ n0 h0 h3 h4 h5 h6 c0 c8 c9 c10 c11 c12 c13 t0 t8 t9 t10 t11 t12 t13 i0 i1 i2 i3 i4 m0 m1 m2 z.2.1 z.2.2.1 z.2.2.2.1 z.2.2.2.2.1 z.2.2.2.2.2.1 ++ [(o0, .inl (cJ, 1, .inr (.inl z.2.2.2.2.2.2)))])) H → va_D (fun q : Nat => s.heap.size ≤ q) (wX5 cI cZ l0 l4 l5 l6 l8 l10 l11 l12 l13 l14 l15 l16 z.1 ++ (wN cI cZ n0 h0 h3 h4 h5 h6 c0 c8 c9 c10 c11 c12 c13 t0 t8 t9 t10 t11 t12 t13 i0 i1 i2 i3 i4 m0 m1 m2 z.2.1 z.2.2.1 z.2.2.2.1 z.2.2.2.2.1 z.2.2.2.2.2.1 ++ [(o0, .inl (cJ, 1, .inr (.inl z.2.2.2.2.2.2)))])) → va_S (fun q : Nat => s.heap.size ≤ q) s.heap H locs → ∀ (ls : Array Slot), lv_has ls 9 [(0, .ref b), (1, .ref n0), (2, .ref l0), (3, .ref o0), (4, .int i)] → W p l e room_1 s m #[Value.ref b] below meth c H locs kc' sc' Q (F0 m 2451 ls [])) : W p l e room_1 s m #[Value.ref b] below meth c H locs kc sc Q (F0 m 932 ls []) := by
  have hx := S.1
  have hb := S.2.1
  have hml := S.2.2.1
  have hown : s.vm.findClass RL = some m.cls := S.2.2.2.1
  have hts := S.2.2.2.2
  have hA : ∀ q : Nat, s.heap.size ≤ q → (fun q : Nat => s.heap.size ≤ q) q := fun _ h => h
  have hbA : ¬ (fun q : Nat => s.heap.size ≤ q) b := Nat.not_le.mpr hbl
  have hK2 : va_K (dC, dI) vwCl (TYS cI cZ) s := hK.sub [0, 1] rfl
  unfold p_L_C16 at hok
  refine lv_aload_n hx hb dL_law_932 rfl (lv_at hl 1 rfl) ?_
  obtain ⟨v1, hc1, hok⟩ := bd_some hok
  refine cRVi (ci := 4) (q0 := 0) [] S hK2 (va_Pmid hP) (c_X4_wear l dC dI cI cZ n0 h0 h3 h4 h5 h6 c0 c8 c9 c10 c11 c12 c13 t0 t8 t9 t10 t11 t12 t13 i0 i1 i2 i3 i4 m0 m1 m2 uH uC uT uI uM hc1) (lw_V qm_L_180 qi_X4_wear qs_X4_wear qn_X4 qc_X4_wear) hd_X4_wear ⟨rfl, rfl⟩ ⟨Nat.le_of_ble_eq_true rfl, Nat.le_of_ble_eq_true rfl⟩ ⟨by show kc ≤ 601024; omega, by show sc ≤ 7293034; omega⟩ rfl rfl rfl hl.1 (Nat.le_of_ble_eq_true rfl) rfl dL_law_933 ?_
  refine lv_aload_n hx hb dL_law_936 rfl (lv_at hl 2 rfl) ?_
  obtain ⟨v2, hc2, hok⟩ := bd_some hok
  refine cUVi (ci := 5) (q0 := 0) [] S hK2 (va_Pmid (wa := []) hP) (va_Dmid (wa := []) hD) hS hA (c_X5_wear l dC dI cI cZ l0 l4 l5 l6 l8 l10 l11 l12 l13 l14 l15 l16 _ uL hc2) (lw_V qm_L_183 qi_X5_wear qs_X5_wear qn_X5 qc_X5_wear) hd_X5_wear ⟨rfl, rfl⟩ ⟨Nat.le_of_ble_eq_true rfl, Nat.le_of_ble_eq_true rfl⟩ ⟨by show kc + 0 ≤ 601024; omega, by show sc + 0 ≤ 7293034; omega⟩ rfl rfl rfl hl.1 (Nat.le_of_ble_eq_true rfl) rfl dL_law_937 (fun H1 hk9 h9 => fr_joinM (wa := []) hP hD K_L hk9 h9) (D_W hD) (fun H locs hP hD hS => ?_)
  refine lv_icmp_eq (tgt := 2451) hx hb dL_law_940 (by decide) (fun hc => ?_) (fun hc => ?_)
  · have hok := ip hok hc
    have hok := Option.some.inj hok
    subst hok
    exact hk _ _ _ _ (by omega) (by omega) hP hD hS _ (lv_sub hl [0, 1, 2, 3, 4] rfl)
  · have hok := iq hok hc
    refine lv_iconst (v := (0 : Int32)) hx hb dL_law_943 (by decide) ?_
    cases hok
def p_L_C17 (xs : Nat → Int32) (Lc : Nat) (i : Int32) (uL : tX5) (uH : tX1) (uC : tX0) (uT : tX0) (uI : tX2) (uM : tX3) (fO : Nat → Int64) : Option (tX5 × tX1 × tX0 × tX0 × tX2 × tX3 × (Nat → Int64)) :=
  bd (p_X4_limit uH uC uT uI uM) (fun v1 =>
  bd (p_X5_limit uL) (fun v2 =>
  if v1 = v2.1 then
    some (v2.2, uH, uC, uT, uI, uM, fO)
  else
    none))
set_option maxHeartbeats 4000000 in
set_option maxRecDepth 100000 in
theorem c_L_C17 {p : Program} {e : Env} {s : State} {m : MethodId} {below : List Frame} {meth : Method} {c : Code} (l : Launch) (hlt : l.stackTraces = false) (dC : Nat → ClassId) (dI : Nat → Nat → Nat) (cI cZ cJ : ClassId) (sa : Nat → Nat) (l0 l4 l5 l6 l8 l10 l11 l12 l13 l14 l15 l16 n0 h0 h3 h4 h5 h6 c0 c8 c9 c10 c11 c12 c13 t0 t8 t9 t10 t11 t12 t13 i0 i1 i2 i3 i4 m0 m1 m2 o0 : Nat) {b Lc : Nat} {xs : Nat → Int32} (S : CallFix p m c cL_law 9 s #[Value.ref b] lw_all RL) (hK : va_K (dC, dI) vwCl (TYJ cI cZ cJ) s) (hX : xb (fun q : Nat => s.heap.size ≤ q) sa s) (hxn : xn s) (hXs : va_X b Lc xs s s.heap) (hbl : b < s.heap.size) (i : Int32) (uL : tX5) (uH : tX1) (uC : tX0) (uT : tX0) (uI : tX2) (uM : tX3) (fO : Nat → Int64) {z : (tX5 × tX1 × tX0 × tX0 × tX2 × tX3 × (Nat → Int64))} (hok : p_L_C17 xs Lc i uL uH uC uT uI uM fO = some z) {Q : State → Prop} {kc sc : Nat} (hkc : kc + 565 ≤ 601024) (hsc : sc + 3393 ≤ 7293034) (H : Heap) (locs : List Loc) (hP : va_P (dC, dI) vwCl (wX5 cI cZ l0 l4 l5 l6 l8 l10 l11 l12 l13 l14 l15 l16 uL ++ (wN cI cZ n0 h0 h3 h4 h5 h6 c0 c8 c9 c10 c11 c12 c13 t0 t8 t9 t10 t11 t12 t13 i0 i1 i2 i3 i4 m0 m1 m2 uH uC uT uI uM ++ [(o0, .inl (cJ, 1, .inr (.inl fO)))])) H) (hD : va_D (fun q : Nat => s.heap.size ≤ q) (wX5 cI cZ l0 l4 l5 l6 l8 l10 l11 l12 l13 l14 l15 l16 uL ++ (wN cI cZ n0 h0 h3 h4 h5 h6 c0 c8 c9 c10 c11 c12 c13 t0 t8 t9 t10 t11 t12 t13 i0 i1 i2 i3 i4 m0 m1 m2 uH uC uT uI uM ++ [(o0, .inl (cJ, 1, .inr (.inl fO)))]))) (hS : va_S (fun q : Nat => s.heap.size ≤ q) s.heap H locs) (ls : Array Slot) (hl : lv_has ls 9 [(0, .ref b), (1, .ref n0), (2, .ref l0), (3, .ref o0), (4, .int i)])
    (hk : ∀ (kc' sc' : Nat) (H : Heap) (locs : List Loc), kc' ≤ kc + 565 → sc' ≤ sc + 3393 → va_P (dC, dI) vwCl (wX5 cI cZ l0 l4 l5 l6 l8 l10 l11 l12 l13 l14 l15 l16 z.1 ++ (wN cI cZ n0 h0 h3 h4 h5 h6 c0 c8 c9 c10 c11 c12 c13 t0 t8 t9 t10 t11 t12 t13 i0 i1 i2 i3 i4 m0 m1 m2 z.2.1 z.2.2.1 z.2.2.2.1 z.2.2.2.2.1 z.2.2.2.2.2.1 ++ [(o0, .inl (cJ, 1, .inr (.inl z.2.2.2.2.2.2)))])) H → va_D (fun q : Nat => s.heap.size ≤ q) (wX5 cI cZ l0 l4 l5 l6 l8 l10 l11 l12 l13 l14 l15 l16 z.1 ++ (wN cI cZ n0 h0 h3 h4 h5 h6 c0 c8 c9 c10 c11 c12 c13 t0 t8 t9 t10 t11 t12 t13 i0 i1 i2 i3 i4 m0 m1 m2 z.2.1 z.2.2.1 z.2.2.2.1 z.2.2.2.2.1 z.2.2.2.2.2.1 ++ [(o0, .inl (cJ, 1, .inr (.inl z.2.2.2.2.2.2)))])) → va_S (fun q : Nat => s.heap.size ≤ q) s.heap H locs → ∀ (ls : Array Slot), lv_has ls 9 [(0, .ref b), (1, .ref n0), (2, .ref l0), (3, .ref o0), (4, .int i)] → W p l e room_1 s m #[Value.ref b] below meth c H locs kc' sc' Q (F0 m 2451 ls [])) : W p l e room_1 s m #[Value.ref b] below meth c H locs kc sc Q (F0 m 945 ls []) := by
  have hx := S.1
  have hb := S.2.1
  have hml := S.2.2.1
  have hown : s.vm.findClass RL = some m.cls := S.2.2.2.1
  have hts := S.2.2.2.2
  have hA : ∀ q : Nat, s.heap.size ≤ q → (fun q : Nat => s.heap.size ≤ q) q := fun _ h => h
  have hbA : ¬ (fun q : Nat => s.heap.size ≤ q) b := Nat.not_le.mpr hbl
  have hK2 : va_K (dC, dI) vwCl (TYS cI cZ) s := hK.sub [0, 1] rfl
  unfold p_L_C17 at hok
  refine lv_aload_n hx hb dL_law_945 rfl (lv_at hl 1 rfl) ?_
  obtain ⟨v1, hc1, hok⟩ := bd_some hok
  refine cRVi (ci := 4) (q0 := 0) [] S hK2 (va_Pmid hP) (c_X4_limit l dC dI cI cZ n0 h0 h3 h4 h5 h6 c0 c8 c9 c10 c11 c12 c13 t0 t8 t9 t10 t11 t12 t13 i0 i1 i2 i3 i4 m0 m1 m2 uH uC uT uI uM hc1) (lw_V qm_L_184 qi_X4_limit qs_X4_limit qn_X4 qc_X4_limit) hd_X4_limit ⟨rfl, rfl⟩ ⟨Nat.le_of_ble_eq_true rfl, Nat.le_of_ble_eq_true rfl⟩ ⟨by show kc ≤ 601024; omega, by show sc ≤ 7293034; omega⟩ rfl rfl rfl hl.1 (Nat.le_of_ble_eq_true rfl) rfl dL_law_946 ?_
  refine lv_aload_n hx hb dL_law_949 rfl (lv_at hl 2 rfl) ?_
  obtain ⟨v2, hc2, hok⟩ := bd_some hok
  refine cUVi (ci := 5) (q0 := 0) [] S hK2 (va_Pmid (wa := []) hP) (va_Dmid (wa := []) hD) hS hA (c_X5_limit l dC dI cI cZ l0 l4 l5 l6 l8 l10 l11 l12 l13 l14 l15 l16 _ uL hc2) (lw_V qm_L_187 qi_X5_limit qs_X5_limit qn_X5 qc_X5_limit) hd_X5_limit ⟨rfl, rfl⟩ ⟨Nat.le_of_ble_eq_true rfl, Nat.le_of_ble_eq_true rfl⟩ ⟨by show kc + 0 ≤ 601024; omega, by show sc + 0 ≤ 7293034; omega⟩ rfl rfl rfl hl.1 (Nat.le_of_ble_eq_true rfl) rfl dL_law_950 (fun H1 hk9 h9 => fr_joinM (wa := []) hP hD K_L hk9 h9) (D_W hD) (fun H locs hP hD hS => ?_)
  refine lv_icmp_eq (tgt := 2451) hx hb dL_law_953 (by decide) (fun hc => ?_) (fun hc => ?_)
  · have hok := ip hok hc
    have hok := Option.some.inj hok
    subst hok
    exact hk _ _ _ _ (by omega) (by omega) hP hD hS _ (lv_sub hl [0, 1, 2, 3, 4] rfl)
  · have hok := iq hok hc
    refine lv_iconst (v := (0 : Int32)) hx hb dL_law_956 (by decide) ?_
    cases hok
