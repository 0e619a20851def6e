abbrev TYJ (cI cZ cJ : ClassId) : List (ClassId × FieldType) := [(cI, .int), (cZ, .boolean), (cJ, .long)]
/-- none of the three classes is another one -/
def xn (U : State) : Prop := va_Nc xIAE xIOB U ∧ va_Nc xISE xIOB U ∧ va_Nc xISE xIAE U
theorem xn_moved {U V : State} (h : U.vm.Alike V.vm) (x : xn U) : xn V := ⟨x.1.moved h, x.2.1.moved h, x.2.2.moved h⟩
def prH (D : va_G) (cl : List vw_C) (tys : List (ClassId × FieldType)) (ws : va_W) (sz : Nat) (sa : Nat → Nat) (av : List Value) : Array Value → State → Prop := va_Pc av (fun U => U.heap.size = sz ∧ va_P D cl ws U.heap ∧ va_K D cl tys U ∧ va_D (fun _ => True) ws ∧ xb (va_A ws sz) sa U ∧ xn U)
theorem prH_fb {D : va_G} {cl : List vw_C} {tys : List (ClassId × FieldType)} {ws : va_W} {sz : Nat} {sa : Nat → Nat} {av : List Value} : FrameBlind (prH D cl tys ws sz sa av) := fun a U g mk q => ⟨q.1, q.2.1, q.2.2.1, va_K.moved (u := U) (U := U.calling g mk a) (Vm.Alike.refl U.vm) q.2.2.2.1, q.2.2.2.2.1, xb_same (U := U) (V := U.calling g mk a) q.2.2.2.2.2.1 rfl rfl, xn_moved (U := U) (V := U.calling g mk a) (Vm.Alike.refl U.vm) q.2.2.2.2.2.2⟩
theorem prH_of {D : va_G} {cl : List vw_C} {tys : List (ClassId × FieldType)} {ws : va_W} {av : List Value} {s : State} {H : Heap} {A : Nat → Prop} {sa : Nat → Nat} {locs : List Loc} (hP : va_P D cl ws H) (hK : va_K D cl tys s) (hD : va_D A ws) (hX : xb A sa s) (hxn : xn s) (hS : va_S A s.heap H locs) (hA : ∀ q, va_A ws H.size q → A q) : ∀ U : State, U.heap = H → s.WarmedH U.vm → prH D cl tys ws H.size sa av av.toArray U := fun U hU hW => ⟨rfl, by rw [hU], by rw [hU]; exact hP, va_K.moved hW.alike hK, hD.weaken (fun _ _ _ _ => trivial), xb_call hX (by rw [hU]; exact hS.2.1) hA hW, xn_moved hW.alike hxn⟩
theorem oH {l : Launch} {y : MethodName} {bytes : ByteArray} {maxL : Nat} {ret : Option FieldType} {hh : List (Nat × Nat × Nat × Nat)} {rm : Room} {av : List Value} {B : State → Prop} {Qc : Array Value → State → Outcome → State → Prop} {mc ms : Nat} {free0 : Addr → Prop} (hy : plainName y.cls = true) (hlen : (lg_sl av).length ≤ maxL)
    (k : ∀ (p : Program) (e : Env) (s : State) (m : MethodId) (args : Array Value) (below : List Frame) (meth : Method) (c : Code), CallFix p m c bytes maxL s args lw_all y.cls → meth.sig.returnType = ret → meth.locks = false → c.exceptionTable.toList = tableOf hh → B s → ∀ ls : Array Slot, lv_has ls maxL (lv_args 0 av) → W p l e rm s m args below meth c s.heap [] 0 0 (MQ below Qc args s mc ms free0) (F0 m 0 ls [])) :
    Met l y (Cond.codeWith y bytes maxL ret hh :: lw_all) rm (va_Pc av B) Qc mc ms free0 := by
  refine va_MetW (cc := bytes) (maxL := maxL) (ret := ret) (hh := hh) hy rfl ?_
  intro p e s m args below meth c s₁ B0 hml hv
  obtain ⟨rfl, hB⟩ := hv
  have hts := atoms_spec (ws := Cond.codeWith y bytes maxL ret hh :: lw_all) B0.pre
  have hl := lv_entry av (n := maxL) hlen
  rw [lg_entry_eq]
  generalize (lg_sl av ++ List.replicate (maxL - (lg_sl av).length) Slot.unset).toArray = ls at hl ⊢
  exact k p e s m _ below meth c ⟨B0.exec, B0.bytes, hml, findClass_of_methodNamed B0.named, fun w h => hts w (List.mem_cons_of_mem _ h)⟩ B0.returns B0.notSynchronized (vx_table (x := y) B0 (hts _ List.mem_cons_self)) hB ls hl
theorem va_lastK {p : Program} {l : Launch} {e : Env} {R : Room} {s : State} {m : MethodId} {args : Array Value} {below : List Frame} {meth : Method} {c : Code} {H H0 : Heap} {locs : List Loc} {cells slots : Nat} {Q : State → Prop} {cc : ByteArray} {pc a : Nat} {ls : Array Slot} {rest : List Value} {D : va_G} {cl : List vw_C} {tys : List (ClassId × FieldType)} {ws : va_W} {A : Nat → Prop} (hexec : p.tables.exec = Jvm.exec) (hb : c.code = cc) (hK : va_K D cl tys s) (hP : va_P D cl ws H) (hD : va_D A ws) (hS : va_S A H0 H locs) (q0 t0 : Nat) {cA : ClassId} {n : Nat} {f : Nat → Int64} (ha : ws[q0]? = some (a, .inl (cA, n, .inr (.inl f)))) (ht : tys[t0]? = some (cA, .long)) {i : Int32} {x : Int64} {j : Nat} (hj : i.toNatClampNeg = j) (hin : vp_in i n) (hdg : decode cc pc = .ok (.lastore, 1)) (kk : ∀ (H1 : Heap) (locs1 : List Loc), va_P D cl (ws.set q0 (a, .inl (cA, n, .inr (.inl (vp_updL f j x))))) H1 → va_D A (ws.set q0 (a, .inl (cA, n, .inr (.inl (vp_updL f j x))))) → va_S A H0 H1 locs1 → W p l e R s m args below meth c H1 locs1 cells slots Q (F0 m (pc + 1) ls rest)) : W p l e R s m args below meth c H locs cells slots Q (F0 m pc ls (.long x :: .int i :: .ref a :: rest)) := va_last hexec hb hK hP hD hS q0 t0 ha ht hin hdg (fun H1 locs1 h1 h2 h3 => kk H1 locs1 (by rw [hj] at h1; exact h1) (by rw [hj] at h2; exact h2) h3)
theorem va_laldK {p : Program} {l : Launch} {e : Env} {R : Room} {s : State} {m : MethodId} {args : Array Value} {below : List Frame} {meth : Method} {c : Code} {H : Heap} {locs : List Loc} {cells slots : Nat} {Q : State → Prop} {cc : ByteArray} {pc a : Nat} {ls : Array Slot} {rest : List Value} {D : va_G} {cl : List vw_C} {tys : List (ClassId × FieldType)} {ws : va_W} (hexec : p.tables.exec = Jvm.exec) (hb : c.code = cc) (hK : va_K D cl tys s) (hP : va_P D cl ws H) (q0 t0 : Nat) {cA : ClassId} {n : Nat} {f : Nat → Int64} (ha : ws[q0]? = some (a, .inl (cA, n, .inr (.inl f)))) (ht : tys[t0]? = some (cA, .long)) {i : Int32} {j : Nat} (hj : i.toNatClampNeg = j) (hin : vp_in i n) (hdg : decode cc pc = .ok (.laload, 1)) (kk : W p l e R s m args below meth c H locs cells slots Q (F0 m (pc + 1) ls (.long (f j) :: rest))) : W p l e R s m args below meth c H locs cells slots Q (F0 m pc ls (.int i :: .ref a :: rest)) := va_lald hexec hb hK hP q0 t0 ha ht hin hdg (by rw [hj]; exact kk)
theorem va_Pmid {D : va_G} {cl : List vw_C} {wa wc wr : va_W} {H : Heap} (h : va_P D cl (wa ++ (wc ++ wr)) H) : va_P D cl wc H := by
  intro k q hk
  have hlt : k < wc.length := (List.getElem?_eq_some_iff.mp hk).1
  refine h (wa.length + k) q ?_
  rw [List.getElem?_append_right (by omega), show wa.length + k - wa.length = k by omega, List.getElem?_append_left hlt]
  exact hk
theorem va_Dmid {A : Nat → Prop} {wa wc wr : va_W} (h : va_D A (wa ++ (wc ++ wr))) : va_D A wc := by
  have key : ∀ (k : Nat) (q : Nat × va_E), wc[k]? = some q → (wa ++ (wc ++ wr))[wa.length + k]? = some q := by
    intro k q hk
    have hlt : k < wc.length := (List.getElem?_eq_some_iff.mp hk).1
    rw [List.getElem?_append_right (by omega), show wa.length + k - wa.length = k by omega, List.getElem?_append_left hlt]
    exact hk
  refine ⟨fun i j p q hp hq he => ?_, fun k q hk => h.2 _ q (key k q hk)⟩
  have h1 := h.1 _ _ p q (key i p hp) (key j q hq) he
  omega
theorem fr_joinM {A : Nat → Prop} {D : va_G} {cl : List vw_C} {wa wc wc' wr : va_W} {H H1 : Heap} (hP : va_P D cl (wa ++ (wc ++ wr)) H) (hD : va_D A (wa ++ (wc ++ wr))) (hw : wc'.map (fun q => q.1) = wc.map (fun q => q.1)) (hk : ∀ q : Nat, q < H.size → ¬ va_A wc H.size q → H1[q]? = H[q]?) (hP1 : va_P D cl wc' H1) : va_P D cl (wa ++ (wc' ++ wr)) H1 := by
  have hlen : wc'.length = wc.length := by
    have h2 := congrArg List.length hw
    rw [List.length_map, List.length_map] at h2
    exact h2
  have other : ∀ (k : Nat) (q : Nat × va_E), (wa ++ (wc ++ wr))[k]? = some q → (k < wa.length ∨ wa.length + wc.length ≤ k) → va_at D cl q H1 := by
    intro k q h hout
    have hlt : q.1 < H.size := (hP k q h).lt
    refine (hP k q h).kept (hk q.1 hlt (fun hA => ?_))
    rcases hA with ⟨j, e, hj⟩ | hge
    · have hjl : j < wc.length := (List.getElem?_eq_some_iff.mp hj).1
      have h4 : (wa ++ (wc ++ wr))[wa.length + j]? = some (q.1, e) := by
        rw [List.getElem?_append_right (by omega), show wa.length + j - wa.length = j by omega, List.getElem?_append_left hjl]
        exact hj
      have h5 := hD.1 _ _ (q.1, e) q h4 h rfl
      omega
    · exact absurd hlt (Nat.not_lt.mpr hge)
  intro k q hkq
  by_cases h1 : k < wa.length
  · rw [List.getElem?_append_left h1] at hkq
    exact other k q (by rw [List.getElem?_append_left h1]; exact hkq) (Or.inl h1)
  · rw [List.getElem?_append_right (by omega)] at hkq
    by_cases h2 : k - wa.length < wc'.length
    · rw [List.getElem?_append_left h2] at hkq
      exact hP1 _ q hkq
    · rw [List.getElem?_append_right (by omega)] at hkq
      refine other k q ?_ (Or.inr (by omega))
      rw [List.getElem?_append_right (by omega), List.getElem?_append_right (by omega)]
      rw [hlen] at hkq
      exact hkq
theorem va_Dmids {A : Nat → Prop} {wa wc wc' wr : va_W} (hw : wc'.map (fun q => q.1) = wc.map (fun q => q.1)) (h : va_D A (wa ++ (wc ++ wr))) : va_D A (wa ++ (wc' ++ wr)) := va_Dsame (by rw [List.map_append, List.map_append, List.map_append, List.map_append, hw]) h

theorem K_N {cI cZ : ClassId} {n0 h0 h3 h4 h5 h6 c0 c8 c9 c10 c11 c12 c13 t0 t8 t9 t10 t11 t12 t13 i0 i1 i2 i3 i4 m0 m1 m2 : Nat} {uH : tX1} {uC : tX0} {uT : tX0} {uI : tX2} {uM : tX3} {uH' : tX1} {uC' : tX0} {uT' : tX0} {uI' : tX2} {uM' : tX3} : ((wN cI cZ n0 h0 h3 h4 h5 h6 c0 c8 c9 c10 c11 c12 c13 t0 t8 t9 t10 t11 t12 t13 i0 i1 i2 i3 i4 m0 m1 m2 (uH') (uC') (uT') (uI') (uM')).map (fun q => q.1)) = ((wN cI cZ n0 h0 h3 h4 h5 h6 c0 c8 c9 c10 c11 c12 c13 t0 t8 t9 t10 t11 t12 t13 i0 i1 i2 i3 i4 m0 m1 m2 uH uC uT uI uM).map (fun q => q.1)) := by rfl
theorem cP_NO {D : va_G} {cl : List vw_C} {cI cZ cJ : ClassId} {n0 h0 h3 h4 h5 h6 c0 c8 c9 c10 c11 c12 c13 t0 t8 t9 t10 t11 t12 t13 i0 i1 i2 i3 i4 m0 m1 m2 o0 : Nat} {uH : tX1} {uC : tX0} {uT : tX0} {uI : tX2} {uM : tX3} {fO : Nat → Int64} {H : Heap} (h : va_P D cl (wN cI cZ n0 h0 h3 h4 h5 h6 c0 c8 c9 c10 c11 c12 c13 t0 t8 t9 t10 t11 t12 t13 i0 i1 i2 i3 i4 m0 m1 m2 uH uC uT uI uM ++ [(o0, .inl (cJ, 1, .inr (.inl fO)))]) H) : va_P D cl (wN cI cZ n0 h0 h3 h4 h5 h6 c0 c8 c9 c10 c11 c12 c13 t0 t8 t9 t10 t11 t12 t13 i0 i1 i2 i3 i4 m0 m1 m2 uH uC uT uI uM) H := va_Pmid (wa := []) h
theorem cD_NO {A : Nat → Prop} {cI cZ cJ : ClassId} {n0 h0 h3 h4 h5 h6 c0 c8 c9 c10 c11 c12 c13 t0 t8 t9 t10 t11 t12 t13 i0 i1 i2 i3 i4 m0 m1 m2 o0 : Nat} {uH : tX1} {uC : tX0} {uT : tX0} {uI : tX2} {uM : tX3} {fO : Nat → Int64} (h : va_D A (wN cI cZ n0 h0 h3 h4 h5 h6 c0 c8 c9 c10 c11 c12 c13 t0 t8 t9 t10 t11 t12 t13 i0 i1 i2 i3 i4 m0 m1 m2 uH uC uT uI uM ++ [(o0, .inl (cJ, 1, .inr (.inl fO)))])) : va_D A (wN cI cZ n0 h0 h3 h4 h5 h6 c0 c8 c9 c10 c11 c12 c13 t0 t8 t9 t10 t11 t12 t13 i0 i1 i2 i3 i4 m0 m1 m2 uH uC uT uI uM) := va_Dmid (wa := []) h
theorem D_NO {A : Nat → Prop} {cI cZ cJ : ClassId} {n0 h0 h3 h4 h5 h6 c0 c8 c9 c10 c11 c12 c13 t0 t8 t9 t10 t11 t12 t13 i0 i1 i2 i3 i4 m0 m1 m2 o0 : Nat} {uH : tX1} {uC : tX0} {uT : tX0} {uI : tX2} {uM : tX3} {uH' : tX1} {uC' : tX0} {uT' : tX0} {uI' : tX2} {uM' : tX3} {fO fO' : Nat → Int64} (h : va_D A (wN cI cZ n0 h0 h3 h4 h5 h6 c0 c8 c9 c10 c11 c12 c13 t0 t8 t9 t10 t11 t12 t13 i0 i1 i2 i3 i4 m0 m1 m2 uH uC uT uI uM ++ [(o0, .inl (cJ, 1, .inr (.inl fO)))])) : va_D A (wN cI cZ n0 h0 h3 h4 h5 h6 c0 c8 c9 c10 c11 c12 c13 t0 t8 t9 t10 t11 t12 t13 i0 i1 i2 i3 i4 m0 m1 m2 (uH') (uC') (uT') (uI') (uM') ++ [(o0, .inl (cJ, 1, .inr (.inl fO')))]) := va_Dsame (by rw [List.map_append, List.map_append, K_N]; rfl) h
theorem cJ_NO {A : Nat → Prop} {D : va_G} {cl : List vw_C} {cI cZ cJ : ClassId} {n0 h0 h3 h4 h5 h6 c0 c8 c9 c10 c11 c12 c13 t0 t8 t9 t10 t11 t12 t13 i0 i1 i2 i3 i4 m0 m1 m2 o0 : Nat} {uH : tX1} {uC : tX0} {uT : tX0} {uI : tX2} {uM : tX3} {uH' : tX1} {uC' : tX0} {uT' : tX0} {uI' : tX2} {uM' : tX3} {fO : Nat → Int64} {H H1 : Heap} (hP : va_P D cl (wN cI cZ n0 h0 h3 h4 h5 h6 c0 c8 c9 c10 c11 c12 c13 t0 t8 t9 t10 t11 t12 t13 i0 i1 i2 i3 i4 m0 m1 m2 uH uC uT uI uM ++ [(o0, .inl (cJ, 1, .inr (.inl fO)))]) H) (hD : va_D A (wN cI cZ n0 h0 h3 h4 h5 h6 c0 c8 c9 c10 c11 c12 c13 t0 t8 t9 t10 t11 t12 t13 i0 i1 i2 i3 i4 m0 m1 m2 uH uC uT uI uM ++ [(o0, .inl (cJ, 1, .inr (.inl fO)))])) (hk : ∀ q : Nat, q < H.size → ¬ va_A (wN cI cZ n0 h0 h3 h4 h5 h6 c0 c8 c9 c10 c11 c12 c13 t0 t8 t9 t10 t11 t12 t13 i0 i1 i2 i3 i4 m0 m1 m2 uH uC uT uI uM) H.size q → H1[q]? = H[q]?) (hP1 : va_P D cl (wN cI cZ n0 h0 h3 h4 h5 h6 c0 c8 c9 c10 c11 c12 c13 t0 t8 t9 t10 t11 t12 t13 i0 i1 i2 i3 i4 m0 m1 m2 (uH') (uC') (uT') (uI') (uM')) H1) : va_P D cl (wN cI cZ n0 h0 h3 h4 h5 h6 c0 c8 c9 c10 c11 c12 c13 t0 t8 t9 t10 t11 t12 t13 i0 i1 i2 i3 i4 m0 m1 m2 (uH') (uC') (uT') (uI') (uM') ++ [(o0, .inl (cJ, 1, .inr (.inl fO)))]) H1 := fr_joinM (wa := []) hP hD K_N hk hP1
