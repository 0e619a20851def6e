/-! build and the law: what they need of the start -/
abbrev hN5 (U : State) : Prop := va_Nw (.methodLinkNest RL 93 yX5_init "LiftNovelLaw") U
def prB (D : va_G) (cl : List vw_C) (tys : List (ClassId × FieldType)) (ws : va_W) (sz b L : Nat) (xs : Nat → Int32) (av : List Value) : Array Value → State → Prop := va_Pc av (fun U => U.heap.size = sz ∧ va_P D cl ws U.heap ∧ va_K D cl tys U ∧ va_D (fun _ => True) ws ∧ va_AOA .int U ∧ va_X b L xs U U.heap ∧ b < U.heap.size ∧ ¬ va_A ws sz b ∧ hN5 U)
theorem prB_fb {D : va_G} {cl : List vw_C} {tys : List (ClassId × FieldType)} {ws : va_W} {sz b L : Nat} {xs : Nat → Int32} {av : List Value} : FrameBlind (prB D cl tys ws sz b L xs av) := fun a U g mk q => ⟨q.1, q.2.1, q.2.2.1, va_K.moved (u := U) (U := U.calling g mk a) (Vm.Alike.refl U.vm) q.2.2.2.1, q.2.2.2.2.1, ao_moved (u := U) (U := U.calling g mk a) (Vm.Alike.refl U.vm) q.2.2.2.2.2.1, q.2.2.2.2.2.2.1, q.2.2.2.2.2.2.2.1, q.2.2.2.2.2.2.2.2.1, va_Nw.same (u := U) (U := U.calling g mk a) rfl rfl q.2.2.2.2.2.2.2.2.2⟩
theorem cINAv {p : Program} {l : Launch} {e : Env} {R : Room} {s : State} {m : MethodId} {args : Array Value} {below : List Frame} {meth : Method} {c : Code} {H : Heap} {locs : List Loc} {cells slots : Nat} {Q : State → Prop} {cc bytes : ByteArray} {nL pc idx maxL n : Nat} {ls : Array Slot} {own host : String} {y : MethodName} {rm : Room} {D : va_G} {cl : List vw_C} {tys : List (ClassId × FieldType)} {b : Addr} {rest st0 : List Value} {wa wc wr : va_W} {A : Nat → Prop} {Z : Type} {wf : Z → va_W} {mc ms : Nat} (As : List Value) (S : CallFix p m c cc nL s args lw_all own) (hK : va_K D cl tys s) (hO : va_AOA .int s) (hP : va_P D cl (wa ++ (wc ++ wr)) H) (hD : va_D A (wa ++ (wc ++ wr))) (hS : va_S A s.heap H locs) (hA : ∀ q, s.heap.size ≤ q → A q) (hM : Met l y (Cond.code y bytes maxL none :: lw_all) rm (prA D cl tys wc H.size (.ref b :: As)) (va_Qv (fun _ : Z => True) (fun a t => va_P D cl (wf a) t.heap ∧ va_D (va_A wc H.size) (wf a)) (va_A wc H.size)) mc ms (va_A wc H.size)) (hcode : Cond.code y bytes maxL none ∈ lw_all) (hini : Cond.initialized y.cls ∈ lw_all) (hlink : va_Nw (.methodLinkNest own idx y host) s) (hinst : Cond.instanceMethod y ∈ lw_all) (hy1 : y.name = "<init>") (hd : y.cls ≠ "java/lang/invoke/MethodHandle" ∧ y.cls ≠ "java/lang/invoke/VarHandle" ∧ (parseMethodDescriptor y.desc).map (fun d => d.parameters.length) = some n) (hrm : rm.cells = mc ∧ rm.slots = ms) (hR : rm.frames + 1 ≤ R.frames ∧ 8 + (maxL + 11) + rm.locals ≤ R.locals) (hf : cells + mc ≤ R.cells ∧ slots + ms ≤ R.slots) (hn : As.length = n) (hsz : ls.size = nL) (hw : (rest.map fun v => v.category).sum ≤ 8) (hst : st0 = As.reverse ++ .ref b :: rest) (hdg : decode cc pc = .ok (.invokespecial idx, 3)) (kk : ∀ (a : Z) (H1 : Heap) (locs1 : List Loc), va_P D cl (wa ++ (wf a ++ wr)) H1 → va_D A (wa ++ (wf a ++ wr)) → va_S A s.heap H1 locs1 → W p l e R s m args below meth c H1 locs1 (cells + mc) (slots + ms) Q (F0 m (pc + 3) ls rest)) : W p l e R s m args below meth c H locs cells slots Q (F0 m pc ls st0) := by
  subst hst
  have hPc := va_Pmid hP
  have hDc := va_Dmid hD
  refine va_callv (va_runIN (As := As) (rest := rest) S hM ⟨va_cnB n S.2.2.2.2 (lw_gc hcode) rfl hrm.1 hrm.2 hlink (S.2.2.2.2 _ hini) hd hR, hy1, S.2.2.2.2 _ hinst⟩ ⟨prA_fb, prA_of hPc hK hDc hO⟩ rfl hn hsz rfl (lv_room hw) hdg hf) hS (fun q _ h => va_Aof hDc hS hA q h) (va_Aof hDc hS hA) (fun u t H1 locs1 ht hvm hw2 hB hz1 hk1 hS1 => ?_)
  rw [ht] at hB
  obtain ⟨h1, h2⟩ := fr_joinA hP hD (va_Aof hDc hS hA) hk1 hB.1 hB.2
  exact kk u H1 locs1 h1 h2 hS1
theorem eAr {p : Program} {l : Launch} {e : Env} {R : Room} {s : State} {m : MethodId} {args : Array Value} {below : List Frame} {meth : Method} {c : Code} {bytes : ByteArray} {maxL pc : Nat} {own C : String} {ls : Array Slot} {H : Heap} {locs : List Loc} {cells slots mc ms : Nat} {A : Nat → Prop} {D : va_G} {cl : List vw_C} {Z : Type} {wf : Z → Nat → va_W} (S : CallFix p m c bytes maxL s args lw_all own) (hr : meth.sig.returnType = some (.object C)) (hlk : meth.locks = false) {v : Nat} (a : Z) (hP : va_P D cl (wf a v) H) (hD : va_D A (wf a v)) (hS : va_S A s.heap H locs) (hc : cells ≤ mc) (hs : slots ≤ ms) (hdg : decode bytes pc = .ok (.areturn, 1)) : W p l e R s m args below meth c H locs cells slots (MQ below (va_Qr (fun _ : Z => True) (fun a v t => va_P D cl (wf a v) t.heap ∧ va_D A (wf a v)) A) args s mc ms A) (F0 m pc ls [.ref v]) := W.widen hc hs (W.aret S.1 S.2.1 hr (Or.inl ⟨_, rfl⟩) (Or.inr ⟨_, rfl⟩) (fun t ht _ => ⟨⟨a, v, rfl, trivial, by rw [ht]; exact hP, hD⟩, hS.F ht⟩) hS.2.2 hdg hlk)
theorem cBuild {p : Program} {l : Launch} {e : Env} {R : Room} {s : State} {m : MethodId} {args : Array Value} {below : List Frame} {meth : Method} {c : Code} {H : Heap} {locs : List Loc} {cells slots : Nat} {Q : State → Prop} {cc bytes : ByteArray} {nL pc idx maxL n : Nat} {ls : Array Slot} {own : String} {y : MethodName} {ret : Option FieldType} {rm : Room} {D : va_G} {cl : List vw_C} {tys : List (ClassId × FieldType)} {rest st0 : List Value} {wc : va_W} {A : Nat → Prop} {mc ms b L n0 : Nat} {xs : Nat → Int32} {Z : Type} {wf : Z → Nat → va_W} (S : CallFix p m c cc nL s args lw_all own) (hK : va_K D cl tys s) (hO : va_AOA .int s) (hX : va_X b L xs s s.heap) (hbl : b < s.heap.size) (hbA : ¬ A b) (hN : hN5 s) (hP : va_P D cl wc H) (hD : va_D A wc) (hS : va_S A s.heap H locs) (hA : ∀ q, s.heap.size ≤ q → A q) (hM : Met l y (Cond.code y bytes maxL ret :: lw_all) rm (prB D cl tys wc H.size b L xs [.ref n0, .ref b]) (va_Qr (fun _ : Z => True) (fun a v t => va_P D cl (wf a v) t.heap ∧ va_D (va_A wc H.size) (wf a v)) (va_A wc H.size)) mc ms (va_A wc H.size)) (hg : GoodIn lw_all (va_wsS own idx y (Cond.code y bytes maxL ret :: lw_all))) (hd : y.cls ≠ "java/lang/invoke/MethodHandle" ∧ y.cls ≠ "java/lang/invoke/VarHandle" ∧ (parseMethodDescriptor y.desc).map (fun d => d.parameters.length) = some n) (hrm : rm.cells = mc ∧ rm.slots = ms) (hR : rm.frames + 1 ≤ R.frames ∧ 8 + (maxL + 11) + rm.locals ≤ R.locals) (hf : cells + mc ≤ R.cells ∧ slots + ms ≤ R.slots) (hn : 2 = n) (hsz : ls.size = nL) (hw : (rest.map fun v => v.category).sum ≤ 8) (hst : st0 = .ref b :: .ref n0 :: rest) (hdg : decode cc pc = .ok (.invokestatic idx, 3)) (kk : ∀ (a : Z) (v : Nat) (H1 : Heap) (locs1 : List Loc), va_P D cl (wf a v) H1 → va_D A (wf a v) → va_S A s.heap H1 locs1 → W p l e R s m args below meth c H1 locs1 (cells + mc) (slots + ms) Q (F0 m (pc + 3) ls (.ref v :: rest))) : W p l e R s m args below meth c H locs cells slots Q (F0 m pc ls st0) := by
  subst hst
  refine va_callr (va_runS (As := [.ref n0, .ref b]) (rest := rest) S hM (va_cwS n S.2.2.2.2 hg rfl hrm.1 hrm.2 hd hR) ⟨prB_fb, fun U hU hW => ⟨rfl, by rw [hU], by rw [hU]; exact hP, va_K.moved hW.alike hK, hD.weaken (fun _ _ _ _ => trivial), ao_moved hW.alike hO, va_Xm hX hbl hbA hS hU hW.alike, by rw [hU]; exact Nat.lt_of_lt_of_le hbl hS.1, fun h => hbA (va_Aof hD hS hA b h), va_Nw.warmM hW hN⟩⟩ rfl hn hsz rfl (lv_room hw) hdg hf) hS (fun q _ h => va_Aof hD hS hA q h) (va_Aof hD hS hA) (fun u ra t H1 locs1 ht hvm hw2 hB hz1 hk1 hS1 => ?_)
  rw [ht] at hB
  exact kk u ra H1 locs1 hB.1 (wD_nd.mpr ⟨(wD_nd.mp hB.2).1, fun x hx => va_Aof hD hS hA _ (wD_of hB.2 x hx)⟩) hS1
def p_L_build_L25 (xs : Nat → Int32) (Lc : Nat)  : Nat → tX1 → tX0 → tX0 → tX2 → tX3 → tX5 → Int32 → Int32 → Option (tX1 × tX0 × tX2 × tX3 × tX5)
  | 0, _, _, _, _, _, _, _, _ => none
  | n + 1, uH, uC, uT, uI, uM, uG, l25_3, l25_4 =>
    if l25_3 ≤ l25_4 then
      some (uH, uC, uI, uM, uG)
    else
      bd (p_L_cell xs Lc (l25_4 - l25_4 / (16 : Int32) * (16 : Int32))) (fun v3 =>
      bd (p_L_act uH uC uT uI uM uG ((v3 >>> (((l25_4 / (16 : Int32)) * (3 : Int32)) &&& 31)) + ((743 : Int32) * l25_4))) (fun v4 =>
      if v4.1 = 0 then
        none
      else
        (p_L_build_L25 xs Lc n) v4.2.1 v4.2.2.1 uT v4.2.2.2.1 v4.2.2.2.2.1 v4.2.2.2.2.2 l25_3 (l25_4 + 1)))
def p_L_build (xs : Nat → Int32) (Lc : Nat) (uH : tX1) (uC : tX0) (uT : tX0) (uI : tX2) (uM : tX3) : Option (tX1 × tX0 × tX2 × tX3 × tX5) :=
  bd (p_L_cell xs Lc (0 : Int32)) (fun v1 =>
  bd (p_L_below v1 (60 : Int32)) (fun v2 =>
  p_L_build_L25 xs Lc 75 uH uC uT uI uM zX5 ((14 : Int32) + v2) (0 : Int32)))
set_option maxHeartbeats 4000000 in
set_option maxRecDepth 100000 in
theorem c_L_build (l : Launch) (dC : Nat → ClassId) (dI : Nat → Nat → Nat) (cI cZ cJ : ClassId) (n0 h0 h3 h4 h5 h6 c0 c8 c9 c10 c11 c12 c13 t0 t8 t9 t10 t11 t12 t13 i0 i1 i2 i3 i4 m0 m1 m2 : Nat) (sz b Lc : Nat) (xs : Nat → Int32) (uH : tX1) (uC : tX0) (uT : tX0) (uI : tX2) (uM : tX3) {z : (tX1 × tX0 × tX2 × tX3 × tX5)} (hok : p_L_build xs Lc uH uC uT uI uM = some z) : Met l yL_build (Cond.code yL_build cL_build 5 (some (.object "LiftNovelLaw$Sim")) :: lw_all) { frames := 6, cells := 9163, slots := 617671, locals := 146 } (prB (dC, dI) vwCl (TYG cI cZ cJ) (wN cI cZ n0 h0 h3 h4 h5 h6 c0 c8 c9 c10 c11 c12 c13 t0 t8 t9 t10 t11 t12 t13 i0 i1 i2 i3 i4 m0 m1 m2 uH uC uT uI uM) sz b Lc xs [.ref n0, .ref b]) (va_Qr (fun _ : (Nat × Nat × Nat × Nat × Nat × Nat × (Nat → Nat) × (Nat → Nat) × (Nat → Nat) × (Nat → Nat)) => True) (fun a9 v9 t => va_P (dC, dI) vwCl ((wN cI cZ n0 h0 h3 h4 h5 h6 c0 c8 c9 c10 c11 c12 c13 t0 t8 t9 t10 t11 t12 t13 i0 i1 i2 i3 i4 m0 m1 m2 z.1 z.2.1 uT z.2.2.1 z.2.2.2.1) ++ wX5 cI cZ cJ v9 a9.1 a9.2.1 a9.2.2.1 a9.2.2.2.1 a9.2.2.2.2.1 a9.2.2.2.2.2.1 a9.2.2.2.2.2.2.1 a9.2.2.2.2.2.2.2.1 a9.2.2.2.2.2.2.2.2.1 a9.2.2.2.2.2.2.2.2.2 z.2.2.2.2) t.heap ∧ va_D (va_A (wN cI cZ n0 h0 h3 h4 h5 h6 c0 c8 c9 c10 c11 c12 c13 t0 t8 t9 t10 t11 t12 t13 i0 i1 i2 i3 i4 m0 m1 m2 uH uC uT uI uM) sz) ((wN cI cZ n0 h0 h3 h4 h5 h6 c0 c8 c9 c10 c11 c12 c13 t0 t8 t9 t10 t11 t12 t13 i0 i1 i2 i3 i4 m0 m1 m2 z.1 z.2.1 uT z.2.2.1 z.2.2.2.1) ++ wX5 cI cZ cJ v9 a9.1 a9.2.1 a9.2.2.1 a9.2.2.2.1 a9.2.2.2.2.1 a9.2.2.2.2.2.1 a9.2.2.2.2.2.2.1 a9.2.2.2.2.2.2.2.1 a9.2.2.2.2.2.2.2.2.1 a9.2.2.2.2.2.2.2.2.2 z.2.2.2.2)) (va_A (wN cI cZ n0 h0 h3 h4 h5 h6 c0 c8 c9 c10 c11 c12 c13 t0 t8 t9 t10 t11 t12 t13 i0 i1 i2 i3 i4 m0 m1 m2 uH uC uT uI uM) sz)) 9163 617671 (va_A (wN cI cZ n0 h0 h3 h4 h5 h6 c0 c8 c9 c10 c11 c12 c13 t0 t8 t9 t10 t11 t12 t13 i0 i1 i2 i3 i4 m0 m1 m2 uH uC uT uI uM) sz) := by
  refine oM (by decide) (Nat.le_of_ble_eq_true rfl) ?_
  intro p e s m args below meth c S hr hlk hnm hB ls hl
  have hx := S.1
  have hb := S.2.1
  have hml := S.2.2.1
  have hown : s.vm.findClass RL = some m.cls := S.2.2.2.1
  have hts := S.2.2.2.2
  have S : CallFix p m c cL_build 5 s args lw_all RL := S
  have hl : lv_has ls 5 [(0, .ref n0), (1, .ref b)] := hl
  obtain ⟨hsz, hP, hK, hD0, hO, hXs, hbl, hbA, hN⟩ := hB
  subst hsz
  have hD := hD0.self (sz := s.heap.size)
  generalize hAe : va_A (wN cI cZ n0 h0 h3 h4 h5 h6 c0 c8 c9 c10 c11 c12 c13 t0 t8 t9 t10 t11 t12 t13 i0 i1 i2 i3 i4 m0 m1 m2 uH uC uT uI uM) s.heap.size = A at hD hbA ⊢
  have hA : ∀ q : Nat, s.heap.size ≤ q → A q := fun q h => by rw [← hAe]; exact Or.inr h
  have hS : va_S A s.heap s.heap [] := va_S.rf
  have hP : va_P (dC, dI) vwCl (wN cI cZ n0 h0 h3 h4 h5 h6 c0 c8 c9 c10 c11 c12 c13 t0 t8 t9 t10 t11 t12 t13 i0 i1 i2 i3 i4 m0 m1 m2 uH uC uT uI uM) s.heap := hP
  have hK2 : va_K (dC, dI) vwCl (TYS cI cZ) s := hK.sub [0, 1] rfl
  refine va_new (ci := 5) (fs := [.int (0 : Int32), .int (0 : Int32), .int (0 : Int32), .int (0 : Int32), .int (0 : Int32), .int (0 : Int32), .int (0 : Int32), .null, .null, .null, .null, .null, .null, .int (0 : Int32)]) (C := RX5) (T := TX5) (N := 14) hx hb hts inX5 tyX5 tyX5_ok hown (hts _ qk_L_10) (hts _ qa_X5) (hts _ qn_X5) hK hP hD hS hA rfl (fun j hj => by rcases (show j = 0 ∨ j = 1 ∨ j = 2 ∨ j = 3 ∨ j = 4 ∨ j = 5 ∨ j = 6 ∨ j = 7 ∨ j = 8 ∨ j = 9 ∨ j = 10 ∨ j = 11 ∨ j = 12 ∨ j = 13 by omega) with rfl | rfl | rfl | rfl | rfl | rfl | rfl | rfl | rfl | rfl | rfl | rfl | rfl | rfl <;> rfl) (Nat.le_of_ble_eq_true rfl) (Nat.le_of_ble_eq_true rfl) dL_build_0 (fun g0 H hP hD hS => ?_)
  have hP := zx_P hP
  have hD := zx_D hD
  refine lv_dup hx hb dL_build_3 rfl ?_
  refine cINAv [] S hK hO hP hD hS hA (c_X5_init l dC dI cI cZ cJ g0 _) qc_X5_init qn_X5 hN qi_X5_init rfl hd_X5_init ⟨rfl, rfl⟩ ⟨Nat.le_of_ble_eq_true rfl, Nat.le_of_ble_eq_true rfl⟩ ⟨Nat.le_of_ble_eq_true rfl, Nat.le_of_ble_eq_true rfl⟩ rfl hl.1 (Nat.le_of_ble_eq_true rfl) rfl dL_build_4 (fun a9 H locs hP hD hS => ?_)
  obtain ⟨g7, g8, g9, g10, g11, g12, G9, G10, G11, G12⟩ := a9
  have hP : va_P (dC, dI) vwCl ((wN cI cZ n0 h0 h3 h4 h5 h6 c0 c8 c9 c10 c11 c12 c13 t0 t8 t9 t10 t11 t12 t13 i0 i1 i2 i3 i4 m0 m1 m2 uH uC uT uI uM) ++ (wX5 cI cZ cJ g0 g7 g8 g9 g10 g11 g12 G9 G10 G11 G12 zX5 ++ ([] : va_W))) H := hP
  have hD : va_D A ((wN cI cZ n0 h0 h3 h4 h5 h6 c0 c8 c9 c10 c11 c12 c13 t0 t8 t9 t10 t11 t12 t13 i0 i1 i2 i3 i4 m0 m1 m2 uH uC uT uI uM) ++ (wX5 cI cZ cJ g0 g7 g8 g9 g10 g11 g12 G9 G10 G11 G12 zX5 ++ ([] : va_W))) := hD
  refine lv_astore_n (lv' := [(2, .ref g0), (0, .ref n0), (1, .ref b)]) hx hb dL_build_7 rfl hl (by decide) rfl (fun ls hl => ?_)
  have L25 : ∀ n25 : Nat, ∀ (g7 : Nat) (g8 : Nat) (g9 : Nat) (g10 : Nat) (g11 : Nat) (g12 : Nat) (G9 : (Nat → Nat)) (G10 : (Nat → Nat)) (G11 : (Nat → Nat)) (G12 : (Nat → Nat)) (uH : tX1) (uC : tX0) (uI : tX2) (uM : tX3) (uG : tX5) (l25_3 : Int32) (l25_4 : Int32) (kc sc : Nat) (hkc : kc + 122 * n25 ≤ 9163) (hsc : sc + 8235 * n25 ≤ 617671) (H : Heap) (locs : List Loc) (hP : va_P (dC, dI) vwCl ((wN cI cZ n0 h0 h3 h4 h5 h6 c0 c8 c9 c10 c11 c12 c13 t0 t8 t9 t10 t11 t12 t13 i0 i1 i2 i3 i4 m0 m1 m2 uH uC uT uI uM) ++ (wX5 cI cZ cJ g0 g7 g8 g9 g10 g11 g12 G9 G10 G11 G12 uG ++ ([] : va_W))) H) (hD : va_D A ((wN cI cZ n0 h0 h3 h4 h5 h6 c0 c8 c9 c10 c11 c12 c13 t0 t8 t9 t10 t11 t12 t13 i0 i1 i2 i3 i4 m0 m1 m2 uH uC uT uI uM) ++ (wX5 cI cZ cJ g0 g7 g8 g9 g10 g11 g12 G9 G10 G11 G12 uG ++ ([] : va_W)))) (hS : va_S A s.heap H locs) (ls : Array Slot) (hl : lv_has ls 5 [(0, .ref n0), (1, .ref b), (2, .ref g0), (3, .int l25_3), (4, .int l25_4)]) (hok : p_L_build_L25 xs Lc n25 uH uC uT uI uM uG l25_3 l25_4 = some z), W p l e { frames := 6, cells := 9163, slots := 617671, locals := 146 } s m args below meth c H locs kc sc (MQ below (va_Qr (fun _ : (Nat × Nat × Nat × Nat × Nat × Nat × (Nat → Nat) × (Nat → Nat) × (Nat → Nat) × (Nat → Nat)) => True) (fun a9 v9 t => va_P (dC, dI) vwCl ((wN cI cZ n0 h0 h3 h4 h5 h6 c0 c8 c9 c10 c11 c12 c13 t0 t8 t9 t10 t11 t12 t13 i0 i1 i2 i3 i4 m0 m1 m2 z.1 z.2.1 uT z.2.2.1 z.2.2.2.1) ++ wX5 cI cZ cJ v9 a9.1 a9.2.1 a9.2.2.1 a9.2.2.2.1 a9.2.2.2.2.1 a9.2.2.2.2.2.1 a9.2.2.2.2.2.2.1 a9.2.2.2.2.2.2.2.1 a9.2.2.2.2.2.2.2.2.1 a9.2.2.2.2.2.2.2.2.2 z.2.2.2.2) t.heap ∧ va_D A ((wN cI cZ n0 h0 h3 h4 h5 h6 c0 c8 c9 c10 c11 c12 c13 t0 t8 t9 t10 t11 t12 t13 i0 i1 i2 i3 i4 m0 m1 m2 z.1 z.2.1 uT z.2.2.1 z.2.2.2.1) ++ wX5 cI cZ cJ v9 a9.1 a9.2.1 a9.2.2.1 a9.2.2.2.1 a9.2.2.2.2.1 a9.2.2.2.2.2.1 a9.2.2.2.2.2.2.1 a9.2.2.2.2.2.2.2.1 a9.2.2.2.2.2.2.2.2.1 a9.2.2.2.2.2.2.2.2.2 z.2.2.2.2)) A) args s 9163 617671 A) (F0 m 25 ls []) := by
    intro n25
    induction n25 with
    | zero =>
      intro g7 g8 g9 g10 g11 g12 G9 G10 G11 G12 uH uC uI uM uG l25_3 l25_4 kc sc hkc hsc H locs hP hD hS ls hl hok
      rw [p_L_build_L25] at hok
      cases hok
    | succ n25 ih25 =>
      intro g7 g8 g9 g10 g11 g12 G9 G10 G11 G12 uH uC uI uM uG l25_3 l25_4 kc sc hkc hsc H locs hP hD hS ls hl hok
      rw [p_L_build_L25] at hok
      refine lv_iload hx hb dL_build_25 (lv_at hl 4 rfl) ?_
      refine lv_iload_n hx hb dL_build_27 rfl (lv_at hl 3 rfl) ?_
      refine lv_icmp_ge (tgt := 71) hx hb dL_build_28 (by decide) (fun hc => ?_) (fun hc => ?_)
      · have hok := ip hok hc
        refine lv_aload_n hx hb dL_build_71 rfl (lv_at hl 2 rfl) ?_
        have hok := Option.some.inj hok
        subst hok
        exact eAr S hr hlk (g7, g8, g9, g10, g11, g12, G9, G10, G11, G12) (nx_P hP) (nx_D hD) hS (by omega) (by omega) dL_build_72
      · have hok := iq hok hc
        refine lv_aload_n hx hb dL_build_31 rfl (lv_at hl 0 rfl) ?_
        refine lv_aload_n hx hb dL_build_32 rfl (lv_at hl 2 rfl) ?_
        refine lv_aload_n hx hb dL_build_33 rfl (lv_at hl 1 rfl) ?_
        refine lv_iload hx hb dL_build_34 (lv_at hl 4 rfl) ?_
        refine lv_bipush (v := (16 : Int32)) hx hb dL_build_36 (by decide) ?_
        refine lv_irem hx hb dL_build_38 (by decide) ?_
        obtain ⟨v3, hc3, hok⟩ := bd_some hok
        refine cCell S hXs hbl hbA hS (c_L_cell l b Lc xs (l25_4 - l25_4 / (16 : Int32) * (16 : Int32)) hc3) (lw_S qm_L_94 qt_L_cell qn_L qc_L_cell) hd_L_cell ⟨rfl, rfl⟩ ⟨Nat.le_of_ble_eq_true rfl, Nat.le_of_ble_eq_true rfl⟩ ⟨by show kc ≤ 9163; omega, by show sc ≤ 617671; omega⟩ rfl hl.1 (Nat.le_of_ble_eq_true rfl) rfl dL_build_39 ?_
        refine lv_iload hx hb dL_build_42 (lv_at hl 4 rfl) ?_
        refine lv_bipush (v := (16 : Int32)) hx hb dL_build_44 (by decide) ?_
        refine lv_idiv hx hb dL_build_46 (by decide) ?_
        refine lv_iconst (v := (3 : Int32)) hx hb dL_build_47 (by decide) ?_
        refine lv_imul hx hb dL_build_48 ?_
        refine lv_ishr hx hb dL_build_49 ?_
        refine lv_sipush (v := (743 : Int32)) hx hb dL_build_50 (by decide) ?_
        refine lv_iload hx hb dL_build_53 (lv_at hl 4 rfl) ?_
        refine lv_imul hx hb dL_build_55 ?_
        refine lv_iadd hx hb dL_build_56 ?_
        obtain ⟨v4, hc4, hok⟩ := bd_some hok
        have hP := tw_P hP
        have hD := tw_D hD
        refine cASi [.ref n0, .ref g0, .int ((v3 >>> (((l25_4 / (16 : Int32)) * (3 : Int32)) &&& 31)) + ((743 : Int32) * l25_4))] S hK hO hP hD hS hA (c_L_act l dC dI cI cZ cJ n0 h0 h3 h4 h5 h6 c0 c8 c9 c10 c11 c12 c13 t0 t8 t9 t10 t11 t12 t13 i0 i1 i2 i3 i4 m0 m1 m2 g0 g7 g8 g9 g10 g11 g12 G9 G10 G11 G12 _ uH uC uT uI uM uG ((v3 >>> (((l25_4 / (16 : Int32)) * (3 : Int32)) &&& 31)) + ((743 : Int32) * l25_4)) hc4) (lw_S qm_L_98 qt_L_act qn_L qc_L_act) hd_L_act ⟨rfl, rfl⟩ ⟨Nat.le_of_ble_eq_true rfl, Nat.le_of_ble_eq_true rfl⟩ ⟨by show kc + 122 ≤ 9163; omega, by show sc + 8235 ≤ 617671; omega⟩ rfl hl.1 (Nat.le_of_ble_eq_true rfl) rfl dL_build_57 (fun a9 H locs hP hD hS => ?_)
        have hP := wt_P hP
        have hD := wt_D hD
        obtain ⟨g7_5, g8_5, g9_5, g10_5, g11_5, g12_5, G9_5, G10_5, G11_5, G12_5⟩ := a9
        have hP : va_P (dC, dI) vwCl ((wN cI cZ n0 h0 h3 h4 h5 h6 c0 c8 c9 c10 c11 c12 c13 t0 t8 t9 t10 t11 t12 t13 i0 i1 i2 i3 i4 m0 m1 m2 v4.2.1 v4.2.2.1 uT v4.2.2.2.1 v4.2.2.2.2.1) ++ (wX5 cI cZ cJ g0 g7_5 g8_5 g9_5 g10_5 g11_5 g12_5 G9_5 G10_5 G11_5 G12_5 v4.2.2.2.2.2 ++ ([] : va_W))) H := hP
        have hD : va_D A ((wN cI cZ n0 h0 h3 h4 h5 h6 c0 c8 c9 c10 c11 c12 c13 t0 t8 t9 t10 t11 t12 t13 i0 i1 i2 i3 i4 m0 m1 m2 v4.2.1 v4.2.2.1 uT v4.2.2.2.1 v4.2.2.2.2.1) ++ (wX5 cI cZ cJ g0 g7_5 g8_5 g9_5 g10_5 g11_5 g12_5 G9_5 G10_5 G11_5 G12_5 v4.2.2.2.2.2 ++ ([] : va_W))) := hD
        refine lv_if_ne (tgt := 65) hx hb dL_build_60 (by decide) (fun hc => ?_) (fun hc => ?_)
        · have hok := iq hok hc
          refine lv_iinc (v := (l25_4 + 1)) (lv' := [(4, .int (l25_4 + 1)), (0, .ref n0), (1, .ref b), (2, .ref g0), (3, .int l25_3)]) hx hb dL_build_65 hl (k := 4) rfl rfl (by decide) rfl (fun ls hl => ?_)
          refine lv_goto (tgt := 25) hx hb dL_build_68 (by decide) ?_
          exact ih25 g7_5 g8_5 g9_5 g10_5 g11_5 g12_5 G9_5 G10_5 G11_5 G12_5 v4.2.1 v4.2.2.1 v4.2.2.2.1 v4.2.2.2.2.1 v4.2.2.2.2.2 l25_3 (l25_4 + 1) (kc + 122) (sc + 8235) (by omega) (by omega) _ _ hP hD hS _ (lv_sub hl [1, 2, 3, 4, 0] rfl) hok
        · have hok := ip hok hc
          cases hok
  unfold p_L_build at hok
  refine lv_bipush (v := (14 : Int32)) hx hb dL_build_8 (by decide) ?_
  refine lv_aload_n hx hb dL_build_10 rfl (lv_at hl 2 rfl) ?_
  refine lv_iconst (v := (0 : Int32)) hx hb dL_build_11 (by decide) ?_
  obtain ⟨v1, hc1, hok⟩ := bd_some hok
  refine cCell S hXs hbl hbA hS (c_L_cell l b Lc xs (0 : Int32) hc1) (lw_S qm_L_94 qt_L_cell qn_L qc_L_cell) hd_L_cell ⟨rfl, rfl⟩ ⟨Nat.le_of_ble_eq_true rfl, Nat.le_of_ble_eq_true rfl⟩ ⟨by show (0 + 1 + 12) ≤ 9163; omega, by show (0 + 14 + 32) ≤ 617671; omega⟩ rfl hl.1 (Nat.le_of_ble_eq_true rfl) rfl dL_build_12 ?_
  refine lv_bipush (v := (60 : Int32)) hx hb dL_build_15 (by decide) ?_
  obtain ⟨v2, hc2, hok⟩ := bd_some hok
  refine cRSi [.int v1, .int (60 : Int32)] S hK2 va_Pnil (c_L_below l dC dI cI cZ v1 (60 : Int32) hc2) (lw_S qm_L_15 qt_L_below qn_L qc_L_below) hd_L_below ⟨rfl, rfl⟩ ⟨Nat.le_of_ble_eq_true rfl, Nat.le_of_ble_eq_true rfl⟩ ⟨by show (0 + 1 + 12) ≤ 9163; omega, by show (0 + 14 + 32) ≤ 617671; omega⟩ rfl hl.1 (Nat.le_of_ble_eq_true rfl) rfl dL_build_17 ?_
  refine lv_iadd hx hb dL_build_20 ?_
  refine lv_istore_n (lv' := [(3, .int ((14 : Int32) + v2)), (2, .ref g0), (0, .ref n0), (1, .ref b)]) hx hb dL_build_21 rfl hl (by decide) rfl (fun ls hl => ?_)
  refine lv_iconst (v := (0 : Int32)) hx hb dL_build_22 (by decide) ?_
  refine lv_istore (lv' := [(4, .int (0 : Int32)), (3, .int ((14 : Int32) + v2)), (2, .ref g0), (0, .ref n0), (1, .ref b)]) hx hb dL_build_23 hl (by decide) rfl (fun ls hl => ?_)
  exact L25 75 g7 g8 g9 g10 g11 g12 G9 G10 G11 G12 uH uC uI uM zX5 ((14 : Int32) + v2) (0 : Int32) (0 + 1 + 12) (0 + 14 + 32) (by omega) (by omega) _ _ hP hD hS _ (lv_sub hl [3, 4, 2, 1, 0] rfl) hok
