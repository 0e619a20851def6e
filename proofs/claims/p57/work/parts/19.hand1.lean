/-! contracts that may make rows of rows: what is known of their class at hand -/
def prA (D : va_G) (cl : List vw_C) (tys : List (ClassId × FieldType)) (ws : va_W) (sz : Nat) (av : List Value) : Array Value → State → Prop := va_Pc av (fun U => U.heap.size = sz ∧ va_P D cl ws U.heap ∧ va_K D cl tys U ∧ va_D (fun _ => True) ws ∧ va_AOA .int U)
theorem prA_fb {D : va_G} {cl : List vw_C} {tys : List (ClassId × FieldType)} {ws : va_W} {sz : Nat} {av : List Value} : FrameBlind (prA D cl tys ws sz av) := fun a U g mk q => ⟨q.1, q.2.1, q.2.2.1, va_K.moved (u := U) (U := U.calling g mk a) (Vm.Alike.refl U.vm) q.2.2.2.1, q.2.2.2.2.1, ao_moved (u := U) (U := U.calling g mk a) (Vm.Alike.refl U.vm) q.2.2.2.2.2⟩
theorem prA_of {D : va_G} {cl : List vw_C} {tys : List (ClassId × FieldType)} {ws : va_W} {av : List Value} {s : State} {H : Heap} {A : Nat → Prop} (hP : va_P D cl ws H) (hK : va_K D cl tys s) (hD : va_D A ws) (hO : va_AOA .int s) : ∀ U : State, U.heap = H → s.WarmedH U.vm → prA D cl tys ws H.size av av.toArray U := fun U hU hW => ⟨rfl, by rw [hU], by rw [hU]; exact hP, va_K.moved hW.alike hK, hD.weaken (fun _ _ _ _ => trivial), ao_moved hW.alike hO⟩
theorem hd_X5_with : yX5_with.cls ≠ "java/lang/invoke/MethodHandle" ∧ yX5_with.cls ≠ "java/lang/invoke/VarHandle" ∧ (parseMethodDescriptor yX5_with.desc).map (fun d => d.parameters.length) = some 2 := by decide +kernel
theorem hd_X5_begin : yX5_begin.cls = RX5 ∧ yX5_begin.cls ≠ "java/lang/invoke/MethodHandle" ∧ yX5_begin.cls ≠ "java/lang/invoke/VarHandle" ∧ (parseMethodDescriptor yX5_begin.desc).map (fun d => d.parameters.length) = some 1 := by decide +kernel
theorem hd_X5_add : yX5_add.cls = RX5 ∧ yX5_add.cls ≠ "java/lang/invoke/MethodHandle" ∧ yX5_add.cls ≠ "java/lang/invoke/VarHandle" ∧ (parseMethodDescriptor yX5_add.desc).map (fun d => d.parameters.length) = some 3 := by decide +kernel
theorem hd_X5_stop : yX5_stop.cls = RX5 ∧ yX5_stop.cls ≠ "java/lang/invoke/MethodHandle" ∧ yX5_stop.cls ≠ "java/lang/invoke/VarHandle" ∧ (parseMethodDescriptor yX5_stop.desc).map (fun d => d.parameters.length) = some 0 := by decide +kernel
theorem hd_X5_pass : yX5_pass.cls = RX5 ∧ yX5_pass.cls ≠ "java/lang/invoke/MethodHandle" ∧ yX5_pass.cls ≠ "java/lang/invoke/VarHandle" ∧ (parseMethodDescriptor yX5_pass.desc).map (fun d => d.parameters.length) = some 0 := by decide +kernel
theorem hd_X5_behind : yX5_behind.cls = RX5 ∧ yX5_behind.cls ≠ "java/lang/invoke/MethodHandle" ∧ yX5_behind.cls ≠ "java/lang/invoke/VarHandle" ∧ (parseMethodDescriptor yX5_behind.desc).map (fun d => d.parameters.length) = some 1 := by decide +kernel
theorem hd_X5_calls : yX5_calls.cls = RX5 ∧ yX5_calls.cls ≠ "java/lang/invoke/MethodHandle" ∧ yX5_calls.cls ≠ "java/lang/invoke/VarHandle" ∧ (parseMethodDescriptor yX5_calls.desc).map (fun d => d.parameters.length) = some 0 := by decide +kernel
theorem hd_X5_subscribers : yX5_subscribers.cls = RX5 ∧ yX5_subscribers.cls ≠ "java/lang/invoke/MethodHandle" ∧ yX5_subscribers.cls ≠ "java/lang/invoke/VarHandle" ∧ (parseMethodDescriptor yX5_subscribers.desc).map (fun d => d.parameters.length) = some 0 := by decide +kernel
theorem hd_X5_warmth : yX5_warmth.cls = RX5 ∧ yX5_warmth.cls ≠ "java/lang/invoke/MethodHandle" ∧ yX5_warmth.cls ≠ "java/lang/invoke/VarHandle" ∧ (parseMethodDescriptor yX5_warmth.desc).map (fun d => d.parameters.length) = some 0 := by decide +kernel
theorem hd_X5_cuts : yX5_cuts.cls = RX5 ∧ yX5_cuts.cls ≠ "java/lang/invoke/MethodHandle" ∧ yX5_cuts.cls ≠ "java/lang/invoke/VarHandle" ∧ (parseMethodDescriptor yX5_cuts.desc).map (fun d => d.parameters.length) = some 0 := by decide +kernel
theorem hd_X5_grade : yX5_grade.cls = RX5 ∧ yX5_grade.cls ≠ "java/lang/invoke/MethodHandle" ∧ yX5_grade.cls ≠ "java/lang/invoke/VarHandle" ∧ (parseMethodDescriptor yX5_grade.desc).map (fun d => d.parameters.length) = some 2 := by decide +kernel
theorem hd_X5_isSame : yX5_isSame.cls = RX5 ∧ yX5_isSame.cls ≠ "java/lang/invoke/MethodHandle" ∧ yX5_isSame.cls ≠ "java/lang/invoke/VarHandle" ∧ (parseMethodDescriptor yX5_isSame.desc).map (fun d => d.parameters.length) = some 1 := by decide +kernel
theorem hd_L_below : yL_below.cls ≠ "java/lang/invoke/MethodHandle" ∧ yL_below.cls ≠ "java/lang/invoke/VarHandle" ∧ (parseMethodDescriptor yL_below.desc).map (fun d => d.parameters.length) = some 2 := by decide +kernel
theorem hd_L_cell : yL_cell.cls ≠ "java/lang/invoke/MethodHandle" ∧ yL_cell.cls ≠ "java/lang/invoke/VarHandle" ∧ (parseMethodDescriptor yL_cell.desc).map (fun d => d.parameters.length) = some 2 := by decide +kernel
theorem hd_L_act : yL_act.cls ≠ "java/lang/invoke/MethodHandle" ∧ yL_act.cls ≠ "java/lang/invoke/VarHandle" ∧ (parseMethodDescriptor yL_act.desc).map (fun d => d.parameters.length) = some 3 := by decide +kernel
theorem hd_L_build : yL_build.cls ≠ "java/lang/invoke/MethodHandle" ∧ yL_build.cls ≠ "java/lang/invoke/VarHandle" ∧ (parseMethodDescriptor yL_build.desc).map (fun d => d.parameters.length) = some 2 := by decide +kernel
theorem hd_X5_init : yX5_init.cls ≠ "java/lang/invoke/MethodHandle" ∧ yX5_init.cls ≠ "java/lang/invoke/VarHandle" ∧ (parseMethodDescriptor yX5_init.desc).map (fun d => d.parameters.length) = some 0 := by decide +kernel
theorem cAVi {p : Program} {l : Launch} {e : Env} {R : Room} {s : State} {m : MethodId} {args : Array Value} {below : List Frame} {meth : Method} {c : Code} {H : Heap} {locs : List Loc} {cells slots : Nat} {Q : State → Prop} {cc bytes : ByteArray} {nL pc idx maxL n q0 ci N : Nat} {ls : Array Slot} {own C : String} {y : MethodName} {ret : Option FieldType} {rm : Room} {D : va_G} {cl : List vw_C} {tys : List (ClassId × FieldType)} {b : Addr} {rest st0 : List Value} {fs : List Value} {T : u_T} {wa wc wr : va_W} {A : Nat → Prop} {mc ms : Nat} {Z : Type} {wf : Z → va_W} {r0 : Int32} (As : List Value) (S : CallFix p m c cc nL s args lw_all own) (hK : va_K D cl tys s) (hO : va_AOA .int s) (hP : va_P D cl (wa ++ (wc ++ wr)) H) (hD : va_D A (wa ++ (wc ++ wr))) (hS : va_S A s.heap H locs) (hA : ∀ q, s.heap.size ≤ q → A q) (hM : Met l y (Cond.code y bytes maxL ret :: lw_all) rm (prA D cl tys wc H.size (.ref b :: As)) (va_Qi (fun (r : Int32) (_ : Z) => r = r0) (fun a t => va_P D cl (wf a) t.heap ∧ va_D (va_A wc H.size) (wf a)) (va_A wc H.size)) mc ms (va_A wc H.size)) (hg : GoodIn lw_all (wsV own idx C y (Cond.code y bytes maxL ret :: lw_all))) (hd : y.cls = C ∧ y.cls ≠ "java/lang/invoke/MethodHandle" ∧ y.cls ≠ "java/lang/invoke/VarHandle" ∧ (parseMethodDescriptor y.desc).map (fun d => d.parameters.length) = some n) (hrm : rm.cells = mc ∧ rm.slots = ms) (hR : rm.frames + 1 ≤ R.frames ∧ 8 + (maxL + 11) + rm.locals ≤ R.locals) (hf : cells + mc ≤ R.cells ∧ slots + ms ≤ R.slots) (hcl : cl[ci]? = some (C, T, N)) (he : wc[q0]? = some (b, .inr (ci, fs))) (hn : As.length = n) (hsz : ls.size = nL) (hw : (rest.map fun v => v.category).sum ≤ 8) (hst : st0 = As.reverse ++ .ref b :: rest) (hdg : decode cc pc = .ok (.invokevirtual idx, 3)) (kk : ∀ (a : Z) (H1 : Heap) (locs1 : List Loc), va_P D cl (wa ++ (wf a ++ wr)) H1 → va_D A (wa ++ (wf a ++ wr)) → va_S A s.heap H1 locs1 → W p l e R s m args below meth c H1 locs1 (cells + mc) (slots + ms) Q (F0 m (pc + 3) ls (.int r0 :: rest))) : W p l e R s m args below meth c H locs cells slots Q (F0 m pc ls st0) := by
  subst hst
  have hPc := va_Pmid hP
  have hDc := va_Dmid hD
  refine va_calli (va_runV (As := As) (rest := rest) S hM (cwV n S.2.2.2.2 hg rfl hrm.1 hrm.2 hd hR) ⟨prA_fb, va_recv hK hPc hcl he, prA_of hPc hK hDc hO⟩ rfl hn hsz rfl (lv_room hw) hdg hf) hS (fun q _ h => va_Aof hDc hS hA q h) (va_Aof hDc hS hA) (fun r u t H1 locs1 ht hvm hw2 hB hz1 hk1 hS1 => ?_)
  rw [ht] at hB
  obtain ⟨h1, h2⟩ := fr_joinA hP hD (va_Aof hDc hS hA) hk1 hB.1 hB.2
  rw [hw2]; exact kk u H1 locs1 h1 h2 hS1
theorem cASi {p : Program} {l : Launch} {e : Env} {R : Room} {s : State} {m : MethodId} {args : Array Value} {below : List Frame} {meth : Method} {c : Code} {H : Heap} {locs : List Loc} {cells slots : Nat} {Q : State → Prop} {cc bytes : ByteArray} {nL pc idx maxL n : Nat} {ls : Array Slot} {own : String} {y : MethodName} {ret : Option FieldType} {rm : Room} {D : va_G} {cl : List vw_C} {tys : List (ClassId × FieldType)} {rest st0 : List Value} {wa wc wr : va_W} {A : Nat → Prop} {mc ms : Nat} {Z : Type} {wf : Z → va_W} {r0 : Int32} (As : List Value) (S : CallFix p m c cc nL s args lw_all own) (hK : va_K D cl tys s) (hO : va_AOA .int s) (hP : va_P D cl (wa ++ (wc ++ wr)) H) (hD : va_D A (wa ++ (wc ++ wr))) (hS : va_S A s.heap H locs) (hA : ∀ q, s.heap.size ≤ q → A q) (hM : Met l y (Cond.code y bytes maxL ret :: lw_all) rm (prA D cl tys wc H.size As) (va_Qi (fun (r : Int32) (_ : Z) => r = r0) (fun a t => va_P D cl (wf a) t.heap ∧ va_D (va_A wc H.size) (wf a)) (va_A wc H.size)) mc ms (va_A wc H.size)) (hg : GoodIn lw_all (va_wsS own idx y (Cond.code y bytes maxL ret :: lw_all))) (hd : y.cls ≠ "java/lang/invoke/MethodHandle" ∧ y.cls ≠ "java/lang/invoke/VarHandle" ∧ (parseMethodDescriptor y.desc).map (fun d => d.parameters.length) = some n) (hrm : rm.cells = mc ∧ rm.slots = ms) (hR : rm.frames + 1 ≤ R.frames ∧ 8 + (maxL + 11) + rm.locals ≤ R.locals) (hf : cells + mc ≤ R.cells ∧ slots + ms ≤ R.slots) (hn : As.length = n) (hsz : ls.size = nL) (hw : (rest.map fun v => v.category).sum ≤ 8) (hst : st0 = As.reverse ++ rest) (hdg : decode cc pc = .ok (.invokestatic idx, 3)) (kk : ∀ (a : Z) (H1 : Heap) (locs1 : List Loc), va_P D cl (wa ++ (wf a ++ wr)) H1 → va_D A (wa ++ (wf a ++ wr)) → va_S A s.heap H1 locs1 → W p l e R s m args below meth c H1 locs1 (cells + mc) (slots + ms) Q (F0 m (pc + 3) ls (.int r0 :: rest))) : W p l e R s m args below meth c H locs cells slots Q (F0 m pc ls st0) := by
  subst hst
  have hPc := va_Pmid hP
  have hDc := va_Dmid hD
  refine va_calli (va_runS (As := As) (rest := rest) S hM (va_cwS n S.2.2.2.2 hg rfl hrm.1 hrm.2 hd hR) ⟨prA_fb, prA_of hPc hK hDc hO⟩ rfl hn hsz rfl (lv_room hw) hdg hf) hS (fun q _ h => va_Aof hDc hS hA q h) (va_Aof hDc hS hA) (fun r u t H1 locs1 ht hvm hw2 hB hz1 hk1 hS1 => ?_)
  rw [ht] at hB
  obtain ⟨h1, h2⟩ := fr_joinA hP hD (va_Aof hDc hS hA) hk1 hB.1 hB.2
  rw [hw2]; exact kk u H1 locs1 h1 h2 hS1
theorem cAVv {p : Program} {l : Launch} {e : Env} {R : Room} {s : State} {m : MethodId} {args : Array Value} {below : List Frame} {meth : Method} {c : Code} {H : Heap} {locs : List Loc} {cells slots : Nat} {Q : State → Prop} {cc bytes : ByteArray} {nL pc idx maxL n q0 ci N : Nat} {ls : Array Slot} {own C : String} {y : MethodName} {ret : Option FieldType} {rm : Room} {D : va_G} {cl : List vw_C} {tys : List (ClassId × FieldType)} {b : Addr} {rest st0 : List Value} {fs : List Value} {T : u_T} {wa wc wr : va_W} {A : Nat → Prop} {mc ms : Nat} {Z : Type} {wf : Z → va_W} (As : List Value) (S : CallFix p m c cc nL s args lw_all own) (hK : va_K D cl tys s) (hO : va_AOA .int s) (hP : va_P D cl (wa ++ (wc ++ wr)) H) (hD : va_D A (wa ++ (wc ++ wr))) (hS : va_S A s.heap H locs) (hA : ∀ q, s.heap.size ≤ q → A q) (hM : Met l y (Cond.code y bytes maxL ret :: lw_all) rm (prA D cl tys wc H.size (.ref b :: As)) (va_Qv (fun _ : Z => True) (fun a t => va_P D cl (wf a) t.heap ∧ va_D (va_A wc H.size) (wf a)) (va_A wc H.size)) mc ms (va_A wc H.size)) (hg : GoodIn lw_all (wsV own idx C y (Cond.code y bytes maxL ret :: lw_all))) (hd : y.cls = C ∧ y.cls ≠ "java/lang/invoke/MethodHandle" ∧ y.cls ≠ "java/lang/invoke/VarHandle" ∧ (parseMethodDescriptor y.desc).map (fun d => d.parameters.length) = some n) (hrm : rm.cells = mc ∧ rm.slots = ms) (hR : rm.frames + 1 ≤ R.frames ∧ 8 + (maxL + 11) + rm.locals ≤ R.locals) (hf : cells + mc ≤ R.cells ∧ slots + ms ≤ R.slots) (hcl : cl[ci]? = some (C, T, N)) (he : wc[q0]? = some (b, .inr (ci, fs))) (hn : As.length = n) (hsz : ls.size = nL) (hw : (rest.map fun v => v.category).sum ≤ 8) (hst : st0 = As.reverse ++ .ref b :: rest) (hdg : decode cc pc = .ok (.invokevirtual idx, 3)) (kk : ∀ (a : Z) (H1 : Heap) (locs1 : List Loc), va_P D cl (wa ++ (wf a ++ wr)) H1 → va_D A (wa ++ (wf a ++ wr)) → va_S A s.heap H1 locs1 → W p l e R s m args below meth c H1 locs1 (cells + mc) (slots + ms) Q (F0 m (pc + 3) ls rest)) : W p l e R s m args below meth c H locs cells slots Q (F0 m pc ls st0) := by
  subst hst
  have hPc := va_Pmid hP
  have hDc := va_Dmid hD
  refine va_callv (va_runV (As := As) (rest := rest) S hM (cwV n S.2.2.2.2 hg rfl hrm.1 hrm.2 hd hR) ⟨prA_fb, va_recv hK hPc hcl he, prA_of hPc hK hDc hO⟩ rfl hn hsz rfl (lv_room hw) hdg hf) hS (fun q _ h => va_Aof hDc hS hA q h) (va_Aof hDc hS hA) (fun u t H1 locs1 ht hvm hw2 hB hz1 hk1 hS1 => ?_)
  rw [ht] at hB
  obtain ⟨h1, h2⟩ := fr_joinA hP hD (va_Aof hDc hS hA) hk1 hB.1 hB.2
  exact kk u H1 locs1 h1 h2 hS1
theorem cASv {p : Program} {l : Launch} {e : Env} {R : Room} {s : State} {m : MethodId} {args : Array Value} {below : List Frame} {meth : Method} {c : Code} {H : Heap} {locs : List Loc} {cells slots : Nat} {Q : State → Prop} {cc bytes : ByteArray} {nL pc idx maxL n : Nat} {ls : Array Slot} {own : String} {y : MethodName} {ret : Option FieldType} {rm : Room} {D : va_G} {cl : List vw_C} {tys : List (ClassId × FieldType)} {rest st0 : List Value} {wa wc wr : va_W} {A : Nat → Prop} {mc ms : Nat} {Z : Type} {wf : Z → va_W} (As : List Value) (S : CallFix p m c cc nL s args lw_all own) (hK : va_K D cl tys s) (hO : va_AOA .int s) (hP : va_P D cl (wa ++ (wc ++ wr)) H) (hD : va_D A (wa ++ (wc ++ wr))) (hS : va_S A s.heap H locs) (hA : ∀ q, s.heap.size ≤ q → A q) (hM : Met l y (Cond.code y bytes maxL ret :: lw_all) rm (prA D cl tys wc H.size As) (va_Qv (fun _ : Z => True) (fun a t => va_P D cl (wf a) t.heap ∧ va_D (va_A wc H.size) (wf a)) (va_A wc H.size)) mc ms (va_A wc H.size)) (hg : GoodIn lw_all (va_wsS own idx y (Cond.code y bytes maxL ret :: lw_all))) (hd : y.cls ≠ "java/lang/invoke/MethodHandle" ∧ y.cls ≠ "java/lang/invoke/VarHandle" ∧ (parseMethodDescriptor y.desc).map (fun d => d.parameters.length) = some n) (hrm : rm.cells = mc ∧ rm.slots = ms) (hR : rm.frames + 1 ≤ R.frames ∧ 8 + (maxL + 11) + rm.locals ≤ R.locals) (hf : cells + mc ≤ R.cells ∧ slots + ms ≤ R.slots) (hn : As.length = n) (hsz : ls.size = nL) (hw : (rest.map fun v => v.category).sum ≤ 8) (hst : st0 = As.reverse ++ rest) (hdg : decode cc pc = .ok (.invokestatic idx, 3)) (kk : ∀ (a : Z) (H1 : Heap) (locs1 : List Loc), va_P D cl (wa ++ (wf a ++ wr)) H1 → va_D A (wa ++ (wf a ++ wr)) → va_S A s.heap H1 locs1 → W p l e R s m args below meth c H1 locs1 (cells + mc) (slots + ms) Q (F0 m (pc + 3) ls rest)) : W p l e R s m args below meth c H locs cells slots Q (F0 m pc ls st0) := by
  subst hst
  have hPc := va_Pmid hP
  have hDc := va_Dmid hD
  refine va_callv (va_runS (As := As) (rest := rest) S hM (va_cwS n S.2.2.2.2 hg rfl hrm.1 hrm.2 hd hR) ⟨prA_fb, prA_of hPc hK hDc hO⟩ rfl hn hsz rfl (lv_room hw) hdg hf) hS (fun q _ h => va_Aof hDc hS hA q h) (va_Aof hDc hS hA) (fun u t H1 locs1 ht hvm hw2 hB hz1 hk1 hS1 => ?_)
  rw [ht] at hB
  obtain ⟨h1, h2⟩ := fr_joinA hP hD (va_Aof hDc hS hA) hk1 hB.1 hB.2
  exact kk u H1 locs1 h1 h2 hS1
theorem cWith {p : Program} {l : Launch} {e : Env} {R : Room} {s : State} {m : MethodId} {args : Array Value} {below : List Frame} {meth : Method} {c : Code} {H : Heap} {locs : List Loc} {cells slots : Nat} {Q : State → Prop} {cc bytes : ByteArray} {nL pc idx maxL n : Nat} {ls : Array Slot} {own : String} {y : MethodName} {ret : Option FieldType} {rm : Room} {D : va_G} {cl : List vw_C} {tys : List (ClassId × FieldType)} {rest st0 : List Value} {ws : va_W} {A : Nat → Prop} {a0 q k : Nat} {L : Nat → Nat} {cJ : ClassId} (S : CallFix p m c cc nL s args lw_all own) (hK : va_K D cl tys s) (hO : va_AOA .int s) (hP : va_P D cl ws H) (hD : va_D A ws) (hS : va_S A s.heap H locs) (hA : ∀ q, s.heap.size ≤ q → A q) (hM : Met l y (Cond.code y bytes maxL ret :: lw_all) rm (prA D cl tys ws H.size [.ref a0, .ref q]) (va_Qr (fun _ : Unit => True) (fun _ a t => va_P D cl (ws ++ [(a, .inl (cJ, rfs (k + 1) (va_up L k q)))]) t.heap ∧ va_D (va_A ws H.size) (ws ++ [(a, .inl (cJ, rfs (k + 1) (va_up L k q)))])) (va_A ws H.size)) 1 129 (va_A ws H.size)) (hg : GoodIn lw_all (va_wsS own idx y (Cond.code y bytes maxL ret :: lw_all))) (hd : y.cls ≠ "java/lang/invoke/MethodHandle" ∧ y.cls ≠ "java/lang/invoke/VarHandle" ∧ (parseMethodDescriptor y.desc).map (fun d => d.parameters.length) = some n) (hrm : rm.cells = 1 ∧ rm.slots = 129) (hR : rm.frames + 1 ≤ R.frames ∧ 8 + (maxL + 11) + rm.locals ≤ R.locals) (hf : cells + 1 ≤ R.cells ∧ slots + 129 ≤ R.slots) (hn : 2 = n) (hsz : ls.size = nL) (hw : (rest.map fun v => v.category).sum ≤ 8) (hst : st0 = .ref q :: .ref a0 :: rest) (hdg : decode cc pc = .ok (.invokestatic idx, 3)) (kk : ∀ (a : Nat) (H1 : Heap) (locs1 : List Loc), va_P D cl (ws ++ [(a, .inl (cJ, rfs (k + 1) (va_up L k q)))]) H1 → va_D A (ws ++ [(a, .inl (cJ, rfs (k + 1) (va_up L k q)))]) → va_S A s.heap H1 locs1 → W p l e R s m args below meth c H1 locs1 (cells + 1) (slots + 129) Q (F0 m (pc + 3) ls (.ref a :: rest))) : W p l e R s m args below meth c H locs cells slots Q (F0 m pc ls st0) := by
  subst hst
  refine va_callr (va_runS (As := [.ref a0, .ref q]) (rest := rest) S hM (va_cwS n S.2.2.2.2 hg rfl hrm.1 hrm.2 hd hR) ⟨prA_fb, prA_of hP hK hD hO⟩ rfl hn hsz rfl (lv_room hw) hdg hf) hS (fun q _ h => va_Aof hD hS hA q h) (va_Aof hD hS hA) (fun u ra t H1 locs1 ht hvm hw2 hB hz1 hk1 hS1 => ?_)
  rw [ht] at hB
  exact kk ra H1 locs1 hB.1 (wD_nd.mpr ⟨(wD_nd.mp hB.2).1, fun x hx => va_Aof hD hS hA _ (wD_of hB.2 x hx)⟩) hS1
theorem wq_re {D : va_G} {cl : List vw_C} {ws : va_W} {a n : Nat} {cJ : ClassId} {f g : Nat → Option Nat} {H : Heap} (h : ∀ k, k < n → f k = g k) (hP : va_P D cl (ws ++ [(a, .inl (cJ, n, .inr (.inr (.inr (.inr f)))))]) H) : va_P D cl (ws ++ [(a, .inl (cJ, n, .inr (.inr (.inr (.inr g)))))]) H := by
  have h1 := wP_mem.mp hP
  refine wP_mem.mpr fun x hx => ?_
  rcases List.mem_append.mp hx with h2 | h2
  · exact h1 x (List.mem_append.mpr (Or.inl h2))
  · rw [List.mem_singleton] at h2
    subst h2
    have h3 : H[a]? = some (vp_cell cJ (n, .inr (.inr (.inr (.inr f))))) := h1 _ (List.mem_append.mpr (Or.inr (List.mem_singleton.mpr rfl)))
    show H[a]? = some (vp_cell cJ (n, .inr (.inr (.inr (.inr g)))))
    rw [h3]
    exact congrArg some (vq_congr cJ h)
theorem wq_D {A : Nat → Prop} {ws : va_W} {a : Nat} {e e' : va_E} (h : va_D A (ws ++ [(a, e)])) : va_D A (ws ++ [(a, e')]) := va_Dsame (by rw [List.map_append, List.map_append]; rfl) h
set_option maxHeartbeats 4000000 in
set_option maxRecDepth 100000 in
/-- the same rows, and one more -/
theorem c_X5_with (l : Launch) (dC : Nat → ClassId) (dI : Nat → Nat → Nat) (cI cZ cJ : ClassId) (ws : va_W) (sz a0 q n k9 : Nat) (L : Nat → Nat) (f : Nat → Int32) (hn : n ≤ 128) (h0 : ∃ i : Nat, ws[i]? = some (a0, .inl (cJ, rfs n L))) (hr0 : ∀ k, k < n → ∃ (i k2 : Nat) (x : Nat → Int32), ws[i]? = some (L k, .inl (cI, k2, .inl x))) (hq0 : ∃ i : Nat, ws[i]? = some (q, .inl (cI, k9, .inl f))) : Met l yX5_with (Cond.code yX5_with cX5_with 4 (some (.array (.array .int))) :: lw_all) { frames := 0, cells := 1, slots := 129, locals := 0 } (prA (dC, dI) vwCl (TYG cI cZ cJ) ws sz [.ref a0, .ref q]) (va_Qr (fun _ : Unit => True) (fun _ a t => va_P (dC, dI) vwCl (ws ++ [(a, .inl (cJ, rfs (n + 1) (va_up L n q)))]) t.heap ∧ va_D (va_A ws sz) (ws ++ [(a, .inl (cJ, rfs (n + 1) (va_up L n q)))])) (va_A ws sz)) 1 129 (va_A ws sz) := by
  obtain ⟨i0, h0⟩ := h0
  obtain ⟨iq, hq0⟩ := hq0
  have hi0 : i0 < ws.length := (List.getElem?_eq_some_iff.mp h0).1
  refine oM (by decide) (Nat.le_of_ble_eq_true rfl) ?_
  intro p e s m args below meth c S hr hlk hnm hB ls hl
  have hx := S.1
  have hb := S.2.1
  have hown : s.vm.findClass RX5 = some m.cls := S.2.2.2.1
  have hts := S.2.2.2.2
  have hl : lv_has ls 4 [(0, .ref a0), (1, .ref q)] := hl
  obtain ⟨hsz, hP, hK, hD0, hO⟩ := hB
  subst hsz
  have hD := hD0.self (sz := s.heap.size)
  generalize hAe : va_A ws s.heap.size = A at hD ⊢
  have hA : ∀ q : Nat, s.heap.size ≤ q → A q := fun q h => by rw [← hAe]; exact Or.inr h
  have hS : va_S A s.heap s.heap [] := va_S.rf
  have hL : ∀ (a j : Nat), ∀ (i : Nat) (F : Nat → Option Nat) (H : Heap) (locs : List Loc) (ls : Array Slot), i + j = n → va_P (dC, dI) vwCl (ws ++ [(a, .inl (cJ, n + 1, .inr (.inr (.inr (.inr F)))))]) H → va_D A (ws ++ [(a, .inl (cJ, n + 1, .inr (.inr (.inr (.inr F)))))]) → va_S A s.heap H locs → (∀ k, k < i → F k = some (L k)) → lv_has ls 4 [(3, .int (nI i)), (2, .ref a), (0, .ref a0), (1, .ref q)] → W p l e { frames := 0, cells := 1, slots := 129, locals := 0 } s m args below meth c H locs 1 129 (MQ below (va_Qr (fun _ : Unit => True) (fun _ a t => va_P (dC, dI) vwCl (ws ++ [(a, .inl (cJ, rfs (n + 1) (va_up L n q)))]) t.heap ∧ va_D A (ws ++ [(a, .inl (cJ, rfs (n + 1) (va_up L n q)))])) A) args s 1 129 A) (F0 m 10 ls []) := by
    intro a j
    induction j with
    | zero =>
      intro i F H locs ls hi hP hD hS hF hl
      have hi : i = n := hi
      subst hi
      refine lv_iload_n hx hb dX5_with_10 rfl (lv_at hl 0 rfl) ?_
      refine lv_aload_n hx hb dX5_with_11 rfl (lv_at hl 2 rfl) ?_
      refine va_alen (v := nI i) hx hb hK hP i0 2 (by rw [List.getElem?_append_left hi0]; exact h0) rfl rfl dX5_with_12 ?_
      refine lv_icmp_ge (tgt := 28) hx hb dX5_with_13 (by decide) (fun _ => ?_) (fun h9 => absurd (Int32.le_refl _) h9)
      refine lv_aload_n hx hb dX5_with_28 rfl (lv_at hl 1 rfl) ?_
      refine lv_aload_n hx hb dX5_with_29 rfl (lv_at hl 2 rfl) ?_
      refine va_alen (v := nI i) hx hb hK hP i0 2 (by rw [List.getElem?_append_left hi0]; exact h0) rfl rfl dX5_with_30 ?_
      refine lv_aload_n hx hb dX5_with_31 rfl (lv_at hl 3 rfl) ?_
      have hiq : iq < ws.length := (List.getElem?_eq_some_iff.mp hq0).1
      refine fg_st hx hb hK hP hD hS hO ws.length 2 iq 0 (by rw [List.getElem?_append_right (Nat.le_refl _), Nat.sub_self]; rfl) rfl (by rw [List.getElem?_append_left hiq]; exact hq0) rfl (vp_in_nI (by omega) (by omega)) dX5_with_32 (fun H1 locs1 hP1 hD1 hS1 => ?_)
      rw [List.set_append_right _ _ (Nat.le_refl _), Nat.sub_self] at hP1 hD1
      have hP1 : va_P (dC, dI) vwCl (ws ++ [(a, .inl (cJ, i + 1, .inr (.inr (.inr (.inr (va_up F (nI i).toNatClampNeg (some q)))))))]) H1 := hP1
      have hP1 := wq_re (g := fun k => some (va_up L i q k)) (fun k hk => by
        rw [nI_clamp (by omega)]
        unfold va_up
        by_cases e : k = i
        · rw [if_pos e, if_pos e]
        · rw [if_neg e, if_neg e]; exact hF k (by omega)) hP1
      have hD1 : va_D A (ws ++ [(a, .inl (cJ, rfs (i + 1) (va_up L i q)))]) := wq_D hD1
      refine lv_aload_n hx hb dX5_with_33 rfl (lv_at hl 1 rfl) ?_
      exact W.aret hx hb hr (Or.inr ⟨_, rfl⟩) (Or.inr ⟨_, rfl⟩) (fun t ht _ => ⟨⟨(), a, rfl, trivial, by rw [ht]; exact hP1, hD1⟩, hS1.F ht⟩) hS1.2.2 dX5_with_34 hlk
    | succ j ih =>
      intro i F H locs ls hi hP hD hS hF hl
      refine lv_iload_n hx hb dX5_with_10 rfl (lv_at hl 0 rfl) ?_
      refine lv_aload_n hx hb dX5_with_11 rfl (lv_at hl 2 rfl) ?_
      refine va_alen (v := nI n) hx hb hK hP i0 2 (by rw [List.getElem?_append_left hi0]; exact h0) rfl rfl dX5_with_12 ?_
      refine lv_icmp_ge (tgt := 28) hx hb dX5_with_13 (by decide) (fun h9 => absurd ((nI_leI (by omega) (by omega)).mp h9) (by omega)) (fun _ => ?_)
      refine lv_aload_n hx hb dX5_with_16 rfl (lv_at hl 1 rfl) ?_
      refine lv_iload_n hx hb dX5_with_17 rfl (lv_at hl 0 rfl) ?_
      refine lv_aload_n hx hb dX5_with_18 rfl (lv_at hl 2 rfl) ?_
      refine lv_iload_n hx hb dX5_with_19 rfl (lv_at hl 0 rfl) ?_
      refine fg_ld hx hb hK hP i0 2 (by rw [List.getElem?_append_left hi0]; exact h0) rfl (vp_in_nI (by omega) (by omega)) (v := L i) (by rw [nI_clamp (by omega)]) dX5_with_20 ?_
      obtain ⟨ik, k2, x9, hk9⟩ := hr0 i (by omega)
      have hik : ik < ws.length := (List.getElem?_eq_some_iff.mp hk9).1
      refine fg_st hx hb hK hP hD hS hO ws.length 2 ik 0 (by rw [List.getElem?_append_right (Nat.le_refl _), Nat.sub_self]; rfl) rfl (by rw [List.getElem?_append_left hik]; exact hk9) rfl (vp_in_nI (by omega) (by omega)) dX5_with_21 (fun H1 locs1 hP1 hD1 hS1 => ?_)
      rw [List.set_append_right _ _ (Nat.le_refl _), Nat.sub_self] at hP1 hD1
      refine lv_iinc (k := 0) (v := nI (i + 1)) (lv' := [(3, .int (nI (i + 1))), (2, .ref a), (0, .ref a0), (1, .ref q)]) hx hb dX5_with_22 hl rfl (by rw [← nI_1]; rfl) (by decide) rfl (fun ls hl => ?_)
      refine lv_goto (tgt := 10) hx hb dX5_with_25 (by decide) ?_
      refine ih (i + 1) _ H1 locs1 ls (by omega) hP1 hD1 hS1 (fun k hk => ?_) hl
      rw [nI_clamp (by omega)]
      unfold va_up
      by_cases e : k = i
      · rw [if_pos e, e]
      · rw [if_neg e]; exact hF k (by omega)
  refine lv_aload_n hx hb dX5_with_0 rfl (lv_at hl 0 rfl) ?_
  refine va_alen (v := nI n) hx hb hK hP i0 2 h0 rfl rfl dX5_with_1 ?_
  refine lv_iconst (v := (1 : Int32)) hx hb dX5_with_2 (by decide) ?_
  refine lv_iadd hx hb dX5_with_3 ?_
  rw [nI_1]
  refine fg_new (n := n + 1) hx hb hown (hts _ qk_X5_25) hO hK 2 rfl hP hD hS hA (nI_pos (by omega)) (nI_clamp (by omega)) (by omega) (Nat.le_of_ble_eq_true rfl) (by show 0 + (n + 1) ≤ 129; omega) dX5_with_4 (fun a H hP hD hS => ?_)
  refine W.widen (k := 1) (n := 129) (Nat.le_of_ble_eq_true rfl) (by omega) ?_
  refine lv_astore_n (lv' := [(2, .ref a), (0, .ref a0), (1, .ref q)]) hx hb dX5_with_7 rfl hl (by decide) rfl (fun ls hl => ?_)
  refine lv_iconst (v := (0 : Int32)) hx hb dX5_with_8 (by decide) ?_
  refine lv_istore_n (lv' := [(3, .int 0), (2, .ref a), (0, .ref a0), (1, .ref q)]) hx hb dX5_with_9 rfl hl (by decide) rfl (fun ls hl => ?_)
  exact hL a n 0 _ H _ ls (by omega) hP hD hS (fun k hk => absurd hk (Nat.not_lt_zero k)) hl
def p_L_cell (xs : Nat → Int32) (L : Nat) (k : Int32) : Option Int32 := if nI L ≤ k then some (790386105 * (k + 3)) else gd k L (some (xs k.toNatClampNeg))
def prC (b L : Nat) (xs : Nat → Int32) (av : List Value) : Array Value → State → Prop := va_Pc av (fun U => va_X b L xs U U.heap ∧ b < U.heap.size)
theorem prC_fb {b L : Nat} {xs : Nat → Int32} {av : List Value} : FrameBlind (prC b L xs av) := fun a U g mk q => ⟨q.1, q.2.1, q.2.2⟩
theorem va_Xm {b L : Nat} {xs : Nat → Int32} {s U : State} {A : Nat → Prop} {H : Heap} {locs : List Loc} (h : va_X b L xs s s.heap) (hbl : b < s.heap.size) (hbA : ¬ A b) (hS : va_S A s.heap H locs) (hU : U.heap = H) (hW : s.vm.Alike U.vm) : va_X b L xs U U.heap := by
  obtain ⟨scr, h1, h2, h3, h4, h5⟩ := h
  exact ⟨scr, by rw [hU, hS.2.1 b hbl hbA]; exact h1, State.isArrayOf_alike hW h2, h3, h4, h5⟩
set_option maxRecDepth 100000 in
theorem c_L_cell (l : Launch) (b L : Nat) (xs : Nat → Int32) (k : Int32) {z : Int32} (hok : p_L_cell xs L k = some z) : Met l yL_cell (Cond.code yL_cell cL_cell 2 (some .int) :: lw_all) { frames := 0, cells := 0, slots := 0, locals := 0 } (prC b L xs [.ref b, .int k]) (vp_Si (fun r => r = z)) 0 0 (fun _ => False) := by
  refine oM (by decide) (Nat.le_of_ble_eq_true rfl) ?_
  intro p e s m args below meth c S hr hlk hnm hB ls hl
  have hx := S.1
  have hb := S.2.1
  have hown : s.vm.findClass RL = some m.cls := S.2.2.2.1
  have hts := S.2.2.2.2
  have hl : lv_has ls 2 [(0, .ref b), (1, .int k)] := hl
  obtain ⟨hX, hbl⟩ := hB
  have hS : va_S (fun _ => False) s.heap s.heap [] := va_S.rf
  unfold p_L_cell at hok
  refine lv_iload_n hx hb dL_cell_0 rfl (lv_at hl 1 rfl) ?_
  refine lv_aload_n hx hb dL_cell_1 rfl (lv_at hl 0 rfl) ?_
  refine va_slen hx hb hX hbl (fun h => h) hS dL_cell_2 ?_
  refine lv_icmp_ge (tgt := 12) hx hb dL_cell_3 (by decide) (fun h9 => ?_) (fun h9 => ?_)
  · have hok := ip hok h9
    refine lv_ldc hx hb hown (hts _ qo_L_8) dL_cell_12 ?_
    refine lv_iload_n hx hb dL_cell_14 rfl (lv_at hl 1 rfl) ?_
    refine lv_iconst (v := (3 : Int32)) hx hb dL_cell_15 (by decide) ?_
    refine lv_iadd hx hb dL_cell_16 ?_
    refine lv_imul hx hb dL_cell_17 ?_
    exact eRi S hr hlk (Option.some.inj hok) dL_cell_18
  · have hok := iq hok h9
    obtain ⟨hi, hok⟩ := gd_some hok
    refine lv_aload_n hx hb dL_cell_6 rfl (lv_at hl 0 rfl) ?_
    refine lv_iload_n hx hb dL_cell_7 rfl (lv_at hl 1 rfl) ?_
    refine va_sld hx hb hX hbl (fun h => h) hS hi dL_cell_8 ?_
    refine lv_goto (tgt := 18) hx hb dL_cell_9 (by decide) ?_
    exact eRi S hr hlk (Option.some.inj hok) dL_cell_18
theorem cCell {p : Program} {l : Launch} {e : Env} {R : Room} {s : State} {m : MethodId} {args : Array Value} {below : List Frame} {meth : Method} {c : Code} {H : Heap} {locs : List Loc} {cells slots : Nat} {Q : State → Prop} {cc bytes : ByteArray} {nL pc idx maxL n : Nat} {ls : Array Slot} {own : String} {y : MethodName} {ret : Option FieldType} {rm : Room} {rest st0 : List Value} {A : Nat → Prop} {b L : Nat} {xs : Nat → Int32} {k r0 : Int32} (S : CallFix p m c cc nL s args lw_all own) (hX : va_X b L xs s s.heap) (hbl : b < s.heap.size) (hbA : ¬ A b) (hS : va_S A s.heap H locs) (hM : Met l y (Cond.code y bytes maxL ret :: lw_all) rm (prC b L xs [.ref b, .int k]) (vp_Si (fun r => r = r0)) 0 0 (fun _ => False)) (hg : GoodIn lw_all (va_wsS own idx y (Cond.code y bytes maxL ret :: lw_all))) (hd : y.cls ≠ "java/lang/invoke/MethodHandle" ∧ y.cls ≠ "java/lang/invoke/VarHandle" ∧ (parseMethodDescriptor y.desc).map (fun d => d.parameters.length) = some n) (hrm : rm.cells = 0 ∧ rm.slots = 0) (hR : rm.frames + 1 ≤ R.frames ∧ 8 + (maxL + 11) + rm.locals ≤ R.locals) (hf : cells ≤ R.cells ∧ slots ≤ R.slots) (hn : 2 = n) (hsz : ls.size = nL) (hw : (rest.map fun v => v.category).sum ≤ 8) (hst : st0 = .int k :: .ref b :: rest) (hdg : decode cc pc = .ok (.invokestatic idx, 3)) (kk : W p l e R s m args below meth c H locs cells slots Q (F0 m (pc + 3) ls (.int r0 :: rest))) : W p l e R s m args below meth c H locs cells slots Q (F0 m pc ls st0) := by
  subst hst
  refine vp_callSi (va_Run.run (va_runS (As := [.ref b, .int k]) (rest := rest) S hM (va_cwS n S.2.2.2.2 hg rfl hrm.1 hrm.2 hd hR) ⟨prC_fb, fun U hU hW => ⟨rfl, va_Xm hX hbl hbA hS hU hW.alike, by rw [hU]; exact Nat.lt_of_lt_of_le hbl hS.1⟩⟩ rfl hn hsz rfl (lv_room hw) hdg hf)) (fun r hr => by rw [hr]; exact kk)
theorem mk9 {cI cZ cJ : ClassId} {g0 g7 g8 g9 g10 g11 g12 : Nat} {G9 G10 G11 G12 : Nat → Nat} {u : tX5} {wa ex : va_W} {k : Nat} (h : k < u.2.2.2.2.2.2.2.2.2.1.1) : (G9 k, .inl (cI, (u.2.2.2.2.2.2.2.2.2.1.2 k).1, .inl (u.2.2.2.2.2.2.2.2.2.1.2 k).2)) ∈ (wa ++ ((wX5 cI cZ cJ g0 g7 g8 g9 g10 g11 g12 G9 G10 G11 G12 u) ++ ex)) := by
  have h1 : ((G9 k, .inl (cI, (u.2.2.2.2.2.2.2.2.2.1.2 k).1, .inl (u.2.2.2.2.2.2.2.2.2.1.2 k).2)) : Nat × va_E) ∈ rW cI G9 u.2.2.2.2.2.2.2.2.2.1 := rW_mem.mpr ⟨k, h, rfl⟩
  simp only [wX5, List.mem_append, List.mem_cons]
  grind
theorem mk10 {cI cZ cJ : ClassId} {g0 g7 g8 g9 g10 g11 g12 : Nat} {G9 G10 G11 G12 : Nat → Nat} {u : tX5} {wa ex : va_W} {k : Nat} (h : k < u.2.2.2.2.2.2.2.2.2.2.1.1) : (G10 k, .inl (cI, (u.2.2.2.2.2.2.2.2.2.2.1.2 k).1, .inl (u.2.2.2.2.2.2.2.2.2.2.1.2 k).2)) ∈ (wa ++ ((wX5 cI cZ cJ g0 g7 g8 g9 g10 g11 g12 G9 G10 G11 G12 u) ++ ex)) := by
  have h1 : ((G10 k, .inl (cI, (u.2.2.2.2.2.2.2.2.2.2.1.2 k).1, .inl (u.2.2.2.2.2.2.2.2.2.2.1.2 k).2)) : Nat × va_E) ∈ rW cI G10 u.2.2.2.2.2.2.2.2.2.2.1 := rW_mem.mpr ⟨k, h, rfl⟩
  simp only [wX5, List.mem_append, List.mem_cons]
  grind
theorem mk11 {cI cZ cJ : ClassId} {g0 g7 g8 g9 g10 g11 g12 : Nat} {G9 G10 G11 G12 : Nat → Nat} {u : tX5} {wa ex : va_W} {k : Nat} (h : k < u.2.2.2.2.2.2.2.2.2.2.2.1.1) : (G11 k, .inl (cI, (u.2.2.2.2.2.2.2.2.2.2.2.1.2 k).1, .inl (u.2.2.2.2.2.2.2.2.2.2.2.1.2 k).2)) ∈ (wa ++ ((wX5 cI cZ cJ g0 g7 g8 g9 g10 g11 g12 G9 G10 G11 G12 u) ++ ex)) := by
  have h1 : ((G11 k, .inl (cI, (u.2.2.2.2.2.2.2.2.2.2.2.1.2 k).1, .inl (u.2.2.2.2.2.2.2.2.2.2.2.1.2 k).2)) : Nat × va_E) ∈ rW cI G11 u.2.2.2.2.2.2.2.2.2.2.2.1 := rW_mem.mpr ⟨k, h, rfl⟩
  simp only [wX5, List.mem_append, List.mem_cons]
  grind
theorem mk12 {cI cZ cJ : ClassId} {g0 g7 g8 g9 g10 g11 g12 : Nat} {G9 G10 G11 G12 : Nat → Nat} {u : tX5} {wa ex : va_W} {k : Nat} (h : k < u.2.2.2.2.2.2.2.2.2.2.2.2.1.1) : (G12 k, .inl (cI, (u.2.2.2.2.2.2.2.2.2.2.2.2.1.2 k).1, .inl (u.2.2.2.2.2.2.2.2.2.2.2.2.1.2 k).2)) ∈ (wa ++ ((wX5 cI cZ cJ g0 g7 g8 g9 g10 g11 g12 G9 G10 G11 G12 u) ++ ex)) := by
  have h1 : ((G12 k, .inl (cI, (u.2.2.2.2.2.2.2.2.2.2.2.2.1.2 k).1, .inl (u.2.2.2.2.2.2.2.2.2.2.2.2.1.2 k).2)) : Nat × va_E) ∈ rW cI G12 u.2.2.2.2.2.2.2.2.2.2.2.2.1 := rW_mem.mpr ⟨k, h, rfl⟩
  simp only [wX5, List.mem_append, List.mem_cons]
  grind
