theorem cILv {p : Program} {l : Launch} {e : Env} {R : Room} {s : State} {m : MethodId} {args : Array Value} {below : List Frame} {meth : Method} {c : Code} {H H0 : Heap} {locs : List Loc} {cells slots : Nat} {Q : State → Prop} {cc bytes : ByteArray} {nL pc idx maxL n : Nat} {ls : Array Slot} {own : String} {y : MethodName} {rm : Room} {D : va_G} {cl : List vw_C} {tys : List (ClassId × FieldType)} {b : Addr} {rest st0 : List Value} {wc : va_W} {A : Nat → Prop} {B : Unit → State → Prop} {mc ms : Nat} (As : List Value) (S : CallFix p m c cc nL s args lw_all own) (hK : va_K D cl tys s) (hPc : va_P D cl wc H) (hN : nst s) (hDc : va_D A wc) (hS : va_S A H0 H locs) (hA : ∀ q, H0.size ≤ q → A q) (hM : Met l y (Cond.code y bytes maxL none :: lw_all) rm (prN D cl tys wc H.size (.ref b :: As)) (va_Qv (fun _ : Unit => True) B (va_A wc H.size)) mc ms (va_A wc H.size)) (hcode : Cond.code y bytes maxL none ∈ lw_all) (hini : Cond.initialized y.cls ∈ lw_all) (hlink : Cond.methodLink own idx y ∈ lw_all) (hinst : Cond.instanceMethod y ∈ lw_all) (hy1 : y.name = "<init>") (hd : y.cls ≠ "java/lang/invoke/MethodHandle" ∧ y.cls ≠ "java/lang/invoke/VarHandle" ∧ (parseMethodDescriptor y.desc).map (fun d => d.parameters.length) = some n) (hrm : rm.cells = mc ∧ rm.slots = ms) (hR : rm.frames + 1 ≤ R.frames ∧ 8 + (maxL + 11) + rm.locals ≤ R.locals) (hf : cells + mc ≤ R.cells ∧ slots + ms ≤ R.slots) (hn : As.length = n) (hsz : ls.size = nL) (hw : (rest.map fun v => v.category).sum ≤ 8) (hst : st0 = As.reverse ++ .ref b :: rest) (hdg : decode cc pc = .ok (.invokespecial idx, 3)) (kk : ∀ (t : State) (H1 : Heap) (locs1 : List Loc), t.heap = H1 → B () t → (∀ q : Nat, q < H.size → ¬ va_A wc H.size q → H1[q]? = H[q]?) → va_S A H0 H1 locs1 → W p l e R s m args below meth c H1 locs1 (cells + mc) (slots + ms) Q (F0 m (pc + 3) ls rest)) : W p l e R s m args below meth c H locs cells slots Q (F0 m pc ls st0) := by
  subst hst
  exact va_callv (va_runI (As := As) (rest := rest) S hM (cwI n S.2.2.2.2 (lw_gc hcode) rfl hrm.1 hrm.2 (S.2.2.2.2 _ hini) (S.2.2.2.2 _ hlink) (S.2.2.2.2 _ hinst) hy1 hd hR) ⟨prN_fb, prN_of hPc hK hDc hN⟩ rfl hn hsz rfl (lv_room hw) hdg hf) hS (fun q _ h => va_Aof hDc hS hA q h) (va_Aof hDc hS hA) (fun u t H1 locs1 ht hvm hw2 hB hz1 hk1 hS1 => kk t H1 locs1 ht hB hk1 hS1)
theorem arr_known_int {args : Array Value} {s : State} (h : (Cond.arrayClass .int).before args s = true) : ∃ cA : ClassId, ArrOfT s cA .int ∧ va_RA s cA .int := by
  obtain ⟨cA, kA, comp, h1, h2, h3⟩ := Cond.arrayClass_spec h
  exact ⟨cA, fun n z => ⟨fun k h => (by cases h), kA, h2, comp, h3⟩, h1⟩
theorem arr_known_boolean {args : Array Value} {s : State} (h : (Cond.arrayClass .boolean).before args s = true) : ∃ cA : ClassId, ArrOfT s cA .boolean ∧ va_RA s cA .boolean := by
  obtain ⟨cA, kA, comp, h1, h2, h3⟩ := Cond.arrayClass_spec h
  exact ⟨cA, fun n z => ⟨fun k h => (by cases h), kA, h2, comp, h3⟩, h1⟩
theorem arr_known_rows {s : State} (h : va_AOA .int s) : ∃ cA : ClassId, ArrOfT s cA (.array .int) ∧ va_RA s cA (.array .int) := by
  obtain ⟨comp, c, k, h1, h2, h3, h4, h5⟩ := arrayOverA_spec h
  exact ⟨c, fun n z => ⟨fun k h => (by cases h), k, h3, comp, h4⟩, h5⟩
theorem lw_hts {b : Addr} {s : State} (hts : ∀ w ∈ lw_tbl, w.before #[Value.ref b] s = true) : ∀ w ∈ lw_all, w.before #[Value.ref b] s = true := fun w h => hts w (lw_all_tbl w h)
set_option maxHeartbeats 4000000 in
set_option maxRecDepth 100000 in
theorem whole_from {p : Program} {e : Env} {s : State} {m : MethodId} {below : List Frame} {meth : Method} {c : Code} (l : Launch) (hflags : l.flags = flags0) {b L : Nat} {xv : Nat → Int32} {z : (tX1 × tX0 × tX2 × tX3 × tX5)} (hpure1 : p_L_build xv L zX1 zX0 zX0 zX2 zX3 = some z) (hpure2 : p_L_law xv L z.1 z.2.1 zX0 z.2.2.1 z.2.2.2.1 z.2.2.2.2 = some ()) (C0 : lw_At p s m meth c b L xv) : W p l e room_1 s m #[Value.ref b] below meth c s.heap [] 0 0 (lw_Z below #[Value.ref b] s) (entryFrame m ([Value.ref b] : List Value).toArray 27) := by
  obtain ⟨hx, hb, hr, hml, hown0, htbl, hXs, hbl, hlk, hgv⟩ := id C0
  have hown : s.vm.findClass RL = some m.cls := hown0
  have hts := lw_hts htbl
  have S : CallFix p m c cL_law 27 s #[Value.ref b] lw_all RL := ⟨hx, hb, hml, hown, hts⟩
  have hA : ∀ q : Nat, s.heap.size ≤ q → (fun q : Nat => s.heap.size ≤ q) q := fun _ h => h
  have hbA : ¬ (fun q : Nat => s.heap.size ≤ q) b := Nat.not_le.mpr hbl
  have hN : nst s := ⟨va_Nw.of rfl (htbl _ (by decide +kernel)), va_Nw.of rfl (htbl _ (by decide +kernel)), va_Nw.of rfl (htbl _ (by decide +kernel))⟩
  have hN5 : hN5 s := va_Nw.of rfl (htbl _ (by decide +kernel))
  have hO : va_AOA .int s := va_AOA.to (htbl _ (by decide +kernel))
  obtain ⟨kX0, iX0, hX0⟩ := u_known (C := RX0) (T := TX0) (N := 14) (n := 14) hts inX0 (hts _ qa_X0)
  obtain ⟨kX1, iX1, hX1⟩ := u_known (C := RX1) (T := TX1) (N := 7) (n := 7) hts inX1 (hts _ qa_X1)
  obtain ⟨kX2, iX2, hX2⟩ := u_known (C := RX2) (T := TX2) (N := 5) (n := 5) hts inX2 (hts _ qa_X2)
  obtain ⟨kX3, iX3, hX3⟩ := u_known (C := RX3) (T := TX3) (N := 3) (n := 3) hts inX3 (hts _ qa_X3)
  obtain ⟨kX4, iX4, hX4⟩ := u_known (C := RX4) (T := TX4) (N := 5) (n := 5) hts inX4 (hts _ qa_X4)
  obtain ⟨kX5, iX5, hX5⟩ := u_known (C := RX5) (T := TX5) (N := 14) (n := 14) hts inX5 (hts _ qa_X5)
  obtain ⟨dC, dI, hKc⟩ : ∃ (dC : Nat → ClassId) (dI : Nat → Nat → Nat), ∀ (k : Nat) (q : vw_C), vwCl[k]? = some q → u_Kn s q.1 q.2.1 q.2.2 (dC k) (dI k) := by
    refine ⟨fun k => match k with | 0 => kX0 | 1 => kX1 | 2 => kX2 | 3 => kX3 | 4 => kX4 | _ => kX5, fun k => match k with | 0 => iX0 | 1 => iX1 | 2 => iX2 | 3 => iX3 | 4 => iX4 | _ => iX5, ?_⟩
    intro k q hq
    match k, hq with
    | 0, hq => cases hq; exact hX0
    | 1, hq => cases hq; exact hX1
    | 2, hq => cases hq; exact hX2
    | 3, hq => cases hq; exact hX3
    | 4, hq => cases hq; exact hX4
    | 5, hq => cases hq; exact hX5
    | k + 6, hq => simp [vwCl] at hq
  obtain ⟨cI, hI1, hI2⟩ := arr_known_int (hts _ qy_int)
  obtain ⟨cZ, hZ1, hZ2⟩ := arr_known_boolean (hts _ qy_boolean)
  obtain ⟨cJ, hJ1, hJ2⟩ := arr_known_rows hO
  have hK : va_K (dC, dI) vwCl (TYG cI cZ cJ) s := by
    refine ⟨hKc, fun k q hq => ?_⟩
    match k, hq with
    | 0, hq => cases hq; exact ⟨hI1, hI2⟩
    | 1, hq => cases hq; exact ⟨hZ1, hZ2⟩
    | 2, hq => cases hq; exact ⟨hJ1, hJ2⟩
    | k + 3, hq => simp at hq
  have hK2 : va_K (dC, dI) vwCl (TYS cI cZ) s := hK.sub [0, 1] rfl
  have hS : va_S (fun q : Nat => s.heap.size ≤ q) s.heap s.heap [] := va_S.rf
  have hP : va_P (dC, dI) vwCl [] s.heap := fun k q h => by simp at h
  have hD : va_D (fun q : Nat => s.heap.size ≤ q) [] := ⟨fun i j p q h => by simp at h, fun k q h => by simp at h⟩
  have hl := lv_entry ([.ref b]) (n := 27) (Nat.le_of_ble_eq_true rfl)
  rw [lg_entry_eq]
  generalize (lg_sl ([.ref b]) ++ List.replicate (27 - (lg_sl ([.ref b])).length) Slot.unset).toArray = ls at hl ⊢
  have hl : lv_has ls 27 [(0, .ref b)] := hl
  refine va_new (ci := 4) (fs := [.null, .null, .null, .null, .null]) (C := RX4) (T := TX4) (N := 5) hx hb hts inX4 tyX4 tyX4_ok hown (hts _ qk_L_26) (hts _ qa_X4) (hts _ qn_X4) hK hP hD hS hA rfl (fun j hj => by rcases (show j = 0 ∨ j = 1 ∨ j = 2 ∨ j = 3 ∨ j = 4 by omega) with rfl | rfl | rfl | rfl | rfl <;> rfl) (Nat.le_of_ble_eq_true rfl) (Nat.le_of_ble_eq_true rfl) dL_law_0 (fun n0 H hP hD hS => ?_)
  have hP : va_P (dC, dI) vwCl [(n0, .inr (4, [.null, .null, .null, .null, .null]))] H := hP
  have hD : va_D (fun q : Nat => s.heap.size ≤ q) [(n0, .inr (4, [.null, .null, .null, .null, .null]))] := hD
  refine lv_dup hx hb dL_law_3 rfl ?_
  refine cILv [] S hK2 hP hN hD hS hA (c_X4_init l dC dI cI cZ n0 _) qc_X4_init qn_X4 qm_L_102 qi_X4_init rfl hd_X4_init ⟨rfl, rfl⟩ ⟨Nat.le_of_ble_eq_true rfl, Nat.le_of_ble_eq_true rfl⟩ ⟨Nat.le_of_ble_eq_true rfl, Nat.le_of_ble_eq_true rfl⟩ rfl hl.1 (Nat.le_of_ble_eq_true rfl) rfl dL_law_4 (fun t H1 locs1 ht hB hk1 hS1 => ?_)
  obtain ⟨h0, h3, h4, h5, h6, c0, c8, c9, c10, c11, c12, c13, t0, t8, t9, t10, t11, t12, t13, i0, i1, i2, i3, i4, m0, m1, m2, hP1, hD1⟩ := hB
  rw [ht] at hP1
  obtain ⟨hP, hD⟩ := va_join (wr := []) (w1 := (wN cI cZ n0 h0 h3 h4 h5 h6 c0 c8 c9 c10 c11 c12 c13 t0 t8 t9 t10 t11 t12 t13 i0 i1 i2 i3 i4 m0 m1 m2 zX1 zX0 zX0 zX2 zX3)) hP hD [0] [] rfl rfl (by decide) (by decide) hk1 (va_Aof hD hS hA) hP1 hD1
  have hS := hS1
  clear hS1 hk1 hP1 hD1
  have hP : va_P (dC, dI) vwCl (wN cI cZ n0 h0 h3 h4 h5 h6 c0 c8 c9 c10 c11 c12 c13 t0 t8 t9 t10 t11 t12 t13 i0 i1 i2 i3 i4 m0 m1 m2 zX1 zX0 zX0 zX2 zX3) H1 := hP
  have hD : va_D (fun q : Nat => s.heap.size ≤ q) (wN cI cZ n0 h0 h3 h4 h5 h6 c0 c8 c9 c10 c11 c12 c13 t0 t8 t9 t10 t11 t12 t13 i0 i1 i2 i3 i4 m0 m1 m2 zX1 zX0 zX0 zX2 zX3) := hD
  refine lv_astore_n (lv' := [(1, .ref n0), (0, .ref b)]) hx hb dL_law_7 rfl hl (by decide) rfl (fun ls hl => ?_)
  refine lv_aload_n hx hb dL_law_8 rfl (lv_at hl 0 rfl) ?_
  refine lv_aload_n hx hb dL_law_9 rfl (lv_at hl 1 rfl) ?_
  refine cBuild S hK hO hXs hbl hbA hN5 hP hD hS hA (c_L_build l dC dI cI cZ cJ n0 h0 h3 h4 h5 h6 c0 c8 c9 c10 c11 c12 c13 t0 t8 t9 t10 t11 t12 t13 i0 i1 i2 i3 i4 m0 m1 m2 _ b L xv zX1 zX0 zX0 zX2 zX3 hpure1) (lw_S qm_L_103 qt_L_build qn_L qc_L_build) hd_L_build ⟨rfl, rfl⟩ ⟨Nat.le_of_ble_eq_true rfl, Nat.le_of_ble_eq_true rfl⟩ ⟨Nat.le_of_ble_eq_true rfl, Nat.le_of_ble_eq_true rfl⟩ rfl hl.1 (Nat.le_of_ble_eq_true rfl) rfl dL_law_10 (fun a9 g0 H locs hP hD hS => ?_)
  obtain ⟨g7, g8, g9, g10, g11, g12, G9, G10, G11, G12⟩ := a9
  have hP := zx_P hP
  have hD := zx_D hD
  refine lv_astore_n (lv' := [(2, .ref g0), (1, .ref n0), (0, .ref b)]) hx hb dL_law_13 rfl hl (by decide) rfl (fun ls hl => ?_)
  refine lv_aload_n hx hb dL_law_14 rfl (lv_at hl 0 rfl) ?_
  refine lv_ifnonnull (tgt := 20) hx hb dL_law_15 (by decide) ?_
  exact c_L_law l dC dI cI cZ cJ n0 h0 h3 h4 h5 h6 c0 c8 c9 c10 c11 c12 c13 t0 t8 t9 t10 t11 t12 t13 i0 i1 i2 i3 i4 m0 m1 m2 g0 g7 g8 g9 g10 g11 g12 G9 G10 G11 G12 S hK hO hA (fun _ h => h) hbA hXs hbl hr hlk z.1 z.2.1 zX0 z.2.2.1 z.2.2.2.1 z.2.2.2.2 hpure2 _ _ (by exact Nat.le_of_ble_eq_true rfl) (by exact Nat.le_of_ble_eq_true rfl) H locs hP hD hS ls (lv_sub hl [2, 1, 0] rfl)
