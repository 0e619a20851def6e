theorem cILv {p : Program} {l : Launch} {e : Env} {R : Room} {s : State} {m : MethodId} {args : Array Value} {below : List Frame} {meth : Method} {c : Code} {H H0 : Heap} {locs : List Loc} {cells slots : Nat} {Q : State → Prop} {cc bytes : ByteArray} {nL pc idx maxL n : Nat} {ls : Array Slot} {own : String} {y : MethodName} {rm : Room} {D : va_G} {cl : List vw_C} {tys : List (ClassId × FieldType)} {b : Addr} {rest st0 : List Value} {wc : va_W} {A : Nat → Prop} {B : Unit → State → Prop} {mc ms : Nat} (As : List Value) (S : CallFix p m c cc nL s args lw_all own) (hK : va_K D cl tys s) (hPc : va_P D cl wc H) (hN : nst s) (hDc : va_D A wc) (hS : va_S A H0 H locs) (hA : ∀ q, H0.size ≤ q → A q) (hM : Met l y (Cond.code y bytes maxL none :: lw_all) rm (prN D cl tys wc H.size (.ref b :: As)) (va_Qv (fun _ : Unit => True) B (va_A wc H.size)) mc ms (va_A wc H.size)) (hcode : Cond.code y bytes maxL none ∈ lw_all) (hini : Cond.initialized y.cls ∈ lw_all) (hlink : Cond.methodLink own idx y ∈ lw_all) (hinst : Cond.instanceMethod y ∈ lw_all) (hy1 : y.name = "<init>") (hd : y.cls ≠ "java/lang/invoke/MethodHandle" ∧ y.cls ≠ "java/lang/invoke/VarHandle" ∧ (parseMethodDescriptor y.desc).map (fun d => d.parameters.length) = some n) (hrm : rm.cells = mc ∧ rm.slots = ms) (hR : rm.frames + 1 ≤ R.frames ∧ 8 + (maxL + 11) + rm.locals ≤ R.locals) (hf : cells + mc ≤ R.cells ∧ slots + ms ≤ R.slots) (hn : As.length = n) (hsz : ls.size = nL) (hw : (rest.map fun v => v.category).sum ≤ 8) (hst : st0 = As.reverse ++ .ref b :: rest) (hdg : decode cc pc = .ok (.invokespecial idx, 3)) (kk : ∀ (t : State) (H1 : Heap) (locs1 : List Loc), t.heap = H1 → B () t → (∀ q : Nat, q < H.size → ¬ va_A wc H.size q → H1[q]? = H[q]?) → va_S A H0 H1 locs1 → W p l e R s m args below meth c H1 locs1 (cells + mc) (slots + ms) Q (F0 m (pc + 3) ls rest)) : W p l e R s m args below meth c H locs cells slots Q (F0 m pc ls st0) := by
  subst hst
  exact va_callv (va_runI (As := As) (rest := rest) S hM (cwI n S.2.2.2.2 (lw_gc hcode) rfl hrm.1 hrm.2 (S.2.2.2.2 _ hini) (S.2.2.2.2 _ hlink) (S.2.2.2.2 _ hinst) hy1 hd hR) ⟨prN_fb, prN_of hPc hK hDc hN⟩ rfl hn hsz rfl (lv_room hw) hdg hf) hS (fun q _ h => va_Aof hDc hS hA q h) (va_Aof hDc hS hA) (fun u t H1 locs1 ht hvm hw2 hB hz1 hk1 hS1 => kk t H1 locs1 ht hB hk1 hS1)
theorem arr_known_int {args : Array Value} {s : State} (h : (Cond.arrayClass .int).before args s = true) : ∃ cA : ClassId, ArrOfT s cA .int ∧ va_RA s cA .int := by
  obtain ⟨cA, kA, comp, h1, h2, h3⟩ := Cond.arrayClass_spec h
  exact ⟨cA, fun n z => ⟨fun k h => (by cases h), kA, h2, comp, h3⟩, h1⟩
theorem arr_known_boolean {args : Array Value} {s : State} (h : (Cond.arrayClass .boolean).before args s = true) : ∃ cA : ClassId, ArrOfT s cA .boolean ∧ va_RA s cA .boolean := by
  obtain ⟨cA, kA, comp, h1, h2, h3⟩ := Cond.arrayClass_spec h
  exact ⟨cA, fun n z => ⟨fun k h => (by cases h), kA, h2, comp, h3⟩, h1⟩
theorem arr_known_long {args : Array Value} {s : State} (h : (Cond.arrayClass .long).before args s = true) : ∃ cA : ClassId, ArrOfT s cA .long ∧ va_RA s cA .long := by
  obtain ⟨cA, kA, comp, h1, h2, h3⟩ := Cond.arrayClass_spec h
  exact ⟨cA, fun n z => ⟨fun k h => (by cases h), kA, h2, comp, h3⟩, h1⟩
theorem lw_hts {b : Addr} {s : State} (hts : ∀ w ∈ lw_tbl, w.before #[Value.ref b] s = true) : ∀ w ∈ lw_all, w.before #[Value.ref b] s = true := fun w h => hts w (lw_all_tbl w h)
theorem strs_known {b : Addr} {s : State} (hts : ∀ w ∈ lw_tbl, w.before #[Value.ref b] s = true) (hg : ∀ w ∈ flatC (Jvm.Cond.and given_1 narrow_1), w.before #[Value.ref b] s = true) : ∃ sa : Nat → Nat, vk_R RX4 44 "floors is not 2 to 12" (sa 0) s ∧ vk_R RX4 71 "topic is not 0 to 7, or thrill is not 0 to 9" (sa 1) s ∧ vk_R RX4 79 "the chapter has 9 paragraphs" (sa 2) s ∧ vk_R RX4 93 "limit is not 1 to 99" (sa 3) s ∧ vk_R RX4 98 "taste is not 0 to 7, or warm is not 1 to 20" (sa 4) s ∧ vk_R RX4 103 "there are 8 readers" (sa 5) s ∧ vk_R RX4 114 "likes or dislikes is not 0 to 7, or both are the same" (sa 6) s ∧ vk_R RX4 117 "there are 4 mirrors" (sa 7) s ∧ vk_R RX4 131 "hours is not 1 to 60" (sa 8) s ∧ vk_R RX4 374 "there is no such floor" (sa 9) s ∧ vk_R RX4 377 "there is no such paragraph" (sa 10) s ∧ vk_R RX4 379 "topic is not 0 to 7" (sa 11) s ∧ vk_R RX4 381 "there is no such instalment" (sa 12) s ∧ vk_R RX4 383 "there is no such reader" (sa 13) s ∧ vk_R RX4 385 "there is no such mirror" (sa 14) s ∧ vk_R RX4 387 "hours is not 1 to 40" (sa 15) s := by
  obtain ⟨a0, -, -, -, e0, -⟩ := Cond.exactly_spec (hg (.exactly (.string "LiftNovel" 44) "java/lang/String") (by decide +kernel))
  have r0 := hts (.stringRef "LiftNovel" 44 "floors is not 2 to 12") (by decide +kernel)
  obtain ⟨a1, -, -, -, e1, -⟩ := Cond.exactly_spec (hg (.exactly (.string "LiftNovel" 71) "java/lang/String") (by decide +kernel))
  have r1 := hts (.stringRef "LiftNovel" 71 "topic is not 0 to 7, or thrill is not 0 to 9") (by decide +kernel)
  obtain ⟨a2, -, -, -, e2, -⟩ := Cond.exactly_spec (hg (.exactly (.string "LiftNovel" 79) "java/lang/String") (by decide +kernel))
  have r2 := hts (.stringRef "LiftNovel" 79 "the chapter has 9 paragraphs") (by decide +kernel)
  obtain ⟨a3, -, -, -, e3, -⟩ := Cond.exactly_spec (hg (.exactly (.string "LiftNovel" 93) "java/lang/String") (by decide +kernel))
  have r3 := hts (.stringRef "LiftNovel" 93 "limit is not 1 to 99") (by decide +kernel)
  obtain ⟨a4, -, -, -, e4, -⟩ := Cond.exactly_spec (hg (.exactly (.string "LiftNovel" 98) "java/lang/String") (by decide +kernel))
  have r4 := hts (.stringRef "LiftNovel" 98 "taste is not 0 to 7, or warm is not 1 to 20") (by decide +kernel)
  obtain ⟨a5, -, -, -, e5, -⟩ := Cond.exactly_spec (hg (.exactly (.string "LiftNovel" 103) "java/lang/String") (by decide +kernel))
  have r5 := hts (.stringRef "LiftNovel" 103 "there are 8 readers") (by decide +kernel)
  obtain ⟨a6, -, -, -, e6, -⟩ := Cond.exactly_spec (hg (.exactly (.string "LiftNovel" 114) "java/lang/String") (by decide +kernel))
  have r6 := hts (.stringRef "LiftNovel" 114 "likes or dislikes is not 0 to 7, or both are the same") (by decide +kernel)
  obtain ⟨a7, -, -, -, e7, -⟩ := Cond.exactly_spec (hg (.exactly (.string "LiftNovel" 117) "java/lang/String") (by decide +kernel))
  have r7 := hts (.stringRef "LiftNovel" 117 "there are 4 mirrors") (by decide +kernel)
  obtain ⟨a8, -, -, -, e8, -⟩ := Cond.exactly_spec (hg (.exactly (.string "LiftNovel" 131) "java/lang/String") (by decide +kernel))
  have r8 := hts (.stringRef "LiftNovel" 131 "hours is not 1 to 60") (by decide +kernel)
  obtain ⟨a9, -, -, -, e9, -⟩ := Cond.exactly_spec (hg (.exactly (.string "LiftNovel" 374) "java/lang/String") (by decide +kernel))
  have r9 := hts (.stringRef "LiftNovel" 374 "there is no such floor") (by decide +kernel)
  obtain ⟨a10, -, -, -, e10, -⟩ := Cond.exactly_spec (hg (.exactly (.string "LiftNovel" 377) "java/lang/String") (by decide +kernel))
  have r10 := hts (.stringRef "LiftNovel" 377 "there is no such paragraph") (by decide +kernel)
  obtain ⟨a11, -, -, -, e11, -⟩ := Cond.exactly_spec (hg (.exactly (.string "LiftNovel" 379) "java/lang/String") (by decide +kernel))
  have r11 := hts (.stringRef "LiftNovel" 379 "topic is not 0 to 7") (by decide +kernel)
  obtain ⟨a12, -, -, -, e12, -⟩ := Cond.exactly_spec (hg (.exactly (.string "LiftNovel" 381) "java/lang/String") (by decide +kernel))
  have r12 := hts (.stringRef "LiftNovel" 381 "there is no such instalment") (by decide +kernel)
  obtain ⟨a13, -, -, -, e13, -⟩ := Cond.exactly_spec (hg (.exactly (.string "LiftNovel" 383) "java/lang/String") (by decide +kernel))
  have r13 := hts (.stringRef "LiftNovel" 383 "there is no such reader") (by decide +kernel)
  obtain ⟨a14, -, -, -, e14, -⟩ := Cond.exactly_spec (hg (.exactly (.string "LiftNovel" 385) "java/lang/String") (by decide +kernel))
  have r14 := hts (.stringRef "LiftNovel" 385 "there is no such mirror") (by decide +kernel)
  obtain ⟨a15, -, -, -, e15, -⟩ := Cond.exactly_spec (hg (.exactly (.string "LiftNovel" 387) "java/lang/String") (by decide +kernel))
  have r15 := hts (.stringRef "LiftNovel" 387 "hours is not 1 to 40") (by decide +kernel)
  refine ⟨fun k => match k with | 0 => a0 | 1 => a1 | 2 => a2 | 3 => a3 | 4 => a4 | 5 => a5 | 6 => a6 | 7 => a7 | 8 => a8 | 9 => a9 | 10 => a10 | 11 => a11 | 12 => a12 | 13 => a13 | 14 => a14 | _ => a15, vk_R.of r0 e0, vk_R.of r1 e1, vk_R.of r2 e2, vk_R.of r3 e3, vk_R.of r4 e4, vk_R.of r5 e5, vk_R.of r6 e6, vk_R.of r7 e7, vk_R.of r8 e8, vk_R.of r9 e9, vk_R.of r10 e10, vk_R.of r11 e11, vk_R.of r12 e12, vk_R.of r13 e13, vk_R.of r14 e14, vk_R.of r15 e15⟩
set_option maxHeartbeats 4000000 in
set_option maxRecDepth 100000 in
theorem whole_from {p : Program} {e : Env} {s : State} {m : MethodId} {below : List Frame} {meth : Method} {c : Code} (l : Launch) (hflags : l.flags = flags0) {b L : Nat} {xs : Nat → Int32} (hpure : p_L_loop xs L 513 0 zX5 zX1 zX0 zX0 zX2 zX3 (fun _ => 0) = some ()) (C0 : lw_At p s m meth c b L xs) : W p l e room_1 s m #[Value.ref b] below meth c s.heap [] 0 0 (lw_Z below #[Value.ref b] s) (entryFrame m ([Value.ref b] : List Value).toArray 9) := by
  obtain ⟨hx, hb, hr, hml, hown0, htbl, hXs, hbl, hlk, hgv⟩ := id C0
  have hown : s.vm.findClass RL = some m.cls := hown0
  have hlt : l.stackTraces = false := by
    show (!l.flags.contains noTraceFlag) = false
    rw [hflags]
    decide +kernel
  have hts := lw_hts htbl
  have hg : ∀ w ∈ flatC (Jvm.Cond.and given_1 narrow_1), w.before #[Value.ref b] s = true := flat_of_before _ hgv
  have S : CallFix p m c cL_law 9 s #[Value.ref b] lw_all RL := ⟨hx, hb, hml, hown, hts⟩
  have hA : ∀ q : Nat, s.heap.size ≤ q → (fun q : Nat => s.heap.size ≤ q) q := fun _ h => h
  obtain ⟨sa, hstr⟩ := strs_known htbl hg
  have hX : xb (fun q : Nat => s.heap.size ≤ q) sa s := ⟨vx_Zqof (htbl _ (by decide +kernel)) (htbl _ (by decide +kernel)) (hg _ (by decide +kernel)) (fun _ h => Nat.not_le.mpr h), vx_Zqof (htbl _ (by decide +kernel)) (htbl _ (by decide +kernel)) (hg _ (by decide +kernel)) (fun _ h => Nat.not_le.mpr h), va_Nw.of rfl (htbl _ (by decide +kernel)), va_Nw.of rfl (htbl _ (by decide +kernel)), va_Nw.of rfl (htbl _ (by decide +kernel)), va_Nw.of rfl (htbl _ (by decide +kernel)), va_Nw.of rfl (htbl _ (by decide +kernel)), va_Nw.of rfl (htbl _ (by decide +kernel)), hstr⟩
  have hxn : xn s := ⟨va_Nc.of (hg (.not (.castable xIAE xIOB)) (by decide +kernel)), va_Nc.of (hg (.not (.castable xISE xIOB)) (by decide +kernel)), va_Nc.of (hg (.not (.castable xISE xIAE)) (by decide +kernel))⟩
  have hN : nst s := ⟨va_Nw.of rfl (htbl _ (by decide +kernel)), va_Nw.of rfl (htbl _ (by decide +kernel)), va_Nw.of rfl (htbl _ (by decide +kernel))⟩
  obtain ⟨kX0, iX0, hX0⟩ := u_known (C := RX0) (T := TX0) (N := 14) (n := 14) hts inX0 (hts _ qa_X0)
  obtain ⟨kX1, iX1, hX1⟩ := u_known (C := RX1) (T := TX1) (N := 7) (n := 7) hts inX1 (hts _ qa_X1)
  obtain ⟨kX2, iX2, hX2⟩ := u_known (C := RX2) (T := TX2) (N := 5) (n := 5) hts inX2 (hts _ qa_X2)
  obtain ⟨kX3, iX3, hX3⟩ := u_known (C := RX3) (T := TX3) (N := 3) (n := 3) hts inX3 (hts _ qa_X3)
  obtain ⟨kX4, iX4, hX4⟩ := u_known (C := RX4) (T := TX4) (N := 5) (n := 5) hts inX4 (hts _ qa_X4)
  obtain ⟨kX5, iX5, hX5⟩ := u_known (C := RX5) (T := TX5) (N := 18) (n := 18) hts inX5 (hts _ qa_X5)
  obtain ⟨dC, dI, hKc⟩ : ∃ (dC : Nat → ClassId) (dI : Nat → Nat → Nat), ∀ (k : Nat) (q : vw_C), vwCl[k]? = some q → u_Kn s q.1 q.2.1 q.2.2 (dC k) (dI k) := by
    refine ⟨fun k => match k with | 0 => kX0 | 1 => kX1 | 2 => kX2 | 3 => kX3 | 4 => kX4 | _ => kX5, fun k => match k with | 0 => iX0 | 1 => iX1 | 2 => iX2 | 3 => iX3 | 4 => iX4 | _ => iX5, ?_⟩
    intro k q hq
    match k, hq with
    | 0, hq => cases hq; exact hX0
    | 1, hq => cases hq; exact hX1
    | 2, hq => cases hq; exact hX2
    | 3, hq => cases hq; exact hX3
    | 4, hq => cases hq; exact hX4
    | 5, hq => cases hq; exact hX5
    | k + 6, hq => simp [vwCl] at hq
  obtain ⟨cI, hI1, hI2⟩ := arr_known_int (hts _ qy_int)
  obtain ⟨cZ, hZ1, hZ2⟩ := arr_known_boolean (hts _ qy_boolean)
  obtain ⟨cJ, hJ1, hJ2⟩ := arr_known_long (hts _ qy_long)
  have hK : va_K (dC, dI) vwCl (TYJ cI cZ cJ) s := by
    refine ⟨hKc, fun k q hq => ?_⟩
    match k, hq with
    | 0, hq => cases hq; exact ⟨hI1, hI2⟩
    | 1, hq => cases hq; exact ⟨hZ1, hZ2⟩
    | 2, hq => cases hq; exact ⟨hJ1, hJ2⟩
    | k + 3, hq => simp at hq
  have hK2 : va_K (dC, dI) vwCl (TYS cI cZ) s := hK.sub [0, 1] rfl
  have hS : va_S (fun q : Nat => s.heap.size ≤ q) s.heap s.heap [] := va_S.rf
  have hP : va_P (dC, dI) vwCl [] s.heap := fun k q h => by simp at h
  have hD : va_D (fun q : Nat => s.heap.size ≤ q) [] := ⟨fun i j p q h => by simp at h, fun k q h => by simp at h⟩
  have hl := lv_entry ([.ref b]) (n := 9) (Nat.le_of_ble_eq_true rfl)
  rw [lg_entry_eq]
  generalize (lg_sl ([.ref b]) ++ List.replicate (9 - (lg_sl ([.ref b])).length) Slot.unset).toArray = ls at hl ⊢
  have hl : lv_has ls 9 [(0, .ref b)] := hl
  refine va_new (ci := 4) (fs := [.null, .null, .null, .null, .null]) (C := RX4) (T := TX4) (N := 5) hx hb hts inX4 tyX4 tyX4_ok hown (hts _ qk_L_8) (hts _ qa_X4) (hts _ qn_X4) hK hP hD hS hA rfl (fun j hj => by rcases (show j = 0 ∨ j = 1 ∨ j = 2 ∨ j = 3 ∨ j = 4 by omega) with rfl | rfl | rfl | rfl | rfl <;> rfl) (Nat.le_of_ble_eq_true rfl) (Nat.le_of_ble_eq_true rfl) dL_law_0 (fun n0 H hP hD hS => ?_)
  have hP : va_P (dC, dI) vwCl [(n0, .inr (4, [.null, .null, .null, .null, .null]))] H := hP
  have hD : va_D (fun q : Nat => s.heap.size ≤ q) [(n0, .inr (4, [.null, .null, .null, .null, .null]))] := hD
  refine lv_dup hx hb dL_law_3 rfl ?_
  refine cILv [] S hK2 hP hN hD hS hA (c_X4_init l dC dI cI cZ n0 _) qc_X4_init qn_X4 qm_L_112 qi_X4_init rfl hd_X4_init ⟨rfl, rfl⟩ ⟨Nat.le_of_ble_eq_true rfl, Nat.le_of_ble_eq_true rfl⟩ ⟨Nat.le_of_ble_eq_true rfl, Nat.le_of_ble_eq_true rfl⟩ rfl hl.1 (Nat.le_of_ble_eq_true rfl) rfl dL_law_4 (fun t H1 locs1 ht hB hk1 hS1 => ?_)
  obtain ⟨h0, h3, h4, h5, h6, c0, c8, c9, c10, c11, c12, c13, t0, t8, t9, t10, t11, t12, t13, i0, i1, i2, i3, i4, m0, m1, m2, hP1, hD1⟩ := hB
  rw [ht] at hP1
  obtain ⟨hP, hD⟩ := va_join (wr := []) (w1 := (wN cI cZ n0 h0 h3 h4 h5 h6 c0 c8 c9 c10 c11 c12 c13 t0 t8 t9 t10 t11 t12 t13 i0 i1 i2 i3 i4 m0 m1 m2 zX1 zX0 zX0 zX2 zX3)) hP hD [0] [] rfl rfl (by decide) (by decide) hk1 (va_Aof hD hS hA) hP1 hD1
  have hS := hS1
  clear hS1 hk1 hP1 hD1
  have hP : va_P (dC, dI) vwCl (wN cI cZ n0 h0 h3 h4 h5 h6 c0 c8 c9 c10 c11 c12 c13 t0 t8 t9 t10 t11 t12 t13 i0 i1 i2 i3 i4 m0 m1 m2 zX1 zX0 zX0 zX2 zX3) H1 := hP
  have hD : va_D (fun q : Nat => s.heap.size ≤ q) (wN cI cZ n0 h0 h3 h4 h5 h6 c0 c8 c9 c10 c11 c12 c13 t0 t8 t9 t10 t11 t12 t13 i0 i1 i2 i3 i4 m0 m1 m2 zX1 zX0 zX0 zX2 zX3) := hD
  refine lv_astore_n (lv' := [(1, .ref n0), (0, .ref b)]) hx hb dL_law_7 rfl hl (by decide) rfl (fun ls hl => ?_)
  refine va_new (ci := 5) (fs := [.int (0 : Int32), .int (0 : Int32), .int (0 : Int32), .int (0 : Int32), .null, .null, .null, .int (0 : Int32), .null, .int (0 : Int32), .null, .null, .null, .null, .null, .null, .null, .int (0 : Int32)]) (C := RX5) (T := TX5) (N := 18) hx hb hts inX5 tyX5 tyX5_ok hown (hts _ qk_L_113) (hts _ qa_X5) (hts _ qn_X5) hK hP hD hS hA rfl (fun j hj => by rcases (show j = 0 ∨ j = 1 ∨ j = 2 ∨ j = 3 ∨ j = 4 ∨ j = 5 ∨ j = 6 ∨ j = 7 ∨ j = 8 ∨ j = 9 ∨ j = 10 ∨ j = 11 ∨ j = 12 ∨ j = 13 ∨ j = 14 ∨ j = 15 ∨ j = 16 ∨ j = 17 by omega) with rfl | rfl | rfl | rfl | rfl | rfl | rfl | rfl | rfl | rfl | rfl | rfl | rfl | rfl | rfl | rfl | rfl | rfl <;> rfl) (Nat.le_of_ble_eq_true rfl) (Nat.le_of_ble_eq_true rfl) dL_law_8 (fun l0 H hP hD hS => ?_)
  have hP : va_P (dC, dI) vwCl ((wN cI cZ n0 h0 h3 h4 h5 h6 c0 c8 c9 c10 c11 c12 c13 t0 t8 t9 t10 t11 t12 t13 i0 i1 i2 i3 i4 m0 m1 m2 zX1 zX0 zX0 zX2 zX3) ++ [(l0, .inr (5, [.int (0 : Int32), .int (0 : Int32), .int (0 : Int32), .int (0 : Int32), .null, .null, .null, .int (0 : Int32), .null, .int (0 : Int32), .null, .null, .null, .null, .null, .null, .null, .int (0 : Int32)]))]) H := hP
  have hD : va_D (fun q : Nat => s.heap.size ≤ q) ((wN cI cZ n0 h0 h3 h4 h5 h6 c0 c8 c9 c10 c11 c12 c13 t0 t8 t9 t10 t11 t12 t13 i0 i1 i2 i3 i4 m0 m1 m2 zX1 zX0 zX0 zX2 zX3) ++ [(l0, .inr (5, [.int (0 : Int32), .int (0 : Int32), .int (0 : Int32), .int (0 : Int32), .null, .null, .null, .int (0 : Int32), .null, .int (0 : Int32), .null, .null, .null, .null, .null, .null, .null, .int (0 : Int32)]))]) := hD
  refine lv_dup hx hb dL_law_11 rfl ?_
  refine cIv [] S hK2 (va_Psuf hP) (va_Dsuf hD) hS hA (c_X5_init l dC dI cI cZ l0 _) qc_X5_init qn_X5 qm_L_115 qi_X5_init rfl hd_X5_init ⟨rfl, rfl⟩ ⟨Nat.le_of_ble_eq_true rfl, Nat.le_of_ble_eq_true rfl⟩ ⟨Nat.le_of_ble_eq_true rfl, Nat.le_of_ble_eq_true rfl⟩ rfl hl.1 (Nat.le_of_ble_eq_true rfl) rfl dL_law_12 (fun t H1 locs1 ht hB hk1 hS1 => ?_)
  obtain ⟨l4, l5, l6, l8, l10, l11, l12, l13, l14, l15, l16, hP1, hD1⟩ := hB
  rw [ht] at hP1
  obtain ⟨hP, hD⟩ := va_join (wr := (wN cI cZ n0 h0 h3 h4 h5 h6 c0 c8 c9 c10 c11 c12 c13 t0 t8 t9 t10 t11 t12 t13 i0 i1 i2 i3 i4 m0 m1 m2 zX1 zX0 zX0 zX2 zX3)) (w1 := (wX5 cI cZ l0 l4 l5 l6 l8 l10 l11 l12 l13 l14 l15 l16 zX5)) hP hD [28] [0, 1, 2, 3, 4, 5, 6, 7, 8, 9, 10, 11, 12, 13, 14, 15, 16, 17, 18, 19, 20, 21, 22, 23, 24, 25, 26, 27] rfl rfl (by decide) (by decide) hk1 (va_Aof (va_Dsuf hD) hS hA) hP1 hD1
  have hS := hS1
  clear hS1 hk1 hP1 hD1
  have hP : va_P (dC, dI) vwCl ((wN cI cZ n0 h0 h3 h4 h5 h6 c0 c8 c9 c10 c11 c12 c13 t0 t8 t9 t10 t11 t12 t13 i0 i1 i2 i3 i4 m0 m1 m2 zX1 zX0 zX0 zX2 zX3) ++ (wX5 cI cZ l0 l4 l5 l6 l8 l10 l11 l12 l13 l14 l15 l16 zX5)) H1 := hP
  have hD : va_D (fun q : Nat => s.heap.size ≤ q) ((wN cI cZ n0 h0 h3 h4 h5 h6 c0 c8 c9 c10 c11 c12 c13 t0 t8 t9 t10 t11 t12 t13 i0 i1 i2 i3 i4 m0 m1 m2 zX1 zX0 zX0 zX2 zX3) ++ (wX5 cI cZ l0 l4 l5 l6 l8 l10 l11 l12 l13 l14 l15 l16 zX5)) := hD
  refine lv_astore_n (lv' := [(2, .ref l0), (1, .ref n0), (0, .ref b)]) hx hb dL_law_15 rfl hl (by decide) rfl (fun ls hl => ?_)
  refine lv_iconst (v := 1) hx hb dL_law_16 (by decide) ?_
  refine va_newaJ (n := 1) hx hb (hts _ qy_long) hK 2 rfl hP hD hS hA (by decide) (by decide) (by decide) (Nat.le_of_ble_eq_true rfl) (Nat.le_of_ble_eq_true rfl) dL_law_17 (fun o0 H hP hD hS => ?_)
  have hP := hP.sub (ws' := (wX5 cI cZ l0 l4 l5 l6 l8 l10 l11 l12 l13 l14 l15 l16 zX5) ++ ((wN cI cZ n0 h0 h3 h4 h5 h6 c0 c8 c9 c10 c11 c12 c13 t0 t8 t9 t10 t11 t12 t13 i0 i1 i2 i3 i4 m0 m1 m2 zX1 zX0 zX0 zX2 zX3) ++ [(o0, .inl (cJ, 1, .inr (.inl (fun _ => 0))))])) [28, 29, 30, 31, 32, 33, 34, 35, 36, 37, 38, 39, 0, 1, 2, 3, 4, 5, 6, 7, 8, 9, 10, 11, 12, 13, 14, 15, 16, 17, 18, 19, 20, 21, 22, 23, 24, 25, 26, 27, 40] rfl
  have hD := hD.sub (ws' := (wX5 cI cZ l0 l4 l5 l6 l8 l10 l11 l12 l13 l14 l15 l16 zX5) ++ ((wN cI cZ n0 h0 h3 h4 h5 h6 c0 c8 c9 c10 c11 c12 c13 t0 t8 t9 t10 t11 t12 t13 i0 i1 i2 i3 i4 m0 m1 m2 zX1 zX0 zX0 zX2 zX3) ++ [(o0, .inl (cJ, 1, .inr (.inl (fun _ => 0))))])) [28, 29, 30, 31, 32, 33, 34, 35, 36, 37, 38, 39, 0, 1, 2, 3, 4, 5, 6, 7, 8, 9, 10, 11, 12, 13, 14, 15, 16, 17, 18, 19, 20, 21, 22, 23, 24, 25, 26, 27, 40] (by decide) rfl
  refine lv_astore_n (lv' := [(3, .ref o0), (2, .ref l0), (1, .ref n0), (0, .ref b)]) hx hb dL_law_19 rfl hl (by decide) rfl (fun ls hl => ?_)
  refine lv_iconst (v := 0) hx hb dL_law_20 (by decide) ?_
  refine lv_istore (lv' := [(4, .int 0), (3, .ref o0), (2, .ref l0), (1, .ref n0), (0, .ref b)]) hx hb dL_law_21 hl (by decide) rfl (fun ls hl => ?_)
  exact c_L_loop l hlt dC dI cI cZ cJ sa l0 l4 l5 l6 l8 l10 l11 l12 l13 l14 l15 l16 n0 h0 h3 h4 h5 h6 c0 c8 c9 c10 c11 c12 c13 t0 t8 t9 t10 t11 t12 t13 i0 i1 i2 i3 i4 m0 m1 m2 o0 S hK hX hxn hXs hbl hr hlk 513 0 zX5 zX1 zX0 zX0 zX2 zX3 (fun _ => 0) hpure _ _ (by exact Nat.le_of_ble_eq_true rfl) (by exact Nat.le_of_ble_eq_true rfl) H _ hP hD hS ls (lv_sub hl [4, 3, 2, 1, 0] rfl)
