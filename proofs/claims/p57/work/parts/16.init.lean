abbrev zX1 : tX1 := ((6 : Int32), (20 : Int32), (0 : Int32), (fun _ => (0 : Int32)), (fun _ => (0 : Int32)), (fun _ => (0 : Int32)), (fun _ => (0 : Int32)))
theorem hd_X1_init : yX1_init.cls ≠ "java/lang/invoke/MethodHandle" ∧ yX1_init.cls ≠ "java/lang/invoke/VarHandle" ∧ (parseMethodDescriptor yX1_init.desc).map (fun d => d.parameters.length) = some 0 := by decide +kernel
set_option maxHeartbeats 4000000 in
set_option maxRecDepth 100000 in
theorem c_X1_init (l : Launch) (dC : Nat → ClassId) (dI : Nat → Nat → Nat) (cI cZ : ClassId) (h0 : Nat) (sz : Nat) : Met l yX1_init (Cond.code yX1_init cX1_init 1 none :: lw_all) { frames := 1, cells := 4, slots := 236, locals := 30 } (prW (dC, dI) vwCl (TYS cI cZ) [(h0, .inr (1, [.int (0 : Int32), .int (0 : Int32), .int (0 : Int32), .null, .null, .null, .null]))] sz [.ref h0]) (va_Qv (fun _ : Unit => True) (fun (_ : Unit) t => ∃ h3 h4 h5 h6 : Nat, va_P (dC, dI) vwCl (wX1 cI cZ h0 h3 h4 h5 h6 zX1) t.heap ∧ va_D (va_A [(h0, .inr (1, [.int (0 : Int32), .int (0 : Int32), .int (0 : Int32), .null, .null, .null, .null]))] sz) (wX1 cI cZ h0 h3 h4 h5 h6 zX1)) (va_A [(h0, .inr (1, [.int (0 : Int32), .int (0 : Int32), .int (0 : Int32), .null, .null, .null, .null]))] sz)) 4 236 (va_A [(h0, .inr (1, [.int (0 : Int32), .int (0 : Int32), .int (0 : Int32), .null, .null, .null, .null]))] sz) := by
  refine oM (by decide) (Nat.le_of_ble_eq_true rfl) ?_
  intro p e s m args below meth c S hr hlk hnm hB ls hl
  have hx := S.1
  have hb := S.2.1
  have hml := S.2.2.1
  have hown : s.vm.findClass RX1 = some m.cls := S.2.2.2.1
  have hts := S.2.2.2.2
  have hin : meth.name = "<init>" := hnm
  have hl : lv_has ls 1 [(0, .ref h0)] := hl
  obtain ⟨hsz, hP, hK, hD0⟩ := hB
  subst hsz
  have hD := hD0.self (sz := s.heap.size)
  generalize hAe : va_A [(h0, .inr (1, [.int (0 : Int32), .int (0 : Int32), .int (0 : Int32), .null, .null, .null, .null]))] s.heap.size = A at hD ⊢
  have hA : ∀ q : Nat, s.heap.size ≤ q → A q := fun q h => by rw [← hAe]; exact Or.inr h
  have hS : va_S A s.heap s.heap [] := va_S.rf
  have hP : va_P (dC, dI) vwCl [(h0, .inr (1, [.int (0 : Int32), .int (0 : Int32), .int (0 : Int32), .null, .null, .null, .null]))] s.heap := hP
  refine lv_aload_n hx hb dX1_init_0 rfl (lv_at hl 0 rfl) ?_
  refine W.objInit hx hb hown (hts _ qm_X1_3) (hts _ qi_objectInit) (hts _ qc_objectInit) rfl (by rw [hml]; exact hl.1) rfl dX1_init_1 (Nat.le_of_ble_eq_true rfl) (Nat.le_of_ble_eq_true rfl) ?_
  refine W.eq (g2 := F0 m 4 ls []) rfl ?_
  refine lv_aload_n hx hb dX1_init_4 rfl (lv_at hl 0 rfl) ?_
  refine lv_bipush (v := (6 : Int32)) hx hb dX1_init_5 (by decide) ?_
  refine va_put (D := (dC, dI)) (ci := 1) (v := .int (6 : Int32)) (ty := .int) (C := RX1) (T := TX1) (N := 7) hx hb hts inX1 tyX1 tyX1_ok nmX1 hown hK hP hD hS 0 rfl rfl 0 (by decide) (hts _ qf_X1_9) (fun _ h9 => h9) rfl (tyX1_ok 0 (by decide)) rfl rfl (Nat.le_of_ble_eq_true rfl) dX1_init_7 (fun H locs hP hD hS => ?_)
  have hP : va_P (dC, dI) vwCl [(h0, .inr (1, [.int (6 : Int32), .int (0 : Int32), .int (0 : Int32), .null, .null, .null, .null]))] H := hP
  have hD : va_D A [(h0, .inr (1, [.int (6 : Int32), .int (0 : Int32), .int (0 : Int32), .null, .null, .null, .null]))] := hD
  refine lv_aload_n hx hb dX1_init_10 rfl (lv_at hl 0 rfl) ?_
  refine lv_bipush (v := (20 : Int32)) hx hb dX1_init_11 (by decide) ?_
  refine va_put (D := (dC, dI)) (ci := 1) (v := .int (20 : Int32)) (ty := .int) (C := RX1) (T := TX1) (N := 7) hx hb hts inX1 tyX1 tyX1_ok nmX1 hown hK hP hD hS 0 rfl rfl 1 (by decide) (hts _ qf_X1_15) (fun _ h9 => h9) rfl (tyX1_ok 1 (by decide)) rfl rfl (Nat.le_of_ble_eq_true rfl) dX1_init_13 (fun H locs hP hD hS => ?_)
  have hP : va_P (dC, dI) vwCl [(h0, .inr (1, [.int (6 : Int32), .int (20 : Int32), .int (0 : Int32), .null, .null, .null, .null]))] H := hP
  have hD : va_D A [(h0, .inr (1, [.int (6 : Int32), .int (20 : Int32), .int (0 : Int32), .null, .null, .null, .null]))] := hD
  refine lv_aload_n hx hb dX1_init_16 rfl (lv_at hl 0 rfl) ?_
  refine lv_iconst (v := (0 : Int32)) hx hb dX1_init_17 (by decide) ?_
  refine va_put (D := (dC, dI)) (ci := 1) (v := .int (0 : Int32)) (ty := .int) (C := RX1) (T := TX1) (N := 7) hx hb hts inX1 tyX1 tyX1_ok nmX1 hown hK hP hD hS 0 rfl rfl 2 (by decide) (hts _ qf_X1_18) (fun _ h9 => h9) rfl (tyX1_ok 2 (by decide)) rfl rfl (Nat.le_of_ble_eq_true rfl) dX1_init_18 (fun H locs hP hD hS => ?_)
  have hP : va_P (dC, dI) vwCl [(h0, .inr (1, [.int (6 : Int32), .int (20 : Int32), .int (0 : Int32), .null, .null, .null, .null]))] H := hP
  have hD : va_D A [(h0, .inr (1, [.int (6 : Int32), .int (20 : Int32), .int (0 : Int32), .null, .null, .null, .null]))] := hD
  refine lv_aload_n hx hb dX1_init_21 rfl (lv_at hl 0 rfl) ?_
  refine lv_bipush (v := (12 : Int32)) hx hb dX1_init_22 (by decide) ?_
  refine va_newaI (n := 12) hx hb (hts _ qy_int) hK 0 rfl hP hD hS hA (by decide) (by decide) (by decide) (Nat.le_of_ble_eq_true rfl) (Nat.le_of_ble_eq_true rfl) dX1_init_24 (fun q1 H hP hD hS => ?_)
  have hP : va_P (dC, dI) vwCl [(h0, .inr (1, [.int (6 : Int32), .int (20 : Int32), .int (0 : Int32), .null, .null, .null, .null])), (q1, .inl (cI, 12, .inl (fun _ => (0 : Int32))))] H := hP
  have hD : va_D A [(h0, .inr (1, [.int (6 : Int32), .int (20 : Int32), .int (0 : Int32), .null, .null, .null, .null])), (q1, .inl (cI, 12, .inl (fun _ => (0 : Int32))))] := hD
  refine va_putF (D := (dC, dI)) (ci := 1) (v := .ref q1) (ty := .array .int) (C := RX1) (T := TX1) (N := 7) hx hb hts inX1 tyX1 tyX1_ok nmX1 hown hK hP hD hS 0 rfl rfl 3 (by decide) (hts _ qf_X1_21) (fun _ h9 => h9) rfl hin rfl (tyX1_ok 3 (by decide)) rfl rfl (Nat.le_of_ble_eq_true rfl) dX1_init_26 (fun H locs hP hD hS => ?_)
  have hP : va_P (dC, dI) vwCl [(h0, .inr (1, [.int (6 : Int32), .int (20 : Int32), .int (0 : Int32), .ref q1, .null, .null, .null])), (q1, .inl (cI, 12, .inl (fun _ => (0 : Int32))))] H := hP
  have hD : va_D A [(h0, .inr (1, [.int (6 : Int32), .int (20 : Int32), .int (0 : Int32), .ref q1, .null, .null, .null])), (q1, .inl (cI, 12, .inl (fun _ => (0 : Int32))))] := hD
  refine lv_aload_n hx hb dX1_init_29 rfl (lv_at hl 0 rfl) ?_
  refine lv_bipush (v := (108 : Int32)) hx hb dX1_init_30 (by decide) ?_
  refine va_newaI (n := 108) hx hb (hts _ qy_int) hK 0 rfl hP hD hS hA (by decide) (by decide) (by decide) (Nat.le_of_ble_eq_true rfl) (Nat.le_of_ble_eq_true rfl) dX1_init_32 (fun q2 H hP hD hS => ?_)
  have hP : va_P (dC, dI) vwCl [(h0, .inr (1, [.int (6 : Int32), .int (20 : Int32), .int (0 : Int32), .ref q1, .null, .null, .null])), (q1, .inl (cI, 12, .inl (fun _ => (0 : Int32)))), (q2, .inl (cI, 108, .inl (fun _ => (0 : Int32))))] H := hP
  have hD : va_D A [(h0, .inr (1, [.int (6 : Int32), .int (20 : Int32), .int (0 : Int32), .ref q1, .null, .null, .null])), (q1, .inl (cI, 12, .inl (fun _ => (0 : Int32)))), (q2, .inl (cI, 108, .inl (fun _ => (0 : Int32))))] := hD
  refine va_putF (D := (dC, dI)) (ci := 1) (v := .ref q2) (ty := .array .int) (C := RX1) (T := TX1) (N := 7) hx hb hts inX1 tyX1 tyX1_ok nmX1 hown hK hP hD hS 0 rfl rfl 4 (by decide) (hts _ qf_X1_25) (fun _ h9 => h9) rfl hin rfl (tyX1_ok 4 (by decide)) rfl rfl (Nat.le_of_ble_eq_true rfl) dX1_init_34 (fun H locs hP hD hS => ?_)
  have hP : va_P (dC, dI) vwCl [(h0, .inr (1, [.int (6 : Int32), .int (20 : Int32), .int (0 : Int32), .ref q1, .ref q2, .null, .null])), (q1, .inl (cI, 12, .inl (fun _ => (0 : Int32)))), (q2, .inl (cI, 108, .inl (fun _ => (0 : Int32))))] H := hP
  have hD : va_D A [(h0, .inr (1, [.int (6 : Int32), .int (20 : Int32), .int (0 : Int32), .ref q1, .ref q2, .null, .null])), (q1, .inl (cI, 12, .inl (fun _ => (0 : Int32)))), (q2, .inl (cI, 108, .inl (fun _ => (0 : Int32))))] := hD
  refine lv_aload_n hx hb dX1_init_37 rfl (lv_at hl 0 rfl) ?_
  refine lv_bipush (v := (108 : Int32)) hx hb dX1_init_38 (by decide) ?_
  refine va_newaI (n := 108) hx hb (hts _ qy_int) hK 0 rfl hP hD hS hA (by decide) (by decide) (by decide) (Nat.le_of_ble_eq_true rfl) (Nat.le_of_ble_eq_true rfl) dX1_init_40 (fun q3 H hP hD hS => ?_)
  have hP : va_P (dC, dI) vwCl [(h0, .inr (1, [.int (6 : Int32), .int (20 : Int32), .int (0 : Int32), .ref q1, .ref q2, .null, .null])), (q1, .inl (cI, 12, .inl (fun _ => (0 : Int32)))), (q2, .inl (cI, 108, .inl (fun _ => (0 : Int32)))), (q3, .inl (cI, 108, .inl (fun _ => (0 : Int32))))] H := hP
  have hD : va_D A [(h0, .inr (1, [.int (6 : Int32), .int (20 : Int32), .int (0 : Int32), .ref q1, .ref q2, .null, .null])), (q1, .inl (cI, 12, .inl (fun _ => (0 : Int32)))), (q2, .inl (cI, 108, .inl (fun _ => (0 : Int32)))), (q3, .inl (cI, 108, .inl (fun _ => (0 : Int32))))] := hD
  refine va_putF (D := (dC, dI)) (ci := 1) (v := .ref q3) (ty := .array .int) (C := RX1) (T := TX1) (N := 7) hx hb hts inX1 tyX1 tyX1_ok nmX1 hown hK hP hD hS 0 rfl rfl 5 (by decide) (hts _ qf_X1_28) (fun _ h9 => h9) rfl hin rfl (tyX1_ok 5 (by decide)) rfl rfl (Nat.le_of_ble_eq_true rfl) dX1_init_42 (fun H locs hP hD hS => ?_)
  have hP : va_P (dC, dI) vwCl [(h0, .inr (1, [.int (6 : Int32), .int (20 : Int32), .int (0 : Int32), .ref q1, .ref q2, .ref q3, .null])), (q1, .inl (cI, 12, .inl (fun _ => (0 : Int32)))), (q2, .inl (cI, 108, .inl (fun _ => (0 : Int32)))), (q3, .inl (cI, 108, .inl (fun _ => (0 : Int32))))] H := hP
  have hD : va_D A [(h0, .inr (1, [.int (6 : Int32), .int (20 : Int32), .int (0 : Int32), .ref q1, .ref q2, .ref q3, .null])), (q1, .inl (cI, 12, .inl (fun _ => (0 : Int32)))), (q2, .inl (cI, 108, .inl (fun _ => (0 : Int32)))), (q3, .inl (cI, 108, .inl (fun _ => (0 : Int32))))] := hD
  refine lv_aload_n hx hb dX1_init_45 rfl (lv_at hl 0 rfl) ?_
  refine lv_bipush (v := (8 : Int32)) hx hb dX1_init_46 (by decide) ?_
  refine va_newaI (n := 8) hx hb (hts _ qy_int) hK 0 rfl hP hD hS hA (by decide) (by decide) (by decide) (Nat.le_of_ble_eq_true rfl) (Nat.le_of_ble_eq_true rfl) dX1_init_48 (fun q4 H hP hD hS => ?_)
  have hP : va_P (dC, dI) vwCl [(h0, .inr (1, [.int (6 : Int32), .int (20 : Int32), .int (0 : Int32), .ref q1, .ref q2, .ref q3, .null])), (q1, .inl (cI, 12, .inl (fun _ => (0 : Int32)))), (q2, .inl (cI, 108, .inl (fun _ => (0 : Int32)))), (q3, .inl (cI, 108, .inl (fun _ => (0 : Int32)))), (q4, .inl (cI, 8, .inl (fun _ => (0 : Int32))))] H := hP
  have hD : va_D A [(h0, .inr (1, [.int (6 : Int32), .int (20 : Int32), .int (0 : Int32), .ref q1, .ref q2, .ref q3, .null])), (q1, .inl (cI, 12, .inl (fun _ => (0 : Int32)))), (q2, .inl (cI, 108, .inl (fun _ => (0 : Int32)))), (q3, .inl (cI, 108, .inl (fun _ => (0 : Int32)))), (q4, .inl (cI, 8, .inl (fun _ => (0 : Int32))))] := hD
  refine va_putF (D := (dC, dI)) (ci := 1) (v := .ref q4) (ty := .array .int) (C := RX1) (T := TX1) (N := 7) hx hb hts inX1 tyX1 tyX1_ok nmX1 hown hK hP hD hS 0 rfl rfl 6 (by decide) (hts _ qf_X1_31) (fun _ h9 => h9) rfl hin rfl (tyX1_ok 6 (by decide)) rfl rfl (Nat.le_of_ble_eq_true rfl) dX1_init_50 (fun H locs hP hD hS => ?_)
  have hP : va_P (dC, dI) vwCl [(h0, .inr (1, [.int (6 : Int32), .int (20 : Int32), .int (0 : Int32), .ref q1, .ref q2, .ref q3, .ref q4])), (q1, .inl (cI, 12, .inl (fun _ => (0 : Int32)))), (q2, .inl (cI, 108, .inl (fun _ => (0 : Int32)))), (q3, .inl (cI, 108, .inl (fun _ => (0 : Int32)))), (q4, .inl (cI, 8, .inl (fun _ => (0 : Int32))))] H := hP
  have hD : va_D A [(h0, .inr (1, [.int (6 : Int32), .int (20 : Int32), .int (0 : Int32), .ref q1, .ref q2, .ref q3, .ref q4])), (q1, .inl (cI, 12, .inl (fun _ => (0 : Int32)))), (q2, .inl (cI, 108, .inl (fun _ => (0 : Int32)))), (q3, .inl (cI, 108, .inl (fun _ => (0 : Int32)))), (q4, .inl (cI, 8, .inl (fun _ => (0 : Int32))))] := hD
  refine W.widen (k := 4) (n := 236) (Nat.le_of_ble_eq_true rfl) (Nat.le_of_ble_eq_true rfl) ?_
  exact W.vret hx hb hr (fun t ht _ => ⟨⟨(), rfl, trivial, q1, q2, q3, q4, by show va_P _ _ _ _; rw [ht]; exact hP, hD⟩, hS.F ht⟩) hS.2.2 dX1_init_53 hlk
abbrev zX0 : tX0 := ((0 : Int32), (0 : Int32), (0 : Int32), (0 : Int32), (0 : Int32), (0 : Int32), (0 : Int32), (fun _ => (0 : Int32)), (fun _ => (0 : Int32)), (fun _ => (0 : Int32)), (fun _ => (0 : Int32)), (fun _ => (0 : Int32)), (fun _ => (0 : Int32)))
theorem hd_X0_init : yX0_init.cls ≠ "java/lang/invoke/MethodHandle" ∧ yX0_init.cls ≠ "java/lang/invoke/VarHandle" ∧ (parseMethodDescriptor yX0_init.desc).map (fun d => d.parameters.length) = some 1 := by decide +kernel
set_option maxHeartbeats 4000000 in
set_option maxRecDepth 100000 in
theorem c_X0_init (l : Launch) (dC : Nat → ClassId) (dI : Nat → Nat → Nat) (cI cZ : ClassId) (c0 h0 : Nat) (sz : Nat) : Met l yX0_init (Cond.code yX0_init cX0_init 2 none :: lw_all) { frames := 1, cells := 6, slots := 60, locals := 30 } (prW (dC, dI) vwCl (TYS cI cZ) [(c0, .inr (0, [.null, .int (0 : Int32), .int (0 : Int32), .int (0 : Int32), .int (0 : Int32), .int (0 : Int32), .int (0 : Int32), .int (0 : Int32), .null, .null, .null, .null, .null, .null]))] sz [.ref c0, .ref h0]) (va_Qv (fun _ : Unit => True) (fun (_ : Unit) t => ∃ c8 c9 c10 c11 c12 c13 : Nat, va_P (dC, dI) vwCl (wX0 cI cZ c0 c8 c9 c10 c11 c12 c13 h0 zX0) t.heap ∧ va_D (va_A [(c0, .inr (0, [.null, .int (0 : Int32), .int (0 : Int32), .int (0 : Int32), .int (0 : Int32), .int (0 : Int32), .int (0 : Int32), .int (0 : Int32), .null, .null, .null, .null, .null, .null]))] sz) (wX0 cI cZ c0 c8 c9 c10 c11 c12 c13 h0 zX0)) (va_A [(c0, .inr (0, [.null, .int (0 : Int32), .int (0 : Int32), .int (0 : Int32), .int (0 : Int32), .int (0 : Int32), .int (0 : Int32), .int (0 : Int32), .null, .null, .null, .null, .null, .null]))] sz)) 6 60 (va_A [(c0, .inr (0, [.null, .int (0 : Int32), .int (0 : Int32), .int (0 : Int32), .int (0 : Int32), .int (0 : Int32), .int (0 : Int32), .int (0 : Int32), .null, .null, .null, .null, .null, .null]))] sz) := by
  refine oM (by decide) (Nat.le_of_ble_eq_true rfl) ?_
  intro p e s m args below meth c S hr hlk hnm hB ls hl
  have hx := S.1
  have hb := S.2.1
  have hml := S.2.2.1
  have hown : s.vm.findClass RX0 = some m.cls := S.2.2.2.1
  have hts := S.2.2.2.2
  have hin : meth.name = "<init>" := hnm
  have hl : lv_has ls 2 [(0, .ref c0), (1, .ref h0)] := hl
  obtain ⟨hsz, hP, hK, hD0⟩ := hB
  subst hsz
  have hD := hD0.self (sz := s.heap.size)
  generalize hAe : va_A [(c0, .inr (0, [.null, .int (0 : Int32), .int (0 : Int32), .int (0 : Int32), .int (0 : Int32), .int (0 : Int32), .int (0 : Int32), .int (0 : Int32), .null, .null, .null, .null, .null, .null]))] s.heap.size = A at hD ⊢
  have hA : ∀ q : Nat, s.heap.size ≤ q → A q := fun q h => by rw [← hAe]; exact Or.inr h
  have hS : va_S A s.heap s.heap [] := va_S.rf
  have hP : va_P (dC, dI) vwCl [(c0, .inr (0, [.null, .int (0 : Int32), .int (0 : Int32), .int (0 : Int32), .int (0 : Int32), .int (0 : Int32), .int (0 : Int32), .int (0 : Int32), .null, .null, .null, .null, .null, .null]))] s.heap := hP
  refine lv_aload_n hx hb dX0_init_0 rfl (lv_at hl 0 rfl) ?_
  refine W.objInit hx hb hown (hts _ qm_X0_3) (hts _ qi_objectInit) (hts _ qc_objectInit) rfl (by rw [hml]; exact hl.1) rfl dX0_init_1 (Nat.le_of_ble_eq_true rfl) (Nat.le_of_ble_eq_true rfl) ?_
  refine W.eq (g2 := F0 m 4 ls []) rfl ?_
  refine lv_aload_n hx hb dX0_init_4 rfl (lv_at hl 0 rfl) ?_
  refine lv_iconst (v := (0 : Int32)) hx hb dX0_init_5 (by decide) ?_
  refine va_put (D := (dC, dI)) (ci := 0) (v := .int (0 : Int32)) (ty := .int) (C := RX0) (T := TX0) (N := 14) hx hb hts inX0 tyX0 tyX0_ok nmX0 hown hK hP hD hS 0 rfl rfl 1 (by decide) (hts _ qf_X0_9) (fun _ h9 => h9) rfl (tyX0_ok 1 (by decide)) rfl rfl (Nat.le_of_ble_eq_true rfl) dX0_init_6 (fun H locs hP hD hS => ?_)
  have hP : va_P (dC, dI) vwCl [(c0, .inr (0, [.null, .int (0 : Int32), .int (0 : Int32), .int (0 : Int32), .int (0 : Int32), .int (0 : Int32), .int (0 : Int32), .int (0 : Int32), .null, .null, .null, .null, .null, .null]))] H := hP
  have hD : va_D A [(c0, .inr (0, [.null, .int (0 : Int32), .int (0 : Int32), .int (0 : Int32), .int (0 : Int32), .int (0 : Int32), .int (0 : Int32), .int (0 : Int32), .null, .null, .null, .null, .null, .null]))] := hD
  refine lv_aload_n hx hb dX0_init_9 rfl (lv_at hl 0 rfl) ?_
  refine lv_iconst (v := (0 : Int32)) hx hb dX0_init_10 (by decide) ?_
  refine va_put (D := (dC, dI)) (ci := 0) (v := .int (0 : Int32)) (ty := .int) (C := RX0) (T := TX0) (N := 14) hx hb hts inX0 tyX0 tyX0_ok nmX0 hown hK hP hD hS 0 rfl rfl 2 (by decide) (hts _ qf_X0_15) (fun _ h9 => h9) rfl (tyX0_ok 2 (by decide)) rfl rfl (Nat.le_of_ble_eq_true rfl) dX0_init_11 (fun H locs hP hD hS => ?_)
  have hP : va_P (dC, dI) vwCl [(c0, .inr (0, [.null, .int (0 : Int32), .int (0 : Int32), .int (0 : Int32), .int (0 : Int32), .int (0 : Int32), .int (0 : Int32), .int (0 : Int32), .null, .null, .null, .null, .null, .null]))] H := hP
  have hD : va_D A [(c0, .inr (0, [.null, .int (0 : Int32), .int (0 : Int32), .int (0 : Int32), .int (0 : Int32), .int (0 : Int32), .int (0 : Int32), .int (0 : Int32), .null, .null, .null, .null, .null, .null]))] := hD
  refine lv_aload_n hx hb dX0_init_14 rfl (lv_at hl 0 rfl) ?_
  refine lv_iconst (v := (0 : Int32)) hx hb dX0_init_15 (by decide) ?_
  refine va_put (D := (dC, dI)) (ci := 0) (v := .int (0 : Int32)) (ty := .int) (C := RX0) (T := TX0) (N := 14) hx hb hts inX0 tyX0 tyX0_ok nmX0 hown hK hP hD hS 0 rfl rfl 3 (by decide) (hts _ qf_X0_18) (fun _ h9 => h9) rfl (tyX0_ok 3 (by decide)) rfl rfl (Nat.le_of_ble_eq_true rfl) dX0_init_16 (fun H locs hP hD hS => ?_)
  have hP : va_P (dC, dI) vwCl [(c0, .inr (0, [.null, .int (0 : Int32), .int (0 : Int32), .int (0 : Int32), .int (0 : Int32), .int (0 : Int32), .int (0 : Int32), .int (0 : Int32), .null, .null, .null, .null, .null, .null]))] H := hP
  have hD : va_D A [(c0, .inr (0, [.null, .int (0 : Int32), .int (0 : Int32), .int (0 : Int32), .int (0 : Int32), .int (0 : Int32), .int (0 : Int32), .int (0 : Int32), .null, .null, .null, .null, .null, .null]))] := hD
  refine lv_aload_n hx hb dX0_init_19 rfl (lv_at hl 0 rfl) ?_
  refine lv_iconst (v := (0 : Int32)) hx hb dX0_init_20 (by decide) ?_
  refine va_put (D := (dC, dI)) (ci := 0) (v := .int (0 : Int32)) (ty := .int) (C := RX0) (T := TX0) (N := 14) hx hb hts inX0 tyX0 tyX0_ok nmX0 hown hK hP hD hS 0 rfl rfl 4 (by decide) (hts _ qf_X0_21) (fun _ h9 => h9) rfl (tyX0_ok 4 (by decide)) rfl rfl (Nat.le_of_ble_eq_true rfl) dX0_init_21 (fun H locs hP hD hS => ?_)
  have hP : va_P (dC, dI) vwCl [(c0, .inr (0, [.null, .int (0 : Int32), .int (0 : Int32), .int (0 : Int32), .int (0 : Int32), .int (0 : Int32), .int (0 : Int32), .int (0 : Int32), .null, .null, .null, .null, .null, .null]))] H := hP
  have hD : va_D A [(c0, .inr (0, [.null, .int (0 : Int32), .int (0 : Int32), .int (0 : Int32), .int (0 : Int32), .int (0 : Int32), .int (0 : Int32), .int (0 : Int32), .null, .null, .null, .null, .null, .null]))] := hD
  refine lv_aload_n hx hb dX0_init_24 rfl (lv_at hl 0 rfl) ?_
  refine lv_iconst (v := (0 : Int32)) hx hb dX0_init_25 (by decide) ?_
  refine va_put (D := (dC, dI)) (ci := 0) (v := .int (0 : Int32)) (ty := .int) (C := RX0) (T := TX0) (N := 14) hx hb hts inX0 tyX0 tyX0_ok nmX0 hown hK hP hD hS 0 rfl rfl 5 (by decide) (hts _ qf_X0_24) (fun _ h9 => h9) rfl (tyX0_ok 5 (by decide)) rfl rfl (Nat.le_of_ble_eq_true rfl) dX0_init_26 (fun H locs hP hD hS => ?_)
  have hP : va_P (dC, dI) vwCl [(c0, .inr (0, [.null, .int (0 : Int32), .int (0 : Int32), .int (0 : Int32), .int (0 : Int32), .int (0 : Int32), .int (0 : Int32), .int (0 : Int32), .null, .null, .null, .null, .null, .null]))] H := hP
  have hD : va_D A [(c0, .inr (0, [.null, .int (0 : Int32), .int (0 : Int32), .int (0 : Int32), .int (0 : Int32), .int (0 : Int32), .int (0 : Int32), .int (0 : Int32), .null, .null, .null, .null, .null, .null]))] := hD
  refine lv_aload_n hx hb dX0_init_29 rfl (lv_at hl 0 rfl) ?_
  refine lv_iconst (v := (0 : Int32)) hx hb dX0_init_30 (by decide) ?_
  refine va_put (D := (dC, dI)) (ci := 0) (v := .int (0 : Int32)) (ty := .int) (C := RX0) (T := TX0) (N := 14) hx hb hts inX0 tyX0 tyX0_ok nmX0 hown hK hP hD hS 0 rfl rfl 6 (by decide) (hts _ qf_X0_27) (fun _ h9 => h9) rfl (tyX0_ok 6 (by decide)) rfl rfl (Nat.le_of_ble_eq_true rfl) dX0_init_31 (fun H locs hP hD hS => ?_)
  have hP : va_P (dC, dI) vwCl [(c0, .inr (0, [.null, .int (0 : Int32), .int (0 : Int32), .int (0 : Int32), .int (0 : Int32), .int (0 : Int32), .int (0 : Int32), .int (0 : Int32), .null, .null, .null, .null, .null, .null]))] H := hP
  have hD : va_D A [(c0, .inr (0, [.null, .int (0 : Int32), .int (0 : Int32), .int (0 : Int32), .int (0 : Int32), .int (0 : Int32), .int (0 : Int32), .int (0 : Int32), .null, .null, .null, .null, .null, .null]))] := hD
  refine lv_aload_n hx hb dX0_init_34 rfl (lv_at hl 0 rfl) ?_
  refine lv_iconst (v := (0 : Int32)) hx hb dX0_init_35 (by decide) ?_
  refine va_put (D := (dC, dI)) (ci := 0) (v := .int (0 : Int32)) (ty := .int) (C := RX0) (T := TX0) (N := 14) hx hb hts inX0 tyX0 tyX0_ok nmX0 hown hK hP hD hS 0 rfl rfl 7 (by decide) (hts _ qf_X0_30) (fun _ h9 => h9) rfl (tyX0_ok 7 (by decide)) rfl rfl (Nat.le_of_ble_eq_true rfl) dX0_init_36 (fun H locs hP hD hS => ?_)
  have hP : va_P (dC, dI) vwCl [(c0, .inr (0, [.null, .int (0 : Int32), .int (0 : Int32), .int (0 : Int32), .int (0 : Int32), .int (0 : Int32), .int (0 : Int32), .int (0 : Int32), .null, .null, .null, .null, .null, .null]))] H := hP
  have hD : va_D A [(c0, .inr (0, [.null, .int (0 : Int32), .int (0 : Int32), .int (0 : Int32), .int (0 : Int32), .int (0 : Int32), .int (0 : Int32), .int (0 : Int32), .null, .null, .null, .null, .null, .null]))] := hD
  refine lv_aload_n hx hb dX0_init_39 rfl (lv_at hl 0 rfl) ?_
  refine lv_bipush (v := (12 : Int32)) hx hb dX0_init_40 (by decide) ?_
  refine va_newaZ (n := 12) hx hb (hts _ qy_boolean) hK 1 rfl hP hD hS hA (by decide) (by decide) (by decide) (Nat.le_of_ble_eq_true rfl) (Nat.le_of_ble_eq_true rfl) dX0_init_42 (fun q1 H hP hD hS => ?_)
  have hP : va_P (dC, dI) vwCl [(c0, .inr (0, [.null, .int (0 : Int32), .int (0 : Int32), .int (0 : Int32), .int (0 : Int32), .int (0 : Int32), .int (0 : Int32), .int (0 : Int32), .null, .null, .null, .null, .null, .null])), (q1, .inl (cZ, 12, .inl (fun _ => (0 : Int32))))] H := hP
  have hD : va_D A [(c0, .inr (0, [.null, .int (0 : Int32), .int (0 : Int32), .int (0 : Int32), .int (0 : Int32), .int (0 : Int32), .int (0 : Int32), .int (0 : Int32), .null, .null, .null, .null, .null, .null])), (q1, .inl (cZ, 12, .inl (fun _ => (0 : Int32))))] := hD
  refine va_putF (D := (dC, dI)) (ci := 0) (v := .ref q1) (ty := .array .boolean) (C := RX0) (T := TX0) (N := 14) hx hb hts inX0 tyX0 tyX0_ok nmX0 hown hK hP hD hS 0 rfl rfl 8 (by decide) (hts _ qf_X0_33) (fun _ h9 => h9) rfl hin rfl (tyX0_ok 8 (by decide)) rfl rfl (Nat.le_of_ble_eq_true rfl) dX0_init_44 (fun H locs hP hD hS => ?_)
  have hP : va_P (dC, dI) vwCl [(c0, .inr (0, [.null, .int (0 : Int32), .int (0 : Int32), .int (0 : Int32), .int (0 : Int32), .int (0 : Int32), .int (0 : Int32), .int (0 : Int32), .ref q1, .null, .null, .null, .null, .null])), (q1, .inl (cZ, 12, .inl (fun _ => (0 : Int32))))] H := hP
  have hD : va_D A [(c0, .inr (0, [.null, .int (0 : Int32), .int (0 : Int32), .int (0 : Int32), .int (0 : Int32), .int (0 : Int32), .int (0 : Int32), .int (0 : Int32), .ref q1, .null, .null, .null, .null, .null])), (q1, .inl (cZ, 12, .inl (fun _ => (0 : Int32))))] := hD
  refine lv_aload_n hx hb dX0_init_47 rfl (lv_at hl 0 rfl) ?_
  refine lv_bipush (v := (12 : Int32)) hx hb dX0_init_48 (by decide) ?_
  refine va_newaI (n := 12) hx hb (hts _ qy_int) hK 0 rfl hP hD hS hA (by decide) (by decide) (by decide) (Nat.le_of_ble_eq_true rfl) (Nat.le_of_ble_eq_true rfl) dX0_init_50 (fun q2 H hP hD hS => ?_)
  have hP : va_P (dC, dI) vwCl [(c0, .inr (0, [.null, .int (0 : Int32), .int (0 : Int32), .int (0 : Int32), .int (0 : Int32), .int (0 : Int32), .int (0 : Int32), .int (0 : Int32), .ref q1, .null, .null, .null, .null, .null])), (q1, .inl (cZ, 12, .inl (fun _ => (0 : Int32)))), (q2, .inl (cI, 12, .inl (fun _ => (0 : Int32))))] H := hP
  have hD : va_D A [(c0, .inr (0, [.null, .int (0 : Int32), .int (0 : Int32), .int (0 : Int32), .int (0 : Int32), .int (0 : Int32), .int (0 : Int32), .int (0 : Int32), .ref q1, .null, .null, .null, .null, .null])), (q1, .inl (cZ, 12, .inl (fun _ => (0 : Int32)))), (q2, .inl (cI, 12, .inl (fun _ => (0 : Int32))))] := hD
  refine va_putF (D := (dC, dI)) (ci := 0) (v := .ref q2) (ty := .array .int) (C := RX0) (T := TX0) (N := 14) hx hb hts inX0 tyX0 tyX0_ok nmX0 hown hK hP hD hS 0 rfl rfl 9 (by decide) (hts _ qf_X0_37) (fun _ h9 => h9) rfl hin rfl (tyX0_ok 9 (by decide)) rfl rfl (Nat.le_of_ble_eq_true rfl) dX0_init_52 (fun H locs hP hD hS => ?_)
  have hP : va_P (dC, dI) vwCl [(c0, .inr (0, [.null, .int (0 : Int32), .int (0 : Int32), .int (0 : Int32), .int (0 : Int32), .int (0 : Int32), .int (0 : Int32), .int (0 : Int32), .ref q1, .ref q2, .null, .null, .null, .null])), (q1, .inl (cZ, 12, .inl (fun _ => (0 : Int32)))), (q2, .inl (cI, 12, .inl (fun _ => (0 : Int32))))] H := hP
  have hD : va_D A [(c0, .inr (0, [.null, .int (0 : Int32), .int (0 : Int32), .int (0 : Int32), .int (0 : Int32), .int (0 : Int32), .int (0 : Int32), .int (0 : Int32), .ref q1, .ref q2, .null, .null, .null, .null])), (q1, .inl (cZ, 12, .inl (fun _ => (0 : Int32)))), (q2, .inl (cI, 12, .inl (fun _ => (0 : Int32))))] := hD
  refine lv_aload_n hx hb dX0_init_55 rfl (lv_at hl 0 rfl) ?_
  refine lv_bipush (v := (12 : Int32)) hx hb dX0_init_56 (by decide) ?_
  refine va_newaI (n := 12) hx hb (hts _ qy_int) hK 0 rfl hP hD hS hA (by decide) (by decide) (by decide) (Nat.le_of_ble_eq_true rfl) (Nat.le_of_ble_eq_true rfl) dX0_init_58 (fun q3 H hP hD hS => ?_)
  have hP : va_P (dC, dI) vwCl [(c0, .inr (0, [.null, .int (0 : Int32), .int (0 : Int32), .int (0 : Int32), .int (0 : Int32), .int (0 : Int32), .int (0 : Int32), .int (0 : Int32), .ref q1, .ref q2, .null, .null, .null, .null])), (q1, .inl (cZ, 12, .inl (fun _ => (0 : Int32)))), (q2, .inl (cI, 12, .inl (fun _ => (0 : Int32)))), (q3, .inl (cI, 12, .inl (fun _ => (0 : Int32))))] H := hP
  have hD : va_D A [(c0, .inr (0, [.null, .int (0 : Int32), .int (0 : Int32), .int (0 : Int32), .int (0 : Int32), .int (0 : Int32), .int (0 : Int32), .int (0 : Int32), .ref q1, .ref q2, .null, .null, .null, .null])), (q1, .inl (cZ, 12, .inl (fun _ => (0 : Int32)))), (q2, .inl (cI, 12, .inl (fun _ => (0 : Int32)))), (q3, .inl (cI, 12, .inl (fun _ => (0 : Int32))))] := hD
  refine va_putF (D := (dC, dI)) (ci := 0) (v := .ref q3) (ty := .array .int) (C := RX0) (T := TX0) (N := 14) hx hb hts inX0 tyX0 tyX0_ok nmX0 hown hK hP hD hS 0 rfl rfl 10 (by decide) (hts _ qf_X0_41) (fun _ h9 => h9) rfl hin rfl (tyX0_ok 10 (by decide)) rfl rfl (Nat.le_of_ble_eq_true rfl) dX0_init_60 (fun H locs hP hD hS => ?_)
  have hP : va_P (dC, dI) vwCl [(c0, .inr (0, [.null, .int (0 : Int32), .int (0 : Int32), .int (0 : Int32), .int (0 : Int32), .int (0 : Int32), .int (0 : Int32), .int (0 : Int32), .ref q1, .ref q2, .ref q3, .null, .null, .null])), (q1, .inl (cZ, 12, .inl (fun _ => (0 : Int32)))), (q2, .inl (cI, 12, .inl (fun _ => (0 : Int32)))), (q3, .inl (cI, 12, .inl (fun _ => (0 : Int32))))] H := hP
  have hD : va_D A [(c0, .inr (0, [.null, .int (0 : Int32), .int (0 : Int32), .int (0 : Int32), .int (0 : Int32), .int (0 : Int32), .int (0 : Int32), .int (0 : Int32), .ref q1, .ref q2, .ref q3, .null, .null, .null])), (q1, .inl (cZ, 12, .inl (fun _ => (0 : Int32)))), (q2, .inl (cI, 12, .inl (fun _ => (0 : Int32)))), (q3, .inl (cI, 12, .inl (fun _ => (0 : Int32))))] := hD
  refine lv_aload_n hx hb dX0_init_63 rfl (lv_at hl 0 rfl) ?_
  refine lv_bipush (v := (8 : Int32)) hx hb dX0_init_64 (by decide) ?_
  refine va_newaZ (n := 8) hx hb (hts _ qy_boolean) hK 1 rfl hP hD hS hA (by decide) (by decide) (by decide) (Nat.le_of_ble_eq_true rfl) (Nat.le_of_ble_eq_true rfl) dX0_init_66 (fun q4 H hP hD hS => ?_)
  have hP : va_P (dC, dI) vwCl [(c0, .inr (0, [.null, .int (0 : Int32), .int (0 : Int32), .int (0 : Int32), .int (0 : Int32), .int (0 : Int32), .int (0 : Int32), .int (0 : Int32), .ref q1, .ref q2, .ref q3, .null, .null, .null])), (q1, .inl (cZ, 12, .inl (fun _ => (0 : Int32)))), (q2, .inl (cI, 12, .inl (fun _ => (0 : Int32)))), (q3, .inl (cI, 12, .inl (fun _ => (0 : Int32)))), (q4, .inl (cZ, 8, .inl (fun _ => (0 : Int32))))] H := hP
  have hD : va_D A [(c0, .inr (0, [.null, .int (0 : Int32), .int (0 : Int32), .int (0 : Int32), .int (0 : Int32), .int (0 : Int32), .int (0 : Int32), .int (0 : Int32), .ref q1, .ref q2, .ref q3, .null, .null, .null])), (q1, .inl (cZ, 12, .inl (fun _ => (0 : Int32)))), (q2, .inl (cI, 12, .inl (fun _ => (0 : Int32)))), (q3, .inl (cI, 12, .inl (fun _ => (0 : Int32)))), (q4, .inl (cZ, 8, .inl (fun _ => (0 : Int32))))] := hD
  refine va_putF (D := (dC, dI)) (ci := 0) (v := .ref q4) (ty := .array .boolean) (C := RX0) (T := TX0) (N := 14) hx hb hts inX0 tyX0 tyX0_ok nmX0 hown hK hP hD hS 0 rfl rfl 11 (by decide) (hts _ qf_X0_44) (fun _ h9 => h9) rfl hin rfl (tyX0_ok 11 (by decide)) rfl rfl (Nat.le_of_ble_eq_true rfl) dX0_init_68 (fun H locs hP hD hS => ?_)
  have hP : va_P (dC, dI) vwCl [(c0, .inr (0, [.null, .int (0 : Int32), .int (0 : Int32), .int (0 : Int32), .int (0 : Int32), .int (0 : Int32), .int (0 : Int32), .int (0 : Int32), .ref q1, .ref q2, .ref q3, .ref q4, .null, .null])), (q1, .inl (cZ, 12, .inl (fun _ => (0 : Int32)))), (q2, .inl (cI, 12, .inl (fun _ => (0 : Int32)))), (q3, .inl (cI, 12, .inl (fun _ => (0 : Int32)))), (q4, .inl (cZ, 8, .inl (fun _ => (0 : Int32))))] H := hP
  have hD : va_D A [(c0, .inr (0, [.null, .int (0 : Int32), .int (0 : Int32), .int (0 : Int32), .int (0 : Int32), .int (0 : Int32), .int (0 : Int32), .int (0 : Int32), .ref q1, .ref q2, .ref q3, .ref q4, .null, .null])), (q1, .inl (cZ, 12, .inl (fun _ => (0 : Int32)))), (q2, .inl (cI, 12, .inl (fun _ => (0 : Int32)))), (q3, .inl (cI, 12, .inl (fun _ => (0 : Int32)))), (q4, .inl (cZ, 8, .inl (fun _ => (0 : Int32))))] := hD
  refine lv_aload_n hx hb dX0_init_71 rfl (lv_at hl 0 rfl) ?_
  refine lv_bipush (v := (8 : Int32)) hx hb dX0_init_72 (by decide) ?_
  refine va_newaI (n := 8) hx hb (hts _ qy_int) hK 0 rfl hP hD hS hA (by decide) (by decide) (by decide) (Nat.le_of_ble_eq_true rfl) (Nat.le_of_ble_eq_true rfl) dX0_init_74 (fun q5 H hP hD hS => ?_)
  have hP : va_P (dC, dI) vwCl [(c0, .inr (0, [.null, .int (0 : Int32), .int (0 : Int32), .int (0 : Int32), .int (0 : Int32), .int (0 : Int32), .int (0 : Int32), .int (0 : Int32), .ref q1, .ref q2, .ref q3, .ref q4, .null, .null])), (q1, .inl (cZ, 12, .inl (fun _ => (0 : Int32)))), (q2, .inl (cI, 12, .inl (fun _ => (0 : Int32)))), (q3, .inl (cI, 12, .inl (fun _ => (0 : Int32)))), (q4, .inl (cZ, 8, .inl (fun _ => (0 : Int32)))), (q5, .inl (cI, 8, .inl (fun _ => (0 : Int32))))] H := hP
  have hD : va_D A [(c0, .inr (0, [.null, .int (0 : Int32), .int (0 : Int32), .int (0 : Int32), .int (0 : Int32), .int (0 : Int32), .int (0 : Int32), .int (0 : Int32), .ref q1, .ref q2, .ref q3, .ref q4, .null, .null])), (q1, .inl (cZ, 12, .inl (fun _ => (0 : Int32)))), (q2, .inl (cI, 12, .inl (fun _ => (0 : Int32)))), (q3, .inl (cI, 12, .inl (fun _ => (0 : Int32)))), (q4, .inl (cZ, 8, .inl (fun _ => (0 : Int32)))), (q5, .inl (cI, 8, .inl (fun _ => (0 : Int32))))] := hD
  refine va_putF (D := (dC, dI)) (ci := 0) (v := .ref q5) (ty := .array .int) (C := RX0) (T := TX0) (N := 14) hx hb hts inX0 tyX0 tyX0_ok nmX0 hown hK hP hD hS 0 rfl rfl 12 (by decide) (hts _ qf_X0_47) (fun _ h9 => h9) rfl hin rfl (tyX0_ok 12 (by decide)) rfl rfl (Nat.le_of_ble_eq_true rfl) dX0_init_76 (fun H locs hP hD hS => ?_)
  have hP : va_P (dC, dI) vwCl [(c0, .inr (0, [.null, .int (0 : Int32), .int (0 : Int32), .int (0 : Int32), .int (0 : Int32), .int (0 : Int32), .int (0 : Int32), .int (0 : Int32), .ref q1, .ref q2, .ref q3, .ref q4, .ref q5, .null])), (q1, .inl (cZ, 12, .inl (fun _ => (0 : Int32)))), (q2, .inl (cI, 12, .inl (fun _ => (0 : Int32)))), (q3, .inl (cI, 12, .inl (fun _ => (0 : Int32)))), (q4, .inl (cZ, 8, .inl (fun _ => (0 : Int32)))), (q5, .inl (cI, 8, .inl (fun _ => (0 : Int32))))] H := hP
  have hD : va_D A [(c0, .inr (0, [.null, .int (0 : Int32), .int (0 : Int32), .int (0 : Int32), .int (0 : Int32), .int (0 : Int32), .int (0 : Int32), .int (0 : Int32), .ref q1, .ref q2, .ref q3, .ref q4, .ref q5, .null])), (q1, .inl (cZ, 12, .inl (fun _ => (0 : Int32)))), (q2, .inl (cI, 12, .inl (fun _ => (0 : Int32)))), (q3, .inl (cI, 12, .inl (fun _ => (0 : Int32)))), (q4, .inl (cZ, 8, .inl (fun _ => (0 : Int32)))), (q5, .inl (cI, 8, .inl (fun _ => (0 : Int32))))] := hD
  refine lv_aload_n hx hb dX0_init_79 rfl (lv_at hl 0 rfl) ?_
  refine lv_bipush (v := (8 : Int32)) hx hb dX0_init_80 (by decide) ?_
  refine va_newaZ (n := 8) hx hb (hts _ qy_boolean) hK 1 rfl hP hD hS hA (by decide) (by decide) (by decide) (Nat.le_of_ble_eq_true rfl) (Nat.le_of_ble_eq_true rfl) dX0_init_82 (fun q6 H hP hD hS => ?_)
  have hP : va_P (dC, dI) vwCl [(c0, .inr (0, [.null, .int (0 : Int32), .int (0 : Int32), .int (0 : Int32), .int (0 : Int32), .int (0 : Int32), .int (0 : Int32), .int (0 : Int32), .ref q1, .ref q2, .ref q3, .ref q4, .ref q5, .null])), (q1, .inl (cZ, 12, .inl (fun _ => (0 : Int32)))), (q2, .inl (cI, 12, .inl (fun _ => (0 : Int32)))), (q3, .inl (cI, 12, .inl (fun _ => (0 : Int32)))), (q4, .inl (cZ, 8, .inl (fun _ => (0 : Int32)))), (q5, .inl (cI, 8, .inl (fun _ => (0 : Int32)))), (q6, .inl (cZ, 8, .inl (fun _ => (0 : Int32))))] H := hP
  have hD : va_D A [(c0, .inr (0, [.null, .int (0 : Int32), .int (0 : Int32), .int (0 : Int32), .int (0 : Int32), .int (0 : Int32), .int (0 : Int32), .int (0 : Int32), .ref q1, .ref q2, .ref q3, .ref q4, .ref q5, .null])), (q1, .inl (cZ, 12, .inl (fun _ => (0 : Int32)))), (q2, .inl (cI, 12, .inl (fun _ => (0 : Int32)))), (q3, .inl (cI, 12, .inl (fun _ => (0 : Int32)))), (q4, .inl (cZ, 8, .inl (fun _ => (0 : Int32)))), (q5, .inl (cI, 8, .inl (fun _ => (0 : Int32)))), (q6, .inl (cZ, 8, .inl (fun _ => (0 : Int32))))] := hD
  refine va_putF (D := (dC, dI)) (ci := 0) (v := .ref q6) (ty := .array .boolean) (C := RX0) (T := TX0) (N := 14) hx hb hts inX0 tyX0 tyX0_ok nmX0 hown hK hP hD hS 0 rfl rfl 13 (by decide) (hts _ qf_X0_50) (fun _ h9 => h9) rfl hin rfl (tyX0_ok 13 (by decide)) rfl rfl (Nat.le_of_ble_eq_true rfl) dX0_init_84 (fun H locs hP hD hS => ?_)
  have hP : va_P (dC, dI) vwCl [(c0, .inr (0, [.null, .int (0 : Int32), .int (0 : Int32), .int (0 : Int32), .int (0 : Int32), .int (0 : Int32), .int (0 : Int32), .int (0 : Int32), .ref q1, .ref q2, .ref q3, .ref q4, .ref q5, .ref q6])), (q1, .inl (cZ, 12, .inl (fun _ => (0 : Int32)))), (q2, .inl (cI, 12, .inl (fun _ => (0 : Int32)))), (q3, .inl (cI, 12, .inl (fun _ => (0 : Int32)))), (q4, .inl (cZ, 8, .inl (fun _ => (0 : Int32)))), (q5, .inl (cI, 8, .inl (fun _ => (0 : Int32)))), (q6, .inl (cZ, 8, .inl (fun _ => (0 : Int32))))] H := hP
  have hD : va_D A [(c0, .inr (0, [.null, .int (0 : Int32), .int (0 : Int32), .int (0 : Int32), .int (0 : Int32), .int (0 : Int32), .int (0 : Int32), .int (0 : Int32), .ref q1, .ref q2, .ref q3, .ref q4, .ref q5, .ref q6])), (q1, .inl (cZ, 12, .inl (fun _ => (0 : Int32)))), (q2, .inl (cI, 12, .inl (fun _ => (0 : Int32)))), (q3, .inl (cI, 12, .inl (fun _ => (0 : Int32)))), (q4, .inl (cZ, 8, .inl (fun _ => (0 : Int32)))), (q5, .inl (cI, 8, .inl (fun _ => (0 : Int32)))), (q6, .inl (cZ, 8, .inl (fun _ => (0 : Int32))))] := hD
  refine lv_aload_n hx hb dX0_init_87 rfl (lv_at hl 0 rfl) ?_
  refine lv_aload_n hx hb dX0_init_88 rfl (lv_at hl 1 rfl) ?_
  refine va_putF (D := (dC, dI)) (ci := 0) (v := .ref h0) (ty := .object "LiftNovel$House") (C := RX0) (T := TX0) (N := 14) hx hb hts inX0 tyX0 tyX0_ok nmX0 hown hK hP hD hS 0 rfl rfl 0 (by decide) (hts _ qf_X0_53) (fun _ h9 => h9) rfl hin rfl (tyX0_ok 0 (by decide)) rfl rfl (Nat.le_of_ble_eq_true rfl) dX0_init_89 (fun H locs hP hD hS => ?_)
  have hP : va_P (dC, dI) vwCl [(c0, .inr (0, [.ref h0, .int (0 : Int32), .int (0 : Int32), .int (0 : Int32), .int (0 : Int32), .int (0 : Int32), .int (0 : Int32), .int (0 : Int32), .ref q1, .ref q2, .ref q3, .ref q4, .ref q5, .ref q6])), (q1, .inl (cZ, 12, .inl (fun _ => (0 : Int32)))), (q2, .inl (cI, 12, .inl (fun _ => (0 : Int32)))), (q3, .inl (cI, 12, .inl (fun _ => (0 : Int32)))), (q4, .inl (cZ, 8, .inl (fun _ => (0 : Int32)))), (q5, .inl (cI, 8, .inl (fun _ => (0 : Int32)))), (q6, .inl (cZ, 8, .inl (fun _ => (0 : Int32))))] H := hP
  have hD : va_D A [(c0, .inr (0, [.ref h0, .int (0 : Int32), .int (0 : Int32), .int (0 : Int32), .int (0 : Int32), .int (0 : Int32), .int (0 : Int32), .int (0 : Int32), .ref q1, .ref q2, .ref q3, .ref q4, .ref q5, .ref q6])), (q1, .inl (cZ, 12, .inl (fun _ => (0 : Int32)))), (q2, .inl (cI, 12, .inl (fun _ => (0 : Int32)))), (q3, .inl (cI, 12, .inl (fun _ => (0 : Int32)))), (q4, .inl (cZ, 8, .inl (fun _ => (0 : Int32)))), (q5, .inl (cI, 8, .inl (fun _ => (0 : Int32)))), (q6, .inl (cZ, 8, .inl (fun _ => (0 : Int32))))] := hD
  refine W.widen (k := 6) (n := 60) (Nat.le_of_ble_eq_true rfl) (Nat.le_of_ble_eq_true rfl) ?_
  exact W.vret hx hb hr (fun t ht _ => ⟨⟨(), rfl, trivial, q1, q2, q3, q4, q5, q6, by show va_P _ _ _ _; rw [ht]; exact hP, hD⟩, hS.F ht⟩) hS.2.2 dX0_init_92 hlk
abbrev zX2 : tX2 := ((0 : Int32), (fun _ => (0 : Int32)), (fun _ => (0 : Int32)), (fun _ => (0 : Int32)), (fun _ => (0 : Int32)))
theorem hd_X2_init : yX2_init.cls ≠ "java/lang/invoke/MethodHandle" ∧ yX2_init.cls ≠ "java/lang/invoke/VarHandle" ∧ (parseMethodDescriptor yX2_init.desc).map (fun d => d.parameters.length) = some 0 := by decide +kernel
set_option maxHeartbeats 4000000 in
set_option maxRecDepth 100000 in
theorem c_X2_init (l : Launch) (dC : Nat → ClassId) (dI : Nat → Nat → Nat) (cI cZ : ClassId) (i0 : Nat) (sz : Nat) : Met l yX2_init (Cond.code yX2_init cX2_init 1 none :: lw_all) { frames := 1, cells := 4, slots := 432, locals := 30 } (prW (dC, dI) vwCl (TYS cI cZ) [(i0, .inr (2, [.int (0 : Int32), .null, .null, .null, .null]))] sz [.ref i0]) (va_Qv (fun _ : Unit => True) (fun (_ : Unit) t => ∃ i1 i2 i3 i4 : Nat, va_P (dC, dI) vwCl (wX2 cI cZ i0 i1 i2 i3 i4 zX2) t.heap ∧ va_D (va_A [(i0, .inr (2, [.int (0 : Int32), .null, .null, .null, .null]))] sz) (wX2 cI cZ i0 i1 i2 i3 i4 zX2)) (va_A [(i0, .inr (2, [.int (0 : Int32), .null, .null, .null, .null]))] sz)) 4 432 (va_A [(i0, .inr (2, [.int (0 : Int32), .null, .null, .null, .null]))] sz) := by
  refine oM (by decide) (Nat.le_of_ble_eq_true rfl) ?_
  intro p e s m args below meth c S hr hlk hnm hB ls hl
  have hx := S.1
  have hb := S.2.1
  have hml := S.2.2.1
  have hown : s.vm.findClass RX2 = some m.cls := S.2.2.2.1
  have hts := S.2.2.2.2
  have hin : meth.name = "<init>" := hnm
  have hl : lv_has ls 1 [(0, .ref i0)] := hl
  obtain ⟨hsz, hP, hK, hD0⟩ := hB
  subst hsz
  have hD := hD0.self (sz := s.heap.size)
  generalize hAe : va_A [(i0, .inr (2, [.int (0 : Int32), .null, .null, .null, .null]))] s.heap.size = A at hD ⊢
  have hA : ∀ q : Nat, s.heap.size ≤ q → A q := fun q h => by rw [← hAe]; exact Or.inr h
  have hS : va_S A s.heap s.heap [] := va_S.rf
  have hP : va_P (dC, dI) vwCl [(i0, .inr (2, [.int (0 : Int32), .null, .null, .null, .null]))] s.heap := hP
  refine lv_aload_n hx hb dX2_init_0 rfl (lv_at hl 0 rfl) ?_
  refine W.objInit hx hb hown (hts _ qm_X2_3) (hts _ qi_objectInit) (hts _ qc_objectInit) rfl (by rw [hml]; exact hl.1) rfl dX2_init_1 (Nat.le_of_ble_eq_true rfl) (Nat.le_of_ble_eq_true rfl) ?_
  refine W.eq (g2 := F0 m 4 ls []) rfl ?_
  refine lv_aload_n hx hb dX2_init_4 rfl (lv_at hl 0 rfl) ?_
  refine lv_iconst (v := (0 : Int32)) hx hb dX2_init_5 (by decide) ?_
  refine va_put (D := (dC, dI)) (ci := 2) (v := .int (0 : Int32)) (ty := .int) (C := RX2) (T := TX2) (N := 5) hx hb hts inX2 tyX2 tyX2_ok nmX2 hown hK hP hD hS 0 rfl rfl 0 (by decide) (hts _ qf_X2_9) (fun _ h9 => h9) rfl (tyX2_ok 0 (by decide)) rfl rfl (Nat.le_of_ble_eq_true rfl) dX2_init_6 (fun H locs hP hD hS => ?_)
  have hP : va_P (dC, dI) vwCl [(i0, .inr (2, [.int (0 : Int32), .null, .null, .null, .null]))] H := hP
  have hD : va_D A [(i0, .inr (2, [.int (0 : Int32), .null, .null, .null, .null]))] := hD
  refine lv_aload_n hx hb dX2_init_9 rfl (lv_at hl 0 rfl) ?_
  refine lv_bipush (v := (108 : Int32)) hx hb dX2_init_10 (by decide) ?_
  refine va_newaI (n := 108) hx hb (hts _ qy_int) hK 0 rfl hP hD hS hA (by decide) (by decide) (by decide) (Nat.le_of_ble_eq_true rfl) (Nat.le_of_ble_eq_true rfl) dX2_init_12 (fun q1 H hP hD hS => ?_)
  have hP : va_P (dC, dI) vwCl [(i0, .inr (2, [.int (0 : Int32), .null, .null, .null, .null])), (q1, .inl (cI, 108, .inl (fun _ => (0 : Int32))))] H := hP
  have hD : va_D A [(i0, .inr (2, [.int (0 : Int32), .null, .null, .null, .null])), (q1, .inl (cI, 108, .inl (fun _ => (0 : Int32))))] := hD
  refine va_putF (D := (dC, dI)) (ci := 2) (v := .ref q1) (ty := .array .int) (C := RX2) (T := TX2) (N := 5) hx hb hts inX2 tyX2 tyX2_ok nmX2 hown hK hP hD hS 0 rfl rfl 1 (by decide) (hts _ qf_X2_15) (fun _ h9 => h9) rfl hin rfl (tyX2_ok 1 (by decide)) rfl rfl (Nat.le_of_ble_eq_true rfl) dX2_init_14 (fun H locs hP hD hS => ?_)
  have hP : va_P (dC, dI) vwCl [(i0, .inr (2, [.int (0 : Int32), .ref q1, .null, .null, .null])), (q1, .inl (cI, 108, .inl (fun _ => (0 : Int32))))] H := hP
  have hD : va_D A [(i0, .inr (2, [.int (0 : Int32), .ref q1, .null, .null, .null])), (q1, .inl (cI, 108, .inl (fun _ => (0 : Int32))))] := hD
  refine lv_aload_n hx hb dX2_init_17 rfl (lv_at hl 0 rfl) ?_
  refine lv_bipush (v := (108 : Int32)) hx hb dX2_init_18 (by decide) ?_
  refine va_newaI (n := 108) hx hb (hts _ qy_int) hK 0 rfl hP hD hS hA (by decide) (by decide) (by decide) (Nat.le_of_ble_eq_true rfl) (Nat.le_of_ble_eq_true rfl) dX2_init_20 (fun q2 H hP hD hS => ?_)
  have hP : va_P (dC, dI) vwCl [(i0, .inr (2, [.int (0 : Int32), .ref q1, .null, .null, .null])), (q1, .inl (cI, 108, .inl (fun _ => (0 : Int32)))), (q2, .inl (cI, 108, .inl (fun _ => (0 : Int32))))] H := hP
  have hD : va_D A [(i0, .inr (2, [.int (0 : Int32), .ref q1, .null, .null, .null])), (q1, .inl (cI, 108, .inl (fun _ => (0 : Int32)))), (q2, .inl (cI, 108, .inl (fun _ => (0 : Int32))))] := hD
  refine va_putF (D := (dC, dI)) (ci := 2) (v := .ref q2) (ty := .array .int) (C := RX2) (T := TX2) (N := 5) hx hb hts inX2 tyX2 tyX2_ok nmX2 hown hK hP hD hS 0 rfl rfl 2 (by decide) (hts _ qf_X2_19) (fun _ h9 => h9) rfl hin rfl (tyX2_ok 2 (by decide)) rfl rfl (Nat.le_of_ble_eq_true rfl) dX2_init_22 (fun H locs hP hD hS => ?_)
  have hP : va_P (dC, dI) vwCl [(i0, .inr (2, [.int (0 : Int32), .ref q1, .ref q2, .null, .null])), (q1, .inl (cI, 108, .inl (fun _ => (0 : Int32)))), (q2, .inl (cI, 108, .inl (fun _ => (0 : Int32))))] H := hP
  have hD : va_D A [(i0, .inr (2, [.int (0 : Int32), .ref q1, .ref q2, .null, .null])), (q1, .inl (cI, 108, .inl (fun _ => (0 : Int32)))), (q2, .inl (cI, 108, .inl (fun _ => (0 : Int32))))] := hD
  refine lv_aload_n hx hb dX2_init_25 rfl (lv_at hl 0 rfl) ?_
  refine lv_bipush (v := (108 : Int32)) hx hb dX2_init_26 (by decide) ?_
  refine va_newaI (n := 108) hx hb (hts _ qy_int) hK 0 rfl hP hD hS hA (by decide) (by decide) (by decide) (Nat.le_of_ble_eq_true rfl) (Nat.le_of_ble_eq_true rfl) dX2_init_28 (fun q3 H hP hD hS => ?_)
  have hP : va_P (dC, dI) vwCl [(i0, .inr (2, [.int (0 : Int32), .ref q1, .ref q2, .null, .null])), (q1, .inl (cI, 108, .inl (fun _ => (0 : Int32)))), (q2, .inl (cI, 108, .inl (fun _ => (0 : Int32)))), (q3, .inl (cI, 108, .inl (fun _ => (0 : Int32))))] H := hP
  have hD : va_D A [(i0, .inr (2, [.int (0 : Int32), .ref q1, .ref q2, .null, .null])), (q1, .inl (cI, 108, .inl (fun _ => (0 : Int32)))), (q2, .inl (cI, 108, .inl (fun _ => (0 : Int32)))), (q3, .inl (cI, 108, .inl (fun _ => (0 : Int32))))] := hD
  refine va_putF (D := (dC, dI)) (ci := 2) (v := .ref q3) (ty := .array .int) (C := RX2) (T := TX2) (N := 5) hx hb hts inX2 tyX2 tyX2_ok nmX2 hown hK hP hD hS 0 rfl rfl 3 (by decide) (hts _ qf_X2_22) (fun _ h9 => h9) rfl hin rfl (tyX2_ok 3 (by decide)) rfl rfl (Nat.le_of_ble_eq_true rfl) dX2_init_30 (fun H locs hP hD hS => ?_)
  have hP : va_P (dC, dI) vwCl [(i0, .inr (2, [.int (0 : Int32), .ref q1, .ref q2, .ref q3, .null])), (q1, .inl (cI, 108, .inl (fun _ => (0 : Int32)))), (q2, .inl (cI, 108, .inl (fun _ => (0 : Int32)))), (q3, .inl (cI, 108, .inl (fun _ => (0 : Int32))))] H := hP
  have hD : va_D A [(i0, .inr (2, [.int (0 : Int32), .ref q1, .ref q2, .ref q3, .null])), (q1, .inl (cI, 108, .inl (fun _ => (0 : Int32)))), (q2, .inl (cI, 108, .inl (fun _ => (0 : Int32)))), (q3, .inl (cI, 108, .inl (fun _ => (0 : Int32))))] := hD
  refine lv_aload_n hx hb dX2_init_33 rfl (lv_at hl 0 rfl) ?_
  refine lv_bipush (v := (108 : Int32)) hx hb dX2_init_34 (by decide) ?_
  refine va_newaI (n := 108) hx hb (hts _ qy_int) hK 0 rfl hP hD hS hA (by decide) (by decide) (by decide) (Nat.le_of_ble_eq_true rfl) (Nat.le_of_ble_eq_true rfl) dX2_init_36 (fun q4 H hP hD hS => ?_)
  have hP : va_P (dC, dI) vwCl [(i0, .inr (2, [.int (0 : Int32), .ref q1, .ref q2, .ref q3, .null])), (q1, .inl (cI, 108, .inl (fun _ => (0 : Int32)))), (q2, .inl (cI, 108, .inl (fun _ => (0 : Int32)))), (q3, .inl (cI, 108, .inl (fun _ => (0 : Int32)))), (q4, .inl (cI, 108, .inl (fun _ => (0 : Int32))))] H := hP
  have hD : va_D A [(i0, .inr (2, [.int (0 : Int32), .ref q1, .ref q2, .ref q3, .null])), (q1, .inl (cI, 108, .inl (fun _ => (0 : Int32)))), (q2, .inl (cI, 108, .inl (fun _ => (0 : Int32)))), (q3, .inl (cI, 108, .inl (fun _ => (0 : Int32)))), (q4, .inl (cI, 108, .inl (fun _ => (0 : Int32))))] := hD
  refine va_putF (D := (dC, dI)) (ci := 2) (v := .ref q4) (ty := .array .int) (C := RX2) (T := TX2) (N := 5) hx hb hts inX2 tyX2 tyX2_ok nmX2 hown hK hP hD hS 0 rfl rfl 4 (by decide) (hts _ qf_X2_25) (fun _ h9 => h9) rfl hin rfl (tyX2_ok 4 (by decide)) rfl rfl (Nat.le_of_ble_eq_true rfl) dX2_init_38 (fun H locs hP hD hS => ?_)
  have hP : va_P (dC, dI) vwCl [(i0, .inr (2, [.int (0 : Int32), .ref q1, .ref q2, .ref q3, .ref q4])), (q1, .inl (cI, 108, .inl (fun _ => (0 : Int32)))), (q2, .inl (cI, 108, .inl (fun _ => (0 : Int32)))), (q3, .inl (cI, 108, .inl (fun _ => (0 : Int32)))), (q4, .inl (cI, 108, .inl (fun _ => (0 : Int32))))] H := hP
  have hD : va_D A [(i0, .inr (2, [.int (0 : Int32), .ref q1, .ref q2, .ref q3, .ref q4])), (q1, .inl (cI, 108, .inl (fun _ => (0 : Int32)))), (q2, .inl (cI, 108, .inl (fun _ => (0 : Int32)))), (q3, .inl (cI, 108, .inl (fun _ => (0 : Int32)))), (q4, .inl (cI, 108, .inl (fun _ => (0 : Int32))))] := hD
  refine W.widen (k := 4) (n := 432) (Nat.le_of_ble_eq_true rfl) (Nat.le_of_ble_eq_true rfl) ?_
  exact W.vret hx hb hr (fun t ht _ => ⟨⟨(), rfl, trivial, q1, q2, q3, q4, by show va_P _ _ _ _; rw [ht]; exact hP, hD⟩, hS.F ht⟩) hS.2.2 dX2_init_41 hlk
abbrev zX3 : tX3 := ((0 : Int32), (fun _ => (0 : Int32)), (fun _ => (0 : Int32)))
theorem hd_X3_init : yX3_init.cls ≠ "java/lang/invoke/MethodHandle" ∧ yX3_init.cls ≠ "java/lang/invoke/VarHandle" ∧ (parseMethodDescriptor yX3_init.desc).map (fun d => d.parameters.length) = some 0 := by decide +kernel
set_option maxHeartbeats 4000000 in
set_option maxRecDepth 100000 in
theorem c_X3_init (l : Launch) (dC : Nat → ClassId) (dI : Nat → Nat → Nat) (cI cZ : ClassId) (m0 : Nat) (sz : Nat) : Met l yX3_init (Cond.code yX3_init cX3_init 1 none :: lw_all) { frames := 1, cells := 2, slots := 8, locals := 30 } (prW (dC, dI) vwCl (TYS cI cZ) [(m0, .inr (3, [.int (0 : Int32), .null, .null]))] sz [.ref m0]) (va_Qv (fun _ : Unit => True) (fun (_ : Unit) t => ∃ m1 m2 : Nat, va_P (dC, dI) vwCl (wX3 cI cZ m0 m1 m2 zX3) t.heap ∧ va_D (va_A [(m0, .inr (3, [.int (0 : Int32), .null, .null]))] sz) (wX3 cI cZ m0 m1 m2 zX3)) (va_A [(m0, .inr (3, [.int (0 : Int32), .null, .null]))] sz)) 2 8 (va_A [(m0, .inr (3, [.int (0 : Int32), .null, .null]))] sz) := by
  refine oM (by decide) (Nat.le_of_ble_eq_true rfl) ?_
  intro p e s m args below meth c S hr hlk hnm hB ls hl
  have hx := S.1
  have hb := S.2.1
  have hml := S.2.2.1
  have hown : s.vm.findClass RX3 = some m.cls := S.2.2.2.1
  have hts := S.2.2.2.2
  have hin : meth.name = "<init>" := hnm
  have hl : lv_has ls 1 [(0, .ref m0)] := hl
  obtain ⟨hsz, hP, hK, hD0⟩ := hB
  subst hsz
  have hD := hD0.self (sz := s.heap.size)
  generalize hAe : va_A [(m0, .inr (3, [.int (0 : Int32), .null, .null]))] s.heap.size = A at hD ⊢
  have hA : ∀ q : Nat, s.heap.size ≤ q → A q := fun q h => by rw [← hAe]; exact Or.inr h
  have hS : va_S A s.heap s.heap [] := va_S.rf
  have hP : va_P (dC, dI) vwCl [(m0, .inr (3, [.int (0 : Int32), .null, .null]))] s.heap := hP
  refine lv_aload_n hx hb dX3_init_0 rfl (lv_at hl 0 rfl) ?_
  refine W.objInit hx hb hown (hts _ qm_X3_3) (hts _ qi_objectInit) (hts _ qc_objectInit) rfl (by rw [hml]; exact hl.1) rfl dX3_init_1 (Nat.le_of_ble_eq_true rfl) (Nat.le_of_ble_eq_true rfl) ?_
  refine W.eq (g2 := F0 m 4 ls []) rfl ?_
  refine lv_aload_n hx hb dX3_init_4 rfl (lv_at hl 0 rfl) ?_
  refine lv_iconst (v := (0 : Int32)) hx hb dX3_init_5 (by decide) ?_
  refine va_put (D := (dC, dI)) (ci := 3) (v := .int (0 : Int32)) (ty := .int) (C := RX3) (T := TX3) (N := 3) hx hb hts inX3 tyX3 tyX3_ok nmX3 hown hK hP hD hS 0 rfl rfl 0 (by decide) (hts _ qf_X3_9) (fun _ h9 => h9) rfl (tyX3_ok 0 (by decide)) rfl rfl (Nat.le_of_ble_eq_true rfl) dX3_init_6 (fun H locs hP hD hS => ?_)
  have hP : va_P (dC, dI) vwCl [(m0, .inr (3, [.int (0 : Int32), .null, .null]))] H := hP
  have hD : va_D A [(m0, .inr (3, [.int (0 : Int32), .null, .null]))] := hD
  refine lv_aload_n hx hb dX3_init_9 rfl (lv_at hl 0 rfl) ?_
  refine lv_iconst (v := (4 : Int32)) hx hb dX3_init_10 (by decide) ?_
  refine va_newaI (n := 4) hx hb (hts _ qy_int) hK 0 rfl hP hD hS hA (by decide) (by decide) (by decide) (Nat.le_of_ble_eq_true rfl) (Nat.le_of_ble_eq_true rfl) dX3_init_11 (fun q1 H hP hD hS => ?_)
  have hP : va_P (dC, dI) vwCl [(m0, .inr (3, [.int (0 : Int32), .null, .null])), (q1, .inl (cI, 4, .inl (fun _ => (0 : Int32))))] H := hP
  have hD : va_D A [(m0, .inr (3, [.int (0 : Int32), .null, .null])), (q1, .inl (cI, 4, .inl (fun _ => (0 : Int32))))] := hD
  refine va_putF (D := (dC, dI)) (ci := 3) (v := .ref q1) (ty := .array .int) (C := RX3) (T := TX3) (N := 3) hx hb hts inX3 tyX3 tyX3_ok nmX3 hown hK hP hD hS 0 rfl rfl 1 (by decide) (hts _ qf_X3_15) (fun _ h9 => h9) rfl hin rfl (tyX3_ok 1 (by decide)) rfl rfl (Nat.le_of_ble_eq_true rfl) dX3_init_13 (fun H locs hP hD hS => ?_)
  have hP : va_P (dC, dI) vwCl [(m0, .inr (3, [.int (0 : Int32), .ref q1, .null])), (q1, .inl (cI, 4, .inl (fun _ => (0 : Int32))))] H := hP
  have hD : va_D A [(m0, .inr (3, [.int (0 : Int32), .ref q1, .null])), (q1, .inl (cI, 4, .inl (fun _ => (0 : Int32))))] := hD
  refine lv_aload_n hx hb dX3_init_16 rfl (lv_at hl 0 rfl) ?_
  refine lv_iconst (v := (4 : Int32)) hx hb dX3_init_17 (by decide) ?_
  refine va_newaI (n := 4) hx hb (hts _ qy_int) hK 0 rfl hP hD hS hA (by decide) (by decide) (by decide) (Nat.le_of_ble_eq_true rfl) (Nat.le_of_ble_eq_true rfl) dX3_init_18 (fun q2 H hP hD hS => ?_)
  have hP : va_P (dC, dI) vwCl [(m0, .inr (3, [.int (0 : Int32), .ref q1, .null])), (q1, .inl (cI, 4, .inl (fun _ => (0 : Int32)))), (q2, .inl (cI, 4, .inl (fun _ => (0 : Int32))))] H := hP
  have hD : va_D A [(m0, .inr (3, [.int (0 : Int32), .ref q1, .null])), (q1, .inl (cI, 4, .inl (fun _ => (0 : Int32)))), (q2, .inl (cI, 4, .inl (fun _ => (0 : Int32))))] := hD
  refine va_putF (D := (dC, dI)) (ci := 3) (v := .ref q2) (ty := .array .int) (C := RX3) (T := TX3) (N := 3) hx hb hts inX3 tyX3 tyX3_ok nmX3 hown hK hP hD hS 0 rfl rfl 2 (by decide) (hts _ qf_X3_19) (fun _ h9 => h9) rfl hin rfl (tyX3_ok 2 (by decide)) rfl rfl (Nat.le_of_ble_eq_true rfl) dX3_init_20 (fun H locs hP hD hS => ?_)
  have hP : va_P (dC, dI) vwCl [(m0, .inr (3, [.int (0 : Int32), .ref q1, .ref q2])), (q1, .inl (cI, 4, .inl (fun _ => (0 : Int32)))), (q2, .inl (cI, 4, .inl (fun _ => (0 : Int32))))] H := hP
  have hD : va_D A [(m0, .inr (3, [.int (0 : Int32), .ref q1, .ref q2])), (q1, .inl (cI, 4, .inl (fun _ => (0 : Int32)))), (q2, .inl (cI, 4, .inl (fun _ => (0 : Int32))))] := hD
  refine W.widen (k := 2) (n := 8) (Nat.le_of_ble_eq_true rfl) (Nat.le_of_ble_eq_true rfl) ?_
  exact W.vret hx hb hr (fun t ht _ => ⟨⟨(), rfl, trivial, q1, q2, by show va_P _ _ _ _; rw [ht]; exact hP, hD⟩, hS.F ht⟩) hS.2.2 dX3_init_23 hlk
