def p_X5_begin (uG : tX5) (a1 : Int32) : Option tX5 :=
  gL a1 12 (
  some (uG.1, (0 : Int32), (0 : Int32), (0 : Int32), (0 : Int32), uG.2.2.2.2.2.1, (0 : Int32), (a1.toNatClampNeg, (fun _ => (0 : Int32))), uG.2.2.2.2.2.2.2.2.1, (a1.toNatClampNeg, fun _ => (2, fun _ => 0)), uG.2.2.2.2.2.2.2.2.2.2.1, uG.2.2.2.2.2.2.2.2.2.2.2.1, (0, fun _ => (0, fun _ => 0)), uG.2.2.2.2.2.2.2.2.2.2.2.2.2))
set_option maxHeartbeats 4000000 in
set_option maxRecDepth 100000 in
theorem c_X5_begin (l : Launch) (dC : Nat → ClassId) (dI : Nat → Nat → Nat) (cI cZ cJ : ClassId) (g0 : Nat) (g7 g8 g9 g10 g11 g12 : Nat) (G9 G10 G11 G12 : Nat → Nat) (sz : Nat) (uG : tX5) (a1 : Int32) {z : tX5} (hok : p_X5_begin uG a1 = some z) : Met l yX5_begin (Cond.code yX5_begin cX5_begin 2 none :: lw_all) { frames := 0, cells := 15, slots := 48, locals := 0 } (prA (dC, dI) vwCl (TYG cI cZ cJ) (wX5 cI cZ cJ g0 g7 g8 g9 g10 g11 g12 G9 G10 G11 G12 uG) sz [.ref g0, .int a1]) (va_Qv (fun _ : (Nat × Nat × Nat × Nat × Nat × Nat × (Nat → Nat) × (Nat → Nat) × (Nat → Nat) × (Nat → Nat)) => True) (fun a9 t => va_P (dC, dI) vwCl (wX5 cI cZ cJ g0 a9.1 a9.2.1 a9.2.2.1 a9.2.2.2.1 a9.2.2.2.2.1 a9.2.2.2.2.2.1 a9.2.2.2.2.2.2.1 a9.2.2.2.2.2.2.2.1 a9.2.2.2.2.2.2.2.2.1 a9.2.2.2.2.2.2.2.2.2 z) t.heap ∧ va_D (va_A (wX5 cI cZ cJ g0 g7 g8 g9 g10 g11 g12 G9 G10 G11 G12 uG) sz) (wX5 cI cZ cJ g0 a9.1 a9.2.1 a9.2.2.1 a9.2.2.2.1 a9.2.2.2.2.1 a9.2.2.2.2.2.1 a9.2.2.2.2.2.2.1 a9.2.2.2.2.2.2.2.1 a9.2.2.2.2.2.2.2.2.1 a9.2.2.2.2.2.2.2.2.2 z)) (va_A (wX5 cI cZ cJ g0 g7 g8 g9 g10 g11 g12 G9 G10 G11 G12 uG) sz)) 15 48 (va_A (wX5 cI cZ cJ g0 g7 g8 g9 g10 g11 g12 G9 G10 G11 G12 uG) sz) := by
  refine oM (by decide) (Nat.le_of_ble_eq_true rfl) ?_
  intro p e s m args below meth c S hr hlk hnm hB ls hl
  have hx := S.1
  have hb := S.2.1
  have hml := S.2.2.1
  have hown : s.vm.findClass RX5 = some m.cls := S.2.2.2.1
  have hts := S.2.2.2.2
  have S : CallFix p m c cX5_begin 2 s args lw_all RX5 := S
  have hl : lv_has ls 2 [(0, .ref g0), (1, .int a1)] := hl
  obtain ⟨hsz, hP, hK, hD0, hO⟩ := hB
  subst hsz
  have hD := hD0.self (sz := s.heap.size)
  generalize hAe : va_A (wX5 cI cZ cJ g0 g7 g8 g9 g10 g11 g12 G9 G10 G11 G12 uG) s.heap.size = A at hD ⊢
  have hA : ∀ q : Nat, s.heap.size ≤ q → A q := fun q h => by rw [← hAe]; exact Or.inr h
  have hS : va_S A s.heap s.heap [] := va_S.rf
  have hP : va_P (dC, dI) vwCl (([] : va_W) ++ ((wX5 cI cZ cJ g0 g7 g8 g9 g10 g11 g12 G9 G10 G11 G12 uG) ++ ([] : va_W))) s.heap := zx_P (wa := []) hP
  have hD : va_D A (([] : va_W) ++ ((wX5 cI cZ cJ g0 g7 g8 g9 g10 g11 g12 G9 G10 G11 G12 uG) ++ ([] : va_W))) := zx_D (wa := []) hD
  have hK2 : va_K (dC, dI) vwCl (TYS cI cZ) s := hK.sub [0, 1] rfl
  unfold p_X5_begin at hok
  refine lv_aload_n hx hb dX5_begin_0 rfl (lv_at hl 0 rfl) ?_
  refine lv_iload_n hx hb dX5_begin_1 rfl (lv_at hl 1 rfl) ?_
  obtain ⟨hg2, hok⟩ := gL_some hok
  refine va_newaZ (n := a1.toNatClampNeg) hx hb (hts _ qy_boolean) hK 1 rfl hP hD hS hA hg2.1 rfl (by have := hg2.2; omega) (Nat.le_of_ble_eq_true rfl) (Nat.le_trans (Nat.add_le_add_left hg2.2 _) (Nat.le_of_ble_eq_true rfl)) dX5_begin_2 (fun q1 H hP hD hS => ?_)
  refine W.widen (k := 0 + 1) (n := 0 + 12) (Nat.le_refl _) (Nat.add_le_add_left hg2.2 _) ?_
  have hP := ra_P hP
  have hD := ra_D hD
  have hP : va_P (dC, dI) vwCl (([] : va_W) ++ (wX5 cI cZ cJ g0 g7 g8 g9 g10 g11 g12 G9 G10 G11 G12 uG ++ [(q1, .inl (cZ, a1.toNatClampNeg, .inl (fun _ => (0 : Int32))))])) H := hP
  have hD : va_D A (([] : va_W) ++ (wX5 cI cZ cJ g0 g7 g8 g9 g10 g11 g12 G9 G10 G11 G12 uG ++ [(q1, .inl (cZ, a1.toNatClampNeg, .inl (fun _ => (0 : Int32))))])) := hD
  refine va_put (D := (dC, dI)) (ci := 5) (v := .ref q1) (ty := (.array .boolean)) (C := RX5) (T := TX5) (N := 14) hx hb hts inX5 tyX5 tyX5_ok nmX5 hown hK hP hD hS 0 rfl rfl 7 (by decide) (hts _ qf_X5_13) (fun _ h9 => h9) rfl (tyX5_ok 7 (by decide)) rfl rfl (Nat.le_of_ble_eq_true rfl) dX5_begin_4 (fun H locs hP hD hS => ?_)
  have hP : va_P (dC, dI) vwCl (([] : va_W) ++ (wY5 cI cZ cJ g0 q1 g8 g9 g10 g11 g12 g7 g8 g9 g10 g11 g12 G9 G10 G11 G12 uG ++ [(q1, .inl (cZ, a1.toNatClampNeg, .inl (fun _ => (0 : Int32))))])) H := hP
  have hD : va_D A (([] : va_W) ++ (wY5 cI cZ cJ g0 q1 g8 g9 g10 g11 g12 g7 g8 g9 g10 g11 g12 G9 G10 G11 G12 uG ++ [(q1, .inl (cZ, a1.toNatClampNeg, .inl (fun _ => (0 : Int32))))])) := hD
  obtain ⟨hP, hD⟩ := ab7 hP hD
  have hP : va_P (dC, dI) vwCl (([] : va_W) ++ (wX5 cI cZ cJ g0 q1 g8 g9 g10 g11 g12 G9 G10 G11 G12 (uG.1, uG.2.1, uG.2.2.1, uG.2.2.2.1, uG.2.2.2.2.1, uG.2.2.2.2.2.1, uG.2.2.2.2.2.2.1, (a1.toNatClampNeg, (fun _ => (0 : Int32))), uG.2.2.2.2.2.2.2.2) ++ ([] : va_W))) H := hP
  have hD : va_D A (([] : va_W) ++ (wX5 cI cZ cJ g0 q1 g8 g9 g10 g11 g12 G9 G10 G11 G12 (uG.1, uG.2.1, uG.2.2.1, uG.2.2.2.1, uG.2.2.2.2.1, uG.2.2.2.2.2.1, uG.2.2.2.2.2.2.1, (a1.toNatClampNeg, (fun _ => (0 : Int32))), uG.2.2.2.2.2.2.2.2) ++ ([] : va_W))) := hD
  refine lv_aload_n hx hb dX5_begin_7 rfl (lv_at hl 0 rfl) ?_
  refine lv_iload_n hx hb dX5_begin_8 rfl (lv_at hl 1 rfl) ?_
  refine lv_iconst (v := (2 : Int32)) hx hb dX5_begin_9 (by decide) ?_
  refine fg_mna (n := a1.toNatClampNeg) hx hb hown (hts _ qk_X5_20) hO (hts _ qy_int) hK 0 2 rfl rfl hP hD hS hA hg2.1 rfl (by have := hg2.2; omega) (Nat.le_trans (Nat.add_le_add_left (Nat.add_le_add_left hg2.2 1) _) (Nat.le_of_ble_eq_true rfl)) (Nat.le_trans (Nat.add_le_add_left (Nat.mul_le_mul_right 3 hg2.2) _) (Nat.le_of_ble_eq_true rfl)) dX5_begin_10 (fun q3 r4 H hP hD hS => ?_)
  refine W.widen (k := (0 + 1) + (1 + 12)) (n := (0 + 12) + 12 * 3) (Nat.add_le_add_left (Nat.add_le_add_left hg2.2 1) _) (Nat.add_le_add_left (Nat.mul_le_mul_right 3 hg2.2) _) ?_
  have hP := ra_P hP
  have hD := ra_D hD
  refine va_put (D := (dC, dI)) (ci := 5) (v := .ref q3) (ty := (.array (.array .int))) (C := RX5) (T := TX5) (N := 14) hx hb hts inX5 tyX5 tyX5_ok nmX5 hown hK hP hD hS 0 rfl rfl 9 (by decide) (hts _ qf_X5_22) (fun _ h9 => h9) rfl (tyX5_ok 9 (by decide)) rfl rfl (Nat.le_of_ble_eq_true rfl) dX5_begin_14 (fun H locs hP hD hS => ?_)
  have hP : va_P (dC, dI) vwCl (([] : va_W) ++ (wY5 cI cZ cJ g0 q1 g8 q3 g10 g11 g12 q1 g8 g9 g10 g11 g12 G9 G10 G11 G12 (uG.1, uG.2.1, uG.2.2.1, uG.2.2.2.1, uG.2.2.2.2.1, uG.2.2.2.2.2.1, uG.2.2.2.2.2.2.1, (a1.toNatClampNeg, (fun _ => (0 : Int32))), uG.2.2.2.2.2.2.2.2) ++ (((q3, .inl (cJ, a1.toNatClampNeg, .inr (.inr (.inr (.inr (fun i => if i < a1.toNatClampNeg then some (r4 i) else none)))))) : Nat × va_E) :: rW cI r4 (a1.toNatClampNeg, fun _ => (2, fun _ => 0))))) H := hP
  have hD : va_D A (([] : va_W) ++ (wY5 cI cZ cJ g0 q1 g8 q3 g10 g11 g12 q1 g8 g9 g10 g11 g12 G9 G10 G11 G12 (uG.1, uG.2.1, uG.2.2.1, uG.2.2.2.1, uG.2.2.2.2.1, uG.2.2.2.2.2.1, uG.2.2.2.2.2.2.1, (a1.toNatClampNeg, (fun _ => (0 : Int32))), uG.2.2.2.2.2.2.2.2) ++ (((q3, .inl (cJ, a1.toNatClampNeg, .inr (.inr (.inr (.inr (fun i => if i < a1.toNatClampNeg then some (r4 i) else none)))))) : Nat × va_E) :: rW cI r4 (a1.toNatClampNeg, fun _ => (2, fun _ => 0))))) := hD
  obtain ⟨hP, hD⟩ := ab9 hP hD
  have hP : va_P (dC, dI) vwCl (([] : va_W) ++ (wX5 cI cZ cJ g0 q1 g8 q3 g10 g11 g12 r4 G10 G11 G12 (uG.1, uG.2.1, uG.2.2.1, uG.2.2.2.1, uG.2.2.2.2.1, uG.2.2.2.2.2.1, uG.2.2.2.2.2.2.1, (a1.toNatClampNeg, (fun _ => (0 : Int32))), uG.2.2.2.2.2.2.2.2.1, (a1.toNatClampNeg, fun _ => (2, fun _ => 0)), uG.2.2.2.2.2.2.2.2.2.2) ++ ([] : va_W))) H := hP
  have hD : va_D A (([] : va_W) ++ (wX5 cI cZ cJ g0 q1 g8 q3 g10 g11 g12 r4 G10 G11 G12 (uG.1, uG.2.1, uG.2.2.1, uG.2.2.2.1, uG.2.2.2.2.1, uG.2.2.2.2.2.1, uG.2.2.2.2.2.2.1, (a1.toNatClampNeg, (fun _ => (0 : Int32))), uG.2.2.2.2.2.2.2.2.1, (a1.toNatClampNeg, fun _ => (2, fun _ => 0)), uG.2.2.2.2.2.2.2.2.2.2) ++ ([] : va_W))) := hD
  refine lv_aload_n hx hb dX5_begin_17 rfl (lv_at hl 0 rfl) ?_
  refine lv_iconst (v := (0 : Int32)) hx hb dX5_begin_18 (by decide) ?_
  refine fg_new (n := 0) hx hb hown (hts _ qk_X5_25) hO hK 2 rfl hP hD hS hA (by decide) (by decide) (by decide) (Nat.le_of_ble_eq_true rfl) (Nat.le_of_ble_eq_true rfl) dX5_begin_19 (fun q5 H hP hD hS => ?_)
  have hP := ra_P hP
  have hD := ra_D hD
  refine va_put (D := (dC, dI)) (ci := 5) (v := .ref q5) (ty := (.array (.array .int))) (C := RX5) (T := TX5) (N := 14) hx hb hts inX5 tyX5 tyX5_ok nmX5 hown hK hP hD hS 0 rfl rfl 12 (by decide) (hts _ qf_X5_33) (fun _ h9 => h9) rfl (tyX5_ok 12 (by decide)) rfl rfl (Nat.le_of_ble_eq_true rfl) dX5_begin_22 (fun H locs hP hD hS => ?_)
  have hP : va_P (dC, dI) vwCl (([] : va_W) ++ (wY5 cI cZ cJ g0 q1 g8 q3 g10 g11 q5 q1 g8 q3 g10 g11 g12 r4 G10 G11 G12 (uG.1, uG.2.1, uG.2.2.1, uG.2.2.2.1, uG.2.2.2.2.1, uG.2.2.2.2.2.1, uG.2.2.2.2.2.2.1, (a1.toNatClampNeg, (fun _ => (0 : Int32))), uG.2.2.2.2.2.2.2.2.1, (a1.toNatClampNeg, fun _ => (2, fun _ => 0)), uG.2.2.2.2.2.2.2.2.2.2) ++ [(q5, .inl (cJ, 0, .inr (.inr (.inr (.inr (fun _ => none))))))])) H := hP
  have hD : va_D A (([] : va_W) ++ (wY5 cI cZ cJ g0 q1 g8 q3 g10 g11 q5 q1 g8 q3 g10 g11 g12 r4 G10 G11 G12 (uG.1, uG.2.1, uG.2.2.1, uG.2.2.2.1, uG.2.2.2.2.1, uG.2.2.2.2.2.1, uG.2.2.2.2.2.2.1, (a1.toNatClampNeg, (fun _ => (0 : Int32))), uG.2.2.2.2.2.2.2.2.1, (a1.toNatClampNeg, fun _ => (2, fun _ => 0)), uG.2.2.2.2.2.2.2.2.2.2) ++ [(q5, .inl (cJ, 0, .inr (.inr (.inr (.inr (fun _ => none))))))])) := hD
  obtain ⟨hP, hD⟩ := ab12z hP hD
  have hP : va_P (dC, dI) vwCl (([] : va_W) ++ (wX5 cI cZ cJ g0 q1 g8 q3 g10 g11 q5 r4 G10 G11 G12 (uG.1, uG.2.1, uG.2.2.1, uG.2.2.2.1, uG.2.2.2.2.1, uG.2.2.2.2.2.1, uG.2.2.2.2.2.2.1, (a1.toNatClampNeg, (fun _ => (0 : Int32))), uG.2.2.2.2.2.2.2.2.1, (a1.toNatClampNeg, fun _ => (2, fun _ => 0)), uG.2.2.2.2.2.2.2.2.2.2.1, uG.2.2.2.2.2.2.2.2.2.2.2.1, (0, fun _ => (0, fun _ => 0)), uG.2.2.2.2.2.2.2.2.2.2.2.2.2) ++ ([] : va_W))) H := hP
  have hD : va_D A (([] : va_W) ++ (wX5 cI cZ cJ g0 q1 g8 q3 g10 g11 q5 r4 G10 G11 G12 (uG.1, uG.2.1, uG.2.2.1, uG.2.2.2.1, uG.2.2.2.2.1, uG.2.2.2.2.2.1, uG.2.2.2.2.2.2.1, (a1.toNatClampNeg, (fun _ => (0 : Int32))), uG.2.2.2.2.2.2.2.2.1, (a1.toNatClampNeg, fun _ => (2, fun _ => 0)), uG.2.2.2.2.2.2.2.2.2.2.1, uG.2.2.2.2.2.2.2.2.2.2.2.1, (0, fun _ => (0, fun _ => 0)), uG.2.2.2.2.2.2.2.2.2.2.2.2.2) ++ ([] : va_W))) := hD
  refine lv_aload_n hx hb dX5_begin_25 rfl (lv_at hl 0 rfl) ?_
  refine lv_iconst (v := (0 : Int32)) hx hb dX5_begin_26 (by decide) ?_
  refine va_put (D := (dC, dI)) (ci := 5) (v := .int (0 : Int32)) (ty := .int) (C := RX5) (T := TX5) (N := 14) hx hb hts inX5 tyX5 tyX5_ok nmX5 hown hK hP hD hS 0 rfl rfl 1 (by decide) (hts _ qf_X5_36) (fun _ h9 => h9) rfl (tyX5_ok 1 (by decide)) rfl rfl (Nat.le_of_ble_eq_true rfl) dX5_begin_27 (fun H locs hP hD hS => ?_)
  have hP : va_P (dC, dI) vwCl (([] : va_W) ++ (wX5 cI cZ cJ g0 q1 g8 q3 g10 g11 q5 r4 G10 G11 G12 (uG.1, (0 : Int32), uG.2.2.1, uG.2.2.2.1, uG.2.2.2.2.1, uG.2.2.2.2.2.1, uG.2.2.2.2.2.2.1, (a1.toNatClampNeg, (fun _ => (0 : Int32))), uG.2.2.2.2.2.2.2.2.1, (a1.toNatClampNeg, fun _ => (2, fun _ => 0)), uG.2.2.2.2.2.2.2.2.2.2.1, uG.2.2.2.2.2.2.2.2.2.2.2.1, (0, fun _ => (0, fun _ => 0)), uG.2.2.2.2.2.2.2.2.2.2.2.2.2) ++ ([] : va_W))) H := hP
  have hD : va_D A (([] : va_W) ++ (wX5 cI cZ cJ g0 q1 g8 q3 g10 g11 q5 r4 G10 G11 G12 (uG.1, (0 : Int32), uG.2.2.1, uG.2.2.2.1, uG.2.2.2.2.1, uG.2.2.2.2.2.1, uG.2.2.2.2.2.2.1, (a1.toNatClampNeg, (fun _ => (0 : Int32))), uG.2.2.2.2.2.2.2.2.1, (a1.toNatClampNeg, fun _ => (2, fun _ => 0)), uG.2.2.2.2.2.2.2.2.2.2.1, uG.2.2.2.2.2.2.2.2.2.2.2.1, (0, fun _ => (0, fun _ => 0)), uG.2.2.2.2.2.2.2.2.2.2.2.2.2) ++ ([] : va_W))) := hD
  refine lv_aload_n hx hb dX5_begin_30 rfl (lv_at hl 0 rfl) ?_
  refine lv_iconst (v := (0 : Int32)) hx hb dX5_begin_31 (by decide) ?_
  refine va_put (D := (dC, dI)) (ci := 5) (v := .int (0 : Int32)) (ty := .int) (C := RX5) (T := TX5) (N := 14) hx hb hts inX5 tyX5 tyX5_ok nmX5 hown hK hP hD hS 0 rfl rfl 2 (by decide) (hts _ qf_X5_39) (fun _ h9 => h9) rfl (tyX5_ok 2 (by decide)) rfl rfl (Nat.le_of_ble_eq_true rfl) dX5_begin_32 (fun H locs hP hD hS => ?_)
  have hP : va_P (dC, dI) vwCl (([] : va_W) ++ (wX5 cI cZ cJ g0 q1 g8 q3 g10 g11 q5 r4 G10 G11 G12 (uG.1, (0 : Int32), (0 : Int32), uG.2.2.2.1, uG.2.2.2.2.1, uG.2.2.2.2.2.1, uG.2.2.2.2.2.2.1, (a1.toNatClampNeg, (fun _ => (0 : Int32))), uG.2.2.2.2.2.2.2.2.1, (a1.toNatClampNeg, fun _ => (2, fun _ => 0)), uG.2.2.2.2.2.2.2.2.2.2.1, uG.2.2.2.2.2.2.2.2.2.2.2.1, (0, fun _ => (0, fun _ => 0)), uG.2.2.2.2.2.2.2.2.2.2.2.2.2) ++ ([] : va_W))) H := hP
  have hD : va_D A (([] : va_W) ++ (wX5 cI cZ cJ g0 q1 g8 q3 g10 g11 q5 r4 G10 G11 G12 (uG.1, (0 : Int32), (0 : Int32), uG.2.2.2.1, uG.2.2.2.2.1, uG.2.2.2.2.2.1, uG.2.2.2.2.2.2.1, (a1.toNatClampNeg, (fun _ => (0 : Int32))), uG.2.2.2.2.2.2.2.2.1, (a1.toNatClampNeg, fun _ => (2, fun _ => 0)), uG.2.2.2.2.2.2.2.2.2.2.1, uG.2.2.2.2.2.2.2.2.2.2.2.1, (0, fun _ => (0, fun _ => 0)), uG.2.2.2.2.2.2.2.2.2.2.2.2.2) ++ ([] : va_W))) := hD
  refine lv_aload_n hx hb dX5_begin_35 rfl (lv_at hl 0 rfl) ?_
  refine lv_iconst (v := (0 : Int32)) hx hb dX5_begin_36 (by decide) ?_
  refine va_put (D := (dC, dI)) (ci := 5) (v := .int (0 : Int32)) (ty := .int) (C := RX5) (T := TX5) (N := 14) hx hb hts inX5 tyX5 tyX5_ok nmX5 hown hK hP hD hS 0 rfl rfl 3 (by decide) (hts _ qf_X5_42) (fun _ h9 => h9) rfl (tyX5_ok 3 (by decide)) rfl rfl (Nat.le_of_ble_eq_true rfl) dX5_begin_37 (fun H locs hP hD hS => ?_)
  have hP : va_P (dC, dI) vwCl (([] : va_W) ++ (wX5 cI cZ cJ g0 q1 g8 q3 g10 g11 q5 r4 G10 G11 G12 (uG.1, (0 : Int32), (0 : Int32), (0 : Int32), uG.2.2.2.2.1, uG.2.2.2.2.2.1, uG.2.2.2.2.2.2.1, (a1.toNatClampNeg, (fun _ => (0 : Int32))), uG.2.2.2.2.2.2.2.2.1, (a1.toNatClampNeg, fun _ => (2, fun _ => 0)), uG.2.2.2.2.2.2.2.2.2.2.1, uG.2.2.2.2.2.2.2.2.2.2.2.1, (0, fun _ => (0, fun _ => 0)), uG.2.2.2.2.2.2.2.2.2.2.2.2.2) ++ ([] : va_W))) H := hP
  have hD : va_D A (([] : va_W) ++ (wX5 cI cZ cJ g0 q1 g8 q3 g10 g11 q5 r4 G10 G11 G12 (uG.1, (0 : Int32), (0 : Int32), (0 : Int32), uG.2.2.2.2.1, uG.2.2.2.2.2.1, uG.2.2.2.2.2.2.1, (a1.toNatClampNeg, (fun _ => (0 : Int32))), uG.2.2.2.2.2.2.2.2.1, (a1.toNatClampNeg, fun _ => (2, fun _ => 0)), uG.2.2.2.2.2.2.2.2.2.2.1, uG.2.2.2.2.2.2.2.2.2.2.2.1, (0, fun _ => (0, fun _ => 0)), uG.2.2.2.2.2.2.2.2.2.2.2.2.2) ++ ([] : va_W))) := hD
  refine lv_aload_n hx hb dX5_begin_40 rfl (lv_at hl 0 rfl) ?_
  refine lv_iconst (v := (0 : Int32)) hx hb dX5_begin_41 (by decide) ?_
  refine va_put (D := (dC, dI)) (ci := 5) (v := .int (0 : Int32)) (ty := .int) (C := RX5) (T := TX5) (N := 14) hx hb hts inX5 tyX5 tyX5_ok nmX5 hown hK hP hD hS 0 rfl rfl 4 (by decide) (hts _ qf_X5_45) (fun _ h9 => h9) rfl (tyX5_ok 4 (by decide)) rfl rfl (Nat.le_of_ble_eq_true rfl) dX5_begin_42 (fun H locs hP hD hS => ?_)
  have hP : va_P (dC, dI) vwCl (([] : va_W) ++ (wX5 cI cZ cJ g0 q1 g8 q3 g10 g11 q5 r4 G10 G11 G12 (uG.1, (0 : Int32), (0 : Int32), (0 : Int32), (0 : Int32), uG.2.2.2.2.2.1, uG.2.2.2.2.2.2.1, (a1.toNatClampNeg, (fun _ => (0 : Int32))), uG.2.2.2.2.2.2.2.2.1, (a1.toNatClampNeg, fun _ => (2, fun _ => 0)), uG.2.2.2.2.2.2.2.2.2.2.1, uG.2.2.2.2.2.2.2.2.2.2.2.1, (0, fun _ => (0, fun _ => 0)), uG.2.2.2.2.2.2.2.2.2.2.2.2.2) ++ ([] : va_W))) H := hP
  have hD : va_D A (([] : va_W) ++ (wX5 cI cZ cJ g0 q1 g8 q3 g10 g11 q5 r4 G10 G11 G12 (uG.1, (0 : Int32), (0 : Int32), (0 : Int32), (0 : Int32), uG.2.2.2.2.2.1, uG.2.2.2.2.2.2.1, (a1.toNatClampNeg, (fun _ => (0 : Int32))), uG.2.2.2.2.2.2.2.2.1, (a1.toNatClampNeg, fun _ => (2, fun _ => 0)), uG.2.2.2.2.2.2.2.2.2.2.1, uG.2.2.2.2.2.2.2.2.2.2.2.1, (0, fun _ => (0, fun _ => 0)), uG.2.2.2.2.2.2.2.2.2.2.2.2.2) ++ ([] : va_W))) := hD
  refine lv_aload_n hx hb dX5_begin_45 rfl (lv_at hl 0 rfl) ?_
  refine lv_iconst (v := (0 : Int32)) hx hb dX5_begin_46 (by decide) ?_
  refine va_put (D := (dC, dI)) (ci := 5) (v := .int (0 : Int32)) (ty := .int) (C := RX5) (T := TX5) (N := 14) hx hb hts inX5 tyX5 tyX5_ok nmX5 hown hK hP hD hS 0 rfl rfl 6 (by decide) (hts _ qf_X5_48) (fun _ h9 => h9) rfl (tyX5_ok 6 (by decide)) rfl rfl (Nat.le_of_ble_eq_true rfl) dX5_begin_47 (fun H locs hP hD hS => ?_)
  have hP : va_P (dC, dI) vwCl (([] : va_W) ++ (wX5 cI cZ cJ g0 q1 g8 q3 g10 g11 q5 r4 G10 G11 G12 (uG.1, (0 : Int32), (0 : Int32), (0 : Int32), (0 : Int32), uG.2.2.2.2.2.1, (0 : Int32), (a1.toNatClampNeg, (fun _ => (0 : Int32))), uG.2.2.2.2.2.2.2.2.1, (a1.toNatClampNeg, fun _ => (2, fun _ => 0)), uG.2.2.2.2.2.2.2.2.2.2.1, uG.2.2.2.2.2.2.2.2.2.2.2.1, (0, fun _ => (0, fun _ => 0)), uG.2.2.2.2.2.2.2.2.2.2.2.2.2) ++ ([] : va_W))) H := hP
  have hD : va_D A (([] : va_W) ++ (wX5 cI cZ cJ g0 q1 g8 q3 g10 g11 q5 r4 G10 G11 G12 (uG.1, (0 : Int32), (0 : Int32), (0 : Int32), (0 : Int32), uG.2.2.2.2.2.1, (0 : Int32), (a1.toNatClampNeg, (fun _ => (0 : Int32))), uG.2.2.2.2.2.2.2.2.1, (a1.toNatClampNeg, fun _ => (2, fun _ => 0)), uG.2.2.2.2.2.2.2.2.2.2.1, uG.2.2.2.2.2.2.2.2.2.2.2.1, (0, fun _ => (0, fun _ => 0)), uG.2.2.2.2.2.2.2.2.2.2.2.2.2) ++ ([] : va_W))) := hD
  have hok := Option.some.inj hok
  subst hok
  exact eAv S hr hlk (q1, g8, q3, g10, g11, q5, r4, G10, G11, G12) (va_Pmid hP) (va_Dmid hD) hS (Nat.le_of_ble_eq_true rfl) (Nat.le_of_ble_eq_true rfl) dX5_begin_50

def p_X5_add_L20  : Nat → tX5 → (Nat → Int32) → Nat → Nat → Int32 → Int32 → Int32 → Int32 → Option (Int32 × tX5)
  | 0, _, _, _, _, _, _, _, _ => none
  | n + 1, uG, f20_0, n20_0, w20_4, l20_1, l20_2, l20_3, l20_6 =>
    gN w20_4 uG.2.2.2.2.2.2.2.2.2.1.1 (
    if (nI (uG.2.2.2.2.2.2.2.2.2.1.2 w20_4).1) ≤ l20_6 then
      gd (nI (uG.2.2.2.2.2.2.2.2.2.1.2 w20_4).1) n20_0 (
      gd ((nI (uG.2.2.2.2.2.2.2.2.2.1.2 w20_4).1) + (1 : Int32)) n20_0 (
      gd l20_1 uG.2.2.2.2.2.2.2.2.2.1.1 (
      gq (w20_4 = l20_1.toNatClampNeg) (
      some ((((nI ((uG.2.2.2.2.2.2.2.2.2.1.2 l20_1.toNatClampNeg).1)) - (2 : Int32)) / (2 : Int32)), (uG.1, uG.2.1, uG.2.2.1, uG.2.2.2.1, uG.2.2.2.2.1, uG.2.2.2.2.2.1, uG.2.2.2.2.2.2.1, uG.2.2.2.2.2.2.2.1, uG.2.2.2.2.2.2.2.2.1, (qR uG.2.2.2.2.2.2.2.2.2.1 l20_1.toNatClampNeg (n20_0, (upd (upd f20_0 (nI (uG.2.2.2.2.2.2.2.2.2.1.2 l20_1.toNatClampNeg).1).toNatClampNeg l20_2) ((nI (uG.2.2.2.2.2.2.2.2.2.1.2 l20_1.toNatClampNeg).1) + (1 : Int32)).toNatClampNeg l20_3))), uG.2.2.2.2.2.2.2.2.2.2))))))
    else
      gd l20_6 ((uG.2.2.2.2.2.2.2.2.2.1.2 w20_4).1) (
      gd l20_6 n20_0 (
      (p_X5_add_L20 n) uG (upd f20_0 l20_6.toNatClampNeg ((uG.2.2.2.2.2.2.2.2.2.1.2 w20_4).2 l20_6.toNatClampNeg)) n20_0 w20_4 l20_1 l20_2 l20_3 (l20_6 + 1))))
def p_X5_add (uG : tX5) (a1 : Int32) (a2 : Int32) (a3 : Int32) : Option (Int32 × tX5) :=
  gd a1 uG.2.2.2.2.2.2.2.2.2.1.1 (
  gL ((nI (uG.2.2.2.2.2.2.2.2.2.1.2 a1.toNatClampNeg).1) + (2 : Int32)) 20 (
  p_X5_add_L20 200 uG (fun _ => (0 : Int32)) (((nI (uG.2.2.2.2.2.2.2.2.2.1.2 a1.toNatClampNeg).1) + (2 : Int32)).toNatClampNeg) a1.toNatClampNeg a1 a2 a3 (0 : Int32)))
set_option maxHeartbeats 4000000 in
set_option maxRecDepth 100000 in
theorem c_X5_add (l : Launch) (dC : Nat → ClassId) (dI : Nat → Nat → Nat) (cI cZ cJ : ClassId) (g0 : Nat) (g7 g8 g9 g10 g11 g12 : Nat) (G9 G10 G11 G12 : Nat → Nat) (sz : Nat) (uG : tX5) (a1 : Int32) (a2 : Int32) (a3 : Int32) {z : (Int32 × tX5)} (hok : p_X5_add uG a1 a2 a3 = some z) : Met l yX5_add (Cond.code yX5_add cX5_add 7 (some .int) :: lw_all) { frames := 0, cells := 1, slots := 20, locals := 0 } (prA (dC, dI) vwCl (TYG cI cZ cJ) (wX5 cI cZ cJ g0 g7 g8 g9 g10 g11 g12 G9 G10 G11 G12 uG) sz [.ref g0, .int a1, .int a2, .int a3]) (va_Qi (fun (r : Int32) (_ : (Nat × Nat × Nat × Nat × Nat × Nat × (Nat → Nat) × (Nat → Nat) × (Nat → Nat) × (Nat → Nat))) => r = z.1) (fun a9 t => va_P (dC, dI) vwCl (wX5 cI cZ cJ g0 a9.1 a9.2.1 a9.2.2.1 a9.2.2.2.1 a9.2.2.2.2.1 a9.2.2.2.2.2.1 a9.2.2.2.2.2.2.1 a9.2.2.2.2.2.2.2.1 a9.2.2.2.2.2.2.2.2.1 a9.2.2.2.2.2.2.2.2.2 z.2) t.heap ∧ va_D (va_A (wX5 cI cZ cJ g0 g7 g8 g9 g10 g11 g12 G9 G10 G11 G12 uG) sz) (wX5 cI cZ cJ g0 a9.1 a9.2.1 a9.2.2.1 a9.2.2.2.1 a9.2.2.2.2.1 a9.2.2.2.2.2.1 a9.2.2.2.2.2.2.1 a9.2.2.2.2.2.2.2.1 a9.2.2.2.2.2.2.2.2.1 a9.2.2.2.2.2.2.2.2.2 z.2)) (va_A (wX5 cI cZ cJ g0 g7 g8 g9 g10 g11 g12 G9 G10 G11 G12 uG) sz)) 1 20 (va_A (wX5 cI cZ cJ g0 g7 g8 g9 g10 g11 g12 G9 G10 G11 G12 uG) sz) := by
  refine oM (by decide) (Nat.le_of_ble_eq_true rfl) ?_
  intro p e s m args below meth c S hr hlk hnm hB ls hl
  have hx := S.1
  have hb := S.2.1
  have hml := S.2.2.1
  have hown : s.vm.findClass RX5 = some m.cls := S.2.2.2.1
  have hts := S.2.2.2.2
  have S : CallFix p m c cX5_add 7 s args lw_all RX5 := S
  have hl : lv_has ls 7 [(0, .ref g0), (1, .int a1), (2, .int a2), (3, .int a3)] := hl
  obtain ⟨hsz, hP, hK, hD0, hO⟩ := hB
  subst hsz
  have hD := hD0.self (sz := s.heap.size)
  generalize hAe : va_A (wX5 cI cZ cJ g0 g7 g8 g9 g10 g11 g12 G9 G10 G11 G12 uG) s.heap.size = A at hD ⊢
  have hA : ∀ q : Nat, s.heap.size ≤ q → A q := fun q h => by rw [← hAe]; exact Or.inr h
  have hS : va_S A s.heap s.heap [] := va_S.rf
  have hP : va_P (dC, dI) vwCl (([] : va_W) ++ ((wX5 cI cZ cJ g0 g7 g8 g9 g10 g11 g12 G9 G10 G11 G12 uG) ++ ([] : va_W))) s.heap := zx_P (wa := []) hP
  have hD : va_D A (([] : va_W) ++ ((wX5 cI cZ cJ g0 g7 g8 g9 g10 g11 g12 G9 G10 G11 G12 uG) ++ ([] : va_W))) := zx_D (wa := []) hD
  have hK2 : va_K (dC, dI) vwCl (TYS cI cZ) s := hK.sub [0, 1] rfl
  have L20 : ∀ n20 : Nat, ∀ (g7 : Nat) (g8 : Nat) (g9 : Nat) (g10 : Nat) (g11 : Nat) (g12 : Nat) (G9 : (Nat → Nat)) (G10 : (Nat → Nat)) (G11 : (Nat → Nat)) (G12 : (Nat → Nat)) (uG : tX5) (q20_0 : Nat) (f20_0 : (Nat → Int32)) (n20_0 : Nat) (w20_4 : Nat) (l20_1 : Int32) (l20_2 : Int32) (l20_3 : Int32) (l20_6 : Int32) (H : Heap) (locs : List Loc) (hP : va_P (dC, dI) vwCl (([] : va_W) ++ (wX5 cI cZ cJ g0 g7 g8 g9 g10 g11 g12 G9 G10 G11 G12 uG ++ [(q20_0, .inl (cI, n20_0, .inl f20_0))])) H) (hD : va_D A (([] : va_W) ++ (wX5 cI cZ cJ g0 g7 g8 g9 g10 g11 g12 G9 G10 G11 G12 uG ++ [(q20_0, .inl (cI, n20_0, .inl f20_0))]))) (hS : va_S A s.heap H locs) (ls : Array Slot) (hl : lv_has ls 7 [(0, .ref g0), (1, .int l20_1), (2, .int l20_2), (3, .int l20_3), (4, .ref (G9 w20_4)), (5, .ref q20_0), (6, .int l20_6)]) (hok : p_X5_add_L20 n20 uG f20_0 n20_0 w20_4 l20_1 l20_2 l20_3 l20_6 = some z), W p l e { frames := 0, cells := 1, slots := 20, locals := 0 } s m args below meth c H locs (0 + 1) (0 + 20) (MQ below (va_Qi (fun (r : Int32) (_ : (Nat × Nat × Nat × Nat × Nat × Nat × (Nat → Nat) × (Nat → Nat) × (Nat → Nat) × (Nat → Nat))) => r = z.1) (fun a9 t => va_P (dC, dI) vwCl (wX5 cI cZ cJ g0 a9.1 a9.2.1 a9.2.2.1 a9.2.2.2.1 a9.2.2.2.2.1 a9.2.2.2.2.2.1 a9.2.2.2.2.2.2.1 a9.2.2.2.2.2.2.2.1 a9.2.2.2.2.2.2.2.2.1 a9.2.2.2.2.2.2.2.2.2 z.2) t.heap ∧ va_D A (wX5 cI cZ cJ g0 a9.1 a9.2.1 a9.2.2.1 a9.2.2.2.1 a9.2.2.2.2.1 a9.2.2.2.2.2.1 a9.2.2.2.2.2.2.1 a9.2.2.2.2.2.2.2.1 a9.2.2.2.2.2.2.2.2.1 a9.2.2.2.2.2.2.2.2.2 z.2)) A) args s 1 20 A) (F0 m 20 ls []) := by
    intro n20
    induction n20 with
    | zero =>
      intro g7 g8 g9 g10 g11 g12 G9 G10 G11 G12 uG q20_0 f20_0 n20_0 w20_4 l20_1 l20_2 l20_3 l20_6 H locs hP hD hS ls hl hok
      rw [p_X5_add_L20] at hok
      cases hok
    | succ n20 ih20 =>
      intro g7 g8 g9 g10 g11 g12 G9 G10 G11 G12 uG q20_0 f20_0 n20_0 w20_4 l20_1 l20_2 l20_3 l20_6 H locs hP hD hS ls hl hok
      rw [p_X5_add_L20] at hok
      refine lv_iload hx hb dX5_add_20 (lv_at hl 6 rfl) ?_
      refine lv_aload hx hb dX5_add_22 (lv_at hl 4 rfl) ?_
      obtain ⟨hr4, hok⟩ := gN_some hok
      refine rn9 hx hb hK 0 rfl hP (k := w20_4) hr4 rfl dX5_add_24 ?_
      refine lv_icmp_ge (tgt := 44) hx hb dX5_add_25 (by decide) (fun hc => ?_) (fun hc => ?_)
      · have hok := ip hok hc
        refine lv_aload hx hb dX5_add_44 (lv_at hl 5 rfl) ?_
        refine lv_aload hx hb dX5_add_46 (lv_at hl 4 rfl) ?_
        refine rn9 hx hb hK 0 rfl hP (k := w20_4) hr4 rfl dX5_add_48 ?_
        refine lv_iload_n hx hb dX5_add_49 rfl (lv_at hl 2 rfl) ?_
        obtain ⟨hi5, hok⟩ := gd_some hok
        refine xs hx hb hK hP hD hS 0 0 rfl rfl (j := (nI (uG.2.2.2.2.2.2.2.2.2.1.2 w20_4).1).toNatClampNeg) rfl hi5 dX5_add_50 (fun H locs hP hD hS => ?_)
        have hP : va_P (dC, dI) vwCl (([] : va_W) ++ (wX5 cI cZ cJ g0 g7 g8 g9 g10 g11 g12 G9 G10 G11 G12 uG ++ [(q20_0, .inl (cI, n20_0, .inl (upd f20_0 (nI (uG.2.2.2.2.2.2.2.2.2.1.2 w20_4).1).toNatClampNeg l20_2)))])) H := hP
        have hD : va_D A (([] : va_W) ++ (wX5 cI cZ cJ g0 g7 g8 g9 g10 g11 g12 G9 G10 G11 G12 uG ++ [(q20_0, .inl (cI, n20_0, .inl (upd f20_0 (nI (uG.2.2.2.2.2.2.2.2.2.1.2 w20_4).1).toNatClampNeg l20_2)))])) := hD
        refine lv_aload hx hb dX5_add_51 (lv_at hl 5 rfl) ?_
        refine lv_aload hx hb dX5_add_53 (lv_at hl 4 rfl) ?_
        refine rn9 hx hb hK 0 rfl hP (k := w20_4) hr4 rfl dX5_add_55 ?_
        refine lv_iconst (v := (1 : Int32)) hx hb dX5_add_56 (by decide) ?_
        refine lv_iadd hx hb dX5_add_57 ?_
        refine lv_iload_n hx hb dX5_add_58 rfl (lv_at hl 3 rfl) ?_
        obtain ⟨hi6, hok⟩ := gd_some hok
        refine xs hx hb hK hP hD hS 0 0 rfl rfl (j := ((nI (uG.2.2.2.2.2.2.2.2.2.1.2 w20_4).1) + (1 : Int32)).toNatClampNeg) rfl hi6 dX5_add_59 (fun H locs hP hD hS => ?_)
        have hP : va_P (dC, dI) vwCl (([] : va_W) ++ (wX5 cI cZ cJ g0 g7 g8 g9 g10 g11 g12 G9 G10 G11 G12 uG ++ [(q20_0, .inl (cI, n20_0, .inl (upd (upd f20_0 (nI (uG.2.2.2.2.2.2.2.2.2.1.2 w20_4).1).toNatClampNeg l20_2) ((nI (uG.2.2.2.2.2.2.2.2.2.1.2 w20_4).1) + (1 : Int32)).toNatClampNeg l20_3)))])) H := hP
        have hD : va_D A (([] : va_W) ++ (wX5 cI cZ cJ g0 g7 g8 g9 g10 g11 g12 G9 G10 G11 G12 uG ++ [(q20_0, .inl (cI, n20_0, .inl (upd (upd f20_0 (nI (uG.2.2.2.2.2.2.2.2.2.1.2 w20_4).1).toNatClampNeg l20_2) ((nI (uG.2.2.2.2.2.2.2.2.2.1.2 w20_4).1) + (1 : Int32)).toNatClampNeg l20_3)))])) := hD
        refine lv_aload_n hx hb dX5_add_60 rfl (lv_at hl 0 rfl) ?_
        refine va_get (D := (dC, dI)) (ci := 5) (v := .ref g9) (C := RX5) (T := TX5) (N := 14) hx hb hts inX5 hown hK hP 0 rfl rfl 9 (by decide) (hts _ qf_X5_22) (fun _ h9 => h9) rfl dX5_add_61 ?_
        refine lv_iload_n hx hb dX5_add_64 rfl (lv_at hl 1 rfl) ?_
        refine lv_aload hx hb dX5_add_65 (lv_at hl 5 rfl) ?_
        obtain ⟨hi7, hok⟩ := gd_some hok
        obtain ⟨he8, hok9⟩ := gq_some hok
        clear hok; have hP9 := hP; have hD9 := hD; have hS9 := hS; have hl9 := hl
        subst he8
        have hok := hok9; have hP := hP9; have hD := hD9; have hS := hS9; have hl := hl9
        obtain ⟨iq, hiq, -⟩ := xe_at (wa := ([] : va_W)) (wb := wX5 cI cZ cJ g0 g7 g8 g9 g10 g11 g12 G9 G10 G11 G12 uG) (ex := [(q20_0, .inl (cI, n20_0, .inl (upd (upd f20_0 (nI (uG.2.2.2.2.2.2.2.2.2.1.2 l20_1.toNatClampNeg).1).toNatClampNeg l20_2) ((nI (uG.2.2.2.2.2.2.2.2.2.1.2 l20_1.toNatClampNeg).1) + (1 : Int32)).toNatClampNeg l20_3)))]) 0 rfl
        refine fg_st hx hb hK hP hD hS hO 3 2 iq 0 rfl rfl hiq rfl hi7 dX5_add_67 (fun H locs hP hD hS => ?_)
        obtain ⟨hP, hD⟩ := ab9a (wa := ([] : va_W)) (vp_inL rfl hi7) hP hD
        have hP : va_P (dC, dI) vwCl (([] : va_W) ++ (wX5 cI cZ cJ g0 g7 g8 g9 g10 g11 g12 (va_up G9 l20_1.toNatClampNeg q20_0) G10 G11 G12 (uG.1, uG.2.1, uG.2.2.1, uG.2.2.2.1, uG.2.2.2.2.1, uG.2.2.2.2.2.1, uG.2.2.2.2.2.2.1, uG.2.2.2.2.2.2.2.1, uG.2.2.2.2.2.2.2.2.1, (qR uG.2.2.2.2.2.2.2.2.2.1 l20_1.toNatClampNeg (n20_0, (upd (upd f20_0 (nI (uG.2.2.2.2.2.2.2.2.2.1.2 l20_1.toNatClampNeg).1).toNatClampNeg l20_2) ((nI (uG.2.2.2.2.2.2.2.2.2.1.2 l20_1.toNatClampNeg).1) + (1 : Int32)).toNatClampNeg l20_3))), uG.2.2.2.2.2.2.2.2.2.2) ++ [((G9 l20_1.toNatClampNeg), .inl (cI, (uG.2.2.2.2.2.2.2.2.2.1.2 l20_1.toNatClampNeg).1, .inl ((uG.2.2.2.2.2.2.2.2.2.1.2 l20_1.toNatClampNeg).2)))])) H := hP
        have hD : va_D A (([] : va_W) ++ (wX5 cI cZ cJ g0 g7 g8 g9 g10 g11 g12 (va_up G9 l20_1.toNatClampNeg q20_0) G10 G11 G12 (uG.1, uG.2.1, uG.2.2.1, uG.2.2.2.1, uG.2.2.2.2.1, uG.2.2.2.2.2.1, uG.2.2.2.2.2.2.1, uG.2.2.2.2.2.2.2.1, uG.2.2.2.2.2.2.2.2.1, (qR uG.2.2.2.2.2.2.2.2.2.1 l20_1.toNatClampNeg (n20_0, (upd (upd f20_0 (nI (uG.2.2.2.2.2.2.2.2.2.1.2 l20_1.toNatClampNeg).1).toNatClampNeg l20_2) ((nI (uG.2.2.2.2.2.2.2.2.2.1.2 l20_1.toNatClampNeg).1) + (1 : Int32)).toNatClampNeg l20_3))), uG.2.2.2.2.2.2.2.2.2.2) ++ [((G9 l20_1.toNatClampNeg), .inl (cI, (uG.2.2.2.2.2.2.2.2.2.1.2 l20_1.toNatClampNeg).1, .inl ((uG.2.2.2.2.2.2.2.2.2.1.2 l20_1.toNatClampNeg).2)))])) := hD
        refine lv_aload hx hb dX5_add_68 (lv_at hl 4 rfl) ?_
        refine xn hx hb hK hP 0 0 rfl rfl dX5_add_70 ?_
        refine lv_iconst (v := (2 : Int32)) hx hb dX5_add_71 (by decide) ?_
        refine lv_isub hx hb dX5_add_72 ?_
        refine lv_iconst (v := (2 : Int32)) hx hb dX5_add_73 (by decide) ?_
        refine lv_idiv hx hb dX5_add_74 (by decide) ?_
        have hok := Option.some.inj hok
        subst hok
        exact eAi S hr hlk rfl (g7, g8, g9, g10, g11, g12, (va_up G9 l20_1.toNatClampNeg q20_0), G10, G11, G12) (va_Pmid hP) (va_Dmid hD) hS (Nat.le_of_ble_eq_true rfl) (Nat.le_of_ble_eq_true rfl) dX5_add_75
      · have hok := iq hok hc
        refine lv_aload hx hb dX5_add_28 (lv_at hl 5 rfl) ?_
        refine lv_iload hx hb dX5_add_30 (lv_at hl 6 rfl) ?_
        refine lv_aload hx hb dX5_add_32 (lv_at hl 4 rfl) ?_
        refine lv_iload hx hb dX5_add_34 (lv_at hl 6 rfl) ?_
        obtain ⟨hi9, hok⟩ := gd_some hok
        refine rl9 hx hb hK 0 rfl hP (k := w20_4) (j := l20_6.toNatClampNeg) hr4 rfl rfl hi9 dX5_add_36 ?_
        obtain ⟨hi10, hok⟩ := gd_some hok
        refine xs hx hb hK hP hD hS 0 0 rfl rfl (j := l20_6.toNatClampNeg) rfl hi10 dX5_add_37 (fun H locs hP hD hS => ?_)
        have hP : va_P (dC, dI) vwCl (([] : va_W) ++ (wX5 cI cZ cJ g0 g7 g8 g9 g10 g11 g12 G9 G10 G11 G12 uG ++ [(q20_0, .inl (cI, n20_0, .inl (upd f20_0 l20_6.toNatClampNeg ((uG.2.2.2.2.2.2.2.2.2.1.2 w20_4).2 l20_6.toNatClampNeg))))])) H := hP
        have hD : va_D A (([] : va_W) ++ (wX5 cI cZ cJ g0 g7 g8 g9 g10 g11 g12 G9 G10 G11 G12 uG ++ [(q20_0, .inl (cI, n20_0, .inl (upd f20_0 l20_6.toNatClampNeg ((uG.2.2.2.2.2.2.2.2.2.1.2 w20_4).2 l20_6.toNatClampNeg))))])) := hD
        refine lv_iinc (v := (l20_6 + 1)) (lv' := [(6, .int (l20_6 + 1)), (0, .ref g0), (1, .int l20_1), (2, .int l20_2), (3, .int l20_3), (4, .ref (G9 w20_4)), (5, .ref q20_0)]) hx hb dX5_add_38 hl (k := 6) rfl rfl (by decide) rfl (fun ls hl => ?_)
        refine lv_goto (tgt := 20) hx hb dX5_add_41 (by decide) ?_
        exact ih20 g7 g8 g9 g10 g11 g12 G9 G10 G11 G12 uG q20_0 (upd f20_0 l20_6.toNatClampNeg ((uG.2.2.2.2.2.2.2.2.2.1.2 w20_4).2 l20_6.toNatClampNeg)) n20_0 w20_4 l20_1 l20_2 l20_3 (l20_6 + 1) _ _ hP hD hS _ (lv_sub hl [1, 2, 3, 4, 5, 6, 0] rfl) hok
  unfold p_X5_add at hok
  refine lv_aload_n hx hb dX5_add_0 rfl (lv_at hl 0 rfl) ?_
  refine va_get (D := (dC, dI)) (ci := 5) (v := .ref g9) (C := RX5) (T := TX5) (N := 14) hx hb hts inX5 hown hK hP 0 rfl rfl 9 (by decide) (hts _ qf_X5_22) (fun _ h9 => h9) rfl dX5_add_1 ?_
  refine lv_iload_n hx hb dX5_add_4 rfl (lv_at hl 1 rfl) ?_
  obtain ⟨hi1, hok⟩ := gd_some hok
  refine ra9 hx hb hK 2 rfl hP (j := a1.toNatClampNeg) rfl hi1 dX5_add_5 ?_
  refine lv_astore (lv' := [(4, .ref (G9 a1.toNatClampNeg)), (0, .ref g0), (1, .int a1), (2, .int a2), (3, .int a3)]) hx hb dX5_add_6 hl (by decide) rfl (fun ls hl => ?_)
  refine lv_aload hx hb dX5_add_8 (lv_at hl 0 rfl) ?_
  refine rn9 hx hb hK 0 rfl hP (k := a1.toNatClampNeg) (vp_inL rfl hi1) rfl dX5_add_10 ?_
  refine lv_iconst (v := (2 : Int32)) hx hb dX5_add_11 (by decide) ?_
  refine lv_iadd hx hb dX5_add_12 ?_
  obtain ⟨hg3, hok⟩ := gL_some hok
  refine va_newaI (n := ((nI (uG.2.2.2.2.2.2.2.2.2.1.2 a1.toNatClampNeg).1) + (2 : Int32)).toNatClampNeg) hx hb (hts _ qy_int) hK 0 rfl hP hD hS hA hg3.1 rfl (by have := hg3.2; omega) (Nat.le_of_ble_eq_true rfl) (Nat.le_trans (Nat.add_le_add_left hg3.2 _) (Nat.le_of_ble_eq_true rfl)) dX5_add_13 (fun q2 H hP hD hS => ?_)
  refine W.widen (k := 0 + 1) (n := 0 + 20) (Nat.le_refl _) (Nat.add_le_add_left hg3.2 _) ?_
  have hP := ra_P hP
  have hD := ra_D hD
  have hP : va_P (dC, dI) vwCl (([] : va_W) ++ (wX5 cI cZ cJ g0 g7 g8 g9 g10 g11 g12 G9 G10 G11 G12 uG ++ [(q2, .inl (cI, ((nI (uG.2.2.2.2.2.2.2.2.2.1.2 a1.toNatClampNeg).1) + (2 : Int32)).toNatClampNeg, .inl (fun _ => (0 : Int32))))])) H := hP
  have hD : va_D A (([] : va_W) ++ (wX5 cI cZ cJ g0 g7 g8 g9 g10 g11 g12 G9 G10 G11 G12 uG ++ [(q2, .inl (cI, ((nI (uG.2.2.2.2.2.2.2.2.2.1.2 a1.toNatClampNeg).1) + (2 : Int32)).toNatClampNeg, .inl (fun _ => (0 : Int32))))])) := hD
  refine lv_astore (lv' := [(5, .ref q2), (4, .ref (G9 a1.toNatClampNeg)), (0, .ref g0), (1, .int a1), (2, .int a2), (3, .int a3)]) hx hb dX5_add_15 hl (by decide) rfl (fun ls hl => ?_)
  refine lv_iconst (v := (0 : Int32)) hx hb dX5_add_17 (by decide) ?_
  refine lv_istore (lv' := [(6, .int (0 : Int32)), (5, .ref q2), (4, .ref (G9 a1.toNatClampNeg)), (0, .ref g0), (1, .int a1), (2, .int a2), (3, .int a3)]) hx hb dX5_add_18 hl (by decide) rfl (fun ls hl => ?_)
  exact L20 200 g7 g8 g9 g10 g11 g12 G9 G10 G11 G12 uG q2 (fun _ => (0 : Int32)) (((nI (uG.2.2.2.2.2.2.2.2.2.1.2 a1.toNatClampNeg).1) + (2 : Int32)).toNatClampNeg) a1.toNatClampNeg a1 a2 a3 (0 : Int32) _ _ hP hD hS _ (lv_sub hl [3, 4, 5, 6, 2, 1, 0] rfl) hok
