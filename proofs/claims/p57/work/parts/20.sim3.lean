def p_X5_pass_J398  (uG : tX5) : Option tX5 :=
  some ((uG.1 + (1 : Int32)), uG.2)
def p_X5_pass_J363  (uG : tX5) : Option tX5 :=
  if uG.2.2.2.1 = 0 then
    if uG.2.2.2.2.1 < uG.2.2.2.2.2.1 then
      p_X5_pass_J398 uG
    else
      p_X5_pass_J398 (uG.1, uG.2.1, uG.2.2.1, ((1 : Int32) + (uG.2.2.2.2.2.1 / (4 : Int32))), (0 : Int32), uG.2.2.2.2.2)
  else
    p_X5_pass_J398 uG
def p_X5_pass_J351  (uG : tX5) : Option tX5 :=
  bd (p_X5_calls uG) (fun v9 =>
  if v9 = 0 then
    p_X5_pass_J363 (uG.1, uG.2.1, (0 : Int32), uG.2.2.2)
  else
    p_X5_pass_J363 uG)
def p_X5_pass_L300  : Nat → tX5 → Int32 → Int32 → Option tX5
  | 0, _, _, _ => none
  | n + 1, uG, l300_3, l300_4 =>
    if l300_3 ≤ l300_4 then
      p_X5_pass_J351 uG
    else
      gd l300_4 uG.2.2.2.2.2.2.2.2.2.2.1.1 (
      gd (2 : Int32) ((uG.2.2.2.2.2.2.2.2.2.2.1.2 l300_4.toNatClampNeg).1) (
      if ((uG.2.2.2.2.2.2.2.2.2.2.1.2 l300_4.toNatClampNeg).2 2) = 0 then
        (p_X5_pass_L300 n) uG l300_3 (l300_4 + 1)
      else
        gd (1 : Int32) ((uG.2.2.2.2.2.2.2.2.2.2.1.2 l300_4.toNatClampNeg).1) (
        if ((uG.2.2.2.2.2.2.2.2.2.2.1.2 l300_4.toNatClampNeg).2 1) ≤ 0 then
          (p_X5_pass_L300 n) (uG.1, uG.2.1, uG.2.2.1, uG.2.2.2.1, uG.2.2.2.2.1, uG.2.2.2.2.2.1, uG.2.2.2.2.2.2.1, uG.2.2.2.2.2.2.2.1, uG.2.2.2.2.2.2.2.2.1, uG.2.2.2.2.2.2.2.2.2.1, (uG.2.2.2.2.2.2.2.2.2.2.1.1, uR uG.2.2.2.2.2.2.2.2.2.2.1.2 l300_4.toNatClampNeg (upd (uG.2.2.2.2.2.2.2.2.2.2.1.2 l300_4.toNatClampNeg).2 2 (0 : Int32))), uG.2.2.2.2.2.2.2.2.2.2.2) l300_3 (l300_4 + 1)
        else
          (p_X5_pass_L300 n) (uG.1, uG.2.1, uG.2.2.1, uG.2.2.2.1, uG.2.2.2.2.1, uG.2.2.2.2.2.1, uG.2.2.2.2.2.2.1, uG.2.2.2.2.2.2.2.1, uG.2.2.2.2.2.2.2.2.1, uG.2.2.2.2.2.2.2.2.2.1, (uG.2.2.2.2.2.2.2.2.2.2.1.1, uR uG.2.2.2.2.2.2.2.2.2.2.1.2 l300_4.toNatClampNeg (upd (uG.2.2.2.2.2.2.2.2.2.2.1.2 l300_4.toNatClampNeg).2 1 (((uG.2.2.2.2.2.2.2.2.2.2.1.2 l300_4.toNatClampNeg).2 1) - (1 : Int32)))), uG.2.2.2.2.2.2.2.2.2.2.2) l300_3 (l300_4 + 1))))
def p_X5_pass_J280  (uG : tX5) (l280_1 : Int32) : Option tX5 :=
  if (nI uG.2.2.2.2.2.2.2.2.2.2.2.2.1.1) = l280_1 then
    p_X5_pass_L300 200 uG (nI uG.2.2.2.2.2.2.2.2.2.2.1.1) (0 : Int32)
  else
    p_X5_pass_J351 uG
def p_X5_pass_J264  (uG : tX5) (l264_1 : Int32) : Option tX5 :=
  gd uG.2.1 uG.2.2.2.2.2.2.2.1.1 (
  if (uG.2.2.2.2.2.2.2.1.2 uG.2.1.toNatClampNeg) = 0 then
    p_X5_pass_J280 uG l264_1
  else
    bd (p_X5_stop uG) (fun v6 =>
    p_X5_pass_J280 v6 l264_1))
def p_X5_pass_J241  (uG : tX5) (l241_1 : Int32) : Option tX5 :=
  p_X5_pass_J264 (uG.1, (uG.2.1 + uG.2.2.1), uG.2.2.1, uG.2.2.2.1, (uG.2.2.2.2.1 + (1 : Int32)), uG.2.2.2.2.2) l241_1
def p_X5_pass_J203 (rec159 : tX5 → Int32 → Int32 → Int32 → Option tX5) (uG : tX5) (l203_1 : Int32) (l203_3 : Int32) (l203_4 : Int32) (s203_0 : Int32) : Option tX5 :=
  if s203_0 < l203_3 then
    if l203_4 ≤ uG.2.1 then
      rec159 (uG.1, uG.2.1, (-1 : Int32), uG.2.2.2) l203_1 s203_0 (l203_4 + (-1 : Int32))
    else
      rec159 (uG.1, uG.2.1, (1 : Int32), uG.2.2.2) l203_1 s203_0 (l203_4 + (-1 : Int32))
  else
    rec159 uG l203_1 l203_3 (l203_4 + (-1 : Int32))
def p_X5_pass_L159  : Nat → tX5 → Int32 → Int32 → Int32 → Option tX5
  | 0, _, _, _, _ => none
  | n + 1, uG, l159_1, l159_3, l159_4 =>
    if l159_4 < 0 then
      p_X5_pass_J241 uG l159_1
    else
      gd l159_4 uG.2.2.2.2.2.2.2.1.1 (
      if (uG.2.2.2.2.2.2.2.1.2 l159_4.toNatClampNeg) = 0 then
        (p_X5_pass_L159 n) uG l159_1 l159_3 (l159_4 + (-1 : Int32))
      else
        if l159_4 ≤ uG.2.1 then
          p_X5_pass_J203 (p_X5_pass_L159 n) uG l159_1 l159_3 l159_4 (uG.2.1 - l159_4)
        else
          p_X5_pass_J203 (p_X5_pass_L159 n) uG l159_1 l159_3 l159_4 (l159_4 - uG.2.1))
def p_X5_pass_J135 (rec87 : tX5 → Int32 → Int32 → Int32 → Option tX5) (uG : tX5) (l135_1 : Int32) (l135_3 : Int32) : Option tX5 :=
  rec87 uG l135_1 (1 : Int32) (l135_3 + 1)
def p_X5_pass_J120 (rec87 : tX5 → Int32 → Int32 → Int32 → Option tX5) (uG : tX5) (l120_1 : Int32) (l120_2 : Int32) (l120_3 : Int32) : Option tX5 :=
  if 0 ≤ uG.2.2.1 then
    rec87 uG l120_1 l120_2 (l120_3 + 1)
  else
    if uG.2.1 ≤ l120_3 then
      rec87 uG l120_1 l120_2 (l120_3 + 1)
    else
      p_X5_pass_J135 rec87 uG l120_1 l120_3
def p_X5_pass_L87  : Nat → tX5 → Int32 → Int32 → Int32 → Option tX5
  | 0, _, _, _, _ => none
  | n + 1, uG, l87_1, l87_2, l87_3 =>
    if (nI uG.2.2.2.2.2.2.2.1.1) ≤ l87_3 then
      if l87_2 = 0 then
        p_X5_pass_L159 200 uG l87_1 (99 : Int32) ((nI uG.2.2.2.2.2.2.2.1.1) - (1 : Int32))
      else
        p_X5_pass_J241 uG l87_1
    else
      gd l87_3 uG.2.2.2.2.2.2.2.1.1 (
      if (uG.2.2.2.2.2.2.2.1.2 l87_3.toNatClampNeg) = 0 then
        (p_X5_pass_L87 n) uG l87_1 l87_2 (l87_3 + 1)
      else
        if uG.2.2.1 ≤ 0 then
          p_X5_pass_J120 (p_X5_pass_L87 n) uG l87_1 l87_2 l87_3
        else
          if uG.2.1 < l87_3 then
            p_X5_pass_J135 (p_X5_pass_L87 n) uG l87_1 l87_3
          else
            p_X5_pass_J120 (p_X5_pass_L87 n) uG l87_1 l87_2 l87_3)
def p_X5_pass (uG : tX5) : Option tX5 :=
  if uG.2.2.2.1 ≤ 0 then
    bd (p_X5_calls (uG.1, uG.2.1, uG.2.2.1, uG.2.2.2.1, uG.2.2.2.2.1, uG.2.2.2.2.2.1, uG.2.2.2.2.2.2.1, uG.2.2.2.2.2.2.2.1, uG.2.2.2.2.2.2.2.2.1, uG.2.2.2.2.2.2.2.2.2.1, uG.2.2.2.2.2.2.2.2.2.2.1, uG.2.2.2.2.2.2.2.2.2.2.2.1, uG.2.2.2.2.2.2.2.2.2.2.2.2.1, (-1 : Int32))) (fun v1 =>
    if v1 ≤ 0 then
      p_X5_pass_J280 (uG.1, uG.2.1, uG.2.2.1, uG.2.2.2.1, uG.2.2.2.2.1, uG.2.2.2.2.2.1, uG.2.2.2.2.2.2.1, uG.2.2.2.2.2.2.2.1, uG.2.2.2.2.2.2.2.2.1, uG.2.2.2.2.2.2.2.2.2.1, uG.2.2.2.2.2.2.2.2.2.2.1, uG.2.2.2.2.2.2.2.2.2.2.2.1, uG.2.2.2.2.2.2.2.2.2.2.2.2.1, (-1 : Int32)) (nI uG.2.2.2.2.2.2.2.2.2.2.2.2.1.1)
    else
      gd uG.2.1 uG.2.2.2.2.2.2.2.1.1 (
      if (uG.2.2.2.2.2.2.2.1.2 uG.2.1.toNatClampNeg) = 0 then
        p_X5_pass_L87 200 (uG.1, uG.2.1, uG.2.2.1, uG.2.2.2.1, uG.2.2.2.2.1, uG.2.2.2.2.2.1, uG.2.2.2.2.2.2.1, uG.2.2.2.2.2.2.2.1, uG.2.2.2.2.2.2.2.2.1, uG.2.2.2.2.2.2.2.2.2.1, uG.2.2.2.2.2.2.2.2.2.2.1, uG.2.2.2.2.2.2.2.2.2.2.2.1, uG.2.2.2.2.2.2.2.2.2.2.2.2.1, (-1 : Int32)) (nI uG.2.2.2.2.2.2.2.2.2.2.2.2.1.1) (0 : Int32) (0 : Int32)
      else
        p_X5_pass_J264 (uG.1, uG.2.1, uG.2.2.1, uG.2.2.2.1, uG.2.2.2.2.1, uG.2.2.2.2.2.1, uG.2.2.2.2.2.2.1, uG.2.2.2.2.2.2.2.1, uG.2.2.2.2.2.2.2.2.1, uG.2.2.2.2.2.2.2.2.2.1, uG.2.2.2.2.2.2.2.2.2.2.1, uG.2.2.2.2.2.2.2.2.2.2.2.1, uG.2.2.2.2.2.2.2.2.2.2.2.2.1, (-1 : Int32)) (nI uG.2.2.2.2.2.2.2.2.2.2.2.2.1.1)))
  else
    if (nI uG.2.2.2.2.2.2.2.2.2.2.2.2.1.1) ≤ 0 then
      p_X5_pass_J280 (uG.1, uG.2.1, uG.2.2.1, (uG.2.2.2.1 - (1 : Int32)), uG.2.2.2.2.1, uG.2.2.2.2.2.1, (uG.2.2.2.2.2.2.1 + (1 : Int32)), uG.2.2.2.2.2.2.2.1, uG.2.2.2.2.2.2.2.2.1, uG.2.2.2.2.2.2.2.2.2.1, uG.2.2.2.2.2.2.2.2.2.2.1, uG.2.2.2.2.2.2.2.2.2.2.2.1, uG.2.2.2.2.2.2.2.2.2.2.2.2.1, (-1 : Int32)) (nI uG.2.2.2.2.2.2.2.2.2.2.2.2.1.1)
    else
      gd ((nI uG.2.2.2.2.2.2.2.2.2.2.2.2.1.1) - (1 : Int32)) uG.2.2.2.2.2.2.2.2.2.2.2.2.1.1 (
      gd (3 : Int32) ((uG.2.2.2.2.2.2.2.2.2.2.2.2.1.2 (((nI uG.2.2.2.2.2.2.2.2.2.2.2.2.1.1) - (1 : Int32)).toNatClampNeg)).1) (
      p_X5_pass_J280 (uG.1, uG.2.1, uG.2.2.1, (uG.2.2.2.1 - (1 : Int32)), uG.2.2.2.2.1, uG.2.2.2.2.2.1, ((uG.2.2.2.2.2.2.1 + (1 : Int32)) + ((uG.2.2.2.2.2.2.2.2.2.2.2.2.1.2 (((nI uG.2.2.2.2.2.2.2.2.2.2.2.2.1.1) - (1 : Int32)).toNatClampNeg)).2 3)), uG.2.2.2.2.2.2.2.1, uG.2.2.2.2.2.2.2.2.1, uG.2.2.2.2.2.2.2.2.2.1, uG.2.2.2.2.2.2.2.2.2.2.1, uG.2.2.2.2.2.2.2.2.2.2.2.1, uG.2.2.2.2.2.2.2.2.2.2.2.2.1, (-1 : Int32)) (nI uG.2.2.2.2.2.2.2.2.2.2.2.2.1.1)))
set_option maxHeartbeats 4000000 in
set_option maxRecDepth 100000 in
theorem c_X5_pass (l : Launch) (dC : Nat → ClassId) (dI : Nat → Nat → Nat) (cI cZ cJ : ClassId) (g0 : Nat) (g7 g8 g9 g10 g11 g12 : Nat) (G9 G10 G11 G12 : Nat → Nat) (sz : Nat) (uG : tX5) {z : tX5} (hok : p_X5_pass uG = some z) : Met l yX5_pass (Cond.code yX5_pass cX5_pass 6 none :: lw_all) { frames := 2, cells := 2, slots := 135, locals := 52 } (prA (dC, dI) vwCl (TYG cI cZ cJ) (wX5 cI cZ cJ g0 g7 g8 g9 g10 g11 g12 G9 G10 G11 G12 uG) sz [.ref g0]) (va_Qv (fun _ : (Nat × Nat × Nat × Nat × Nat × Nat × (Nat → Nat) × (Nat → Nat) × (Nat → Nat) × (Nat → Nat)) => True) (fun a9 t => va_P (dC, dI) vwCl (wX5 cI cZ cJ g0 a9.1 a9.2.1 a9.2.2.1 a9.2.2.2.1 a9.2.2.2.2.1 a9.2.2.2.2.2.1 a9.2.2.2.2.2.2.1 a9.2.2.2.2.2.2.2.1 a9.2.2.2.2.2.2.2.2.1 a9.2.2.2.2.2.2.2.2.2 z) t.heap ∧ va_D (va_A (wX5 cI cZ cJ g0 g7 g8 g9 g10 g11 g12 G9 G10 G11 G12 uG) sz) (wX5 cI cZ cJ g0 a9.1 a9.2.1 a9.2.2.1 a9.2.2.2.1 a9.2.2.2.2.1 a9.2.2.2.2.2.1 a9.2.2.2.2.2.2.1 a9.2.2.2.2.2.2.2.1 a9.2.2.2.2.2.2.2.2.1 a9.2.2.2.2.2.2.2.2.2 z)) (va_A (wX5 cI cZ cJ g0 g7 g8 g9 g10 g11 g12 G9 G10 G11 G12 uG) sz)) 2 135 (va_A (wX5 cI cZ cJ g0 g7 g8 g9 g10 g11 g12 G9 G10 G11 G12 uG) sz) := by
  refine oM (by decide) (Nat.le_of_ble_eq_true rfl) ?_
  intro p e s m args below meth c S hr hlk hnm hB ls hl
  have hx := S.1
  have hb := S.2.1
  have hml := S.2.2.1
  have hown : s.vm.findClass RX5 = some m.cls := S.2.2.2.1
  have hts := S.2.2.2.2
  have S : CallFix p m c cX5_pass 6 s args lw_all RX5 := S
  have hl : lv_has ls 6 [(0, .ref g0)] := hl
  obtain ⟨hsz, hP, hK, hD0, hO⟩ := hB
  subst hsz
  have hD := hD0.self (sz := s.heap.size)
  generalize hAe : va_A (wX5 cI cZ cJ g0 g7 g8 g9 g10 g11 g12 G9 G10 G11 G12 uG) s.heap.size = A at hD ⊢
  have hA : ∀ q : Nat, s.heap.size ≤ q → A q := fun q h => by rw [← hAe]; exact Or.inr h
  have hS : va_S A s.heap s.heap [] := va_S.rf
  have hP : va_P (dC, dI) vwCl (([] : va_W) ++ ((wX5 cI cZ cJ g0 g7 g8 g9 g10 g11 g12 G9 G10 G11 G12 uG) ++ ([] : va_W))) s.heap := zx_P (wa := []) hP
  have hD : va_D A (([] : va_W) ++ ((wX5 cI cZ cJ g0 g7 g8 g9 g10 g11 g12 G9 G10 G11 G12 uG) ++ ([] : va_W))) := zx_D (wa := []) hD
  have hK2 : va_K (dC, dI) vwCl (TYS cI cZ) s := hK.sub [0, 1] rfl
  have J398 : ∀ (g7 : Nat) (g8 : Nat) (g9 : Nat) (g10 : Nat) (g11 : Nat) (g12 : Nat) (G9 : (Nat → Nat)) (G10 : (Nat → Nat)) (G11 : (Nat → Nat)) (G12 : (Nat → Nat)) (uG : tX5) (H : Heap) (locs : List Loc) (hP : va_P (dC, dI) vwCl (([] : va_W) ++ (wX5 cI cZ cJ g0 g7 g8 g9 g10 g11 g12 G9 G10 G11 G12 uG ++ ([] : va_W))) H) (hD : va_D A (([] : va_W) ++ (wX5 cI cZ cJ g0 g7 g8 g9 g10 g11 g12 G9 G10 G11 G12 uG ++ ([] : va_W)))) (hS : va_S A s.heap H locs) (ls : Array Slot) (hl : lv_has ls 6 [(0, .ref g0)]) (hok : p_X5_pass_J398 uG = some z), W p l e { frames := 2, cells := 2, slots := 135, locals := 52 } s m args below meth c H locs 2 135 (MQ below (va_Qv (fun _ : (Nat × Nat × Nat × Nat × Nat × Nat × (Nat → Nat) × (Nat → Nat) × (Nat → Nat) × (Nat → Nat)) => True) (fun a9 t => va_P (dC, dI) vwCl (wX5 cI cZ cJ g0 a9.1 a9.2.1 a9.2.2.1 a9.2.2.2.1 a9.2.2.2.2.1 a9.2.2.2.2.2.1 a9.2.2.2.2.2.2.1 a9.2.2.2.2.2.2.2.1 a9.2.2.2.2.2.2.2.2.1 a9.2.2.2.2.2.2.2.2.2 z) t.heap ∧ va_D A (wX5 cI cZ cJ g0 a9.1 a9.2.1 a9.2.2.1 a9.2.2.2.1 a9.2.2.2.2.1 a9.2.2.2.2.2.1 a9.2.2.2.2.2.2.1 a9.2.2.2.2.2.2.2.1 a9.2.2.2.2.2.2.2.2.1 a9.2.2.2.2.2.2.2.2.2 z)) A) args s 2 135 A) (F0 m 398 ls []) := by
    intro g7 g8 g9 g10 g11 g12 G9 G10 G11 G12 uG H locs hP hD hS ls hl hok
    unfold p_X5_pass_J398 at hok
    refine lv_aload_n hx hb dX5_pass_398 rfl (lv_at hl 0 rfl) ?_
    refine lv_dup hx hb dX5_pass_399 rfl ?_
    refine va_get (D := (dC, dI)) (ci := 5) (v := .int uG.1) (C := RX5) (T := TX5) (N := 14) hx hb hts inX5 hown hK hP 0 rfl rfl 0 (by decide) (hts _ qf_X5_54) (fun _ h9 => h9) rfl dX5_pass_400 ?_
    refine lv_iconst (v := (1 : Int32)) hx hb dX5_pass_403 (by decide) ?_
    refine lv_iadd hx hb dX5_pass_404 ?_
    refine va_put (D := (dC, dI)) (ci := 5) (v := .int (uG.1 + (1 : Int32))) (ty := .int) (C := RX5) (T := TX5) (N := 14) hx hb hts inX5 tyX5 tyX5_ok nmX5 hown hK hP hD hS 0 rfl rfl 0 (by decide) (hts _ qf_X5_54) (fun _ h9 => h9) rfl (tyX5_ok 0 (by decide)) rfl rfl (Nat.le_of_ble_eq_true rfl) dX5_pass_405 (fun H locs hP hD hS => ?_)
    have hP : va_P (dC, dI) vwCl (([] : va_W) ++ (wX5 cI cZ cJ g0 g7 g8 g9 g10 g11 g12 G9 G10 G11 G12 ((uG.1 + (1 : Int32)), uG.2) ++ ([] : va_W))) H := hP
    have hD : va_D A (([] : va_W) ++ (wX5 cI cZ cJ g0 g7 g8 g9 g10 g11 g12 G9 G10 G11 G12 ((uG.1 + (1 : Int32)), uG.2) ++ ([] : va_W))) := hD
    have hok := Option.some.inj hok
    subst hok
    exact eAv S hr hlk (g7, g8, g9, g10, g11, g12, G9, G10, G11, G12) (va_Pmid hP) (va_Dmid hD) hS (Nat.le_of_ble_eq_true rfl) (Nat.le_of_ble_eq_true rfl) dX5_pass_408
  have J363 : ∀ (g7 : Nat) (g8 : Nat) (g9 : Nat) (g10 : Nat) (g11 : Nat) (g12 : Nat) (G9 : (Nat → Nat)) (G10 : (Nat → Nat)) (G11 : (Nat → Nat)) (G12 : (Nat → Nat)) (uG : tX5) (H : Heap) (locs : List Loc) (hP : va_P (dC, dI) vwCl (([] : va_W) ++ (wX5 cI cZ cJ g0 g7 g8 g9 g10 g11 g12 G9 G10 G11 G12 uG ++ ([] : va_W))) H) (hD : va_D A (([] : va_W) ++ (wX5 cI cZ cJ g0 g7 g8 g9 g10 g11 g12 G9 G10 G11 G12 uG ++ ([] : va_W)))) (hS : va_S A s.heap H locs) (ls : Array Slot) (hl : lv_has ls 6 [(0, .ref g0)]) (hok : p_X5_pass_J363 uG = some z), W p l e { frames := 2, cells := 2, slots := 135, locals := 52 } s m args below meth c H locs 2 135 (MQ below (va_Qv (fun _ : (Nat × Nat × Nat × Nat × Nat × Nat × (Nat → Nat) × (Nat → Nat) × (Nat → Nat) × (Nat → Nat)) => True) (fun a9 t => va_P (dC, dI) vwCl (wX5 cI cZ cJ g0 a9.1 a9.2.1 a9.2.2.1 a9.2.2.2.1 a9.2.2.2.2.1 a9.2.2.2.2.2.1 a9.2.2.2.2.2.2.1 a9.2.2.2.2.2.2.2.1 a9.2.2.2.2.2.2.2.2.1 a9.2.2.2.2.2.2.2.2.2 z) t.heap ∧ va_D A (wX5 cI cZ cJ g0 a9.1 a9.2.1 a9.2.2.1 a9.2.2.2.1 a9.2.2.2.2.1 a9.2.2.2.2.2.1 a9.2.2.2.2.2.2.1 a9.2.2.2.2.2.2.2.1 a9.2.2.2.2.2.2.2.2.1 a9.2.2.2.2.2.2.2.2.2 z)) A) args s 2 135 A) (F0 m 363 ls []) := by
    intro g7 g8 g9 g10 g11 g12 G9 G10 G11 G12 uG H locs hP hD hS ls hl hok
    unfold p_X5_pass_J363 at hok
    refine lv_aload_n hx hb dX5_pass_363 rfl (lv_at hl 0 rfl) ?_
    refine va_get (D := (dC, dI)) (ci := 5) (v := .int uG.2.2.2.1) (C := RX5) (T := TX5) (N := 14) hx hb hts inX5 hown hK hP 0 rfl rfl 3 (by decide) (hts _ qf_X5_42) (fun _ h9 => h9) rfl dX5_pass_364 ?_
    refine lv_if_ne (tgt := 398) hx hb dX5_pass_367 (by decide) (fun hc => ?_) (fun hc => ?_)
    · have hok := iq hok hc
      exact J398 g7 g8 g9 g10 g11 g12 G9 G10 G11 G12 uG _ _ hP hD hS _ hl hok
    · have hok := ip hok hc
      refine lv_aload_n hx hb dX5_pass_370 rfl (lv_at hl 0 rfl) ?_
      refine va_get (D := (dC, dI)) (ci := 5) (v := .int uG.2.2.2.2.1) (C := RX5) (T := TX5) (N := 14) hx hb hts inX5 hown hK hP 0 rfl rfl 4 (by decide) (hts _ qf_X5_45) (fun _ h9 => h9) rfl dX5_pass_371 ?_
      refine lv_aload_n hx hb dX5_pass_374 rfl (lv_at hl 0 rfl) ?_
      refine va_get (D := (dC, dI)) (ci := 5) (v := .int uG.2.2.2.2.2.1) (C := RX5) (T := TX5) (N := 14) hx hb hts inX5 hown hK hP 0 rfl rfl 5 (by decide) (hts _ qf_X5_7) (fun _ h9 => h9) rfl dX5_pass_375 ?_
      refine lv_icmp_lt (tgt := 398) hx hb dX5_pass_378 (by decide) (fun hc => ?_) (fun hc => ?_)
      · have hok := ip hok hc
        exact J398 g7 g8 g9 g10 g11 g12 G9 G10 G11 G12 uG _ _ hP hD hS _ hl hok
      · have hok := iq hok hc
        refine lv_aload_n hx hb dX5_pass_381 rfl (lv_at hl 0 rfl) ?_
        refine lv_iconst (v := (1 : Int32)) hx hb dX5_pass_382 (by decide) ?_
        refine lv_aload_n hx hb dX5_pass_383 rfl (lv_at hl 0 rfl) ?_
        refine va_get (D := (dC, dI)) (ci := 5) (v := .int uG.2.2.2.2.2.1) (C := RX5) (T := TX5) (N := 14) hx hb hts inX5 hown hK hP 0 rfl rfl 5 (by decide) (hts _ qf_X5_7) (fun _ h9 => h9) rfl dX5_pass_384 ?_
        refine lv_iconst (v := (4 : Int32)) hx hb dX5_pass_387 (by decide) ?_
        refine lv_idiv hx hb dX5_pass_388 (by decide) ?_
        refine lv_iadd hx hb dX5_pass_389 ?_
        refine va_put (D := (dC, dI)) (ci := 5) (v := .int ((1 : Int32) + (uG.2.2.2.2.2.1 / (4 : Int32)))) (ty := .int) (C := RX5) (T := TX5) (N := 14) hx hb hts inX5 tyX5 tyX5_ok nmX5 hown hK hP hD hS 0 rfl rfl 3 (by decide) (hts _ qf_X5_42) (fun _ h9 => h9) rfl (tyX5_ok 3 (by decide)) rfl rfl (Nat.le_of_ble_eq_true rfl) dX5_pass_390 (fun H locs hP hD hS => ?_)
        have hP : va_P (dC, dI) vwCl (([] : va_W) ++ (wX5 cI cZ cJ g0 g7 g8 g9 g10 g11 g12 G9 G10 G11 G12 (uG.1, uG.2.1, uG.2.2.1, ((1 : Int32) + (uG.2.2.2.2.2.1 / (4 : Int32))), uG.2.2.2.2) ++ ([] : va_W))) H := hP
        have hD : va_D A (([] : va_W) ++ (wX5 cI cZ cJ g0 g7 g8 g9 g10 g11 g12 G9 G10 G11 G12 (uG.1, uG.2.1, uG.2.2.1, ((1 : Int32) + (uG.2.2.2.2.2.1 / (4 : Int32))), uG.2.2.2.2) ++ ([] : va_W))) := hD
        refine lv_aload_n hx hb dX5_pass_393 rfl (lv_at hl 0 rfl) ?_
        refine lv_iconst (v := (0 : Int32)) hx hb dX5_pass_394 (by decide) ?_
        refine va_put (D := (dC, dI)) (ci := 5) (v := .int (0 : Int32)) (ty := .int) (C := RX5) (T := TX5) (N := 14) hx hb hts inX5 tyX5 tyX5_ok nmX5 hown hK hP hD hS 0 rfl rfl 4 (by decide) (hts _ qf_X5_45) (fun _ h9 => h9) rfl (tyX5_ok 4 (by decide)) rfl rfl (Nat.le_of_ble_eq_true rfl) dX5_pass_395 (fun H locs hP hD hS => ?_)
        have hP : va_P (dC, dI) vwCl (([] : va_W) ++ (wX5 cI cZ cJ g0 g7 g8 g9 g10 g11 g12 G9 G10 G11 G12 (uG.1, uG.2.1, uG.2.2.1, ((1 : Int32) + (uG.2.2.2.2.2.1 / (4 : Int32))), (0 : Int32), uG.2.2.2.2.2) ++ ([] : va_W))) H := hP
        have hD : va_D A (([] : va_W) ++ (wX5 cI cZ cJ g0 g7 g8 g9 g10 g11 g12 G9 G10 G11 G12 (uG.1, uG.2.1, uG.2.2.1, ((1 : Int32) + (uG.2.2.2.2.2.1 / (4 : Int32))), (0 : Int32), uG.2.2.2.2.2) ++ ([] : va_W))) := hD
        exact J398 g7 g8 g9 g10 g11 g12 G9 G10 G11 G12 (uG.1, uG.2.1, uG.2.2.1, ((1 : Int32) + (uG.2.2.2.2.2.1 / (4 : Int32))), (0 : Int32), uG.2.2.2.2.2) _ _ hP hD hS _ hl hok
  have J351 : ∀ (g7 : Nat) (g8 : Nat) (g9 : Nat) (g10 : Nat) (g11 : Nat) (g12 : Nat) (G9 : (Nat → Nat)) (G10 : (Nat → Nat)) (G11 : (Nat → Nat)) (G12 : (Nat → Nat)) (uG : tX5) (H : Heap) (locs : List Loc) (hP : va_P (dC, dI) vwCl (([] : va_W) ++ (wX5 cI cZ cJ g0 g7 g8 g9 g10 g11 g12 G9 G10 G11 G12 uG ++ ([] : va_W))) H) (hD : va_D A (([] : va_W) ++ (wX5 cI cZ cJ g0 g7 g8 g9 g10 g11 g12 G9 G10 G11 G12 uG ++ ([] : va_W)))) (hS : va_S A s.heap H locs) (ls : Array Slot) (hl : lv_has ls 6 [(0, .ref g0)]) (hok : p_X5_pass_J351 uG = some z), W p l e { frames := 2, cells := 2, slots := 135, locals := 52 } s m args below meth c H locs 2 135 (MQ below (va_Qv (fun _ : (Nat × Nat × Nat × Nat × Nat × Nat × (Nat → Nat) × (Nat → Nat) × (Nat → Nat) × (Nat → Nat)) => True) (fun a9 t => va_P (dC, dI) vwCl (wX5 cI cZ cJ g0 a9.1 a9.2.1 a9.2.2.1 a9.2.2.2.1 a9.2.2.2.2.1 a9.2.2.2.2.2.1 a9.2.2.2.2.2.2.1 a9.2.2.2.2.2.2.2.1 a9.2.2.2.2.2.2.2.2.1 a9.2.2.2.2.2.2.2.2.2 z) t.heap ∧ va_D A (wX5 cI cZ cJ g0 a9.1 a9.2.1 a9.2.2.1 a9.2.2.2.1 a9.2.2.2.2.1 a9.2.2.2.2.2.1 a9.2.2.2.2.2.2.1 a9.2.2.2.2.2.2.2.1 a9.2.2.2.2.2.2.2.2.1 a9.2.2.2.2.2.2.2.2.2 z)) A) args s 2 135 A) (F0 m 351 ls []) := by
    intro g7 g8 g9 g10 g11 g12 G9 G10 G11 G12 uG H locs hP hD hS ls hl hok
    unfold p_X5_pass_J351 at hok
    refine lv_aload_n hx hb dX5_pass_351 rfl (lv_at hl 0 rfl) ?_
    obtain ⟨v9, hc9, hok⟩ := bd_some hok
    refine cRVi (ci := 5) (q0 := 0) [] S hK (va_Pmid hP) (c_X5_calls l dC dI cI cZ cJ g0 g7 g8 g9 g10 g11 g12 G9 G10 G11 G12 uG hc9) (lw_V qm_X5_61 qi_X5_calls qs_X5_calls qn_X5 qc_X5_calls) hd_X5_calls ⟨rfl, rfl⟩ ⟨Nat.le_of_ble_eq_true rfl, Nat.le_of_ble_eq_true rfl⟩ ⟨Nat.le_of_ble_eq_true rfl, Nat.le_of_ble_eq_true rfl⟩ rfl rfl rfl hl.1 (Nat.le_of_ble_eq_true rfl) rfl dX5_pass_352 ?_
    refine lv_if_ne (tgt := 363) hx hb dX5_pass_355 (by decide) (fun hc => ?_) (fun hc => ?_)
    · have hok := iq hok hc
      exact J363 g7 g8 g9 g10 g11 g12 G9 G10 G11 G12 uG _ _ hP hD hS _ hl hok
    · have hok := ip hok hc
      refine lv_aload_n hx hb dX5_pass_358 rfl (lv_at hl 0 rfl) ?_
      refine lv_iconst (v := (0 : Int32)) hx hb dX5_pass_359 (by decide) ?_
      refine va_put (D := (dC, dI)) (ci := 5) (v := .int (0 : Int32)) (ty := .int) (C := RX5) (T := TX5) (N := 14) hx hb hts inX5 tyX5 tyX5_ok nmX5 hown hK hP hD hS 0 rfl rfl 2 (by decide) (hts _ qf_X5_39) (fun _ h9 => h9) rfl (tyX5_ok 2 (by decide)) rfl rfl (Nat.le_of_ble_eq_true rfl) dX5_pass_360 (fun H locs hP hD hS => ?_)
      have hP : va_P (dC, dI) vwCl (([] : va_W) ++ (wX5 cI cZ cJ g0 g7 g8 g9 g10 g11 g12 G9 G10 G11 G12 (uG.1, uG.2.1, (0 : Int32), uG.2.2.2) ++ ([] : va_W))) H := hP
      have hD : va_D A (([] : va_W) ++ (wX5 cI cZ cJ g0 g7 g8 g9 g10 g11 g12 G9 G10 G11 G12 (uG.1, uG.2.1, (0 : Int32), uG.2.2.2) ++ ([] : va_W))) := hD
      exact J363 g7 g8 g9 g10 g11 g12 G9 G10 G11 G12 (uG.1, uG.2.1, (0 : Int32), uG.2.2.2) _ _ hP hD hS _ hl hok
  have L300 : ∀ n300 : Nat, ∀ (g7 : Nat) (g8 : Nat) (g9 : Nat) (g10 : Nat) (g11 : Nat) (g12 : Nat) (G9 : (Nat → Nat)) (G10 : (Nat → Nat)) (G11 : (Nat → Nat)) (G12 : (Nat → Nat)) (uG : tX5) (l300_3 : Int32) (l300_4 : Int32) (H : Heap) (locs : List Loc) (hP : va_P (dC, dI) vwCl (([] : va_W) ++ (wX5 cI cZ cJ g0 g7 g8 g9 g10 g11 g12 G9 G10 G11 G12 uG ++ ([] : va_W))) H) (hD : va_D A (([] : va_W) ++ (wX5 cI cZ cJ g0 g7 g8 g9 g10 g11 g12 G9 G10 G11 G12 uG ++ ([] : va_W)))) (hS : va_S A s.heap H locs) (ls : Array Slot) (hl : lv_has ls 6 [(0, .ref g0), (2, .ref g10), (3, .int l300_3), (4, .int l300_4)]) (hok : p_X5_pass_L300 n300 uG l300_3 l300_4 = some z), W p l e { frames := 2, cells := 2, slots := 135, locals := 52 } s m args below meth c H locs 2 135 (MQ below (va_Qv (fun _ : (Nat × Nat × Nat × Nat × Nat × Nat × (Nat → Nat) × (Nat → Nat) × (Nat → Nat) × (Nat → Nat)) => True) (fun a9 t => va_P (dC, dI) vwCl (wX5 cI cZ cJ g0 a9.1 a9.2.1 a9.2.2.1 a9.2.2.2.1 a9.2.2.2.2.1 a9.2.2.2.2.2.1 a9.2.2.2.2.2.2.1 a9.2.2.2.2.2.2.2.1 a9.2.2.2.2.2.2.2.2.1 a9.2.2.2.2.2.2.2.2.2 z) t.heap ∧ va_D A (wX5 cI cZ cJ g0 a9.1 a9.2.1 a9.2.2.1 a9.2.2.2.1 a9.2.2.2.2.1 a9.2.2.2.2.2.1 a9.2.2.2.2.2.2.1 a9.2.2.2.2.2.2.2.1 a9.2.2.2.2.2.2.2.2.1 a9.2.2.2.2.2.2.2.2.2 z)) A) args s 2 135 A) (F0 m 300 ls []) := by
    intro n300
    induction n300 with
    | zero =>
      intro g7 g8 g9 g10 g11 g12 G9 G10 G11 G12 uG l300_3 l300_4 H locs hP hD hS ls hl hok
      rw [p_X5_pass_L300] at hok
      cases hok
    | succ n300 ih300 =>
      intro g7 g8 g9 g10 g11 g12 G9 G10 G11 G12 uG l300_3 l300_4 H locs hP hD hS ls hl hok
      rw [p_X5_pass_L300] at hok
      refine lv_iload hx hb dX5_pass_300 (lv_at hl 3 rfl) ?_
      refine lv_iload_n hx hb dX5_pass_302 rfl (lv_at hl 2 rfl) ?_
      refine lv_icmp_ge (tgt := 351) hx hb dX5_pass_303 (by decide) (fun hc => ?_) (fun hc => ?_)
      · have hok := ip hok hc
        exact J351 g7 g8 g9 g10 g11 g12 G9 G10 G11 G12 uG _ _ hP hD hS _ (lv_sub hl [0] rfl) hok
      · have hok := iq hok hc
        refine lv_aload_n hx hb dX5_pass_306 rfl (lv_at hl 1 rfl) ?_
        refine lv_iload hx hb dX5_pass_307 (lv_at hl 3 rfl) ?_
        obtain ⟨hi10, hok⟩ := gd_some hok
        refine ra10 hx hb hK 2 rfl hP (j := l300_4.toNatClampNeg) rfl hi10 dX5_pass_309 ?_
        refine lv_astore (lv' := [(5, .ref (G10 l300_4.toNatClampNeg)), (0, .ref g0), (2, .ref g10), (3, .int l300_3), (4, .int l300_4)]) hx hb dX5_pass_310 hl (by decide) rfl (fun ls hl => ?_)
        refine lv_aload hx hb dX5_pass_312 (lv_at hl 0 rfl) ?_
        refine lv_iconst (v := (2 : Int32)) hx hb dX5_pass_314 (by decide) ?_
        obtain ⟨hi11, hok⟩ := gd_some hok
        refine rl10 hx hb hK 0 rfl hP (k := l300_4.toNatClampNeg) (j := 2) (vp_inL rfl hi10) rfl (by decide) hi11 dX5_pass_315 ?_
        refine lv_if_ne (tgt := 322) hx hb dX5_pass_316 (by decide) (fun hc => ?_) (fun hc => ?_)
        · have hok := iq hok hc
          refine lv_aload hx hb dX5_pass_322 (lv_at hl 0 rfl) ?_
          refine lv_iconst (v := (1 : Int32)) hx hb dX5_pass_324 (by decide) ?_
          obtain ⟨hi12, hok⟩ := gd_some hok
          refine rl10 hx hb hK 0 rfl hP (k := l300_4.toNatClampNeg) (j := 1) (vp_inL rfl hi10) rfl (by decide) hi12 dX5_pass_325 ?_
          refine lv_if_le (tgt := 340) hx hb dX5_pass_326 (by decide) (fun hc => ?_) (fun hc => ?_)
          · have hok := ip hok hc
            refine lv_aload hx hb dX5_pass_340 (lv_at hl 0 rfl) ?_
            refine lv_iconst (v := (2 : Int32)) hx hb dX5_pass_342 (by decide) ?_
            refine lv_iconst (v := (0 : Int32)) hx hb dX5_pass_343 (by decide) ?_
            refine rs10 hx hb hK 0 rfl hP hD hS (k := l300_4.toNatClampNeg) (j := 2) (vp_inL rfl hi10) rfl (by decide) hi11 dX5_pass_344 (fun H locs hP hD hS => ?_)
            have hP : va_P (dC, dI) vwCl (([] : va_W) ++ (wX5 cI cZ cJ g0 g7 g8 g9 g10 g11 g12 G9 G10 G11 G12 (uG.1, uG.2.1, uG.2.2.1, uG.2.2.2.1, uG.2.2.2.2.1, uG.2.2.2.2.2.1, uG.2.2.2.2.2.2.1, uG.2.2.2.2.2.2.2.1, uG.2.2.2.2.2.2.2.2.1, uG.2.2.2.2.2.2.2.2.2.1, (uG.2.2.2.2.2.2.2.2.2.2.1.1, uR uG.2.2.2.2.2.2.2.2.2.2.1.2 l300_4.toNatClampNeg (upd (uG.2.2.2.2.2.2.2.2.2.2.1.2 l300_4.toNatClampNeg).2 2 (0 : Int32))), uG.2.2.2.2.2.2.2.2.2.2.2) ++ ([] : va_W))) H := hP
            have hD : va_D A (([] : va_W) ++ (wX5 cI cZ cJ g0 g7 g8 g9 g10 g11 g12 G9 G10 G11 G12 (uG.1, uG.2.1, uG.2.2.1, uG.2.2.2.1, uG.2.2.2.2.1, uG.2.2.2.2.2.1, uG.2.2.2.2.2.2.1, uG.2.2.2.2.2.2.2.1, uG.2.2.2.2.2.2.2.2.1, uG.2.2.2.2.2.2.2.2.2.1, (uG.2.2.2.2.2.2.2.2.2.2.1.1, uR uG.2.2.2.2.2.2.2.2.2.2.1.2 l300_4.toNatClampNeg (upd (uG.2.2.2.2.2.2.2.2.2.2.1.2 l300_4.toNatClampNeg).2 2 (0 : Int32))), uG.2.2.2.2.2.2.2.2.2.2.2) ++ ([] : va_W))) := hD
            refine lv_iinc (v := (l300_4 + 1)) (lv' := [(4, .int (l300_4 + 1)), (5, .ref (G10 l300_4.toNatClampNeg)), (0, .ref g0), (2, .ref g10), (3, .int l300_3)]) hx hb dX5_pass_345 hl (k := 4) rfl rfl (by decide) rfl (fun ls hl => ?_)
            refine lv_goto (tgt := 300) hx hb dX5_pass_348 (by decide) ?_
            exact ih300 g7 g8 g9 g10 g11 g12 G9 G10 G11 G12 (uG.1, uG.2.1, uG.2.2.1, uG.2.2.2.1, uG.2.2.2.2.1, uG.2.2.2.2.2.1, uG.2.2.2.2.2.2.1, uG.2.2.2.2.2.2.2.1, uG.2.2.2.2.2.2.2.2.1, uG.2.2.2.2.2.2.2.2.2.1, (uG.2.2.2.2.2.2.2.2.2.2.1.1, uR uG.2.2.2.2.2.2.2.2.2.2.1.2 l300_4.toNatClampNeg (upd (uG.2.2.2.2.2.2.2.2.2.2.1.2 l300_4.toNatClampNeg).2 2 (0 : Int32))), uG.2.2.2.2.2.2.2.2.2.2.2) l300_3 (l300_4 + 1) _ _ hP hD hS _ (lv_sub hl [2, 3, 4, 0] rfl) hok
          · have hok := iq hok hc
            refine lv_aload hx hb dX5_pass_329 (lv_at hl 0 rfl) ?_
            refine lv_iconst (v := (1 : Int32)) hx hb dX5_pass_331 (by decide) ?_
            refine lv_dup2_11 hx hb dX5_pass_332 rfl rfl ?_
            refine rl10 hx hb hK 0 rfl hP (k := l300_4.toNatClampNeg) (j := 1) (vp_inL rfl hi10) rfl (by decide) hi12 dX5_pass_333 ?_
            refine lv_iconst (v := (1 : Int32)) hx hb dX5_pass_334 (by decide) ?_
            refine lv_isub hx hb dX5_pass_335 ?_
            refine rs10 hx hb hK 0 rfl hP hD hS (k := l300_4.toNatClampNeg) (j := 1) (vp_inL rfl hi10) rfl (by decide) hi12 dX5_pass_336 (fun H locs hP hD hS => ?_)
            have hP : va_P (dC, dI) vwCl (([] : va_W) ++ (wX5 cI cZ cJ g0 g7 g8 g9 g10 g11 g12 G9 G10 G11 G12 (uG.1, uG.2.1, uG.2.2.1, uG.2.2.2.1, uG.2.2.2.2.1, uG.2.2.2.2.2.1, uG.2.2.2.2.2.2.1, uG.2.2.2.2.2.2.2.1, uG.2.2.2.2.2.2.2.2.1, uG.2.2.2.2.2.2.2.2.2.1, (uG.2.2.2.2.2.2.2.2.2.2.1.1, uR uG.2.2.2.2.2.2.2.2.2.2.1.2 l300_4.toNatClampNeg (upd (uG.2.2.2.2.2.2.2.2.2.2.1.2 l300_4.toNatClampNeg).2 1 (((uG.2.2.2.2.2.2.2.2.2.2.1.2 l300_4.toNatClampNeg).2 1) - (1 : Int32)))), uG.2.2.2.2.2.2.2.2.2.2.2) ++ ([] : va_W))) H := hP
            have hD : va_D A (([] : va_W) ++ (wX5 cI cZ cJ g0 g7 g8 g9 g10 g11 g12 G9 G10 G11 G12 (uG.1, uG.2.1, uG.2.2.1, uG.2.2.2.1, uG.2.2.2.2.1, uG.2.2.2.2.2.1, uG.2.2.2.2.2.2.1, uG.2.2.2.2.2.2.2.1, uG.2.2.2.2.2.2.2.2.1, uG.2.2.2.2.2.2.2.2.2.1, (uG.2.2.2.2.2.2.2.2.2.2.1.1, uR uG.2.2.2.2.2.2.2.2.2.2.1.2 l300_4.toNatClampNeg (upd (uG.2.2.2.2.2.2.2.2.2.2.1.2 l300_4.toNatClampNeg).2 1 (((uG.2.2.2.2.2.2.2.2.2.2.1.2 l300_4.toNatClampNeg).2 1) - (1 : Int32)))), uG.2.2.2.2.2.2.2.2.2.2.2) ++ ([] : va_W))) := hD
            refine lv_goto (tgt := 345) hx hb dX5_pass_337 (by decide) ?_
            refine lv_iinc (v := (l300_4 + 1)) (lv' := [(4, .int (l300_4 + 1)), (5, .ref (G10 l300_4.toNatClampNeg)), (0, .ref g0), (2, .ref g10), (3, .int l300_3)]) hx hb dX5_pass_345 hl (k := 4) rfl rfl (by decide) rfl (fun ls hl => ?_)
            refine lv_goto (tgt := 300) hx hb dX5_pass_348 (by decide) ?_
            exact ih300 g7 g8 g9 g10 g11 g12 G9 G10 G11 G12 (uG.1, uG.2.1, uG.2.2.1, uG.2.2.2.1, uG.2.2.2.2.1, uG.2.2.2.2.2.1, uG.2.2.2.2.2.2.1, uG.2.2.2.2.2.2.2.1, uG.2.2.2.2.2.2.2.2.1, uG.2.2.2.2.2.2.2.2.2.1, (uG.2.2.2.2.2.2.2.2.2.2.1.1, uR uG.2.2.2.2.2.2.2.2.2.2.1.2 l300_4.toNatClampNeg (upd (uG.2.2.2.2.2.2.2.2.2.2.1.2 l300_4.toNatClampNeg).2 1 (((uG.2.2.2.2.2.2.2.2.2.2.1.2 l300_4.toNatClampNeg).2 1) - (1 : Int32)))), uG.2.2.2.2.2.2.2.2.2.2.2) l300_3 (l300_4 + 1) _ _ hP hD hS _ (lv_sub hl [2, 3, 4, 0] rfl) hok
        · have hok := ip hok hc
          refine lv_goto (tgt := 345) hx hb dX5_pass_319 (by decide) ?_
          refine lv_iinc (v := (l300_4 + 1)) (lv' := [(4, .int (l300_4 + 1)), (5, .ref (G10 l300_4.toNatClampNeg)), (0, .ref g0), (2, .ref g10), (3, .int l300_3)]) hx hb dX5_pass_345 hl (k := 4) rfl rfl (by decide) rfl (fun ls hl => ?_)
          refine lv_goto (tgt := 300) hx hb dX5_pass_348 (by decide) ?_
          exact ih300 g7 g8 g9 g10 g11 g12 G9 G10 G11 G12 uG l300_3 (l300_4 + 1) _ _ hP hD hS _ (lv_sub hl [2, 3, 4, 0] rfl) hok
  have J280 : ∀ (g7 : Nat) (g8 : Nat) (g9 : Nat) (g10 : Nat) (g11 : Nat) (g12 : Nat) (G9 : (Nat → Nat)) (G10 : (Nat → Nat)) (G11 : (Nat → Nat)) (G12 : (Nat → Nat)) (uG : tX5) (l280_1 : Int32) (H : Heap) (locs : List Loc) (hP : va_P (dC, dI) vwCl (([] : va_W) ++ (wX5 cI cZ cJ g0 g7 g8 g9 g10 g11 g12 G9 G10 G11 G12 uG ++ ([] : va_W))) H) (hD : va_D A (([] : va_W) ++ (wX5 cI cZ cJ g0 g7 g8 g9 g10 g11 g12 G9 G10 G11 G12 uG ++ ([] : va_W)))) (hS : va_S A s.heap H locs) (ls : Array Slot) (hl : lv_has ls 6 [(0, .ref g0), (1, .int l280_1)]) (hok : p_X5_pass_J280 uG l280_1 = some z), W p l e { frames := 2, cells := 2, slots := 135, locals := 52 } s m args below meth c H locs 2 135 (MQ below (va_Qv (fun _ : (Nat × Nat × Nat × Nat × Nat × Nat × (Nat → Nat) × (Nat → Nat) × (Nat → Nat) × (Nat → Nat)) => True) (fun a9 t => va_P (dC, dI) vwCl (wX5 cI cZ cJ g0 a9.1 a9.2.1 a9.2.2.1 a9.2.2.2.1 a9.2.2.2.2.1 a9.2.2.2.2.2.1 a9.2.2.2.2.2.2.1 a9.2.2.2.2.2.2.2.1 a9.2.2.2.2.2.2.2.2.1 a9.2.2.2.2.2.2.2.2.2 z) t.heap ∧ va_D A (wX5 cI cZ cJ g0 a9.1 a9.2.1 a9.2.2.1 a9.2.2.2.1 a9.2.2.2.2.1 a9.2.2.2.2.2.1 a9.2.2.2.2.2.2.1 a9.2.2.2.2.2.2.2.1 a9.2.2.2.2.2.2.2.2.1 a9.2.2.2.2.2.2.2.2.2 z)) A) args s 2 135 A) (F0 m 280 ls []) := by
    intro g7 g8 g9 g10 g11 g12 G9 G10 G11 G12 uG l280_1 H locs hP hD hS ls hl hok
    unfold p_X5_pass_J280 at hok
    refine lv_aload_n hx hb dX5_pass_280 rfl (lv_at hl 0 rfl) ?_
    refine va_get (D := (dC, dI)) (ci := 5) (v := .ref g12) (C := RX5) (T := TX5) (N := 14) hx hb hts inX5 hown hK hP 0 rfl rfl 12 (by decide) (hts _ qf_X5_33) (fun _ h9 => h9) rfl dX5_pass_281 ?_
    refine va_alen (v := (nI uG.2.2.2.2.2.2.2.2.2.2.2.2.1.1)) hx hb hK hP 6 2 rfl rfl rfl dX5_pass_284 ?_
    refine lv_iload_n hx hb dX5_pass_285 rfl (lv_at hl 1 rfl) ?_
    refine lv_icmp_ne (tgt := 351) hx hb dX5_pass_286 (by decide) (fun hc => ?_) (fun hc => ?_)
    · have hok := iq hok hc
      exact J351 g7 g8 g9 g10 g11 g12 G9 G10 G11 G12 uG _ _ hP hD hS _ (lv_sub hl [0] rfl) hok
    · have hok := ip hok hc
      refine lv_aload_n hx hb dX5_pass_289 rfl (lv_at hl 0 rfl) ?_
      refine va_get (D := (dC, dI)) (ci := 5) (v := .ref g10) (C := RX5) (T := TX5) (N := 14) hx hb hts inX5 hown hK hP 0 rfl rfl 10 (by decide) (hts _ qf_X5_27) (fun _ h9 => h9) rfl dX5_pass_290 ?_
      refine lv_astore_n (lv' := [(2, .ref g10), (0, .ref g0), (1, .int l280_1)]) hx hb dX5_pass_293 rfl hl (by decide) rfl (fun ls hl => ?_)
      refine lv_aload_n hx hb dX5_pass_294 rfl (lv_at hl 0 rfl) ?_
      refine va_alen (v := (nI uG.2.2.2.2.2.2.2.2.2.2.1.1)) hx hb hK hP 4 2 rfl rfl rfl dX5_pass_295 ?_
      refine lv_istore_n (lv' := [(3, .int (nI uG.2.2.2.2.2.2.2.2.2.2.1.1)), (2, .ref g10), (0, .ref g0), (1, .int l280_1)]) hx hb dX5_pass_296 rfl hl (by decide) rfl (fun ls hl => ?_)
      refine lv_iconst (v := (0 : Int32)) hx hb dX5_pass_297 (by decide) ?_
      refine lv_istore (lv' := [(4, .int (0 : Int32)), (3, .int (nI uG.2.2.2.2.2.2.2.2.2.2.1.1)), (2, .ref g10), (0, .ref g0), (1, .int l280_1)]) hx hb dX5_pass_298 hl (by decide) rfl (fun ls hl => ?_)
      exact L300 200 g7 g8 g9 g10 g11 g12 G9 G10 G11 G12 uG (nI uG.2.2.2.2.2.2.2.2.2.2.1.1) (0 : Int32) _ _ hP hD hS _ (lv_sub hl [3, 2, 1, 0] rfl) hok
  have J264 : ∀ (g7 : Nat) (g8 : Nat) (g9 : Nat) (g10 : Nat) (g11 : Nat) (g12 : Nat) (G9 : (Nat → Nat)) (G10 : (Nat → Nat)) (G11 : (Nat → Nat)) (G12 : (Nat → Nat)) (uG : tX5) (l264_1 : Int32) (H : Heap) (locs : List Loc) (hP : va_P (dC, dI) vwCl (([] : va_W) ++ (wX5 cI cZ cJ g0 g7 g8 g9 g10 g11 g12 G9 G10 G11 G12 uG ++ ([] : va_W))) H) (hD : va_D A (([] : va_W) ++ (wX5 cI cZ cJ g0 g7 g8 g9 g10 g11 g12 G9 G10 G11 G12 uG ++ ([] : va_W)))) (hS : va_S A s.heap H locs) (ls : Array Slot) (hl : lv_has ls 6 [(0, .ref g0), (1, .int l264_1)]) (hok : p_X5_pass_J264 uG l264_1 = some z), W p l e { frames := 2, cells := 2, slots := 135, locals := 52 } s m args below meth c H locs 0 0 (MQ below (va_Qv (fun _ : (Nat × Nat × Nat × Nat × Nat × Nat × (Nat → Nat) × (Nat → Nat) × (Nat → Nat) × (Nat → Nat)) => True) (fun a9 t => va_P (dC, dI) vwCl (wX5 cI cZ cJ g0 a9.1 a9.2.1 a9.2.2.1 a9.2.2.2.1 a9.2.2.2.2.1 a9.2.2.2.2.2.1 a9.2.2.2.2.2.2.1 a9.2.2.2.2.2.2.2.1 a9.2.2.2.2.2.2.2.2.1 a9.2.2.2.2.2.2.2.2.2 z) t.heap ∧ va_D A (wX5 cI cZ cJ g0 a9.1 a9.2.1 a9.2.2.1 a9.2.2.2.1 a9.2.2.2.2.1 a9.2.2.2.2.2.1 a9.2.2.2.2.2.2.1 a9.2.2.2.2.2.2.2.1 a9.2.2.2.2.2.2.2.2.1 a9.2.2.2.2.2.2.2.2.2 z)) A) args s 2 135 A) (F0 m 264 ls []) := by
    intro g7 g8 g9 g10 g11 g12 G9 G10 G11 G12 uG l264_1 H locs hP hD hS ls hl hok
    unfold p_X5_pass_J264 at hok
    refine lv_aload_n hx hb dX5_pass_264 rfl (lv_at hl 0 rfl) ?_
    refine va_get (D := (dC, dI)) (ci := 5) (v := .ref g7) (C := RX5) (T := TX5) (N := 14) hx hb hts inX5 hown hK hP 0 rfl rfl 7 (by decide) (hts _ qf_X5_13) (fun _ h9 => h9) rfl dX5_pass_265 ?_
    refine lv_aload_n hx hb dX5_pass_268 rfl (lv_at hl 0 rfl) ?_
    refine va_get (D := (dC, dI)) (ci := 5) (v := .int uG.2.1) (C := RX5) (T := TX5) (N := 14) hx hb hts inX5 hown hK hP 0 rfl rfl 1 (by decide) (hts _ qf_X5_36) (fun _ h9 => h9) rfl dX5_pass_269 ?_
    obtain ⟨hi5, hok⟩ := gd_some hok
    refine va_zald hx hb hK hP 1 1 rfl rfl hi5 dX5_pass_272 ?_
    refine lv_if_eq (tgt := 280) hx hb dX5_pass_273 (by decide) (fun hc => ?_) (fun hc => ?_)
    · have hok := ip hok hc
      refine W.widen (k := 2) (n := 135) (Nat.le_of_ble_eq_true rfl) (Nat.le_of_ble_eq_true rfl) ?_
      exact J280 g7 g8 g9 g10 g11 g12 G9 G10 G11 G12 uG l264_1 _ _ hP hD hS _ hl hok
    · have hok := iq hok hc
      refine lv_aload_n hx hb dX5_pass_276 rfl (lv_at hl 0 rfl) ?_
      obtain ⟨v6, hc6, hok⟩ := bd_some hok
      refine cAVv (ci := 5) (q0 := 0) [] S hK hO hP hD hS hA (c_X5_stop l dC dI cI cZ cJ g0 g7 g8 g9 g10 g11 g12 G9 G10 G11 G12 _ uG hc6) (lw_V qm_X5_65 qi_X5_stop qs_X5_stop qn_X5 qc_X5_stop) hd_X5_stop ⟨rfl, rfl⟩ ⟨Nat.le_of_ble_eq_true rfl, Nat.le_of_ble_eq_true rfl⟩ ⟨Nat.le_of_ble_eq_true rfl, Nat.le_of_ble_eq_true rfl⟩ rfl rfl rfl hl.1 (Nat.le_of_ble_eq_true rfl) rfl dX5_pass_277 (fun a9 H locs hP hD hS => ?_)
      obtain ⟨g7_7, g8_7, g9_7, g10_7, g11_7, g12_7, G9_7, G10_7, G11_7, G12_7⟩ := a9
      have hP : va_P (dC, dI) vwCl (([] : va_W) ++ (wX5 cI cZ cJ g0 g7_7 g8_7 g9_7 g10_7 g11_7 g12_7 G9_7 G10_7 G11_7 G12_7 v6 ++ ([] : va_W))) H := hP
      have hD : va_D A (([] : va_W) ++ (wX5 cI cZ cJ g0 g7_7 g8_7 g9_7 g10_7 g11_7 g12_7 G9_7 G10_7 G11_7 G12_7 v6 ++ ([] : va_W))) := hD
      refine W.widen (k := 2) (n := 135) (Nat.le_of_ble_eq_true rfl) (Nat.le_of_ble_eq_true rfl) ?_
      exact J280 g7_7 g8_7 g9_7 g10_7 g11_7 g12_7 G9_7 G10_7 G11_7 G12_7 v6 l264_1 _ _ hP hD hS _ hl hok
  have J241 : ∀ (g7 : Nat) (g8 : Nat) (g9 : Nat) (g10 : Nat) (g11 : Nat) (g12 : Nat) (G9 : (Nat → Nat)) (G10 : (Nat → Nat)) (G11 : (Nat → Nat)) (G12 : (Nat → Nat)) (uG : tX5) (l241_1 : Int32) (H : Heap) (locs : List Loc) (hP : va_P (dC, dI) vwCl (([] : va_W) ++ (wX5 cI cZ cJ g0 g7 g8 g9 g10 g11 g12 G9 G10 G11 G12 uG ++ ([] : va_W))) H) (hD : va_D A (([] : va_W) ++ (wX5 cI cZ cJ g0 g7 g8 g9 g10 g11 g12 G9 G10 G11 G12 uG ++ ([] : va_W)))) (hS : va_S A s.heap H locs) (ls : Array Slot) (hl : lv_has ls 6 [(0, .ref g0), (1, .int l241_1)]) (hok : p_X5_pass_J241 uG l241_1 = some z), W p l e { frames := 2, cells := 2, slots := 135, locals := 52 } s m args below meth c H locs 0 0 (MQ below (va_Qv (fun _ : (Nat × Nat × Nat × Nat × Nat × Nat × (Nat → Nat) × (Nat → Nat) × (Nat → Nat) × (Nat → Nat)) => True) (fun a9 t => va_P (dC, dI) vwCl (wX5 cI cZ cJ g0 a9.1 a9.2.1 a9.2.2.1 a9.2.2.2.1 a9.2.2.2.2.1 a9.2.2.2.2.2.1 a9.2.2.2.2.2.2.1 a9.2.2.2.2.2.2.2.1 a9.2.2.2.2.2.2.2.2.1 a9.2.2.2.2.2.2.2.2.2 z) t.heap ∧ va_D A (wX5 cI cZ cJ g0 a9.1 a9.2.1 a9.2.2.1 a9.2.2.2.1 a9.2.2.2.2.1 a9.2.2.2.2.2.1 a9.2.2.2.2.2.2.1 a9.2.2.2.2.2.2.2.1 a9.2.2.2.2.2.2.2.2.1 a9.2.2.2.2.2.2.2.2.2 z)) A) args s 2 135 A) (F0 m 241 ls []) := by
    intro g7 g8 g9 g10 g11 g12 G9 G10 G11 G12 uG l241_1 H locs hP hD hS ls hl hok
    unfold p_X5_pass_J241 at hok
    refine lv_aload_n hx hb dX5_pass_241 rfl (lv_at hl 0 rfl) ?_
    refine lv_dup hx hb dX5_pass_242 rfl ?_
    refine va_get (D := (dC, dI)) (ci := 5) (v := .int uG.2.1) (C := RX5) (T := TX5) (N := 14) hx hb hts inX5 hown hK hP 0 rfl rfl 1 (by decide) (hts _ qf_X5_36) (fun _ h9 => h9) rfl dX5_pass_243 ?_
    refine lv_aload_n hx hb dX5_pass_246 rfl (lv_at hl 0 rfl) ?_
    refine va_get (D := (dC, dI)) (ci := 5) (v := .int uG.2.2.1) (C := RX5) (T := TX5) (N := 14) hx hb hts inX5 hown hK hP 0 rfl rfl 2 (by decide) (hts _ qf_X5_39) (fun _ h9 => h9) rfl dX5_pass_247 ?_
    refine lv_iadd hx hb dX5_pass_250 ?_
    refine va_put (D := (dC, dI)) (ci := 5) (v := .int (uG.2.1 + uG.2.2.1)) (ty := .int) (C := RX5) (T := TX5) (N := 14) hx hb hts inX5 tyX5 tyX5_ok nmX5 hown hK hP hD hS 0 rfl rfl 1 (by decide) (hts _ qf_X5_36) (fun _ h9 => h9) rfl (tyX5_ok 1 (by decide)) rfl rfl (Nat.le_of_ble_eq_true rfl) dX5_pass_251 (fun H locs hP hD hS => ?_)
    have hP : va_P (dC, dI) vwCl (([] : va_W) ++ (wX5 cI cZ cJ g0 g7 g8 g9 g10 g11 g12 G9 G10 G11 G12 (uG.1, (uG.2.1 + uG.2.2.1), uG.2.2) ++ ([] : va_W))) H := hP
    have hD : va_D A (([] : va_W) ++ (wX5 cI cZ cJ g0 g7 g8 g9 g10 g11 g12 G9 G10 G11 G12 (uG.1, (uG.2.1 + uG.2.2.1), uG.2.2) ++ ([] : va_W))) := hD
    refine lv_aload_n hx hb dX5_pass_254 rfl (lv_at hl 0 rfl) ?_
    refine lv_dup hx hb dX5_pass_255 rfl ?_
    refine va_get (D := (dC, dI)) (ci := 5) (v := .int uG.2.2.2.2.1) (C := RX5) (T := TX5) (N := 14) hx hb hts inX5 hown hK hP 0 rfl rfl 4 (by decide) (hts _ qf_X5_45) (fun _ h9 => h9) rfl dX5_pass_256 ?_
    refine lv_iconst (v := (1 : Int32)) hx hb dX5_pass_259 (by decide) ?_
    refine lv_iadd hx hb dX5_pass_260 ?_
    refine va_put (D := (dC, dI)) (ci := 5) (v := .int (uG.2.2.2.2.1 + (1 : Int32))) (ty := .int) (C := RX5) (T := TX5) (N := 14) hx hb hts inX5 tyX5 tyX5_ok nmX5 hown hK hP hD hS 0 rfl rfl 4 (by decide) (hts _ qf_X5_45) (fun _ h9 => h9) rfl (tyX5_ok 4 (by decide)) rfl rfl (Nat.le_of_ble_eq_true rfl) dX5_pass_261 (fun H locs hP hD hS => ?_)
    have hP : va_P (dC, dI) vwCl (([] : va_W) ++ (wX5 cI cZ cJ g0 g7 g8 g9 g10 g11 g12 G9 G10 G11 G12 (uG.1, (uG.2.1 + uG.2.2.1), uG.2.2.1, uG.2.2.2.1, (uG.2.2.2.2.1 + (1 : Int32)), uG.2.2.2.2.2) ++ ([] : va_W))) H := hP
    have hD : va_D A (([] : va_W) ++ (wX5 cI cZ cJ g0 g7 g8 g9 g10 g11 g12 G9 G10 G11 G12 (uG.1, (uG.2.1 + uG.2.2.1), uG.2.2.1, uG.2.2.2.1, (uG.2.2.2.2.1 + (1 : Int32)), uG.2.2.2.2.2) ++ ([] : va_W))) := hD
    exact J264 g7 g8 g9 g10 g11 g12 G9 G10 G11 G12 (uG.1, (uG.2.1 + uG.2.2.1), uG.2.2.1, uG.2.2.2.1, (uG.2.2.2.2.1 + (1 : Int32)), uG.2.2.2.2.2) l241_1 _ _ hP hD hS _ hl hok
  have L159 : ∀ n159 : Nat, ∀ (g7 : Nat) (g8 : Nat) (g9 : Nat) (g10 : Nat) (g11 : Nat) (g12 : Nat) (G9 : (Nat → Nat)) (G10 : (Nat → Nat)) (G11 : (Nat → Nat)) (G12 : (Nat → Nat)) (uG : tX5) (l159_1 : Int32) (l159_3 : Int32) (l159_4 : Int32) (H : Heap) (locs : List Loc) (hP : va_P (dC, dI) vwCl (([] : va_W) ++ (wX5 cI cZ cJ g0 g7 g8 g9 g10 g11 g12 G9 G10 G11 G12 uG ++ ([] : va_W))) H) (hD : va_D A (([] : va_W) ++ (wX5 cI cZ cJ g0 g7 g8 g9 g10 g11 g12 G9 G10 G11 G12 uG ++ ([] : va_W)))) (hS : va_S A s.heap H locs) (ls : Array Slot) (hl : lv_has ls 6 [(0, .ref g0), (1, .int l159_1), (3, .int l159_3), (4, .int l159_4)]) (hok : p_X5_pass_L159 n159 uG l159_1 l159_3 l159_4 = some z), W p l e { frames := 2, cells := 2, slots := 135, locals := 52 } s m args below meth c H locs 0 0 (MQ below (va_Qv (fun _ : (Nat × Nat × Nat × Nat × Nat × Nat × (Nat → Nat) × (Nat → Nat) × (Nat → Nat) × (Nat → Nat)) => True) (fun a9 t => va_P (dC, dI) vwCl (wX5 cI cZ cJ g0 a9.1 a9.2.1 a9.2.2.1 a9.2.2.2.1 a9.2.2.2.2.1 a9.2.2.2.2.2.1 a9.2.2.2.2.2.2.1 a9.2.2.2.2.2.2.2.1 a9.2.2.2.2.2.2.2.2.1 a9.2.2.2.2.2.2.2.2.2 z) t.heap ∧ va_D A (wX5 cI cZ cJ g0 a9.1 a9.2.1 a9.2.2.1 a9.2.2.2.1 a9.2.2.2.2.1 a9.2.2.2.2.2.1 a9.2.2.2.2.2.2.1 a9.2.2.2.2.2.2.2.1 a9.2.2.2.2.2.2.2.2.1 a9.2.2.2.2.2.2.2.2.2 z)) A) args s 2 135 A) (F0 m 159 ls []) := by
    intro n159
    induction n159 with
    | zero =>
      intro g7 g8 g9 g10 g11 g12 G9 G10 G11 G12 uG l159_1 l159_3 l159_4 H locs hP hD hS ls hl hok
      rw [p_X5_pass_L159] at hok
      cases hok
    | succ n159 ih159 =>
      have J203 : ∀ (g7 : Nat) (g8 : Nat) (g9 : Nat) (g10 : Nat) (g11 : Nat) (g12 : Nat) (G9 : (Nat → Nat)) (G10 : (Nat → Nat)) (G11 : (Nat → Nat)) (G12 : (Nat → Nat)) (uG : tX5) (l203_1 : Int32) (l203_3 : Int32) (l203_4 : Int32) (s203_0 : Int32) (H : Heap) (locs : List Loc) (hP : va_P (dC, dI) vwCl (([] : va_W) ++ (wX5 cI cZ cJ g0 g7 g8 g9 g10 g11 g12 G9 G10 G11 G12 uG ++ ([] : va_W))) H) (hD : va_D A (([] : va_W) ++ (wX5 cI cZ cJ g0 g7 g8 g9 g10 g11 g12 G9 G10 G11 G12 uG ++ ([] : va_W)))) (hS : va_S A s.heap H locs) (ls : Array Slot) (hl : lv_has ls 6 [(0, .ref g0), (1, .int l203_1), (3, .int l203_3), (4, .int l203_4)]) (hok : p_X5_pass_J203 (p_X5_pass_L159 n159) uG l203_1 l203_3 l203_4 s203_0 = some z), W p l e { frames := 2, cells := 2, slots := 135, locals := 52 } s m args below meth c H locs 0 0 (MQ below (va_Qv (fun _ : (Nat × Nat × Nat × Nat × Nat × Nat × (Nat → Nat) × (Nat → Nat) × (Nat → Nat) × (Nat → Nat)) => True) (fun a9 t => va_P (dC, dI) vwCl (wX5 cI cZ cJ g0 a9.1 a9.2.1 a9.2.2.1 a9.2.2.2.1 a9.2.2.2.2.1 a9.2.2.2.2.2.1 a9.2.2.2.2.2.2.1 a9.2.2.2.2.2.2.2.1 a9.2.2.2.2.2.2.2.2.1 a9.2.2.2.2.2.2.2.2.2 z) t.heap ∧ va_D A (wX5 cI cZ cJ g0 a9.1 a9.2.1 a9.2.2.1 a9.2.2.2.1 a9.2.2.2.2.1 a9.2.2.2.2.2.1 a9.2.2.2.2.2.2.1 a9.2.2.2.2.2.2.2.1 a9.2.2.2.2.2.2.2.2.1 a9.2.2.2.2.2.2.2.2.2 z)) A) args s 2 135 A) (F0 m 203 ls [.int s203_0]) := by
        intro g7 g8 g9 g10 g11 g12 G9 G10 G11 G12 uG l203_1 l203_3 l203_4 s203_0 H locs hP hD hS ls hl hok
        unfold p_X5_pass_J203 at hok
        refine lv_istore (lv' := [(5, .int s203_0), (0, .ref g0), (1, .int l203_1), (3, .int l203_3), (4, .int l203_4)]) hx hb dX5_pass_203 hl (by decide) rfl (fun ls hl => ?_)
        refine lv_iload hx hb dX5_pass_205 (lv_at hl 0 rfl) ?_
        refine lv_iload_n hx hb dX5_pass_207 rfl (lv_at hl 3 rfl) ?_
        refine lv_icmp_lt (tgt := 214) hx hb dX5_pass_208 (by decide) (fun hc => ?_) (fun hc => ?_)
        · have hok := ip hok hc
          refine lv_iload hx hb dX5_pass_214 (lv_at hl 0 rfl) ?_
          refine lv_istore_n (lv' := [(3, .int s203_0), (5, .int s203_0), (0, .ref g0), (1, .int l203_1), (4, .int l203_4)]) hx hb dX5_pass_216 rfl hl (by decide) rfl (fun ls hl => ?_)
          refine lv_aload_n hx hb dX5_pass_217 rfl (lv_at hl 2 rfl) ?_
          refine lv_iload hx hb dX5_pass_218 (lv_at hl 4 rfl) ?_
          refine lv_aload_n hx hb dX5_pass_220 rfl (lv_at hl 2 rfl) ?_
          refine va_get (D := (dC, dI)) (ci := 5) (v := .int uG.2.1) (C := RX5) (T := TX5) (N := 14) hx hb hts inX5 hown hK hP 0 rfl rfl 1 (by decide) (hts _ qf_X5_36) (fun _ h9 => h9) rfl dX5_pass_221 ?_
          refine lv_icmp_le (tgt := 231) hx hb dX5_pass_224 (by decide) (fun hc => ?_) (fun hc => ?_)
          · have hok := ip hok hc
            refine lv_iconst (v := (-1 : Int32)) hx hb dX5_pass_231 (by decide) ?_
            refine va_put (D := (dC, dI)) (ci := 5) (v := .int (-1 : Int32)) (ty := .int) (C := RX5) (T := TX5) (N := 14) hx hb hts inX5 tyX5 tyX5_ok nmX5 hown hK hP hD hS 0 rfl rfl 2 (by decide) (hts _ qf_X5_39) (fun _ h9 => h9) rfl (tyX5_ok 2 (by decide)) rfl rfl (Nat.le_of_ble_eq_true rfl) dX5_pass_232 (fun H locs hP hD hS => ?_)
            have hP : va_P (dC, dI) vwCl (([] : va_W) ++ (wX5 cI cZ cJ g0 g7 g8 g9 g10 g11 g12 G9 G10 G11 G12 (uG.1, uG.2.1, (-1 : Int32), uG.2.2.2) ++ ([] : va_W))) H := hP
            have hD : va_D A (([] : va_W) ++ (wX5 cI cZ cJ g0 g7 g8 g9 g10 g11 g12 G9 G10 G11 G12 (uG.1, uG.2.1, (-1 : Int32), uG.2.2.2) ++ ([] : va_W))) := hD
            refine lv_iinc (v := (l203_4 + (-1 : Int32))) (lv' := [(4, .int (l203_4 + (-1 : Int32))), (3, .int s203_0), (5, .int s203_0), (0, .ref g0), (1, .int l203_1)]) hx hb dX5_pass_235 hl (k := 4) rfl rfl (by decide) rfl (fun ls hl => ?_)
            refine lv_goto (tgt := 159) hx hb dX5_pass_238 (by decide) ?_
            exact ih159 g7 g8 g9 g10 g11 g12 G9 G10 G11 G12 (uG.1, uG.2.1, (-1 : Int32), uG.2.2.2) l203_1 s203_0 (l203_4 + (-1 : Int32)) _ _ hP hD hS _ (lv_sub hl [3, 4, 1, 0] rfl) hok
          · have hok := iq hok hc
            refine lv_iconst (v := (1 : Int32)) hx hb dX5_pass_227 (by decide) ?_
            refine lv_goto (tgt := 232) hx hb dX5_pass_228 (by decide) ?_
            refine va_put (D := (dC, dI)) (ci := 5) (v := .int (1 : Int32)) (ty := .int) (C := RX5) (T := TX5) (N := 14) hx hb hts inX5 tyX5 tyX5_ok nmX5 hown hK hP hD hS 0 rfl rfl 2 (by decide) (hts _ qf_X5_39) (fun _ h9 => h9) rfl (tyX5_ok 2 (by decide)) rfl rfl (Nat.le_of_ble_eq_true rfl) dX5_pass_232 (fun H locs hP hD hS => ?_)
            have hP : va_P (dC, dI) vwCl (([] : va_W) ++ (wX5 cI cZ cJ g0 g7 g8 g9 g10 g11 g12 G9 G10 G11 G12 (uG.1, uG.2.1, (1 : Int32), uG.2.2.2) ++ ([] : va_W))) H := hP
            have hD : va_D A (([] : va_W) ++ (wX5 cI cZ cJ g0 g7 g8 g9 g10 g11 g12 G9 G10 G11 G12 (uG.1, uG.2.1, (1 : Int32), uG.2.2.2) ++ ([] : va_W))) := hD
            refine lv_iinc (v := (l203_4 + (-1 : Int32))) (lv' := [(4, .int (l203_4 + (-1 : Int32))), (3, .int s203_0), (5, .int s203_0), (0, .ref g0), (1, .int l203_1)]) hx hb dX5_pass_235 hl (k := 4) rfl rfl (by decide) rfl (fun ls hl => ?_)
            refine lv_goto (tgt := 159) hx hb dX5_pass_238 (by decide) ?_
            exact ih159 g7 g8 g9 g10 g11 g12 G9 G10 G11 G12 (uG.1, uG.2.1, (1 : Int32), uG.2.2.2) l203_1 s203_0 (l203_4 + (-1 : Int32)) _ _ hP hD hS _ (lv_sub hl [3, 4, 1, 0] rfl) hok
        · have hok := iq hok hc
          refine lv_goto (tgt := 235) hx hb dX5_pass_211 (by decide) ?_
          refine lv_iinc (v := (l203_4 + (-1 : Int32))) (lv' := [(4, .int (l203_4 + (-1 : Int32))), (5, .int s203_0), (0, .ref g0), (1, .int l203_1), (3, .int l203_3)]) hx hb dX5_pass_235 hl (k := 4) rfl rfl (by decide) rfl (fun ls hl => ?_)
          refine lv_goto (tgt := 159) hx hb dX5_pass_238 (by decide) ?_
          exact ih159 g7 g8 g9 g10 g11 g12 G9 G10 G11 G12 uG l203_1 l203_3 (l203_4 + (-1 : Int32)) _ _ hP hD hS _ (lv_sub hl [2, 3, 4, 0] rfl) hok
      intro g7 g8 g9 g10 g11 g12 G9 G10 G11 G12 uG l159_1 l159_3 l159_4 H locs hP hD hS ls hl hok
      rw [p_X5_pass_L159] at hok
      refine lv_iload hx hb dX5_pass_159 (lv_at hl 3 rfl) ?_
      refine lv_if_lt (tgt := 241) hx hb dX5_pass_161 (by decide) (fun hc => ?_) (fun hc => ?_)
      · have hok := ip hok hc
        exact J241 g7 g8 g9 g10 g11 g12 G9 G10 G11 G12 uG l159_1 _ _ hP hD hS _ (lv_sub hl [0, 1] rfl) hok
      · have hok := iq hok hc
        refine lv_aload_n hx hb dX5_pass_164 rfl (lv_at hl 0 rfl) ?_
        refine va_get (D := (dC, dI)) (ci := 5) (v := .ref g7) (C := RX5) (T := TX5) (N := 14) hx hb hts inX5 hown hK hP 0 rfl rfl 7 (by decide) (hts _ qf_X5_13) (fun _ h9 => h9) rfl dX5_pass_165 ?_
        refine lv_iload hx hb dX5_pass_168 (lv_at hl 3 rfl) ?_
        obtain ⟨hi13, hok⟩ := gd_some hok
        refine va_zald hx hb hK hP 1 1 rfl rfl hi13 dX5_pass_170 ?_
        refine lv_if_ne (tgt := 177) hx hb dX5_pass_171 (by decide) (fun hc => ?_) (fun hc => ?_)
        · have hok := iq hok hc
          refine lv_iload hx hb dX5_pass_177 (lv_at hl 3 rfl) ?_
          refine lv_aload_n hx hb dX5_pass_179 rfl (lv_at hl 0 rfl) ?_
          refine va_get (D := (dC, dI)) (ci := 5) (v := .int uG.2.1) (C := RX5) (T := TX5) (N := 14) hx hb hts inX5 hown hK hP 0 rfl rfl 1 (by decide) (hts _ qf_X5_36) (fun _ h9 => h9) rfl dX5_pass_180 ?_
          refine lv_icmp_le (tgt := 196) hx hb dX5_pass_183 (by decide) (fun hc => ?_) (fun hc => ?_)
          · have hok := ip hok hc
            refine lv_aload_n hx hb dX5_pass_196 rfl (lv_at hl 0 rfl) ?_
            refine va_get (D := (dC, dI)) (ci := 5) (v := .int uG.2.1) (C := RX5) (T := TX5) (N := 14) hx hb hts inX5 hown hK hP 0 rfl rfl 1 (by decide) (hts _ qf_X5_36) (fun _ h9 => h9) rfl dX5_pass_197 ?_
            refine lv_iload hx hb dX5_pass_200 (lv_at hl 3 rfl) ?_
            refine lv_isub hx hb dX5_pass_202 ?_
            exact J203 g7 g8 g9 g10 g11 g12 G9 G10 G11 G12 uG l159_1 l159_3 l159_4 (uG.2.1 - l159_4) _ _ hP hD hS _ hl hok
          · have hok := iq hok hc
            refine lv_iload hx hb dX5_pass_186 (lv_at hl 3 rfl) ?_
            refine lv_aload_n hx hb dX5_pass_188 rfl (lv_at hl 0 rfl) ?_
            refine va_get (D := (dC, dI)) (ci := 5) (v := .int uG.2.1) (C := RX5) (T := TX5) (N := 14) hx hb hts inX5 hown hK hP 0 rfl rfl 1 (by decide) (hts _ qf_X5_36) (fun _ h9 => h9) rfl dX5_pass_189 ?_
            refine lv_isub hx hb dX5_pass_192 ?_
            refine lv_goto (tgt := 203) hx hb dX5_pass_193 (by decide) ?_
            exact J203 g7 g8 g9 g10 g11 g12 G9 G10 G11 G12 uG l159_1 l159_3 l159_4 (l159_4 - uG.2.1) _ _ hP hD hS _ hl hok
        · have hok := ip hok hc
          refine lv_goto (tgt := 235) hx hb dX5_pass_174 (by decide) ?_
          refine lv_iinc (v := (l159_4 + (-1 : Int32))) (lv' := [(4, .int (l159_4 + (-1 : Int32))), (0, .ref g0), (1, .int l159_1), (3, .int l159_3)]) hx hb dX5_pass_235 hl (k := 3) rfl rfl (by decide) rfl (fun ls hl => ?_)
          refine lv_goto (tgt := 159) hx hb dX5_pass_238 (by decide) ?_
          exact ih159 g7 g8 g9 g10 g11 g12 G9 G10 G11 G12 uG l159_1 l159_3 (l159_4 + (-1 : Int32)) _ _ hP hD hS _ (lv_sub hl [1, 2, 3, 0] rfl) hok
  have L87 : ∀ n87 : Nat, ∀ (g7 : Nat) (g8 : Nat) (g9 : Nat) (g10 : Nat) (g11 : Nat) (g12 : Nat) (G9 : (Nat → Nat)) (G10 : (Nat → Nat)) (G11 : (Nat → Nat)) (G12 : (Nat → Nat)) (uG : tX5) (l87_1 : Int32) (l87_2 : Int32) (l87_3 : Int32) (H : Heap) (locs : List Loc) (hP : va_P (dC, dI) vwCl (([] : va_W) ++ (wX5 cI cZ cJ g0 g7 g8 g9 g10 g11 g12 G9 G10 G11 G12 uG ++ ([] : va_W))) H) (hD : va_D A (([] : va_W) ++ (wX5 cI cZ cJ g0 g7 g8 g9 g10 g11 g12 G9 G10 G11 G12 uG ++ ([] : va_W)))) (hS : va_S A s.heap H locs) (ls : Array Slot) (hl : lv_has ls 6 [(0, .ref g0), (1, .int l87_1), (2, .int l87_2), (3, .int l87_3)]) (hok : p_X5_pass_L87 n87 uG l87_1 l87_2 l87_3 = some z), W p l e { frames := 2, cells := 2, slots := 135, locals := 52 } s m args below meth c H locs 0 0 (MQ below (va_Qv (fun _ : (Nat × Nat × Nat × Nat × Nat × Nat × (Nat → Nat) × (Nat → Nat) × (Nat → Nat) × (Nat → Nat)) => True) (fun a9 t => va_P (dC, dI) vwCl (wX5 cI cZ cJ g0 a9.1 a9.2.1 a9.2.2.1 a9.2.2.2.1 a9.2.2.2.2.1 a9.2.2.2.2.2.1 a9.2.2.2.2.2.2.1 a9.2.2.2.2.2.2.2.1 a9.2.2.2.2.2.2.2.2.1 a9.2.2.2.2.2.2.2.2.2 z) t.heap ∧ va_D A (wX5 cI cZ cJ g0 a9.1 a9.2.1 a9.2.2.1 a9.2.2.2.1 a9.2.2.2.2.1 a9.2.2.2.2.2.1 a9.2.2.2.2.2.2.1 a9.2.2.2.2.2.2.2.1 a9.2.2.2.2.2.2.2.2.1 a9.2.2.2.2.2.2.2.2.2 z)) A) args s 2 135 A) (F0 m 87 ls []) := by
    intro n87
    induction n87 with
    | zero =>
      intro g7 g8 g9 g10 g11 g12 G9 G10 G11 G12 uG l87_1 l87_2 l87_3 H locs hP hD hS ls hl hok
      rw [p_X5_pass_L87] at hok
      cases hok
    | succ n87 ih87 =>
      have J135 : ∀ (g7 : Nat) (g8 : Nat) (g9 : Nat) (g10 : Nat) (g11 : Nat) (g12 : Nat) (G9 : (Nat → Nat)) (G10 : (Nat → Nat)) (G11 : (Nat → Nat)) (G12 : (Nat → Nat)) (uG : tX5) (l135_1 : Int32) (l135_3 : Int32) (H : Heap) (locs : List Loc) (hP : va_P (dC, dI) vwCl (([] : va_W) ++ (wX5 cI cZ cJ g0 g7 g8 g9 g10 g11 g12 G9 G10 G11 G12 uG ++ ([] : va_W))) H) (hD : va_D A (([] : va_W) ++ (wX5 cI cZ cJ g0 g7 g8 g9 g10 g11 g12 G9 G10 G11 G12 uG ++ ([] : va_W)))) (hS : va_S A s.heap H locs) (ls : Array Slot) (hl : lv_has ls 6 [(0, .ref g0), (1, .int l135_1), (3, .int l135_3)]) (hok : p_X5_pass_J135 (p_X5_pass_L87 n87) uG l135_1 l135_3 = some z), W p l e { frames := 2, cells := 2, slots := 135, locals := 52 } s m args below meth c H locs 0 0 (MQ below (va_Qv (fun _ : (Nat × Nat × Nat × Nat × Nat × Nat × (Nat → Nat) × (Nat → Nat) × (Nat → Nat) × (Nat → Nat)) => True) (fun a9 t => va_P (dC, dI) vwCl (wX5 cI cZ cJ g0 a9.1 a9.2.1 a9.2.2.1 a9.2.2.2.1 a9.2.2.2.2.1 a9.2.2.2.2.2.1 a9.2.2.2.2.2.2.1 a9.2.2.2.2.2.2.2.1 a9.2.2.2.2.2.2.2.2.1 a9.2.2.2.2.2.2.2.2.2 z) t.heap ∧ va_D A (wX5 cI cZ cJ g0 a9.1 a9.2.1 a9.2.2.1 a9.2.2.2.1 a9.2.2.2.2.1 a9.2.2.2.2.2.1 a9.2.2.2.2.2.2.1 a9.2.2.2.2.2.2.2.1 a9.2.2.2.2.2.2.2.2.1 a9.2.2.2.2.2.2.2.2.2 z)) A) args s 2 135 A) (F0 m 135 ls []) := by
        intro g7 g8 g9 g10 g11 g12 G9 G10 G11 G12 uG l135_1 l135_3 H locs hP hD hS ls hl hok
        unfold p_X5_pass_J135 at hok
        refine lv_iconst (v := (1 : Int32)) hx hb dX5_pass_135 (by decide) ?_
        refine lv_istore_n (lv' := [(2, .int (1 : Int32)), (0, .ref g0), (1, .int l135_1), (3, .int l135_3)]) hx hb dX5_pass_136 rfl hl (by decide) rfl (fun ls hl => ?_)
        refine lv_iinc (v := (l135_3 + 1)) (lv' := [(3, .int (l135_3 + 1)), (2, .int (1 : Int32)), (0, .ref g0), (1, .int l135_1)]) hx hb dX5_pass_137 hl (k := 3) rfl rfl (by decide) rfl (fun ls hl => ?_)
        refine lv_goto (tgt := 87) hx hb dX5_pass_140 (by decide) ?_
        exact ih87 g7 g8 g9 g10 g11 g12 G9 G10 G11 G12 uG l135_1 (1 : Int32) (l135_3 + 1) _ _ hP hD hS _ (lv_sub hl [2, 3, 1, 0] rfl) hok
      have J120 : ∀ (g7 : Nat) (g8 : Nat) (g9 : Nat) (g10 : Nat) (g11 : Nat) (g12 : Nat) (G9 : (Nat → Nat)) (G10 : (Nat → Nat)) (G11 : (Nat → Nat)) (G12 : (Nat → Nat)) (uG : tX5) (l120_1 : Int32) (l120_2 : Int32) (l120_3 : Int32) (H : Heap) (locs : List Loc) (hP : va_P (dC, dI) vwCl (([] : va_W) ++ (wX5 cI cZ cJ g0 g7 g8 g9 g10 g11 g12 G9 G10 G11 G12 uG ++ ([] : va_W))) H) (hD : va_D A (([] : va_W) ++ (wX5 cI cZ cJ g0 g7 g8 g9 g10 g11 g12 G9 G10 G11 G12 uG ++ ([] : va_W)))) (hS : va_S A s.heap H locs) (ls : Array Slot) (hl : lv_has ls 6 [(0, .ref g0), (1, .int l120_1), (2, .int l120_2), (3, .int l120_3)]) (hok : p_X5_pass_J120 (p_X5_pass_L87 n87) uG l120_1 l120_2 l120_3 = some z), W p l e { frames := 2, cells := 2, slots := 135, locals := 52 } s m args below meth c H locs 0 0 (MQ below (va_Qv (fun _ : (Nat × Nat × Nat × Nat × Nat × Nat × (Nat → Nat) × (Nat → Nat) × (Nat → Nat) × (Nat → Nat)) => True) (fun a9 t => va_P (dC, dI) vwCl (wX5 cI cZ cJ g0 a9.1 a9.2.1 a9.2.2.1 a9.2.2.2.1 a9.2.2.2.2.1 a9.2.2.2.2.2.1 a9.2.2.2.2.2.2.1 a9.2.2.2.2.2.2.2.1 a9.2.2.2.2.2.2.2.2.1 a9.2.2.2.2.2.2.2.2.2 z) t.heap ∧ va_D A (wX5 cI cZ cJ g0 a9.1 a9.2.1 a9.2.2.1 a9.2.2.2.1 a9.2.2.2.2.1 a9.2.2.2.2.2.1 a9.2.2.2.2.2.2.1 a9.2.2.2.2.2.2.2.1 a9.2.2.2.2.2.2.2.2.1 a9.2.2.2.2.2.2.2.2.2 z)) A) args s 2 135 A) (F0 m 120 ls []) := by
        intro g7 g8 g9 g10 g11 g12 G9 G10 G11 G12 uG l120_1 l120_2 l120_3 H locs hP hD hS ls hl hok
        unfold p_X5_pass_J120 at hok
        refine lv_aload_n hx hb dX5_pass_120 rfl (lv_at hl 0 rfl) ?_
        refine va_get (D := (dC, dI)) (ci := 5) (v := .int uG.2.2.1) (C := RX5) (T := TX5) (N := 14) hx hb hts inX5 hown hK hP 0 rfl rfl 2 (by decide) (hts _ qf_X5_39) (fun _ h9 => h9) rfl dX5_pass_121 ?_
        refine lv_if_ge (tgt := 137) hx hb dX5_pass_124 (by decide) (fun hc => ?_) (fun hc => ?_)
        · have hok := ip hok hc
          refine lv_iinc (v := (l120_3 + 1)) (lv' := [(3, .int (l120_3 + 1)), (0, .ref g0), (1, .int l120_1), (2, .int l120_2)]) hx hb dX5_pass_137 hl (k := 3) rfl rfl (by decide) rfl (fun ls hl => ?_)
          refine lv_goto (tgt := 87) hx hb dX5_pass_140 (by decide) ?_
          exact ih87 g7 g8 g9 g10 g11 g12 G9 G10 G11 G12 uG l120_1 l120_2 (l120_3 + 1) _ _ hP hD hS _ (lv_sub hl [1, 2, 3, 0] rfl) hok
        · have hok := iq hok hc
          refine lv_iload_n hx hb dX5_pass_127 rfl (lv_at hl 3 rfl) ?_
          refine lv_aload_n hx hb dX5_pass_128 rfl (lv_at hl 0 rfl) ?_
          refine va_get (D := (dC, dI)) (ci := 5) (v := .int uG.2.1) (C := RX5) (T := TX5) (N := 14) hx hb hts inX5 hown hK hP 0 rfl rfl 1 (by decide) (hts _ qf_X5_36) (fun _ h9 => h9) rfl dX5_pass_129 ?_
          refine lv_icmp_ge (tgt := 137) hx hb dX5_pass_132 (by decide) (fun hc => ?_) (fun hc => ?_)
          · have hok := ip hok hc
            refine lv_iinc (v := (l120_3 + 1)) (lv' := [(3, .int (l120_3 + 1)), (0, .ref g0), (1, .int l120_1), (2, .int l120_2)]) hx hb dX5_pass_137 hl (k := 3) rfl rfl (by decide) rfl (fun ls hl => ?_)
            refine lv_goto (tgt := 87) hx hb dX5_pass_140 (by decide) ?_
            exact ih87 g7 g8 g9 g10 g11 g12 G9 G10 G11 G12 uG l120_1 l120_2 (l120_3 + 1) _ _ hP hD hS _ (lv_sub hl [1, 2, 3, 0] rfl) hok
          · have hok := iq hok hc
            exact J135 g7 g8 g9 g10 g11 g12 G9 G10 G11 G12 uG l120_1 l120_3 _ _ hP hD hS _ (lv_sub hl [0, 1, 3] rfl) hok
      intro g7 g8 g9 g10 g11 g12 G9 G10 G11 G12 uG l87_1 l87_2 l87_3 H locs hP hD hS ls hl hok
      rw [p_X5_pass_L87] at hok
      refine lv_iload_n hx hb dX5_pass_87 rfl (lv_at hl 3 rfl) ?_
      refine lv_aload_n hx hb dX5_pass_88 rfl (lv_at hl 0 rfl) ?_
      refine va_get (D := (dC, dI)) (ci := 5) (v := .ref g7) (C := RX5) (T := TX5) (N := 14) hx hb hts inX5 hown hK hP 0 rfl rfl 7 (by decide) (hts _ qf_X5_13) (fun _ h9 => h9) rfl dX5_pass_89 ?_
      refine va_alen (v := (nI uG.2.2.2.2.2.2.2.1.1)) hx hb hK hP 1 1 rfl rfl rfl dX5_pass_92 ?_
      refine lv_icmp_ge (tgt := 143) hx hb dX5_pass_93 (by decide) (fun hc => ?_) (fun hc => ?_)
      · have hok := ip hok hc
        refine lv_iload_n hx hb dX5_pass_143 rfl (lv_at hl 2 rfl) ?_
        refine lv_if_ne (tgt := 241) hx hb dX5_pass_144 (by decide) (fun hc => ?_) (fun hc => ?_)
        · have hok := iq hok hc
          exact J241 g7 g8 g9 g10 g11 g12 G9 G10 G11 G12 uG l87_1 _ _ hP hD hS _ (lv_sub hl [0, 1] rfl) hok
        · have hok := ip hok hc
          refine lv_bipush (v := (99 : Int32)) hx hb dX5_pass_147 (by decide) ?_
          refine lv_istore_n (lv' := [(3, .int (99 : Int32)), (0, .ref g0), (1, .int l87_1), (2, .int l87_2)]) hx hb dX5_pass_149 rfl hl (by decide) rfl (fun ls hl => ?_)
          refine lv_aload_n hx hb dX5_pass_150 rfl (lv_at hl 1 rfl) ?_
          refine va_get (D := (dC, dI)) (ci := 5) (v := .ref g7) (C := RX5) (T := TX5) (N := 14) hx hb hts inX5 hown hK hP 0 rfl rfl 7 (by decide) (hts _ qf_X5_13) (fun _ h9 => h9) rfl dX5_pass_151 ?_
          refine va_alen (v := (nI uG.2.2.2.2.2.2.2.1.1)) hx hb hK hP 1 1 rfl rfl rfl dX5_pass_154 ?_
          refine lv_iconst (v := (1 : Int32)) hx hb dX5_pass_155 (by decide) ?_
          refine lv_isub hx hb dX5_pass_156 ?_
          refine lv_istore (lv' := [(4, .int ((nI uG.2.2.2.2.2.2.2.1.1) - (1 : Int32))), (3, .int (99 : Int32)), (0, .ref g0), (1, .int l87_1), (2, .int l87_2)]) hx hb dX5_pass_157 hl (by decide) rfl (fun ls hl => ?_)
          exact L159 200 g7 g8 g9 g10 g11 g12 G9 G10 G11 G12 uG l87_1 (99 : Int32) ((nI uG.2.2.2.2.2.2.2.1.1) - (1 : Int32)) _ _ hP hD hS _ (lv_sub hl [2, 3, 1, 0] rfl) hok
      · have hok := iq hok hc
        refine lv_aload_n hx hb dX5_pass_96 rfl (lv_at hl 0 rfl) ?_
        refine va_get (D := (dC, dI)) (ci := 5) (v := .ref g7) (C := RX5) (T := TX5) (N := 14) hx hb hts inX5 hown hK hP 0 rfl rfl 7 (by decide) (hts _ qf_X5_13) (fun _ h9 => h9) rfl dX5_pass_97 ?_
        refine lv_iload_n hx hb dX5_pass_100 rfl (lv_at hl 3 rfl) ?_
        obtain ⟨hi8, hok⟩ := gd_some hok
        refine va_zald hx hb hK hP 1 1 rfl rfl hi8 dX5_pass_101 ?_
        refine lv_if_eq (tgt := 137) hx hb dX5_pass_102 (by decide) (fun hc => ?_) (fun hc => ?_)
        · have hok := ip hok hc
          refine lv_iinc (v := (l87_3 + 1)) (lv' := [(3, .int (l87_3 + 1)), (0, .ref g0), (1, .int l87_1), (2, .int l87_2)]) hx hb dX5_pass_137 hl (k := 3) rfl rfl (by decide) rfl (fun ls hl => ?_)
          refine lv_goto (tgt := 87) hx hb dX5_pass_140 (by decide) ?_
          exact ih87 g7 g8 g9 g10 g11 g12 G9 G10 G11 G12 uG l87_1 l87_2 (l87_3 + 1) _ _ hP hD hS _ (lv_sub hl [1, 2, 3, 0] rfl) hok
        · have hok := iq hok hc
          refine lv_aload_n hx hb dX5_pass_105 rfl (lv_at hl 0 rfl) ?_
          refine va_get (D := (dC, dI)) (ci := 5) (v := .int uG.2.2.1) (C := RX5) (T := TX5) (N := 14) hx hb hts inX5 hown hK hP 0 rfl rfl 2 (by decide) (hts _ qf_X5_39) (fun _ h9 => h9) rfl dX5_pass_106 ?_
          refine lv_if_le (tgt := 120) hx hb dX5_pass_109 (by decide) (fun hc => ?_) (fun hc => ?_)
          · have hok := ip hok hc
            exact J120 g7 g8 g9 g10 g11 g12 G9 G10 G11 G12 uG l87_1 l87_2 l87_3 _ _ hP hD hS _ hl hok
          · have hok := iq hok hc
            refine lv_iload_n hx hb dX5_pass_112 rfl (lv_at hl 3 rfl) ?_
            refine lv_aload_n hx hb dX5_pass_113 rfl (lv_at hl 0 rfl) ?_
            refine va_get (D := (dC, dI)) (ci := 5) (v := .int uG.2.1) (C := RX5) (T := TX5) (N := 14) hx hb hts inX5 hown hK hP 0 rfl rfl 1 (by decide) (hts _ qf_X5_36) (fun _ h9 => h9) rfl dX5_pass_114 ?_
            refine lv_icmp_gt (tgt := 135) hx hb dX5_pass_117 (by decide) (fun hc => ?_) (fun hc => ?_)
            · have hok := ip hok hc
              exact J135 g7 g8 g9 g10 g11 g12 G9 G10 G11 G12 uG l87_1 l87_3 _ _ hP hD hS _ (lv_sub hl [0, 1, 3] rfl) hok
            · have hok := iq hok hc
              exact J120 g7 g8 g9 g10 g11 g12 G9 G10 G11 G12 uG l87_1 l87_2 l87_3 _ _ hP hD hS _ hl hok
  unfold p_X5_pass at hok
  refine lv_aload_n hx hb dX5_pass_0 rfl (lv_at hl 0 rfl) ?_
  refine lv_iconst (v := (-1 : Int32)) hx hb dX5_pass_1 (by decide) ?_
  refine va_put (D := (dC, dI)) (ci := 5) (v := .int (-1 : Int32)) (ty := .int) (C := RX5) (T := TX5) (N := 14) hx hb hts inX5 tyX5 tyX5_ok nmX5 hown hK hP hD hS 0 rfl rfl 13 (by decide) (hts _ qf_X5_51) (fun _ h9 => h9) rfl (tyX5_ok 13 (by decide)) rfl rfl (Nat.le_of_ble_eq_true rfl) dX5_pass_2 (fun H locs hP hD hS => ?_)
  have hP : va_P (dC, dI) vwCl (([] : va_W) ++ (wX5 cI cZ cJ g0 g7 g8 g9 g10 g11 g12 G9 G10 G11 G12 (uG.1, uG.2.1, uG.2.2.1, uG.2.2.2.1, uG.2.2.2.2.1, uG.2.2.2.2.2.1, uG.2.2.2.2.2.2.1, uG.2.2.2.2.2.2.2.1, uG.2.2.2.2.2.2.2.2.1, uG.2.2.2.2.2.2.2.2.2.1, uG.2.2.2.2.2.2.2.2.2.2.1, uG.2.2.2.2.2.2.2.2.2.2.2.1, uG.2.2.2.2.2.2.2.2.2.2.2.2.1, (-1 : Int32)) ++ ([] : va_W))) H := hP
  have hD : va_D A (([] : va_W) ++ (wX5 cI cZ cJ g0 g7 g8 g9 g10 g11 g12 G9 G10 G11 G12 (uG.1, uG.2.1, uG.2.2.1, uG.2.2.2.1, uG.2.2.2.2.1, uG.2.2.2.2.2.1, uG.2.2.2.2.2.2.1, uG.2.2.2.2.2.2.2.1, uG.2.2.2.2.2.2.2.2.1, uG.2.2.2.2.2.2.2.2.2.1, uG.2.2.2.2.2.2.2.2.2.2.1, uG.2.2.2.2.2.2.2.2.2.2.2.1, uG.2.2.2.2.2.2.2.2.2.2.2.2.1, (-1 : Int32)) ++ ([] : va_W))) := hD
  refine lv_aload_n hx hb dX5_pass_5 rfl (lv_at hl 0 rfl) ?_
  refine va_get (D := (dC, dI)) (ci := 5) (v := .ref g12) (C := RX5) (T := TX5) (N := 14) hx hb hts inX5 hown hK hP 0 rfl rfl 12 (by decide) (hts _ qf_X5_33) (fun _ h9 => h9) rfl dX5_pass_6 ?_
  refine va_alen (v := (nI uG.2.2.2.2.2.2.2.2.2.2.2.2.1.1)) hx hb hK hP 6 2 rfl rfl rfl dX5_pass_9 ?_
  refine lv_istore_n (lv' := [(1, .int (nI uG.2.2.2.2.2.2.2.2.2.2.2.2.1.1)), (0, .ref g0)]) hx hb dX5_pass_10 rfl hl (by decide) rfl (fun ls hl => ?_)
  refine lv_aload_n hx hb dX5_pass_11 rfl (lv_at hl 1 rfl) ?_
  refine va_get (D := (dC, dI)) (ci := 5) (v := .int uG.2.2.2.1) (C := RX5) (T := TX5) (N := 14) hx hb hts inX5 hown hK hP 0 rfl rfl 3 (by decide) (hts _ qf_X5_42) (fun _ h9 => h9) rfl dX5_pass_12 ?_
  refine lv_if_le (tgt := 64) hx hb dX5_pass_15 (by decide) (fun hc => ?_) (fun hc => ?_)
  · have hok := ip hok hc
    refine lv_aload_n hx hb dX5_pass_64 rfl (lv_at hl 1 rfl) ?_
    obtain ⟨v1, hc1, hok⟩ := bd_some hok
    refine cRVi (ci := 5) (q0 := 0) [] S hK (va_Pmid hP) (c_X5_calls l dC dI cI cZ cJ g0 g7 g8 g9 g10 g11 g12 G9 G10 G11 G12 (uG.1, uG.2.1, uG.2.2.1, uG.2.2.2.1, uG.2.2.2.2.1, uG.2.2.2.2.2.1, uG.2.2.2.2.2.2.1, uG.2.2.2.2.2.2.2.1, uG.2.2.2.2.2.2.2.2.1, uG.2.2.2.2.2.2.2.2.2.1, uG.2.2.2.2.2.2.2.2.2.2.1, uG.2.2.2.2.2.2.2.2.2.2.2.1, uG.2.2.2.2.2.2.2.2.2.2.2.2.1, (-1 : Int32)) hc1) (lw_V qm_X5_61 qi_X5_calls qs_X5_calls qn_X5 qc_X5_calls) hd_X5_calls ⟨rfl, rfl⟩ ⟨Nat.le_of_ble_eq_true rfl, Nat.le_of_ble_eq_true rfl⟩ ⟨Nat.le_of_ble_eq_true rfl, Nat.le_of_ble_eq_true rfl⟩ rfl rfl rfl hl.1 (Nat.le_of_ble_eq_true rfl) rfl dX5_pass_65 ?_
    refine lv_if_le (tgt := 280) hx hb dX5_pass_68 (by decide) (fun hc => ?_) (fun hc => ?_)
    · have hok := ip hok hc
      refine W.widen (k := 2) (n := 135) (Nat.le_of_ble_eq_true rfl) (Nat.le_of_ble_eq_true rfl) ?_
      exact J280 g7 g8 g9 g10 g11 g12 G9 G10 G11 G12 (uG.1, uG.2.1, uG.2.2.1, uG.2.2.2.1, uG.2.2.2.2.1, uG.2.2.2.2.2.1, uG.2.2.2.2.2.2.1, uG.2.2.2.2.2.2.2.1, uG.2.2.2.2.2.2.2.2.1, uG.2.2.2.2.2.2.2.2.2.1, uG.2.2.2.2.2.2.2.2.2.2.1, uG.2.2.2.2.2.2.2.2.2.2.2.1, uG.2.2.2.2.2.2.2.2.2.2.2.2.1, (-1 : Int32)) (nI uG.2.2.2.2.2.2.2.2.2.2.2.2.1.1) _ _ hP hD hS _ (lv_sub hl [1, 0] rfl) hok
    · have hok := iq hok hc
      refine lv_aload_n hx hb dX5_pass_71 rfl (lv_at hl 1 rfl) ?_
      refine va_get (D := (dC, dI)) (ci := 5) (v := .ref g7) (C := RX5) (T := TX5) (N := 14) hx hb hts inX5 hown hK hP 0 rfl rfl 7 (by decide) (hts _ qf_X5_13) (fun _ h9 => h9) rfl dX5_pass_72 ?_
      refine lv_aload_n hx hb dX5_pass_75 rfl (lv_at hl 1 rfl) ?_
      refine va_get (D := (dC, dI)) (ci := 5) (v := .int uG.2.1) (C := RX5) (T := TX5) (N := 14) hx hb hts inX5 hown hK hP 0 rfl rfl 1 (by decide) (hts _ qf_X5_36) (fun _ h9 => h9) rfl dX5_pass_76 ?_
      obtain ⟨hi2, hok⟩ := gd_some hok
      refine va_zald hx hb hK hP 1 1 rfl rfl hi2 dX5_pass_79 ?_
      refine lv_if_ne (tgt := 264) hx hb dX5_pass_80 (by decide) (fun hc => ?_) (fun hc => ?_)
      · have hok := iq hok hc
        exact J264 g7 g8 g9 g10 g11 g12 G9 G10 G11 G12 (uG.1, uG.2.1, uG.2.2.1, uG.2.2.2.1, uG.2.2.2.2.1, uG.2.2.2.2.2.1, uG.2.2.2.2.2.2.1, uG.2.2.2.2.2.2.2.1, uG.2.2.2.2.2.2.2.2.1, uG.2.2.2.2.2.2.2.2.2.1, uG.2.2.2.2.2.2.2.2.2.2.1, uG.2.2.2.2.2.2.2.2.2.2.2.1, uG.2.2.2.2.2.2.2.2.2.2.2.2.1, (-1 : Int32)) (nI uG.2.2.2.2.2.2.2.2.2.2.2.2.1.1) _ _ hP hD hS _ (lv_sub hl [1, 0] rfl) hok
      · have hok := ip hok hc
        refine lv_iconst (v := (0 : Int32)) hx hb dX5_pass_83 (by decide) ?_
        refine lv_istore_n (lv' := [(2, .int (0 : Int32)), (1, .int (nI uG.2.2.2.2.2.2.2.2.2.2.2.2.1.1)), (0, .ref g0)]) hx hb dX5_pass_84 rfl hl (by decide) rfl (fun ls hl => ?_)
        refine lv_iconst (v := (0 : Int32)) hx hb dX5_pass_85 (by decide) ?_
        refine lv_istore_n (lv' := [(3, .int (0 : Int32)), (2, .int (0 : Int32)), (1, .int (nI uG.2.2.2.2.2.2.2.2.2.2.2.2.1.1)), (0, .ref g0)]) hx hb dX5_pass_86 rfl hl (by decide) rfl (fun ls hl => ?_)
        exact L87 200 g7 g8 g9 g10 g11 g12 G9 G10 G11 G12 (uG.1, uG.2.1, uG.2.2.1, uG.2.2.2.1, uG.2.2.2.2.1, uG.2.2.2.2.2.1, uG.2.2.2.2.2.2.1, uG.2.2.2.2.2.2.2.1, uG.2.2.2.2.2.2.2.2.1, uG.2.2.2.2.2.2.2.2.2.1, uG.2.2.2.2.2.2.2.2.2.2.1, uG.2.2.2.2.2.2.2.2.2.2.2.1, uG.2.2.2.2.2.2.2.2.2.2.2.2.1, (-1 : Int32)) (nI uG.2.2.2.2.2.2.2.2.2.2.2.2.1.1) (0 : Int32) (0 : Int32) _ _ hP hD hS _ (lv_sub hl [3, 2, 1, 0] rfl) hok
  · have hok := iq hok hc
    refine lv_aload_n hx hb dX5_pass_18 rfl (lv_at hl 1 rfl) ?_
    refine lv_dup hx hb dX5_pass_19 rfl ?_
    refine va_get (D := (dC, dI)) (ci := 5) (v := .int uG.2.2.2.1) (C := RX5) (T := TX5) (N := 14) hx hb hts inX5 hown hK hP 0 rfl rfl 3 (by decide) (hts _ qf_X5_42) (fun _ h9 => h9) rfl dX5_pass_20 ?_
    refine lv_iconst (v := (1 : Int32)) hx hb dX5_pass_23 (by decide) ?_
    refine lv_isub hx hb dX5_pass_24 ?_
    refine va_put (D := (dC, dI)) (ci := 5) (v := .int (uG.2.2.2.1 - (1 : Int32))) (ty := .int) (C := RX5) (T := TX5) (N := 14) hx hb hts inX5 tyX5 tyX5_ok nmX5 hown hK hP hD hS 0 rfl rfl 3 (by decide) (hts _ qf_X5_42) (fun _ h9 => h9) rfl (tyX5_ok 3 (by decide)) rfl rfl (Nat.le_of_ble_eq_true rfl) dX5_pass_25 (fun H locs hP hD hS => ?_)
    have hP : va_P (dC, dI) vwCl (([] : va_W) ++ (wX5 cI cZ cJ g0 g7 g8 g9 g10 g11 g12 G9 G10 G11 G12 (uG.1, uG.2.1, uG.2.2.1, (uG.2.2.2.1 - (1 : Int32)), uG.2.2.2.2.1, uG.2.2.2.2.2.1, uG.2.2.2.2.2.2.1, uG.2.2.2.2.2.2.2.1, uG.2.2.2.2.2.2.2.2.1, uG.2.2.2.2.2.2.2.2.2.1, uG.2.2.2.2.2.2.2.2.2.2.1, uG.2.2.2.2.2.2.2.2.2.2.2.1, uG.2.2.2.2.2.2.2.2.2.2.2.2.1, (-1 : Int32)) ++ ([] : va_W))) H := hP
    have hD : va_D A (([] : va_W) ++ (wX5 cI cZ cJ g0 g7 g8 g9 g10 g11 g12 G9 G10 G11 G12 (uG.1, uG.2.1, uG.2.2.1, (uG.2.2.2.1 - (1 : Int32)), uG.2.2.2.2.1, uG.2.2.2.2.2.1, uG.2.2.2.2.2.2.1, uG.2.2.2.2.2.2.2.1, uG.2.2.2.2.2.2.2.2.1, uG.2.2.2.2.2.2.2.2.2.1, uG.2.2.2.2.2.2.2.2.2.2.1, uG.2.2.2.2.2.2.2.2.2.2.2.1, uG.2.2.2.2.2.2.2.2.2.2.2.2.1, (-1 : Int32)) ++ ([] : va_W))) := hD
    refine lv_aload_n hx hb dX5_pass_28 rfl (lv_at hl 1 rfl) ?_
    refine lv_dup hx hb dX5_pass_29 rfl ?_
    refine va_get (D := (dC, dI)) (ci := 5) (v := .int uG.2.2.2.2.2.2.1) (C := RX5) (T := TX5) (N := 14) hx hb hts inX5 hown hK hP 0 rfl rfl 6 (by decide) (hts _ qf_X5_48) (fun _ h9 => h9) rfl dX5_pass_30 ?_
    refine lv_iconst (v := (1 : Int32)) hx hb dX5_pass_33 (by decide) ?_
    refine lv_iadd hx hb dX5_pass_34 ?_
    refine va_put (D := (dC, dI)) (ci := 5) (v := .int (uG.2.2.2.2.2.2.1 + (1 : Int32))) (ty := .int) (C := RX5) (T := TX5) (N := 14) hx hb hts inX5 tyX5 tyX5_ok nmX5 hown hK hP hD hS 0 rfl rfl 6 (by decide) (hts _ qf_X5_48) (fun _ h9 => h9) rfl (tyX5_ok 6 (by decide)) rfl rfl (Nat.le_of_ble_eq_true rfl) dX5_pass_35 (fun H locs hP hD hS => ?_)
    have hP : va_P (dC, dI) vwCl (([] : va_W) ++ (wX5 cI cZ cJ g0 g7 g8 g9 g10 g11 g12 G9 G10 G11 G12 (uG.1, uG.2.1, uG.2.2.1, (uG.2.2.2.1 - (1 : Int32)), uG.2.2.2.2.1, uG.2.2.2.2.2.1, (uG.2.2.2.2.2.2.1 + (1 : Int32)), uG.2.2.2.2.2.2.2.1, uG.2.2.2.2.2.2.2.2.1, uG.2.2.2.2.2.2.2.2.2.1, uG.2.2.2.2.2.2.2.2.2.2.1, uG.2.2.2.2.2.2.2.2.2.2.2.1, uG.2.2.2.2.2.2.2.2.2.2.2.2.1, (-1 : Int32)) ++ ([] : va_W))) H := hP
    have hD : va_D A (([] : va_W) ++ (wX5 cI cZ cJ g0 g7 g8 g9 g10 g11 g12 G9 G10 G11 G12 (uG.1, uG.2.1, uG.2.2.1, (uG.2.2.2.1 - (1 : Int32)), uG.2.2.2.2.1, uG.2.2.2.2.2.1, (uG.2.2.2.2.2.2.1 + (1 : Int32)), uG.2.2.2.2.2.2.2.1, uG.2.2.2.2.2.2.2.2.1, uG.2.2.2.2.2.2.2.2.2.1, uG.2.2.2.2.2.2.2.2.2.2.1, uG.2.2.2.2.2.2.2.2.2.2.2.1, uG.2.2.2.2.2.2.2.2.2.2.2.2.1, (-1 : Int32)) ++ ([] : va_W))) := hD
    refine lv_iload_n hx hb dX5_pass_38 rfl (lv_at hl 0 rfl) ?_
    refine lv_if_le (tgt := 280) hx hb dX5_pass_39 (by decide) (fun hc => ?_) (fun hc => ?_)
    · have hok := ip hok hc
      refine W.widen (k := 2) (n := 135) (Nat.le_of_ble_eq_true rfl) (Nat.le_of_ble_eq_true rfl) ?_
      exact J280 g7 g8 g9 g10 g11 g12 G9 G10 G11 G12 (uG.1, uG.2.1, uG.2.2.1, (uG.2.2.2.1 - (1 : Int32)), uG.2.2.2.2.1, uG.2.2.2.2.2.1, (uG.2.2.2.2.2.2.1 + (1 : Int32)), uG.2.2.2.2.2.2.2.1, uG.2.2.2.2.2.2.2.2.1, uG.2.2.2.2.2.2.2.2.2.1, uG.2.2.2.2.2.2.2.2.2.2.1, uG.2.2.2.2.2.2.2.2.2.2.2.1, uG.2.2.2.2.2.2.2.2.2.2.2.2.1, (-1 : Int32)) (nI uG.2.2.2.2.2.2.2.2.2.2.2.2.1.1) _ _ hP hD hS _ (lv_sub hl [1, 0] rfl) hok
    · have hok := iq hok hc
      refine lv_aload_n hx hb dX5_pass_42 rfl (lv_at hl 1 rfl) ?_
      refine lv_dup hx hb dX5_pass_43 rfl ?_
      refine va_get (D := (dC, dI)) (ci := 5) (v := .int (uG.2.2.2.2.2.2.1 + (1 : Int32))) (C := RX5) (T := TX5) (N := 14) hx hb hts inX5 hown hK hP 0 rfl rfl 6 (by decide) (hts _ qf_X5_48) (fun _ h9 => h9) rfl dX5_pass_44 ?_
      refine lv_aload_n hx hb dX5_pass_47 rfl (lv_at hl 1 rfl) ?_
      refine va_get (D := (dC, dI)) (ci := 5) (v := .ref g12) (C := RX5) (T := TX5) (N := 14) hx hb hts inX5 hown hK hP 0 rfl rfl 12 (by decide) (hts _ qf_X5_33) (fun _ h9 => h9) rfl dX5_pass_48 ?_
      refine lv_iload_n hx hb dX5_pass_51 rfl (lv_at hl 0 rfl) ?_
      refine lv_iconst (v := (1 : Int32)) hx hb dX5_pass_52 (by decide) ?_
      refine lv_isub hx hb dX5_pass_53 ?_
      obtain ⟨hi3, hok⟩ := gd_some hok
      refine ra12 hx hb hK 2 rfl hP (j := ((nI uG.2.2.2.2.2.2.2.2.2.2.2.2.1.1) - (1 : Int32)).toNatClampNeg) rfl hi3 dX5_pass_54 ?_
      refine lv_iconst (v := (3 : Int32)) hx hb dX5_pass_55 (by decide) ?_
      obtain ⟨hi4, hok⟩ := gd_some hok
      refine rl12 hx hb hK 0 rfl hP (k := (((nI uG.2.2.2.2.2.2.2.2.2.2.2.2.1.1) - (1 : Int32)).toNatClampNeg)) (j := 3) (vp_inL rfl hi3) rfl (by decide) hi4 dX5_pass_56 ?_
      refine lv_iadd hx hb dX5_pass_57 ?_
      refine va_put (D := (dC, dI)) (ci := 5) (v := .int ((uG.2.2.2.2.2.2.1 + (1 : Int32)) + ((uG.2.2.2.2.2.2.2.2.2.2.2.2.1.2 (((nI uG.2.2.2.2.2.2.2.2.2.2.2.2.1.1) - (1 : Int32)).toNatClampNeg)).2 3))) (ty := .int) (C := RX5) (T := TX5) (N := 14) hx hb hts inX5 tyX5 tyX5_ok nmX5 hown hK hP hD hS 0 rfl rfl 6 (by decide) (hts _ qf_X5_48) (fun _ h9 => h9) rfl (tyX5_ok 6 (by decide)) rfl rfl (Nat.le_of_ble_eq_true rfl) dX5_pass_58 (fun H locs hP hD hS => ?_)
      have hP : va_P (dC, dI) vwCl (([] : va_W) ++ (wX5 cI cZ cJ g0 g7 g8 g9 g10 g11 g12 G9 G10 G11 G12 (uG.1, uG.2.1, uG.2.2.1, (uG.2.2.2.1 - (1 : Int32)), uG.2.2.2.2.1, uG.2.2.2.2.2.1, ((uG.2.2.2.2.2.2.1 + (1 : Int32)) + ((uG.2.2.2.2.2.2.2.2.2.2.2.2.1.2 (((nI uG.2.2.2.2.2.2.2.2.2.2.2.2.1.1) - (1 : Int32)).toNatClampNeg)).2 3)), uG.2.2.2.2.2.2.2.1, uG.2.2.2.2.2.2.2.2.1, uG.2.2.2.2.2.2.2.2.2.1, uG.2.2.2.2.2.2.2.2.2.2.1, uG.2.2.2.2.2.2.2.2.2.2.2.1, uG.2.2.2.2.2.2.2.2.2.2.2.2.1, (-1 : Int32)) ++ ([] : va_W))) H := hP
      have hD : va_D A (([] : va_W) ++ (wX5 cI cZ cJ g0 g7 g8 g9 g10 g11 g12 G9 G10 G11 G12 (uG.1, uG.2.1, uG.2.2.1, (uG.2.2.2.1 - (1 : Int32)), uG.2.2.2.2.1, uG.2.2.2.2.2.1, ((uG.2.2.2.2.2.2.1 + (1 : Int32)) + ((uG.2.2.2.2.2.2.2.2.2.2.2.2.1.2 (((nI uG.2.2.2.2.2.2.2.2.2.2.2.2.1.1) - (1 : Int32)).toNatClampNeg)).2 3)), uG.2.2.2.2.2.2.2.1, uG.2.2.2.2.2.2.2.2.1, uG.2.2.2.2.2.2.2.2.2.1, uG.2.2.2.2.2.2.2.2.2.2.1, uG.2.2.2.2.2.2.2.2.2.2.2.1, uG.2.2.2.2.2.2.2.2.2.2.2.2.1, (-1 : Int32)) ++ ([] : va_W))) := hD
      refine lv_goto (tgt := 280) hx hb dX5_pass_61 (by decide) ?_
      refine W.widen (k := 2) (n := 135) (Nat.le_of_ble_eq_true rfl) (Nat.le_of_ble_eq_true rfl) ?_
      exact J280 g7 g8 g9 g10 g11 g12 G9 G10 G11 G12 (uG.1, uG.2.1, uG.2.2.1, (uG.2.2.2.1 - (1 : Int32)), uG.2.2.2.2.1, uG.2.2.2.2.2.1, ((uG.2.2.2.2.2.2.1 + (1 : Int32)) + ((uG.2.2.2.2.2.2.2.2.2.2.2.2.1.2 (((nI uG.2.2.2.2.2.2.2.2.2.2.2.2.1.1) - (1 : Int32)).toNatClampNeg)).2 3)), uG.2.2.2.2.2.2.2.1, uG.2.2.2.2.2.2.2.2.1, uG.2.2.2.2.2.2.2.2.2.1, uG.2.2.2.2.2.2.2.2.2.2.1, uG.2.2.2.2.2.2.2.2.2.2.2.1, uG.2.2.2.2.2.2.2.2.2.2.2.2.1, (-1 : Int32)) (nI uG.2.2.2.2.2.2.2.2.2.2.2.2.1.1) _ _ hP hD hS _ (lv_sub hl [1, 0] rfl) hok

def p_X5_behind_L8  : Nat → tX5 → Int32 → Int32 → Int32 → Option (Int32 × tX5)
  | 0, _, _, _, _ => none
  | n + 1, uG, l8_1, l8_2, l8_3 =>
    if l8_1 ≤ l8_3 then
      some (((nI uG.2.2.2.2.2.2.2.2.2.2.2.2.1.1) - l8_2), uG)
    else
      bd (p_X5_pass uG) (fun v1 =>
      (p_X5_behind_L8 n) v1 l8_1 l8_2 (l8_3 + 1))
def p_X5_behind (uG : tX5) (a1 : Int32) : Option (Int32 × tX5) :=
  p_X5_behind_L8 61 uG a1 (nI uG.2.2.2.2.2.2.2.2.2.2.2.2.1.1) (0 : Int32)
set_option maxHeartbeats 4000000 in
set_option maxRecDepth 100000 in
theorem c_X5_behind (l : Launch) (dC : Nat → ClassId) (dI : Nat → Nat → Nat) (cI cZ cJ : ClassId) (g0 : Nat) (g7 g8 g9 g10 g11 g12 : Nat) (G9 G10 G11 G12 : Nat → Nat) (sz : Nat) (uG : tX5) (a1 : Int32) {z : (Int32 × tX5)} (hok : p_X5_behind uG a1 = some z) : Met l yX5_behind (Cond.code yX5_behind cX5_behind 4 (some .int) :: lw_all) { frames := 3, cells := 122, slots := 8235, locals := 77 } (prA (dC, dI) vwCl (TYG cI cZ cJ) (wX5 cI cZ cJ g0 g7 g8 g9 g10 g11 g12 G9 G10 G11 G12 uG) sz [.ref g0, .int a1]) (va_Qi (fun (r : Int32) (_ : (Nat × Nat × Nat × Nat × Nat × Nat × (Nat → Nat) × (Nat → Nat) × (Nat → Nat) × (Nat → Nat))) => r = z.1) (fun a9 t => va_P (dC, dI) vwCl (wX5 cI cZ cJ g0 a9.1 a9.2.1 a9.2.2.1 a9.2.2.2.1 a9.2.2.2.2.1 a9.2.2.2.2.2.1 a9.2.2.2.2.2.2.1 a9.2.2.2.2.2.2.2.1 a9.2.2.2.2.2.2.2.2.1 a9.2.2.2.2.2.2.2.2.2 z.2) t.heap ∧ va_D (va_A (wX5 cI cZ cJ g0 g7 g8 g9 g10 g11 g12 G9 G10 G11 G12 uG) sz) (wX5 cI cZ cJ g0 a9.1 a9.2.1 a9.2.2.1 a9.2.2.2.1 a9.2.2.2.2.1 a9.2.2.2.2.2.1 a9.2.2.2.2.2.2.1 a9.2.2.2.2.2.2.2.1 a9.2.2.2.2.2.2.2.2.1 a9.2.2.2.2.2.2.2.2.2 z.2)) (va_A (wX5 cI cZ cJ g0 g7 g8 g9 g10 g11 g12 G9 G10 G11 G12 uG) sz)) 122 8235 (va_A (wX5 cI cZ cJ g0 g7 g8 g9 g10 g11 g12 G9 G10 G11 G12 uG) sz) := by
  refine oM (by decide) (Nat.le_of_ble_eq_true rfl) ?_
  intro p e s m args below meth c S hr hlk hnm hB ls hl
  have hx := S.1
  have hb := S.2.1
  have hml := S.2.2.1
  have hown : s.vm.findClass RX5 = some m.cls := S.2.2.2.1
  have hts := S.2.2.2.2
  have S : CallFix p m c cX5_behind 4 s args lw_all RX5 := S
  have hl : lv_has ls 4 [(0, .ref g0), (1, .int a1)] := hl
  obtain ⟨hsz, hP, hK, hD0, hO⟩ := hB
  subst hsz
  have hD := hD0.self (sz := s.heap.size)
  generalize hAe : va_A (wX5 cI cZ cJ g0 g7 g8 g9 g10 g11 g12 G9 G10 G11 G12 uG) s.heap.size = A at hD ⊢
  have hA : ∀ q : Nat, s.heap.size ≤ q → A q := fun q h => by rw [← hAe]; exact Or.inr h
  have hS : va_S A s.heap s.heap [] := va_S.rf
  have hP : va_P (dC, dI) vwCl (([] : va_W) ++ ((wX5 cI cZ cJ g0 g7 g8 g9 g10 g11 g12 G9 G10 G11 G12 uG) ++ ([] : va_W))) s.heap := zx_P (wa := []) hP
  have hD : va_D A (([] : va_W) ++ ((wX5 cI cZ cJ g0 g7 g8 g9 g10 g11 g12 G9 G10 G11 G12 uG) ++ ([] : va_W))) := zx_D (wa := []) hD
  have hK2 : va_K (dC, dI) vwCl (TYS cI cZ) s := hK.sub [0, 1] rfl
  have L8 : ∀ n8 : Nat, ∀ (g7 : Nat) (g8 : Nat) (g9 : Nat) (g10 : Nat) (g11 : Nat) (g12 : Nat) (G9 : (Nat → Nat)) (G10 : (Nat → Nat)) (G11 : (Nat → Nat)) (G12 : (Nat → Nat)) (uG : tX5) (l8_1 : Int32) (l8_2 : Int32) (l8_3 : Int32) (kc sc : Nat) (hkc : kc + 2 * n8 ≤ 122) (hsc : sc + 135 * n8 ≤ 8235) (H : Heap) (locs : List Loc) (hP : va_P (dC, dI) vwCl (([] : va_W) ++ (wX5 cI cZ cJ g0 g7 g8 g9 g10 g11 g12 G9 G10 G11 G12 uG ++ ([] : va_W))) H) (hD : va_D A (([] : va_W) ++ (wX5 cI cZ cJ g0 g7 g8 g9 g10 g11 g12 G9 G10 G11 G12 uG ++ ([] : va_W)))) (hS : va_S A s.heap H locs) (ls : Array Slot) (hl : lv_has ls 4 [(0, .ref g0), (1, .int l8_1), (2, .int l8_2), (3, .int l8_3)]) (hok : p_X5_behind_L8 n8 uG l8_1 l8_2 l8_3 = some z), W p l e { frames := 3, cells := 122, slots := 8235, locals := 77 } s m args below meth c H locs kc sc (MQ below (va_Qi (fun (r : Int32) (_ : (Nat × Nat × Nat × Nat × Nat × Nat × (Nat → Nat) × (Nat → Nat) × (Nat → Nat) × (Nat → Nat))) => r = z.1) (fun a9 t => va_P (dC, dI) vwCl (wX5 cI cZ cJ g0 a9.1 a9.2.1 a9.2.2.1 a9.2.2.2.1 a9.2.2.2.2.1 a9.2.2.2.2.2.1 a9.2.2.2.2.2.2.1 a9.2.2.2.2.2.2.2.1 a9.2.2.2.2.2.2.2.2.1 a9.2.2.2.2.2.2.2.2.2 z.2) t.heap ∧ va_D A (wX5 cI cZ cJ g0 a9.1 a9.2.1 a9.2.2.1 a9.2.2.2.1 a9.2.2.2.2.1 a9.2.2.2.2.2.1 a9.2.2.2.2.2.2.1 a9.2.2.2.2.2.2.2.1 a9.2.2.2.2.2.2.2.2.1 a9.2.2.2.2.2.2.2.2.2 z.2)) A) args s 122 8235 A) (F0 m 8 ls []) := by
    intro n8
    induction n8 with
    | zero =>
      intro g7 g8 g9 g10 g11 g12 G9 G10 G11 G12 uG l8_1 l8_2 l8_3 kc sc hkc hsc H locs hP hD hS ls hl hok
      rw [p_X5_behind_L8] at hok
      cases hok
    | succ n8 ih8 =>
      intro g7 g8 g9 g10 g11 g12 G9 G10 G11 G12 uG l8_1 l8_2 l8_3 kc sc hkc hsc H locs hP hD hS ls hl hok
      rw [p_X5_behind_L8] at hok
      refine lv_iload_n hx hb dX5_behind_8 rfl (lv_at hl 3 rfl) ?_
      refine lv_iload_n hx hb dX5_behind_9 rfl (lv_at hl 1 rfl) ?_
      refine lv_icmp_ge (tgt := 23) hx hb dX5_behind_10 (by decide) (fun hc => ?_) (fun hc => ?_)
      · have hok := ip hok hc
        refine lv_aload_n hx hb dX5_behind_23 rfl (lv_at hl 0 rfl) ?_
        refine va_get (D := (dC, dI)) (ci := 5) (v := .ref g12) (C := RX5) (T := TX5) (N := 14) hx hb hts inX5 hown hK hP 0 rfl rfl 12 (by decide) (hts _ qf_X5_33) (fun _ h9 => h9) rfl dX5_behind_24 ?_
        refine va_alen (v := (nI uG.2.2.2.2.2.2.2.2.2.2.2.2.1.1)) hx hb hK hP 6 2 rfl rfl rfl dX5_behind_27 ?_
        refine lv_iload_n hx hb dX5_behind_28 rfl (lv_at hl 2 rfl) ?_
        refine lv_isub hx hb dX5_behind_29 ?_
        have hok := Option.some.inj hok
        subst hok
        exact eAi S hr hlk rfl (g7, g8, g9, g10, g11, g12, G9, G10, G11, G12) (va_Pmid hP) (va_Dmid hD) hS (by omega) (by omega) dX5_behind_30
      · have hok := iq hok hc
        refine lv_aload_n hx hb dX5_behind_13 rfl (lv_at hl 0 rfl) ?_
        obtain ⟨v1, hc1, hok⟩ := bd_some hok
        refine cAVv (ci := 5) (q0 := 0) [] S hK hO hP hD hS hA (c_X5_pass l dC dI cI cZ cJ g0 g7 g8 g9 g10 g11 g12 G9 G10 G11 G12 _ uG hc1) (lw_V qm_X5_68 qi_X5_pass qs_X5_pass qn_X5 qc_X5_pass) hd_X5_pass ⟨rfl, rfl⟩ ⟨Nat.le_of_ble_eq_true rfl, Nat.le_of_ble_eq_true rfl⟩ ⟨by show kc + 2 ≤ 122; omega, by show sc + 135 ≤ 8235; omega⟩ rfl rfl rfl hl.1 (Nat.le_of_ble_eq_true rfl) rfl dX5_behind_14 (fun a9 H locs hP hD hS => ?_)
        obtain ⟨g7_2, g8_2, g9_2, g10_2, g11_2, g12_2, G9_2, G10_2, G11_2, G12_2⟩ := a9
        have hP : va_P (dC, dI) vwCl (([] : va_W) ++ (wX5 cI cZ cJ g0 g7_2 g8_2 g9_2 g10_2 g11_2 g12_2 G9_2 G10_2 G11_2 G12_2 v1 ++ ([] : va_W))) H := hP
        have hD : va_D A (([] : va_W) ++ (wX5 cI cZ cJ g0 g7_2 g8_2 g9_2 g10_2 g11_2 g12_2 G9_2 G10_2 G11_2 G12_2 v1 ++ ([] : va_W))) := hD
        refine lv_iinc (v := (l8_3 + 1)) (lv' := [(3, .int (l8_3 + 1)), (0, .ref g0), (1, .int l8_1), (2, .int l8_2)]) hx hb dX5_behind_17 hl (k := 3) rfl rfl (by decide) rfl (fun ls hl => ?_)
        refine lv_goto (tgt := 8) hx hb dX5_behind_20 (by decide) ?_
        exact ih8 g7_2 g8_2 g9_2 g10_2 g11_2 g12_2 G9_2 G10_2 G11_2 G12_2 v1 l8_1 l8_2 (l8_3 + 1) (kc + 2) (sc + 135) (by omega) (by omega) _ _ hP hD hS _ (lv_sub hl [1, 2, 3, 0] rfl) hok
  unfold p_X5_behind at hok
  refine lv_aload_n hx hb dX5_behind_0 rfl (lv_at hl 0 rfl) ?_
  refine va_get (D := (dC, dI)) (ci := 5) (v := .ref g12) (C := RX5) (T := TX5) (N := 14) hx hb hts inX5 hown hK hP 0 rfl rfl 12 (by decide) (hts _ qf_X5_33) (fun _ h9 => h9) rfl dX5_behind_1 ?_
  refine va_alen (v := (nI uG.2.2.2.2.2.2.2.2.2.2.2.2.1.1)) hx hb hK hP 6 2 rfl rfl rfl dX5_behind_4 ?_
  refine lv_istore_n (lv' := [(2, .int (nI uG.2.2.2.2.2.2.2.2.2.2.2.2.1.1)), (0, .ref g0), (1, .int a1)]) hx hb dX5_behind_5 rfl hl (by decide) rfl (fun ls hl => ?_)
  refine lv_iconst (v := (0 : Int32)) hx hb dX5_behind_6 (by decide) ?_
  refine lv_istore_n (lv' := [(3, .int (0 : Int32)), (2, .int (nI uG.2.2.2.2.2.2.2.2.2.2.2.2.1.1)), (0, .ref g0), (1, .int a1)]) hx hb dX5_behind_7 rfl hl (by decide) rfl (fun ls hl => ?_)
  exact L8 61 g7 g8 g9 g10 g11 g12 G9 G10 G11 G12 uG a1 (nI uG.2.2.2.2.2.2.2.2.2.2.2.2.1.1) (0 : Int32) 0 0 (by omega) (by omega) _ _ hP hD hS _ (lv_sub hl [2, 3, 1, 0] rfl) hok
