def p_L_below (a1 : Int32) (a2 : Int32) : Option Int32 :=
  gz a2 (
  some ((a1 &&& (2147483647 : Int32)) - (a1 &&& (2147483647 : Int32)) / a2 * a2))
set_option maxHeartbeats 4000000 in
set_option maxRecDepth 100000 in
theorem c_L_below (l : Launch) (dC : Nat → ClassId) (dI : Nat → Nat → Nat) (cI cZ : ClassId) (a1 : Int32) (a2 : Int32) {z : Int32} (hok : p_L_below a1 a2 = some z) : Met l yL_below (Cond.code yL_below cL_below 2 (some .int) :: lw_all) { frames := 0, cells := 0, slots := 0, locals := 0 } (prR (dC, dI) vwCl (TYS cI cZ) (([] : va_W)) [.int a1, .int a2]) (vp_Si (fun r => r = z)) 0 0 (fun _ => False) := by
  refine oM (by decide) (Nat.le_of_ble_eq_true rfl) ?_
  intro p e s m args below meth c S hr hlk hnm hB ls hl
  have hx := S.1
  have hb := S.2.1
  have hml := S.2.2.1
  have hown : s.vm.findClass RL = some m.cls := S.2.2.2.1
  have hts := S.2.2.2.2
  have S : CallFix p m c cL_below 2 s args lw_all RL := S
  have hl : lv_has ls 2 [(0, .int a1), (1, .int a2)] := hl
  obtain ⟨hP, hK⟩ := hB
  have hP : va_P (dC, dI) vwCl (([] : va_W)) s.heap := hP
  unfold p_L_below at hok
  refine lv_iload_n hx hb dL_below_0 rfl (lv_at hl 0 rfl) ?_
  refine lv_ldc (v := (2147483647 : Int32)) hx hb hown (hts _ qo_L_7) dL_below_1 ?_
  refine lv_iand hx hb dL_below_3 ?_
  refine lv_iload_n hx hb dL_below_4 rfl (lv_at hl 1 rfl) ?_
  obtain ⟨hz1, hok⟩ := gz_some hok
  refine lv_irem hx hb dL_below_5 hz1 ?_
  exact eRi S hr hlk (Option.some.inj hok) dL_below_6
def p_X5_calls_L13  : Nat → tX5 → Int32 → Int32 → Int32 → Option Int32
  | 0, _, _, _, _ => none
  | n + 1, uG, l13_1, l13_3, l13_4 =>
    if l13_3 ≤ l13_4 then
      some l13_1
    else
      gd l13_4 uG.2.2.2.2.2.2.2.1.1 (
      if (uG.2.2.2.2.2.2.2.1.2 l13_4.toNatClampNeg) = 0 then
        (p_X5_calls_L13 n) uG l13_1 l13_3 (l13_4 + 1)
      else
        (p_X5_calls_L13 n) uG (l13_1 + 1) l13_3 (l13_4 + 1))
def p_X5_calls (uG : tX5) : Option Int32 :=
  p_X5_calls_L13 200 uG (0 : Int32) (nI uG.2.2.2.2.2.2.2.1.1) (0 : Int32)
set_option maxHeartbeats 4000000 in
set_option maxRecDepth 100000 in
theorem c_X5_calls (l : Launch) (dC : Nat → ClassId) (dI : Nat → Nat → Nat) (cI cZ cJ : ClassId) (g0 : Nat) (g7 g8 g9 g10 g11 g12 : Nat) (G9 G10 G11 G12 : Nat → Nat) (uG : tX5) {z : Int32} (hok : p_X5_calls uG = some z) : Met l yX5_calls (Cond.code yX5_calls cX5_calls 6 (some .int) :: lw_all) { frames := 0, cells := 0, slots := 0, locals := 0 } (prR (dC, dI) vwCl (TYG cI cZ cJ) (wX5 cI cZ cJ g0 g7 g8 g9 g10 g11 g12 G9 G10 G11 G12 uG) [.ref g0]) (vp_Si (fun r => r = z)) 0 0 (fun _ => False) := by
  refine oM (by decide) (Nat.le_of_ble_eq_true rfl) ?_
  intro p e s m args below meth c S hr hlk hnm hB ls hl
  have hx := S.1
  have hb := S.2.1
  have hml := S.2.2.1
  have hown : s.vm.findClass RX5 = some m.cls := S.2.2.2.1
  have hts := S.2.2.2.2
  have S : CallFix p m c cX5_calls 6 s args lw_all RX5 := S
  have hl : lv_has ls 6 [(0, .ref g0)] := hl
  obtain ⟨hP, hK⟩ := hB
  have hP : va_P (dC, dI) vwCl (([] : va_W) ++ ((wX5 cI cZ cJ g0 g7 g8 g9 g10 g11 g12 G9 G10 G11 G12 uG) ++ ([] : va_W))) s.heap := zx_P (wa := []) hP
  have hK2 : va_K (dC, dI) vwCl (TYS cI cZ) s := hK.sub [0, 1] rfl
  have L13 : ∀ n13 : Nat, ∀ (l13_1 : Int32) (l13_3 : Int32) (l13_4 : Int32) (ls : Array Slot) (hl : lv_has ls 6 [(1, .int l13_1), (2, .ref g7), (3, .int l13_3), (4, .int l13_4)]) (hok : p_X5_calls_L13 n13 uG l13_1 l13_3 l13_4 = some z), W p l e { frames := 0, cells := 0, slots := 0, locals := 0 } s m args below meth c s.heap [] 0 0 (MQ below (vp_Si (fun r => r = z)) args s 0 0 (fun _ => False)) (F0 m 13 ls []) := by
    intro n13
    induction n13 with
    | zero =>
      intro l13_1 l13_3 l13_4 ls hl hok
      rw [p_X5_calls_L13] at hok
      cases hok
    | succ n13 ih13 =>
      intro l13_1 l13_3 l13_4 ls hl hok
      rw [p_X5_calls_L13] at hok
      refine lv_iload hx hb dX5_calls_13 (lv_at hl 3 rfl) ?_
      refine lv_iload_n hx hb dX5_calls_15 rfl (lv_at hl 2 rfl) ?_
      refine lv_icmp_ge (tgt := 39) hx hb dX5_calls_16 (by decide) (fun hc => ?_) (fun hc => ?_)
      · have hok := ip hok hc
        refine lv_iload_n hx hb dX5_calls_39 rfl (lv_at hl 0 rfl) ?_
        exact eRi S hr hlk (Option.some.inj hok) dX5_calls_40
      · have hok := iq hok hc
        refine lv_aload_n hx hb dX5_calls_19 rfl (lv_at hl 1 rfl) ?_
        refine lv_iload hx hb dX5_calls_20 (lv_at hl 3 rfl) ?_
        obtain ⟨hi1, hok⟩ := gd_some hok
        refine va_zald hx hb hK hP 1 1 rfl rfl hi1 dX5_calls_22 ?_
        refine lv_istore (lv' := [(5, .int (uG.2.2.2.2.2.2.2.1.2 l13_4.toNatClampNeg)), (1, .int l13_1), (2, .ref g7), (3, .int l13_3), (4, .int l13_4)]) hx hb dX5_calls_23 hl (by decide) rfl (fun ls hl => ?_)
        refine lv_iload hx hb dX5_calls_25 (lv_at hl 0 rfl) ?_
        refine lv_if_eq (tgt := 33) hx hb dX5_calls_27 (by decide) (fun hc => ?_) (fun hc => ?_)
        · have hok := ip hok hc
          refine lv_iinc (v := (l13_4 + 1)) (lv' := [(4, .int (l13_4 + 1)), (5, .int (uG.2.2.2.2.2.2.2.1.2 l13_4.toNatClampNeg)), (1, .int l13_1), (2, .ref g7), (3, .int l13_3)]) hx hb dX5_calls_33 hl (k := 4) rfl rfl (by decide) rfl (fun ls hl => ?_)
          refine lv_goto (tgt := 13) hx hb dX5_calls_36 (by decide) ?_
          exact ih13 l13_1 l13_3 (l13_4 + 1) _ (lv_sub hl [2, 3, 4, 0] rfl) hok
        · have hok := iq hok hc
          refine lv_iinc (v := (l13_1 + 1)) (lv' := [(1, .int (l13_1 + 1)), (5, .int (uG.2.2.2.2.2.2.2.1.2 l13_4.toNatClampNeg)), (2, .ref g7), (3, .int l13_3), (4, .int l13_4)]) hx hb dX5_calls_30 hl (k := 1) rfl rfl (by decide) rfl (fun ls hl => ?_)
          refine lv_iinc (v := (l13_4 + 1)) (lv' := [(4, .int (l13_4 + 1)), (1, .int (l13_1 + 1)), (5, .int (uG.2.2.2.2.2.2.2.1.2 l13_4.toNatClampNeg)), (2, .ref g7), (3, .int l13_3)]) hx hb dX5_calls_33 hl (k := 4) rfl rfl (by decide) rfl (fun ls hl => ?_)
          refine lv_goto (tgt := 13) hx hb dX5_calls_36 (by decide) ?_
          exact ih13 (l13_1 + 1) l13_3 (l13_4 + 1) _ (lv_sub hl [1, 3, 4, 0] rfl) hok
  unfold p_X5_calls at hok
  refine lv_iconst (v := (0 : Int32)) hx hb dX5_calls_0 (by decide) ?_
  refine lv_istore_n (lv' := [(1, .int (0 : Int32)), (0, .ref g0)]) hx hb dX5_calls_1 rfl hl (by decide) rfl (fun ls hl => ?_)
  refine lv_aload_n hx hb dX5_calls_2 rfl (lv_at hl 1 rfl) ?_
  refine va_get (D := (dC, dI)) (ci := 5) (v := .ref g7) (C := RX5) (T := TX5) (N := 14) hx hb hts inX5 hown hK hP 0 rfl rfl 7 (by decide) (hts _ qf_X5_13) (fun _ h9 => h9) rfl dX5_calls_3 ?_
  refine lv_astore_n (lv' := [(2, .ref g7), (1, .int (0 : Int32)), (0, .ref g0)]) hx hb dX5_calls_6 rfl hl (by decide) rfl (fun ls hl => ?_)
  refine lv_aload_n hx hb dX5_calls_7 rfl (lv_at hl 0 rfl) ?_
  refine va_alen (v := (nI uG.2.2.2.2.2.2.2.1.1)) hx hb hK hP 1 1 rfl rfl rfl dX5_calls_8 ?_
  refine lv_istore_n (lv' := [(3, .int (nI uG.2.2.2.2.2.2.2.1.1)), (2, .ref g7), (1, .int (0 : Int32)), (0, .ref g0)]) hx hb dX5_calls_9 rfl hl (by decide) rfl (fun ls hl => ?_)
  refine lv_iconst (v := (0 : Int32)) hx hb dX5_calls_10 (by decide) ?_
  refine lv_istore (lv' := [(4, .int (0 : Int32)), (3, .int (nI uG.2.2.2.2.2.2.2.1.1)), (2, .ref g7), (1, .int (0 : Int32)), (0, .ref g0)]) hx hb dX5_calls_11 hl (by decide) rfl (fun ls hl => ?_)
  exact L13 200 (0 : Int32) (nI uG.2.2.2.2.2.2.2.1.1) (0 : Int32) _ (lv_sub hl [3, 2, 1, 0] rfl) hok

def p_X5_subscribers_L13  : Nat → tX5 → Int32 → Int32 → Int32 → Option Int32
  | 0, _, _, _, _ => none
  | n + 1, uG, l13_1, l13_3, l13_4 =>
    if l13_3 ≤ l13_4 then
      some l13_1
    else
      gd l13_4 uG.2.2.2.2.2.2.2.2.2.2.1.1 (
      gd (2 : Int32) ((uG.2.2.2.2.2.2.2.2.2.2.1.2 l13_4.toNatClampNeg).1) (
      (p_X5_subscribers_L13 n) uG (l13_1 + ((uG.2.2.2.2.2.2.2.2.2.2.1.2 l13_4.toNatClampNeg).2 2)) l13_3 (l13_4 + 1)))
def p_X5_subscribers (uG : tX5) : Option Int32 :=
  p_X5_subscribers_L13 200 uG (0 : Int32) (nI uG.2.2.2.2.2.2.2.2.2.2.1.1) (0 : Int32)
set_option maxHeartbeats 4000000 in
set_option maxRecDepth 100000 in
theorem c_X5_subscribers (l : Launch) (dC : Nat → ClassId) (dI : Nat → Nat → Nat) (cI cZ cJ : ClassId) (g0 : Nat) (g7 g8 g9 g10 g11 g12 : Nat) (G9 G10 G11 G12 : Nat → Nat) (uG : tX5) {z : Int32} (hok : p_X5_subscribers uG = some z) : Met l yX5_subscribers (Cond.code yX5_subscribers cX5_subscribers 6 (some .int) :: lw_all) { frames := 0, cells := 0, slots := 0, locals := 0 } (prR (dC, dI) vwCl (TYG cI cZ cJ) (wX5 cI cZ cJ g0 g7 g8 g9 g10 g11 g12 G9 G10 G11 G12 uG) [.ref g0]) (vp_Si (fun r => r = z)) 0 0 (fun _ => False) := by
  refine oM (by decide) (Nat.le_of_ble_eq_true rfl) ?_
  intro p e s m args below meth c S hr hlk hnm hB ls hl
  have hx := S.1
  have hb := S.2.1
  have hml := S.2.2.1
  have hown : s.vm.findClass RX5 = some m.cls := S.2.2.2.1
  have hts := S.2.2.2.2
  have S : CallFix p m c cX5_subscribers 6 s args lw_all RX5 := S
  have hl : lv_has ls 6 [(0, .ref g0)] := hl
  obtain ⟨hP, hK⟩ := hB
  have hP : va_P (dC, dI) vwCl (([] : va_W) ++ ((wX5 cI cZ cJ g0 g7 g8 g9 g10 g11 g12 G9 G10 G11 G12 uG) ++ ([] : va_W))) s.heap := zx_P (wa := []) hP
  have hK2 : va_K (dC, dI) vwCl (TYS cI cZ) s := hK.sub [0, 1] rfl
  have L13 : ∀ n13 : Nat, ∀ (l13_1 : Int32) (l13_3 : Int32) (l13_4 : Int32) (ls : Array Slot) (hl : lv_has ls 6 [(1, .int l13_1), (2, .ref g10), (3, .int l13_3), (4, .int l13_4)]) (hok : p_X5_subscribers_L13 n13 uG l13_1 l13_3 l13_4 = some z), W p l e { frames := 0, cells := 0, slots := 0, locals := 0 } s m args below meth c s.heap [] 0 0 (MQ below (vp_Si (fun r => r = z)) args s 0 0 (fun _ => False)) (F0 m 13 ls []) := by
    intro n13
    induction n13 with
    | zero =>
      intro l13_1 l13_3 l13_4 ls hl hok
      rw [p_X5_subscribers_L13] at hok
      cases hok
    | succ n13 ih13 =>
      intro l13_1 l13_3 l13_4 ls hl hok
      rw [p_X5_subscribers_L13] at hok
      refine lv_iload hx hb dX5_subscribers_13 (lv_at hl 3 rfl) ?_
      refine lv_iload_n hx hb dX5_subscribers_15 rfl (lv_at hl 2 rfl) ?_
      refine lv_icmp_ge (tgt := 38) hx hb dX5_subscribers_16 (by decide) (fun hc => ?_) (fun hc => ?_)
      · have hok := ip hok hc
        refine lv_iload_n hx hb dX5_subscribers_38 rfl (lv_at hl 0 rfl) ?_
        exact eRi S hr hlk (Option.some.inj hok) dX5_subscribers_39
      · have hok := iq hok hc
        refine lv_aload_n hx hb dX5_subscribers_19 rfl (lv_at hl 1 rfl) ?_
        refine lv_iload hx hb dX5_subscribers_20 (lv_at hl 3 rfl) ?_
        obtain ⟨hi1, hok⟩ := gd_some hok
        refine ra10 hx hb hK 2 rfl hP (j := l13_4.toNatClampNeg) rfl hi1 dX5_subscribers_22 ?_
        refine lv_astore (lv' := [(5, .ref (G10 l13_4.toNatClampNeg)), (1, .int l13_1), (2, .ref g10), (3, .int l13_3), (4, .int l13_4)]) hx hb dX5_subscribers_23 hl (by decide) rfl (fun ls hl => ?_)
        refine lv_iload_n hx hb dX5_subscribers_25 rfl (lv_at hl 1 rfl) ?_
        refine lv_aload hx hb dX5_subscribers_26 (lv_at hl 0 rfl) ?_
        refine lv_iconst (v := (2 : Int32)) hx hb dX5_subscribers_28 (by decide) ?_
        obtain ⟨hi2, hok⟩ := gd_some hok
        refine rl10 hx hb hK 0 rfl hP (k := l13_4.toNatClampNeg) (j := 2) (vp_inL rfl hi1) rfl (by decide) hi2 dX5_subscribers_29 ?_
        refine lv_iadd hx hb dX5_subscribers_30 ?_
        refine lv_istore_n (lv' := [(1, .int (l13_1 + ((uG.2.2.2.2.2.2.2.2.2.2.1.2 l13_4.toNatClampNeg).2 2))), (5, .ref (G10 l13_4.toNatClampNeg)), (2, .ref g10), (3, .int l13_3), (4, .int l13_4)]) hx hb dX5_subscribers_31 rfl hl (by decide) rfl (fun ls hl => ?_)
        refine lv_iinc (v := (l13_4 + 1)) (lv' := [(4, .int (l13_4 + 1)), (1, .int (l13_1 + ((uG.2.2.2.2.2.2.2.2.2.2.1.2 l13_4.toNatClampNeg).2 2))), (5, .ref (G10 l13_4.toNatClampNeg)), (2, .ref g10), (3, .int l13_3)]) hx hb dX5_subscribers_32 hl (k := 4) rfl rfl (by decide) rfl (fun ls hl => ?_)
        refine lv_goto (tgt := 13) hx hb dX5_subscribers_35 (by decide) ?_
        exact ih13 (l13_1 + ((uG.2.2.2.2.2.2.2.2.2.2.1.2 l13_4.toNatClampNeg).2 2)) l13_3 (l13_4 + 1) _ (lv_sub hl [1, 3, 4, 0] rfl) hok
  unfold p_X5_subscribers at hok
  refine lv_iconst (v := (0 : Int32)) hx hb dX5_subscribers_0 (by decide) ?_
  refine lv_istore_n (lv' := [(1, .int (0 : Int32)), (0, .ref g0)]) hx hb dX5_subscribers_1 rfl hl (by decide) rfl (fun ls hl => ?_)
  refine lv_aload_n hx hb dX5_subscribers_2 rfl (lv_at hl 1 rfl) ?_
  refine va_get (D := (dC, dI)) (ci := 5) (v := .ref g10) (C := RX5) (T := TX5) (N := 14) hx hb hts inX5 hown hK hP 0 rfl rfl 10 (by decide) (hts _ qf_X5_27) (fun _ h9 => h9) rfl dX5_subscribers_3 ?_
  refine lv_astore_n (lv' := [(2, .ref g10), (1, .int (0 : Int32)), (0, .ref g0)]) hx hb dX5_subscribers_6 rfl hl (by decide) rfl (fun ls hl => ?_)
  refine lv_aload_n hx hb dX5_subscribers_7 rfl (lv_at hl 0 rfl) ?_
  refine va_alen (v := (nI uG.2.2.2.2.2.2.2.2.2.2.1.1)) hx hb hK hP 4 2 rfl rfl rfl dX5_subscribers_8 ?_
  refine lv_istore_n (lv' := [(3, .int (nI uG.2.2.2.2.2.2.2.2.2.2.1.1)), (2, .ref g10), (1, .int (0 : Int32)), (0, .ref g0)]) hx hb dX5_subscribers_9 rfl hl (by decide) rfl (fun ls hl => ?_)
  refine lv_iconst (v := (0 : Int32)) hx hb dX5_subscribers_10 (by decide) ?_
  refine lv_istore (lv' := [(4, .int (0 : Int32)), (3, .int (nI uG.2.2.2.2.2.2.2.2.2.2.1.1)), (2, .ref g10), (1, .int (0 : Int32)), (0, .ref g0)]) hx hb dX5_subscribers_11 hl (by decide) rfl (fun ls hl => ?_)
  exact L13 200 (0 : Int32) (nI uG.2.2.2.2.2.2.2.2.2.2.1.1) (0 : Int32) _ (lv_sub hl [3, 2, 1, 0] rfl) hok

def p_X5_warmth_L13  : Nat → tX5 → Int32 → Int32 → Int32 → Option Int32
  | 0, _, _, _, _ => none
  | n + 1, uG, l13_1, l13_3, l13_4 =>
    if l13_3 ≤ l13_4 then
      some l13_1
    else
      gd l13_4 uG.2.2.2.2.2.2.2.2.2.2.1.1 (
      gd (2 : Int32) ((uG.2.2.2.2.2.2.2.2.2.2.1.2 l13_4.toNatClampNeg).1) (
      gd (1 : Int32) ((uG.2.2.2.2.2.2.2.2.2.2.1.2 l13_4.toNatClampNeg).1) (
      (p_X5_warmth_L13 n) uG (l13_1 + (((uG.2.2.2.2.2.2.2.2.2.2.1.2 l13_4.toNatClampNeg).2 2) * ((uG.2.2.2.2.2.2.2.2.2.2.1.2 l13_4.toNatClampNeg).2 1))) l13_3 (l13_4 + 1))))
def p_X5_warmth (uG : tX5) : Option Int32 :=
  p_X5_warmth_L13 200 uG (0 : Int32) (nI uG.2.2.2.2.2.2.2.2.2.2.1.1) (0 : Int32)
set_option maxHeartbeats 4000000 in
set_option maxRecDepth 100000 in
theorem c_X5_warmth (l : Launch) (dC : Nat → ClassId) (dI : Nat → Nat → Nat) (cI cZ cJ : ClassId) (g0 : Nat) (g7 g8 g9 g10 g11 g12 : Nat) (G9 G10 G11 G12 : Nat → Nat) (uG : tX5) {z : Int32} (hok : p_X5_warmth uG = some z) : Met l yX5_warmth (Cond.code yX5_warmth cX5_warmth 6 (some .int) :: lw_all) { frames := 0, cells := 0, slots := 0, locals := 0 } (prR (dC, dI) vwCl (TYG cI cZ cJ) (wX5 cI cZ cJ g0 g7 g8 g9 g10 g11 g12 G9 G10 G11 G12 uG) [.ref g0]) (vp_Si (fun r => r = z)) 0 0 (fun _ => False) := by
  refine oM (by decide) (Nat.le_of_ble_eq_true rfl) ?_
  intro p e s m args below meth c S hr hlk hnm hB ls hl
  have hx := S.1
  have hb := S.2.1
  have hml := S.2.2.1
  have hown : s.vm.findClass RX5 = some m.cls := S.2.2.2.1
  have hts := S.2.2.2.2
  have S : CallFix p m c cX5_warmth 6 s args lw_all RX5 := S
  have hl : lv_has ls 6 [(0, .ref g0)] := hl
  obtain ⟨hP, hK⟩ := hB
  have hP : va_P (dC, dI) vwCl (([] : va_W) ++ ((wX5 cI cZ cJ g0 g7 g8 g9 g10 g11 g12 G9 G10 G11 G12 uG) ++ ([] : va_W))) s.heap := zx_P (wa := []) hP
  have hK2 : va_K (dC, dI) vwCl (TYS cI cZ) s := hK.sub [0, 1] rfl
  have L13 : ∀ n13 : Nat, ∀ (l13_1 : Int32) (l13_3 : Int32) (l13_4 : Int32) (ls : Array Slot) (hl : lv_has ls 6 [(1, .int l13_1), (2, .ref g10), (3, .int l13_3), (4, .int l13_4)]) (hok : p_X5_warmth_L13 n13 uG l13_1 l13_3 l13_4 = some z), W p l e { frames := 0, cells := 0, slots := 0, locals := 0 } s m args below meth c s.heap [] 0 0 (MQ below (vp_Si (fun r => r = z)) args s 0 0 (fun _ => False)) (F0 m 13 ls []) := by
    intro n13
    induction n13 with
    | zero =>
      intro l13_1 l13_3 l13_4 ls hl hok
      rw [p_X5_warmth_L13] at hok
      cases hok
    | succ n13 ih13 =>
      intro l13_1 l13_3 l13_4 ls hl hok
      rw [p_X5_warmth_L13] at hok
      refine lv_iload hx hb dX5_warmth_13 (lv_at hl 3 rfl) ?_
      refine lv_iload_n hx hb dX5_warmth_15 rfl (lv_at hl 2 rfl) ?_
      refine lv_icmp_ge (tgt := 43) hx hb dX5_warmth_16 (by decide) (fun hc => ?_) (fun hc => ?_)
      · have hok := ip hok hc
        refine lv_iload_n hx hb dX5_warmth_43 rfl (lv_at hl 0 rfl) ?_
        exact eRi S hr hlk (Option.some.inj hok) dX5_warmth_44
      · have hok := iq hok hc
        refine lv_aload_n hx hb dX5_warmth_19 rfl (lv_at hl 1 rfl) ?_
        refine lv_iload hx hb dX5_warmth_20 (lv_at hl 3 rfl) ?_
        obtain ⟨hi1, hok⟩ := gd_some hok
        refine ra10 hx hb hK 2 rfl hP (j := l13_4.toNatClampNeg) rfl hi1 dX5_warmth_22 ?_
        refine lv_astore (lv' := [(5, .ref (G10 l13_4.toNatClampNeg)), (1, .int l13_1), (2, .ref g10), (3, .int l13_3), (4, .int l13_4)]) hx hb dX5_warmth_23 hl (by decide) rfl (fun ls hl => ?_)
        refine lv_iload_n hx hb dX5_warmth_25 rfl (lv_at hl 1 rfl) ?_
        refine lv_aload hx hb dX5_warmth_26 (lv_at hl 0 rfl) ?_
        refine lv_iconst (v := (2 : Int32)) hx hb dX5_warmth_28 (by decide) ?_
        obtain ⟨hi2, hok⟩ := gd_some hok
        refine rl10 hx hb hK 0 rfl hP (k := l13_4.toNatClampNeg) (j := 2) (vp_inL rfl hi1) rfl (by decide) hi2 dX5_warmth_29 ?_
        refine lv_aload hx hb dX5_warmth_30 (lv_at hl 0 rfl) ?_
        refine lv_iconst (v := (1 : Int32)) hx hb dX5_warmth_32 (by decide) ?_
        obtain ⟨hi3, hok⟩ := gd_some hok
        refine rl10 hx hb hK 0 rfl hP (k := l13_4.toNatClampNeg) (j := 1) (vp_inL rfl hi1) rfl (by decide) hi3 dX5_warmth_33 ?_
        refine lv_imul hx hb dX5_warmth_34 ?_
        refine lv_iadd hx hb dX5_warmth_35 ?_
        refine lv_istore_n (lv' := [(1, .int (l13_1 + (((uG.2.2.2.2.2.2.2.2.2.2.1.2 l13_4.toNatClampNeg).2 2) * ((uG.2.2.2.2.2.2.2.2.2.2.1.2 l13_4.toNatClampNeg).2 1)))), (5, .ref (G10 l13_4.toNatClampNeg)), (2, .ref g10), (3, .int l13_3), (4, .int l13_4)]) hx hb dX5_warmth_36 rfl hl (by decide) rfl (fun ls hl => ?_)
        refine lv_iinc (v := (l13_4 + 1)) (lv' := [(4, .int (l13_4 + 1)), (1, .int (l13_1 + (((uG.2.2.2.2.2.2.2.2.2.2.1.2 l13_4.toNatClampNeg).2 2) * ((uG.2.2.2.2.2.2.2.2.2.2.1.2 l13_4.toNatClampNeg).2 1)))), (5, .ref (G10 l13_4.toNatClampNeg)), (2, .ref g10), (3, .int l13_3)]) hx hb dX5_warmth_37 hl (k := 4) rfl rfl (by decide) rfl (fun ls hl => ?_)
        refine lv_goto (tgt := 13) hx hb dX5_warmth_40 (by decide) ?_
        exact ih13 (l13_1 + (((uG.2.2.2.2.2.2.2.2.2.2.1.2 l13_4.toNatClampNeg).2 2) * ((uG.2.2.2.2.2.2.2.2.2.2.1.2 l13_4.toNatClampNeg).2 1))) l13_3 (l13_4 + 1) _ (lv_sub hl [1, 3, 4, 0] rfl) hok
  unfold p_X5_warmth at hok
  refine lv_iconst (v := (0 : Int32)) hx hb dX5_warmth_0 (by decide) ?_
  refine lv_istore_n (lv' := [(1, .int (0 : Int32)), (0, .ref g0)]) hx hb dX5_warmth_1 rfl hl (by decide) rfl (fun ls hl => ?_)
  refine lv_aload_n hx hb dX5_warmth_2 rfl (lv_at hl 1 rfl) ?_
  refine va_get (D := (dC, dI)) (ci := 5) (v := .ref g10) (C := RX5) (T := TX5) (N := 14) hx hb hts inX5 hown hK hP 0 rfl rfl 10 (by decide) (hts _ qf_X5_27) (fun _ h9 => h9) rfl dX5_warmth_3 ?_
  refine lv_astore_n (lv' := [(2, .ref g10), (1, .int (0 : Int32)), (0, .ref g0)]) hx hb dX5_warmth_6 rfl hl (by decide) rfl (fun ls hl => ?_)
  refine lv_aload_n hx hb dX5_warmth_7 rfl (lv_at hl 0 rfl) ?_
  refine va_alen (v := (nI uG.2.2.2.2.2.2.2.2.2.2.1.1)) hx hb hK hP 4 2 rfl rfl rfl dX5_warmth_8 ?_
  refine lv_istore_n (lv' := [(3, .int (nI uG.2.2.2.2.2.2.2.2.2.2.1.1)), (2, .ref g10), (1, .int (0 : Int32)), (0, .ref g0)]) hx hb dX5_warmth_9 rfl hl (by decide) rfl (fun ls hl => ?_)
  refine lv_iconst (v := (0 : Int32)) hx hb dX5_warmth_10 (by decide) ?_
  refine lv_istore (lv' := [(4, .int (0 : Int32)), (3, .int (nI uG.2.2.2.2.2.2.2.2.2.2.1.1)), (2, .ref g10), (1, .int (0 : Int32)), (0, .ref g0)]) hx hb dX5_warmth_11 hl (by decide) rfl (fun ls hl => ?_)
  exact L13 200 (0 : Int32) (nI uG.2.2.2.2.2.2.2.2.2.2.1.1) (0 : Int32) _ (lv_sub hl [3, 2, 1, 0] rfl) hok

def p_X5_cuts_L13  : Nat → tX5 → Int32 → Int32 → Int32 → Option Int32
  | 0, _, _, _, _ => none
  | n + 1, uG, l13_1, l13_3, l13_4 =>
    if l13_3 ≤ l13_4 then
      some l13_1
    else
      gd l13_4 uG.2.2.2.2.2.2.2.2.2.1.1 (
      gd (1 : Int32) ((uG.2.2.2.2.2.2.2.2.2.1.2 l13_4.toNatClampNeg).1) (
      (p_X5_cuts_L13 n) uG (l13_1 + ((uG.2.2.2.2.2.2.2.2.2.1.2 l13_4.toNatClampNeg).2 1)) l13_3 (l13_4 + 1)))
def p_X5_cuts (uG : tX5) : Option Int32 :=
  p_X5_cuts_L13 200 uG (0 : Int32) (nI uG.2.2.2.2.2.2.2.2.2.1.1) (0 : Int32)
set_option maxHeartbeats 4000000 in
set_option maxRecDepth 100000 in
theorem c_X5_cuts (l : Launch) (dC : Nat → ClassId) (dI : Nat → Nat → Nat) (cI cZ cJ : ClassId) (g0 : Nat) (g7 g8 g9 g10 g11 g12 : Nat) (G9 G10 G11 G12 : Nat → Nat) (uG : tX5) {z : Int32} (hok : p_X5_cuts uG = some z) : Met l yX5_cuts (Cond.code yX5_cuts cX5_cuts 6 (some .int) :: lw_all) { frames := 0, cells := 0, slots := 0, locals := 0 } (prR (dC, dI) vwCl (TYG cI cZ cJ) (wX5 cI cZ cJ g0 g7 g8 g9 g10 g11 g12 G9 G10 G11 G12 uG) [.ref g0]) (vp_Si (fun r => r = z)) 0 0 (fun _ => False) := by
  refine oM (by decide) (Nat.le_of_ble_eq_true rfl) ?_
  intro p e s m args below meth c S hr hlk hnm hB ls hl
  have hx := S.1
  have hb := S.2.1
  have hml := S.2.2.1
  have hown : s.vm.findClass RX5 = some m.cls := S.2.2.2.1
  have hts := S.2.2.2.2
  have S : CallFix p m c cX5_cuts 6 s args lw_all RX5 := S
  have hl : lv_has ls 6 [(0, .ref g0)] := hl
  obtain ⟨hP, hK⟩ := hB
  have hP : va_P (dC, dI) vwCl (([] : va_W) ++ ((wX5 cI cZ cJ g0 g7 g8 g9 g10 g11 g12 G9 G10 G11 G12 uG) ++ ([] : va_W))) s.heap := zx_P (wa := []) hP
  have hK2 : va_K (dC, dI) vwCl (TYS cI cZ) s := hK.sub [0, 1] rfl
  have L13 : ∀ n13 : Nat, ∀ (l13_1 : Int32) (l13_3 : Int32) (l13_4 : Int32) (ls : Array Slot) (hl : lv_has ls 6 [(1, .int l13_1), (2, .ref g9), (3, .int l13_3), (4, .int l13_4)]) (hok : p_X5_cuts_L13 n13 uG l13_1 l13_3 l13_4 = some z), W p l e { frames := 0, cells := 0, slots := 0, locals := 0 } s m args below meth c s.heap [] 0 0 (MQ below (vp_Si (fun r => r = z)) args s 0 0 (fun _ => False)) (F0 m 13 ls []) := by
    intro n13
    induction n13 with
    | zero =>
      intro l13_1 l13_3 l13_4 ls hl hok
      rw [p_X5_cuts_L13] at hok
      cases hok
    | succ n13 ih13 =>
      intro l13_1 l13_3 l13_4 ls hl hok
      rw [p_X5_cuts_L13] at hok
      refine lv_iload hx hb dX5_cuts_13 (lv_at hl 3 rfl) ?_
      refine lv_iload_n hx hb dX5_cuts_15 rfl (lv_at hl 2 rfl) ?_
      refine lv_icmp_ge (tgt := 38) hx hb dX5_cuts_16 (by decide) (fun hc => ?_) (fun hc => ?_)
      · have hok := ip hok hc
        refine lv_iload_n hx hb dX5_cuts_38 rfl (lv_at hl 0 rfl) ?_
        exact eRi S hr hlk (Option.some.inj hok) dX5_cuts_39
      · have hok := iq hok hc
        refine lv_aload_n hx hb dX5_cuts_19 rfl (lv_at hl 1 rfl) ?_
        refine lv_iload hx hb dX5_cuts_20 (lv_at hl 3 rfl) ?_
        obtain ⟨hi1, hok⟩ := gd_some hok
        refine ra9 hx hb hK 2 rfl hP (j := l13_4.toNatClampNeg) rfl hi1 dX5_cuts_22 ?_
        refine lv_astore (lv' := [(5, .ref (G9 l13_4.toNatClampNeg)), (1, .int l13_1), (2, .ref g9), (3, .int l13_3), (4, .int l13_4)]) hx hb dX5_cuts_23 hl (by decide) rfl (fun ls hl => ?_)
        refine lv_iload_n hx hb dX5_cuts_25 rfl (lv_at hl 1 rfl) ?_
        refine lv_aload hx hb dX5_cuts_26 (lv_at hl 0 rfl) ?_
        refine lv_iconst (v := (1 : Int32)) hx hb dX5_cuts_28 (by decide) ?_
        obtain ⟨hi2, hok⟩ := gd_some hok
        refine rl9 hx hb hK 0 rfl hP (k := l13_4.toNatClampNeg) (j := 1) (vp_inL rfl hi1) rfl (by decide) hi2 dX5_cuts_29 ?_
        refine lv_iadd hx hb dX5_cuts_30 ?_
        refine lv_istore_n (lv' := [(1, .int (l13_1 + ((uG.2.2.2.2.2.2.2.2.2.1.2 l13_4.toNatClampNeg).2 1))), (5, .ref (G9 l13_4.toNatClampNeg)), (2, .ref g9), (3, .int l13_3), (4, .int l13_4)]) hx hb dX5_cuts_31 rfl hl (by decide) rfl (fun ls hl => ?_)
        refine lv_iinc (v := (l13_4 + 1)) (lv' := [(4, .int (l13_4 + 1)), (1, .int (l13_1 + ((uG.2.2.2.2.2.2.2.2.2.1.2 l13_4.toNatClampNeg).2 1))), (5, .ref (G9 l13_4.toNatClampNeg)), (2, .ref g9), (3, .int l13_3)]) hx hb dX5_cuts_32 hl (k := 4) rfl rfl (by decide) rfl (fun ls hl => ?_)
        refine lv_goto (tgt := 13) hx hb dX5_cuts_35 (by decide) ?_
        exact ih13 (l13_1 + ((uG.2.2.2.2.2.2.2.2.2.1.2 l13_4.toNatClampNeg).2 1)) l13_3 (l13_4 + 1) _ (lv_sub hl [1, 3, 4, 0] rfl) hok
  unfold p_X5_cuts at hok
  refine lv_iconst (v := (0 : Int32)) hx hb dX5_cuts_0 (by decide) ?_
  refine lv_istore_n (lv' := [(1, .int (0 : Int32)), (0, .ref g0)]) hx hb dX5_cuts_1 rfl hl (by decide) rfl (fun ls hl => ?_)
  refine lv_aload_n hx hb dX5_cuts_2 rfl (lv_at hl 1 rfl) ?_
  refine va_get (D := (dC, dI)) (ci := 5) (v := .ref g9) (C := RX5) (T := TX5) (N := 14) hx hb hts inX5 hown hK hP 0 rfl rfl 9 (by decide) (hts _ qf_X5_22) (fun _ h9 => h9) rfl dX5_cuts_3 ?_
  refine lv_astore_n (lv' := [(2, .ref g9), (1, .int (0 : Int32)), (0, .ref g0)]) hx hb dX5_cuts_6 rfl hl (by decide) rfl (fun ls hl => ?_)
  refine lv_aload_n hx hb dX5_cuts_7 rfl (lv_at hl 0 rfl) ?_
  refine va_alen (v := (nI uG.2.2.2.2.2.2.2.2.2.1.1)) hx hb hK hP 3 2 rfl rfl rfl dX5_cuts_8 ?_
  refine lv_istore_n (lv' := [(3, .int (nI uG.2.2.2.2.2.2.2.2.2.1.1)), (2, .ref g9), (1, .int (0 : Int32)), (0, .ref g0)]) hx hb dX5_cuts_9 rfl hl (by decide) rfl (fun ls hl => ?_)
  refine lv_iconst (v := (0 : Int32)) hx hb dX5_cuts_10 (by decide) ?_
  refine lv_istore (lv' := [(4, .int (0 : Int32)), (3, .int (nI uG.2.2.2.2.2.2.2.2.2.1.1)), (2, .ref g9), (1, .int (0 : Int32)), (0, .ref g0)]) hx hb dX5_cuts_11 hl (by decide) rfl (fun ls hl => ?_)
  exact L13 200 (0 : Int32) (nI uG.2.2.2.2.2.2.2.2.2.1.1) (0 : Int32) _ (lv_sub hl [3, 2, 1, 0] rfl) hok

def p_X5_grade_J32  (f1 : (Nat → Int32)) (n1 : Nat) (f2 : (Nat → Int32)) (n2 : Nat) (l32_3 : Int32) : Option Int32 :=
  if 0 ≤ l32_3 then
    if l32_3 ≤ (10 : Int32) then
      some l32_3
    else
      some (10 : Int32)
  else
    some (0 : Int32)
def p_X5_grade_J20  (f1 : (Nat → Int32)) (n1 : Nat) (f2 : (Nat → Int32)) (n2 : Nat) (l20_3 : Int32) : Option Int32 :=
  gd (2 : Int32) n2 (
  gd (1 : Int32) n1 (
  if (f2 2) = (f1 1) then
    p_X5_grade_J32 f1 n1 f2 n2 (l20_3 + (-3 : Int32))
  else
    p_X5_grade_J32 f1 n1 f2 n2 l20_3))
def p_X5_grade (n1 : Nat) (f1 : (Nat → Int32)) (n2 : Nat) (f2 : (Nat → Int32)) : Option Int32 :=
  gd (4 : Int32) n2 (
  gd (2 : Int32) n2 (
  gd (0 : Int32) n1 (
  if (f2 2) = (f1 0) then
    p_X5_grade_J20 f1 n1 f2 n2 (((4 : Int32) + ((f2 4) / (3 : Int32))) + 2)
  else
    p_X5_grade_J20 f1 n1 f2 n2 ((4 : Int32) + ((f2 4) / (3 : Int32))))))
set_option maxHeartbeats 4000000 in
set_option maxRecDepth 100000 in
theorem c_X5_grade (l : Launch) (dC : Nat → ClassId) (dI : Nat → Nat → Nat) (cI cZ cJ : ClassId) (g0 : Nat) (fs0 : List Value) (b1 b2 : Nat) (n1 : Nat) (f1 : (Nat → Int32)) (n2 : Nat) (f2 : (Nat → Int32)) {z : Int32} (hok : p_X5_grade n1 f1 n2 f2 = some z) : Met l yX5_grade (Cond.code yX5_grade cX5_grade 4 (some .int) :: lw_all) { frames := 0, cells := 0, slots := 0, locals := 0 } (prR (dC, dI) vwCl (TYG cI cZ cJ) [(g0, .inr (5, fs0)), (b1, .inl (cI, n1, .inl f1)), (b2, .inl (cI, n2, .inl f2))] [.ref g0, .ref b1, .ref b2]) (vp_Si (fun r => r = z)) 0 0 (fun _ => False) := by
  refine oM (by decide) (Nat.le_of_ble_eq_true rfl) ?_
  intro p e s m args below meth c S hr hlk hnm hB ls hl
  have hx := S.1
  have hb := S.2.1
  have hml := S.2.2.1
  have hown : s.vm.findClass RX5 = some m.cls := S.2.2.2.1
  have hts := S.2.2.2.2
  have S : CallFix p m c cX5_grade 4 s args lw_all RX5 := S
  have hl : lv_has ls 4 [(0, .ref g0), (1, .ref b1), (2, .ref b2)] := hl
  obtain ⟨hP, hK⟩ := hB
  have hP : va_P (dC, dI) vwCl (([] : va_W) ++ ([(g0, .inr (5, fs0))] ++ [(b1, .inl (cI, n1, .inl f1)), (b2, .inl (cI, n2, .inl f2))])) s.heap := hP
  have hK2 : va_K (dC, dI) vwCl (TYS cI cZ) s := hK.sub [0, 1] rfl
  have J32 : ∀ (l32_3 : Int32) (ls : Array Slot) (hl : lv_has ls 4 [(3, .int l32_3)]) (hok : p_X5_grade_J32 f1 n1 f2 n2 l32_3 = some z), W p l e { frames := 0, cells := 0, slots := 0, locals := 0 } s m args below meth c s.heap [] 0 0 (MQ below (vp_Si (fun r => r = z)) args s 0 0 (fun _ => False)) (F0 m 32 ls []) := by
    intro l32_3 ls hl hok
    unfold p_X5_grade_J32 at hok
    refine lv_iload_n hx hb dX5_grade_32 rfl (lv_at hl 0 rfl) ?_
    refine lv_if_ge (tgt := 40) hx hb dX5_grade_33 (by decide) (fun hc => ?_) (fun hc => ?_)
    · have hok := ip hok hc
      refine lv_iload_n hx hb dX5_grade_40 rfl (lv_at hl 0 rfl) ?_
      refine lv_bipush (v := (10 : Int32)) hx hb dX5_grade_41 (by decide) ?_
      refine lv_icmp_le (tgt := 51) hx hb dX5_grade_43 (by decide) (fun hc => ?_) (fun hc => ?_)
      · have hok := ip hok hc
        refine lv_iload_n hx hb dX5_grade_51 rfl (lv_at hl 0 rfl) ?_
        exact eRi S hr hlk (Option.some.inj hok) dX5_grade_52
      · have hok := iq hok hc
        refine lv_bipush (v := (10 : Int32)) hx hb dX5_grade_46 (by decide) ?_
        refine lv_goto (tgt := 52) hx hb dX5_grade_48 (by decide) ?_
        exact eRi S hr hlk (Option.some.inj hok) dX5_grade_52
    · have hok := iq hok hc
      refine lv_iconst (v := (0 : Int32)) hx hb dX5_grade_36 (by decide) ?_
      refine lv_goto (tgt := 52) hx hb dX5_grade_37 (by decide) ?_
      exact eRi S hr hlk (Option.some.inj hok) dX5_grade_52
  have J20 : ∀ (l20_3 : Int32) (ls : Array Slot) (hl : lv_has ls 4 [(1, .ref b1), (2, .ref b2), (3, .int l20_3)]) (hok : p_X5_grade_J20 f1 n1 f2 n2 l20_3 = some z), W p l e { frames := 0, cells := 0, slots := 0, locals := 0 } s m args below meth c s.heap [] 0 0 (MQ below (vp_Si (fun r => r = z)) args s 0 0 (fun _ => False)) (F0 m 20 ls []) := by
    intro l20_3 ls hl hok
    unfold p_X5_grade_J20 at hok
    refine lv_aload_n hx hb dX5_grade_20 rfl (lv_at hl 1 rfl) ?_
    refine lv_iconst (v := (2 : Int32)) hx hb dX5_grade_21 (by decide) ?_
    obtain ⟨hi4, hok⟩ := gd_some hok
    refine xl hx hb hK hP 1 0 rfl rfl (j := 2) (by decide) hi4 dX5_grade_22 ?_
    refine lv_aload_n hx hb dX5_grade_23 rfl (lv_at hl 0 rfl) ?_
    refine lv_iconst (v := (1 : Int32)) hx hb dX5_grade_24 (by decide) ?_
    obtain ⟨hi5, hok⟩ := gd_some hok
    refine xl hx hb hK hP 0 0 rfl rfl (j := 1) (by decide) hi5 dX5_grade_25 ?_
    refine lv_icmp_ne (tgt := 32) hx hb dX5_grade_26 (by decide) (fun hc => ?_) (fun hc => ?_)
    · have hok := iq hok hc
      exact J32 l20_3 _ (lv_sub hl [2] rfl) hok
    · have hok := ip hok hc
      refine lv_iinc (v := (l20_3 + (-3 : Int32))) (lv' := [(3, .int (l20_3 + (-3 : Int32))), (1, .ref b1), (2, .ref b2)]) hx hb dX5_grade_29 hl (k := 2) rfl rfl (by decide) rfl (fun ls hl => ?_)
      exact J32 (l20_3 + (-3 : Int32)) _ (lv_sub hl [0] rfl) hok
  unfold p_X5_grade at hok
  refine lv_iconst (v := (4 : Int32)) hx hb dX5_grade_0 (by decide) ?_
  refine lv_aload_n hx hb dX5_grade_1 rfl (lv_at hl 2 rfl) ?_
  refine lv_iconst (v := (4 : Int32)) hx hb dX5_grade_2 (by decide) ?_
  obtain ⟨hi1, hok⟩ := gd_some hok
  refine xl hx hb hK hP 1 0 rfl rfl (j := 4) (by decide) hi1 dX5_grade_3 ?_
  refine lv_iconst (v := (3 : Int32)) hx hb dX5_grade_4 (by decide) ?_
  refine lv_idiv hx hb dX5_grade_5 (by decide) ?_
  refine lv_iadd hx hb dX5_grade_6 ?_
  refine lv_istore_n (lv' := [(3, .int ((4 : Int32) + ((f2 4) / (3 : Int32)))), (0, .ref g0), (1, .ref b1), (2, .ref b2)]) hx hb dX5_grade_7 rfl hl (by decide) rfl (fun ls hl => ?_)
  refine lv_aload_n hx hb dX5_grade_8 rfl (lv_at hl 3 rfl) ?_
  refine lv_iconst (v := (2 : Int32)) hx hb dX5_grade_9 (by decide) ?_
  obtain ⟨hi2, hok⟩ := gd_some hok
  refine xl hx hb hK hP 1 0 rfl rfl (j := 2) (by decide) hi2 dX5_grade_10 ?_
  refine lv_aload_n hx hb dX5_grade_11 rfl (lv_at hl 2 rfl) ?_
  refine lv_iconst (v := (0 : Int32)) hx hb dX5_grade_12 (by decide) ?_
  obtain ⟨hi3, hok⟩ := gd_some hok
  refine xl hx hb hK hP 0 0 rfl rfl (j := 0) (by decide) hi3 dX5_grade_13 ?_
  refine lv_icmp_ne (tgt := 20) hx hb dX5_grade_14 (by decide) (fun hc => ?_) (fun hc => ?_)
  · have hok := iq hok hc
    exact J20 ((4 : Int32) + ((f2 4) / (3 : Int32))) _ (lv_sub hl [2, 3, 0] rfl) hok
  · have hok := ip hok hc
    refine lv_iinc (v := (((4 : Int32) + ((f2 4) / (3 : Int32))) + 2)) (lv' := [(3, .int (((4 : Int32) + ((f2 4) / (3 : Int32))) + 2)), (0, .ref g0), (1, .ref b1), (2, .ref b2)]) hx hb dX5_grade_17 hl (k := 0) rfl rfl (by decide) rfl (fun ls hl => ?_)
    exact J20 (((4 : Int32) + ((f2 4) / (3 : Int32))) + 2) _ (lv_sub hl [2, 3, 0] rfl) hok
