theorem cP_LA {D : va_G} {cl : List vw_C} {cI cZ : ClassId} {l0 l4 l5 l6 l8 l10 l11 l12 l13 l14 l15 l16 q n : Nat} {f : Nat → Int32} {uL : tX5} {H : Heap} (h : va_P D cl (wX5 cI cZ l0 l4 l5 l6 l8 l10 l11 l12 l13 l14 l15 l16 uL ++ [(q, .inl (cI, n, .inl f))]) H) : va_P D cl (wX5 cI cZ l0 l4 l5 l6 l8 l10 l11 l12 l13 l14 l15 l16 uL) H := va_Pcut (isC := [0, 1, 2, 3, 4, 5, 6, 7, 8, 9, 10, 11]) h rfl
theorem cD_LA {A : Nat → Prop} {cI cZ : ClassId} {l0 l4 l5 l6 l8 l10 l11 l12 l13 l14 l15 l16 q n : Nat} {f : Nat → Int32} {uL : tX5} (h : va_D A (wX5 cI cZ l0 l4 l5 l6 l8 l10 l11 l12 l13 l14 l15 l16 uL ++ [(q, .inl (cI, n, .inl f))])) : va_D A (wX5 cI cZ l0 l4 l5 l6 l8 l10 l11 l12 l13 l14 l15 l16 uL) := h.sub [0, 1, 2, 3, 4, 5, 6, 7, 8, 9, 10, 11] (by decide) rfl
theorem D_LA {A : Nat → Prop} {cI cZ : ClassId} {l0 l4 l5 l6 l8 l10 l11 l12 l13 l14 l15 l16 q n : Nat} {f g : Nat → Int32} {uL uL' : tX5} (h : va_D A (wX5 cI cZ l0 l4 l5 l6 l8 l10 l11 l12 l13 l14 l15 l16 uL ++ [(q, .inl (cI, n, .inl f))])) : va_D A (wX5 cI cZ l0 l4 l5 l6 l8 l10 l11 l12 l13 l14 l15 l16 uL' ++ [(q, .inl (cI, n, .inl g))]) := va_Dsame (by rfl) h
theorem cJ_LA {A : Nat → Prop} {D : va_G} {cl : List vw_C} {cI cZ : ClassId} {l0 l4 l5 l6 l8 l10 l11 l12 l13 l14 l15 l16 q n : Nat} {f : Nat → Int32} {uL uL' : tX5} {H H1 : Heap} (hP : va_P D cl (wX5 cI cZ l0 l4 l5 l6 l8 l10 l11 l12 l13 l14 l15 l16 uL ++ [(q, .inl (cI, n, .inl f))]) H) (hD : va_D A (wX5 cI cZ l0 l4 l5 l6 l8 l10 l11 l12 l13 l14 l15 l16 uL ++ [(q, .inl (cI, n, .inl f))])) (hk : ∀ q : Nat, q < H.size → ¬ va_A (wX5 cI cZ l0 l4 l5 l6 l8 l10 l11 l12 l13 l14 l15 l16 uL) H.size q → H1[q]? = H[q]?) (hP1 : va_P D cl (wX5 cI cZ l0 l4 l5 l6 l8 l10 l11 l12 l13 l14 l15 l16 uL') H1) : va_P D cl (wX5 cI cZ l0 l4 l5 l6 l8 l10 l11 l12 l13 l14 l15 l16 uL' ++ [(q, .inl (cI, n, .inl f))]) H1 := fr_join hP hD [0, 1, 2, 3, 4, 5, 6, 7, 8, 9, 10, 11] (by rfl) (by rfl) (by rfl) hk hP1
theorem hd_X5_digest : yX5_digest.cls = RX5 ∧ yX5_digest.cls ≠ "java/lang/invoke/MethodHandle" ∧ yX5_digest.cls ≠ "java/lang/invoke/VarHandle" ∧ (parseMethodDescriptor yX5_digest.desc).map (fun d => d.parameters.length) = some 0 := by decide +kernel
def p_X5_digest_L600 : Nat → tX5 → Int64 → Int32 → Option (Int64 × tX5)
  | 0, _, _, _ => none
  | n + 1, uL, l600_2, l600_4 =>
    if uL.2.2.2.2.2.2.2.2.2.2.2.2.1 ≤ l600_4 then
      some (l600_2, uL)
    else
      bd (p_X5_sumBy uL l600_4) (fun v28 =>
      bd (p_X5_liked uL l600_4) (fun v29 =>
      (p_X5_digest_L600 n) uL ((((l600_2 * (31 : Int64)) + v28.toInt64) * (31 : Int64)) + v29.toInt64) (l600_4 + 1)))
def p_X5_digest_J588 (rec546 : tX5 → Int64 → Int32 → Option (Int64 × tX5)) (uL : tX5) (l588_4 : Int32) (s588_0 : Int32) (s588_1 : Int64) : Option (Int64 × tX5) :=
  rec546 uL (s588_1 + s588_0.toInt64) (l588_4 + 1)
def p_X5_digest_L546 : Nat → tX5 → Int64 → Int32 → Option (Int64 × tX5)
  | 0, _, _, _ => none
  | n + 1, uL, l546_2, l546_4 =>
    if uL.2.2.2.2.2.2.2.2.2.2.1 ≤ l546_4 then
      p_X5_digest_L600 200 uL l546_2 (0 : Int32)
    else
      bd (p_X5_warm uL l546_4) (fun v26 =>
      bd (p_X5_reads uL l546_4) (fun v27 =>
      if v27 = 0 then
        p_X5_digest_J588 (p_X5_digest_L546 n) uL l546_4 (0 : Int32) (((l546_2 * (31 : Int64)) + v26.toInt64) * (31 : Int64))
      else
        p_X5_digest_J588 (p_X5_digest_L546 n) uL l546_4 (1 : Int32) (((l546_2 * (31 : Int64)) + v26.toInt64) * (31 : Int64))))
def p_X5_digest_L459 : Nat → tX5 → Int64 → Int32 → Option (Int64 × tX5)
  | 0, _, _, _ => none
  | n + 1, uL, l459_2, l459_4 =>
    if (uL.1 8) ≤ l459_4 then
      p_X5_digest_L546 200 uL l459_2 (0 : Int32)
    else
      gd l459_4 108 (
      (p_X5_digest_L459 n) uL ((((((((l459_2 * (31 : Int64)) + ((uL.2.2.2.2.2.2.2.2.2.2.2.2.2.2.2.1 l459_4.toNatClampNeg) / (9 : Int32)).toInt64) * (31 : Int64)) + ((uL.2.2.2.2.2.2.2.2.2.2.2.2.2.2.2.1 l459_4.toNatClampNeg) - (uL.2.2.2.2.2.2.2.2.2.2.2.2.2.2.2.1 l459_4.toNatClampNeg) / (9 : Int32) * (9 : Int32)).toInt64) * (31 : Int64)) + (uL.2.2.2.2.2.2.2.2.2.2.2.2.2.2.2.2.1 l459_4.toNatClampNeg).toInt64) * (31 : Int64)) + (uL.2.2.2.2.2.2.2.2.2.2.2.2.2.2.2.2.2 l459_4.toNatClampNeg).toInt64) (l459_4 + 1))
def p_X5_digest_J433 (rec404 : tX5 → Int64 → Int32 → Option (Int64 × tX5)) (uL : tX5) (l433_4 : Int32) (s433_0 : Int32) (s433_1 : Int64) : Option (Int64 × tX5) :=
  bd (p_X5_comes uL l433_4) (fun v24 =>
  rec404 uL (((s433_1 + s433_0.toInt64) * (31 : Int64)) + v24.toInt64) (l433_4 + 1))
def p_X5_digest_L404 : Nat → tX5 → Int64 → Int32 → Option (Int64 × tX5)
  | 0, _, _, _ => none
  | n + 1, uL, l404_2, l404_4 =>
    if (8 : Int32) ≤ l404_4 then
      p_X5_digest_L459 200 uL l404_2 (0 : Int32)
    else
      bd (p_X5_has uL.2.2.2.2.2.2.1 l404_4) (fun v18 =>
      if v18 = 0 then
        p_X5_digest_J433 (p_X5_digest_L404 n) uL l404_4 (0 : Int32) (l404_2 * (31 : Int64))
      else
        p_X5_digest_J433 (p_X5_digest_L404 n) uL l404_4 (1 : Int32) (l404_2 * (31 : Int64)))
def p_X5_digest_L365 (rec275 : tX5 → Int64 → Int32 → Option (Int64 × tX5)) : Nat → tX5 → (Nat → Int32) → Int64 → Int32 → Int32 → Int32 → Option (Int64 × tX5)
  | 0, _, _, _, _, _, _ => none
  | n + 1, uL, f365_0, l365_2, l365_4, l365_7, l365_8 =>
    if l365_7 ≤ l365_8 then
      rec275 uL l365_2 (l365_4 + 1)
    else
      gd l365_8 5 (
      (p_X5_digest_L365 rec275 n) uL f365_0 ((l365_2 * (31 : Int64)) + (f365_0 l365_8.toNatClampNeg).toInt64) l365_4 l365_7 (l365_8 + 1))
def p_X5_digest_J309 (rec275 : tX5 → Int64 → Int32 → Option (Int64 × tX5)) (uL : tX5) (f309_0 : (Nat → Int32)) (l309_2 : Int64) (l309_4 : Int32) (s309_0 : Int32) : Option (Int64 × tX5) :=
  gd l309_4 12 (
  bd (p_X5_next uL l309_4) (fun v20 =>
  gd ((21 : Int32) + l309_4) 41 (
  bd (p_X5_untilStop uL l309_4) (fun v22 =>
  p_X5_digest_L365 rec275 200 v22.2 (upd (upd (upd (upd (upd f309_0 0 s309_0) 1 (uL.2.2.2.2.2.2.2.1 l309_4.toNatClampNeg)) 2 v20) 3 (uL.1 ((21 : Int32) + l309_4).toNatClampNeg)) 4 v22.1) l309_2 l309_4 (5 : Int32) (0 : Int32)))))
def p_X5_digest_L275 : Nat → tX5 → Int64 → Int32 → Option (Int64 × tX5)
  | 0, _, _, _ => none
  | n + 1, uL, l275_2, l275_4 =>
    if uL.2.2.2.2.1 ≤ l275_4 then
      p_X5_digest_L404 200 uL l275_2 (0 : Int32)
    else
      bd (p_X5_has (uL.1 6) l275_4) (fun v17 =>
      if v17 = 0 then
        p_X5_digest_J309 (p_X5_digest_L275 n) uL (fun _ => (0 : Int32)) l275_2 l275_4 (0 : Int32)
      else
        p_X5_digest_J309 (p_X5_digest_L275 n) uL (fun _ => (0 : Int32)) l275_2 l275_4 (1 : Int32))
def p_X5_digest_L242 : Nat → tX5 → (Nat → Int32) → Int64 → Int32 → Int32 → Option (Int64 × tX5)
  | 0, _, _, _, _, _ => none
  | n + 1, uL, f242_0, l242_2, l242_5, l242_6 =>
    if l242_5 ≤ l242_6 then
      p_X5_digest_L275 13 uL l242_2 (0 : Int32)
    else
      gd l242_6 22 (
      (p_X5_digest_L242 n) uL f242_0 ((l242_2 * (31 : Int64)) + (f242_0 l242_6.toNatClampNeg).toInt64) l242_5 (l242_6 + 1))
def p_X5_digest (uL : tX5) : Option (Int64 × tX5) :=
  bd (p_X5_ones (uL.1 6)) (fun v2 =>
  bd (p_X5_cut (uL.1, uL.2.1, uL.2.2.1, (0 : Int32), uL.2.2.2.2)) (fun v3 =>
  bd (p_X5_thrilling (uL.1, uL.2.1, uL.2.2.1, (0 : Int32), uL.2.2.2.2)) (fun v4 =>
  bd (p_X5_waits (uL.1, uL.2.1, uL.2.2.1, (0 : Int32), uL.2.2.2.2)) (fun v5 =>
  bd (p_X5_rises (uL.1, uL.2.1, uL.2.2.1, (0 : Int32), uL.2.2.2.2)) (fun v6 =>
  bd (p_X5_ones (uL.1 7)) (fun v7 =>
  bd (p_X5_hottest (uL.1, uL.2.1, uL.2.2.1, (0 : Int32), uL.2.2.2.2)) (fun v8 =>
  bd (p_X5_kind (uL.1, uL.2.1, uL.2.2.1, (0 : Int32), uL.2.2.2.2)) (fun v9 =>
  bd (p_X5_untilStuck (uL.1, uL.2.1, uL.2.2.1, (0 : Int32), uL.2.2.2.2)) (fun v10 =>
  bd (p_X5_then v10.2 (20 : Int32) (8 : Int32)) (fun v11 =>
  bd (p_X5_then v11.2 (20 : Int32) (7 : Int32)) (fun v12 =>
  bd (p_X5_callBest v12.2 (10 : Int32)) (fun v13 =>
  bd (p_X5_allowBest v13.2 (10 : Int32)) (fun v14 =>
  p_X5_digest_L242 200 v14.2 (upd (upd (upd (upd (upd (upd (upd (upd (upd (upd (upd (upd (upd (upd (upd (upd (upd (upd (upd (upd (upd (upd (fun _ => (0 : Int32)) 0 uL.2.2.2.2.1) 1 (uL.1 0)) 2 (uL.1 1)) 3 (uL.1 2)) 4 v2) 5 (uL.1 3)) 6 (uL.1 4)) 7 uL.2.2.2.2.2.1) 8 (uL.1 5)) 9 v3) 10 (uL.1 8)) 11 v4) 12 v5) 13 v6) 14 v7) 15 v8) 16 v9) 17 v10.1) 18 (v11.1 - (v11.2.1 8))) 19 v12.1) 20 v13.1) 21 v14.1) (2293 : Int64) (22 : Int32) (0 : Int32))))))))))))))
set_option maxHeartbeats 4000000 in
set_option maxRecDepth 100000 in
theorem c_X5_digest (l : Launch) (dC : Nat → ClassId) (dI : Nat → Nat → Nat) (cI cZ : ClassId) (l0 l4 l5 l6 l8 l10 l11 l12 l13 l14 l15 l16 : Nat) (sz : Nat) (uL : tX5) {z : (Int64 × tX5)} (hok : p_X5_digest uL = some z) : Met l yX5_digest (Cond.code yX5_digest cX5_digest 10 (some .long) :: lw_all) { frames := 9, cells := 14, slots := 87, locals := 200 } (prW (dC, dI) vwCl (TYS cI cZ) ((wX5 cI cZ l0 l4 l5 l6 l8 l10 l11 l12 l13 l14 l15 l16 uL)) sz [.ref l0]) (va_Ql (fun (r : Int64) (_ : Unit) => r = z.1) (fun _ t => va_P (dC, dI) vwCl ((wX5 cI cZ l0 l4 l5 l6 l8 l10 l11 l12 l13 l14 l15 l16 z.2)) t.heap) (va_A ((wX5 cI cZ l0 l4 l5 l6 l8 l10 l11 l12 l13 l14 l15 l16 uL)) sz)) 14 87 (va_A ((wX5 cI cZ l0 l4 l5 l6 l8 l10 l11 l12 l13 l14 l15 l16 uL)) sz) := by
  refine oM (by decide) (Nat.le_of_ble_eq_true rfl) ?_
  intro p e s m args below meth c S hr hlk hnm hB ls hl
  have hx := S.1
  have hb := S.2.1
  have hml := S.2.2.1
  have hown : s.vm.findClass RX5 = some m.cls := S.2.2.2.1
  have hts := S.2.2.2.2
  have S : CallFix p m c cX5_digest 10 s args lw_all RX5 := S
  have hl : lv_has ls 10 [(0, .ref l0)] := hl
  obtain ⟨hsz, hP, hK, hD0⟩ := hB
  subst hsz
  have hD := hD0.self (sz := s.heap.size)
  generalize hAe : va_A ((wX5 cI cZ l0 l4 l5 l6 l8 l10 l11 l12 l13 l14 l15 l16 uL)) s.heap.size = A at hD ⊢
  have hA : ∀ q : Nat, s.heap.size ≤ q → A q := fun q h => by rw [← hAe]; exact Or.inr h
  have hS : va_S A s.heap s.heap [] := va_S.rf
  have hP : va_P (dC, dI) vwCl ((wX5 cI cZ l0 l4 l5 l6 l8 l10 l11 l12 l13 l14 l15 l16 uL)) s.heap := hP
  have L600 : ∀ n600 : Nat, ∀ (uL : tX5) (l600_2 : Int64) (l600_4 : Int32) (kc sc : Nat) (hkc : kc ≤ 14) (hsc : sc ≤ 87) (H : Heap) (locs : List Loc) (hP : va_P (dC, dI) vwCl ((wX5 cI cZ l0 l4 l5 l6 l8 l10 l11 l12 l13 l14 l15 l16 uL)) H) (hD : va_D A ((wX5 cI cZ l0 l4 l5 l6 l8 l10 l11 l12 l13 l14 l15 l16 uL))) (hS : va_S A s.heap H locs) (ls : Array Slot) (hl : lv_has ls 10 [(0, .ref l0), (2, .long l600_2), (4, .int l600_4)]) (hok : p_X5_digest_L600 n600 uL l600_2 l600_4 = some z), W p l e { frames := 9, cells := 14, slots := 87, locals := 200 } s m args below meth c H locs kc sc (MQ below (va_Ql (fun (r : Int64) (_ : Unit) => r = z.1) (fun _ t => va_P (dC, dI) vwCl ((wX5 cI cZ l0 l4 l5 l6 l8 l10 l11 l12 l13 l14 l15 l16 z.2)) t.heap) A) args s 14 87 A) (F0 m 600 ls []) := by
    intro n600
    induction n600 with
    | zero =>
      intro uL l600_2 l600_4 kc sc hkc hsc H locs hP hD hS ls hl hok
      rw [p_X5_digest_L600] at hok
      cases hok
    | succ n600 ih600 =>
      intro uL l600_2 l600_4 kc sc hkc hsc H locs hP hD hS ls hl hok
      rw [p_X5_digest_L600] at hok
      refine lv_iload hx hb dX5_digest_600 (lv_at hl 2 rfl) ?_
      refine lv_aload_n hx hb dX5_digest_602 rfl (lv_at hl 0 rfl) ?_
      refine va_get (D := (dC, dI)) (ci := 5) (v := .int uL.2.2.2.2.2.2.2.2.2.2.2.2.1) (C := RX5) (T := TX5) (N := 18) hx hb hts inX5 hown hK hP 0 rfl rfl 9 (by decide) (hts _ qf_X5_60) (fun _ h9 => h9) rfl dX5_digest_603 ?_
      refine lv_icmp_ge (tgt := 643) hx hb dX5_digest_606 (by decide) (fun hc => ?_) (fun hc => ?_)
      · have hok := ip hok hc
        refine lv_lload_n hx hb dX5_digest_643 rfl (lv_at hl 1 rfl) ?_
        have hok := Option.some.inj hok
        subst hok
        exact eWl S hr hlk rfl hP hS (by omega) (by omega) dX5_digest_644
      · have hok := iq hok hc
        refine lv_lload_n hx hb dX5_digest_609 rfl (lv_at hl 1 rfl) ?_
        refine lv_ldc2 (v := (31 : Int64)) hx hb hown (hts _ ql_X5_205) dX5_digest_610 ?_
        refine lv_lmul hx hb dX5_digest_613 ?_
        refine lv_aload_n hx hb dX5_digest_614 rfl (lv_at hl 0 rfl) ?_
        refine lv_iload hx hb dX5_digest_615 (lv_at hl 2 rfl) ?_
        obtain ⟨v28, hc28, hok⟩ := bd_some hok
        refine cRVi (ci := 5) (q0 := 0) [.int l600_4] S hK hP (c_X5_sumBy l dC dI cI cZ l0 l4 l5 l6 l8 l10 l11 l12 l13 l14 l15 l16 uL l600_4 hc28) (lw_V qm_X5_170 qi_X5_sumBy qs_X5_sumBy qn_X5 qc_X5_sumBy) hd_X5_sumBy ⟨rfl, rfl⟩ ⟨Nat.le_of_ble_eq_true rfl, Nat.le_of_ble_eq_true rfl⟩ ⟨by show kc ≤ 14; omega, by show sc ≤ 87; omega⟩ rfl rfl rfl hl.1 (Nat.le_of_ble_eq_true rfl) rfl dX5_digest_617 ?_
        refine lv_i2l (v := v28.toInt64) hx hb dX5_digest_620 rfl ?_
        refine lv_ladd hx hb dX5_digest_621 ?_
        refine lv_lstore_n (lv' := [(2, .long ((l600_2 * (31 : Int64)) + v28.toInt64)), (0, .ref l0), (4, .int l600_4)]) hx hb dX5_digest_622 rfl hl (by decide) rfl (fun ls hl => ?_)
        refine lv_lload_n hx hb dX5_digest_623 rfl (lv_at hl 0 rfl) ?_
        refine lv_ldc2 (v := (31 : Int64)) hx hb hown (hts _ ql_X5_205) dX5_digest_624 ?_
        refine lv_lmul hx hb dX5_digest_627 ?_
        refine lv_aload_n hx hb dX5_digest_628 rfl (lv_at hl 1 rfl) ?_
        refine lv_iload hx hb dX5_digest_629 (lv_at hl 2 rfl) ?_
        obtain ⟨v29, hc29, hok⟩ := bd_some hok
        refine cRVi (ci := 5) (q0 := 0) [.int l600_4] S hK hP (c_X5_liked l dC dI cI cZ l0 l4 l5 l6 l8 l10 l11 l12 l13 l14 l15 l16 uL l600_4 hc29) (lw_V qm_X5_173 qi_X5_liked qs_X5_liked qn_X5 qc_X5_liked) hd_X5_liked ⟨rfl, rfl⟩ ⟨Nat.le_of_ble_eq_true rfl, Nat.le_of_ble_eq_true rfl⟩ ⟨by show kc ≤ 14; omega, by show sc ≤ 87; omega⟩ rfl rfl rfl hl.1 (Nat.le_of_ble_eq_true rfl) rfl dX5_digest_631 ?_
        refine lv_i2l (v := v29.toInt64) hx hb dX5_digest_634 rfl ?_
        refine lv_ladd hx hb dX5_digest_635 ?_
        refine lv_lstore_n (lv' := [(2, .long ((((l600_2 * (31 : Int64)) + v28.toInt64) * (31 : Int64)) + v29.toInt64)), (0, .ref l0), (4, .int l600_4)]) hx hb dX5_digest_636 rfl hl (by decide) rfl (fun ls hl => ?_)
        refine lv_iinc (v := (l600_4 + 1)) (lv' := [(4, .int (l600_4 + 1)), (2, .long ((((l600_2 * (31 : Int64)) + v28.toInt64) * (31 : Int64)) + v29.toInt64)), (0, .ref l0)]) hx hb dX5_digest_637 hl (k := 2) rfl rfl (by decide) rfl (fun ls hl => ?_)
        refine lv_goto (tgt := 600) hx hb dX5_digest_640 (by decide) ?_
        exact ih600 uL ((((l600_2 * (31 : Int64)) + v28.toInt64) * (31 : Int64)) + v29.toInt64) (l600_4 + 1) kc sc (by omega) (by omega) _ _ hP hD hS _ (lv_sub hl [2, 1, 0] rfl) hok
  have L546 : ∀ n546 : Nat, ∀ (uL : tX5) (l546_2 : Int64) (l546_4 : Int32) (kc sc : Nat) (hkc : kc ≤ 14) (hsc : sc ≤ 87) (H : Heap) (locs : List Loc) (hP : va_P (dC, dI) vwCl ((wX5 cI cZ l0 l4 l5 l6 l8 l10 l11 l12 l13 l14 l15 l16 uL)) H) (hD : va_D A ((wX5 cI cZ l0 l4 l5 l6 l8 l10 l11 l12 l13 l14 l15 l16 uL))) (hS : va_S A s.heap H locs) (ls : Array Slot) (hl : lv_has ls 10 [(0, .ref l0), (2, .long l546_2), (4, .int l546_4)]) (hok : p_X5_digest_L546 n546 uL l546_2 l546_4 = some z), W p l e { frames := 9, cells := 14, slots := 87, locals := 200 } s m args below meth c H locs kc sc (MQ below (va_Ql (fun (r : Int64) (_ : Unit) => r = z.1) (fun _ t => va_P (dC, dI) vwCl ((wX5 cI cZ l0 l4 l5 l6 l8 l10 l11 l12 l13 l14 l15 l16 z.2)) t.heap) A) args s 14 87 A) (F0 m 546 ls []) := by
    intro n546
    induction n546 with
    | zero =>
      intro uL l546_2 l546_4 kc sc hkc hsc H locs hP hD hS ls hl hok
      rw [p_X5_digest_L546] at hok
      cases hok
    | succ n546 ih546 =>
      have J588 : ∀ (uL : tX5) (l588_4 : Int32) (s588_0 : Int32) (s588_1 : Int64) (kc sc : Nat) (hkc : kc ≤ 14) (hsc : sc ≤ 87) (H : Heap) (locs : List Loc) (hP : va_P (dC, dI) vwCl ((wX5 cI cZ l0 l4 l5 l6 l8 l10 l11 l12 l13 l14 l15 l16 uL)) H) (hD : va_D A ((wX5 cI cZ l0 l4 l5 l6 l8 l10 l11 l12 l13 l14 l15 l16 uL))) (hS : va_S A s.heap H locs) (ls : Array Slot) (hl : lv_has ls 10 [(0, .ref l0), (4, .int l588_4)]) (hok : p_X5_digest_J588 (p_X5_digest_L546 n546) uL l588_4 s588_0 s588_1 = some z), W p l e { frames := 9, cells := 14, slots := 87, locals := 200 } s m args below meth c H locs kc sc (MQ below (va_Ql (fun (r : Int64) (_ : Unit) => r = z.1) (fun _ t => va_P (dC, dI) vwCl ((wX5 cI cZ l0 l4 l5 l6 l8 l10 l11 l12 l13 l14 l15 l16 z.2)) t.heap) A) args s 14 87 A) (F0 m 588 ls [.int s588_0, .long s588_1]) := by
        intro uL l588_4 s588_0 s588_1 kc sc hkc hsc H locs hP hD hS ls hl hok
        unfold p_X5_digest_J588 at hok
        refine lv_i2l (v := s588_0.toInt64) hx hb dX5_digest_588 rfl ?_
        refine lv_ladd hx hb dX5_digest_589 ?_
        refine lv_lstore_n (lv' := [(2, .long (s588_1 + s588_0.toInt64)), (0, .ref l0), (4, .int l588_4)]) hx hb dX5_digest_590 rfl hl (by decide) rfl (fun ls hl => ?_)
        refine lv_iinc (v := (l588_4 + 1)) (lv' := [(4, .int (l588_4 + 1)), (2, .long (s588_1 + s588_0.toInt64)), (0, .ref l0)]) hx hb dX5_digest_591 hl (k := 2) rfl rfl (by decide) rfl (fun ls hl => ?_)
        refine lv_goto (tgt := 546) hx hb dX5_digest_594 (by decide) ?_
        exact ih546 uL (s588_1 + s588_0.toInt64) (l588_4 + 1) kc sc (by omega) (by omega) _ _ hP hD hS _ (lv_sub hl [2, 1, 0] rfl) hok
      intro uL l546_2 l546_4 kc sc hkc hsc H locs hP hD hS ls hl hok
      rw [p_X5_digest_L546] at hok
      refine lv_iload hx hb dX5_digest_546 (lv_at hl 2 rfl) ?_
      refine lv_aload_n hx hb dX5_digest_548 rfl (lv_at hl 0 rfl) ?_
      refine va_get (D := (dC, dI)) (ci := 5) (v := .int uL.2.2.2.2.2.2.2.2.2.2.1) (C := RX5) (T := TX5) (N := 18) hx hb hts inX5 hown hK hP 0 rfl rfl 7 (by decide) (hts _ qf_X5_57) (fun _ h9 => h9) rfl dX5_digest_549 ?_
      refine lv_icmp_ge (tgt := 597) hx hb dX5_digest_552 (by decide) (fun hc => ?_) (fun hc => ?_)
      · have hok := ip hok hc
        refine lv_iconst (v := (0 : Int32)) hx hb dX5_digest_597 (by decide) ?_
        refine lv_istore (lv' := [(4, .int (0 : Int32)), (0, .ref l0), (2, .long l546_2)]) hx hb dX5_digest_598 hl (by decide) rfl (fun ls hl => ?_)
        exact L600 200 uL l546_2 (0 : Int32) kc sc (by omega) (by omega) _ _ hP hD hS _ (lv_sub hl [1, 2, 0] rfl) hok
      · have hok := iq hok hc
        refine lv_lload_n hx hb dX5_digest_555 rfl (lv_at hl 1 rfl) ?_
        refine lv_ldc2 (v := (31 : Int64)) hx hb hown (hts _ ql_X5_205) dX5_digest_556 ?_
        refine lv_lmul hx hb dX5_digest_559 ?_
        refine lv_aload_n hx hb dX5_digest_560 rfl (lv_at hl 0 rfl) ?_
        refine lv_iload hx hb dX5_digest_561 (lv_at hl 2 rfl) ?_
        obtain ⟨v26, hc26, hok⟩ := bd_some hok
        refine cRVi (ci := 5) (q0 := 0) [.int l546_4] S hK hP (c_X5_warm l dC dI cI cZ l0 l4 l5 l6 l8 l10 l11 l12 l13 l14 l15 l16 uL l546_4 hc26) (lw_V qm_X5_158 qi_X5_warm qs_X5_warm qn_X5 qc_X5_warm) hd_X5_warm ⟨rfl, rfl⟩ ⟨Nat.le_of_ble_eq_true rfl, Nat.le_of_ble_eq_true rfl⟩ ⟨by show kc ≤ 14; omega, by show sc ≤ 87; omega⟩ rfl rfl rfl hl.1 (Nat.le_of_ble_eq_true rfl) rfl dX5_digest_563 ?_
        refine lv_i2l (v := v26.toInt64) hx hb dX5_digest_566 rfl ?_
        refine lv_ladd hx hb dX5_digest_567 ?_
        refine lv_lstore_n (lv' := [(2, .long ((l546_2 * (31 : Int64)) + v26.toInt64)), (0, .ref l0), (4, .int l546_4)]) hx hb dX5_digest_568 rfl hl (by decide) rfl (fun ls hl => ?_)
        refine lv_lload_n hx hb dX5_digest_569 rfl (lv_at hl 0 rfl) ?_
        refine lv_ldc2 (v := (31 : Int64)) hx hb hown (hts _ ql_X5_205) dX5_digest_570 ?_
        refine lv_lmul hx hb dX5_digest_573 ?_
        refine lv_aload_n hx hb dX5_digest_574 rfl (lv_at hl 1 rfl) ?_
        refine lv_iload hx hb dX5_digest_575 (lv_at hl 2 rfl) ?_
        obtain ⟨v27, hc27, hok⟩ := bd_some hok
        refine cRVi (ci := 5) (q0 := 0) [.int l546_4] S hK hP (c_X5_reads l dC dI cI cZ l0 l4 l5 l6 l8 l10 l11 l12 l13 l14 l15 l16 uL l546_4 hc27) (lw_V qm_X5_73 qi_X5_reads qs_X5_reads qn_X5 qc_X5_reads) hd_X5_reads ⟨rfl, rfl⟩ ⟨Nat.le_of_ble_eq_true rfl, Nat.le_of_ble_eq_true rfl⟩ ⟨by show kc ≤ 14; omega, by show sc ≤ 87; omega⟩ rfl rfl rfl hl.1 (Nat.le_of_ble_eq_true rfl) rfl dX5_digest_577 ?_
        refine lv_if_eq (tgt := 587) hx hb dX5_digest_580 (by decide) (fun hc => ?_) (fun hc => ?_)
        · have hok := ip hok hc
          refine lv_iconst (v := (0 : Int32)) hx hb dX5_digest_587 (by decide) ?_
          exact J588 uL l546_4 (0 : Int32) (((l546_2 * (31 : Int64)) + v26.toInt64) * (31 : Int64)) kc sc (by omega) (by omega) _ _ hP hD hS _ (lv_sub hl [1, 2] rfl) hok
        · have hok := iq hok hc
          refine lv_iconst (v := (1 : Int32)) hx hb dX5_digest_583 (by decide) ?_
          refine lv_goto (tgt := 588) hx hb dX5_digest_584 (by decide) ?_
          exact J588 uL l546_4 (1 : Int32) (((l546_2 * (31 : Int64)) + v26.toInt64) * (31 : Int64)) kc sc (by omega) (by omega) _ _ hP hD hS _ (lv_sub hl [1, 2] rfl) hok
  have L459 : ∀ n459 : Nat, ∀ (uL : tX5) (l459_2 : Int64) (l459_4 : Int32) (kc sc : Nat) (hkc : kc ≤ 14) (hsc : sc ≤ 87) (H : Heap) (locs : List Loc) (hP : va_P (dC, dI) vwCl ((wX5 cI cZ l0 l4 l5 l6 l8 l10 l11 l12 l13 l14 l15 l16 uL)) H) (hD : va_D A ((wX5 cI cZ l0 l4 l5 l6 l8 l10 l11 l12 l13 l14 l15 l16 uL))) (hS : va_S A s.heap H locs) (ls : Array Slot) (hl : lv_has ls 10 [(0, .ref l0), (2, .long l459_2), (4, .int l459_4)]) (hok : p_X5_digest_L459 n459 uL l459_2 l459_4 = some z), W p l e { frames := 9, cells := 14, slots := 87, locals := 200 } s m args below meth c H locs kc sc (MQ below (va_Ql (fun (r : Int64) (_ : Unit) => r = z.1) (fun _ t => va_P (dC, dI) vwCl ((wX5 cI cZ l0 l4 l5 l6 l8 l10 l11 l12 l13 l14 l15 l16 z.2)) t.heap) A) args s 14 87 A) (F0 m 459 ls []) := by
    intro n459
    induction n459 with
    | zero =>
      intro uL l459_2 l459_4 kc sc hkc hsc H locs hP hD hS ls hl hok
      rw [p_X5_digest_L459] at hok
      cases hok
    | succ n459 ih459 =>
      intro uL l459_2 l459_4 kc sc hkc hsc H locs hP hD hS ls hl hok
      rw [p_X5_digest_L459] at hok
      refine lv_iload hx hb dX5_digest_459 (lv_at hl 2 rfl) ?_
      refine lv_aload_n hx hb dX5_digest_461 rfl (lv_at hl 0 rfl) ?_
      refine va_get (D := (dC, dI)) (ci := 5) (v := .ref l15) (C := RX5) (T := TX5) (N := 18) hx hb hts inX5 hown hK hP 0 rfl rfl 15 (by decide) (hts _ qf_X5_44) (fun _ h9 => h9) rfl dX5_digest_462 ?_
      refine lv_bipush (v := (8 : Int32)) hx hb dX5_digest_465 (by decide) ?_
      refine va_ialdK hx hb hK hP 10 0 rfl rfl (j := 8) (by decide) (vp_inK (by decide)) dX5_digest_467 ?_
      refine lv_icmp_ge (tgt := 543) hx hb dX5_digest_468 (by decide) (fun hc => ?_) (fun hc => ?_)
      · have hok := ip hok hc
        refine lv_iconst (v := (0 : Int32)) hx hb dX5_digest_543 (by decide) ?_
        refine lv_istore (lv' := [(4, .int (0 : Int32)), (0, .ref l0), (2, .long l459_2)]) hx hb dX5_digest_544 hl (by decide) rfl (fun ls hl => ?_)
        exact L546 200 uL l459_2 (0 : Int32) kc sc (by omega) (by omega) _ _ hP hD hS _ (lv_sub hl [1, 2, 0] rfl) hok
      · have hok := iq hok hc
        refine lv_lload_n hx hb dX5_digest_471 rfl (lv_at hl 1 rfl) ?_
        refine lv_ldc2 (v := (31 : Int64)) hx hb hown (hts _ ql_X5_205) dX5_digest_472 ?_
        refine lv_lmul hx hb dX5_digest_475 ?_
        refine lv_aload_n hx hb dX5_digest_476 rfl (lv_at hl 0 rfl) ?_
        refine va_get (D := (dC, dI)) (ci := 5) (v := .ref l12) (C := RX5) (T := TX5) (N := 18) hx hb hts inX5 hown hK hP 0 rfl rfl 12 (by decide) (hts _ qf_X5_35) (fun _ h9 => h9) rfl dX5_digest_477 ?_
        refine lv_iload hx hb dX5_digest_480 (lv_at hl 2 rfl) ?_
        obtain ⟨hi23, hok⟩ := gd_some hok
        refine va_iald hx hb hK hP 7 0 rfl rfl hi23 dX5_digest_482 ?_
        refine lv_bipush (v := (9 : Int32)) hx hb dX5_digest_483 (by decide) ?_
        refine lv_idiv hx hb dX5_digest_485 (by decide) ?_
        refine lv_i2l (v := ((uL.2.2.2.2.2.2.2.2.2.2.2.2.2.2.2.1 l459_4.toNatClampNeg) / (9 : Int32)).toInt64) hx hb dX5_digest_486 rfl ?_
        refine lv_ladd hx hb dX5_digest_487 ?_
        refine lv_lstore_n (lv' := [(2, .long ((l459_2 * (31 : Int64)) + ((uL.2.2.2.2.2.2.2.2.2.2.2.2.2.2.2.1 l459_4.toNatClampNeg) / (9 : Int32)).toInt64)), (0, .ref l0), (4, .int l459_4)]) hx hb dX5_digest_488 rfl hl (by decide) rfl (fun ls hl => ?_)
        refine lv_lload_n hx hb dX5_digest_489 rfl (lv_at hl 0 rfl) ?_
        refine lv_ldc2 (v := (31 : Int64)) hx hb hown (hts _ ql_X5_205) dX5_digest_490 ?_
        refine lv_lmul hx hb dX5_digest_493 ?_
        refine lv_aload_n hx hb dX5_digest_494 rfl (lv_at hl 1 rfl) ?_
        refine va_get (D := (dC, dI)) (ci := 5) (v := .ref l12) (C := RX5) (T := TX5) (N := 18) hx hb hts inX5 hown hK hP 0 rfl rfl 12 (by decide) (hts _ qf_X5_35) (fun _ h9 => h9) rfl dX5_digest_495 ?_
        refine lv_iload hx hb dX5_digest_498 (lv_at hl 2 rfl) ?_
        refine va_iald hx hb hK hP 7 0 rfl rfl hi23 dX5_digest_500 ?_
        refine lv_bipush (v := (9 : Int32)) hx hb dX5_digest_501 (by decide) ?_
        refine lv_irem hx hb dX5_digest_503 (by decide) ?_
        refine lv_i2l (v := ((uL.2.2.2.2.2.2.2.2.2.2.2.2.2.2.2.1 l459_4.toNatClampNeg) - (uL.2.2.2.2.2.2.2.2.2.2.2.2.2.2.2.1 l459_4.toNatClampNeg) / (9 : Int32) * (9 : Int32)).toInt64) hx hb dX5_digest_504 rfl ?_
        refine lv_ladd hx hb dX5_digest_505 ?_
        refine lv_lstore_n (lv' := [(2, .long ((((l459_2 * (31 : Int64)) + ((uL.2.2.2.2.2.2.2.2.2.2.2.2.2.2.2.1 l459_4.toNatClampNeg) / (9 : Int32)).toInt64) * (31 : Int64)) + ((uL.2.2.2.2.2.2.2.2.2.2.2.2.2.2.2.1 l459_4.toNatClampNeg) - (uL.2.2.2.2.2.2.2.2.2.2.2.2.2.2.2.1 l459_4.toNatClampNeg) / (9 : Int32) * (9 : Int32)).toInt64)), (0, .ref l0), (4, .int l459_4)]) hx hb dX5_digest_506 rfl hl (by decide) rfl (fun ls hl => ?_)
        refine lv_lload_n hx hb dX5_digest_507 rfl (lv_at hl 0 rfl) ?_
        refine lv_ldc2 (v := (31 : Int64)) hx hb hown (hts _ ql_X5_205) dX5_digest_508 ?_
        refine lv_lmul hx hb dX5_digest_511 ?_
        refine lv_aload_n hx hb dX5_digest_512 rfl (lv_at hl 1 rfl) ?_
        refine va_get (D := (dC, dI)) (ci := 5) (v := .ref l13) (C := RX5) (T := TX5) (N := 18) hx hb hts inX5 hown hK hP 0 rfl rfl 13 (by decide) (hts _ qf_X5_38) (fun _ h9 => h9) rfl dX5_digest_513 ?_
        refine lv_iload hx hb dX5_digest_516 (lv_at hl 2 rfl) ?_
        refine va_iald hx hb hK hP 8 0 rfl rfl hi23 dX5_digest_518 ?_
        refine lv_i2l (v := (uL.2.2.2.2.2.2.2.2.2.2.2.2.2.2.2.2.1 l459_4.toNatClampNeg).toInt64) hx hb dX5_digest_519 rfl ?_
        refine lv_ladd hx hb dX5_digest_520 ?_
        refine lv_lstore_n (lv' := [(2, .long ((((((l459_2 * (31 : Int64)) + ((uL.2.2.2.2.2.2.2.2.2.2.2.2.2.2.2.1 l459_4.toNatClampNeg) / (9 : Int32)).toInt64) * (31 : Int64)) + ((uL.2.2.2.2.2.2.2.2.2.2.2.2.2.2.2.1 l459_4.toNatClampNeg) - (uL.2.2.2.2.2.2.2.2.2.2.2.2.2.2.2.1 l459_4.toNatClampNeg) / (9 : Int32) * (9 : Int32)).toInt64) * (31 : Int64)) + (uL.2.2.2.2.2.2.2.2.2.2.2.2.2.2.2.2.1 l459_4.toNatClampNeg).toInt64)), (0, .ref l0), (4, .int l459_4)]) hx hb dX5_digest_521 rfl hl (by decide) rfl (fun ls hl => ?_)
        refine lv_lload_n hx hb dX5_digest_522 rfl (lv_at hl 0 rfl) ?_
        refine lv_ldc2 (v := (31 : Int64)) hx hb hown (hts _ ql_X5_205) dX5_digest_523 ?_
        refine lv_lmul hx hb dX5_digest_526 ?_
        refine lv_aload_n hx hb dX5_digest_527 rfl (lv_at hl 1 rfl) ?_
        refine va_get (D := (dC, dI)) (ci := 5) (v := .ref l14) (C := RX5) (T := TX5) (N := 18) hx hb hts inX5 hown hK hP 0 rfl rfl 14 (by decide) (hts _ qf_X5_41) (fun _ h9 => h9) rfl dX5_digest_528 ?_
        refine lv_iload hx hb dX5_digest_531 (lv_at hl 2 rfl) ?_
        refine va_iald hx hb hK hP 9 0 rfl rfl hi23 dX5_digest_533 ?_
        refine lv_i2l (v := (uL.2.2.2.2.2.2.2.2.2.2.2.2.2.2.2.2.2 l459_4.toNatClampNeg).toInt64) hx hb dX5_digest_534 rfl ?_
        refine lv_ladd hx hb dX5_digest_535 ?_
        refine lv_lstore_n (lv' := [(2, .long ((((((((l459_2 * (31 : Int64)) + ((uL.2.2.2.2.2.2.2.2.2.2.2.2.2.2.2.1 l459_4.toNatClampNeg) / (9 : Int32)).toInt64) * (31 : Int64)) + ((uL.2.2.2.2.2.2.2.2.2.2.2.2.2.2.2.1 l459_4.toNatClampNeg) - (uL.2.2.2.2.2.2.2.2.2.2.2.2.2.2.2.1 l459_4.toNatClampNeg) / (9 : Int32) * (9 : Int32)).toInt64) * (31 : Int64)) + (uL.2.2.2.2.2.2.2.2.2.2.2.2.2.2.2.2.1 l459_4.toNatClampNeg).toInt64) * (31 : Int64)) + (uL.2.2.2.2.2.2.2.2.2.2.2.2.2.2.2.2.2 l459_4.toNatClampNeg).toInt64)), (0, .ref l0), (4, .int l459_4)]) hx hb dX5_digest_536 rfl hl (by decide) rfl (fun ls hl => ?_)
        refine lv_iinc (v := (l459_4 + 1)) (lv' := [(4, .int (l459_4 + 1)), (2, .long ((((((((l459_2 * (31 : Int64)) + ((uL.2.2.2.2.2.2.2.2.2.2.2.2.2.2.2.1 l459_4.toNatClampNeg) / (9 : Int32)).toInt64) * (31 : Int64)) + ((uL.2.2.2.2.2.2.2.2.2.2.2.2.2.2.2.1 l459_4.toNatClampNeg) - (uL.2.2.2.2.2.2.2.2.2.2.2.2.2.2.2.1 l459_4.toNatClampNeg) / (9 : Int32) * (9 : Int32)).toInt64) * (31 : Int64)) + (uL.2.2.2.2.2.2.2.2.2.2.2.2.2.2.2.2.1 l459_4.toNatClampNeg).toInt64) * (31 : Int64)) + (uL.2.2.2.2.2.2.2.2.2.2.2.2.2.2.2.2.2 l459_4.toNatClampNeg).toInt64)), (0, .ref l0)]) hx hb dX5_digest_537 hl (k := 2) rfl rfl (by decide) rfl (fun ls hl => ?_)
        refine lv_goto (tgt := 459) hx hb dX5_digest_540 (by decide) ?_
        exact ih459 uL ((((((((l459_2 * (31 : Int64)) + ((uL.2.2.2.2.2.2.2.2.2.2.2.2.2.2.2.1 l459_4.toNatClampNeg) / (9 : Int32)).toInt64) * (31 : Int64)) + ((uL.2.2.2.2.2.2.2.2.2.2.2.2.2.2.2.1 l459_4.toNatClampNeg) - (uL.2.2.2.2.2.2.2.2.2.2.2.2.2.2.2.1 l459_4.toNatClampNeg) / (9 : Int32) * (9 : Int32)).toInt64) * (31 : Int64)) + (uL.2.2.2.2.2.2.2.2.2.2.2.2.2.2.2.2.1 l459_4.toNatClampNeg).toInt64) * (31 : Int64)) + (uL.2.2.2.2.2.2.2.2.2.2.2.2.2.2.2.2.2 l459_4.toNatClampNeg).toInt64) (l459_4 + 1) kc sc (by omega) (by omega) _ _ hP hD hS _ (lv_sub hl [2, 1, 0] rfl) hok
  have L404 : ∀ n404 : Nat, ∀ (uL : tX5) (l404_2 : Int64) (l404_4 : Int32) (kc sc : Nat) (hkc : kc ≤ 14) (hsc : sc ≤ 87) (H : Heap) (locs : List Loc) (hP : va_P (dC, dI) vwCl ((wX5 cI cZ l0 l4 l5 l6 l8 l10 l11 l12 l13 l14 l15 l16 uL)) H) (hD : va_D A ((wX5 cI cZ l0 l4 l5 l6 l8 l10 l11 l12 l13 l14 l15 l16 uL))) (hS : va_S A s.heap H locs) (ls : Array Slot) (hl : lv_has ls 10 [(0, .ref l0), (2, .long l404_2), (4, .int l404_4)]) (hok : p_X5_digest_L404 n404 uL l404_2 l404_4 = some z), W p l e { frames := 9, cells := 14, slots := 87, locals := 200 } s m args below meth c H locs kc sc (MQ below (va_Ql (fun (r : Int64) (_ : Unit) => r = z.1) (fun _ t => va_P (dC, dI) vwCl ((wX5 cI cZ l0 l4 l5 l6 l8 l10 l11 l12 l13 l14 l15 l16 z.2)) t.heap) A) args s 14 87 A) (F0 m 404 ls []) := by
    intro n404
    induction n404 with
    | zero =>
      intro uL l404_2 l404_4 kc sc hkc hsc H locs hP hD hS ls hl hok
      rw [p_X5_digest_L404] at hok
      cases hok
    | succ n404 ih404 =>
      have J433 : ∀ (uL : tX5) (l433_4 : Int32) (s433_0 : Int32) (s433_1 : Int64) (kc sc : Nat) (hkc : kc ≤ 14) (hsc : sc ≤ 87) (H : Heap) (locs : List Loc) (hP : va_P (dC, dI) vwCl ((wX5 cI cZ l0 l4 l5 l6 l8 l10 l11 l12 l13 l14 l15 l16 uL)) H) (hD : va_D A ((wX5 cI cZ l0 l4 l5 l6 l8 l10 l11 l12 l13 l14 l15 l16 uL))) (hS : va_S A s.heap H locs) (ls : Array Slot) (hl : lv_has ls 10 [(0, .ref l0), (4, .int l433_4)]) (hok : p_X5_digest_J433 (p_X5_digest_L404 n404) uL l433_4 s433_0 s433_1 = some z), W p l e { frames := 9, cells := 14, slots := 87, locals := 200 } s m args below meth c H locs kc sc (MQ below (va_Ql (fun (r : Int64) (_ : Unit) => r = z.1) (fun _ t => va_P (dC, dI) vwCl ((wX5 cI cZ l0 l4 l5 l6 l8 l10 l11 l12 l13 l14 l15 l16 z.2)) t.heap) A) args s 14 87 A) (F0 m 433 ls [.int s433_0, .long s433_1]) := by
        intro uL l433_4 s433_0 s433_1 kc sc hkc hsc H locs hP hD hS ls hl hok
        unfold p_X5_digest_J433 at hok
        refine lv_i2l (v := s433_0.toInt64) hx hb dX5_digest_433 rfl ?_
        refine lv_ladd hx hb dX5_digest_434 ?_
        refine lv_lstore_n (lv' := [(2, .long (s433_1 + s433_0.toInt64)), (0, .ref l0), (4, .int l433_4)]) hx hb dX5_digest_435 rfl hl (by decide) rfl (fun ls hl => ?_)
        refine lv_lload_n hx hb dX5_digest_436 rfl (lv_at hl 0 rfl) ?_
        refine lv_ldc2 (v := (31 : Int64)) hx hb hown (hts _ ql_X5_205) dX5_digest_437 ?_
        refine lv_lmul hx hb dX5_digest_440 ?_
        refine lv_aload_n hx hb dX5_digest_441 rfl (lv_at hl 1 rfl) ?_
        refine lv_iload hx hb dX5_digest_442 (lv_at hl 2 rfl) ?_
        obtain ⟨v24, hc24, hok⟩ := bd_some hok
        refine cRVi (ci := 5) (q0 := 0) [.int l433_4] S hK hP (c_X5_comes l dC dI cI cZ l0 l4 l5 l6 l8 l10 l11 l12 l13 l14 l15 l16 uL l433_4 hc24) (lw_V qm_X5_137 qi_X5_comes qs_X5_comes qn_X5 qc_X5_comes) hd_X5_comes ⟨rfl, rfl⟩ ⟨Nat.le_of_ble_eq_true rfl, Nat.le_of_ble_eq_true rfl⟩ ⟨by show kc ≤ 14; omega, by show sc ≤ 87; omega⟩ rfl rfl rfl hl.1 (Nat.le_of_ble_eq_true rfl) rfl dX5_digest_444 ?_
        refine lv_i2l (v := v24.toInt64) hx hb dX5_digest_447 rfl ?_
        refine lv_ladd hx hb dX5_digest_448 ?_
        refine lv_lstore_n (lv' := [(2, .long (((s433_1 + s433_0.toInt64) * (31 : Int64)) + v24.toInt64)), (0, .ref l0), (4, .int l433_4)]) hx hb dX5_digest_449 rfl hl (by decide) rfl (fun ls hl => ?_)
        refine lv_iinc (v := (l433_4 + 1)) (lv' := [(4, .int (l433_4 + 1)), (2, .long (((s433_1 + s433_0.toInt64) * (31 : Int64)) + v24.toInt64)), (0, .ref l0)]) hx hb dX5_digest_450 hl (k := 2) rfl rfl (by decide) rfl (fun ls hl => ?_)
        refine lv_goto (tgt := 404) hx hb dX5_digest_453 (by decide) ?_
        exact ih404 uL (((s433_1 + s433_0.toInt64) * (31 : Int64)) + v24.toInt64) (l433_4 + 1) kc sc (by omega) (by omega) _ _ hP hD hS _ (lv_sub hl [2, 1, 0] rfl) hok
      intro uL l404_2 l404_4 kc sc hkc hsc H locs hP hD hS ls hl hok
      rw [p_X5_digest_L404] at hok
      refine lv_iload hx hb dX5_digest_404 (lv_at hl 2 rfl) ?_
      refine lv_bipush (v := (8 : Int32)) hx hb dX5_digest_406 (by decide) ?_
      refine lv_icmp_ge (tgt := 456) hx hb dX5_digest_408 (by decide) (fun hc => ?_) (fun hc => ?_)
      · have hok := ip hok hc
        refine lv_iconst (v := (0 : Int32)) hx hb dX5_digest_456 (by decide) ?_
        refine lv_istore (lv' := [(4, .int (0 : Int32)), (0, .ref l0), (2, .long l404_2)]) hx hb dX5_digest_457 hl (by decide) rfl (fun ls hl => ?_)
        exact L459 200 uL l404_2 (0 : Int32) kc sc (by omega) (by omega) _ _ hP hD hS _ (lv_sub hl [1, 2, 0] rfl) hok
      · have hok := iq hok hc
        refine lv_lload_n hx hb dX5_digest_411 rfl (lv_at hl 1 rfl) ?_
        refine lv_ldc2 (v := (31 : Int64)) hx hb hown (hts _ ql_X5_205) dX5_digest_412 ?_
        refine lv_lmul hx hb dX5_digest_415 ?_
        refine lv_aload_n hx hb dX5_digest_416 rfl (lv_at hl 0 rfl) ?_
        refine va_get (D := (dC, dI)) (ci := 5) (v := .int uL.2.2.2.2.2.2.1) (C := RX5) (T := TX5) (N := 18) hx hb hts inX5 hown hK hP 0 rfl rfl 3 (by decide) (hts _ qf_X5_86) (fun _ h9 => h9) rfl dX5_digest_417 ?_
        refine lv_iload hx hb dX5_digest_420 (lv_at hl 2 rfl) ?_
        obtain ⟨v18, hc18, hok⟩ := bd_some hok
        refine cRSi [.int uL.2.2.2.2.2.2.1, .int l404_4] S hK va_Pnil (c_X5_has l dC dI cI cZ uL.2.2.2.2.2.2.1 l404_4 hc18) (lw_S qm_X5_69 qt_X5_has qn_X5 qc_X5_has) hd_X5_has ⟨rfl, rfl⟩ ⟨Nat.le_of_ble_eq_true rfl, Nat.le_of_ble_eq_true rfl⟩ ⟨by show kc ≤ 14; omega, by show sc ≤ 87; omega⟩ rfl hl.1 (Nat.le_of_ble_eq_true rfl) rfl dX5_digest_422 ?_
        refine lv_if_eq (tgt := 432) hx hb dX5_digest_425 (by decide) (fun hc => ?_) (fun hc => ?_)
        · have hok := ip hok hc
          refine lv_iconst (v := (0 : Int32)) hx hb dX5_digest_432 (by decide) ?_
          exact J433 uL l404_4 (0 : Int32) (l404_2 * (31 : Int64)) kc sc (by omega) (by omega) _ _ hP hD hS _ (lv_sub hl [0, 2] rfl) hok
        · have hok := iq hok hc
          refine lv_iconst (v := (1 : Int32)) hx hb dX5_digest_428 (by decide) ?_
          refine lv_goto (tgt := 433) hx hb dX5_digest_429 (by decide) ?_
          exact J433 uL l404_4 (1 : Int32) (l404_2 * (31 : Int64)) kc sc (by omega) (by omega) _ _ hP hD hS _ (lv_sub hl [0, 2] rfl) hok
  have L275 : ∀ n275 : Nat, ∀ (uL : tX5) (l275_2 : Int64) (l275_4 : Int32) (kc sc : Nat) (hkc : kc + 1 * n275 ≤ 14) (hsc : sc + 5 * n275 ≤ 87) (H : Heap) (locs : List Loc) (hP : va_P (dC, dI) vwCl ((wX5 cI cZ l0 l4 l5 l6 l8 l10 l11 l12 l13 l14 l15 l16 uL)) H) (hD : va_D A ((wX5 cI cZ l0 l4 l5 l6 l8 l10 l11 l12 l13 l14 l15 l16 uL))) (hS : va_S A s.heap H locs) (ls : Array Slot) (hl : lv_has ls 10 [(0, .ref l0), (2, .long l275_2), (4, .int l275_4)]) (hok : p_X5_digest_L275 n275 uL l275_2 l275_4 = some z), W p l e { frames := 9, cells := 14, slots := 87, locals := 200 } s m args below meth c H locs kc sc (MQ below (va_Ql (fun (r : Int64) (_ : Unit) => r = z.1) (fun _ t => va_P (dC, dI) vwCl ((wX5 cI cZ l0 l4 l5 l6 l8 l10 l11 l12 l13 l14 l15 l16 z.2)) t.heap) A) args s 14 87 A) (F0 m 275 ls []) := by
    intro n275
    induction n275 with
    | zero =>
      intro uL l275_2 l275_4 kc sc hkc hsc H locs hP hD hS ls hl hok
      rw [p_X5_digest_L275] at hok
      cases hok
    | succ n275 ih275 =>
      have L365 : ∀ n365 : Nat, ∀ (uL : tX5) (q365_0 : Nat) (f365_0 : (Nat → Int32)) (l365_2 : Int64) (l365_4 : Int32) (l365_7 : Int32) (l365_8 : Int32) (kc sc : Nat) (hkc : kc + 1 * n275 ≤ 14) (hsc : sc + 5 * n275 ≤ 87) (H : Heap) (locs : List Loc) (hP : va_P (dC, dI) vwCl ((wX5 cI cZ l0 l4 l5 l6 l8 l10 l11 l12 l13 l14 l15 l16 uL) ++ [(q365_0, .inl (cI, 5, .inl f365_0))]) H) (hD : va_D A ((wX5 cI cZ l0 l4 l5 l6 l8 l10 l11 l12 l13 l14 l15 l16 uL) ++ [(q365_0, .inl (cI, 5, .inl f365_0))])) (hS : va_S A s.heap H locs) (ls : Array Slot) (hl : lv_has ls 10 [(0, .ref l0), (2, .long l365_2), (4, .int l365_4), (6, .ref q365_0), (7, .int l365_7), (8, .int l365_8)]) (hok : p_X5_digest_L365 (p_X5_digest_L275 n275) n365 uL f365_0 l365_2 l365_4 l365_7 l365_8 = some z), W p l e { frames := 9, cells := 14, slots := 87, locals := 200 } s m args below meth c H locs kc sc (MQ below (va_Ql (fun (r : Int64) (_ : Unit) => r = z.1) (fun _ t => va_P (dC, dI) vwCl ((wX5 cI cZ l0 l4 l5 l6 l8 l10 l11 l12 l13 l14 l15 l16 z.2)) t.heap) A) args s 14 87 A) (F0 m 365 ls []) := by
        intro n365
        induction n365 with
        | zero =>
          intro uL q365_0 f365_0 l365_2 l365_4 l365_7 l365_8 kc sc hkc hsc H locs hP hD hS ls hl hok
          rw [p_X5_digest_L365] at hok
          cases hok
        | succ n365 ih365 =>
          intro uL q365_0 f365_0 l365_2 l365_4 l365_7 l365_8 kc sc hkc hsc H locs hP hD hS ls hl hok
          rw [p_X5_digest_L365] at hok
          refine lv_iload hx hb dX5_digest_365 (lv_at hl 5 rfl) ?_
          refine lv_iload hx hb dX5_digest_367 (lv_at hl 4 rfl) ?_
          refine lv_icmp_ge (tgt := 395) hx hb dX5_digest_369 (by decide) (fun hc => ?_) (fun hc => ?_)
          · have hok := ip hok hc
            refine lv_iinc (v := (l365_4 + 1)) (lv' := [(4, .int (l365_4 + 1)), (0, .ref l0), (2, .long l365_2), (6, .ref q365_0), (7, .int l365_7), (8, .int l365_8)]) hx hb dX5_digest_395 hl (k := 2) rfl rfl (by decide) rfl (fun ls hl => ?_)
            refine lv_goto (tgt := 275) hx hb dX5_digest_398 (by decide) ?_
            have hP := (va_Pcut (isC := [0, 1, 2, 3, 4, 5, 6, 7, 8, 9, 10, 11]) (wc := ((wX5 cI cZ l0 l4 l5 l6 l8 l10 l11 l12 l13 l14 l15 l16 uL))) hP rfl)
            have hD := (hD.sub (ws' := ((wX5 cI cZ l0 l4 l5 l6 l8 l10 l11 l12 l13 l14 l15 l16 uL))) [0, 1, 2, 3, 4, 5, 6, 7, 8, 9, 10, 11] (by decide) rfl)
            exact ih275 uL l365_2 (l365_4 + 1) kc sc (by omega) (by omega) _ _ hP hD hS _ (lv_sub hl [1, 2, 0] rfl) hok
          · have hok := iq hok hc
            refine lv_aload hx hb dX5_digest_372 (lv_at hl 3 rfl) ?_
            refine lv_iload hx hb dX5_digest_374 (lv_at hl 5 rfl) ?_
            obtain ⟨hi25, hok⟩ := gd_some hok
            refine va_iald hx hb hK hP 12 0 rfl rfl hi25 dX5_digest_376 ?_
            refine lv_istore (lv' := [(9, .int (f365_0 l365_8.toNatClampNeg)), (0, .ref l0), (2, .long l365_2), (4, .int l365_4), (6, .ref q365_0), (7, .int l365_7), (8, .int l365_8)]) hx hb dX5_digest_377 hl (by decide) rfl (fun ls hl => ?_)
            refine lv_lload_n hx hb dX5_digest_379 rfl (lv_at hl 2 rfl) ?_
            refine lv_ldc2 (v := (31 : Int64)) hx hb hown (hts _ ql_X5_205) dX5_digest_380 ?_
            refine lv_lmul hx hb dX5_digest_383 ?_
            refine lv_iload hx hb dX5_digest_384 (lv_at hl 0 rfl) ?_
            refine lv_i2l (v := (f365_0 l365_8.toNatClampNeg).toInt64) hx hb dX5_digest_386 rfl ?_
            refine lv_ladd hx hb dX5_digest_387 ?_
            refine lv_lstore_n (lv' := [(2, .long ((l365_2 * (31 : Int64)) + (f365_0 l365_8.toNatClampNeg).toInt64)), (9, .int (f365_0 l365_8.toNatClampNeg)), (0, .ref l0), (4, .int l365_4), (6, .ref q365_0), (7, .int l365_7), (8, .int l365_8)]) hx hb dX5_digest_388 rfl hl (by decide) rfl (fun ls hl => ?_)
            refine lv_iinc (v := (l365_8 + 1)) (lv' := [(8, .int (l365_8 + 1)), (2, .long ((l365_2 * (31 : Int64)) + (f365_0 l365_8.toNatClampNeg).toInt64)), (9, .int (f365_0 l365_8.toNatClampNeg)), (0, .ref l0), (4, .int l365_4), (6, .ref q365_0), (7, .int l365_7)]) hx hb dX5_digest_389 hl (k := 6) rfl rfl (by decide) rfl (fun ls hl => ?_)
            refine lv_goto (tgt := 365) hx hb dX5_digest_392 (by decide) ?_
            exact ih365 uL q365_0 f365_0 ((l365_2 * (31 : Int64)) + (f365_0 l365_8.toNatClampNeg).toInt64) l365_4 l365_7 (l365_8 + 1) kc sc (by omega) (by omega) _ _ hP hD hS _ (lv_sub hl [3, 1, 4, 5, 6, 0] rfl) hok
      have J309 : ∀ (uL : tX5) (q309_0 : Nat) (f309_0 : (Nat → Int32)) (l309_2 : Int64) (l309_4 : Int32) (s309_0 : Int32) (kc sc : Nat) (hkc : kc + 1 * n275 ≤ 14) (hsc : sc + 5 * n275 ≤ 87) (H : Heap) (locs : List Loc) (hP : va_P (dC, dI) vwCl ((wX5 cI cZ l0 l4 l5 l6 l8 l10 l11 l12 l13 l14 l15 l16 uL) ++ [(q309_0, .inl (cI, 5, .inl f309_0))]) H) (hD : va_D A ((wX5 cI cZ l0 l4 l5 l6 l8 l10 l11 l12 l13 l14 l15 l16 uL) ++ [(q309_0, .inl (cI, 5, .inl f309_0))])) (hS : va_S A s.heap H locs) (ls : Array Slot) (hl : lv_has ls 10 [(0, .ref l0), (2, .long l309_2), (4, .int l309_4)]) (hok : p_X5_digest_J309 (p_X5_digest_L275 n275) uL f309_0 l309_2 l309_4 s309_0 = some z), W p l e { frames := 9, cells := 14, slots := 87, locals := 200 } s m args below meth c H locs kc sc (MQ below (va_Ql (fun (r : Int64) (_ : Unit) => r = z.1) (fun _ t => va_P (dC, dI) vwCl ((wX5 cI cZ l0 l4 l5 l6 l8 l10 l11 l12 l13 l14 l15 l16 z.2)) t.heap) A) args s 14 87 A) (F0 m 309 ls [.int s309_0, .int (0 : Int32), .ref q309_0, .ref q309_0]) := by
        intro uL q309_0 f309_0 l309_2 l309_4 s309_0 kc sc hkc hsc H locs hP hD hS ls hl hok
        unfold p_X5_digest_J309 at hok
        refine va_iastK hx hb hK hP hD hS 12 0 rfl rfl (j := 0) (by decide) (vp_inK (by decide)) dX5_digest_309 (fun H locs hP _ hS => ?_)
        have hP : va_P (dC, dI) vwCl ((wX5 cI cZ l0 l4 l5 l6 l8 l10 l11 l12 l13 l14 l15 l16 uL) ++ [(q309_0, .inl (cI, 5, .inl (upd f309_0 0 s309_0)))]) H := hP
        have hD : va_D A ((wX5 cI cZ l0 l4 l5 l6 l8 l10 l11 l12 l13 l14 l15 l16 uL) ++ [(q309_0, .inl (cI, 5, .inl (upd f309_0 0 s309_0)))]) := D_LA hD
        refine lv_dup hx hb dX5_digest_310 rfl ?_
        refine lv_iconst (v := (1 : Int32)) hx hb dX5_digest_311 (by decide) ?_
        refine lv_aload_n hx hb dX5_digest_312 rfl (lv_at hl 0 rfl) ?_
        refine va_get (D := (dC, dI)) (ci := 5) (v := .ref l4) (C := RX5) (T := TX5) (N := 18) hx hb hts inX5 hown hK hP 0 rfl rfl 4 (by decide) (hts _ qf_X5_16) (fun _ h9 => h9) rfl dX5_digest_313 ?_
        refine lv_iload hx hb dX5_digest_316 (lv_at hl 2 rfl) ?_
        obtain ⟨hi19, hok⟩ := gd_some hok
        refine va_iald hx hb hK hP 1 0 rfl rfl hi19 dX5_digest_318 ?_
        refine va_iastK hx hb hK hP hD hS 12 0 rfl rfl (j := 1) (by decide) (vp_inK (by decide)) dX5_digest_319 (fun H locs hP _ hS => ?_)
        have hP : va_P (dC, dI) vwCl ((wX5 cI cZ l0 l4 l5 l6 l8 l10 l11 l12 l13 l14 l15 l16 uL) ++ [(q309_0, .inl (cI, 5, .inl (upd (upd f309_0 0 s309_0) 1 (uL.2.2.2.2.2.2.2.1 l309_4.toNatClampNeg))))]) H := hP
        have hD : va_D A ((wX5 cI cZ l0 l4 l5 l6 l8 l10 l11 l12 l13 l14 l15 l16 uL) ++ [(q309_0, .inl (cI, 5, .inl (upd (upd f309_0 0 s309_0) 1 (uL.2.2.2.2.2.2.2.1 l309_4.toNatClampNeg))))]) := D_LA hD
        refine lv_dup hx hb dX5_digest_320 rfl ?_
        refine lv_iconst (v := (2 : Int32)) hx hb dX5_digest_321 (by decide) ?_
        refine lv_aload_n hx hb dX5_digest_322 rfl (lv_at hl 0 rfl) ?_
        refine lv_iload hx hb dX5_digest_323 (lv_at hl 2 rfl) ?_
        obtain ⟨v20, hc20, hok⟩ := bd_some hok
        refine cRVi (ci := 5) (q0 := 0) [.int l309_4] S hK (cP_LA hP) (c_X5_next l dC dI cI cZ l0 l4 l5 l6 l8 l10 l11 l12 l13 l14 l15 l16 uL l309_4 hc20) (lw_V qm_X5_127 qi_X5_next qs_X5_next qn_X5 qc_X5_next) hd_X5_next ⟨rfl, rfl⟩ ⟨Nat.le_of_ble_eq_true rfl, Nat.le_of_ble_eq_true rfl⟩ ⟨by show kc ≤ 14; omega, by show sc ≤ 87; omega⟩ rfl rfl rfl hl.1 (Nat.le_of_ble_eq_true rfl) rfl dX5_digest_325 ?_
        refine va_iastK hx hb hK hP hD hS 12 0 rfl rfl (j := 2) (by decide) (vp_inK (by decide)) dX5_digest_328 (fun H locs hP _ hS => ?_)
        have hP : va_P (dC, dI) vwCl ((wX5 cI cZ l0 l4 l5 l6 l8 l10 l11 l12 l13 l14 l15 l16 uL) ++ [(q309_0, .inl (cI, 5, .inl (upd (upd (upd f309_0 0 s309_0) 1 (uL.2.2.2.2.2.2.2.1 l309_4.toNatClampNeg)) 2 v20)))]) H := hP
        have hD : va_D A ((wX5 cI cZ l0 l4 l5 l6 l8 l10 l11 l12 l13 l14 l15 l16 uL) ++ [(q309_0, .inl (cI, 5, .inl (upd (upd (upd f309_0 0 s309_0) 1 (uL.2.2.2.2.2.2.2.1 l309_4.toNatClampNeg)) 2 v20)))]) := D_LA hD
        refine lv_dup hx hb dX5_digest_329 rfl ?_
        refine lv_iconst (v := (3 : Int32)) hx hb dX5_digest_330 (by decide) ?_
        refine lv_aload_n hx hb dX5_digest_331 rfl (lv_at hl 0 rfl) ?_
        refine va_get (D := (dC, dI)) (ci := 5) (v := .ref l15) (C := RX5) (T := TX5) (N := 18) hx hb hts inX5 hown hK hP 0 rfl rfl 15 (by decide) (hts _ qf_X5_44) (fun _ h9 => h9) rfl dX5_digest_332 ?_
        refine lv_bipush (v := (21 : Int32)) hx hb dX5_digest_335 (by decide) ?_
        refine lv_iload hx hb dX5_digest_337 (lv_at hl 2 rfl) ?_
        refine lv_iadd hx hb dX5_digest_339 ?_
        obtain ⟨hi21, hok⟩ := gd_some hok
        refine va_iald hx hb hK hP 10 0 rfl rfl hi21 dX5_digest_340 ?_
        refine va_iastK hx hb hK hP hD hS 12 0 rfl rfl (j := 3) (by decide) (vp_inK (by decide)) dX5_digest_341 (fun H locs hP _ hS => ?_)
        have hP : va_P (dC, dI) vwCl ((wX5 cI cZ l0 l4 l5 l6 l8 l10 l11 l12 l13 l14 l15 l16 uL) ++ [(q309_0, .inl (cI, 5, .inl (upd (upd (upd (upd f309_0 0 s309_0) 1 (uL.2.2.2.2.2.2.2.1 l309_4.toNatClampNeg)) 2 v20) 3 (uL.1 ((21 : Int32) + l309_4).toNatClampNeg))))]) H := hP
        have hD : va_D A ((wX5 cI cZ l0 l4 l5 l6 l8 l10 l11 l12 l13 l14 l15 l16 uL) ++ [(q309_0, .inl (cI, 5, .inl (upd (upd (upd (upd f309_0 0 s309_0) 1 (uL.2.2.2.2.2.2.2.1 l309_4.toNatClampNeg)) 2 v20) 3 (uL.1 ((21 : Int32) + l309_4).toNatClampNeg))))]) := D_LA hD
        refine lv_dup hx hb dX5_digest_342 rfl ?_
        refine lv_iconst (v := (4 : Int32)) hx hb dX5_digest_343 (by decide) ?_
        refine lv_aload_n hx hb dX5_digest_344 rfl (lv_at hl 0 rfl) ?_
        refine lv_iload hx hb dX5_digest_345 (lv_at hl 2 rfl) ?_
        obtain ⟨v22, hc22, hok⟩ := bd_some hok
        refine cUVi (ci := 5) (q0 := 0) [.int l309_4] S hK (cP_LA hP) (cD_LA hD) hS hA (c_X5_untilStop l dC dI cI cZ l0 l4 l5 l6 l8 l10 l11 l12 l13 l14 l15 l16 _ uL l309_4 hc22) (lw_V qm_X5_185 qi_X5_untilStop qs_X5_untilStop qn_X5 qc_X5_untilStop) hd_X5_untilStop ⟨rfl, rfl⟩ ⟨Nat.le_of_ble_eq_true rfl, Nat.le_of_ble_eq_true rfl⟩ ⟨by show kc + 0 ≤ 14; omega, by show sc + 0 ≤ 87; omega⟩ rfl rfl rfl hl.1 (Nat.le_of_ble_eq_true rfl) rfl dX5_digest_347 (fun H1 hk9 h9 => cJ_LA hP hD hk9 h9) (D_LA hD) (fun H locs hP hD hS => ?_)
        refine va_iastK hx hb hK hP hD hS 12 0 rfl rfl (j := 4) (by decide) (vp_inK (by decide)) dX5_digest_350 (fun H locs hP _ hS => ?_)
        have hP : va_P (dC, dI) vwCl ((wX5 cI cZ l0 l4 l5 l6 l8 l10 l11 l12 l13 l14 l15 l16 v22.2) ++ [(q309_0, .inl (cI, 5, .inl (upd (upd (upd (upd (upd f309_0 0 s309_0) 1 (uL.2.2.2.2.2.2.2.1 l309_4.toNatClampNeg)) 2 v20) 3 (uL.1 ((21 : Int32) + l309_4).toNatClampNeg)) 4 v22.1)))]) H := hP
        have hD : va_D A ((wX5 cI cZ l0 l4 l5 l6 l8 l10 l11 l12 l13 l14 l15 l16 v22.2) ++ [(q309_0, .inl (cI, 5, .inl (upd (upd (upd (upd (upd f309_0 0 s309_0) 1 (uL.2.2.2.2.2.2.2.1 l309_4.toNatClampNeg)) 2 v20) 3 (uL.1 ((21 : Int32) + l309_4).toNatClampNeg)) 4 v22.1)))]) := D_LA hD
        refine lv_astore (lv' := [(5, .ref q309_0), (0, .ref l0), (2, .long l309_2), (4, .int l309_4)]) hx hb dX5_digest_351 hl (by decide) rfl (fun ls hl => ?_)
        refine lv_aload hx hb dX5_digest_353 (lv_at hl 0 rfl) ?_
        refine lv_astore (lv' := [(6, .ref q309_0), (5, .ref q309_0), (0, .ref l0), (2, .long l309_2), (4, .int l309_4)]) hx hb dX5_digest_355 hl (by decide) rfl (fun ls hl => ?_)
        refine lv_aload hx hb dX5_digest_357 (lv_at hl 0 rfl) ?_
        refine va_alen (v := (5 : Int32)) hx hb hK hP 12 0 rfl rfl rfl dX5_digest_359 ?_
        refine lv_istore (lv' := [(7, .int (5 : Int32)), (6, .ref q309_0), (5, .ref q309_0), (0, .ref l0), (2, .long l309_2), (4, .int l309_4)]) hx hb dX5_digest_360 hl (by decide) rfl (fun ls hl => ?_)
        refine lv_iconst (v := (0 : Int32)) hx hb dX5_digest_362 (by decide) ?_
        refine lv_istore (lv' := [(8, .int (0 : Int32)), (7, .int (5 : Int32)), (6, .ref q309_0), (5, .ref q309_0), (0, .ref l0), (2, .long l309_2), (4, .int l309_4)]) hx hb dX5_digest_363 hl (by decide) rfl (fun ls hl => ?_)
        exact L365 200 v22.2 q309_0 (upd (upd (upd (upd (upd f309_0 0 s309_0) 1 (uL.2.2.2.2.2.2.2.1 l309_4.toNatClampNeg)) 2 v20) 3 (uL.1 ((21 : Int32) + l309_4).toNatClampNeg)) 4 v22.1) l309_2 l309_4 (5 : Int32) (0 : Int32) kc sc (by omega) (by omega) _ _ hP hD hS _ (lv_sub hl [4, 5, 6, 2, 1, 0] rfl) hok
      intro uL l275_2 l275_4 kc sc hkc hsc H locs hP hD hS ls hl hok
      rw [p_X5_digest_L275] at hok
      refine lv_iload hx hb dX5_digest_275 (lv_at hl 2 rfl) ?_
      refine lv_aload_n hx hb dX5_digest_277 rfl (lv_at hl 0 rfl) ?_
      refine va_get (D := (dC, dI)) (ci := 5) (v := .int uL.2.2.2.2.1) (C := RX5) (T := TX5) (N := 18) hx hb hts inX5 hown hK hP 0 rfl rfl 1 (by decide) (hts _ qf_X5_7) (fun _ h9 => h9) rfl dX5_digest_278 ?_
      refine lv_icmp_ge (tgt := 401) hx hb dX5_digest_281 (by decide) (fun hc => ?_) (fun hc => ?_)
      · have hok := ip hok hc
        refine lv_iconst (v := (0 : Int32)) hx hb dX5_digest_401 (by decide) ?_
        refine lv_istore (lv' := [(4, .int (0 : Int32)), (0, .ref l0), (2, .long l275_2)]) hx hb dX5_digest_402 hl (by decide) rfl (fun ls hl => ?_)
        exact L404 200 uL l275_2 (0 : Int32) kc sc (by omega) (by omega) _ _ hP hD hS _ (lv_sub hl [1, 2, 0] rfl) hok
      · have hok := iq hok hc
        refine lv_iconst (v := (5 : Int32)) hx hb dX5_digest_284 (by decide) ?_
        refine va_newaI (n := 5) hx hb (hts _ qy_int) hK 0 rfl hP hD hS hA (by decide) (by decide) (by decide) (by show kc + 1 ≤ 14; omega) (by show sc + 5 ≤ 87; omega) dX5_digest_285 (fun q16 H hP hD hS => ?_)
        have hP : va_P (dC, dI) vwCl ((wX5 cI cZ l0 l4 l5 l6 l8 l10 l11 l12 l13 l14 l15 l16 uL) ++ [(q16, .inl (cI, 5, .inl (fun _ => (0 : Int32))))]) H := hP
        have hD : va_D A ((wX5 cI cZ l0 l4 l5 l6 l8 l10 l11 l12 l13 l14 l15 l16 uL) ++ [(q16, .inl (cI, 5, .inl (fun _ => (0 : Int32))))]) := hD
        refine lv_dup hx hb dX5_digest_287 rfl ?_
        refine lv_iconst (v := (0 : Int32)) hx hb dX5_digest_288 (by decide) ?_
        refine lv_aload_n hx hb dX5_digest_289 rfl (lv_at hl 0 rfl) ?_
        refine va_get (D := (dC, dI)) (ci := 5) (v := .ref l15) (C := RX5) (T := TX5) (N := 18) hx hb hts inX5 hown hK hP 0 rfl rfl 15 (by decide) (hts _ qf_X5_44) (fun _ h9 => h9) rfl dX5_digest_290 ?_
        refine lv_bipush (v := (6 : Int32)) hx hb dX5_digest_293 (by decide) ?_
        refine va_ialdK hx hb hK hP 10 0 rfl rfl (j := 6) (by decide) (vp_inK (by decide)) dX5_digest_295 ?_
        refine lv_iload hx hb dX5_digest_296 (lv_at hl 2 rfl) ?_
        obtain ⟨v17, hc17, hok⟩ := bd_some hok
        refine cRSi [.int (uL.1 6), .int l275_4] S hK va_Pnil (c_X5_has l dC dI cI cZ (uL.1 6) l275_4 hc17) (lw_S qm_X5_69 qt_X5_has qn_X5 qc_X5_has) hd_X5_has ⟨rfl, rfl⟩ ⟨Nat.le_of_ble_eq_true rfl, Nat.le_of_ble_eq_true rfl⟩ ⟨by show (kc + 1) ≤ 14; omega, by show (sc + 5) ≤ 87; omega⟩ rfl hl.1 (Nat.le_of_ble_eq_true rfl) rfl dX5_digest_298 ?_
        refine lv_if_eq (tgt := 308) hx hb dX5_digest_301 (by decide) (fun hc => ?_) (fun hc => ?_)
        · have hok := ip hok hc
          refine lv_iconst (v := (0 : Int32)) hx hb dX5_digest_308 (by decide) ?_
          exact J309 uL q16 (fun _ => (0 : Int32)) l275_2 l275_4 (0 : Int32) (kc + 1) (sc + 5) (by omega) (by omega) _ _ hP hD hS _ (lv_sub hl [0, 1, 2] rfl) hok
        · have hok := iq hok hc
          refine lv_iconst (v := (1 : Int32)) hx hb dX5_digest_304 (by decide) ?_
          refine lv_goto (tgt := 309) hx hb dX5_digest_305 (by decide) ?_
          exact J309 uL q16 (fun _ => (0 : Int32)) l275_2 l275_4 (1 : Int32) (kc + 1) (sc + 5) (by omega) (by omega) _ _ hP hD hS _ (lv_sub hl [0, 1, 2] rfl) hok
  have L242 : ∀ n242 : Nat, ∀ (uL : tX5) (q242_0 : Nat) (f242_0 : (Nat → Int32)) (l242_2 : Int64) (l242_5 : Int32) (l242_6 : Int32) (kc sc : Nat) (hkc : kc ≤ 1) (hsc : sc ≤ 22) (H : Heap) (locs : List Loc) (hP : va_P (dC, dI) vwCl ((wX5 cI cZ l0 l4 l5 l6 l8 l10 l11 l12 l13 l14 l15 l16 uL) ++ [(q242_0, .inl (cI, 22, .inl f242_0))]) H) (hD : va_D A ((wX5 cI cZ l0 l4 l5 l6 l8 l10 l11 l12 l13 l14 l15 l16 uL) ++ [(q242_0, .inl (cI, 22, .inl f242_0))])) (hS : va_S A s.heap H locs) (ls : Array Slot) (hl : lv_has ls 10 [(0, .ref l0), (2, .long l242_2), (4, .ref q242_0), (5, .int l242_5), (6, .int l242_6)]) (hok : p_X5_digest_L242 n242 uL f242_0 l242_2 l242_5 l242_6 = some z), W p l e { frames := 9, cells := 14, slots := 87, locals := 200 } s m args below meth c H locs kc sc (MQ below (va_Ql (fun (r : Int64) (_ : Unit) => r = z.1) (fun _ t => va_P (dC, dI) vwCl ((wX5 cI cZ l0 l4 l5 l6 l8 l10 l11 l12 l13 l14 l15 l16 z.2)) t.heap) A) args s 14 87 A) (F0 m 242 ls []) := by
    intro n242
    induction n242 with
    | zero =>
      intro uL q242_0 f242_0 l242_2 l242_5 l242_6 kc sc hkc hsc H locs hP hD hS ls hl hok
      rw [p_X5_digest_L242] at hok
      cases hok
    | succ n242 ih242 =>
      intro uL q242_0 f242_0 l242_2 l242_5 l242_6 kc sc hkc hsc H locs hP hD hS ls hl hok
      rw [p_X5_digest_L242] at hok
      refine lv_iload hx hb dX5_digest_242 (lv_at hl 4 rfl) ?_
      refine lv_iload hx hb dX5_digest_244 (lv_at hl 3 rfl) ?_
      refine lv_icmp_ge (tgt := 272) hx hb dX5_digest_246 (by decide) (fun hc => ?_) (fun hc => ?_)
      · have hok := ip hok hc
        refine lv_iconst (v := (0 : Int32)) hx hb dX5_digest_272 (by decide) ?_
        refine lv_istore (lv' := [(4, .int (0 : Int32)), (0, .ref l0), (2, .long l242_2), (5, .int l242_5), (6, .int l242_6)]) hx hb dX5_digest_273 hl (by decide) rfl (fun ls hl => ?_)
        have hP := (va_Pcut (isC := [0, 1, 2, 3, 4, 5, 6, 7, 8, 9, 10, 11]) (wc := ((wX5 cI cZ l0 l4 l5 l6 l8 l10 l11 l12 l13 l14 l15 l16 uL))) hP rfl)
        have hD := (hD.sub (ws' := ((wX5 cI cZ l0 l4 l5 l6 l8 l10 l11 l12 l13 l14 l15 l16 uL))) [0, 1, 2, 3, 4, 5, 6, 7, 8, 9, 10, 11] (by decide) rfl)
        exact L275 13 uL l242_2 (0 : Int32) kc sc (by omega) (by omega) _ _ hP hD hS _ (lv_sub hl [1, 2, 0] rfl) hok
      · have hok := iq hok hc
        refine lv_aload hx hb dX5_digest_249 (lv_at hl 2 rfl) ?_
        refine lv_iload hx hb dX5_digest_251 (lv_at hl 4 rfl) ?_
        obtain ⟨hi15, hok⟩ := gd_some hok
        refine va_iald hx hb hK hP 12 0 rfl rfl hi15 dX5_digest_253 ?_
        refine lv_istore (lv' := [(7, .int (f242_0 l242_6.toNatClampNeg)), (0, .ref l0), (2, .long l242_2), (4, .ref q242_0), (5, .int l242_5), (6, .int l242_6)]) hx hb dX5_digest_254 hl (by decide) rfl (fun ls hl => ?_)
        refine lv_lload_n hx hb dX5_digest_256 rfl (lv_at hl 2 rfl) ?_
        refine lv_ldc2 (v := (31 : Int64)) hx hb hown (hts _ ql_X5_205) dX5_digest_257 ?_
        refine lv_lmul hx hb dX5_digest_260 ?_
        refine lv_iload hx hb dX5_digest_261 (lv_at hl 0 rfl) ?_
        refine lv_i2l (v := (f242_0 l242_6.toNatClampNeg).toInt64) hx hb dX5_digest_263 rfl ?_
        refine lv_ladd hx hb dX5_digest_264 ?_
        refine lv_lstore_n (lv' := [(2, .long ((l242_2 * (31 : Int64)) + (f242_0 l242_6.toNatClampNeg).toInt64)), (7, .int (f242_0 l242_6.toNatClampNeg)), (0, .ref l0), (4, .ref q242_0), (5, .int l242_5), (6, .int l242_6)]) hx hb dX5_digest_265 rfl hl (by decide) rfl (fun ls hl => ?_)
        refine lv_iinc (v := (l242_6 + 1)) (lv' := [(6, .int (l242_6 + 1)), (2, .long ((l242_2 * (31 : Int64)) + (f242_0 l242_6.toNatClampNeg).toInt64)), (7, .int (f242_0 l242_6.toNatClampNeg)), (0, .ref l0), (4, .ref q242_0), (5, .int l242_5)]) hx hb dX5_digest_266 hl (k := 5) rfl rfl (by decide) rfl (fun ls hl => ?_)
        refine lv_goto (tgt := 242) hx hb dX5_digest_269 (by decide) ?_
        exact ih242 uL q242_0 f242_0 ((l242_2 * (31 : Int64)) + (f242_0 l242_6.toNatClampNeg).toInt64) l242_5 (l242_6 + 1) kc sc (by omega) (by omega) _ _ hP hD hS _ (lv_sub hl [3, 1, 4, 5, 0] rfl) hok
  unfold p_X5_digest at hok
  refine lv_aload_n hx hb dX5_digest_0 rfl (lv_at hl 0 rfl) ?_
  refine lv_iconst (v := (0 : Int32)) hx hb dX5_digest_1 (by decide) ?_
  refine va_put (D := (dC, dI)) (ci := 5) (v := .int (0 : Int32)) (ty := .int) (C := RX5) (T := TX5) (N := 18) hx hb hts inX5 tyX5 tyX5_ok nmX5 hown hK hP hD hS 0 rfl rfl 0 (by decide) (hts _ qf_X5_50) (fun _ h9 => h9) rfl (tyX5_ok 0 (by decide)) rfl rfl (Nat.le_of_ble_eq_true rfl) dX5_digest_2 (fun H locs hP _ hS => ?_)
  have hP : va_P (dC, dI) vwCl ((wX5 cI cZ l0 l4 l5 l6 l8 l10 l11 l12 l13 l14 l15 l16 (uL.1, uL.2.1, uL.2.2.1, (0 : Int32), uL.2.2.2.2))) H := hP
  have hD : va_D A ((wX5 cI cZ l0 l4 l5 l6 l8 l10 l11 l12 l13 l14 l15 l16 (uL.1, uL.2.1, uL.2.2.1, (0 : Int32), uL.2.2.2.2))) := D_L hD
  refine lv_bipush (v := (22 : Int32)) hx hb dX5_digest_5 (by decide) ?_
  refine va_newaI (n := 22) hx hb (hts _ qy_int) hK 0 rfl hP hD hS hA (by decide) (by decide) (by decide) (by show 0 + 1 ≤ 14; omega) (by show 0 + 22 ≤ 87; omega) dX5_digest_7 (fun q1 H hP hD hS => ?_)
  have hP : va_P (dC, dI) vwCl ((wX5 cI cZ l0 l4 l5 l6 l8 l10 l11 l12 l13 l14 l15 l16 (uL.1, uL.2.1, uL.2.2.1, (0 : Int32), uL.2.2.2.2)) ++ [(q1, .inl (cI, 22, .inl (fun _ => (0 : Int32))))]) H := hP
  have hD : va_D A ((wX5 cI cZ l0 l4 l5 l6 l8 l10 l11 l12 l13 l14 l15 l16 (uL.1, uL.2.1, uL.2.2.1, (0 : Int32), uL.2.2.2.2)) ++ [(q1, .inl (cI, 22, .inl (fun _ => (0 : Int32))))]) := hD
  refine lv_dup hx hb dX5_digest_9 rfl ?_
  refine lv_iconst (v := (0 : Int32)) hx hb dX5_digest_10 (by decide) ?_
  refine lv_aload_n hx hb dX5_digest_11 rfl (lv_at hl 0 rfl) ?_
  refine va_get (D := (dC, dI)) (ci := 5) (v := .int uL.2.2.2.2.1) (C := RX5) (T := TX5) (N := 18) hx hb hts inX5 hown hK hP 0 rfl rfl 1 (by decide) (hts _ qf_X5_7) (fun _ h9 => h9) rfl dX5_digest_12 ?_
  refine va_iastK hx hb hK hP hD hS 12 0 rfl rfl (j := 0) (by decide) (vp_inK (by decide)) dX5_digest_15 (fun H locs hP _ hS => ?_)
  have hP : va_P (dC, dI) vwCl ((wX5 cI cZ l0 l4 l5 l6 l8 l10 l11 l12 l13 l14 l15 l16 (uL.1, uL.2.1, uL.2.2.1, (0 : Int32), uL.2.2.2.2)) ++ [(q1, .inl (cI, 22, .inl (upd (fun _ => (0 : Int32)) 0 uL.2.2.2.2.1)))]) H := hP
  have hD : va_D A ((wX5 cI cZ l0 l4 l5 l6 l8 l10 l11 l12 l13 l14 l15 l16 (uL.1, uL.2.1, uL.2.2.1, (0 : Int32), uL.2.2.2.2)) ++ [(q1, .inl (cI, 22, .inl (upd (fun _ => (0 : Int32)) 0 uL.2.2.2.2.1)))]) := D_LA hD
  refine lv_dup hx hb dX5_digest_16 rfl ?_
  refine lv_iconst (v := (1 : Int32)) hx hb dX5_digest_17 (by decide) ?_
  refine lv_aload_n hx hb dX5_digest_18 rfl (lv_at hl 0 rfl) ?_
  refine va_get (D := (dC, dI)) (ci := 5) (v := .ref l15) (C := RX5) (T := TX5) (N := 18) hx hb hts inX5 hown hK hP 0 rfl rfl 15 (by decide) (hts _ qf_X5_44) (fun _ h9 => h9) rfl dX5_digest_19 ?_
  refine lv_iconst (v := (0 : Int32)) hx hb dX5_digest_22 (by decide) ?_
  refine va_ialdK hx hb hK hP 10 0 rfl rfl (j := 0) (by decide) (vp_inK (by decide)) dX5_digest_23 ?_
  refine va_iastK hx hb hK hP hD hS 12 0 rfl rfl (j := 1) (by decide) (vp_inK (by decide)) dX5_digest_24 (fun H locs hP _ hS => ?_)
  have hP : va_P (dC, dI) vwCl ((wX5 cI cZ l0 l4 l5 l6 l8 l10 l11 l12 l13 l14 l15 l16 (uL.1, uL.2.1, uL.2.2.1, (0 : Int32), uL.2.2.2.2)) ++ [(q1, .inl (cI, 22, .inl (upd (upd (fun _ => (0 : Int32)) 0 uL.2.2.2.2.1) 1 (uL.1 0))))]) H := hP
  have hD : va_D A ((wX5 cI cZ l0 l4 l5 l6 l8 l10 l11 l12 l13 l14 l15 l16 (uL.1, uL.2.1, uL.2.2.1, (0 : Int32), uL.2.2.2.2)) ++ [(q1, .inl (cI, 22, .inl (upd (upd (fun _ => (0 : Int32)) 0 uL.2.2.2.2.1) 1 (uL.1 0))))]) := D_LA hD
  refine lv_dup hx hb dX5_digest_25 rfl ?_
  refine lv_iconst (v := (2 : Int32)) hx hb dX5_digest_26 (by decide) ?_
  refine lv_aload_n hx hb dX5_digest_27 rfl (lv_at hl 0 rfl) ?_
  refine va_get (D := (dC, dI)) (ci := 5) (v := .ref l15) (C := RX5) (T := TX5) (N := 18) hx hb hts inX5 hown hK hP 0 rfl rfl 15 (by decide) (hts _ qf_X5_44) (fun _ h9 => h9) rfl dX5_digest_28 ?_
  refine lv_iconst (v := (1 : Int32)) hx hb dX5_digest_31 (by decide) ?_
  refine va_ialdK hx hb hK hP 10 0 rfl rfl (j := 1) (by decide) (vp_inK (by decide)) dX5_digest_32 ?_
  refine va_iastK hx hb hK hP hD hS 12 0 rfl rfl (j := 2) (by decide) (vp_inK (by decide)) dX5_digest_33 (fun H locs hP _ hS => ?_)
  have hP : va_P (dC, dI) vwCl ((wX5 cI cZ l0 l4 l5 l6 l8 l10 l11 l12 l13 l14 l15 l16 (uL.1, uL.2.1, uL.2.2.1, (0 : Int32), uL.2.2.2.2)) ++ [(q1, .inl (cI, 22, .inl (upd (upd (upd (fun _ => (0 : Int32)) 0 uL.2.2.2.2.1) 1 (uL.1 0)) 2 (uL.1 1))))]) H := hP
  have hD : va_D A ((wX5 cI cZ l0 l4 l5 l6 l8 l10 l11 l12 l13 l14 l15 l16 (uL.1, uL.2.1, uL.2.2.1, (0 : Int32), uL.2.2.2.2)) ++ [(q1, .inl (cI, 22, .inl (upd (upd (upd (fun _ => (0 : Int32)) 0 uL.2.2.2.2.1) 1 (uL.1 0)) 2 (uL.1 1))))]) := D_LA hD
  refine lv_dup hx hb dX5_digest_34 rfl ?_
  refine lv_iconst (v := (3 : Int32)) hx hb dX5_digest_35 (by decide) ?_
  refine lv_aload_n hx hb dX5_digest_36 rfl (lv_at hl 0 rfl) ?_
  refine va_get (D := (dC, dI)) (ci := 5) (v := .ref l15) (C := RX5) (T := TX5) (N := 18) hx hb hts inX5 hown hK hP 0 rfl rfl 15 (by decide) (hts _ qf_X5_44) (fun _ h9 => h9) rfl dX5_digest_37 ?_
  refine lv_iconst (v := (2 : Int32)) hx hb dX5_digest_40 (by decide) ?_
  refine va_ialdK hx hb hK hP 10 0 rfl rfl (j := 2) (by decide) (vp_inK (by decide)) dX5_digest_41 ?_
  refine va_iastK hx hb hK hP hD hS 12 0 rfl rfl (j := 3) (by decide) (vp_inK (by decide)) dX5_digest_42 (fun H locs hP _ hS => ?_)
  have hP : va_P (dC, dI) vwCl ((wX5 cI cZ l0 l4 l5 l6 l8 l10 l11 l12 l13 l14 l15 l16 (uL.1, uL.2.1, uL.2.2.1, (0 : Int32), uL.2.2.2.2)) ++ [(q1, .inl (cI, 22, .inl (upd (upd (upd (upd (fun _ => (0 : Int32)) 0 uL.2.2.2.2.1) 1 (uL.1 0)) 2 (uL.1 1)) 3 (uL.1 2))))]) H := hP
  have hD : va_D A ((wX5 cI cZ l0 l4 l5 l6 l8 l10 l11 l12 l13 l14 l15 l16 (uL.1, uL.2.1, uL.2.2.1, (0 : Int32), uL.2.2.2.2)) ++ [(q1, .inl (cI, 22, .inl (upd (upd (upd (upd (fun _ => (0 : Int32)) 0 uL.2.2.2.2.1) 1 (uL.1 0)) 2 (uL.1 1)) 3 (uL.1 2))))]) := D_LA hD
  refine lv_dup hx hb dX5_digest_43 rfl ?_
  refine lv_iconst (v := (4 : Int32)) hx hb dX5_digest_44 (by decide) ?_
  refine lv_aload_n hx hb dX5_digest_45 rfl (lv_at hl 0 rfl) ?_
  refine va_get (D := (dC, dI)) (ci := 5) (v := .ref l15) (C := RX5) (T := TX5) (N := 18) hx hb hts inX5 hown hK hP 0 rfl rfl 15 (by decide) (hts _ qf_X5_44) (fun _ h9 => h9) rfl dX5_digest_46 ?_
  refine lv_bipush (v := (6 : Int32)) hx hb dX5_digest_49 (by decide) ?_
  refine va_ialdK hx hb hK hP 10 0 rfl rfl (j := 6) (by decide) (vp_inK (by decide)) dX5_digest_51 ?_
  obtain ⟨v2, hc2, hok⟩ := bd_some hok
  refine cRSi [.int (uL.1 6)] S hK va_Pnil (c_X5_ones l dC dI cI cZ (uL.1 6) hc2) (lw_S qm_X5_116 qt_X5_ones qn_X5 qc_X5_ones) hd_X5_ones ⟨rfl, rfl⟩ ⟨Nat.le_of_ble_eq_true rfl, Nat.le_of_ble_eq_true rfl⟩ ⟨by show (0 + 1) ≤ 14; omega, by show (0 + 22) ≤ 87; omega⟩ rfl hl.1 (Nat.le_of_ble_eq_true rfl) rfl dX5_digest_52 ?_
  refine va_iastK hx hb hK hP hD hS 12 0 rfl rfl (j := 4) (by decide) (vp_inK (by decide)) dX5_digest_55 (fun H locs hP _ hS => ?_)
  have hP : va_P (dC, dI) vwCl ((wX5 cI cZ l0 l4 l5 l6 l8 l10 l11 l12 l13 l14 l15 l16 (uL.1, uL.2.1, uL.2.2.1, (0 : Int32), uL.2.2.2.2)) ++ [(q1, .inl (cI, 22, .inl (upd (upd (upd (upd (upd (fun _ => (0 : Int32)) 0 uL.2.2.2.2.1) 1 (uL.1 0)) 2 (uL.1 1)) 3 (uL.1 2)) 4 v2)))]) H := hP
  have hD : va_D A ((wX5 cI cZ l0 l4 l5 l6 l8 l10 l11 l12 l13 l14 l15 l16 (uL.1, uL.2.1, uL.2.2.1, (0 : Int32), uL.2.2.2.2)) ++ [(q1, .inl (cI, 22, .inl (upd (upd (upd (upd (upd (fun _ => (0 : Int32)) 0 uL.2.2.2.2.1) 1 (uL.1 0)) 2 (uL.1 1)) 3 (uL.1 2)) 4 v2)))]) := D_LA hD
  refine lv_dup hx hb dX5_digest_56 rfl ?_
  refine lv_iconst (v := (5 : Int32)) hx hb dX5_digest_57 (by decide) ?_
  refine lv_aload_n hx hb dX5_digest_58 rfl (lv_at hl 0 rfl) ?_
  refine va_get (D := (dC, dI)) (ci := 5) (v := .ref l15) (C := RX5) (T := TX5) (N := 18) hx hb hts inX5 hown hK hP 0 rfl rfl 15 (by decide) (hts _ qf_X5_44) (fun _ h9 => h9) rfl dX5_digest_59 ?_
  refine lv_iconst (v := (3 : Int32)) hx hb dX5_digest_62 (by decide) ?_
  refine va_ialdK hx hb hK hP 10 0 rfl rfl (j := 3) (by decide) (vp_inK (by decide)) dX5_digest_63 ?_
  refine va_iastK hx hb hK hP hD hS 12 0 rfl rfl (j := 5) (by decide) (vp_inK (by decide)) dX5_digest_64 (fun H locs hP _ hS => ?_)
  have hP : va_P (dC, dI) vwCl ((wX5 cI cZ l0 l4 l5 l6 l8 l10 l11 l12 l13 l14 l15 l16 (uL.1, uL.2.1, uL.2.2.1, (0 : Int32), uL.2.2.2.2)) ++ [(q1, .inl (cI, 22, .inl (upd (upd (upd (upd (upd (upd (fun _ => (0 : Int32)) 0 uL.2.2.2.2.1) 1 (uL.1 0)) 2 (uL.1 1)) 3 (uL.1 2)) 4 v2) 5 (uL.1 3))))]) H := hP
  have hD : va_D A ((wX5 cI cZ l0 l4 l5 l6 l8 l10 l11 l12 l13 l14 l15 l16 (uL.1, uL.2.1, uL.2.2.1, (0 : Int32), uL.2.2.2.2)) ++ [(q1, .inl (cI, 22, .inl (upd (upd (upd (upd (upd (upd (fun _ => (0 : Int32)) 0 uL.2.2.2.2.1) 1 (uL.1 0)) 2 (uL.1 1)) 3 (uL.1 2)) 4 v2) 5 (uL.1 3))))]) := D_LA hD
  refine lv_dup hx hb dX5_digest_65 rfl ?_
  refine lv_bipush (v := (6 : Int32)) hx hb dX5_digest_66 (by decide) ?_
  refine lv_aload_n hx hb dX5_digest_68 rfl (lv_at hl 0 rfl) ?_
  refine va_get (D := (dC, dI)) (ci := 5) (v := .ref l15) (C := RX5) (T := TX5) (N := 18) hx hb hts inX5 hown hK hP 0 rfl rfl 15 (by decide) (hts _ qf_X5_44) (fun _ h9 => h9) rfl dX5_digest_69 ?_
  refine lv_iconst (v := (4 : Int32)) hx hb dX5_digest_72 (by decide) ?_
  refine va_ialdK hx hb hK hP 10 0 rfl rfl (j := 4) (by decide) (vp_inK (by decide)) dX5_digest_73 ?_
  refine va_iastK hx hb hK hP hD hS 12 0 rfl rfl (j := 6) (by decide) (vp_inK (by decide)) dX5_digest_74 (fun H locs hP _ hS => ?_)
  have hP : va_P (dC, dI) vwCl ((wX5 cI cZ l0 l4 l5 l6 l8 l10 l11 l12 l13 l14 l15 l16 (uL.1, uL.2.1, uL.2.2.1, (0 : Int32), uL.2.2.2.2)) ++ [(q1, .inl (cI, 22, .inl (upd (upd (upd (upd (upd (upd (upd (fun _ => (0 : Int32)) 0 uL.2.2.2.2.1) 1 (uL.1 0)) 2 (uL.1 1)) 3 (uL.1 2)) 4 v2) 5 (uL.1 3)) 6 (uL.1 4))))]) H := hP
  have hD : va_D A ((wX5 cI cZ l0 l4 l5 l6 l8 l10 l11 l12 l13 l14 l15 l16 (uL.1, uL.2.1, uL.2.2.1, (0 : Int32), uL.2.2.2.2)) ++ [(q1, .inl (cI, 22, .inl (upd (upd (upd (upd (upd (upd (upd (fun _ => (0 : Int32)) 0 uL.2.2.2.2.1) 1 (uL.1 0)) 2 (uL.1 1)) 3 (uL.1 2)) 4 v2) 5 (uL.1 3)) 6 (uL.1 4))))]) := D_LA hD
  refine lv_dup hx hb dX5_digest_75 rfl ?_
  refine lv_bipush (v := (7 : Int32)) hx hb dX5_digest_76 (by decide) ?_
  refine lv_aload_n hx hb dX5_digest_78 rfl (lv_at hl 0 rfl) ?_
  refine va_get (D := (dC, dI)) (ci := 5) (v := .int uL.2.2.2.2.2.1) (C := RX5) (T := TX5) (N := 18) hx hb hts inX5 hown hK hP 0 rfl rfl 2 (by decide) (hts _ qf_X5_13) (fun _ h9 => h9) rfl dX5_digest_79 ?_
  refine va_iastK hx hb hK hP hD hS 12 0 rfl rfl (j := 7) (by decide) (vp_inK (by decide)) dX5_digest_82 (fun H locs hP _ hS => ?_)
  have hP : va_P (dC, dI) vwCl ((wX5 cI cZ l0 l4 l5 l6 l8 l10 l11 l12 l13 l14 l15 l16 (uL.1, uL.2.1, uL.2.2.1, (0 : Int32), uL.2.2.2.2)) ++ [(q1, .inl (cI, 22, .inl (upd (upd (upd (upd (upd (upd (upd (upd (fun _ => (0 : Int32)) 0 uL.2.2.2.2.1) 1 (uL.1 0)) 2 (uL.1 1)) 3 (uL.1 2)) 4 v2) 5 (uL.1 3)) 6 (uL.1 4)) 7 uL.2.2.2.2.2.1)))]) H := hP
  have hD : va_D A ((wX5 cI cZ l0 l4 l5 l6 l8 l10 l11 l12 l13 l14 l15 l16 (uL.1, uL.2.1, uL.2.2.1, (0 : Int32), uL.2.2.2.2)) ++ [(q1, .inl (cI, 22, .inl (upd (upd (upd (upd (upd (upd (upd (upd (fun _ => (0 : Int32)) 0 uL.2.2.2.2.1) 1 (uL.1 0)) 2 (uL.1 1)) 3 (uL.1 2)) 4 v2) 5 (uL.1 3)) 6 (uL.1 4)) 7 uL.2.2.2.2.2.1)))]) := D_LA hD
  refine lv_dup hx hb dX5_digest_83 rfl ?_
  refine lv_bipush (v := (8 : Int32)) hx hb dX5_digest_84 (by decide) ?_
  refine lv_aload_n hx hb dX5_digest_86 rfl (lv_at hl 0 rfl) ?_
  refine va_get (D := (dC, dI)) (ci := 5) (v := .ref l15) (C := RX5) (T := TX5) (N := 18) hx hb hts inX5 hown hK hP 0 rfl rfl 15 (by decide) (hts _ qf_X5_44) (fun _ h9 => h9) rfl dX5_digest_87 ?_
  refine lv_iconst (v := (5 : Int32)) hx hb dX5_digest_90 (by decide) ?_
  refine va_ialdK hx hb hK hP 10 0 rfl rfl (j := 5) (by decide) (vp_inK (by decide)) dX5_digest_91 ?_
  refine va_iastK hx hb hK hP hD hS 12 0 rfl rfl (j := 8) (by decide) (vp_inK (by decide)) dX5_digest_92 (fun H locs hP _ hS => ?_)
  have hP : va_P (dC, dI) vwCl ((wX5 cI cZ l0 l4 l5 l6 l8 l10 l11 l12 l13 l14 l15 l16 (uL.1, uL.2.1, uL.2.2.1, (0 : Int32), uL.2.2.2.2)) ++ [(q1, .inl (cI, 22, .inl (upd (upd (upd (upd (upd (upd (upd (upd (upd (fun _ => (0 : Int32)) 0 uL.2.2.2.2.1) 1 (uL.1 0)) 2 (uL.1 1)) 3 (uL.1 2)) 4 v2) 5 (uL.1 3)) 6 (uL.1 4)) 7 uL.2.2.2.2.2.1) 8 (uL.1 5))))]) H := hP
  have hD : va_D A ((wX5 cI cZ l0 l4 l5 l6 l8 l10 l11 l12 l13 l14 l15 l16 (uL.1, uL.2.1, uL.2.2.1, (0 : Int32), uL.2.2.2.2)) ++ [(q1, .inl (cI, 22, .inl (upd (upd (upd (upd (upd (upd (upd (upd (upd (fun _ => (0 : Int32)) 0 uL.2.2.2.2.1) 1 (uL.1 0)) 2 (uL.1 1)) 3 (uL.1 2)) 4 v2) 5 (uL.1 3)) 6 (uL.1 4)) 7 uL.2.2.2.2.2.1) 8 (uL.1 5))))]) := D_LA hD
  refine lv_dup hx hb dX5_digest_93 rfl ?_
  refine lv_bipush (v := (9 : Int32)) hx hb dX5_digest_94 (by decide) ?_
  refine lv_aload_n hx hb dX5_digest_96 rfl (lv_at hl 0 rfl) ?_
  obtain ⟨v3, hc3, hok⟩ := bd_some hok
  refine cRVi (ci := 5) (q0 := 0) [] S hK (cP_LA hP) (c_X5_cut l dC dI cI cZ l0 l4 l5 l6 l8 l10 l11 l12 l13 l14 l15 l16 (uL.1, uL.2.1, uL.2.2.1, (0 : Int32), uL.2.2.2.2) hc3) (lw_V qm_X5_134 qi_X5_cut qs_X5_cut qn_X5 qc_X5_cut) hd_X5_cut ⟨rfl, rfl⟩ ⟨Nat.le_of_ble_eq_true rfl, Nat.le_of_ble_eq_true rfl⟩ ⟨by show (0 + 1) ≤ 14; omega, by show (0 + 22) ≤ 87; omega⟩ rfl rfl rfl hl.1 (Nat.le_of_ble_eq_true rfl) rfl dX5_digest_97 ?_
  refine va_iastK hx hb hK hP hD hS 12 0 rfl rfl (j := 9) (by decide) (vp_inK (by decide)) dX5_digest_100 (fun H locs hP _ hS => ?_)
  have hP : va_P (dC, dI) vwCl ((wX5 cI cZ l0 l4 l5 l6 l8 l10 l11 l12 l13 l14 l15 l16 (uL.1, uL.2.1, uL.2.2.1, (0 : Int32), uL.2.2.2.2)) ++ [(q1, .inl (cI, 22, .inl (upd (upd (upd (upd (upd (upd (upd (upd (upd (upd (fun _ => (0 : Int32)) 0 uL.2.2.2.2.1) 1 (uL.1 0)) 2 (uL.1 1)) 3 (uL.1 2)) 4 v2) 5 (uL.1 3)) 6 (uL.1 4)) 7 uL.2.2.2.2.2.1) 8 (uL.1 5)) 9 v3)))]) H := hP
  have hD : va_D A ((wX5 cI cZ l0 l4 l5 l6 l8 l10 l11 l12 l13 l14 l15 l16 (uL.1, uL.2.1, uL.2.2.1, (0 : Int32), uL.2.2.2.2)) ++ [(q1, .inl (cI, 22, .inl (upd (upd (upd (upd (upd (upd (upd (upd (upd (upd (fun _ => (0 : Int32)) 0 uL.2.2.2.2.1) 1 (uL.1 0)) 2 (uL.1 1)) 3 (uL.1 2)) 4 v2) 5 (uL.1 3)) 6 (uL.1 4)) 7 uL.2.2.2.2.2.1) 8 (uL.1 5)) 9 v3)))]) := D_LA hD
  refine lv_dup hx hb dX5_digest_101 rfl ?_
  refine lv_bipush (v := (10 : Int32)) hx hb dX5_digest_102 (by decide) ?_
  refine lv_aload_n hx hb dX5_digest_104 rfl (lv_at hl 0 rfl) ?_
  refine va_get (D := (dC, dI)) (ci := 5) (v := .ref l15) (C := RX5) (T := TX5) (N := 18) hx hb hts inX5 hown hK hP 0 rfl rfl 15 (by decide) (hts _ qf_X5_44) (fun _ h9 => h9) rfl dX5_digest_105 ?_
  refine lv_bipush (v := (8 : Int32)) hx hb dX5_digest_108 (by decide) ?_
  refine va_ialdK hx hb hK hP 10 0 rfl rfl (j := 8) (by decide) (vp_inK (by decide)) dX5_digest_110 ?_
  refine va_iastK hx hb hK hP hD hS 12 0 rfl rfl (j := 10) (by decide) (vp_inK (by decide)) dX5_digest_111 (fun H locs hP _ hS => ?_)
  have hP : va_P (dC, dI) vwCl ((wX5 cI cZ l0 l4 l5 l6 l8 l10 l11 l12 l13 l14 l15 l16 (uL.1, uL.2.1, uL.2.2.1, (0 : Int32), uL.2.2.2.2)) ++ [(q1, .inl (cI, 22, .inl (upd (upd (upd (upd (upd (upd (upd (upd (upd (upd (upd (fun _ => (0 : Int32)) 0 uL.2.2.2.2.1) 1 (uL.1 0)) 2 (uL.1 1)) 3 (uL.1 2)) 4 v2) 5 (uL.1 3)) 6 (uL.1 4)) 7 uL.2.2.2.2.2.1) 8 (uL.1 5)) 9 v3) 10 (uL.1 8))))]) H := hP
  have hD : va_D A ((wX5 cI cZ l0 l4 l5 l6 l8 l10 l11 l12 l13 l14 l15 l16 (uL.1, uL.2.1, uL.2.2.1, (0 : Int32), uL.2.2.2.2)) ++ [(q1, .inl (cI, 22, .inl (upd (upd (upd (upd (upd (upd (upd (upd (upd (upd (upd (fun _ => (0 : Int32)) 0 uL.2.2.2.2.1) 1 (uL.1 0)) 2 (uL.1 1)) 3 (uL.1 2)) 4 v2) 5 (uL.1 3)) 6 (uL.1 4)) 7 uL.2.2.2.2.2.1) 8 (uL.1 5)) 9 v3) 10 (uL.1 8))))]) := D_LA hD
  refine lv_dup hx hb dX5_digest_112 rfl ?_
  refine lv_bipush (v := (11 : Int32)) hx hb dX5_digest_113 (by decide) ?_
  refine lv_aload_n hx hb dX5_digest_115 rfl (lv_at hl 0 rfl) ?_
  obtain ⟨v4, hc4, hok⟩ := bd_some hok
  refine cRVi (ci := 5) (q0 := 0) [] S hK (cP_LA hP) (c_X5_thrilling l dC dI cI cZ l0 l4 l5 l6 l8 l10 l11 l12 l13 l14 l15 l16 (uL.1, uL.2.1, uL.2.2.1, (0 : Int32), uL.2.2.2.2) hc4) (lw_V qm_X5_143 qi_X5_thrilling qs_X5_thrilling qn_X5 qc_X5_thrilling) hd_X5_thrilling ⟨rfl, rfl⟩ ⟨Nat.le_of_ble_eq_true rfl, Nat.le_of_ble_eq_true rfl⟩ ⟨by show (0 + 1) ≤ 14; omega, by show (0 + 22) ≤ 87; omega⟩ rfl rfl rfl hl.1 (Nat.le_of_ble_eq_true rfl) rfl dX5_digest_116 ?_
  refine va_iastK hx hb hK hP hD hS 12 0 rfl rfl (j := 11) (by decide) (vp_inK (by decide)) dX5_digest_119 (fun H locs hP _ hS => ?_)
  have hP : va_P (dC, dI) vwCl ((wX5 cI cZ l0 l4 l5 l6 l8 l10 l11 l12 l13 l14 l15 l16 (uL.1, uL.2.1, uL.2.2.1, (0 : Int32), uL.2.2.2.2)) ++ [(q1, .inl (cI, 22, .inl (upd (upd (upd (upd (upd (upd (upd (upd (upd (upd (upd (upd (fun _ => (0 : Int32)) 0 uL.2.2.2.2.1) 1 (uL.1 0)) 2 (uL.1 1)) 3 (uL.1 2)) 4 v2) 5 (uL.1 3)) 6 (uL.1 4)) 7 uL.2.2.2.2.2.1) 8 (uL.1 5)) 9 v3) 10 (uL.1 8)) 11 v4)))]) H := hP
  have hD : va_D A ((wX5 cI cZ l0 l4 l5 l6 l8 l10 l11 l12 l13 l14 l15 l16 (uL.1, uL.2.1, uL.2.2.1, (0 : Int32), uL.2.2.2.2)) ++ [(q1, .inl (cI, 22, .inl (upd (upd (upd (upd (upd (upd (upd (upd (upd (upd (upd (upd (fun _ => (0 : Int32)) 0 uL.2.2.2.2.1) 1 (uL.1 0)) 2 (uL.1 1)) 3 (uL.1 2)) 4 v2) 5 (uL.1 3)) 6 (uL.1 4)) 7 uL.2.2.2.2.2.1) 8 (uL.1 5)) 9 v3) 10 (uL.1 8)) 11 v4)))]) := D_LA hD
  refine lv_dup hx hb dX5_digest_120 rfl ?_
  refine lv_bipush (v := (12 : Int32)) hx hb dX5_digest_121 (by decide) ?_
  refine lv_aload_n hx hb dX5_digest_123 rfl (lv_at hl 0 rfl) ?_
  obtain ⟨v5, hc5, hok⟩ := bd_some hok
  refine cRVi (ci := 5) (q0 := 0) [] S hK (cP_LA hP) (c_X5_waits l dC dI cI cZ l0 l4 l5 l6 l8 l10 l11 l12 l13 l14 l15 l16 (uL.1, uL.2.1, uL.2.2.1, (0 : Int32), uL.2.2.2.2) hc5) (lw_V qm_X5_149 qi_X5_waits qs_X5_waits qn_X5 qc_X5_waits) hd_X5_waits ⟨rfl, rfl⟩ ⟨Nat.le_of_ble_eq_true rfl, Nat.le_of_ble_eq_true rfl⟩ ⟨by show (0 + 1) ≤ 14; omega, by show (0 + 22) ≤ 87; omega⟩ rfl rfl rfl hl.1 (Nat.le_of_ble_eq_true rfl) rfl dX5_digest_124 ?_
  refine va_iastK hx hb hK hP hD hS 12 0 rfl rfl (j := 12) (by decide) (vp_inK (by decide)) dX5_digest_127 (fun H locs hP _ hS => ?_)
  have hP : va_P (dC, dI) vwCl ((wX5 cI cZ l0 l4 l5 l6 l8 l10 l11 l12 l13 l14 l15 l16 (uL.1, uL.2.1, uL.2.2.1, (0 : Int32), uL.2.2.2.2)) ++ [(q1, .inl (cI, 22, .inl (upd (upd (upd (upd (upd (upd (upd (upd (upd (upd (upd (upd (upd (fun _ => (0 : Int32)) 0 uL.2.2.2.2.1) 1 (uL.1 0)) 2 (uL.1 1)) 3 (uL.1 2)) 4 v2) 5 (uL.1 3)) 6 (uL.1 4)) 7 uL.2.2.2.2.2.1) 8 (uL.1 5)) 9 v3) 10 (uL.1 8)) 11 v4) 12 v5)))]) H := hP
  have hD : va_D A ((wX5 cI cZ l0 l4 l5 l6 l8 l10 l11 l12 l13 l14 l15 l16 (uL.1, uL.2.1, uL.2.2.1, (0 : Int32), uL.2.2.2.2)) ++ [(q1, .inl (cI, 22, .inl (upd (upd (upd (upd (upd (upd (upd (upd (upd (upd (upd (upd (upd (fun _ => (0 : Int32)) 0 uL.2.2.2.2.1) 1 (uL.1 0)) 2 (uL.1 1)) 3 (uL.1 2)) 4 v2) 5 (uL.1 3)) 6 (uL.1 4)) 7 uL.2.2.2.2.2.1) 8 (uL.1 5)) 9 v3) 10 (uL.1 8)) 11 v4) 12 v5)))]) := D_LA hD
  refine lv_dup hx hb dX5_digest_128 rfl ?_
  refine lv_bipush (v := (13 : Int32)) hx hb dX5_digest_129 (by decide) ?_
  refine lv_aload_n hx hb dX5_digest_131 rfl (lv_at hl 0 rfl) ?_
  obtain ⟨v6, hc6, hok⟩ := bd_some hok
  refine cRVi (ci := 5) (q0 := 0) [] S hK (cP_LA hP) (c_X5_rises l dC dI cI cZ l0 l4 l5 l6 l8 l10 l11 l12 l13 l14 l15 l16 (uL.1, uL.2.1, uL.2.2.1, (0 : Int32), uL.2.2.2.2) hc6) (lw_V qm_X5_152 qi_X5_rises qs_X5_rises qn_X5 qc_X5_rises) hd_X5_rises ⟨rfl, rfl⟩ ⟨Nat.le_of_ble_eq_true rfl, Nat.le_of_ble_eq_true rfl⟩ ⟨by show (0 + 1) ≤ 14; omega, by show (0 + 22) ≤ 87; omega⟩ rfl rfl rfl hl.1 (Nat.le_of_ble_eq_true rfl) rfl dX5_digest_132 ?_
  refine va_iastK hx hb hK hP hD hS 12 0 rfl rfl (j := 13) (by decide) (vp_inK (by decide)) dX5_digest_135 (fun H locs hP _ hS => ?_)
  have hP : va_P (dC, dI) vwCl ((wX5 cI cZ l0 l4 l5 l6 l8 l10 l11 l12 l13 l14 l15 l16 (uL.1, uL.2.1, uL.2.2.1, (0 : Int32), uL.2.2.2.2)) ++ [(q1, .inl (cI, 22, .inl (upd (upd (upd (upd (upd (upd (upd (upd (upd (upd (upd (upd (upd (upd (fun _ => (0 : Int32)) 0 uL.2.2.2.2.1) 1 (uL.1 0)) 2 (uL.1 1)) 3 (uL.1 2)) 4 v2) 5 (uL.1 3)) 6 (uL.1 4)) 7 uL.2.2.2.2.2.1) 8 (uL.1 5)) 9 v3) 10 (uL.1 8)) 11 v4) 12 v5) 13 v6)))]) H := hP
  have hD : va_D A ((wX5 cI cZ l0 l4 l5 l6 l8 l10 l11 l12 l13 l14 l15 l16 (uL.1, uL.2.1, uL.2.2.1, (0 : Int32), uL.2.2.2.2)) ++ [(q1, .inl (cI, 22, .inl (upd (upd (upd (upd (upd (upd (upd (upd (upd (upd (upd (upd (upd (upd (fun _ => (0 : Int32)) 0 uL.2.2.2.2.1) 1 (uL.1 0)) 2 (uL.1 1)) 3 (uL.1 2)) 4 v2) 5 (uL.1 3)) 6 (uL.1 4)) 7 uL.2.2.2.2.2.1) 8 (uL.1 5)) 9 v3) 10 (uL.1 8)) 11 v4) 12 v5) 13 v6)))]) := D_LA hD
  refine lv_dup hx hb dX5_digest_136 rfl ?_
  refine lv_bipush (v := (14 : Int32)) hx hb dX5_digest_137 (by decide) ?_
  refine lv_aload_n hx hb dX5_digest_139 rfl (lv_at hl 0 rfl) ?_
  refine va_get (D := (dC, dI)) (ci := 5) (v := .ref l15) (C := RX5) (T := TX5) (N := 18) hx hb hts inX5 hown hK hP 0 rfl rfl 15 (by decide) (hts _ qf_X5_44) (fun _ h9 => h9) rfl dX5_digest_140 ?_
  refine lv_bipush (v := (7 : Int32)) hx hb dX5_digest_143 (by decide) ?_
  refine va_ialdK hx hb hK hP 10 0 rfl rfl (j := 7) (by decide) (vp_inK (by decide)) dX5_digest_145 ?_
  obtain ⟨v7, hc7, hok⟩ := bd_some hok
  refine cRSi [.int (uL.1 7)] S hK va_Pnil (c_X5_ones l dC dI cI cZ (uL.1 7) hc7) (lw_S qm_X5_116 qt_X5_ones qn_X5 qc_X5_ones) hd_X5_ones ⟨rfl, rfl⟩ ⟨Nat.le_of_ble_eq_true rfl, Nat.le_of_ble_eq_true rfl⟩ ⟨by show (0 + 1) ≤ 14; omega, by show (0 + 22) ≤ 87; omega⟩ rfl hl.1 (Nat.le_of_ble_eq_true rfl) rfl dX5_digest_146 ?_
  refine va_iastK hx hb hK hP hD hS 12 0 rfl rfl (j := 14) (by decide) (vp_inK (by decide)) dX5_digest_149 (fun H locs hP _ hS => ?_)
  have hP : va_P (dC, dI) vwCl ((wX5 cI cZ l0 l4 l5 l6 l8 l10 l11 l12 l13 l14 l15 l16 (uL.1, uL.2.1, uL.2.2.1, (0 : Int32), uL.2.2.2.2)) ++ [(q1, .inl (cI, 22, .inl (upd (upd (upd (upd (upd (upd (upd (upd (upd (upd (upd (upd (upd (upd (upd (fun _ => (0 : Int32)) 0 uL.2.2.2.2.1) 1 (uL.1 0)) 2 (uL.1 1)) 3 (uL.1 2)) 4 v2) 5 (uL.1 3)) 6 (uL.1 4)) 7 uL.2.2.2.2.2.1) 8 (uL.1 5)) 9 v3) 10 (uL.1 8)) 11 v4) 12 v5) 13 v6) 14 v7)))]) H := hP
  have hD : va_D A ((wX5 cI cZ l0 l4 l5 l6 l8 l10 l11 l12 l13 l14 l15 l16 (uL.1, uL.2.1, uL.2.2.1, (0 : Int32), uL.2.2.2.2)) ++ [(q1, .inl (cI, 22, .inl (upd (upd (upd (upd (upd (upd (upd (upd (upd (upd (upd (upd (upd (upd (upd (fun _ => (0 : Int32)) 0 uL.2.2.2.2.1) 1 (uL.1 0)) 2 (uL.1 1)) 3 (uL.1 2)) 4 v2) 5 (uL.1 3)) 6 (uL.1 4)) 7 uL.2.2.2.2.2.1) 8 (uL.1 5)) 9 v3) 10 (uL.1 8)) 11 v4) 12 v5) 13 v6) 14 v7)))]) := D_LA hD
  refine lv_dup hx hb dX5_digest_150 rfl ?_
  refine lv_bipush (v := (15 : Int32)) hx hb dX5_digest_151 (by decide) ?_
  refine lv_aload_n hx hb dX5_digest_153 rfl (lv_at hl 0 rfl) ?_
  obtain ⟨v8, hc8, hok⟩ := bd_some hok
  refine cRVi (ci := 5) (q0 := 0) [] S hK (cP_LA hP) (c_X5_hottest l dC dI cI cZ l0 l4 l5 l6 l8 l10 l11 l12 l13 l14 l15 l16 (uL.1, uL.2.1, uL.2.2.1, (0 : Int32), uL.2.2.2.2) hc8) (lw_V qm_X5_161 qi_X5_hottest qs_X5_hottest qn_X5 qc_X5_hottest) hd_X5_hottest ⟨rfl, rfl⟩ ⟨Nat.le_of_ble_eq_true rfl, Nat.le_of_ble_eq_true rfl⟩ ⟨by show (0 + 1) ≤ 14; omega, by show (0 + 22) ≤ 87; omega⟩ rfl rfl rfl hl.1 (Nat.le_of_ble_eq_true rfl) rfl dX5_digest_154 ?_
  refine va_iastK hx hb hK hP hD hS 12 0 rfl rfl (j := 15) (by decide) (vp_inK (by decide)) dX5_digest_157 (fun H locs hP _ hS => ?_)
  have hP : va_P (dC, dI) vwCl ((wX5 cI cZ l0 l4 l5 l6 l8 l10 l11 l12 l13 l14 l15 l16 (uL.1, uL.2.1, uL.2.2.1, (0 : Int32), uL.2.2.2.2)) ++ [(q1, .inl (cI, 22, .inl (upd (upd (upd (upd (upd (upd (upd (upd (upd (upd (upd (upd (upd (upd (upd (upd (fun _ => (0 : Int32)) 0 uL.2.2.2.2.1) 1 (uL.1 0)) 2 (uL.1 1)) 3 (uL.1 2)) 4 v2) 5 (uL.1 3)) 6 (uL.1 4)) 7 uL.2.2.2.2.2.1) 8 (uL.1 5)) 9 v3) 10 (uL.1 8)) 11 v4) 12 v5) 13 v6) 14 v7) 15 v8)))]) H := hP
  have hD : va_D A ((wX5 cI cZ l0 l4 l5 l6 l8 l10 l11 l12 l13 l14 l15 l16 (uL.1, uL.2.1, uL.2.2.1, (0 : Int32), uL.2.2.2.2)) ++ [(q1, .inl (cI, 22, .inl (upd (upd (upd (upd (upd (upd (upd (upd (upd (upd (upd (upd (upd (upd (upd (upd (fun _ => (0 : Int32)) 0 uL.2.2.2.2.1) 1 (uL.1 0)) 2 (uL.1 1)) 3 (uL.1 2)) 4 v2) 5 (uL.1 3)) 6 (uL.1 4)) 7 uL.2.2.2.2.2.1) 8 (uL.1 5)) 9 v3) 10 (uL.1 8)) 11 v4) 12 v5) 13 v6) 14 v7) 15 v8)))]) := D_LA hD
  refine lv_dup hx hb dX5_digest_158 rfl ?_
  refine lv_bipush (v := (16 : Int32)) hx hb dX5_digest_159 (by decide) ?_
  refine lv_aload_n hx hb dX5_digest_161 rfl (lv_at hl 0 rfl) ?_
  obtain ⟨v9, hc9, hok⟩ := bd_some hok
  refine cRVi (ci := 5) (q0 := 0) [] S hK (cP_LA hP) (c_X5_kind l dC dI cI cZ l0 l4 l5 l6 l8 l10 l11 l12 l13 l14 l15 l16 (uL.1, uL.2.1, uL.2.2.1, (0 : Int32), uL.2.2.2.2) hc9) (lw_V qm_X5_176 qi_X5_kind qs_X5_kind qn_X5 qc_X5_kind) hd_X5_kind ⟨rfl, rfl⟩ ⟨Nat.le_of_ble_eq_true rfl, Nat.le_of_ble_eq_true rfl⟩ ⟨by show (0 + 1) ≤ 14; omega, by show (0 + 22) ≤ 87; omega⟩ rfl rfl rfl hl.1 (Nat.le_of_ble_eq_true rfl) rfl dX5_digest_162 ?_
  refine va_iastK hx hb hK hP hD hS 12 0 rfl rfl (j := 16) (by decide) (vp_inK (by decide)) dX5_digest_165 (fun H locs hP _ hS => ?_)
  have hP : va_P (dC, dI) vwCl ((wX5 cI cZ l0 l4 l5 l6 l8 l10 l11 l12 l13 l14 l15 l16 (uL.1, uL.2.1, uL.2.2.1, (0 : Int32), uL.2.2.2.2)) ++ [(q1, .inl (cI, 22, .inl (upd (upd (upd (upd (upd (upd (upd (upd (upd (upd (upd (upd (upd (upd (upd (upd (upd (fun _ => (0 : Int32)) 0 uL.2.2.2.2.1) 1 (uL.1 0)) 2 (uL.1 1)) 3 (uL.1 2)) 4 v2) 5 (uL.1 3)) 6 (uL.1 4)) 7 uL.2.2.2.2.2.1) 8 (uL.1 5)) 9 v3) 10 (uL.1 8)) 11 v4) 12 v5) 13 v6) 14 v7) 15 v8) 16 v9)))]) H := hP
  have hD : va_D A ((wX5 cI cZ l0 l4 l5 l6 l8 l10 l11 l12 l13 l14 l15 l16 (uL.1, uL.2.1, uL.2.2.1, (0 : Int32), uL.2.2.2.2)) ++ [(q1, .inl (cI, 22, .inl (upd (upd (upd (upd (upd (upd (upd (upd (upd (upd (upd (upd (upd (upd (upd (upd (upd (fun _ => (0 : Int32)) 0 uL.2.2.2.2.1) 1 (uL.1 0)) 2 (uL.1 1)) 3 (uL.1 2)) 4 v2) 5 (uL.1 3)) 6 (uL.1 4)) 7 uL.2.2.2.2.2.1) 8 (uL.1 5)) 9 v3) 10 (uL.1 8)) 11 v4) 12 v5) 13 v6) 14 v7) 15 v8) 16 v9)))]) := D_LA hD
  refine lv_dup hx hb dX5_digest_166 rfl ?_
  refine lv_bipush (v := (17 : Int32)) hx hb dX5_digest_167 (by decide) ?_
  refine lv_aload_n hx hb dX5_digest_169 rfl (lv_at hl 0 rfl) ?_
  obtain ⟨v10, hc10, hok⟩ := bd_some hok
  refine cUVi (ci := 5) (q0 := 0) [] S hK (cP_LA hP) (cD_LA hD) hS hA (c_X5_untilStuck l dC dI cI cZ l0 l4 l5 l6 l8 l10 l11 l12 l13 l14 l15 l16 _ (uL.1, uL.2.1, uL.2.2.1, (0 : Int32), uL.2.2.2.2) hc10) (lw_V qm_X5_188 qi_X5_untilStuck qs_X5_untilStuck qn_X5 qc_X5_untilStuck) hd_X5_untilStuck ⟨rfl, rfl⟩ ⟨Nat.le_of_ble_eq_true rfl, Nat.le_of_ble_eq_true rfl⟩ ⟨by show (0 + 1) + 0 ≤ 14; omega, by show (0 + 22) + 0 ≤ 87; omega⟩ rfl rfl rfl hl.1 (Nat.le_of_ble_eq_true rfl) rfl dX5_digest_170 (fun H1 hk9 h9 => cJ_LA hP hD hk9 h9) (D_LA hD) (fun H locs hP hD hS => ?_)
  refine va_iastK hx hb hK hP hD hS 12 0 rfl rfl (j := 17) (by decide) (vp_inK (by decide)) dX5_digest_173 (fun H locs hP _ hS => ?_)
  have hP : va_P (dC, dI) vwCl ((wX5 cI cZ l0 l4 l5 l6 l8 l10 l11 l12 l13 l14 l15 l16 v10.2) ++ [(q1, .inl (cI, 22, .inl (upd (upd (upd (upd (upd (upd (upd (upd (upd (upd (upd (upd (upd (upd (upd (upd (upd (upd (fun _ => (0 : Int32)) 0 uL.2.2.2.2.1) 1 (uL.1 0)) 2 (uL.1 1)) 3 (uL.1 2)) 4 v2) 5 (uL.1 3)) 6 (uL.1 4)) 7 uL.2.2.2.2.2.1) 8 (uL.1 5)) 9 v3) 10 (uL.1 8)) 11 v4) 12 v5) 13 v6) 14 v7) 15 v8) 16 v9) 17 v10.1)))]) H := hP
  have hD : va_D A ((wX5 cI cZ l0 l4 l5 l6 l8 l10 l11 l12 l13 l14 l15 l16 v10.2) ++ [(q1, .inl (cI, 22, .inl (upd (upd (upd (upd (upd (upd (upd (upd (upd (upd (upd (upd (upd (upd (upd (upd (upd (upd (fun _ => (0 : Int32)) 0 uL.2.2.2.2.1) 1 (uL.1 0)) 2 (uL.1 1)) 3 (uL.1 2)) 4 v2) 5 (uL.1 3)) 6 (uL.1 4)) 7 uL.2.2.2.2.2.1) 8 (uL.1 5)) 9 v3) 10 (uL.1 8)) 11 v4) 12 v5) 13 v6) 14 v7) 15 v8) 16 v9) 17 v10.1)))]) := D_LA hD
  refine lv_dup hx hb dX5_digest_174 rfl ?_
  refine lv_bipush (v := (18 : Int32)) hx hb dX5_digest_175 (by decide) ?_
  refine lv_aload_n hx hb dX5_digest_177 rfl (lv_at hl 0 rfl) ?_
  refine lv_bipush (v := (20 : Int32)) hx hb dX5_digest_178 (by decide) ?_
  refine lv_bipush (v := (8 : Int32)) hx hb dX5_digest_180 (by decide) ?_
  obtain ⟨v11, hc11, hok⟩ := bd_some hok
  refine cUVi (ci := 5) (q0 := 0) [.int (20 : Int32), .int (8 : Int32)] S hK (cP_LA hP) (cD_LA hD) hS hA (c_X5_then l dC dI cI cZ l0 l4 l5 l6 l8 l10 l11 l12 l13 l14 l15 l16 _ v10.2 (20 : Int32) (8 : Int32) hc11) (lw_V qm_X5_194 qi_X5_then qs_X5_then qn_X5 qc_X5_then) hd_X5_then ⟨rfl, rfl⟩ ⟨Nat.le_of_ble_eq_true rfl, Nat.le_of_ble_eq_true rfl⟩ ⟨by show (0 + 1) + 0 ≤ 14; omega, by show (0 + 22) + 0 ≤ 87; omega⟩ rfl rfl rfl hl.1 (Nat.le_of_ble_eq_true rfl) rfl dX5_digest_182 (fun H1 hk9 h9 => cJ_LA hP hD hk9 h9) (D_LA hD) (fun H locs hP hD hS => ?_)
  refine lv_aload_n hx hb dX5_digest_185 rfl (lv_at hl 0 rfl) ?_
  refine va_get (D := (dC, dI)) (ci := 5) (v := .ref l15) (C := RX5) (T := TX5) (N := 18) hx hb hts inX5 hown hK hP 0 rfl rfl 15 (by decide) (hts _ qf_X5_44) (fun _ h9 => h9) rfl dX5_digest_186 ?_
  refine lv_bipush (v := (8 : Int32)) hx hb dX5_digest_189 (by decide) ?_
  refine va_ialdK hx hb hK hP 10 0 rfl rfl (j := 8) (by decide) (vp_inK (by decide)) dX5_digest_191 ?_
  refine lv_isub hx hb dX5_digest_192 ?_
  refine va_iastK hx hb hK hP hD hS 12 0 rfl rfl (j := 18) (by decide) (vp_inK (by decide)) dX5_digest_193 (fun H locs hP _ hS => ?_)
  have hP : va_P (dC, dI) vwCl ((wX5 cI cZ l0 l4 l5 l6 l8 l10 l11 l12 l13 l14 l15 l16 v11.2) ++ [(q1, .inl (cI, 22, .inl (upd (upd (upd (upd (upd (upd (upd (upd (upd (upd (upd (upd (upd (upd (upd (upd (upd (upd (upd (fun _ => (0 : Int32)) 0 uL.2.2.2.2.1) 1 (uL.1 0)) 2 (uL.1 1)) 3 (uL.1 2)) 4 v2) 5 (uL.1 3)) 6 (uL.1 4)) 7 uL.2.2.2.2.2.1) 8 (uL.1 5)) 9 v3) 10 (uL.1 8)) 11 v4) 12 v5) 13 v6) 14 v7) 15 v8) 16 v9) 17 v10.1) 18 (v11.1 - (v11.2.1 8)))))]) H := hP
  have hD : va_D A ((wX5 cI cZ l0 l4 l5 l6 l8 l10 l11 l12 l13 l14 l15 l16 v11.2) ++ [(q1, .inl (cI, 22, .inl (upd (upd (upd (upd (upd (upd (upd (upd (upd (upd (upd (upd (upd (upd (upd (upd (upd (upd (upd (fun _ => (0 : Int32)) 0 uL.2.2.2.2.1) 1 (uL.1 0)) 2 (uL.1 1)) 3 (uL.1 2)) 4 v2) 5 (uL.1 3)) 6 (uL.1 4)) 7 uL.2.2.2.2.2.1) 8 (uL.1 5)) 9 v3) 10 (uL.1 8)) 11 v4) 12 v5) 13 v6) 14 v7) 15 v8) 16 v9) 17 v10.1) 18 (v11.1 - (v11.2.1 8)))))]) := D_LA hD
  refine lv_dup hx hb dX5_digest_194 rfl ?_
  refine lv_bipush (v := (19 : Int32)) hx hb dX5_digest_195 (by decide) ?_
  refine lv_aload_n hx hb dX5_digest_197 rfl (lv_at hl 0 rfl) ?_
  refine lv_bipush (v := (20 : Int32)) hx hb dX5_digest_198 (by decide) ?_
  refine lv_bipush (v := (7 : Int32)) hx hb dX5_digest_200 (by decide) ?_
  obtain ⟨v12, hc12, hok⟩ := bd_some hok
  refine cUVi (ci := 5) (q0 := 0) [.int (20 : Int32), .int (7 : Int32)] S hK (cP_LA hP) (cD_LA hD) hS hA (c_X5_then l dC dI cI cZ l0 l4 l5 l6 l8 l10 l11 l12 l13 l14 l15 l16 _ v11.2 (20 : Int32) (7 : Int32) hc12) (lw_V qm_X5_194 qi_X5_then qs_X5_then qn_X5 qc_X5_then) hd_X5_then ⟨rfl, rfl⟩ ⟨Nat.le_of_ble_eq_true rfl, Nat.le_of_ble_eq_true rfl⟩ ⟨by show (0 + 1) + 0 ≤ 14; omega, by show (0 + 22) + 0 ≤ 87; omega⟩ rfl rfl rfl hl.1 (Nat.le_of_ble_eq_true rfl) rfl dX5_digest_202 (fun H1 hk9 h9 => cJ_LA hP hD hk9 h9) (D_LA hD) (fun H locs hP hD hS => ?_)
  refine va_iastK hx hb hK hP hD hS 12 0 rfl rfl (j := 19) (by decide) (vp_inK (by decide)) dX5_digest_205 (fun H locs hP _ hS => ?_)
  have hP : va_P (dC, dI) vwCl ((wX5 cI cZ l0 l4 l5 l6 l8 l10 l11 l12 l13 l14 l15 l16 v12.2) ++ [(q1, .inl (cI, 22, .inl (upd (upd (upd (upd (upd (upd (upd (upd (upd (upd (upd (upd (upd (upd (upd (upd (upd (upd (upd (upd (fun _ => (0 : Int32)) 0 uL.2.2.2.2.1) 1 (uL.1 0)) 2 (uL.1 1)) 3 (uL.1 2)) 4 v2) 5 (uL.1 3)) 6 (uL.1 4)) 7 uL.2.2.2.2.2.1) 8 (uL.1 5)) 9 v3) 10 (uL.1 8)) 11 v4) 12 v5) 13 v6) 14 v7) 15 v8) 16 v9) 17 v10.1) 18 (v11.1 - (v11.2.1 8))) 19 v12.1)))]) H := hP
  have hD : va_D A ((wX5 cI cZ l0 l4 l5 l6 l8 l10 l11 l12 l13 l14 l15 l16 v12.2) ++ [(q1, .inl (cI, 22, .inl (upd (upd (upd (upd (upd (upd (upd (upd (upd (upd (upd (upd (upd (upd (upd (upd (upd (upd (upd (upd (fun _ => (0 : Int32)) 0 uL.2.2.2.2.1) 1 (uL.1 0)) 2 (uL.1 1)) 3 (uL.1 2)) 4 v2) 5 (uL.1 3)) 6 (uL.1 4)) 7 uL.2.2.2.2.2.1) 8 (uL.1 5)) 9 v3) 10 (uL.1 8)) 11 v4) 12 v5) 13 v6) 14 v7) 15 v8) 16 v9) 17 v10.1) 18 (v11.1 - (v11.2.1 8))) 19 v12.1)))]) := D_LA hD
  refine lv_dup hx hb dX5_digest_206 rfl ?_
  refine lv_bipush (v := (20 : Int32)) hx hb dX5_digest_207 (by decide) ?_
  refine lv_aload_n hx hb dX5_digest_209 rfl (lv_at hl 0 rfl) ?_
  refine lv_bipush (v := (10 : Int32)) hx hb dX5_digest_210 (by decide) ?_
  obtain ⟨v13, hc13, hok⟩ := bd_some hok
  refine cUVi (ci := 5) (q0 := 0) [.int (10 : Int32)] S hK (cP_LA hP) (cD_LA hD) hS hA (c_X5_callBest l dC dI cI cZ l0 l4 l5 l6 l8 l10 l11 l12 l13 l14 l15 l16 _ v12.2 (10 : Int32) hc13) (lw_V qm_X5_197 qi_X5_callBest qs_X5_callBest qn_X5 qc_X5_callBest) hd_X5_callBest ⟨rfl, rfl⟩ ⟨Nat.le_of_ble_eq_true rfl, Nat.le_of_ble_eq_true rfl⟩ ⟨by show (0 + 1) + 0 ≤ 14; omega, by show (0 + 22) + 0 ≤ 87; omega⟩ rfl rfl rfl hl.1 (Nat.le_of_ble_eq_true rfl) rfl dX5_digest_212 (fun H1 hk9 h9 => cJ_LA hP hD hk9 h9) (D_LA hD) (fun H locs hP hD hS => ?_)
  refine va_iastK hx hb hK hP hD hS 12 0 rfl rfl (j := 20) (by decide) (vp_inK (by decide)) dX5_digest_215 (fun H locs hP _ hS => ?_)
  have hP : va_P (dC, dI) vwCl ((wX5 cI cZ l0 l4 l5 l6 l8 l10 l11 l12 l13 l14 l15 l16 v13.2) ++ [(q1, .inl (cI, 22, .inl (upd (upd (upd (upd (upd (upd (upd (upd (upd (upd (upd (upd (upd (upd (upd (upd (upd (upd (upd (upd (upd (fun _ => (0 : Int32)) 0 uL.2.2.2.2.1) 1 (uL.1 0)) 2 (uL.1 1)) 3 (uL.1 2)) 4 v2) 5 (uL.1 3)) 6 (uL.1 4)) 7 uL.2.2.2.2.2.1) 8 (uL.1 5)) 9 v3) 10 (uL.1 8)) 11 v4) 12 v5) 13 v6) 14 v7) 15 v8) 16 v9) 17 v10.1) 18 (v11.1 - (v11.2.1 8))) 19 v12.1) 20 v13.1)))]) H := hP
  have hD : va_D A ((wX5 cI cZ l0 l4 l5 l6 l8 l10 l11 l12 l13 l14 l15 l16 v13.2) ++ [(q1, .inl (cI, 22, .inl (upd (upd (upd (upd (upd (upd (upd (upd (upd (upd (upd (upd (upd (upd (upd (upd (upd (upd (upd (upd (upd (fun _ => (0 : Int32)) 0 uL.2.2.2.2.1) 1 (uL.1 0)) 2 (uL.1 1)) 3 (uL.1 2)) 4 v2) 5 (uL.1 3)) 6 (uL.1 4)) 7 uL.2.2.2.2.2.1) 8 (uL.1 5)) 9 v3) 10 (uL.1 8)) 11 v4) 12 v5) 13 v6) 14 v7) 15 v8) 16 v9) 17 v10.1) 18 (v11.1 - (v11.2.1 8))) 19 v12.1) 20 v13.1)))]) := D_LA hD
  refine lv_dup hx hb dX5_digest_216 rfl ?_
  refine lv_bipush (v := (21 : Int32)) hx hb dX5_digest_217 (by decide) ?_
  refine lv_aload_n hx hb dX5_digest_219 rfl (lv_at hl 0 rfl) ?_
  refine lv_bipush (v := (10 : Int32)) hx hb dX5_digest_220 (by decide) ?_
  obtain ⟨v14, hc14, hok⟩ := bd_some hok
  refine cUVi (ci := 5) (q0 := 0) [.int (10 : Int32)] S hK (cP_LA hP) (cD_LA hD) hS hA (c_X5_allowBest l dC dI cI cZ l0 l4 l5 l6 l8 l10 l11 l12 l13 l14 l15 l16 _ v13.2 (10 : Int32) hc14) (lw_V qm_X5_200 qi_X5_allowBest qs_X5_allowBest qn_X5 qc_X5_allowBest) hd_X5_allowBest ⟨rfl, rfl⟩ ⟨Nat.le_of_ble_eq_true rfl, Nat.le_of_ble_eq_true rfl⟩ ⟨by show (0 + 1) + 0 ≤ 14; omega, by show (0 + 22) + 0 ≤ 87; omega⟩ rfl rfl rfl hl.1 (Nat.le_of_ble_eq_true rfl) rfl dX5_digest_222 (fun H1 hk9 h9 => cJ_LA hP hD hk9 h9) (D_LA hD) (fun H locs hP hD hS => ?_)
  refine va_iastK hx hb hK hP hD hS 12 0 rfl rfl (j := 21) (by decide) (vp_inK (by decide)) dX5_digest_225 (fun H locs hP _ hS => ?_)
  have hP : va_P (dC, dI) vwCl ((wX5 cI cZ l0 l4 l5 l6 l8 l10 l11 l12 l13 l14 l15 l16 v14.2) ++ [(q1, .inl (cI, 22, .inl (upd (upd (upd (upd (upd (upd (upd (upd (upd (upd (upd (upd (upd (upd (upd (upd (upd (upd (upd (upd (upd (upd (fun _ => (0 : Int32)) 0 uL.2.2.2.2.1) 1 (uL.1 0)) 2 (uL.1 1)) 3 (uL.1 2)) 4 v2) 5 (uL.1 3)) 6 (uL.1 4)) 7 uL.2.2.2.2.2.1) 8 (uL.1 5)) 9 v3) 10 (uL.1 8)) 11 v4) 12 v5) 13 v6) 14 v7) 15 v8) 16 v9) 17 v10.1) 18 (v11.1 - (v11.2.1 8))) 19 v12.1) 20 v13.1) 21 v14.1)))]) H := hP
  have hD : va_D A ((wX5 cI cZ l0 l4 l5 l6 l8 l10 l11 l12 l13 l14 l15 l16 v14.2) ++ [(q1, .inl (cI, 22, .inl (upd (upd (upd (upd (upd (upd (upd (upd (upd (upd (upd (upd (upd (upd (upd (upd (upd (upd (upd (upd (upd (upd (fun _ => (0 : Int32)) 0 uL.2.2.2.2.1) 1 (uL.1 0)) 2 (uL.1 1)) 3 (uL.1 2)) 4 v2) 5 (uL.1 3)) 6 (uL.1 4)) 7 uL.2.2.2.2.2.1) 8 (uL.1 5)) 9 v3) 10 (uL.1 8)) 11 v4) 12 v5) 13 v6) 14 v7) 15 v8) 16 v9) 17 v10.1) 18 (v11.1 - (v11.2.1 8))) 19 v12.1) 20 v13.1) 21 v14.1)))]) := D_LA hD
  refine lv_astore_n (lv' := [(1, .ref q1), (0, .ref l0)]) hx hb dX5_digest_226 rfl hl (by decide) rfl (fun ls hl => ?_)
  refine lv_ldc2 (v := (2293 : Int64)) hx hb hown (hts _ ql_X5_203) dX5_digest_227 ?_
  refine lv_lstore_n (lv' := [(2, .long (2293 : Int64)), (1, .ref q1), (0, .ref l0)]) hx hb dX5_digest_230 rfl hl (by decide) rfl (fun ls hl => ?_)
  refine lv_aload_n hx hb dX5_digest_231 rfl (lv_at hl 1 rfl) ?_
  refine lv_astore (lv' := [(4, .ref q1), (2, .long (2293 : Int64)), (1, .ref q1), (0, .ref l0)]) hx hb dX5_digest_232 hl (by decide) rfl (fun ls hl => ?_)
  refine lv_aload hx hb dX5_digest_234 (lv_at hl 0 rfl) ?_
  refine va_alen (v := (22 : Int32)) hx hb hK hP 12 0 rfl rfl rfl dX5_digest_236 ?_
  refine lv_istore (lv' := [(5, .int (22 : Int32)), (4, .ref q1), (2, .long (2293 : Int64)), (1, .ref q1), (0, .ref l0)]) hx hb dX5_digest_237 hl (by decide) rfl (fun ls hl => ?_)
  refine lv_iconst (v := (0 : Int32)) hx hb dX5_digest_239 (by decide) ?_
  refine lv_istore (lv' := [(6, .int (0 : Int32)), (5, .int (22 : Int32)), (4, .ref q1), (2, .long (2293 : Int64)), (1, .ref q1), (0, .ref l0)]) hx hb dX5_digest_240 hl (by decide) rfl (fun ls hl => ?_)
  exact L242 200 v14.2 q1 (upd (upd (upd (upd (upd (upd (upd (upd (upd (upd (upd (upd (upd (upd (upd (upd (upd (upd (upd (upd (upd (upd (fun _ => (0 : Int32)) 0 uL.2.2.2.2.1) 1 (uL.1 0)) 2 (uL.1 1)) 3 (uL.1 2)) 4 v2) 5 (uL.1 3)) 6 (uL.1 4)) 7 uL.2.2.2.2.2.1) 8 (uL.1 5)) 9 v3) 10 (uL.1 8)) 11 v4) 12 v5) 13 v6) 14 v7) 15 v8) 16 v9) 17 v10.1) 18 (v11.1 - (v11.2.1 8))) 19 v12.1) 20 v13.1) 21 v14.1) (2293 : Int64) (22 : Int32) (0 : Int32) (0 + 1) (0 + 22) (by omega) (by omega) _ _ hP hD hS _ (lv_sub hl [5, 3, 2, 1, 0] rfl) hok
