abbrev wY5 (cI cZ cJ : ClassId) (g0 a7 a8 a9 a10 a11 a12 g7 g8 g9 g10 g11 g12 : Nat) (G9 G10 G11 G12 : Nat → Nat) (u : tX5) : va_W := [(g0, .inr (5, [.int u.1, .int u.2.1, .int u.2.2.1, .int u.2.2.2.1, .int u.2.2.2.2.1, .int u.2.2.2.2.2.1, .int u.2.2.2.2.2.2.1, .ref a7, .ref a8, .ref a9, .ref a10, .ref a11, .ref a12, .int u.2.2.2.2.2.2.2.2.2.2.2.2.2])), (g7, .inl (cZ, u.2.2.2.2.2.2.2.1.1, .inl u.2.2.2.2.2.2.2.1.2)), (g8, .inl (cZ, 8, .inl u.2.2.2.2.2.2.2.2.1)), (g9, .inl (cJ, rfs u.2.2.2.2.2.2.2.2.2.1.1 G9)), (g10, .inl (cJ, rfs u.2.2.2.2.2.2.2.2.2.2.1.1 G10)), (g11, .inl (cJ, rfs u.2.2.2.2.2.2.2.2.2.2.2.1.1 G11)), (g12, .inl (cJ, rfs u.2.2.2.2.2.2.2.2.2.2.2.2.1.1 G12))] ++ (rW cI G9 u.2.2.2.2.2.2.2.2.2.1 ++ (rW cI G10 u.2.2.2.2.2.2.2.2.2.2.1 ++ (rW cI G11 u.2.2.2.2.2.2.2.2.2.2.2.1 ++ rW cI G12 u.2.2.2.2.2.2.2.2.2.2.2.2.1)))
theorem wD_re {D : va_G} {cl : List vw_C} {A : Nat → Prop} {ws ws' : va_W} {H : Heap} (hP : va_P D cl ws H) (hD : va_D A ws) (hm : ∀ x ∈ ws', x ∈ ws) (hc : ∀ a, (ws'.map (fun x => x.1)).count a ≤ (ws.map (fun x => x.1)).count a) : va_P D cl ws' H ∧ va_D A ws' := ⟨wP_sub hP hm, wD_cnt hD (fun x hx => wD_of hD x (hm x hx)) hc⟩
theorem ab10 {D : va_G} {cl : List vw_C} {A : Nat → Prop} {H : Heap} {cI cZ cJ : ClassId} {g0 g7 g8 g9 g10 g11 g12 : Nat} {G9 G10 G11 G12 : Nat → Nat} {u : tX5} {wa : va_W} {a1 q n : Nat} {f : Nat → Int32} (hP : va_P D cl (wa ++ (wY5 cI cZ cJ g0 g7 g8 g9 a1 g11 g12 g7 g8 g9 g10 g11 g12 G9 G10 G11 G12 u ++ [(q, .inl (cI, n, .inl f)), (a1, .inl (cJ, rfs (u.2.2.2.2.2.2.2.2.2.2.1.1 + 1) (va_up G10 u.2.2.2.2.2.2.2.2.2.2.1.1 q)))])) H) (hD : va_D A (wa ++ (wY5 cI cZ cJ g0 g7 g8 g9 a1 g11 g12 g7 g8 g9 g10 g11 g12 G9 G10 G11 G12 u ++ [(q, .inl (cI, n, .inl f)), (a1, .inl (cJ, rfs (u.2.2.2.2.2.2.2.2.2.2.1.1 + 1) (va_up G10 u.2.2.2.2.2.2.2.2.2.2.1.1 q)))]))) : va_P D cl (wa ++ (wX5 cI cZ cJ g0 g7 g8 g9 a1 g11 g12 G9 (va_up G10 u.2.2.2.2.2.2.2.2.2.2.1.1 q) G11 G12 (u.1, u.2.1, u.2.2.1, u.2.2.2.1, u.2.2.2.2.1, u.2.2.2.2.2.1, u.2.2.2.2.2.2.1, u.2.2.2.2.2.2.2.1, u.2.2.2.2.2.2.2.2.1, u.2.2.2.2.2.2.2.2.2.1, pR u.2.2.2.2.2.2.2.2.2.2.1 (n, f), u.2.2.2.2.2.2.2.2.2.2.2.1, u.2.2.2.2.2.2.2.2.2.2.2.2.1, u.2.2.2.2.2.2.2.2.2.2.2.2.2) ++ ([] : va_W))) H ∧ va_D A (wa ++ (wX5 cI cZ cJ g0 g7 g8 g9 a1 g11 g12 G9 (va_up G10 u.2.2.2.2.2.2.2.2.2.2.1.1 q) G11 G12 (u.1, u.2.1, u.2.2.1, u.2.2.2.1, u.2.2.2.2.1, u.2.2.2.2.2.1, u.2.2.2.2.2.2.1, u.2.2.2.2.2.2.2.1, u.2.2.2.2.2.2.2.2.1, u.2.2.2.2.2.2.2.2.2.1, pR u.2.2.2.2.2.2.2.2.2.2.1 (n, f), u.2.2.2.2.2.2.2.2.2.2.2.1, u.2.2.2.2.2.2.2.2.2.2.2.2.1, u.2.2.2.2.2.2.2.2.2.2.2.2.2) ++ ([] : va_W))) := by
  show va_P D cl (wa ++ (([(g0, .inr (5, [.int u.1, .int u.2.1, .int u.2.2.1, .int u.2.2.2.1, .int u.2.2.2.2.1, .int u.2.2.2.2.2.1, .int u.2.2.2.2.2.2.1, .ref g7, .ref g8, .ref g9, .ref a1, .ref g11, .ref g12, .int u.2.2.2.2.2.2.2.2.2.2.2.2.2])), (g7, .inl (cZ, u.2.2.2.2.2.2.2.1.1, .inl u.2.2.2.2.2.2.2.1.2)), (g8, .inl (cZ, 8, .inl u.2.2.2.2.2.2.2.2.1)), (g9, .inl (cJ, rfs u.2.2.2.2.2.2.2.2.2.1.1 G9)), (a1, .inl (cJ, rfs (u.2.2.2.2.2.2.2.2.2.2.1.1 + 1) (va_up G10 u.2.2.2.2.2.2.2.2.2.2.1.1 q))), (g11, .inl (cJ, rfs u.2.2.2.2.2.2.2.2.2.2.2.1.1 G11)), (g12, .inl (cJ, rfs u.2.2.2.2.2.2.2.2.2.2.2.2.1.1 G12))] ++ (rW cI G9 u.2.2.2.2.2.2.2.2.2.1 ++ (rW cI (va_up G10 u.2.2.2.2.2.2.2.2.2.2.1.1 q) (pR u.2.2.2.2.2.2.2.2.2.2.1 (n, f)) ++ (rW cI G11 u.2.2.2.2.2.2.2.2.2.2.2.1 ++ rW cI G12 u.2.2.2.2.2.2.2.2.2.2.2.2.1)))) ++ ([] : va_W))) H ∧ va_D A (wa ++ (([(g0, .inr (5, [.int u.1, .int u.2.1, .int u.2.2.1, .int u.2.2.2.1, .int u.2.2.2.2.1, .int u.2.2.2.2.2.1, .int u.2.2.2.2.2.2.1, .ref g7, .ref g8, .ref g9, .ref a1, .ref g11, .ref g12, .int u.2.2.2.2.2.2.2.2.2.2.2.2.2])), (g7, .inl (cZ, u.2.2.2.2.2.2.2.1.1, .inl u.2.2.2.2.2.2.2.1.2)), (g8, .inl (cZ, 8, .inl u.2.2.2.2.2.2.2.2.1)), (g9, .inl (cJ, rfs u.2.2.2.2.2.2.2.2.2.1.1 G9)), (a1, .inl (cJ, rfs (u.2.2.2.2.2.2.2.2.2.2.1.1 + 1) (va_up G10 u.2.2.2.2.2.2.2.2.2.2.1.1 q))), (g11, .inl (cJ, rfs u.2.2.2.2.2.2.2.2.2.2.2.1.1 G11)), (g12, .inl (cJ, rfs u.2.2.2.2.2.2.2.2.2.2.2.2.1.1 G12))] ++ (rW cI G9 u.2.2.2.2.2.2.2.2.2.1 ++ (rW cI (va_up G10 u.2.2.2.2.2.2.2.2.2.2.1.1 q) (pR u.2.2.2.2.2.2.2.2.2.2.1 (n, f)) ++ (rW cI G11 u.2.2.2.2.2.2.2.2.2.2.2.1 ++ rW cI G12 u.2.2.2.2.2.2.2.2.2.2.2.2.1)))) ++ ([] : va_W)))
  rw [rW_push]
  refine wD_re hP hD (fun x hx => ?_) (fun a => ?_)
  · simp only [List.mem_append, List.mem_cons, List.not_mem_nil, or_false, false_or] at hx ⊢
    grind
  · simp only [List.map_append, List.map_cons, List.map_nil, List.count_append, List.count_cons, List.count_nil]
    omega
theorem ab11 {D : va_G} {cl : List vw_C} {A : Nat → Prop} {H : Heap} {cI cZ cJ : ClassId} {g0 g7 g8 g9 g10 g11 g12 : Nat} {G9 G10 G11 G12 : Nat → Nat} {u : tX5} {wa : va_W} {a1 q n : Nat} {f : Nat → Int32} (hP : va_P D cl (wa ++ (wY5 cI cZ cJ g0 g7 g8 g9 g10 a1 g12 g7 g8 g9 g10 g11 g12 G9 G10 G11 G12 u ++ [(q, .inl (cI, n, .inl f)), (a1, .inl (cJ, rfs (u.2.2.2.2.2.2.2.2.2.2.2.1.1 + 1) (va_up G11 u.2.2.2.2.2.2.2.2.2.2.2.1.1 q)))])) H) (hD : va_D A (wa ++ (wY5 cI cZ cJ g0 g7 g8 g9 g10 a1 g12 g7 g8 g9 g10 g11 g12 G9 G10 G11 G12 u ++ [(q, .inl (cI, n, .inl f)), (a1, .inl (cJ, rfs (u.2.2.2.2.2.2.2.2.2.2.2.1.1 + 1) (va_up G11 u.2.2.2.2.2.2.2.2.2.2.2.1.1 q)))]))) : va_P D cl (wa ++ (wX5 cI cZ cJ g0 g7 g8 g9 g10 a1 g12 G9 G10 (va_up G11 u.2.2.2.2.2.2.2.2.2.2.2.1.1 q) G12 (u.1, u.2.1, u.2.2.1, u.2.2.2.1, u.2.2.2.2.1, u.2.2.2.2.2.1, u.2.2.2.2.2.2.1, u.2.2.2.2.2.2.2.1, u.2.2.2.2.2.2.2.2.1, u.2.2.2.2.2.2.2.2.2.1, u.2.2.2.2.2.2.2.2.2.2.1, pR u.2.2.2.2.2.2.2.2.2.2.2.1 (n, f), u.2.2.2.2.2.2.2.2.2.2.2.2.1, u.2.2.2.2.2.2.2.2.2.2.2.2.2) ++ ([] : va_W))) H ∧ va_D A (wa ++ (wX5 cI cZ cJ g0 g7 g8 g9 g10 a1 g12 G9 G10 (va_up G11 u.2.2.2.2.2.2.2.2.2.2.2.1.1 q) G12 (u.1, u.2.1, u.2.2.1, u.2.2.2.1, u.2.2.2.2.1, u.2.2.2.2.2.1, u.2.2.2.2.2.2.1, u.2.2.2.2.2.2.2.1, u.2.2.2.2.2.2.2.2.1, u.2.2.2.2.2.2.2.2.2.1, u.2.2.2.2.2.2.2.2.2.2.1, pR u.2.2.2.2.2.2.2.2.2.2.2.1 (n, f), u.2.2.2.2.2.2.2.2.2.2.2.2.1, u.2.2.2.2.2.2.2.2.2.2.2.2.2) ++ ([] : va_W))) := by
  show va_P D cl (wa ++ (([(g0, .inr (5, [.int u.1, .int u.2.1, .int u.2.2.1, .int u.2.2.2.1, .int u.2.2.2.2.1, .int u.2.2.2.2.2.1, .int u.2.2.2.2.2.2.1, .ref g7, .ref g8, .ref g9, .ref g10, .ref a1, .ref g12, .int u.2.2.2.2.2.2.2.2.2.2.2.2.2])), (g7, .inl (cZ, u.2.2.2.2.2.2.2.1.1, .inl u.2.2.2.2.2.2.2.1.2)), (g8, .inl (cZ, 8, .inl u.2.2.2.2.2.2.2.2.1)), (g9, .inl (cJ, rfs u.2.2.2.2.2.2.2.2.2.1.1 G9)), (g10, .inl (cJ, rfs u.2.2.2.2.2.2.2.2.2.2.1.1 G10)), (a1, .inl (cJ, rfs (u.2.2.2.2.2.2.2.2.2.2.2.1.1 + 1) (va_up G11 u.2.2.2.2.2.2.2.2.2.2.2.1.1 q))), (g12, .inl (cJ, rfs u.2.2.2.2.2.2.2.2.2.2.2.2.1.1 G12))] ++ (rW cI G9 u.2.2.2.2.2.2.2.2.2.1 ++ (rW cI G10 u.2.2.2.2.2.2.2.2.2.2.1 ++ (rW cI (va_up G11 u.2.2.2.2.2.2.2.2.2.2.2.1.1 q) (pR u.2.2.2.2.2.2.2.2.2.2.2.1 (n, f)) ++ rW cI G12 u.2.2.2.2.2.2.2.2.2.2.2.2.1)))) ++ ([] : va_W))) H ∧ va_D A (wa ++ (([(g0, .inr (5, [.int u.1, .int u.2.1, .int u.2.2.1, .int u.2.2.2.1, .int u.2.2.2.2.1, .int u.2.2.2.2.2.1, .int u.2.2.2.2.2.2.1, .ref g7, .ref g8, .ref g9, .ref g10, .ref a1, .ref g12, .int u.2.2.2.2.2.2.2.2.2.2.2.2.2])), (g7, .inl (cZ, u.2.2.2.2.2.2.2.1.1, .inl u.2.2.2.2.2.2.2.1.2)), (g8, .inl (cZ, 8, .inl u.2.2.2.2.2.2.2.2.1)), (g9, .inl (cJ, rfs u.2.2.2.2.2.2.2.2.2.1.1 G9)), (g10, .inl (cJ, rfs u.2.2.2.2.2.2.2.2.2.2.1.1 G10)), (a1, .inl (cJ, rfs (u.2.2.2.2.2.2.2.2.2.2.2.1.1 + 1) (va_up G11 u.2.2.2.2.2.2.2.2.2.2.2.1.1 q))), (g12, .inl (cJ, rfs u.2.2.2.2.2.2.2.2.2.2.2.2.1.1 G12))] ++ (rW cI G9 u.2.2.2.2.2.2.2.2.2.1 ++ (rW cI G10 u.2.2.2.2.2.2.2.2.2.2.1 ++ (rW cI (va_up G11 u.2.2.2.2.2.2.2.2.2.2.2.1.1 q) (pR u.2.2.2.2.2.2.2.2.2.2.2.1 (n, f)) ++ rW cI G12 u.2.2.2.2.2.2.2.2.2.2.2.2.1)))) ++ ([] : va_W)))
  rw [rW_push]
  refine wD_re hP hD (fun x hx => ?_) (fun a => ?_)
  · simp only [List.mem_append, List.mem_cons, List.not_mem_nil, or_false, false_or] at hx ⊢
    grind
  · simp only [List.map_append, List.map_cons, List.map_nil, List.count_append, List.count_cons, List.count_nil]
    omega
theorem ab12 {D : va_G} {cl : List vw_C} {A : Nat → Prop} {H : Heap} {cI cZ cJ : ClassId} {g0 g7 g8 g9 g10 g11 g12 : Nat} {G9 G10 G11 G12 : Nat → Nat} {u : tX5} {wa : va_W} {a1 q n : Nat} {f : Nat → Int32} (hP : va_P D cl (wa ++ (wY5 cI cZ cJ g0 g7 g8 g9 g10 g11 a1 g7 g8 g9 g10 g11 g12 G9 G10 G11 G12 u ++ [(q, .inl (cI, n, .inl f)), (a1, .inl (cJ, rfs (u.2.2.2.2.2.2.2.2.2.2.2.2.1.1 + 1) (va_up G12 u.2.2.2.2.2.2.2.2.2.2.2.2.1.1 q)))])) H) (hD : va_D A (wa ++ (wY5 cI cZ cJ g0 g7 g8 g9 g10 g11 a1 g7 g8 g9 g10 g11 g12 G9 G10 G11 G12 u ++ [(q, .inl (cI, n, .inl f)), (a1, .inl (cJ, rfs (u.2.2.2.2.2.2.2.2.2.2.2.2.1.1 + 1) (va_up G12 u.2.2.2.2.2.2.2.2.2.2.2.2.1.1 q)))]))) : va_P D cl (wa ++ (wX5 cI cZ cJ g0 g7 g8 g9 g10 g11 a1 G9 G10 G11 (va_up G12 u.2.2.2.2.2.2.2.2.2.2.2.2.1.1 q) (u.1, u.2.1, u.2.2.1, u.2.2.2.1, u.2.2.2.2.1, u.2.2.2.2.2.1, u.2.2.2.2.2.2.1, u.2.2.2.2.2.2.2.1, u.2.2.2.2.2.2.2.2.1, u.2.2.2.2.2.2.2.2.2.1, u.2.2.2.2.2.2.2.2.2.2.1, u.2.2.2.2.2.2.2.2.2.2.2.1, pR u.2.2.2.2.2.2.2.2.2.2.2.2.1 (n, f), u.2.2.2.2.2.2.2.2.2.2.2.2.2) ++ ([] : va_W))) H ∧ va_D A (wa ++ (wX5 cI cZ cJ g0 g7 g8 g9 g10 g11 a1 G9 G10 G11 (va_up G12 u.2.2.2.2.2.2.2.2.2.2.2.2.1.1 q) (u.1, u.2.1, u.2.2.1, u.2.2.2.1, u.2.2.2.2.1, u.2.2.2.2.2.1, u.2.2.2.2.2.2.1, u.2.2.2.2.2.2.2.1, u.2.2.2.2.2.2.2.2.1, u.2.2.2.2.2.2.2.2.2.1, u.2.2.2.2.2.2.2.2.2.2.1, u.2.2.2.2.2.2.2.2.2.2.2.1, pR u.2.2.2.2.2.2.2.2.2.2.2.2.1 (n, f), u.2.2.2.2.2.2.2.2.2.2.2.2.2) ++ ([] : va_W))) := by
  show va_P D cl (wa ++ (([(g0, .inr (5, [.int u.1, .int u.2.1, .int u.2.2.1, .int u.2.2.2.1, .int u.2.2.2.2.1, .int u.2.2.2.2.2.1, .int u.2.2.2.2.2.2.1, .ref g7, .ref g8, .ref g9, .ref g10, .ref g11, .ref a1, .int u.2.2.2.2.2.2.2.2.2.2.2.2.2])), (g7, .inl (cZ, u.2.2.2.2.2.2.2.1.1, .inl u.2.2.2.2.2.2.2.1.2)), (g8, .inl (cZ, 8, .inl u.2.2.2.2.2.2.2.2.1)), (g9, .inl (cJ, rfs u.2.2.2.2.2.2.2.2.2.1.1 G9)), (g10, .inl (cJ, rfs u.2.2.2.2.2.2.2.2.2.2.1.1 G10)), (g11, .inl (cJ, rfs u.2.2.2.2.2.2.2.2.2.2.2.1.1 G11)), (a1, .inl (cJ, rfs (u.2.2.2.2.2.2.2.2.2.2.2.2.1.1 + 1) (va_up G12 u.2.2.2.2.2.2.2.2.2.2.2.2.1.1 q)))] ++ (rW cI G9 u.2.2.2.2.2.2.2.2.2.1 ++ (rW cI G10 u.2.2.2.2.2.2.2.2.2.2.1 ++ (rW cI G11 u.2.2.2.2.2.2.2.2.2.2.2.1 ++ rW cI (va_up G12 u.2.2.2.2.2.2.2.2.2.2.2.2.1.1 q) (pR u.2.2.2.2.2.2.2.2.2.2.2.2.1 (n, f)))))) ++ ([] : va_W))) H ∧ va_D A (wa ++ (([(g0, .inr (5, [.int u.1, .int u.2.1, .int u.2.2.1, .int u.2.2.2.1, .int u.2.2.2.2.1, .int u.2.2.2.2.2.1, .int u.2.2.2.2.2.2.1, .ref g7, .ref g8, .ref g9, .ref g10, .ref g11, .ref a1, .int u.2.2.2.2.2.2.2.2.2.2.2.2.2])), (g7, .inl (cZ, u.2.2.2.2.2.2.2.1.1, .inl u.2.2.2.2.2.2.2.1.2)), (g8, .inl (cZ, 8, .inl u.2.2.2.2.2.2.2.2.1)), (g9, .inl (cJ, rfs u.2.2.2.2.2.2.2.2.2.1.1 G9)), (g10, .inl (cJ, rfs u.2.2.2.2.2.2.2.2.2.2.1.1 G10)), (g11, .inl (cJ, rfs u.2.2.2.2.2.2.2.2.2.2.2.1.1 G11)), (a1, .inl (cJ, rfs (u.2.2.2.2.2.2.2.2.2.2.2.2.1.1 + 1) (va_up G12 u.2.2.2.2.2.2.2.2.2.2.2.2.1.1 q)))] ++ (rW cI G9 u.2.2.2.2.2.2.2.2.2.1 ++ (rW cI G10 u.2.2.2.2.2.2.2.2.2.2.1 ++ (rW cI G11 u.2.2.2.2.2.2.2.2.2.2.2.1 ++ rW cI (va_up G12 u.2.2.2.2.2.2.2.2.2.2.2.2.1.1 q) (pR u.2.2.2.2.2.2.2.2.2.2.2.2.1 (n, f)))))) ++ ([] : va_W)))
  rw [rW_push]
  refine wD_re hP hD (fun x hx => ?_) (fun a => ?_)
  · simp only [List.mem_append, List.mem_cons, List.not_mem_nil, or_false, false_or] at hx ⊢
    grind
  · simp only [List.map_append, List.map_cons, List.map_nil, List.count_append, List.count_cons, List.count_nil]
    omega
theorem rW_mem {cI : ClassId} {L : Nat → Nat} {r : tR} {x : Nat × va_E} : x ∈ rW cI L r ↔ ∃ k, k < r.1 ∧ x = (L k, .inl (cI, (r.2 k).1, .inl (r.2 k).2)) := by
  unfold rW
  rw [List.mem_map]
  constructor
  · rintro ⟨k, hk, rfl⟩; exact ⟨k, List.mem_range.mp hk, rfl⟩
  · rintro ⟨k, hk, rfl⟩; exact ⟨k, List.mem_range.mpr hk, rfl⟩
theorem rW_fst (cI : ClassId) (L : Nat → Nat) (r : tR) : (rW cI L r).map (fun x => x.1) = (List.range r.1).map L := by
  unfold rW
  rw [List.map_map]; rfl
theorem cnt_up (L : Nat → Nat) (q a j : Nat) : ∀ n : Nat, j < n → ((List.range n).map (va_up L j q)).count a + [L j].count a = ((List.range n).map L).count a + [q].count a := by
  intro n
  induction n with
  | zero => intro h; omega
  | succ n ih =>
    intro h
    rw [List.range_succ, List.map_append, List.map_append, List.count_append, List.count_append]
    by_cases e : j = n
    · subst e
      have e1 : (List.range j).map (va_up L j q) = (List.range j).map L := by
        apply List.map_congr_left
        intro k hk
        have := List.mem_range.mp hk
        unfold va_up; rw [if_neg (by omega)]
      rw [e1]
      show List.count a (List.map L (List.range j)) + List.count a [va_up L j q j] + _ = _
      unfold va_up; rw [if_pos rfl]
      show _ + List.count a [q] + List.count a [L j] = _ + List.count a [L j] + List.count a [q]
      omega
    · have := ih (by omega)
      have e1 : List.map (va_up L j q) [n] = List.map L [n] := by
        show [va_up L j q n] = [L n]
        unfold va_up; rw [if_neg (fun x => e x.symm)]
      rw [e1]
      omega
theorem ab9a {D : va_G} {cl : List vw_C} {A : Nat → Prop} {H : Heap} {cI cZ cJ : ClassId} {g0 g7 g8 g9 g10 g11 g12 : Nat} {G9 G10 G11 G12 : Nat → Nat} {u : tX5} {wa : va_W} {q n j : Nat} {f : Nat → Int32} (hj : j < u.2.2.2.2.2.2.2.2.2.1.1) (hP : va_P D cl (wa ++ (([(g0, .inr (5, [.int u.1, .int u.2.1, .int u.2.2.1, .int u.2.2.2.1, .int u.2.2.2.2.1, .int u.2.2.2.2.2.1, .int u.2.2.2.2.2.2.1, .ref g7, .ref g8, .ref g9, .ref g10, .ref g11, .ref g12, .int u.2.2.2.2.2.2.2.2.2.2.2.2.2])), (g7, .inl (cZ, u.2.2.2.2.2.2.2.1.1, .inl u.2.2.2.2.2.2.2.1.2)), (g8, .inl (cZ, 8, .inl u.2.2.2.2.2.2.2.2.1)), (g9, .inl (cJ, u.2.2.2.2.2.2.2.2.2.1.1, .inr (.inr (.inr (.inr (va_up (fun k => some (G9 k)) j (some q))))))), (g10, .inl (cJ, rfs u.2.2.2.2.2.2.2.2.2.2.1.1 G10)), (g11, .inl (cJ, rfs u.2.2.2.2.2.2.2.2.2.2.2.1.1 G11)), (g12, .inl (cJ, rfs u.2.2.2.2.2.2.2.2.2.2.2.2.1.1 G12))] ++ (rW cI G9 u.2.2.2.2.2.2.2.2.2.1 ++ (rW cI G10 u.2.2.2.2.2.2.2.2.2.2.1 ++ (rW cI G11 u.2.2.2.2.2.2.2.2.2.2.2.1 ++ rW cI G12 u.2.2.2.2.2.2.2.2.2.2.2.2.1)))) ++ [(q, .inl (cI, n, .inl f))])) H) (hD : va_D A (wa ++ (([(g0, .inr (5, [.int u.1, .int u.2.1, .int u.2.2.1, .int u.2.2.2.1, .int u.2.2.2.2.1, .int u.2.2.2.2.2.1, .int u.2.2.2.2.2.2.1, .ref g7, .ref g8, .ref g9, .ref g10, .ref g11, .ref g12, .int u.2.2.2.2.2.2.2.2.2.2.2.2.2])), (g7, .inl (cZ, u.2.2.2.2.2.2.2.1.1, .inl u.2.2.2.2.2.2.2.1.2)), (g8, .inl (cZ, 8, .inl u.2.2.2.2.2.2.2.2.1)), (g9, .inl (cJ, u.2.2.2.2.2.2.2.2.2.1.1, .inr (.inr (.inr (.inr (va_up (fun k => some (G9 k)) j (some q))))))), (g10, .inl (cJ, rfs u.2.2.2.2.2.2.2.2.2.2.1.1 G10)), (g11, .inl (cJ, rfs u.2.2.2.2.2.2.2.2.2.2.2.1.1 G11)), (g12, .inl (cJ, rfs u.2.2.2.2.2.2.2.2.2.2.2.2.1.1 G12))] ++ (rW cI G9 u.2.2.2.2.2.2.2.2.2.1 ++ (rW cI G10 u.2.2.2.2.2.2.2.2.2.2.1 ++ (rW cI G11 u.2.2.2.2.2.2.2.2.2.2.2.1 ++ rW cI G12 u.2.2.2.2.2.2.2.2.2.2.2.2.1)))) ++ [(q, .inl (cI, n, .inl f))]))) : va_P D cl (wa ++ (wX5 cI cZ cJ g0 g7 g8 g9 g10 g11 g12 (va_up G9 j q) G10 G11 G12 (u.1, u.2.1, u.2.2.1, u.2.2.2.1, u.2.2.2.2.1, u.2.2.2.2.2.1, u.2.2.2.2.2.2.1, u.2.2.2.2.2.2.2.1, u.2.2.2.2.2.2.2.2.1, qR u.2.2.2.2.2.2.2.2.2.1 j (n, f), u.2.2.2.2.2.2.2.2.2.2.1, u.2.2.2.2.2.2.2.2.2.2.2.1, u.2.2.2.2.2.2.2.2.2.2.2.2.1, u.2.2.2.2.2.2.2.2.2.2.2.2.2) ++ [(G9 j, .inl (cI, (u.2.2.2.2.2.2.2.2.2.1.2 j).1, .inl (u.2.2.2.2.2.2.2.2.2.1.2 j).2))])) H ∧ va_D A (wa ++ (wX5 cI cZ cJ g0 g7 g8 g9 g10 g11 g12 (va_up G9 j q) G10 G11 G12 (u.1, u.2.1, u.2.2.1, u.2.2.2.1, u.2.2.2.2.1, u.2.2.2.2.2.1, u.2.2.2.2.2.2.1, u.2.2.2.2.2.2.2.1, u.2.2.2.2.2.2.2.2.1, qR u.2.2.2.2.2.2.2.2.2.1 j (n, f), u.2.2.2.2.2.2.2.2.2.2.1, u.2.2.2.2.2.2.2.2.2.2.2.1, u.2.2.2.2.2.2.2.2.2.2.2.2.1, u.2.2.2.2.2.2.2.2.2.2.2.2.2) ++ [(G9 j, .inl (cI, (u.2.2.2.2.2.2.2.2.2.1.2 j).1, .inl (u.2.2.2.2.2.2.2.2.2.1.2 j).2))])) := by
  have hP1 := wP_mem.mp hP
  have hDA := wD_of hD
  have g9m : va_at D cl (g9, .inl (cJ, rfs u.2.2.2.2.2.2.2.2.2.1.1 (va_up G9 j q))) H := by
    have h1 := hP1 (g9, .inl (cJ, u.2.2.2.2.2.2.2.2.2.1.1, .inr (.inr (.inr (.inr (va_up (fun k => some (G9 k)) j (some q))))))) (by simp only [List.mem_append, List.mem_cons]; grind)
    show H[g9]? = some (vp_cell cJ (u.2.2.2.2.2.2.2.2.2.1.1, .inr (.inr (.inr (.inr (fun k => some (va_up G9 j q k)))))))
    have h2 : H[g9]? = some (vp_cell cJ (u.2.2.2.2.2.2.2.2.2.1.1, .inr (.inr (.inr (.inr (va_up (fun k => some (G9 k)) j (some q))))))) := h1
    rw [h2]
    refine congrArg some (vq_congr cJ fun k _ => ?_)
    unfold va_up
    by_cases e : k = j
    · rw [if_pos e, if_pos e]
    · rw [if_neg e, if_neg e]
  have hrow : ∀ x ∈ rW cI (va_up G9 j q) (qR u.2.2.2.2.2.2.2.2.2.1 j (n, f)), x = (q, .inl (cI, n, .inl f)) ∨ x ∈ rW cI G9 u.2.2.2.2.2.2.2.2.2.1 := by
    intro x hx
    obtain ⟨k, hk, rfl⟩ := rW_mem.mp hx
    unfold va_up qR
    by_cases e : k = j
    · left; dsimp only; rw [if_pos e, if_pos e]
    · right; dsimp only; rw [if_neg e, if_neg e]; exact rW_mem.mpr ⟨k, hk, rfl⟩
  have hold : (G9 j, .inl (cI, (u.2.2.2.2.2.2.2.2.2.1.2 j).1, .inl (u.2.2.2.2.2.2.2.2.2.1.2 j).2)) ∈ rW cI G9 u.2.2.2.2.2.2.2.2.2.1 := rW_mem.mpr ⟨j, hj, rfl⟩
  have hmem : ∀ x ∈ (wa ++ (wX5 cI cZ cJ g0 g7 g8 g9 g10 g11 g12 (va_up G9 j q) G10 G11 G12 (u.1, u.2.1, u.2.2.1, u.2.2.2.1, u.2.2.2.2.1, u.2.2.2.2.2.1, u.2.2.2.2.2.2.1, u.2.2.2.2.2.2.2.1, u.2.2.2.2.2.2.2.2.1, qR u.2.2.2.2.2.2.2.2.2.1 j (n, f), u.2.2.2.2.2.2.2.2.2.2.1, u.2.2.2.2.2.2.2.2.2.2.2.1, u.2.2.2.2.2.2.2.2.2.2.2.2.1, u.2.2.2.2.2.2.2.2.2.2.2.2.2) ++ [(G9 j, .inl (cI, (u.2.2.2.2.2.2.2.2.2.1.2 j).1, .inl (u.2.2.2.2.2.2.2.2.2.1.2 j).2))])), x = (g9, .inl (cJ, rfs u.2.2.2.2.2.2.2.2.2.1.1 (va_up G9 j q))) ∨ x ∈ (wa ++ (([(g0, .inr (5, [.int u.1, .int u.2.1, .int u.2.2.1, .int u.2.2.2.1, .int u.2.2.2.2.1, .int u.2.2.2.2.2.1, .int u.2.2.2.2.2.2.1, .ref g7, .ref g8, .ref g9, .ref g10, .ref g11, .ref g12, .int u.2.2.2.2.2.2.2.2.2.2.2.2.2])), (g7, .inl (cZ, u.2.2.2.2.2.2.2.1.1, .inl u.2.2.2.2.2.2.2.1.2)), (g8, .inl (cZ, 8, .inl u.2.2.2.2.2.2.2.2.1)), (g9, .inl (cJ, u.2.2.2.2.2.2.2.2.2.1.1, .inr (.inr (.inr (.inr (va_up (fun k => some (G9 k)) j (some q))))))), (g10, .inl (cJ, rfs u.2.2.2.2.2.2.2.2.2.2.1.1 G10)), (g11, .inl (cJ, rfs u.2.2.2.2.2.2.2.2.2.2.2.1.1 G11)), (g12, .inl (cJ, rfs u.2.2.2.2.2.2.2.2.2.2.2.2.1.1 G12))] ++ (rW cI G9 u.2.2.2.2.2.2.2.2.2.1 ++ (rW cI G10 u.2.2.2.2.2.2.2.2.2.2.1 ++ (rW cI G11 u.2.2.2.2.2.2.2.2.2.2.2.1 ++ rW cI G12 u.2.2.2.2.2.2.2.2.2.2.2.2.1)))) ++ [(q, .inl (cI, n, .inl f))])) := by
    intro x hx
    have hx := hx
    simp only [wX5, List.mem_append, List.mem_cons, List.not_mem_nil, or_false, false_or] at hx ⊢
    have h5 := hrow x
    dsimp only [qR] at hx h5
    grind
  refine ⟨wP_mem.mpr fun x hx => ?_, wD_cnt hD (fun x hx => ?_) (fun a => ?_)⟩
  · rcases hmem x hx with h | h
    · rw [h]; exact g9m
    · exact hP1 x h
  · rcases hmem x hx with h | h
    · rw [h]; exact hDA (g9, .inl (cJ, u.2.2.2.2.2.2.2.2.2.1.1, .inr (.inr (.inr (.inr (va_up (fun k => some (G9 k)) j (some q))))))) (by simp only [List.mem_append, List.mem_cons]; grind)
    · exact hDA x h
  · have hc := cnt_up G9 q a j u.2.2.2.2.2.2.2.2.2.1.1 hj
    simp only [wX5, List.map_append, List.map_cons, List.map_nil, List.count_append, List.count_cons, List.count_nil, rW_fst, qR] at hc ⊢
    omega
theorem ab7 {D : va_G} {cl : List vw_C} {A : Nat → Prop} {H : Heap} {cI cZ cJ : ClassId} {g0 g7 g8 g9 g10 g11 g12 : Nat} {G9 G10 G11 G12 : Nat → Nat} {u : tX5} {wa : va_W} {q n : Nat} {f : Nat → Int32} (hP : va_P D cl (wa ++ (wY5 cI cZ cJ g0 q g8 g9 g10 g11 g12 g7 g8 g9 g10 g11 g12 G9 G10 G11 G12 u ++ [(q, .inl (cZ, n, .inl f))])) H) (hD : va_D A (wa ++ (wY5 cI cZ cJ g0 q g8 g9 g10 g11 g12 g7 g8 g9 g10 g11 g12 G9 G10 G11 G12 u ++ [(q, .inl (cZ, n, .inl f))]))) : va_P D cl (wa ++ (wX5 cI cZ cJ g0 q g8 g9 g10 g11 g12 G9 G10 G11 G12 (u.1, u.2.1, u.2.2.1, u.2.2.2.1, u.2.2.2.2.1, u.2.2.2.2.2.1, u.2.2.2.2.2.2.1, (n, f), u.2.2.2.2.2.2.2.2.1, u.2.2.2.2.2.2.2.2.2.1, u.2.2.2.2.2.2.2.2.2.2.1, u.2.2.2.2.2.2.2.2.2.2.2.1, u.2.2.2.2.2.2.2.2.2.2.2.2.1, u.2.2.2.2.2.2.2.2.2.2.2.2.2) ++ ([] : va_W))) H ∧ va_D A (wa ++ (wX5 cI cZ cJ g0 q g8 g9 g10 g11 g12 G9 G10 G11 G12 (u.1, u.2.1, u.2.2.1, u.2.2.2.1, u.2.2.2.2.1, u.2.2.2.2.2.1, u.2.2.2.2.2.2.1, (n, f), u.2.2.2.2.2.2.2.2.1, u.2.2.2.2.2.2.2.2.2.1, u.2.2.2.2.2.2.2.2.2.2.1, u.2.2.2.2.2.2.2.2.2.2.2.1, u.2.2.2.2.2.2.2.2.2.2.2.2.1, u.2.2.2.2.2.2.2.2.2.2.2.2.2) ++ ([] : va_W))) := by
  refine wD_re hP hD (fun x hx => ?_) (fun a => ?_)
  · simp only [wX5, wY5, List.mem_append, List.mem_cons, List.not_mem_nil, or_false, false_or] at hx ⊢
    grind
  · simp only [wX5, wY5, List.map_append, List.map_cons, List.map_nil, List.count_append, List.count_cons, List.count_nil]
    omega
theorem rW_nil (cI : ClassId) (L : Nat → Nat) (r : Nat → Nat × (Nat → Int32)) : rW cI L (0, r) = [] := rfl
theorem ab12z {D : va_G} {cl : List vw_C} {A : Nat → Prop} {H : Heap} {cI cZ cJ : ClassId} {g0 g7 g8 g9 g10 g11 g12 : Nat} {G9 G10 G11 G12 : Nat → Nat} {u : tX5} {wa : va_W} {q : Nat} {f : Nat → Option Nat} (hP : va_P D cl (wa ++ (wY5 cI cZ cJ g0 g7 g8 g9 g10 g11 q g7 g8 g9 g10 g11 g12 G9 G10 G11 G12 u ++ [(q, .inl (cJ, 0, .inr (.inr (.inr (.inr f)))))])) H) (hD : va_D A (wa ++ (wY5 cI cZ cJ g0 g7 g8 g9 g10 g11 q g7 g8 g9 g10 g11 g12 G9 G10 G11 G12 u ++ [(q, .inl (cJ, 0, .inr (.inr (.inr (.inr f)))))]))) : va_P D cl (wa ++ (wX5 cI cZ cJ g0 g7 g8 g9 g10 g11 q G9 G10 G11 G12 (u.1, u.2.1, u.2.2.1, u.2.2.2.1, u.2.2.2.2.1, u.2.2.2.2.2.1, u.2.2.2.2.2.2.1, u.2.2.2.2.2.2.2.1, u.2.2.2.2.2.2.2.2.1, u.2.2.2.2.2.2.2.2.2.1, u.2.2.2.2.2.2.2.2.2.2.1, u.2.2.2.2.2.2.2.2.2.2.2.1, (0, fun _ => (0, fun _ => 0)), u.2.2.2.2.2.2.2.2.2.2.2.2.2) ++ ([] : va_W))) H ∧ va_D A (wa ++ (wX5 cI cZ cJ g0 g7 g8 g9 g10 g11 q G9 G10 G11 G12 (u.1, u.2.1, u.2.2.1, u.2.2.2.1, u.2.2.2.2.1, u.2.2.2.2.2.1, u.2.2.2.2.2.2.1, u.2.2.2.2.2.2.2.1, u.2.2.2.2.2.2.2.2.1, u.2.2.2.2.2.2.2.2.2.1, u.2.2.2.2.2.2.2.2.2.2.1, u.2.2.2.2.2.2.2.2.2.2.2.1, (0, fun _ => (0, fun _ => 0)), u.2.2.2.2.2.2.2.2.2.2.2.2.2) ++ ([] : va_W))) := by
  have hP1 := wP_mem.mp hP
  have hDA := wD_of hD
  have qm : va_at D cl (q, .inl (cJ, rfs 0 G12)) H := by
    have h1 : H[q]? = some (vp_cell cJ (0, .inr (.inr (.inr (.inr f))))) := hP1 (q, .inl (cJ, 0, .inr (.inr (.inr (.inr f))))) (by simp only [List.mem_append, List.mem_cons]; grind)
    show H[q]? = some (vp_cell cJ (0, .inr (.inr (.inr (.inr (fun k => some (G12 k)))))))
    rw [h1]
    exact congrArg some (vq_congr cJ fun k hk => absurd hk (Nat.not_lt_zero k))
  have hmem : ∀ x ∈ (wa ++ (wX5 cI cZ cJ g0 g7 g8 g9 g10 g11 q G9 G10 G11 G12 (u.1, u.2.1, u.2.2.1, u.2.2.2.1, u.2.2.2.2.1, u.2.2.2.2.2.1, u.2.2.2.2.2.2.1, u.2.2.2.2.2.2.2.1, u.2.2.2.2.2.2.2.2.1, u.2.2.2.2.2.2.2.2.2.1, u.2.2.2.2.2.2.2.2.2.2.1, u.2.2.2.2.2.2.2.2.2.2.2.1, (0, fun _ => (0, fun _ => 0)), u.2.2.2.2.2.2.2.2.2.2.2.2.2) ++ ([] : va_W))), x = (q, .inl (cJ, rfs 0 G12)) ∨ x ∈ (wa ++ (wY5 cI cZ cJ g0 g7 g8 g9 g10 g11 q g7 g8 g9 g10 g11 g12 G9 G10 G11 G12 u ++ [(q, .inl (cJ, 0, .inr (.inr (.inr (.inr f)))))])) := by
    intro x hx
    simp only [wX5, wY5, rW_nil, List.mem_append, List.mem_cons, List.not_mem_nil, or_false, false_or] at hx ⊢
    grind
  refine ⟨wP_mem.mpr fun x hx => ?_, wD_cnt hD (fun x hx => ?_) (fun a => ?_)⟩
  · rcases hmem x hx with h | h
    · rw [h]; exact qm
    · exact hP1 x h
  · rcases hmem x hx with h | h
    · rw [h]; exact hDA (q, .inl (cJ, 0, .inr (.inr (.inr (.inr f))))) (by simp only [List.mem_append, List.mem_cons]; grind)
    · exact hDA x h
  · simp only [wX5, wY5, rW_nil, List.map_append, List.map_cons, List.map_nil, List.count_append, List.count_cons, List.count_nil]
    omega
theorem ab9 {D : va_G} {cl : List vw_C} {A : Nat → Prop} {H : Heap} {cI cZ cJ : ClassId} {g0 g7 g8 g9 g10 g11 g12 : Nat} {G9 G10 G11 G12 : Nat → Nat} {u : tX5} {wa : va_W} {q n : Nat} {r : Nat → Nat} (hP : va_P D cl (wa ++ (wY5 cI cZ cJ g0 g7 g8 q g10 g11 g12 g7 g8 g9 g10 g11 g12 G9 G10 G11 G12 u ++ ((q, .inl (cJ, n, .inr (.inr (.inr (.inr (fun i => if i < n then some (r i) else none)))))) :: rW cI r (n, fun _ => (2, fun _ => 0))))) H) (hD : va_D A (wa ++ (wY5 cI cZ cJ g0 g7 g8 q g10 g11 g12 g7 g8 g9 g10 g11 g12 G9 G10 G11 G12 u ++ ((q, .inl (cJ, n, .inr (.inr (.inr (.inr (fun i => if i < n then some (r i) else none)))))) :: rW cI r (n, fun _ => (2, fun _ => 0)))))) : va_P D cl (wa ++ (wX5 cI cZ cJ g0 g7 g8 q g10 g11 g12 r G10 G11 G12 (u.1, u.2.1, u.2.2.1, u.2.2.2.1, u.2.2.2.2.1, u.2.2.2.2.2.1, u.2.2.2.2.2.2.1, u.2.2.2.2.2.2.2.1, u.2.2.2.2.2.2.2.2.1, (n, fun _ => (2, fun _ => 0)), u.2.2.2.2.2.2.2.2.2.2.1, u.2.2.2.2.2.2.2.2.2.2.2.1, u.2.2.2.2.2.2.2.2.2.2.2.2.1, u.2.2.2.2.2.2.2.2.2.2.2.2.2) ++ ([] : va_W))) H ∧ va_D A (wa ++ (wX5 cI cZ cJ g0 g7 g8 q g10 g11 g12 r G10 G11 G12 (u.1, u.2.1, u.2.2.1, u.2.2.2.1, u.2.2.2.2.1, u.2.2.2.2.2.1, u.2.2.2.2.2.2.1, u.2.2.2.2.2.2.2.1, u.2.2.2.2.2.2.2.2.1, (n, fun _ => (2, fun _ => 0)), u.2.2.2.2.2.2.2.2.2.2.1, u.2.2.2.2.2.2.2.2.2.2.2.1, u.2.2.2.2.2.2.2.2.2.2.2.2.1, u.2.2.2.2.2.2.2.2.2.2.2.2.2) ++ ([] : va_W))) := by
  have hP1 := wP_mem.mp hP
  have hDA := wD_of hD
  have qm : va_at D cl (q, .inl (cJ, rfs n r)) H := by
    have h1 : H[q]? = some (vp_cell cJ (n, .inr (.inr (.inr (.inr (fun i => if i < n then some (r i) else none)))))) := hP1 (q, .inl (cJ, n, .inr (.inr (.inr (.inr (fun i => if i < n then some (r i) else none)))))) (by simp only [List.mem_append, List.mem_cons]; grind)
    show H[q]? = some (vp_cell cJ (n, .inr (.inr (.inr (.inr (fun k => some (r k)))))))
    rw [h1]
    exact congrArg some (vq_congr cJ fun k hk => if_pos hk)
  have hmem : ∀ x ∈ (wa ++ (wX5 cI cZ cJ g0 g7 g8 q g10 g11 g12 r G10 G11 G12 (u.1, u.2.1, u.2.2.1, u.2.2.2.1, u.2.2.2.2.1, u.2.2.2.2.2.1, u.2.2.2.2.2.2.1, u.2.2.2.2.2.2.2.1, u.2.2.2.2.2.2.2.2.1, (n, fun _ => (2, fun _ => 0)), u.2.2.2.2.2.2.2.2.2.2.1, u.2.2.2.2.2.2.2.2.2.2.2.1, u.2.2.2.2.2.2.2.2.2.2.2.2.1, u.2.2.2.2.2.2.2.2.2.2.2.2.2) ++ ([] : va_W))), x = (q, .inl (cJ, rfs n r)) ∨ x ∈ (wa ++ (wY5 cI cZ cJ g0 g7 g8 q g10 g11 g12 g7 g8 g9 g10 g11 g12 G9 G10 G11 G12 u ++ ((q, .inl (cJ, n, .inr (.inr (.inr (.inr (fun i => if i < n then some (r i) else none)))))) :: rW cI r (n, fun _ => (2, fun _ => 0))))) := by
    intro x hx
    simp only [wX5, wY5, List.mem_append, List.mem_cons, List.not_mem_nil, or_false, false_or] at hx ⊢
    grind
  refine ⟨wP_mem.mpr fun x hx => ?_, wD_cnt hD (fun x hx => ?_) (fun a => ?_)⟩
  · rcases hmem x hx with h | h
    · rw [h]; exact qm
    · exact hP1 x h
  · rcases hmem x hx with h | h
    · rw [h]; exact hDA (q, .inl (cJ, n, .inr (.inr (.inr (.inr (fun i => if i < n then some (r i) else none)))))) (by simp only [List.mem_append, List.mem_cons]; grind)
    · exact hDA x h
  · simp only [wX5, wY5, List.map_append, List.map_cons, List.map_nil, List.count_append, List.count_cons, List.count_nil]
    omega
