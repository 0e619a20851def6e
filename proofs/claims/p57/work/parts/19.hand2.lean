def gN {α : Type} (i n : Nat) (k : Option α) : Option α := if i < n then k else none
theorem gN_some {α : Type} {i n : Nat} {k : Option α} {z : α} (h : gN i n k = some z) : i < n ∧ k = some z := by
  unfold gN at h
  by_cases hc : i < n
  · rw [if_pos hc] at h; exact ⟨hc, h⟩
  · rw [if_neg hc] at h; cases h
theorem gN_in {α : Type} {i n : Nat} {k : Option α} (h : i < n) : gN i n k = k := if_pos h
def gL {α : Type} (v : Int32) (n : Nat) (k : Option α) : Option α := if ¬ v < 0 ∧ v.toNatClampNeg ≤ n then k else none
theorem gL_some {α : Type} {v : Int32} {n : Nat} {k : Option α} {z : α} (h : gL v n k = some z) : (¬ v < 0 ∧ v.toNatClampNeg ≤ n) ∧ k = some z := by
  unfold gL at h
  by_cases hc : ¬ v < 0 ∧ v.toNatClampNeg ≤ n
  · rw [if_pos hc] at h; exact ⟨hc, h⟩
  · rw [if_neg hc] at h; cases h
theorem gL_in {α : Type} {v : Int32} {n : Nat} {k : Option α} (h : ¬ v < 0 ∧ v.toNatClampNeg ≤ n) : gL v n k = k := if_pos h
def gz {α : Type} (v : Int32) (k : Option α) : Option α := if v = 0 then none else k
theorem gz_some {α : Type} {v : Int32} {k : Option α} {z : α} (h : gz v k = some z) : ¬ v = 0 ∧ k = some z := by
  unfold gz at h
  by_cases hc : v = 0
  · rw [if_pos hc] at h; cases h
  · rw [if_neg hc] at h; exact ⟨hc, h⟩
theorem gz_in {α : Type} {v : Int32} {k : Option α} (h : ¬ v = 0) : gz v k = k := if_neg h
theorem vp_inL {i : Int32} {n j : Nat} (hj : i.toNatClampNeg = j) (h : vp_in i n) : j < n := by subst hj; exact Nat.not_le.mp fun q => h (Or.inr q)
theorem nx_P {D : va_G} {cl : List vw_C} {wa wb ex : va_W} {H : Heap} (h : va_P D cl (wa ++ (wb ++ ex)) H) : va_P D cl (wa ++ wb) H := va_Pmid (wa := []) (wr := ex) (by show va_P D cl ((wa ++ wb) ++ ex) H; rw [List.append_assoc]; exact h)
theorem nx_D {A : Nat → Prop} {wa wb ex : va_W} (h : va_D A (wa ++ (wb ++ ex))) : va_D A (wa ++ wb) := va_Dmid (wa := []) (wr := ex) (by show va_D A ((wa ++ wb) ++ ex); rw [List.append_assoc]; exact h)
theorem tw_P {D : va_G} {cl : List vw_C} {wa wb ex : va_W} {H : Heap} (h : va_P D cl (wa ++ (wb ++ ex)) H) : va_P D cl (([] : va_W) ++ ((wa ++ wb) ++ ex)) H := by show va_P D cl ((wa ++ wb) ++ ex) H; rw [List.append_assoc]; exact h
theorem tw_D {A : Nat → Prop} {wa wb ex : va_W} (h : va_D A (wa ++ (wb ++ ex))) : va_D A (([] : va_W) ++ ((wa ++ wb) ++ ex)) := by show va_D A ((wa ++ wb) ++ ex); rw [List.append_assoc]; exact h
theorem wt_P {D : va_G} {cl : List vw_C} {wa wb ex : va_W} {H : Heap} (h : va_P D cl (([] : va_W) ++ ((wa ++ wb) ++ ex)) H) : va_P D cl (wa ++ (wb ++ ex)) H := by have h : va_P D cl ((wa ++ wb) ++ ex) H := h; rw [List.append_assoc] at h; exact h
theorem wt_D {A : Nat → Prop} {wa wb ex : va_W} (h : va_D A (([] : va_W) ++ ((wa ++ wb) ++ ex))) : va_D A (wa ++ (wb ++ ex)) := by have h : va_D A ((wa ++ wb) ++ ex) := h; rw [List.append_assoc] at h; exact h
theorem eAi {p : Program} {l : Launch} {e : Env} {R : Room} {s : State} {m : MethodId} {args : Array Value} {below : List Frame} {meth : Method} {c : Code} {bytes : ByteArray} {maxL pc : Nat} {own : String} {ls : Array Slot} {H : Heap} {locs : List Loc} {cells slots mc ms : Nat} {A : Nat → Prop} {D : va_G} {cl : List vw_C} {Z : Type} {wf : Z → va_W} (S : CallFix p m c bytes maxL s args lw_all own) (hr : meth.sig.returnType = some .int) (hlk : meth.locks = false) {v r0 : Int32} (h : v = r0) (a : Z) (hP : va_P D cl (wf a) H) (hD : va_D A (wf a)) (hS : va_S A s.heap H locs) (hc : cells ≤ mc) (hs : slots ≤ ms) (hdg : decode bytes pc = .ok (.ireturn, 1)) : W p l e R s m args below meth c H locs cells slots (MQ below (va_Qi (fun (r : Int32) (_ : Z) => r = r0) (fun a t => va_P D cl (wf a) t.heap ∧ va_D A (wf a)) A) args s mc ms A) (F0 m pc ls [.int v]) := W.widen hc hs (W.iret S.1 S.2.1 hr (fun t ht _ => ⟨⟨v, a, rfl, h, by rw [ht]; exact hP, hD⟩, hS.F ht⟩) hS.2.2 hdg hlk)
theorem eAz {p : Program} {l : Launch} {e : Env} {R : Room} {s : State} {m : MethodId} {args : Array Value} {below : List Frame} {meth : Method} {c : Code} {bytes : ByteArray} {maxL pc : Nat} {own : String} {ls : Array Slot} {H : Heap} {locs : List Loc} {cells slots mc ms : Nat} {A : Nat → Prop} {D : va_G} {cl : List vw_C} {Z : Type} {wf : Z → va_W} (S : CallFix p m c bytes maxL s args lw_all own) (hr : meth.sig.returnType = some .boolean) (hlk : meth.locks = false) {v r0 : Int32} (hn : v &&& 1 = v) (h : v = r0) (a : Z) (hP : va_P D cl (wf a) H) (hD : va_D A (wf a)) (hS : va_S A s.heap H locs) (hc : cells ≤ mc) (hs : slots ≤ ms) (hdg : decode bytes pc = .ok (.ireturn, 1)) : W p l e R s m args below meth c H locs cells slots (MQ below (va_Qi (fun (r : Int32) (_ : Z) => r = r0) (fun a t => va_P D cl (wf a) t.heap ∧ va_D A (wf a)) A) args s mc ms A) (F0 m pc ls [.int v]) := W.widen hc hs (W.zret S.1 S.2.1 hr (congrArg Value.int hn) (fun t ht _ => ⟨⟨v, a, rfl, h, by rw [ht]; exact hP, hD⟩, hS.F ht⟩) hS.2.2 hdg hlk)
theorem eAv {p : Program} {l : Launch} {e : Env} {R : Room} {s : State} {m : MethodId} {args : Array Value} {below : List Frame} {meth : Method} {c : Code} {bytes : ByteArray} {maxL pc : Nat} {own : String} {ls : Array Slot} {H : Heap} {locs : List Loc} {cells slots mc ms : Nat} {A : Nat → Prop} {D : va_G} {cl : List vw_C} {Z : Type} {wf : Z → va_W} (S : CallFix p m c bytes maxL s args lw_all own) (hr : meth.sig.returnType = none) (hlk : meth.locks = false) (a : Z) (hP : va_P D cl (wf a) H) (hD : va_D A (wf a)) (hS : va_S A s.heap H locs) (hc : cells ≤ mc) (hs : slots ≤ ms) (hdg : decode bytes pc = .ok (.return_, 1)) : W p l e R s m args below meth c H locs cells slots (MQ below (va_Qv (fun _ : Z => True) (fun a t => va_P D cl (wf a) t.heap ∧ va_D A (wf a)) A) args s mc ms A) (F0 m pc ls []) := W.widen hc hs (W.vret S.1 S.2.1 hr (fun t ht _ => ⟨⟨a, rfl, trivial, by rw [ht]; exact hP, hD⟩, hS.F ht⟩) hS.2.2 hdg hlk)
theorem gr_P {D : va_G} {cl : List vw_C} {cI cZ cJ : ClassId} {g0 g7 g8 g9 g10 g11 g12 : Nat} {G9 G10 G11 G12 : Nat → Nat} {u : tX5} {wa ex : va_W} {H : Heap} {y1 y2 : Nat × va_E} (h : va_P D cl (wa ++ ((wX5 cI cZ cJ g0 g7 g8 g9 g10 g11 g12 G9 G10 G11 G12 u) ++ ex)) H) (h1 : y1 ∈ (wa ++ ((wX5 cI cZ cJ g0 g7 g8 g9 g10 g11 g12 G9 G10 G11 G12 u) ++ ex))) (h2 : y2 ∈ (wa ++ ((wX5 cI cZ cJ g0 g7 g8 g9 g10 g11 g12 G9 G10 G11 G12 u) ++ ex))) : va_P D cl [(g0, .inr (5, [.int u.1, .int u.2.1, .int u.2.2.1, .int u.2.2.2.1, .int u.2.2.2.2.1, .int u.2.2.2.2.2.1, .int u.2.2.2.2.2.2.1, .ref g7, .ref g8, .ref g9, .ref g10, .ref g11, .ref g12, .int u.2.2.2.2.2.2.2.2.2.2.2.2.2])), y1, y2] H := by
  refine wP_sub h (fun x hx => ?_)
  simp only [List.mem_cons, List.not_mem_nil, or_false] at hx
  rcases hx with rfl | rfl | rfl
  · simp only [wX5, List.mem_append, List.mem_cons]
    grind
  · exact h1
  · exact h2
theorem mna_rows (cI : ClassId) (r : Nat → Nat) (n : Nat) (f : Nat → va_E) (e : va_E) : va_pl ([] ++ (List.range n).map r) (vr_up f ((List.range n).map r) e) = (List.range n).map (fun i => (r i, e)) := by
  unfold va_pl
  rw [List.nil_append, List.map_map]
  apply List.map_congr_left
  intro i hi
  show (r i, vr_up f ((List.range n).map r) e (r i)) = (r i, e)
  rw [vr_up_in (List.mem_map.mpr ⟨i, hi, rfl⟩)]
theorem fg_mna {p : Program} {l : Launch} {e : Env} {R : Room} {s : State} {m : MethodId} {args : Array Value} {below : List Frame} {meth : Method} {c : Code} {H H0 : Heap} {locs : List Loc} {cells slots : Nat} {Q : State → Prop} {cc : ByteArray} {pc : Nat} {ls : Array Slot} {rest : List Value} {D : va_G} {cl : List vw_C} {tys : List (ClassId × FieldType)} {A : Nat → Prop} {ws : va_W} {cI cJ : ClassId} (hexec : p.tables.exec = Jvm.exec) (hb : c.code = cc) {own : String} {index : Nat} (hown : s.vm.findClass own = some m.cls) (hclink : (Cond.classLink own index ("[" ++ (FieldType.array .int).toString)).before args s = true) (hO : va_AOA .int s) (harr : (Cond.arrayClass .int).before args s = true) (hK : va_K D cl tys s) (t0 t2 : Nat) (ht0 : tys[t0]? = some (cI, .int)) (ht2 : tys[t2]? = some (cJ, .array .int)) (hP : va_P D cl ws H) (hD : va_D A ws) (hS : va_S A H0 H locs) (hA : ∀ q, H0.size ≤ q → A q) {v : Int32} {n : Nat} (hn : ¬ v < 0) (hN : v.toNatClampNeg = n) (hbytes : n * 4 ≤ 536870912) (hcells : cells + (1 + n) ≤ R.cells) (hslots : slots + n * 3 ≤ R.slots) (hdg : decode cc pc = .ok (.multianewarray index 2, 4))
    (kk : ∀ (q : Nat) (r : Nat → Nat) (H1 : Heap), va_P D cl (ws ++ ((q, .inl (cJ, n, .inr (.inr (.inr (.inr (fun i => if i < n then some (r i) else none)))))) :: rW cI r (n, fun _ => (2, fun _ => 0)))) H1 → va_D A (ws ++ ((q, .inl (cJ, n, .inr (.inr (.inr (.inr (fun i => if i < n then some (r i) else none)))))) :: rW cI r (n, fun _ => (2, fun _ => 0)))) → va_S A H0 H1 locs → W p l e R s m args below meth c H1 locs (cells + (1 + n)) (slots + n * 3) Q (F0 m (pc + 4) ls (.ref q :: rest))) : W p l e R s m args below meth c H locs cells slots Q (F0 m pc ls (.int 2 :: .int v :: rest)) := by
  have e1 : va_pl [] (fun _ => (.inl (cI, 2, .inl (fun _ => 0)) : va_E)) = [] := rfl
  refine va_mna (X := ws) (L := []) (f := fun _ => .inl (cI, 2, .inl (fun _ => 0))) (cy := cI) (z := (2, .inl (fun _ => 0))) (N' := n) (K' := 2) hexec hb hown hclink hO harr (hK.2 t0 _ ht0).2 hK (by rw [e1, List.append_nil]; exact hP) (by rw [e1, List.append_nil]; exact hD) hS hA hn (by decide) hN (by decide) hbytes (by decide) (by decide) rfl rfl hcells (by omega) (fun c9 => ?_) hdg (fun q r cA H1 _ _ hK1 hP1 hD1 hS1 => ?_)
  · show ({ cls := c9, slots := Array.replicate 2 (.int 0), vm := .none } : Cell) = vp_cell c9 (2, .inl (fun _ => 0))
    rw [vp_cell_i, arrV_new]
  · have g1 : cA = cJ := by
      have h1 := (hK1.2 tys.length (cA, .array .int) (by simp)).2
      exact Option.some.inj (h1.symm.trans (hK.2 t2 _ ht2).2)
    subst g1
    rw [mna_rows cI, List.append_assoc] at hP1 hD1
    have e2 : cells + 1 + n = cells + (1 + n) := by omega
    have e3 : slots + n + n * 2 = slots + n * 3 := by omega
    rw [e2, e3]
    exact kk q r H1 hP1 hD1 hS1
