/-! BASE: pure combinators of the methods' pictures (an option: none where an index is out of its row), the contracts' shapes, the entries, ends and calls in one row each -/
theorem ip {c : Prop} [Decidable c] {α : Type} {a b z : α} (h : (if c then a else b) = z) (hc : c) : a = z := (if_pos hc).symm.trans h
theorem iq {c : Prop} [Decidable c] {α : Type} {a b z : α} (h : (if c then a else b) = z) (hc : ¬ c) : b = z := (if_neg hc).symm.trans h
def gd {α : Type} (i : Int32) (n : Nat) (k : Option α) : Option α := if ¬ (i < 0 ∨ n ≤ i.toNatClampNeg) then k else none
theorem gd_some {α : Type} {i : Int32} {n : Nat} {k : Option α} {z : α} (h : gd i n k = some z) : vp_in i n ∧ k = some z := by
  unfold gd at h
  by_cases hc : ¬ (i < 0 ∨ n ≤ i.toNatClampNeg)
  · rw [if_pos hc] at h; exact ⟨hc, h⟩
  · rw [if_neg hc] at h; cases h
theorem gd_in {α : Type} {i : Int32} {n : Nat} {k : Option α} (h : vp_in i n) : gd i n k = k := if_pos h
def gq {α : Type} (c : Prop) [Decidable c] (k : Option α) : Option α := if c then k else none
theorem gq_some {α : Type} {c : Prop} [Decidable c] {k : Option α} {z : α} (h : gq c k = some z) : c ∧ k = some z := by
  unfold gq at h
  by_cases hc : c
  · rw [if_pos hc] at h; exact ⟨hc, h⟩
  · rw [if_neg hc] at h; cases h
theorem gq_in {α : Type} {c : Prop} [Decidable c] {k : Option α} (h : c) : gq c k = k := if_pos h
def bd {α β : Type} (x : Option α) (f : α → Option β) : Option β := match x with
  | some a => f a
  | none => none
theorem bd_some {α β : Type} {x : Option α} {f : α → Option β} {z : β} (h : bd x f = some z) : ∃ a, x = some a ∧ f a = some z := by
  cases x with
  | none => cases h
  | some a => exact ⟨a, rfl, h⟩
theorem bd_of {α β : Type} {x : Option α} {f : α → Option β} {a : α} (h : x = some a) : bd x f = f a := by rw [h]; rfl
/-! the contracts' shapes. R: reads alone; W: writes in its world; X: may throw (the Throwable's statics and the texts at hand) -/
def prR (D : va_G) (cl : List vw_C) (tys : List (ClassId × FieldType)) (ws : va_W) (av : List Value) : Array Value → State → Prop := va_Pc av (fun U => va_P D cl ws U.heap ∧ va_K D cl tys U)
theorem prR_fb {D : va_G} {cl : List vw_C} {tys : List (ClassId × FieldType)} {ws : va_W} {av : List Value} : FrameBlind (prR D cl tys ws av) := fun a U g mk q => ⟨q.1, q.2.1, va_K.moved (u := U) (U := U.calling g mk a) (Vm.Alike.refl U.vm) q.2.2⟩
theorem prR_of {D : va_G} {cl : List vw_C} {tys : List (ClassId × FieldType)} {ws : va_W} {av : List Value} {s : State} {H : Heap} (hP : va_P D cl ws H) (hK : va_K D cl tys s) : ∀ U : State, U.heap = H → s.WarmedH U.vm → prR D cl tys ws av av.toArray U := fun U hU hW => ⟨rfl, by rw [hU]; exact hP, va_K.moved hW.alike hK⟩
def prW (D : va_G) (cl : List vw_C) (tys : List (ClassId × FieldType)) (ws : va_W) (sz : Nat) (av : List Value) : Array Value → State → Prop := va_Pc av (fun U => U.heap.size = sz ∧ va_P D cl ws U.heap ∧ va_K D cl tys U ∧ va_D (fun _ => True) ws)
theorem prW_fb {D : va_G} {cl : List vw_C} {tys : List (ClassId × FieldType)} {ws : va_W} {sz : Nat} {av : List Value} : FrameBlind (prW D cl tys ws sz av) := fun a U g mk q => ⟨q.1, q.2.1, q.2.2.1, va_K.moved (u := U) (U := U.calling g mk a) (Vm.Alike.refl U.vm) q.2.2.2.1, q.2.2.2.2⟩
theorem prW_of {D : va_G} {cl : List vw_C} {tys : List (ClassId × FieldType)} {ws : va_W} {av : List Value} {s : State} {H : Heap} {A : Nat → Prop} (hP : va_P D cl ws H) (hK : va_K D cl tys s) (hD : va_D A ws) : ∀ U : State, U.heap = H → s.WarmedH U.vm → prW D cl tys ws H.size av av.toArray U := fun U hU hW => ⟨rfl, by rw [hU], by rw [hU]; exact hP, va_K.moved hW.alike hK, hD.weaken (fun _ _ _ _ => trivial)⟩
/-- the same addresses -/
theorem va_Dsame {A : Nat → Prop} {ws ws' : va_W} (h : ws'.map (fun q => q.1) = ws.map (fun q => q.1)) (hD : va_D A ws) : va_D A ws' := by
  have key : ∀ (k : Nat) (q : Nat × va_E), ws'[k]? = some q → ∃ q', ws[k]? = some q' ∧ q'.1 = q.1 := by
    intro k q hk
    have h1 : (ws'.map (fun q => q.1))[k]? = some q.1 := by rw [List.getElem?_map, hk]; rfl
    rw [h, List.getElem?_map] at h1
    cases hq : ws[k]? with
    | none => rw [hq] at h1; cases h1
    | some q' => rw [hq] at h1; exact ⟨q', rfl, Option.some.inj h1⟩
  refine ⟨fun i j p q hp hq he => ?_, fun k q hk => ?_⟩
  · obtain ⟨p', h1, h2⟩ := key i p hp
    obtain ⟨q', h3, h4⟩ := key j q hq
    exact hD.1 i j p' q' h1 h3 (by rw [h2, h4, he])
  · obtain ⟨q', h1, h2⟩ := key k q hk
    rw [← h2]
    exact hD.2 k q' h1
theorem va_Aof {A : Nat → Prop} {ws : va_W} {H0 H : Heap} {locs : List Loc} (hD : va_D A ws) (hS : va_S A H0 H locs) (hA : ∀ q, H0.size ≤ q → A q) : ∀ q, va_A ws H.size q → A q := by
  intro q h
  rcases h with ⟨k, e, h⟩ | h
  · exact hD.2 k (q, e) h
  · exact hA q (Nat.le_trans hS.1 h)
/-- nothing old has changed: the world stands -/
theorem va_Pkept {D : va_G} {cl : List vw_C} {ws : va_W} {H H1 : Heap} (h : va_P D cl ws H) (hk : ∀ q : Nat, q < H.size → ¬ (fun _ : Nat => False) q → H1[q]? = H[q]?) : va_P D cl ws H1 := h.kept fun k q hq => hk q.1 ((h k q hq).lt) (fun z => z)
/-- some cells of a world put anew, by their places -/
def va_ups (ws : va_W) : List Nat → va_W → va_W
  | i :: is, q :: qs => (va_ups ws is qs).set i q
  | _, _ => ws
theorem va_ups_len (ws : va_W) : ∀ (is : List Nat) (qs : va_W), (va_ups ws is qs).length = ws.length
  | [], _ => rfl
  | _ :: _, [] => rfl
  | i :: is, q :: qs => by show ((va_ups ws is qs).set i q).length = _; rw [List.length_set]; exact va_ups_len ws is qs
theorem va_ups_at (ws : va_W) : ∀ (is : List Nat) (qs : va_W), is.length = qs.length → ∀ (k : Nat) (q : Nat × va_E), (va_ups ws is qs)[k]? = some q → (∃ j : Nat, is[j]? = some k ∧ qs[j]? = some q) ∨ (k ∉ is ∧ ws[k]? = some q)
  | [], [], _, k, q, h => Or.inr ⟨List.not_mem_nil, h⟩
  | [], _ :: _, h0, _, _, _ => by cases h0
  | _ :: _, [], h0, _, _, _ => by cases h0
  | i :: is, p :: qs, h0, k, q, h => by
    have h : ((va_ups ws is qs).set i p)[k]? = some q := h
    rw [List.getElem?_set] at h
    by_cases hk : i = k
    · rw [if_pos hk] at h
      by_cases hl : i < (va_ups ws is qs).length
      · rw [if_pos hl] at h
        exact Or.inl ⟨0, by rw [← hk]; rfl, h⟩
      · rw [if_neg hl] at h; cases h
    · rw [if_neg hk] at h
      rcases va_ups_at ws is qs (Nat.succ.inj h0) k q h with ⟨j, h1, h2⟩ | ⟨h1, h2⟩
      · exact Or.inl ⟨j + 1, h1, h2⟩
      · exact Or.inr ⟨fun hm => (List.mem_cons.mp hm).elim (fun e => hk e.symm) h1, h2⟩
/-- behind a call: the callee's cells as they are then, the others as before -/
theorem fr_join {A : Nat → Prop} {D : va_G} {cl : List vw_C} {ws wc wc' ws' : va_W} {H H1 : Heap} (hP : va_P D cl ws H) (hD : va_D A ws) (isC : List Nat) (hC : isC.map (fun i => ws[i]?) = wc.map some) (hw : wc'.map (fun q => q.1) = wc.map (fun q => q.1)) (hws : va_ups ws isC wc' = ws') (hk : ∀ q : Nat, q < H.size → ¬ va_A wc H.size q → H1[q]? = H[q]?) (hP1 : va_P D cl wc' H1) : va_P D cl ws' H1 := by
  subst hws
  have hlen : isC.length = wc'.length := by
    have h1 := congrArg List.length hC
    have h2 := congrArg List.length hw
    rw [List.length_map, List.length_map] at h1 h2
    rw [h1, h2]
  intro k q hkq
  rcases va_ups_at ws isC wc' hlen k q hkq with ⟨j, -, h2⟩ | ⟨h1, h2⟩
  · exact hP1 j q h2
  · have hlt : q.1 < H.size := (hP k q h2).lt
    refine (hP k q h2).kept (hk q.1 hlt (fun hA => ?_))
    rcases hA with ⟨j, e, hj⟩ | hge
    · have h3 : (isC.map (fun i => ws[i]?))[j]? = some (some (q.1, e)) := by rw [hC, List.getElem?_map, hj]; rfl
      rw [List.getElem?_map] at h3
      cases hi : isC[j]? with
      | none => rw [hi] at h3; cases h3
      | some i =>
        rw [hi] at h3
        have h4 : ws[i]? = some (q.1, e) := Option.some.inj h3
        have h5 := hD.1 i k (q.1, e) q h4 h2 rfl
        exact h1 (h5 ▸ List.mem_of_getElem? hi)
    · exact absurd hlt (Nat.not_lt.mpr hge)
/-! entries -/
theorem oM {l : Launch} {y : MethodName} {bytes : ByteArray} {maxL : Nat} {ret : Option FieldType} {rm : Room} {av : List Value} {B : State → Prop} {Qc : Array Value → State → Outcome → State → Prop} {mc ms : Nat} {free0 : Addr → Prop} (hy : plainName y.cls = true) (hlen : (lg_sl av).length ≤ maxL)
    (k : ∀ (p : Program) (e : Env) (s : State) (m : MethodId) (args : Array Value) (below : List Frame) (meth : Method) (c : Code), CallFix p m c bytes maxL s args lw_all y.cls → meth.sig.returnType = ret → meth.locks = false → meth.name = y.name → B s → ∀ ls : Array Slot, lv_has ls maxL (lv_args 0 av) → W p l e rm s m args below meth c s.heap [] 0 0 (MQ below Qc args s mc ms free0) (F0 m 0 ls [])) :
    Met l y (Cond.code y bytes maxL ret :: lw_all) rm (va_Pc av B) Qc mc ms free0 := by
  refine Met.ofW (cc := bytes) (maxL := maxL) (ret := ret) hy rfl ?_
  intro p e s m args below meth c s₁ B0 hml hv
  obtain ⟨rfl, hB⟩ := hv
  have hts := atoms_spec (ws := Cond.code y bytes maxL ret :: lw_all) B0.pre
  have hl := lv_entry av (n := maxL) hlen
  rw [lg_entry_eq]
  generalize (lg_sl av ++ List.replicate (maxL - (lg_sl av).length) Slot.unset).toArray = ls at hl ⊢
  exact k p e s m _ below meth c ⟨B0.exec, B0.bytes, hml, findClass_of_methodNamed B0.named, fun w h => hts w (List.mem_cons_of_mem _ h)⟩ B0.returns B0.notSynchronized (name_of_methodNamed B0.named B0.method).1 hB ls hl
