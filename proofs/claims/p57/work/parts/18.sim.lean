theorem va_Pmid {D : va_G} {cl : List vw_C} {wa wc wr : va_W} {H : Heap} (h : va_P D cl (wa ++ (wc ++ wr)) H) : va_P D cl wc H := by
  intro k q hk
  have hlt : k < wc.length := (List.getElem?_eq_some_iff.mp hk).1
  refine h (wa.length + k) q ?_
  rw [List.getElem?_append_right (by omega), show wa.length + k - wa.length = k by omega, List.getElem?_append_left hlt]
  exact hk
theorem va_Dmid {A : Nat → Prop} {wa wc wr : va_W} (h : va_D A (wa ++ (wc ++ wr))) : va_D A wc := by
  have key : ∀ (k : Nat) (q : Nat × va_E), wc[k]? = some q → (wa ++ (wc ++ wr))[wa.length + k]? = some q := by
    intro k q hk
    have hlt : k < wc.length := (List.getElem?_eq_some_iff.mp hk).1
    rw [List.getElem?_append_right (by omega), show wa.length + k - wa.length = k by omega, List.getElem?_append_left hlt]
    exact hk
  refine ⟨fun i j p q hp hq he => ?_, fun k q hk => h.2 _ q (key k q hk)⟩
  have h1 := h.1 _ _ p q (key i p hp) (key j q hq) he
  omega
theorem fr_joinM {A : Nat → Prop} {D : va_G} {cl : List vw_C} {wa wc wc' wr : va_W} {H H1 : Heap} (hP : va_P D cl (wa ++ (wc ++ wr)) H) (hD : va_D A (wa ++ (wc ++ wr))) (hw : wc'.map (fun q => q.1) = wc.map (fun q => q.1)) (hk : ∀ q : Nat, q < H.size → ¬ va_A wc H.size q → H1[q]? = H[q]?) (hP1 : va_P D cl wc' H1) : va_P D cl (wa ++ (wc' ++ wr)) H1 := by
  have hlen : wc'.length = wc.length := by
    have h2 := congrArg List.length hw
    rw [List.length_map, List.length_map] at h2
    exact h2
  have other : ∀ (k : Nat) (q : Nat × va_E), (wa ++ (wc ++ wr))[k]? = some q → (k < wa.length ∨ wa.length + wc.length ≤ k) → va_at D cl q H1 := by
    intro k q h hout
    have hlt : q.1 < H.size := (hP k q h).lt
    refine (hP k q h).kept (hk q.1 hlt (fun hA => ?_))
    rcases hA with ⟨j, e, hj⟩ | hge
    · have hjl : j < wc.length := (List.getElem?_eq_some_iff.mp hj).1
      have h4 : (wa ++ (wc ++ wr))[wa.length + j]? = some (q.1, e) := by
        rw [List.getElem?_append_right (by omega), show wa.length + j - wa.length = j by omega, List.getElem?_append_left hjl]
        exact hj
      have h5 := hD.1 _ _ (q.1, e) q h4 h rfl
      omega
    · exact absurd hlt (Nat.not_lt.mpr hge)
  intro k q hkq
  by_cases h1 : k < wa.length
  · rw [List.getElem?_append_left h1] at hkq
    exact other k q (by rw [List.getElem?_append_left h1]; exact hkq) (Or.inl h1)
  · rw [List.getElem?_append_right (by omega)] at hkq
    by_cases h2 : k - wa.length < wc'.length
    · rw [List.getElem?_append_left h2] at hkq
      exact hP1 _ q hkq
    · rw [List.getElem?_append_right (by omega)] at hkq
      refine other k q ?_ (Or.inr (by omega))
      rw [List.getElem?_append_right (by omega), List.getElem?_append_right (by omega)]
      rw [hlen] at hkq
      exact hkq
theorem va_Dmids {A : Nat → Prop} {wa wc wc' wr : va_W} (hw : wc'.map (fun q => q.1) = wc.map (fun q => q.1)) (h : va_D A (wa ++ (wc ++ wr))) : va_D A (wa ++ (wc' ++ wr)) := va_Dsame (by rw [List.map_append, List.map_append, List.map_append, List.map_append, hw]) h

theorem K_N {cI cZ : ClassId} {n0 h0 h3 h4 h5 h6 c0 c8 c9 c10 c11 c12 c13 t0 t8 t9 t10 t11 t12 t13 i0 i1 i2 i3 i4 m0 m1 m2 : Nat} {uH : tX1} {uC : tX0} {uT : tX0} {uI : tX2} {uM : tX3} {uH' : tX1} {uC' : tX0} {uT' : tX0} {uI' : tX2} {uM' : tX3} : ((wN cI cZ n0 h0 h3 h4 h5 h6 c0 c8 c9 c10 c11 c12 c13 t0 t8 t9 t10 t11 t12 t13 i0 i1 i2 i3 i4 m0 m1 m2 (uH') (uC') (uT') (uI') (uM')).map (fun q => q.1)) = ((wN cI cZ n0 h0 h3 h4 h5 h6 c0 c8 c9 c10 c11 c12 c13 t0 t8 t9 t10 t11 t12 t13 i0 i1 i2 i3 i4 m0 m1 m2 uH uC uT uI uM).map (fun q => q.1)) := by rfl
theorem mapapp {f : Nat × va_E → Nat} {a a' b b' : va_W} (h1 : a'.map f = a.map f) (h2 : b'.map f = b.map f) : (a' ++ b').map f = (a ++ b).map f := by rw [List.map_append, List.map_append, h1, h2]
theorem va_Psuf {D : va_G} {cl : List vw_C} {wa wc : va_W} {H : Heap} (h : va_P D cl (wa ++ wc) H) : va_P D cl wc H := va_Pmid (wa := wa) (wr := []) (by rw [List.append_nil]; exact h)
theorem va_Dsuf {A : Nat → Prop} {wa wc : va_W} (h : va_D A (wa ++ wc)) : va_D A wc := va_Dmid (wa := wa) (wr := []) (by rw [List.append_nil]; exact h)
theorem fr_joinR {A : Nat → Prop} {D : va_G} {cl : List vw_C} {wa wc wc' : va_W} {H H1 : Heap} (hP : va_P D cl (wa ++ wc) H) (hD : va_D A (wa ++ wc)) (hw : wc'.map (fun q => q.1) = wc.map (fun q => q.1)) (hk : ∀ q : Nat, q < H.size → ¬ va_A wc H.size q → H1[q]? = H[q]?) (hP1 : va_P D cl wc' H1) : va_P D cl (wa ++ wc') H1 := by
  have h := fr_joinM (wa := wa) (wr := []) (wc' := wc') (by rw [List.append_nil]; exact hP) (by rw [List.append_nil]; exact hD) hw hk hP1
  rw [List.append_nil] at h
  exact h
/-! THE LAW'S OWN SIMULATION: its cells. A row of rows is (how many, each row's length and cells) -/
abbrev tV : Type := Nat × (Nat → Int32)
abbrev tR : Type := Nat × (Nat → Nat × (Nat → Int32))
abbrev tX5 : Type := Int32 × Int32 × Int32 × Int32 × Int32 × Int32 × Int32 × tV × (Nat → Int32) × tR × tR × tR × tR × Int32
abbrev rfs (n : Nat) (L : Nat → Nat) : vp_A := (n, .inr (.inr (.inr (.inr (fun k => some (L k))))))
def rW (cI : ClassId) (L : Nat → Nat) (r : tR) : va_W := (List.range r.1).map (fun k => (L k, .inl (cI, (r.2 k).1, .inl (r.2 k).2)))
/-- a row's cells put anew -/
def uR (r : Nat → Nat × (Nat → Int32)) (k : Nat) (f : Nat → Int32) : Nat → Nat × (Nat → Int32) := fun j => if j = k then ((r k).1, f) else r j
/-- a row put behind the last -/
def pR (r : tR) (x : Nat × (Nat → Int32)) : tR := (r.1 + 1, fun j => if j = r.1 then x else r.2 j)
/-- a row in another's place -/
def qR (r : tR) (k : Nat) (x : Nat × (Nat → Int32)) : tR := (r.1, fun j => if j = k then x else r.2 j)
abbrev wX5 (cI cZ cJ : ClassId) (g0 g7 g8 g9 g10 g11 g12 : Nat) (G9 G10 G11 G12 : Nat → Nat) (u : tX5) : va_W := [(g0, .inr (5, [.int u.1, .int u.2.1, .int u.2.2.1, .int u.2.2.2.1, .int u.2.2.2.2.1, .int u.2.2.2.2.2.1, .int u.2.2.2.2.2.2.1, .ref g7, .ref g8, .ref g9, .ref g10, .ref g11, .ref g12, .int u.2.2.2.2.2.2.2.2.2.2.2.2.2])), (g7, .inl (cZ, u.2.2.2.2.2.2.2.1.1, .inl u.2.2.2.2.2.2.2.1.2)), (g8, .inl (cZ, 8, .inl u.2.2.2.2.2.2.2.2.1)), (g9, .inl (cJ, rfs u.2.2.2.2.2.2.2.2.2.1.1 G9)), (g10, .inl (cJ, rfs u.2.2.2.2.2.2.2.2.2.2.1.1 G10)), (g11, .inl (cJ, rfs u.2.2.2.2.2.2.2.2.2.2.2.1.1 G11)), (g12, .inl (cJ, rfs u.2.2.2.2.2.2.2.2.2.2.2.2.1.1 G12))] ++ (rW cI G9 u.2.2.2.2.2.2.2.2.2.1 ++ (rW cI G10 u.2.2.2.2.2.2.2.2.2.2.1 ++ (rW cI G11 u.2.2.2.2.2.2.2.2.2.2.2.1 ++ rW cI G12 u.2.2.2.2.2.2.2.2.2.2.2.2.1)))
abbrev TYG (cI cZ cJ : ClassId) : List (ClassId × FieldType) := [(cI, .int), (cZ, .boolean), (cJ, .array .int)]
theorem rW_len (cI : ClassId) (L : Nat → Nat) (r : tR) : (rW cI L r).length = r.1 := by unfold rW; rw [List.length_map, List.length_range]
theorem rW_at {cI : ClassId} {L : Nat → Nat} {r : tR} {k : Nat} (h : k < r.1) : (rW cI L r)[k]? = some (L k, .inl (cI, (r.2 k).1, .inl (r.2 k).2)) := by
  unfold rW
  rw [List.getElem?_map, List.getElem?_range h]; rfl
theorem rW_set {cI : ClassId} {L : Nat → Nat} {r : tR} {k : Nat} (h : k < r.1) (f : Nat → Int32) : (rW cI L r).set k (L k, .inl (cI, (r.2 k).1, .inl f)) = rW cI L (r.1, uR r.2 k f) := by
  apply List.ext_getElem?
  intro j
  rw [List.getElem?_set, rW_len]
  by_cases e : k = j
  · subst e
    rw [if_pos rfl, if_pos h, rW_at (r := (r.1, uR r.2 k f)) h]
    show _ = some (L k, Sum.inl (cI, (uR r.2 k f k).1, Sum.inl (uR r.2 k f k).2))
    unfold uR; rw [if_pos rfl]
  · rw [if_neg e]
    by_cases hj : j < r.1
    · rw [rW_at hj, rW_at (r := (r.1, uR r.2 k f)) hj]
      show _ = some (L j, Sum.inl (cI, (uR r.2 k f j).1, Sum.inl (uR r.2 k f j).2))
      unfold uR; rw [if_neg (fun q => e q.symm)]
    · rw [List.getElem?_eq_none (by rw [rW_len]; omega), List.getElem?_eq_none (by rw [rW_len]; exact Nat.not_lt.mp hj)]
theorem rW_push (cI : ClassId) (L : Nat → Nat) (r : tR) (q : Nat) (x : Nat × (Nat → Int32)) : rW cI (va_up L r.1 q) (pR r x) = rW cI L r ++ [(q, .inl (cI, x.1, .inl x.2))] := by
  unfold rW pR
  rw [List.range_succ, List.map_append]
  congr 1
  · apply List.map_congr_left
    intro k hk
    have hk := List.mem_range.mp hk
    show (va_up L r.1 q k, Sum.inl (cI, (if k = r.1 then x else r.2 k).1, Sum.inl (if k = r.1 then x else r.2 k).2)) = _
    unfold va_up
    rw [if_neg (by omega), if_neg (by omega)]
  · show [(va_up L r.1 q r.1, Sum.inl (cI, (if r.1 = r.1 then x else r.2 r.1).1, Sum.inl (if r.1 = r.1 then x else r.2 r.1).2))] = _
    unfold va_up
    rw [if_pos rfl, if_pos rfl]
/-- the world by its members -/
theorem wP_mem {D : va_G} {cl : List vw_C} {ws : va_W} {H : Heap} : va_P D cl ws H ↔ ∀ x ∈ ws, va_at D cl x H := by
  constructor
  · intro h x hx
    obtain ⟨k, hk⟩ := List.getElem?_of_mem hx
    exact h k x hk
  · intro h k x hk
    exact h x (List.mem_of_getElem? hk)
theorem wP_sub {D : va_G} {cl : List vw_C} {ws ws' : va_W} {H : Heap} (h : va_P D cl ws H) (hm : ∀ x ∈ ws', x ∈ ws) : va_P D cl ws' H := wP_mem.mpr fun x hx => wP_mem.mp h x (hm x hx)
theorem wD_nd {A : Nat → Prop} {ws : va_W} : va_D A ws ↔ (ws.map (fun x => x.1)).Nodup ∧ ∀ x ∈ ws, A x.1 := by
  constructor
  · intro h
    refine ⟨List.pairwise_iff_getElem.mpr (fun i j hi hj hij => ?_), fun x hx => ?_⟩
    · rw [List.getElem_map, List.getElem_map]
      rw [List.length_map] at hi hj
      intro e
      have := h.1 i j ws[i] ws[j] (List.getElem?_eq_getElem hi) (List.getElem?_eq_getElem hj) e
      omega
    · obtain ⟨k, hk⟩ := List.getElem?_of_mem hx
      exact h.2 k x hk
  · intro h
    refine ⟨fun i j x y hi hj hxy => ?_, fun k x hk => h.2 x (List.mem_of_getElem? hk)⟩
    have hi' := (List.getElem?_eq_some_iff.mp hi)
    have hj' := (List.getElem?_eq_some_iff.mp hj)
    obtain ⟨li, ei⟩ := hi'
    obtain ⟨lj, ej⟩ := hj'
    have hp := List.pairwise_iff_getElem.mp h.1
    rcases Nat.lt_trichotomy i j with q | q | q
    · exact absurd (by rw [List.getElem_map, List.getElem_map, ei, ej]; exact hxy) (hp i j (by rw [List.length_map]; exact li) (by rw [List.length_map]; exact lj) q)
    · exact q
    · exact absurd (by rw [List.getElem_map, List.getElem_map, ei, ej]; exact hxy.symm) (hp j i (by rw [List.length_map]; exact lj) (by rw [List.length_map]; exact li) q)
/-- fewer places, in another order -/
theorem wD_cnt {A : Nat → Prop} {ws ws' : va_W} (h : va_D A ws) (hm : ∀ x ∈ ws', A x.1) (hc : ∀ a, (ws'.map (fun x => x.1)).count a ≤ (ws.map (fun x => x.1)).count a) : va_D A ws' := by
  refine wD_nd.mpr ⟨?_, hm⟩
  rw [List.nodup_iff_count]
  intro a
  have h1 := (List.nodup_iff_count.mp (wD_nd.mp h).1) a
  exact Nat.le_trans (hc a) h1
theorem wD_of {A : Nat → Prop} {ws : va_W} (h : va_D A ws) : ∀ x ∈ ws, A x.1 := (wD_nd.mp h).2
theorem vq_congr (cA : ClassId) {n : Nat} {f g : Nat → Option Nat} (h : ∀ k, k < n → f k = g k) : vp_cell cA (n, .inr (.inr (.inr (.inr f)))) = vp_cell cA (n, .inr (.inr (.inr (.inr g)))) := by
  rw [vp_cell_q, vp_cell_q]
  unfold arrV
  congr 1
  congr 1
  funext j
  show va_rf (f j.val) = va_rf (g j.val)
  rw [h j.val j.isLt]
/-- behind a call that may have made cells: the callee's, and the others as before -/
theorem fr_joinA {A : Nat → Prop} {D : va_G} {cl : List vw_C} {wa wc wc' wr : va_W} {H H1 : Heap} (hP : va_P D cl (wa ++ (wc ++ wr)) H) (hD : va_D A (wa ++ (wc ++ wr))) (hA : ∀ q, va_A wc H.size q → A q) (hk : ∀ q : Nat, q < H.size → ¬ va_A wc H.size q → H1[q]? = H[q]?) (hP1 : va_P D cl wc' H1) (hD1 : va_D (va_A wc H.size) wc') : va_P D cl (wa ++ (wc' ++ wr)) H1 ∧ va_D A (wa ++ (wc' ++ wr)) := by
  obtain ⟨hn, hAm⟩ := wD_nd.mp hD
  obtain ⟨hn1, hAm1⟩ := wD_nd.mp hD1
  have hPm := wP_mem.mp hP
  have hPm1 := wP_mem.mp hP1
  rw [List.map_append, List.map_append, List.nodup_append, List.nodup_append] at hn
  obtain ⟨na, ⟨nc, nr, hcr⟩, hacr⟩ := hn
  have hlt : ∀ x ∈ wa ++ (wc ++ wr), x.1 < H.size := fun x hx => by
    obtain ⟨k, hk⟩ := List.getElem?_of_mem hx
    exact (hP k x hk).lt
  have ma : ∀ x ∈ wa, x ∈ wa ++ (wc ++ wr) := fun x h => List.mem_append.mpr (Or.inl h)
  have mr : ∀ x ∈ wr, x ∈ wa ++ (wc ++ wr) := fun x h => List.mem_append.mpr (Or.inr (List.mem_append.mpr (Or.inr h)))
  have fA : ∀ x ∈ wa, ¬ va_A wc H.size x.1 := fun x hx hA9 => by
    rcases hA9 with ⟨k, e, hk⟩ | hge
    · exact hacr x.1 (List.mem_map.mpr ⟨x, hx, rfl⟩) x.1 (List.mem_append.mpr (Or.inl (List.mem_map.mpr ⟨(x.1, e), List.mem_of_getElem? hk, rfl⟩))) rfl
    · exact absurd (hlt x (ma x hx)) (Nat.not_lt.mpr hge)
  have fR : ∀ x ∈ wr, ¬ va_A wc H.size x.1 := fun x hx hA9 => by
    rcases hA9 with ⟨k, e, hk⟩ | hge
    · exact hcr x.1 (List.mem_map.mpr ⟨(x.1, e), List.mem_of_getElem? hk, rfl⟩) x.1 (List.mem_map.mpr ⟨x, hx, rfl⟩) rfl
    · exact absurd (hlt x (mr x hx)) (Nat.not_lt.mpr hge)
  refine ⟨wP_mem.mpr fun x hx => ?_, wD_nd.mpr ⟨?_, fun x hx => ?_⟩⟩
  · rcases List.mem_append.mp hx with h | h
    · exact (hPm x (ma x h)).kept (hk x.1 (hlt x (ma x h)) (fA x h))
    · rcases List.mem_append.mp h with h | h
      · exact hPm1 x h
      · exact (hPm x (mr x h)).kept (hk x.1 (hlt x (mr x h)) (fR x h))
  · rw [List.map_append, List.map_append, List.nodup_append, List.nodup_append]
    refine ⟨na, ⟨hn1, nr, fun q h1 r h2 e => ?_⟩, fun q h1 r h2 e => ?_⟩
    · obtain ⟨x, hx, rfl⟩ := List.mem_map.mp h1
      obtain ⟨y, hy, rfl⟩ := List.mem_map.mp h2
      exact fR y hy (e ▸ hAm1 x hx)
    · obtain ⟨x, hx, rfl⟩ := List.mem_map.mp h1
      rcases List.mem_append.mp h2 with h3 | h3
      · obtain ⟨y, hy, rfl⟩ := List.mem_map.mp h3
        exact fA x hx (e.symm ▸ hAm1 y hy)
      · exact hacr x.1 h1 r (List.mem_append.mpr (Or.inr h3)) e
  · rcases List.mem_append.mp hx with h | h
    · exact hAm x (ma x h)
    · rcases List.mem_append.mp h with h | h
      · exact hA x.1 (hAm1 x h)
      · exact hAm x (mr x h)
/-- where a place lies, and what putting something there does -/
def FC (ws : va_W) (y : Nat × va_E) (F : (Nat × va_E) → va_W) : Prop := ∃ q : Nat, ws[q]? = some y ∧ ∀ z, ws.set q z = F z
theorem FC_l {w1 w2 : va_W} {y : Nat × va_E} {F : (Nat × va_E) → va_W} (h : FC w1 y F) : FC (w1 ++ w2) y (fun z => F z ++ w2) := by
  obtain ⟨q, h1, h2⟩ := h
  have hlt := (List.getElem?_eq_some_iff.mp h1).1
  exact ⟨q, by rw [List.getElem?_append_left hlt]; exact h1, fun z => by rw [List.set_append_left _ _ hlt, h2]⟩
theorem FC_r {w1 w2 : va_W} {y : Nat × va_E} {F : (Nat × va_E) → va_W} (h : FC w2 y F) : FC (w1 ++ w2) y (fun z => w1 ++ F z) := by
  obtain ⟨q, h1, h2⟩ := h
  exact ⟨w1.length + q, by rw [List.getElem?_append_right (by omega), show w1.length + q - w1.length = q by omega]; exact h1, fun z => by rw [List.set_append_right _ _ (by omega), show w1.length + q - w1.length = q by omega, h2]⟩
theorem FC_i {ws : va_W} {y : Nat × va_E} (q : Nat) (h : ws[q]? = some y) : FC ws y (fun z => ws.set q z) := ⟨q, h, fun _ => rfl⟩
theorem fk9 {cI cZ cJ : ClassId} {g0 g7 g8 g9 g10 g11 g12 : Nat} {G9 G10 G11 G12 : Nat → Nat} {u : tX5} {k : Nat} (h : k < u.2.2.2.2.2.2.2.2.2.1.1) : FC (wX5 cI cZ cJ g0 g7 g8 g9 g10 g11 g12 G9 G10 G11 G12 u) (G9 k, .inl (cI, (u.2.2.2.2.2.2.2.2.2.1.2 k).1, .inl (u.2.2.2.2.2.2.2.2.2.1.2 k).2)) (fun z => [(g0, .inr (5, [.int u.1, .int u.2.1, .int u.2.2.1, .int u.2.2.2.1, .int u.2.2.2.2.1, .int u.2.2.2.2.2.1, .int u.2.2.2.2.2.2.1, .ref g7, .ref g8, .ref g9, .ref g10, .ref g11, .ref g12, .int u.2.2.2.2.2.2.2.2.2.2.2.2.2])), (g7, .inl (cZ, u.2.2.2.2.2.2.2.1.1, .inl u.2.2.2.2.2.2.2.1.2)), (g8, .inl (cZ, 8, .inl u.2.2.2.2.2.2.2.2.1)), (g9, .inl (cJ, rfs u.2.2.2.2.2.2.2.2.2.1.1 G9)), (g10, .inl (cJ, rfs u.2.2.2.2.2.2.2.2.2.2.1.1 G10)), (g11, .inl (cJ, rfs u.2.2.2.2.2.2.2.2.2.2.2.1.1 G11)), (g12, .inl (cJ, rfs u.2.2.2.2.2.2.2.2.2.2.2.2.1.1 G12))] ++ ((rW cI G9 u.2.2.2.2.2.2.2.2.2.1).set k z ++ (rW cI G10 u.2.2.2.2.2.2.2.2.2.2.1 ++ (rW cI G11 u.2.2.2.2.2.2.2.2.2.2.2.1 ++ rW cI G12 u.2.2.2.2.2.2.2.2.2.2.2.2.1)))) := FC_r (FC_l (FC_i k (rW_at (r := u.2.2.2.2.2.2.2.2.2.1) h)))
theorem fs9 {cI cZ cJ : ClassId} {g0 g7 g8 g9 g10 g11 g12 : Nat} {G9 G10 G11 G12 : Nat → Nat} {u : tX5} {wa ex : va_W} {k : Nat} (h : k < u.2.2.2.2.2.2.2.2.2.1.1) : ∃ q : Nat, (wa ++ ((wX5 cI cZ cJ g0 g7 g8 g9 g10 g11 g12 G9 G10 G11 G12 u) ++ ex))[q]? = some (G9 k, .inl (cI, (u.2.2.2.2.2.2.2.2.2.1.2 k).1, .inl (u.2.2.2.2.2.2.2.2.2.1.2 k).2)) ∧ ∀ f : Nat → Int32, (wa ++ ((wX5 cI cZ cJ g0 g7 g8 g9 g10 g11 g12 G9 G10 G11 G12 u) ++ ex)).set q (G9 k, .inl (cI, (u.2.2.2.2.2.2.2.2.2.1.2 k).1, .inl f)) = wa ++ (wX5 cI cZ cJ g0 g7 g8 g9 g10 g11 g12 G9 G10 G11 G12 (u.1, u.2.1, u.2.2.1, u.2.2.2.1, u.2.2.2.2.1, u.2.2.2.2.2.1, u.2.2.2.2.2.2.1, u.2.2.2.2.2.2.2.1, u.2.2.2.2.2.2.2.2.1, (u.2.2.2.2.2.2.2.2.2.1.1, uR u.2.2.2.2.2.2.2.2.2.1.2 k f), u.2.2.2.2.2.2.2.2.2.2.1, u.2.2.2.2.2.2.2.2.2.2.2.1, u.2.2.2.2.2.2.2.2.2.2.2.2.1, u.2.2.2.2.2.2.2.2.2.2.2.2.2) ++ ex) := by
  obtain ⟨q, h1, h2⟩ := FC_r (w1 := wa) (FC_l (w2 := ex) (fk9 (cI := cI) (cZ := cZ) (cJ := cJ) (g0 := g0) (g7 := g7) (g8 := g8) (g9 := g9) (g10 := g10) (g11 := g11) (g12 := g12) (G9 := G9) (G10 := G10) (G11 := G11) (G12 := G12) h))
  refine ⟨q, h1, fun f => ?_⟩
  rw [h2]
  show wa ++ (([(g0, .inr (5, [.int u.1, .int u.2.1, .int u.2.2.1, .int u.2.2.2.1, .int u.2.2.2.2.1, .int u.2.2.2.2.2.1, .int u.2.2.2.2.2.2.1, .ref g7, .ref g8, .ref g9, .ref g10, .ref g11, .ref g12, .int u.2.2.2.2.2.2.2.2.2.2.2.2.2])), (g7, .inl (cZ, u.2.2.2.2.2.2.2.1.1, .inl u.2.2.2.2.2.2.2.1.2)), (g8, .inl (cZ, 8, .inl u.2.2.2.2.2.2.2.2.1)), (g9, .inl (cJ, rfs u.2.2.2.2.2.2.2.2.2.1.1 G9)), (g10, .inl (cJ, rfs u.2.2.2.2.2.2.2.2.2.2.1.1 G10)), (g11, .inl (cJ, rfs u.2.2.2.2.2.2.2.2.2.2.2.1.1 G11)), (g12, .inl (cJ, rfs u.2.2.2.2.2.2.2.2.2.2.2.2.1.1 G12))] ++ ((rW cI G9 u.2.2.2.2.2.2.2.2.2.1).set k (G9 k, Sum.inl (cI, (u.2.2.2.2.2.2.2.2.2.1.2 k).1, Sum.inl f)) ++ (rW cI G10 u.2.2.2.2.2.2.2.2.2.2.1 ++ (rW cI G11 u.2.2.2.2.2.2.2.2.2.2.2.1 ++ rW cI G12 u.2.2.2.2.2.2.2.2.2.2.2.2.1)))) ++ ex) = _
  rw [rW_set h]
theorem rl9 {p : Program} {l : Launch} {e : Env} {R : Room} {s : State} {m : MethodId} {args : Array Value} {below : List Frame} {meth : Method} {c : Code} {H : Heap} {locs : List Loc} {cells slots : Nat} {Q : State → Prop} {cc : ByteArray} {pc a : Nat} {ls : Array Slot} {rest : List Value} {D : va_G} {cl : List vw_C} {tys : List (ClassId × FieldType)} {cI cZ cJ : ClassId} {g0 g7 g8 g9 g10 g11 g12 : Nat} {G9 G10 G11 G12 : Nat → Nat} {u : tX5} {wa ex : va_W} (hexec : p.tables.exec = Jvm.exec) (hb : c.code = cc) (hK : va_K D cl tys s) (t0 : Nat) (ht : tys[t0]? = some (cI, .int)) (hP : va_P D cl (wa ++ ((wX5 cI cZ cJ g0 g7 g8 g9 g10 g11 g12 G9 G10 G11 G12 u) ++ ex)) H) {k j : Nat} (hk : k < u.2.2.2.2.2.2.2.2.2.1.1) (ha : a = G9 k) {i : Int32} (hj : i.toNatClampNeg = j) (hin : vp_in i (u.2.2.2.2.2.2.2.2.2.1.2 k).1) (hdg : decode cc pc = .ok (.iaload, 1)) (kk : W p l e R s m args below meth c H locs cells slots Q (F0 m (pc + 1) ls (.int ((u.2.2.2.2.2.2.2.2.2.1.2 k).2 j) :: rest))) : W p l e R s m args below meth c H locs cells slots Q (F0 m pc ls (.int i :: .ref a :: rest)) := by
  subst ha; subst hj
  obtain ⟨q, h1, -⟩ := fs9 (wa := wa) (ex := ex) (u := u) (cI := cI) (cZ := cZ) (cJ := cJ) (g0 := g0) (g7 := g7) (g8 := g8) (g9 := g9) (g10 := g10) (g11 := g11) (g12 := g12) (G9 := G9) (G10 := G10) (G11 := G11) (G12 := G12) hk
  exact va_iald hexec hb hK hP q t0 h1 ht hin hdg kk
theorem rn9 {p : Program} {l : Launch} {e : Env} {R : Room} {s : State} {m : MethodId} {args : Array Value} {below : List Frame} {meth : Method} {c : Code} {H : Heap} {locs : List Loc} {cells slots : Nat} {Q : State → Prop} {cc : ByteArray} {pc a : Nat} {ls : Array Slot} {rest : List Value} {D : va_G} {cl : List vw_C} {tys : List (ClassId × FieldType)} {cI cZ cJ : ClassId} {g0 g7 g8 g9 g10 g11 g12 : Nat} {G9 G10 G11 G12 : Nat → Nat} {u : tX5} {wa ex : va_W} (hexec : p.tables.exec = Jvm.exec) (hb : c.code = cc) (hK : va_K D cl tys s) (t0 : Nat) (ht : tys[t0]? = some (cI, .int)) (hP : va_P D cl (wa ++ ((wX5 cI cZ cJ g0 g7 g8 g9 g10 g11 g12 G9 G10 G11 G12 u) ++ ex)) H) {k : Nat} (hk : k < u.2.2.2.2.2.2.2.2.2.1.1) (ha : a = G9 k) (hdg : decode cc pc = .ok (.arraylength, 1)) (kk : W p l e R s m args below meth c H locs cells slots Q (F0 m (pc + 1) ls (.int (nI (u.2.2.2.2.2.2.2.2.2.1.2 k).1) :: rest))) : W p l e R s m args below meth c H locs cells slots Q (F0 m pc ls (.ref a :: rest)) := by
  subst ha
  obtain ⟨q, h1, -⟩ := fs9 (wa := wa) (ex := ex) (u := u) (cI := cI) (cZ := cZ) (cJ := cJ) (g0 := g0) (g7 := g7) (g8 := g8) (g9 := g9) (g10 := g10) (g11 := g11) (g12 := g12) (G9 := G9) (G10 := G10) (G11 := G11) (G12 := G12) hk
  exact va_alen hexec hb hK hP q t0 h1 ht rfl hdg kk
theorem ra9 {p : Program} {l : Launch} {e : Env} {R : Room} {s : State} {m : MethodId} {args : Array Value} {below : List Frame} {meth : Method} {c : Code} {H : Heap} {locs : List Loc} {cells slots : Nat} {Q : State → Prop} {cc : ByteArray} {pc : Nat} {ls : Array Slot} {rest : List Value} {D : va_G} {cl : List vw_C} {tys : List (ClassId × FieldType)} {cI cZ cJ : ClassId} {g0 g7 g8 g9 g10 g11 g12 : Nat} {G9 G10 G11 G12 : Nat → Nat} {u : tX5} {wa ex : va_W} (hexec : p.tables.exec = Jvm.exec) (hb : c.code = cc) (hK : va_K D cl tys s) (t0 : Nat) (ht : tys[t0]? = some (cJ, .array .int)) (hP : va_P D cl (wa ++ ((wX5 cI cZ cJ g0 g7 g8 g9 g10 g11 g12 G9 G10 G11 G12 u) ++ ex)) H) {j : Nat} {i : Int32} (hj : i.toNatClampNeg = j) (hin : vp_in i u.2.2.2.2.2.2.2.2.2.1.1) (hdg : decode cc pc = .ok (.aaload, 1)) (kk : W p l e R s m args below meth c H locs cells slots Q (F0 m (pc + 1) ls (.ref (G9 j) :: rest))) : W p l e R s m args below meth c H locs cells slots Q (F0 m pc ls (.int i :: .ref g9 :: rest)) := by
  subst hj
  obtain ⟨q, h1, -⟩ := FC_r (w1 := wa) (FC_l (w2 := ex) (FC_i (ws := (wX5 cI cZ cJ g0 g7 g8 g9 g10 g11 g12 G9 G10 G11 G12 u)) 3 rfl))
  exact fg_ld hexec hb hK hP q t0 h1 ht hin rfl hdg kk
theorem rs9 {p : Program} {l : Launch} {e : Env} {R : Room} {s : State} {m : MethodId} {args : Array Value} {below : List Frame} {meth : Method} {c : Code} {H H0 : Heap} {locs : List Loc} {cells slots : Nat} {Q : State → Prop} {cc : ByteArray} {pc a : Nat} {ls : Array Slot} {rest : List Value} {D : va_G} {cl : List vw_C} {tys : List (ClassId × FieldType)} {A : Nat → Prop} {cI cZ cJ : ClassId} {g0 g7 g8 g9 g10 g11 g12 : Nat} {G9 G10 G11 G12 : Nat → Nat} {u : tX5} {wa ex : va_W} (hexec : p.tables.exec = Jvm.exec) (hb : c.code = cc) (hK : va_K D cl tys s) (t0 : Nat) (ht : tys[t0]? = some (cI, .int)) (hP : va_P D cl (wa ++ ((wX5 cI cZ cJ g0 g7 g8 g9 g10 g11 g12 G9 G10 G11 G12 u) ++ ex)) H) (hD : va_D A (wa ++ ((wX5 cI cZ cJ g0 g7 g8 g9 g10 g11 g12 G9 G10 G11 G12 u) ++ ex))) (hS : va_S A H0 H locs) {k j : Nat} (hk : k < u.2.2.2.2.2.2.2.2.2.1.1) (ha : a = G9 k) {i x : Int32} (hj : i.toNatClampNeg = j) (hin : vp_in i (u.2.2.2.2.2.2.2.2.2.1.2 k).1) (hdg : decode cc pc = .ok (.iastore, 1)) (kk : ∀ (H1 : Heap) (locs1 : List Loc), va_P D cl (wa ++ (wX5 cI cZ cJ g0 g7 g8 g9 g10 g11 g12 G9 G10 G11 G12 (u.1, u.2.1, u.2.2.1, u.2.2.2.1, u.2.2.2.2.1, u.2.2.2.2.2.1, u.2.2.2.2.2.2.1, u.2.2.2.2.2.2.2.1, u.2.2.2.2.2.2.2.2.1, (u.2.2.2.2.2.2.2.2.2.1.1, uR u.2.2.2.2.2.2.2.2.2.1.2 k (upd (u.2.2.2.2.2.2.2.2.2.1.2 k).2 j x)), u.2.2.2.2.2.2.2.2.2.2.1, u.2.2.2.2.2.2.2.2.2.2.2.1, u.2.2.2.2.2.2.2.2.2.2.2.2.1, u.2.2.2.2.2.2.2.2.2.2.2.2.2) ++ ex)) H1 → va_D A (wa ++ (wX5 cI cZ cJ g0 g7 g8 g9 g10 g11 g12 G9 G10 G11 G12 (u.1, u.2.1, u.2.2.1, u.2.2.2.1, u.2.2.2.2.1, u.2.2.2.2.2.1, u.2.2.2.2.2.2.1, u.2.2.2.2.2.2.2.1, u.2.2.2.2.2.2.2.2.1, (u.2.2.2.2.2.2.2.2.2.1.1, uR u.2.2.2.2.2.2.2.2.2.1.2 k (upd (u.2.2.2.2.2.2.2.2.2.1.2 k).2 j x)), u.2.2.2.2.2.2.2.2.2.2.1, u.2.2.2.2.2.2.2.2.2.2.2.1, u.2.2.2.2.2.2.2.2.2.2.2.2.1, u.2.2.2.2.2.2.2.2.2.2.2.2.2) ++ ex)) → va_S A H0 H1 locs1 → W p l e R s m args below meth c H1 locs1 cells slots Q (F0 m (pc + 1) ls rest)) : W p l e R s m args below meth c H locs cells slots Q (F0 m pc ls (.int x :: .int i :: .ref a :: rest)) := by
  subst ha; subst hj
  obtain ⟨q, h1, h2⟩ := fs9 (wa := wa) (ex := ex) (u := u) (cI := cI) (cZ := cZ) (cJ := cJ) (g0 := g0) (g7 := g7) (g8 := g8) (g9 := g9) (g10 := g10) (g11 := g11) (g12 := g12) (G9 := G9) (G10 := G10) (G11 := G11) (G12 := G12) hk
  refine va_iast hexec hb hK hP hD hS q t0 h1 ht hin hdg (fun H1 locs1 hP1 hD1 hS1 => ?_)
  rw [h2] at hP1 hD1
  exact kk H1 locs1 hP1 hD1 hS1
theorem fk10 {cI cZ cJ : ClassId} {g0 g7 g8 g9 g10 g11 g12 : Nat} {G9 G10 G11 G12 : Nat → Nat} {u : tX5} {k : Nat} (h : k < u.2.2.2.2.2.2.2.2.2.2.1.1) : FC (wX5 cI cZ cJ g0 g7 g8 g9 g10 g11 g12 G9 G10 G11 G12 u) (G10 k, .inl (cI, (u.2.2.2.2.2.2.2.2.2.2.1.2 k).1, .inl (u.2.2.2.2.2.2.2.2.2.2.1.2 k).2)) (fun z => [(g0, .inr (5, [.int u.1, .int u.2.1, .int u.2.2.1, .int u.2.2.2.1, .int u.2.2.2.2.1, .int u.2.2.2.2.2.1, .int u.2.2.2.2.2.2.1, .ref g7, .ref g8, .ref g9, .ref g10, .ref g11, .ref g12, .int u.2.2.2.2.2.2.2.2.2.2.2.2.2])), (g7, .inl (cZ, u.2.2.2.2.2.2.2.1.1, .inl u.2.2.2.2.2.2.2.1.2)), (g8, .inl (cZ, 8, .inl u.2.2.2.2.2.2.2.2.1)), (g9, .inl (cJ, rfs u.2.2.2.2.2.2.2.2.2.1.1 G9)), (g10, .inl (cJ, rfs u.2.2.2.2.2.2.2.2.2.2.1.1 G10)), (g11, .inl (cJ, rfs u.2.2.2.2.2.2.2.2.2.2.2.1.1 G11)), (g12, .inl (cJ, rfs u.2.2.2.2.2.2.2.2.2.2.2.2.1.1 G12))] ++ (rW cI G9 u.2.2.2.2.2.2.2.2.2.1 ++ ((rW cI G10 u.2.2.2.2.2.2.2.2.2.2.1).set k z ++ (rW cI G11 u.2.2.2.2.2.2.2.2.2.2.2.1 ++ rW cI G12 u.2.2.2.2.2.2.2.2.2.2.2.2.1)))) := FC_r (FC_r (FC_l (FC_i k (rW_at (r := u.2.2.2.2.2.2.2.2.2.2.1) h))))
theorem fs10 {cI cZ cJ : ClassId} {g0 g7 g8 g9 g10 g11 g12 : Nat} {G9 G10 G11 G12 : Nat → Nat} {u : tX5} {wa ex : va_W} {k : Nat} (h : k < u.2.2.2.2.2.2.2.2.2.2.1.1) : ∃ q : Nat, (wa ++ ((wX5 cI cZ cJ g0 g7 g8 g9 g10 g11 g12 G9 G10 G11 G12 u) ++ ex))[q]? = some (G10 k, .inl (cI, (u.2.2.2.2.2.2.2.2.2.2.1.2 k).1, .inl (u.2.2.2.2.2.2.2.2.2.2.1.2 k).2)) ∧ ∀ f : Nat → Int32, (wa ++ ((wX5 cI cZ cJ g0 g7 g8 g9 g10 g11 g12 G9 G10 G11 G12 u) ++ ex)).set q (G10 k, .inl (cI, (u.2.2.2.2.2.2.2.2.2.2.1.2 k).1, .inl f)) = wa ++ (wX5 cI cZ cJ g0 g7 g8 g9 g10 g11 g12 G9 G10 G11 G12 (u.1, u.2.1, u.2.2.1, u.2.2.2.1, u.2.2.2.2.1, u.2.2.2.2.2.1, u.2.2.2.2.2.2.1, u.2.2.2.2.2.2.2.1, u.2.2.2.2.2.2.2.2.1, u.2.2.2.2.2.2.2.2.2.1, (u.2.2.2.2.2.2.2.2.2.2.1.1, uR u.2.2.2.2.2.2.2.2.2.2.1.2 k f), u.2.2.2.2.2.2.2.2.2.2.2.1, u.2.2.2.2.2.2.2.2.2.2.2.2.1, u.2.2.2.2.2.2.2.2.2.2.2.2.2) ++ ex) := by
  obtain ⟨q, h1, h2⟩ := FC_r (w1 := wa) (FC_l (w2 := ex) (fk10 (cI := cI) (cZ := cZ) (cJ := cJ) (g0 := g0) (g7 := g7) (g8 := g8) (g9 := g9) (g10 := g10) (g11 := g11) (g12 := g12) (G9 := G9) (G10 := G10) (G11 := G11) (G12 := G12) h))
  refine ⟨q, h1, fun f => ?_⟩
  rw [h2]
  show wa ++ (([(g0, .inr (5, [.int u.1, .int u.2.1, .int u.2.2.1, .int u.2.2.2.1, .int u.2.2.2.2.1, .int u.2.2.2.2.2.1, .int u.2.2.2.2.2.2.1, .ref g7, .ref g8, .ref g9, .ref g10, .ref g11, .ref g12, .int u.2.2.2.2.2.2.2.2.2.2.2.2.2])), (g7, .inl (cZ, u.2.2.2.2.2.2.2.1.1, .inl u.2.2.2.2.2.2.2.1.2)), (g8, .inl (cZ, 8, .inl u.2.2.2.2.2.2.2.2.1)), (g9, .inl (cJ, rfs u.2.2.2.2.2.2.2.2.2.1.1 G9)), (g10, .inl (cJ, rfs u.2.2.2.2.2.2.2.2.2.2.1.1 G10)), (g11, .inl (cJ, rfs u.2.2.2.2.2.2.2.2.2.2.2.1.1 G11)), (g12, .inl (cJ, rfs u.2.2.2.2.2.2.2.2.2.2.2.2.1.1 G12))] ++ (rW cI G9 u.2.2.2.2.2.2.2.2.2.1 ++ ((rW cI G10 u.2.2.2.2.2.2.2.2.2.2.1).set k (G10 k, Sum.inl (cI, (u.2.2.2.2.2.2.2.2.2.2.1.2 k).1, Sum.inl f)) ++ (rW cI G11 u.2.2.2.2.2.2.2.2.2.2.2.1 ++ rW cI G12 u.2.2.2.2.2.2.2.2.2.2.2.2.1)))) ++ ex) = _
  rw [rW_set h]
theorem rl10 {p : Program} {l : Launch} {e : Env} {R : Room} {s : State} {m : MethodId} {args : Array Value} {below : List Frame} {meth : Method} {c : Code} {H : Heap} {locs : List Loc} {cells slots : Nat} {Q : State → Prop} {cc : ByteArray} {pc a : Nat} {ls : Array Slot} {rest : List Value} {D : va_G} {cl : List vw_C} {tys : List (ClassId × FieldType)} {cI cZ cJ : ClassId} {g0 g7 g8 g9 g10 g11 g12 : Nat} {G9 G10 G11 G12 : Nat → Nat} {u : tX5} {wa ex : va_W} (hexec : p.tables.exec = Jvm.exec) (hb : c.code = cc) (hK : va_K D cl tys s) (t0 : Nat) (ht : tys[t0]? = some (cI, .int)) (hP : va_P D cl (wa ++ ((wX5 cI cZ cJ g0 g7 g8 g9 g10 g11 g12 G9 G10 G11 G12 u) ++ ex)) H) {k j : Nat} (hk : k < u.2.2.2.2.2.2.2.2.2.2.1.1) (ha : a = G10 k) {i : Int32} (hj : i.toNatClampNeg = j) (hin : vp_in i (u.2.2.2.2.2.2.2.2.2.2.1.2 k).1) (hdg : decode cc pc = .ok (.iaload, 1)) (kk : W p l e R s m args below meth c H locs cells slots Q (F0 m (pc + 1) ls (.int ((u.2.2.2.2.2.2.2.2.2.2.1.2 k).2 j) :: rest))) : W p l e R s m args below meth c H locs cells slots Q (F0 m pc ls (.int i :: .ref a :: rest)) := by
  subst ha; subst hj
  obtain ⟨q, h1, -⟩ := fs10 (wa := wa) (ex := ex) (u := u) (cI := cI) (cZ := cZ) (cJ := cJ) (g0 := g0) (g7 := g7) (g8 := g8) (g9 := g9) (g10 := g10) (g11 := g11) (g12 := g12) (G9 := G9) (G10 := G10) (G11 := G11) (G12 := G12) hk
  exact va_iald hexec hb hK hP q t0 h1 ht hin hdg kk
theorem rn10 {p : Program} {l : Launch} {e : Env} {R : Room} {s : State} {m : MethodId} {args : Array Value} {below : List Frame} {meth : Method} {c : Code} {H : Heap} {locs : List Loc} {cells slots : Nat} {Q : State → Prop} {cc : ByteArray} {pc a : Nat} {ls : Array Slot} {rest : List Value} {D : va_G} {cl : List vw_C} {tys : List (ClassId × FieldType)} {cI cZ cJ : ClassId} {g0 g7 g8 g9 g10 g11 g12 : Nat} {G9 G10 G11 G12 : Nat → Nat} {u : tX5} {wa ex : va_W} (hexec : p.tables.exec = Jvm.exec) (hb : c.code = cc) (hK : va_K D cl tys s) (t0 : Nat) (ht : tys[t0]? = some (cI, .int)) (hP : va_P D cl (wa ++ ((wX5 cI cZ cJ g0 g7 g8 g9 g10 g11 g12 G9 G10 G11 G12 u) ++ ex)) H) {k : Nat} (hk : k < u.2.2.2.2.2.2.2.2.2.2.1.1) (ha : a = G10 k) (hdg : decode cc pc = .ok (.arraylength, 1)) (kk : W p l e R s m args below meth c H locs cells slots Q (F0 m (pc + 1) ls (.int (nI (u.2.2.2.2.2.2.2.2.2.2.1.2 k).1) :: rest))) : W p l e R s m args below meth c H locs cells slots Q (F0 m pc ls (.ref a :: rest)) := by
  subst ha
  obtain ⟨q, h1, -⟩ := fs10 (wa := wa) (ex := ex) (u := u) (cI := cI) (cZ := cZ) (cJ := cJ) (g0 := g0) (g7 := g7) (g8 := g8) (g9 := g9) (g10 := g10) (g11 := g11) (g12 := g12) (G9 := G9) (G10 := G10) (G11 := G11) (G12 := G12) hk
  exact va_alen hexec hb hK hP q t0 h1 ht rfl hdg kk
theorem ra10 {p : Program} {l : Launch} {e : Env} {R : Room} {s : State} {m : MethodId} {args : Array Value} {below : List Frame} {meth : Method} {c : Code} {H : Heap} {locs : List Loc} {cells slots : Nat} {Q : State → Prop} {cc : ByteArray} {pc : Nat} {ls : Array Slot} {rest : List Value} {D : va_G} {cl : List vw_C} {tys : List (ClassId × FieldType)} {cI cZ cJ : ClassId} {g0 g7 g8 g9 g10 g11 g12 : Nat} {G9 G10 G11 G12 : Nat → Nat} {u : tX5} {wa ex : va_W} (hexec : p.tables.exec = Jvm.exec) (hb : c.code = cc) (hK : va_K D cl tys s) (t0 : Nat) (ht : tys[t0]? = some (cJ, .array .int)) (hP : va_P D cl (wa ++ ((wX5 cI cZ cJ g0 g7 g8 g9 g10 g11 g12 G9 G10 G11 G12 u) ++ ex)) H) {j : Nat} {i : Int32} (hj : i.toNatClampNeg = j) (hin : vp_in i u.2.2.2.2.2.2.2.2.2.2.1.1) (hdg : decode cc pc = .ok (.aaload, 1)) (kk : W p l e R s m args below meth c H locs cells slots Q (F0 m (pc + 1) ls (.ref (G10 j) :: rest))) : W p l e R s m args below meth c H locs cells slots Q (F0 m pc ls (.int i :: .ref g10 :: rest)) := by
  subst hj
  obtain ⟨q, h1, -⟩ := FC_r (w1 := wa) (FC_l (w2 := ex) (FC_i (ws := (wX5 cI cZ cJ g0 g7 g8 g9 g10 g11 g12 G9 G10 G11 G12 u)) 4 rfl))
  exact fg_ld hexec hb hK hP q t0 h1 ht hin rfl hdg kk
theorem rs10 {p : Program} {l : Launch} {e : Env} {R : Room} {s : State} {m : MethodId} {args : Array Value} {below : List Frame} {meth : Method} {c : Code} {H H0 : Heap} {locs : List Loc} {cells slots : Nat} {Q : State → Prop} {cc : ByteArray} {pc a : Nat} {ls : Array Slot} {rest : List Value} {D : va_G} {cl : List vw_C} {tys : List (ClassId × FieldType)} {A : Nat → Prop} {cI cZ cJ : ClassId} {g0 g7 g8 g9 g10 g11 g12 : Nat} {G9 G10 G11 G12 : Nat → Nat} {u : tX5} {wa ex : va_W} (hexec : p.tables.exec = Jvm.exec) (hb : c.code = cc) (hK : va_K D cl tys s) (t0 : Nat) (ht : tys[t0]? = some (cI, .int)) (hP : va_P D cl (wa ++ ((wX5 cI cZ cJ g0 g7 g8 g9 g10 g11 g12 G9 G10 G11 G12 u) ++ ex)) H) (hD : va_D A (wa ++ ((wX5 cI cZ cJ g0 g7 g8 g9 g10 g11 g12 G9 G10 G11 G12 u) ++ ex))) (hS : va_S A H0 H locs) {k j : Nat} (hk : k < u.2.2.2.2.2.2.2.2.2.2.1.1) (ha : a = G10 k) {i x : Int32} (hj : i.toNatClampNeg = j) (hin : vp_in i (u.2.2.2.2.2.2.2.2.2.2.1.2 k).1) (hdg : decode cc pc = .ok (.iastore, 1)) (kk : ∀ (H1 : Heap) (locs1 : List Loc), va_P D cl (wa ++ (wX5 cI cZ cJ g0 g7 g8 g9 g10 g11 g12 G9 G10 G11 G12 (u.1, u.2.1, u.2.2.1, u.2.2.2.1, u.2.2.2.2.1, u.2.2.2.2.2.1, u.2.2.2.2.2.2.1, u.2.2.2.2.2.2.2.1, u.2.2.2.2.2.2.2.2.1, u.2.2.2.2.2.2.2.2.2.1, (u.2.2.2.2.2.2.2.2.2.2.1.1, uR u.2.2.2.2.2.2.2.2.2.2.1.2 k (upd (u.2.2.2.2.2.2.2.2.2.2.1.2 k).2 j x)), u.2.2.2.2.2.2.2.2.2.2.2.1, u.2.2.2.2.2.2.2.2.2.2.2.2.1, u.2.2.2.2.2.2.2.2.2.2.2.2.2) ++ ex)) H1 → va_D A (wa ++ (wX5 cI cZ cJ g0 g7 g8 g9 g10 g11 g12 G9 G10 G11 G12 (u.1, u.2.1, u.2.2.1, u.2.2.2.1, u.2.2.2.2.1, u.2.2.2.2.2.1, u.2.2.2.2.2.2.1, u.2.2.2.2.2.2.2.1, u.2.2.2.2.2.2.2.2.1, u.2.2.2.2.2.2.2.2.2.1, (u.2.2.2.2.2.2.2.2.2.2.1.1, uR u.2.2.2.2.2.2.2.2.2.2.1.2 k (upd (u.2.2.2.2.2.2.2.2.2.2.1.2 k).2 j x)), u.2.2.2.2.2.2.2.2.2.2.2.1, u.2.2.2.2.2.2.2.2.2.2.2.2.1, u.2.2.2.2.2.2.2.2.2.2.2.2.2) ++ ex)) → va_S A H0 H1 locs1 → W p l e R s m args below meth c H1 locs1 cells slots Q (F0 m (pc + 1) ls rest)) : W p l e R s m args below meth c H locs cells slots Q (F0 m pc ls (.int x :: .int i :: .ref a :: rest)) := by
  subst ha; subst hj
  obtain ⟨q, h1, h2⟩ := fs10 (wa := wa) (ex := ex) (u := u) (cI := cI) (cZ := cZ) (cJ := cJ) (g0 := g0) (g7 := g7) (g8 := g8) (g9 := g9) (g10 := g10) (g11 := g11) (g12 := g12) (G9 := G9) (G10 := G10) (G11 := G11) (G12 := G12) hk
  refine va_iast hexec hb hK hP hD hS q t0 h1 ht hin hdg (fun H1 locs1 hP1 hD1 hS1 => ?_)
  rw [h2] at hP1 hD1
  exact kk H1 locs1 hP1 hD1 hS1
theorem fk11 {cI cZ cJ : ClassId} {g0 g7 g8 g9 g10 g11 g12 : Nat} {G9 G10 G11 G12 : Nat → Nat} {u : tX5} {k : Nat} (h : k < u.2.2.2.2.2.2.2.2.2.2.2.1.1) : FC (wX5 cI cZ cJ g0 g7 g8 g9 g10 g11 g12 G9 G10 G11 G12 u) (G11 k, .inl (cI, (u.2.2.2.2.2.2.2.2.2.2.2.1.2 k).1, .inl (u.2.2.2.2.2.2.2.2.2.2.2.1.2 k).2)) (fun z => [(g0, .inr (5, [.int u.1, .int u.2.1, .int u.2.2.1, .int u.2.2.2.1, .int u.2.2.2.2.1, .int u.2.2.2.2.2.1, .int u.2.2.2.2.2.2.1, .ref g7, .ref g8, .ref g9, .ref g10, .ref g11, .ref g12, .int u.2.2.2.2.2.2.2.2.2.2.2.2.2])), (g7, .inl (cZ, u.2.2.2.2.2.2.2.1.1, .inl u.2.2.2.2.2.2.2.1.2)), (g8, .inl (cZ, 8, .inl u.2.2.2.2.2.2.2.2.1)), (g9, .inl (cJ, rfs u.2.2.2.2.2.2.2.2.2.1.1 G9)), (g10, .inl (cJ, rfs u.2.2.2.2.2.2.2.2.2.2.1.1 G10)), (g11, .inl (cJ, rfs u.2.2.2.2.2.2.2.2.2.2.2.1.1 G11)), (g12, .inl (cJ, rfs u.2.2.2.2.2.2.2.2.2.2.2.2.1.1 G12))] ++ (rW cI G9 u.2.2.2.2.2.2.2.2.2.1 ++ (rW cI G10 u.2.2.2.2.2.2.2.2.2.2.1 ++ ((rW cI G11 u.2.2.2.2.2.2.2.2.2.2.2.1).set k z ++ rW cI G12 u.2.2.2.2.2.2.2.2.2.2.2.2.1)))) := FC_r (FC_r (FC_r (FC_l (FC_i k (rW_at (r := u.2.2.2.2.2.2.2.2.2.2.2.1) h)))))
theorem fs11 {cI cZ cJ : ClassId} {g0 g7 g8 g9 g10 g11 g12 : Nat} {G9 G10 G11 G12 : Nat → Nat} {u : tX5} {wa ex : va_W} {k : Nat} (h : k < u.2.2.2.2.2.2.2.2.2.2.2.1.1) : ∃ q : Nat, (wa ++ ((wX5 cI cZ cJ g0 g7 g8 g9 g10 g11 g12 G9 G10 G11 G12 u) ++ ex))[q]? = some (G11 k, .inl (cI, (u.2.2.2.2.2.2.2.2.2.2.2.1.2 k).1, .inl (u.2.2.2.2.2.2.2.2.2.2.2.1.2 k).2)) ∧ ∀ f : Nat → Int32, (wa ++ ((wX5 cI cZ cJ g0 g7 g8 g9 g10 g11 g12 G9 G10 G11 G12 u) ++ ex)).set q (G11 k, .inl (cI, (u.2.2.2.2.2.2.2.2.2.2.2.1.2 k).1, .inl f)) = wa ++ (wX5 cI cZ cJ g0 g7 g8 g9 g10 g11 g12 G9 G10 G11 G12 (u.1, u.2.1, u.2.2.1, u.2.2.2.1, u.2.2.2.2.1, u.2.2.2.2.2.1, u.2.2.2.2.2.2.1, u.2.2.2.2.2.2.2.1, u.2.2.2.2.2.2.2.2.1, u.2.2.2.2.2.2.2.2.2.1, u.2.2.2.2.2.2.2.2.2.2.1, (u.2.2.2.2.2.2.2.2.2.2.2.1.1, uR u.2.2.2.2.2.2.2.2.2.2.2.1.2 k f), u.2.2.2.2.2.2.2.2.2.2.2.2.1, u.2.2.2.2.2.2.2.2.2.2.2.2.2) ++ ex) := by
  obtain ⟨q, h1, h2⟩ := FC_r (w1 := wa) (FC_l (w2 := ex) (fk11 (cI := cI) (cZ := cZ) (cJ := cJ) (g0 := g0) (g7 := g7) (g8 := g8) (g9 := g9) (g10 := g10) (g11 := g11) (g12 := g12) (G9 := G9) (G10 := G10) (G11 := G11) (G12 := G12) h))
  refine ⟨q, h1, fun f => ?_⟩
  rw [h2]
  show wa ++ (([(g0, .inr (5, [.int u.1, .int u.2.1, .int u.2.2.1, .int u.2.2.2.1, .int u.2.2.2.2.1, .int u.2.2.2.2.2.1, .int u.2.2.2.2.2.2.1, .ref g7, .ref g8, .ref g9, .ref g10, .ref g11, .ref g12, .int u.2.2.2.2.2.2.2.2.2.2.2.2.2])), (g7, .inl (cZ, u.2.2.2.2.2.2.2.1.1, .inl u.2.2.2.2.2.2.2.1.2)), (g8, .inl (cZ, 8, .inl u.2.2.2.2.2.2.2.2.1)), (g9, .inl (cJ, rfs u.2.2.2.2.2.2.2.2.2.1.1 G9)), (g10, .inl (cJ, rfs u.2.2.2.2.2.2.2.2.2.2.1.1 G10)), (g11, .inl (cJ, rfs u.2.2.2.2.2.2.2.2.2.2.2.1.1 G11)), (g12, .inl (cJ, rfs u.2.2.2.2.2.2.2.2.2.2.2.2.1.1 G12))] ++ (rW cI G9 u.2.2.2.2.2.2.2.2.2.1 ++ (rW cI G10 u.2.2.2.2.2.2.2.2.2.2.1 ++ ((rW cI G11 u.2.2.2.2.2.2.2.2.2.2.2.1).set k (G11 k, Sum.inl (cI, (u.2.2.2.2.2.2.2.2.2.2.2.1.2 k).1, Sum.inl f)) ++ rW cI G12 u.2.2.2.2.2.2.2.2.2.2.2.2.1)))) ++ ex) = _
  rw [rW_set h]
theorem rl11 {p : Program} {l : Launch} {e : Env} {R : Room} {s : State} {m : MethodId} {args : Array Value} {below : List Frame} {meth : Method} {c : Code} {H : Heap} {locs : List Loc} {cells slots : Nat} {Q : State → Prop} {cc : ByteArray} {pc a : Nat} {ls : Array Slot} {rest : List Value} {D : va_G} {cl : List vw_C} {tys : List (ClassId × FieldType)} {cI cZ cJ : ClassId} {g0 g7 g8 g9 g10 g11 g12 : Nat} {G9 G10 G11 G12 : Nat → Nat} {u : tX5} {wa ex : va_W} (hexec : p.tables.exec = Jvm.exec) (hb : c.code = cc) (hK : va_K D cl tys s) (t0 : Nat) (ht : tys[t0]? = some (cI, .int)) (hP : va_P D cl (wa ++ ((wX5 cI cZ cJ g0 g7 g8 g9 g10 g11 g12 G9 G10 G11 G12 u) ++ ex)) H) {k j : Nat} (hk : k < u.2.2.2.2.2.2.2.2.2.2.2.1.1) (ha : a = G11 k) {i : Int32} (hj : i.toNatClampNeg = j) (hin : vp_in i (u.2.2.2.2.2.2.2.2.2.2.2.1.2 k).1) (hdg : decode cc pc = .ok (.iaload, 1)) (kk : W p l e R s m args below meth c H locs cells slots Q (F0 m (pc + 1) ls (.int ((u.2.2.2.2.2.2.2.2.2.2.2.1.2 k).2 j) :: rest))) : W p l e R s m args below meth c H locs cells slots Q (F0 m pc ls (.int i :: .ref a :: rest)) := by
  subst ha; subst hj
  obtain ⟨q, h1, -⟩ := fs11 (wa := wa) (ex := ex) (u := u) (cI := cI) (cZ := cZ) (cJ := cJ) (g0 := g0) (g7 := g7) (g8 := g8) (g9 := g9) (g10 := g10) (g11 := g11) (g12 := g12) (G9 := G9) (G10 := G10) (G11 := G11) (G12 := G12) hk
  exact va_iald hexec hb hK hP q t0 h1 ht hin hdg kk
theorem rn11 {p : Program} {l : Launch} {e : Env} {R : Room} {s : State} {m : MethodId} {args : Array Value} {below : List Frame} {meth : Method} {c : Code} {H : Heap} {locs : List Loc} {cells slots : Nat} {Q : State → Prop} {cc : ByteArray} {pc a : Nat} {ls : Array Slot} {rest : List Value} {D : va_G} {cl : List vw_C} {tys : List (ClassId × FieldType)} {cI cZ cJ : ClassId} {g0 g7 g8 g9 g10 g11 g12 : Nat} {G9 G10 G11 G12 : Nat → Nat} {u : tX5} {wa ex : va_W} (hexec : p.tables.exec = Jvm.exec) (hb : c.code = cc) (hK : va_K D cl tys s) (t0 : Nat) (ht : tys[t0]? = some (cI, .int)) (hP : va_P D cl (wa ++ ((wX5 cI cZ cJ g0 g7 g8 g9 g10 g11 g12 G9 G10 G11 G12 u) ++ ex)) H) {k : Nat} (hk : k < u.2.2.2.2.2.2.2.2.2.2.2.1.1) (ha : a = G11 k) (hdg : decode cc pc = .ok (.arraylength, 1)) (kk : W p l e R s m args below meth c H locs cells slots Q (F0 m (pc + 1) ls (.int (nI (u.2.2.2.2.2.2.2.2.2.2.2.1.2 k).1) :: rest))) : W p l e R s m args below meth c H locs cells slots Q (F0 m pc ls (.ref a :: rest)) := by
  subst ha
  obtain ⟨q, h1, -⟩ := fs11 (wa := wa) (ex := ex) (u := u) (cI := cI) (cZ := cZ) (cJ := cJ) (g0 := g0) (g7 := g7) (g8 := g8) (g9 := g9) (g10 := g10) (g11 := g11) (g12 := g12) (G9 := G9) (G10 := G10) (G11 := G11) (G12 := G12) hk
  exact va_alen hexec hb hK hP q t0 h1 ht rfl hdg kk
theorem ra11 {p : Program} {l : Launch} {e : Env} {R : Room} {s : State} {m : MethodId} {args : Array Value} {below : List Frame} {meth : Method} {c : Code} {H : Heap} {locs : List Loc} {cells slots : Nat} {Q : State → Prop} {cc : ByteArray} {pc : Nat} {ls : Array Slot} {rest : List Value} {D : va_G} {cl : List vw_C} {tys : List (ClassId × FieldType)} {cI cZ cJ : ClassId} {g0 g7 g8 g9 g10 g11 g12 : Nat} {G9 G10 G11 G12 : Nat → Nat} {u : tX5} {wa ex : va_W} (hexec : p.tables.exec = Jvm.exec) (hb : c.code = cc) (hK : va_K D cl tys s) (t0 : Nat) (ht : tys[t0]? = some (cJ, .array .int)) (hP : va_P D cl (wa ++ ((wX5 cI cZ cJ g0 g7 g8 g9 g10 g11 g12 G9 G10 G11 G12 u) ++ ex)) H) {j : Nat} {i : Int32} (hj : i.toNatClampNeg = j) (hin : vp_in i u.2.2.2.2.2.2.2.2.2.2.2.1.1) (hdg : decode cc pc = .ok (.aaload, 1)) (kk : W p l e R s m args below meth c H locs cells slots Q (F0 m (pc + 1) ls (.ref (G11 j) :: rest))) : W p l e R s m args below meth c H locs cells slots Q (F0 m pc ls (.int i :: .ref g11 :: rest)) := by
  subst hj
  obtain ⟨q, h1, -⟩ := FC_r (w1 := wa) (FC_l (w2 := ex) (FC_i (ws := (wX5 cI cZ cJ g0 g7 g8 g9 g10 g11 g12 G9 G10 G11 G12 u)) 5 rfl))
  exact fg_ld hexec hb hK hP q t0 h1 ht hin rfl hdg kk
theorem rs11 {p : Program} {l : Launch} {e : Env} {R : Room} {s : State} {m : MethodId} {args : Array Value} {below : List Frame} {meth : Method} {c : Code} {H H0 : Heap} {locs : List Loc} {cells slots : Nat} {Q : State → Prop} {cc : ByteArray} {pc a : Nat} {ls : Array Slot} {rest : List Value} {D : va_G} {cl : List vw_C} {tys : List (ClassId × FieldType)} {A : Nat → Prop} {cI cZ cJ : ClassId} {g0 g7 g8 g9 g10 g11 g12 : Nat} {G9 G10 G11 G12 : Nat → Nat} {u : tX5} {wa ex : va_W} (hexec : p.tables.exec = Jvm.exec) (hb : c.code = cc) (hK : va_K D cl tys s) (t0 : Nat) (ht : tys[t0]? = some (cI, .int)) (hP : va_P D cl (wa ++ ((wX5 cI cZ cJ g0 g7 g8 g9 g10 g11 g12 G9 G10 G11 G12 u) ++ ex)) H) (hD : va_D A (wa ++ ((wX5 cI cZ cJ g0 g7 g8 g9 g10 g11 g12 G9 G10 G11 G12 u) ++ ex))) (hS : va_S A H0 H locs) {k j : Nat} (hk : k < u.2.2.2.2.2.2.2.2.2.2.2.1.1) (ha : a = G11 k) {i x : Int32} (hj : i.toNatClampNeg = j) (hin : vp_in i (u.2.2.2.2.2.2.2.2.2.2.2.1.2 k).1) (hdg : decode cc pc = .ok (.iastore, 1)) (kk : ∀ (H1 : Heap) (locs1 : List Loc), va_P D cl (wa ++ (wX5 cI cZ cJ g0 g7 g8 g9 g10 g11 g12 G9 G10 G11 G12 (u.1, u.2.1, u.2.2.1, u.2.2.2.1, u.2.2.2.2.1, u.2.2.2.2.2.1, u.2.2.2.2.2.2.1, u.2.2.2.2.2.2.2.1, u.2.2.2.2.2.2.2.2.1, u.2.2.2.2.2.2.2.2.2.1, u.2.2.2.2.2.2.2.2.2.2.1, (u.2.2.2.2.2.2.2.2.2.2.2.1.1, uR u.2.2.2.2.2.2.2.2.2.2.2.1.2 k (upd (u.2.2.2.2.2.2.2.2.2.2.2.1.2 k).2 j x)), u.2.2.2.2.2.2.2.2.2.2.2.2.1, u.2.2.2.2.2.2.2.2.2.2.2.2.2) ++ ex)) H1 → va_D A (wa ++ (wX5 cI cZ cJ g0 g7 g8 g9 g10 g11 g12 G9 G10 G11 G12 (u.1, u.2.1, u.2.2.1, u.2.2.2.1, u.2.2.2.2.1, u.2.2.2.2.2.1, u.2.2.2.2.2.2.1, u.2.2.2.2.2.2.2.1, u.2.2.2.2.2.2.2.2.1, u.2.2.2.2.2.2.2.2.2.1, u.2.2.2.2.2.2.2.2.2.2.1, (u.2.2.2.2.2.2.2.2.2.2.2.1.1, uR u.2.2.2.2.2.2.2.2.2.2.2.1.2 k (upd (u.2.2.2.2.2.2.2.2.2.2.2.1.2 k).2 j x)), u.2.2.2.2.2.2.2.2.2.2.2.2.1, u.2.2.2.2.2.2.2.2.2.2.2.2.2) ++ ex)) → va_S A H0 H1 locs1 → W p l e R s m args below meth c H1 locs1 cells slots Q (F0 m (pc + 1) ls rest)) : W p l e R s m args below meth c H locs cells slots Q (F0 m pc ls (.int x :: .int i :: .ref a :: rest)) := by
  subst ha; subst hj
  obtain ⟨q, h1, h2⟩ := fs11 (wa := wa) (ex := ex) (u := u) (cI := cI) (cZ := cZ) (cJ := cJ) (g0 := g0) (g7 := g7) (g8 := g8) (g9 := g9) (g10 := g10) (g11 := g11) (g12 := g12) (G9 := G9) (G10 := G10) (G11 := G11) (G12 := G12) hk
  refine va_iast hexec hb hK hP hD hS q t0 h1 ht hin hdg (fun H1 locs1 hP1 hD1 hS1 => ?_)
  rw [h2] at hP1 hD1
  exact kk H1 locs1 hP1 hD1 hS1
theorem fk12 {cI cZ cJ : ClassId} {g0 g7 g8 g9 g10 g11 g12 : Nat} {G9 G10 G11 G12 : Nat → Nat} {u : tX5} {k : Nat} (h : k < u.2.2.2.2.2.2.2.2.2.2.2.2.1.1) : FC (wX5 cI cZ cJ g0 g7 g8 g9 g10 g11 g12 G9 G10 G11 G12 u) (G12 k, .inl (cI, (u.2.2.2.2.2.2.2.2.2.2.2.2.1.2 k).1, .inl (u.2.2.2.2.2.2.2.2.2.2.2.2.1.2 k).2)) (fun z => [(g0, .inr (5, [.int u.1, .int u.2.1, .int u.2.2.1, .int u.2.2.2.1, .int u.2.2.2.2.1, .int u.2.2.2.2.2.1, .int u.2.2.2.2.2.2.1, .ref g7, .ref g8, .ref g9, .ref g10, .ref g11, .ref g12, .int u.2.2.2.2.2.2.2.2.2.2.2.2.2])), (g7, .inl (cZ, u.2.2.2.2.2.2.2.1.1, .inl u.2.2.2.2.2.2.2.1.2)), (g8, .inl (cZ, 8, .inl u.2.2.2.2.2.2.2.2.1)), (g9, .inl (cJ, rfs u.2.2.2.2.2.2.2.2.2.1.1 G9)), (g10, .inl (cJ, rfs u.2.2.2.2.2.2.2.2.2.2.1.1 G10)), (g11, .inl (cJ, rfs u.2.2.2.2.2.2.2.2.2.2.2.1.1 G11)), (g12, .inl (cJ, rfs u.2.2.2.2.2.2.2.2.2.2.2.2.1.1 G12))] ++ (rW cI G9 u.2.2.2.2.2.2.2.2.2.1 ++ (rW cI G10 u.2.2.2.2.2.2.2.2.2.2.1 ++ (rW cI G11 u.2.2.2.2.2.2.2.2.2.2.2.1 ++ (rW cI G12 u.2.2.2.2.2.2.2.2.2.2.2.2.1).set k z)))) := FC_r (FC_r (FC_r (FC_r (FC_i k (rW_at (r := u.2.2.2.2.2.2.2.2.2.2.2.2.1) h)))))
theorem fs12 {cI cZ cJ : ClassId} {g0 g7 g8 g9 g10 g11 g12 : Nat} {G9 G10 G11 G12 : Nat → Nat} {u : tX5} {wa ex : va_W} {k : Nat} (h : k < u.2.2.2.2.2.2.2.2.2.2.2.2.1.1) : ∃ q : Nat, (wa ++ ((wX5 cI cZ cJ g0 g7 g8 g9 g10 g11 g12 G9 G10 G11 G12 u) ++ ex))[q]? = some (G12 k, .inl (cI, (u.2.2.2.2.2.2.2.2.2.2.2.2.1.2 k).1, .inl (u.2.2.2.2.2.2.2.2.2.2.2.2.1.2 k).2)) ∧ ∀ f : Nat → Int32, (wa ++ ((wX5 cI cZ cJ g0 g7 g8 g9 g10 g11 g12 G9 G10 G11 G12 u) ++ ex)).set q (G12 k, .inl (cI, (u.2.2.2.2.2.2.2.2.2.2.2.2.1.2 k).1, .inl f)) = wa ++ (wX5 cI cZ cJ g0 g7 g8 g9 g10 g11 g12 G9 G10 G11 G12 (u.1, u.2.1, u.2.2.1, u.2.2.2.1, u.2.2.2.2.1, u.2.2.2.2.2.1, u.2.2.2.2.2.2.1, u.2.2.2.2.2.2.2.1, u.2.2.2.2.2.2.2.2.1, u.2.2.2.2.2.2.2.2.2.1, u.2.2.2.2.2.2.2.2.2.2.1, u.2.2.2.2.2.2.2.2.2.2.2.1, (u.2.2.2.2.2.2.2.2.2.2.2.2.1.1, uR u.2.2.2.2.2.2.2.2.2.2.2.2.1.2 k f), u.2.2.2.2.2.2.2.2.2.2.2.2.2) ++ ex) := by
  obtain ⟨q, h1, h2⟩ := FC_r (w1 := wa) (FC_l (w2 := ex) (fk12 (cI := cI) (cZ := cZ) (cJ := cJ) (g0 := g0) (g7 := g7) (g8 := g8) (g9 := g9) (g10 := g10) (g11 := g11) (g12 := g12) (G9 := G9) (G10 := G10) (G11 := G11) (G12 := G12) h))
  refine ⟨q, h1, fun f => ?_⟩
  rw [h2]
  show wa ++ (([(g0, .inr (5, [.int u.1, .int u.2.1, .int u.2.2.1, .int u.2.2.2.1, .int u.2.2.2.2.1, .int u.2.2.2.2.2.1, .int u.2.2.2.2.2.2.1, .ref g7, .ref g8, .ref g9, .ref g10, .ref g11, .ref g12, .int u.2.2.2.2.2.2.2.2.2.2.2.2.2])), (g7, .inl (cZ, u.2.2.2.2.2.2.2.1.1, .inl u.2.2.2.2.2.2.2.1.2)), (g8, .inl (cZ, 8, .inl u.2.2.2.2.2.2.2.2.1)), (g9, .inl (cJ, rfs u.2.2.2.2.2.2.2.2.2.1.1 G9)), (g10, .inl (cJ, rfs u.2.2.2.2.2.2.2.2.2.2.1.1 G10)), (g11, .inl (cJ, rfs u.2.2.2.2.2.2.2.2.2.2.2.1.1 G11)), (g12, .inl (cJ, rfs u.2.2.2.2.2.2.2.2.2.2.2.2.1.1 G12))] ++ (rW cI G9 u.2.2.2.2.2.2.2.2.2.1 ++ (rW cI G10 u.2.2.2.2.2.2.2.2.2.2.1 ++ (rW cI G11 u.2.2.2.2.2.2.2.2.2.2.2.1 ++ (rW cI G12 u.2.2.2.2.2.2.2.2.2.2.2.2.1).set k (G12 k, Sum.inl (cI, (u.2.2.2.2.2.2.2.2.2.2.2.2.1.2 k).1, Sum.inl f)))))) ++ ex) = _
  rw [rW_set h]
theorem rl12 {p : Program} {l : Launch} {e : Env} {R : Room} {s : State} {m : MethodId} {args : Array Value} {below : List Frame} {meth : Method} {c : Code} {H : Heap} {locs : List Loc} {cells slots : Nat} {Q : State → Prop} {cc : ByteArray} {pc a : Nat} {ls : Array Slot} {rest : List Value} {D : va_G} {cl : List vw_C} {tys : List (ClassId × FieldType)} {cI cZ cJ : ClassId} {g0 g7 g8 g9 g10 g11 g12 : Nat} {G9 G10 G11 G12 : Nat → Nat} {u : tX5} {wa ex : va_W} (hexec : p.tables.exec = Jvm.exec) (hb : c.code = cc) (hK : va_K D cl tys s) (t0 : Nat) (ht : tys[t0]? = some (cI, .int)) (hP : va_P D cl (wa ++ ((wX5 cI cZ cJ g0 g7 g8 g9 g10 g11 g12 G9 G10 G11 G12 u) ++ ex)) H) {k j : Nat} (hk : k < u.2.2.2.2.2.2.2.2.2.2.2.2.1.1) (ha : a = G12 k) {i : Int32} (hj : i.toNatClampNeg = j) (hin : vp_in i (u.2.2.2.2.2.2.2.2.2.2.2.2.1.2 k).1) (hdg : decode cc pc = .ok (.iaload, 1)) (kk : W p l e R s m args below meth c H locs cells slots Q (F0 m (pc + 1) ls (.int ((u.2.2.2.2.2.2.2.2.2.2.2.2.1.2 k).2 j) :: rest))) : W p l e R s m args below meth c H locs cells slots Q (F0 m pc ls (.int i :: .ref a :: rest)) := by
  subst ha; subst hj
  obtain ⟨q, h1, -⟩ := fs12 (wa := wa) (ex := ex) (u := u) (cI := cI) (cZ := cZ) (cJ := cJ) (g0 := g0) (g7 := g7) (g8 := g8) (g9 := g9) (g10 := g10) (g11 := g11) (g12 := g12) (G9 := G9) (G10 := G10) (G11 := G11) (G12 := G12) hk
  exact va_iald hexec hb hK hP q t0 h1 ht hin hdg kk
theorem rn12 {p : Program} {l : Launch} {e : Env} {R : Room} {s : State} {m : MethodId} {args : Array Value} {below : List Frame} {meth : Method} {c : Code} {H : Heap} {locs : List Loc} {cells slots : Nat} {Q : State → Prop} {cc : ByteArray} {pc a : Nat} {ls : Array Slot} {rest : List Value} {D : va_G} {cl : List vw_C} {tys : List (ClassId × FieldType)} {cI cZ cJ : ClassId} {g0 g7 g8 g9 g10 g11 g12 : Nat} {G9 G10 G11 G12 : Nat → Nat} {u : tX5} {wa ex : va_W} (hexec : p.tables.exec = Jvm.exec) (hb : c.code = cc) (hK : va_K D cl tys s) (t0 : Nat) (ht : tys[t0]? = some (cI, .int)) (hP : va_P D cl (wa ++ ((wX5 cI cZ cJ g0 g7 g8 g9 g10 g11 g12 G9 G10 G11 G12 u) ++ ex)) H) {k : Nat} (hk : k < u.2.2.2.2.2.2.2.2.2.2.2.2.1.1) (ha : a = G12 k) (hdg : decode cc pc = .ok (.arraylength, 1)) (kk : W p l e R s m args below meth c H locs cells slots Q (F0 m (pc + 1) ls (.int (nI (u.2.2.2.2.2.2.2.2.2.2.2.2.1.2 k).1) :: rest))) : W p l e R s m args below meth c H locs cells slots Q (F0 m pc ls (.ref a :: rest)) := by
  subst ha
  obtain ⟨q, h1, -⟩ := fs12 (wa := wa) (ex := ex) (u := u) (cI := cI) (cZ := cZ) (cJ := cJ) (g0 := g0) (g7 := g7) (g8 := g8) (g9 := g9) (g10 := g10) (g11 := g11) (g12 := g12) (G9 := G9) (G10 := G10) (G11 := G11) (G12 := G12) hk
  exact va_alen hexec hb hK hP q t0 h1 ht rfl hdg kk
theorem ra12 {p : Program} {l : Launch} {e : Env} {R : Room} {s : State} {m : MethodId} {args : Array Value} {below : List Frame} {meth : Method} {c : Code} {H : Heap} {locs : List Loc} {cells slots : Nat} {Q : State → Prop} {cc : ByteArray} {pc : Nat} {ls : Array Slot} {rest : List Value} {D : va_G} {cl : List vw_C} {tys : List (ClassId × FieldType)} {cI cZ cJ : ClassId} {g0 g7 g8 g9 g10 g11 g12 : Nat} {G9 G10 G11 G12 : Nat → Nat} {u : tX5} {wa ex : va_W} (hexec : p.tables.exec = Jvm.exec) (hb : c.code = cc) (hK : va_K D cl tys s) (t0 : Nat) (ht : tys[t0]? = some (cJ, .array .int)) (hP : va_P D cl (wa ++ ((wX5 cI cZ cJ g0 g7 g8 g9 g10 g11 g12 G9 G10 G11 G12 u) ++ ex)) H) {j : Nat} {i : Int32} (hj : i.toNatClampNeg = j) (hin : vp_in i u.2.2.2.2.2.2.2.2.2.2.2.2.1.1) (hdg : decode cc pc = .ok (.aaload, 1)) (kk : W p l e R s m args below meth c H locs cells slots Q (F0 m (pc + 1) ls (.ref (G12 j) :: rest))) : W p l e R s m args below meth c H locs cells slots Q (F0 m pc ls (.int i :: .ref g12 :: rest)) := by
  subst hj
  obtain ⟨q, h1, -⟩ := FC_r (w1 := wa) (FC_l (w2 := ex) (FC_i (ws := (wX5 cI cZ cJ g0 g7 g8 g9 g10 g11 g12 G9 G10 G11 G12 u)) 6 rfl))
  exact fg_ld hexec hb hK hP q t0 h1 ht hin rfl hdg kk
theorem rs12 {p : Program} {l : Launch} {e : Env} {R : Room} {s : State} {m : MethodId} {args : Array Value} {below : List Frame} {meth : Method} {c : Code} {H H0 : Heap} {locs : List Loc} {cells slots : Nat} {Q : State → Prop} {cc : ByteArray} {pc a : Nat} {ls : Array Slot} {rest : List Value} {D : va_G} {cl : List vw_C} {tys : List (ClassId × FieldType)} {A : Nat → Prop} {cI cZ cJ : ClassId} {g0 g7 g8 g9 g10 g11 g12 : Nat} {G9 G10 G11 G12 : Nat → Nat} {u : tX5} {wa ex : va_W} (hexec : p.tables.exec = Jvm.exec) (hb : c.code = cc) (hK : va_K D cl tys s) (t0 : Nat) (ht : tys[t0]? = some (cI, .int)) (hP : va_P D cl (wa ++ ((wX5 cI cZ cJ g0 g7 g8 g9 g10 g11 g12 G9 G10 G11 G12 u) ++ ex)) H) (hD : va_D A (wa ++ ((wX5 cI cZ cJ g0 g7 g8 g9 g10 g11 g12 G9 G10 G11 G12 u) ++ ex))) (hS : va_S A H0 H locs) {k j : Nat} (hk : k < u.2.2.2.2.2.2.2.2.2.2.2.2.1.1) (ha : a = G12 k) {i x : Int32} (hj : i.toNatClampNeg = j) (hin : vp_in i (u.2.2.2.2.2.2.2.2.2.2.2.2.1.2 k).1) (hdg : decode cc pc = .ok (.iastore, 1)) (kk : ∀ (H1 : Heap) (locs1 : List Loc), va_P D cl (wa ++ (wX5 cI cZ cJ g0 g7 g8 g9 g10 g11 g12 G9 G10 G11 G12 (u.1, u.2.1, u.2.2.1, u.2.2.2.1, u.2.2.2.2.1, u.2.2.2.2.2.1, u.2.2.2.2.2.2.1, u.2.2.2.2.2.2.2.1, u.2.2.2.2.2.2.2.2.1, u.2.2.2.2.2.2.2.2.2.1, u.2.2.2.2.2.2.2.2.2.2.1, u.2.2.2.2.2.2.2.2.2.2.2.1, (u.2.2.2.2.2.2.2.2.2.2.2.2.1.1, uR u.2.2.2.2.2.2.2.2.2.2.2.2.1.2 k (upd (u.2.2.2.2.2.2.2.2.2.2.2.2.1.2 k).2 j x)), u.2.2.2.2.2.2.2.2.2.2.2.2.2) ++ ex)) H1 → va_D A (wa ++ (wX5 cI cZ cJ g0 g7 g8 g9 g10 g11 g12 G9 G10 G11 G12 (u.1, u.2.1, u.2.2.1, u.2.2.2.1, u.2.2.2.2.1, u.2.2.2.2.2.1, u.2.2.2.2.2.2.1, u.2.2.2.2.2.2.2.1, u.2.2.2.2.2.2.2.2.1, u.2.2.2.2.2.2.2.2.2.1, u.2.2.2.2.2.2.2.2.2.2.1, u.2.2.2.2.2.2.2.2.2.2.2.1, (u.2.2.2.2.2.2.2.2.2.2.2.2.1.1, uR u.2.2.2.2.2.2.2.2.2.2.2.2.1.2 k (upd (u.2.2.2.2.2.2.2.2.2.2.2.2.1.2 k).2 j x)), u.2.2.2.2.2.2.2.2.2.2.2.2.2) ++ ex)) → va_S A H0 H1 locs1 → W p l e R s m args below meth c H1 locs1 cells slots Q (F0 m (pc + 1) ls rest)) : W p l e R s m args below meth c H locs cells slots Q (F0 m pc ls (.int x :: .int i :: .ref a :: rest)) := by
  subst ha; subst hj
  obtain ⟨q, h1, h2⟩ := fs12 (wa := wa) (ex := ex) (u := u) (cI := cI) (cZ := cZ) (cJ := cJ) (g0 := g0) (g7 := g7) (g8 := g8) (g9 := g9) (g10 := g10) (g11 := g11) (g12 := g12) (G9 := G9) (G10 := G10) (G11 := G11) (G12 := G12) hk
  refine va_iast hexec hb hK hP hD hS q t0 h1 ht hin hdg (fun H1 locs1 hP1 hD1 hS1 => ?_)
  rw [h2] at hP1 hD1
  exact kk H1 locs1 hP1 hD1 hS1
theorem xe_at {wa wb ex : va_W} {y : Nat × va_E} (j : Nat) (h : ex[j]? = some y) : ∃ q : Nat, (wa ++ (wb ++ ex))[q]? = some y ∧ ∀ z, (wa ++ (wb ++ ex)).set q z = wa ++ (wb ++ ex.set j z) := FC_r (FC_r (FC_i j h))
theorem xl {p : Program} {l : Launch} {e : Env} {R : Room} {s : State} {m : MethodId} {args : Array Value} {below : List Frame} {meth : Method} {c : Code} {H : Heap} {locs : List Loc} {cells slots : Nat} {Q : State → Prop} {cc : ByteArray} {pc a : Nat} {ls : Array Slot} {rest : List Value} {D : va_G} {cl : List vw_C} {tys : List (ClassId × FieldType)} {wa wb ex : va_W} (hexec : p.tables.exec = Jvm.exec) (hb : c.code = cc) (hK : va_K D cl tys s) (hP : va_P D cl (wa ++ (wb ++ ex)) H) (q0 t0 : Nat) {cA : ClassId} {n : Nat} {f : Nat → Int32} (ha : ex[q0]? = some (a, .inl (cA, n, .inl f))) (ht : tys[t0]? = some (cA, .int)) {i : Int32} {j : Nat} (hj : i.toNatClampNeg = j) (hin : vp_in i n) (hdg : decode cc pc = .ok (.iaload, 1)) (kk : W p l e R s m args below meth c H locs cells slots Q (F0 m (pc + 1) ls (.int (f j) :: rest))) : W p l e R s m args below meth c H locs cells slots Q (F0 m pc ls (.int i :: .ref a :: rest)) := by
  subst hj
  obtain ⟨q, h1, -⟩ := xe_at (wa := wa) (wb := wb) q0 ha
  exact va_iald hexec hb hK hP q t0 h1 ht hin hdg kk
theorem xlz {p : Program} {l : Launch} {e : Env} {R : Room} {s : State} {m : MethodId} {args : Array Value} {below : List Frame} {meth : Method} {c : Code} {H : Heap} {locs : List Loc} {cells slots : Nat} {Q : State → Prop} {cc : ByteArray} {pc a : Nat} {ls : Array Slot} {rest : List Value} {D : va_G} {cl : List vw_C} {tys : List (ClassId × FieldType)} {wa wb ex : va_W} (hexec : p.tables.exec = Jvm.exec) (hb : c.code = cc) (hK : va_K D cl tys s) (hP : va_P D cl (wa ++ (wb ++ ex)) H) (q0 t0 : Nat) {cA : ClassId} {n : Nat} {f : Nat → Int32} (ha : ex[q0]? = some (a, .inl (cA, n, .inl f))) (ht : tys[t0]? = some (cA, .boolean)) {i : Int32} {j : Nat} (hj : i.toNatClampNeg = j) (hin : vp_in i n) (hdg : decode cc pc = .ok (.baload, 1)) (kk : W p l e R s m args below meth c H locs cells slots Q (F0 m (pc + 1) ls (.int (f j) :: rest))) : W p l e R s m args below meth c H locs cells slots Q (F0 m pc ls (.int i :: .ref a :: rest)) := by
  subst hj
  obtain ⟨q, h1, -⟩ := xe_at (wa := wa) (wb := wb) q0 ha
  exact va_zald hexec hb hK hP q t0 h1 ht hin hdg kk
theorem xn {p : Program} {l : Launch} {e : Env} {R : Room} {s : State} {m : MethodId} {args : Array Value} {below : List Frame} {meth : Method} {c : Code} {H : Heap} {locs : List Loc} {cells slots : Nat} {Q : State → Prop} {cc : ByteArray} {pc a : Nat} {ls : Array Slot} {rest : List Value} {D : va_G} {cl : List vw_C} {tys : List (ClassId × FieldType)} {wa wb ex : va_W} (hexec : p.tables.exec = Jvm.exec) (hb : c.code = cc) (hK : va_K D cl tys s) (hP : va_P D cl (wa ++ (wb ++ ex)) H) (q0 t0 : Nat) {cA : ClassId} {x : vp_A} (ha : ex[q0]? = some (a, .inl (cA, x))) {ty : FieldType} (ht : tys[t0]? = some (cA, ty)) (hdg : decode cc pc = .ok (.arraylength, 1)) (kk : W p l e R s m args below meth c H locs cells slots Q (F0 m (pc + 1) ls (.int (nI x.1) :: rest))) : W p l e R s m args below meth c H locs cells slots Q (F0 m pc ls (.ref a :: rest)) := by
  obtain ⟨q, h1, -⟩ := xe_at (wa := wa) (wb := wb) q0 ha
  exact va_alen hexec hb hK hP q t0 h1 ht rfl hdg kk
theorem xs {p : Program} {l : Launch} {e : Env} {R : Room} {s : State} {m : MethodId} {args : Array Value} {below : List Frame} {meth : Method} {c : Code} {H H0 : Heap} {locs : List Loc} {cells slots : Nat} {Q : State → Prop} {cc : ByteArray} {pc a : Nat} {ls : Array Slot} {rest : List Value} {D : va_G} {cl : List vw_C} {tys : List (ClassId × FieldType)} {A : Nat → Prop} {wa wb ex : va_W} (hexec : p.tables.exec = Jvm.exec) (hb : c.code = cc) (hK : va_K D cl tys s) (hP : va_P D cl (wa ++ (wb ++ ex)) H) (hD : va_D A (wa ++ (wb ++ ex))) (hS : va_S A H0 H locs) (q0 t0 : Nat) {cA : ClassId} {n : Nat} {f : Nat → Int32} (ha : ex[q0]? = some (a, .inl (cA, n, .inl f))) (ht : tys[t0]? = some (cA, .int)) {i x : Int32} {j : Nat} (hj : i.toNatClampNeg = j) (hin : vp_in i n) (hdg : decode cc pc = .ok (.iastore, 1)) (kk : ∀ (H1 : Heap) (locs1 : List Loc), va_P D cl (wa ++ (wb ++ ex.set q0 (a, .inl (cA, n, .inl (upd f j x))))) H1 → va_D A (wa ++ (wb ++ ex.set q0 (a, .inl (cA, n, .inl (upd f j x))))) → va_S A H0 H1 locs1 → W p l e R s m args below meth c H1 locs1 cells slots Q (F0 m (pc + 1) ls rest)) : W p l e R s m args below meth c H locs cells slots Q (F0 m pc ls (.int x :: .int i :: .ref a :: rest)) := by
  subst hj
  obtain ⟨q, h1, h2⟩ := xe_at (wa := wa) (wb := wb) q0 ha
  refine va_iast hexec hb hK hP hD hS q t0 h1 ht hin hdg (fun H1 locs1 hP1 hD1 hS1 => ?_)
  rw [h2] at hP1 hD1
  exact kk H1 locs1 hP1 hD1 hS1
theorem xsz {p : Program} {l : Launch} {e : Env} {R : Room} {s : State} {m : MethodId} {args : Array Value} {below : List Frame} {meth : Method} {c : Code} {H H0 : Heap} {locs : List Loc} {cells slots : Nat} {Q : State → Prop} {cc : ByteArray} {pc a : Nat} {ls : Array Slot} {rest : List Value} {D : va_G} {cl : List vw_C} {tys : List (ClassId × FieldType)} {A : Nat → Prop} {wa wb ex : va_W} (hexec : p.tables.exec = Jvm.exec) (hb : c.code = cc) (hK : va_K D cl tys s) (hP : va_P D cl (wa ++ (wb ++ ex)) H) (hD : va_D A (wa ++ (wb ++ ex))) (hS : va_S A H0 H locs) (q0 t0 : Nat) {cA : ClassId} {n : Nat} {f : Nat → Int32} (ha : ex[q0]? = some (a, .inl (cA, n, .inl f))) (ht : tys[t0]? = some (cA, .boolean)) {i x : Int32} {j : Nat} (hj : i.toNatClampNeg = j) (hin : vp_in i n) (hdg : decode cc pc = .ok (.bastore, 1)) (kk : ∀ (H1 : Heap) (locs1 : List Loc), va_P D cl (wa ++ (wb ++ ex.set q0 (a, .inl (cA, n, .inl (upd f j (vp_nar .boolean x)))))) H1 → va_D A (wa ++ (wb ++ ex.set q0 (a, .inl (cA, n, .inl (upd f j (vp_nar .boolean x)))))) → va_S A H0 H1 locs1 → W p l e R s m args below meth c H1 locs1 cells slots Q (F0 m (pc + 1) ls rest)) : W p l e R s m args below meth c H locs cells slots Q (F0 m pc ls (.int x :: .int i :: .ref a :: rest)) := by
  subst hj
  obtain ⟨q, h1, h2⟩ := xe_at (wa := wa) (wb := wb) q0 ha
  refine va_zast hexec hb hK hP hD hS q t0 h1 ht hin hdg (fun H1 locs1 hP1 hD1 hS1 => ?_)
  rw [h2] at hP1 hD1
  exact kk H1 locs1 hP1 hD1 hS1
theorem ra_P {D : va_G} {cl : List vw_C} {wa wb ex x : va_W} {H : Heap} (h : va_P D cl ((wa ++ (wb ++ ex)) ++ x) H) : va_P D cl (wa ++ (wb ++ (ex ++ x))) H := by rw [List.append_assoc, List.append_assoc] at h; exact h
theorem ra_D {A : Nat → Prop} {wa wb ex x : va_W} (h : va_D A ((wa ++ (wb ++ ex)) ++ x)) : va_D A (wa ++ (wb ++ (ex ++ x))) := by rw [List.append_assoc, List.append_assoc] at h; exact h
theorem dx_P {D : va_G} {cl : List vw_C} {wa wb ex ex' : va_W} {H : Heap} (is : List Nat) (hs : is.map (fun i => ex[i]?) = ex'.map some) (h : va_P D cl (wa ++ (wb ++ ex)) H) : va_P D cl (wa ++ (wb ++ ex')) H := by
  have h2 : va_P D cl ex H := va_Pmid (wa := wa ++ wb) (wr := []) (by rw [List.append_nil, List.append_assoc]; exact h)
  refine wP_mem.mpr fun x hx => ?_
  rcases List.mem_append.mp hx with h3 | h3
  · exact wP_mem.mp h x (List.mem_append.mpr (Or.inl h3))
  · rcases List.mem_append.mp h3 with h4 | h4
    · exact wP_mem.mp h x (List.mem_append.mpr (Or.inr (List.mem_append.mpr (Or.inl h4))))
    · exact wP_mem.mp (va_Pcut (isC := is) h2 hs) x h4
theorem dx_D {A : Nat → Prop} {wa wb ex ex' : va_W} (is : List Nat) (hn : va_nd is = true) (hs : is.map (fun i => ex[i]?) = ex'.map some) (h : va_D A (wa ++ (wb ++ ex))) : va_D A (wa ++ (wb ++ ex')) := by
  have h2 : va_D A ex := va_Dmid (wa := wa ++ wb) (wr := []) (by rw [List.append_nil, List.append_assoc]; exact h)
  have h3 := h2.sub is hn hs
  obtain ⟨g1, g2⟩ := wD_nd.mp h
  obtain ⟨e1, e2⟩ := wD_nd.mp h3
  have hmem : ∀ x ∈ ex', x ∈ ex := fun x hx => by
    obtain ⟨k, hk⟩ := List.getElem?_of_mem hx
    have h5 : (is.map (fun i => ex[i]?))[k]? = some (some x) := by rw [hs, List.getElem?_map, hk]; rfl
    rw [List.getElem?_map] at h5
    cases hi : is[k]? with
    | none => rw [hi] at h5; cases h5
    | some i => rw [hi] at h5; exact List.mem_of_getElem? (Option.some.inj h5)
  rw [← List.append_assoc, List.map_append, List.nodup_append] at g1
  refine wD_nd.mpr ⟨?_, fun x hx => ?_⟩
  · rw [← List.append_assoc, List.map_append, List.nodup_append]
    refine ⟨g1.1, e1, fun q h6 r h7 e => ?_⟩
    obtain ⟨y, hy, rfl⟩ := List.mem_map.mp h7
    exact g1.2.2 q h6 y.1 (List.mem_map.mpr ⟨y, hmem y hy, rfl⟩) e
  · rw [← List.append_assoc] at hx
    rcases List.mem_append.mp hx with h6 | h6
    · exact g2 x (by rw [← List.append_assoc]; exact List.mem_append.mpr (Or.inl h6))
    · exact e2 x h6
theorem zx_P {D : va_G} {cl : List vw_C} {wa wb : va_W} {H : Heap} (h : va_P D cl (wa ++ wb) H) : va_P D cl (wa ++ (wb ++ [])) H := by rw [List.append_nil]; exact h
theorem zx_D {A : Nat → Prop} {wa wb : va_W} (h : va_D A (wa ++ wb)) : va_D A (wa ++ (wb ++ [])) := by rw [List.append_nil]; exact h
