/-! THE PURE PART: the state, its pictures, what holds of it -/
abbrev tG : Type := Nat × Nat × Nat × (Nat → Nat) × (Nat → Nat) × (Nat → Nat) × (Nat → Nat)
abbrev tA : Type := Nat × Nat × Int32 × Nat × Nat × Nat × Nat × (Nat → Bool) × (Nat → Nat) × (Nat → Nat) × (Nat → Nat) × (Nat → Bool)
abbrev tB : Type := Nat × (Nat → Nat) × (Nat → Nat) × (Nat → Nat)
abbrev tM : Type := Nat × (Nat → Nat) × (Nat → Nat)
def iH (g : tG) : tX1 := (nI g.1, nI g.2.1, nI g.2.2.1, nF g.2.2.2.1, nF g.2.2.2.2.1, nF g.2.2.2.2.2.1, nF g.2.2.2.2.2.2)
def iC (fb : Nat → Bool) (A : tA) : tX0 := (nI A.1, nI A.2.1, A.2.2.1, nI A.2.2.2.1, nI A.2.2.2.2.1, nI A.2.2.2.2.2.1, nI A.2.2.2.2.2.2.1, bF A.2.2.2.2.2.2.2.1, nF A.2.2.2.2.2.2.2.2.1, nF A.2.2.2.2.2.2.2.2.2.1, bF fb, nF A.2.2.2.2.2.2.2.2.2.2.1, bF A.2.2.2.2.2.2.2.2.2.2.2)
def iI (B : tB) : tX2 := (nI B.1, (fun i => nI (B.2.1 i / 9)), (fun i => nI (B.2.1 i % 9)), nF B.2.2.1, nF B.2.2.2)
def iM (M : tM) : tX3 := (nI M.1, nF M.2.1, nF M.2.2)
/-- the law's own rows -/
def sCh (len nx ct tp th : Nat → Nat) : Nat → Nat × (Nat → Int32) := fun f => (2 + 2 * len f, fun k => if k = 0 then nI (nx f) else if k = 1 then nI (ct f) else if k < 2 + 2 * len f then (if k % 2 = 0 then nI (tp (9 * f + (k - 2) / 2)) else nI (th (9 * f + (k - 2) / 2))) else nI 0)
def sRd (nr : Nat) (ta wm : Nat → Nat) (rd : Nat → Bool) : Nat → Nat × (Nat → Int32) := fun r => if r < nr then (3, fun k => if k = 0 then nI (ta r) else if k = 1 then nI (wm r) else if k = 2 then bI (rd r) else nI 0) else (0, fun _ => nI 0)
def sMi (nm : Nat) (lk dl : Nat → Nat) : Nat → Nat × (Nat → Int32) := fun m => if m < nm then (2, fun k => if k = 0 then nI (lk m) else if k = 1 then nI (dl m) else nI 0) else (0, fun _ => nI 0)
def sPr (mn : Nat) (tl Ts Hs tp th : Nat → Nat) : Nat → Nat × (Nat → Int32) := fun i => if i < mn then (6, fun k => if k = 0 then nI (tl i / 9) else if k = 1 then nI (tl i % 9) else if k = 2 then nI (tp (tl i)) else if k = 3 then nI (th (tl i)) else if k = 4 then nI (Ts i) else if k = 5 then nI (Hs i) else nI 0) else (0, fun _ => nI 0)
def iS (g : tG) (fb : Nat → Bool) (A : tA) (B : tB) (M : tM) (sd : Int32) : tX5 := (nI A.1, nI A.2.1, A.2.2.1, nI A.2.2.2.1, nI A.2.2.2.2.1, nI g.2.1, nI A.2.2.2.2.2.1, (g.1, bF A.2.2.2.2.2.2.2.1), bF fb, (g.1, sCh g.2.2.2.1 A.2.2.2.2.2.2.2.2.1 A.2.2.2.2.2.2.2.2.2.1 g.2.2.2.2.1 g.2.2.2.2.2.1), (g.2.2.1, sRd g.2.2.1 g.2.2.2.2.2.2 A.2.2.2.2.2.2.2.2.2.2.1 A.2.2.2.2.2.2.2.2.2.2.2), (M.1, sMi M.1 M.2.1 M.2.2), (B.1, sPr B.1 B.2.1 B.2.2.1 B.2.2.2 g.2.2.2.2.1 g.2.2.2.2.2.1), sd)
def iRx (fl lim nr : Nat) (len tp th ta : Nat → Nat) (fb : Nat → Bool) (hr a : Nat) (wy : Int32) (st wr sp la : Nat) (cl : Nat → Bool) (nx ct wm : Nat → Nat) (rd : Nat → Bool) (mn : Nat) (tl : Nat → Nat) : Prop :=
  (2 ≤ fl ∧ fl ≤ 12) ∧ (1 ≤ lim ∧ lim ≤ 99) ∧ nr ≤ 8 ∧ (∀ f, len f ≤ 9) ∧ (∀ f, fl ≤ f → len f = 0) ∧ (∀ i, tp i < 8) ∧ (∀ i, th i ≤ 9) ∧ (∀ r, ta r < 8) ∧ (∀ t, 8 ≤ t → fb t = false)
  ∧ a < fl ∧ okw wy ∧ st ≤ 25 ∧ wr ≤ hr ∧ sp ≤ 10 * hr ∧ la = (if mn = 0 then 0 else th (tl (mn - 1)))
  ∧ (∀ f, fl ≤ f → cl f = false) ∧ (∀ f, nx f ≤ len f) ∧ (∀ f, ct f ≤ nx f) ∧ mn + sm ct 12 = sm nx 12
  ∧ (∀ r, wm r ≤ 99) ∧ (∀ r, rd r = false → wm r = 0) ∧ (∀ r, nr ≤ r → rd r = false) ∧ (∀ i, i < mn → tl i < 108 ∧ tl i % 9 < len (tl i / 9))
/-- what holds of the instalments -/
def iRy (th nx : Nat → Nat) (hr mn : Nat) (tl Ts Hs : Nat → Nat) : Prop := (∀ i, i < mn → tl i % 9 < nx (tl i / 9)) ∧ (∀ k i, k < i → i < mn → tl k / 9 = tl i / 9 → tl k % 9 < tl i % 9) ∧ (∀ i, i < mn → Hs i < hr) ∧ (∀ k i, k < i → i < mn → Hs k < Hs i) ∧ (∀ i, i < mn → th (tl i) ≤ Ts i ∧ Ts i ≤ 9 + 10 * hr)
def oM4 (M : tM) : Prop := M.1 ≤ 4 ∧ (∀ m, M.2.1 m < 8 ∧ M.2.2 m < 8) ∧ (∀ m, m < M.1 → M.2.1 m ≠ M.2.2 m)
def iRX (g : tG) (fb : Nat → Bool) (A : tA) (B : tB) : Prop := iRx g.1 g.2.1 g.2.2.1 g.2.2.2.1 g.2.2.2.2.1 g.2.2.2.2.2.1 g.2.2.2.2.2.2 fb A.1 A.2.1 A.2.2.1 A.2.2.2.1 A.2.2.2.2.1 A.2.2.2.2.2.1 A.2.2.2.2.2.2.1 A.2.2.2.2.2.2.2.1 A.2.2.2.2.2.2.2.2.1 A.2.2.2.2.2.2.2.2.2.1 A.2.2.2.2.2.2.2.2.2.2.1 A.2.2.2.2.2.2.2.2.2.2.2 B.1 B.2.1
def iRY (g : tG) (A : tA) (B : tB) : Prop := iRy g.2.2.2.2.2.1 A.2.2.2.2.2.2.2.2.1 A.1 B.1 B.2.1 B.2.2.1 B.2.2.2
def iR (g : tG) (fb : Nat → Bool) (A : tA) (B : tB) (M : tM) : Prop := iRX g fb A B ∧ iRY g A B ∧ oM4 M
section
variable {th nx : Nat → Nat} {hr mn : Nat} {tl Ts Hs : Nat → Nat}
theorem Y_up (h : iRy th nx hr mn tl Ts Hs) : iRy th nx (hr + 1) mn tl Ts Hs := by
  obtain ⟨y1, y2, y3, y4, y5⟩ := h
  exact ⟨y1, y2, fun i hi => by have := y3 i hi; omega, y4, fun i hi => by have := y5 i hi; omega⟩
theorem Y_nx {a : Nat} (h : iRy th nx hr mn tl Ts Hs) : iRy th (ud nx a (nx a + 1)) hr mn tl Ts Hs := by
  obtain ⟨y1, y2, y3, y4, y5⟩ := h
  refine ⟨fun i hi => ?_, y2, y3, y4, y5⟩
  have := y1 i hi
  by_cases e : tl i / 9 = a
  · rw [e, ud_at]; rw [e] at this; omega
  · rw [ud_ne _ _ e]; exact this
theorem Y_print {a sp : Nat} (h : iRy th nx hr mn tl Ts Hs) (ha : nx a < 9) (hs : sp ≤ 10 * hr) (hth : ∀ i, th i ≤ 9) : iRy th (ud nx a (nx a + 1)) (hr + 1) (mn + 1) (ud tl mn (9 * a + nx a)) (ud Ts mn (th (9 * a + nx a) + sp)) (ud Hs mn hr) := by
  have hu := Y_nx (a := a) h
  obtain ⟨y1, y2, y3, y4, y5⟩ := h
  have u1 := hu.1
  have d1 : (9 * a + nx a) / 9 = a := by omega
  have d2 : (9 * a + nx a) % 9 = nx a := by omega
  have h9 := hth (9 * a + nx a)
  refine ⟨fun i hi => ?_, fun k i hk hi => ?_, fun i hi => ?_, fun k i hk hi => ?_, fun i hi => ?_⟩
  · by_cases e : i = mn
    · rw [e, ud_at, d1, d2, ud_at]; omega
    · rw [ud_ne _ _ e]; exact u1 i (by omega)
  · rw [ud_ne tl _ (show k ≠ mn by omega)]
    by_cases e : i = mn
    · rw [e, ud_at, d1, d2]
      intro e2
      have := y1 k (by omega)
      rw [e2] at this
      exact this
    · rw [ud_ne _ _ e]; exact y2 k i hk (by omega)
  · by_cases e : i = mn
    · rw [e, ud_at]; omega
    · rw [ud_ne _ _ e]; have := y3 i (by omega); omega
  · rw [ud_ne Hs _ (show k ≠ mn by omega)]
    by_cases e : i = mn
    · rw [e, ud_at]; exact y3 k (by omega)
    · rw [ud_ne _ _ e]; exact y4 k i hk (by omega)
  · by_cases e : i = mn
    · rw [e, ud_at, ud_at]; omega
    · rw [ud_ne _ _ e, ud_ne _ _ e]; have := y5 i (by omega); omega
end
section
variable {hr a st wr sp la : Nat} {wy : Int32} {cl fb rd : Nat → Bool} {nx ct wm : Nat → Nat} {fl lim nr : Nat} {len tp th ta : Nat → Nat} {mn : Nat} {tl : Nat → Nat}
theorem R_up (h : iRx fl lim nr len tp th ta fb hr a wy st wr sp la cl nx ct wm rd mn tl) : iRx fl lim nr len tp th ta fb (hr + 1) a wy st wr sp la cl nx ct wm rd mn tl := by
  obtain ⟨⟨h1, h1b⟩, ⟨h2, h2b⟩, h3, h4, h5, h6, h7, h8, h9, h10, h11, h12, h13, h14, h15, h16, h17, h18, h19, h20, h21, h22, h23⟩ := h
  exact ⟨⟨h1, h1b⟩, ⟨h2, h2b⟩, h3, h4, h5, h6, h7, h8, h9, h10, h11, h12, by omega, by omega, h15, h16, h17, h18, h19, h20, h21, h22, h23⟩
theorem R_la (h : iRx fl lim nr len tp th ta fb hr a wy st wr sp la cl nx ct wm rd mn tl) : la ≤ 9 := by
  obtain ⟨⟨h1, h1b⟩, ⟨h2, h2b⟩, h3, h4, h5, h6, h7, h8, h9, h10, h11, h12, h13, h14, h15, h16, h17, h18, h19, h20, h21, h22, h23⟩ := h
  have := h7 (tl (mn - 1))
  split at h15 <;> omega
theorem R_stuck (h : iRx fl lim nr len tp th ta fb hr a wy st wr sp la cl nx ct wm rd mn tl) : iRx fl lim nr len tp th ta fb (hr + 1) a wy (st - 1) wr (sp + (1 + la)) la cl nx ct wm rd mn tl := by
  have hla := R_la h
  obtain ⟨⟨h1, h1b⟩, ⟨h2, h2b⟩, h3, h4, h5, h6, h7, h8, h9, h10, h11, h12, h13, h14, h15, h16, h17, h18, h19, h20, h21, h22, h23⟩ := h
  exact ⟨⟨h1, h1b⟩, ⟨h2, h2b⟩, h3, h4, h5, h6, h7, h8, h9, h10, h11, by omega, by omega, by omega, h15, h16, h17, h18, h19, h20, h21, h22, h23⟩
theorem R_move {a' : Nat} {wy' : Int32} (h : iRx fl lim nr len tp th ta fb hr a wy st wr sp la cl nx ct wm rd mn tl) (ha : a' < fl) (hw : okw wy') : iRx fl lim nr len tp th ta fb (hr + 1) a' wy' st (wr + 1) sp la cl nx ct wm rd mn tl := by
  obtain ⟨⟨h1, h1b⟩, ⟨h2, h2b⟩, h3, h4, h5, h6, h7, h8, h9, h10, h11, h12, h13, h14, h15, h16, h17, h18, h19, h20, h21, h22, h23⟩ := h
  exact ⟨⟨h1, h1b⟩, ⟨h2, h2b⟩, h3, h4, h5, h6, h7, h8, h9, ha, hw, h12, by omega, by omega, h15, h16, h17, h18, h19, h20, h21, h22, h23⟩
theorem R_clr {k : Nat} (h : iRx fl lim nr len tp th ta fb hr a wy st wr sp la cl nx ct wm rd mn tl) : iRx fl lim nr len tp th ta fb hr a wy st wr sp la (ud cl k false) nx ct wm rd mn tl := by
  obtain ⟨⟨h1, h1b⟩, ⟨h2, h2b⟩, h3, h4, h5, h6, h7, h8, h9, h10, h11, h12, h13, h14, h15, h16, h17, h18, h19, h20, h21, h22, h23⟩ := h
  refine ⟨⟨h1, h1b⟩, ⟨h2, h2b⟩, h3, h4, h5, h6, h7, h8, h9, h10, h11, h12, h13, h14, h15, fun f hf => ?_, h17, h18, h19, h20, h21, h22, h23⟩
  by_cases e : f = k
  · subst e; exact ud_at _ _ _
  · rw [ud_ne _ _ e]; exact h16 f hf
theorem R_cut (h : iRx fl lim nr len tp th ta fb hr a wy st wr sp la cl nx ct wm rd mn tl) (hlt : nx a < len a) : iRx fl lim nr len tp th ta fb hr a wy st wr sp la cl (ud nx a (nx a + 1)) (ud ct a (ct a + 1)) wm rd mn tl := by
  obtain ⟨⟨h1, h1b⟩, ⟨h2, h2b⟩, h3, h4, h5, h6, h7, h8, h9, h10, h11, h12, h13, h14, h15, h16, h17, h18, h19, h20, h21, h22, h23⟩ := h
  have e1 := sm_ud (w := nx) (n := 12) (k := a) (v := nx a + 1) (by omega)
  have e2 := sm_ud (w := ct) (n := 12) (k := a) (v := ct a + 1) (by omega)
  refine ⟨⟨h1, h1b⟩, ⟨h2, h2b⟩, h3, h4, h5, h6, h7, h8, h9, h10, h11, h12, h13, h14, h15, h16, fun f => ?_, fun f => ?_, by omega, h20, h21, h22, h23⟩
  · by_cases e : f = a
    · subst e; rw [ud_at]; omega
    · rw [ud_ne _ _ e]; exact h17 f
  · by_cases e : f = a
    · subst e; rw [ud_at, ud_at]; have := h18 f; omega
    · rw [ud_ne _ _ e, ud_ne _ _ e]; exact h18 f
theorem R_mn (h : iRx fl lim nr len tp th ta fb hr a wy st wr sp la cl nx ct wm rd mn tl) (hlt : nx a < len a) : mn < 108 := by
  obtain ⟨⟨h1, h1b⟩, ⟨h2, h2b⟩, h3, h4, h5, h6, h7, h8, h9, h10, h11, h12, h13, h14, h15, h16, h17, h18, h19, h20, h21, h22, h23⟩ := h
  have e1 := sm_ud (w := nx) (n := 12) (k := a) (v := nx a + 1) (by omega)
  have e2 : sm (ud nx a (nx a + 1)) 12 ≤ sm (fun _ => 9) 12 := sm_le 12 (fun j _ => by
    by_cases e : j = a
    · subst e; rw [ud_at]; have := h4 j; omega
    · rw [ud_ne _ _ e]; exact Nat.le_trans (h17 j) (h4 j))
  rw [sm_c] at e2
  omega
theorem R_mn2 (h : iRx fl lim nr len tp th ta fb hr a wy st wr sp la cl nx ct wm rd mn tl) : mn ≤ 108 := by
  obtain ⟨⟨h1, h1b⟩, ⟨h2, h2b⟩, h3, h4, h5, h6, h7, h8, h9, h10, h11, h12, h13, h14, h15, h16, h17, h18, h19, h20, h21, h22, h23⟩ := h
  have e2 : sm nx 12 ≤ sm (fun _ => 9) 12 := sm_le 12 (fun j _ => Nat.le_trans (h17 j) (h4 j))
  rw [sm_c] at e2
  omega
theorem R_print (h : iRx fl lim nr len tp th ta fb hr a wy st wr sp la cl nx ct wm rd mn tl) (hlt : nx a < len a) : iRx fl lim nr len tp th ta fb hr a wy st wr 0 (th (9 * a + nx a)) cl (ud nx a (nx a + 1)) ct (prG nr ta rd (tp (9 * a + nx a)) (th (9 * a + nx a) + sp) wm 0) rd (mn + 1) (ud tl mn (9 * a + nx a)) := by
  obtain ⟨⟨h1, h1b⟩, ⟨h2, h2b⟩, h3, h4, h5, h6, h7, h8, h9, h10, h11, h12, h13, h14, h15, h16, h17, h18, h19, h20, h21, h22, h23⟩ := h
  have e1 := sm_ud (w := nx) (n := 12) (k := a) (v := nx a + 1) (by omega)
  have e4 := h4 a
  refine ⟨⟨h1, h1b⟩, ⟨h2, h2b⟩, h3, h4, h5, h6, h7, h8, h9, h10, h11, h12, h13, by omega, ?_, h16, fun f => ?_, fun f => ?_, by omega, fun r => ?_, fun r hr2 => ?_, h22, fun i hi => ?_⟩
  · rw [if_neg (by omega), Nat.add_sub_cancel, ud_at]
  · by_cases e : f = a
    · subst e; rw [ud_at]; omega
    · rw [ud_ne _ _ e]; exact h17 f
  · by_cases e : f = a
    · subst e; rw [ud_at]; have := h18 f; omega
    · rw [ud_ne _ _ e]; exact h18 f
  · unfold prG
    split
    · exact m99_le _
    · exact h20 r
  · unfold prG
    rw [if_neg (fun h => by rw [hr2] at h; exact nomatch h.2.2)]
    exact h21 r hr2
  · by_cases e : i = mn
    · subst e
      rw [ud_at]
      have d1 : (9 * a + nx a) / 9 = a := by omega
      have d2 : (9 * a + nx a) % 9 = nx a := by omega
      rw [d1, d2]
      exact ⟨by omega, hlt⟩
    · rw [ud_ne _ _ e]; exact h23 i (by omega)
theorem R_cool (h : iRx fl lim nr len tp th ta fb hr a wy st wr sp la cl nx ct wm rd mn tl) : iRx fl lim nr len tp th ta fb hr a wy st wr sp la cl nx ct (coW nr wm 0) (coR nr wm rd 0) mn tl := by
  obtain ⟨⟨h1, h1b⟩, ⟨h2, h2b⟩, h3, h4, h5, h6, h7, h8, h9, h10, h11, h12, h13, h14, h15, h16, h17, h18, h19, h20, h21, h22, h23⟩ := h
  refine ⟨⟨h1, h1b⟩, ⟨h2, h2b⟩, h3, h4, h5, h6, h7, h8, h9, h10, h11, h12, h13, h14, h15, h16, h17, h18, h19, fun r => ?_, fun r hr2 => ?_, fun r hr2 => ?_, h23⟩
  · have := h20 r
    unfold coW
    split <;> omega
  · unfold coW
    unfold coR at hr2
    have h0 := h21 r
    by_cases h5 : 0 ≤ r ∧ r < nr ∧ wm r = 0
    · split <;> omega
    · rw [if_neg h5] at hr2
      have := h0 hr2
      split <;> omega
  · unfold coR
    split
    · rfl
    · exact h22 r hr2
def tlA (lim hr a : Nat) (wy : Int32) (st wr sp la : Nat) (cl : Nat → Bool) (nx ct wm : Nat → Nat) (rd : Nat → Bool) : tA := (hr + 1, a, (if cnt cl 12 = 0 then nI 0 else wy), (if st = 0 ∧ lim ≤ wr then lim / 4 + 1 else st), (if st = 0 ∧ lim ≤ wr then 0 else wr), sp, la, cl, nx, ct, wm, rd)
theorem R_tail {Ts Hs : Nat → Nat} (h : iRx fl lim nr len tp th ta fb (hr + 1) a wy st wr sp la cl nx ct wm rd mn tl) : iRX (fl, lim, nr, len, tp, th, ta) fb (tlA lim hr a wy st wr sp la cl nx ct wm rd) (mn, tl, Ts, Hs) := by
  obtain ⟨⟨h1, h1b⟩, ⟨h2, h2b⟩, h3, h4, h5, h6, h7, h8, h9, h10, h11, h12, h13, h14, h15, h16, h17, h18, h19, h20, h21, h22, h23⟩ := h
  unfold iRX tlA
  refine ⟨⟨h1, h1b⟩, ⟨h2, h2b⟩, h3, h4, h5, h6, h7, h8, h9, h10, ?_, ?_, ?_, h14, h15, h16, h17, h18, h19, h20, h21, h22, h23⟩
  · show okw (if cnt cl 12 = 0 then nI 0 else wy)
    split
    · exact Or.inl rfl
    · exact h11
  · show (if st = 0 ∧ lim ≤ wr then lim / 4 + 1 else st) ≤ 25
    split <;> omega
  · show (if st = 0 ∧ lim ≤ wr then 0 else wr) ≤ hr + 1
    split <;> omega
end
