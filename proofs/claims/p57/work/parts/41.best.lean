/-! THE PURE PART: the best of many; sums of sums -/
def oI : Option Nat → Int32
  | none => m1
  | some k => nI k
/-- the first of the best -/
def amS (w : Nat → Nat) (p : Nat → Bool) (i : Nat) (b : Option Nat) : Option Nat := if p i = true then (match b with
  | none => some i
  | some k => if w i ≤ w k then some k else some i) else b
def am (w : Nat → Nat) (p : Nat → Bool) : Nat → Nat → Option Nat → Option Nat
  | 0, _, b => b
  | n + 1, i, b => am w p n (i + 1) (amS w p i b)
theorem am_s (w : Nat → Nat) (p : Nat → Bool) (n i : Nat) (b : Option Nat) : am w p (n + 1) i b = am w p n (i + 1) (amS w p i b) := rfl
theorem am_0 (w : Nat → Nat) (p : Nat → Bool) (i : Nat) (b : Option Nat) : am w p 0 i b = b := rfl
section
variable {w : Nat → Nat} {p : Nat → Bool} {i k : Nat} {b : Option Nat}
theorem amS_f (h : p i = false) : amS w p i b = b := by unfold amS; rw [h]; rfl
theorem amS_n (h : p i = true) : amS w p i none = some i := by unfold amS; rw [h]; rfl
theorem amS_l (h : p i = true) (hle : w i ≤ w k) : amS w p i (some k) = some k := by
  unfold amS
  rw [h, if_pos rfl]
  show (if w i ≤ w k then some k else some i) = _
  rw [if_pos hle]
theorem amS_g (h : p i = true) (hle : ¬ w i ≤ w k) : amS w p i (some k) = some i := by
  unfold amS
  rw [h, if_pos rfl]
  show (if w i ≤ w k then some k else some i) = _
  rw [if_neg hle]
/-- the best so far lies below -/
theorem amS_b (hb : ∀ k, b = some k → k < i) : ∀ k, amS w p i b = some k → k < i + 1 := by
  intro k h
  cases hp : p i
  · rw [amS_f hp] at h; have := hb k h; omega
  · cases b with
    | none => rw [amS_n hp] at h; cases h; omega
    | some q =>
      have hq := hb q rfl
      by_cases hle : w i ≤ w q
      · rw [amS_l hp hle] at h; cases h; omega
      · rw [amS_g hp hle] at h; cases h; omega
end
theorem am_le {w : Nat → Nat} {p : Nat → Bool} : ∀ (n i : Nat) (b : Option Nat) (j : Nat), (b = some j ∨ (i ≤ j ∧ j < i + n ∧ p j = true)) → ∃ k, am w p n i b = some k ∧ w j ≤ w k := by
  intro n
  induction n with
  | zero =>
    intro i b j h
    rcases h with h | h
    · exact ⟨j, h, Nat.le_refl _⟩
    · omega
  | succ n ih =>
    intro i b j h
    rw [am_s]
    cases hp : p i
    · rw [amS_f hp]
      refine ih (i + 1) b j ?_
      rcases h with h | ⟨h1, h2, h3⟩
      · exact Or.inl h
      · by_cases e : i = j
        · subst e; rw [hp] at h3; cases h3
        · exact Or.inr ⟨by omega, by omega, h3⟩
    · cases b with
      | none =>
        rw [amS_n hp]
        refine ih (i + 1) (some i) j ?_
        rcases h with h | ⟨h1, h2, h3⟩
        · cases h
        · by_cases e : i = j
          · subst e; exact Or.inl rfl
          · exact Or.inr ⟨by omega, by omega, h3⟩
      | some k =>
        by_cases hle : w i ≤ w k
        · rw [amS_l hp hle]
          by_cases e : i = j
          · subst e
            obtain ⟨q, h1, h2⟩ := ih (i + 1) (some k) k (Or.inl rfl)
            exact ⟨q, h1, Nat.le_trans hle h2⟩
          · refine ih (i + 1) (some k) j ?_
            rcases h with h | ⟨h1, h2, h3⟩
            · exact Or.inl h
            · exact Or.inr ⟨by omega, by omega, h3⟩
        · rw [amS_g hp hle]
          rcases h with h | ⟨h1, h2, h3⟩
          · cases h
            obtain ⟨q, h1, h2⟩ := ih (i + 1) (some i) i (Or.inl rfl)
            exact ⟨q, h1, by omega⟩
          · by_cases e : i = j
            · subst e; exact ih (i + 1) (some i) i (Or.inl rfl)
            · exact ih (i + 1) (some i) j (Or.inr ⟨by omega, by omega, h3⟩)
theorem am_lt {w : Nat → Nat} {p : Nat → Bool} : ∀ (n i : Nat) (b : Option Nat) (k : Nat), am w p n i b = some k → b = some k ∨ (i ≤ k ∧ k < i + n ∧ p k = true) := by
  intro n
  induction n with
  | zero => intro i b k h; exact Or.inl h
  | succ n ih =>
    intro i b k h
    rw [am_s] at h
    cases hp : p i
    · rw [amS_f hp] at h
      rcases ih (i + 1) b k h with h | ⟨h1, h2, h3⟩
      · exact Or.inl h
      · exact Or.inr ⟨by omega, by omega, h3⟩
    · rcases ih (i + 1) _ k h with h | ⟨h1, h2, h3⟩
      · cases b with
        | none => rw [amS_n hp] at h; cases h; exact Or.inr ⟨by omega, by omega, hp⟩
        | some q =>
          by_cases hle : w i ≤ w q
          · rw [amS_l hp hle] at h; exact Or.inl h
          · rw [amS_g hp hle] at h; cases h; exact Or.inr ⟨by omega, by omega, hp⟩
      · exact Or.inr ⟨by omega, by omega, h3⟩
/-- the longest wait -/
def lW (Hs : Nat → Nat) : Nat → Nat → Nat → Nat
  | 0, _, v => v
  | n + 1, i, v => lW Hs n (i + 1) (if v < Hs i - Hs (i - 1) then Hs i - Hs (i - 1) else v)
theorem sm_succ (w : Nat → Nat) (n : Nat) : sm w (n + 1) = sm w n + w n := by
  rw [← sF_0, sF_add w n 0 1, sF_0, sF, sF, Nat.zero_add, Nat.add_zero]
theorem sm_add (u v : Nat → Nat) (n : Nat) : sm (fun i => u i + v i) n = sm u n + sm v n := by
  induction n with
  | zero => rfl
  | succ n ih => rw [sm_succ, sm_succ, sm_succ, ih]; omega
theorem sm_swap (w : Nat → Nat → Nat) (n m : Nat) : sm (fun t => sm (fun f => w t f) n) m = sm (fun f => sm (fun t => w t f) m) n := by
  induction m with
  | zero =>
    show 0 = sm (fun _ => 0) n
    rw [sm_c]; rfl
  | succ m ih =>
    rw [sm_succ, ih, ← sm_add]
    exact sm_ext n (fun j _ => (sm_succ (fun t => w t j) m).symm)
theorem sm_one {k : Nat} : ∀ {n : Nat}, k < n → sm (fun t => b1 (decide (k = t))) n = 1 := by
  intro n
  induction n with
  | zero => intro h; omega
  | succ n ih =>
    intro h
    rw [sm_succ]
    by_cases e : k = n
    · subst e
      rw [sm_ext (w' := fun _ => 0) k (fun j hj => by
        show b1 (decide (k = j)) = 0
        rw [decide_eq_false (by omega)]; rfl), sm_c, decide_eq_true rfl]
      show k * 0 + 1 = 1
      omega
    · rw [ih (by omega), decide_eq_false e]; rfl
theorem sm_sub {u v : Nat → Nat} : ∀ (n : Nat), (∀ i, v i ≤ u i) → sm (fun i => u i - v i) n + sm v n = sm u n := by
  intro n h
  induction n with
  | zero => rfl
  | succ n ih => rw [sm_succ, sm_succ, sm_succ]; have := h n; omega
theorem sm_mono {u v : Nat → Nat} (n : Nat) (h : ∀ i, v i ≤ u i) : sm v n ≤ sm u n := sm_le n (fun j _ => h j)
/-- what is to come, of a topic -/
def tcI (tp : Nat → Nat) (t f j : Nat) : Nat := b1 (decide (tp (9 * f + j) = t))
def tcF (len nx tp : Nat → Nat) (t f : Nat) : Nat := sF (tcI tp t f) (nx f) (len f - nx f)
def tcG (len nx tp : Nat → Nat) (fl t : Nat) : Nat := sm (tcF len nx tp t) fl
theorem tc_sum {len nx tp : Nat → Nat} {fl : Nat} (htp : ∀ i, tp i < 8) (hx : ∀ f, nx f ≤ len f) : sm (tcG len nx tp fl) 8 + sm nx fl = sm len fl := by
  have e : sm (tcG len nx tp fl) 8 = sm (fun f => len f - nx f) fl := by
    unfold tcG
    rw [sm_swap]
    refine sm_ext fl (fun f _ => ?_)
    unfold tcF
    rw [sm_ext (w' := fun t => sm (fun j => tcI tp t f (nx f + j)) (len f - nx f)) 8 (fun t _ => sF_sm _ _ _), sm_swap]
    refine (sm_ext (w' := fun _ => 1) (len f - nx f) (fun j _ => sm_one (k := tp (9 * f + (nx f + j))) (htp _))).trans ?_
    rw [sm_c]
    omega
  rw [e]
  exact sm_sub fl hx
theorem tcF_le {len nx tp : Nat → Nat} {t f : Nat} : tcF len nx tp t f ≤ len f - nx f := by
  unfold tcF
  rw [sF_sm]
  have := sm_le (w := fun j => tcI tp t f (nx f + j)) (w' := fun _ => 1) (len f - nx f) (fun j _ => by
    show b1 _ ≤ 1
    unfold b1; split <;> omega)
  rw [sm_c] at this
  omega
/-- a grade -/
def gr (lk dl : Nat → Nat) (m t x : Nat) : Nat := if 4 + x / 3 + (if lk m = t then 2 else 0) - (if dl m = t then 3 else 0) < 10 then 4 + x / 3 + (if lk m = t then 2 else 0) - (if dl m = t then 3 else 0) else 10
theorem gr_le (lk dl : Nat → Nat) (m t x : Nat) : gr lk dl m t x ≤ 10 := by
  unfold gr
  by_cases h : 4 + x / 3 + (if lk m = t then 2 else 0) - (if dl m = t then 3 else 0) < 10
  · rw [if_pos h]; exact Nat.le_of_lt h
  · rw [if_neg h]; exact Nat.le_refl _
def okQ (s c : Nat) : Bool := decide ((FP.ddiv (FP.i2d (nI s)) (FP.i2d (nI c))) &&& 0x7fffffffffffffff ≤ 0x7ff0000000000000) && decide (Op.cmpValue (FP.dcmp (FP.ddiv (FP.i2d (nI s)) (FP.i2d (nI c))) (FP.ddiv (FP.i2d (nI s)) (FP.i2d (nI c)))) CmpOp.l = 0)
theorem okQ_all : ∀ c : Nat, c < 8 → ∀ a : Nat, a < 28 → ∀ b : Nat, b < 30 → okQ (30 * a + b) (c + 1) = true := by decide +kernel
theorem okQ_of {s c : Nat} (hs : s < 800) (h1 : 1 ≤ c) (h8 : c ≤ 8) : okQ s c = true := by
  have h := okQ_all (c - 1) (by omega) (s / 30) (by omega) (s % 30) (by omega)
  rw [show 30 * (s / 30) + s % 30 = s by omega, show c - 1 + 1 = c by omega] at h
  exact h
theorem okQ_1 {s c : Nat} (hs : s < 800) (h1 : 1 ≤ c) (h8 : c ≤ 8) : (FP.ddiv (FP.i2d (nI s)) (FP.i2d (nI c))) &&& 0x7fffffffffffffff ≤ 0x7ff0000000000000 := by
  have h := okQ_of hs h1 h8
  unfold okQ at h
  rw [Bool.and_eq_true, decide_eq_true_iff, decide_eq_true_iff] at h
  exact h.1
theorem okQ_2 {s c : Nat} (hs : s < 800) (h1 : 1 ≤ c) (h8 : c ≤ 8) : Op.cmpValue (FP.dcmp (FP.ddiv (FP.i2d (nI s)) (FP.i2d (nI c))) (FP.ddiv (FP.i2d (nI s)) (FP.i2d (nI c)))) CmpOp.l = 0 := by
  have h := okQ_of hs h1 h8
  unfold okQ at h
  rw [Bool.and_eq_true, decide_eq_true_iff, decide_eq_true_iff] at h
  exact h.2
theorem cmp0 : Op.cmpValue (FP.dcmp FP.dconst0 FP.dconst0) CmpOp.l = 0 := by decide +kernel
