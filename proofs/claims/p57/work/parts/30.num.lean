/-! THE PURE PART: numbers, bits, rows -/
def bI (b : Bool) : Int32 := if b then 1 else 0
def nF (g : Nat → Nat) : Nat → Int32 := fun i => nI (g i)
def bF (g : Nat → Bool) : Nat → Int32 := fun i => bI (g i)
def ud {α : Type} (g : Nat → α) (k : Nat) (v : α) : Nat → α := fun j => if j = k then v else g j
theorem ud_at {α : Type} (g : Nat → α) (k : Nat) (v : α) : ud g k v k = v := if_pos rfl
theorem ud_ne {α : Type} (g : Nat → α) {k j : Nat} (v : α) (h : j ≠ k) : ud g k v j = g j := if_neg h
theorem upd_at (g : Nat → Int32) (k : Nat) (v : Int32) : upd g k v k = v := if_pos rfl
theorem upd_ne (g : Nat → Int32) {k j : Nat} (v : Int32) (h : j ≠ k) : upd g k v j = g j := if_neg h
theorem nF_app (g : Nat → Nat) (i : Nat) : nF g i = nI (g i) := rfl
theorem bF_app (g : Nat → Bool) (i : Nat) : bF g i = bI (g i) := rfl
theorem upd_nF (g : Nat → Nat) (k v : Nat) : upd (nF g) k (nI v) = nF (ud g k v) := by
  funext j; unfold upd nF ud; split <;> rfl
theorem upd_bF (g : Nat → Bool) (k : Nat) (b : Bool) : upd (bF g) k (bI b) = bF (ud g k b) := by
  funext j; unfold upd bF ud; split <;> rfl
theorem bI_t : bI true = 1 := rfl
theorem bI_f : bI false = 0 := rfl
theorem nar_bI (b : Bool) : vp_nar .boolean (bI b) = bI b := by cases b <;> rfl
theorem nar_1 : vp_nar .boolean (1 : Int32) = bI true := rfl
theorem nar_0 : vp_nar .boolean (0 : Int32) = bI false := rfl
theorem bI_0 (b : Bool) : (bI b = 0) = (b = false) := by cases b <;> simp [bI]
theorem bI_1 (b : Bool) : (bI b = 1) = (b = true) := by cases b <;> simp [bI]
theorem bI_and (b : Bool) : bI b &&& 1 = bI b := by cases b <;> rfl
theorem gq_bI {α : Type} (b : Bool) (k : Option α) : gq (bI b &&& 1 = bI b) k = k := gq_in (bI_and b)
theorem bd_sm {α β : Type} (a : α) (f : α → Option β) : bd (some a) f = f a := rfl
theorem gd_nI {α : Type} {a n : Nat} (k : Option α) (h : a < n) (hn : n < 2147483648) : gd (nI a) n k = k := gd_in (nI_in h hn)
theorem nI_cl {n : Nat} (h : n < 2147483648) : (nI n).toNatClampNeg = n := nI_clamp h
theorem L0 : (0 : Int32) = nI 0 := by decide +kernel
theorem L1 : (1 : Int32) = nI 1 := by decide +kernel
theorem L2 : (2 : Int32) = nI 2 := by decide +kernel
theorem L3 : (3 : Int32) = nI 3 := by decide +kernel
theorem L4 : (4 : Int32) = nI 4 := by decide +kernel
theorem L5 : (5 : Int32) = nI 5 := by decide +kernel
theorem L7 : (7 : Int32) = nI 7 := by decide +kernel
theorem L8 : (8 : Int32) = nI 8 := by decide +kernel
theorem L9 : (9 : Int32) = nI 9 := by decide +kernel
theorem L10 : (10 : Int32) = nI 10 := by decide +kernel
theorem L12 : (12 : Int32) = nI 12 := by decide +kernel
theorem L20 : (20 : Int32) = nI 20 := by decide +kernel
theorem L21 : (21 : Int32) = nI 21 := by decide +kernel
theorem L33 : (33 : Int32) = nI 33 := by decide +kernel
theorem L40 : (40 : Int32) = nI 40 := by decide +kernel
theorem L60 : (60 : Int32) = nI 60 := by decide +kernel
theorem L80 : (80 : Int32) = nI 80 := by decide +kernel
theorem L99 : (99 : Int32) = nI 99 := by decide +kernel
theorem L108 : (108 : Int32) = nI 108 := by decide +kernel
theorem nI_lt' {a b : Nat} (ha : a < 2147483648) (hb : b < 2147483648) : (nI a < nI b) = (a < b) := propext (nI_ltI ha hb)
theorem nI_le' {a b : Nat} (ha : a < 2147483648) (hb : b < 2147483648) : (nI a ≤ nI b) = (a ≤ b) := propext (nI_leI ha hb)
theorem nI_eq' {a b : Nat} (ha : a < 2147483648) (hb : b < 2147483648) : (nI a = nI b) = (a = b) := propext (nI_eq ha hb)
theorem nI_sub {a b : Nat} (h : b ≤ a) : nI a - nI b = nI (a - b) := (Int32.ofNat_sub a b h).symm
theorem nI_mul (a b : Nat) : nI a * nI b = nI (a * b) := (Int32.ofNat_mul a b).symm
theorem nI_div {a b : Nat} (ha : a < 2147483648) (hb : b < 2147483648) : nI a / nI b = nI (a / b) := (Int32.ofNat_div ha hb).symm
theorem nI_neg_lt {a b : Nat} (h : a < b) (hb : b < 2147483648) : (nI a - nI b < 0) = True := by
  apply eq_true
  obtain ⟨c, rfl⟩ := Nat.exists_eq_add_of_lt h
  have e : nI a - nI (a + c + 1) = - nI (c + 1) := by
    rw [show a + c + 1 = a + (c + 1) by omega, ← nI_add]
    rw [Int32.sub_eq_add_neg, Int32.neg_add, Int32.sub_eq_add_neg, ← Int32.add_assoc, Int32.add_right_neg, Int32.zero_add]
  rw [e, Int32.lt_iff_toInt_lt, Int32.toInt_neg, nI_toInt (by omega)]
  rw [show (0 : Int32).toInt = 0 from rfl, Int.bmod_def]
  omega
theorem nI_m1 {a : Nat} (h : a < 2147483648) : (nI a = -1) = False := by
  apply eq_false
  intro e
  have := congrArg Int32.toInt e
  rw [nI_toInt (by omega)] at this
  have h2 : (-1 : Int32).toInt = -1 := by decide +kernel
  omega
/-- how many hold, from the first on -/
def sm (w : Nat → Nat) : Nat → Nat
  | 0 => 0
  | n + 1 => w 0 + sm (fun i => w (i + 1)) n
def b1 (b : Bool) : Nat := if b then 1 else 0
theorem bI_b1 (b : Bool) : bI b = nI (b1 b) := by cases b <;> decide +kernel
def cnt (g : Nat → Bool) (n : Nat) : Nat := sm (fun i => b1 (g i)) n
theorem cnt_s (g : Nat → Bool) (n : Nat) : cnt g (n + 1) = b1 (g 0) + cnt (fun i => g (i + 1)) n := rfl
theorem cnt_0 {n : Nat} : ∀ {g : Nat → Bool}, (∀ i, i < n → g i = false) → cnt g n = 0 := by
  induction n with
  | zero => intro g _; rfl
  | succ n ih =>
    intro g h
    rw [cnt_s, h 0 (by omega), ih (fun i hi => h (i + 1) (by omega))]
    rfl
theorem cnt_pos {n : Nat} : ∀ {g : Nat → Bool} {i : Nat}, i < n → g i = true → 0 < cnt g n := by
  induction n with
  | zero => intro g i h; omega
  | succ n ih =>
    intro g i h hg
    rw [cnt_s]
    match i, hg with
    | 0, hg => rw [hg]; simp [b1]; omega
    | i + 1, hg =>
      have := ih (g := fun j => g (j + 1)) (i := i) (by omega) hg
      omega
theorem cnt_le (n : Nat) : ∀ g : Nat → Bool, cnt g n ≤ n := by
  induction n with
  | zero => intro g; exact Nat.le_refl 0
  | succ n ih =>
    intro g
    have := ih (fun i => g (i + 1))
    rw [cnt_s]
    have : b1 (g 0) ≤ 1 := by unfold b1; split <;> omega
    omega
