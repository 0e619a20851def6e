/-! THE PURE PART: the build -/
theorem nI_le00 {a b : Nat} (ha : a < 2147483648) (hb : b < 2147483648) : (nI a ≤ nI b) ↔ a ≤ b := nI_leI ha hb
theorem cell_ok {xv : Nat → Int32} {L j : Nat} (hL : L ≤ 260) (hj : j < 16) : ∃ v : Int32, p_L_cell xv L (nI j) = some v := by
  unfold p_L_cell
  by_cases h : L ≤ j
  · exact ⟨_, if_pos ((nI_leI (by omega) (by omega)).mpr h)⟩
  · refine ⟨xv j, ?_⟩
    rw [if_neg (mt (nI_leI (by omega) (by omega)).mp h), gd_nI _ (by omega) (by omega), nI_cl (by omega)]
theorem L16 : (16 : Int32) = nI 16 := by decide +kernel
theorem mod16 {i : Nat} (h : i < 1000) : nI i - nI i / 16 * 16 = nI (i % 16) := by
  have hle : i / 16 * 16 ≤ i := Nat.div_mul_le_self i 16
  rw [L16, nI_div (by omega) (by omega), nI_mul, nI_sub hle]
  have := Nat.div_add_mod i 16
  rw [show i - i / 16 * 16 = i % 16 by omega]
section
variable {xv : Nat → Int32} {L : Nat} {uT : tX0}
theorem build_L (hL : L ≤ 260) {n : Nat} (hn : n ≤ 73) : ∀ (m i fuel : Nat) (g : tG) (fb : Nat → Bool) (A : tA) (B : tB) (M : tM) (sd : Int32), i + m = n → m < fuel → A.1 ≤ 60 * i → iR g fb A B M → ∃ (g' : tG) (fb' : Nat → Bool) (A' : tA) (B' : tB) (M' : tM) (sd' : Int32), p_L_build_L25 xv L fuel (iH g) (iC fb A) uT (iI B) (iM M) (iS g fb A B M sd) (nI n) (nI i) = some (iH g', iC fb' A', iI B', iM M', iS g' fb' A' B' M' sd') ∧ iR g' fb' A' B' M' ∧ A'.1 ≤ 60 * n := by
  intro m
  induction m with
  | zero =>
    intro i fuel g fb A B M sd hi hf hA hR
    obtain ⟨f, rfl⟩ : ∃ f, fuel = f + 1 := ⟨fuel - 1, by omega⟩
    refine ⟨g, fb, A, B, M, sd, ?_, hR, by omega⟩
    rw [p_L_build_L25, if_pos ((nI_leI (by omega) (by omega)).mpr (by omega))]
  | succ m ih =>
    intro i fuel g fb A B M sd hi hf hA hR
    obtain ⟨f, rfl⟩ : ∃ f, fuel = f + 1 := ⟨fuel - 1, by omega⟩
    obtain ⟨v, hv⟩ := cell_ok (xv := xv) (L := L) (j := i % 16) hL (Nat.mod_lt _ (by omega))
    obtain ⟨g1, fb1, A1, B1, M1, sd1, e, hR1, hA1⟩ := act_ok (sd := sd) (uT := uT) hR (by omega) ((v >>> (((nI i / (16 : Int32)) * (3 : Int32)) &&& 31)) + ((743 : Int32) * nI i))
    obtain ⟨g2, fb2, A2, B2, M2, sd2, e2, hR2, hA2⟩ := ih (i + 1) f g1 fb1 A1 B1 M1 sd1 (by omega) (by omega) (by omega) hR1
    refine ⟨g2, fb2, A2, B2, M2, sd2, ?_, hR2, hA2⟩
    rw [p_L_build_L25, if_neg (mt (nI_leI (by omega) (by omega)).mp (by omega)), mod16 (by omega), hv, bd_sm, e, bd_sm, if_neg (show ¬ (1 : Int32) = 0 by decide +kernel)]
    rw [← e2, ← nI_add, ← L1]
end
theorem nF_z : nF zN = fun _ => (0 : Int32) := by funext i; exact L0.symm
theorem bF_z : bF zB = fun _ => (0 : Int32) := by funext i; rfl
def g_0 : tG := (6, 20, 0, zN, zN, zN, zN)
def A_0 : tA := (0, 0, nI 0, 0, 0, 0, 0, zB, zN, zN, zN, zB)
def B_0 : tB := (0, zN, zN, zN)
def M_0 : tM := (0, zN, zN)
theorem R_0 : iR g_0 zB A_0 B_0 M_0 := by
  refine ⟨⟨⟨by show 2 ≤ 6; omega, by show 6 ≤ 12; omega⟩, ⟨by show 1 ≤ 20; omega, by show 20 ≤ 99; omega⟩, Nat.zero_le _, fun _ => Nat.zero_le _, fun _ _ => rfl, fun _ => by show 0 < 8; omega, fun _ => Nat.zero_le _, fun _ => by show 0 < 8; omega, fun _ _ => rfl, by show 0 < 6; omega, Or.inl rfl, Nat.zero_le _, Nat.le_refl _, Nat.zero_le _, rfl, fun _ _ => rfl, fun _ => Nat.le_refl _, fun _ => Nat.le_refl _, rfl, fun _ => Nat.zero_le _, fun _ _ => rfl, fun _ _ => rfl, fun i hi => absurd hi (Nat.not_lt_zero i)⟩, ⟨fun i hi => absurd hi (Nat.not_lt_zero i), fun k i hk hi => absurd hi (Nat.not_lt_zero i), fun i hi => absurd hi (Nat.not_lt_zero i), fun k i hk hi => absurd hi (Nat.not_lt_zero i), fun i hi => absurd hi (Nat.not_lt_zero i)⟩, Nat.zero_le _, fun m => ⟨by show 0 < 8; omega, by show 0 < 8; omega⟩, fun m hm => absurd hm (Nat.not_lt_zero m)⟩
theorem z1_0 : zX1 = iH g_0 := by
  show zX1 = (nI 6, nI 20, nI 0, nF zN, nF zN, nF zN, nF zN)
  rw [nF_z]
  rfl
theorem z0_0 : zX0 = iC zB A_0 := by
  show zX0 = (nI 0, nI 0, nI 0, nI 0, nI 0, nI 0, nI 0, bF zB, nF zN, nF zN, bF zB, nF zN, bF zB)
  rw [nF_z, bF_z]
  rfl
theorem z2_0 : zX2 = iI B_0 := by
  have d1 : (fun i => nI (zN i / 9)) = fun _ => (0 : Int32) := by funext i; show nI (0 / 9) = 0; decide +kernel
  have d2 : (fun i => nI (zN i % 9)) = fun _ => (0 : Int32) := by funext i; show nI (0 % 9) = 0; decide +kernel
  show zX2 = (nI 0, (fun i => nI (zN i / 9)), (fun i => nI (zN i % 9)), nF zN, nF zN)
  rw [nF_z, d1, d2]
  rfl
theorem z3_0 : zX3 = iM M_0 := by
  show zX3 = (nI 0, nF zN, nF zN)
  rw [nF_z]
  rfl
theorem z5_0 : zX5 = iS g_0 zB A_0 B_0 M_0 (nI 0) := by
  have r : sRd 0 zN zN zB = fun _ => (0, fun _ => (0 : Int32)) := by
    funext i; unfold sRd; rw [if_neg (by omega)]; rfl
  have m : sMi 0 zN zN = fun _ => (0, fun _ => (0 : Int32)) := by
    funext i; unfold sMi; rw [if_neg (by omega)]; rfl
  show zX5 = (nI 0, nI 0, nI 0, nI 0, nI 0, nI 20, nI 0, (6, bF zB), bF zB, (6, sCh zN zN zN zN zN), (0, sRd 0 zN zN zB), (0, sMi 0 zN zN), (0, sPr 0 zN zN zN zN zN), nI 0)
  rw [bF_z, sCh_0z, sPr_0z, r, m]
  rfl
theorem build_ok {xv : Nat → Int32} {L : Nat} (hL : L ≤ 260) : ∃ (g : tG) (fb : Nat → Bool) (A : tA) (B : tB) (M : tM) (sd : Int32), p_L_build xv L zX1 zX0 zX0 zX2 zX3 = some (iH g, iC fb A, iI B, iM M, iS g fb A B M sd) ∧ iR g fb A B M ∧ A.1 ≤ 4500 := by
  obtain ⟨v, hv⟩ := cell_ok (xv := xv) (L := L) (j := 0) hL (by omega)
  obtain ⟨b, hb, e⟩ := bel_60 v
  obtain ⟨g, fb, A, B, M, sd, h1, h2, h3⟩ := build_L (xv := xv) (L := L) (uT := iC zB A_0) hL (n := 14 + b) (by omega) (14 + b) 0 75 g_0 zB A_0 B_0 M_0 (nI 0) (by omega) (by omega) (Nat.le_refl _) R_0
  refine ⟨g, fb, A, B, M, sd, ?_, h2, by omega⟩
  unfold p_L_build
  rw [z1_0, z0_0, z2_0, z3_0, z5_0, L0, hv, bd_sm, e, bd_sm, show (14 : Int32) = nI 14 by decide +kernel, nI_add]
  exact h1
