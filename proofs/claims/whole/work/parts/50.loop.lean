/-! THE PURE PART: the law's loop -/
section
variable {xs : Nat → Int32} {Lc : Nat} {i : Int32} {uL : tX5} {uH : tX1} {uC uT : tX0} {uI : tX2} {uM : tX3} {fO : Nat → Int64} {n : Nat}
theorem C_step (x : Int32) (h : wS n uL uH uC uT uI uM) (hn : n < 800000) (v1 : vp_in (i + 1) Lc) (v2 : vp_in (i + 2) Lc) (v3 : vp_in (i + 3) Lc) : ∃ z, p_L_step xs Lc i x uL uH uC uT uI uM fO = some z ∧ wZ (n + 60) z := by
  unfold p_L_step
  by_cases hx : x.toInt < 0 ∨ 53 < x.toInt
  · rw [if_pos hx]
    obtain ⟨g, fb, A, B, kp, sd, tw, M, rfl, rfl, rfl, rfl, hR, hU, hT, hM, hA⟩ := h
    exact ⟨_, rfl, wS_mk kp sd tw hR hU hT hM (by omega)⟩
  rw [if_neg hx]
  by_cases e0 : x = 0
  · rw [if_pos e0]
    exact C_0 h hn v1 v2 v3
  rw [if_neg e0]
  by_cases e1 : x = 1
  · rw [if_pos e1]
    exact C_1 h hn v1 v2 v3
  rw [if_neg e1]
  by_cases e2 : x = 2
  · rw [if_pos e2]
    exact C_2 h hn v1 v2 v3
  rw [if_neg e2]
  by_cases e3 : x = 3
  · rw [if_pos e3]
    exact C_3 h hn v1 v2 v3
  rw [if_neg e3]
  by_cases e4 : x = 4
  · rw [if_pos e4]
    exact C_4 h hn v1 v2 v3
  rw [if_neg e4]
  by_cases e5 : x = 5
  · rw [if_pos e5]
    exact C_5 h hn v1 v2 v3
  rw [if_neg e5]
  by_cases e6 : x = 6
  · rw [if_pos e6]
    exact C_6 h hn v1 v2 v3
  rw [if_neg e6]
  by_cases e7 : x = 7
  · rw [if_pos e7]
    exact C_7 h hn v1 v2 v3
  rw [if_neg e7]
  by_cases e8 : x = 8
  · rw [if_pos e8]
    exact C_8 h hn v1 v2 v3
  rw [if_neg e8]
  by_cases e9 : x = 9
  · rw [if_pos e9]
    exact C_9 h hn v1 v2 v3
  rw [if_neg e9]
  by_cases e10 : x = 10
  · rw [if_pos e10]
    exact C_10 h hn v1 v2 v3
  rw [if_neg e10]
  by_cases e11 : x = 11
  · rw [if_pos e11]
    exact C_11 h hn v1 v2 v3
  rw [if_neg e11]
  by_cases e12 : x = 12
  · rw [if_pos e12]
    exact C_12 h hn v1 v2 v3
  rw [if_neg e12]
  by_cases e13 : x = 13
  · rw [if_pos e13]
    exact C_13 h hn v1 v2 v3
  rw [if_neg e13]
  by_cases e14 : x = 14
  · rw [if_pos e14]
    exact C_14 h hn v1 v2 v3
  rw [if_neg e14]
  by_cases e15 : x = 15
  · rw [if_pos e15]
    exact C_15 h hn v1 v2 v3
  rw [if_neg e15]
  by_cases e16 : x = 16
  · rw [if_pos e16]
    exact C_16 h hn v1 v2 v3
  rw [if_neg e16]
  by_cases e17 : x = 17
  · rw [if_pos e17]
    exact C_17 h hn v1 v2 v3
  rw [if_neg e17]
  by_cases e18 : x = 18
  · rw [if_pos e18]
    exact C_18 h hn v1 v2 v3
  rw [if_neg e18]
  by_cases e19 : x = 19
  · rw [if_pos e19]
    exact C_19 h hn v1 v2 v3
  rw [if_neg e19]
  by_cases e20 : x = 20
  · rw [if_pos e20]
    exact C_20 h hn v1 v2 v3
  rw [if_neg e20]
  by_cases e21 : x = 21
  · rw [if_pos e21]
    exact C_21 h hn v1 v2 v3
  rw [if_neg e21]
  by_cases e22 : x = 22
  · rw [if_pos e22]
    exact C_22 h hn v1 v2 v3
  rw [if_neg e22]
  by_cases e23 : x = 23
  · rw [if_pos e23]
    exact C_23 h hn v1 v2 v3
  rw [if_neg e23]
  by_cases e24 : x = 24
  · rw [if_pos e24]
    exact C_24 h hn v1 v2 v3
  rw [if_neg e24]
  by_cases e25 : x = 25
  · rw [if_pos e25]
    exact C_25 h hn v1 v2 v3
  rw [if_neg e25]
  by_cases e26 : x = 26
  · rw [if_pos e26]
    exact C_26 h hn v1 v2 v3
  rw [if_neg e26]
  by_cases e27 : x = 27
  · rw [if_pos e27]
    exact C_27 h hn v1 v2 v3
  rw [if_neg e27]
  by_cases e28 : x = 28
  · rw [if_pos e28]
    exact C_28 h hn v1 v2 v3
  rw [if_neg e28]
  by_cases e29 : x = 29
  · rw [if_pos e29]
    exact C_29 h hn v1 v2 v3
  rw [if_neg e29]
  by_cases e30 : x = 30
  · rw [if_pos e30]
    exact C_30 h hn v1 v2 v3
  rw [if_neg e30]
  by_cases e31 : x = 31
  · rw [if_pos e31]
    exact C_31 h hn v1 v2 v3
  rw [if_neg e31]
  by_cases e32 : x = 32
  · rw [if_pos e32]
    exact C_32 h hn v1 v2 v3
  rw [if_neg e32]
  by_cases e33 : x = 33
  · rw [if_pos e33]
    exact C_33 h hn v1 v2 v3
  rw [if_neg e33]
  by_cases e34 : x = 34
  · rw [if_pos e34]
    exact C_34 h hn v1 v2 v3
  rw [if_neg e34]
  by_cases e35 : x = 35
  · rw [if_pos e35]
    exact C_35 h hn v1 v2 v3
  rw [if_neg e35]
  by_cases e36 : x = 36
  · rw [if_pos e36]
    exact C_36 h hn v1 v2 v3
  rw [if_neg e36]
  by_cases e37 : x = 37
  · rw [if_pos e37]
    exact C_37 h hn v1 v2 v3
  rw [if_neg e37]
  by_cases e38 : x = 38
  · rw [if_pos e38]
    exact C_38 h hn v1 v2 v3
  rw [if_neg e38]
  by_cases e39 : x = 39
  · rw [if_pos e39]
    exact C_39 h hn v1 v2 v3
  rw [if_neg e39]
  by_cases e40 : x = 40
  · rw [if_pos e40]
    exact C_40 h hn v1 v2 v3
  rw [if_neg e40]
  by_cases e41 : x = 41
  · rw [if_pos e41]
    exact C_41 h hn v1 v2 v3
  rw [if_neg e41]
  by_cases e42 : x = 42
  · rw [if_pos e42]
    exact C_42 h hn v1 v2 v3
  rw [if_neg e42]
  by_cases e43 : x = 43
  · rw [if_pos e43]
    exact C_43 h hn v1 v2 v3
  rw [if_neg e43]
  by_cases e44 : x = 44
  · rw [if_pos e44]
    exact C_44 h hn v1 v2 v3
  rw [if_neg e44]
  by_cases e45 : x = 45
  · rw [if_pos e45]
    exact C_45 h hn v1 v2 v3
  rw [if_neg e45]
  by_cases e46 : x = 46
  · rw [if_pos e46]
    exact C_46 h hn v1 v2 v3
  rw [if_neg e46]
  by_cases e47 : x = 47
  · rw [if_pos e47]
    exact C_47 h hn v1 v2 v3
  rw [if_neg e47]
  by_cases e48 : x = 48
  · rw [if_pos e48]
    exact C_48 h hn v1 v2 v3
  rw [if_neg e48]
  by_cases e49 : x = 49
  · rw [if_pos e49]
    exact C_49 h hn v1 v2 v3
  rw [if_neg e49]
  by_cases e50 : x = 50
  · rw [if_pos e50]
    exact C_50 h hn v1 v2 v3
  rw [if_neg e50]
  by_cases e51 : x = 51
  · rw [if_pos e51]
    exact C_51 h hn v1 v2 v3
  rw [if_neg e51]
  by_cases e52 : x = 52
  · rw [if_pos e52]
    exact C_52 h hn v1 v2 v3
  rw [if_neg e52]
  by_cases e53 : x = 53
  · rw [if_pos e53]
    exact C_53 h hn v1 v2 v3
  rw [if_neg e53]
  exfalso
  have h0 : ¬ x < 0 := fun hx0 => by
    rw [Int32.lt_iff_toInt_lt] at hx0
    have z0 : (0 : Int32).toInt = 0 := rfl
    omega
  obtain ⟨k, hk, rfl⟩ := nI_of h0
  rw [nI_toInt (by omega)] at hx
  rcases (show k = 0 ∨ k = 1 ∨ k = 2 ∨ k = 3 ∨ k = 4 ∨ k = 5 ∨ k = 6 ∨ k = 7 ∨ k = 8 ∨ k = 9 ∨ k = 10 ∨ k = 11 ∨ k = 12 ∨ k = 13 ∨ k = 14 ∨ k = 15 ∨ k = 16 ∨ k = 17 ∨ k = 18 ∨ k = 19 ∨ k = 20 ∨ k = 21 ∨ k = 22 ∨ k = 23 ∨ k = 24 ∨ k = 25 ∨ k = 26 ∨ k = 27 ∨ k = 28 ∨ k = 29 ∨ k = 30 ∨ k = 31 ∨ k = 32 ∨ k = 33 ∨ k = 34 ∨ k = 35 ∨ k = 36 ∨ k = 37 ∨ k = 38 ∨ k = 39 ∨ k = 40 ∨ k = 41 ∨ k = 42 ∨ k = 43 ∨ k = 44 ∨ k = 45 ∨ k = 46 ∨ k = 47 ∨ k = 48 ∨ k = 49 ∨ k = 50 ∨ k = 51 ∨ k = 52 ∨ k = 53 by omega) with rfl | rfl | rfl | rfl | rfl | rfl | rfl | rfl | rfl | rfl | rfl | rfl | rfl | rfl | rfl | rfl | rfl | rfl | rfl | rfl | rfl | rfl | rfl | rfl | rfl | rfl | rfl | rfl | rfl | rfl | rfl | rfl | rfl | rfl | rfl | rfl | rfl | rfl | rfl | rfl | rfl | rfl | rfl | rfl | rfl | rfl | rfl | rfl | rfl | rfl | rfl | rfl | rfl | rfl
  · exact e0 (by decide +kernel)
  · exact e1 (by decide +kernel)
  · exact e2 (by decide +kernel)
  · exact e3 (by decide +kernel)
  · exact e4 (by decide +kernel)
  · exact e5 (by decide +kernel)
  · exact e6 (by decide +kernel)
  · exact e7 (by decide +kernel)
  · exact e8 (by decide +kernel)
  · exact e9 (by decide +kernel)
  · exact e10 (by decide +kernel)
  · exact e11 (by decide +kernel)
  · exact e12 (by decide +kernel)
  · exact e13 (by decide +kernel)
  · exact e14 (by decide +kernel)
  · exact e15 (by decide +kernel)
  · exact e16 (by decide +kernel)
  · exact e17 (by decide +kernel)
  · exact e18 (by decide +kernel)
  · exact e19 (by decide +kernel)
  · exact e20 (by decide +kernel)
  · exact e21 (by decide +kernel)
  · exact e22 (by decide +kernel)
  · exact e23 (by decide +kernel)
  · exact e24 (by decide +kernel)
  · exact e25 (by decide +kernel)
  · exact e26 (by decide +kernel)
  · exact e27 (by decide +kernel)
  · exact e28 (by decide +kernel)
  · exact e29 (by decide +kernel)
  · exact e30 (by decide +kernel)
  · exact e31 (by decide +kernel)
  · exact e32 (by decide +kernel)
  · exact e33 (by decide +kernel)
  · exact e34 (by decide +kernel)
  · exact e35 (by decide +kernel)
  · exact e36 (by decide +kernel)
  · exact e37 (by decide +kernel)
  · exact e38 (by decide +kernel)
  · exact e39 (by decide +kernel)
  · exact e40 (by decide +kernel)
  · exact e41 (by decide +kernel)
  · exact e42 (by decide +kernel)
  · exact e43 (by decide +kernel)
  · exact e44 (by decide +kernel)
  · exact e45 (by decide +kernel)
  · exact e46 (by decide +kernel)
  · exact e47 (by decide +kernel)
  · exact e48 (by decide +kernel)
  · exact e49 (by decide +kernel)
  · exact e50 (by decide +kernel)
  · exact e51 (by decide +kernel)
  · exact e52 (by decide +kernel)
  · exact e53 (by decide +kernel)
end
theorem L_loop {xs : Nat → Int32} {Lc : Nat} (hL : Lc ≤ 2048) : ∀ (m j n : Nat) (uL : tX5) (uH : tX1) (uC uT : tX0) (uI : tX2) (uM : tX3) (fO : Nat → Int64), wS n uL uH uC uT uI uM → n + 60 * m < 800000 → Lc < 4 * j + 4 * m → 4 * j ≤ Lc → p_L_loop xs Lc m (nI (4 * j)) uL uH uC uT uI uM fO = some () := by
  intro m
  induction m with
  | zero => intro j n uL uH uC uT uI uM fO h hn h1 h2; omega
  | succ m ih =>
    intro j n uL uH uC uT uI uM fO h hn h1 h2
    rw [p_L_loop]
    by_cases hc : Lc < 4 * j + 4
    · have hs : Int32.ofNat Lc - 4 < nI (4 * j) := by
        show nI Lc - 4 < nI (4 * j)
        rw [L4]
        by_cases h4 : 4 ≤ Lc
        · rw [nI_sub h4]
          exact (nI_ltI (by omega) (by omega)).mpr (by omega)
        · have hneg : nI Lc - nI 4 < 0 := of_eq_true (nI_neg_lt (by omega) (by omega))
          exact Int32.lt_of_lt_of_le hneg (nI_pos' (by omega))
      rw [if_pos hs]
    · have hs : ¬ Int32.ofNat Lc - 4 < nI (4 * j) := by
        show ¬ nI Lc - 4 < nI (4 * j)
        rw [L4, nI_sub (by omega)]
        exact mt (nI_ltI (by omega) (by omega)).mp (by omega)
      have q1 : vp_in (nI (4 * j) + 1) Lc := by rw [L1, nI_add]; exact vp_in_nI (by omega) (by omega)
      have q2 : vp_in (nI (4 * j) + 2) Lc := by rw [L2, nI_add]; exact vp_in_nI (by omega) (by omega)
      have q3 : vp_in (nI (4 * j) + 3) Lc := by rw [L3, nI_add]; exact vp_in_nI (by omega) (by omega)
      obtain ⟨z, e1, e2⟩ := C_step (xs := xs) (fO := fO) (xs (nI (4 * j)).toNatClampNeg &&& 63) h (by omega) q1 q2 q3
      rw [if_neg hs, gd_nI _ (by omega) (by omega), e1, bd_sm, L4, nI_add, show 4 * j + 4 = 4 * (j + 1) by omega]
      exact ih (j + 1) (n + 60) _ _ _ _ _ _ _ e2 (by omega) (by omega) (by omega)
theorem nF_z : nF zN = fun _ => (0 : Int32) := by funext i; exact L0.symm
theorem bF_z : bF zB = fun _ => (0 : Int32) := by funext i; rfl
theorem R_init : iR (6, 20, 0, zN, zN, zN, zN) zB (0, 0, nI 0, 0, 0, 0, 0, zB, zN, zN, zN, zB) (0, zN, fun _ => 0, fun _ => 0) := by
  refine ⟨⟨by show 2 ≤ 6; omega, by show 6 ≤ 12; omega⟩, ⟨by show 1 ≤ 20; omega, by show 20 ≤ 99; omega⟩, Nat.zero_le _, fun _ => Nat.zero_le _, fun _ _ => rfl, fun _ => by show 0 < 8; omega, fun _ => Nat.zero_le _, fun _ => by show 0 < 8; omega, fun _ _ => rfl, by show 0 < 6; omega, Or.inl rfl, Nat.zero_le _, Nat.le_refl _, Nat.zero_le _, rfl, fun _ _ => rfl, fun _ => Nat.le_refl _, fun _ => Nat.le_refl _, rfl, fun _ => Nat.zero_le _, fun _ _ => rfl, fun _ _ => rfl, fun i hi => absurd hi (Nat.not_lt_zero i)⟩
theorem N_init : iN (0, 0, nI 0, 0, 0, 0, 0, zB, zN, zN, zN, zB) 0 = fun _ => (0 : Int32) := by
  have e12 : mI zB 12 = 0 := (mI_0 (g := zB) (n := 12) (by omega)).mpr (fun i _ => rfl)
  have e8 : mI zB 8 = 0 := (mI_0 (g := zB) (n := 8) (by omega)).mpr (fun i _ => rfl)
  funext i
  unfold iN
  show mkN (nI 0) (nI 0) (nI 0) (nI 0) (nI 0) (nI 0) (mI zB 12) (mI zB 8) (nI 0) (nF zN) (nF zN) (nF zN) i = 0
  rw [e12, e8, nF_z, ← L0]
  unfold mkN
  repeat (first | rfl | split)
theorem W_init : wS 0 zX5 zX1 zX0 zX0 zX2 zX3 := by
  have f8 : mI zB 8 = 0 := (mI_0 (g := zB) (n := 8) (by omega)).mpr (fun i _ => rfl)
  refine ⟨(6, 20, 0, zN, zN, zN, zN), zB, (0, 0, nI 0, 0, 0, 0, 0, zB, zN, zN, zN, zB), (0, zN, fun _ => 0, fun _ => 0), fun _ => 0, 0, 0, (0, zN, zN), ?_, ?_, ?_, ?_, R_init, ⟨L0, fun i hi => absurd hi (Nat.not_lt_zero i)⟩, ⟨fun i _ => ⟨rfl, rfl, rfl⟩, fun i _ => ⟨rfl, rfl, rfl⟩⟩, ⟨Nat.zero_le _, fun m => ⟨by show 0 < 8; omega, by show 0 < 8; omega⟩, fun m hm => absurd hm (Nat.not_lt_zero m)⟩, Nat.le_refl _⟩
  · show zX5 = (iN (0, 0, nI 0, 0, 0, 0, 0, zB, zN, zN, zN, zB) 0, (fun _ => 0), 0, 0, nI 6, nI 20, mI zB 8, nF zN, nF zN, nF zN, nI 0, nF zN, nI 0, nF zN, nF zN, nF zN, (fun _ => 0), (fun _ => 0))
    rw [N_init, f8, nF_z]
    rfl
  · show zX1 = (nI 6, nI 20, nI 0, nF zN, nF zN, nF zN, nF zN)
    rw [nF_z]
    rfl
  · show zX0 = (nI 0, nI 0, nI 0, nI 0, nI 0, nI 0, nI 0, bF zB, nF zN, nF zN, bF zB, nF zN, bF zB)
    rw [nF_z, bF_z]
    rfl
  · show zX3 = (nI 0, nF zN, nF zN)
    rw [nF_z]
    rfl
theorem pure_all (xs : Nat → Int32) (Lc : Nat) (hL : Lc ≤ 2048) : p_L_loop xs Lc 513 0 zX5 zX1 zX0 zX0 zX2 zX3 (fun _ => 0) = some () := by
  have h := L_loop (xs := xs) hL 513 0 0 zX5 zX1 zX0 zX0 zX2 zX3 (fun _ => 0) W_init (by omega) (by omega) (by omega)
  rw [Nat.mul_zero, ← L0] at h
  exact h
