/-! THE PURE PART: the law as a whole -/
section
variable {xv : Nat → Int32} {L : Nat} {uT : tX0}
theorem law_L (hL : L ≤ 260) : ∀ (m i fuel : Nat) (g : tG) (fb : Nat → Bool) (A : tA) (B : tB) (M : tM) (sd : Int32), i + m = 30 → m < fuel → A.1 ≤ 4500 + 61 * i → iR g fb A B M → p_L_law_L22 xv L fuel (iH g) (iC fb A) uT (iI B) (iM M) (iS g fb A B M sd) (nI i) = some () := by
  intro m
  induction m with
  | zero =>
    intro i fuel g fb A B M sd hi hf hA hR
    obtain ⟨f, rfl⟩ : ∃ f, fuel = f + 1 := ⟨fuel - 1, by omega⟩
    rw [p_L_law_L22, show (30 : Int32) = nI 30 by decide +kernel, if_pos (nI_leI (by omega) (by omega) |>.mpr (by omega)), same_ok hR (by omega), bd_sm, gq_in rfl]
  | succ m ih =>
    intro i fuel g fb A B M sd hi hf hA hR
    obtain ⟨f, rfl⟩ : ∃ f, fuel = f + 1 := ⟨fuel - 1, by omega⟩
    obtain ⟨v, hv⟩ := cell_ok (xv := xv) (L := L) (j := i % 16) hL (Nat.mod_lt _ (by omega))
    obtain ⟨g1, fb1, A1, B1, M1, sd1, e, hR1, hA1⟩ := act_ok (sd := sd) (uT := uT) hR (by omega) ((v >>> (((nI i / (16 : Int32)) * (3 : Int32)) &&& 31)) + ((743 : Int32) * nI i))
    obtain ⟨A2, B2, sd2, e2, hR2, hA2⟩ := law_step (uT := uT) (xv := xv) (Lc := L) (rec22 := p_L_law_L22 xv L f) (l3 := nI i) (sd := sd1) hR1 (by omega)
    have hfl : g1.1 ≤ 12 := hR1.1.1.2
    have ih2 := ih (i + 1) f g1 fb1 A2 B2 M1 sd2 (by omega) (by omega) (by omega) hR2
    rw [p_L_law_L22, show (30 : Int32) = nI 30 by decide +kernel, if_neg (mt (nI_leI (by omega) (by omega)).mp (by omega)), mod16 (by omega), hv, bd_sm, e, bd_sm, if_neg (show ¬ (1 : Int32) = 0 by decide +kernel)]
    unfold p_X4_floors p_X4_instalments
    rw [bd_sm, bd_sm]
    show gL (nI g1.1) 12 (gL (nI g1.1) 12 (p_L_law_L99 xv L (p_L_law_L22 xv L f) 200 (iH g1) (iC fb1 A1) uT (iI B1) (iM M1) (iS g1 fb1 A1 B1 M1 sd1) z0F (nI g1.1).toNatClampNeg z0F (nI g1.1).toNatClampNeg (nI i) (nI g1.1) (nI B1.1) 0 0 0 0)) = some ()
    rw [gL_nI hfl (by omega), gL_nI hfl (by omega), nI_cl (by omega), e2, L1, nI_add]
    exact ih2
end
theorem pure_all (xv : Nat → Int32) (L : Nat) (hL : L ≤ 260) : ∃ z : (tX1 × tX0 × tX2 × tX3 × tX5), p_L_build xv L zX1 zX0 zX0 zX2 zX3 = some z ∧ p_L_law xv L z.1 z.2.1 zX0 z.2.2.1 z.2.2.2.1 z.2.2.2.2 = some () := by
  obtain ⟨g, fb, A, B, M, sd, h1, h2, h3⟩ := build_ok (xv := xv) hL
  refine ⟨_, h1, ?_⟩
  unfold p_L_law
  rw [L0]
  exact law_L hL 30 0 31 g fb A B M sd (by omega) (by omega) (by omega) h2
