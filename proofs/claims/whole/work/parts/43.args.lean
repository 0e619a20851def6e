/-! THE PURE PART: arguments -/
theorem gqb {α : Type} (b : Bool) (f : Int32 → Option α) : bd (bd (some (bI b)) (fun v1 => gq (v1 &&& 1 = v1) (some v1))) f = f (bI b) := by
  rw [bd_sm, gq_in (bI_and b), bd_sm]
theorem gqb' (b : Bool) : bd (some (bI b)) (fun v1 => gq (v1 &&& 1 = v1) (some v1)) = some (bI b) := by
  rw [bd_sm, gq_in (bI_and b)]
theorem n_arg (n : Nat) (hn : n < 1000) (x : Int32) : (∃ k : Nat, k < n ∧ x = nI k ∧ p_X5_isIn x 0 (nI n - 1) = some (bI true)) ∨ ((x < 0 ∨ (¬ x < 0 ∧ ¬ x < nI n)) ∧ p_X5_isIn x 0 (nI n - 1) = some (bI false)) := by
  unfold p_X5_isIn
  by_cases h : x < 0
  · exact Or.inr ⟨Or.inl h, by rw [if_pos h]; rfl⟩
  · obtain ⟨k, hk, rfl⟩ := nI_of h
    rw [if_neg h, L1]
    by_cases h2 : k < n
    · refine Or.inl ⟨k, h2, rfl, ?_⟩
      rw [nI_sub (by omega), if_neg (mt (nI_ltI (by omega) (by omega)).mp (by omega))]
      rfl
    · refine Or.inr ⟨Or.inr ⟨h, mt (nI_ltI (by omega) (by omega)).mp h2⟩, ?_⟩
      by_cases h0 : n = 0
      · subst h0
        have e : nI 0 - nI 1 = m1 := by decide +kernel
        rw [e, if_pos (of_eq_true (nI_m1l' (by omega)))]
        rfl
      · rw [nI_sub (by omega), if_pos ((nI_ltI (by omega) (by omega)).mpr (by omega))]
        rfl
theorem b_arg (lo hi : Nat) (hlo : lo ≤ hi) (hh : hi < 1000) (x : Int32) : (∃ k : Nat, lo ≤ k ∧ k ≤ hi ∧ x = nI k ∧ p_X5_isIn x (nI lo) (nI hi) = some (bI true)) ∨ ((x < nI lo ∨ (¬ x < nI lo ∧ ¬ x ≤ nI hi)) ∧ p_X5_isIn x (nI lo) (nI hi) = some (bI false)) := by
  unfold p_X5_isIn
  by_cases h : x < nI lo
  · exact Or.inr ⟨Or.inl h, by rw [if_pos h]; rfl⟩
  · rw [if_neg h]
    by_cases h2 : nI hi < x
    · exact Or.inr ⟨Or.inr ⟨h, Int32.not_le.mpr h2⟩, by rw [if_pos h2]; rfl⟩
    · have h3 : ¬ x < 0 := fun h4 => h (Int32.lt_of_lt_of_le h4 (nI_pos' (by omega)))
      obtain ⟨k, hk, rfl⟩ := nI_of h3
      have h4 := mt (nI_ltI (a := k) (b := lo) (by omega) (by omega)).mpr h
      have h5 := mt (nI_ltI (a := hi) (b := k) (by omega) (by omega)).mpr h2
      exact Or.inl ⟨k, by omega, by omega, rfl, by rw [if_neg h2]; rfl⟩
theorem f_arg (g : tG) (hg : g.1 ≤ 12) (x : Int32) : (∃ k : Nat, k < g.1 ∧ x = nI k ∧ ∀ z : tX5, z.2.2.2.2.1 = nI g.1 → p_X5_isFloor z x = some (bI true)) ∨ ((∀ (uC uT : tX0) (uI : tX2) (uM : tX3), p_X4_needFloor (iH g) uC uT uI uM x = some (.inl xIOB)) ∧ ∀ z : tX5, z.2.2.2.2.1 = nI g.1 → p_X5_isFloor z x = some (bI false)) := by
  have q : (iH g).1 = nI g.1 := rfl
  rcases n_arg g.1 (by omega) x with ⟨k, h1, h2, h3⟩ | ⟨h1, h3⟩
  · exact Or.inl ⟨k, h1, h2, fun z hz => by unfold p_X5_isFloor; rw [hz, h3, gqb']⟩
  · refine Or.inr ⟨fun uC uT uI uM => ?_, fun z hz => by unfold p_X5_isFloor; rw [hz, h3, gqb']⟩
    unfold p_X4_needFloor
    rcases h1 with h1 | ⟨h1, h2⟩
    · rw [if_pos h1]
    · rw [if_neg h1, q, if_neg h2]
theorem i_arg {B : tB} {uI : tX2} (hU : uR B uI) (hB : B.1 ≤ 108) (x : Int32) : (∃ k : Nat, k < B.1 ∧ x = nI k ∧ (∀ (uH : tX1) (uC uT : tX0) (uM : tX3), p_X4_needInstalment uH uC uT uI uM x = some (.inr ())) ∧ ∀ z : tX5, z.1 8 = nI B.1 → p_X5_isInstalment z x = some (bI true)) ∨ ((∀ (uH : tX1) (uC uT : tX0) (uM : tX3), p_X4_needInstalment uH uC uT uI uM x = some (.inl xIOB)) ∧ ∀ z : tX5, z.1 8 = nI B.1 → p_X5_isInstalment z x = some (bI false)) := by
  rcases n_arg B.1 (by omega) x with ⟨k, h1, h2, h3⟩ | ⟨h1, h3⟩
  · refine Or.inl ⟨k, h1, h2, fun uH uC uT uM => ?_, fun z hz => by unfold p_X5_isInstalment; rw [hz, h3, gqb']⟩
    unfold p_X4_needInstalment
    rw [h2, hU.1, L0, if_neg (mt (nI_ltI (by omega) (by omega)).mp (by omega)), if_pos ((nI_ltI (by omega) (by omega)).mpr h1)]
  · refine Or.inr ⟨fun uH uC uT uM => ?_, fun z hz => by unfold p_X5_isInstalment; rw [hz, h3, gqb']⟩
    unfold p_X4_needInstalment
    rcases h1 with h1 | ⟨h1, h2⟩
    · rw [if_pos h1]
    · rw [if_neg h1, hU.1, if_neg h2]
theorem r_arg (g : tG) (hg : g.2.2.1 ≤ 8) (x : Int32) : (∃ k : Nat, k < g.2.2.1 ∧ x = nI k ∧ (∀ (uC uT : tX0) (uI : tX2) (uM : tX3), p_X4_needReader (iH g) uC uT uI uM x = some (.inr ())) ∧ ∀ z : tX5, z.2.2.2.2.2.2.2.2.2.2.1 = nI g.2.2.1 → p_X5_isReader z x = some (bI true)) ∨ ((∀ (uC uT : tX0) (uI : tX2) (uM : tX3), p_X4_needReader (iH g) uC uT uI uM x = some (.inl xIOB)) ∧ ∀ z : tX5, z.2.2.2.2.2.2.2.2.2.2.1 = nI g.2.2.1 → p_X5_isReader z x = some (bI false)) := by
  have q : (iH g).2.2.1 = nI g.2.2.1 := rfl
  rcases n_arg g.2.2.1 (by omega) x with ⟨k, h1, h2, h3⟩ | ⟨h1, h3⟩
  · refine Or.inl ⟨k, h1, h2, fun uC uT uI uM => ?_, fun z hz => by unfold p_X5_isReader; rw [hz, h3, gqb']⟩
    unfold p_X4_needReader
    rw [h2, q, L0, if_neg (mt (nI_ltI (by omega) (by omega)).mp (by omega)), if_pos ((nI_ltI (by omega) (by omega)).mpr h1)]
  · refine Or.inr ⟨fun uC uT uI uM => ?_, fun z hz => by unfold p_X5_isReader; rw [hz, h3, gqb']⟩
    unfold p_X4_needReader
    rcases h1 with h1 | ⟨h1, h2⟩
    · rw [if_pos h1]
    · rw [if_neg h1, q, if_neg h2]
theorem m_arg (M : tM) (hM : M.1 ≤ 4) (x : Int32) : (∃ k : Nat, k < M.1 ∧ x = nI k ∧ (∀ (uH : tX1) (uC uT : tX0) (uI : tX2), p_X4_needMirror uH uC uT uI (iM M) x = some (.inr ())) ∧ ∀ z : tX5, z.2.2.2.2.2.2.2.2.2.2.2.2.1 = nI M.1 → p_X5_isMirror z x = some (bI true)) ∨ ((∀ (uH : tX1) (uC uT : tX0) (uI : tX2), p_X4_needMirror uH uC uT uI (iM M) x = some (.inl xIOB)) ∧ ∀ z : tX5, z.2.2.2.2.2.2.2.2.2.2.2.2.1 = nI M.1 → p_X5_isMirror z x = some (bI false)) := by
  have q : (iM M).1 = nI M.1 := rfl
  rcases n_arg M.1 (by omega) x with ⟨k, h1, h2, h3⟩ | ⟨h1, h3⟩
  · refine Or.inl ⟨k, h1, h2, fun uH uC uT uI => ?_, fun z hz => by unfold p_X5_isMirror; rw [hz, h3, gqb']⟩
    unfold p_X4_needMirror
    rw [h2, q, L0, if_neg (mt (nI_ltI (by omega) (by omega)).mp (by omega)), if_pos ((nI_ltI (by omega) (by omega)).mpr h1)]
  · refine Or.inr ⟨fun uH uC uT uI => ?_, fun z hz => by unfold p_X5_isMirror; rw [hz, h3, gqb']⟩
    unfold p_X4_needMirror
    rcases h1 with h1 | ⟨h1, h2⟩
    · rw [if_pos h1]
    · rw [if_neg h1, q, if_neg h2]
theorem t_arg (x : Int32) : (∃ k : Nat, k < 8 ∧ x = nI k ∧ p_X4_isTopic x = some 1 ∧ p_X4_needTopic x = some (.inr ()) ∧ p_X5_isTopic x = some (bI true)) ∨ (p_X4_isTopic x = some 0 ∧ p_X4_needTopic x = some (.inl xIOB) ∧ p_X5_isTopic x = some (bI false)) := by
  have e8 : (8 : Int32) = nI 8 := L8
  have e : nI 8 - 1 = (7 : Int32) := by decide +kernel
  have one : ¬ (1 : Int32) = 0 := by decide +kernel
  rcases n_arg 8 (by omega) x with ⟨k, h1, h2, h3⟩ | ⟨h1, h3⟩
  · rw [e] at h3
    have ht : p_X4_isTopic x = some 1 := by
      unfold p_X4_isTopic
      rw [h2, L0, e8, if_neg (mt (nI_ltI (by omega) (by omega)).mp (by omega)), if_neg (mt (nI_leI (by omega) (by omega)).mp (by omega))]
    refine Or.inl ⟨k, h1, h2, ht, ?_, by unfold p_X5_isTopic; rw [h3, gqb']⟩
    unfold p_X4_needTopic
    rw [ht, bd_sm, if_neg one]
  · rw [e] at h3
    have ht : p_X4_isTopic x = some 0 := by
      unfold p_X4_isTopic
      rcases h1 with h1 | ⟨h1, h2⟩
      · rw [if_pos h1]
      · rw [if_neg h1, e8, if_pos (Int32.not_lt.mp h2)]
    refine Or.inr ⟨ht, ?_, by unfold p_X5_isTopic; rw [h3, gqb']⟩
    unfold p_X4_needTopic
    rw [ht, bd_sm, if_pos rfl]
/-- answers that agree -/
def ag (X : Option (String ⊕ Int32)) (Y : Option (Int32 × tX5)) (E : String) (z0 z1 : tX5) : Prop := (∃ v : Int32, X = some (.inr v) ∧ Y = some (v, z0)) ∨ (X = some (.inl E) ∧ ∃ v : Int32, Y = some (v, z1))
