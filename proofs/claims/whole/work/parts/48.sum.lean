/-! THE PURE PART: the checksum -/
def fd (d : Int64) (x : Int32) : Int64 := d * 31 + x.toInt64
theorem fold_fd (d : Int64) (x : Int32) : p_X4_fold d x = some (fd d x) := rfl
theorem bit_b (b : Bool) : p_X4_bit (bI b) = some (bI b) := by cases b <;> decide +kernel
section
variable {g : tG} {fb : Nat → Bool} {A : tA} {B : tB} {uI : tX2} {kp : Nat → Int32} {sd tw : Int32} {M : tM} {uT : tX0}
theorem d_isCalled (hR : iR g fb A B) {k : Nat} (hk : k < g.1) : p_X4_isCalled (iH g) (iC fb A) uT uI (iM M) (nI k) = some (.inr (bI (A.2.2.2.2.2.2.2.1 k))) := by
  have hg := hR.1.2
  unfold p_X4_isCalled
  rw [bT_r (c_need hk hg), gd_nI _ (by omega) (by omega), nI_cl (by omega)]
  exact gq_bI _ _
theorem d_paragraphs (hR : iR g fb A B) {k : Nat} (hk : k < g.1) : p_X4_paragraphs (iH g) (iC fb A) uT uI (iM M) (nI k) = some (.inr (nI (g.2.2.2.1 k))) := by
  have hg := hR.1.2
  unfold p_X4_paragraphs
  rw [bT_r (c_need hk hg), gd_nI _ (by omega) (by omega), nI_cl (by omega)]
  rfl
theorem d_cutOn (hR : iR g fb A B) {k : Nat} (hk : k < g.1) : p_X4_cutOn (iH g) (iC fb A) uT uI (iM M) (nI k) = some (.inr (nI (A.2.2.2.2.2.2.2.2.2.1 k))) := by
  have hg := hR.1.2
  unfold p_X4_cutOn
  rw [bT_r (c_need hk hg), gd_nI _ (by omega) (by omega), nI_cl (by omega)]
  rfl
theorem d_needT {k : Nat} (hk : k < 8) : p_X4_needTopic (nI k) = some (.inr ()) := by
  unfold p_X4_needTopic p_X4_isTopic
  rw [L0, L8, if_neg (mt (nI_ltI (by omega) (by omega)).mp (by omega)), if_neg (mt (nI_leI (by omega) (by omega)).mp (by omega)), bd_sm, if_neg (by decide +kernel)]
theorem d_isForbidden {k : Nat} (hk : k < 8) : p_X4_isForbidden (iH g) (iC fb A) uT uI (iM M) (nI k) = some (.inr (bI (fb k))) := by
  unfold p_X4_isForbidden
  rw [bT_r (d_needT hk), gd_nI _ (by omega) (by omega), nI_cl (by omega)]
  exact gq_bI _ _
theorem d_needI (hU : uR B uI) (hB : B.1 ≤ 108) {k : Nat} (hk : k < B.1) : p_X4_needInstalment (iH g) (iC fb A) uT uI (iM M) (nI k) = some (.inr ()) := by
  unfold p_X4_needInstalment
  rw [hU.1, L0, if_neg (mt (nI_ltI (by omega) (by omega)).mp (by omega)), if_pos ((nI_ltI (by omega) (by omega)).mpr hk)]
theorem d_floorIn (hU : uR B uI) (hB : B.1 ≤ 108) {k : Nat} (hk : k < B.1) : p_X4_floorIn (iH g) (iC fb A) uT uI (iM M) (nI k) = some (.inr (nI (B.2.1 k / 9))) := by
  unfold p_X4_floorIn
  rw [bT_r (d_needI hU hB hk), gd_nI _ (by omega) (by omega), nI_cl (by omega), (hU.2 k hk).1]
theorem d_paragraphIn (hU : uR B uI) (hB : B.1 ≤ 108) {k : Nat} (hk : k < B.1) : p_X4_paragraphIn (iH g) (iC fb A) uT uI (iM M) (nI k) = some (.inr (nI (B.2.1 k % 9))) := by
  unfold p_X4_paragraphIn
  rw [bT_r (d_needI hU hB hk), gd_nI _ (by omega) (by omega), nI_cl (by omega), (hU.2 k hk).2.1]
theorem d_thrillIn (hU : uR B uI) (hB : B.1 ≤ 108) {k : Nat} (hk : k < B.1) : p_X4_thrillIn (iH g) (iC fb A) uT uI (iM M) (nI k) = some (.inr (B.2.2.1 k)) := by
  unfold p_X4_thrillIn
  rw [bT_r (d_needI hU hB hk), gd_nI _ (by omega) (by omega), nI_cl (by omega), (hU.2 k hk).2.2.1]
theorem d_hourIn (hU : uR B uI) (hB : B.1 ≤ 108) {k : Nat} (hk : k < B.1) : p_X4_hourIn (iH g) (iC fb A) uT uI (iM M) (nI k) = some (.inr (B.2.2.2 k)) := by
  unfold p_X4_hourIn
  rw [bT_r (d_needI hU hB hk), gd_nI _ (by omega) (by omega), nI_cl (by omega), (hU.2 k hk).2.2.2]
theorem d_needR (hR : iR g fb A B) {k : Nat} (hk : k < g.2.2.1) (uC uT : tX0) (uI : tX2) (uM : tX3) : p_X4_needReader (iH g) uC uT uI uM (nI k) = some (.inr ()) := by
  have h8 := hR.2.2.1
  unfold p_X4_needReader
  rw [show (iH g).2.2.1 = nI g.2.2.1 from rfl, L0, if_neg (mt (nI_ltI (by omega) (by omega)).mp (by omega)), if_pos ((nI_ltI (by omega) (by omega)).mpr hk)]
theorem d_isSub (hR : iR g fb A B) {k : Nat} (hk : k < g.2.2.1) : p_X4_isSubscriber (iH g) (iC fb A) uT uI (iM M) (nI k) = some (.inr (bI (A.2.2.2.2.2.2.2.2.2.2.2 k))) := by
  have h8 := hR.2.2.1
  unfold p_X4_isSubscriber
  rw [bT_r (d_needR hR hk _ _ _ _), gd_nI _ (by omega) (by omega), nI_cl (by omega)]
  exact gq_bI _ _
theorem d_needM (hM : oM4 M) {k : Nat} (hk : k < M.1) (uH : tX1) (uC uT : tX0) (uI : tX2) : p_X4_needMirror uH uC uT uI (iM M) (nI k) = some (.inr ()) := by
  have h4 := hM.1
  unfold p_X4_needMirror
  rw [show (iM M).1 = nI M.1 from rfl, L0, if_neg (mt (nI_ltI (by omega) (by omega)).mp (by omega)), if_pos ((nI_ltI (by omega) (by omega)).mpr hk)]
/-- mirrors -/
theorem g_mirrors (hR : iR g fb A B) (hU : uR B uI) (hM : oM4 M) : ∀ (n i : Nat) (d : Int64) (fuel fuel2 : Nat), i + n = M.1 → n < fuel → n < fuel2 → ∃ d' : Int64, p_X4_foldMirrors_L5 fuel (iH g) (iC fb A) uT uI (iM M) d (nI i) = some d' ∧ p_X5_digest_L600 fuel2 (iL g fb A B kp sd tw M) d (nI i) = some (d', (iL g fb A B kp sd tw M)) := by
  have h4 := hM.1
  have q1 : (iM M).1 = nI M.1 := rfl
  have q2 : (iL g fb A B kp sd tw M).2.2.2.2.2.2.2.2.2.2.2.2.1 = nI M.1 := rfl
  intro n
  induction n with
  | zero =>
    intro i d fuel fuel2 hi h1 h2
    obtain ⟨f, rfl⟩ : ∃ f, fuel = f + 1 := ⟨fuel - 1, by omega⟩
    obtain ⟨f2, rfl⟩ : ∃ f2, fuel2 = f2 + 1 := ⟨fuel2 - 1, by omega⟩
    refine ⟨d, ?_, ?_⟩
    · rw [p_X4_foldMirrors_L5, q1, L_if (by omega) (by omega)]
    · rw [p_X5_digest_L600, q2, L_if (by omega) (by omega)]
  | succ n ih =>
    intro i d fuel fuel2 hi h1 h2
    obtain ⟨f, rfl⟩ : ∃ f, fuel = f + 1 := ⟨fuel - 1, by omega⟩
    obtain ⟨f2, rfl⟩ : ∃ f2, fuel2 = f2 + 1 := ⟨fuel2 - 1, by omega⟩
    obtain ⟨s, s1, s2, s3⟩ := j_sum (kp := kp) (sd := sd) (tw := tw) (uC := iC fb A) (uT := uT) hR hU hM (show i < M.1 by omega)
    obtain ⟨v, v2, v3⟩ := j_fav (kp := kp) (sd := sd) (tw := tw) (uC := iC fb A) (uT := uT) hR hU hM (show i < M.1 by omega)
    have e1 : p_X4_gradesBy (iH g) (iC fb A) uT uI (iM M) (nI i) = some (.inr (nI s)) := by
      unfold p_X4_gradesBy
      rw [bT_r (d_needM hM (by omega) _ _ _ _), s2, bd_sm]
    obtain ⟨d', k1, k2⟩ := ih (i + 1) (fd (fd d (nI s)) v) f f2 (by omega) (by omega) (by omega)
    refine ⟨d', ?_, ?_⟩
    · rw [p_X4_foldMirrors_L5, q1, L_ifn (by omega) (by omega), bN_r e1, fold_fd, bd_sm, bN_r v2, fold_fd, bd_sm, L1, nI_add]
      exact k1
    · rw [p_X5_digest_L600, q2, L_ifn (by omega) (by omega), s3, bd_sm, v3, bd_sm, L1, nI_add]
      exact k2
/-- readers -/
theorem g_readers (hR : iR g fb A B) : ∀ (n i : Nat) (d : Int64) (fuel fuel2 : Nat), i + n = g.2.2.1 → n < fuel → n < fuel2 → ∃ d' : Int64, p_X4_foldReaders_L5 fuel (iH g) (iC fb A) uT uI (iM M) d (nI i) = some d' ∧ p_X5_digest_L546 fuel2 (iL g fb A B kp sd tw M) d (nI i) = p_X5_digest_L600 200 (iL g fb A B kp sd tw M) d' (nI 0) := by
  have h8 := hR.2.2.1
  have q1 : (iH g).2.2.1 = nI g.2.2.1 := rfl
  have q2 : (iL g fb A B kp sd tw M).2.2.2.2.2.2.2.2.2.2.1 = nI g.2.2.1 := rfl
  intro n
  induction n with
  | zero =>
    intro i d fuel fuel2 hi h1 h2
    obtain ⟨f, rfl⟩ : ∃ f, fuel = f + 1 := ⟨fuel - 1, by omega⟩
    obtain ⟨f2, rfl⟩ : ∃ f2, fuel2 = f2 + 1 := ⟨fuel2 - 1, by omega⟩
    refine ⟨d, ?_, ?_⟩
    · rw [p_X4_foldReaders_L5, q1, L_if (by omega) (by omega)]
    · rw [p_X5_digest_L546, q2, L_if (by omega) (by omega), L0]
  | succ n ih =>
    intro i d fuel fuel2 hi h1 h2
    obtain ⟨f, rfl⟩ : ∃ f, fuel = f + 1 := ⟨fuel - 1, by omega⟩
    obtain ⟨f2, rfl⟩ : ∃ f2, fuel2 = f2 + 1 := ⟨fuel2 - 1, by omega⟩
    obtain ⟨d', k1, k2⟩ := ih (i + 1) (fd (fd d (if A.2.2.2.2.2.2.2.2.2.2.2 i = true then nI (A.2.2.2.2.2.2.2.2.2.2.1 i) else nI 0)) (bI (A.2.2.2.2.2.2.2.2.2.2.2 i))) f f2 (by omega) (by omega) (by omega)
    refine ⟨d', ?_, ?_⟩
    · rw [p_X4_foldReaders_L5, q1, L_ifn (by omega) (by omega), bN_r (d_warm hR (by omega) (d_needR hR (by omega))), fold_fd, bd_sm, bN_r (d_isSub hR (by omega)), bit_b, bd_sm, fold_fd, bd_sm, L1, nI_add]
      exact k1
    · rw [p_X5_digest_L546, q2, L_ifn (by omega) (by omega), c_warm (by omega), bd_sm, c_reads (g := A.2.2.2.2.2.2.2.2.2.2.2) (by rfl) (by omega), bd_sm]
      unfold p_X5_digest_J588
      rw [L1, nI_add]
      refine Eq.trans ?_ k2
      cases A.2.2.2.2.2.2.2.2.2.2.2 i
      · rw [if_pos (bI_eq rfl)]
        rfl
      · rw [if_neg (bI_ne rfl), ← L1]
        rfl
/-- instalments -/
theorem g_told (hR : iR g fb A B) (hU : uR B uI) : ∀ (n i : Nat) (d : Int64) (fuel fuel2 : Nat), i + n = B.1 → n < fuel → n < fuel2 → ∃ d' : Int64, p_X4_foldInstalments_L5 fuel (iH g) (iC fb A) uT uI (iM M) d (nI i) = some d' ∧ p_X5_digest_L459 fuel2 (iL g fb A B kp sd tw M) d (nI i) = p_X5_digest_L546 200 (iL g fb A B kp sd tw M) d' (nI 0) := by
  have hB := R_mnB hR
  have q2 : (iL g fb A B kp sd tw M).1 8 = nI B.1 := rfl
  have q3 : (iL g fb A B kp sd tw M).2.2.2.2.2.2.2.2.2.2.2.2.2.2.2.1 = nF B.2.1 := rfl
  have q4 : (iL g fb A B kp sd tw M).2.2.2.2.2.2.2.2.2.2.2.2.2.2.2.2.1 = B.2.2.1 := rfl
  have q5 : (iL g fb A B kp sd tw M).2.2.2.2.2.2.2.2.2.2.2.2.2.2.2.2.2 = B.2.2.2 := rfl
  intro n
  induction n with
  | zero =>
    intro i d fuel fuel2 hi h1 h2
    obtain ⟨f, rfl⟩ : ∃ f, fuel = f + 1 := ⟨fuel - 1, by omega⟩
    obtain ⟨f2, rfl⟩ : ∃ f2, fuel2 = f2 + 1 := ⟨fuel2 - 1, by omega⟩
    refine ⟨d, ?_, ?_⟩
    · rw [p_X4_foldInstalments_L5, hU.1, L_if (by omega) (by omega)]
    · rw [p_X5_digest_L459, q2, L_if (by omega) (by omega), L0]
  | succ n ih =>
    intro i d fuel fuel2 hi h1 h2
    obtain ⟨f, rfl⟩ : ∃ f, fuel = f + 1 := ⟨fuel - 1, by omega⟩
    obtain ⟨f2, rfl⟩ : ∃ f2, fuel2 = f2 + 1 := ⟨fuel2 - 1, by omega⟩
    have hk : i < B.1 := by omega
    have ht := (hR.2.2.2.2.2.2.2.2.2.2.2.2.2.2.2.2.2.2.2.2.2.2 i hk).1
    obtain ⟨d', k1, k2⟩ := ih (i + 1) (fd (fd (fd (fd d (nI (B.2.1 i / 9))) (nI (B.2.1 i % 9))) (B.2.2.1 i)) (B.2.2.2 i)) f f2 (by omega) (by omega) (by omega)
    refine ⟨d', ?_, ?_⟩
    · rw [p_X4_foldInstalments_L5, hU.1, L_ifn (by omega) (by omega), bN_r (d_floorIn hU hB hk), fold_fd, bd_sm, bN_r (d_paragraphIn hU hB hk), fold_fd, bd_sm, bN_r (d_thrillIn hU hB hk), fold_fd, bd_sm, bN_r (d_hourIn hU hB hk), fold_fd, bd_sm, L1, nI_add]
      exact k1
    · rw [p_X5_digest_L459, q2, q3, q4, q5, L_ifn (by omega) (by omega), gd_nI _ (by omega) (by omega), nI_cl (by omega), nF_app, L9, nI_div (by omega) (by omega), nI_mul, nI_sub (by omega), show B.2.1 i - B.2.1 i / 9 * 9 = B.2.1 i % 9 by omega, L1, nI_add]
      exact k2
/-- topics -/
theorem g_topics (hR : iR g fb A B) : ∀ (n i : Nat) (d : Int64) (fuel fuel2 : Nat), i + n = 8 → n < fuel → n < fuel2 → ∃ d' : Int64, p_X4_foldTopics_L5 fuel (iH g) (iC fb A) uT uI (iM M) d (nI i) = some d' ∧ p_X5_digest_L404 fuel2 (iL g fb A B kp sd tw M) d (nI i) = p_X5_digest_L459 200 (iL g fb A B kp sd tw M) d' (nI 0) := by
  intro n
  induction n with
  | zero =>
    intro i d fuel fuel2 hi h1 h2
    obtain ⟨f, rfl⟩ : ∃ f, fuel = f + 1 := ⟨fuel - 1, by omega⟩
    obtain ⟨f2, rfl⟩ : ∃ f2, fuel2 = f2 + 1 := ⟨fuel2 - 1, by omega⟩
    refine ⟨d, ?_, ?_⟩
    · rw [p_X4_foldTopics_L5, L8, L_if (by omega) (by omega)]
    · rw [p_X5_digest_L404, L8, L_if (by omega) (by omega), L0]
  | succ n ih =>
    intro i d fuel fuel2 hi h1 h2
    obtain ⟨f, rfl⟩ : ∃ f, fuel = f + 1 := ⟨fuel - 1, by omega⟩
    obtain ⟨f2, rfl⟩ : ∃ f2, fuel2 = f2 + 1 := ⟨fuel2 - 1, by omega⟩
    obtain ⟨v, v1, v2⟩ := j_come (t := nI i) (kp := kp) (sd := sd) (tw := tw) (M := M) hR
    have e1 : p_X4_toCome (iH g) (iC fb A) uT uI (iM M) (nI i) = some (.inr v) := by
      unfold p_X4_toCome
      rw [bT_r (d_needT (by omega)), v1, bd_sm]
    obtain ⟨d', k1, k2⟩ := ih (i + 1) (fd (fd d (bI (fb i))) v) f f2 (by omega) (by omega) (by omega)
    refine ⟨d', ?_, ?_⟩
    · rw [p_X4_foldTopics_L5, L8, L_ifn (by omega) (by omega), bN_r (d_isForbidden (by omega)), bit_b, bd_sm, fold_fd, bd_sm, bN_r e1, fold_fd, bd_sm, L1, nI_add]
      exact k1
    · rw [p_X5_digest_L404, L8, L_ifn (by omega) (by omega), show (iL g fb A B kp sd tw M).2.2.2.2.2.2.1 = mI fb 8 from rfl, has8 (by omega), bd_sm]
      unfold p_X5_digest_J433
      rw [v2, L1, nI_add]
      refine Eq.trans ?_ k2
      cases fb i
      · rw [if_pos (bI_eq rfl), bd_sm]
        rfl
      · rw [if_neg (bI_ne rfl), bd_sm, ← L1]
        rfl
theorem g_five (rec0 : tX5 → Int64 → Int32 → Option (Int64 × tX5)) (z : tX5) (f : Nat → Int32) (d : Int64) (k : Int32) (m : Nat) : p_X5_digest_L365 rec0 (m + 1 + 1 + 1 + 1 + 1 + 1) z f d k (nI 5) (nI 0) = rec0 z (fd (fd (fd (fd (fd d (f 0)) (f 1)) (f 2)) (f 3)) (f 4)) (k + 1) := by
  rw [p_X5_digest_L365, L_ifn (by omega) (by omega), gd_nI _ (by omega) (by omega), nI_cl (by omega), nI_1]
  rw [p_X5_digest_L365, L_ifn (by omega) (by omega), gd_nI _ (by omega) (by omega), nI_cl (by omega), nI_1]
  rw [p_X5_digest_L365, L_ifn (by omega) (by omega), gd_nI _ (by omega) (by omega), nI_cl (by omega), nI_1]
  rw [p_X5_digest_L365, L_ifn (by omega) (by omega), gd_nI _ (by omega) (by omega), nI_cl (by omega), nI_1]
  rw [p_X5_digest_L365, L_ifn (by omega) (by omega), gd_nI _ (by omega) (by omega), nI_cl (by omega), nI_1]
  rw [p_X5_digest_L365, L_if (by omega) (by omega)]
  rfl
end
/-- floors -/
theorem g_floors {g : tG} {fb : Nat → Bool} {A : tA} {M : tM} (uI : tX2) (hh : A.1 < 900000) : ∀ (n i : Nat) (d : Int64) (uT : tX0) (B : tB) (kp : Nat → Int32) (sd : Int32) (fuel fuel2 : Nat), iR g fb A B → zT uT → i + n = g.1 → n < fuel → n < fuel2 → ∃ (d' : Int64) (uT' : tX0) (B' : tB) (kp' : Nat → Int32) (sd' : Int32), p_X4_foldFloors_L5 fuel (iH g) (iC fb A) uT uI (iM M) d (nI i) = some (d', uT') ∧ p_X5_digest_L275 fuel2 (iL g fb A B kp sd 0 M) d (nI i) = p_X5_digest_L404 200 (iL g fb A B' kp' sd' 0 M) d' (nI 0) ∧ zT uT' ∧ eR B B' := by
  intro n
  induction n with
  | zero =>
    intro i d uT B kp sd fuel fuel2 hR hT hi h1 h2
    have hg := hR.1.2
    obtain ⟨f, rfl⟩ : ∃ f, fuel = f + 1 := ⟨fuel - 1, by omega⟩
    obtain ⟨f2, rfl⟩ : ∃ f2, fuel2 = f2 + 1 := ⟨fuel2 - 1, by omega⟩
    refine ⟨d, uT, B, kp, sd, ?_, ?_, hT, eR_rf B⟩
    · rw [p_X4_foldFloors_L5, show (iH g).1 = nI g.1 from rfl, L_if (by omega) (by omega)]
    · rw [p_X5_digest_L275, show (iL g fb A B kp sd 0 M).2.2.2.2.1 = nI g.1 from rfl, L_if (by omega) (by omega), L0]
  | succ n ih =>
    intro i d uT B kp sd fuel fuel2 hR hT hi h1 h2
    have hg := hR.1.2
    obtain ⟨f, rfl⟩ : ∃ f, fuel = f + 1 := ⟨fuel - 1, by omega⟩
    obtain ⟨f2, rfl⟩ : ∃ f2, fuel2 = f2 + 1 := ⟨fuel2 - 1, by omega⟩
    have hk : i < g.1 := by omega
    obtain ⟨v, uT1, B1, e1, e2, e3, e4⟩ := q_stop uI (iM M) hR hh hk hT
    obtain ⟨kp1, sd1, e5⟩ := e4 kp sd 0 M
    obtain ⟨d', uT', B', kp', sd', k1, k2, k3, k4⟩ := ih (i + 1) (fd (fd (fd (fd (fd d (bI (A.2.2.2.2.2.2.2.1 i))) (nI (g.2.2.2.1 i))) (if A.2.2.2.2.2.2.2.2.1 i = g.2.2.2.1 i then m1 else nI (A.2.2.2.2.2.2.2.2.1 i))) (nI (A.2.2.2.2.2.2.2.2.2.1 i))) v) uT1 B1 kp1 sd1 f f2 (R_e hR e3) e2 (by omega) (by omega) (by omega)
    refine ⟨d', uT', B', kp', sd', ?_, ?_, k3, eR_tr e3 k4⟩
    · rw [p_X4_foldFloors_L5, show (iH g).1 = nI g.1 from rfl, L_ifn (by omega) (by omega), bN_r (d_isCalled hR hk), bit_b, bd_sm, fold_fd, bd_sm, bN_r (d_paragraphs hR hk), fold_fd, bd_sm, bN_r (d_next hR hk), fold_fd, bd_sm, bN_r (d_cutOn hR hk), fold_fd, bd_sm, bN_r e1, fold_fd, bd_sm, L1, nI_add]
      exact k1
    · have five := fun (rec0 : tX5 → Int64 → Int32 → Option (Int64 × tX5)) (z : tX5) (f : Nat → Int32) (d : Int64) (k : Int32) => g_five rec0 z f d k 194
      have five : ∀ (rec0 : tX5 → Int64 → Int32 → Option (Int64 × tX5)) (z : tX5) (f : Nat → Int32) (d : Int64) (k : Int32), p_X5_digest_L365 rec0 200 z f d k (nI 5) (nI 0) = rec0 z (fd (fd (fd (fd (fd d (f 0)) (f 1)) (f 2)) (f 3)) (f 4)) (k + 1) := five
      rw [p_X5_digest_L275, show (iL g fb A B kp sd 0 M).2.2.2.2.1 = nI g.1 from rfl, L_ifn (by omega) (by omega), cL_has6 (cl := A.2.2.2.2.2.2.2.1) (by rfl) (by omega), bd_sm]
      unfold p_X5_digest_J309
      have r1 : gd ((21 : Int32) + nI i) 41 = fun (k : Option (Int64 × tX5)) => k := by
        funext k
        rw [L21, nI_add, gd_nI _ (by omega) (by omega)]
      have r2 : (iL g fb A B kp sd 0 M).1 ((21 : Int32) + nI i).toNatClampNeg = nI (A.2.2.2.2.2.2.2.2.2.1 i) := by
        rw [L21, nI_add, nI_cl (by omega)]
        exact mkN_c (by omega)
      have r3 : (iL g fb A B kp sd 0 M).2.2.2.2.2.2.2.1 (nI i).toNatClampNeg = nI (g.2.2.2.1 i) := by
        rw [nI_cl (by omega)]
        rfl
      have r4 : (5 : Int32) = nI 5 := L5
      rw [c_next hR hk, e5, r1, r2, r3, r4, gd_nI _ (show i < 12 by omega) (by omega), gd_nI _ (show i < 12 by omega) (by omega), bd_sm, bd_sm, bd_sm, bd_sm]
      refine Eq.trans ?_ k2
      cases A.2.2.2.2.2.2.2.1 i
      · rw [if_pos (bI_eq rfl), L0, five, nI_1]
        rfl
      · rw [if_neg (bI_ne rfl), L0, five, nI_1]
        rfl
def foldN (f : Nat → Int32) : Nat → Nat → Int64 → Int64
  | _, 0, d => d
  | i, n + 1, d => foldN f (i + 1) n (fd d (f i))
theorem g_22 (z : tX5) (f : Nat → Int32) : ∀ (n i : Nat) (d : Int64) (fuel : Nat), i + n = 22 → n < fuel → p_X5_digest_L242 fuel z f d (nI 22) (nI i) = p_X5_digest_L275 13 z (foldN f i n d) (nI 0) := by
  intro n
  induction n with
  | zero =>
    intro i d fuel hi hf
    obtain ⟨f1, rfl⟩ : ∃ f1, fuel = f1 + 1 := ⟨fuel - 1, by omega⟩
    rw [p_X5_digest_L242, L_if (by omega) (by omega), L0]
    rfl
  | succ n ih =>
    intro i d fuel hi hf
    obtain ⟨f1, rfl⟩ : ∃ f1, fuel = f1 + 1 := ⟨fuel - 1, by omega⟩
    rw [p_X5_digest_L242, L_ifn (by omega) (by omega), gd_nI _ (by omega) (by omega), nI_cl (by omega), nI_1]
    exact ih (i + 1) (fd d (f i)) f1 (by omega) (by omega)
theorem fold_22 (x0 x1 x2 x3 x4 x5 x6 x7 x8 x9 x10 x11 x12 x13 x14 x15 x16 x17 x18 x19 x20 x21 : Int32) : foldN (upd (upd (upd (upd (upd (upd (upd (upd (upd (upd (upd (upd (upd (upd (upd (upd (upd (upd (upd (upd (upd (upd (fun _ => (0 : Int32)) 0 x0) 1 x1) 2 x2) 3 x3) 4 x4) 5 x5) 6 x6) 7 x7) 8 x8) 9 x9) 10 x10) 11 x11) 12 x12) 13 x13) 14 x14) 15 x15) 16 x16) 17 x17) 18 x18) 19 x19) 20 x20) 21 x21) 0 22 2293 = (fd (fd (fd (fd (fd (fd (fd (fd (fd (fd (fd (fd (fd (fd (fd (fd (fd (fd (fd (fd (fd (fd (2293 : Int64) x0) x1) x2) x3) x4) x5) x6) x7) x8) x9) x10) x11) x12) x13) x14) x15) x16) x17) x18) x19) x20) x21) := rfl
section
variable {g : tG} {fb : Nat → Bool} {A : tA} {B : tB} {uI : tX2} {kp : Nat → Int32} {sd tw : Int32} {M : tM} {uT : tX0}
theorem fold_lift {x0 x1 x2 x3 x4 x5 x6 x7 x8 x9 x10 x11 x12 x13 x14 x15 x16 : Int32} (h0 : p_X4_floors (iH g) (iC fb A) uT uI (iM M) = some x0) (h1 : p_X4_hours (iH g) (iC fb A) uT uI (iM M) = some x1) (h2 : p_X4_liftAt (iH g) (iC fb A) uT uI (iM M) = some x2) (h3 : p_X4_goes (iH g) (iC fb A) uT uI (iM M) = some x3) (h4 : p_X4_calls (iH g) (iC fb A) uT uI (iM M) = some x4) (h5 : p_X4_stuckFor (iH g) (iC fb A) uT uI (iM M) = some x5) (h6 : p_X4_wear (iH g) (iC fb A) uT uI (iM M) = some x6) (h7 : p_X4_limit (iH g) (iC fb A) uT uI (iM M) = some x7) (h8 : p_X4_suspense (iH g) (iC fb A) uT uI (iM M) = some x8) (h9 : p_X4_cuts (iH g) (iC fb A) uT uI (iM M) = some x9) (h10 : p_X4_instalments (iH g) (iC fb A) uT uI (iM M) = some x10) (h11 : p_X4_mostThrilling (iH g) (iC fb A) uT uI (iM M) = some x11) (h12 : p_X4_longestWait (iH g) (iC fb A) uT uI (iM M) = some x12) (h13 : p_X4_climbs (iH g) (iC fb A) uT uI (iM M) = some x13) (h14 : p_X4_subscribers (iH g) (iC fb A) uT uI (iM M) = some x14) (h15 : p_X4_warmest (iH g) (iC fb A) uT uI (iM M) = some x15) (h16 : p_X4_kindest (iH g) (iC fb A) uT uI (iM M) = some x16) : p_X4_foldLift (iH g) (iC fb A) uT uI (iM M) (2293 : Int64) = some (fd (fd (fd (fd (fd (fd (fd (fd (fd (fd (fd (fd (fd (fd (fd (fd (fd (2293 : Int64) x0) x1) x2) x3) x4) x5) x6) x7) x8) x9) x10) x11) x12) x13) x14) x15) x16) := by
  unfold p_X4_foldLift
  rw [h0, bd_sm, fold_fd, bd_sm, h1, bd_sm, fold_fd, bd_sm, h2, bd_sm, fold_fd, bd_sm, h3, bd_sm, fold_fd, bd_sm, h4, bd_sm, fold_fd, bd_sm, h5, bd_sm, fold_fd, bd_sm, h6, bd_sm, fold_fd, bd_sm, h7, bd_sm, fold_fd, bd_sm, h8, bd_sm, fold_fd, bd_sm, h9, bd_sm, fold_fd, bd_sm, h10, bd_sm, fold_fd, bd_sm, h11, bd_sm, fold_fd, bd_sm, h12, bd_sm, fold_fd, bd_sm, h13, bd_sm, fold_fd, bd_sm, h14, bd_sm, fold_fd, bd_sm, h15, bd_sm, fold_fd, bd_sm, h16, bd_sm, fold_fd, bd_sm]
theorem g_digest (hR : iR g fb A B) (hU : uR B uI) (hM : oM4 M) (hh : A.1 < 900000) (hT : zT uT) : ∃ (d : Int64) (uT' : tX0) (B' : tB) (kp' : Nat → Int32) (sd' : Int32), p_X4_digest (iH g) (iC fb A) uT uI (iM M) = some (d, uT') ∧ p_X5_digest (iL g fb A B kp sd tw M) = some (d, iL g fb A B' kp' sd' 0 M) ∧ zT uT' ∧ eR B B' := by
  have hB := R_mnB hR
  have hg := hR.1.2
  obtain ⟨x11, a11, b11⟩ := j_most (g := g) (fb := fb) (A := A) (kp := kp) (sd := sd) (tw := 0) (M := M) hU hB
  obtain ⟨x12, a12, b12⟩ := j_wait (g := g) (fb := fb) (A := A) (kp := kp) (sd := sd) (tw := 0) (M := M) hU hB
  obtain ⟨x13, a13, b13⟩ := j_climb (g := g) (fb := fb) (A := A) (kp := kp) (sd := sd) (tw := 0) (M := M) hU hB (fun i hi => (hR.2.2.2.2.2.2.2.2.2.2.2.2.2.2.2.2.2.2.2.2.2.2 i hi).1)
  obtain ⟨x15, a15, b15⟩ := j_warm (kp := kp) (sd := sd) (tw := 0) (M := M) hR
  obtain ⟨x16, a16, b16⟩ := j_kind (kp := kp) (sd := sd) (tw := 0) (uC := iC fb A) (uT := uT) hR hU hM
  obtain ⟨x17, uT1, B1, c1, c2, c3, c4⟩ := q_stuck uI (iM M) hR hh hT
  obtain ⟨kp1, sd1, c5⟩ := c4 kp sd 0 M
  obtain ⟨p18, uT2, B2, d1, d2, d3, d4⟩ := q_printed (N := 20) uI (iM M) (R_e hR c3) hh (by omega) (by omega) c2
  obtain ⟨kp2, sd2, d5⟩ := d4 kp1 sd1 0 M
  have R2 := R_e (R_e hR c3) d3
  obtain ⟨x19, uT3, B3, e1, e2, e3, e4⟩ := q_subs (N := 20) uI (iM M) R2 hh (by omega) (by omega) d2
  obtain ⟨kp3, sd3, e5⟩ := e4 kp2 sd2 0 M
  have R3 := R_e R2 e3
  obtain ⟨x20, uT4, B4, f1, f2, f3, f4⟩ := q_call (N := 10) uI (iM M) R3 hh (by omega) (by omega) e2
  obtain ⟨kp4, sd4, f5⟩ := f4 kp3 sd3 0 M
  have R4 := R_e R3 f3
  obtain ⟨x21, uT5, B5, g1, g2, g3, g4⟩ := q_allow (N := 10) uI (iM M) R4 hh (by omega) (by omega) f2
  obtain ⟨kp5, sd5, g5⟩ := g4 kp4 sd4 0 M
  have R5 := R_e R4 g3
  have hE5 : eR B B5 := eR_tr (eR_tr (eR_tr (eR_tr c3 d3) e3) f3) g3
  have l20 : (20 : Int32) = nI 20 := L20
  have l10 : (10 : Int32) = nI 10 := L10
  have hL := fold_lift (uT := uT) (uI := uI) (g := g) (fb := fb) (A := A) (M := M) (x0 := nI g.1) (x1 := nI A.1) (x2 := nI A.2.1) (x3 := A.2.2.1) (x4 := nI (cnt A.2.2.2.2.2.2.2.1 12)) (x5 := nI A.2.2.2.1) (x6 := nI A.2.2.2.2.1) (x7 := nI g.2.1) (x8 := nI A.2.2.2.2.2.1) (x9 := nI (sm A.2.2.2.2.2.2.2.2.2.1 12)) (x10 := nI B.1) (x11 := x11) (x12 := x12) (x13 := x13) (x14 := nI (cnt A.2.2.2.2.2.2.2.2.2.2.2 8)) (x15 := x15) (x16 := x16) rfl rfl rfl rfl (by unfold p_X4_calls iC; rw [cC_called, bd_sm]) rfl rfl rfl rfl (by unfold p_X4_cuts; rw [c_cut hR, bd_sm]) (by unfold p_X4_instalments; rw [hU.1]) (by unfold p_X4_mostThrilling; rw [a11, bd_sm]) (by unfold p_X4_longestWait; rw [a12, bd_sm]) (by unfold p_X4_climbs; rw [a13, bd_sm]) (by unfold p_X4_subscribers; rw [c_subs hR, bd_sm]) (by unfold p_X4_warmest; rw [a15, bd_sm]) a16
  generalize hd0 : (fd (fd (fd (fd (fd (fd (fd (fd (fd (fd (fd (fd (fd (fd (fd (fd (fd (2293 : Int64) (nI g.1)) (nI A.1)) (nI A.2.1)) A.2.2.1) (nI (cnt A.2.2.2.2.2.2.2.1 12))) (nI A.2.2.2.1)) (nI A.2.2.2.2.1)) (nI g.2.1)) (nI A.2.2.2.2.2.1)) (nI (sm A.2.2.2.2.2.2.2.2.2.1 12))) (nI B.1)) x11) x12) x13) (nI (cnt A.2.2.2.2.2.2.2.2.2.2.2 8))) x15) x16) = d0 at hL
  have hF : p_X4_foldForesight (iH g) (iC fb A) uT uI (iM M) d0 = some (fd (fd (fd (fd (fd d0 x17) (nI p18)) x19) x20) x21, uT5) := by
    unfold p_X4_foldForesight
    rw [c1, bd_sm, fold_fd, bd_sm, l20, l10, bN_r d1, fold_fd, bd_sm, bN_r e1, fold_fd, bd_sm, bN_r f1, fold_fd, bd_sm, bN_r g1, fold_fd, bd_sm]
  obtain ⟨d6, uT6, B6, kp6, sd6, h1, h2, h3, h4⟩ := g_floors (M := M) uI hh g.1 0 (fd (fd (fd (fd (fd d0 x17) (nI p18)) x19) x20) x21) uT5 B5 kp5 sd5 13 13 R5 g2 (by omega) (by omega) (by omega)
  have R6 := R_e R5 h4
  have hE6 := eR_tr hE5 h4
  have U6 := U_e hU hE6
  have hB6 := R_mnB R6
  obtain ⟨d7, i1, i2⟩ := g_topics (uT := uT6) (uI := uI) (kp := kp6) (sd := sd6) (tw := 0) (M := M) R6 8 0 d6 9 200 (by omega) (by omega) (by omega)
  obtain ⟨d8, j1, j2⟩ := g_told (uT := uT6) (kp := kp6) (sd := sd6) (tw := 0) (M := M) R6 U6 B6.1 0 d7 109 200 (by omega) (by omega) (by omega)
  have h8 := hR.2.2.1
  obtain ⟨d9, k1, k2⟩ := g_readers (uT := uT6) (uI := uI) (kp := kp6) (sd := sd6) (tw := 0) (M := M) R6 g.2.2.1 0 d8 9 200 (by omega) (by omega) (by omega)
  have hm4 := hM.1
  obtain ⟨dA, m1', m2'⟩ := g_mirrors (uT := uT6) (kp := kp6) (sd := sd6) (tw := 0) R6 U6 hM M.1 0 d9 5 200 (by omega) (by omega) (by omega)
  refine ⟨dA, uT6, B6, kp6, sd6, ?_, ?_, h3, hE6⟩
  · unfold p_X4_digest p_X4_foldFloors p_X4_foldTopics p_X4_foldInstalments p_X4_foldReaders p_X4_foldMirrors
    rw [hL, bd_sm, hF, bd_sm, L0, h1, bd_sm, i1, bd_sm, j1, bd_sm, k1, bd_sm, m1', bd_sm]
  · have n1 : p_X5_ones ((iL g fb A B kp sd tw M).1 6) = some (nI (cnt A.2.2.2.2.2.2.2.1 12)) := c_ones (by omega)
    have n2 : ∀ (B : tB) (kp : Nat → Int32) (sd tw : Int32), (iL g fb A B kp sd tw M).1 8 = nI B.1 := fun _ _ _ _ => rfl
    unfold p_X5_digest
    rw [n1, bd_sm, e_il0, l_cut hR, bd_sm, b11, bd_sm, b12, bd_sm, b13, bd_sm, l_subs, bd_sm, b15, bd_sm, b16, bd_sm, c5, bd_sm, l20, L8, d5, bd_sm, L7, e5, bd_sm, l10, f5, bd_sm, g5, bd_sm]
    have n3 : (22 : Int32) = nI 22 := by decide +kernel
    have n4 : nI (B1.1 + p18) - (iL g fb A B2 kp2 sd2 0 M).1 8 = nI p18 := by
      rw [n2, d3.1, nI_sub (by omega), Nat.add_sub_cancel_left]
    rw [n3, L0]
    refine (g_22 _ _ 22 0 _ 200 (by omega) (by omega)).trans ?_
    rw [← L0]
    refine (congrArg (fun q => p_X5_digest_L275 13 (iL g fb A B5 kp5 sd5 0 M) q (nI 0)) (fold_22 _ _ _ _ _ _ _ _ _ _ _ _ _ _ _ _ _ _ _ _ _ _)).trans ?_
    rw [n4]
    show p_X5_digest_L275 13 (iL g fb A B5 kp5 sd5 0 M) (fd (fd (fd (fd (fd (fd (fd (fd (fd (fd (fd (fd (fd (fd (fd (fd (fd (fd (fd (fd (fd (fd (2293 : Int64) (nI g.1)) (nI A.1)) (nI A.2.1)) A.2.2.1) (nI (cnt A.2.2.2.2.2.2.2.1 12))) (nI A.2.2.2.1)) (nI A.2.2.2.2.1)) (nI g.2.1)) (nI A.2.2.2.2.2.1)) (nI (sm A.2.2.2.2.2.2.2.2.2.1 12))) (nI B.1)) x11) x12) x13) (nI (cnt A.2.2.2.2.2.2.2.2.2.2.2 8))) x15) x16) x17) (nI p18)) x19) x20) x21) (nI 0) = _
    rw [hd0, h2, i2, j2, k2, m2']
end
