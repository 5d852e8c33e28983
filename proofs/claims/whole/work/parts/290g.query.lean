/-! what there is -/
theorem pv_status (u : Nat) (hu : 4000000 ≤ u) (N K Z rf : Nat → Int32) (sg : Int32) (Lm : Nat → Int64) (S cal cbl : Nat → Int32)  (p1 : Int32)(hR : RelC N K Z rf sg Lm S cal cbl) : ∃ (rc : Int32 × (Nat → Int32)) (rm : Int32 × (Nat → Int32)), fX8_status p1 rf = some rc ∧ fX9_status p1 rf = some rm ∧ rc.1 = rm.1 ∧ RelAll N K Z rm.2 sg Lm S (N 392) (N 393) (N 394) (4 : Int32) (1 : Int32) (N 395) (1 : Int32) (N 396) (N 397) (1 : Int32) (3 : Int32) (8 : Int32) (N 191) (cw 0 N) (cw 12 N) (cw 24 N) (cw 40 N) (cw 48 N) (cw 50 N) (cw 98 N) (cw 99 N) (cw 147 N) (cw 153 N) (cw 154 N) (cw 175 N) (cw 192 N) rc.2 sg (S 0) (S 1) cal cbl := by
  unfold fX8_status fX9_status
  rw [in_0_2]
  rcases wi p1 0 2 (A := 0) (B := 2) rfl rfl with ⟨e, hp⟩ | ⟨e, hp⟩
  · rw [e]
    obtain ⟨n, rfl, -, hn, -⟩ := rg_nI hp (by decide)
    refine ⟨(rf n, rf), (rf n, rf), ?_, ?_, rfl, hR⟩
    · simp (disch := omega) [ob_s, blet_s, lit32, jgN, nI_add, mulN, subN, eqN, leN, ltN, clampN, updE, updN, put7, put7_no, cell7, many9]
    · simp (disch := omega) [ob_s, blet_s, lit32, jgN, nI_add, mulN, subN, eqN, leN, ltN, clampN, updE, updN, put7, put7_no, cell7, many9]
  · rw [e]
    exact ⟨(-1, _), (-1, _), rfl, rfl, rfl, Rel_rf _ hR⟩
theorem pv_count (u : Nat) (hu : 4000000 ≤ u) (N K Z rf : Nat → Int32) (sg : Int32) (Lm : Nat → Int64) (S cal cbl : Nat → Int32)  (p1 : Int32)(hR : RelC N K Z rf sg Lm S cal cbl) : ∃ (rc : Int32 × (Nat → Int32)) (rm : Int32 × (Nat → Int32)), fX8_count p1 rf (N 392) (N 397) (N 394) (N 393) (N 395) (N 191) (N 396) = some rc ∧ fX9_count p1 N rf = some rm ∧ rc.1 = rm.1 ∧ RelAll N K Z rm.2 sg Lm S (N 392) (N 393) (N 394) (4 : Int32) (1 : Int32) (N 395) (1 : Int32) (N 396) (N 397) (1 : Int32) (3 : Int32) (8 : Int32) (N 191) (cw 0 N) (cw 12 N) (cw 24 N) (cw 40 N) (cw 48 N) (cw 50 N) (cw 98 N) (cw 99 N) (cw 147 N) (cw 153 N) (cw 154 N) (cw 175 N) (cw 192 N) rc.2 sg (S 0) (S 1) cal cbl := by
  unfold fX8_count fX9_count fX6_rowsOf fX9_counted fX9_textLong
  rw [in_0_6]
  rcases wi p1 0 6 (A := 0) (B := 6) rfl rfl with ⟨e, hp⟩ | ⟨e, hp⟩
  · rw [e]
    obtain ⟨n, rfl, -, hn, -⟩ := rg_nI hp (by decide)
    have h : n = 0 ∨ n = 1 ∨ n = 2 ∨ n = 3 ∨ n = 4 ∨ n = 5 ∨ n = 6 := by omega
    rcases h with rfl | rfl | rfl | rfl | rfl | rfl | rfl
    · refine ⟨(N 392, rf), (N 392, rf), ?_, ?_, rfl, hR⟩
      · simp (disch := omega) [ob_s, blet_s, lit32, jgN, nI_add, mulN, subN, eqN, leN, ltN, clampN, updE, updN, put7, put7_no, cell7, many9]
      · simp (disch := omega) [ob_s, blet_s, lit32, jgN, nI_add, mulN, subN, eqN, leN, ltN, clampN, updE, updN, put7, put7_no, cell7, many9]
    · refine ⟨(N 393, rf), (N 393, rf), ?_, ?_, rfl, hR⟩
      · simp (disch := omega) [ob_s, blet_s, lit32, jgN, nI_add, mulN, subN, eqN, leN, ltN, clampN, updE, updN, put7, put7_no, cell7, many9]
      · simp (disch := omega) [ob_s, blet_s, lit32, jgN, nI_add, mulN, subN, eqN, leN, ltN, clampN, updE, updN, put7, put7_no, cell7, many9]
    · refine ⟨(N 394, rf), (N 394, rf), ?_, ?_, rfl, hR⟩
      · simp (disch := omega) [ob_s, blet_s, lit32, jgN, nI_add, mulN, subN, eqN, leN, ltN, clampN, updE, updN, put7, put7_no, cell7, many9]
      · simp (disch := omega) [ob_s, blet_s, lit32, jgN, nI_add, mulN, subN, eqN, leN, ltN, clampN, updE, updN, put7, put7_no, cell7, many9]
    · refine ⟨(N 395, rf), (N 395, rf), ?_, ?_, rfl, hR⟩
      · simp (disch := omega) [ob_s, blet_s, lit32, jgN, nI_add, mulN, subN, eqN, leN, ltN, clampN, updE, updN, put7, put7_no, cell7, many9]
      · simp (disch := omega) [ob_s, blet_s, lit32, jgN, nI_add, mulN, subN, eqN, leN, ltN, clampN, updE, updN, put7, put7_no, cell7, many9]
    · refine ⟨(N 396, rf), (N 396, rf), ?_, ?_, rfl, hR⟩
      · simp (disch := omega) [ob_s, blet_s, lit32, jgN, nI_add, mulN, subN, eqN, leN, ltN, clampN, updE, updN, put7, put7_no, cell7, many9]
      · simp (disch := omega) [ob_s, blet_s, lit32, jgN, nI_add, mulN, subN, eqN, leN, ltN, clampN, updE, updN, put7, put7_no, cell7, many9]
    · refine ⟨(N 397, rf), (N 397, rf), ?_, ?_, rfl, hR⟩
      · simp (disch := omega) [ob_s, blet_s, lit32, jgN, nI_add, mulN, subN, eqN, leN, ltN, clampN, updE, updN, put7, put7_no, cell7, many9]
      · simp (disch := omega) [ob_s, blet_s, lit32, jgN, nI_add, mulN, subN, eqN, leN, ltN, clampN, updE, updN, put7, put7_no, cell7, many9]
    · refine ⟨(N 191, rf), (N 191, rf), ?_, ?_, rfl, hR⟩
      · simp (disch := omega) [ob_s, blet_s, lit32, jgN, nI_add, mulN, subN, eqN, leN, ltN, clampN, updE, updN, put7, put7_no, cell7, many9]
      · simp (disch := omega) [ob_s, blet_s, lit32, jgN, nI_add, mulN, subN, eqN, leN, ltN, clampN, updE, updN, put7, put7_no, cell7, many9]
  · rw [e]
    exact ⟨(-2, _), (-2, _), rfl, rfl, rfl, Rel_rf _ hR⟩
theorem pv_clear (u : Nat) (hu : 4000000 ≤ u) (N K Z rf : Nat → Int32) (sg : Int32) (Lm : Nat → Int64) (S cal cbl : Nat → Int32)  (hR : RelC N K Z rf sg Lm S cal cbl) : ∃ (rc : Int32 × Int32) (rm : Int32 × (Nat → Int32)), fX8_clear (N 191) = some rc ∧ fX9_clear N = some rm ∧ rc.1 = rm.1 ∧ RelAll rm.2 K Z rf sg Lm S (N 392) (N 393) (N 394) (4 : Int32) (1 : Int32) (N 395) (1 : Int32) (N 396) (N 397) (1 : Int32) (3 : Int32) (8 : Int32) rc.2 (cw 0 N) (cw 12 N) (cw 24 N) (cw 40 N) (cw 48 N) (cw 50 N) (cw 98 N) (cw 99 N) (cw 147 N) (cw 153 N) (cw 154 N) (cw 175 N) (cw 192 N) rf sg (S 0) (S 1) cal cbl := by
  unfold fX8_clear fX9_clear fX9_textLong
  refine ⟨(N 191, 0), (N 191, upd N 191 0), rfl, ?_, rfl, ?_⟩
  · simp (disch := omega) [ob_s, blet_s, lit32, jgN, nI_add, mulN, subN, eqN, leN, ltN, clampN, updE, updN, put7, put7_no, cell7, many9]
  · dsimp only
    refine Rel2_plan hR (fun k _ h h2 => updN (by omega)) (InvN_plan hR.1 (fun k _ h h2 => updN (by omega)) (by rw [updE rfl]; exact ⟨by decide, by decide⟩) (fun i hi => ?_)) (updE rfl).symm (fun k hk => (show cw 192 N k = upd N 191 0 (192 + k) from (updN (f := N) (k := 191) (j := 192 + k) (v := 0) (by omega)).symm))
    rw [updE rfl] at hi
    exact absurd hi (by have : (0 : Int32).toInt = 0 := by decide
                        omega)
theorem pv_sign (u : Nat) (hu : 4000000 ≤ u) (N K Z rf : Nat → Int32) (sg : Int32) (Lm : Nat → Int64) (S cal cbl : Nat → Int32)  (p1 : Int32)(hR : RelC N K Z rf sg Lm S cal cbl) : ∃ (rc : Int32 × (Nat → Int32)) (rm : Int32 × (Nat → Int32)), fX8_sign p1 sg rf (S 0) (S 1) = some rc ∧ fX9_sign p1 sg rf S = some rm ∧ rc.1 = rm.1 ∧ RelAll N K Z rm.2 sg Lm S (N 392) (N 393) (N 394) (4 : Int32) (1 : Int32) (N 395) (1 : Int32) (N 396) (N 397) (1 : Int32) (3 : Int32) (8 : Int32) (N 191) (cw 0 N) (cw 12 N) (cw 24 N) (cw 40 N) (cw 48 N) (cw 50 N) (cw 98 N) (cw 99 N) (cw 147 N) (cw 153 N) (cw 154 N) (cw 175 N) (cw 192 N) rc.2 sg (S 0) (S 1) cal cbl := by
  unfold fX8_sign fX9_sign
  rcases wi p1 0 2 (A := 0) (B := 2) rfl rfl with ⟨e, hp⟩ | ⟨e, hp⟩
  · rw [e]
    obtain ⟨n, rfl, -, hn, -⟩ := rg_nI hp (by decide)
    have h : n = 0 ∨ n = 1 ∨ n = 2 := by omega
    rcases h with rfl | rfl | rfl
    · refine ⟨(sg, rf), (sg, rf), ?_, ?_, rfl, hR⟩
      · simp (disch := omega) [ob_s, blet_s, lit32, jgN, nI_add, mulN, subN, eqN, leN, ltN, clampN, updE, updN, put7, put7_no, cell7, many9]
      · simp (disch := omega) [ob_s, blet_s, lit32, jgN, nI_add, mulN, subN, eqN, leN, ltN, clampN, updE, updN, put7, put7_no, cell7, many9]
    · refine ⟨(S 0, rf), (S 0, rf), ?_, ?_, rfl, hR⟩
      · simp (disch := omega) [ob_s, blet_s, lit32, jgN, nI_add, mulN, subN, eqN, leN, ltN, clampN, updE, updN, put7, put7_no, cell7, many9]
      · simp (disch := omega) [ob_s, blet_s, lit32, jgN, nI_add, mulN, subN, eqN, leN, ltN, clampN, updE, updN, put7, put7_no, cell7, many9]
    · refine ⟨(S 1, rf), (S 1, rf), ?_, ?_, rfl, hR⟩
      · simp (disch := omega) [ob_s, blet_s, lit32, jgN, nI_add, mulN, subN, eqN, leN, ltN, clampN, updE, updN, put7, put7_no, cell7, many9]
      · simp (disch := omega) [ob_s, blet_s, lit32, jgN, nI_add, mulN, subN, eqN, leN, ltN, clampN, updE, updN, put7, put7_no, cell7, many9]
  · rw [e]
    have n0 : ¬ p1 = 0 := fun h => hp (by subst h; exact ⟨by decide, by decide⟩)
    have n1 : ¬ p1 = 1 := fun h => hp (by subst h; exact ⟨by decide, by decide⟩)
    have n2 : ¬ p1 = 2 := fun h => hp (by subst h; exact ⟨by decide, by decide⟩)
    simp only [if_neg n0, if_neg n1, if_neg n2]
    exact ⟨(-2, _), (-2, _), rfl, rfl, rfl, Rel_rf _ hR⟩
theorem i32of64 {x : Int32} {y : Int64} (h : x.toInt64 = y) : y.toInt32 = x := by
  subst h
  simp
theorem pv_limb (u : Nat) (hu : 4000000 ≤ u) (N K Z rf : Nat → Int32) (sg : Int32) (Lm : Nat → Int64) (S cal cbl : Nat → Int32)  (p1 p2 : Int32)(hR : RelC N K Z rf sg Lm S cal cbl) : ∃ (rc : Int32 × (Nat → Int32)) (rm : Int32 × (Nat → Int32)), fX8_limb p1 p2 rf (S 0) (S 1) cal cbl = some rc ∧ fX9_limb p1 p2 Lm rf S = some rm ∧ rc.1 = rm.1 ∧ RelAll N K Z rm.2 sg Lm S (N 392) (N 393) (N 394) (4 : Int32) (1 : Int32) (N 395) (1 : Int32) (N 396) (N 397) (1 : Int32) (3 : Int32) (8 : Int32) (N 191) (cw 0 N) (cw 12 N) (cw 24 N) (cw 40 N) (cw 48 N) (cw 50 N) (cw 98 N) (cw 99 N) (cw 147 N) (cw 153 N) (cw 154 N) (cw 175 N) (cw 192 N) rc.2 sg (S 0) (S 1) cal cbl := by
  obtain ⟨z0, z1, f0, f1⟩ := hR.2.2.2.2.2.2.2
  unfold fX8_limb fX9_limb fX8_limb_b13 fX9_limb_b14 fX8_limb_b41 fX8_limb_b41s1
  rw [in_0_1]
  rcases wi p1 0 1 (A := 0) (B := 1) rfl rfl with ⟨e, hp⟩ | ⟨e, hp⟩
  · rw [e]
    obtain ⟨n, rfl, -, hn, -⟩ := rg_nI hp (by decide)
    by_cases h2 : 0 ≤ p2
    · obtain ⟨j, hj, rfl⟩ := nI_of (x := p2) (by rw [Int32.not_lt]; exact h2)
      obtain ⟨a, ea, -, ha, -⟩ := rg_nI z0 (by decide)
      obtain ⟨b, eb, -, hb, -⟩ := rg_nI z1 (by decide)
      rw [ea, clampN (by omega)] at f0
      rw [eb, clampN (by omega)] at f1
      have h : n = 0 ∨ n = 1 := by omega
      rcases h with rfl | rfl
      · by_cases hja : a ≤ j
        · refine ⟨(-1, rf), (-1, rf), ?_, ?_, rfl, hR⟩
          · simp (disch := omega) [ob_s, blet_s, lit32, jgN, nI_add, mulN, subN, eqN, leN, ltN, clampN, updE, updN, put7, put7_no, cell7, many9, ea, hja, h2]
          · simp (disch := omega) [ob_s, blet_s, lit32, jgN, nI_add, mulN, subN, eqN, leN, ltN, clampN, updE, updN, put7, put7_no, cell7, many9, ea, hja, h2]
        · have g := f0 j (by omega)
          refine ⟨(cal j, rf), (cal j, rf), ?_, ?_, rfl, hR⟩
          · simp (disch := omega) [ob_s, blet_s, lit32, jgN, nI_add, mulN, subN, eqN, leN, ltN, clampN, updE, updN, put7, put7_no, cell7, many9, ea, hja, h2, fX3_digit, show ¬ 6 ≤ j by omega]
          · simp (disch := omega) [ob_s, blet_s, lit32, jgN, nI_add, mulN, subN, eqN, leN, ltN, clampN, updE, updN, put7, put7_no, cell7, many9, ea, hja, h2, i32of64 g.1]
      · by_cases hja : b ≤ j
        · refine ⟨(-1, rf), (-1, rf), ?_, ?_, rfl, hR⟩
          · simp (disch := omega) [ob_s, blet_s, lit32, jgN, nI_add, mulN, subN, eqN, leN, ltN, clampN, updE, updN, put7, put7_no, cell7, many9, eb, hja, h2]
          · simp (disch := omega) [ob_s, blet_s, lit32, jgN, nI_add, mulN, subN, eqN, leN, ltN, clampN, updE, updN, put7, put7_no, cell7, many9, eb, hja, h2]
        · have g := f1 j (by omega)
          refine ⟨(cbl j, rf), (cbl j, rf), ?_, ?_, rfl, hR⟩
          · simp (disch := omega) [ob_s, blet_s, lit32, jgN, nI_add, mulN, subN, eqN, leN, ltN, clampN, updE, updN, put7, put7_no, cell7, many9, eb, hja, h2, fX3_digit, show ¬ 6 ≤ j by omega]
          · simp (disch := omega) [ob_s, blet_s, lit32, jgN, nI_add, mulN, subN, eqN, leN, ltN, clampN, updE, updN, put7, put7_no, cell7, many9, eb, hja, h2, i32of64 g.1]
    · rw [if_neg h2, if_neg h2]
      exact ⟨(-2, _), (-2, _), rfl, rfl, rfl, Rel_rf _ hR⟩
  · rw [e]
    exact ⟨(-2, _), (-2, _), rfl, rfl, rfl, Rel_rf _ hR⟩
