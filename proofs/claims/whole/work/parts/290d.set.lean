/-! the methods that put one number in its place -/
theorem in_0_20 (p : Int32) : fX9_in (p.toInt64) (0 : Int64) (20 : Int64) = fX8_within p (0 : Int32) (20 : Int32) := in32 rfl rfl
theorem isStory9 (p : Int32) : fX9_isStory p = fX8_within p 0 3 := by
  unfold fX9_isStory
  rw [in_0_3]
  exact jz_b _ (wi_b _ _ _)
theorem isSort9 (p : Int32) : fX9_isSort p = fX8_within p 0 2 := by
  unfold fX9_isSort
  rw [in_0_2]
  exact jz_b _ (wi_b _ _ _)
theorem isBand9 (p : Int32) : fX9_isBand p = fX8_within p 0 5 := by
  unfold fX9_isBand
  rw [in_0_5]
  exact jz_b _ (wi_b _ _ _)
theorem pv_play (u : Nat) (hu : 4000000 ≤ u) (N K Z rf : Nat → Int32) (sg : Int32) (Lm : Nat → Int64) (S cal cbl : Nat → Int32)  (p1 : Int32)(hR : RelC N K Z rf sg Lm S cal cbl) : ∃ (rc : Int32 × (Nat → Int32) × (Nat → Int32)) (rm : Int32 × (Nat → Int32) × (Nat → Int32)), fX8_play p1 rf (1 : Int32) (cw 153 N) = some rc ∧ fX9_play p1 N rf = some rm ∧ rc.1 = rm.1 ∧ RelAll rm.2.1 K Z rm.2.2 sg Lm S (N 392) (N 393) (N 394) (4 : Int32) (1 : Int32) (N 395) (1 : Int32) (N 396) (N 397) (1 : Int32) (3 : Int32) (8 : Int32) (N 191) (cw 0 N) (cw 12 N) (cw 24 N) (cw 40 N) (cw 48 N) (cw 50 N) (cw 98 N) (cw 99 N) (cw 147 N) rc.2.2 (cw 154 N) (cw 175 N) (cw 192 N) rc.2.1 sg (S 0) (S 1) cal cbl := by
  unfold fX8_play fX9_play
  rw [in_0_9]
  rcases wi p1 (0) 9 (A := 0) (B := 9) rfl rfl with ⟨e, hp⟩ | ⟨e, hp⟩
  · rw [e]
    refine ⟨(N 153, rf, upd (cw 153 N) 0 p1), (N 153, upd N 153 p1, rf), ?_, ?_, rfl, ?_⟩
    · simp (disch := omega) [ob_s, blet_s, lit32, jgN, nI_add, mulN, subN, eqN, leN, ltN, clampN, updE, updN, put7, put7_no, cell7, many9] <;> rfl
    · simp (disch := omega) [ob_s, blet_s, lit32, jgN, nI_add, mulN, subN, eqN, leN, ltN, clampN, updE, updN, put7, put7_no, cell7, many9] <;> rfl
    · rw [cwE]
      exact Rel_play hR (fun k _ h => updN (by omega)) (InvN_play hR.1 (fun k _ h => updN (by omega)) (by show rg (upd N 153 p1 153) (0) 9; rw [updE rfl]; exact hp))
  · rw [e]
    exact ⟨(-2, _, cw 153 N), (-2, N, _), rfl, rfl, rfl, Rel_rf _ hR⟩
theorem pv_praise (u : Nat) (hu : 4000000 ≤ u) (N K Z rf : Nat → Int32) (sg : Int32) (Lm : Nat → Int64) (S cal cbl : Nat → Int32)  (p1 : Int32)(hR : RelC N K Z rf sg Lm S cal cbl) : ∃ (rc : Int32 × (Nat → Int32) × (Nat → Int32)) (rm : Int32 × (Nat → Int32) × (Nat → Int32)), fX8_praise p1 rf (1 : Int32) (cw 98 N) = some rc ∧ fX9_praise p1 N rf = some rm ∧ rc.1 = rm.1 ∧ RelAll rm.2.1 K Z rm.2.2 sg Lm S (N 392) (N 393) (N 394) (4 : Int32) (1 : Int32) (N 395) (1 : Int32) (N 396) (N 397) (1 : Int32) (3 : Int32) (8 : Int32) (N 191) (cw 0 N) (cw 12 N) (cw 24 N) (cw 40 N) (cw 48 N) (cw 50 N) rc.2.2 (cw 99 N) (cw 147 N) (cw 153 N) (cw 154 N) (cw 175 N) (cw 192 N) rc.2.1 sg (S 0) (S 1) cal cbl := by
  unfold fX8_praise fX9_praise
  rw [in_m99_99]
  rcases wi p1 (-99) 99 (A := -99) (B := 99) rfl rfl with ⟨e, hp⟩ | ⟨e, hp⟩
  · rw [e]
    refine ⟨(N 98, rf, upd (cw 98 N) 0 p1), (N 98, upd N 98 p1, rf), ?_, ?_, rfl, ?_⟩
    · simp (disch := omega) [ob_s, blet_s, lit32, jgN, nI_add, mulN, subN, eqN, leN, ltN, clampN, updE, updN, put7, put7_no, cell7, many9] <;> rfl
    · simp (disch := omega) [ob_s, blet_s, lit32, jgN, nI_add, mulN, subN, eqN, leN, ltN, clampN, updE, updN, put7, put7_no, cell7, many9] <;> rfl
    · rw [cwE]
      exact Rel_praise hR (fun k _ h => updN (by omega)) (InvN_praise hR.1 (fun k _ h => updN (by omega)) (by show rg (upd N 98 p1 98) (-99) 99; rw [updE rfl]; exact hp))
  · rw [e]
    exact ⟨(-100, _, cw 98 N), (-100, N, _), rfl, rfl, rfl, Rel_rf _ hR⟩
theorem pv_tries (u : Nat) (hu : 4000000 ≤ u) (N K Z rf : Nat → Int32) (sg : Int32) (Lm : Nat → Int64) (S cal cbl : Nat → Int32)  (p1 p2 : Int32)(hR : RelC N K Z rf sg Lm S cal cbl) : ∃ (rc : Int32 × (Nat → Int32) × (Nat → Int32)) (rm : Int32 × (Nat → Int32) × (Nat → Int32)), fX8_tries p1 p2 rf (1 : Int32) (cw 48 N) = some rc ∧ fX9_tries p1 p2 N rf = some rm ∧ rc.1 = rm.1 ∧ RelAll rm.2.1 K Z rm.2.2 sg Lm S (N 392) (N 393) (N 394) (4 : Int32) (1 : Int32) (N 395) (1 : Int32) (N 396) (N 397) (1 : Int32) (3 : Int32) (8 : Int32) (N 191) (cw 0 N) (cw 12 N) (cw 24 N) (cw 40 N) rc.2.2 (cw 50 N) (cw 98 N) (cw 99 N) (cw 147 N) (cw 153 N) (cw 154 N) (cw 175 N) (cw 192 N) rc.2.1 sg (S 0) (S 1) cal cbl := by
  unfold fX8_tries fX9_tries fX8_tries_b19 fX9_tries_b23
  rw [in_0_30, in_0_v]
  rcases wi p1 0 30 (A := 0) (B := 30) rfl rfl with ⟨e1, h1⟩ | ⟨e1, h1⟩
  · rcases wi p2 0 p1 (A := 0) (B := p1.toInt) rfl rfl with ⟨e2, h2⟩ | ⟨e2, h2⟩
    · rw [e1, e2]
      refine ⟨(1, rf, upd (upd (cw 48 N) 0 p1) 1 p2), (1, upd (upd N 48 p1) 49 p2, rf), ?_, ?_, rfl, ?_⟩
      · simp (disch := omega) [ob_s, blet_s, lit32, jgN, nI_add, mulN, subN, eqN, leN, ltN, clampN, updE, updN, put7, put7_no, cell7, many9] <;> rfl
      · simp (disch := omega) [ob_s, blet_s, lit32, jgN, nI_add, mulN, subN, eqN, leN, ltN, clampN, updE, updN, put7, put7_no, cell7, many9] <;> rfl
      · dsimp only
        rw [cwE, cwE]
        refine Rel_tries hR (fun k _ h => by rw [updN (by omega), updN (by omega)]) (InvN_tries hR.1 (fun k _ h => by rw [updN (by omega), updN (by omega)]) ?_)
        rw [updN (j := 48) (by omega), updE (j := 48) rfl, updE (j := 49) rfl]
        exact ⟨h1, h2⟩
    · rw [e1, e2]
      exact ⟨(-2, _, cw 48 N), (-2, N, _), rfl, rfl, rfl, Rel_rf _ hR⟩
  · rw [e1]
    exact ⟨(-2, _, cw 48 N), (-2, N, _), rfl, rfl, rfl, Rel_rf _ hR⟩
theorem pv_story (u : Nat) (hu : 4000000 ≤ u) (N K Z rf : Nat → Int32) (sg : Int32) (Lm : Nat → Int64) (S cal cbl : Nat → Int32)  (p1 p2 p3 : Int32)(hR : RelC N K Z rf sg Lm S cal cbl) : ∃ (rc : Int32 × (Nat → Int32) × (Nat → Int32)) (rm : Int32 × (Nat → Int32) × (Nat → Int32)), fX8_story p1 p2 p3 rf (4 : Int32) (cw 40 N) = some rc ∧ fX9_story p1 p2 p3 N rf = some rm ∧ rc.1 = rm.1 ∧ RelAll rm.2.1 K Z rm.2.2 sg Lm S (N 392) (N 393) (N 394) (4 : Int32) (1 : Int32) (N 395) (1 : Int32) (N 396) (N 397) (1 : Int32) (3 : Int32) (8 : Int32) (N 191) (cw 0 N) (cw 12 N) (cw 24 N) rc.2.2 (cw 48 N) (cw 50 N) (cw 98 N) (cw 99 N) (cw 147 N) (cw 153 N) (cw 154 N) (cw 175 N) (cw 192 N) rc.2.1 sg (S 0) (S 1) cal cbl := by
  unfold fX8_story fX9_story fX8_story_b37 fX9_story_b39 fX8_story_b31 fX9_story_b33
  rw [isStory9, in_0_1]
  rcases wi p1 0 3 (A := 0) (B := 3) rfl rfl with ⟨e1, h1⟩ | ⟨e1, h1⟩
  · rcases wi p2 0 1 (A := 0) (B := 1) rfl rfl with ⟨e2, h2⟩ | ⟨e2, h2⟩
    · rw [e1, e2]
      obtain ⟨s, rfl, -, hs, -⟩ := rg_nI h1 (by decide)
      obtain ⟨w, rfl, -, hw1, -⟩ := rg_nI h2 (by decide)
      simp only [ob_s, if_neg (show ¬ (1 : Int32) = 0 by decide)]
      by_cases hw : nI w = 0
      · rw [if_pos hw, if_pos hw, in_0_20]
        rcases wi p3 0 20 (A := 0) (B := 20) rfl rfl with ⟨e3, h3⟩ | ⟨e3, h3⟩
        · rw [e3]
          refine ⟨(cw 40 N (s * 2 + w), rf, upd (cw 40 N) (s * 2 + w) p3), (N (40 + 2 * s + w), upd N (40 + 2 * s + w) p3, rf), ?_, ?_, ?_, ?_⟩
          · simp (disch := omega) [ob_s, blet_s, lit32, jgN, nI_add, mulN, subN, eqN, leN, ltN, clampN, updE, updN, put7, put7_no, cell7, many9] <;> rfl
          · simp (disch := omega) [ob_s, blet_s, lit32, jgN, nI_add, mulN, subN, eqN, leN, ltN, clampN, updE, updN, put7, put7_no, cell7, many9] <;> rfl
          · show N (40 + (s * 2 + w)) = N (40 + 2 * s + w)
            congr 1
            omega
          · dsimp only
            rw [cwE, show 40 + (s * 2 + w) = 40 + 2 * s + w by omega]
            refine Rel_stories hR (fun k _ h => updN (by omega)) (InvN_stories hR.1 (fun k _ h => updN (by omega)) (fun i hi => ?_))
            have g := hR.1.2.2.2.2.1 i hi
            refine ⟨?_, ?_⟩
            · by_cases q : 40 + 2 * i = 40 + 2 * s + w
              · rw [updE q]; exact h3
              · rw [updN q]; exact g.1
            · by_cases q : 40 + 2 * i + 1 = 40 + 2 * s + w
              · rw [updE q]; exact absurd q (by have := nI_eq (a := w) (b := 0) (by omega) (by omega) |>.mp hw; omega)
              · rw [updN q]; exact g.2
        · rw [e3]
          exact ⟨(-2, _, cw 40 N), (-2, N, _), rfl, rfl, rfl, Rel_rf _ hR⟩
      · rw [if_neg hw, if_neg hw, in_0_9]
        rcases wi p3 0 9 (A := 0) (B := 9) rfl rfl with ⟨e3, h3⟩ | ⟨e3, h3⟩
        · rw [e3]
          refine ⟨(cw 40 N (s * 2 + w), rf, upd (cw 40 N) (s * 2 + w) p3), (N (40 + 2 * s + w), upd N (40 + 2 * s + w) p3, rf), ?_, ?_, ?_, ?_⟩
          · simp (disch := omega) [ob_s, blet_s, lit32, jgN, nI_add, mulN, subN, eqN, leN, ltN, clampN, updE, updN, put7, put7_no, cell7, many9] <;> rfl
          · simp (disch := omega) [ob_s, blet_s, lit32, jgN, nI_add, mulN, subN, eqN, leN, ltN, clampN, updE, updN, put7, put7_no, cell7, many9] <;> rfl
          · show N (40 + (s * 2 + w)) = N (40 + 2 * s + w)
            congr 1
            omega
          · dsimp only
            rw [cwE, show 40 + (s * 2 + w) = 40 + 2 * s + w by omega]
            refine Rel_stories hR (fun k _ h => updN (by omega)) (InvN_stories hR.1 (fun k _ h => updN (by omega)) (fun i hi => ?_))
            have g := hR.1.2.2.2.2.1 i hi
            refine ⟨?_, ?_⟩
            · by_cases q : 40 + 2 * i = 40 + 2 * s + w
              · rw [updE q]; exact ⟨h3.1, Int.le_trans h3.2 (by decide)⟩
              · rw [updN q]; exact g.1
            · by_cases q : 40 + 2 * i + 1 = 40 + 2 * s + w
              · rw [updE q]; exact h3
              · rw [updN q]; exact g.2
        · rw [e3]
          exact ⟨(-2, _, cw 40 N), (-2, N, _), rfl, rfl, rfl, Rel_rf _ hR⟩
    · rw [e1, e2]
      exact ⟨(-2, _, cw 40 N), (-2, N, _), rfl, rfl, rfl, Rel_rf _ hR⟩
  · rw [e1]
    exact ⟨(-2, _, cw 40 N), (-2, N, _), rfl, rfl, rfl, Rel_rf _ hR⟩
theorem pv_known (u : Nat) (hu : 4000000 ≤ u) (N K Z rf : Nat → Int32) (sg : Int32) (Lm : Nat → Int64) (S cal cbl : Nat → Int32)  (p1 p2 p3 : Int32)(hR : RelC N K Z rf sg Lm S cal cbl) : ∃ (rc : Int32 × (Nat → Int32) × (Nat → Int32)) (rm : Int32 × (Nat → Int32) × (Nat → Int32)), fX8_known p1 p2 p3 rf (3 : Int32) (cw 154 N) = some rc ∧ fX9_known p1 p2 p3 N rf = some rm ∧ rc.1 = rm.1 ∧ RelAll rm.2.1 K Z rm.2.2 sg Lm S (N 392) (N 393) (N 394) (4 : Int32) (1 : Int32) (N 395) (1 : Int32) (N 396) (N 397) (1 : Int32) (3 : Int32) (8 : Int32) (N 191) (cw 0 N) (cw 12 N) (cw 24 N) (cw 40 N) (cw 48 N) (cw 50 N) (cw 98 N) (cw 99 N) (cw 147 N) (cw 153 N) rc.2.2 (cw 175 N) (cw 192 N) rc.2.1 sg (S 0) (S 1) cal cbl := by
  unfold fX8_known fX9_known fX8_known_b28 fX9_known_b26
  rw [isSort9, isBand9, in_0_99]
  rcases wi p1 0 2 (A := 0) (B := 2) rfl rfl with ⟨e1, h1⟩ | ⟨e1, h1⟩
  · rcases wi p2 0 5 (A := 0) (B := 5) rfl rfl with ⟨e2, h2⟩ | ⟨e2, h2⟩
    · rcases wi p3 0 99 (A := 0) (B := 99) rfl rfl with ⟨e3, h3⟩ | ⟨e3, h3⟩
      · rw [e1, e2, e3]
        obtain ⟨s, rfl, -, hs, -⟩ := rg_nI h1 (by decide)
        obtain ⟨w, rfl, -, hw, -⟩ := rg_nI h2 (by decide)
        refine ⟨(cw 154 N (s * 7 + (1 + w)), rf, upd (cw 154 N) (s * 7 + (1 + w)) p3), (N (154 + 7 * s + 1 + w), upd N (154 + 7 * s + 1 + w) p3, rf), ?_, ?_, ?_, ?_⟩
        · simp (disch := omega) [ob_s, blet_s, lit32, jgN, nI_add, mulN, subN, eqN, leN, ltN, clampN, updE, updN, put7, put7_no, cell7, many9] <;> rfl
        · simp (disch := omega) [ob_s, blet_s, lit32, jgN, nI_add, mulN, subN, eqN, leN, ltN, clampN, updE, updN, put7, put7_no, cell7, many9] <;> rfl
        · show N (154 + (s * 7 + (1 + w))) = N (154 + 7 * s + 1 + w)
          congr 1
          omega
        · dsimp only
          rw [cwE, show 154 + (s * 7 + (1 + w)) = 154 + 7 * s + 1 + w by omega]
          refine Rel_sorts hR (fun k _ h => updN (by omega)) (InvN_sorts hR.1 (fun k _ h => updN (by omega)) ?_)
          intro i hi
          have g := hR.1.2.2.2.2.2.2.2.2.2.2.2.1 i hi
          refine ⟨?_, fun j hj => ?_⟩
          · rw [updN (by omega)]; exact g.1
          · by_cases q : 154 + 7 * i + 1 + j = 154 + 7 * s + 1 + w
            · rw [updE q]; exact h3
            · rw [updN q]; exact g.2 j hj
      · rw [e1, e2, e3]
        exact ⟨(-2, _, cw 154 N), (-2, N, _), rfl, rfl, rfl, Rel_rf _ hR⟩
    · rw [e1, e2]
      exact ⟨(-2, _, cw 154 N), (-2, N, _), rfl, rfl, rfl, Rel_rf _ hR⟩
  · rw [e1]
    exact ⟨(-2, _, cw 154 N), (-2, N, _), rfl, rfl, rfl, Rel_rf _ hR⟩
theorem pv_prior (u : Nat) (hu : 4000000 ≤ u) (N K Z rf : Nat → Int32) (sg : Int32) (Lm : Nat → Int64) (S cal cbl : Nat → Int32)  (p1 p2 : Int32)(hR : RelC N K Z rf sg Lm S cal cbl) : ∃ (rc : Int32 × (Nat → Int32) × (Nat → Int32)) (rm : Int32 × (Nat → Int32) × (Nat → Int32)), fX8_prior p1 p2 rf (3 : Int32) (cw 154 N) = some rc ∧ fX9_prior p1 p2 N rf = some rm ∧ rc.1 = rm.1 ∧ RelAll rm.2.1 K Z rm.2.2 sg Lm S (N 392) (N 393) (N 394) (4 : Int32) (1 : Int32) (N 395) (1 : Int32) (N 396) (N 397) (1 : Int32) (3 : Int32) (8 : Int32) (N 191) (cw 0 N) (cw 12 N) (cw 24 N) (cw 40 N) (cw 48 N) (cw 50 N) (cw 98 N) (cw 99 N) (cw 147 N) (cw 153 N) rc.2.2 (cw 175 N) (cw 192 N) rc.2.1 sg (S 0) (S 1) cal cbl := by
  unfold fX8_prior fX9_prior fX8_prior_b19 fX9_prior_b19
  rw [isSort9, in_0_9]
  rcases wi p1 0 2 (A := 0) (B := 2) rfl rfl with ⟨e1, h1⟩ | ⟨e1, h1⟩
  · rcases wi p2 0 9 (A := 0) (B := 9) rfl rfl with ⟨e2, h2⟩ | ⟨e2, h2⟩
    · rw [e1, e2]
      obtain ⟨s, rfl, -, hs, -⟩ := rg_nI h1 (by decide)
      refine ⟨(cw 154 N (s * 7), rf, upd (cw 154 N) (s * 7) p2), (N (154 + 7 * s), upd N (154 + 7 * s) p2, rf), ?_, ?_, ?_, ?_⟩
      · simp (disch := omega) [ob_s, blet_s, lit32, jgN, nI_add, mulN, subN, eqN, leN, ltN, clampN, updE, updN, put7, put7_no, cell7, many9] <;> rfl
      · simp (disch := omega) [ob_s, blet_s, lit32, jgN, nI_add, mulN, subN, eqN, leN, ltN, clampN, updE, updN, put7, put7_no, cell7, many9] <;> rfl
      · show N (154 + (s * 7)) = N (154 + 7 * s)
        congr 1
        omega
      · dsimp only
        rw [cwE, show 154 + (s * 7) = 154 + 7 * s by omega]
        refine Rel_sorts hR (fun k _ h => updN (by omega)) (InvN_sorts hR.1 (fun k _ h => updN (by omega)) ?_)
        intro i hi
        have g := hR.1.2.2.2.2.2.2.2.2.2.2.2.1 i hi
        refine ⟨?_, fun j hj => ?_⟩
        · by_cases q : 154 + 7 * i = 154 + 7 * s
          · rw [updE q]; exact h2
          · rw [updN q]; exact g.1
        · rw [updN (by omega)]; exact g.2 j hj
    · rw [e1, e2]
      exact ⟨(-2, _, cw 154 N), (-2, N, _), rfl, rfl, rfl, Rel_rf _ hR⟩
  · rw [e1]
    exact ⟨(-2, _, cw 154 N), (-2, N, _), rfl, rfl, rfl, Rel_rf _ hR⟩
theorem pv_layer (u : Nat) (hu : 4000000 ≤ u) (N K Z rf : Nat → Int32) (sg : Int32) (Lm : Nat → Int64) (S cal cbl : Nat → Int32)  (p1 p2 p3 : Int32)(hR : RelC N K Z rf sg Lm S cal cbl) : ∃ (rc : Int32 × (Nat → Int32) × (Nat → Int32)) (rm : Int32 × (Nat → Int32) × (Nat → Int32)), fX8_layer p1 p2 p3 rf (8 : Int32) (cw 175 N) = some rc ∧ fX9_layer p1 p2 p3 N rf = some rm ∧ rc.1 = rm.1 ∧ RelAll rm.2.1 K Z rm.2.2 sg Lm S (N 392) (N 393) (N 394) (4 : Int32) (1 : Int32) (N 395) (1 : Int32) (N 396) (N 397) (1 : Int32) (3 : Int32) (8 : Int32) (N 191) (cw 0 N) (cw 12 N) (cw 24 N) (cw 40 N) (cw 48 N) (cw 50 N) (cw 98 N) (cw 99 N) (cw 147 N) (cw 153 N) (cw 154 N) rc.2.2 (cw 192 N) rc.2.1 sg (S 0) (S 1) cal cbl := by
  unfold fX8_layer fX9_layer fX8_layer_b29 fX9_layer_b34
  rw [in_0_7, in_0_1, in_0_99]
  rcases wi p1 0 7 (A := 0) (B := 7) rfl rfl with ⟨e1, h1⟩ | ⟨e1, h1⟩
  · rcases wi p2 0 1 (A := 0) (B := 1) rfl rfl with ⟨e2, h2⟩ | ⟨e2, h2⟩
    · rcases wi p3 0 99 (A := 0) (B := 99) rfl rfl with ⟨e3, h3⟩ | ⟨e3, h3⟩
      · rw [e1, e2, e3]
        obtain ⟨s, rfl, -, hs, -⟩ := rg_nI h1 (by decide)
        obtain ⟨w, rfl, -, hw, -⟩ := rg_nI h2 (by decide)
        refine ⟨(cw 175 N (s * 2 + w), rf, upd (cw 175 N) (s * 2 + w) p3), (N (175 + 2 * s + w), upd N (175 + 2 * s + w) p3, rf), ?_, ?_, ?_, ?_⟩
        · simp (disch := omega) [ob_s, blet_s, lit32, jgN, nI_add, mulN, subN, eqN, leN, ltN, clampN, updE, updN, put7, put7_no, cell7, many9] <;> rfl
        · simp (disch := omega) [ob_s, blet_s, lit32, jgN, nI_add, mulN, subN, eqN, leN, ltN, clampN, updE, updN, put7, put7_no, cell7, many9] <;> rfl
        · show N (175 + (s * 2 + w)) = N (175 + 2 * s + w)
          congr 1
          omega
        · dsimp only
          rw [cwE, show 175 + (s * 2 + w) = 175 + 2 * s + w by omega]
          refine Rel_layers hR (fun k _ h => updN (by omega)) (InvN_layers hR.1 (fun k _ h => updN (by omega)) ?_)
          intro i hi
          have g := hR.1.2.2.2.2.2.2.2.2.2.2.2.2.1 i hi
          by_cases q : 175 + i = 175 + 2 * s + w
          · rw [updE q]; exact h3
          · rw [updN q]; exact g
      · rw [e1, e2, e3]
        exact ⟨(-2, _, cw 175 N), (-2, N, _), rfl, rfl, rfl, Rel_rf _ hR⟩
    · rw [e1, e2]
      exact ⟨(-2, _, cw 175 N), (-2, N, _), rfl, rfl, rfl, Rel_rf _ hR⟩
  · rw [e1]
    exact ⟨(-2, _, cw 175 N), (-2, N, _), rfl, rfl, rfl, Rel_rf _ hR⟩
