/-! the methods that put one number in its place -/
theorem pv_play (u : Nat) (hu : 4000000 ≤ u) (N K Z rf : Nat → Int32) (sg : Int32) (Lm : Nat → Int64) (S cal cbl : Nat → Int32)  (p1 : Int32)(hR : RelC N K Z rf sg Lm S cal cbl) : ∃ (rc : Int32 × (Nat → Int32) × (Nat → Int32)) (rm : Int32 × (Nat → Int32) × (Nat → Int32)), fX8_play p1 rf (1 : Int32) (cw 153 N) = some rc ∧ fX9_play p1 N rf = some rm ∧ rc.1 = rm.1 ∧ RelAll rm.2.1 K Z rm.2.2 sg Lm S (N 392) (N 393) (N 394) (4 : Int32) (1 : Int32) (N 395) (1 : Int32) (N 396) (N 397) (1 : Int32) (3 : Int32) (8 : Int32) (N 191) (cw 0 N) (cw 12 N) (cw 24 N) (cw 40 N) (cw 48 N) (cw 50 N) (cw 98 N) (cw 99 N) (cw 147 N) rc.2.2 (cw 154 N) (cw 175 N) (cw 192 N) rc.2.1 sg (S 0) (S 1) cal cbl := by
  unfold fX8_play fX9_play
  rw [in_0_9]
  rcases wi p1 0 9 (A := 0) (B := 9) rfl rfl with ⟨e, hp⟩ | ⟨e, hp⟩
  · rw [e]
    refine ⟨(N 153, rf, upd (cw 153 N) 0 p1), (N 153, upd N 153 p1, rf), ?_, ?_, rfl, ?_⟩
    · simp (disch := omega) [ob_s, blet_s, lit32, jgN, nI_add, mulN, subN, eqN, leN, ltN, clampN, updE, updN, put7, put7_no, cell7, many9] <;> rfl
    · simp (disch := omega) [ob_s, blet_s, lit32, jgN, nI_add, mulN, subN, eqN, leN, ltN, clampN, updE, updN, put7, put7_no, cell7, many9] <;> rfl
    · rw [cwE]
      exact Rel_play hR (fun k _ h => updN (by omega)) (InvN_play hR.1 (fun k _ h => updN (by omega)) (by show rg (upd N 153 p1 153) 0 9; rw [updE rfl]; exact hp))
  · rw [e]
    exact ⟨(-2, _, cw 153 N), (-2, N, _), rfl, rfl, rfl, Rel_rf _ hR⟩
