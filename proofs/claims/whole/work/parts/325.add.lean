theorem pv_arm (u : Nat) (hu : 4000000 ≤ u) (N K Z rf : Nat → Int32) (sg : Int32) (Lm : Nat → Int64) (S cal cbl : Nat → Int32)  (p1 p2 p3 : Int32)(hR : RelC N K Z rf sg Lm S cal cbl) : ∃ (rc : Int32 × (Nat → Int32) × Int32 × (Nat → Int32)) (rm : Int32 × (Nat → Int32) × (Nat → Int32)), fX8_arm p1 p2 p3 rf (N 392) (cw 0 N) = some rc ∧ fX9_arm p1 p2 p3 N rf = some rm ∧ rc.1 = rm.1 ∧ RelAll rm.2.1 K Z rm.2.2 sg Lm S rc.2.2.1 (N 393) (N 394) (4 : Int32) (1 : Int32) (N 395) (1 : Int32) (N 396) (N 397) (1 : Int32) (3 : Int32) (8 : Int32) (N 191) rc.2.2.2 (cw 12 N) (cw 24 N) (cw 40 N) (cw 48 N) (cw 50 N) (cw 98 N) (cw 99 N) (cw 147 N) (cw 153 N) (cw 154 N) (cw 175 N) (cw 192 N) rc.2.1 sg (S 0) (S 1) cal cbl := by
  unfold fX8_arm fX9_arm fX8_arm_b24
  rw [isArm9, fits0, fits1, fits2]
  rcases wi p1 20 90 (A := 20) (B := 90) rfl rfl with ⟨e1, h1⟩ | ⟨e1, h1⟩
  · rcases wi p2 1 99 (A := 1) (B := 99) rfl rfl with ⟨e2, h2⟩ | ⟨e2, h2⟩
    · rcases wi p3 0 9 (A := 0) (B := 9) rfl rfl with ⟨e3, h3⟩ | ⟨e3, h3⟩
      · rw [e1, e2, e3]
        obtain ⟨r, er, -, hr, -⟩ := rg_nI hR.1.1.1 (by decide)
        simp only [ob_s, if_neg (show ¬ (1 : Int32) = 0 by decide)]
        by_cases h4 : r = 4
        · refine ⟨(-4, upd rf 2 (rf 2 + 1), N 392, cw 0 N), (-4, N, upd rf 2 (rf 2 + 1)), ?_, ?_, rfl, Rel_rf _ hR⟩
          · rw [er, show (3 : Int32) = nI 3 from rfl, added8 (by omega) (by omega), if_neg (by omega)]
            rfl
          · simp (disch := omega) [ob_s, blet_s, lit32, many9, er, h4, full9]
        · refine ⟨(N 392, rf, nI (r + 1), (upd (upd (upd (cw 0 N) (r * 3) p1) (r * 3 + 1) p2) (r * 3 + 2) p3)), (N 392, (upd (upd (upd (upd N (3 * r) p1) (3 * r + 1) p2) (3 * r + 2) p3) 392 (N 392 + 1)), rf), ?_, ?_, rfl, ?_⟩
          · rw [er, show (3 : Int32) = nI 3 from rfl, added8 (by omega) (by omega), if_pos (by omega), app7_3 (by omega) (by omega)]
            rfl
          · simp (disch := omega) [ob_s, blet_s, lit32, many9, er, eqN, h4, nI_add, mulN, notes9, jgN, clampN, updN, updE]
          · have hn : (N 392 + 1 : Int32) = nI (r + 1) := by rw [er]; exact nI_1 r
            have hn2 : (nI (r + 1)).toInt = ((r + 1 : Nat) : Int) := nI_toInt (by omega)
            have hn3 : (N 392).toInt = (r : Int) := by rw [er]; exact nI_toInt (by omega)
            dsimp only
            have hrow : (upd (upd (upd (upd N (3 * r) p1) (3 * r + 1) p2) (3 * r + 2) p3) 392 (N 392 + 1)) 392 = nI (r + 1) := by simp (disch := omega) only [updE, updN, hn]
            refine Rel2_arms hR (fun k _ h h2 => by simp (disch := omega) only [updN]) (InvN_arms hR.1 (fun k _ h h2 => by simp (disch := omega) only [updN]) ?_ (fun i hi => ?_)) hrow.symm (fun k hk => ?_)
            · rw [hrow]; exact rg_of (by omega) (by omega) (by omega)
            · rw [hrow, hn2] at hi
              by_cases hir : i = r
              · subst hir
                simp (disch := omega) only [updE, updN]
                exact ⟨h1, h2, h3⟩
              · have g := hR.1.2.1 i (by omega)
                simp (disch := omega) only [updN]
                exact g
            · rw [row3, updN (k := 392) (by omega)]
              simp only [Nat.zero_add]
      · rw [e1, e2, e3]
        exact ⟨(-2, _, N 392, cw 0 N), (-2, N, _), rfl, rfl, rfl, Rel_rf _ hR⟩
    · rw [e1, e2]
      exact ⟨(-2, _, N 392, cw 0 N), (-2, N, _), rfl, rfl, rfl, Rel_rf _ hR⟩
  · rw [e1]
    exact ⟨(-2, _, N 392, cw 0 N), (-2, N, _), rfl, rfl, rfl, Rel_rf _ hR⟩
