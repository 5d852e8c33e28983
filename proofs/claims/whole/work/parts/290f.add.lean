theorem pv_arm (u : Nat) (hu : 4000000 ≤ u) (N K Z rf : Nat → Int32) (sg : Int32) (Lm : Nat → Int64) (S cal cbl : Nat → Int32)  (p1 p2 p3 : Int32)(hR : RelC N K Z rf sg Lm S cal cbl) : ∃ (rc : Int32 × (Nat → Int32) × Int32 × (Nat → Int32)) (rm : Int32 × (Nat → Int32) × (Nat → Int32)), fX8_arm p1 p2 p3 rf (N 392) (cw 0 N) = some rc ∧ fX9_arm p1 p2 p3 N rf = some rm ∧ rc.1 = rm.1 ∧ RelAll rm.2.1 K Z rm.2.2 sg Lm S rc.2.2.1 (N 393) (N 394) (4 : Int32) (1 : Int32) (N 395) (1 : Int32) (N 396) (N 397) (1 : Int32) (3 : Int32) (8 : Int32) (N 191) rc.2.2.2 (cw 12 N) (cw 24 N) (cw 40 N) (cw 48 N) (cw 50 N) (cw 98 N) (cw 99 N) (cw 147 N) (cw 153 N) (cw 154 N) (cw 175 N) (cw 192 N) rc.2.1 sg (S 0) (S 1) cal cbl := by
  unfold fX8_arm fX9_arm fX8_arm_b24
  rw [isArm9, fits0, fits1, fits2]
  rcases wi p1 20 90 (A := 20) (B := 90) rfl rfl with ⟨e1, h1⟩ | ⟨e1, h1⟩
  · rcases wi p2 1 99 (A := 1) (B := 99) rfl rfl with ⟨e2, h2⟩ | ⟨e2, h2⟩
    · rcases wi p3 0 9 (A := 0) (B := 9) rfl rfl with ⟨e3, h3⟩ | ⟨e3, h3⟩
      · rw [e1, e2, e3]
        obtain ⟨r, er, -, hr, -⟩ := rg_nI hR.1.1.1 (by decide)
        simp only [ob_s, if_neg (show ¬ (1 : Int32) = 0 by decide)]
        by_cases hcap : r = 4
        · refine ⟨(-4, upd rf 2 (rf 2 + 1), N 392, cw 0 N), (-4, N, upd rf 2 (rf 2 + 1)), ?_, ?_, rfl, Rel_rf _ hR⟩
          · rw [er, show (3 : Int32) = nI 3 from rfl, added8 (by omega) (by omega), if_neg (by omega)]
            rfl
          · simp (disch := omega) [ob_s, blet_s, lit32, many9, er, hcap, full9]
        · refine ⟨(N 392, rf, nI (r + 1), (upd (upd (upd (cw 0 N) (r * 3) p1) (r * 3 + 1) p2) (r * 3 + 2) p3)), (N 392, (upd (upd (upd (upd N (3 * r) p1) (3 * r + 1) p2) (3 * r + 2) p3) 392 (N 392 + 1)), rf), ?_, ?_, rfl, ?_⟩
          · rw [er, show (3 : Int32) = nI 3 from rfl, added8 (by omega) (by omega), if_pos (by omega), app7_3 (by omega) (by omega)]
            rfl
          · simp (disch := omega) [ob_s, blet_s, lit32, many9, er, eqN, hcap, nI_add, mulN, notes9, jgN, clampN, updN, updE]
          · have hn : (N 392 + 1 : Int32) = nI (r + 1) := by rw [er]; exact nI_1 r
            have hn2 : (nI (r + 1)).toInt = ((r + 1 : Nat) : Int) := nI_toInt (by omega)
            have hn3 : (N 392).toInt = (r : Int) := by rw [er]; exact nI_toInt (by omega)
            dsimp only
            have hrow : (upd (upd (upd (upd N (3 * r) p1) (3 * r + 1) p2) (3 * r + 2) p3) 392 (N 392 + 1)) 392 = nI (r + 1) := by simp (disch := omega) only [updE, updN, hn]
            refine Rel2_arms hR (fun k _ h h2 => by simp (disch := omega) only [updN]) (InvN_arms hR.1 (fun k _ h h2 => by simp (disch := omega) only [updN]) ?_ (fun i hi => ?_)) hrow.symm (fun k hk => ?_)
            · rw [hrow]; exact rg_of (by omega) (by omega) (by omega)
            · rw [hrow, hn2] at hi
              by_cases hir : i = r
              · subst hir
                simp (disch := omega) only [updE, updN]
                exact ⟨h1, h2, h3⟩
              · have g := hR.1.2.1 i (by omega)
                simp (disch := omega) only [updN]
                exact g
            · rw [row3, updN (k := 392) (by omega)]
              simp only [Nat.zero_add]
      · rw [e1, e2, e3]
        exact ⟨(-2, _, N 392, cw 0 N), (-2, N, _), rfl, rfl, rfl, Rel_rf _ hR⟩
    · rw [e1, e2]
      exact ⟨(-2, _, N 392, cw 0 N), (-2, N, _), rfl, rfl, rfl, Rel_rf _ hR⟩
  · rw [e1]
    exact ⟨(-2, _, N 392, cw 0 N), (-2, N, _), rfl, rfl, rfl, Rel_rf _ hR⟩
theorem pv_hook (u : Nat) (hu : 4000000 ≤ u) (N K Z rf : Nat → Int32) (sg : Int32) (Lm : Nat → Int64) (S cal cbl : Nat → Int32)  (p1 p2 p3 : Int32)(hR : RelC N K Z rf sg Lm S cal cbl) : ∃ (rc : Int32 × (Nat → Int32) × Int32 × (Nat → Int32)) (rm : Int32 × (Nat → Int32) × (Nat → Int32)), fX8_hook p1 p2 p3 rf (N 393) (cw 12 N) = some rc ∧ fX9_hook p1 p2 p3 N rf = some rm ∧ rc.1 = rm.1 ∧ RelAll rm.2.1 K Z rm.2.2 sg Lm S (N 392) rc.2.2.1 (N 394) (4 : Int32) (1 : Int32) (N 395) (1 : Int32) (N 396) (N 397) (1 : Int32) (3 : Int32) (8 : Int32) (N 191) (cw 0 N) rc.2.2.2 (cw 24 N) (cw 40 N) (cw 48 N) (cw 50 N) (cw 98 N) (cw 99 N) (cw 147 N) (cw 153 N) (cw 154 N) (cw 175 N) (cw 192 N) rc.2.1 sg (S 0) (S 1) cal cbl := by
  unfold fX8_hook fX9_hook fX8_hook_b25
  rw [isHook9, fits3, fits4]
  rcases wi p1 0 99 (A := 0) (B := 99) rfl rfl with ⟨e1, h1⟩ | ⟨e1, h1⟩
  · rcases wi p2 0 99 (A := 0) (B := 99) rfl rfl with ⟨e2, h2⟩ | ⟨e2, h2⟩
    · rcases wi p3 0 p1 (A := 0) (B := p1.toInt) rfl rfl with ⟨e3, h3⟩ | ⟨e3, h3⟩
      · rw [e1, e2, e3]
        obtain ⟨r, er, -, hr, -⟩ := rg_nI hR.1.1.2.1 (by decide)
        simp only [ob_s, if_neg (show ¬ (1 : Int32) = 0 by decide)]
        by_cases hcap : r = 4
        · refine ⟨(-4, upd rf 2 (rf 2 + 1), N 393, cw 12 N), (-4, N, upd rf 2 (rf 2 + 1)), ?_, ?_, rfl, Rel_rf _ hR⟩
          · rw [er, show (3 : Int32) = nI 3 from rfl, added8 (by omega) (by omega), if_neg (by omega)]
            rfl
          · simp (disch := omega) [ob_s, blet_s, lit32, many9, er, hcap, full9]
        · refine ⟨(N 393, rf, nI (r + 1), (upd (upd (upd (cw 12 N) (r * 3) p1) (r * 3 + 1) p2) (r * 3 + 2) p3)), (N 393, (upd (upd (upd (upd N (12 + 3 * r) p1) (12 + 3 * r + 1) p2) (12 + 3 * r + 2) p3) 393 (N 393 + 1)), rf), ?_, ?_, rfl, ?_⟩
          · rw [er, show (3 : Int32) = nI 3 from rfl, added8 (by omega) (by omega), if_pos (by omega), app7_3 (by omega) (by omega)]
            rfl
          · simp (disch := omega) [ob_s, blet_s, lit32, many9, er, eqN, hcap, nI_add, mulN, notes9, jgN, clampN, updN, updE]
          · have hn : (N 393 + 1 : Int32) = nI (r + 1) := by rw [er]; exact nI_1 r
            have hn2 : (nI (r + 1)).toInt = ((r + 1 : Nat) : Int) := nI_toInt (by omega)
            have hn3 : (N 393).toInt = (r : Int) := by rw [er]; exact nI_toInt (by omega)
            dsimp only
            have hrow : (upd (upd (upd (upd N (12 + 3 * r) p1) (12 + 3 * r + 1) p2) (12 + 3 * r + 2) p3) 393 (N 393 + 1)) 393 = nI (r + 1) := by simp (disch := omega) only [updE, updN, hn]
            refine Rel2_hooks hR (fun k _ h h2 => by simp (disch := omega) only [updN]) (InvN_hooks hR.1 (fun k _ h h2 => by simp (disch := omega) only [updN]) ?_ (fun i hi => ?_)) hrow.symm (fun k hk => ?_)
            · rw [hrow]; exact rg_of (by omega) (by omega) (by omega)
            · rw [hrow, hn2] at hi
              by_cases hir : i = r
              · subst hir
                simp (disch := omega) only [updE, updN]
                exact ⟨h1, h2, h3⟩
              · have g := hR.1.2.2.1 i (by omega)
                simp (disch := omega) only [updN]
                exact g
            · rw [row3, updN (k := 393) (by omega)]
      · rw [e1, e2, e3]
        exact ⟨(-2, _, N 393, cw 12 N), (-2, N, _), rfl, rfl, rfl, Rel_rf _ hR⟩
    · rw [e1, e2]
      exact ⟨(-2, _, N 393, cw 12 N), (-2, N, _), rfl, rfl, rfl, Rel_rf _ hR⟩
  · rw [e1]
    exact ⟨(-2, _, N 393, cw 12 N), (-2, N, _), rfl, rfl, rfl, Rel_rf _ hR⟩
theorem pv_dart (u : Nat) (hu : 4000000 ≤ u) (N K Z rf : Nat → Int32) (sg : Int32) (Lm : Nat → Int64) (S cal cbl : Nat → Int32)  (p1 p2 p3 p4 : Int32)(hR : RelC N K Z rf sg Lm S cal cbl) : ∃ (rc : Int32 × (Nat → Int32) × Int32 × (Nat → Int32)) (rm : Int32 × (Nat → Int32) × (Nat → Int32)), fX8_dart p1 p2 p3 p4 rf (N 394) (cw 24 N) = some rc ∧ fX9_dart p1 p2 p3 p4 N rf = some rm ∧ rc.1 = rm.1 ∧ RelAll rm.2.1 K Z rm.2.2 sg Lm S (N 392) (N 393) rc.2.2.1 (4 : Int32) (1 : Int32) (N 395) (1 : Int32) (N 396) (N 397) (1 : Int32) (3 : Int32) (8 : Int32) (N 191) (cw 0 N) (cw 12 N) rc.2.2.2 (cw 40 N) (cw 48 N) (cw 50 N) (cw 98 N) (cw 99 N) (cw 147 N) (cw 153 N) (cw 154 N) (cw 175 N) (cw 192 N) rc.2.1 sg (S 0) (S 1) cal cbl := by
  unfold fX8_dart fX9_dart fX8_dart_b37
  rw [isDart9, fits6, fits7, fits8, fits9]
  rcases wi p1 20 300 (A := 20) (B := 300) rfl rfl with ⟨e1, h1⟩ | ⟨e1, h1⟩
  · rcases wi p2 1 99 (A := 1) (B := 99) rfl rfl with ⟨e2, h2⟩ | ⟨e2, h2⟩
    · rcases wi p3 0 60 (A := 0) (B := 60) rfl rfl with ⟨e3, h3⟩ | ⟨e3, h3⟩
      · rcases wi p4 0 9 (A := 0) (B := 9) rfl rfl with ⟨e4, h4⟩ | ⟨e4, h4⟩
        · rw [e1, e2, e3, e4]
          obtain ⟨r, er, -, hr, -⟩ := rg_nI hR.1.1.2.2.1 (by decide)
          simp only [ob_s, if_neg (show ¬ (1 : Int32) = 0 by decide)]
          by_cases hcap : r = 4
          · refine ⟨(-4, upd rf 2 (rf 2 + 1), N 394, cw 24 N), (-4, N, upd rf 2 (rf 2 + 1)), ?_, ?_, rfl, Rel_rf _ hR⟩
            · rw [er, show (4 : Int32) = nI 4 from rfl, added8 (by omega) (by omega), if_neg (by omega)]
              rfl
            · simp (disch := omega) [ob_s, blet_s, lit32, many9, er, hcap, full9]
          · refine ⟨(N 394, rf, nI (r + 1), (upd (upd (upd (upd (cw 24 N) (r * 4) p1) (r * 4 + 1) p2) (r * 4 + 2) p3) (r * 4 + 3) p4)), (N 394, (upd (upd (upd (upd (upd N (24 + 4 * r) p1) (24 + 4 * r + 1) p2) (24 + 4 * r + 2) p3) (24 + 4 * r + 3) p4) 394 (N 394 + 1)), rf), ?_, ?_, rfl, ?_⟩
            · rw [er, show (4 : Int32) = nI 4 from rfl, added8 (by omega) (by omega), if_pos (by omega), app7_4 (by omega) (by omega)]
              rfl
            · simp (disch := omega) [ob_s, blet_s, lit32, many9, er, eqN, hcap, nI_add, mulN, notes9, jgN, clampN, updN, updE]
            · have hn : (N 394 + 1 : Int32) = nI (r + 1) := by rw [er]; exact nI_1 r
              have hn2 : (nI (r + 1)).toInt = ((r + 1 : Nat) : Int) := nI_toInt (by omega)
              have hn3 : (N 394).toInt = (r : Int) := by rw [er]; exact nI_toInt (by omega)
              dsimp only
              have hrow : (upd (upd (upd (upd (upd N (24 + 4 * r) p1) (24 + 4 * r + 1) p2) (24 + 4 * r + 2) p3) (24 + 4 * r + 3) p4) 394 (N 394 + 1)) 394 = nI (r + 1) := by simp (disch := omega) only [updE, updN, hn]
              refine Rel2_darts hR (fun k _ h h2 => by simp (disch := omega) only [updN]) (InvN_darts hR.1 (fun k _ h h2 => by simp (disch := omega) only [updN]) ?_ (fun i hi => ?_)) hrow.symm (fun k hk => ?_)
              · rw [hrow]; exact rg_of (by omega) (by omega) (by omega)
              · rw [hrow, hn2] at hi
                by_cases hir : i = r
                · subst hir
                  simp (disch := omega) only [updE, updN]
                  exact ⟨h1, h2, h3, h4⟩
                · have g := hR.1.2.2.2.1 i (by omega)
                  simp (disch := omega) only [updN]
                  exact g
              · rw [row4, updN (k := 394) (by omega)]
        · rw [e1, e2, e3, e4]
          exact ⟨(-2, _, N 394, cw 24 N), (-2, N, _), rfl, rfl, rfl, Rel_rf _ hR⟩
      · rw [e1, e2, e3]
        exact ⟨(-2, _, N 394, cw 24 N), (-2, N, _), rfl, rfl, rfl, Rel_rf _ hR⟩
    · rw [e1, e2]
      exact ⟨(-2, _, N 394, cw 24 N), (-2, N, _), rfl, rfl, rfl, Rel_rf _ hR⟩
  · rw [e1]
    exact ⟨(-2, _, N 394, cw 24 N), (-2, N, _), rfl, rfl, rfl, Rel_rf _ hR⟩
theorem pv_person (u : Nat) (hu : 4000000 ≤ u) (N K Z rf : Nat → Int32) (sg : Int32) (Lm : Nat → Int64) (S cal cbl : Nat → Int32)  (p1 p2 p3 : Int32)(hR : RelC N K Z rf sg Lm S cal cbl) : ∃ (rc : Int32 × (Nat → Int32) × Int32 × (Nat → Int32)) (rm : Int32 × (Nat → Int32) × (Nat → Int32)), fX8_person p1 p2 p3 rf (N 395) (cw 50 N) = some rc ∧ fX9_person p1 p2 p3 N rf = some rm ∧ rc.1 = rm.1 ∧ RelAll rm.2.1 K Z rm.2.2 sg Lm S (N 392) (N 393) (N 394) (4 : Int32) (1 : Int32) rc.2.2.1 (1 : Int32) (N 396) (N 397) (1 : Int32) (3 : Int32) (8 : Int32) (N 191) (cw 0 N) (cw 12 N) (cw 24 N) (cw 40 N) (cw 48 N) rc.2.2.2 (cw 98 N) (cw 99 N) (cw 147 N) (cw 153 N) (cw 154 N) (cw 175 N) (cw 192 N) rc.2.1 sg (S 0) (S 1) cal cbl := by
  unfold fX8_person fX9_person fX8_person_b20 fX8_person_b46 fX9_person_b22 fX9_person_b69
  rw [in_0_1, in_0_999]
  rcases wi p1 0 1 (A := 0) (B := 1) rfl rfl with ⟨e1, h1⟩ | ⟨e1, h1⟩
  · rcases wi p2 0 999 (A := 0) (B := 999) rfl rfl with ⟨e2, h2⟩ | ⟨e2, h2⟩
    · rw [e1, e2]
      obtain ⟨r, er, -, hr, -⟩ := rg_nI hR.1.1.2.2.2.1 (by decide)
      simp only [ob_s, if_neg (show ¬ (1 : Int32) = 0 by decide)]
      by_cases hp : p3 = 0
      · simp only [if_pos hp]
        have hf : rg (0 : Int32) 0 1 := ⟨by decide, by decide⟩
        by_cases hcap : r = 16
        · refine ⟨(-4, upd rf 2 (rf 2 + 1), N 395, cw 50 N), (-4, N, upd rf 2 (rf 2 + 1)), ?_, ?_, rfl, Rel_rf _ hR⟩
          · rw [er, show (3 : Int32) = nI 3 from rfl, added8 (by omega) (by omega), if_neg (by omega)]
            rfl
          · simp (disch := omega) [ob_s, blet_s, lit32, many9, er, hcap, full9]
        · refine ⟨(N 395, rf, nI (r + 1), (upd (upd (upd (cw 50 N) (r * 3) p1) (r * 3 + 1) p2) (r * 3 + 2) (0 : Int32))), (N 395, (upd (upd (upd (upd N (50 + 3 * r) p1) (50 + 3 * r + 1) p2) (50 + 3 * r + 2) (0 : Int32)) 395 (N 395 + 1)), rf), ?_, ?_, rfl, ?_⟩
          · rw [er, show (3 : Int32) = nI 3 from rfl, added8 (by omega) (by omega), if_pos (by omega), app7_3 (by omega) (by omega)]
            rfl
          · simp (disch := omega) [ob_s, blet_s, lit32, many9, er, eqN, hcap, nI_add, mulN, notes9, jgN, clampN, updN, updE]
          · have hn : (N 395 + 1 : Int32) = nI (r + 1) := by rw [er]; exact nI_1 r
            have hn2 : (nI (r + 1)).toInt = ((r + 1 : Nat) : Int) := nI_toInt (by omega)
            have hn3 : (N 395).toInt = (r : Int) := by rw [er]; exact nI_toInt (by omega)
            dsimp only
            have hrow : (upd (upd (upd (upd N (50 + 3 * r) p1) (50 + 3 * r + 1) p2) (50 + 3 * r + 2) (0 : Int32)) 395 (N 395 + 1)) 395 = nI (r + 1) := by simp (disch := omega) only [updE, updN, hn]
            refine Rel2_people hR (fun k _ h h2 => by simp (disch := omega) only [updN]) (InvN_people hR.1 (fun k _ h h2 => by simp (disch := omega) only [updN]) ?_ (fun i hi => ?_)) hrow.symm (fun k hk => ?_)
            · rw [hrow]; exact rg_of (by omega) (by omega) (by omega)
            · rw [hrow, hn2] at hi
              by_cases hir : i = r
              · subst hir
                simp (disch := omega) only [updE, updN]
                exact ⟨h1, h2, hf⟩
              · have g := hR.1.2.2.2.2.2.2.1 i (by omega)
                simp (disch := omega) only [updN]
                exact g
            · rw [row3, updN (k := 395) (by omega)]
      · simp only [if_neg hp]
        have hf : rg (1 : Int32) 0 1 := ⟨by decide, by decide⟩
        by_cases hcap : r = 16
        · refine ⟨(-4, upd rf 2 (rf 2 + 1), N 395, cw 50 N), (-4, N, upd rf 2 (rf 2 + 1)), ?_, ?_, rfl, Rel_rf _ hR⟩
          · rw [er, show (3 : Int32) = nI 3 from rfl, added8 (by omega) (by omega), if_neg (by omega)]
            rfl
          · simp (disch := omega) [ob_s, blet_s, lit32, many9, er, hcap, full9]
        · refine ⟨(N 395, rf, nI (r + 1), (upd (upd (upd (cw 50 N) (r * 3) p1) (r * 3 + 1) p2) (r * 3 + 2) (1 : Int32))), (N 395, (upd (upd (upd (upd N (50 + 3 * r) p1) (50 + 3 * r + 1) p2) (50 + 3 * r + 2) (1 : Int32)) 395 (N 395 + 1)), rf), ?_, ?_, rfl, ?_⟩
          · rw [er, show (3 : Int32) = nI 3 from rfl, added8 (by omega) (by omega), if_pos (by omega), app7_3 (by omega) (by omega)]
            rfl
          · simp (disch := omega) [ob_s, blet_s, lit32, many9, er, eqN, hcap, nI_add, mulN, notes9, jgN, clampN, updN, updE]
          · have hn : (N 395 + 1 : Int32) = nI (r + 1) := by rw [er]; exact nI_1 r
            have hn2 : (nI (r + 1)).toInt = ((r + 1 : Nat) : Int) := nI_toInt (by omega)
            have hn3 : (N 395).toInt = (r : Int) := by rw [er]; exact nI_toInt (by omega)
            dsimp only
            have hrow : (upd (upd (upd (upd N (50 + 3 * r) p1) (50 + 3 * r + 1) p2) (50 + 3 * r + 2) (1 : Int32)) 395 (N 395 + 1)) 395 = nI (r + 1) := by simp (disch := omega) only [updE, updN, hn]
            refine Rel2_people hR (fun k _ h h2 => by simp (disch := omega) only [updN]) (InvN_people hR.1 (fun k _ h h2 => by simp (disch := omega) only [updN]) ?_ (fun i hi => ?_)) hrow.symm (fun k hk => ?_)
            · rw [hrow]; exact rg_of (by omega) (by omega) (by omega)
            · rw [hrow, hn2] at hi
              by_cases hir : i = r
              · subst hir
                simp (disch := omega) only [updE, updN]
                exact ⟨h1, h2, hf⟩
              · have g := hR.1.2.2.2.2.2.2.1 i (by omega)
                simp (disch := omega) only [updN]
                exact g
            · rw [row3, updN (k := 395) (by omega)]
    · rw [e1, e2]
      exact ⟨(-2, _, N 395, cw 50 N), (-2, N, _), rfl, rfl, rfl, Rel_rf _ hR⟩
  · rw [e1]
    exact ⟨(-2, _, N 395, cw 50 N), (-2, N, _), rfl, rfl, rfl, Rel_rf _ hR⟩
theorem pv_thorn (u : Nat) (hu : 4000000 ≤ u) (N K Z rf : Nat → Int32) (sg : Int32) (Lm : Nat → Int64) (S cal cbl : Nat → Int32)  (p1 p2 p3 p4 : Int32)(hR : RelC N K Z rf sg Lm S cal cbl) : ∃ (rc : Int32 × (Nat → Int32) × Int32 × (Nat → Int32)) (rm : Int32 × (Nat → Int32) × (Nat → Int32)), fX8_thorn p1 p2 p3 p4 rf (N 396) (cw 99 N) = some rc ∧ fX9_thorn p1 p2 p3 p4 N rf = some rm ∧ rc.1 = rm.1 ∧ RelAll rm.2.1 K Z rm.2.2 sg Lm S (N 392) (N 393) (N 394) (4 : Int32) (1 : Int32) (N 395) (1 : Int32) rc.2.2.1 (N 397) (1 : Int32) (3 : Int32) (8 : Int32) (N 191) (cw 0 N) (cw 12 N) (cw 24 N) (cw 40 N) (cw 48 N) (cw 50 N) (cw 98 N) rc.2.2.2 (cw 147 N) (cw 153 N) (cw 154 N) (cw 175 N) (cw 192 N) rc.2.1 sg (S 0) (S 1) cal cbl := by
  unfold fX8_thorn fX9_thorn fX8_thorn_b39 fX9_thorn_b47
  rw [in_1_99, in_0_3, in_1_30, in_0_1]
  rcases wi p1 1 99 (A := 1) (B := 99) rfl rfl with ⟨e1, h1⟩ | ⟨e1, h1⟩
  · rcases wi p2 0 3 (A := 0) (B := 3) rfl rfl with ⟨e2, h2⟩ | ⟨e2, h2⟩
    · rcases wi p3 1 30 (A := 1) (B := 30) rfl rfl with ⟨e3, h3⟩ | ⟨e3, h3⟩
      · rcases wi p4 0 1 (A := 0) (B := 1) rfl rfl with ⟨e4, h4⟩ | ⟨e4, h4⟩
        · rw [e1, e2, e3, e4]
          obtain ⟨r, er, -, hr, -⟩ := rg_nI hR.1.1.2.2.2.2.1 (by decide)
          simp only [ob_s, if_neg (show ¬ (1 : Int32) = 0 by decide)]
          by_cases hcap : r = 12
          · refine ⟨(-4, upd rf 2 (rf 2 + 1), N 396, cw 99 N), (-4, N, upd rf 2 (rf 2 + 1)), ?_, ?_, rfl, Rel_rf _ hR⟩
            · rw [er, show (4 : Int32) = nI 4 from rfl, added8 (by omega) (by omega), if_neg (by omega)]
              rfl
            · simp (disch := omega) [ob_s, blet_s, lit32, many9, er, hcap, full9]
          · refine ⟨(N 396, rf, nI (r + 1), (upd (upd (upd (upd (cw 99 N) (r * 4) p1) (r * 4 + 1) p2) (r * 4 + 2) p3) (r * 4 + 3) p4)), (N 396, (upd (upd (upd (upd (upd N (99 + 4 * r) p1) (99 + 4 * r + 1) p2) (99 + 4 * r + 2) p3) 396 (N 396 + 1)) (99 + 4 * r + 3) p4), rf), ?_, ?_, rfl, ?_⟩
            · rw [er, show (4 : Int32) = nI 4 from rfl, added8 (by omega) (by omega), if_pos (by omega), app7_4 (by omega) (by omega)]
              rfl
            · simp (disch := omega) [ob_s, blet_s, lit32, many9, er, eqN, hcap, nI_add, mulN, notes9, jgN, clampN, updN, updE]
            · have hn : (N 396 + 1 : Int32) = nI (r + 1) := by rw [er]; exact nI_1 r
              have hn2 : (nI (r + 1)).toInt = ((r + 1 : Nat) : Int) := nI_toInt (by omega)
              have hn3 : (N 396).toInt = (r : Int) := by rw [er]; exact nI_toInt (by omega)
              dsimp only
              have hrow : (upd (upd (upd (upd (upd N (99 + 4 * r) p1) (99 + 4 * r + 1) p2) (99 + 4 * r + 2) p3) 396 (N 396 + 1)) (99 + 4 * r + 3) p4) 396 = nI (r + 1) := by simp (disch := omega) only [updE, updN, hn]
              refine Rel2_thorns hR (fun k _ h h2 => by simp (disch := omega) only [updN]) (InvN_thorns hR.1 (fun k _ h h2 => by simp (disch := omega) only [updN]) ?_ (fun i hi => ?_)) hrow.symm (fun k hk => ?_)
              · rw [hrow]; exact rg_of (by omega) (by omega) (by omega)
              · rw [hrow, hn2] at hi
                by_cases hir : i = r
                · subst hir
                  simp (disch := omega) only [updE, updN]
                  exact ⟨h1, h2, h3, h4⟩
                · have g := hR.1.2.2.2.2.2.2.2.2.1 i (by omega)
                  simp (disch := omega) only [updN]
                  exact g
              · rw [row4]
                unfold upd
                by_cases q1 : 99 + k = 99 + 4 * r + 3
                · rw [if_pos q1, if_pos q1]
                · rw [if_neg q1, if_neg q1, if_neg (show ¬ 99 + k = 396 by omega)]
        · rw [e1, e2, e3, e4]
          exact ⟨(-2, _, N 396, cw 99 N), (-2, N, _), rfl, rfl, rfl, Rel_rf _ hR⟩
      · rw [e1, e2, e3]
        exact ⟨(-2, _, N 396, cw 99 N), (-2, N, _), rfl, rfl, rfl, Rel_rf _ hR⟩
    · rw [e1, e2]
      exact ⟨(-2, _, N 396, cw 99 N), (-2, N, _), rfl, rfl, rfl, Rel_rf _ hR⟩
  · rw [e1]
    exact ⟨(-2, _, N 396, cw 99 N), (-2, N, _), rfl, rfl, rfl, Rel_rf _ hR⟩
theorem pv_butt (u : Nat) (hu : 4000000 ≤ u) (N K Z rf : Nat → Int32) (sg : Int32) (Lm : Nat → Int64) (S cal cbl : Nat → Int32)  (p1 : Int32)(hR : RelC N K Z rf sg Lm S cal cbl) : ∃ (rc : Int32 × (Nat → Int32) × Int32 × (Nat → Int32)) (rm : Int32 × (Nat → Int32) × (Nat → Int32)), fX8_butt p1 rf (N 397) (cw 147 N) = some rc ∧ fX9_butt p1 N rf = some rm ∧ rc.1 = rm.1 ∧ RelAll rm.2.1 K Z rm.2.2 sg Lm S (N 392) (N 393) (N 394) (4 : Int32) (1 : Int32) (N 395) (1 : Int32) (N 396) rc.2.2.1 (1 : Int32) (3 : Int32) (8 : Int32) (N 191) (cw 0 N) (cw 12 N) (cw 24 N) (cw 40 N) (cw 48 N) (cw 50 N) (cw 98 N) (cw 99 N) rc.2.2.2 (cw 153 N) (cw 154 N) (cw 175 N) (cw 192 N) rc.2.1 sg (S 0) (S 1) cal cbl := by
  unfold fX8_butt fX9_butt
  rw [in_1_30]
  rcases wi p1 1 30 (A := 1) (B := 30) rfl rfl with ⟨e1, h1⟩ | ⟨e1, h1⟩
  · rw [e1]
    obtain ⟨r, er, -, hr, -⟩ := rg_nI hR.1.1.2.2.2.2.2.1 (by decide)
    simp only [ob_s, if_neg (show ¬ (1 : Int32) = 0 by decide)]
    by_cases hcap : r = 6
    · refine ⟨(-4, upd rf 2 (rf 2 + 1), N 397, cw 147 N), (-4, N, upd rf 2 (rf 2 + 1)), ?_, ?_, rfl, Rel_rf _ hR⟩
      · rw [er, show (1 : Int32) = nI 1 from rfl, added8 (by omega) (by omega), if_neg (by omega)]
        rfl
      · simp (disch := omega) [ob_s, blet_s, lit32, many9, er, hcap, full9]
    · refine ⟨(N 397, rf, nI (r + 1), (upd (cw 147 N) r p1)), (N 397, (upd (upd N (147 + r) p1) 397 (N 397 + 1)), rf), ?_, ?_, rfl, ?_⟩
      · rw [er, show (1 : Int32) = nI 1 from rfl, added8 (by omega) (by omega), if_pos (by omega), app7_1 (by omega) (by omega)]
        rfl
      · simp (disch := omega) [ob_s, blet_s, lit32, many9, er, eqN, hcap, nI_add, mulN, notes9, jgN, clampN, updN, updE]
      · have hn : (N 397 + 1 : Int32) = nI (r + 1) := by rw [er]; exact nI_1 r
        have hn2 : (nI (r + 1)).toInt = ((r + 1 : Nat) : Int) := nI_toInt (by omega)
        have hn3 : (N 397).toInt = (r : Int) := by rw [er]; exact nI_toInt (by omega)
        dsimp only
        have hrow : (upd (upd N (147 + r) p1) 397 (N 397 + 1)) 397 = nI (r + 1) := by simp (disch := omega) only [updE, updN, hn]
        refine Rel2_butts hR (fun k _ h h2 => by simp (disch := omega) only [updN]) (InvN_butts hR.1 (fun k _ h h2 => by simp (disch := omega) only [updN]) ?_ (fun i hi => ?_)) hrow.symm (fun k hk => ?_)
        · rw [hrow]; exact rg_of (by omega) (by omega) (by omega)
        · rw [hrow, hn2] at hi
          by_cases hir : i = r
          · subst hir
            simp (disch := omega) only [updE, updN]
            exact h1
          · have g := hR.1.2.2.2.2.2.2.2.2.2.1 i (by omega)
            simp (disch := omega) only [updN]
            exact g
        · rw [cwE, updN (k := 397) (by omega)]
          rfl
  · rw [e1]
    exact ⟨(-2, _, N 397, cw 147 N), (-2, N, _), rfl, rfl, rfl, Rel_rf _ hR⟩
