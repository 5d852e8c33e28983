theorem pv_fling (u : Nat) (hu : 4000000 ≤ u) (N K Z rf : Nat → Int32) (sg : Int32) (Lm : Nat → Int64) (S cal cbl : Nat → Int32) (xlaunch_length xlaunch_weight xlaunch_place xlaunch_stiff xlaunch_angle xlaunch_pushes xlaunch_pace xlaunch_bend xlaunch_off xlaunch_range xlaunch_rise xlaunch_rounds xlaunch_heightThere : Int32) (xlaunch_told : Nat → Int32) (yreach ystrength ylag ylength yweight yplace ymass ystiff ytip ytail ypace ybend yoff yrise yrounds yx yy yvx yvy : Int32) (p1 p2 p3 p4 p5 p6 p7 : Int32)(hR : RelC N K Z rf sg Lm S cal cbl) : ∃ (rc : Int32 × Int32 × Int32 × Int32 × Int32 × Int32 × Int32 × Int32 × Int32 × Int32 × Int32 × Int32 × Int32 × Int32 × (Nat → Int32) × (Nat → Int32)) (rm : Int32 × Int32 × Int32 × Int32 × Int32 × Int32 × Int32 × Int32 × Int32 × Int32 × Int32 × Int32 × Int32 × Int32 × Int32 × Int32 × Int32 × Int32 × Int32 × Int32 × (Nat → Int32)), fX8_fling u p1 p2 p3 p4 p5 p6 p7 xlaunch_length xlaunch_weight xlaunch_place xlaunch_stiff xlaunch_angle xlaunch_pushes xlaunch_pace xlaunch_bend xlaunch_off xlaunch_range xlaunch_rise xlaunch_rounds xlaunch_heightThere rf xlaunch_told (N 392) (N 394) (N 393) (cw 0 N) (cw 24 N) (cw 12 N) = some rc ∧ fX9_fling u p1 p2 p3 p4 p5 p6 p7 yreach ystrength ylag ylength yweight yplace ymass ystiff ytip ytail ypace ybend yoff yrise yrounds yx yy yvx yvy N rf = some rm ∧ rc.1 = rm.1 ∧ RelAll N K Z rm.2.2.2.2.2.2.2.2.2.2.2.2.2.2.2.2.2.2.2.2 sg Lm S (N 392) (N 393) (N 394) (4 : Int32) (1 : Int32) (N 395) (1 : Int32) (N 396) (N 397) (1 : Int32) (3 : Int32) (8 : Int32) (N 191) (cw 0 N) (cw 12 N) (cw 24 N) (cw 40 N) (cw 48 N) (cw 50 N) (cw 98 N) (cw 99 N) (cw 147 N) (cw 153 N) (cw 154 N) (cw 175 N) (cw 192 N) rc.2.2.2.2.2.2.2.2.2.2.2.2.2.2.1 sg (S 0) (S 1) cal cbl := by
  unfold fX8_fling fX9_fling
  rw [fits10, fits11, in_0_6, in_0_19, in_0_5]
  rcases wi p1 0 6 (A := 0) (B := 6) rfl rfl with ⟨e1, h1⟩ | ⟨e1, h1⟩
  · rcases wi p2 0 19 (A := 0) (B := 19) rfl rfl with ⟨e2, h2⟩ | ⟨e2, h2⟩
    · rw [e1, e2, ob_s, if_neg one0, ob_s, if_neg one0, ob_s, if_neg one0, ob_s, if_neg one0]
      rcases wi p7 0 5 (A := 0) (B := 5) rfl rfl with ⟨e7, h7⟩ | ⟨e7, h7⟩
      · rcases ready_c hR.1 hu p3 p4 p5 p6 xlaunch_told with ⟨T, t, ea, k10, k11, hT, ht, r1, r2, r3⟩ | ⟨r1, r2⟩
        · rw [e7, ob_s, if_neg one0, r1, r2, ob_s, if_neg one0, ob_s, if_neg one0, ob_s, if_neg one0, r3, ob_s]
          obtain ⟨a, rfl, ha⟩ := rg_N (B := 6) h1
          obtain ⟨b, rfl, hb⟩ := rg_N (B := 19) h2
          have hT2 : TB (fun i => if i = 10 then a else if i = 11 then b else T i) := ⟨hT.1, hT.2.1, hT.2.2.1, hT.2.2.2.1, hT.2.2.2.2.1, hT.2.2.2.2.2.1, hT.2.2.2.2.2.2.1, hT.2.2.2.2.2.2.2.1, hT.2.2.2.2.2.2.2.2.1, hT.2.2.2.2.2.2.2.2.2.1, ha, hb, hT.2.2.2.2.2.2.2.2.2.2.2.2⟩
          have ht2 : ∀ i, i < 13 → upd (upd t 10 (nI a)) 11 (nI b) i = nI (if i = 10 then a else if i = 11 then b else T i) := by
            intro i hi
            by_cases c : i = 11
            · subst c; rfl
            · rw [updN c, if_neg c]
              by_cases c2 : i = 10
              · subst c2; rfl
              · rw [updN c2, if_neg c2]
                exact ht i hi
          have f1 := flyC_T hT2 hu _ ht2 0 xlaunch_length xlaunch_weight xlaunch_place xlaunch_stiff xlaunch_angle xlaunch_pushes xlaunch_pace xlaunch_bend xlaunch_off xlaunch_range xlaunch_rise xlaunch_rounds xlaunch_heightThere
          have f2 := flingR_T hT2 hu ypace ybend yoff yrise yrounds yx yy yvx yvy
          rw [ea]
          dsimp only
          rw [show fX9_flingBy u (nI a) (nI b) (nI (T 12)) (nI (T 0)) (nI (T 1)) (nI (T 2)) (nI (T 3)) (nI (T 4)) (nI (T 5)) (nI (T 6)) (nI (T 7)) (nI (T 8)) (nI (T 9)) ypace ybend yoff yrise yrounds yx yy yvx yvy = _ from f2, ob_s, show (10 : Int32).toNatClampNeg = 10 from rfl, show (11 : Int32).toNatClampNeg = 11 from rfl, lit32 (nat_lit 10), lit32 (nat_lit 11), jgN (by decide) (by decide), blet_s, jgN (by decide) (by decide), blet_s]
          rw [show fX2_fly u 0 xlaunch_length xlaunch_weight xlaunch_place xlaunch_stiff xlaunch_angle xlaunch_pushes xlaunch_pace xlaunch_bend xlaunch_off xlaunch_range xlaunch_rise xlaunch_rounds xlaunch_heightThere _ = _ from f1, ob_s]
          unfold fX2_outcome
          dsimp only
          by_cases c0 : p7 = 0
          · rw [if_pos c0, if_pos c0]
            exact ⟨_, _, rfl, rfl, rfl, Rel_rf _ hR⟩
          rw [if_neg c0, if_neg c0]
          by_cases c1 : p7 = 1
          · rw [if_pos c1, if_pos c1]
            exact ⟨_, _, rfl, rfl, rfl, Rel_rf _ hR⟩
          rw [if_neg c1, if_neg c1]
          by_cases c2 : p7 = 2
          · rw [if_pos c2, if_pos c2]
            exact ⟨_, _, rfl, rfl, rfl, Rel_rf _ hR⟩
          rw [if_neg c2, if_neg c2]
          by_cases c3 : p7 = 3
          · rw [if_pos c3, if_pos c3]
            exact ⟨_, _, rfl, rfl, rfl, Rel_rf _ hR⟩
          rw [if_neg c3, if_neg c3]
          by_cases c4 : p7 = 4
          · rw [if_pos c4, if_pos c4]
            exact ⟨_, _, rfl, rfl, rfl, Rel_rf _ hR⟩
          rw [if_neg c4, if_neg c4]
          exact ⟨_, _, rfl, rfl, rfl, Rel_rf _ hR⟩
        · rw [e7, ob_s, if_neg one0, r1, r2, ob_s, if_pos rfl, ob_s, if_pos rfl]
          exact ⟨_, _, rfl, rfl, rfl, Rel_rf _ hR⟩
      · rw [e7, ob_s, if_pos rfl]
        rcases ready_c hR.1 hu p3 p4 p5 p6 xlaunch_told with ⟨T, t, ea, k10, k11, hT, ht, r1, r2, r3⟩ | ⟨r1, r2⟩
        · rw [r1, ob_s, if_neg one0, ob_s, if_pos rfl]
          exact ⟨_, _, rfl, rfl, rfl, Rel_rf _ hR⟩
        · rw [r1, ob_s, if_pos rfl]
          exact ⟨_, _, rfl, rfl, rfl, Rel_rf _ hR⟩
    · rw [e1, e2, ob_s, if_neg one0, ob_s, if_pos rfl, ob_s, if_neg one0, ob_s, if_pos rfl]
      exact ⟨_, _, rfl, rfl, rfl, Rel_rf _ hR⟩
  · rw [e1, ob_s, if_pos rfl, ob_s, if_pos rfl]
    exact ⟨_, _, rfl, rfl, rfl, Rel_rf _ hR⟩
/-- how the first round at a distance is found -/
theorem thS_no {q : Int32} {F : Nat → Nat × Int32 × Int32 × Int32 × Int32} : ∀ k : Nat, (∀ j, 1 ≤ j → j ≤ k → (F j).2.2.1 < q) → thS q F k = (0, 0) := by
  intro k
  induction k with
  | zero => intro _; rfl
  | succ k ih =>
    intro h
    show (if (F (k + 1)).2.2.1 < q then thS q F k else _) = _
    rw [if_pos (h (k + 1) (by omega) (by omega))]
    exact ih (fun j h1 h2 => h j h1 (by omega))
theorem thS_yes {q : Int32} {F : Nat → Nat × Int32 × Int32 × Int32 × Int32} {j0 : Nat} (h0 : 1 ≤ j0) (hb : ∀ j, 1 ≤ j → j < j0 → (F j).2.2.1 < q) (h1 : ¬ (F j0).2.2.1 < q) : ∀ d : Nat, thS q F (j0 + d) = (1, (F j0).2.2.2.1) := by
  intro d
  induction d with
  | zero =>
    obtain ⟨i, rfl⟩ : ∃ i, j0 = i + 1 := ⟨j0 - 1, by omega⟩
    show (if (F (i + 1)).2.2.1 < q then thS q F i else if (thS q F i).1 = 0 then (1, (F (i + 1)).2.2.2.1) else thS q F i) = _
    rw [if_neg h1, thS_no i (fun j a b => hb j a (by omega)), if_pos rfl]
  | succ d ih =>
    show (if (F (j0 + d + 1)).2.2.1 < q then thS q F (j0 + d) else if (thS q F (j0 + d)).1 = 0 then (1, (F (j0 + d + 1)).2.2.2.1) else thS q F (j0 + d)) = _
    rw [ih]
    split
    · rfl
    · rfl
