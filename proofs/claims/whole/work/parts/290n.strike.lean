def stA (x y q : Int32) (b : Bool) : Int32 := if x < q then 0 else if y ≤ 0 then 0 else if 180 < y then 0 else if b then 0 else 1
theorem strikeR {T : Nat → Nat} (hT : TB T) (k10 : T 10 = 0) (k11 : T 11 = 0) {u : Nat} (hu : 4000000 ≤ u) {d m : Nat} (hd : d ≤ 20000) (c1 c2 c3 c4 d1 d2 d3 d4 d5 d6 d7 d8 d9 d10 d11 d12 d13 d14 d15 d16 d17 d18 d19 : Int32) (N0 rf0 rf : Nat → Int32) (h1 : 1 ≤ m) (h2 : m ≤ 2100) (hm : (tF T m).2.2.2.1 ≤ 0 ∨ ¬ (tF T m).2.2.1 < nI d) (hb : ∀ j, 1 ≤ j → j < m → ¬ (tF T j).2.2.2.1 ≤ 0 ∧ (tF T j).2.2.1 < nI d) : jfix (fX9_strikes_b54 u c1 c2 c3 c4 (nI d) d1 d2 d3 d4 d5 d6 d7 d8 d9 d10 d11 d12 d13 d14 d15 d16 d17 d18 d19 N0 rf0) u (1, nI (T 0), nI (T 1), nI (T 2), nI (T 3), nI (T 4), nI (T 5), nI (T 6), nI (T 7), nI (T 8), nI (T 9), nI (tPc T), nI (tBn T), nI (tOf T), 150, 0, 0, 150, nI (tPc T * alN (tA T) / 100), nI (tPc T * upN (tA T) / 100), rf) = some (stA (tF T m).2.2.1 (tF T m).2.2.2.1 (nI d) (decide (50 < tOf T * d / 1000)), nI (T 0), nI (T 1), nI (T 2), nI (T 3), nI (T 4), nI (T 5), nI (T 6), nI (T 7), nI (T 8), nI (T 9), nI (tPc T), nI (tBn T), nI (tOf T), (tF T m).2.2.2.2, nI m, (tF T m).2.2.1, (tF T m).2.2.2.1, nI (tF T m).1, (tF T m).2.1, rf) := by
  have ho := tOf_s hT
  have hod : tOf T * d ≤ 39501 * 20000 := Nat.mul_le_mul ho hd
  have hv : tPc T * alN (tA T) / 100 ≤ 6433 := by
    have b1 : tPc T * alN (tA T) ≤ 6433 * 100 := Nat.mul_le_mul (tPc_s hT) (an_t (tB_s hT).2.2.2.2.2.1).2.2.2.2.1
    omega
  have key : jfix (fX9_strikes_b54 u c1 c2 c3 c4 (nI d) d1 d2 d3 d4 d5 d6 d7 d8 d9 d10 d11 d12 d13 d14 d15 d16 d17 d18 d19 N0 rf0) u ((fun k => ((if k < m then 1 else 0 : Int32), nI (T 0), nI (T 1), nI (T 2), nI (T 3), nI (T 4), nI (T 5), nI (T 6), nI (T 7), nI (T 8), nI (T 9), nI (tPc T), nI (tBn T), nI (tOf T), (tF T k).2.2.2.2, nI k, (tF T k).2.2.1, (tF T k).2.2.2.1, nI (tF T k).1, (tF T k).2.1, rf)) 0) = some (stA (tF T m).2.2.1 (tF T m).2.2.2.1 (nI d) (decide (50 < tOf T * d / 1000)), nI (T 0), nI (T 1), nI (T 2), nI (T 3), nI (T 4), nI (T 5), nI (T 6), nI (T 7), nI (T 8), nI (T 9), nI (tPc T), nI (tBn T), nI (tOf T), (tF T m).2.2.2.2, nI m, (tF T m).2.2.1, (tF T m).2.2.2.1, nI (tF T m).1, (tF T m).2.1, rf) := by
    refine jfix_it (fun k => ((if k < m then 1 else 0 : Int32), nI (T 0), nI (T 1), nI (T 2), nI (T 3), nI (T 4), nI (T 5), nI (T 6), nI (T 7), nI (T 8), nI (T 9), nI (tPc T), nI (tBn T), nI (tOf T), (tF T k).2.2.2.2, nI k, (tF T k).2.2.1, (tF T k).2.2.2.1, nI (tF T k).1, (tF T k).2.1, rf)) m _ ?_ ?_ (by omega)
    · intro k hk rec
      have hv2 : (tF T k).1 ≤ 6433 := Nat.le_trans (fit_v (drN (T 9) (tOf T)) (tPc T * alN (tA T) / 100) (tPc T * upN (tA T) / 100) k) hv
      have hg := goOnR (v := (tF T k).1) (tF T k).2.2.2.2 (nI k) (tF T k).2.2.1 (tF T k).2.2.2.1 (tF T k).2.1 hT.2.2.2.2.2.2.2.2.2.1 ho hv2
      have hg2 : fX9_goOn (nI (T 9)) (nI (tOf T)) (tF T k).2.2.2.2 (nI k) (tF T k).2.2.1 (tF T k).2.2.2.1 (nI (tF T k).1) (tF T k).2.1 = some ((tF T (k + 1)).2.2.2.2, nI (k + 1), (tF T (k + 1)).2.2.1, (tF T (k + 1)).2.2.2.1, nI (tF T (k + 1)).1, (tF T (k + 1)).2.1) := by
        rw [nI_1] at hg
        rw [show tF T (k + 1) = fnx (drN (T 9) (tOf T)) (tF T k) from rfl]
        unfold fnx
        dsimp only
        exact hg
      unfold fX9_strikes_b54
      dsimp only
      rw [if_pos hk, if_neg one0, hg2, ob_s]
      dsimp only
      by_cases c : k + 1 < m
      · have hq := hb (k + 1) (by omega) c
        rw [if_neg hq.1, if_neg (Int32.not_le.mpr hq.2), if_pos c]
        unfold fX9_strikes_b84
        dsimp only
      · have e : k + 1 = m := by omega
        rw [if_neg c, e]
        by_cases c2 : (tF T m).2.2.2.1 ≤ 0
        · rw [if_pos c2]
          rfl
        · rw [if_neg c2, if_pos (Int32.not_lt.mp (hm.resolve_left c2))]
          rfl
    · intro rec
      unfold fX9_strikes_b54
      dsimp only
      rw [if_neg (Nat.lt_irrefl m), if_pos rfl, toL (by omega), toL (by omega), mulL, litL (nat_lit 1000), divL (by omega) (by decide) (by decide), litL (nat_lit 50)]
      have e5 : (0 < lg_cmp (lN (tOf T * d / 1000)) (lN 50)) = (50 < tOf T * d / 1000) := (propext (lg_cmp_gt _ _)).trans (ltL (by decide) (by omega))
      simp only [e5]
      unfold stA
      by_cases q1 : (tF T m).2.2.1 < nI d
      · rw [if_pos q1, if_pos q1]
      rw [if_neg q1, if_neg q1]
      by_cases q2 : (tF T m).2.2.2.1 ≤ 0
      · rw [if_pos q2, if_pos q2]
      rw [if_neg q2, if_neg q2]
      by_cases q3 : 180 < (tF T m).2.2.2.1
      · rw [if_pos q3, if_pos q3]
      rw [if_neg q3, if_neg q3]
      by_cases q4 : 50 < tOf T * d / 1000
      · rw [if_pos q4, if_pos (decide_eq_true q4)]
      · rw [if_neg q4, if_neg (fun z => q4 (of_decide_eq_true z))]
  rw [← key]
  congr 1
  simp only [if_pos (show 0 < m by omega)]
  rfl
theorem pv_strikes (u : Nat) (hu : 4000000 ≤ u) (N K Z rf : Nat → Int32) (sg : Int32) (Lm : Nat → Int64) (S cal cbl : Nat → Int32) (xlaunch_length xlaunch_weight xlaunch_place xlaunch_stiff xlaunch_angle xlaunch_pushes xlaunch_pace xlaunch_bend xlaunch_off xlaunch_range xlaunch_rise xlaunch_rounds xlaunch_heightThere : Int32) (xlaunch_told : Nat → Int32) (yreach ystrength ylag ylength yweight yplace ymass ystiff ytip ytail ypace ybend yoff yrise yrounds yx yy yvx yvy : Int32) (p1 p2 p3 p4 p5 : Int32)(hR : RelC N K Z rf sg Lm S cal cbl) : ∃ (rc : Int32 × Int32 × Int32 × Int32 × Int32 × Int32 × Int32 × Int32 × Int32 × Int32 × Int32 × Int32 × Int32 × Int32 × (Nat → Int32) × (Nat → Int32)) (rm : Int32 × Int32 × Int32 × Int32 × Int32 × Int32 × Int32 × Int32 × Int32 × Int32 × Int32 × Int32 × Int32 × Int32 × Int32 × Int32 × Int32 × Int32 × Int32 × Int32 × (Nat → Int32)), fX8_strikes u p1 p2 p3 p4 p5 xlaunch_length xlaunch_weight xlaunch_place xlaunch_stiff xlaunch_angle xlaunch_pushes xlaunch_pace xlaunch_bend xlaunch_off xlaunch_range xlaunch_rise xlaunch_rounds xlaunch_heightThere rf xlaunch_told (N 392) (N 394) (N 393) (cw 0 N) (cw 24 N) (cw 12 N) = some rc ∧ fX9_strikes u p1 p2 p3 p4 p5 yreach ystrength ylag ylength yweight yplace ymass ystiff ytip ytail ypace ybend yoff yrise yrounds yx yy yvx yvy N rf = some rm ∧ rc.1 = rm.1 ∧ RelAll N K Z rm.2.2.2.2.2.2.2.2.2.2.2.2.2.2.2.2.2.2.2.2 sg Lm S (N 392) (N 393) (N 394) (4 : Int32) (1 : Int32) (N 395) (1 : Int32) (N 396) (N 397) (1 : Int32) (3 : Int32) (8 : Int32) (N 191) (cw 0 N) (cw 12 N) (cw 24 N) (cw 40 N) (cw 48 N) (cw 50 N) (cw 98 N) (cw 99 N) (cw 147 N) (cw 153 N) (cw 154 N) (cw 175 N) (cw 192 N) rc.2.2.2.2.2.2.2.2.2.2.2.2.2.2.1 sg (S 0) (S 1) cal cbl := by
  unfold fX8_strikes fX9_strikes
  rw [in_1_20000]
  rcases wi p5 1 20000 (A := 1) (B := 20000) rfl rfl with ⟨e5, h5⟩ | ⟨e5, h5⟩
  · rcases ready_c hR.1 hu p1 p2 p3 p4 xlaunch_told with ⟨T, t, ea, k10, k11, hT, ht, r1, r2, r3⟩ | ⟨r1, r2⟩
    · rw [e5, ob_s, if_neg one0, ob_s, r1, r2, ob_s, if_neg one0, if_neg one0, ob_s, if_neg one0, r3, ob_s]
      obtain ⟨d, rfl, hd1, hd⟩ := rg_ex (A := 1) (B := 20000) h5
      have f1 := flyC_T hT hu _ ht (nI d) xlaunch_length xlaunch_weight xlaunch_place xlaunch_stiff xlaunch_angle xlaunch_pushes xlaunch_pace xlaunch_bend xlaunch_off xlaunch_range xlaunch_rise xlaunch_rounds xlaunch_heightThere
      have f2 := pushR_T hT hu ypace ybend yoff
      rw [k10, k11] at f2
      have hM := tM_s hT
      have y0 : ¬ (tF T 0).2.2.2.1 ≤ 0 := show ¬ (150 : Int32) ≤ 0 by decide
      have hM1 : 1 ≤ tM T := Nat.pos_of_ne_zero (fun z => y0 (z ▸ hM.2.1))
      obtain ⟨m, ⟨hm1, hm⟩, hb⟩ := pk_least (fun j => 1 ≤ j ∧ ((tF T j).2.2.2.1 ≤ 0 ∨ ¬ (tF T j).2.2.1 < nI d)) ⟨tM T, hM1, Or.inl hM.2.1⟩
      have hmM : m ≤ tM T := Nat.le_of_not_lt (fun z => hb _ z ⟨hM1, Or.inl hM.2.1⟩)
      have hb2 : ∀ j, 1 ≤ j → j < m → ¬ (tF T j).2.2.2.1 ≤ 0 ∧ (tF T j).2.2.1 < nI d := fun j a b => ⟨fun z => hb j b ⟨a, Or.inl z⟩, Decidable.byContradiction (fun z => hb j b ⟨a, Or.inr z⟩)⟩
      rw [f1, ob_s]
      dsimp only
      rw [show fX9_push u 0 0 (nI (T 0)) (nI (T 1)) (nI (T 2)) (nI (T 3)) (nI (T 4)) (nI (T 5)) (nI (T 6)) (nI (T 7)) (nI (T 8)) ypace ybend yoff = _ from f2, ob_s]
      dsimp only
      rw [ea]
      have f3 := leaveR yrise yrounds yx yy yvx yvy (tPc_s hT) (show T 12 ≤ 6 from hT.2.2.2.2.2.2.2.2.2.2.2.2)
      have eA : tA T = T 12 := by
        unfold tA
        rw [if_neg (by omega)]
      rw [← eA] at f3 ⊢
      rw [f3, ob_s]
      dsimp only
      rw [strikeR hT k10 k11 hu hd _ _ _ _ _ _ _ _ _ _ _ _ _ _ _ _ _ _ _ _ _ _ _ _ _ _ hm1 (by omega) hm hb2]
      have hod : tOf T * d ≤ 39501 * 20000 := Nat.mul_le_mul (tOf_s hT) hd
      have ho := tOf_s hT
      have key : ∃ A : Int32, A = stA (tF T m).2.2.1 (tF T m).2.2.2.1 (nI d) (decide (50 < tOf T * d / 1000)) ∧ ∀ (r : Int32 → Option (Int32 × Int32 × Int32 × Int32 × Int32 × Int32 × Int32 × Int32 × Int32 × Int32 × Int32 × Int32 × Int32 × Int32 × (Nat → Int32) × (Nat → Int32))), ob (fX8_within (thS (nI d) (tF T) (tM T)).2 1 180) (fun r5 => if r5 = 0 then r 0 else if 50 < nI (tOf T) * nI d / 1000 then r 0 else r 1) = r A := by
        refine ⟨_, rfl, fun r => ?_⟩
        by_cases q1 : (tF T m).2.2.1 < nI d
        · have e : m = tM T := by
            refine Nat.le_antisymm hmM (Nat.le_of_not_lt (fun z => ?_))
            exact hM.2.2 m z (hm.resolve_right (fun w => w q1))
          have e2 : thS (nI d) (tF T) (tM T) = (0, 0) := thS_no _ (fun j a b => by
            by_cases z : j < m
            · exact (hb2 j a z).2
            · rw [show j = m by omega]; exact q1)
          rw [e2]
          unfold stA
          rw [if_pos q1]
          rfl
        · have e2 := thS_yes (q := nI d) (F := tF T) hm1 (fun j a b => (hb2 j a b).2) q1 (tM T - m)
          rw [show m + (tM T - m) = tM T by omega] at e2
          rw [e2]
          dsimp only
          unfold stA
          rw [if_neg q1, mulN, lit32 (nat_lit 1000), divI (by omega) (by decide) (by decide), lit32 (nat_lit 50)]
          simp only [ltN (show 50 < 2 ^ 31 by decide) (show tOf T * d / 1000 < 2 ^ 31 by omega)]
          rcases wi (tF T m).2.2.2.1 1 180 (A := 1) (B := 180) rfl rfl with ⟨e, h⟩ | ⟨e, h⟩
          · rw [e, ob_s, if_neg one0]
            unfold rg at h
            rw [if_neg (show ¬ (tF T m).2.2.2.1 ≤ 0 by rw [Int32.le_iff_toInt_le, show (0 : Int32).toInt = 0 by decide]; omega), if_neg (show ¬ (180 : Int32) < (tF T m).2.2.2.1 by rw [Int32.lt_iff_toInt_lt, show (180 : Int32).toInt = 180 by decide]; omega)]
            by_cases q4 : 50 < tOf T * d / 1000
            · rw [if_pos q4, if_pos (decide_eq_true q4)]
            · rw [if_neg q4, if_neg (fun z => q4 (of_decide_eq_true z))]
          · rw [e, ob_s, if_pos rfl]
            unfold rg at h
            by_cases q2 : (tF T m).2.2.2.1 ≤ 0
            · rw [if_pos q2]
            · rw [if_neg q2, if_pos]
              rw [Int32.le_iff_toInt_le, show (0 : Int32).toInt = 0 by decide] at q2
              rw [Int32.lt_iff_toInt_lt, show (180 : Int32).toInt = 180 by decide]
              omega
      obtain ⟨A, eA2, key⟩ := key
      refine ⟨_, _, key (fun z => some (z, _)), rfl, eA2, Rel_rf _ hR⟩
    · rw [e5, ob_s, if_neg one0, r1, r2, ob_s, if_pos rfl, ob_s, if_pos rfl]
      exact ⟨_, _, rfl, rfl, rfl, Rel_rf _ hR⟩
  · rw [e5, ob_s, if_pos rfl]
    rcases ready_c hR.1 hu p1 p2 p3 p4 xlaunch_told with ⟨T, t, ea, k10, k11, hT, ht, r1, r2, r3⟩ | ⟨r1, r2⟩
    · rw [r1, ob_s, if_neg one0, ob_s, if_pos rfl]
      exact ⟨_, _, rfl, rfl, rfl, Rel_rf _ hR⟩
    · rw [r1, ob_s, if_pos rfl]
      exact ⟨_, _, rfl, rfl, rfl, Rel_rf _ hR⟩
