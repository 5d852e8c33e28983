theorem cpN_in {w r : Nat} {f cells : Nat → Int32} : ∀ k c, c < k → cpN w r 0 f cells k c = cells (r * w + c) := by
  intro k
  induction k with
  | zero => intro c h; omega
  | succ k ih =>
    intro c h
    show upd _ _ _ _ = _
    by_cases e : c = k
    · rw [e, updE (by omega)]
    · rw [updN (by omega), ih c (by omega)]
theorem rdBoth {u : Nat} (hu : 4000000 ≤ u) {N : Nat → Int32} {n : Nat} (hn : n ≤ 200) (en : N 191 = nI n) (g xreader_itemsSeen xreader_at xreader_start xreader_token xreader_number xreader_throwsTold_rows yreach ystrength ylag ylength yweight yplace ymass ystiff ytip ytail ypace ybend yoff yrise yrounds yx yy yvx yvy ytokenAt ytokenLong ytoken ynumber yread yhasArm yhasHook yhasDart ythrowMany yisGone : Int32) (xreader_told xreader_throwsTold_cells yranges : Nat → Int32) (hg : g = 0 ∨ g = 1) : ∃ r s, fX5_read u xreader_itemsSeen xreader_at xreader_start xreader_token xreader_number 1 (nI n) xreader_throwsTold_rows xreader_told 200 (cw 192 N) xreader_throwsTold_cells = some r ∧ fX9_reads u g yreach ystrength ylag ylength yweight yplace ymass ystiff ytip ytail ypace ybend yoff yrise yrounds yx yy yvx yvy ytokenAt ytokenLong ytoken ynumber yread yhasArm yhasHook yhasDart ythrowMany yisGone N yranges = some s ∧ TE n g r s := by
  obtain ⟨A, S, K, V, hA, C⟩ := chain hu hn en (Nat.zero_le n)
  have hlk := (C 0).2.2.2.2.2.2 ytokenAt ytokenLong ytoken ynumber
  rw [hA] at hlk
  obtain ⟨r, s, e1, e2, e3⟩ := loopP hu hn xreader_itemsSeen xreader_at xreader_start xreader_token xreader_number xreader_throwsTold_rows xreader_told xreader_throwsTold_cells g yreach ystrength ylag ylength yweight yplace ymass ystiff ytip ytail ypace ybend yoff yrise yrounds yx yy yvx yvy ytokenAt ytokenLong ytoken ynumber yread yhasArm yhasHook yhasDart ythrowMany yisGone yranges g (n + 1) u u 0 A S K V C (Nat.zero_le _) (by omega) (by omega) (by omega) xreader_start xreader_token xreader_number yreach ystrength ylag ylength yweight yplace ymass ystiff ytip ytail ypace ybend yoff yrise yrounds yx yy yvx yvy yread 0 0 0 0 xreader_told xreader_throwsTold_cells yranges ⟨⟨by omega, by omega, by omega, by omega⟩, fun h => absurd h (by decide), fun h => absurd h (by decide), fun h => absurd h (by decide), fun _ _ => 0, fun j h => absurd h (by omega)⟩
  rw [hA] at e1
  refine ⟨r, s, e1, ?_, e3⟩
  unfold fX9_reads
  rw [show (0 : Int32) = nI 0 from rfl, hlk, ob_s]
  have hz : ∀ X : Option (Int32 × Int32 × Int32 × Int32 × Int32 × Int32 × Int32 × Int32 × Int32 × Int32 × Int32 × Int32 × Int32 × Int32 × Int32 × Int32 × Int32 × Int32 × Int32 × Int32 × Int32 × Int32 × Int32 × Int32 × Int32 × Int32 × Int32 × Int32 × Int32 × Int32 × (Nat → Int32)), jz g X = X := by
    intro X
    rcases hg with rfl | rfl
    · exact jz0 X
    · exact jz1 X
  rw [hz]
  exact e2
theorem pv_fault (u : Nat) (hu : 4000000 ≤ u) (N K Z rf : Nat → Int32) (sg : Int32) (Lm : Nat → Int64) (S cal cbl : Nat → Int32) (xreader_itemsSeen xreader_at xreader_start xreader_token xreader_number xreader_throwsTold_rows : Int32) (xreader_told xreader_throwsTold_cells : Nat → Int32) (yreach ystrength ylag ylength yweight yplace ymass ystiff ytip ytail ypace ybend yoff yrise yrounds yx yy yvx yvy ytokenAt ytokenLong ytoken ynumber yread yhasArm yhasHook yhasDart ythrowMany yisGone : Int32) (yranges : Nat → Int32) (hR : RelC N K Z rf sg Lm S cal cbl) : ∃ (rc : Int32 × Int32 × Int32 × Int32 × Int32 × Int32 × Int32 × (Nat → Int32) × (Nat → Int32)) (rm : Int32 × Int32 × Int32 × Int32 × Int32 × Int32 × Int32 × Int32 × Int32 × Int32 × Int32 × Int32 × Int32 × Int32 × Int32 × Int32 × Int32 × Int32 × Int32 × Int32 × Int32 × Int32 × Int32 × Int32 × Int32 × Int32 × Int32 × Int32 × Int32 × Int32 × (Nat → Int32)), fX8_fault u xreader_itemsSeen xreader_at xreader_start xreader_token xreader_number (N 191) xreader_throwsTold_rows xreader_told (cw 192 N) xreader_throwsTold_cells = some rc ∧ fX9_fault u yreach ystrength ylag ylength yweight yplace ymass ystiff ytip ytail ypace ybend yoff yrise yrounds yx yy yvx yvy ytokenAt ytokenLong ytoken ynumber yread yhasArm yhasHook yhasDart ythrowMany yisGone N yranges = some rm ∧ rc.1 = rm.1 ∧ RelAll N K Z rf sg Lm S (N 392) (N 393) (N 394) (4 : Int32) (1 : Int32) (N 395) (1 : Int32) (N 396) (N 397) (1 : Int32) (3 : Int32) (8 : Int32) (N 191) (cw 0 N) (cw 12 N) (cw 24 N) (cw 40 N) (cw 48 N) (cw 50 N) (cw 98 N) (cw 99 N) (cw 147 N) (cw 153 N) (cw 154 N) (cw 175 N) (cw 192 N) rf sg (S 0) (S 1) cal cbl := by
  obtain ⟨n, en, hn⟩ := rg_N (B := 200) hR.1.1.2.2.2.2.2.2
  obtain ⟨r, s, e1, e2, e3⟩ := rdBoth hu hn en 0 xreader_itemsSeen xreader_at xreader_start xreader_token xreader_number xreader_throwsTold_rows yreach ystrength ylag ylength yweight yplace ymass ystiff ytip ytail ypace ybend yoff yrise yrounds yx yy yvx yvy ytokenAt ytokenLong ytoken ynumber yread yhasArm yhasHook yhasDart ythrowMany yisGone xreader_told xreader_throwsTold_cells yranges (Or.inl rfl)
  have hrel := Rel_rf rf hR
  unfold fX8_fault fX9_fault
  rw [e2, ob_s, show fX5_read u xreader_itemsSeen xreader_at xreader_start xreader_token xreader_number 1 (N 191) xreader_throwsTold_rows xreader_told 200 (cw 192 N) xreader_throwsTold_cells = some r by rw [en]; exact e1, ob_s]
  rcases e3 with ⟨h1, h2, -⟩ | ⟨sf, -, h1, h2, h3⟩
  · rw [if_neg (show ¬ s.1 = 0 by rw [h2]; exact one0)]
    exact ⟨_, _, rfl, rfl, h1, hrel⟩
  · rw [if_pos h2]
    exact ⟨_, _, rfl, rfl, h1.trans h3.symm, hrel⟩
theorem pv_plan (u : Nat) (hu : 4000000 ≤ u) (N K Z rf : Nat → Int32) (sg : Int32) (Lm : Nat → Int64) (S cal cbl : Nat → Int32) (xlaunch_length xlaunch_weight xlaunch_place xlaunch_stiff xlaunch_angle xlaunch_pushes xlaunch_pace xlaunch_bend xlaunch_off xlaunch_range xlaunch_rise xlaunch_rounds xlaunch_heightThere xreader_itemsSeen xreader_at xreader_start xreader_token xreader_number : Int32) (xlaunch_told : Nat → Int32) (xreader_throwsTold_rows : Int32) (xreader_told xreader_throwsTold_cells : Nat → Int32) (yreach ystrength ylag ylength yweight yplace ymass ystiff ytip ytail ypace ybend yoff yrise yrounds yx yy yvx yvy ytokenAt ytokenLong ytoken ynumber yread yhasArm yhasHook yhasDart ythrowMany yisGone : Int32) (yranges : Nat → Int32) (p1 : Int32)(hR : RelC N K Z rf sg Lm S cal cbl) : ∃ (rc : Int32 × Int32 × Int32 × Int32 × Int32 × Int32 × Int32 × Int32 × Int32 × Int32 × Int32 × Int32 × Int32 × Int32 × Int32 × Int32 × Int32 × Int32 × Int32 × (Nat → Int32) × (Nat → Int32) × Int32 × (Nat → Int32) × (Nat → Int32)) (rm : Int32 × Int32 × Int32 × Int32 × Int32 × Int32 × Int32 × Int32 × Int32 × Int32 × Int32 × Int32 × Int32 × Int32 × Int32 × Int32 × Int32 × Int32 × Int32 × Int32 × Int32 × Int32 × Int32 × Int32 × Int32 × Int32 × Int32 × Int32 × Int32 × Int32 × (Nat → Int32) × (Nat → Int32)), fX8_plan u p1 xlaunch_length xlaunch_weight xlaunch_place xlaunch_stiff xlaunch_angle xlaunch_pushes xlaunch_pace xlaunch_bend xlaunch_off xlaunch_range xlaunch_rise xlaunch_rounds xlaunch_heightThere xreader_itemsSeen xreader_at xreader_start xreader_token xreader_number rf xlaunch_told (N 191) xreader_throwsTold_rows xreader_told (cw 192 N) xreader_throwsTold_cells = some rc ∧ fX9_plan u p1 yreach ystrength ylag ylength yweight yplace ymass ystiff ytip ytail ypace ybend yoff yrise yrounds yx yy yvx yvy ytokenAt ytokenLong ytoken ynumber yread yhasArm yhasHook yhasDart ythrowMany yisGone N yranges rf = some rm ∧ rc.1 = rm.1 ∧ RelAll N K Z rm.2.2.2.2.2.2.2.2.2.2.2.2.2.2.2.2.2.2.2.2.2.2.2.2.2.2.2.2.2.2.2 sg Lm S (N 392) (N 393) (N 394) (4 : Int32) (1 : Int32) (N 395) (1 : Int32) (N 396) (N 397) (1 : Int32) (3 : Int32) (8 : Int32) (N 191) (cw 0 N) (cw 12 N) (cw 24 N) (cw 40 N) (cw 48 N) (cw 50 N) (cw 98 N) (cw 99 N) (cw 147 N) (cw 153 N) (cw 154 N) (cw 175 N) (cw 192 N) rc.2.2.2.2.2.2.2.2.2.2.2.2.2.2.2.2.2.2.2.1 sg (S 0) (S 1) cal cbl := by
  obtain ⟨n, en, hn⟩ := rg_N (B := 200) hR.1.1.2.2.2.2.2.2
  obtain ⟨r, s, e1, e2, e3⟩ := rdBoth hu hn en 1 xreader_itemsSeen xreader_at xreader_start xreader_token xreader_number xreader_throwsTold_rows yreach ystrength ylag ylength yweight yplace ymass ystiff ytip ytail ypace ybend yoff yrise yrounds yx yy yvx yvy ytokenAt ytokenLong ytoken ynumber yread yhasArm yhasHook yhasDart ythrowMany yisGone xreader_told xreader_throwsTold_cells yranges (Or.inr rfl)
  have hrel := fun rf2 => Rel_rf rf2 hR
  unfold fX8_plan fX9_plan
  rw [e2, ob_s, show fX5_read u xreader_itemsSeen xreader_at xreader_start xreader_token xreader_number 1 (N 191) xreader_throwsTold_rows xreader_told 200 (cw 192 N) xreader_throwsTold_cells = some r by rw [en]; exact e1, ob_s]
  by_cases hp : (-1 : Int32) ≤ p1
  · rw [if_pos hp, if_pos hp]
    rcases e3 with ⟨h1, h2, t, TT, ht, h3, h4, hTT⟩ | ⟨sf, hsf, h1, h2, h3⟩
    · rw [if_pos h1, if_neg (show ¬ s.1 = 0 by rw [h2]; exact one0)]
      by_cases hm : p1 = -1
      · rw [if_pos hm, if_pos hm]
        exact ⟨_, _, rfl, rfl, h3.trans h4.symm, hrel _⟩
      · rw [if_neg hm, if_neg hm]
        have hnn : ¬ p1 < 0 := by
          have q1 : (-1 : Int32).toInt = -1 := by decide
          have q0 : (0 : Int32).toInt = 0 := by decide
          rw [Int32.le_iff_toInt_le, q1] at hp
          have q2 : p1.toInt ≠ -1 := fun q => hm (Int32.toInt_inj.mp (by rw [q, q1]))
          rw [Int32.lt_iff_toInt_lt, q0]
          omega
        obtain ⟨j, hj, rfl⟩ := nI_of hnn
        rw [h3, h4, has7 (by omega) (by omega), ob_s]
        by_cases c : j < t
        · obtain ⟨hT, hc, hr⟩ := hTT j c
          rw [if_pos c, if_neg one0, if_neg (nI_ge c (by omega)), jgN (by omega) (by omega), nI_clamp (by omega), hr one0]
          rw [show (0 : Int32) = nI 0 from rfl, show (13 : Int32) = nI 13 from rfl, copy7 c (by decide) (by omega) (by decide) (by omega) (by decide) hu, ob_s]
          rw [flyC_T hT hu _ (fun i hi => by rw [cpN_in 13 i hi, hc i hi]), ob_s]
          exact ⟨_, _, rfl, rfl, rfl, hrel _⟩
        · rw [if_neg c, if_pos rfl, if_pos (nI_le (by omega) (by omega))]
          exact ⟨_, _, rfl, rfl, rfl, hrel _⟩
    · rw [if_neg (show ¬ r.1 = -1 by rw [h1]; exact nI_nm (by omega)), if_pos h2, no8, no9, ob_s, ob_s]
      exact ⟨_, _, rfl, rfl, rfl, hrel _⟩
  · rw [if_neg hp, if_neg hp, bad8, bad9, ob_s, ob_s]
    exact ⟨_, _, rfl, rfl, rfl, hrel _⟩
