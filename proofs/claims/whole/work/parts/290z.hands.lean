theorem pv_hands (u : Nat) (hu : 4000000 ≤ u) (N K Z rf : Nat → Int32) (sg : Int32) (Lm : Nat → Int64) (S cal cbl : Nat → Int32)  (p1 p2 p3 : Int32)(hR : RelC N K Z rf sg Lm S cal cbl) : ∃ (rc : Int32 × Int32 × (Nat → Int32) × Int32 × Int32 × (Nat → Int32) × (Nat → Int32)) (rm : Int32 × Int32 × (Nat → Int64) × (Nat → Int32) × (Nat → Int32)), fX8_hands u p1 p2 p3 sg rf (S 0) (S 1) (N 396) cal cbl (cw 99 N) = some rc ∧ fX9_hands u p1 p2 p3 sg Lm N rf S = some rm ∧ rc.1 = rm.1 ∧ RelAll N K Z rm.2.2.2.1 rm.2.1 rm.2.2.1 rm.2.2.2.2 (N 392) (N 393) (N 394) (4 : Int32) (1 : Int32) (N 395) (1 : Int32) (N 396) (N 397) (1 : Int32) (3 : Int32) (8 : Int32) (N 191) (cw 0 N) (cw 12 N) (cw 24 N) (cw 40 N) (cw 48 N) (cw 50 N) (cw 98 N) (cw 99 N) (cw 147 N) (cw 153 N) (cw 154 N) (cw 175 N) (cw 192 N) rc.2.2.1 rc.2.1 rc.2.2.2.1 rc.2.2.2.2.1 rc.2.2.2.2.2.1 rc.2.2.2.2.2.2 := by
  obtain ⟨n, en, hn⟩ := rg_N (B := 12) hR.1.1.2.2.2.2.1
  have m4 : fX9_many 4 N = some (nI n) := by rw [show (4 : Int32) = nI 4 from rfl, many9 N (by decide), en]
  unfold fX8_hands fX9_hands
  rw [in_0_10, in_0_10, m4, en, ob_s]
  rcases hs_c p1 (show n ≤ 1000 by omega) with ⟨t, ht, rfl, h1, h1'⟩ | ⟨h1, h1'⟩
  · rcases wi p2 0 10 (A := 0) (B := 10) rfl rfl with ⟨e2, h2⟩ | ⟨e2, h2⟩
    · rcases wi p3 0 10 (A := 0) (B := 10) rfl rfl with ⟨e3, h3⟩ | ⟨e3, h3⟩
      · obtain ⟨r, rfl, hr⟩ := rg_N (B := 10) h2
        obtain ⟨w, rfl, hw⟩ := rg_N (B := 10) h3
        rw [h1, ob_s, if_neg one0, h1', ob_s, if_neg one0, e2, ob_s, if_neg one0, ob_s, if_neg one0, e3, ob_s, if_neg one0, ob_s, if_neg one0]
        have e4 : cw 99 N (t * 4 + 3) = N (99 + 4 * t + 3) := by unfold cw; congr 1; omega
        -- the tails, by how well a hand fits
        have key : ∀ z : Nat, z ≤ 10 → ∃ rc rm, fX8_hands_b98 u (nI t) (nI r) (nI w) sg rf (S 0) (S 1) (nI n) cal cbl (cw 99 N) (nI (r * z), nI (10 - r), nI (10 - z), sg, rf, S 0, S 1, cal, cbl) = some rc ∧ fX9_hands_b73 u (nI t) (nI r) (nI w) sg Lm N rf S (nI z, sg, Lm, rf, S) = some rm ∧ rc.1 = rm.1 ∧ RelAll N K Z rm.2.2.2.1 rm.2.1 rm.2.2.1 rm.2.2.2.2 (N 392) (N 393) (N 394) (4 : Int32) (1 : Int32) (N 395) (1 : Int32) (N 396) (N 397) (1 : Int32) (3 : Int32) (8 : Int32) (N 191) (cw 0 N) (cw 12 N) (cw 24 N) (cw 40 N) (cw 48 N) (cw 50 N) (cw 98 N) (cw 99 N) (cw 147 N) (cw 153 N) (cw 154 N) (cw 175 N) (cw 192 N) rc.2.2.1 rc.2.1 rc.2.2.2.1 rc.2.2.2.2.1 rc.2.2.2.2.2.1 rc.2.2.2.2.2.2 := by
          intro z hz
          have b1 : r * z ≤ 10 * 10 := Nat.mul_le_mul hr hz
          have b2 : (10 - r) * (10 - z) ≤ 10 * 10 := Nat.mul_le_mul (Nat.sub_le _ _) (Nat.sub_le _ _)
          unfold fX8_hands_b98 fX9_hands_b73
          dsimp only
          rw [mulN, mulN, blet_s, blet_s, lit32 (nat_lit 10), subN hr, subN hz, mulN, nI_add, blet_s, toL (by omega), toL (by omega)]
          by_cases c : nI (r * z + (10 - r) * (10 - z)) = 0
          · rw [if_pos c, if_pos c]
            exact ⟨_, _, rfl, rfl, rfl, Rel_rf _ hR⟩
          · rw [if_neg c, if_neg c]
            have c0 : 0 < r * z + (10 - r) * (10 - z) := Nat.pos_of_ne_zero (fun y => c (by rw [y]; rfl))
            obtain ⟨a, s, r1, r2, r3, r4⟩ := frac hu (n := r * z) (w := r * z + (10 - r) * (10 - z)) (b := false) (by omega) (by omega) c0 (fun z => absurd z (by decide)) sg (S 0) (S 1) sg cal cbl Lm S
            rw [show fX1_set u (lN (r * z)) _ _ _ _ _ _ = some a from r1, show fX9_tells u (lN (r * z)) _ _ _ _ = some s from r2, ob_s, ob_s]
            exact ⟨_, _, rfl, rfl, r3.symm, Rel_fr hR r4⟩
        rw [show (3 : Int32) = nI 3 from rfl, show (4 : Int32) = nI 4 from rfl, cell7 ht (by decide) (by omega) (by omega) (by decide) (by decide), ob_s, e4, show (99 : Int32) = nI 99 from rfl, mulN, nI_add, nI_add, blet_s, jgN (by omega) (by omega), nI_clamp (by omega), ← en]
        rw [← en] at key
        by_cases c : N (99 + 4 * t + 3) = 1
        · rw [if_pos c, if_pos c]
          obtain ⟨rc, rm, k1, k2, k3, k4⟩ := key w hw
          refine ⟨rc, rm, ?_, k2, k3, k4⟩
          unfold fX8_hands_b62
          dsimp only
          rw [if_neg one0]
          unfold fX8_hands_b78
          dsimp only
          rw [blet_s, if_neg one0, mulN, lit32 (nat_lit 10), subN hr, subN hw]
          exact k1
        · rw [if_neg c, if_neg c]
          obtain ⟨rc, rm, k1, k2, k3, k4⟩ := key (10 - w) (by omega)
          rw [lit32 (nat_lit 10), subN hw]
          refine ⟨rc, rm, ?_, k2, k3, k4⟩
          unfold fX8_hands_b62
          dsimp only
          rw [if_pos rfl]
          unfold fX8_hands_b78
          dsimp only
          rw [blet_s, if_pos rfl, lit32 (nat_lit 10), subN hw, mulN, subN hr]
          rw [show 10 - (10 - w) = w by omega] at k1
          exact k1
      · rw [h1, ob_s, if_neg one0, h1', ob_s, if_neg one0, e2, ob_s, if_neg one0, ob_s, if_neg one0, e3, ob_s, if_pos rfl, ob_s, if_pos rfl, ← en]
        exact ⟨_, _, rfl, rfl, rfl, Rel_rf _ hR⟩
    · rw [h1, ob_s, if_neg one0, h1', ob_s, if_neg one0, e2, ob_s, if_pos rfl, ob_s, if_pos rfl, ← en]
      exact ⟨_, _, rfl, rfl, rfl, Rel_rf _ hR⟩
  · rw [h1, ob_s, if_pos rfl, h1', ob_s, if_pos rfl, ← en]
    exact ⟨_, _, rfl, rfl, rfl, Rel_rf _ hR⟩
