def spN (N : Nat → Int32) (g : Int32) : Nat → Nat × Int32 × Int32 × Int32
  | 0 => (0, 0, 0, 0)
  | i + 1 => if N (50 + 3 * i) = g then ((spN N g i).1 + 1, (spN N g i).2.1 + rtN N i, (if (spN N g i).1 = 0 then rtN N i else if rtN N i < (spN N g i).2.2.1 then rtN N i else (spN N g i).2.2.1), (if (spN N g i).1 = 0 then rtN N i else if (spN N g i).2.2.2 < rtN N i then rtN N i else (spN N g i).2.2.2)) else spN N g i
theorem spN_b {N : Nat → Int32} {g : Int32} {n : Nat} (h : PB N n) (hn : n ≤ 16) : ∀ i, i ≤ n → (spN N g i).1 ≤ i ∧ -99 * (i : Int) ≤ (spN N g i).2.1.toInt ∧ (spN N g i).2.1.toInt ≤ 1098 * i := by
  intro i
  induction i with
  | zero =>
    intro _
    have e : (spN N g 0).2.1.toInt = 0 := rfl
    rw [e]
    exact ⟨Nat.le_refl _, by omega, by omega⟩
  | succ i ih =>
    intro hi
    have h1 := ih (by omega)
    have h2 := (h i (by omega)).2
    unfold spN
    split
    · dsimp only
      rw [Int32.toInt_add, bm32 (by omega) (by omega)]
      omega
    · omega
theorem sL_of {x : Int32} (h1 : -1000000 ≤ x.toInt) (h2 : x.toInt ≤ 1000000) : ∃ (b : Bool) (n : Nat), n ≤ 1000000 ∧ (b = true → 0 < n) ∧ x.toInt64 = sL b n := by
  by_cases c : x.toInt < 0
  · refine ⟨true, x.toInt.natAbs, by omega, fun _ => by omega, ?_⟩
    apply Int64.toInt_inj.mp
    rw [Int32.toInt_toInt64, sL_t (by omega)]
    simp only [if_true]
    omega
  · refine ⟨false, x.toInt.natAbs, by omega, fun z => absurd z (by decide), ?_⟩
    apply Int64.toInt_inj.mp
    rw [Int32.toInt_toInt64, sL_t (by omega)]
    simp only [Bool.false_eq_true, if_false]
    omega
theorem pv_span (u : Nat) (hu : 4000000 ≤ u) (N K Z rf : Nat → Int32) (sg : Int32) (Lm : Nat → Int64) (S cal cbl : Nat → Int32)  (p1 p2 : Int32)(hR : RelC N K Z rf sg Lm S cal cbl) : ∃ (rc : Int32 × Int32 × (Nat → Int32) × Int32 × Int32 × (Nat → Int32) × (Nat → Int32)) (rm : Int32 × Int32 × (Nat → Int64) × (Nat → Int32) × (Nat → Int32)), fX8_span u p1 p2 sg rf (S 0) (S 1) (N 395) (1 : Int32) cal cbl (cw 50 N) (cw 98 N) = some rc ∧ fX9_span u p1 p2 sg Lm N rf S = some rm ∧ rc.1 = rm.1 ∧ RelAll N K Z rm.2.2.2.1 rm.2.1 rm.2.2.1 rm.2.2.2.2 (N 392) (N 393) (N 394) (4 : Int32) (1 : Int32) (N 395) (1 : Int32) (N 396) (N 397) (1 : Int32) (3 : Int32) (8 : Int32) (N 191) (cw 0 N) (cw 12 N) (cw 24 N) (cw 40 N) (cw 48 N) (cw 50 N) (cw 98 N) (cw 99 N) (cw 147 N) (cw 153 N) (cw 154 N) (cw 175 N) (cw 192 N) rc.2.2.1 rc.2.1 rc.2.2.2.1 rc.2.2.2.2.1 rc.2.2.2.2.2.1 rc.2.2.2.2.2.2 := by
  obtain ⟨n, en, hn⟩ := rg_N (B := 16) hR.1.1.2.2.2.1
  have hP := PB_of hR.1 hn en
  have m3 : fX9_many 3 N = some (nI n) := by rw [show (3 : Int32) = nI 3 from rfl, many9 N (by decide), en]
  have hb := spN_b (g := p1) hP hn
  have g0 : ∀ i, cw 50 N (i * 3 + 0) = N (50 + 3 * i) := fun i => by unfold cw; congr 1; omega
  have hbn := hb n (Nat.le_refl n)
  unfold fX8_span fX9_span
  rw [in_0_1, in_0_2]
  rcases wi p1 0 1 (A := 0) (B := 1) rfl rfl with ⟨e1, h1⟩ | ⟨e1, h1⟩
  · rcases wi p2 0 2 (A := 0) (B := 2) rfl rfl with ⟨e2, h2⟩ | ⟨e2, h2⟩
    · rw [e1, ob_s, if_neg one0, e2, ob_s, if_neg one0, ob_s, if_neg one0, ob_s, if_neg one0]
      have hc := jfix_to (g := fX8_span_b40 u p1 p2 sg rf (S 0) (S 1) (nI n) 1 cal cbl (cw 50 N) (cw 98 N)) (fun k => (nI (spN N p1 k).1, (spN N p1 k).2.1, (spN N p1 k).2.2.1, (spN N p1 k).2.2.2, nI k, sg, rf, S 0, S 1, cal, cbl)) n (if nI (spN N p1 n).1 = 0 then ob (fX8_no (-2000) rf) (fun r5 => some (r5.1, sg, r5.2, S 0, S 1, cal, cbl)) else if (2 : Int32) ≤ p2 then ob (fX1_set u (spN N p1 n).2.1.toInt64 (lN (spN N p1 n).1) sg (S 0) (S 1) cal cbl) (fun r4 => some (1, r4.1, rf, r4.2.1, r4.2.2.1, r4.2.2.2.1, r4.2.2.2.2)) else if p2 = 0 then some ((spN N p1 n).2.2.1, sg, rf, S 0, S 1, cal, cbl) else some ((spN N p1 n).2.2.2, sg, rf, S 0, S 1, cal, cbl)) (u := u) (by
        intro i hi rec
        have hbi := hb i (by omega)
        unfold fX8_span_b40
        dsimp only
        rw [if_neg (nI_ge hi (by omega)), show (0 : Int32) = nI 0 from rfl, show (3 : Int32) = nI 3 from rfl, cell7 hi (by decide) (by omega) (by omega) (by decide) (by decide), ob_s, g0]
        have es : spN N p1 (i + 1) = if N (50 + 3 * i) = p1 then ((spN N p1 i).1 + 1, (spN N p1 i).2.1 + rtN N i, (if (spN N p1 i).1 = 0 then rtN N i else if rtN N i < (spN N p1 i).2.2.1 then rtN N i else (spN N p1 i).2.2.1), (if (spN N p1 i).1 = 0 then rtN N i else if (spN N p1 i).2.2.2 < rtN N i then rtN N i else (spN N p1 i).2.2.2)) else spN N p1 i := rfl
        rw [es]
        by_cases c : N (50 + 3 * i) = p1
        · rw [if_pos c, if_pos c, rtC hP hi hn, ob_s]
          unfold fX8_span_b99 fX8_span_b117 fX8_span_b129
          dsimp only
          simp only [show ((nI (spN N p1 i).1 = nI 0) = ((spN N p1 i).1 = 0)) from eqN (by omega) (by decide), show ((nI (spN N p1 i).1 = 0) = ((spN N p1 i).1 = 0)) from eqN (by omega) (by decide), blet_s]
          by_cases d : (spN N p1 i).1 = 0
          · simp only [if_pos d, nI_1]
          · simp only [if_neg d, nI_1]
        · rw [if_neg c, if_neg c]
          unfold fX8_span_b129
          dsimp only
          rw [blet_s, nI_1]) (by
        intro rec
        unfold fX8_span_b40
        dsimp only
        rw [if_pos (nI_le (Nat.le_refl n) (by omega)), toL (by omega)]) (by omega)
      have hr := jfix_to (g := fX9_span_b44 u p1 p2 sg Lm N rf S) (fun k => (nI (spN N p1 k).1, (spN N p1 k).2.2.1, (spN N p1 k).2.2.2, (spN N p1 k).2.1, nI k, sg, Lm, rf, S)) n (if nI (spN N p1 n).1 = 0 then ob (fX9_no (-2000) rf) (fun r6 => some (r6.1, sg, Lm, r6.2, S)) else if p2 = 0 then some ((spN N p1 n).2.2.1, sg, Lm, rf, S) else if p2 = 1 then some ((spN N p1 n).2.2.2, sg, Lm, rf, S) else ob (fX9_tells u (spN N p1 n).2.1.toInt64 (lN (spN N p1 n).1) sg Lm S) (fun r5 => some (r5.1, r5.2.1, r5.2.2.1, rf, r5.2.2.2))) (u := u) (by
        intro i hi rec
        have hbi := hb i (by omega)
        unfold fX9_span_b44
        dsimp only
        rw [m3, ob_s, if_neg (nI_ge hi (by omega)), grR (show i < 16 by omega), ob_s, rtR (show i < 16 by omega)]
        have es : spN N p1 (i + 1) = if N (50 + 3 * i) = p1 then ((spN N p1 i).1 + 1, (spN N p1 i).2.1 + rtN N i, (if (spN N p1 i).1 = 0 then rtN N i else if rtN N i < (spN N p1 i).2.2.1 then rtN N i else (spN N p1 i).2.2.1), (if (spN N p1 i).1 = 0 then rtN N i else if (spN N p1 i).2.2.2 < rtN N i then rtN N i else (spN N p1 i).2.2.2)) else spN N p1 i := rfl
        rw [es]
        unfold fX9_span_b83 fX9_span_b90 fX9_span_b103 fX9_span_b110 fX9_span_b122
        dsimp only
        by_cases c : N (50 + 3 * i) = p1
        · rw [if_pos c, if_pos c, ob_s]
          simp only [show ((nI (spN N p1 i).1 = 0) = ((spN N p1 i).1 = 0)) from eqN (by omega) (by decide), blet_s]
          by_cases d : (spN N p1 i).1 = 0
          · simp only [if_pos d, nI_1]
          · simp only [if_neg d, nI_1]
            by_cases f : (spN N p1 i).2.2.1 ≤ rtN N i
            · simp only [if_pos f, if_neg (Int32.not_lt.mpr f)]
              by_cases f2 : rtN N i ≤ (spN N p1 i).2.2.2
              · simp only [if_pos f2, if_neg (Int32.not_lt.mpr f2)]
              · simp only [if_neg f2, if_pos (Int32.not_le.mp f2)]
            · simp only [if_neg f, if_pos (Int32.not_le.mp f)]
              by_cases f2 : rtN N i ≤ (spN N p1 i).2.2.2
              · simp only [if_pos f2, if_neg (Int32.not_lt.mpr f2)]
              · simp only [if_neg f2, if_pos (Int32.not_le.mp f2)]
        · rw [if_neg c, if_neg c]
          rw [blet_s, nI_1]) (by
        intro rec
        unfold fX9_span_b44
        dsimp only
        rw [m3, ob_s, if_pos (nI_le (Nat.le_refl n) (by omega)), toL (by omega)]) (by omega)
      rw [← en] at hc
      rw [show jfix (fX8_span_b40 u p1 p2 sg rf (S 0) (S 1) (N 395) 1 cal cbl (cw 50 N) (cw 98 N)) u (0, 0, 0, 0, 0, sg, rf, S 0, S 1, cal, cbl) = _ from hc, show jfix (fX9_span_b44 u p1 p2 sg Lm N rf S) u (0, 0, 0, 0, 0, sg, Lm, rf, S) = _ from hr]
      by_cases c : nI (spN N p1 n).1 = 0
      · rw [if_pos c, if_pos c]
        exact ⟨_, _, rfl, rfl, rfl, Rel_rf _ hR⟩
      · rw [if_neg c, if_neg c]
        have c0 : 0 < (spN N p1 n).1 := Nat.pos_of_ne_zero (fun z => c (by rw [z]; rfl))
        obtain ⟨w, rfl, hw⟩ := rg_N (B := 2) h2
        have hw3 : w = 0 ∨ w = 1 ∨ w = 2 := by omega
        rcases hw3 with rfl | rfl | rfl
        · rw [if_neg (show ¬ (2 : Int32) ≤ nI 0 by decide), if_pos (show nI 0 = 0 from rfl), if_pos (show nI 0 = 0 from rfl)]
          exact ⟨_, _, rfl, rfl, rfl, hR⟩
        · rw [if_neg (show ¬ (2 : Int32) ≤ nI 1 by decide), if_neg (show ¬ nI 1 = 0 by decide), if_neg (show ¬ nI 1 = 0 by decide), if_pos (show nI 1 = 1 from rfl)]
          exact ⟨_, _, rfl, rfl, rfl, hR⟩
        · rw [if_pos (show (2 : Int32) ≤ nI 2 by decide), if_neg (show ¬ nI 2 = 0 by decide), if_neg (show ¬ nI 2 = 1 by decide)]
          obtain ⟨b, k, hk, hbk, ek⟩ := sL_of (x := (spN N p1 n).2.1) (by omega) (by omega)
          obtain ⟨a, q, r1, r2, r3, r4⟩ := frac hu (n := k) (w := (spN N p1 n).1) (b := b) (by omega) (by omega) c0 hbk sg (S 0) (S 1) sg cal cbl Lm S
          rw [ek, r1, r2, ob_s, ob_s]
          exact ⟨_, _, rfl, rfl, r3.symm, Rel_fr hR r4⟩
    · rw [e1, ob_s, if_neg one0, e2, ob_s, if_pos rfl, ob_s, if_neg one0, ob_s, if_pos rfl]
      exact ⟨_, _, rfl, rfl, rfl, Rel_rf _ hR⟩
  · rw [e1, ob_s, if_pos rfl, ob_s, if_pos rfl]
    exact ⟨_, _, rfl, rfl, rfl, Rel_rf _ hR⟩
