def rtN (N : Nat → Int32) (i : Nat) : Int32 := if N (50 + 3 * i + 2) = 1 then N (50 + 3 * i + 1) + N 98 else N (50 + 3 * i + 1) + 0
def PB (N : Nat → Int32) (n : Nat) : Prop := ∀ i, i < n → (N (50 + 3 * i + 2) = 0 ∨ N (50 + 3 * i + 2) = 1) ∧ -99 ≤ (rtN N i).toInt ∧ (rtN N i).toInt ≤ 1098
theorem PB_of {N : Nat → Int32} (I : InvN N) {n : Nat} (hn : n ≤ 16) (e : N 395 = nI n) : PB N n := by
  intro i hi
  have h := I.2.2.2.2.2.2.1 i (by rw [e, nI_toInt (by omega)]; omega)
  have hp := I.2.2.2.2.2.2.2.1
  have h2 := h.2.1
  unfold rg at hp h2
  obtain ⟨k, ek, hk⟩ := rg_N (B := 1) h.2.2
  refine ⟨?_, ?_⟩
  · rw [ek]
    have : k = 0 ∨ k = 1 := by omega
    rcases this with rfl | rfl
    · exact Or.inl rfl
    · exact Or.inr rfl
  · unfold rtN
    split
    · rw [Int32.toInt_add, bm32 (by omega) (by omega)]
      omega
    · rw [Int32.add_zero]
      omega
theorem rtC {N : Nat → Int32} {n i : Nat} (h : PB N n) (hi : i < n) (hn : n ≤ 16) : fX6_putRight (nI i) (nI n) 1 (cw 50 N) (cw 98 N) = some (rtN N i) := by
  have e1 : cw 50 N (i * 3 + 1) = N (50 + 3 * i + 1) := by unfold cw; congr 1; omega
  have e2 : cw 50 N (i * 3 + 2) = N (50 + 3 * i + 2) := by unfold cw; congr 1; omega
  have e3 : cw 98 N (0 * 1 + 0) = N 98 := rfl
  unfold fX6_putRight
  simp (disch := omega) only [blet_s, ob_s, lit32, litL, jgN, nI_add, mulN, clampN, cell7, e1, e2, e3]
  unfold rtN
  rcases (h i hi).1 with c | c
  · rw [c, if_neg (by decide), Int32.zero_mul]
  · rw [c, if_pos rfl, Int32.one_mul]
theorem rtR {N : Nat → Int32} {i : Nat} (hi : i < 16) : fX9_rightOf (nI i) N = some (rtN N i) := by
  unfold fX9_rightOf rtN
  simp (disch := omega) only [blet_s, lit32 (nat_lit 50), lit32 (nat_lit 3), lit32 (nat_lit 2), mulN, nI_add, nI_1, jgN, clampN]
  split
  · rfl
  · rfl
theorem grR {N : Nat → Int32} {i : Nat} (hi : i < 16) : fX9_groupOf (nI i) N = some (N (50 + 3 * i)) := by
  unfold fX9_groupOf
  simp (disch := omega) only [blet_s, ob_s, lit32, litL, jgN, nI_add, mulN, clampN]
def hvN (N : Nat → Int32) (i j : Nat) : Nat := if rtN N j ≤ rtN N i then (if rtN N j = rtN N i then 1 else 0) else 2
def prI (N : Nat → Int32) (i : Nat) (s : Nat × Nat) : Nat → Nat × Nat
  | 0 => s
  | j + 1 => if N (50 + 3 * i) = 0 then (if N (50 + 3 * j) = 1 then ((prI N i s j).1 + 1, (prI N i s j).2 + hvN N i j) else prI N i s j) else prI N i s j
def prO (N : Nat → Int32) (n : Nat) : Nat → Nat × Nat
  | 0 => (0, 0)
  | i + 1 => prI N i (prO N n i) n
theorem prI_b {N : Nat → Int32} {i : Nat} {s : Nat × Nat} : ∀ j, (prI N i s j).1 ≤ s.1 + j ∧ (prI N i s j).2 ≤ s.2 + 2 * j := by
  intro j
  induction j with
  | zero => exact ⟨Nat.le_refl _, Nat.le_refl _⟩
  | succ j ih =>
    have h : hvN N i j ≤ 2 := by
      unfold hvN
      split
      · split <;> omega
      · omega
    unfold prI
    split
    · split
      · dsimp only
        omega
      · omega
    · omega
theorem prO_b {N : Nat → Int32} {n : Nat} (hn : n ≤ 16) : ∀ i, (prO N n i).1 ≤ 16 * i ∧ (prO N n i).2 ≤ 32 * i := by
  intro i
  induction i with
  | zero => exact ⟨Nat.le_refl _, Nat.le_refl _⟩
  | succ i ih =>
    have h := prI_b (N := N) (i := i) (s := prO N n i) n
    have e : prO N n (i + 1) = prI N i (prO N n i) n := rfl
    rw [e]
    omega
theorem pv_pairs (u : Nat) (hu : 4000000 ≤ u) (N K Z rf : Nat → Int32) (sg : Int32) (Lm : Nat → Int64) (S cal cbl : Nat → Int32)  (hR : RelC N K Z rf sg Lm S cal cbl) : ∃ (rc : Int32 × Int32 × (Nat → Int32) × Int32 × Int32 × (Nat → Int32) × (Nat → Int32)) (rm : Int32 × Int32 × (Nat → Int64) × (Nat → Int32) × (Nat → Int32)), fX8_pairs u sg rf (S 0) (S 1) (N 395) (1 : Int32) cal cbl (cw 50 N) (cw 98 N) = some rc ∧ fX9_pairs u sg Lm N rf S = some rm ∧ rc.1 = rm.1 ∧ RelAll N K Z rm.2.2.2.1 rm.2.1 rm.2.2.1 rm.2.2.2.2 (N 392) (N 393) (N 394) (4 : Int32) (1 : Int32) (N 395) (1 : Int32) (N 396) (N 397) (1 : Int32) (3 : Int32) (8 : Int32) (N 191) (cw 0 N) (cw 12 N) (cw 24 N) (cw 40 N) (cw 48 N) (cw 50 N) (cw 98 N) (cw 99 N) (cw 147 N) (cw 153 N) (cw 154 N) (cw 175 N) (cw 192 N) rc.2.2.1 rc.2.1 rc.2.2.2.1 rc.2.2.2.2.1 rc.2.2.2.2.2.1 rc.2.2.2.2.2.2 := by
  obtain ⟨n, en, hn⟩ := rg_N (B := 16) hR.1.1.2.2.2.1
  have hP := PB_of hR.1 hn en
  have m3 : fX9_many 3 N = some (nI n) := by rw [show (3 : Int32) = nI 3 from rfl, many9 N (by decide), en]
  have hbO := prO_b (N := N) hn
  have g0 : ∀ i, cw 50 N (i * 3 + 0) = N (50 + 3 * i) := fun i => by unfold cw; congr 1; omega
  have hbn := hbO n
  unfold fX8_pairs fX9_pairs
  have hc := jfix_to (g := fX8_pairs_b6 u sg rf (S 0) (S 1) (nI n) 1 cal cbl (cw 50 N) (cw 98 N)) (fun k => (nI (prO N n k).1, nI (prO N n k).2, nI k, sg, rf, S 0, S 1, cal, cbl)) n (if nI (prO N n n).1 = 0 then ob (fX8_no (-3) rf) (fun r2 => some (r2.1, sg, r2.2, S 0, S 1, cal, cbl)) else ob (fX1_set u (sL false (prO N n n).2) (lN (2 * (prO N n n).1)) sg (S 0) (S 1) cal cbl) (fun r1 => some (1, r1.1, rf, r1.2.1, r1.2.2.1, r1.2.2.2.1, r1.2.2.2.2))) (u := u) (by
    intro i hi rec
    have hbi := hbO i
    unfold fX8_pairs_b6
    dsimp only
    rw [if_neg (nI_ge hi (by omega))]
    refine jfix_to (fun j => (nI (prI N i (prO N n i) j).1, nI (prI N i (prO N n i) j).2, nI i, nI j, sg, rf, S 0, S 1, cal, cbl)) n _ ?_ ?_ (by omega)
    · intro j hj rec2
      have hbj := prI_b (N := N) (i := i) (s := prO N n i) j
      have es : prI N i (prO N n i) (j + 1) = if N (50 + 3 * i) = 0 then (if N (50 + 3 * j) = 1 then ((prI N i (prO N n i) j).1 + 1, (prI N i (prO N n i) j).2 + hvN N i j) else prI N i (prO N n i) j) else prI N i (prO N n i) j := rfl
      unfold fX8_pairs_b23
      dsimp only
      rw [if_neg (nI_ge hj (by omega)), show (0 : Int32) = nI 0 from rfl, show (3 : Int32) = nI 3 from rfl, cell7 hi (by decide) (by omega) (by omega) (by decide) (by decide), ob_s, g0, es]
      by_cases c : N (50 + 3 * i) = 0
      · rw [if_pos (show N (50 + 3 * i) = nI 0 from c), cell7 hj (by decide) (by omega) (by omega) (by decide) (by decide), ob_s, g0, if_pos c]
        by_cases d : N (50 + 3 * j) = 1
        · rw [if_pos d, if_pos d, blet_s, nI_1, rtC hP hj hn, rtC hP hi hn, ob_s, ob_s]
          have ecmp : ob (fJ6_compare_7cf53 (rtN N j) (rtN N i)) (fun r10 => blet (nI (prI N i (prO N n i) j).2 + (1 + r10)) (fun x11 => fX8_pairs_b98 u sg rf (S 0) (S 1) (nI n) 1 cal cbl (cw 50 N) (cw 98 N) rec rec2 (nI ((prI N i (prO N n i) j).1 + 1), x11, nI i, nI j, sg, rf, S 0, S 1, cal, cbl))) = fX8_pairs_b98 u sg rf (S 0) (S 1) (nI n) 1 cal cbl (cw 50 N) (cw 98 N) rec rec2 (nI ((prI N i (prO N n i) j).1 + 1), nI ((prI N i (prO N n i) j).2 + hvN N i j), nI i, nI j, sg, rf, S 0, S 1, cal, cbl) := by
            unfold fJ6_compare_7cf53 hvN
            by_cases f : rtN N i ≤ rtN N j
            · rw [if_pos f]
              by_cases f2 : rtN N j = rtN N i
              · rw [if_pos f2, if_pos f2, ob_s, blet_s, if_pos (by rw [f2]; exact Int32.le_refl _), show (1 : Int32) + 0 = nI 1 from rfl, nI_add]
              · rw [if_neg f2, ob_s, blet_s, if_neg (fun q => f2 (Int32.le_antisymm q f)), show (1 : Int32) + 1 = nI 2 from rfl, nI_add]
            · rw [if_neg f, ob_s, blet_s, if_pos (Int32.le_of_lt (Int32.not_le.mp f)), if_neg (fun q => f (by rw [q]; exact Int32.le_refl _)), show (1 : Int32) + -1 = nI 0 from rfl, nI_add]
          rw [ecmp]
          unfold fX8_pairs_b98
          dsimp only
          rw [blet_s, nI_1]
        · rw [if_neg d, if_neg d]
          unfold fX8_pairs_b98
          dsimp only
          rw [blet_s, nI_1]
      · rw [if_neg (show ¬ N (50 + 3 * i) = nI 0 from c), if_neg c]
        unfold fX8_pairs_b98
        dsimp only
        rw [blet_s, nI_1]
    · intro rec2
      unfold fX8_pairs_b23
      dsimp only
      rw [if_pos (nI_le (Nat.le_refl n) (by omega)), blet_s, nI_1]
      rfl) (by
    intro rec
    unfold fX8_pairs_b6
    dsimp only
    rw [if_pos (nI_le (Nat.le_refl n) (by omega)), lit32 (nat_lit 2), mulN, toL (by omega), toL (by omega)]
    rfl) (by omega)
  have hr := jfix_to (g := fX9_pairs_b6 u sg Lm N rf S) (fun k => (nI (2 * (prO N n k).1), nI (prO N n k).2, nI k, sg, Lm, rf, S)) n (if nI (2 * (prO N n n).1) = 0 then ob (fX9_no (-3) rf) (fun r3 => some (r3.1, sg, Lm, r3.2, S)) else ob (fX9_tells u (sL false (prO N n n).2) (lN (2 * (prO N n n).1)) sg Lm S) (fun r2 => some (r2.1, r2.2.1, r2.2.2.1, rf, r2.2.2.2))) (u := u) (by
    intro i hi rec
    have hbi := hbO i
    unfold fX9_pairs_b6
    dsimp only
    rw [m3, ob_s, if_neg (nI_ge hi (by omega))]
    refine jfix_to (fun j => (nI (2 * (prI N i (prO N n i) j).1), nI (prI N i (prO N n i) j).2, nI i, nI j, sg, Lm, rf, S)) n _ ?_ ?_ (by omega)
    · intro j hj rec2
      have hbj := prI_b (N := N) (i := i) (s := prO N n i) j
      have es : prI N i (prO N n i) (j + 1) = if N (50 + 3 * i) = 0 then (if N (50 + 3 * j) = 1 then ((prI N i (prO N n i) j).1 + 1, (prI N i (prO N n i) j).2 + hvN N i j) else prI N i (prO N n i) j) else prI N i (prO N n i) j := rfl
      unfold fX9_pairs_b18
      dsimp only
      rw [m3, ob_s, if_neg (nI_ge hj (by omega)), grR (show i < 16 by omega), ob_s, grR (show j < 16 by omega), ob_s, rtR (show i < 16 by omega), rtR (show j < 16 by omega), es]
      unfold fX9_pairs_b87 fX9_pairs_b89
      dsimp only
      by_cases c : N (50 + 3 * i) = 0
      · rw [if_pos c, if_pos c]
        by_cases d : N (50 + 3 * j) = 1
        · rw [if_pos d, if_pos d, show (2 : Int32) = nI 2 from rfl, nI_add, blet_s, ob_s, ob_s]
          have e2 : 2 * (prI N i (prO N n i) j).1 + 2 = 2 * ((prI N i (prO N n i) j).1 + 1) := by omega
          rw [e2]
          unfold hvN
          by_cases f : rtN N j ≤ rtN N i
          · rw [if_pos f, if_pos f, ob_s, ob_s]
            by_cases f2 : rtN N j = rtN N i
            · rw [if_pos f2, if_pos f2, blet_s, nI_1, blet_s, nI_1]
            · rw [if_neg f2, if_neg f2, blet_s, Int32.add_zero, blet_s, nI_1]
              rfl
          · rw [if_neg f, if_neg f, blet_s, nI_add, blet_s, nI_1]
        · rw [if_neg d, if_neg d, blet_s, nI_1]
      · rw [if_neg c, if_neg c, blet_s, nI_1]
    · intro rec2
      unfold fX9_pairs_b18
      dsimp only
      rw [m3, ob_s, if_pos (nI_le (Nat.le_refl n) (by omega)), blet_s, nI_1]
      rfl) (by
    intro rec
    unfold fX9_pairs_b6
    dsimp only
    rw [m3, ob_s, if_pos (nI_le (Nat.le_refl n) (by omega)), toL (by omega), toL (by omega)]
    rfl) (by omega)
  have e0 : (nI (2 * (prO N n n).1) = 0) = (nI (prO N n n).1 = 0) := by
    rw [show (0 : Int32) = nI 0 from rfl, eqN (by omega) (by decide), eqN (by omega) (by decide)]
    apply propext
    omega
  simp only [e0] at hr
  rw [← en] at hc
  rw [show jfix (fX8_pairs_b6 u sg rf (S 0) (S 1) (N 395) 1 cal cbl (cw 50 N) (cw 98 N)) u (0, 0, 0, sg, rf, S 0, S 1, cal, cbl) = _ from hc, show jfix (fX9_pairs_b6 u sg Lm N rf S) u (0, 0, 0, sg, Lm, rf, S) = _ from hr]
  by_cases c : nI (prO N n n).1 = 0
  · rw [if_pos c, if_pos c]
    exact ⟨_, _, rfl, rfl, rfl, Rel_rf _ hR⟩
  · rw [if_neg c, if_neg c]
    have c0 : 0 < (prO N n n).1 := Nat.pos_of_ne_zero (fun z => c (by rw [z]; rfl))
    obtain ⟨a, q, r1, r2, r3, r4⟩ := frac hu (n := (prO N n n).2) (w := 2 * (prO N n n).1) (b := false) (by omega) (by omega) (by omega) (fun z => absurd z (by decide)) sg (S 0) (S 1) sg cal cbl Lm S
    rw [r1, r2, ob_s, ob_s]
    exact ⟨_, _, rfl, rfl, r3.symm, Rel_fr hR r4⟩
