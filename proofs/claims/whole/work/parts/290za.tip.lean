def kS (N : Nat → Int32) (s : Nat) : Nat → Nat
  | 0 => 0
  | b + 1 => kS N s b + (N (154 + 7 * s + 1 + b)).toNatClampNeg
def wS (N : Nat → Int32) (s b : Nat) : Nat → Nat
  | 0 => ((N (154 + 7 * s + 1 + b)).toNatClampNeg + 1) * (N (154 + 7 * s)).toNatClampNeg
  | k + 1 => if k = s then wS N s b k else wS N s b k * (kS N k 6 + 6)
def aS (N : Nat → Int32) (b : Nat) : Nat → Nat
  | 0 => 0
  | s + 1 => aS N b s + wS N s b 3
def SB (N : Nat → Int32) : Prop := ∀ s, s < 3 → (N (154 + 7 * s) = nI (N (154 + 7 * s)).toNatClampNeg ∧ (N (154 + 7 * s)).toNatClampNeg ≤ 9) ∧ ∀ b, b < 6 → N (154 + 7 * s + 1 + b) = nI (N (154 + 7 * s + 1 + b)).toNatClampNeg ∧ (N (154 + 7 * s + 1 + b)).toNatClampNeg ≤ 99
theorem SB_of {N : Nat → Int32} (I : InvN N) : SB N := by
  intro s hs
  have h := I.2.2.2.2.2.2.2.2.2.2.2.1 s hs
  obtain ⟨a, b, c⟩ := rg_t (A := 0) (B := 9) h.1
  refine ⟨⟨a, c⟩, fun j hj => ?_⟩
  obtain ⟨a, b, c⟩ := rg_t (A := 0) (B := 99) (h.2 j hj)
  exact ⟨a, c⟩
theorem kS_b {N : Nat → Int32} (h : SB N) {s : Nat} (hs : s < 3) : ∀ b, b ≤ 6 → kS N s b ≤ 99 * b := by
  intro b
  induction b with
  | zero => intro _; exact Nat.le_refl _
  | succ b ih =>
    intro hb
    have h1 := ih (by omega)
    have h2 := ((h s hs).2 b (by omega)).2
    unfold kS
    omega
theorem knC {N : Nat → Int32} (h : SB N) {u : Nat} (hu : 4000000 ≤ u) {s : Nat} (hs : s < 3) : fX6_knownOf u (nI s) 3 (cw 154 N) = some (nI (kS N s 6)) := by
  unfold fX6_knownOf
  refine jfix_to (fun k => (nI (kS N s k), nI k)) 6 _ ?_ ?_ (by omega)
  · intro k hk rec
    have hb := kS_b h hs k (by omega)
    have e := (h s hs).2 k hk
    have e4 : cw 154 N (s * 7 + (1 + k)) = N (154 + 7 * s + 1 + k) := by unfold cw; congr 1; omega
    unfold fX6_knownOf_b4
    simp (disch := omega) only [blet_s, ob_s, lit32, litL, jgN, nI_add, mulN, clampN, leN, show ¬ 6 ≤ k by omega, if_false, cell7, e4]
    rw [e.1]
    simp (disch := omega) only [blet_s, ob_s, lit32, litL, jgN, nI_add, mulN, clampN]
    rfl
  · intro rec
    unfold fX6_knownOf_b4
    simp (disch := omega) only [blet_s, ob_s, lit32, litL, jgN, nI_add, mulN, clampN, leN, Nat.le_refl, if_true]
theorem belR {N : Nat → Int32} (h : SB N) {u : Nat} (hu : 4000000 ≤ u) {s : Nat} (hs : s < 3) : fX9_belowOf u (nI s) N = some (nI (kS N s 6 + 6)) := by
  unfold fX9_belowOf
  refine jfix_to (fun k => (nI (kS N s k + 6), nI k)) 6 _ ?_ ?_ (by omega)
  · intro k hk rec
    have hb := kS_b h hs k (by omega)
    have e := (h s hs).2 k hk
    unfold fX9_belowOf_b5
    simp (disch := omega) only [blet_s, ob_s, lit32, litL, jgN, nI_add, mulN, clampN, leN, show ¬ 6 ≤ k by omega, if_false]
    rw [e.1]
    simp (disch := omega) only [blet_s, ob_s, lit32, litL, jgN, nI_add, mulN, clampN]
    have e5 : kS N s k + 6 + (N (154 + 7 * s + 1 + k)).toNatClampNeg = kS N s (k + 1) + 6 := by
      show _ = kS N s k + (N (154 + 7 * s + 1 + k)).toNatClampNeg + 6
      omega
    rw [e5]
  · intro rec
    unfold fX9_belowOf_b5
    simp (disch := omega) only [blet_s, ob_s, lit32, litL, jgN, nI_add, mulN, clampN, leN, Nat.le_refl, if_true]
theorem w0_b {N : Nat → Int32} (h : SB N) {s b : Nat} (hs : s < 3) (hb : b < 6) : wS N s b 0 ≤ 900 := by
  have h1 := (h s hs).1.2
  have h2 := ((h s hs).2 b hb).2
  exact Nat.mul_le_mul (show (N (154 + 7 * s + 1 + b)).toNatClampNeg + 1 ≤ 100 by omega) h1
theorem wS_b {N : Nat → Int32} (h : SB N) {s b : Nat} (hs : s < 3) (hb : b < 6) : ∀ k, k ≤ 3 → wS N s b k ≤ 900 * 600 ^ k := by
  intro k
  induction k with
  | zero => intro _; rw [Nat.pow_zero, Nat.mul_one]; exact w0_b h hs hb
  | succ k ih =>
    intro hk
    have h1 := ih (by omega)
    have h2 := kS_b h (s := k) (by omega) 6 (Nat.le_refl 6)
    unfold wS
    split
    · rw [Nat.pow_succ]
      omega
    · rw [Nat.pow_succ, ← Nat.mul_assoc]
      exact Nat.mul_le_mul h1 (by omega)
theorem wS_3 {N : Nat → Int32} (h : SB N) {s b : Nat} (hs : s < 3) (hb : b < 6) : wS N s b 3 ≤ 324000000 := by
  have h0 := w0_b h hs hb
  have k0 := kS_b h (s := 0) (by omega) 6 (Nat.le_refl 6)
  have k1 := kS_b h (s := 1) (by omega) 6 (Nat.le_refl 6)
  have k2 := kS_b h (s := 2) (by omega) 6 (Nat.le_refl 6)
  have e3 : wS N s b 3 = if 2 = s then wS N s b 2 else wS N s b 2 * (kS N 2 6 + 6) := rfl
  have e2 : wS N s b 2 = if 1 = s then wS N s b 1 else wS N s b 1 * (kS N 1 6 + 6) := rfl
  have e1 : wS N s b 1 = if 0 = s then wS N s b 0 else wS N s b 0 * (kS N 0 6 + 6) := rfl
  have m : ∀ {x y : Nat}, x ≤ 900 → y ≤ 594 → x * (y + 6) ≤ 900 * 600 := fun a b => Nat.mul_le_mul a (by omega)
  have m2 : ∀ {x y : Nat}, x ≤ 900 * 600 → y ≤ 594 → x * (y + 6) ≤ 900 * 600 * 600 := fun a b => Nat.mul_le_mul a (by omega)
  rw [e3, e2, e1]
  have hs3 : s = 0 ∨ s = 1 ∨ s = 2 := by omega
  rcases hs3 with rfl | rfl | rfl
  · rw [if_neg (by decide), if_neg (by decide), if_pos rfl]
    exact m2 (m h0 k1) k2
  · rw [if_neg (by decide), if_pos rfl, if_neg (by decide)]
    exact m2 (m h0 k0) k2
  · rw [if_pos rfl, if_neg (by decide), if_neg (by decide)]
    exact m2 (m h0 k0) k1
theorem swC {N : Nat → Int32} (h : SB N) {u : Nat} (hu : 4000000 ≤ u) {s b : Nat} (hs : s < 3) (hb : b < 6) : fX6_sortWeight u (nI s) (nI b) 3 (cw 154 N) = some (lN (wS N s b 3)) := by
  have e4 : cw 154 N (s * 7 + (1 + b)) = N (154 + 7 * s + 1 + b) := by unfold cw; congr 1; omega
  have e5 : cw 154 N (s * 7 + 0) = N (154 + 7 * s) := by unfold cw; congr 1; omega
  have a1 := ((h s hs).2 b hb).1
  have a2 := (h s hs).1.1
  have h0 := w0_b h hs hb
  unfold fX6_sortWeight
  simp (disch := omega) only [blet_s, ob_s, lit32, litL, jgN, nI_add, mulN, clampN, cell7, e4, e5]
  rw [a1, a2]
  have ew : (nI (N (154 + 7 * s + 1 + b)).toNatClampNeg + nI 1) * nI (N (154 + 7 * s)).toNatClampNeg = nI (wS N s b 0) := by
    rw [nI_add, mulN]
    rfl
  rw [ew, toL (by omega)]
  refine jfix_to (fun k => (lN (wS N s b k), nI k)) 3 _ ?_ ?_ (by omega)
  · intro k hk rec
    have hk2 := kS_b h (s := k) hk 6 (Nat.le_refl 6)
    unfold fX6_sortWeight_b28 fX6_sortWeight_b53
    dsimp only
    rw [lit32 (nat_lit 3), if_neg (nI_ge hk (by decide))]
    simp only [eqN (show k < 2 ^ 31 by omega) (show s < 2 ^ 31 by omega)]
    have es : wS N s b (k + 1) = if k = s then wS N s b k else wS N s b k * (kS N k 6 + 6) := rfl
    rw [es]
    by_cases c : k = s
    · rw [if_pos c, if_pos c, blet_s, nI_1]
    · rw [if_neg c, if_neg c, show nI 3 = 3 from rfl, knC h hu hk, ob_s, show (6 : Int32) = nI 6 from rfl, nI_add, toL (by omega), mulL, blet_s, blet_s, nI_1]
  · intro rec
    unfold fX6_sortWeight_b28
    simp (disch := omega) only [blet_s, ob_s, lit32, litL, jgN, nI_add, mulN, clampN, leN, Nat.le_refl, if_true]
theorem woR {N : Nat → Int32} (h : SB N) {u : Nat} (hu : 4000000 ≤ u) {s b : Nat} (hs : s < 3) (hb : b < 6) : fX9_weightOf u (nI s) (nI b) N = some (lN (wS N s b 3)) := by
  have a1 := ((h s hs).2 b hb)
  have a2 := (h s hs).1
  have h0 := w0_b h hs hb
  unfold fX9_weightOf
  simp (disch := omega) only [blet_s, ob_s, lit32, litL, jgN, nI_add, mulN, clampN]
  rw [a1.1, a2.1, nI_add, toL (by omega), toL (by omega), mulL]
  have ew : (N (154 + 7 * s)).toNatClampNeg * ((N (154 + 7 * s + 1 + b)).toNatClampNeg + 1) = wS N s b 0 := Nat.mul_comm _ _
  rw [ew]
  refine jfix_to (fun k => (lN (wS N s b k), nI k)) 3 _ ?_ ?_ (by omega)
  · intro k hk rec
    have hk2 := kS_b h (s := k) hk 6 (Nat.le_refl 6)
    unfold fX9_weightOf_b39 fX9_weightOf_b63
    dsimp only
    rw [lit32 (nat_lit 3), if_neg (nI_ge hk (by decide))]
    simp only [eqN (show k < 2 ^ 31 by omega) (show s < 2 ^ 31 by omega)]
    have es : wS N s b (k + 1) = if k = s then wS N s b k else wS N s b k * (kS N k 6 + 6) := rfl
    rw [es]
    by_cases c : k = s
    · rw [if_pos c, if_pos c, blet_s, blet_s, nI_1, show (1 : Int64) = lN 1 from rfl, mulL, Nat.mul_one]
    · rw [if_neg c, if_neg c, belR h hu hk, ob_s, toL (by omega), blet_s, blet_s, mulL, nI_1]
  · intro rec
    unfold fX9_weightOf_b39
    simp (disch := omega) only [blet_s, ob_s, lit32, litL, jgN, nI_add, mulN, clampN, leN, Nat.le_refl, if_true]
theorem pv_tip (u : Nat) (hu : 4000000 ≤ u) (N K Z rf : Nat → Int32) (sg : Int32) (Lm : Nat → Int64) (S cal cbl : Nat → Int32)  (p1 p2 : Int32)(hR : RelC N K Z rf sg Lm S cal cbl) : ∃ (rc : Int32 × Int32 × (Nat → Int32) × Int32 × Int32 × (Nat → Int32) × (Nat → Int32)) (rm : Int32 × Int32 × (Nat → Int64) × (Nat → Int32) × (Nat → Int32)), fX8_tip u p1 p2 sg rf (S 0) (S 1) (3 : Int32) cal cbl (cw 154 N) = some rc ∧ fX9_tip u p1 p2 sg Lm N rf S = some rm ∧ rc.1 = rm.1 ∧ RelAll N K Z rm.2.2.2.1 rm.2.1 rm.2.2.1 rm.2.2.2.2 (N 392) (N 393) (N 394) (4 : Int32) (1 : Int32) (N 395) (1 : Int32) (N 396) (N 397) (1 : Int32) (3 : Int32) (8 : Int32) (N 191) (cw 0 N) (cw 12 N) (cw 24 N) (cw 40 N) (cw 48 N) (cw 50 N) (cw 98 N) (cw 99 N) (cw 147 N) (cw 153 N) (cw 154 N) (cw 175 N) (cw 192 N) rc.2.2.1 rc.2.1 rc.2.2.2.1 rc.2.2.2.2.1 rc.2.2.2.2.2.1 rc.2.2.2.2.2.2 := by
  have h := SB_of hR.1
  unfold fX8_tip fX9_tip
  rw [isBand9, isSort9]
  rcases wi p1 0 5 (A := 0) (B := 5) rfl rfl with ⟨e1, h1⟩ | ⟨e1, h1⟩
  · rcases wi p2 0 2 (A := 0) (B := 2) rfl rfl with ⟨e2, h2⟩ | ⟨e2, h2⟩
    · obtain ⟨b, rfl, hb⟩ := rg_N (B := 5) h1
      obtain ⟨s, rfl, hs⟩ := rg_N (B := 2) h2
      rw [e1, ob_s, if_neg one0, e2, ob_s, if_neg one0, ob_s, if_neg one0, ob_s, if_neg one0]
      have w0 := wS_3 h (s := 0) (b := b) (by omega) (by omega)
      have w1 := wS_3 h (s := 1) (b := b) (by omega) (by omega)
      have w2 := wS_3 h (s := 2) (b := b) (by omega) (by omega)
      have ws := wS_3 h (s := s) (b := b) (by omega) (by omega)
      have ea : aS N b 3 = wS N 0 b 3 + wS N 1 b 3 + wS N 2 b 3 := by
        show 0 + wS N 0 b 3 + wS N 1 b 3 + wS N 2 b 3 = _
        omega
      have hA : aS N b 3 ≤ 972000000 := by omega
      rw [show fX9_weightOf u 0 (nI b) N = some (lN (wS N 0 b 3)) from woR h hu (s := 0) (by omega) (by omega), ob_s, show fX9_weightOf u 1 (nI b) N = some (lN (wS N 1 b 3)) from woR h hu (s := 1) (by omega) (by omega), ob_s, show fX9_weightOf u 2 (nI b) N = some (lN (wS N 2 b 3)) from woR h hu (s := 2) (by omega) (by omega), ob_s, addL, addL, ← ea, blet_s, woR h hu (s := s) (b := b) (by omega) (by omega), ob_s]
      have hc := jfix_to (g := fX8_tip_b30 u (nI b) (nI s) sg rf (S 0) (S 1) 3 cal cbl (cw 154 N)) (fun k => (lN (aS N b k), nI k, sg, rf, S 0, S 1, cal, cbl)) 3 (if lg_cmp (lN (aS N b 3)) 0 = 0 then ob (fX8_no (-3) rf) (fun r6 => some (r6.1, sg, r6.2, S 0, S 1, cal, cbl)) else ob (fX1_set u (sL false (wS N s b 3)) (lN (aS N b 3)) sg (S 0) (S 1) cal cbl) (fun r5 => some (1, r5.1, rf, r5.2.1, r5.2.2.1, r5.2.2.2.1, r5.2.2.2.2))) (u := u) (by
        intro k hk rec
        unfold fX8_tip_b30
        dsimp only
        rw [lit32 (nat_lit 3), if_neg (nI_ge hk (by decide)), show nI 3 = 3 from rfl, swC h hu hk (by omega), ob_s, blet_s, blet_s, addL, nI_1]
        rfl) (by
        intro rec
        unfold fX8_tip_b30
        dsimp only
        rw [if_pos (show (3 : Int32) ≤ nI 3 by decide), swC h hu (by omega) (by omega), ob_s]
        rfl) (by omega)
      rw [show jfix (fX8_tip_b30 u (nI b) (nI s) sg rf (S 0) (S 1) 3 cal cbl (cw 154 N)) u (0, 0, sg, rf, S 0, S 1, cal, cbl) = _ from hc]
      by_cases c : lg_cmp (lN (aS N b 3)) 0 = 0
      · rw [if_pos c, if_pos c]
        exact ⟨_, _, rfl, rfl, rfl, Rel_rf _ hR⟩
      · rw [if_neg c, if_neg c]
        have c0 : 0 < aS N b 3 := Nat.pos_of_ne_zero (fun z => c (by rw [z]; rfl))
        obtain ⟨a, q, r1, r2, r3, r4⟩ := frac hu (n := wS N s b 3) (w := aS N b 3) (b := false) (by omega) (by omega) c0 (fun z => absurd z (by decide)) sg (S 0) (S 1) sg cal cbl Lm S
        rw [r1, show fX9_tells u (lN (wS N s b 3)) _ _ _ _ = some q from r2, ob_s, ob_s]
        exact ⟨_, _, rfl, rfl, r3.symm, Rel_fr hR r4⟩
    · rw [e1, ob_s, if_neg one0, e2, ob_s, if_pos rfl, ob_s, if_neg one0, ob_s, if_pos rfl]
      exact ⟨_, _, rfl, rfl, rfl, Rel_rf _ hR⟩
  · rw [e1, ob_s, if_pos rfl, ob_s, if_pos rfl]
    exact ⟨_, _, rfl, rfl, rfl, Rel_rf _ hR⟩
