theorem jfix_to {α ρ : Type} {g : (α → Option ρ) → α → Option ρ} (s : Nat → α) (m : Nat) (X : Option ρ) (hs : ∀ k, k < m → ∀ rec : α → Option ρ, g rec (s k) = rec (s (k + 1))) (he : ∀ rec : α → Option ρ, g rec (s m) = X) {u : Nat} (hu : m < u) : jfix g u (s 0) = X := by
  have key : ∀ (d n j : Nat), j + d = m → d < n → jfix g n (s j) = X := by
    intro d
    induction d with
    | zero =>
      intro n j hj hn
      cases n with
      | zero => omega
      | succ n =>
        have e : j = m := by omega
        subst e
        exact he _
    | succ d ih =>
      intro n j hj hn
      cases n with
      | zero => omega
      | succ n =>
        show g (jfix g n) (s j) = X
        rw [hs j (by omega)]
        exact ih n (j + 1) (by omega) (by omega)
  exact key m u 0 (by omega) hu
theorem rg_t {x : Int32} {A B : Nat} (h : rg x A B) : x = nI x.toNatClampNeg ∧ A ≤ x.toNatClampNeg ∧ x.toNatClampNeg ≤ B := by
  obtain ⟨n, e, h1, h2, h3⟩ := rg_nI h (by omega)
  subst e
  rw [nI_clamp h3]
  exact ⟨rfl, by omega, by omega⟩
def lsN (N : Nat → Int32) (p : Int32) : Nat → Nat × Nat
  | 0 => (0, 0)
  | k + 1 => if N (99 + 4 * k + 1) = p then ((lsN N p k).1 + 1, (lsN N p k).2 + (N (99 + 4 * k)).toNatClampNeg) else lsN N p k
theorem lsN_b {N : Nat → Int32} {p : Int32} {n : Nat} (h : ∀ i, i < n → (N (99 + 4 * i)).toNatClampNeg ≤ 99) : ∀ k, k ≤ n → (lsN N p k).1 ≤ k ∧ (lsN N p k).2 ≤ 99 * k := by
  intro k
  induction k with
  | zero => intro _; exact ⟨Nat.le_refl _, Nat.le_refl _⟩
  | succ k ih =>
    intro hk
    have h1 := ih (by omega)
    have h2 := h k (by omega)
    unfold lsN
    split
    · dsimp only
      omega
    · omega
theorem pv_land (u : Nat) (hu : 4000000 ≤ u) (N K Z rf : Nat → Int32) (sg : Int32) (Lm : Nat → Int64) (S cal cbl : Nat → Int32)  (p1 : Int32)(hR : RelC N K Z rf sg Lm S cal cbl) : ∃ (rc : Int32 × Int32 × (Nat → Int32) × Int32 × Int32 × (Nat → Int32) × (Nat → Int32)) (rm : Int32 × Int32 × (Nat → Int64) × (Nat → Int32) × (Nat → Int32)), fX8_land u p1 sg rf (S 0) (S 1) (N 396) cal cbl (cw 99 N) = some rc ∧ fX9_land u p1 sg Lm N rf S = some rm ∧ rc.1 = rm.1 ∧ RelAll N K Z rm.2.2.2.1 rm.2.1 rm.2.2.1 rm.2.2.2.2 (N 392) (N 393) (N 394) (4 : Int32) (1 : Int32) (N 395) (1 : Int32) (N 396) (N 397) (1 : Int32) (3 : Int32) (8 : Int32) (N 191) (cw 0 N) (cw 12 N) (cw 24 N) (cw 40 N) (cw 48 N) (cw 50 N) (cw 98 N) (cw 99 N) (cw 147 N) (cw 153 N) (cw 154 N) (cw 175 N) (cw 192 N) rc.2.2.1 rc.2.1 rc.2.2.2.1 rc.2.2.2.2.1 rc.2.2.2.2.2.1 rc.2.2.2.2.2.2 := by
  obtain ⟨n, en, hn⟩ := rg_N (B := 12) hR.1.1.2.2.2.2.1
  have hv : ∀ i, i < n → N (99 + 4 * i) = nI (N (99 + 4 * i)).toNatClampNeg ∧ (N (99 + 4 * i)).toNatClampNeg ≤ 99 := fun i hi => by
    have h := (hR.1.2.2.2.2.2.2.2.2.1 i (by rw [en, nI_toInt (by omega)]; omega)).1
    obtain ⟨a, b, c⟩ := rg_t (A := 1) (B := 99) h
    exact ⟨a, c⟩
  have hb := lsN_b (p := p1) (fun i hi => (hv i hi).2)
  have hn2 := hb n (Nat.le_refl n)
  unfold fX8_land fX9_land
  rw [in_0_3]
  rcases wi p1 0 3 (A := 0) (B := 3) rfl rfl with ⟨e1, h1⟩ | ⟨e1, h1⟩
  · rw [e1, ob_s, if_neg one0, ob_s, if_neg one0, en]
    have hc := jfix_to (g := fX8_land_b23 u p1 sg rf (S 0) (S 1) (nI n) cal cbl (cw 99 N)) (fun k => (nI (lsN N p1 k).1, nI (lsN N p1 k).2, nI k, sg, rf, S 0, S 1, cal, cbl)) n (if nI (lsN N p1 n).1 = 0 then ob (fX8_no (-3) rf) (fun r3 => some (r3.1, sg, r3.2, S 0, S 1, cal, cbl)) else ob (fX1_set u (sL false (lsN N p1 n).2) (lN (lsN N p1 n).1) sg (S 0) (S 1) cal cbl) (fun r2 => some (1, r2.1, rf, r2.2.1, r2.2.2.1, r2.2.2.2.1, r2.2.2.2.2))) (u := u) (by
      intro k hk rec
      have hb2 := hb k (by omega)
      have ev := (hv k hk).1
      have e4 : cw 99 N (k * 4 + 1) = N (99 + 4 * k + 1) := by unfold cw; congr 1; omega
      have e5 : cw 99 N (k * 4 + 0) = N (99 + 4 * k) := by unfold cw; congr 1; omega
      have es : lsN N p1 (k + 1) = if N (99 + 4 * k + 1) = p1 then ((lsN N p1 k).1 + 1, (lsN N p1 k).2 + (N (99 + 4 * k)).toNatClampNeg) else lsN N p1 k := rfl
      unfold fX8_land_b23 fX8_land_b74
      simp (disch := omega) only [blet_s, ob_s, lit32, litL, jgN, nI_add, mulN, clampN, leN, show ¬ n ≤ k by omega, if_false, cell7, e4, e5]
      by_cases c : N (99 + 4 * k + 1) = p1
      · rw [if_pos c, es, if_pos c]
        conv => lhs; rw [ev]
        simp (disch := omega) only [blet_s, ob_s, lit32, litL, jgN, nI_add, mulN, clampN]
      · rw [if_neg c, es, if_neg c]) (by
      intro rec
      unfold fX8_land_b23
      dsimp only
      rw [if_pos (nI_le (Nat.le_refl n) (by omega)), toL (by omega), toL (by omega)]
      rfl) (by omega)
    have hr := jfix_to (g := fX9_land_b26 u p1 sg Lm N rf S) (fun k => (nI (lsN N p1 k).2, nI (lsN N p1 k).1, nI k, sg, Lm, rf, S)) n (if nI (lsN N p1 n).1 = 0 then ob (fX9_no (-3) rf) (fun r4 => some (r4.1, sg, Lm, r4.2, S)) else ob (fX9_tells u (sL false (lsN N p1 n).2) (lN (lsN N p1 n).1) sg Lm S) (fun r3 => some (r3.1, r3.2.1, r3.2.2.1, rf, r3.2.2.2))) (u := u) (by
      intro k hk rec
      have hb2 := hb k (by omega)
      have ev := (hv k hk).1
      have es : lsN N p1 (k + 1) = if N (99 + 4 * k + 1) = p1 then ((lsN N p1 k).1 + 1, (lsN N p1 k).2 + (N (99 + 4 * k)).toNatClampNeg) else lsN N p1 k := rfl
      unfold fX9_land_b26 fX9_land_b59 fX9_land_b77 fX9_land_b90 fX9_longOf
      simp (disch := omega) only [blet_s, ob_s, lit32, litL, jgN, nI_add, mulN, clampN, many9, en, leN, show ¬ n ≤ k by omega, if_false]
      by_cases c : N (99 + 4 * k + 1) = p1
      · rw [if_pos c, es, if_pos c]
        conv => lhs; rw [ev]
        simp (disch := omega) only [blet_s, ob_s, lit32, litL, jgN, nI_add, mulN, clampN, eqN, show ¬ 1 = 0 by decide, if_false]
      · rw [if_neg c, es, if_neg c]
        simp (disch := omega) only [blet_s, ob_s, lit32, litL, jgN, nI_add, mulN, clampN, if_true, Nat.add_zero]) (by
      intro rec
      unfold fX9_land_b26
      dsimp only
      rw [show (4 : Int32) = nI 4 from rfl, many9 N (by decide), en, ob_s, if_pos (nI_le (Nat.le_refl n) (by omega)), toL (by omega), toL (by omega)]
      rfl) (by omega)
    rw [show jfix (fX8_land_b23 u p1 sg rf (S 0) (S 1) (nI n) cal cbl (cw 99 N)) u (0, 0, 0, sg, rf, S 0, S 1, cal, cbl) = _ from hc, show jfix (fX9_land_b26 u p1 sg Lm N rf S) u (0, 0, 0, sg, Lm, rf, S) = _ from hr]
    by_cases c : nI (lsN N p1 n).1 = 0
    · rw [if_pos c, if_pos c]
      rw [← en]
      exact ⟨_, _, rfl, rfl, rfl, Rel_rf _ hR⟩
    · rw [if_neg c, if_neg c]
      have c0 : 0 < (lsN N p1 n).1 := Nat.pos_of_ne_zero (fun z => c (by rw [z]; rfl))
      obtain ⟨r, s, r1, r2, r3, r4⟩ := frac hu (n := (lsN N p1 n).2) (w := (lsN N p1 n).1) (b := false) (by omega) (by omega) c0 (fun z => absurd z (by decide)) sg (S 0) (S 1) sg cal cbl Lm S
      rw [r1, r2, ob_s, ob_s, ← en]
      exact ⟨_, _, rfl, rfl, r3.symm, Rel_fr hR r4⟩
  · rw [e1, ob_s, if_pos rfl, ob_s, if_pos rfl]
    exact ⟨_, _, rfl, rfl, rfl, Rel_rf _ hR⟩
