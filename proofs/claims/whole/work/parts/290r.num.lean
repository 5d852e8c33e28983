theorem remB (a b : Nat) : lN a - lN (a / b * b) = lN (a % b) := by
  rw [lN_sub (Nat.div_mul_le_self a b)]
  congr 1
  have h := Nat.div_add_mod a b
  rw [Nat.mul_comm] at h
  omega
theorem remA (a b : Nat) : lN a - lN (a / b) * lN b = lN (a % b) := by
  rw [lN_mul, remB]
theorem v63 {v : Nat} (h : v < 1073741824 ^ 2) : v < 2 ^ 63 := Nat.lt_trans h (by decide)
theorem posL {a : Nat} (ha : a < 2 ^ 63) : (lg_cmp (lN a) (lN 0) ≤ nI 0) = (a = 0) := (propext (lg_cmp_le _ _)).trans ((leL ha (by decide)).trans (propext Nat.le_zero))
theorem cz64 {a b : Nat} (ha : a < 2 ^ 63) (hb : b < 2 ^ 63) : (lg_cmp (lN a) (lN b) = nI 0) = (a = b) := (propext (lg_cmp_eq _ _)).trans (eqL ha hb)
theorem setR {u : Nat} (hu : 4000000 ≤ u) {s v : Nat} (L : Nat → Int64) (S : Nat → Int32) (hs : s < 10) (hv : v < 2 ^ 63) : ∃ r, fX9_set u (nI s) (lN v) L S = some r ∧ (Sl r.1 r.2 s v ∧ Fr s L r.1 S r.2) := by
  obtain ⟨n, hn⟩ := sz_ex v
  have hn3 : n ≤ 3 := sz_le hn (Nat.lt_trans hv (by decide))
  unfold fX9_set
  simp (disch := omega) only [blet_s, ob_s, lit32, litL, jgN, nI_add, mulN, clampN]
  refine jfix_cn (fun k p => p.1 = lN (v / 1073741824 ^ k) ∧ p.2.2 s = nI k ∧ Dv p.2.1 (64 * s) k v ∧ Fr s L p.2.1 S p.2.2) n _ ?_ ?_ (by omega) ⟨by rw [Nat.pow_zero, Nat.div_one], updE rfl, fun _ h => absurd h (Nat.not_lt_zero _), fun _ _ => rfl, fun j hj => updN hj⟩
  · rintro k hk rec ⟨a, Lp, Sp⟩ ⟨e1, e2, e3, e4⟩
    dsimp only at e1 e2 e3 e4
    subst e1
    have hp : 0 < v / 1073741824 ^ k := by
      rcases hn.2 with e | e
      · omega
      · exact Nat.div_pos (Nat.le_trans (Nat.pow_le_pow_right (by decide) (by omega)) e) (bp k)
    have hb : v / 1073741824 ^ k < 2 ^ 63 := Nat.lt_of_le_of_lt (Nat.div_le_self _ _) hv
    unfold fX9_set_b10
    simp (disch := omega) only [blet_s, ob_s, lit32, litL, jgN, nI_add, mulN, clampN, posL hb, e2, remA, remB, divL, show ¬ v / 1073741824 ^ k = 0 by omega, if_false]
    refine ⟨_, rfl, ?_, updE rfl, ?_, ?_, ?_⟩
    · dsimp only
      rw [di_s]
    · intro j hj
      dsimp only
      by_cases c : j = k
      · subst c
        rw [upLe rfl]
        rfl
      · rw [upL (by omega)]
        exact e3 j (by omega)
    · intro j hj
      dsimp only
      rw [upL (by omega)]
      exact e4.1 j hj
    · intro j hj
      dsimp only
      rw [updN hj]
      exact e4.2 j hj
  · rintro rec ⟨a, Lp, Sp⟩ ⟨e1, e2, e3, e4⟩
    dsimp only at e1 e2 e3 e4
    subst e1
    unfold fX9_set_b10
    rw [Nat.div_eq_of_lt hn.1]
    simp (disch := omega) only [blet_s, ob_s, lit32, litL, jgN, nI_add, mulN, clampN, posL (show 0 < 2 ^ 63 by decide), if_true]
    exact ⟨_, rfl, ⟨n, by omega, e2, e3, hn⟩, e4⟩
theorem copyR {u : Nat} (hu : 4000000 ≤ u) {s t v : Nat} {L : Nat → Int64} {S : Nat → Int32} (hs : s < 10) (ht : t < 10) (hst : t ≠ s) (h : Sl L S t v) : ∃ r, fX9_copy u (nI s) (nI t) L S = some r ∧ (Sl r.1 r.2 s v ∧ Fr s L r.1 S r.2) := by
  obtain ⟨n, hn6, hS, hD, hz⟩ := h
  unfold fX9_copy
  refine jfix_cn (fun k p => p.1 = nI k ∧ p.2.2 = S ∧ Dv p.2.1 (64 * s) k v ∧ ∀ j, (j < 64 * s ∨ 64 * s + 64 ≤ j) → p.2.1 j = L j) n _ ?_ ?_ (by omega) ⟨rfl, rfl, fun _ h => absurd h (Nat.not_lt_zero _), fun _ _ => rfl⟩
  · rintro k hk rec ⟨a, Lp, Sp⟩ ⟨e1, e2, e3, e4⟩
    dsimp only at e1 e2 e3 e4
    subst e1 e2
    have ed : Lp (64 * t + k) = lN (dg v k) := by
      rw [e4 _ (by omega)]
      exact hD k hk
    unfold fX9_copy_b2
    simp (disch := omega) only [blet_s, ob_s, lit32, litL, jgN, nI_add, mulN, clampN, hS, leN, ed, show ¬ n ≤ k by omega, if_false]
    refine ⟨_, rfl, rfl, rfl, ?_, ?_⟩
    · intro j hj
      dsimp only
      by_cases c : j = k
      · subst c
        rw [upLe rfl]
      · rw [upL (by omega)]
        exact e3 j (by omega)
    · intro j hj
      dsimp only
      rw [upL (by omega)]
      exact e4 j hj
  · rintro rec ⟨a, Lp, Sp⟩ ⟨e1, e2, e3, e4⟩
    dsimp only at e1 e2 e3 e4
    subst e1 e2
    unfold fX9_copy_b2
    simp (disch := omega) only [blet_s, ob_s, lit32, litL, jgN, nI_add, mulN, clampN, hS, leN, Nat.le_refl, if_true]
    exact ⟨_, rfl, ⟨n, hn6, updE rfl, e3, hz⟩, e4, fun j hj => updN hj⟩
theorem timesR {u : Nat} (hu : 4000000 ≤ u) {s m v : Nat} {L : Nat → Int64} {S : Nat → Int32} (hs : s < 10) (hm : m < 1073741824) (h : Sl L S s v) (hv : v * m < 1073741824 ^ 6) : ∃ r, fX9_times u (nI s) (lN m) L S = some r ∧ (Sl r.1 r.2 s (v * m) ∧ Fr s L r.1 S r.2) := by
  obtain ⟨n, hn6, hS, hD, hz⟩ := h
  have hend : ∀ (n2 : Nat) (L2 : Nat → Int64) (S2 : Nat → Int32), n2 ≤ 7 → S2 s = nI n2 → Dv L2 (64 * s) n2 (v * m) → v * m < 1073741824 ^ n2 → Fr s L L2 S S2 → ∃ r, fX9_times_b103 u (nI s) (lN m) L S (L2, S2) = some r ∧ (Sl r.1 r.2 s (v * m) ∧ Fr s L r.1 S r.2) := by
    intro n2 L2 S2 h1 h2 h3 h4 h5
    obtain ⟨S3, e1, e2, e3⟩ := trimR hu hs (by omega) h2 h3 h4 hv
    unfold fX9_times_b103
    dsimp only
    rw [e1, ob_s]
    exact ⟨_, rfl, e2, h5.1, fun j hj => (e3 j hj).trans (h5.2 j hj)⟩
  unfold fX9_times
  refine jfix_cn (fun k p => p.1 = lN (v % 1073741824 ^ k * m / 1073741824 ^ k) ∧ p.2.1 = nI k ∧ p.2.2.2 = S ∧ Dv p.2.2.1 (64 * s) k (v * m) ∧ (∀ j, k ≤ j → j < n → p.2.2.1 (64 * s + j) = lN (dg v j)) ∧ ∀ j, (j < 64 * s ∨ 64 * s + 64 ≤ j) → p.2.2.1 j = L j) n _ ?_ ?_ (by omega) ⟨by rw [Nat.pow_zero, Nat.mod_one, Nat.zero_mul]; rfl, rfl, rfl, fun _ h => absurd h (Nat.not_lt_zero _), fun j _ h => hD j h, fun _ _ => rfl⟩
  · rintro k hk rec ⟨a, b, Lp, Sp⟩ ⟨e1, e2, e3, e4, e5, e6⟩
    dsimp only at e1 e2 e3 e4 e5 e6
    subst e1 e2 e3
    have h1 : dg v k * m < 1073741824 * 1073741824 := Nat.lt_of_le_of_lt (Nat.mul_le_mul_right m (Nat.le_of_lt (dg_lt v k))) (Nat.mul_lt_mul_of_pos_left hm (by decide))
    have h2 : v % 1073741824 ^ k * m / 1073741824 ^ k < 1073741824 := by
      rw [Nat.div_lt_iff_lt_mul (bp k)]
      have q := Nat.mod_lt v (bp k)
      calc v % 1073741824 ^ k * m ≤ 1073741824 ^ k * m := Nat.mul_le_mul_right m (Nat.le_of_lt q)
        _ = m * 1073741824 ^ k := Nat.mul_comm _ _
        _ < 1073741824 * 1073741824 ^ k := Nat.mul_lt_mul_of_pos_right hm (bp k)
    have hx := ti_x v m k
    have hl : (v % 1073741824 ^ (k + 1)) * m / 1073741824 ^ k < 2 ^ 63 := by rw [hx]; omega
    unfold fX9_times_b6
    simp (disch := omega) only [blet_s, ob_s, lit32, litL, jgN, nI_add, mulN, clampN, hS, leN, e5 k (Nat.le_refl k) hk, mulL, addL, ← hx, remA, remB, divL, show ¬ n ≤ k by omega, if_false]
    refine ⟨_, rfl, by rw [← di_s], rfl, rfl, ?_, ?_, ?_⟩
    · intro j hj
      dsimp only
      by_cases c : j = k
      · subst c
        rw [upLe rfl, ti_d]
      · rw [upL (by omega)]
        exact e4 j (by omega)
    · intro j hj hj2
      dsimp only
      rw [upL (by omega)]
      exact e5 j (by omega) hj2
    · intro j hj
      dsimp only
      rw [upL (by omega)]
      exact e6 j hj
  · rintro rec ⟨a, b, Lp, Sp⟩ ⟨e1, e2, e3, e4, e5, e6⟩
    dsimp only at e1 e2 e3 e4 e5 e6
    subst e1 e2 e3
    have hc : v * m / 1073741824 ^ n < 1073741824 := by
      rw [Nat.div_lt_iff_lt_mul (bp n)]
      have q := hz.1
      calc v * m ≤ 1073741824 ^ n * m := Nat.mul_le_mul_right m (Nat.le_of_lt q)
        _ = m * 1073741824 ^ n := Nat.mul_comm _ _
        _ < 1073741824 * 1073741824 ^ n := Nat.mul_lt_mul_of_pos_right hm (bp n)
    unfold fX9_times_b6
    rw [Nat.mod_eq_of_lt hz.1]
    simp (disch := omega) only [blet_s, ob_s, lit32, litL, jgN, nI_add, mulN, clampN, hS, leN, Nat.le_refl, if_true, posL (show v * m / 1073741824 ^ n < 2 ^ 63 by omega)]
    by_cases c : v * m / 1073741824 ^ n = 0
    · rw [if_pos c]
      exact hend n Lp Sp (by omega) hS e4 ((Nat.div_eq_zero_iff_lt (bp n)).mp c) ⟨e6, fun _ _ => rfl⟩
    · rw [if_neg c]
      have h1 : v * m < 1073741824 ^ (n + 1) := by
        rw [Nat.pow_succ, Nat.mul_comm (1073741824 ^ n), ← Nat.div_lt_iff_lt_mul (bp n)]
        exact hc
      refine hend (n + 1) _ _ (by omega) (updE rfl) ?_ h1 ⟨?_, fun j hj => updN hj⟩
      · intro j hj
        by_cases c2 : j = n
        · subst c2
          rw [upLe rfl, dg_top h1]
        · rw [upL (by omega)]
          exact e4 j (by omega)
      · intro j hj
        rw [upL (by omega)]
        exact e6 j hj
