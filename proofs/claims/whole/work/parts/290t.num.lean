theorem addR {u : Nat} (hu : 4000000 ≤ u) {s t v w : Nat} {L : Nat → Int64} {S : Nat → Int32} (hs : s < 10) (ht : t < 10) (hst : t ≠ s) (h : Sl L S s v) (h2 : Sl L S t w) (hvw : v + w < 1073741824 ^ 6) : ∃ r, fX9_add u (nI s) (nI t) L S = some r ∧ (Sl r.1 r.2 s (v + w) ∧ Fr s L r.1 S r.2) := by
  obtain ⟨n, hn6, hS, hD, hz⟩ := h
  obtain ⟨m, hm6, hS2, hD2, hz2⟩ := h2
  have key : ∀ q : Nat, n ≤ q → m ≤ q → q ≤ 6 → ∃ r, fX9_add_b32 u (nI s) (nI t) L S (lN 0, nI q, L, S) = some r ∧ (Sl r.1 r.2 s (v + w) ∧ Fr s L r.1 S r.2) := by
    intro q hnq hmq hq6
    have hvq : v < 1073741824 ^ q := Nat.lt_of_lt_of_le hz.1 (Nat.pow_le_pow_right (by decide) hnq)
    have hwq : w < 1073741824 ^ q := Nat.lt_of_lt_of_le hz2.1 (Nat.pow_le_pow_right (by decide) hmq)
    unfold fX9_add_b32
    dsimp only
    refine jfix_cn (fun k (p : Int64 × Int32 × Int32 × (Nat → Int64) × (Nat → Int32)) => p.1 = lN ((v % 1073741824 ^ k + w % 1073741824 ^ k) / 1073741824 ^ k) ∧ p.2.1 = nI q ∧ p.2.2.1 = nI k ∧ p.2.2.2.2 = S ∧ Dv p.2.2.2.1 (64 * s) k (v + w) ∧ (∀ j, k ≤ j → j < n → p.2.2.2.1 (64 * s + j) = lN (dg v j)) ∧ ∀ j, (j < 64 * s ∨ 64 * s + 64 ≤ j) → p.2.2.2.1 j = L j) q _ ?_ ?_ (by omega) ⟨by rw [Nat.pow_zero, Nat.mod_one, Nat.mod_one], rfl, rfl, rfl, fun _ h => absurd h (Nat.not_lt_zero _), fun j _ h => hD j h, fun _ _ => rfl⟩
    · rintro k hk rec ⟨a, b, c, Lp, Sp⟩ ⟨e1, e2, e3, e4, e5, e6, e7⟩
      dsimp only at e1 e2 e3 e4 e5 e6 e7
      subst e1 e2 e3 e4
      have hx := ad_x v w k
      have c1 := ad_c v w k
      have l1 := dg_lt v k
      have l2 := dg_lt w k
      have h98 : ∃ p2, fX9_add_b98 u (nI s) (nI t) L Sp rec (lN ((v % 1073741824 ^ k + w % 1073741824 ^ k) / 1073741824 ^ k), nI q, nI k, lN (dg v k), lN (dg w k), Lp, Sp) = rec p2 ∧ (p2.1 = lN ((v % 1073741824 ^ (k + 1) + w % 1073741824 ^ (k + 1)) / 1073741824 ^ (k + 1)) ∧ p2.2.1 = nI q ∧ p2.2.2.1 = nI (k + 1) ∧ p2.2.2.2.2 = Sp ∧ Dv p2.2.2.2.1 (64 * s) (k + 1) (v + w) ∧ (∀ j, k + 1 ≤ j → j < n → p2.2.2.2.1 (64 * s + j) = lN (dg v j)) ∧ ∀ j, (j < 64 * s ∨ 64 * s + 64 ≤ j) → p2.2.2.2.1 j = L j) := by
        unfold fX9_add_b98
        simp (disch := omega) only [blet_s, ob_s, lit32, litL, jgN, nI_add, mulN, clampN, addL, ← hx, divL, remA, remB]
        refine ⟨_, rfl, by rw [← di_s], rfl, rfl, rfl, ?_, ?_, ?_⟩
        · intro j hj
          dsimp only
          by_cases c : j = k
          · subst c
            rw [upLe rfl, ad_d]
          · rw [upL (by omega)]
            exact e5 j (by omega)
        · intro j hj hj2
          dsimp only
          rw [upL (by omega)]
          exact e6 j (by omega) hj2
        · intro j hj
          dsimp only
          rw [upL (by omega)]
          exact e7 j hj
      have h71 : fX9_add_b71 u (nI s) (nI t) L Sp rec (lN ((v % 1073741824 ^ k + w % 1073741824 ^ k) / 1073741824 ^ k), nI q, nI k, lN (dg v k), Lp, Sp) = fX9_add_b98 u (nI s) (nI t) L Sp rec (lN ((v % 1073741824 ^ k + w % 1073741824 ^ k) / 1073741824 ^ k), nI q, nI k, lN (dg v k), lN (dg w k), Lp, Sp) := by
        unfold fX9_add_b71
        simp (disch := omega) only [blet_s, ob_s, lit32, litL, jgN, nI_add, mulN, clampN, hS2, leN]
        by_cases c : m ≤ k
        · rw [if_pos c, dg_big (show w < 1073741824 ^ k from Nat.lt_of_lt_of_le hz2.1 (Nat.pow_le_pow_right (by decide) c))]
        · rw [if_neg c, e7 _ (by omega), hD2 k (by omega)]
      rw [← h71] at h98
      unfold fX9_add_b37
      simp (disch := omega) only [blet_s, ob_s, lit32, litL, jgN, nI_add, mulN, clampN, hS, leN, show ¬ q ≤ k by omega, if_false]
      by_cases c : n ≤ k
      · rw [if_pos c]
        rw [dg_big (show v < 1073741824 ^ k from Nat.lt_of_lt_of_le hz.1 (Nat.pow_le_pow_right (by decide) c))] at h98
        exact h98
      · rw [if_neg c, e6 k (Nat.le_refl k) (by omega)]
        exact h98
    · rintro rec ⟨a, b, c, Lp, Sp⟩ ⟨e1, e2, e3, e4, e5, e6, e7⟩
      dsimp only at e1 e2 e3 e4 e5 e6 e7
      subst e1 e2 e3 e4
      have hc := ad_c v w q
      rw [Nat.mod_eq_of_lt hvq, Nat.mod_eq_of_lt hwq] at hc ⊢
      have hlt : v + w < 1073741824 ^ (q + 1) := by
        rw [Nat.pow_succ]
        have := bp q
        omega
      have hD3 : Dv (vp_updL Lp (64 * s + q) (lN ((v + w) / 1073741824 ^ q))) (64 * s) (q + 1) (v + w) := by
        intro j hj
        by_cases c : j = q
        · subst c
          rw [upLe rfl, dg_top hlt]
        · rw [upL (by omega)]
          exact e5 j (by omega)
      obtain ⟨S3, t1, t2, t3⟩ := trimR (S := upd Sp s (nI (q + 1))) hu hs (show q + 1 ≤ 20 by omega) (updE rfl) hD3 hlt hvw
      unfold fX9_add_b37
      simp (disch := omega) only [blet_s, ob_s, lit32, litL, jgN, nI_add, mulN, clampN, leN, Nat.le_refl, if_true, t1]
      refine ⟨_, rfl, t2, ?_, ?_⟩
      · intro j hj
        dsimp only
        rw [upL (by omega)]
        exact e7 j hj
      · intro j hj
        dsimp only
        rw [t3 j hj, updN hj]
  unfold fX9_add
  simp (disch := omega) only [blet_s, ob_s, lit32, litL, jgN, nI_add, mulN, clampN, hS, hS2, leN]
  by_cases c : n ≤ m
  · rw [if_pos c]
    exact key m c (Nat.le_refl m) hm6
  · rw [if_neg c]
    exact key n (Nat.le_refl n) (by omega) hn6
theorem takeR {u : Nat} (hu : 4000000 ≤ u) {s t v w : Nat} {L : Nat → Int64} {S : Nat → Int32} (hs : s < 10) (ht : t < 10) (hst : t ≠ s) (h : Sl L S s v) (h2 : Sl L S t w) (hle : w ≤ v) : ∃ r, fX9_take u (nI s) (nI t) L S = some r ∧ (Sl r.1 r.2 s (v - w) ∧ Fr s L r.1 S r.2) := by
  obtain ⟨n, hn6, hS, hD, hz⟩ := h
  obtain ⟨m, hm6, hS2, hD2, hz2⟩ := h2
  obtain ⟨D, rfl⟩ : ∃ D, v = w + D := ⟨v - w, by omega⟩
  rw [Nat.add_sub_cancel_left]
  unfold fX9_take
  refine jfix_cn (fun k (p : Int64 × Int32 × (Nat → Int64) × (Nat → Int32)) => p.1 = lN ((w % 1073741824 ^ k + D % 1073741824 ^ k) / 1073741824 ^ k) ∧ p.2.1 = nI k ∧ p.2.2.2 = S ∧ Dv p.2.2.1 (64 * s) k D ∧ (∀ j, k ≤ j → j < n → p.2.2.1 (64 * s + j) = lN (dg (w + D) j)) ∧ ∀ j, (j < 64 * s ∨ 64 * s + 64 ≤ j) → p.2.2.1 j = L j) n _ ?_ ?_ (by omega) ⟨by rw [Nat.pow_zero, Nat.mod_one, Nat.mod_one]; rfl, rfl, rfl, fun _ h => absurd h (Nat.not_lt_zero _), fun j _ h => hD j h, fun _ _ => rfl⟩
  · rintro k hk rec ⟨a, b, Lp, Sp⟩ ⟨e1, e2, e4, e5, e6, e7⟩
    dsimp only at e1 e2 e4 e5 e6 e7
    subst e1 e2 e4
    have hx := ad_x w D k
    have hd := ad_d w D k
    have hds := di_s (w % 1073741824 ^ (k + 1) + D % 1073741824 ^ (k + 1)) k
    have c1 := ad_c w D k
    have c2 := ad_c w D (k + 1)
    have l1 := dg_lt (w + D) k
    have l2 := dg_lt w k
    have l3 := dg_lt D k
    have h72 : ∀ (x : Int64) (z : Int64), x + z * 1073741824 = lN (dg D k) → z = lN ((w % 1073741824 ^ (k + 1) + D % 1073741824 ^ (k + 1)) / 1073741824 ^ (k + 1)) → ∃ p2, fX9_take_b72 u (nI s) (nI t) L Sp rec (nI k, x, z, Lp, Sp) = rec p2 ∧ (p2.1 = lN ((w % 1073741824 ^ (k + 1) + D % 1073741824 ^ (k + 1)) / 1073741824 ^ (k + 1)) ∧ p2.2.1 = nI (k + 1) ∧ p2.2.2.2 = Sp ∧ Dv p2.2.2.1 (64 * s) (k + 1) D ∧ (∀ j, k + 1 ≤ j → j < n → p2.2.2.1 (64 * s + j) = lN (dg (w + D) j)) ∧ ∀ j, (j < 64 * s ∨ 64 * s + 64 ≤ j) → p2.2.2.1 j = L j) := by
      intro x z hxz hz
      unfold fX9_take_b72
      dsimp only
      rw [hxz]
      simp (disch := omega) only [blet_s, ob_s, lit32, litL, jgN, nI_add, mulN, clampN]
      refine ⟨_, rfl, hz, rfl, rfl, ?_, ?_, ?_⟩
      · intro j hj
        dsimp only
        by_cases c : j = k
        · subst c
          rw [upLe rfl]
        · rw [upL (by omega)]
          exact e5 j (by omega)
      · intro j hj hj2
        dsimp only
        rw [upL (by omega)]
        exact e6 j (by omega) hj2
      · intro j hj
        dsimp only
        rw [upL (by omega)]
        exact e7 j hj
    have h55 : ∃ p2, fX9_take_b55 u (nI s) (nI t) L Sp rec (lN ((w % 1073741824 ^ k + D % 1073741824 ^ k) / 1073741824 ^ k), nI k, lN (dg (w + D) k), lN (dg w k), Lp, Sp) = rec p2 ∧ (p2.1 = lN ((w % 1073741824 ^ (k + 1) + D % 1073741824 ^ (k + 1)) / 1073741824 ^ (k + 1)) ∧ p2.2.1 = nI (k + 1) ∧ p2.2.2.2 = Sp ∧ Dv p2.2.2.1 (64 * s) (k + 1) D ∧ (∀ j, k + 1 ≤ j → j < n → p2.2.2.1 (64 * s + j) = lN (dg (w + D) j)) ∧ ∀ j, (j < 64 * s ∨ 64 * s + 64 ≤ j) → p2.2.2.1 j = L j) := by
      unfold fX9_take_b55
      dsimp only
      rw [blet_s]
      generalize hC : (w % 1073741824 ^ k + D % 1073741824 ^ k) / 1073741824 ^ k = C at hx c1 ⊢
      generalize hC2 : (w % 1073741824 ^ (k + 1) + D % 1073741824 ^ (k + 1)) / 1073741824 ^ (k + 1) = C2 at hds c2 h72 ⊢
      rw [hx] at hds hd
      have t1 : (lN (dg (w + D) k) - lN (dg w k) - lN C).toInt = (dg (w + D) k : Int) - dg w k - C := by
        rw [Int64.toInt_sub, sub_t (by omega) (by omega), pk_lT (by omega), bm64 (by omega) (by omega)]
      have cg : (0 ≤ lg_cmp (lN (dg (w + D) k) - lN (dg w k) - lN C) 0) = (C2 = 0) := by
        refine (propext (lg_cmp_ge _ _)).trans (propext ?_)
        rw [Int64.le_iff_toInt_le, t1, show (0 : Int64).toInt = 0 from rfl]
        omega
      simp only [cg]
      by_cases c : C2 = 0
      · rw [if_pos c]
        refine h72 _ _ ?_ (by rw [c]; rfl)
        apply Int64.toInt_inj.mp
        rw [show (0 : Int64) * 1073741824 = 0 from rfl, Int64.add_zero, t1, pk_lT (by omega)]
        omega
      · rw [if_neg c]
        refine h72 _ _ ?_ (by rw [show C2 = 1 by omega]; rfl)
        apply Int64.toInt_inj.mp
        rw [Int64.toInt_add, show ((1 : Int64) * 1073741824).toInt = 1073741824 from rfl, t1, pk_lT (by omega), bm64 (by omega) (by omega)]
        omega
    unfold fX9_take_b5
    simp (disch := omega) only [blet_s, ob_s, lit32, litL, jgN, nI_add, mulN, clampN, hS, hS2, leN, e6 k (Nat.le_refl k) hk, show ¬ n ≤ k by omega, if_false]
    by_cases c : m ≤ k
    · rw [if_pos c]
      rw [dg_big (show w < 1073741824 ^ k from Nat.lt_of_lt_of_le hz2.1 (Nat.pow_le_pow_right (by decide) c))] at h55
      exact h55
    · rw [if_neg c, e7 _ (by omega), hD2 k (by omega)]
      exact h55
  · rintro rec ⟨a, b, Lp, Sp⟩ ⟨e1, e2, e4, e5, e6, e7⟩
    dsimp only at e1 e2 e4 e5 e6 e7
    subst e1 e2 e4
    have hlt : D < 1073741824 ^ n := Nat.lt_of_le_of_lt (by omega) hz.1
    obtain ⟨S3, t1, t2, t3⟩ := trimR hu hs (by omega) hS e5 hlt (Nat.lt_of_lt_of_le hlt (Nat.pow_le_pow_right (by decide) hn6))
    unfold fX9_take_b5
    simp (disch := omega) only [blet_s, ob_s, lit32, litL, jgN, nI_add, mulN, clampN, hS, leN, Nat.le_refl, if_true, t1]
    exact ⟨_, rfl, t2, e7, t3⟩
theorem oneR {u : Nat} (hu : 4000000 ≤ u) {v : Nat} {L : Nat → Int64} {S : Nat → Int32} (h : Sl L S 8 v) (he : v % 2 = 0) : ∃ r, fX9_addOne u L S = some r ∧ (Sl r.1 r.2 8 (v + 1) ∧ Fr 8 L r.1 S r.2) := by
  obtain ⟨n, hn6, hS, hD, hz⟩ := h
  unfold fX9_addOne
  by_cases c : n = 0
  · subst c
    have hv : v = 0 := by have := hz.1; rw [Nat.pow_zero] at this; omega
    subst hv
    obtain ⟨r, e1, e2⟩ := setR hu L S (show 8 < 10 by decide) (show 1 < 2 ^ 63 by decide)
    simp (disch := omega) only [blet_s, ob_s, lit32, litL, jgN, nI_add, mulN, clampN, hS, if_true, e1]
    exact ⟨_, rfl, e2⟩
  · have hp : 0 < v := by
      rcases hz.2 with e | e
      · exact absurd e c
      · exact Nat.lt_of_lt_of_le (bp _) e
    have e := hD 0 (by omega)
    have e0 : dg v 0 = v % 1073741824 := by unfold dg; rw [Nat.pow_zero, Nat.div_one]
    have ed0 : dg (v + 1) 0 = dg v 0 + 1 := by
      rw [e0]
      unfold dg
      rw [Nat.pow_zero, Nat.div_one]
      omega
    have edk : ∀ k, 0 < k → (v + 1) / 1073741824 ^ k = v / 1073741824 ^ k := by
      intro k hk
      obtain ⟨j, rfl⟩ : ∃ j, k = j + 1 := ⟨k - 1, by omega⟩
      rw [Nat.pow_succ, Nat.mul_comm, ← Nat.div_div_eq_div_mul, ← Nat.div_div_eq_div_mul]
      congr 1
      omega
    have e' : L 512 = lN (dg v 0) := e
    simp (disch := omega) only [blet_s, ob_s, lit32, litL, jgN, nI_add, mulN, clampN, hS, eqN, c, if_false, e', addL]
    refine ⟨_, rfl, ⟨n, hn6, hS, ?_, ?_⟩, ?_, fun _ _ => rfl⟩
    · intro k hk
      dsimp only
      by_cases c2 : k = 0
      · subst c2
        rw [upLe rfl, ed0]
      · rw [upL (by omega), hD k hk]
        congr 1
        unfold dg
        rw [edk k (by omega)]
    · refine ⟨?_, Or.inr ?_⟩
      · have h1 := edk n (by omega)
        rw [Nat.div_eq_of_lt hz.1] at h1
        exact (Nat.div_eq_zero_iff_lt (bp n)).mp h1
      · rcases hz.2 with q | q
        · exact absurd q c
        · omega
    · intro k hk
      dsimp only
      exact upL (by omega)
