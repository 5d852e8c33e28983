theorem sub_t {a b : Nat} (ha : a < 2 ^ 62) (hb : b < 2 ^ 62) : (lN a - lN b).toInt = (a : Int) - b := by
  rw [Int64.toInt_sub, pk_lT (by omega), pk_lT (by omega), bm64 (by omega) (by omega)]
theorem cmpR {u : Nat} (hu : 4000000 ≤ u) {s t v w : Nat} {L : Nat → Int64} {S : Nat → Int32} (hs : s < 10) (ht : t < 10) (h : Sl L S s v) (h2 : Sl L S t w) : fX9_compare u (nI s) (nI t) L S = some (if v < w then -1 else if v = w then 0 else 1) := by
  obtain ⟨n, hn6, hS, hD, hz⟩ := h
  obtain ⟨m, hm6, hS2, hD2, hz2⟩ := h2
  unfold fX9_compare
  simp (disch := omega) only [blet_s, ob_s, lit32, litL, jgN, nI_add, mulN, clampN, hS, hS2, eqN, leN]
  by_cases c : n = m
  · subst c
    rw [if_pos rfl]
    have key : ∃ r, jfix (fX9_compare_b45 u (nI s) (nI t) L S) u (nI n - nI 1) = some r ∧ r = (if v < w then -1 else if v = w then 0 else 1) := by
      refine jfix_mu (fun p => ∃ k, k ≤ n ∧ p = nI k - nI 1 ∧ v / 1073741824 ^ k = w / 1073741824 ^ k) (fun p => (p + nI 1).toNatClampNeg) (fun _ r => r = _) ?_ u _ ⟨n, Nat.le_refl _, rfl, by rw [Nat.div_eq_of_lt hz.1, Nat.div_eq_of_lt hz2.1]⟩ (by rw [Int32.sub_add_cancel, nI_clamp (by omega)]; omega)
      rintro rec p ⟨k, hk, rfl, he⟩ ih
      unfold fX9_compare_b45
      by_cases k0 : k = 0
      · subst k0
        rw [if_pos (show nI 0 - nI 1 < 0 by decide)]
        rw [Nat.pow_zero, Nat.div_one, Nat.div_one] at he
        subst he
        rw [if_neg (Nat.lt_irrefl v), if_pos rfl]
        exact ⟨_, rfl, rfl⟩
      · rw [subN (by omega), if_neg (nI_pos (by omega))]
        have e1 := hD (k - 1) (by omega)
        have e2 := hD2 (k - 1) (by omega)
        have b1 := dg_lt v (k - 1)
        have b2 := dg_lt w (k - 1)
        have t1 := sub_t (a := dg v (k - 1)) (b := dg w (k - 1)) (by omega) (by omega)
        have cz : (lg_cmp (lN (dg v (k - 1)) - lN (dg w (k - 1))) (lN 0) = nI 0) = (dg v (k - 1) = dg w (k - 1)) := by
          refine (propext (lg_cmp_eq _ _)).trans (propext ?_)
          rw [← Int64.toInt_inj, t1, show (lN 0).toInt = 0 from rfl]
          omega
        have cg : (nI 0 ≤ lg_cmp (lN (dg v (k - 1)) - lN (dg w (k - 1))) (lN 0)) = (dg w (k - 1) ≤ dg v (k - 1)) := by
          refine (propext (lg_cmp_ge _ _)).trans (propext ?_)
          rw [Int64.le_iff_toInt_le, t1, show (lN 0).toInt = 0 from rfl]
          omega
        simp (disch := omega) only [blet_s, ob_s, lit32, litL, jgN, nI_add, mulN, clampN, e1, e2, cz, cg]
        have d1 := Nat.div_add_mod (v / 1073741824 ^ (k - 1)) 1073741824
        have d2 := Nat.div_add_mod (w / 1073741824 ^ (k - 1)) 1073741824
        rw [di_s, show k - 1 + 1 = k by omega] at d1 d2
        have d1' : v / 1073741824 ^ (k - 1) % 1073741824 = dg v (k - 1) := rfl
        have d2' : w / 1073741824 ^ (k - 1) % 1073741824 = dg w (k - 1) := rfl
        by_cases q : dg v (k - 1) = dg w (k - 1)
        · rw [if_pos q]
          have em : nI (k - 1) + -nI 1 = nI (k - 1) - nI 1 := (Int32.sub_eq_add_neg _ _).symm
          have en : nI (k - 1) - nI 1 + nI 1 = nI (k - 1) := Int32.sub_add_cancel _ _
          refine ih _ ⟨k - 1, by omega, em, by omega⟩ ?_
          rw [em, en, Int32.sub_add_cancel, nI_clamp (by omega), nI_clamp (by omega)]
          omega
        · rw [if_neg q]
          by_cases q2 : dg w (k - 1) ≤ dg v (k - 1)
          · rw [if_pos q2]
            have hlt : w < v := Nat.lt_of_div_lt_div (a := w) (c := 1073741824 ^ (k - 1)) (by omega)
            rw [if_neg (by omega), if_neg (by omega)]
            exact ⟨_, rfl, rfl⟩
          · rw [if_neg q2]
            have hlt : v < w := Nat.lt_of_div_lt_div (a := v) (c := 1073741824 ^ (k - 1)) (by omega)
            rw [if_pos hlt]
            exact ⟨_, rfl, rfl⟩
    obtain ⟨r, e, e2⟩ := key
    rw [e, e2]
    rfl
  · rw [if_neg c]
    by_cases d : m ≤ n
    · rw [if_pos d]
      have hlt := sz_lt hz2 hz (by omega)
      rw [if_neg (show ¬ v < w by omega), if_neg (show ¬ v = w by omega)]
    · rw [if_neg d]
      have hlt := sz_lt hz hz2 (by omega)
      rw [if_pos hlt]
theorem evenR {s v : Nat} {L : Nat → Int64} {S : Nat → Int32} (hs : s < 10) (h : Sl L S s v) : fX9_isEven (nI s) L S = some (if v % 2 = 0 then 1 else 0) := by
  obtain ⟨n, hn6, hS, hD, hz⟩ := h
  unfold fX9_isEven fX9_isEven_b27
  by_cases c : n = 0
  · subst c
    have hv : v = 0 := by have := hz.1; rw [Nat.pow_zero] at this; omega
    subst hv
    simp (disch := omega) only [blet_s, ob_s, lit32, litL, jgN, nI_add, mulN, clampN, hS, if_true]
  · have e := hD 0 (by omega)
    rw [Nat.add_zero] at e
    have hb := dg_lt v 0
    have e0 : dg v 0 = v % 1073741824 := by unfold dg; rw [Nat.pow_zero, Nat.div_one]
    have cz : (lg_cmp (lN (dg v 0 % 2)) (lN 0) = nI 0) = (dg v 0 % 2 = 0) := cz64 (by omega) (by decide)
    simp (disch := omega) only [blet_s, ob_s, lit32, litL, jgN, nI_add, mulN, clampN, hS, eqN, e, divL, remA, remB, cz, c, if_false]
    rw [e0]
    by_cases d : v % 2 = 0
    · rw [if_pos d, if_pos (show v % 1073741824 % 2 = 0 by omega)]
    · rw [if_neg d, if_neg (show ¬ v % 1073741824 % 2 = 0 by omega)]
theorem halveR {u : Nat} (hu : 4000000 ≤ u) {s v : Nat} {L : Nat → Int64} {S : Nat → Int32} (hs : s < 10) (h : Sl L S s v) : ∃ r, fX9_halve u (nI s) L S = some r ∧ (Sl r.1 r.2 s (v / 2) ∧ Fr s L r.1 S r.2) := by
  obtain ⟨n, hn6, hS, hD, hz⟩ := h
  unfold fX9_halve
  simp (disch := omega) only [blet_s, ob_s, lit32, litL, jgN, nI_add, mulN, clampN, hS]
  refine jfix_mu (fun (p : Int64 × Int32 × (Nat → Int64) × (Nat → Int32)) => ∃ k, k ≤ n ∧ p.1 = lN (v / 1073741824 ^ k % 2) ∧ p.2.1 = nI k - nI 1 ∧ p.2.2.2 = S ∧ (∀ j, k ≤ j → j < n → p.2.2.1 (64 * s + j) = lN (dg (v / 2) j)) ∧ Dv p.2.2.1 (64 * s) k v ∧ ∀ j, (j < 64 * s ∨ 64 * s + 64 ≤ j) → p.2.2.1 j = L j) (fun (p : Int64 × Int32 × (Nat → Int64) × (Nat → Int32)) => (p.2.1 + nI 1).toNatClampNeg) (fun _ (r : (Nat → Int64) × (Nat → Int32)) => Sl r.1 r.2 s (v / 2) ∧ Fr s L r.1 S r.2) ?_ u _ ⟨n, Nat.le_refl _, by rw [Nat.div_eq_of_lt hz.1], rfl, rfl, fun j h1 h2 => by omega, hD, fun _ _ => rfl⟩ (by dsimp only; rw [Int32.sub_add_cancel, nI_clamp (by omega)]; omega)
  rintro rec ⟨a, b, Lp, Sp⟩ ⟨k, hk, e1, e2, e3, e4, e5, e6⟩ ih
  dsimp only at e1 e2 e3 e4 e5 e6
  subst e1 e2 e3
  unfold fX9_halve_b12
  dsimp only
  by_cases k0 : k = 0
  · subst k0
    rw [if_pos (show nI 0 - nI 1 < 0 by decide)]
    have hv6 : v < 1073741824 ^ 6 := Nat.lt_of_lt_of_le hz.1 (Nat.pow_le_pow_right (by decide) hn6)
    obtain ⟨S3, q1, q2, q3⟩ := trimR (v := v / 2) hu hs (by omega) hS (fun j hj => e4 j (Nat.zero_le _) hj) (Nat.lt_of_le_of_lt (Nat.div_le_self _ _) hz.1) (Nat.lt_of_le_of_lt (Nat.div_le_self _ _) hv6)
    rw [q1, ob_s]
    exact ⟨_, rfl, q2, e6, q3⟩
  · rw [subN (by omega), if_neg (nI_pos (by omega))]
    have b1 := dg_lt v (k - 1)
    have d1 := Nat.div_add_mod (v / 1073741824 ^ (k - 1)) 1073741824
    rw [di_s, show k - 1 + 1 = k by omega] at d1
    have d1' : v / 1073741824 ^ (k - 1) % 1073741824 = dg v (k - 1) := rfl
    have d2 : dg (v / 2) (k - 1) = v / 1073741824 ^ (k - 1) / 2 % 1073741824 := by
      unfold dg
      rw [Nat.div_div_eq_div_mul, Nat.div_div_eq_div_mul, Nat.mul_comm]
    have e1 := e5 (k - 1) (by omega)
    simp (disch := omega) only [blet_s, ob_s, lit32, litL, jgN, nI_add, mulN, clampN, e1, mulL, addL, divL, remA, remB]
    have em : nI (k - 1) + -nI 1 = nI (k - 1) - nI 1 := (Int32.sub_eq_add_neg _ _).symm
    have en : nI (k - 1) - nI 1 + nI 1 = nI (k - 1) := Int32.sub_add_cancel _ _
    refine ih _ ⟨k - 1, by omega, ?_, em, rfl, ?_, ?_, ?_⟩ ?_
    · dsimp only
      congr 1
      omega
    · intro j hj hj2
      dsimp only
      by_cases c : j = k - 1
      · subst c
        rw [upLe rfl, d2]
        congr 1
        omega
      · rw [upL (by omega)]
        exact e4 j (by omega) hj2
    · intro j hj
      dsimp only
      rw [upL (by omega)]
      exact e5 j (by omega)
    · intro j hj
      dsimp only
      rw [upL (by omega)]
      exact e6 j hj
    · dsimp only
      rw [em, en, Int32.sub_add_cancel, nI_clamp (by omega), nI_clamp (by omega)]
      omega
