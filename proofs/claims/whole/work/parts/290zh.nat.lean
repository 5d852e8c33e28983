theorem shr30L {n : Nat} (h : n < 2 ^ 63) : lN n >>> (lN 30 &&& lN 63) = lN (n / 1073741824) := shrL h _ 30 (by decide)
theorem dl31 (v k : Nat) : dg v k < 2 ^ 31 := Nat.lt_trans (dg_lt v k) (by decide)
theorem digC {f : Nat → Int32} {n v k : Nat} (hn : n ≤ 6) (hD : k < n → f k = nI (dg v k)) (hv : v < 1073741824 ^ n) (hk : k < 2 ^ 31) : fX3_digit (nI k) (nI n) f = some (nI (dg v k)) := by
  unfold fX3_digit
  rw [if_neg (nI_pos hk)]
  by_cases c : n ≤ k
  · rw [if_pos (nI_le c hk), dg_big (Nat.lt_of_lt_of_le hv (Nat.pow_le_pow_right (by decide) c))]
    rfl
  · rw [if_neg (nI_ge (by omega) (by omega)), show (6 : Int32) = nI 6 from rfl, if_neg (nI_ge (by omega) (by decide)), jgN (by omega) hk, nI_clamp hk, hD (by omega)]
theorem dropC {u : Nat} (hu : 4000000 ≤ u) {f : Nat → Int32} {n v : Nat} (hn : n ≤ 6) (hD : ∀ k, k < n → f k = nI (dg v k)) (hv : v < 1073741824 ^ n) : ∃ r, fX3_dropZeros u (nI n) f = some r ∧ Nt f r v := by
  unfold fX3_dropZeros
  refine jfix_mu (fun p => ∃ m, m ≤ n ∧ p = nI m ∧ v < 1073741824 ^ m) (fun p => p.toNatClampNeg) (fun _ r => Nt f r v) ?_ u _ ⟨n, Nat.le_refl n, rfl, hv⟩ (by rw [nI_clamp (by omega)]; omega)
  rintro rec p ⟨m, h1, rfl, h3⟩ ih
  unfold fX3_dropZeros_b0
  by_cases c : m = 0
  · subst c
    rw [if_pos (show nI 0 ≤ 0 by decide)]
    exact ⟨_, rfl, 0, by omega, rfl, fun k hk => absurd hk (Nat.not_lt_zero _), h3, Or.inl rfl⟩
  · rw [if_neg (nI_nle (by omega) (by omega)), show (1 : Int32) = nI 1 from rfl, subN (by omega), digC (by omega) (fun _ => hD (m - 1) (by omega)) h3 (by omega), ob_s]
    have et : dg v (m - 1) = v / 1073741824 ^ (m - 1) := dg_top (by rw [show m - 1 + 1 = m by omega]; exact h3)
    by_cases c2 : dg v (m - 1) = 0
    · rw [if_pos (by rw [c2]; rfl), blet_s]
      have hlt : v < 1073741824 ^ (m - 1) := by
        rw [et] at c2
        exact (Nat.div_eq_zero_iff_lt (bp _)).mp c2
      exact ih _ ⟨m - 1, by omega, rfl, hlt⟩ (by rw [nI_clamp (by omega), nI_clamp (by omega)]; omega)
    · rw [if_neg (nI_ne0 (by omega) (dl31 _ _))]
      have hge : 1073741824 ^ (m - 1) ≤ v := Nat.not_lt.mp (fun z => c2 (dg_big z))
      exact ⟨_, rfl, m, by omega, rfl, fun k hk => hD k (by omega), h3, Or.inr hge⟩
theorem Nt_b {f : Nat → Int32} {sz : Int32} {v : Nat} (h : Nt f sz v) : v < 1073741824 ^ 6 := by
  obtain ⟨n, h1, h2, h3, h4⟩ := h
  exact Nat.lt_of_lt_of_le h4.1 (Nat.pow_le_pow_right (by decide) h1)
theorem sz_c {c : Nat} (h : c < 1073741824) : ∃ m, m ≤ 1 ∧ Sz c m ∧ (m = 0 → c = 0) ∧ (m = 1 → 1 ≤ c) := by
  by_cases c0 : c = 0
  · exact ⟨0, by omega, ⟨by rw [Nat.pow_zero]; omega, Or.inl rfl⟩, fun _ => c0, fun z => absurd z (by decide)⟩
  · exact ⟨1, by omega, ⟨by rw [Nat.pow_one]; exact h, Or.inr (by rw [Nat.sub_self, Nat.pow_zero]; omega)⟩, fun z => absurd z (by decide), fun _ => by omega⟩
theorem mulC {u : Nat} (hu : 4000000 ≤ u) {f : Nat → Int32} {sz : Int32} {v m : Nat} (hm : m ≤ 1000) (h : Nt f sz v) (hv : v * m < 1073741824 ^ 6) : ∃ r, fX3_multiply u (nI m) sz f = some r ∧ Nt r.2 r.1 (v * m) := by
  obtain ⟨n, hn6, rfl, hD, hz⟩ := h
  unfold fX3_multiply
  refine jfix_cn (fun k (p : Int64 × Int32 × Int32 × (Nat → Int32)) => p.1 = lN (v % 1073741824 ^ k * m / 1073741824 ^ k) ∧ p.2.1 = nI k ∧ p.2.2.1 = nI n ∧ (∀ j, j < k → p.2.2.2 j = nI (dg (v * m) j)) ∧ ∀ j, k ≤ j → j < n → p.2.2.2 j = nI (dg v j)) n _ ?_ ?_ (by omega) ⟨by rw [Nat.pow_zero, Nat.mod_one, Nat.zero_mul]; rfl, rfl, rfl, fun _ h => absurd h (Nat.not_lt_zero _), fun j _ h => hD j h⟩
  · rintro k hk rec ⟨a, b, c, g⟩ ⟨e1, e2, e3, e4, e5⟩
    dsimp only at e1 e2 e3 e4 e5
    subst e1 e2 e3
    have hx := ti_x v m k
    have h1 : dg v k * m ≤ 1073741824 * 1000 := Nat.mul_le_mul (Nat.le_of_lt (dg_lt v k)) hm
    have h2 : v % 1073741824 ^ k * m / 1073741824 ^ k < 1001 := by
      rw [Nat.div_lt_iff_lt_mul (bp k)]
      have q := Nat.mod_lt v (bp k)
      calc v % 1073741824 ^ k * m ≤ 1073741824 ^ k * m := Nat.mul_le_mul_right m (Nat.le_of_lt q)
        _ = m * 1073741824 ^ k := Nat.mul_comm _ _
        _ < 1001 * 1073741824 ^ k := Nat.mul_lt_mul_of_pos_right (by omega) (bp k)
    have hl : (v % 1073741824 ^ (k + 1)) * m / 1073741824 ^ k < 2 ^ 63 := by rw [hx]; omega
    have hx' : v % 1073741824 ^ k * m / 1073741824 ^ k + dg v k * m = (v % 1073741824 ^ (k + 1)) * m / 1073741824 ^ k := by rw [hx, Nat.add_comm]
    have hdl := dl31 v k
    unfold fX3_multiply_b5
    simp (disch := omega) only [blet_s, ob_s, lit32, litL, jgN, nI_add, mulN, clampN, leN, show ¬ n ≤ k by omega, show ¬ 6 ≤ k by omega, if_false, e5 k (Nat.le_refl k) hk, toL, mulL, addL, hx', msk30 hl, shr30L hl, toI]
    refine ⟨_, rfl, by rw [← di_s], rfl, rfl, ?_, ?_⟩
    · intro j hj
      dsimp only
      by_cases q : j = k
      · subst q
        rw [updE rfl, ti_d]
      · rw [updN q]
        exact e4 j (by omega)
    · intro j hj hj2
      dsimp only
      rw [updN (by omega)]
      exact e5 j (by omega) hj2
  · rintro rec ⟨a, b, c, g⟩ ⟨e1, e2, e3, e4, e5⟩
    dsimp only at e1 e2 e3 e4 e5
    subst e1 e2 e3
    have hc : v * m / 1073741824 ^ n < 1073741824 := by
      rw [Nat.div_lt_iff_lt_mul (bp n)]
      have q := hz.1
      calc v * m ≤ 1073741824 ^ n * m := Nat.mul_le_mul_right m (Nat.le_of_lt q)
        _ = m * 1073741824 ^ n := Nat.mul_comm _ _
        _ < 1073741824 * 1073741824 ^ n := Nat.mul_lt_mul_of_pos_right (by omega) (bp n)
    obtain ⟨w, w1, w2, w3, w4⟩ := sz_c hc
    have hnw : n + w ≤ 6 := by
      rcases Nat.eq_zero_or_pos w with z | z
      · omega
      · have h1 := w4 (by omega)
        have h2 : 1073741824 ^ n ≤ v * m := by
          have := Nat.div_mul_le_self (v * m) (1073741824 ^ n)
          have h3 := Nat.mul_le_mul_right (1073741824 ^ n) h1
          omega
        have h3 := (Nat.pow_lt_pow_iff_right (by decide : 1 < 1073741824)).mp (Nat.lt_of_le_of_lt h2 hv)
        omega
    obtain ⟨r, r1, r2, r3, r4⟩ := upC hu (n := n) g (show v * m / 1073741824 ^ n < 2 ^ 63 by omega) w2 hnw
    have hlt : v * m < 1073741824 ^ (n + 1) := by
      rw [Nat.pow_succ, Nat.mul_comm (1073741824 ^ n), ← Nat.div_lt_iff_lt_mul (bp n)]
      exact hc
    have hlt2 : v * m < 1073741824 ^ (n + w) := by
      rcases Nat.eq_zero_or_pos w with z | z
      · rw [z, Nat.add_zero]
        exact (Nat.div_eq_zero_iff_lt (bp n)).mp (w3 z)
      · rw [show w = 1 by omega]
        exact hlt
    obtain ⟨q, q1, q2⟩ := dropC (f := r.2) (v := v * m) hu hnw (fun k hk => by
      by_cases z : k < n
      · rw [r4 k z]
        exact e4 k z
      · have hk2 : k = n + 0 := by omega
        rw [hk2, r3 0 (by omega), Nat.add_zero, dg_top hlt]
        unfold dg
        rw [Nat.pow_zero, Nat.div_one, Nat.mod_eq_of_lt hc]) hlt2
    unfold fX3_multiply_b5 fX3_multiply_b62
    dsimp only
    rw [if_pos (nI_le (Nat.le_refl n) (by omega)), Nat.mod_eq_of_lt hz.1, r1, ob_s, r2, q1, ob_s]
    exact ⟨_, rfl, q2⟩
theorem addC {u : Nat} (hu : 4000000 ≤ u) {f g : Nat → Int32} {sa sb : Int32} {v w : Nat} (h : Nt f sa v) (h2 : Nt g sb w) (hvw : v + w < 1073741824 ^ 5) : ∃ r, fX3_add u sa sb f g = some r ∧ Nt r.2 r.1 (v + w) := by
  obtain ⟨n, hn6, rfl, hD, hz⟩ := h
  obtain ⟨m, hm6, rfl, hD2, hz2⟩ := h2
  unfold fX3_add
  have em : (if nI n < nI m then nI m else nI n) = nI (if n < m then m else n) := by
    simp only [ltN (show n < 2 ^ 31 by omega) (show m < 2 ^ 31 by omega)]
    split <;> rfl
  rw [em, blet_s]
  generalize hq : (if n < m then m else n) = q
  have hnq : n ≤ q := by rw [← hq]; split <;> omega
  have hmq : m ≤ q := by rw [← hq]; split <;> omega
  have hqq : q = n ∨ q = m := by rw [← hq]; split <;> omega
  have hq5 : q ≤ 5 := by
    rcases hqq with e | e
    · rw [e]; exact sz_le hz (by omega)
    · rw [e]; exact sz_le hz2 (by omega)
  have hvq : v < 1073741824 ^ q := Nat.lt_of_lt_of_le hz.1 (Nat.pow_le_pow_right (by decide) hnq)
  have hwq : w < 1073741824 ^ q := Nat.lt_of_lt_of_le hz2.1 (Nat.pow_le_pow_right (by decide) hmq)
  refine jfix_cn (fun k (p : Int64 × Int32 × Int32 × Int32 × (Nat → Int32)) => p.1 = lN ((v % 1073741824 ^ k + w % 1073741824 ^ k) / 1073741824 ^ k) ∧ p.2.1 = nI q ∧ p.2.2.1 = nI k ∧ p.2.2.2.1 = nI n ∧ (∀ j, j < k → p.2.2.2.2 j = nI (dg (v + w) j)) ∧ ∀ j, k ≤ j → j < n → p.2.2.2.2 j = nI (dg v j)) q _ ?_ ?_ (by omega) ⟨by rw [Nat.pow_zero, Nat.mod_one, Nat.mod_one]; rfl, rfl, rfl, rfl, fun _ h => absurd h (Nat.not_lt_zero _), fun j _ h => hD j h⟩
  · rintro k hk rec ⟨a, b, c, d, F⟩ ⟨e1, e2, e3, e4, e5, e6⟩
    dsimp only at e1 e2 e3 e4 e5 e6
    subst e1 e2 e3 e4
    have hx := ad_x v w k
    have c1 := ad_c v w k
    have l1 := dg_lt v k
    have l2 := dg_lt w k
    have hx' : (v % 1073741824 ^ k + w % 1073741824 ^ k) / 1073741824 ^ k + (dg v k + dg w k) = (v % 1073741824 ^ (k + 1) + w % 1073741824 ^ (k + 1)) / 1073741824 ^ k := by omega
    have hl : (v % 1073741824 ^ (k + 1) + w % 1073741824 ^ (k + 1)) / 1073741824 ^ k < 2 ^ 63 := by omega
    unfold fX3_add_b18
    dsimp only
    rw [if_neg (nI_ge hk (by omega)), show (6 : Int32) = nI 6 from rfl, if_neg (nI_ge (show k < 6 by omega) (by decide)), digC hn6 (fun z => e6 k (Nat.le_refl k) z) hz.1 (by omega), digC hm6 (fun z => hD2 k z) hz2.1 (by omega), ob_s, ob_s, toL (by omega), toL (by omega), addL, addL, hx', blet_s, jgN (by omega) (by omega), show (1073741823 : Int64) = lN 1073741823 from rfl, msk30 hl, shr30 hl, toI, nI_clamp (by omega), blet_s, blet_s, blet_s, nI_1]
    refine ⟨_, rfl, by rw [← di_s], rfl, rfl, rfl, ?_, ?_⟩
    · intro j hj
      dsimp only
      by_cases z : j = k
      · subst z
        rw [updE rfl, ad_d]
      · rw [updN z]
        exact e5 j (by omega)
    · intro j hj hj2
      dsimp only
      rw [updN (by omega)]
      exact e6 j (by omega) hj2
  · rintro rec ⟨a, b, c, d, F⟩ ⟨e1, e2, e3, e4, e5, e6⟩
    dsimp only at e1 e2 e3 e4 e5 e6
    subst e1 e2 e3 e4
    have hc := ad_c v w q
    rw [Nat.mod_eq_of_lt hvq, Nat.mod_eq_of_lt hwq] at hc
    obtain ⟨x, w1, w2, w3, w4⟩ := sz_c (show (v + w) / 1073741824 ^ q < 1073741824 by omega)
    obtain ⟨r, r1, r2, r3, r4⟩ := upC hu (n := q) F (show (v + w) / 1073741824 ^ q < 2 ^ 63 by omega) w2 (by omega)
    have hlt : v + w < 1073741824 ^ (q + 1) := by
      rw [Nat.pow_succ]
      have := bp q
      omega
    unfold fX3_add_b18 fX3_add_b77
    dsimp only
    rw [if_pos (nI_le (Nat.le_refl q) (by omega)), Nat.mod_eq_of_lt hvq, Nat.mod_eq_of_lt hwq, r1, ob_s]
    refine ⟨_, rfl, q + x, by omega, r2, ?_, ?_, ?_⟩
    · intro k hk
      dsimp only
      by_cases z : k < q
      · rw [r4 k z]
        exact e5 k z
      · have hk2 : k = q + 0 := by omega
        rw [hk2, r3 0 (by omega), Nat.add_zero, dg_top hlt]
        unfold dg
        rw [Nat.pow_zero, Nat.div_one, Nat.mod_eq_of_lt (by omega)]
    · rcases Nat.eq_zero_or_pos x with z | z
      · rw [z, Nat.add_zero]
        exact (Nat.div_eq_zero_iff_lt (bp q)).mp (w3 z)
      · rw [show x = 1 by omega]
        exact hlt
    · rcases Nat.eq_zero_or_pos x with z | z
      · rw [z, Nat.add_zero]
        rcases hqq with e | e
        · rw [e]
          rcases hz.2 with y | y
          · exact Or.inl y
          · exact Or.inr (by omega)
        · rw [e]
          rcases hz2.2 with y | y
          · exact Or.inl y
          · exact Or.inr (by omega)
      · refine Or.inr ?_
        rw [show q + x - 1 = q by omega]
        have h1 := w4 (by omega)
        have := Nat.div_mul_le_self (v + w) (1073741824 ^ q)
        have h3 := Nat.mul_le_mul_right (1073741824 ^ q) h1
        omega
theorem aboC {u : Nat} (hu : 4000000 ≤ u) {f g : Nat → Int32} {sa sb : Int32} {v w : Nat} (h : Nt f sa v) (h2 : Nt g sb w) : fX3_isAbove u sa sb f g = some (if w < v then 1 else 0) := by
  obtain ⟨n, hn6, rfl, hD, hz⟩ := h
  obtain ⟨m, hm6, rfl, hD2, hz2⟩ := h2
  unfold fX3_isAbove
  have em : (if nI n < nI m then nI m else nI n) = nI (if n < m then m else n) := by
    simp only [ltN (show n < 2 ^ 31 by omega) (show m < 2 ^ 31 by omega)]
    split <;> rfl
  rw [em, blet_s, blet_s]
  generalize hq : (if n < m then m else n) = q
  have hnq : n ≤ q := by rw [← hq]; split <;> omega
  have hmq : m ≤ q := by rw [← hq]; split <;> omega
  have hq6 : q ≤ 6 := by rw [← hq]; split <;> omega
  have hvq : v < 1073741824 ^ q := Nat.lt_of_lt_of_le hz.1 (Nat.pow_le_pow_right (by decide) hnq)
  have hwq : w < 1073741824 ^ q := Nat.lt_of_lt_of_le hz2.1 (Nat.pow_le_pow_right (by decide) hmq)
  have key : ∃ r, jfix (fX3_isAbove_b14 u (nI n) (nI m) f g) u (nI q - 1) = some r ∧ r = (if w < v then (1 : Int32) else 0) := by
    refine jfix_mu (fun p => ∃ k, k ≤ q ∧ p = nI k - 1 ∧ v / 1073741824 ^ k = w / 1073741824 ^ k) (fun p => (p + 1).toNatClampNeg) (fun _ r => r = _) ?_ u _ ⟨q, Nat.le_refl _, rfl, by rw [Nat.div_eq_of_lt hvq, Nat.div_eq_of_lt hwq]⟩ (by rw [Int32.sub_add_cancel, nI_clamp (by omega)]; omega)
    rintro rec p ⟨k, hk, rfl, he⟩ ih
    unfold fX3_isAbove_b14
    by_cases k0 : k = 0
    · subst k0
      rw [if_pos (show nI 0 - 1 < 0 by decide)]
      rw [Nat.pow_zero, Nat.div_one, Nat.div_one] at he
      subst he
      rw [if_neg (Nat.lt_irrefl v)]
      exact ⟨_, rfl, rfl⟩
    · have e1 : nI k - 1 = nI (k - 1) := by rw [show (1 : Int32) = nI 1 from rfl, subN (by omega)]
      have b1 := dg_lt v (k - 1)
      have b2 := dg_lt w (k - 1)
      have d1 := Nat.div_add_mod (v / 1073741824 ^ (k - 1)) 1073741824
      have d2 := Nat.div_add_mod (w / 1073741824 ^ (k - 1)) 1073741824
      rw [di_s, show k - 1 + 1 = k by omega] at d1 d2
      have d1' : v / 1073741824 ^ (k - 1) % 1073741824 = dg v (k - 1) := rfl
      have d2' : w / 1073741824 ^ (k - 1) % 1073741824 = dg w (k - 1) := rfl
      rw [e1] at ih
      rw [e1, if_neg (nI_pos (by omega)), digC hn6 (fun z => hD _ z) hz.1 (by omega), digC hm6 (fun z => hD2 _ z) hz2.1 (by omega), ob_s, ob_s, ob_s, ob_s]
      simp only [eqN (show dg v (k - 1) < 2 ^ 31 by omega) (show dg w (k - 1) < 2 ^ 31 by omega), leN (show dg v (k - 1) < 2 ^ 31 by omega) (show dg w (k - 1) < 2 ^ 31 by omega)]
      by_cases z : dg v (k - 1) = dg w (k - 1)
      · rw [if_pos z, blet_s]
        have em : nI (k - 1) + -1 = nI (k - 1) - 1 := (Int32.sub_eq_add_neg _ _).symm
        refine ih _ ⟨k - 1, by omega, em, by omega⟩ ?_
        rw [em, Int32.sub_add_cancel, nI_1, nI_clamp (by omega), nI_clamp (by omega)]
        omega
      · rw [if_neg z]
        by_cases y : dg v (k - 1) ≤ dg w (k - 1)
        · rw [if_pos y]
          have hlt : v < w := Nat.lt_of_div_lt_div (a := v) (c := 1073741824 ^ (k - 1)) (by omega)
          rw [if_neg (by omega)]
          exact ⟨_, rfl, rfl⟩
        · rw [if_neg y]
          have hlt : w < v := Nat.lt_of_div_lt_div (a := w) (c := 1073741824 ^ (k - 1)) (by omega)
          rw [if_pos hlt]
          exact ⟨_, rfl, rfl⟩
  obtain ⟨r, e, e2⟩ := key
  rw [e, e2]
theorem cpyC {f g : Nat → Int32} {sa sb : Int32} {v : Nat} (h : Nt g sb v) : ∃ r, fX3_copyFrom sa sb f g = some r ∧ Nt r.2 r.1 v := by
  obtain ⟨n, hn6, rfl, hD, hz⟩ := h
  unfold fX3_copyFrom
  rw [if_pos (by decide), blet_s]
  refine ⟨_, rfl, n, hn6, rfl, fun k hk => ?_, hz⟩
  dsimp only
  rw [show (0 : Int32).toNatClampNeg = 0 from rfl, show (6 : Int32).toNatClampNeg = 6 from rfl, pk_cpy_in (Nat.zero_le _) (by omega), Nat.zero_add, Nat.sub_zero]
  exact hD k hk
