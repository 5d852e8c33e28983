/-! big numbers: digits to the base 2^30 -/
def dg (v k : Nat) : Nat := v / 1073741824 ^ k % 1073741824
theorem dg_lt (v k : Nat) : dg v k < 1073741824 := Nat.mod_lt _ (by decide)
theorem bp (k : Nat) : 0 < 1073741824 ^ k := Nat.pow_pos (by decide)
theorem dg_mod (v k : Nat) : v % 1073741824 ^ (k + 1) / 1073741824 ^ k = dg v k := by
  rw [Nat.pow_succ]
  exact Nat.mod_mul_right_div_self _ _ _
theorem mod_s (v k : Nat) : v % 1073741824 ^ (k + 1) = v % 1073741824 ^ k + 1073741824 ^ k * dg v k := Nat.mod_pow_succ
theorem ti_x (v m k : Nat) : (v % 1073741824 ^ (k + 1)) * m / 1073741824 ^ k = dg v k * m + (v % 1073741824 ^ k) * m / 1073741824 ^ k := by
  rw [mod_s, Nat.add_mul, Nat.mul_assoc, Nat.add_mul_div_left _ _ (bp k), Nat.add_comm]
theorem ti_d (v m k : Nat) : (v % 1073741824 ^ (k + 1)) * m / 1073741824 ^ k % 1073741824 = dg (v * m) k := by
  unfold dg
  rw [← Nat.mod_mul_right_div_self, ← Nat.mod_mul_right_div_self, ← Nat.pow_succ]
  congr 1
  rw [Nat.mul_mod, Nat.mod_mod, ← Nat.mul_mod]
theorem di_s (x k : Nat) : x / 1073741824 ^ k / 1073741824 = x / 1073741824 ^ (k + 1) := by
  rw [Nat.div_div_eq_div_mul, Nat.pow_succ]
theorem ad_x (a b k : Nat) : (a % 1073741824 ^ (k + 1) + b % 1073741824 ^ (k + 1)) / 1073741824 ^ k = dg a k + dg b k + (a % 1073741824 ^ k + b % 1073741824 ^ k) / 1073741824 ^ k := by
  rw [mod_s, mod_s]
  have e : a % 1073741824 ^ k + 1073741824 ^ k * dg a k + (b % 1073741824 ^ k + 1073741824 ^ k * dg b k) = (a % 1073741824 ^ k + b % 1073741824 ^ k) + 1073741824 ^ k * (dg a k + dg b k) := by
    rw [Nat.mul_add]
    omega
  rw [e, Nat.add_mul_div_left _ _ (bp k), Nat.add_comm]
theorem ad_d (a b k : Nat) : (a % 1073741824 ^ (k + 1) + b % 1073741824 ^ (k + 1)) / 1073741824 ^ k % 1073741824 = dg (a + b) k := by
  unfold dg
  rw [← Nat.mod_mul_right_div_self, ← Nat.mod_mul_right_div_self, ← Nat.pow_succ]
  congr 1
  rw [Nat.add_mod, Nat.mod_mod, Nat.mod_mod, ← Nat.add_mod]
theorem ad_c (a b k : Nat) : (a % 1073741824 ^ k + b % 1073741824 ^ k) / 1073741824 ^ k ≤ 1 := by
  have h1 := Nat.mod_lt a (bp k)
  have h2 := Nat.mod_lt b (bp k)
  have h : a % 1073741824 ^ k + b % 1073741824 ^ k < 2 * 1073741824 ^ k := by omega
  have := (Nat.div_lt_iff_lt_mul (bp k)).mpr h
  omega
theorem dg_big {v k : Nat} (h : v < 1073741824 ^ k) : dg v k = 0 := by
  unfold dg
  rw [Nat.div_eq_of_lt h]
theorem dg_top {v k : Nat} (h : v < 1073741824 ^ (k + 1)) : dg v k = v / 1073741824 ^ k := by
  unfold dg
  refine Nat.mod_eq_of_lt ((Nat.div_lt_iff_lt_mul (bp k)).mpr ?_)
  rw [Nat.mul_comm, ← Nat.pow_succ]
  exact h
def Sz (v n : Nat) : Prop := v < 1073741824 ^ n ∧ (n = 0 ∨ 1073741824 ^ (n - 1) ≤ v)
theorem sz_le {v n M : Nat} (h : Sz v n) (hv : v < 1073741824 ^ M) : n ≤ M := by
  rcases h.2 with e | e
  · omega
  · have h2 : 1073741824 ^ (n - 1) < 1073741824 ^ M := Nat.lt_of_le_of_lt e hv
    have h3 := (Nat.pow_lt_pow_iff_right (by decide : 1 < 1073741824)).mp h2
    omega
theorem sz_0 {n : Nat} (h : Sz 0 n) : n = 0 := by
  rcases h.2 with e | e
  · exact e
  · have := bp (n - 1)
    omega
theorem sz_p {v n : Nat} (h : Sz v n) (hv : 0 < v) : 0 < n := by
  rcases Nat.eq_zero_or_pos n with e | e
  · subst e
    have := h.1
    rw [Nat.pow_zero] at this
    omega
  · exact e
theorem sz_u {v n m : Nat} (h : Sz v n) (h2 : Sz v m) : n = m := by
  have a : ∀ {n m : Nat}, Sz v n → Sz v m → n ≤ m := fun h h2 => sz_le h h2.1
  exact Nat.le_antisymm (a h h2) (a h2 h)
theorem sz_lt {v w n m : Nat} (h : Sz v n) (h2 : Sz w m) (hnm : n < m) : v < w := by
  rcases h2.2 with e | e
  · omega
  · exact Nat.lt_of_lt_of_le h.1 (Nat.le_trans (Nat.pow_le_pow_right (by decide) (by omega)) e)
theorem sz_ex (v : Nat) : ∃ n, Sz v n := by
  have h : ∃ n, v < 1073741824 ^ n := by
    refine ⟨v, ?_⟩
    have h1 : v < 2 ^ v := Nat.lt_two_pow_self
    exact Nat.lt_of_lt_of_le h1 (Nat.pow_le_pow_left (by decide) v)
  obtain ⟨n, h1, h2⟩ := pk_least _ h
  refine ⟨n, h1, ?_⟩
  rcases Nat.eq_zero_or_pos n with e | e
  · exact Or.inl e
  · exact Or.inr (Nat.not_lt.mp (h2 (n - 1) (by omega)))
/-! a slot of the reference -/
def Dv (L : Nat → Int64) (o n v : Nat) : Prop := ∀ k, k < n → L (o + k) = lN (dg v k)
def Sl (L : Nat → Int64) (S : Nat → Int32) (s v : Nat) : Prop := ∃ n, n ≤ 6 ∧ S s = nI n ∧ Dv L (64 * s) n v ∧ Sz v n
def Fr (s : Nat) (L L2 : Nat → Int64) (S S2 : Nat → Int32) : Prop := (∀ k, (k < 64 * s ∨ 64 * s + 64 ≤ k) → L2 k = L k) ∧ ∀ j, j ≠ s → S2 j = S j
theorem Sl_fr {s t v : Nat} {L L2 : Nat → Int64} {S S2 : Nat → Int32} (h : Fr s L L2 S S2) (ht : t ≠ s) (hs : Sl L S t v) : Sl L2 S2 t v := by
  obtain ⟨n, h1, h2, h3, h4⟩ := hs
  refine ⟨n, h1, (h.2 t ht).trans h2, fun k hk => ?_, h4⟩
  rw [h.1 _ (by omega)]
  exact h3 k hk
theorem Fr_r {s : Nat} {L : Nat → Int64} {S : Nat → Int32} : Fr s L L S S := ⟨fun _ _ => rfl, fun _ _ => rfl⟩
theorem Fr_t {s : Nat} {L L2 L3 : Nat → Int64} {S S2 S3 : Nat → Int32} (h : Fr s L L2 S S2) (h2 : Fr s L2 L3 S2 S3) : Fr s L L3 S S3 := ⟨fun k hk => (h2.1 k hk).trans (h.1 k hk), fun j hj => (h2.2 j hj).trans (h.2 j hj)⟩
theorem upL {f : Nat → Int64} {k j : Nat} {x : Int64} (h : j ≠ k) : vp_updL f k x j = f j := pk_uLn h
theorem upLe {f : Nat → Int64} {k j : Nat} {x : Int64} (h : j = k) : vp_updL f k x j = x := by subst h; exact pk_uLs
theorem remL {a b : Nat} (ha : a < 2 ^ 63) (h0 : 0 < b) (hb : b < 2 ^ 63) : lN a - lN a / lN b * lN b = lN (a % b) := pk_lRem ha h0 hb
theorem trimR {u : Nat} (hu : 4000000 ≤ u) {s n v : Nat} {L : Nat → Int64} {S : Nat → Int32} (hs : s < 10) (hn : n ≤ 20) (hS : S s = nI n) (hD : Dv L (64 * s) n v) (hv : v < 1073741824 ^ n) (hv6 : v < 1073741824 ^ 6) : ∃ S2, fX9_trim u (nI s) L S = some S2 ∧ Sl L S2 s v ∧ ∀ j, j ≠ s → S2 j = S j := by
  have h : ∃ r, jfix (fX9_trim_b0 u (nI s) L S) u S = some r ∧ (Sl L r s v ∧ ∀ j, j ≠ s → r j = S j) := by
    refine jfix_mu (fun p => ∃ m, m ≤ 20 ∧ p s = nI m ∧ Dv L (64 * s) m v ∧ v < 1073741824 ^ m ∧ ∀ j, j ≠ s → p j = S j) (fun p => (p s).toNatClampNeg) (fun _ r => Sl L r s v ∧ ∀ j, j ≠ s → r j = S j) ?_ u S ⟨n, hn, hS, hD, hv, fun _ _ => rfl⟩ (by rw [hS, nI_clamp (by omega)]; omega)
    rintro rec p ⟨m, h1, h2, h3, h4, h5⟩ ih
    have ez : m ≠ 0 → (lg_cmp (lN (dg v (m - 1))) (lN 0) = nI 0) = (dg v (m - 1) = 0) := fun _ => (propext (lg_cmp_eq _ _)).trans (eqL (Nat.lt_trans (dg_lt _ _) (by decide)) (by decide))
    unfold fX9_trim_b0
    by_cases c : m = 0
    · subst c
      simp (disch := omega) only [blet_s, ob_s, lit32, litL, jgN, nI_add, mulN, clampN, h2, leN, Nat.le_refl, if_true]
      exact ⟨_, rfl, ⟨0, by omega, h2, h3, h4, Or.inl rfl⟩, h5⟩
    · have e1 : L (64 * s + m - 1) = lN (dg v (m - 1)) := by
        rw [show 64 * s + m - 1 = 64 * s + (m - 1) by omega]
        exact h3 (m - 1) (by omega)
      have et : dg v (m - 1) = v / 1073741824 ^ (m - 1) := dg_top (by rw [show m - 1 + 1 = m by omega]; exact h4)
      simp (disch := omega) only [blet_s, ob_s, lit32, litL, jgN, nI_add, mulN, clampN, h2, leN, subN, e1, ez c, show ¬ m ≤ 0 by omega, if_false]
      by_cases c2 : dg v (m - 1) = 0
      · rw [if_pos c2]
        have hlt : v < 1073741824 ^ (m - 1) := by
          rw [et] at c2
          exact (Nat.div_eq_zero_iff_lt (bp _)).mp c2
        exact ih (upd p s (nI (m - 1))) ⟨m - 1, by omega, updE rfl, fun k hk => h3 k (by omega), hlt, fun j hj => by rw [updN hj]; exact h5 j hj⟩ (by rw [updE rfl, h2, nI_clamp (by omega), nI_clamp (by omega)]; omega)
      · rw [if_neg c2]
        have hge : 1073741824 ^ (m - 1) ≤ v := Nat.not_lt.mp (fun z => c2 (dg_big z))
        exact ⟨_, rfl, ⟨m, sz_le ⟨h4, Or.inr hge⟩ hv6, h2, h3, h4, Or.inr hge⟩, h5⟩
  exact h
