/-! loops: a row of states, a last one -/
theorem jfix_it {α ρ : Type} {g : (α → Option ρ) → α → Option ρ} (s : Nat → α) (m : Nat) (r : ρ) (hs : ∀ k, k < m → ∀ rec : α → Option ρ, g rec (s k) = rec (s (k + 1))) (he : ∀ rec : α → Option ρ, g rec (s m) = some r) {u : Nat} (hu : m < u) : jfix g u (s 0) = some r := by
  have key : ∀ (d n j : Nat), j + d = m → d < n → jfix g n (s j) = some r := by
    intro d
    induction d with
    | zero =>
      intro n j hj hn
      cases n with
      | zero => omega
      | succ n =>
        have e : j = m := by omega
        subst e
        exact he _
    | succ d ih =>
      intro n j hj hn
      cases n with
      | zero => omega
      | succ n =>
        show g (jfix g n) (s j) = some r
        rw [hs j (by omega)]
        exact ih n (j + 1) (by omega) (by omega)
  exact key m u 0 (by omega) hu
/-- a loop by a measure -/
theorem jfix_mu {α ρ : Type} {g : (α → Option ρ) → α → Option ρ} (I : α → Prop) (μ : α → Nat) (Q : α → ρ → Prop) (h : ∀ (rec : α → Option ρ) (p : α), I p → (∀ q, I q → μ q < μ p → ∃ r, rec q = some r ∧ Q q r) → ∃ r, g rec p = some r ∧ Q p r) : ∀ (u : Nat) (p : α), I p → μ p < u → ∃ r, jfix g u p = some r ∧ Q p r := by
  intro u
  induction u with
  | zero => intro p _ h2; omega
  | succ n ih =>
    intro p hp h2
    exact h (jfix g n) p hp (fun q hq hm => ih q hq (by omega))
/-- two loops side by side -/
theorem jfix_2 {α β ρ σ : Type} {g : (α → Option ρ) → α → Option ρ} {g' : (β → Option σ) → β → Option σ} (R : α → β → Prop) (μ : α → Nat) (T : ρ → σ → Prop) (h : ∀ (rec : α → Option ρ) (rec' : β → Option σ) (p : α) (q : β), R p q → (∀ p' q', R p' q' → μ p' < μ p → ∃ r s, rec p' = some r ∧ rec' q' = some s ∧ T r s) → ∃ r s, g rec p = some r ∧ g' rec' q = some s ∧ T r s) : ∀ (u u' : Nat) (p : α) (q : β), R p q → μ p < u → μ p < u' → ∃ r s, jfix g u p = some r ∧ jfix g' u' q = some s ∧ T r s := by
  intro u
  induction u with
  | zero => intro u' p q _ h2; omega
  | succ n ih =>
    intro u' p q hp h2 h3
    cases u' with
    | zero => omega
    | succ n' => exact h (jfix g n) (jfix g' n') p q hp (fun p' q' hq hm => ih n' p' q' hq (by omega) (by omega))
theorem litL (n : Nat) : (no_index (OfNat.ofNat n) : Int64) = lN (OfNat.ofNat n) := rfl
theorem mulL (a b : Nat) : lN a * lN b = lN (a * b) := lN_mul a b
theorem addL (a b : Nat) : lN a + lN b = lN (a + b) := lN_add a b
theorem subL {a b : Nat} (h : b ≤ a) : lN a - lN b = lN (a - b) := lN_sub h
theorem leL {a b : Nat} (ha : a < 2 ^ 63) (hb : b < 2 ^ 63) : (lN a ≤ lN b) = (a ≤ b) := propext (pk_lLE ha hb)
theorem ltL {a b : Nat} (ha : a < 2 ^ 63) (hb : b < 2 ^ 63) : (lN a < lN b) = (a < b) := propext (pk_lLT ha hb)
theorem eqL {a b : Nat} (ha : a < 2 ^ 63) (hb : b < 2 ^ 63) : (lN a = lN b) = (a = b) := propext (pk_lEQ ha hb)
theorem divL {a b : Nat} (ha : a < 2 ^ 63) (h0 : 0 < b) (hb : b < 2 ^ 63) : lN a / lN b = lN (a / b) := pk_lDiv ha h0 hb
theorem divI {a b : Nat} (ha : a < 2 ^ 31) (h0 : 0 < b) (hb : b < 2 ^ 31) : nI a / nI b = nI (a / b) := pk_div ha h0 hb
theorem toL {a : Nat} (h : a < 2 ^ 31) : (nI a).toInt64 = lN a := nI_l h
theorem toI (a : Nat) : (lN a).toInt32 = nI a := lN_i a
theorem divd {a b : Nat} (ha : a < 2 ^ 31) (h0 : 0 < b) (hb : b < 2 ^ 31) : fX8_divided (nI a) (nI b) = some (nI (a / b)) := by
  unfold fX8_divided
  rw [if_neg (nI_ne0 h0 hb), if_neg (nI_ne0 h0 hb), divI ha h0 hb]
theorem ne0N {b : Nat} (h0 : 0 < b) (hb : b < 2 ^ 31) : (nI b = 0) = False := eq_false (nI_ne0 h0 hb)
theorem cmpN {a b : Nat} (ha : a < 2 ^ 63) (hb : b < 2 ^ 63) : (lg_cmp (lN a) (lN b) ≤ 0) = (a ≤ b) := (propext (lg_cmp_le _ _)).trans (leL ha hb)
theorem bm32 {n : Int} (h1 : -2147483648 ≤ n) (h2 : n < 2147483648) : n.bmod (2 ^ 32) = n := Int.bmod_eq_of_le (by omega) (by omega)
theorem bm64 {n : Int} (h1 : -9223372036854775808 ≤ n) (h2 : n < 9223372036854775808) : n.bmod (2 ^ 64) = n := Int.bmod_eq_of_le (by omega) (by omega)
