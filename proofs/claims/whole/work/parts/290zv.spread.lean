def dsN (a b : Nat) : Nat := if b ≤ a then a - b else b - a
theorem ds_le {a b : Nat} (ha : a ≤ 99) (hb : b ≤ 99) : dsN a b ≤ 99 := by unfold dsN; split <;> omega
theorem ds_p {a b : Nat} (ha : a ≤ 99) (hb : b ≤ 99) : (0 ≤ nI a - nI b ∧ b ≤ a ∧ nI a - nI b = nI (dsN a b)) ∨ (¬ 0 ≤ nI a - nI b ∧ ¬ b ≤ a ∧ -(nI a - nI b) = nI (dsN a b) ∧ 0 - (nI a - nI b) = nI (dsN a b)) := by
  unfold dsN
  have z0 : (0 : Int32).toInt = 0 := by decide
  have z : (nI a - nI b).toInt = (a : Int) - b := pk_sub_toInt (a := a) (b := b) (by omega) (by omega)
  by_cases c : b ≤ a
  · left
    rw [if_pos c]
    refine ⟨?_, c, subN c⟩
    rw [Int32.le_iff_toInt_le, z, z0]
    omega
  · right
    rw [if_neg c]
    refine ⟨?_, c, ?_, ?_⟩
    · rw [Int32.le_iff_toInt_le, z, z0]
      omega
    · rw [Int32.neg_sub]
      exact subN (by omega)
    · rw [Int32.zero_sub, Int32.neg_sub]
      exact subN (by omega)
/-- how many of the first t stand above lo and not above hi -/
def kpN (x : Nat → Nat) (t lo hi : Nat) : Nat := suN (fun k => if lo < x k ∧ x k ≤ hi then 1 else 0) t
def ksN (x : Nat → Nat) (t lo hi m : Nat) : Nat := suN (fun k => if lo < x k ∧ x k ≤ hi then dsN (x k) m else 0) t
theorem pc_b (x : Nat → Nat) (t lo hi : Nat) : kpN x t lo hi ≤ t := by
  have h := suN_b (f := fun k => if lo < x k ∧ x k ≤ hi then 1 else 0) (B := 1) t (fun k _ => by split <;> omega)
  rw [Nat.mul_one] at h
  exact h
/-- what the reference knows of the thorns' lengths -/
def LN (N : Nat → Int32) (t : Nat) (x : Nat → Nat) : Prop := t ≤ 12 ∧ N 396 = nI t ∧ ∀ k, k < t → N (99 + 4 * k) = nI (x k) ∧ 1 ≤ x k ∧ x k ≤ 99
theorem lg_r {N : Nat → Int32} {t : Nat} {x : Nat → Nat} (L : LN N t x) {k : Nat} (hk : k < t) : fX9_longOf (nI k) N = some (nI (x k)) := by
  have ht := L.1
  unfold fX9_longOf
  rw [show (4 : Int32) = nI 4 from rfl, show (99 : Int32) = nI 99 from rfl, mulN, nI_add, blet_s, jgN (by omega) (by omega), nI_clamp (by omega), (L.2.2 k hk).1]
theorem ip_r {N : Nat → Int32} {t : Nat} {x : Nat → Nat} (L : LN N t x) {k lo hi : Nat} (hk : k < t) (hl : lo ≤ 99) (hh : hi ≤ 99) : fX9_isPart (nI k) (nI lo) (nI hi) N = some (if lo < x k ∧ x k ≤ hi then 1 else 0) := by
  have hx := L.2.2 k hk
  unfold fX9_isPart
  rw [lg_r L hk, ob_s, ob_s]
  simp only [leN (show x k < 2 ^ 31 by omega) (show lo < 2 ^ 31 by omega), ltN (show hi < 2 ^ 31 by omega) (show x k < 2 ^ 31 by omega)]
  by_cases c : x k ≤ lo
  · rw [if_pos c, if_neg (by omega)]
  · rw [if_neg c]
    by_cases d : hi < x k
    · rw [if_pos d, if_neg (by omega)]
    · rw [if_neg d, if_pos (by omega)]
theorem mn_r {N : Nat → Int32} {t : Nat} {x : Nat → Nat} (L : LN N t x) : fX9_many 4 N = some (nI t) := by
  rw [← L.2.1]
  rfl
theorem pt_r {u : Nat} (hu : 4000000 ≤ u) {N : Nat → Int32} {t : Nat} {x : Nat → Nat} (L : LN N t x) {lo hi : Nat} (hl : lo ≤ 99) (hh : hi ≤ 99) : fX9_partOf u (nI lo) (nI hi) N = some (nI (kpN x t lo hi)) := by
  have ht := L.1
  unfold fX9_partOf
  refine jfix_to (fun k => (nI (kpN x k lo hi), nI k)) t _ ?_ ?_ (by omega)
  · intro k hk rec
    unfold fX9_partOf_b5
    dsimp only
    rw [mn_r L, ob_s, if_neg (nI_ge hk (by omega)), ip_r L hk hl hh, ob_s]
    have es : kpN x (k + 1) lo hi = kpN x k lo hi + (if lo < x k ∧ x k ≤ hi then 1 else 0) := rfl
    rw [es]
    unfold fX9_partOf_b32
    dsimp only
    by_cases c : lo < x k ∧ x k ≤ hi
    · simp only [if_pos c]
      rw [if_neg one0, nI_1, nI_1, blet_s, blet_s]
    · simp only [if_neg c]
      rw [if_pos True.intro, Int32.add_zero, nI_1, blet_s, blet_s]
      rfl
  · intro rec
    unfold fX9_partOf_b5
    dsimp only
    rw [mn_r L, ob_s, if_pos (nI_le (Nat.le_refl t) (by omega))]
/-- the reference's middle -/
def isM (x : Nat → Nat) (t lo hi m : Nat) : Prop := lo ≤ m ∧ m ≤ hi ∧ (kpN x t lo hi = 0 ∨ kpN x t lo hi ≤ 2 * kpN x t lo m) ∧ ∀ v, lo ≤ v → v < m → ¬ (kpN x t lo hi = 0 ∨ kpN x t lo hi ≤ 2 * kpN x t lo v)
theorem ls_r {u : Nat} (hu : 4000000 ≤ u) {N : Nat → Int32} {t : Nat} {x : Nat → Nat} (L : LN N t x) {lo hi m : Nat} (hl : lo ≤ 99) (hh : hi ≤ 99) (hm : m ≤ 99) : fX9_spreadOf_b33 u (nI lo) (nI hi) N (nI m) = some (nI (ksN x t lo hi m)) := by
  have ht := L.1
  unfold fX9_spreadOf_b33
  refine jfix_to (fun k => (nI m, nI (ksN x k lo hi m), nI k)) t _ ?_ ?_ (by omega)
  · intro k hk rec
    unfold fX9_spreadOf_b39
    dsimp only
    rw [mn_r L, ob_s, if_neg (nI_ge hk (by omega)), lg_r L hk, ob_s, blet_s, ip_r L hk hl hh, ob_s]
    have es : ksN x (k + 1) lo hi m = ksN x k lo hi m + (if lo < x k ∧ x k ≤ hi then dsN (x k) m else 0) := rfl
    rw [es]
    unfold fX9_spreadOf_b90
    dsimp only
    by_cases c : lo < x k ∧ x k ≤ hi
    · simp only [if_pos c]
      rw [if_neg one0]
      rcases ds_p (L.2.2 k hk).2.2 hm with ⟨h1, -, h2⟩ | ⟨h1, -, h2, -⟩
      · rw [if_pos h1, h2, nI_add, nI_1, blet_s, blet_s]
      · rw [if_neg h1, h2, nI_add, nI_1, blet_s, blet_s]
    · simp only [if_neg c]
      rw [if_pos True.intro, Int32.add_zero, nI_1, blet_s, blet_s]
      rfl
  · intro rec
    unfold fX9_spreadOf_b39
    dsimp only
    rw [mn_r L, ob_s, if_pos (nI_le (Nat.le_refl t) (by omega))]
theorem sp_r {u : Nat} (hu : 4000000 ≤ u) {N : Nat → Int32} {t : Nat} {x : Nat → Nat} (L : LN N t x) {lo hi m : Nat} (hlh : lo ≤ hi) (hh : hi ≤ 99) (hm : isM x t lo hi m) : fX9_spreadOf u (nI lo) (nI hi) N = some (nI (ksN x t lo hi m)) := by
  have ht := L.1
  have hp := pc_b x t lo hi
  obtain ⟨m1, m2, m3, m4⟩ := hm
  unfold fX9_spreadOf
  rw [pt_r hu L (by omega) hh, ob_s]
  have h10 : ∀ (v : Nat) (rec : Int32 × Int32 → Option Int32), v ≤ 99 → fX9_spreadOf_b10 u (nI lo) (nI hi) N rec (nI (kpN x t lo hi), nI v) = if kpN x t lo hi = 0 ∨ kpN x t lo hi ≤ 2 * kpN x t lo v then some (nI (ksN x t lo hi v)) else rec (nI (kpN x t lo hi), nI (v + 1)) := by
    intro v rec hv
    have hpv := pc_b x t lo v
    unfold fX9_spreadOf_b10
    dsimp only
    by_cases c : kpN x t lo hi = 0
    · rw [if_pos (show nI (kpN x t lo hi) ≤ 0 by rw [c]; decide), if_pos (Or.inl c)]
      exact ls_r hu L (by omega) hh hv
    · rw [if_neg (show ¬ nI (kpN x t lo hi) ≤ 0 from nI_ge (b := kpN x t lo hi) (a := 0) (by omega) (by omega)), pt_r hu L (by omega) hv, ob_s, show (2 : Int32) = nI 2 from rfl, mulN]
      by_cases d : kpN x t lo hi ≤ 2 * kpN x t lo v
      · rw [if_pos (nI_le d (by omega)), if_pos (Or.inr d)]
        exact ls_r hu L (by omega) hh hv
      · rw [if_neg (nI_ge (by omega) (by omega)), if_neg (by omega), blet_s, nI_1]
  refine jfix_to (fun d => (nI (kpN x t lo hi), nI (lo + d))) (m - lo) _ ?_ ?_ (by omega)
  · intro d hd rec
    rw [h10 (lo + d) rec (by omega), if_neg (m4 (lo + d) (by omega) (by omega))]
    rfl
  · intro rec
    rw [h10 _ rec (by omega), show lo + (m - lo) = m by omega, if_pos m3]
/-- the class's spread of [a, b) -/
def sgN (w : Nat → Nat) (t a b m : Nat) : Nat := suN (fun k => if a ≤ k ∧ k < b then dsN (w k) m else 0) t
theorem sp_c {u : Nat} (hu : 4000000 ≤ u) {t a b : Nat} {w : Nat → Nat} {arr : Nat → Int32} (ht : t ≤ 12) (hw : ∀ k, k < t → arr k = nI (w k) ∧ w k ≤ 99) (hab : a < b) (hb : b ≤ t) : fX0_spread u (nI a) (nI b) arr = some (nI (sgN w t a b (w (a + (b - a - 1) / 2)))) := by
  have hq : a + (b - a - 1) / 2 < b := by omega
  have hm := (hw (a + (b - a - 1) / 2) (by omega)).2
  unfold fX0_spread
  have e1 : nI a + (nI b - nI a - 1) / 2 = nI (a + (b - a - 1) / 2) := by
    rw [subN (show a ≤ b by omega), show nI (b - a) - 1 = nI (b - a - 1) from subN (b := 1) (by omega), show nI (b - a - 1) / 2 = nI ((b - a - 1) / 2) from divI (b := 2) (by omega) (by decide) (by decide), nI_add]
  rw [e1, blet_s]
  have low : ∀ k, k ≤ a → sgN w k a b (w (a + (b - a - 1) / 2)) = 0 := by
    intro k hk
    have h := suN_b (f := fun k => if a ≤ k ∧ k < b then dsN (w k) (w (a + (b - a - 1) / 2)) else 0) (B := 0) k (fun j hj => by rw [if_neg (by omega)]; exact Nat.le_refl 0)
    rw [Nat.mul_zero] at h
    exact Nat.le_zero.mp h
  have high : ∀ d, b + d ≤ t → sgN w (b + d) a b (w (a + (b - a - 1) / 2)) = sgN w b a b (w (a + (b - a - 1) / 2)) := by
    intro d
    induction d with
    | zero => intro _; rfl
    | succ d ih =>
      intro h
      show sgN w (b + d) a b _ + (if a ≤ b + d ∧ b + d < b then _ else 0) = _
      rw [ih (by omega), if_neg (by omega)]
      rfl
  have hh : sgN w t a b (w (a + (b - a - 1) / 2)) = sgN w b a b (w (a + (b - a - 1) / 2)) := by
    have h := high (t - b) (by omega)
    rw [show b + (t - b) = t by omega] at h
    exact h
  rw [hh]
  have key := jfix_to (g := fX0_spread_b16 u (nI a) (nI b) arr) (fun d => (nI (a + (b - a - 1) / 2), nI (sgN w (a + d) a b (w (a + (b - a - 1) / 2))), nI (a + d))) (b - a) (some (nI (sgN w b a b (w (a + (b - a - 1) / 2))))) (u := u) (by
    intro d hd rec
    unfold fX0_spread_b16
    dsimp only
    have hk := hw (a + d) (by omega)
    rw [if_neg (nI_ge (show a + d < b by omega) (by omega)), if_neg (nI_ge hq (by omega)), jgN (by omega) (by omega), jgN (by omega) (by omega), nI_clamp (by omega), nI_clamp (by omega), hk.1, (hw _ (show a + (b - a - 1) / 2 < t by omega)).1]
    have es : sgN w (a + (d + 1)) a b (w (a + (b - a - 1) / 2)) = sgN w (a + d) a b (w (a + (b - a - 1) / 2)) + dsN (w (a + d)) (w (a + (b - a - 1) / 2)) := by
      show sgN w (a + d) a b (w (a + (b - a - 1) / 2)) + (if a ≤ a + d ∧ a + d < b then dsN (w (a + d)) (w (a + (b - a - 1) / 2)) else 0) = _
      rw [if_pos (show a ≤ a + d ∧ a + d < b from ⟨by omega, by omega⟩)]
    rw [es]
    rcases ds_p hk.2 hm with ⟨h1, -, h2⟩ | ⟨h1, -, -, h2⟩
    · rw [if_pos h1, h2, blet_s, nI_add, blet_s, nI_1, blet_s]
      rfl
    · rw [if_neg h1, h2, blet_s, nI_add, blet_s, nI_1, blet_s]
      rfl) (by
    intro rec
    unfold fX0_spread_b16
    dsimp only
    rw [show a + (b - a) = b by omega, if_pos (nI_le (Nat.le_refl b) (by omega))]) (by omega)
  rw [show a + 0 = a from rfl, low a (Nat.le_refl a)] at key
  exact key
