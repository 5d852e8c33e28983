/-! a number of the class: six digits -/
def Nt (f : Nat → Int32) (sz : Int32) (v : Nat) : Prop := ∃ n, n ≤ 6 ∧ sz = nI n ∧ (∀ k, k < n → f k = nI (dg v k)) ∧ Sz v n
theorem thirty : ((30 : Int32).toInt64 &&& 63).toBitVec.smod 64 = 30 := by decide
theorem shr30 {n : Nat} (h : n < 2 ^ 63) : lN n >>> ((30 : Int32).toInt64 &&& 63) = lN (n / 1073741824) := shrL h _ 30 (by rw [thirty]; rfl)
theorem shr30' {n : Nat} (h : n < 2 ^ 63) : lN n >>> ((nI 30).toInt64 &&& lN 63) = lN (n / 1073741824) := shr30 h
theorem msk30 {n : Nat} (h : n < 2 ^ 63) : lN n &&& lN 1073741823 = lN (n % 1073741824) := andL (Nat.lt_trans h (by decide)) 30 (lTn (by decide))
theorem upC {u : Nat} (hu : 4000000 ≤ u) {c n m : Nat} (f : Nat → Int32) (hc : c < 2 ^ 63) (hz : Sz c m) (hnm : n + m ≤ 6) : ∃ r, fX3_pushUp u (lN c) (nI n) f = some r ∧ (r.1 = nI (n + m) ∧ (∀ j, j < m → r.2 (n + j) = nI (dg c j)) ∧ ∀ j, j < n → r.2 j = f j) := by
  unfold fX3_pushUp
  refine jfix_cn (fun k (p : Int64 × Int32 × (Nat → Int32)) => p.1 = lN (c / 1073741824 ^ k) ∧ p.2.1 = nI (n + k) ∧ (∀ j, j < k → p.2.2 (n + j) = nI (dg c j)) ∧ ∀ j, j < n → p.2.2 j = f j) m _ ?_ ?_ (by omega) ⟨by rw [Nat.pow_zero, Nat.div_one], rfl, fun _ h => absurd h (Nat.not_lt_zero _), fun _ _ => rfl⟩
  · rintro k hk rec ⟨a, b, g⟩ ⟨e1, e2, e3, e4⟩
    dsimp only at e1 e2 e3 e4
    subst e1 e2
    have hp : 0 < c / 1073741824 ^ k := by
      rcases hz.2 with e | e
      · omega
      · exact Nat.div_pos (Nat.le_trans (Nat.pow_le_pow_right (by decide) (by omega)) e) (bp k)
    have hb : c / 1073741824 ^ k < 2 ^ 63 := Nat.lt_of_le_of_lt (Nat.div_le_self _ _) hc
    unfold fX3_pushUp_b2
    simp (disch := omega) only [blet_s, ob_s, lit32, litL, jgN, nI_add, mulN, clampN, posL hb, leN, show ¬ c / 1073741824 ^ k = 0 by omega, show ¬ 6 ≤ n + k by omega, if_false, msk30 hb, shr30' hb, toI]
    refine ⟨_, rfl, by rw [← di_s], rfl, ?_, ?_⟩
    · intro j hj
      dsimp only
      by_cases q : j = k
      · subst q
        rw [updE rfl]
        rfl
      · rw [updN (by omega)]
        exact e3 j (by omega)
    · intro j hj
      dsimp only
      rw [updN (by omega)]
      exact e4 j hj
  · rintro rec ⟨a, b, g⟩ ⟨e1, e2, e3, e4⟩
    dsimp only at e1 e2 e3 e4
    subst e1 e2
    unfold fX3_pushUp_b2
    rw [Nat.div_eq_of_lt hz.1]
    simp (disch := omega) only [blet_s, ob_s, lit32, litL, jgN, nI_add, mulN, clampN, posL (show 0 < 2 ^ 63 by decide), if_true]
    exact ⟨_, rfl, rfl, e3, e4⟩
theorem setC {u : Nat} (hu : 4000000 ≤ u) {v : Nat} (sz : Int32) (f : Nat → Int32) (hv : v < 2 ^ 63) : ∃ r, fX3_set u (lN v) sz f = some r ∧ Nt r.2 r.1 v := by
  obtain ⟨m, hm⟩ := sz_ex v
  have hm3 : m ≤ 3 := sz_le hm (Nat.lt_trans hv (by decide))
  obtain ⟨r, r1, r2, r3, r4⟩ := upC hu (n := 0) f hv hm (by omega)
  unfold fX3_set
  rw [show fX3_pushUp u (lN v) 0 f = some r from r1, ob_s]
  rw [Nat.zero_add] at r2
  refine ⟨_, rfl, m, by omega, r2, fun k hk => ?_, hm⟩
  have := r3 k hk
  rw [Nat.zero_add] at this
  exact this
theorem RelF_of {L : Nat → Int64} {S f g : Nat → Int32} {a b sg csg : Int32} {v w : Nat} (h0 : Sl L S 0 v) (h1 : Sl L S 1 w) (c0 : Nt f a v) (c1 : Nt g b w) (hs : csg = sg) : RelF sg L S csg a b f g := by
  obtain ⟨n, n6, nS, nD, nz⟩ := h0
  obtain ⟨m, m6, mS, mD, mz⟩ := h1
  obtain ⟨n', _, aS, aD, az⟩ := c0
  obtain ⟨m', _, bS, bD, bz⟩ := c1
  have e1 := sz_u nz az
  have e2 := sz_u mz bz
  subst e1 e2
  have l := fun v k => Nat.lt_trans (dg_lt v k) (by decide : 1073741824 < 2 ^ 31)
  refine ⟨hs, by rw [aS, nS], by rw [bS, mS], ?_, ?_, ?_, ?_⟩
  · rw [nS]
    exact rg_of (by omega) (by omega) (by omega)
  · rw [mS]
    exact rg_of (by omega) (by omega) (by omega)
  · intro k hk
    rw [nS, nI_clamp (by omega)] at hk
    have := nD k hk
    rw [Nat.mul_zero, Nat.zero_add] at this
    rw [aD k hk, this, toL (l v k), nI_toInt (l v k)]
    exact ⟨rfl, by omega⟩
  · intro k hk
    rw [mS, nI_clamp (by omega)] at hk
    have : L (64 + k) = lN (dg w k) := mD k hk
    rw [bD k hk, this, toL (l w k), nI_toInt (l w k)]
    exact ⟨rfl, by omega⟩
theorem Rel_fr {N K Z rf : Nat → Int32} {sg sg2 csg a b : Int32} {Lm L2 : Nat → Int64} {S S2 cal cbl f g : Nat → Int32} (hR : RelC N K Z rf sg Lm S cal cbl) (h : RelF sg2 L2 S2 csg a b f g) : RelAll N K Z rf sg2 L2 S2 (N 392) (N 393) (N 394) 4 1 (N 395) 1 (N 396) (N 397) 1 3 8 (N 191) (cw 0 N) (cw 12 N) (cw 24 N) (cw 40 N) (cw 48 N) (cw 50 N) (cw 98 N) (cw 99 N) (cw 147 N) (cw 153 N) (cw 154 N) (cw 175 N) (cw 192 N) rf csg a b f g := ⟨hR.1, hR.2.1, hR.2.2.1, hR.2.2.2.1, h⟩
/-! Euclid -/
theorem euC : ∀ (m a b c n : Nat) (u : Nat) (q1 q2 : Int64), a * b < 2 ^ m → b ≤ a → a < 2 ^ 62 → c + m + 1 ≤ 1000 → m + 1 < n → jfix (fX1_commonDivisor_b9 u q1 q2) n (lN a, lN b, nI c) = some (lN (Nat.gcd a b)) := by
  intro m
  induction m with
  | zero =>
    intro a b c n u q1 q2 h hba ha hc hn
    obtain ⟨n, rfl⟩ : ∃ k, n = k + 1 := ⟨n - 1, by omega⟩
    have hb : b = 0 := by
      rcases Nat.eq_zero_or_pos b with e | e
      · exact e
      · have : 0 < a * b := Nat.mul_pos (by omega) e
        omega
    subst hb
    show fX1_commonDivisor_b9 u q1 q2 (jfix (fX1_commonDivisor_b9 u q1 q2) n) (lN a, lN 0, nI c) = _
    generalize jfix (fX1_commonDivisor_b9 u q1 q2) n = rec
    unfold fX1_commonDivisor_b9
    simp (disch := omega) only [blet_s, ob_s, lit32, litL, jgN, nI_add, mulN, clampN, leN, show ¬ 1000 ≤ c by omega, if_false, cz64 (show 0 < 2 ^ 63 by decide) (show 0 < 2 ^ 63 by decide), if_true]
    rw [Nat.gcd_zero_right]
  | succ m ih =>
    intro a b c n u q1 q2 h hba ha hc hn
    obtain ⟨n, rfl⟩ : ∃ k, n = k + 1 := ⟨n - 1, by omega⟩
    show fX1_commonDivisor_b9 u q1 q2 (jfix (fX1_commonDivisor_b9 u q1 q2) n) (lN a, lN b, nI c) = _
    by_cases hb : b = 0
    · subst hb
      generalize jfix (fX1_commonDivisor_b9 u q1 q2) n = rec
      unfold fX1_commonDivisor_b9
      simp (disch := omega) only [blet_s, ob_s, lit32, litL, jgN, nI_add, mulN, clampN, leN, show ¬ 1000 ≤ c by omega, if_false, cz64 (show 0 < 2 ^ 63 by decide) (show 0 < 2 ^ 63 by decide), if_true]
      rw [Nat.gcd_zero_right]
    · have hb0 : 0 < b := Nat.pos_of_ne_zero hb
      have hml := Nat.mod_lt a hb0
      have hdm := Nat.div_add_mod a b
      have hd1 : 1 ≤ a / b := Nat.div_pos hba hb0
      have hbd : b * 1 ≤ b * (a / b) := Nat.mul_le_mul_left b hd1
      have hpr : b * (a % b) * 2 ≤ a * b := by
        have h1 : a % b * 2 ≤ a := by omega
        calc b * (a % b) * 2 = (a % b * 2) * b := by rw [Nat.mul_assoc, Nat.mul_comm]
          _ ≤ a * b := Nat.mul_le_mul_right b h1
      rw [Nat.pow_succ] at h
      have ih2 := ih b (a % b) (c + 1) n u q1 q2 (by omega) (by omega) (by omega) (by omega) (by omega)
      generalize jfix (fX1_commonDivisor_b9 u q1 q2) n = rec at ih2 ⊢
      unfold fX1_commonDivisor_b9
      have e0 : (lN b = lN 0) = False := (eqL (by omega) (by decide)).trans (eq_false hb)
      simp (disch := omega) only [blet_s, ob_s, lit32, litL, jgN, nI_add, mulN, clampN, leN, show ¬ 1000 ≤ c by omega, if_false, cz64 (show b < 2 ^ 63 by omega) (show 0 < 2 ^ 63 by decide), hb, e0, divL, remA]
      rw [ih2, Nat.gcd_comm b, ← Nat.gcd_rec, Nat.gcd_comm]
theorem comC {u : Nat} (hu : 4000000 ≤ u) {a b : Nat} (ha : a < 2 ^ 31) (hb : b < 2 ^ 31) (hb0 : 0 < b) : fX1_commonDivisor u (lN a) (lN b) = some (lN (Nat.gcd a b)) := by
  unfold fX1_commonDivisor
  obtain ⟨n, rfl⟩ : ∃ k, u = k + 1 := ⟨u - 1, by omega⟩
  show fX1_commonDivisor_b9 (n + 1) (lN a) (lN b) (jfix (fX1_commonDivisor_b9 (n + 1) (lN a) (lN b)) n) (lN a, lN b, nI 0) = _
  have hml := Nat.mod_lt a hb0
  have ih2 := euC 62 b (a % b) 1 n (n + 1) (lN a) (lN b) (by
    calc b * (a % b) ≤ b * 2 ^ 31 := Nat.mul_le_mul_left b (by omega)
      _ < 2 ^ 31 * 2 ^ 31 := Nat.mul_lt_mul_of_pos_right hb (by decide)
      _ = 2 ^ 62 := by rw [← Nat.pow_add]) (by omega) (by omega) (by omega) (by omega)
  generalize jfix (fX1_commonDivisor_b9 (n + 1) (lN a) (lN b)) n = rec at ih2 ⊢
  unfold fX1_commonDivisor_b9
  have e0 : (lN b = lN 0) = False := (eqL (by omega) (by decide)).trans (eq_false (by omega))
  simp (disch := omega) only [blet_s, ob_s, lit32, litL, jgN, nI_add, mulN, clampN, leN, show ¬ 1000 ≤ 0 by omega, if_false, cz64 (show b < 2 ^ 63 by omega) (show 0 < 2 ^ 63 by decide), show ¬ b = 0 by omega, e0, divL, remA]
  rw [show 0 + 1 = 1 from rfl, ih2, Nat.gcd_comm b, ← Nat.gcd_rec, Nat.gcd_comm]
/-- a number with its sign -/
def sL (b : Bool) (n : Nat) : Int64 := if b then - lN n else lN n
def sG (b : Bool) (n : Nat) : Int32 := if n = 0 then 0 else if b then -1 else 1
theorem sL_t {b : Bool} {n : Nat} (hn : n < 2 ^ 31) : (sL b n).toInt = if b then -(n : Int) else n := by
  unfold sL
  cases b
  · exact pk_lT (by omega)
  · show (- lN n).toInt = -(n : Int)
    rw [Int64.toInt_neg, pk_lT (by omega), bm64 (by omega) (by omega)]
theorem sL_abs {b : Bool} {n : Nat} (hn : n < 2 ^ 31) (hb : b = true → 0 < n) : (if 0 < sL b n then sL b n else - sL b n) = lN n := by
  cases b
  · by_cases c : n = 0
    · subst c; rfl
    · rw [if_pos]
      · rfl
      · rw [Int64.lt_iff_toInt_lt, sL_t hn, show (0 : Int64).toInt = 0 from rfl]
        simp only [Bool.false_eq_true, if_false]
        omega
  · have := hb rfl
    rw [if_neg]
    · show - - lN n = lN n
      exact Int64.neg_neg
    · rw [Int64.lt_iff_toInt_lt, sL_t hn, show (0 : Int64).toInt = 0 from rfl]
      simp only [if_true]
      omega
theorem sL_ge {b : Bool} {n : Nat} (hn : n < 2 ^ 31) (hb : b = true → 0 < n) : (0 ≤ lg_cmp (sL b n) 0) = (b = false) := by
  refine (propext (lg_cmp_ge _ _)).trans (propext ?_)
  rw [Int64.le_iff_toInt_le, sL_t hn, show (0 : Int64).toInt = 0 from rfl]
  cases b
  · simp only [Bool.false_eq_true, if_false]
    exact ⟨fun _ => True.intro, fun _ => by omega⟩
  · have := hb rfl
    simp only [if_true, Bool.true_eq_false, iff_false]
    omega
theorem sgC {b : Bool} {n : Nat} (hn : n < 2 ^ 31) (hb : b = true → 0 < n) : fJ13_compare_74951 (sL b n) 0 = some (sG b n) := by
  have h0 : (lg_cmp (sL b n) 0 = 0) = (n = 0) := by
    refine (propext (lg_cmp_eq _ _)).trans (propext ?_)
    rw [← Int64.toInt_inj, sL_t hn, show (0 : Int64).toInt = 0 from rfl]
    cases b
    · simp only [Bool.false_eq_true, if_false]
      omega
    · simp only [if_true]
      omega
  unfold fJ13_compare_74951 sG
  simp only [sL_ge hn hb, h0]
  cases b
  · rw [if_pos rfl]
    by_cases c : n = 0
    · rw [if_pos c, if_pos c]
    · rw [if_neg c, if_neg c]
      rfl
  · have := hb rfl
    rw [if_neg (by decide), if_neg (by omega)]
    rfl
theorem setF {u : Nat} (hu : 4000000 ≤ u) {n w : Nat} {b : Bool} (hn : n < 1073741824) (hw : w < 1073741824) (hw0 : 0 < w) (hb : b = true → 0 < n) (s0 as bs : Int32) (al bl : Nat → Int32) : ∃ r, fX1_set u (sL b n) (lN w) s0 as bs al bl = some r ∧ r.1 = sG b n ∧ Nt r.2.2.2.1 r.2.1 (n / Nat.gcd n w) ∧ Nt r.2.2.2.2 r.2.2.1 (w / Nat.gcd n w) := by
  have hg0 : 0 < Nat.gcd n w := Nat.gcd_pos_of_pos_right n hw0
  have hgw := Nat.gcd_le_right n hw0
  have e1 : (lg_cmp (lN (Nat.gcd n w)) 0 = 0) = False := (cz64 (a := Nat.gcd n w) (b := 0) (by omega) (by decide)).trans (eq_false (by omega))
  have e2 : (lN (Nat.gcd n w) = 0) = False := (eqL (a := Nat.gcd n w) (b := 0) (by omega) (by decide)).trans (eq_false (by omega))
  obtain ⟨p, p1, p2⟩ := setC hu as al (show n / Nat.gcd n w < 2 ^ 63 from Nat.lt_of_le_of_lt (Nat.div_le_self _ _) (by omega))
  obtain ⟨q, q1, q2⟩ := setC hu bs bl (show w / Nat.gcd n w < 2 ^ 63 from Nat.lt_of_le_of_lt (Nat.div_le_self _ _) (by omega))
  unfold fX1_set fX1_set_b41 fX1_set_b63
  dsimp only
  rw [sL_abs (by omega) hb, blet_s, comC hu (by omega) (by omega) hw0, ob_s, sgC (by omega) hb, ob_s]
  simp only [e1, e2, if_false]
  rw [blet_s, divL (by omega) hg0 (by omega), divL (by omega) hg0 (by omega), p1, ob_s, q1, ob_s]
  exact ⟨_, rfl, rfl, p2, q2⟩
theorem tellsR {u : Nat} (hu : 4000000 ≤ u) {n w : Nat} {b : Bool} (hn : n < 1073741824) (hw : w < 1073741824) (hw0 : 0 < w) (hb : b = true → 0 < n) (sg : Int32) (L : Nat → Int64) (S : Nat → Int32) : ∃ r, fX9_tells u (sL b n) (lN w) sg L S = some r ∧ r.1 = 1 ∧ r.2.1 = sG b n ∧ Sl r.2.2.1 r.2.2.2 0 (n / Nat.gcd n w) ∧ Sl r.2.2.1 r.2.2.2 1 (w / Nat.gcd n w) := by
  obtain ⟨p, p1, p2, p3⟩ := setR hu L S (show 2 < 10 by decide) (show n < 2 ^ 63 by omega)
  obtain ⟨q, q1, q2, q3⟩ := setR hu p.1 p.2 (show 3 < 10 by decide) (show w < 2 ^ 63 by omega)
  have b5 : 1073741824 < 1073741824 ^ 5 := by decide
  have key : ∀ p3 : Int32, (if n = 0 then (0 : Int32) else if p3 = 0 then 1 else -1) = sG b n → ∃ r, fX9_tells_b37 u (sL b n) (lN w) sg L S (2, 3, p3, sg, q.1, q.2) = some r ∧ r.1 = 1 ∧ r.2.1 = sG b n ∧ Sl r.2.2.1 r.2.2.2 0 (n / Nat.gcd n w) ∧ Sl r.2.2.1 r.2.2.2 1 (w / Nat.gcd n w) := by
    intro z hz
    obtain ⟨t, t1, t2, t3, t4⟩ := tellR hu z sg (show 2 < 7 by decide) (show 3 < 7 by decide) (by decide) (by decide) (Sl_fr q3 (by decide) p2) q2 hw0 (by omega) (by omega)
    unfold fX9_tells_b37
    dsimp only
    rw [show fX9_tell u 2 3 z sg q.1 q.2 = some t from t1, ob_s]
    exact ⟨_, rfl, rfl, t2.trans hz, t3, t4⟩
  have key2 : ∀ x : Int64, x = lN n → ∃ r, fX9_tells_b14 u (sL b n) (lN w) sg L S (2, x, sg, L, S) = some r ∧ r.1 = 1 ∧ r.2.1 = sG b n ∧ Sl r.2.2.1 r.2.2.2 0 (n / Nat.gcd n w) ∧ Sl r.2.2.1 r.2.2.2 1 (w / Nat.gcd n w) := by
    intro x hx
    subst hx
    unfold fX9_tells_b14
    dsimp only
    rw [show fX9_set u 2 (lN n) L S = some p from p1, ob_s, show fX9_set u 3 (lN w) p.1 p.2 = some q from q1, ob_s]
    simp only [sL_ge (show n < 2 ^ 31 by omega) hb]
    cases b
    · rw [if_pos rfl]
      exact key 0 (by unfold sG; rfl)
    · rw [if_neg (by decide)]
      exact key 1 (by unfold sG; rfl)
  unfold fX9_tells
  simp only [sL_ge (show n < 2 ^ 31 by omega) hb]
  cases b
  · rw [if_pos rfl]
    exact key2 _ rfl
  · rw [if_neg (by decide)]
    exact key2 _ (show - - lN n = lN n from Int64.neg_neg)
theorem frac {u : Nat} (hu : 4000000 ≤ u) {n w : Nat} {b : Bool} (hn : n < 1073741824) (hw : w < 1073741824) (hw0 : 0 < w) (hb : b = true → 0 < n) (s0 as bs sg : Int32) (al bl : Nat → Int32) (L : Nat → Int64) (S : Nat → Int32) : ∃ r s, fX1_set u (sL b n) (lN w) s0 as bs al bl = some r ∧ fX9_tells u (sL b n) (lN w) sg L S = some s ∧ s.1 = 1 ∧ RelF s.2.1 s.2.2.1 s.2.2.2 r.1 r.2.1 r.2.2.1 r.2.2.2.1 r.2.2.2.2 := by
  obtain ⟨r, r1, r2, r3, r4⟩ := setF hu hn hw hw0 hb s0 as bs al bl
  obtain ⟨s, s1, s2, s3, s4, s5⟩ := tellsR hu hn hw hw0 hb sg L S
  exact ⟨r, s, r1, s1, s2, RelF_of s4 s5 r3 r4 (r2.trans s3.symm)⟩
