def tL (T : Nat → Nat) : Nat := if T 10 = 5 then 0 else T 3
def tW (T : Nat → Nat) : Nat := if T 10 = 5 then 0 else if T 10 = 6 then T 4 + T 11 else T 4
def tP (T : Nat → Nat) : Nat := if T 10 = 5 then 0 else T 5
def tS (T : Nat → Nat) : Nat := if T 10 = 2 then (if 1 < T 7 / 2 then T 7 / 2 else 1) else if T 10 = 3 then (if 2 * T 7 < 99 then 2 * T 7 else 99) else T 7
def tA (T : Nat → Nat) : Nat := if T 10 = 4 then (if T 12 + 1 < 6 then T 12 + 1 else 6) else T 12
def tN (T : Nat → Nat) : Nat := if T 10 = 1 ∨ T 10 = 5 then (if 1 + T 11 < 10 + T 2 then 10 + T 2 - T 11 else 1) else 10 + T 2
def tQ (T : Nat → Nat) : Nat := T 6 + T 8 + tL T + tW T * tP T / (tL T + 1)
def tPc (T : Nat → Nat) : Nat := pcN (60 * T 1 / tQ T) (T 0) (tL T) (T 8) (tS T) (tN T)
def tBn (T : Nat → Nat) : Nat := bnN (60 * T 1 / tQ T) (T 0) (tL T) (T 8) (tS T) (tN T)
def tOf (T : Nat → Nat) : Nat := ofN (tBn T)
def tF (T : Nat → Nat) : Nat → Nat × Int32 × Int32 × Int32 × Int32 := fit (drN (T 9) (tOf T)) (tPc T * alN (tA T) / 100) (tPc T * upN (tA T) / 100)
noncomputable def tM (T : Nat → Nat) : Nat := Classical.epsilon (fun m => m ≤ 2100 ∧ (tF T m).2.2.2.1 ≤ 0 ∧ ∀ j, j < m → ¬ (tF T j).2.2.2.1 ≤ 0)
def TB (T : Nat → Nat) : Prop := (20 ≤ T 0 ∧ T 0 ≤ 90) ∧ (1 ≤ T 1 ∧ T 1 ≤ 99) ∧ T 2 ≤ 9 ∧ T 3 ≤ 99 ∧ T 4 ≤ 99 ∧ T 5 ≤ 99 ∧ (20 ≤ T 6 ∧ T 6 ≤ 300) ∧ (1 ≤ T 7 ∧ T 7 ≤ 99) ∧ T 8 ≤ 60 ∧ T 9 ≤ 9 ∧ T 10 ≤ 6 ∧ T 11 ≤ 19 ∧ T 12 ≤ 6
theorem tB_s {T : Nat → Nat} (h : TB T) : tL T ≤ 99 ∧ tW T ≤ 118 ∧ tP T ≤ 99 ∧ 1 ≤ tS T ∧ tS T ≤ 99 ∧ tA T ≤ 6 ∧ 1 ≤ tN T ∧ tN T ≤ 19 := by
  unfold TB at h
  unfold tL tW tP tS tA tN
  refine ⟨?_, ?_, ?_, ?_, ?_, ?_, ?_, ?_⟩ <;> (split <;> (try split) <;> (try split) <;> omega)
theorem tQ_s {T : Nat → Nat} (h : TB T) : 20 + tL T ≤ tQ T ∧ tQ T < 20000 := by
  have h2 := tB_s h
  have h3 : tW T * tP T ≤ 118 * 99 := Nat.mul_le_mul h2.2.1 h2.2.2.1
  have h4 := Nat.div_le_self (tW T * tP T) (tL T + 1)
  unfold TB at h
  unfold tQ
  generalize tW T * tP T / (tL T + 1) = z at h4 ⊢
  omega
theorem tp_s {T : Nat → Nat} (h : TB T) : 60 * T 1 / tQ T * (20 + tL T) ≤ 5940 := by
  have h1 := Nat.mul_le_mul_left (60 * T 1 / tQ T) (tQ_s h).1
  have h2 := Nat.div_mul_le_self (60 * T 1) (tQ T)
  unfold TB at h
  omega
theorem tPc_s {T : Nat → Nat} (h : TB T) : tPc T ≤ 6433 := pc_l (tp_s h) h.1.1 h.2.2.2.2.2.2.2.2.1 (tB_s h).2.2.2.2.2.2.2
theorem tOf_s {T : Nat → Nat} (h : TB T) : tOf T ≤ 39501 := of_l (le_of_m (bn_l (st := tS T) (tp_s h) h.1.1 h.2.2.2.2.2.2.2.2.1 _ (tB_s h).2.2.2.2.2.2.2) (tB_s h).2.2.2.1) (by decide)
theorem tM_s {T : Nat → Nat} (h : TB T) : tM T ≤ 2100 ∧ (tF T (tM T)).2.2.2.1 ≤ 0 ∧ ∀ j, j < tM T → ¬ (tF T j).2.2.2.1 ≤ 0 := by
  have b : tPc T * upN (tA T) ≤ 6433 * 100 := Nat.mul_le_mul (tPc_s h) (an_t (tB_s h).2.2.2.2.2.1).2.2.2.2.2
  exact Classical.epsilon_spec (p := fun m => m ≤ 2100 ∧ (tF T m).2.2.2.1 ≤ 0 ∧ ∀ j, j < m → ¬ (tF T j).2.2.2.1 ≤ 0) (fit_end (d := drN (T 9) (tOf T)) (v := tPc T * alN (tA T) / 100) (w := tPc T * upN (tA T) / 100) (by omega))
theorem shapeC {T : Nat → Nat} (h : TB T) (t : Nat → Int32) (ht : ∀ i, i < 13 → t i = nI (T i)) (a b c d e f : Int32) : fX2_shape a b c d e f t = some (nI (tL T), nI (tW T), nI (tP T), nI (tS T), nI (tA T), nI (tN T)) := by
  have hb := tB_s h
  unfold TB at h
  have hk : T 10 = 0 ∨ T 10 = 1 ∨ T 10 = 2 ∨ T 10 = 3 ∨ T 10 = 4 ∨ T 10 = 5 ∨ T 10 = 6 := by omega
  have e10 := ht 10 (by decide)
  have e11 := ht 11 (by decide)
  have e2 := ht 2 (by decide)
  have e3 := ht 3 (by decide)
  have e4 := ht 4 (by decide)
  have e5 := ht 5 (by decide)
  have e7 := ht 7 (by decide)
  have e12 := ht 12 (by decide)
  have en : (if (1 : Int32) < (10 + nI (T 2)) - nI (T 11) then (10 + nI (T 2)) - nI (T 11) else 1) = nI (if 1 + T 11 < 10 + T 2 then 10 + T 2 - T 11 else 1) := by
    rw [lit32 (nat_lit 10), nI_add, lit32 (nat_lit 1)]
    by_cases q : 1 + T 11 < 10 + T 2
    · rw [if_pos q, subN (by omega), if_pos (nI_lt (by omega) (by omega))]
    · rw [if_neg q, if_neg]
      intro z
      rw [Int32.lt_iff_toInt_lt, pk_sub_toInt (by omega) (by omega), nI_toInt (by decide)] at z
      omega
  have es : (if nI 1 < nI (T 7 / 2) then nI (T 7 / 2) else nI 1) = nI (if 1 < T 7 / 2 then T 7 / 2 else 1) := by
    simp only [ltN (show 1 < 2 ^ 31 by decide) (show T 7 / 2 < 2 ^ 31 by omega)]
    split <;> rfl
  have eh : (if nI (2 * T 7) < nI 99 then nI (2 * T 7) else nI 99) = nI (if 2 * T 7 < 99 then 2 * T 7 else 99) := by
    simp only [ltN (show 2 * T 7 < 2 ^ 31 by omega) (show 99 < 2 ^ 31 by decide)]
    split <;> rfl
  have ea : (if nI (T 12 + 1) < nI 6 then nI (T 12 + 1) else nI 6) = nI (if T 12 + 1 < 6 then T 12 + 1 else 6) := by
    simp only [ltN (show T 12 + 1 < 2 ^ 31 by omega) (show 6 < 2 ^ 31 by decide)]
    split <;> rfl
  unfold fX2_shape
  simp only [show (11 : Int32).toNatClampNeg = 11 from rfl, show (3 : Int32).toNatClampNeg = 3 from rfl, show (4 : Int32).toNatClampNeg = 4 from rfl, show (5 : Int32).toNatClampNeg = 5 from rfl, show (7 : Int32).toNatClampNeg = 7 from rfl, show (12 : Int32).toNatClampNeg = 12 from rfl, show (2 : Int32).toNatClampNeg = 2 from rfl, show (10 : Int32).toNatClampNeg = 10 from rfl, e10, e11, e2, e3, e4, e5, e7, e12]
  unfold tL tW tP tS tA tN
  rcases hk with q | q | q | q | q | q | q <;> rw [q] <;> simp only [blet_s, en] <;> simp (disch := omega) only [blet_s, lit32, jgN, nI_add, mulN, eqN, divI, es, eh, ea] <;> rfl
theorem leaveC_T {T : Nat → Nat} (h : TB T) {u : Nat} (hu : 4000000 ≤ u) (t : Nat → Int32) (ht : ∀ i, i < 13 → t i = nI (T i)) (g1 g2 g3 g4 g5 g6 g7 g8 g9 : Int32) : fX2_leave u g1 g2 g3 g4 g5 g6 g7 g8 g9 t = some (nI (tL T), nI (tW T), nI (tP T), nI (tS T), nI (tA T), nI (tN T), nI (tPc T), nI (tBn T), nI (tOf T)) := by
  have hb := tB_s h
  have hq := tQ_s h
  have h3 : tW T * tP T ≤ 118 * 99 := Nat.mul_le_mul hb.2.1 hb.2.2.1
  have h4 := Nat.div_le_self (tW T * tP T) (tL T + 1)
  have h6 := ht 6 (by decide)
  have h8 := ht 8 (by decide)
  have h1 := ht 1 (by decide)
  have hh := h
  unfold TB at hh
  unfold fX2_leave
  rw [shapeC h t ht, ob_s]
  dsimp only
  simp only [show (6 : Int32).toNatClampNeg = 6 from rfl, show (8 : Int32).toNatClampNeg = 8 from rfl, show (1 : Int32).toNatClampNeg = 1 from rfl, h6, h8, h1]
  rw [lit32 (nat_lit 6), lit32 (nat_lit 8), lit32 (nat_lit 1), jgN (by decide) (by decide), jgN (by decide) (by decide), mulN, nI_add, divd (by omega) (by omega) (by omega), ob_s, blet_s, jgN (by decide) (by decide), nI_add, nI_add, nI_add, lit32 (nat_lit 60), mulN]
  have eq : T 6 + T 8 + tL T + tW T * tP T / (tL T + 1) = tQ T := rfl
  rw [eq, divd (by omega) (by omega) (by omega), ob_s]
  exact leaveC u _ _ _ _ _ _ _ _ _ t _ _ _ _ _ (ht 0 (by decide)) h8 (tp_s h) h.1.1 h.1.2 hb.1 h.2.2.2.2.2.2.2.2.1 hb.2.2.2.1 hb.2.2.2.2.1 hb.2.2.2.2.2.2.2 hu
theorem flyC_T {T : Nat → Nat} (h : TB T) {u : Nat} (hu : 4000000 ≤ u) (t : Nat → Int32) (ht : ∀ i, i < 13 → t i = nI (T i)) (q g1 g2 g3 g4 g5 g6 g7 g8 g9 g10 g11 g12 g13 : Int32) : fX2_fly u q g1 g2 g3 g4 g5 g6 g7 g8 g9 g10 g11 g12 g13 t = some (nI (tL T), nI (tW T), nI (tP T), nI (tS T), nI (tA T), nI (tN T), nI (tPc T), nI (tBn T), nI (tOf T), (tF T (tM T)).2.2.1, (tF T (tM T)).2.2.2.2, nI (tM T), (thS q (tF T) (tM T)).2) :=
  flyC q _ _ _ _ _ _ _ _ _ _ _ _ _ _ _ _ _ _ t (ht 9 (by decide)) (leaveC_T h hu t ht _ _ _ _ _ _ _ _ _) (tPc_s h) (tB_s h).2.2.2.2.2.1 h.2.2.2.2.2.2.2.2.2.1 (tOf_s h) (tM_s h).1 hu rfl rfl rfl (tM_s h).2.1 (tM_s h).2.2
theorem pushR_T {T : Nat → Nat} (h : TB T) {u : Nat} (hu : 4000000 ≤ u) (pa be of0 : Int32) : fX9_push u (nI (T 10)) (nI (T 11)) (nI (T 0)) (nI (T 1)) (nI (T 2)) (nI (T 3)) (nI (T 4)) (nI (T 5)) (nI (T 6)) (nI (T 7)) (nI (T 8)) pa be of0 = some (nI (tPc T), nI (tBn T), nI (tOf T)) := by
  have hb := tB_s h
  have hq := tQ_s h
  have h3 : tW T * tP T ≤ 118 * 99 := Nat.mul_le_mul hb.2.1 hb.2.2.1
  have h4 := Nat.div_le_self (tW T * tP T) (tL T + 1)
  have hh := h
  unfold TB at hh
  have h168 : ∀ x4 : Nat, x4 ≤ 19 → tN T = (if 1 + x4 < 10 + T 2 then 10 + T 2 - x4 else 1) → fX9_push_b168 u (nI (T 10)) (nI (T 11)) (nI (T 0)) (nI (T 1)) (nI (T 2)) (nI (T 3)) (nI (T 4)) (nI (T 5)) (nI (T 6)) (nI (T 7)) (nI (T 8)) pa be of0 (nI (tL T), nI (tS T), nI (tQ T), nI (10 + T 2), nI x4, pa, be, of0) = some (nI (tPc T), nI (tBn T), nI (tOf T)) := by
    intro x4 hx hn
    unfold fX9_push_b168
    dsimp only
    rw [blet_s]
    refine pushR u _ _ (T 1) _ _ _ _ _ _ _ _ _ _ _ _ (tN T) ?_ hq.1 (by omega) h.2.1.2 h.1.1 h.1.2 hb.1 h.2.2.2.2.2.2.2.2.1 hb.2.2.2.1 hb.2.2.2.2.1 hb.2.2.2.2.2.2.2 hu
    rw [hn]
    by_cases q : x4 ≤ 10 + T 2
    · rw [subN q, lit32 (nat_lit 1)]
      simp only [leN (show 1 < 2 ^ 31 by decide) (show 10 + T 2 - x4 < 2 ^ 31 by omega)]
      split
      · split
        · rfl
        · congr 1; omega
      · rw [if_neg (by omega)]
    · rw [if_neg (show ¬ 1 + x4 < 10 + T 2 by omega), if_neg]
      · rfl
      · intro z
        rw [Int32.le_iff_toInt_le, pk_sub_toInt (by omega) (by omega), show (1 : Int32).toInt = 1 by decide] at z
        omega
  have h121 : fX9_push_b121 u (nI (T 10)) (nI (T 11)) (nI (T 0)) (nI (T 1)) (nI (T 2)) (nI (T 3)) (nI (T 4)) (nI (T 5)) (nI (T 6)) (nI (T 7)) (nI (T 8)) pa be of0 (nI (tL T), nI (tW T), nI (tP T), nI (tS T), pa, be, of0) = some (nI (tPc T), nI (tBn T), nI (tOf T)) := by
    unfold fX9_push_b121
    dsimp only
    rw [lit32 (nat_lit 1), nI_add, if_neg (nI_ne0 (by omega) (by omega)), mulN, divI (by omega) (by omega) (by omega), nI_add, nI_add, nI_add, blet_s, lit32 (nat_lit 10), nI_add, lit32 (nat_lit 5)]
    have eq : T 6 + T 8 + tL T + tW T * tP T / (tL T + 1) = tQ T := rfl
    rw [eq]
    by_cases c1 : T 10 = 1
    · rw [if_pos (show nI (T 10) = nI 1 by rw [c1])]
      unfold fX9_push_b163
      exact h168 (T 11) hh.2.2.2.2.2.2.2.2.2.2.2.1 (by unfold tN; rw [if_pos (Or.inl c1)])
    · rw [if_neg (fun q => c1 ((nI_eq (by omega) (by decide)).mp q))]
      by_cases c5 : T 10 = 5
      · rw [if_pos (show nI (T 10) = nI 5 by rw [c5])]
        unfold fX9_push_b163
        exact h168 (T 11) hh.2.2.2.2.2.2.2.2.2.2.2.1 (by unfold tN; rw [if_pos (Or.inr c5)])
      · rw [if_neg (fun q => c5 ((nI_eq (by omega) (by decide)).mp q))]
        refine h168 0 (by omega) ?_
        unfold tN
        rw [if_neg (fun q => q.elim c1 c5), if_pos (by omega), Nat.sub_zero]
  have h57 : fX9_push_b57 u (nI (T 10)) (nI (T 11)) (nI (T 0)) (nI (T 1)) (nI (T 2)) (nI (T 3)) (nI (T 4)) (nI (T 5)) (nI (T 6)) (nI (T 7)) (nI (T 8)) pa be of0 (nI (tL T), nI (tW T), nI (tP T), pa, be, of0) = some (nI (tPc T), nI (tBn T), nI (tOf T)) := by
    unfold fX9_push_b57
    dsimp only
    rw [← h121]
    rw [lit32 (nat_lit 2), lit32 (nat_lit 3), lit32 (nat_lit 1), lit32 (nat_lit 99), divI (by omega) (by decide) (by decide), mulN]
    simp only [eqN (show T 10 < 2 ^ 31 by omega) (show 2 < 2 ^ 31 by decide), eqN (show T 10 < 2 ^ 31 by omega) (show 3 < 2 ^ 31 by decide), leN (show 1 < 2 ^ 31 by decide) (show T 7 / 2 < 2 ^ 31 by omega), leN (show 2 * T 7 < 2 ^ 31 by omega) (show 99 < 2 ^ 31 by decide)]
    unfold tS
    by_cases c2 : T 10 = 2
    · rw [if_pos c2, if_pos c2]
      by_cases c : 1 < T 7 / 2
      · rw [if_pos c, if_pos (by omega)]
      · rw [if_neg c]
        by_cases c' : 1 ≤ T 7 / 2
        · rw [if_pos c', show T 7 / 2 = 1 by omega]
        · rw [if_neg c']
    · rw [if_neg c2, if_neg c2]
      by_cases c3 : T 10 = 3
      · rw [if_pos c3, if_pos c3]
        by_cases c : 2 * T 7 < 99
        · rw [if_pos c, if_pos (by omega)]
        · rw [if_neg c]
          by_cases c' : 2 * T 7 ≤ 99
          · rw [if_pos c', show 2 * T 7 = 99 by omega]
          · rw [if_neg c']
      · rw [if_neg c3, if_neg c3]
  unfold fX9_push fX9_push_b13 fX9_push_b42
  dsimp only
  rw [← h57, lit32 (nat_lit 5), lit32 (nat_lit 6), nI_add]
  simp only [eqN (show T 10 < 2 ^ 31 by omega) (show 5 < 2 ^ 31 by decide), eqN (show T 10 < 2 ^ 31 by omega) (show 6 < 2 ^ 31 by decide)]
  unfold tL tW tP
  by_cases c5 : T 10 = 5
  · simp only [if_pos c5]
    rfl
  · simp only [if_neg c5]
    by_cases c6 : T 10 = 6
    · simp only [if_pos c6]
    · simp only [if_neg c6]
theorem flingR_T {T : Nat → Nat} (h : TB T) {u : Nat} (hu : 4000000 ≤ u) (pa be of0 ri ro x y vx vy : Int32) : fX9_flingBy u (nI (T 10)) (nI (T 11)) (nI (T 12)) (nI (T 0)) (nI (T 1)) (nI (T 2)) (nI (T 3)) (nI (T 4)) (nI (T 5)) (nI (T 6)) (nI (T 7)) (nI (T 8)) (nI (T 9)) pa be of0 ri ro x y vx vy = some (nI (tPc T), nI (tBn T), nI (tOf T), (tF T (tM T)).2.2.2.2, nI (tM T), (tF T (tM T)).2.2.1, (tF T (tM T)).2.2.2.1, nI (tF T (tM T)).1, (tF T (tM T)).2.1) := by
  have hh := h
  unfold TB at hh
  have h25 : fX9_flingBy_b25 u (nI (T 10)) (nI (T 11)) (nI (T 12)) (nI (T 0)) (nI (T 1)) (nI (T 2)) (nI (T 3)) (nI (T 4)) (nI (T 5)) (nI (T 6)) (nI (T 7)) (nI (T 8)) (nI (T 9)) pa be of0 ri ro x y vx vy (nI (tA T), nI (tPc T), nI (tBn T), nI (tOf T), ri, ro, x, y, vx, vy) = some (nI (tPc T), nI (tBn T), nI (tOf T), (tF T (tM T)).2.2.2.2, nI (tM T), (tF T (tM T)).2.2.1, (tF T (tM T)).2.2.2.1, nI (tF T (tM T)).1, (tF T (tM T)).2.1) := by
    unfold fX9_flingBy_b25
    dsimp only
    rw [flyR (m := tM T) _ _ _ _ _ _ (tPc_s h) (tB_s h).2.2.2.2.2.1 h.2.2.2.2.2.2.2.2.2.1 (tOf_s h) (tM_s h).1 hu rfl rfl rfl (tM_s h).2.1 (tM_s h).2.2, ob_s]
    rfl
  unfold fX9_flingBy
  rw [pushR_T h hu, ob_s]
  dsimp only
  rw [← h25]
  unfold fX9_flingBy_b24
  dsimp only
  rw [lit32 (nat_lit 4), lit32 (nat_lit 6), nI_1]
  simp only [eqN (show T 10 < 2 ^ 31 by omega) (show 4 < 2 ^ 31 by decide), leN (show 6 < 2 ^ 31 by decide) (show T 12 < 2 ^ 31 by omega)]
  unfold tA
  by_cases c4 : T 10 = 4
  · rw [if_pos c4, if_pos c4]
    by_cases c : 6 ≤ T 12
    · rw [if_pos c, if_neg (by omega), show T 12 = 6 by omega]
    · rw [if_neg c]
      by_cases c' : T 12 + 1 < 6
      · rw [if_pos c']
      · rw [if_neg c', show T 12 + 1 = 6 by omega]
  · rw [if_neg c4, if_neg c4]
theorem tRg_p {T : Nat → Nat} (h : TB T) : 0 ≤ (tF T (tM T)).2.2.1.toInt := by
  have b : tPc T * alN (tA T) ≤ 6433 * 100 := Nat.mul_le_mul (tPc_s h) (an_t (tB_s h).2.2.2.2.2.1).2.2.2.2.1
  exact (fit_x (d := drN (T 9) (tOf T)) (v := tPc T * alN (tA T) / 100) (w := tPc T * upN (tA T) / 100) (by omega) _ (tM_s h).1).1
