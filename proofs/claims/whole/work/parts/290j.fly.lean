def alN (a : Nat) : Nat := [100, 98, 94, 87, 77, 64, 50].getD a 0
def upN (a : Nat) : Nat := [0, 17, 34, 50, 64, 77, 87].getD a 0
theorem an_t {a : Nat} (h : a ≤ 6) : (jtab 2).getD a 0 = nI (alN a) ∧ (jtab 3).getD a 0 = nI (upN a) ∧ fX9_forward (nI a) = some (nI (alN a)) ∧ fX9_upward (nI a) = some (nI (upN a)) ∧ alN a ≤ 100 ∧ upN a ≤ 100 := by
  have e : a = 0 ∨ a = 1 ∨ a = 2 ∨ a = 3 ∨ a = 4 ∨ a = 5 ∨ a = 6 := by omega
  rcases e with rfl | rfl | rfl | rfl | rfl | rfl | rfl <;> refine ⟨rfl, rfl, rfl, rfl, by decide, by decide⟩
def mx (a b : Int32) : Int32 := if a < b then b else a
def fnx (d : Nat) (s : Nat × Int32 × Int32 × Int32 × Int32) : Nat × Int32 × Int32 × Int32 × Int32 := (s.1 - s.1 * d / 1000, s.2.1 + -10, s.2.2.1 + nI (s.1 - s.1 * d / 1000), s.2.2.2.1 + (s.2.1 + -10), mx s.2.2.2.2 (s.2.2.2.1 + (s.2.1 + -10)))
def fit (d v w : Nat) : Nat → Nat × Int32 × Int32 × Int32 × Int32
  | 0 => (v, nI w, 0, 150, 150)
  | k + 1 => fnx d (fit d v w k)
theorem fit_v (d v w : Nat) : ∀ k : Nat, (fit d v w k).1 ≤ v := by
  intro k
  induction k with
  | zero => exact Nat.le_refl _
  | succ k ih => exact Nat.le_trans (Nat.sub_le _ _) ih
theorem fit_w {d v w : Nat} (hw : w ≤ 6433) : ∀ k : Nat, k ≤ 2100 → (fit d v w k).2.1.toInt = (w : Int) - 10 * k := by
  intro k
  induction k with
  | zero =>
    intro _
    show (nI w).toInt = _
    rw [nI_toInt (by omega)]
    omega
  | succ k ih =>
    intro h
    show ((fit d v w k).2.1 + -10).toInt = _
    rw [Int32.toInt_add, ih (by omega), show (-10 : Int32).toInt = -10 by decide, bm32 (by omega) (by omega)]
    omega
theorem fit_y {d v w : Nat} (hw : w ≤ 6433) : ∀ k : Nat, k ≤ 2100 → (∀ j, j < k → 0 < (fit d v w j).2.2.2.1.toInt) → (k ≤ 644 → (fit d v w k).2.2.2.1.toInt ≤ 150 + 6433 * k) ∧ (644 < k → k ≤ 1644 → (fit d v w k).2.2.2.1.toInt ≤ 4143002) ∧ (1644 < k → (fit d v w k).2.2.2.1.toInt ≤ 4143002 - 10000 * (k - 1644)) ∧ -6000010 ≤ (fit d v w k).2.2.2.1.toInt := by
  intro k
  induction k with
  | zero =>
    intro _ _
    have e : (fit d v w 0).2.2.2.1.toInt = 150 := rfl
    rw [e]
    omega
  | succ k ih =>
    intro h hp
    have h1 := ih (by omega) (fun j hj => hp j (by omega))
    have h2 := hp k (by omega)
    have h3 := fit_w (d := d) (v := v) hw (k + 1) h
    have e : (fit d v w (k + 1)).2.2.2.1 = (fit d v w k).2.2.2.1 + (fit d v w (k + 1)).2.1 := rfl
    rw [e, Int32.toInt_add, h3, bm32 (by omega) (by omega)]
    omega
theorem fit_x {d v w : Nat} (hv : v ≤ 6433) : ∀ k : Nat, k ≤ 2100 → 0 ≤ (fit d v w k).2.2.1.toInt ∧ (fit d v w k).2.2.1.toInt ≤ 6433 * k := by
  intro k
  induction k with
  | zero =>
    intro _
    have e : (fit d v w 0).2.2.1.toInt = 0 := rfl
    rw [e]
    omega
  | succ k ih =>
    intro h
    have h1 := ih (by omega)
    have h2 := fit_v d v w (k + 1)
    have e : (fit d v w (k + 1)).2.2.1 = (fit d v w k).2.2.1 + nI (fit d v w (k + 1)).1 := rfl
    rw [e, Int32.toInt_add, nI_toInt (by omega), bm32 (by omega) (by omega)]
    omega
theorem fit_end {d v w : Nat} (hw : w ≤ 6433) : ∃ m : Nat, m ≤ 2100 ∧ (fit d v w m).2.2.2.1 ≤ 0 ∧ ∀ j, j < m → ¬ (fit d v w j).2.2.2.1 ≤ 0 := by
  have z : (0 : Int32).toInt = 0 := by decide
  by_cases c : ∃ k : Nat, k ≤ 2100 ∧ (fit d v w k).2.2.2.1 ≤ 0
  · obtain ⟨m, ⟨h1, h2⟩, h3⟩ := pk_least _ c
    exact ⟨m, h1, h2, fun j hj q => h3 j hj ⟨by omega, q⟩⟩
  · have h := fit_y (d := d) (v := v) hw 2100 (Nat.le_refl _) (fun j hj => by
      have q : ¬ (fit d v w j).2.2.2.1 ≤ 0 := fun q => c ⟨j, by omega, q⟩
      rw [Int32.le_iff_toInt_le, z] at q
      omega)
    have q : ¬ (fit d v w 2100).2.2.2.1 ≤ 0 := fun q => c ⟨_, Nat.le_refl _, q⟩
    rw [Int32.le_iff_toInt_le, z] at q
    omega
theorem vxC {v d : Nat} (h : v * d < 2 ^ 30) (hv : v < 2 ^ 30) : (if (0 : Int32) < nI v - nI (v * d / 1000) then nI v - nI (v * d / 1000) else 0) = nI (v - v * d / 1000) := by
  by_cases c : v * d / 1000 < v
  · rw [subN (by omega), lit32 (nat_lit 0), if_pos (nI_lt (by omega) (by omega))]
  · have e : v - v * d / 1000 = 0 := by omega
    rw [e]
    by_cases c2 : v * d / 1000 = v
    · rw [subN (by omega), c2, Nat.sub_self]
      rfl
    · rw [if_neg]
      · rfl
      · intro q
        rw [Int32.lt_iff_toInt_lt, pk_sub_toInt hv (by omega), show (0 : Int32).toInt = 0 by decide] at q
        omega
def drN (tl o : Nat) : Nat := if tl = 0 then 4 + 3 * o else 4 + 2 * tl + o
theorem drN_l {tl o : Nat} (h : tl ≤ 9) (ho : o ≤ 39501) : drN tl o ≤ 118507 := by
  unfold drN
  split <;> omega
theorem goOnR {tl o v : Nat} (ri ro x y w : Int32) (ht : tl ≤ 9) (ho : o ≤ 39501) (hv : v ≤ 6433) : fX9_goOn (nI tl) (nI o) ri ro x y (nI v) w = some (mx ri (y + (w + -10)), ro + 1, x + nI (v - v * drN tl o / 1000), y + (w + -10), nI (v - v * drN tl o / 1000), w + -10) := by
  have hd := drN_l ht ho
  have hm : v * drN tl o ≤ 6433 * 118507 := Nat.mul_le_mul hv hd
  have key : ∀ q : Int64, (4 : Int64) + q = lN (drN tl o) → fX9_goOn_b37 (nI tl) (nI o) ri ro x y (nI v) w (4, q, ri, ro, x, y, nI v, w) = some (mx ri (y + (w + -10)), ro + 1, x + nI (v - v * drN tl o / 1000), y + (w + -10), nI (v - v * drN tl o / 1000), w + -10) := by
    intro q hq
    unfold fX9_goOn_b37
    dsimp only
    rw [hq, blet_s, toL (by omega), mulL, litL (nat_lit 1000), divL (by omega) (by decide) (by decide), blet_s]
    simp only [cmpN (show v * drN tl o / 1000 < 2 ^ 63 by omega) (show v < 2 ^ 63 by omega)]
    have e : ∀ z : Int32, z = nI (v - v * drN tl o / 1000) → fX9_goOn_b74 (nI tl) (nI o) ri ro x y (nI v) w (z, ri, ro, x, y, nI v, w) = some (mx ri (y + (w + -10)), ro + 1, x + nI (v - v * drN tl o / 1000), y + (w + -10), nI (v - v * drN tl o / 1000), w + -10) := by
      intro z hz
      subst hz
      unfold fX9_goOn_b74
      dsimp only
      have e10 : w - 10 = w + -10 := Int32.sub_eq_add_neg w 10
      rw [e10, blet_s, blet_s, blet_s]
      unfold mx
      by_cases c : y + (w + -10) ≤ ri
      · rw [if_pos c, if_neg (Int32.not_lt.mpr c)]
        rfl
      · rw [if_neg c, if_pos (Int32.not_le.mp c)]
        rfl
    by_cases c : v * drN tl o / 1000 ≤ v
    · rw [if_pos c]
      exact e _ (by rw [subL c, toI])
    · rw [if_neg c]
      exact e _ (by rw [show v - v * drN tl o / 1000 = 0 by omega]; rfl)
  unfold fX9_goOn
  by_cases c : tl = 0
  · subst c
    rw [if_pos (show nI 0 = 0 from rfl)]
    refine key _ ?_
    rw [toL (by omega), litL (nat_lit 3), mulL, litL (nat_lit 4), addL]
    rfl
  · rw [if_neg (nI_ne0 (by omega) (by omega))]
    refine key _ ?_
    rw [toL (by omega), toL (by omega), litL (nat_lit 2), mulL, addL, litL (nat_lit 4), addL]
    unfold drN
    rw [if_neg c, Nat.add_assoc]
theorem leaveR {pc an : Nat} (a b c d e f : Int32) (hp : pc ≤ 6433) (ha : an ≤ 6) : fX9_leave (nI an) (nI pc) a b c d e f = some (150, 0, 0, 150, nI (pc * alN an / 100), nI (pc * upN an / 100)) := by
  obtain ⟨-, -, e1, e2, h1, h2⟩ := an_t ha
  have b1 : pc * alN an ≤ 6433 * 100 := Nat.mul_le_mul hp h1
  have b2 : pc * upN an ≤ 6433 * 100 := Nat.mul_le_mul hp h2
  unfold fX9_leave
  rw [e1, ob_s, blet_s, e2, ob_s, blet_s, toL (by omega), toL (by omega), toL (by omega), mulL, mulL, litL (nat_lit 100), divL (by omega) (by decide) (by decide), divL (by omega) (by decide) (by decide), toI, toI]
theorem flyR {u pc an tl o m D V W : Nat} (a b c d e f : Int32) (hp : pc ≤ 6433) (ha : an ≤ 6) (ht : tl ≤ 9) (ho : o ≤ 39501) (hm : m ≤ 2100) (hu : 4000000 ≤ u) (hD : D = drN tl o) (hV : V = pc * alN an / 100) (hW : W = pc * upN an / 100) (h1 : (fit D V W m).2.2.2.1 ≤ 0) (h2 : ∀ j, j < m → ¬ (fit D V W j).2.2.2.1 ≤ 0) : fX9_fly u (nI an) (nI tl) (nI pc) (nI o) a b c d e f = some ((fit D V W m).2.2.2.2, nI m, (fit D V W m).2.2.1, (fit D V W m).2.2.2.1, nI (fit D V W m).1, (fit D V W m).2.1) := by
  have hv : V ≤ 6433 := by
    have b1 : pc * alN an ≤ 6433 * 100 := Nat.mul_le_mul hp (an_t ha).2.2.2.2.1
    omega
  unfold fX9_fly
  rw [leaveR a b c d e f hp ha, ob_s, ← hV, ← hW]
  dsimp only
  refine jfix_it (fun k => ((fit D V W k).2.2.2.2, nI k, (fit D V W k).2.2.1, (fit D V W k).2.2.2.1, nI (fit D V W k).1, (fit D V W k).2.1)) m _ ?_ ?_ (by omega)
  · intro k hk rec
    unfold fX9_fly_b5
    dsimp only
    rw [if_neg (h2 k hk), goOnR _ _ _ _ _ ht ho (Nat.le_trans (fit_v D V W k) hv), ob_s, ← hD, nI_1]
    rfl
  · intro rec
    unfold fX9_fly_b5
    dsimp only
    rw [if_pos h1]
/-- what the class keeps of the distance -/
def thS (q : Int32) (F : Nat → Nat × Int32 × Int32 × Int32 × Int32) : Nat → Int32 × Int32
  | 0 => (0, 0)
  | k + 1 => if (F (k + 1)).2.2.1 < q then thS q F k else if (thS q F k).1 = 0 then (1, (F (k + 1)).2.2.2.1) else thS q F k
theorem flyC {u pc an tl b o m D V W : Nat} (q g1 g2 g3 g4 g5 g6 g7 g8 g9 g10 g11 g12 g13 L1 W1 P1 S1 U1 : Int32) (t : Nat → Int32) (h9 : t 9 = nI tl) (hl : fX2_leave u g1 g2 g3 g4 g5 g6 g7 g8 g9 t = some (L1, W1, P1, S1, nI an, U1, nI pc, nI b, nI o)) (hp : pc ≤ 6433) (ha : an ≤ 6) (ht : tl ≤ 9) (ho : o ≤ 39501) (hm : m ≤ 2100) (hu : 4000000 ≤ u) (hD : D = drN tl o) (hV : V = pc * alN an / 100) (hW : W = pc * upN an / 100) (h1 : (fit D V W m).2.2.2.1 ≤ 0) (h2 : ∀ j, j < m → ¬ (fit D V W j).2.2.2.1 ≤ 0) : fX2_fly u q g1 g2 g3 g4 g5 g6 g7 g8 g9 g10 g11 g12 g13 t = some (L1, W1, P1, S1, nI an, U1, nI pc, nI b, nI o, (fit D V W m).2.2.1, (fit D V W m).2.2.2.2, nI m, (thS q (fit D V W) m).2) := by
  obtain ⟨t1, t2, -, -, l1, l2⟩ := an_t ha
  have b1 : pc * alN an ≤ 6433 * 100 := Nat.mul_le_mul hp l1
  have b2 : pc * upN an ≤ 6433 * 100 := Nat.mul_le_mul hp l2
  have hv : V ≤ 6433 := by omega
  have hd := drN_l ht ho
  rw [← hD] at hd
  have key : fX2_fly_b122 u q g1 g2 g3 g4 g5 g6 g7 g8 g9 g10 g11 g12 g13 t (0, nI V, nI W, nI D, L1, W1, P1, S1, nI an, U1, nI pc, nI b, nI o, g10, g11, g12, g13) = some (L1, W1, P1, S1, nI an, U1, nI pc, nI b, nI o, (fit D V W m).2.2.1, (fit D V W m).2.2.2.2, nI m, (thS q (fit D V W) m).2) := by
    unfold fX2_fly_b122
    dsimp only
    refine jfix_it (fun k => ((thS q (fit D V W) k).1, nI (fit D V W k).1, (fit D V W k).2.1, nI D, (fit D V W k).2.2.1, (fit D V W k).2.2.2.1, L1, W1, P1, S1, nI an, U1, nI pc, nI b, nI o, g10, (fit D V W k).2.2.2.2, nI k, (thS q (fit D V W) k).2)) m _ ?_ ?_ (by omega)
    · intro k hk rec
      have hv2 := fit_v D V W k
      have hm2 : (fit D V W k).1 * D ≤ 6433 * 118507 := Nat.mul_le_mul (by omega) hd
      unfold fX2_fly_b148
      dsimp only
      rw [if_neg (h2 k hk), lit32 (nat_lit 1000000), if_neg (nI_ge (by omega) (by omega)), blet_s, mulN, lit32 (nat_lit 1000), divI (by omega) (by decide) (by decide), vxC (by omega) (by omega), blet_s, blet_s, blet_s, blet_s, blet_s, nI_1]
      have ex : (fit D V W k).2.2.1 + nI ((fit D V W k).1 - (fit D V W k).1 * D / 1000) = (fit D V W (k + 1)).2.2.1 := rfl
      have ey : (fit D V W k).2.2.2.1 + ((fit D V W k).2.1 + -10) = (fit D V W (k + 1)).2.2.2.1 := rfl
      have er : (if (fit D V W k).2.2.2.2 < (fit D V W (k + 1)).2.2.2.1 then (fit D V W (k + 1)).2.2.2.1 else (fit D V W k).2.2.2.2) = (fit D V W (k + 1)).2.2.2.2 := show mx (fit D V W k).2.2.2.2 (fit D V W (k + 1)).2.2.2.1 = (fit D V W (k + 1)).2.2.2.2 by simp only [fit, fnx]
      have ew : (fit D V W k).2.1 + -10 = (fit D V W (k + 1)).2.1 := rfl
      have ev : nI ((fit D V W k).1 - (fit D V W k).1 * D / 1000) = nI (fit D V W (k + 1)).1 := rfl
      rw [ey, er, ex, ew, ev]
      have et : thS q (fit D V W) (k + 1) = if (fit D V W (k + 1)).2.2.1 < q then thS q (fit D V W) k else if (thS q (fit D V W) k).1 = 0 then (1, (fit D V W (k + 1)).2.2.2.1) else thS q (fit D V W) k := rfl
      rw [et]
      by_cases c : (fit D V W (k + 1)).2.2.1 < q
      · rw [if_pos c, if_pos c]
      · rw [if_neg c, if_neg c]
        by_cases c2 : (thS q (fit D V W) k).1 = 0
        · rw [if_pos c2, if_pos c2]
        · rw [if_neg c2, if_neg c2]
    · intro rec
      unfold fX2_fly_b148
      dsimp only
      rw [if_pos h1]
      rfl
  unfold fX2_fly
  rw [hl, ob_s]
  dsimp only
  rw [if_neg (nI_pos (by omega)), lit32 (nat_lit 7), if_neg (nI_ge (by omega) (by decide)), jgN (by omega) (by omega), nI_clamp (by omega), t1, mulN, lit32 (nat_lit 100), divI (by omega) (by decide) (by decide), ← hV]
  unfold fX2_fly_b44
  dsimp only
  rw [if_neg (nI_pos (by omega)), lit32 (nat_lit 7), if_neg (nI_ge (by omega) (by decide)), jgN (by omega) (by omega), nI_clamp (by omega), t2, mulN, lit32 (nat_lit 100), divI (by omega) (by decide) (by decide), ← hW]
  unfold fX2_fly_b83
  dsimp only
  rw [show (9 : Int32).toNatClampNeg = 9 from rfl, h9, lit32 (nat_lit 9), jgN (by decide) (by decide)]
  by_cases c : tl = 0
  · subst c
    rw [if_pos (show nI 0 = 0 from rfl), lit32 (nat_lit 4), lit32 (nat_lit 3), mulN, nI_add, show 4 + 3 * o = D from hD.symm]
    exact key
  · have hD2 : 4 + 2 * tl + o = D := by
      rw [hD]
      unfold drN
      rw [if_neg c]
    rw [if_neg (nI_ne0 (by omega) (by omega)), jgN (by decide) (by decide), lit32 (nat_lit 4), lit32 (nat_lit 2), mulN, nI_add, nI_add, hD2]
    exact key
