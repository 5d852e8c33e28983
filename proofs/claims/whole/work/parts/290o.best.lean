theorem jfix_cn {α ρ : Type} {g : (α → Option ρ) → α → Option ρ} (I : Nat → α → Prop) (m : Nat) (Q : ρ → Prop) (hs : ∀ k, k < m → ∀ (rec : α → Option ρ) (p : α), I k p → ∃ q, g rec p = rec q ∧ I (k + 1) q) (he : ∀ (rec : α → Option ρ) (p : α), I m p → ∃ r, g rec p = some r ∧ Q r) {u : Nat} (hu : m < u) {p : α} (h0 : I 0 p) : ∃ r, jfix g u p = some r ∧ Q r := by
  have key : ∀ (d n j : Nat) (p : α), j + d = m → d < n → I j p → ∃ r, jfix g n p = some r ∧ Q r := by
    intro d
    induction d with
    | zero =>
      intro n j p hj hn h
      cases n with
      | zero => omega
      | succ n =>
        have e : j = m := by omega
        subst e
        exact he _ p h
    | succ d ih =>
      intro n j p hj hn h
      cases n with
      | zero => omega
      | succ n =>
        obtain ⟨q, e, h2⟩ := hs j (by omega) (jfix g n) p h
        obtain ⟨r, e2, h3⟩ := ih n (j + 1) q (by omega) (by omega) h2
        exact ⟨r, e.trans e2, h3⟩
  exact key m u 0 p (by omega) hu h0
def cbN (V ix : Nat → Int32) : Nat → Int32 × Int32
  | 0 => (ix 0, -1)
  | k + 1 => if V k ≤ (cbN V ix k).2 then cbN V ix k else (ix k, V k)
def rbN (V ix : Nat → Int32) : Nat → Int32 × Int32
  | 0 => (-1, 0)
  | k + 1 => if (rbN V ix k).1 = -1 then (ix k, V k) else if V k ≤ (rbN V ix k).2 then rbN V ix k else (ix k, V k)
theorem cb_rbB {V ix : Nat → Int32} {m : Nat} (hV : ∀ k, 0 ≤ (V k).toInt) (hx : ∀ k, k < m → ix k ≠ -1) : ∀ k : Nat, k < m → cbN V ix (k + 1) = rbN V ix (k + 1) ∧ (rbN V ix (k + 1)).1 ≠ -1 := by
  intro k
  induction k with
  | zero =>
    intro hm
    have e1 : cbN V ix 1 = (ix 0, V 0) := by
      show (if V 0 ≤ -1 then _ else _) = _
      rw [if_neg]
      intro z
      have := hV 0
      rw [Int32.le_iff_toInt_le, show (-1 : Int32).toInt = -1 by decide] at z
      omega
    have e2 : rbN V ix 1 = (ix 0, V 0) := by
      show (if (-1 : Int32) = -1 then _ else _) = _
      rw [if_pos rfl]
    rw [e1, e2]
    exact ⟨rfl, hx 0 hm⟩
  | succ k ih0 =>
    intro hm
    have ih := ih0 (by omega)
    have e1 : cbN V ix (k + 1 + 1) = if V (k + 1) ≤ (cbN V ix (k + 1)).2 then cbN V ix (k + 1) else (ix (k + 1), V (k + 1)) := rfl
    have e2 : rbN V ix (k + 1 + 1) = if (rbN V ix (k + 1)).1 = -1 then (ix (k + 1), V (k + 1)) else if V (k + 1) ≤ (rbN V ix (k + 1)).2 then rbN V ix (k + 1) else (ix (k + 1), V (k + 1)) := rfl
    rw [e1, e2, if_neg ih.2, ih.1]
    refine ⟨rfl, ?_⟩
    split
    · exact ih.2
    · exact hx (k + 1) hm
theorem nI_nm {k : Nat} (h : k < 2 ^ 31) : nI k ≠ -1 := fun z => nI_pos h (by rw [z]; decide)
def fdN (w : Int32) (V ix : Nat → Int32) : Nat → Int32
  | 0 => -1
  | k + 1 => if V k = 0 then (if w = 1 then ix k else if fdN w V ix k = -1 then ix k else fdN w V ix k) else fdN w V ix k
def lgT (T : Nat → Nat) (l : Nat) : Nat → Nat := fun i => if i = 3 then l else if i = 5 then (if l < T 5 then l else T 5) else T i
def stT (T : Nat → Nat) (s : Nat) : Nat → Nat := fun i => if i = 7 then s else T i
def msT (T : Nat → Nat) (s : Nat) : Nat → Nat := fun i => if i = 6 then s else T i
noncomputable def rgT (T : Nat → Nat) : Int32 := (tF T (tM T)).2.2.1
theorem lgT_B {T : Nat → Nat} (h : TB T) {l : Nat} (hl : l < 100) : TB (lgT T l) := by
  have h5 : (if l < T 5 then l else T 5) ≤ 99 := by split <;> omega
  exact ⟨h.1, h.2.1, h.2.2.1, (by omega : l ≤ 99), h.2.2.2.2.1, h5, h.2.2.2.2.2.2⟩
theorem stT_B {T : Nat → Nat} (h : TB T) {l : Nat} (h1 : 1 ≤ l) (hl : l < 100) : TB (stT T l) := ⟨h.1, h.2.1, h.2.2.1, h.2.2.2.1, h.2.2.2.2.1, h.2.2.2.2.2.1, h.2.2.2.2.2.2.1, ⟨h1, (by omega : l ≤ 99)⟩, h.2.2.2.2.2.2.2.2⟩
theorem msT_B {T : Nat → Nat} (h : TB T) {l : Nat} (h1 : 20 ≤ l) (hl : l ≤ 300) : TB (msT T l) := ⟨h.1, h.2.1, h.2.2.1, h.2.2.2.1, h.2.2.2.2.1, h.2.2.2.2.2.1, ⟨h1, hl⟩, h.2.2.2.2.2.2.2⟩
theorem lenC {T : Nat → Nat} (hT : TB T) {u : Nat} (hu : 4000000 ≤ u) (c1 c2 c3 c4 g0 g1 g2 g3 g4 g5 g6 g7 g8 g9 g10 g11 g12 : Int32) (rf0 t0 : Nat → Int32) (ra rd rh : Int32) (ca cd ch : Nat → Int32) (V rf t : Nat → Int32) {M : Nat} (hM : M = 100) (hV : ∀ l, l < 100 → V l = rgT (lgT T l)) (ht : ∀ i, i < 13 → t i = nI (T i)) : ∃ r, jfix (fX8_length_b43 u c1 c2 c3 c4 g0 g1 g2 g3 g4 g5 g6 g7 g8 g9 g10 g11 g12 rf0 t0 ra rd rh ca cd ch) u (nI (T 5), 0, -1, 0, g0, g1, g2, g3, g4, g5, g6, g7, g8, g9, g10, g11, g12, rf, t) = some r ∧ (r.1 = (cbN V nI M).1 ∧ r.2.2.2.2.2.2.2.2.2.2.2.2.2.2.1 = rf) := by
  refine jfix_cn (fun k p => p.1 = nI (T 5) ∧ p.2.1 = (cbN V nI k).1 ∧ p.2.2.1 = (cbN V nI k).2 ∧ p.2.2.2.1 = nI k ∧ p.2.2.2.2.2.2.2.2.2.2.2.2.2.2.2.2.2.1 = rf ∧ ∀ i, i < 13 → i ≠ 3 → i ≠ 5 → p.2.2.2.2.2.2.2.2.2.2.2.2.2.2.2.2.2.2 i = nI (T i)) M _ ?_ ?_ (by omega) ⟨rfl, rfl, rfl, rfl, rfl, fun i h _ _ => ht i h⟩
  · rintro k hk0 rec ⟨had, bb, ff, ll, l0, l1, l2, l3, l4, l5, l6, l7, l8, l9, l10, l11, l12, rr, tt⟩ ⟨e0, e1, e2, e3, e4, e5⟩
    have hk : k < 100 := by omega
    dsimp only at e0 e1 e2 e3 e4 e5
    subst e0 e1 e2 e3 e4
    have hg : ∀ i, i < 13 → upd (upd tt 3 (nI k)) 5 (if nI k < nI (T 5) then nI k else nI (T 5)) i = nI (lgT T k i) := by
      intro i hi
      unfold lgT
      by_cases q5 : i = 5
      · subst q5
        show (if nI k < nI (T 5) then nI k else nI (T 5)) = nI (if k < T 5 then k else T 5)
        simp only [ltN (show k < 2 ^ 31 by omega) (show T 5 < 2 ^ 31 by have := hT.2.2.2.2.2.1; omega)]
        split <;> rfl
      · rw [updN q5]
        by_cases q3 : i = 3
        · subst q3
          rw [updE rfl, if_pos rfl]
        · rw [updN q3, if_neg q3, if_neg q5]
          exact e5 i hi q3 q5
    have f1 := flyC_T (lgT_B hT hk) hu _ hg 0 l0 l1 l2 l3 l4 l5 l6 l7 l8 l9 l10 l11 l12
    unfold fX8_length_b43
    dsimp only
    rw [show (jtab 1).getD (3 : Int32).toNatClampNeg 0 = nI 99 from rfl, if_neg (nI_nlt (by omega) (by decide)), show (3 : Int32).toNatClampNeg = 3 from rfl, show (5 : Int32).toNatClampNeg = 5 from rfl, lit32 (nat_lit 3), lit32 (nat_lit 5), jgN (by decide) (by decide), jgN (by decide) (by decide), blet_s, blet_s, jgN (by decide) (by decide), blet_s, f1, ob_s]
    dsimp only
    have eV : (tF (lgT T k) (tM (lgT T k))).2.2.1 = V k := (hV k hk).symm
    rw [eV]
    have ec : cbN V nI (k + 1) = if V k ≤ (cbN V nI k).2 then cbN V nI k else (nI k, V k) := rfl
    have e5' : ∀ i, i < 13 → i ≠ 3 → i ≠ 5 → upd (upd tt 3 (nI k)) 5 (if nI k < nI (T 5) then nI k else nI (T 5)) i = nI (T i) := fun i hi h3 h5 => by
      rw [updN h5, updN h3]
      exact e5 i hi h3 h5
    by_cases c : V k ≤ (cbN V nI k).2
    · rw [if_pos c] at ec ⊢
      unfold fX8_length_b113
      dsimp only
      rw [blet_s, nI_1]
      exact ⟨_, rfl, rfl, by rw [ec], by rw [ec], rfl, rfl, e5'⟩
    · rw [if_neg c] at ec ⊢
      unfold fX8_length_b113
      dsimp only
      rw [blet_s, nI_1]
      exact ⟨_, rfl, rfl, by rw [ec], by rw [ec], rfl, rfl, e5'⟩
  · rintro rec ⟨had, bb, ff, ll, l0, l1, l2, l3, l4, l5, l6, l7, l8, l9, l10, l11, l12, rr, tt⟩ ⟨e0, e1, e2, e3, e4, e5⟩
    dsimp only at e0 e1 e2 e3 e4 e5
    subst e0 e1 e2 e3 e4
    unfold fX8_length_b43
    dsimp only
    rw [show (jtab 1).getD (3 : Int32).toNatClampNeg 0 = nI 99 from rfl, if_pos (nI_lt (by omega) (by omega)), lit32 (nat_lit 3), jgN (by decide) (by decide)]
    exact ⟨_, rfl, rfl, rfl⟩
theorem lenR {T : Nat → Nat} (hT : TB T) (z10 : T 10 = 0) (z11 : T 11 = 0) {u : Nat} (hu : 4000000 ≤ u) (c1 c2 c3 g0 g1 g2 g3 g4 g5 g6 g7 g8 g9 g10 g11 g12 g13 g14 g15 g16 g17 g18 : Int32) (N0 rf0 : Nat → Int32) (V rf : Nat → Int32) {M : Nat} (hM : M = 100) (hV : ∀ l, l < 100 → V l = rgT (lgT T l)) (w3 w5 j0 j1 j2 j3 j4 j5 j6 j7 j8 : Int32) : ∃ r, jfix (fX9_length_b41 u c1 c2 c3 (nI (T 12)) g0 g1 g2 g3 g4 g5 g6 g7 g8 g9 g10 g11 g12 g13 g14 g15 g16 g17 g18 N0 rf0) u (nI (T 5), -1, 0, 0, nI (T 0), nI (T 1), nI (T 2), w3, nI (T 4), w5, nI (T 6), nI (T 7), nI (T 8), nI (T 9), j0, j1, j2, j3, j4, j5, j6, j7, j8, rf) = some r ∧ (r.1 = (rbN V nI M).1 ∧ r.2.2.2.2.2.2.2.2.2.2.2.2.2.2.2.2.2.2.2.2 = rf) := by
  refine jfix_cn (fun k p => p.1 = nI (T 5) ∧ p.2.1 = (rbN V nI k).1 ∧ p.2.2.1 = (rbN V nI k).2 ∧ p.2.2.2.1 = nI k ∧ p.2.2.2.2.1 = nI (T 0) ∧ p.2.2.2.2.2.1 = nI (T 1) ∧ p.2.2.2.2.2.2.1 = nI (T 2) ∧ p.2.2.2.2.2.2.2.2.1 = nI (T 4) ∧ p.2.2.2.2.2.2.2.2.2.2.1 = nI (T 6) ∧ p.2.2.2.2.2.2.2.2.2.2.2.1 = nI (T 7) ∧ p.2.2.2.2.2.2.2.2.2.2.2.2.1 = nI (T 8) ∧ p.2.2.2.2.2.2.2.2.2.2.2.2.2.1 = nI (T 9) ∧ p.2.2.2.2.2.2.2.2.2.2.2.2.2.2.2.2.2.2.2.2.2.2.2 = rf) M _ ?_ ?_ (by omega) ⟨rfl, rfl, rfl, rfl, rfl, rfl, rfl, rfl, rfl, rfl, rfl, rfl, rfl⟩
  · rintro k hk0 rec ⟨had, bb, mm, ll, y0, y1, y2, y3, y4, y5, y6, y7, y8, y9, y10, y11, y12, y13, y14, y15, y16, y17, y18, rr⟩ ⟨e0, e1, e2, e3, k0, k1, k2, k4, k6, k7, k8, k9, e4⟩
    dsimp only at e0 e1 e2 e3 k0 k1 k2 k4 k6 k7 k8 k9 e4
    subst e0 e1 e2 e3 k0 k1 k2 k4 k6 k7 k8 k9 e4
    have hk : k < 100 := by omega
    have f1 := flingR_T (lgT_B hT hk) hu y10 y11 y12 y13 y14 y15 y16 y17 y18
    rw [show lgT T k 10 = 0 from z10, show lgT T k 11 = 0 from z11] at f1
    have eV : (tF (lgT T k) (tM (lgT T k))).2.2.1 = V k := (hV k hk).symm
    have hx : fX9_length_b41 u c1 c2 c3 (nI (T 12)) g0 g1 g2 g3 g4 g5 g6 g7 g8 g9 g10 g11 g12 g13 g14 g15 g16 g17 g18 N0 rf0 rec (nI (T 5), (rbN V nI k).1, (rbN V nI k).2, nI k, nI (T 0), nI (T 1), nI (T 2), y3, nI (T 4), y5, nI (T 6), nI (T 7), nI (T 8), nI (T 9), y10, y11, y12, y13, y14, y15, y16, y17, y18, rr) = fX9_length_b69 u c1 c2 c3 (nI (T 12)) g0 g1 g2 g3 g4 g5 g6 g7 g8 g9 g10 g11 g12 g13 g14 g15 g16 g17 g18 N0 rf0 rec (nI (T 5), (rbN V nI k).1, (rbN V nI k).2, nI k, nI (if k < T 5 then k else T 5), nI (T 0), nI (T 1), nI (T 2), nI k, nI (T 4), y5, nI (T 6), nI (T 7), nI (T 8), nI (T 9), y10, y11, y12, y13, y14, y15, y16, y17, y18, rr) := by
      have h5 := hT.2.2.2.2.2.1
      unfold fX9_length_b41
      dsimp only
      rw [lit32 (nat_lit 100), if_neg (nI_ge hk (by decide))]
      simp only [leN (show T 5 < 2 ^ 31 by omega) (show k < 2 ^ 31 by omega)]
      by_cases c : T 5 ≤ k
      · rw [if_pos c, if_neg (Nat.not_lt.mpr c)]
      · rw [if_neg c, if_pos (Nat.not_le.mp c)]
    rw [hx]
    unfold fX9_length_b69
    dsimp only
    rw [show fX9_flingBy u 0 0 (nI (T 12)) (nI (T 0)) (nI (T 1)) (nI (T 2)) (nI k) (nI (T 4)) (nI (if k < T 5 then k else T 5)) (nI (T 6)) (nI (T 7)) (nI (T 8)) (nI (T 9)) y10 y11 y12 y13 y14 y15 y16 y17 y18 = _ from f1, ob_s]
    dsimp only
    rw [eV]
    have ec : rbN V nI (k + 1) = if (rbN V nI k).1 = -1 then (nI k, V k) else if V k ≤ (rbN V nI k).2 then rbN V nI k else (nI k, V k) := rfl
    unfold fX9_length_b95
    dsimp only
    by_cases c0 : (rbN V nI k).1 = -1
    · rw [if_pos c0] at ec ⊢
      unfold fX9_length_b105
      dsimp only
      rw [blet_s, nI_1]
      exact ⟨_, rfl, rfl, by rw [ec], by rw [ec], rfl, rfl, rfl, rfl, rfl, rfl, rfl, rfl, rfl, rfl⟩
    rw [if_neg c0] at ec ⊢
    by_cases c : V k ≤ (rbN V nI k).2
    · rw [if_pos c] at ec ⊢
      unfold fX9_length_b105
      dsimp only
      rw [blet_s, nI_1]
      exact ⟨_, rfl, rfl, by rw [ec], by rw [ec], rfl, rfl, rfl, rfl, rfl, rfl, rfl, rfl, rfl, rfl⟩
    · rw [if_neg c] at ec ⊢
      unfold fX9_length_b105
      dsimp only
      rw [blet_s, nI_1]
      exact ⟨_, rfl, rfl, by rw [ec], by rw [ec], rfl, rfl, rfl, rfl, rfl, rfl, rfl, rfl, rfl, rfl⟩
  · rintro rec ⟨had, bb, mm, ll, y0, y1, y2, y3, y4, y5, y6, y7, y8, y9, y10, y11, y12, y13, y14, y15, y16, y17, y18, rr⟩ ⟨e0, e1, e2, e3, k0, k1, k2, k4, k6, k7, k8, k9, e4⟩
    dsimp only at e0 e1 e2 e3 k0 k1 k2 k4 k6 k7 k8 k9 e4
    subst e0 e1 e2 e3 k0 k1 k2 k4 k6 k7 k8 k9 e4
    unfold fX9_length_b41
    dsimp only
    rw [lit32 (nat_lit 100), if_pos (nI_le (by omega) (by omega))]
    exact ⟨_, rfl, rfl, rfl⟩
theorem pv_length (u : Nat) (hu : 4000000 ≤ u) (N K Z rf : Nat → Int32) (sg : Int32) (Lm : Nat → Int64) (S cal cbl : Nat → Int32) (xlaunch_length xlaunch_weight xlaunch_place xlaunch_stiff xlaunch_angle xlaunch_pushes xlaunch_pace xlaunch_bend xlaunch_off xlaunch_range xlaunch_rise xlaunch_rounds xlaunch_heightThere : Int32) (xlaunch_told : Nat → Int32) (yreach ystrength ylag ylength yweight yplace ymass ystiff ytip ytail ypace ybend yoff yrise yrounds yx yy yvx yvy : Int32) (p1 p2 p3 p4 : Int32)(hR : RelC N K Z rf sg Lm S cal cbl) : ∃ (rc : Int32 × Int32 × Int32 × Int32 × Int32 × Int32 × Int32 × Int32 × Int32 × Int32 × Int32 × Int32 × Int32 × Int32 × (Nat → Int32) × (Nat → Int32)) (rm : Int32 × Int32 × Int32 × Int32 × Int32 × Int32 × Int32 × Int32 × Int32 × Int32 × Int32 × Int32 × Int32 × Int32 × Int32 × Int32 × Int32 × Int32 × Int32 × Int32 × (Nat → Int32)), fX8_length u p1 p2 p3 p4 xlaunch_length xlaunch_weight xlaunch_place xlaunch_stiff xlaunch_angle xlaunch_pushes xlaunch_pace xlaunch_bend xlaunch_off xlaunch_range xlaunch_rise xlaunch_rounds xlaunch_heightThere rf xlaunch_told (N 392) (N 394) (N 393) (cw 0 N) (cw 24 N) (cw 12 N) = some rc ∧ fX9_length u p1 p2 p3 p4 yreach ystrength ylag ylength yweight yplace ymass ystiff ytip ytail ypace ybend yoff yrise yrounds yx yy yvx yvy N rf = some rm ∧ rc.1 = rm.1 ∧ RelAll N K Z rm.2.2.2.2.2.2.2.2.2.2.2.2.2.2.2.2.2.2.2.2 sg Lm S (N 392) (N 393) (N 394) (4 : Int32) (1 : Int32) (N 395) (1 : Int32) (N 396) (N 397) (1 : Int32) (3 : Int32) (8 : Int32) (N 191) (cw 0 N) (cw 12 N) (cw 24 N) (cw 40 N) (cw 48 N) (cw 50 N) (cw 98 N) (cw 99 N) (cw 147 N) (cw 153 N) (cw 154 N) (cw 175 N) (cw 192 N) rc.2.2.2.2.2.2.2.2.2.2.2.2.2.2.1 sg (S 0) (S 1) cal cbl := by
  unfold fX8_length fX9_length
  rcases ready_c hR.1 hu p1 p2 p3 p4 xlaunch_told with ⟨T, t, ea, k10, k11, hT, ht, r1, r2, r3⟩ | ⟨r1, r2⟩
  · rw [r1, r2, ob_s, ob_s, if_neg one0, if_neg one0, r3, ob_s, ea]
    dsimp only
    rw [show (jtab 0).getD (3 : Int32).toNatClampNeg 0 = 0 from rfl, show (5 : Int32).toNatClampNeg = 5 from rfl, lit32 (nat_lit 5), jgN (by decide) (by decide), blet_s, lit32 (nat_lit 3), jgN (by decide) (by decide), blet_s, ht 5 (by decide)]
    have hV : ∀ l, l < 100 → (fun l => if l < 100 then rgT (lgT T l) else 0) l = rgT (lgT T l) := fun l hl => if_pos hl
    obtain ⟨r, e1, a1, b1⟩ := lenC hT hu p1 p2 p3 (nI (T 12)) xlaunch_length xlaunch_weight xlaunch_place xlaunch_stiff xlaunch_angle xlaunch_pushes xlaunch_pace xlaunch_bend xlaunch_off xlaunch_range xlaunch_rise xlaunch_rounds xlaunch_heightThere rf xlaunch_told (N 392) (N 394) (N 393) (cw 0 N) (cw 24 N) (cw 12 N) _ rf t rfl hV ht
    obtain ⟨s, e2, a2, b2⟩ := lenR hT k10 k11 hu p1 p2 p3 yreach ystrength ylag ylength yweight yplace ymass ystiff ytip ytail ypace ybend yoff yrise yrounds yx yy yvx yvy N rf _ rf rfl hV (nI (T 3)) (nI (T 5)) ypace ybend yoff yrise yrounds yx yy yvx yvy
    refine ⟨r, s, e1, e2, ?_, ?_⟩
    · rw [a1, a2]
      have hp : ∀ k : Nat, 0 ≤ ((fun l => if l < 100 then rgT (lgT T l) else 0) k).toInt := fun k => by
        show 0 ≤ (if k < 100 then rgT (lgT T k) else 0 : Int32).toInt
        split
        · rename_i c
          exact tRg_p (lgT_B hT c)
        · decide
      have key : ∀ k : Nat, k < 100 → cbN (fun l => if l < 100 then rgT (lgT T l) else 0) nI (k + 1) = rbN (fun l => if l < 100 then rgT (lgT T l) else 0) nI (k + 1) ∧ (rbN (fun l => if l < 100 then rgT (lgT T l) else 0) nI (k + 1)).1 ≠ -1 := cb_rbB hp (fun k hk => nI_nm (by omega))
      rw [(key 99 (by decide)).1]
    · rw [b1, b2]
      exact hR
  · rw [r1, r2, ob_s, ob_s, if_pos rfl, if_pos rfl]
    exact ⟨_, _, rfl, rfl, rfl, Rel_rf _ hR⟩
