theorem conC {T : Nat → Nat} (hT : TB T) {u : Nat} (hu : 4000000 ≤ u) (c1 c2 c3 c4 c5 g0 g1 g2 g3 g4 g5 g6 g7 g8 g9 g10 g11 g12 : Int32) (rf0 t0 : Nat → Int32) (ra rd rh : Int32) (ca cd ch : Nat → Int32) (V ix rf t : Nat → Int32) {a b : Nat} (ha : 20 ≤ a) (hab : a ≤ b) (hb : b ≤ 300) (hV : ∀ k, a + k ≤ b → V k = rgT (msT T (a + k))) (hx : ∀ k, ix k = nI (a + k)) (ht : ∀ i, i < 13 → t i = nI (T i)) : ∃ r, jfix (fX8_contest_b57 u c1 c2 c3 c4 c5 (nI b) g0 g1 g2 g3 g4 g5 g6 g7 g8 g9 g10 g11 g12 rf0 t0 ra rd rh ca cd ch) u (nI a, -1, nI a, g0, g1, g2, g3, g4, g5, g6, g7, g8, g9, g10, g11, g12, rf, t) = some r ∧ (r.1 = (cbN V ix (b + 1 - a)).1 ∧ r.2.2.2.2.2.2.2.2.2.2.2.2.2.2.1 = rf) := by
  refine jfix_cn (fun k p => p.1 = (cbN V ix k).1 ∧ p.2.1 = (cbN V ix k).2 ∧ p.2.2.1 = nI (a + k) ∧ p.2.2.2.2.2.2.2.2.2.2.2.2.2.2.2.2.1 = rf ∧ ∀ i, i < 13 → i ≠ 6 → p.2.2.2.2.2.2.2.2.2.2.2.2.2.2.2.2.2 i = nI (T i)) (b + 1 - a) _ ?_ ?_ (by omega) ⟨(hx 0).symm, rfl, rfl, rfl, fun i h _ => ht i h⟩
  · rintro k hk rec ⟨bb, ff, ll, l0, l1, l2, l3, l4, l5, l6, l7, l8, l9, l10, l11, l12, rr, tt⟩ ⟨e1, e2, e3, e4, e5⟩
    dsimp only at e1 e2 e3 e4 e5
    subst e1 e2 e3 e4
    have hg : ∀ i, i < 13 → upd tt 6 (nI (a + k)) i = nI (msT T (a + k) i) := by
      intro i hi
      unfold msT
      by_cases q3 : i = 6
      · subst q3
        rw [updE rfl, if_pos rfl]
      · rw [updN q3, if_neg q3]
        exact e5 i hi q3
    have f1 := flyC_T (msT_B hT (show 20 ≤ a + k by omega) (by omega)) hu _ hg 0 l0 l1 l2 l3 l4 l5 l6 l7 l8 l9 l10 l11 l12
    unfold fX8_contest_b57
    dsimp only
    rw [if_neg (nI_nlt (by omega) (by omega)), show (6 : Int32).toNatClampNeg = 6 from rfl, lit32 (nat_lit 6), jgN (by decide) (by decide), blet_s, f1, ob_s]
    dsimp only
    have eV : (tF (msT T (a + k)) (tM (msT T (a + k)))).2.2.1 = V k := (hV k (by omega)).symm
    rw [eV]
    have ec : cbN V ix (k + 1) = if V k ≤ (cbN V ix k).2 then cbN V ix k else (ix k, V k) := rfl
    have e5' : ∀ i, i < 13 → i ≠ 6 → upd tt 6 (nI (a + k)) i = nI (T i) := fun i hi h3 => by
      rw [updN h3]
      exact e5 i hi h3
    by_cases c : V k ≤ (cbN V ix k).2
    · rw [if_pos c] at ec ⊢
      unfold fX8_contest_b109
      dsimp only
      rw [blet_s, nI_1]
      exact ⟨_, rfl, by rw [ec], by rw [ec], rfl, rfl, e5'⟩
    · rw [if_neg c] at ec ⊢
      unfold fX8_contest_b109
      dsimp only
      rw [blet_s, nI_1]
      exact ⟨_, rfl, by rw [ec, hx], by rw [ec], rfl, rfl, e5'⟩
  · rintro rec ⟨bb, ff, ll, l0, l1, l2, l3, l4, l5, l6, l7, l8, l9, l10, l11, l12, rr, tt⟩ ⟨e1, e2, e3, e4, e5⟩
    dsimp only at e1 e2 e3 e4 e5
    subst e1 e2 e3 e4
    unfold fX8_contest_b57
    dsimp only
    rw [if_pos (nI_lt (by omega) (by omega))]
    exact ⟨_, rfl, rfl, rfl⟩
theorem conR {T : Nat → Nat} (hT : TB T) (z10 : T 10 = 0) (z11 : T 11 = 0) {u : Nat} (hu : 4000000 ≤ u) (c1 c2 c3 c5 g0 g1 g2 g3 g4 g5 g6 g7 g8 g9 g10 g11 g12 g13 g14 g15 g16 g17 g18 : Int32) (N0 rf0 : Nat → Int32) (V ix rf : Nat → Int32) {a b : Nat} (ha : 20 ≤ a) (hab : a ≤ b) (hb : b ≤ 300) (hV : ∀ k, a + k ≤ b → V k = rgT (msT T (a + k))) (hx : ∀ k, ix k = nI (a + k)) (w6 j0 j1 j2 j3 j4 j5 j6 j7 j8 : Int32) : ∃ r, jfix (fX9_contest_b66 u c1 c2 c3 (nI (T 12)) c5 (nI b) g0 g1 g2 g3 g4 g5 g6 g7 g8 g9 g10 g11 g12 g13 g14 g15 g16 g17 g18 N0 rf0) u (-1, 0, nI a, nI (T 0), nI (T 1), nI (T 2), nI (T 3), nI (T 4), nI (T 5), w6, nI (T 7), nI (T 8), nI (T 9), j0, j1, j2, j3, j4, j5, j6, j7, j8, rf) = some r ∧ (r.1 = (rbN V ix (b + 1 - a)).1 ∧ r.2.2.2.2.2.2.2.2.2.2.2.2.2.2.2.2.2.2.2.2 = rf) := by
  refine jfix_cn (fun k p => p.1 = (rbN V ix k).1 ∧ p.2.1 = (rbN V ix k).2 ∧ p.2.2.1 = nI (a + k) ∧ p.2.2.2.1 = nI (T 0) ∧ p.2.2.2.2.1 = nI (T 1) ∧ p.2.2.2.2.2.1 = nI (T 2) ∧ p.2.2.2.2.2.2.1 = nI (T 3) ∧ p.2.2.2.2.2.2.2.1 = nI (T 4) ∧ p.2.2.2.2.2.2.2.2.1 = nI (T 5) ∧ p.2.2.2.2.2.2.2.2.2.2.1 = nI (T 7) ∧ p.2.2.2.2.2.2.2.2.2.2.2.1 = nI (T 8) ∧ p.2.2.2.2.2.2.2.2.2.2.2.2.1 = nI (T 9) ∧ p.2.2.2.2.2.2.2.2.2.2.2.2.2.2.2.2.2.2.2.2.2.2 = rf) (b + 1 - a) _ ?_ ?_ (by omega) ⟨rfl, rfl, rfl, rfl, rfl, rfl, rfl, rfl, rfl, rfl, rfl, rfl, rfl⟩
  · rintro k hk rec ⟨bb, mm, ll, y0, y1, y2, y3, y4, y5, y6, y7, y8, y9, y10, y11, y12, y13, y14, y15, y16, y17, y18, rr⟩ ⟨e1, e2, e3, k0, k1, k2, k3, k4, k5, k7, k8, k9, e4⟩
    dsimp only at e1 e2 e3 k0 k1 k2 k3 k4 k5 k7 k8 k9 e4
    subst e1 e2 e3 k0 k1 k2 k3 k4 k5 k7 k8 k9 e4
    have f1 := flingR_T (msT_B hT (show 20 ≤ a + k by omega) (by omega)) hu y10 y11 y12 y13 y14 y15 y16 y17 y18
    rw [show msT T (a + k) 10 = 0 from z10, show msT T (a + k) 11 = 0 from z11] at f1
    have eV : (tF (msT T (a + k)) (tM (msT T (a + k)))).2.2.1 = V k := (hV k (by omega)).symm
    unfold fX9_contest_b66
    dsimp only
    rw [if_neg (nI_nlt (by omega) (by omega))]
    rw [show fX9_flingBy u 0 0 (nI (T 12)) (nI (T 0)) (nI (T 1)) (nI (T 2)) (nI (T 3)) (nI (T 4)) (nI (T 5)) (nI (a + k)) (nI (T 7)) (nI (T 8)) (nI (T 9)) y10 y11 y12 y13 y14 y15 y16 y17 y18 = _ from f1, ob_s]
    dsimp only
    rw [eV]
    have ec : rbN V ix (k + 1) = if (rbN V ix k).1 = -1 then (ix k, V k) else if V k ≤ (rbN V ix k).2 then rbN V ix k else (ix k, V k) := rfl
    unfold fX9_contest_b102
    dsimp only
    by_cases c0 : (rbN V ix k).1 = -1
    · rw [if_pos c0] at ec ⊢
      unfold fX9_contest_b112
      dsimp only
      rw [blet_s, nI_1]
      exact ⟨_, rfl, by rw [ec, hx], by rw [ec], rfl, rfl, rfl, rfl, rfl, rfl, rfl, rfl, rfl, rfl, rfl⟩
    rw [if_neg c0] at ec ⊢
    by_cases c : V k ≤ (rbN V ix k).2
    · rw [if_pos c] at ec ⊢
      unfold fX9_contest_b112
      dsimp only
      rw [blet_s, nI_1]
      exact ⟨_, rfl, by rw [ec], by rw [ec], rfl, rfl, rfl, rfl, rfl, rfl, rfl, rfl, rfl, rfl, rfl⟩
    · rw [if_neg c] at ec ⊢
      unfold fX9_contest_b112
      dsimp only
      rw [blet_s, nI_1]
      exact ⟨_, rfl, by rw [ec, hx], by rw [ec], rfl, rfl, rfl, rfl, rfl, rfl, rfl, rfl, rfl, rfl, rfl⟩
  · rintro rec ⟨bb, mm, ll, y0, y1, y2, y3, y4, y5, y6, y7, y8, y9, y10, y11, y12, y13, y14, y15, y16, y17, y18, rr⟩ ⟨e1, e2, e3, k0, k1, k2, k3, k4, k5, k7, k8, k9, e4⟩
    dsimp only at e1 e2 e3 k0 k1 k2 k3 k4 k5 k7 k8 k9 e4
    subst e1 e2 e3 k0 k1 k2 k3 k4 k5 k7 k8 k9 e4
    unfold fX9_contest_b66
    dsimp only
    rw [if_pos (nI_lt (by omega) (by omega))]
    exact ⟨_, rfl, rfl, rfl⟩
theorem pv_contest (u : Nat) (hu : 4000000 ≤ u) (N K Z rf : Nat → Int32) (sg : Int32) (Lm : Nat → Int64) (S cal cbl : Nat → Int32) (xlaunch_length xlaunch_weight xlaunch_place xlaunch_stiff xlaunch_angle xlaunch_pushes xlaunch_pace xlaunch_bend xlaunch_off xlaunch_range xlaunch_rise xlaunch_rounds xlaunch_heightThere : Int32) (xlaunch_told : Nat → Int32) (yreach ystrength ylag ylength yweight yplace ymass ystiff ytip ytail ypace ybend yoff yrise yrounds yx yy yvx yvy : Int32) (p1 p2 p3 p4 p5 p6 : Int32)(hR : RelC N K Z rf sg Lm S cal cbl) : ∃ (rc : Int32 × Int32 × Int32 × Int32 × Int32 × Int32 × Int32 × Int32 × Int32 × Int32 × Int32 × Int32 × Int32 × Int32 × (Nat → Int32) × (Nat → Int32)) (rm : Int32 × Int32 × Int32 × Int32 × Int32 × Int32 × Int32 × Int32 × Int32 × Int32 × Int32 × Int32 × Int32 × Int32 × Int32 × Int32 × Int32 × Int32 × Int32 × Int32 × (Nat → Int32)), fX8_contest u p1 p2 p3 p4 p5 p6 xlaunch_length xlaunch_weight xlaunch_place xlaunch_stiff xlaunch_angle xlaunch_pushes xlaunch_pace xlaunch_bend xlaunch_off xlaunch_range xlaunch_rise xlaunch_rounds xlaunch_heightThere rf xlaunch_told (N 392) (N 394) (N 393) (cw 0 N) (cw 24 N) (cw 12 N) = some rc ∧ fX9_contest u p1 p2 p3 p4 p5 p6 yreach ystrength ylag ylength yweight yplace ymass ystiff ytip ytail ypace ybend yoff yrise yrounds yx yy yvx yvy N rf = some rm ∧ rc.1 = rm.1 ∧ RelAll N K Z rm.2.2.2.2.2.2.2.2.2.2.2.2.2.2.2.2.2.2.2.2 sg Lm S (N 392) (N 393) (N 394) (4 : Int32) (1 : Int32) (N 395) (1 : Int32) (N 396) (N 397) (1 : Int32) (3 : Int32) (8 : Int32) (N 191) (cw 0 N) (cw 12 N) (cw 24 N) (cw 40 N) (cw 48 N) (cw 50 N) (cw 98 N) (cw 99 N) (cw 147 N) (cw 153 N) (cw 154 N) (cw 175 N) (cw 192 N) rc.2.2.2.2.2.2.2.2.2.2.2.2.2.2.1 sg (S 0) (S 1) cal cbl := by
  unfold fX8_contest fX9_contest
  rw [fits6, fits6, in_20_300, in_20_v]
  have bad : (fX9_isThrow p1 p2 p3 p4 N = some 1 ∨ fX9_isThrow p1 p2 p3 p4 N = some 0) := by
    rcases ready_c hR.1 hu p1 p2 p3 p4 xlaunch_told with ⟨T, t, ea, k10, k11, hT, ht, r1, r2, r3⟩ | ⟨r1, r2⟩
    · exact Or.inl r1
    · exact Or.inr r1
  rcases wi p6 20 300 (A := 20) (B := 300) rfl rfl with ⟨e6, h6⟩ | ⟨e6, h6⟩
  · rcases wi p5 20 p6 (A := 20) (B := p6.toInt) rfl rfl with ⟨e5, h5⟩ | ⟨e5, h5⟩
    · have e5' : fX8_within p5 20 300 = some 1 := by
        rcases wi p5 20 300 (A := 20) (B := 300) rfl rfl with ⟨e, h⟩ | ⟨e, h⟩
        · exact e
        · exact absurd ⟨h5.1, Int.le_trans h5.2 h6.2⟩ h
      have hle : ¬ p6 < p5 := by
        rw [Int32.lt_iff_toInt_lt]
        have := h5.2
        omega
      rcases ready_c hR.1 hu p1 p2 p3 p4 xlaunch_told with ⟨T, t, ea, k10, k11, hT, ht, r1, r2, r3⟩ | ⟨r1, r2⟩
      · rw [e5', ob_s, if_neg one0, e6, ob_s, if_neg one0, if_neg hle, r1, r2, ob_s, ob_s, if_neg one0, if_neg one0, ob_s, if_neg one0, e5, ob_s, if_neg one0, r3, ob_s, ea]
        dsimp only
        obtain ⟨b, rfl, hb1, hb⟩ := rg_ex (A := 20) (B := 300) h6
        rw [nI_toInt (by omega)] at h5
        obtain ⟨a, rfl, ha1, hab⟩ := rg_ex (A := 20) (B := b) h5
        have hV : ∀ k, a + k ≤ b → (fun k => if a + k ≤ b then rgT (msT T (a + k)) else 0) k = rgT (msT T (a + k)) := fun k hk => if_pos hk
        obtain ⟨r, f1, a1, b1⟩ := conC hT hu p1 p2 p3 (nI (T 12)) (nI a) xlaunch_length xlaunch_weight xlaunch_place xlaunch_stiff xlaunch_angle xlaunch_pushes xlaunch_pace xlaunch_bend xlaunch_off xlaunch_range xlaunch_rise xlaunch_rounds xlaunch_heightThere rf xlaunch_told (N 392) (N 394) (N 393) (cw 0 N) (cw 24 N) (cw 12 N) _ (fun k => nI (a + k)) rf t ha1 hab hb hV (fun k => rfl) ht
        obtain ⟨s, f2, a2, b2⟩ := conR hT k10 k11 hu p1 p2 p3 (nI a) yreach ystrength ylag ylength yweight yplace ymass ystiff ytip ytail ypace ybend yoff yrise yrounds yx yy yvx yvy N rf _ (fun k => nI (a + k)) rf ha1 hab hb hV (fun k => rfl) (nI (T 6)) ypace ybend yoff yrise yrounds yx yy yvx yvy
        refine ⟨r, s, f1, f2, ?_, ?_⟩
        · rw [a1, a2]
          have hp : ∀ k : Nat, 0 ≤ ((fun k => if a + k ≤ b then rgT (msT T (a + k)) else 0) k).toInt := fun k => by
            show 0 ≤ (if a + k ≤ b then rgT (msT T (a + k)) else 0 : Int32).toInt
            split
            · rename_i c
              exact tRg_p (msT_B hT (by omega) (by omega))
            · decide
          have key : ∀ k : Nat, k < b + 1 - a → cbN (fun k => if a + k ≤ b then rgT (msT T (a + k)) else 0) (fun k => nI (a + k)) (k + 1) = rbN (fun k => if a + k ≤ b then rgT (msT T (a + k)) else 0) (fun k => nI (a + k)) (k + 1) ∧ (rbN (fun k => if a + k ≤ b then rgT (msT T (a + k)) else 0) (fun k => nI (a + k)) (k + 1)).1 ≠ -1 := cb_rbB hp (fun k hk => nI_nm (by omega))
          have k2 := (key (b - a) (by omega)).1
          rw [show b - a + 1 = b + 1 - a by omega] at k2
          rw [k2]
        · rw [b1, b2]
          exact hR
      · rw [e5', ob_s, if_neg one0, e6, ob_s, if_neg one0, if_neg hle, r1, r2, ob_s, ob_s, if_pos rfl, if_pos rfl]
        exact ⟨_, _, rfl, rfl, rfl, Rel_rf _ hR⟩
    · have done : ∀ q : Int32, (q = 1 ∨ q = 0) → fX8_within p5 20 300 = some q → (q = 1 → p6 < p5) := by
        intro q _ hq hq1
        subst hq1
        rcases wi p5 20 300 (A := 20) (B := 300) rfl rfl with ⟨e, h⟩ | ⟨e, h⟩
        · rw [Int32.lt_iff_toInt_lt]
          unfold rg at h h5
          omega
        · rw [e] at hq
          exact absurd (Option.some.inj hq) (by decide)
      rcases bad with q | q
      · rcases wi_b p5 20 300 with w | w
        · rw [w, ob_s, if_neg one0, e6, ob_s, if_neg one0, if_pos (done 1 (Or.inl rfl) w rfl), q, ob_s, if_neg one0, ob_s, if_neg one0, e5, ob_s, if_pos rfl]
          exact ⟨_, _, rfl, rfl, rfl, Rel_rf _ hR⟩
        · rw [w, ob_s, if_pos rfl, q, ob_s, if_neg one0, e6, ob_s, if_neg one0, e5, ob_s, if_pos rfl]
          exact ⟨_, _, rfl, rfl, rfl, Rel_rf _ hR⟩
      · rcases wi_b p5 20 300 with w | w
        · rw [w, ob_s, if_neg one0, e6, ob_s, if_neg one0, if_pos (done 1 (Or.inl rfl) w rfl), q, ob_s, if_pos rfl]
          exact ⟨_, _, rfl, rfl, rfl, Rel_rf _ hR⟩
        · rw [w, ob_s, if_pos rfl, q, ob_s, if_pos rfl]
          exact ⟨_, _, rfl, rfl, rfl, Rel_rf _ hR⟩
  · rcases bad with q | q
    · rcases wi_b p5 20 300 with w | w
      · rw [w, ob_s, if_neg one0, e6, ob_s, if_pos rfl, q, ob_s, if_neg one0, ob_s, if_pos rfl]
        exact ⟨_, _, rfl, rfl, rfl, Rel_rf _ hR⟩
      · rw [w, ob_s, if_pos rfl, q, ob_s, if_neg one0, e6, ob_s, if_pos rfl]
        exact ⟨_, _, rfl, rfl, rfl, Rel_rf _ hR⟩
    · rcases wi_b p5 20 300 with w | w
      · rw [w, ob_s, if_neg one0, e6, ob_s, if_pos rfl, q, ob_s, if_pos rfl]
        exact ⟨_, _, rfl, rfl, rfl, Rel_rf _ hR⟩
      · rw [w, ob_s, if_pos rfl, q, ob_s, if_pos rfl]
        exact ⟨_, _, rfl, rfl, rfl, Rel_rf _ hR⟩
theorem strC {T : Nat → Nat} (hT : TB T) {u : Nat} (hu : 4000000 ≤ u) (c1 c2 c3 w g0 g1 g2 g3 g4 g5 g6 g7 g8 : Int32) (rf0 t0 : Nat → Int32) (ra rd rh : Int32) (ca cd ch : Nat → Int32) (V ix rf t : Nat → Int32) {M : Nat} (hM : M = 99) (hV : ∀ k, k < 99 → V k = nI (tOf (stT T (k + 1)))) (hx : ∀ k, ix k = nI (k + 1)) (ht : ∀ i, i < 13 → t i = nI (T i)) : ∃ r, jfix (fX8_straight_b39 u c1 c2 c3 w g0 g1 g2 g3 g4 g5 g6 g7 g8 rf0 t0 ra rd rh ca cd ch) u (-1, 1, g0, g1, g2, g3, g4, g5, g6, g7, g8, rf, t) = some r ∧ (r.1 = fdN w V ix M ∧ r.2.2.2.2.2.2.2.2.2.2.1 = rf) := by
  refine jfix_cn (fun k p => p.1 = fdN w V ix k ∧ p.2.1 = nI (k + 1) ∧ p.2.2.2.2.2.2.2.2.2.2.2.1 = rf ∧ ∀ i, i < 13 → i ≠ 7 → p.2.2.2.2.2.2.2.2.2.2.2.2 i = nI (T i)) M _ ?_ ?_ (by omega) ⟨rfl, rfl, rfl, fun i h _ => ht i h⟩
  · rintro k hk rec ⟨ff, ss, l0, l1, l2, l3, l4, l5, l6, l7, l8, rr, tt⟩ ⟨e1, e2, e4, e5⟩
    dsimp only at e1 e2 e4 e5
    subst e1 e2 e4
    have hg : ∀ i, i < 13 → upd tt 7 (nI (k + 1)) i = nI (stT T (k + 1) i) := by
      intro i hi
      unfold stT
      by_cases q3 : i = 7
      · subst q3
        rw [updE rfl, if_pos rfl]
      · rw [updN q3, if_neg q3]
        exact e5 i hi q3
    have f1 := leaveC_T (stT_B hT (show 1 ≤ k + 1 by omega) (by omega)) hu _ hg l0 l1 l2 l3 l4 l5 l6 l7 l8
    unfold fX8_straight_b39
    dsimp only
    rw [show (jtab 1).getD (7 : Int32).toNatClampNeg 0 = nI 99 from rfl, if_neg (nI_nlt (by omega) (by decide)), show (7 : Int32).toNatClampNeg = 7 from rfl, lit32 (nat_lit 7), jgN (by decide) (by decide), jgN (by decide) (by decide), blet_s, f1, ob_s]
    dsimp only
    have eV : nI (tOf (stT T (k + 1))) = V k := (hV k (by omega)).symm
    rw [eV]
    have ec : fdN w V ix (k + 1) = if V k = 0 then (if w = 1 then ix k else if fdN w V ix k = -1 then ix k else fdN w V ix k) else fdN w V ix k := rfl
    have e5' : ∀ i, i < 13 → i ≠ 7 → upd tt 7 (nI (k + 1)) i = nI (T i) := fun i hi h3 => by
      rw [updN h3]
      exact e5 i hi h3
    unfold fX8_straight_b91
    dsimp only
    by_cases d1 : V k = 0
    · rw [if_pos d1] at ec ⊢
      by_cases d2 : w = 1
      · rw [if_pos d2] at ec ⊢
        unfold fX8_straight_b95
        dsimp only
        rw [blet_s, nI_1]
        exact ⟨_, rfl, by rw [ec, hx], rfl, rfl, e5'⟩
      rw [if_neg d2] at ec ⊢
      by_cases d3 : fdN w V ix k = -1
      · rw [if_pos d3] at ec ⊢
        unfold fX8_straight_b95
        dsimp only
        rw [blet_s, nI_1]
        exact ⟨_, rfl, by rw [ec, hx], rfl, rfl, e5'⟩
      · rw [if_neg d3] at ec ⊢
        unfold fX8_straight_b95
        dsimp only
        rw [blet_s, nI_1]
        exact ⟨_, rfl, by rw [ec], rfl, rfl, e5'⟩
    · rw [if_neg d1] at ec ⊢
      unfold fX8_straight_b95
      dsimp only
      rw [blet_s, nI_1]
      exact ⟨_, rfl, by rw [ec], rfl, rfl, e5'⟩
  · rintro rec ⟨ff, ss, l0, l1, l2, l3, l4, l5, l6, l7, l8, rr, tt⟩ ⟨e1, e2, e4, e5⟩
    dsimp only at e1 e2 e4 e5
    subst e1 e2 e4
    unfold fX8_straight_b39
    dsimp only
    rw [show (jtab 1).getD (7 : Int32).toNatClampNeg 0 = nI 99 from rfl, if_pos (nI_lt (by omega) (by omega)), lit32 (nat_lit 7), jgN (by decide) (by decide)]
    exact ⟨_, rfl, rfl, rfl⟩
theorem strR {T : Nat → Nat} (hT : TB T) (z10 : T 10 = 0) (z11 : T 11 = 0) {u : Nat} (hu : 4000000 ≤ u) (c1 c2 c3 w g0 g1 g2 g3 g4 g5 g6 g7 g8 g9 g10 g11 g12 : Int32) (N0 rf0 : Nat → Int32) (V ix rf : Nat → Int32) {M : Nat} (hM : M = 99) (hV : ∀ k, k < 99 → V k = nI (tOf (stT T (k + 1)))) (hx : ∀ k, ix k = nI (k + 1)) (w7 w9 j10 j11 j12 : Int32) : ∃ r, jfix (fX9_straight_b42 u c1 c2 c3 w g0 g1 g2 g3 g4 g5 g6 g7 g8 g9 g10 g11 g12 N0 rf0) u (-1, 1, nI (T 0), nI (T 1), nI (T 2), nI (T 3), nI (T 4), nI (T 5), nI (T 6), w7, nI (T 8), w9, j10, j11, j12, rf) = some r ∧ (r.1 = fdN w V ix M ∧ r.2.2.2.2.2.2.2.2.2.2.2.2.2.2 = rf) := by
  refine jfix_cn (fun k p => p.1 = fdN w V ix k ∧ p.2.1 = nI (k + 1) ∧ p.2.2.1 = nI (T 0) ∧ p.2.2.2.1 = nI (T 1) ∧ p.2.2.2.2.1 = nI (T 2) ∧ p.2.2.2.2.2.1 = nI (T 3) ∧ p.2.2.2.2.2.2.1 = nI (T 4) ∧ p.2.2.2.2.2.2.2.1 = nI (T 5) ∧ p.2.2.2.2.2.2.2.2.1 = nI (T 6) ∧ p.2.2.2.2.2.2.2.2.2.2.1 = nI (T 8) ∧ p.2.2.2.2.2.2.2.2.2.2.2.2.2.2.2 = rf) M _ ?_ ?_ (by omega) ⟨rfl, rfl, rfl, rfl, rfl, rfl, rfl, rfl, rfl, rfl, rfl⟩
  · rintro k hk rec ⟨ff, ss, y0, y1, y2, y3, y4, y5, y6, y7, y8, y9, y10, y11, y12, rr⟩ ⟨e1, e2, k0, k1, k2, k3, k4, k5, k6, k8, e4⟩
    dsimp only at e1 e2 k0 k1 k2 k3 k4 k5 k6 k8 e4
    subst e1 e2 k0 k1 k2 k3 k4 k5 k6 k8 e4
    have f1 := pushR_T (stT_B hT (show 1 ≤ k + 1 by omega) (by omega)) hu y10 y11 y12
    rw [show stT T (k + 1) 10 = 0 from z10, show stT T (k + 1) 11 = 0 from z11] at f1
    have eV : nI (tOf (stT T (k + 1))) = V k := (hV k (by omega)).symm
    unfold fX9_straight_b42
    dsimp only
    rw [lit32 (nat_lit 100), if_neg (nI_ge (by omega) (by decide))]
    rw [show fX9_push u 0 0 (nI (T 0)) (nI (T 1)) (nI (T 2)) (nI (T 3)) (nI (T 4)) (nI (T 5)) (nI (T 6)) (nI (k + 1)) (nI (T 8)) y10 y11 y12 = _ from f1, ob_s]
    dsimp only
    rw [eV]
    have ec : fdN w V ix (k + 1) = if V k = 0 then (if w = 1 then ix k else if fdN w V ix k = -1 then ix k else fdN w V ix k) else fdN w V ix k := rfl
    unfold fX9_straight_b80 fX9_straight_b85
    dsimp only
    by_cases d1 : V k = 0
    · rw [if_pos d1] at ec ⊢
      by_cases d2 : w = 1
      · rw [if_pos d2] at ec ⊢
        unfold fX9_straight_b87
        dsimp only
        rw [blet_s, nI_1]
        exact ⟨_, rfl, by rw [ec, hx], rfl, rfl, rfl, rfl, rfl, rfl, rfl, rfl, rfl, rfl⟩
      rw [if_neg d2] at ec ⊢
      by_cases d3 : fdN w V ix k = -1
      · rw [if_pos d3] at ec ⊢
        unfold fX9_straight_b87
        dsimp only
        rw [blet_s, nI_1]
        exact ⟨_, rfl, by rw [ec, hx], rfl, rfl, rfl, rfl, rfl, rfl, rfl, rfl, rfl, rfl⟩
      · rw [if_neg d3] at ec ⊢
        unfold fX9_straight_b87
        dsimp only
        rw [blet_s, nI_1]
        exact ⟨_, rfl, by rw [ec], rfl, rfl, rfl, rfl, rfl, rfl, rfl, rfl, rfl, rfl⟩
    · rw [if_neg d1] at ec ⊢
      unfold fX9_straight_b87
      dsimp only
      rw [blet_s, nI_1]
      exact ⟨_, rfl, by rw [ec], rfl, rfl, rfl, rfl, rfl, rfl, rfl, rfl, rfl, rfl⟩
  · rintro rec ⟨ff, ss, y0, y1, y2, y3, y4, y5, y6, y7, y8, y9, y10, y11, y12, rr⟩ ⟨e1, e2, k0, k1, k2, k3, k4, k5, k6, k8, e4⟩
    dsimp only at e1 e2 k0 k1 k2 k3 k4 k5 k6 k8 e4
    subst e1 e2 k0 k1 k2 k3 k4 k5 k6 k8 e4
    unfold fX9_straight_b42
    dsimp only
    rw [lit32 (nat_lit 100), if_pos (nI_le (by omega) (by omega))]
    exact ⟨_, rfl, rfl, rfl⟩
theorem pv_straight (u : Nat) (hu : 4000000 ≤ u) (N K Z rf : Nat → Int32) (sg : Int32) (Lm : Nat → Int64) (S cal cbl : Nat → Int32) (xlaunch_length xlaunch_weight xlaunch_place xlaunch_stiff xlaunch_angle xlaunch_pushes xlaunch_pace xlaunch_bend xlaunch_off : Int32) (xlaunch_told : Nat → Int32) (yreach ystrength ylag ylength yweight yplace ymass ystiff ytip ytail ypace ybend yoff : Int32) (p1 p2 p3 p4 : Int32)(hR : RelC N K Z rf sg Lm S cal cbl) : ∃ (rc : Int32 × Int32 × Int32 × Int32 × Int32 × Int32 × Int32 × Int32 × Int32 × Int32 × (Nat → Int32) × (Nat → Int32)) (rm : Int32 × Int32 × Int32 × Int32 × Int32 × Int32 × Int32 × Int32 × Int32 × Int32 × Int32 × Int32 × Int32 × Int32 × (Nat → Int32)), fX8_straight u p1 p2 p3 p4 xlaunch_length xlaunch_weight xlaunch_place xlaunch_stiff xlaunch_angle xlaunch_pushes xlaunch_pace xlaunch_bend xlaunch_off rf xlaunch_told (N 392) (N 394) (N 393) (cw 0 N) (cw 24 N) (cw 12 N) = some rc ∧ fX9_straight u p1 p2 p3 p4 yreach ystrength ylag ylength yweight yplace ymass ystiff ytip ytail ypace ybend yoff N rf = some rm ∧ rc.1 = rm.1 ∧ RelAll N K Z rm.2.2.2.2.2.2.2.2.2.2.2.2.2.2 sg Lm S (N 392) (N 393) (N 394) (4 : Int32) (1 : Int32) (N 395) (1 : Int32) (N 396) (N 397) (1 : Int32) (3 : Int32) (8 : Int32) (N 191) (cw 0 N) (cw 12 N) (cw 24 N) (cw 40 N) (cw 48 N) (cw 50 N) (cw 98 N) (cw 99 N) (cw 147 N) (cw 153 N) (cw 154 N) (cw 175 N) (cw 192 N) rc.2.2.2.2.2.2.2.2.2.2.1 sg (S 0) (S 1) cal cbl := by
  unfold fX8_straight fX9_straight
  rw [in_0_1]
  rcases wi p4 0 1 (A := 0) (B := 1) rfl rfl with ⟨e4, h4⟩ | ⟨e4, h4⟩
  · rcases ready_c hR.1 hu p1 p2 p3 0 xlaunch_told with ⟨T, t, ea, k10, k11, hT, ht, r1, r2, r3⟩ | ⟨r1, r2⟩
    · rw [e4, ob_s, if_neg one0, r1, r2, ob_s, ob_s, if_neg one0, if_neg one0, ob_s, if_neg one0, r3, ob_s]
      dsimp only
      rw [show (jtab 0).getD (7 : Int32).toNatClampNeg 0 = 1 from rfl, lit32 (nat_lit 7), jgN (by decide) (by decide), blet_s]
      have hV : ∀ k, k < 99 → (fun k => nI (tOf (stT T (k + 1)))) k = nI (tOf (stT T (k + 1))) := fun k _ => rfl
      obtain ⟨r, f1, a1, b1⟩ := strC hT hu p1 p2 p3 p4 xlaunch_length xlaunch_weight xlaunch_place xlaunch_stiff xlaunch_angle xlaunch_pushes xlaunch_pace xlaunch_bend xlaunch_off rf xlaunch_told (N 392) (N 394) (N 393) (cw 0 N) (cw 24 N) (cw 12 N) _ (fun k => nI (k + 1)) rf t rfl hV (fun k => rfl) ht
      obtain ⟨s, f2, a2, b2⟩ := strR hT k10 k11 hu p1 p2 p3 p4 yreach ystrength ylag ylength yweight yplace ymass ystiff ytip ytail ypace ybend yoff N rf _ (fun k => nI (k + 1)) rf rfl hV (fun k => rfl) (nI (T 7)) (nI (T 9)) ypace ybend yoff
      refine ⟨r, s, f1, f2, a1.trans a2.symm, ?_⟩
      rw [b1, b2]
      exact hR
    · rw [e4, ob_s, if_neg one0, r1, r2, ob_s, ob_s, if_pos rfl, if_pos rfl]
      exact ⟨_, _, rfl, rfl, rfl, Rel_rf _ hR⟩
  · rw [e4, ob_s, if_pos rfl]
    rcases ready_c hR.1 hu p1 p2 p3 0 xlaunch_told with ⟨T, t, ea, k10, k11, hT, ht, r1, r2, r3⟩ | ⟨r1, r2⟩
    · rw [r1, ob_s, if_neg one0, ob_s, if_pos rfl]
      exact ⟨_, _, rfl, rfl, rfl, Rel_rf _ hR⟩
    · rw [r1, ob_s, if_pos rfl]
      exact ⟨_, _, rfl, rfl, rfl, Rel_rf _ hR⟩
