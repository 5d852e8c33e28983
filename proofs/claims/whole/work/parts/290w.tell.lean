theorem divideR {u : Nat} (hu : 4000000 ≤ u) {s V g : Nat} {L : Nat → Int64} {S : Nat → Int32} (hs : s < 7) (hg0 : 0 < g) (hg5 : g < 1073741824 ^ 5) (hV : Sl L S s V) (hg : Sl L S 7 g) : ∃ r, fX9_divide u (nI s) L S = some r ∧ (Sl r.1 r.2 s (V / g) ∧ Sl r.1 r.2 7 g ∧ Ft s L r.1 S r.2) := by
  obtain ⟨a, a1, a2, a3⟩ := copyR hu (show 9 < 10 by decide) (show s < 10 by omega) (by omega) hV
  obtain ⟨b, b1, b2, b3⟩ := setR hu a.1 a.2 (show 8 < 10 by decide) (show 0 < 2 ^ 63 by decide)
  have g2 := Sl_fr b3 (by decide) (Sl_fr a3 (by decide) hg)
  obtain ⟨n, n6, tS, tD, tz⟩ := Sl_fr b3 (by decide) a2
  obtain ⟨n', n6', sS, sD, sz⟩ := Sl_fr b3 (show s ≠ 8 by omega) (Sl_fr a3 (show s ≠ 9 by omega) hV)
  have en := sz_u sz tz
  subst en
  have f1 : Fs L b.1 S b.2 := Fs_t (Fs_of (by decide) a3) (Fs_of (by decide) b3)
  unfold fX9_divide
  rw [show (9 : Int32) = nI 9 from rfl, show (8 : Int32) = nI 8 from rfl, a1, ob_s, show (0 : Int64) = lN 0 from rfl, b1, ob_s]
  simp (disch := omega) only [blet_s, ob_s, lit32, litL, jgN, nI_add, mulN, clampN, tS]
  refine jfix_cn (fun k (p : Int32 × Int32 × (Nat → Int64) × (Nat → Int32)) => p.1 = nI n' ∧ p.2.1 = nI k ∧ p.2.2.2 = b.2 ∧ ∀ j, (j < 64 * s ∨ 64 * s + 64 ≤ j) → p.2.2.1 j = b.1 j) n' _ ?_ ?_ (by omega) ⟨rfl, rfl, rfl, fun _ _ => rfl⟩
  · rintro k hk rec ⟨p, q, Lp, Sp⟩ ⟨e1, e2, e3, e4⟩
    dsimp only at e1 e2 e3 e4
    subst e1 e2 e3
    unfold fX9_divide_b24
    simp (disch := omega) only [blet_s, ob_s, lit32, litL, jgN, nI_add, mulN, clampN, leN, show ¬ n' ≤ k by omega, if_false]
    refine ⟨_, rfl, rfl, rfl, rfl, ?_⟩
    intro j hj
    dsimp only
    rw [upL (by omega)]
    exact e4 j hj
  · rintro rec ⟨p, q, Lp, Sp⟩ ⟨e1, e2, e3, e4⟩
    dsimp only at e1 e2 e3 e4
    subst e1 e2 e3
    unfold fX9_divide_b24
    simp (disch := omega) only [blet_s, ob_s, lit32, litL, jgN, nI_add, mulN, clampN, leN, Nat.le_refl, if_true]
    have h7 : Sl Lp b.2 7 g := by
      obtain ⟨k, x1, x2, x3, x4⟩ := g2
      exact ⟨k, x1, x2, fun j hj => by rw [e4 _ (by omega)]; exact x3 j hj, x4⟩
    have h8 : Sl Lp b.2 8 0 := by
      obtain ⟨k, x1, x2, x3, x4⟩ := b2
      exact ⟨k, x1, x2, fun j hj => by rw [e4 _ (by omega)]; exact x3 j hj, x4⟩
    have h9 : Dv Lp 576 n' V := fun k hk => by rw [e4 _ (by omega)]; exact tD k hk
    refine jfix_cn (fun k (p : Int32 × (Nat → Int64) × (Nat → Int32)) => p.1 = nI (n' - k) - nI 1 ∧ (∀ j, n' - k ≤ j → j < n' → p.2.1 (64 * s + j) = lN (dg (V / g) j)) ∧ Sl p.2.1 p.2.2 7 g ∧ Dv p.2.1 576 n' V ∧ Sl p.2.1 p.2.2 8 (V / 1073741824 ^ (n' - k) % g) ∧ (∀ j, j < 448 → (j < 64 * s ∨ 64 * s + 64 ≤ j) → p.2.1 j = b.1 j) ∧ ∀ j, j < 7 → p.2.2 j = b.2 j) n' _ ?_ ?_ (by omega) ⟨rfl, fun j h1 h2 => by omega, h7, h9, by rw [Nat.sub_zero, Nat.div_eq_of_lt tz.1, Nat.zero_mod]; exact h8, fun j _ h => e4 j h, fun _ _ => rfl⟩
    · rintro k hk rec ⟨i, Lq, Sq⟩ ⟨c1, c2, c3, c4, c5, c6, c7⟩
      dsimp only at c1 c2 c3 c4 c5 c6 c7
      subst c1
      obtain ⟨i, hi⟩ : ∃ i, n' - k = i + 1 := ⟨n' - k - 1, by omega⟩
      rw [hi] at c2 c5 ⊢
      have ex : V / 1073741824 ^ i / 2 ^ 30 = V / 1073741824 ^ (i + 1) := di_s V i
      obtain ⟨q, y1, y2, y3, y4, y5, y6, y7⟩ := dv62 hu hs hg0 hg5 n6 (show i < n' by omega) b.1 b.2 rec 30 Lq Sq u (by decide) (by omega) c3 c4 (by rw [ex]; exact c5)
      unfold fX9_divide_b51
      dsimp only
      rw [subN (by omega), if_neg (nI_pos (by omega)), show i + 1 - 1 = i by omega]
      have e0 : V / 1073741824 ^ i / 2 ^ 30 / g % 2 ^ (30 - 30) = 0 := by rw [Nat.sub_self, Nat.pow_zero, Nat.mod_one]
      rw [e0] at y1
      have y1' := y1
      unfold fX9_divide_b62 at y1' ⊢
      refine ⟨(nI i - nI 1, q), y1', by rw [show n' - (k + 1) = i by omega], ?_, y3, y4, ?_, ?_, fun j hj => (y7 j hj).trans (c7 j hj)⟩
      · intro j h1 h2
        dsimp only
        by_cases e : j = i
        · subst e
          exact y2
        · rw [y6 _ (by omega) (by omega)]
          exact c2 j (by omega) h2
      · rw [show n' - (k + 1) = i by omega]
        exact y5
      · intro j h1 h2
        dsimp only
        rw [y6 j h1 (by omega)]
        exact c6 j h1 h2
    · rintro rec ⟨i, Lq, Sq⟩ ⟨c1, c2, c3, c4, c5, c6, c7⟩
      dsimp only at c1 c2 c3 c4 c5 c6 c7
      subst c1
      rw [Nat.sub_self]
      unfold fX9_divide_b51
      dsimp only
      rw [if_pos (show nI 0 - nI 1 < 0 by decide)]
      have hlt : V / g < 1073741824 ^ n' := Nat.lt_of_le_of_lt (Nat.div_le_self _ _) tz.1
      obtain ⟨S3, t1, t2, t3⟩ := trimR (S := Sq) hu (show s < 10 by omega) (show n' ≤ 20 by omega) ((c7 s hs).trans sS) (fun j hj => c2 j (by omega) hj) hlt (Nat.lt_of_lt_of_le hlt (Nat.pow_le_pow_right (by decide) n6))
      rw [t1, ob_s]
      refine ⟨_, rfl, t2, ?_, ?_, ?_⟩
      · obtain ⟨k, x1, x2, x3, x4⟩ := c3
        exact ⟨k, x1, (t3 7 (by omega)).trans x2, x3, x4⟩
      · intro k h1 h2
        dsimp only
        rw [c6 k h1 h2]
        exact f1.1 k h1
      · intro j h1 h2
        dsimp only
        rw [t3 j h2, c7 j h1]
        exact f1.2 j h1
theorem Sl_u {L : Nat → Int64} {S : Nat → Int32} {s v : Nat} (h : Sl L S s v) : (S s = 0) = (v = 0) := by
  obtain ⟨n, n6, hS, hD, hz⟩ := h
  rw [hS]
  apply propext
  constructor
  · intro e
    have e0 : n = 0 := (nI_eq (by omega) (by decide)).mp e
    subst e0
    have := hz.1
    rw [Nat.pow_zero] at this
    omega
  · intro e
    subst e
    rw [sz_0 hz]
    rfl
theorem tellR {u : Nat} (hu : 4000000 ≤ u) {p q v w : Nat} {L : Nat → Int64} {S : Nat → Int32} (p3 sg : Int32) (hp : p < 7) (hq : q < 7) (hp2 : 2 ≤ p) (hq2 : 2 ≤ q) (h : Sl L S p v) (h2 : Sl L S q w) (hw : 0 < w) (hv5 : v < 1073741824 ^ 5) (hw5 : w < 1073741824 ^ 5) : ∃ r, fX9_tell u (nI p) (nI q) p3 sg L S = some r ∧ r.1 = (if v = 0 then 0 else if p3 = 0 then 1 else -1) ∧ Sl r.2.1 r.2.2 0 (v / Nat.gcd v w) ∧ Sl r.2.1 r.2.2 1 (w / Nat.gcd v w) := by
  unfold fX9_tell
  rw [jgN (show p < 10 by omega) (by omega), nI_clamp (show p < 2 ^ 31 by omega)]
  simp only [Sl_u h]
  by_cases c : v = 0
  · rw [if_pos c, if_pos c]
    subst c
    obtain ⟨a, a1, a2, a3⟩ := setR hu L S (show 0 < 10 by decide) (show 0 < 2 ^ 63 by decide)
    obtain ⟨b, b1, b2, b3⟩ := setR hu a.1 a.2 (show 1 < 10 by decide) (show 1 < 2 ^ 63 by decide)
    rw [show fX9_set u 0 0 L S = some a from a1, ob_s, show fX9_set u 1 1 a.1 a.2 = some b from b1, ob_s, Nat.gcd_zero_left, Nat.zero_div, Nat.div_self hw]
    exact ⟨_, rfl, rfl, Sl_fr b3 (by decide) a2, b2⟩
  · rw [if_neg c, if_neg c]
    have hv : 0 < v := Nat.pos_of_ne_zero c
    have hg0 : 0 < Nat.gcd v w := Nat.gcd_pos_of_pos_left w hv
    have hg5 : Nat.gcd v w < 1073741824 ^ 5 := Nat.lt_of_le_of_lt (Nat.gcd_le_right v hw) hw5
    obtain ⟨a, a1, a2, a3⟩ := findR hu hp hq h h2 hv hw
    have vp := Sl_fs a3 hp h
    have vq := Sl_fs a3 hq h2
    obtain ⟨b, b1, b2, b3⟩ := copyR hu (show 0 < 10 by decide) (show p < 10 by omega) (by omega) vp
    obtain ⟨d, d1, d2, d3, d4⟩ := divideR hu (show 0 < 7 by decide) hg0 hg5 b2 (Sl_fr b3 (by decide) a2)
    have vq2 := Sl_ft d4 hq (by omega) (Sl_fr b3 (by omega) vq)
    obtain ⟨e, e1, e2, e3⟩ := copyR hu (show 1 < 10 by decide) (show q < 10 by omega) (by omega) vq2
    obtain ⟨f, f1, f2, f3, f4⟩ := divideR hu (show 1 < 7 by decide) hg0 hg5 e2 (Sl_fr e3 (by decide) d3)
    have r0 := Sl_ft f4 (show 0 < 7 by decide) (by decide) (Sl_fr e3 (by decide) d2)
    rw [a1, ob_s, show fX9_copy u 0 (nI p) a.1 a.2 = some b from b1, ob_s, show fX9_divide u 0 b.1 b.2 = some d from d1, ob_s, show fX9_copy u 1 (nI q) d.1 d.2 = some e from e1, ob_s, show fX9_divide u 1 e.1 e.2 = some f from f1, ob_s]
    by_cases z : p3 = 0
    · rw [if_pos z, if_pos z]
      exact ⟨_, rfl, rfl, r0, f2⟩
    · rw [if_neg z, if_neg z]
      exact ⟨_, rfl, rfl, r0, f2⟩
