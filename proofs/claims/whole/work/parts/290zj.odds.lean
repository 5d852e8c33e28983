theorem sh62 {u : Nat} (hu : 4000000 ≤ u) {g1 g2 g3 g4 g5 : Int32} {h1 h2 h3 h4 : Nat → Int32} (rec46 : Int32 × Int32 × Int32 × Int32 × Int32 × (Nat → Int32) × (Nat → Int32) → Option (Int32 × Int32 × Int32 × (Nat → Int32) × (Nat → Int32))) {i p : Nat} (hp2 : 2 ≤ p) (hp : p ≤ 19) (sg : Int32) : ∀ (m A B cnt n : Nat) (as bs : Int32) (al bl : Nat → Int32), A < 2 ^ m → m < n → cnt + m ≤ 999 → 0 < A → Nt al as A → Nt bl bs B → ∃ (q : Int32 × Int32 × (Nat → Int32) × (Nat → Int32)) (A2 B2 t : Nat), jfix (fX1_share_b62 u g1 g2 g3 g4 g5 h1 h2 h3 h4 rec46) n (8, nI i, nI p, nI cnt, sg, as, bs, al, bl) = rec46 (8, nI (i + 1), sg, q) ∧ Nt q.2.2.1 q.1 A2 ∧ Nt q.2.2.2 q.2.1 B2 ∧ A = A2 * t ∧ B = B2 * t ∧ ¬ (p ∣ A2 ∧ p ∣ B2) ∧ 0 < A2 := by
  intro m
  induction m with
  | zero => intro A B cnt n as bs al bl hA; omega
  | succ m ih =>
    intro A B cnt n as bs al bl hA hn hc hA0 ha hb
    obtain ⟨n, rfl⟩ : ∃ k, n = k + 1 := ⟨n - 1, by omega⟩
    generalize hF : jfix (fX1_share_b62 u g1 g2 g3 g4 g5 h1 h2 h3 h4 rec46) (n + 1) = F
    have hF2 : F = fX1_share_b62 u g1 g2 g3 g4 g5 h1 h2 h3 h4 rec46 (jfix (fX1_share_b62 u g1 g2 g3 g4 g5 h1 h2 h3 h4 rec46) n) := hF ▸ rfl
    rw [hF2]
    have ih2 := fun A B cnt as bs al bl => ih A B cnt n as bs al bl
    generalize jfix (fX1_share_b62 u g1 g2 g3 g4 g5 h1 h2 h3 h4 rec46) n = rec at ih2 ⊢
    unfold fX1_share_b62 fX1_share_b103
    dsimp only
    rw [show (1000 : Int32) = nI 1000 from rfl, if_neg (nI_ge (show cnt < 1000 by omega) (by decide)), areC hu (by omega) (by omega) ha hb, ob_s]
    by_cases c : p ∣ A ∧ p ∣ B
    · rw [if_pos c, if_neg one0]
      obtain ⟨r, r1, r2⟩ := divC (p := p) hu (by omega) (by omega) ha
      obtain ⟨s, s1, s2⟩ := divC (p := p) hu (by omega) (by omega) hb
      rw [r1, s1, ob_s, ob_s, blet_s, nI_1]
      have eA : A = A / p * p := (Nat.div_mul_cancel c.1).symm
      have eB : B = B / p * p := (Nat.div_mul_cancel c.2).symm
      have hA2 : A / p * 2 ≤ A / p * p := Nat.mul_le_mul_left _ hp2
      have hAp : 0 < A / p := by
        rcases Nat.eq_zero_or_pos (A / p) with z | z
        · rw [z, Nat.zero_mul] at eA
          omega
        · exact z
      rw [Nat.pow_succ] at hA
      obtain ⟨q, A2, B2, t, x1, x2, x3, x4, x5, x6, x7⟩ := ih2 (A / p) (B / p) (cnt + 1) r.1 s.1 r.2 s.2 (by omega) (by omega) (by omega) hAp r2 s2
      exact ⟨q, A2, B2, t * p, x1, x2, x3, by rw [← Nat.mul_assoc, ← x4]; exact eA, by rw [← Nat.mul_assoc, ← x5]; exact eB, x6, x7⟩
    · rw [if_neg c, if_pos rfl, blet_s, nI_1]
      exact ⟨(as, bs, al, bl), A, B, 1, rfl, ha, hb, (Nat.mul_one A).symm, (Nat.mul_one B).symm, c, hA0⟩
theorem shareC {u : Nat} (hu : 4000000 ≤ u) {w a : Nat} {b1s b2s : Int32} {b1l b2l : Nat → Int32} (sg as bs : Int32) (al bl : Nat → Int32) (hw : Nt b1l b1s w) (ha : Nt b2l b2s a) (ha0 : 0 < a) (Hw : 0 < w → ∀ g, (∀ i, i < 8 → ¬ prL.getD i 0 ∣ g) → g ∣ w → g = 1) : ∃ r, fX1_share u sg b1s b2s as bs b1l b2l al bl = some r ∧ r.1 = (if w = 0 then 0 else 1) ∧ Nt r.2.2.2.1 r.2.1 (w / Nat.gcd w a) ∧ Nt r.2.2.2.2 r.2.2.1 (a / Nat.gcd w a) := by
  have hw' := hw
  obtain ⟨n, n6, en, nD, nz⟩ := hw
  unfold fX1_share
  by_cases c : w = 0
  · subst c
    rw [en, sz_0 nz, if_pos (show nI 0 = 0 from rfl)]
    obtain ⟨r, r1, r2, r3, r4⟩ := setF hu (n := 0) (w := 1) (b := false) (by decide) (by decide) (by decide) (fun z => absurd z (by decide)) sg as bs al bl
    rw [show fX1_set u 0 1 sg as bs al bl = some r from r1, ob_s, if_pos rfl, Nat.gcd_zero_left, Nat.zero_div, Nat.div_self ha0]
    exact ⟨_, rfl, r2, r3, r4⟩
  · have hw0 : 0 < w := Nat.pos_of_ne_zero c
    have hn0 := sz_p nz hw0
    rw [if_neg (by rw [en]; exact nI_ne0 hn0 (by omega)), if_neg c]
    obtain ⟨p, p1, p2⟩ := cpyC (f := al) (sa := as) hw'
    obtain ⟨q, q1, q2⟩ := cpyC (f := bl) (sa := bs) ha
    rw [p1, ob_s, q1, ob_s]
    refine jfix_cn (fun i (x : Int32 × Int32 × Int32 × Int32 × Int32 × (Nat → Int32) × (Nat → Int32)) => x.1 = 8 ∧ x.2.1 = nI i ∧ x.2.2.1 = 1 ∧ ∃ A B t, Nt x.2.2.2.2.2.1 x.2.2.2.1 A ∧ Nt x.2.2.2.2.2.2 x.2.2.2.2.1 B ∧ w = A * t ∧ a = B * t ∧ 0 < A ∧ ∀ j, j < i → ¬ (prL.getD j 0 ∣ A ∧ prL.getD j 0 ∣ B)) 8 _ ?_ ?_ (by omega) ⟨rfl, rfl, rfl, w, a, 1, p2, q2, (Nat.mul_one w).symm, (Nat.mul_one a).symm, hw0, fun _ h => absurd h (Nat.not_lt_zero _)⟩
    · rintro i hi rec ⟨x0, x1, x2, x3, x4, x5, x6⟩ ⟨e0, e1, e2, A, B, t, k1, k2, k3, k4, k5, k6⟩
      dsimp only at e0 e1 e2 k1 k2
      subst e0 e1 e2
      have hpr := pr_t ⟨i, hi⟩
      simp only at hpr
      obtain ⟨y, A2, B2, t2, y1, y2, y3, y4, y5, y6, y7⟩ := sh62 (i := i) (g1 := sg) (g2 := b1s) (g3 := b2s) (g4 := as) (g5 := bs) (h1 := b1l) (h2 := b2l) (h3 := al) (h4 := bl) hu rec hpr.2.1 hpr.2.2 1 180 A B 0 u x3 x4 x5 x6 (Nat.lt_of_lt_of_le (Nt_b k1) (by decide)) (by omega) (by omega) k5 k1 k2
      unfold fX1_share_b46
      dsimp only
      rw [show (8 : Int32) = nI 8 from rfl, if_neg (nI_ge hi (by decide)), jgN hi (by omega), nI_clamp (by omega), hpr.1, blet_s]
      refine ⟨_, y1, rfl, rfl, rfl, A2, B2, t2 * t, y2, y3, by rw [← Nat.mul_assoc, ← y4]; exact k3, by rw [← Nat.mul_assoc, ← y5]; exact k4, y7, fun j hj => ?_⟩
      by_cases z : j = i
      · rw [z]
        exact y6
      · intro d
        refine k6 j (by omega) ⟨?_, ?_⟩
        · rw [y4]
          exact Nat.dvd_mul_right_of_dvd d.1 t2
        · rw [y5]
          exact Nat.dvd_mul_right_of_dvd d.2 t2
    · rintro rec ⟨x0, x1, x2, x3, x4, x5, x6⟩ ⟨e0, e1, e2, A, B, t, k1, k2, k3, k4, k5, k6⟩
      dsimp only at e0 e1 e2 k1 k2
      subst e0 e1 e2
      unfold fX1_share_b46
      dsimp only
      rw [if_pos (show (8 : Int32) ≤ nI 8 by decide)]
      have hg1 : Nat.gcd A B = 1 := by
        refine Hw hw0 _ (fun j hj d => k6 j hj ⟨Nat.dvd_trans d (Nat.gcd_dvd_left A B), Nat.dvd_trans d (Nat.gcd_dvd_right A B)⟩) ?_
        rw [k3]
        exact Nat.dvd_mul_right_of_dvd (Nat.gcd_dvd_left A B) t
      have hg : Nat.gcd w a = t := by
        rw [k3, k4, Nat.gcd_mul_right, hg1, Nat.one_mul]
      have ht : 0 < t := by
        rcases Nat.eq_zero_or_pos t with z | z
        · rw [z, Nat.mul_zero] at k3
          omega
        · exact z
      rw [hg, k3, k4, Nat.mul_div_cancel _ ht, Nat.mul_div_cancel _ ht]
      exact ⟨_, rfl, rfl, k1, k2⟩
/-! the weight of a story -/
def wvN (c pr K : Nat) : Nat → Nat
  | 0 => pr
  | i + 1 => wvN c pr K i * (if i < K then c else 20 - c)
theorem wv_b {c pr K : Nat} (hc : c ≤ 20) (hp : pr ≤ 9) : ∀ i, i ≤ 30 → wvN c pr K i ≤ 9 * 20 ^ i := by
  intro i
  induction i with
  | zero => intro _; rw [Nat.pow_zero]; exact hp
  | succ i ih =>
    intro hi
    have h1 := ih (by omega)
    rw [Nat.pow_succ, ← Nat.mul_assoc]
    refine Nat.mul_le_mul h1 ?_
    split <;> omega
theorem wv_5 {c pr K : Nat} (hc : c ≤ 20) (hp : pr ≤ 9) {i : Nat} (hi : i ≤ 30) : wvN c pr K i * 20 < 1073741824 ^ 5 := by
  have h1 := wv_b (K := K) hc hp i hi
  have h2 : 20 ^ i ≤ 20 ^ 30 := Nat.pow_le_pow_right (by decide) hi
  have h3 : 9 * 20 ^ 30 * 20 < 1073741824 ^ 5 := by decide
  omega
theorem wv_c {c pr K : Nat} (hc : c ≤ 20) (hp : pr ≤ 9) {g : Nat} (hg : ∀ d, 1 ≤ d → d ≤ 20 → Nat.Coprime d g) : ∀ i, 0 < wvN c pr K i → Nat.Coprime (wvN c pr K i) g := by
  intro i
  induction i with
  | zero => intro h; exact hg pr h (by omega)
  | succ i ih =>
    intro h
    have e : wvN c pr K (i + 1) = wvN c pr K i * (if i < K then c else 20 - c) := rfl
    rw [e] at h ⊢
    have h1 : 0 < wvN c pr K i := Nat.pos_of_mul_pos_right h
    have h2 : 0 < (if i < K then c else 20 - c) := Nat.pos_of_mul_pos_left h
    exact Nat.Coprime.mul_left (ih h1) (hg _ h2 (by split <;> omega))
def TrB (N : Nat → Int32) (n K : Nat) (c pr : Nat → Nat) : Prop := N 48 = nI n ∧ N 49 = nI K ∧ n ≤ 30 ∧ K ≤ n ∧ ∀ s, s < 4 → N (40 + 2 * s) = nI (c s) ∧ N (40 + 2 * s + 1) = nI (pr s) ∧ c s ≤ 20 ∧ pr s ≤ 9
theorem TrB_of {N : Nat → Int32} (I : InvN N) : ∃ n K c pr, TrB N n K c pr := by
  have h5 := I.2.2.2.2.2.1
  obtain ⟨a1, a2, a3⟩ := rg_t (A := 0) (B := 30) h5.1
  have h6 := h5.2
  rw [a1, nI_toInt (by omega)] at h6
  obtain ⟨b1, b2, b3⟩ := rg_t (A := 0) (B := (N 48).toNatClampNeg) h6
  refine ⟨_, _, fun s => (N (40 + 2 * s)).toNatClampNeg, fun s => (N (40 + 2 * s + 1)).toNatClampNeg, a1, b1, a3, b3, fun s hs => ?_⟩
  have h := I.2.2.2.2.1 s hs
  obtain ⟨c1, c2, c3⟩ := rg_t (A := 0) (B := 20) h.1
  obtain ⟨d1, d2, d3⟩ := rg_t (A := 0) (B := 9) h.2
  exact ⟨c1, d1, c3, d3⟩
theorem weC {u : Nat} (hu : 4000000 ≤ u) {N : Nat → Int32} {n K s : Nat} {c pr : Nat → Nat} (h : TrB N n K c pr) (hs : s < 4) (sz : Int32) (f : Nat → Int32) : ∃ r, fX4_weigh u (nI s) sz 4 1 f (cw 40 N) (cw 48 N) = some r ∧ Nt r.2 r.1 (wvN (c s) (pr s) K n) := by
  obtain ⟨h48, h49, hn, hK, hst⟩ := h
  obtain ⟨e1, e2, hc, hp⟩ := hst s hs
  have f1 : cw 40 N (s * 2 + 0) = nI (c s) := by rw [← e1]; unfold cw; congr 1; omega
  have f2 : cw 40 N (s * 2 + 1) = nI (pr s) := by rw [← e2]; unfold cw; congr 1; omega
  have f3 : cw 48 N (0 * 2 + 0) = nI n := h48
  have f4 : cw 48 N (0 * 2 + 1) = nI K := h49
  obtain ⟨r, r1, r2⟩ := setC hu sz f (show pr s < 2 ^ 63 by omega)
  unfold fX4_weigh
  simp (disch := omega) only [blet_s, ob_s, lit32, litL, jgN, nI_add, mulN, clampN, cell7, f1, f2, f3, f4, toL, r1]
  refine jfix_cn (fun i (p : Int32 × Int32 × Int32 × Int32 × Int32 × (Nat → Int32)) => p.1 = nI (c s) ∧ p.2.1 = nI n ∧ p.2.2.1 = nI K ∧ p.2.2.2.1 = nI i ∧ Nt p.2.2.2.2.2 p.2.2.2.2.1 (wvN (c s) (pr s) K i)) n _ ?_ ?_ (by omega) ⟨rfl, rfl, rfl, rfl, r2⟩
  · rintro i hi rec ⟨a, b, d, e, z, g⟩ ⟨k1, k2, k3, k4, k5⟩
    dsimp only at k1 k2 k3 k4 k5
    subst k1 k2 k3 k4
    have hb := wv_5 (K := K) hc hp (i := i) (by omega)
    have key : ∀ m, m = (if i < K then c s else 20 - c s) → ∃ q, fX4_weigh_b78 u (nI s) sz 4 1 f (cw 40 N) (cw 48 N) rec (nI (c s), nI n, nI K, nI i, nI m, z, g) = rec q ∧ (q.1 = nI (c s) ∧ q.2.1 = nI n ∧ q.2.2.1 = nI K ∧ q.2.2.2.1 = nI (i + 1) ∧ Nt q.2.2.2.2.2 q.2.2.2.2.1 (wvN (c s) (pr s) K (i + 1))) := by
      intro m hm
      have hm20 : m ≤ 20 := by rw [hm]; split <;> omega
      have hmul : wvN (c s) (pr s) K i * m < 1073741824 ^ 6 := Nat.lt_of_le_of_lt (Nat.mul_le_mul_left _ hm20) (Nat.lt_trans hb (by decide))
      obtain ⟨x, x1, x2⟩ := mulC hu (show m ≤ 1000 by omega) k5 hmul
      unfold fX4_weigh_b78
      dsimp only
      rw [x1, ob_s, blet_s, nI_1]
      refine ⟨_, rfl, rfl, rfl, rfl, rfl, ?_⟩
      rw [hm] at x2
      exact x2
    unfold fX4_weigh_b52
    dsimp only
    rw [if_neg (nI_ge hi (by omega)), show (20 : Int32) = nI 20 from rfl, subN hc]
    simp only [leN (show K < 2 ^ 31 by omega) (show i < 2 ^ 31 by omega)]
    by_cases y : K ≤ i
    · rw [if_pos y]
      exact key _ (by rw [if_neg (by omega)])
    · rw [if_neg y]
      exact key _ (by rw [if_pos (by omega)])
  · rintro rec ⟨a, b, d, e, z, g⟩ ⟨k1, k2, k3, k4, k5⟩
    dsimp only at k1 k2 k3 k4 k5
    subst k1 k2 k3 k4
    unfold fX4_weigh_b52
    dsimp only
    rw [if_pos (nI_le (Nat.le_refl n) (by omega))]
    exact ⟨_, rfl, k5⟩
theorem weR {u : Nat} (hu : 4000000 ≤ u) {N : Nat → Int32} {n K s t : Nat} {c pr : Nat → Nat} (h : TrB N n K c pr) (hs : s < 4) (ht : t < 10) (L : Nat → Int64) (S : Nat → Int32) : ∃ r, fX9_weigh u (nI t) (nI s) L N S = some r ∧ (Sl r.1 r.2 t (wvN (c s) (pr s) K n) ∧ Fr t L r.1 S r.2) := by
  obtain ⟨h48, h49, hn, hK, hst⟩ := h
  obtain ⟨e1, e2, hc, hp⟩ := hst s hs
  obtain ⟨r, r1, r2, r3⟩ := setR hu L S ht (show pr s < 2 ^ 63 by omega)
  unfold fX9_weigh
  simp (disch := omega) only [blet_s, ob_s, lit32, litL, jgN, nI_add, mulN, clampN, e2, toL, r1]
  refine jfix_cn (fun i (p : Int32 × (Nat → Int64) × (Nat → Int32)) => p.1 = nI i ∧ Sl p.2.1 p.2.2 t (wvN (c s) (pr s) K i) ∧ Fr t L p.2.1 S p.2.2) n _ ?_ ?_ (by omega) ⟨rfl, r2, r3⟩
  · rintro i hi rec ⟨a, Lp, Sp⟩ ⟨k1, k2, k3⟩
    dsimp only at k1 k2 k3
    subst k1
    have hb := wv_5 (K := K) hc hp (i := i) (by omega)
    have key : ∀ m, m = (if i < K then c s else 20 - c s) → ∃ q, fX9_weigh_b70 u (nI t) (nI s) L N S rec (nI i, nI t, lN m, Lp, Sp) = rec q ∧ (q.1 = nI (i + 1) ∧ Sl q.2.1 q.2.2 t (wvN (c s) (pr s) K (i + 1)) ∧ Fr t L q.2.1 S q.2.2) := by
      intro m hm
      have hm20 : m ≤ 20 := by rw [hm]; split <;> omega
      have hmul : wvN (c s) (pr s) K i * m < 1073741824 ^ 6 := Nat.lt_of_le_of_lt (Nat.mul_le_mul_left _ hm20) (Nat.lt_trans hb (by decide))
      obtain ⟨x, x1, x2, x3⟩ := timesR hu ht (show m < 1073741824 by omega) k2 hmul
      unfold fX9_weigh_b70
      dsimp only
      rw [x1, ob_s, blet_s, nI_1]
      refine ⟨_, rfl, rfl, ?_, Fr_t k3 x3⟩
      rw [hm] at x2
      exact x2
    unfold fX9_weigh_b21
    simp (disch := omega) only [blet_s, ob_s, lit32, litL, jgN, nI_add, mulN, clampN, h48, h49, e1, leN, show ¬ n ≤ i by omega, if_false, subN, toL]
    by_cases y : K ≤ i
    · rw [if_pos y]
      exact key _ (by rw [if_neg (by omega)])
    · rw [if_neg y]
      exact key _ (by rw [if_pos (by omega)])
  · rintro rec ⟨a, Lp, Sp⟩ ⟨k1, k2, k3⟩
    dsimp only at k1 k2 k3
    subst k1
    unfold fX9_weigh_b21
    simp (disch := omega) only [blet_s, ob_s, lit32, litL, jgN, nI_add, mulN, clampN, h48, leN, Nat.le_refl, if_true]
    exact ⟨_, rfl, k2, k3⟩
