def smN (V : Nat → Nat) : Nat → Nat
  | 0 => 0
  | k + 1 => smN V k + V k
def mxN (V : Nat → Nat) : Nat → Nat × Nat
  | 0 => (0, 0)
  | k + 1 => if (mxN V k).1 < V k then (V k, k) else mxN V k
theorem smN_b {V : Nat → Nat} {M : Nat} {n : Nat} (h : ∀ k, k < n → V k ≤ M) : ∀ k, k ≤ n → smN V k ≤ M * k := by
  intro k
  induction k with
  | zero => intro _; exact Nat.le_refl _
  | succ k ih =>
    intro hk
    have h1 := ih (by omega)
    have h2 := h k (by omega)
    show smN V k + V k ≤ M * (k + 1)
    rw [Nat.mul_add, Nat.mul_one]
    omega
theorem mxN_s {V : Nat → Nat} : ∀ k, ((mxN V k).1 = 0 ↔ smN V k = 0) ∧ (mxN V k).2 ≤ k ∧ (0 < (mxN V k).1 → (mxN V k).2 < k) := by
  intro k
  induction k with
  | zero => exact ⟨⟨fun _ => rfl, fun _ => rfl⟩, Nat.le_refl _, fun h => absurd h (Nat.lt_irrefl 0)⟩
  | succ k ih =>
    have e : mxN V (k + 1) = if (mxN V k).1 < V k then (V k, k) else mxN V k := rfl
    have e2 : smN V (k + 1) = smN V k + V k := rfl
    rw [e, e2]
    by_cases c : (mxN V k).1 < V k
    · rw [if_pos c]
      dsimp only
      omega
    · rw [if_neg c]
      have := ih.1
      omega
def wV (N : Nat → Int32) (n K : Nat) (c pr : Nat → Nat) (s : Nat) : Nat := wvN (c s) (pr s) K n
theorem wV_b {N : Nat → Int32} {n K : Nat} {c pr : Nat → Nat} (h : TrB N n K c pr) {s : Nat} (hs : s < 4) : wV N n K c pr s ≤ 9 * 20 ^ 30 := by
  obtain ⟨e1, e2, hc, hp⟩ := h.2.2.2.2 s hs
  refine Nat.le_trans (wv_b hc hp n h.2.2.1) ?_
  exact Nat.mul_le_mul_left 9 (Nat.pow_le_pow_right (by decide) h.2.2.1)
theorem sm_5 {N : Nat → Int32} {n K : Nat} {c pr : Nat → Nat} (h : TrB N n K c pr) {k : Nat} (hk : k ≤ 4) : smN (wV N n K c pr) k < 1073741824 ^ 5 := by
  have h1 := smN_b (V := wV N n K c pr) (n := 4) (fun s hs => wV_b h hs) k hk
  have h2 : 9 * 20 ^ 30 * 4 < 1073741824 ^ 5 := by decide
  have h3 : 9 * 20 ^ 30 * k ≤ 9 * 20 ^ 30 * 4 := Nat.mul_le_mul_left _ hk
  omega
theorem waC {u : Nat} (hu : 4000000 ≤ u) {N : Nat → Int32} {n K : Nat} {c pr : Nat → Nat} (h : TrB N n K c pr) (hv as ms os : Int32) (al ml ol : Nat → Int32) : ∃ r, fX4_weighAll u hv as ms os 4 1 al ml ol (cw 40 N) (cw 48 N) = some r ∧ r.1 = (if smN (wV N n K c pr) 4 = 0 then 0 else 1) ∧ r.2.1 = nI (mxN (wV N n K c pr) 4).2 ∧ Nt r.2.2.2.2.2.1 r.2.2.1 (smN (wV N n K c pr) 4) := by
  obtain ⟨a, a1, a2⟩ := setC hu as al (show 0 < 2 ^ 63 by decide)
  obtain ⟨b, b1, b2⟩ := setC hu ms ml (show 0 < 2 ^ 63 by decide)
  unfold fX4_weighAll
  rw [show fX3_set u 0 as al = some a from a1, ob_s, show fX3_set u 0 ms ml = some b from b1, ob_s]
  refine jfix_cn (fun k (p : Int32 × Int32 × Int32 × Int32 × Int32 × (Nat → Int32) × (Nat → Int32) × (Nat → Int32)) => p.1 = nI k ∧ p.2.1 = nI (mxN (wV N n K c pr) k).2 ∧ Nt p.2.2.2.2.2.1 p.2.2.1 (smN (wV N n K c pr) k) ∧ Nt p.2.2.2.2.2.2.1 p.2.2.2.1 (mxN (wV N n K c pr) k).1) 4 _ ?_ ?_ (by omega) ⟨rfl, rfl, a2, b2⟩
  · rintro k hk rec ⟨x0, x1, x2, x3, x4, x5, x6, x7⟩ ⟨e0, e1, e2, e3⟩
    dsimp only at e0 e1 e2 e3
    subst e0 e1
    obtain ⟨w, w1, w2⟩ := weC hu h hk x4 x7
    have hs5 := sm_5 h (show k + 1 ≤ 4 by omega)
    obtain ⟨s, s1, s2⟩ := addC hu e2 w2 hs5
    have hab := aboC hu w2 e3
    have em : mxN (wV N n K c pr) (k + 1) = if (mxN (wV N n K c pr) k).1 < wvN (c k) (pr k) K n then (wvN (c k) (pr k) K n, k) else mxN (wV N n K c pr) k := rfl
    unfold fX4_weighAll_b23 fX4_weighAll_b75
    dsimp only
    rw [if_neg (show ¬ (4 : Int32) ≤ nI k from nI_ge (b := 4) hk (by decide)), w1, ob_s, s1, ob_s, hab, ob_s]
    by_cases z : (mxN (wV N n K c pr) k).1 < wvN (c k) (pr k) K n
    · rw [if_pos z, if_neg one0]
      obtain ⟨q, q1, q2⟩ := cpyC (f := x6) (sa := x3) w2
      rw [q1, ob_s, blet_s, nI_1]
      refine ⟨_, rfl, rfl, ?_, s2, ?_⟩
      · dsimp only
        rw [em, if_pos z]
      · dsimp only
        rw [em, if_pos z]
        exact q2
    · rw [if_neg z, if_pos rfl, blet_s, nI_1]
      refine ⟨_, rfl, rfl, ?_, s2, ?_⟩
      · dsimp only
        rw [em, if_neg z]
      · dsimp only
        rw [em, if_neg z]
        exact e3
  · rintro rec ⟨x0, x1, x2, x3, x4, x5, x6, x7⟩ ⟨e0, e1, e2, e3⟩
    dsimp only at e0 e1 e2 e3
    subst e0 e1
    unfold fX4_weighAll_b23
    dsimp only
    rw [if_pos (show (4 : Int32) ≤ nI 4 by decide)]
    have e2' := e2
    obtain ⟨m, m6, em, mD, mz⟩ := e2
    by_cases z : smN (wV N n K c pr) 4 = 0
    · rw [z] at mz
      have hm := sz_0 mz
      rw [if_pos z, if_pos (by rw [em, hm]; decide)]
      exact ⟨_, rfl, rfl, rfl, e2'⟩
    · have hm := sz_p mz (Nat.pos_of_ne_zero z)
      rw [if_neg z, if_neg (by rw [em]; exact nI_nle hm (by omega))]
      exact ⟨_, rfl, rfl, rfl, e2'⟩
theorem Rel_fk {N K Z rf : Nat → Int32} {sg : Int32} {Lm L2 : Nat → Int64} {S S2 cal cbl : Nat → Int32} (rf2 : Nat → Int32) (hR : RelC N K Z rf sg Lm S cal cbl) (h : ∀ k, k < 128 → L2 k = Lm k) (h0 : S2 0 = S 0) (h1 : S2 1 = S 1) : RelAll N K Z rf2 sg L2 S2 (N 392) (N 393) (N 394) 4 1 (N 395) 1 (N 396) (N 397) 1 3 8 (N 191) (cw 0 N) (cw 12 N) (cw 24 N) (cw 40 N) (cw 48 N) (cw 50 N) (cw 98 N) (cw 99 N) (cw 147 N) (cw 153 N) (cw 154 N) (cw 175 N) (cw 192 N) rf2 sg (S 0) (S 1) cal cbl := by
  obtain ⟨a, b, c, d, e1, e2, e3, e4, e5, e6, e7⟩ := hR
  have k0 : (S 0).toNatClampNeg ≤ 6 := by
    obtain ⟨n, en, hn⟩ := rg_N (B := 6) e4
    rw [en, nI_clamp (by omega)]
    exact hn
  have k1 : (S 1).toNatClampNeg ≤ 6 := by
    obtain ⟨n, en, hn⟩ := rg_N (B := 6) e5
    rw [en, nI_clamp (by omega)]
    exact hn
  refine ⟨a, b, c, fun _ _ => rfl, rfl, h0.symm, h1.symm, by rw [h0]; exact e4, by rw [h1]; exact e5, ?_, ?_⟩
  · rw [h0]
    intro k hk
    rw [h k (by omega)]
    exact e6 k hk
  · rw [h1]
    intro k hk
    rw [h _ (by omega)]
    exact e7 k hk
/-- all but the first two slots -/
def Fo (L L2 : Nat → Int64) (S S2 : Nat → Int32) : Prop := (∀ k, k < 128 → L2 k = L k) ∧ S2 0 = S 0 ∧ S2 1 = S 1
theorem Fo_t {L L2 L3 : Nat → Int64} {S S2 S3 : Nat → Int32} (h : Fo L L2 S S2) (h2 : Fo L2 L3 S2 S3) : Fo L L3 S S3 := ⟨fun k hk => (h2.1 k hk).trans (h.1 k hk), h2.2.1.trans h.2.1, h2.2.2.trans h.2.2⟩
theorem Fo_of {t : Nat} {L L2 : Nat → Int64} {S S2 : Nat → Int32} (ht : 2 ≤ t) (h : Fr t L L2 S S2) : Fo L L2 S S2 := ⟨fun k hk => h.1 k (Or.inl (by omega)), h.2 0 (by omega), h.2 1 (by omega)⟩
theorem pv_parts (u : Nat) (hu : 4000000 ≤ u) (N K Z rf : Nat → Int32) (sg : Int32) (Lm : Nat → Int64) (S cal cbl : Nat → Int32) (xweights_heaviest xweights_all_size xweights_most_size xweights_one_size : Int32) (xweights_all_limbs xweights_most_limbs xweights_one_limbs : Nat → Int32) (hR : RelC N K Z rf sg Lm S cal cbl) : ∃ (rc : Int32 × (Nat → Int32) × Int32 × Int32 × Int32 × Int32 × (Nat → Int32) × (Nat → Int32) × (Nat → Int32)) (rm : Int32 × (Nat → Int64) × (Nat → Int32) × (Nat → Int32)), fX8_parts u rf xweights_heaviest (4 : Int32) (1 : Int32) xweights_all_size xweights_most_size xweights_one_size (cw 40 N) (cw 48 N) xweights_all_limbs xweights_most_limbs xweights_one_limbs = some rc ∧ fX9_parts u Lm N rf S = some rm ∧ rc.1 = rm.1 ∧ RelAll N K Z rm.2.2.1 sg rm.2.1 rm.2.2.2 (N 392) (N 393) (N 394) (4 : Int32) (1 : Int32) (N 395) (1 : Int32) (N 396) (N 397) (1 : Int32) (3 : Int32) (8 : Int32) (N 191) (cw 0 N) (cw 12 N) (cw 24 N) (cw 40 N) (cw 48 N) (cw 50 N) (cw 98 N) (cw 99 N) (cw 147 N) (cw 153 N) (cw 154 N) (cw 175 N) (cw 192 N) rc.2.1 sg (S 0) (S 1) cal cbl := by
  obtain ⟨n, q, c, pr, h⟩ := TrB_of hR.1
  have hm := mxN_s (V := wV N n q c pr) 4
  obtain ⟨r, r1, r2, r3, r4⟩ := waC hu h xweights_heaviest xweights_all_size xweights_most_size xweights_one_size xweights_all_limbs xweights_most_limbs xweights_one_limbs
  obtain ⟨a, a1, a2, a3⟩ := setR hu Lm S (show 6 < 10 by decide) (show 0 < 2 ^ 63 by decide)
  unfold fX8_parts fX9_parts
  rw [r1, ob_s, show fX9_set u 6 0 Lm S = some a from a1, ob_s]
  have hs : ∃ s : Int32 × (Nat → Int64) × (Nat → Int32) × (Nat → Int32), jfix (fX9_parts_b11 u Lm N rf S) u (-1, 0, a.1, rf, a.2) = some s ∧ (s.1 = (if (mxN (wV N n q c pr) 4).1 = 0 then -3 else nI (mxN (wV N n q c pr) 4).2) ∧ Fo Lm s.2.1 S s.2.2.2 ∧ s.2.2.1 = (if (mxN (wV N n q c pr) 4).1 = 0 then upd rf 1 (rf 1 + 1) else rf)) := by
    refine jfix_cn (fun k (p : Int32 × Int32 × (Nat → Int64) × (Nat → Int32) × (Nat → Int32)) => p.1 = (if (mxN (wV N n q c pr) k).1 = 0 then -1 else nI (mxN (wV N n q c pr) k).2) ∧ p.2.1 = nI k ∧ p.2.2.2.1 = rf ∧ Sl p.2.2.1 p.2.2.2.2 6 (mxN (wV N n q c pr) k).1 ∧ Fo Lm p.2.2.1 S p.2.2.2.2) 4 _ ?_ ?_ (by omega) ⟨rfl, rfl, rfl, a2, Fo_of (by decide) a3⟩
    · rintro k hk rec ⟨x0, x1, x2, x3, x4⟩ ⟨e0, e1, e2, e3, e4⟩
      dsimp only at e0 e1 e2 e3 e4
      subst e0 e1 e2
      obtain ⟨w, w1, w2, w3⟩ := weR hu h hk (show 2 < 10 by decide) x2 x4
      have e3' := Sl_fr w3 (by decide) e3
      have em : mxN (wV N n q c pr) (k + 1) = if (mxN (wV N n q c pr) k).1 < wvN (c k) (pr k) q n then (wvN (c k) (pr k) q n, k) else mxN (wV N n q c pr) k := rfl
      unfold fX9_parts_b11 fX9_parts_b41
      dsimp only
      rw [if_neg (show ¬ (4 : Int32) ≤ nI k from nI_ge (b := 4) hk (by decide)), show fX9_weigh u 2 (nI k) x2 N x4 = some w from w1, ob_s, show fX9_compare u 2 6 w.1 w.2 = _ from cmpR hu (show 2 < 10 by decide) (show 6 < 10 by decide) w2 e3', ob_s]
      by_cases z : (mxN (wV N n q c pr) k).1 < wvN (c k) (pr k) q n
      · have ec : ¬ (if wvN (c k) (pr k) q n < (mxN (wV N n q c pr) k).1 then (-1 : Int32) else if wvN (c k) (pr k) q n = (mxN (wV N n q c pr) k).1 then 0 else 1) ≤ 0 := by
          rw [if_neg (by omega), if_neg (by omega)]
          decide
        rw [if_neg ec]
        obtain ⟨y, y1, y2, y3⟩ := copyR hu (show 6 < 10 by decide) (show 2 < 10 by decide) (by decide) w2
        rw [show fX9_copy u 6 2 w.1 w.2 = some y from y1, ob_s, blet_s, nI_1]
        refine ⟨_, rfl, ?_, rfl, rfl, ?_, Fo_t e4 (Fo_t (Fo_of (by decide) w3) (Fo_of (by decide) y3))⟩
        · dsimp only
          rw [em, if_pos z, if_neg (show ¬ wvN (c k) (pr k) q n = 0 by omega)]
        · dsimp only
          rw [em, if_pos z]
          exact y2
      · have ec : (if wvN (c k) (pr k) q n < (mxN (wV N n q c pr) k).1 then (-1 : Int32) else if wvN (c k) (pr k) q n = (mxN (wV N n q c pr) k).1 then 0 else 1) ≤ 0 := by
          by_cases y : wvN (c k) (pr k) q n < (mxN (wV N n q c pr) k).1
          · rw [if_pos y]; decide
          · rw [if_neg y, if_pos (by omega)]; decide
        rw [if_pos ec, blet_s, nI_1]
        refine ⟨_, rfl, ?_, rfl, rfl, ?_, Fo_t e4 (Fo_of (by decide) w3)⟩
        · dsimp only
          rw [em, if_neg z]
        · dsimp only
          rw [em, if_neg z]
          exact e3'
    · rintro rec ⟨x0, x1, x2, x3, x4⟩ ⟨e0, e1, e2, e3, e4⟩
      dsimp only at e0 e1 e2 e3 e4
      subst e0 e1 e2
      unfold fX9_parts_b11
      dsimp only
      rw [if_pos (show (4 : Int32) ≤ nI 4 by decide)]
      by_cases z : (mxN (wV N n q c pr) 4).1 = 0
      · rw [if_pos z, if_pos rfl]
        exact ⟨_, rfl, by rw [if_pos z], e4, by rw [if_pos z]; rfl⟩
      · rw [if_neg z, if_neg (nI_nm (by omega))]
        exact ⟨_, rfl, by rw [if_neg z], e4, by rw [if_neg z]⟩
  obtain ⟨s, s1, s2, s3, s4⟩ := hs
  by_cases z : smN (wV N n q c pr) 4 = 0
  · have z2 := hm.1.mpr z
    rw [if_pos z] at r2
    rw [if_pos z2] at s2 s4
    rw [r2, if_pos rfl]
    refine ⟨_, s, rfl, s1, s2.symm, ?_⟩
    rw [s4]
    exact Rel_fk _ hR s3.1 s3.2.1 s3.2.2
  · have z2 : ¬ (mxN (wV N n q c pr) 4).1 = 0 := fun y => z (hm.1.mp y)
    rw [if_neg z] at r2
    rw [if_neg z2] at s2 s4
    rw [r2, if_neg one0]
    refine ⟨_, s, rfl, s1, r3.trans s2.symm, ?_⟩
    rw [s4]
    exact Rel_fk _ hR s3.1 s3.2.1 s3.2.2
theorem pv_odds (u : Nat) (hu : 4000000 ≤ u) (N K Z rf : Nat → Int32) (sg : Int32) (Lm : Nat → Int64) (S cal cbl : Nat → Int32) (xweights_heaviest xweights_all_size xweights_most_size xweights_one_size : Int32) (xweights_all_limbs xweights_most_limbs xweights_one_limbs : Nat → Int32) (p1 : Int32)(hR : RelC N K Z rf sg Lm S cal cbl) : ∃ (rc : Int32 × Int32 × (Nat → Int32) × Int32 × Int32 × Int32 × Int32 × Int32 × Int32 × (Nat → Int32) × (Nat → Int32) × (Nat → Int32) × (Nat → Int32) × (Nat → Int32)) (rm : Int32 × Int32 × (Nat → Int64) × (Nat → Int32) × (Nat → Int32)), fX8_odds u p1 sg rf xweights_heaviest (S 0) (S 1) (4 : Int32) (1 : Int32) xweights_all_size xweights_most_size xweights_one_size cal cbl (cw 40 N) (cw 48 N) xweights_all_limbs xweights_most_limbs xweights_one_limbs = some rc ∧ fX9_odds u p1 sg Lm N rf S = some rm ∧ rc.1 = rm.1 ∧ RelAll N K Z rm.2.2.2.1 rm.2.1 rm.2.2.1 rm.2.2.2.2 (N 392) (N 393) (N 394) (4 : Int32) (1 : Int32) (N 395) (1 : Int32) (N 396) (N 397) (1 : Int32) (3 : Int32) (8 : Int32) (N 191) (cw 0 N) (cw 12 N) (cw 24 N) (cw 40 N) (cw 48 N) (cw 50 N) (cw 98 N) (cw 99 N) (cw 147 N) (cw 153 N) (cw 154 N) (cw 175 N) (cw 192 N) rc.2.2.1 rc.2.1 rc.2.2.2.2.1 rc.2.2.2.2.2.1 rc.2.2.2.2.2.2.2.2.2.1 rc.2.2.2.2.2.2.2.2.2.2.1 := by
  obtain ⟨n, q, c, pr, h⟩ := TrB_of hR.1
  unfold fX8_odds fX9_odds
  rw [isStory9]
  rcases wi p1 0 3 (A := 0) (B := 3) rfl rfl with ⟨e1, h1⟩ | ⟨e1, h1⟩
  · rw [e1, ob_s, if_neg one0, ob_s, if_neg one0]
    obtain ⟨st, rfl, hst⟩ := rg_N (B := 3) h1
    obtain ⟨r, r1, r2, r3, r4⟩ := waC hu h xweights_heaviest xweights_all_size xweights_most_size xweights_one_size xweights_all_limbs xweights_most_limbs xweights_one_limbs
    obtain ⟨a, a1, a2, a3⟩ := setR hu Lm S (show 4 < 10 by decide) (show 0 < 2 ^ 63 by decide)
    rw [r1, ob_s, show fX9_set u 4 0 Lm S = some a from a1, ob_s]
    have hs : ∃ (y : (Nat → Int64) × (Nat → Int32)), jfix (fX9_odds_b22 u (nI st) sg Lm N rf S) u (0, sg, a.1, rf, a.2) = (if smN (wV N n q c pr) 4 = 0 then some (-3, sg, y.1, upd rf 1 (rf 1 + 1), y.2) else ob (fX9_weigh u 2 (nI st) y.1 N y.2) (fun r3 => ob (fX9_tell u 2 4 0 sg r3.1 r3.2) (fun r4 => some (1, r4.1, r4.2.1, rf, r4.2.2)))) ∧ (Sl y.1 y.2 4 (smN (wV N n q c pr) 4) ∧ Fo Lm y.1 S y.2) := by
      refine jfix_cq (fun (y : (Nat → Int64) × (Nat → Int32)) => (if smN (wV N n q c pr) 4 = 0 then some (-3, sg, y.1, upd rf 1 (rf 1 + 1), y.2) else ob (fX9_weigh u 2 (nI st) y.1 N y.2) (fun r3 => ob (fX9_tell u 2 4 0 sg r3.1 r3.2) (fun r4 => some (1, r4.1, r4.2.1, rf, r4.2.2))))) (fun k (p : Int32 × Int32 × (Nat → Int64) × (Nat → Int32) × (Nat → Int32)) => p.1 = nI k ∧ p.2.1 = sg ∧ p.2.2.2.1 = rf ∧ Sl p.2.2.1 p.2.2.2.2 4 (smN (wV N n q c pr) k) ∧ Fo Lm p.2.2.1 S p.2.2.2.2) 4 _ ?_ ?_ (by omega) ⟨rfl, rfl, rfl, a2, Fo_of (by decide) a3⟩
      · rintro k hk rec ⟨x0, x1, x2, x3, x4⟩ ⟨e0, e1, e2, e3, e4⟩
        dsimp only at e0 e1 e2 e3 e4
        subst e0 e1 e2
        obtain ⟨w, w1, w2, w3⟩ := weR hu h hk (show 2 < 10 by decide) x2 x4
        have e3' := Sl_fr w3 (by decide) e3
        have hs5 := sm_5 h (show k + 1 ≤ 4 by omega)
        have b56 : (1073741824 : Nat) ^ 5 < 1073741824 ^ 6 := by decide
        obtain ⟨y, y1, y2, y3⟩ := addR hu (show 4 < 10 by decide) (show 2 < 10 by decide) (by decide) e3' w2 (Nat.lt_trans hs5 b56)
        unfold fX9_odds_b22
        dsimp only
        rw [if_neg (show ¬ (4 : Int32) ≤ nI k from nI_ge (b := 4) hk (by decide)), show fX9_weigh u 2 (nI k) x2 N x4 = some w from w1, ob_s, show fX9_add u 4 2 w.1 w.2 = some y from y1, ob_s, blet_s, nI_1]
        exact ⟨_, rfl, rfl, rfl, rfl, y2, Fo_t e4 (Fo_t (Fo_of (by decide) w3) (Fo_of (by decide) y3))⟩
      · rintro rec ⟨x0, x1, x2, x3, x4⟩ ⟨e0, e1, e2, e3, e4⟩
        dsimp only at e0 e1 e2 e3 e4
        subst e0 e1 e2
        refine ⟨(x2, x4), ?_, e3, e4⟩
        unfold fX9_odds_b22
        dsimp only
        rw [if_pos (show (4 : Int32) ≤ nI 4 by decide), show (4 : Int32) = nI 4 from rfl, jgN (by decide) (by decide), nI_clamp (by decide)]
        simp only [Sl_u e3]
        by_cases z : smN (wV N n q c pr) 4 = 0
        · rw [if_pos z, if_pos z]
          rfl
        · rw [if_neg z, if_neg z]
    obtain ⟨y, y1, y2, y3⟩ := hs
    rw [show jfix (fX9_odds_b22 u (nI st) sg Lm N rf S) u (0, sg, a.1, rf, a.2) = _ from y1]
    by_cases z : smN (wV N n q c pr) 4 = 0
    · rw [if_pos z] at r2
      rw [r2, if_pos rfl, if_pos z]
      exact ⟨_, _, rfl, rfl, rfl, Rel_fk _ hR y3.1 y3.2.1 y3.2.2⟩
    · rw [if_neg z] at r2
      rw [r2, if_neg one0, if_neg z]
      have hsm := sm_5 h (Nat.le_refl 4)
      have hst4 : st < 4 := by omega
      have hwb := wV_b h hst4
      obtain ⟨e1', e2', hc, hp⟩ := h.2.2.2.2 st hst4
      obtain ⟨w, w1, w2⟩ := weC hu h hst4 r.2.2.2.2.1 r.2.2.2.2.2.2.2
      obtain ⟨v, v1, v2, v3⟩ := weR hu h hst4 (show 2 < 10 by decide) y.1 y.2
      obtain ⟨t, t1, t2, t3, t4⟩ := tellR hu 0 sg (show 2 < 7 by decide) (show 4 < 7 by decide) (by decide) (by decide) v2 (Sl_fr v3 (by decide) y2) (Nat.pos_of_ne_zero z) (by
        have h3 : 9 * 20 ^ 30 * 20 < 1073741824 ^ 5 := by decide
        have : wV N n q c pr st = wvN (c st) (pr st) q n := rfl
        omega) hsm
      obtain ⟨x, x1, x2, x3, x4⟩ := shareC hu sg (S 0) (S 1) cal cbl w2 r4 (Nat.pos_of_ne_zero z) (fun hw g hg hd => by
        have cop := wv_c (K := q) hc hp (cop_20 hg) n hw
        exact Nat.Coprime.eq_one_of_dvd (Nat.Coprime.symm cop) hd)
      rw [w1, ob_s, show fX9_weigh u 2 (nI st) y.1 N y.2 = some v from v1, ob_s, x1, ob_s, show fX9_tell u 2 4 0 sg v.1 v.2 = some t from t1, ob_s]
      refine ⟨_, _, rfl, rfl, rfl, Rel_fr hR (RelF_of t3 t4 x3 x4 ?_)⟩
      rw [x2, t2]
      rfl
  · rw [e1, ob_s, if_pos rfl, ob_s, if_pos rfl]
    exact ⟨_, _, rfl, rfl, rfl, Rel_rf _ hR⟩
