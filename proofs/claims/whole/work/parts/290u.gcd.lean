theorem gc_odd {h : Nat} (hh : h % 2 = 1) : Nat.Coprime 2 h := by
  show Nat.gcd 2 h = 1
  rw [Nat.gcd_rec, hh]
  decide
theorem gc_l {g h : Nat} (hg : g % 2 = 0) (hh : h % 2 = 1) : Nat.gcd (g / 2) h = Nat.gcd g h := by
  have e := Nat.Coprime.gcd_mul_left_cancel (g / 2) (gc_odd hh)
  rw [← e]
  congr 1
  omega
theorem gc_r {g h : Nat} (hg : g % 2 = 1) (hh : h % 2 = 0) : Nat.gcd g (h / 2) = Nat.gcd g h := by
  rw [Nat.gcd_comm, gc_l hh hg, Nat.gcd_comm]
theorem gc_b {g h : Nat} (hg : g % 2 = 0) (hh : h % 2 = 0) : Nat.gcd (g / 2) (h / 2) * 2 = Nat.gcd g h := by
  rw [Nat.mul_comm, ← Nat.gcd_mul_left]
  congr 1 <;> omega
def Fs (L L2 : Nat → Int64) (S S2 : Nat → Int32) : Prop := (∀ k, k < 448 → L2 k = L k) ∧ ∀ j, j < 7 → S2 j = S j
theorem Fs_r {L : Nat → Int64} {S : Nat → Int32} : Fs L L S S := ⟨fun _ _ => rfl, fun _ _ => rfl⟩
theorem Fs_t {L L2 L3 : Nat → Int64} {S S2 S3 : Nat → Int32} (h : Fs L L2 S S2) (h2 : Fs L2 L3 S2 S3) : Fs L L3 S S3 := ⟨fun k hk => (h2.1 k hk).trans (h.1 k hk), fun j hj => (h2.2 j hj).trans (h.2 j hj)⟩
theorem Fs_of {s : Nat} {L L2 : Nat → Int64} {S S2 : Nat → Int32} (hs : 7 ≤ s) (h : Fr s L L2 S S2) : Fs L L2 S S2 := ⟨fun k hk => h.1 k (Or.inl (by omega)), fun j hj => h.2 j (by omega)⟩
theorem Sl_fs {t v : Nat} {L L2 : Nat → Int64} {S S2 : Nat → Int32} (h : Fs L L2 S S2) (ht : t < 7) (hs : Sl L S t v) : Sl L2 S2 t v := by
  obtain ⟨n, h1, h2, h3, h4⟩ := hs
  refine ⟨n, h1, (h.2 t ht).trans h2, fun k hk => ?_, h4⟩
  rw [h.1 _ (by omega)]
  exact h3 k hk
theorem Sl_b {t v : Nat} {L : Nat → Int64} {S : Nat → Int32} (h : Sl L S t v) : v < 1073741824 ^ 6 := by
  obtain ⟨n, h1, h2, h3, h4⟩ := h
  exact Nat.lt_of_lt_of_le h4.1 (Nat.pow_le_pow_right (by decide) h1)
theorem gd147 {u : Nat} (hu : 4000000 ≤ u) (q1 q2 : Int32) (L0 : Nat → Int64) (S0 : Nat → Int32) {L : Nat → Int64} {S : Nat → Int32} {g t : Nat} (ht : t ≤ 1000) (h : Sl L S 7 g) (hb : g * 2 ^ t < 1073741824 ^ 6) : ∃ r, jfix (fX9_findDivisor_b147 u q1 q2 L0 S0) u (nI t, 0, L, S) = some r ∧ (Sl r.1 r.2 7 (g * 2 ^ t) ∧ Fs L r.1 S r.2) := by
  refine jfix_cn (fun k (p : Int32 × Int32 × (Nat → Int64) × (Nat → Int32)) => p.1 = nI t ∧ p.2.1 = nI k ∧ Sl p.2.2.1 p.2.2.2 7 (g * 2 ^ k) ∧ Fs L p.2.2.1 S p.2.2.2) t _ ?_ ?_ (by omega) ⟨rfl, rfl, by rw [Nat.pow_zero, Nat.mul_one]; exact h, Fs_r⟩
  · rintro k hk rec ⟨a, b, Lp, Sp⟩ ⟨e1, e2, e3, e4⟩
    dsimp only at e1 e2 e3 e4
    subst e1 e2
    have hlt : g * 2 ^ k * 2 < 1073741824 ^ 6 := by
      refine Nat.lt_of_le_of_lt ?_ hb
      rw [Nat.mul_assoc, ← Nat.pow_succ]
      exact Nat.mul_le_mul_left g (Nat.pow_le_pow_right (by decide) (by omega))
    obtain ⟨r, r1, r2, r3⟩ := timesR hu (show 7 < 10 by decide) (show 2 < 1073741824 by decide) e3 hlt
    unfold fX9_findDivisor_b147
    simp (disch := omega) only [blet_s, ob_s, lit32, litL, jgN, nI_add, mulN, clampN, leN, show ¬ t ≤ k by omega, if_false, r1]
    refine ⟨_, rfl, rfl, rfl, ?_, Fs_t e4 (Fs_of (by decide) r3)⟩
    dsimp only
    rw [Nat.pow_succ, ← Nat.mul_assoc]
    exact r2
  · rintro rec ⟨a, b, Lp, Sp⟩ ⟨e1, e2, e3, e4⟩
    dsimp only at e1 e2 e3 e4
    subst e1 e2
    unfold fX9_findDivisor_b147
    simp (disch := omega) only [blet_s, ob_s, lit32, litL, jgN, nI_add, mulN, clampN, leN, Nat.le_refl, if_true]
    exact ⟨_, rfl, e3, e4⟩
theorem gd133 {u : Nat} (hu : 4000000 ≤ u) (q1 q2 tw : Int32) (L0 : Nat → Int64) (S0 : Nat → Int32) (rec52 : Int32 × (Nat → Int64) × (Nat → Int32) → Option ((Nat → Int64) × (Nat → Int32))) {L : Nat → Int64} {S : Nat → Int32} {g h : Nat} (hg : Sl L S 7 g) (hh : Sl L S 8 h) (hle : g ≤ h) : ∃ r, fX9_findDivisor_b133 u q1 q2 L0 S0 rec52 (tw, L, S) = rec52 (tw, r) ∧ Sl r.1 r.2 7 g ∧ Sl r.1 r.2 8 (h - g) ∧ Fs L r.1 S r.2 := by
  obtain ⟨r, r1, r2, r3⟩ := takeR hu (show 8 < 10 by decide) (show 7 < 10 by decide) (by decide) hh hg hle
  unfold fX9_findDivisor_b133
  simp (disch := omega) only [blet_s, ob_s, lit32, litL, jgN, nI_add, mulN, clampN, r1]
  exact ⟨_, rfl, Sl_fr r3 (by decide) hg, r2, Fs_of (by decide) r3⟩
theorem gd80 {u : Nat} (hu : 4000000 ≤ u) (q1 q2 tw : Int32) (L0 : Nat → Int64) (S0 : Nat → Int32) (rec52 : Int32 × (Nat → Int64) × (Nat → Int32) → Option ((Nat → Int64) × (Nat → Int32))) : ∀ (m : Nat) (L : Nat → Int64) (S : Nat → Int32) (g h n : Nat), h < 2 ^ m → m < n → 0 < g → g % 2 = 1 → 0 < h → Sl L S 7 g → Sl L S 8 h → ∃ (r : (Nat → Int64) × (Nat → Int32)) (g2 h2 : Nat), jfix (fX9_findDivisor_b80 u q1 q2 L0 S0 rec52) n (tw, L, S) = rec52 (tw, r) ∧ Sl r.1 r.2 7 g2 ∧ Sl r.1 r.2 8 h2 ∧ Fs L r.1 S r.2 ∧ g2 % 2 = 1 ∧ h2 % 2 = 0 ∧ Nat.gcd g2 h2 = Nat.gcd g h ∧ g2 * h2 ≤ g * h ∧ (h % 2 = 0 → 2 * (g2 * h2) ≤ g * h) := by
  intro m
  induction m with
  | zero => intro L S g h n h1; omega
  | succ m ih =>
    intro L S g h n hm hn hg0 hg1 hh0 hg hh
    obtain ⟨n, rfl⟩ : ∃ k, n = k + 1 := ⟨n - 1, by omega⟩
    show ∃ (r : (Nat → Int64) × (Nat → Int32)) (g2 h2 : Nat), fX9_findDivisor_b80 u q1 q2 L0 S0 rec52 (jfix (fX9_findDivisor_b80 u q1 q2 L0 S0 rec52) n) (tw, L, S) = rec52 (tw, r) ∧ _
    unfold fX9_findDivisor_b80
    dsimp only
    rw [show (8 : Int32) = nI 8 from rfl, show (7 : Int32) = nI 7 from rfl, show (9 : Int32) = nI 9 from rfl, evenR (by decide) hh, ob_s]
    by_cases c : h % 2 = 0
    · rw [if_pos c, if_neg one0]
      obtain ⟨r, r1, r2, r3⟩ := halveR hu (show 8 < 10 by decide) hh
      rw [r1, ob_s]
      rw [Nat.pow_succ] at hm
      obtain ⟨r', g2, h2, x1, x2, x3, x4, x5, x6, x7, x8, x9⟩ := ih r.1 r.2 g (h / 2) n (by omega) (by omega) hg0 hg1 (by omega) (Sl_fr r3 (by decide) hg) r2
      have hmul : g * h = 2 * (g * (h / 2)) := by
        have : h = 2 * (h / 2) := by omega
        conv => lhs; rw [this]
        rw [Nat.mul_left_comm]
      refine ⟨r', g2, h2, x1, x2, x3, Fs_t (Fs_of (by decide) r3) x4, x5, x6, x7.trans (gc_r hg1 c), by omega, fun _ => by omega⟩
    · rw [if_neg c, if_pos rfl, cmpR hu (by decide) (by decide) hg hh, ob_s]
      have hc1 : h % 2 = 1 := by omega
      by_cases d : g ≤ h
      · have e : (if g < h then (-1 : Int32) else if g = h then 0 else 1) ≤ 0 := by
          by_cases d2 : g < h
          · rw [if_pos d2]; decide
          · rw [if_neg d2, if_pos (by omega)]; decide
        rw [if_pos e]
        obtain ⟨r, r1, r2, r3, r4⟩ := gd133 hu q1 q2 tw L0 S0 rec52 hg hh d
        refine ⟨r, g, h - g, r1, r2, r3, r4, hg1, by omega, Nat.gcd_sub_self_right d, Nat.mul_le_mul_left g (by omega), fun z => by omega⟩
      · have e : ¬ (if g < h then (-1 : Int32) else if g = h then 0 else 1) ≤ 0 := by
          rw [if_neg (by omega), if_neg (by omega)]; decide
        rw [if_neg e]
        obtain ⟨s1, a1, a2, a3⟩ := copyR hu (show 9 < 10 by decide) (show 7 < 10 by decide) (by decide) hg
        obtain ⟨s2, b1, b2, b3⟩ := copyR hu (show 7 < 10 by decide) (show 8 < 10 by decide) (by decide) (Sl_fr a3 (by decide) hh)
        obtain ⟨s3, c1, c2, c3⟩ := copyR hu (show 8 < 10 by decide) (show 9 < 10 by decide) (by decide) (Sl_fr b3 (by decide) a2)
        rw [a1, ob_s, b1, ob_s, c1, ob_s]
        obtain ⟨r, r1, r2, r3, r4⟩ := gd133 hu q1 q2 tw L0 S0 rec52 (Sl_fr c3 (by decide) b2) c2 (show h ≤ g by omega)
        refine ⟨r, h, g - h, r1, r2, r3, Fs_t (Fs_of (by decide) a3) (Fs_t (Fs_of (by decide) b3) (Fs_t (Fs_of (by decide) c3) r4)), hc1, by omega, ?_, ?_, fun z => by omega⟩
        · rw [Nat.gcd_sub_self_right (by omega), Nat.gcd_comm]
        · rw [Nat.mul_comm g h]
          exact Nat.mul_le_mul_left h (by omega)
theorem gd62 {u : Nat} (hu : 4000000 ≤ u) (q1 q2 tw : Int32) (L0 : Nat → Int64) (S0 : Nat → Int32) (rec52 : Int32 × (Nat → Int64) × (Nat → Int32) → Option ((Nat → Int64) × (Nat → Int32))) : ∀ (m : Nat) (L : Nat → Int64) (S : Nat → Int32) (g h n : Nat), g < 2 ^ m → m < n → 0 < g → (g % 2 = 1 ∨ h % 2 = 1) → 0 < h → Sl L S 7 g → Sl L S 8 h → ∃ (r : (Nat → Int64) × (Nat → Int32)) (g2 h2 : Nat), jfix (fX9_findDivisor_b62 u q1 q2 L0 S0 rec52) n (tw, L, S) = rec52 (tw, r) ∧ Sl r.1 r.2 7 g2 ∧ Sl r.1 r.2 8 h2 ∧ Fs L r.1 S r.2 ∧ g2 % 2 = 1 ∧ h2 % 2 = 0 ∧ Nat.gcd g2 h2 = Nat.gcd g h ∧ g2 * h2 ≤ g * h ∧ (h % 2 = 0 → 2 * (g2 * h2) ≤ g * h) := by
  intro m
  induction m with
  | zero => intro L S g h n h1; omega
  | succ m ih =>
    intro L S g h n hm hn hg0 hgh hh0 hg hh
    obtain ⟨n, rfl⟩ : ∃ k, n = k + 1 := ⟨n - 1, by omega⟩
    show ∃ (r : (Nat → Int64) × (Nat → Int32)) (g2 h2 : Nat), fX9_findDivisor_b62 u q1 q2 L0 S0 rec52 (jfix (fX9_findDivisor_b62 u q1 q2 L0 S0 rec52) n) (tw, L, S) = rec52 (tw, r) ∧ _
    unfold fX9_findDivisor_b62
    dsimp only
    rw [show (7 : Int32) = nI 7 from rfl, evenR (by decide) hg, ob_s]
    by_cases c : g % 2 = 0
    · rw [if_pos c, if_neg one0]
      obtain ⟨r, r1, r2, r3⟩ := halveR hu (show 7 < 10 by decide) hg
      rw [r1, ob_s]
      rw [Nat.pow_succ] at hm
      have ho : h % 2 = 1 := by omega
      obtain ⟨r', g2, h2, x1, x2, x3, x4, x5, x6, x7, x8, x9⟩ := ih r.1 r.2 (g / 2) h n (by omega) (by omega) (by omega) (Or.inr ho) hh0 r2 (Sl_fr r3 (by decide) hh)
      refine ⟨r', g2, h2, x1, x2, x3, Fs_t (Fs_of (by decide) r3) x4, x5, x6, x7.trans (gc_l c ho), Nat.le_trans x8 (Nat.mul_le_mul_right h (by omega)), fun z => by omega⟩
    · rw [if_neg c, if_pos rfl]
      have hb := Sl_b hh
      exact gd80 hu q1 q2 tw L0 S0 rec52 180 L S g h u (Nat.lt_of_lt_of_le hb (by decide)) (by omega) hg0 (by omega) hh0 hg hh
theorem gd52 {u : Nat} (hu : 4000000 ≤ u) (q1 q2 : Int32) (L0 : Nat → Int64) (S0 : Nat → Int32) {t : Nat} (ht : t ≤ 1000) : ∀ (m : Nat) (L : Nat → Int64) (S : Nat → Int32) (g h n : Nat), g * h < 2 ^ m → m < n → g % 2 = 1 → h % 2 = 0 → Nat.gcd g h * 2 ^ t < 1073741824 ^ 6 → Sl L S 7 g → Sl L S 8 h → ∃ r, jfix (fX9_findDivisor_b52 u q1 q2 L0 S0) n (nI t, L, S) = some r ∧ (Sl r.1 r.2 7 (Nat.gcd g h * 2 ^ t) ∧ Fs L r.1 S r.2) := by
  intro m
  induction m with
  | zero =>
    intro L S g h n hm hn hg1 hh1 hb hg hh
    have h0 : h = 0 := by
      rcases Nat.eq_zero_or_pos h with e | e
      · exact e
      · have : 0 < g * h := Nat.mul_pos (by omega) e
        omega
    subst h0
    obtain ⟨n, rfl⟩ : ∃ k, n = k + 1 := ⟨n - 1, by omega⟩
    show ∃ r, fX9_findDivisor_b52 u q1 q2 L0 S0 (jfix (fX9_findDivisor_b52 u q1 q2 L0 S0) n) (nI t, L, S) = some r ∧ _
    obtain ⟨k, hk6, hS, hD, hz⟩ := hh
    rw [sz_0 hz] at hS
    unfold fX9_findDivisor_b52
    simp (disch := omega) only [blet_s, ob_s, lit32, litL, jgN, nI_add, mulN, clampN, hS, Nat.le_refl, if_true]
    rw [Nat.gcd_zero_right] at hb ⊢
    exact gd147 hu q1 q2 L0 S0 ht hg hb
  | succ m ih =>
    intro L S g h n hm hn hg1 hh1 hb hg hh
    obtain ⟨n, rfl⟩ : ∃ k, n = k + 1 := ⟨n - 1, by omega⟩
    show ∃ r, fX9_findDivisor_b52 u q1 q2 L0 S0 (jfix (fX9_findDivisor_b52 u q1 q2 L0 S0) n) (nI t, L, S) = some r ∧ _
    have hh' := hh
    obtain ⟨k, hk6, hS, hD, hz⟩ := hh
    by_cases c : h = 0
    · subst c
      rw [sz_0 hz] at hS
      unfold fX9_findDivisor_b52
      simp (disch := omega) only [blet_s, ob_s, lit32, litL, jgN, nI_add, mulN, clampN, hS, Nat.le_refl, if_true]
      rw [Nat.gcd_zero_right] at hb ⊢
      exact gd147 hu q1 q2 L0 S0 ht hg hb
    · have hp := sz_p hz (by omega)
      generalize hrec : jfix (fX9_findDivisor_b52 u q1 q2 L0 S0) n = rec
      unfold fX9_findDivisor_b52
      simp (disch := omega) only [blet_s, ob_s, lit32, litL, jgN, nI_add, mulN, clampN, hS, leN, show ¬ k ≤ 0 by omega, if_false]
      obtain ⟨r, g2, h2, x1, x2, x3, x4, x5, x6, x7, x8, x9⟩ := gd62 hu q1 q2 (nI t) L0 S0 rec 180 L S g h u (Nat.lt_of_lt_of_le (Sl_b hg) (by decide)) (by omega) (by omega) (Or.inl hg1) (by omega) hg hh'
      rw [x1, ← hrec]
      rw [Nat.pow_succ] at hm
      have x10 := x9 hh1
      rw [← x7] at hb ⊢
      obtain ⟨r', y1, y2, y3⟩ := ih r.1 r.2 g2 h2 n (by omega) (by omega) x5 x6 hb x2 x3
      exact ⟨r', y1, y2, Fs_t x4 y3⟩
theorem gd52a {u : Nat} (hu : 4000000 ≤ u) (q1 q2 : Int32) (L0 : Nat → Int64) (S0 : Nat → Int32) {t : Nat} (ht : t ≤ 1000) {L : Nat → Int64} {S : Nat → Int32} {g h : Nat} (hg0 : 0 < g) (hh0 : 0 < h) (hgh : g % 2 = 1 ∨ h % 2 = 1) (hb : Nat.gcd g h * 2 ^ t < 1073741824 ^ 6) (hg : Sl L S 7 g) (hh : Sl L S 8 h) : ∃ r, jfix (fX9_findDivisor_b52 u q1 q2 L0 S0) u (nI t, L, S) = some r ∧ (Sl r.1 r.2 7 (Nat.gcd g h * 2 ^ t) ∧ Fs L r.1 S r.2) := by
  obtain ⟨n, rfl⟩ : ∃ k, u = k + 1 := ⟨u - 1, by omega⟩
  show ∃ r, fX9_findDivisor_b52 (n + 1) q1 q2 L0 S0 (jfix (fX9_findDivisor_b52 (n + 1) q1 q2 L0 S0) n) (nI t, L, S) = some r ∧ _
  have hh' := hh
  obtain ⟨k, hk6, hS, hD, hz⟩ := hh
  have hp := sz_p hz hh0
  generalize hrec : jfix (fX9_findDivisor_b52 (n + 1) q1 q2 L0 S0) n = rec
  unfold fX9_findDivisor_b52
  simp (disch := omega) only [blet_s, ob_s, lit32, litL, jgN, nI_add, mulN, clampN, hS, leN, show ¬ k ≤ 0 by omega, if_false]
  obtain ⟨r, g2, h2, x1, x2, x3, x4, x5, x6, x7, x8, x9⟩ := gd62 hu q1 q2 (nI t) L0 S0 rec 180 L S g h (n + 1) (Nat.lt_of_lt_of_le (Sl_b hg) (by decide)) (by omega) hg0 hgh hh0 hg hh'
  rw [x1, ← hrec]
  rw [← x7] at hb ⊢
  have hpr : g2 * h2 < 2 ^ 360 := by
    have a1 : g2 < 2 ^ 180 := Nat.lt_of_lt_of_le (Sl_b x2) (by decide)
    have a2 : h2 < 2 ^ 180 := Nat.lt_of_lt_of_le (Sl_b x3) (by decide)
    calc g2 * h2 ≤ g2 * 2 ^ 180 := Nat.mul_le_mul_left g2 (Nat.le_of_lt a2)
      _ < 2 ^ 180 * 2 ^ 180 := Nat.mul_lt_mul_of_pos_right a1 (by decide)
      _ = 2 ^ 360 := by rw [← Nat.pow_add]
  obtain ⟨r', y1, y2, y3⟩ := gd52 hu q1 q2 L0 S0 ht 360 r.1 r.2 g2 h2 n hpr (by omega) x5 x6 hb x2 x3
  exact ⟨r', y1, y2, Fs_t x4 y3⟩
theorem gd16 {u : Nat} (hu : 4000000 ≤ u) (q1 q2 : Int32) (L0 : Nat → Int64) (S0 : Nat → Int32) : ∀ (m : Nat) (L : Nat → Int64) (S : Nat → Int32) (g h n t : Nat), g < 2 ^ m → m < n → m + t ≤ 1000 → 0 < g → 0 < h → Nat.gcd g h * 2 ^ t < 1073741824 ^ 6 → Sl L S 7 g → Sl L S 8 h → ∃ r, jfix (fX9_findDivisor_b16 u q1 q2 L0 S0) n (nI t, L, S) = some r ∧ (Sl r.1 r.2 7 (Nat.gcd g h * 2 ^ t) ∧ Fs L r.1 S r.2) := by
  intro m
  induction m with
  | zero => intro L S g h n t h1; omega
  | succ m ih =>
    intro L S g h n t hm hn ht hg0 hh0 hb hg hh
    obtain ⟨n, rfl⟩ : ∃ k, n = k + 1 := ⟨n - 1, by omega⟩
    show ∃ r, fX9_findDivisor_b16 u q1 q2 L0 S0 (jfix (fX9_findDivisor_b16 u q1 q2 L0 S0) n) (nI t, L, S) = some r ∧ _
    unfold fX9_findDivisor_b16
    dsimp only
    rw [show (8 : Int32) = nI 8 from rfl, show (7 : Int32) = nI 7 from rfl, evenR (by decide) hg, ob_s]
    by_cases c : g % 2 = 0
    · rw [if_pos c, if_neg one0, evenR (by decide) hh, ob_s]
      by_cases d : h % 2 = 0
      · rw [if_pos d, if_neg one0]
        obtain ⟨r, r1, r2, r3⟩ := halveR hu (show 7 < 10 by decide) hg
        obtain ⟨s, s1, s2, s3⟩ := halveR hu (show 8 < 10 by decide) (Sl_fr r3 (by decide) hh)
        rw [r1, ob_s, s1, ob_s, blet_s, nI_1]
        rw [Nat.pow_succ] at hm
        have eg : Nat.gcd (g / 2) (h / 2) * 2 ^ (t + 1) = Nat.gcd g h * 2 ^ t := by
          rw [Nat.pow_succ, Nat.mul_comm (2 ^ t) 2, ← Nat.mul_assoc, gc_b c d]
        rw [← eg] at hb ⊢
        obtain ⟨r', y1, y2, y3⟩ := ih s.1 s.2 (g / 2) (h / 2) n (t + 1) (by omega) (by omega) (by omega) (by omega) (by omega) hb (Sl_fr s3 (by decide) r2) s2
        exact ⟨r', y1, y2, Fs_t (Fs_of (by decide) r3) (Fs_t (Fs_of (by decide) s3) y3)⟩
      · rw [if_neg d, if_pos rfl]
        exact gd52a hu q1 q2 L0 S0 (by omega) hg0 hh0 (Or.inr (by omega)) hb hg hh
    · rw [if_neg c, if_pos rfl]
      exact gd52a hu q1 q2 L0 S0 (by omega) hg0 hh0 (Or.inl (by omega)) hb hg hh
theorem findR {u : Nat} (hu : 4000000 ≤ u) {s t v w : Nat} {L : Nat → Int64} {S : Nat → Int32} (hs : s < 7) (ht : t < 7) (h : Sl L S s v) (h2 : Sl L S t w) (hv : 0 < v) (hw : 0 < w) : ∃ r, fX9_findDivisor u (nI s) (nI t) L S = some r ∧ (Sl r.1 r.2 7 (Nat.gcd v w) ∧ Fs L r.1 S r.2) := by
  obtain ⟨r, r1, r2, r3⟩ := copyR hu (show 7 < 10 by decide) (show s < 10 by omega) (by omega) h
  obtain ⟨q, q1, q2, q3⟩ := copyR hu (show 8 < 10 by decide) (show t < 10 by omega) (by omega) (Sl_fr r3 (by omega) h2)
  unfold fX9_findDivisor
  rw [show (8 : Int32) = nI 8 from rfl, show (7 : Int32) = nI 7 from rfl, r1, ob_s, q1, ob_s]
  have hb := Sl_b h
  have hgl := Nat.gcd_le_left w hv
  obtain ⟨r', y1, y2, y3⟩ := gd16 hu (nI s) (nI t) L S 180 q.1 q.2 v w u 0 (Nat.lt_of_lt_of_le hb (by decide)) (by omega) (by omega) hv hw (by rw [Nat.pow_zero, Nat.mul_one]; omega) (Sl_fr q3 (by decide) r2) q2
  rw [Nat.pow_zero, Nat.mul_one] at y2
  exact ⟨r', y1, y2, Fs_t (Fs_of (by decide) r3) (Fs_t (Fs_of (by decide) q3) y3)⟩
