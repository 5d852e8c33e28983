theorem shr64 (a s : Int64) (k : Nat) (hs : (s.toBitVec.smod 64).toNat = k) : (a >>> s).toInt = a.toInt >>> k := by
  show (a.toBitVec.sshiftRight (s.toBitVec.smod 64).toNat).toInt = _
  rw [hs, BitVec.toInt_sshiftRight]
  rfl
theorem shrL {n : Nat} (h : n < 2 ^ 63) (s : Int64) (k : Nat) (hs : (s.toBitVec.smod 64).toNat = k) : lN n >>> s = lN (n / 2 ^ k) := by
  apply Int64.toInt_inj.mp
  have h2 : n / 2 ^ k ≤ n := Nat.div_le_self _ _
  rw [shr64 _ _ k hs, pk_lT h, pk_lT (by omega), Int.shiftRight_eq_div_pow]
  rfl
theorem lTn {n : Nat} (h : n < 2 ^ 64) : (lN n).toBitVec.toNat = n := by
  show (BitVec.ofNat 64 n).toNat = n
  rw [BitVec.toNat_ofNat]
  exact Nat.mod_eq_of_lt h
theorem andL {n : Nat} (h : n < 2 ^ 64) {m : Int64} (k : Nat) (hm : m.toBitVec.toNat = 2 ^ k - 1) : lN n &&& m = lN (n % 2 ^ k) := by
  apply Int64.toBitVec_inj.mp
  apply BitVec.eq_of_toNat_eq
  have e : (lN n &&& m).toBitVec = (lN n).toBitVec &&& m.toBitVec := rfl
  rw [e, BitVec.toNat_and, hm, Nat.and_two_pow_sub_one_eq_mod, lTn h, lTn (Nat.lt_of_le_of_lt (Nat.mod_le _ _) h)]
theorem bit_s : ∀ t : Fin 30, ((((nI t.val).toInt64 &&& 63).toBitVec.smod 64).toNat) = t.val := by decide
theorem bitL {a t : Nat} (ha : a < 2 ^ 63) (ht : t < 30) : (lN a >>> ((nI t).toInt64 &&& 63)) &&& 1 = lN (a / 2 ^ t % 2) := by
  rw [shrL ha _ t (bit_s ⟨t, ht⟩), andL (m := 1) (Nat.lt_of_le_of_lt (Nat.div_le_self _ _) (by omega)) 1 rfl, Nat.pow_one]
theorem bit_d (x : Nat) {t : Nat} (ht : t < 30) : x % 1073741824 / 2 ^ t % 2 = x / 2 ^ t % 2 := by
  have e : 1073741824 = 2 ^ t * 2 ^ (30 - t) := by
    rw [← Nat.pow_add, show t + (30 - t) = 30 by omega]
  rw [e, Nat.mod_mul_right_div_self]
  refine Nat.mod_mod_of_dvd _ ?_
  obtain ⟨j, hj⟩ : ∃ j, 30 - t = j + 1 := ⟨29 - t, by omega⟩
  rw [hj, Nat.pow_succ]
  exact Nat.dvd_mul_left 2 (2 ^ j)
theorem dv_s {W g b : Nat} (hg : 0 < g) (hb : b ≤ 1) : (2 * W + b) / g = 2 * (W / g) + (if 2 * (W % g) + b < g then 0 else 1) ∧ (2 * W + b) % g = (if 2 * (W % g) + b < g then 2 * (W % g) + b else 2 * (W % g) + b - g) := by
  have h := Nat.div_add_mod W g
  have hl := Nat.mod_lt W hg
  have e : 2 * W + b = (2 * (W % g) + b) + g * (2 * (W / g)) := by
    rw [Nat.mul_left_comm]
    omega
  rw [e, Nat.add_mul_div_left _ _ hg, Nat.add_mul_mod_self_left]
  by_cases c : 2 * (W % g) + b < g
  · rw [if_pos c, if_pos c, Nat.div_eq_of_lt c, Nat.mod_eq_of_lt c]
    omega
  · rw [if_neg c, if_neg c]
    have e1 : 2 * (W % g) + b = (2 * (W % g) + b - g) + g * 1 := by omega
    have h2 : 2 * (W % g) + b - g < g := by omega
    constructor
    · rw [e1, Nat.add_mul_div_left _ _ hg, Nat.div_eq_of_lt h2]
      omega
    · conv => lhs; rw [e1]
      rw [Nat.add_mul_mod_self_left, Nat.mod_eq_of_lt h2]
theorem md_s (q c M : Nat) (hM : 0 < M) (hc : c ≤ 1) : (2 * q + c) % (M * 2) = 2 * (q % M) + c := by
  have h := Nat.div_add_mod q M
  have hl := Nat.mod_lt q hM
  have e : 2 * q + c = (2 * (q % M) + c) + (M * 2) * (q / M) := by
    rw [Nat.mul_comm M 2, Nat.mul_assoc]
    omega
  rw [e, Nat.add_mul_mod_self_left]
  exact Nat.mod_eq_of_lt (by omega)
def Ft (s : Nat) (L L2 : Nat → Int64) (S S2 : Nat → Int32) : Prop := (∀ k, k < 448 → (k < 64 * s ∨ 64 * s + 64 ≤ k) → L2 k = L k) ∧ ∀ j, j < 7 → j ≠ s → S2 j = S j
theorem Sl_ft {s t v : Nat} {L L2 : Nat → Int64} {S S2 : Nat → Int32} (h : Ft s L L2 S S2) (ht : t < 7) (hts : t ≠ s) (hs : Sl L S t v) : Sl L2 S2 t v := by
  obtain ⟨n, h1, h2, h3, h4⟩ := hs
  refine ⟨n, h1, (h.2 t ht hts).trans h2, fun k hk => ?_, h4⟩
  rw [h.1 _ (by omega) (by omega)]
  exact h3 k hk
/-- the bits of one digit -/
theorem dv62 {u : Nat} (hu : 4000000 ≤ u) {s V g n i : Nat} (hs : s < 7) (hg0 : 0 < g) (hg5 : g < 1073741824 ^ 5) (hn6 : n ≤ 6) (hi : i < n) (L0 : Nat → Int64) (S0 : Nat → Int32) (rec51 : Int32 × (Nat → Int64) × (Nat → Int32) → Option ((Nat → Int64) × (Nat → Int32))) : ∀ (r : Nat) (L : Nat → Int64) (S : Nat → Int32) (m : Nat), r ≤ 30 → r < m → Sl L S 7 g → Dv L 576 n V → Sl L S 8 (V / 1073741824 ^ i / 2 ^ r % g) → ∃ (q : (Nat → Int64) × (Nat → Int32)), jfix (fX9_divide_b62 u (nI s) L0 S0 rec51) m (nI i, lN (V / 1073741824 ^ i / 2 ^ r / g % 2 ^ (30 - r)), nI r - nI 1, L, S) = rec51 (nI i - nI 1, q) ∧ q.1 (64 * s + i) = lN (dg (V / g) i) ∧ Sl q.1 q.2 7 g ∧ Dv q.1 576 n V ∧ Sl q.1 q.2 8 (V / 1073741824 ^ i % g) ∧ (∀ k, k < 448 → k ≠ 64 * s + i → q.1 k = L k) ∧ ∀ j, j < 7 → q.2 j = S j := by
  intro r
  induction r with
  | zero =>
    intro L S m hr hm h7 h9 h8
    obtain ⟨m, rfl⟩ : ∃ k, m = k + 1 := ⟨m - 1, by omega⟩
    generalize hrec : jfix (fX9_divide_b62 u (nI s) L0 S0 rec51) (m + 1) = F
    have hF : F = fX9_divide_b62 u (nI s) L0 S0 rec51 (jfix (fX9_divide_b62 u (nI s) L0 S0 rec51) m) := hrec ▸ rfl
    rw [hF]
    generalize jfix (fX9_divide_b62 u (nI s) L0 S0 rec51) m = rec
    rw [Nat.pow_zero, Nat.div_one] at h8 ⊢
    unfold fX9_divide_b62
    dsimp only
    rw [if_pos (show nI 0 - nI 1 < 0 by decide)]
    have em : nI i + -nI 1 = nI i - nI 1 := (Int32.sub_eq_add_neg _ _).symm
    simp (disch := omega) only [blet_s, ob_s, lit32, litL, jgN, nI_add, mulN, clampN, em]
    have e : V / 1073741824 ^ i / g % 2 ^ (30 - 0) = dg (V / g) i := by
      unfold dg
      rw [Nat.div_div_eq_div_mul, Nat.div_div_eq_div_mul, Nat.mul_comm g]
    rw [e]
    refine ⟨_, rfl, upLe rfl, ?_, ?_, ?_, ?_, fun j hj => rfl⟩
    · obtain ⟨k, a1, a2, a3, a4⟩ := h7
      exact ⟨k, a1, a2, fun j hj => by dsimp only; rw [upL (by omega)]; exact a3 j hj, a4⟩
    · intro k hk
      dsimp only
      rw [upL (by omega)]
      exact h9 k hk
    · obtain ⟨k, a1, a2, a3, a4⟩ := h8
      exact ⟨k, a1, a2, fun j hj => by dsimp only; rw [upL (by omega)]; exact a3 j hj, a4⟩
    · intro k hk hk2
      dsimp only
      exact upL hk2
  | succ r ih =>
    intro L S m hr hm h7 h9 h8
    obtain ⟨m, rfl⟩ : ∃ k, m = k + 1 := ⟨m - 1, by omega⟩
    generalize hrec : jfix (fX9_divide_b62 u (nI s) L0 S0 rec51) (m + 1) = F
    have hF : F = fX9_divide_b62 u (nI s) L0 S0 rec51 (jfix (fX9_divide_b62 u (nI s) L0 S0 rec51) m) := hrec ▸ rfl
    rw [hF]
    have ih2 := fun L S => ih L S m (by omega) (by omega)
    generalize jfix (fX9_divide_b62 u (nI s) L0 S0 rec51) m = rec at ih2 ⊢
    generalize hX : V / 1073741824 ^ i = X at h8 ih2 ⊢
    have hW : X / 2 ^ r = 2 * (X / 2 ^ (r + 1)) + X / 2 ^ r % 2 := by
      have e : X / 2 ^ (r + 1) = X / 2 ^ r / 2 := by rw [Nat.pow_succ, Nat.div_div_eq_div_mul]
      omega
    have hbit : dg V i / 2 ^ r % 2 = X / 2 ^ r % 2 := by
      unfold dg
      rw [hX, bit_d X (by omega)]
    have hb1 : X / 2 ^ r % 2 ≤ 1 := by omega
    generalize hW0 : X / 2 ^ (r + 1) = W at hW h8 ⊢
    generalize hbb : X / 2 ^ r % 2 = b at hW hbit hb1
    have hdv := dv_s (W := W) hg0 hb1
    rw [← hW] at hdv
    have hml := Nat.mod_lt W hg0
    have hpow : (30 - r) = (30 - (r + 1)) + 1 := by omega
    have hmd : ∀ c : Nat, c ≤ 1 → X / 2 ^ r / g = 2 * (W / g) + c → X / 2 ^ r / g % 2 ^ (30 - r) = 2 * (W / g % 2 ^ (30 - (r + 1))) + c := by
      intro c hc e
      rw [e, hpow, Nat.pow_succ]
      exact md_s _ _ _ (Nat.two_pow_pos _) hc
    have hqb : W / g % 2 ^ (30 - (r + 1)) < 2 ^ 30 := Nat.lt_of_lt_of_le (Nat.mod_lt _ (Nat.two_pow_pos _)) (Nat.pow_le_pow_right (by decide) (by omega))
    have h6 : (1073741824 : Nat) ^ 5 * 4 ≤ 1073741824 ^ 6 := by decide
    obtain ⟨t, t1, t2, t3⟩ := timesR hu (show 8 < 10 by decide) (show 2 < 1073741824 by decide) h8 (by omega)
    have h7' := Sl_fr t3 (by decide) h7
    have h9' : Dv t.1 576 n V := fun k hk => by rw [t3.1 _ (by omega)]; exact h9 k hk
    -- after the bit
    have h100 : ∀ (L1 : Nat → Int64) (S1 : Nat → Int32), Sl L1 S1 7 g → Dv L1 576 n V → Sl L1 S1 8 (2 * (W % g) + b) → Fs L L1 S S1 → ∃ (q : (Nat → Int64) × (Nat → Int32)), fX9_divide_b100 u (nI s) L0 S0 rec51 rec (nI i, lN (W / g % 2 ^ (30 - (r + 1))), nI r, L1, S1) = rec51 (nI i - nI 1, q) ∧ q.1 (64 * s + i) = lN (dg (V / g) i) ∧ Sl q.1 q.2 7 g ∧ Dv q.1 576 n V ∧ Sl q.1 q.2 8 (X % g) ∧ (∀ k, k < 448 → k ≠ 64 * s + i → q.1 k = L k) ∧ ∀ j, j < 7 → q.2 j = S j := by
      intro L1 S1 k7 k9 k8 kf
      have em : nI r + -nI 1 = nI r - nI 1 := (Int32.sub_eq_add_neg _ _).symm
      unfold fX9_divide_b100
      dsimp only
      rw [show (8 : Int32) = nI 8 from rfl, show (7 : Int32) = nI 7 from rfl, blet_s, cmpR hu (by decide) (by decide) k8 k7, ob_s]
      by_cases c : 2 * (W % g) + b < g
      · rw [if_pos c, if_pos (show (-1 : Int32) < 0 by decide)]
        rw [if_pos c, if_pos c] at hdv
        unfold fX9_divide_b133
        simp (disch := omega) only [blet_s, ob_s, lit32, litL, jgN, nI_add, mulN, clampN, em, mulL]
        have e := hmd 0 (by omega) hdv.1
        rw [Nat.add_zero] at e
        rw [← e]
        obtain ⟨q, y1, y2, y3, y4, y5, y6, y7⟩ := ih2 L1 S1 k7 k9 (by rw [hdv.2]; exact k8)
        exact ⟨q, y1, y2, y3, y4, y5, fun k a b => (y6 k a b).trans (kf.1 k a), fun j a => (y7 j a).trans (kf.2 j a)⟩
      · have ec : ¬ (if 2 * (W % g) + b < g then (-1 : Int32) else if 2 * (W % g) + b = g then 0 else 1) < 0 := by
          rw [if_neg c]
          split <;> decide
        rw [if_neg ec]
        rw [if_neg c, if_neg c] at hdv
        obtain ⟨p, p1, p2, p3⟩ := takeR hu (show 8 < 10 by decide) (show 7 < 10 by decide) (by decide) k8 k7 (Nat.not_lt.mp c)
        rw [p1, ob_s]
        unfold fX9_divide_b133
        simp (disch := omega) only [blet_s, ob_s, lit32, litL, jgN, nI_add, mulN, clampN, em, mulL, addL]
        have e := hmd 1 (by omega) hdv.1
        rw [← e]
        obtain ⟨q, y1, y2, y3, y4, y5, y6, y7⟩ := ih2 p.1 p.2 (Sl_fr p3 (by decide) k7) (fun k hk => by rw [p3.1 _ (by omega)]; exact k9 k hk) (by rw [hdv.2]; exact p2)
        exact ⟨q, y1, y2, y3, y4, y5, fun k a b => (y6 k a b).trans ((p3.1 k (by omega)).trans (kf.1 k a)), fun j a => (y7 j a).trans ((p3.2 j (by omega)).trans (kf.2 j a))⟩
    unfold fX9_divide_b62
    dsimp only
    rw [subN (by omega), if_neg (nI_pos (by omega)), show (8 : Int32) = nI 8 from rfl, show (2 : Int64) = lN 2 from rfl, t1, ob_s, show r + 1 - 1 = r by omega]
    have hd9 := h9' i hi
    have hdl := dg_lt V i
    have ebit : (lg_cmp ((t.1 (576 + i) >>> ((nI r).toInt64 &&& 63)) &&& 1) 1 = 0) = (b = 1) := by
      rw [hd9, bitL (by omega) (by omega), hbit]
      exact (propext (lg_cmp_eq _ _)).trans (eqL (by omega) (by decide))
    rw [blet_s, show (576 : Int32) = nI 576 from rfl, nI_add, jgN (by omega) (by omega), nI_clamp (show 576 + i < 2 ^ 31 by omega)]
    simp only [ebit]
    by_cases cb : b = 1
    · rw [if_pos cb]
      rw [Nat.mul_comm] at t2
      obtain ⟨o, o1, o2, o3⟩ := oneR hu t2 (by omega)
      rw [o1, ob_s]
      refine h100 o.1 o.2 (Sl_fr o3 (by decide) h7') (fun k hk => by rw [o3.1 _ (by omega)]; exact h9' k hk) (by rw [cb]; exact o2) (Fs_t (Fs_of (by decide) t3) (Fs_of (by decide) o3))
    · rw [if_neg cb]
      refine h100 t.1 t.2 h7' h9' ?_ (Fs_of (by decide) t3)
      rw [show b = 0 by omega, Nat.add_zero, Nat.mul_comm]
      exact t2
