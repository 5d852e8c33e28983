theorem shl30 {n : Nat} (h : n * 1073741824 < 2 ^ 63) : lN n <<< ((30 : Int32).toInt64 &&& 63) = lN (n * 1073741824) := by
  apply Int64.toBitVec_inj.mp
  apply BitVec.eq_of_toNat_eq
  have e : (lN n <<< ((30 : Int32).toInt64 &&& 63)).toBitVec = (lN n).toBitVec <<< 30 := by
    show (lN n).toBitVec <<< ((((30 : Int32).toInt64 &&& 63).toBitVec.smod 64).toNat) = _
    rw [thirty]
    rfl
  rw [e, BitVec.toNat_shiftLeft, Nat.shiftLeft_eq, lTn (by omega), lTn (by omega)]
  exact Nat.mod_eq_of_lt (Nat.lt_trans h (by decide))
theorem rm_s {a p : Nat} (q d : Nat) (h : a = q % p) : (a * 1073741824 + d) % p = (q * 1073741824 + d) % p := by
  subst h
  rw [Nat.add_mod, Nat.mul_mod, Nat.mod_mod, ← Nat.mul_mod, ← Nat.add_mod]
theorem remC {u : Nat} (hu : 4000000 ≤ u) {f : Nat → Int32} {sz : Int32} {v p : Nat} (hp0 : 0 < p) (hp : p ≤ 1000) (h : Nt f sz v) : fX3_remainder u (nI p) sz f = some (nI (v % p)) := by
  obtain ⟨n, hn6, rfl, hD, hz⟩ := h
  unfold fX3_remainder
  rw [blet_s]
  have key : ∃ r, jfix (fX3_remainder_b10 u (nI p) (nI n) f) u (0, nI n - 1) = some r ∧ r = nI (v % p) := by
    refine jfix_mu (fun (q : Int64 × Int32) => ∃ k, k ≤ n ∧ q.1 = lN (v / 1073741824 ^ k % p) ∧ q.2 = nI k - 1) (fun (q : Int64 × Int32) => (q.2 + 1).toNatClampNeg) (fun _ r => r = _) ?_ u _ ⟨n, Nat.le_refl _, by rw [Nat.div_eq_of_lt hz.1, Nat.zero_mod]; rfl, rfl⟩ (by dsimp only; rw [Int32.sub_add_cancel, nI_clamp (by omega)]; omega)
    rintro rec ⟨a, b⟩ ⟨k, hk, e1, e2⟩ ih
    dsimp only at e1 e2
    subst e1 e2
    unfold fX3_remainder_b10
    dsimp only
    by_cases k0 : k = 0
    · subst k0
      rw [if_pos (show nI 0 - 1 < 0 by decide), Nat.pow_zero, Nat.div_one, toI]
      exact ⟨_, rfl, rfl⟩
    · have e1 : nI k - 1 = nI (k - 1) := by rw [show (1 : Int32) = nI 1 from rfl, subN (by omega)]
      dsimp only at ih
      rw [e1] at ih
      have b1 := dg_lt v (k - 1)
      have b2 := Nat.mod_lt (v / 1073741824 ^ k) hp0
      have d1 := Nat.div_add_mod (v / 1073741824 ^ (k - 1)) 1073741824
      rw [di_s, show k - 1 + 1 = k by omega] at d1
      have d1' : v / 1073741824 ^ (k - 1) % 1073741824 = dg v (k - 1) := rfl
      have hx : (v / 1073741824 ^ k % p * 1073741824 + dg v (k - 1)) % p = v / 1073741824 ^ (k - 1) % p := by
        rw [rm_s (v / 1073741824 ^ k) _ rfl]
        congr 1
        omega
      have hlt : v / 1073741824 ^ k % p * 1073741824 + dg v (k - 1) < 2 ^ 62 := by
        have := Nat.mul_le_mul_right 1073741824 (show v / 1073741824 ^ k % p ≤ 1000 by omega)
        omega
      have hsh := shl30 (n := v / 1073741824 ^ k % p) (Nat.lt_of_le_of_lt (Nat.le_add_right _ _) (Nat.lt_trans hlt (by decide)))
      rw [e1, if_neg (nI_pos (by omega)), if_neg (nI_nle hp0 (by omega)), digC hn6 (fun z => hD _ z) hz.1 (by omega), ob_s, hsh, toL (by omega), toL (by omega), addL, if_neg (show ¬ lN p = 0 from fun z => by have := (pk_lEQ (a := p) (b := 0) (by omega) (by decide)).mp z; omega), divL (by omega) hp0 (by omega), remA, blet_s, hx, blet_s]
      have em : nI (k - 1) + -1 = nI (k - 1) - 1 := (Int32.sub_eq_add_neg _ _).symm
      refine ih _ ⟨k - 1, by omega, rfl, em⟩ ?_
      dsimp only
      rw [em, Int32.sub_add_cancel, nI_1, nI_clamp (by omega), nI_clamp (by omega)]
      omega
  obtain ⟨r, e, e2⟩ := key
  rw [e, e2]
theorem dv_d {a p d : Nat} (hp : 0 < p) : (a * 1073741824 + d) / p = a / p * 1073741824 + (a % p * 1073741824 + d) / p := by
  have h := Nat.div_add_mod a p
  have e : a * 1073741824 + d = (a % p * 1073741824 + d) + p * (a / p * 1073741824) := by
    have h2 : (p * (a / p) + a % p) * 1073741824 = a * 1073741824 := by rw [h]
    rw [Nat.add_mul, Nat.mul_assoc] at h2
    omega
  rw [e, Nat.add_mul_div_left _ _ hp, Nat.add_comm]
theorem divC {u : Nat} (hu : 4000000 ≤ u) {f : Nat → Int32} {sz : Int32} {v p : Nat} (hp0 : 0 < p) (hp : p ≤ 1000) (h : Nt f sz v) : ∃ r, fX3_divide u (nI p) sz f = some r ∧ Nt r.2 r.1 (v / p) := by
  obtain ⟨n, hn6, rfl, hD, hz⟩ := h
  unfold fX3_divide
  have em6 : (if (6 : Int32) < nI n then (6 : Int32) else nI n) = nI n := by
    by_cases c : n = 6
    · subst c; rfl
    · rw [if_neg (show ¬ (6 : Int32) < nI n from nI_nlt (a := 6) (b := n) (by omega) (by omega))]
  rw [em6, blet_s, blet_s]
  refine jfix_mu (fun (q : Int64 × Int32 × Int32 × (Nat → Int32)) => ∃ k, k ≤ n ∧ q.1 = lN (v / 1073741824 ^ k % p) ∧ q.2.1 = nI k - 1 ∧ q.2.2.1 = nI n ∧ (∀ j, k ≤ j → j < n → q.2.2.2 j = nI (dg (v / p) j)) ∧ ∀ j, j < k → q.2.2.2 j = nI (dg v j)) (fun (q : Int64 × Int32 × Int32 × (Nat → Int32)) => (q.2.1 + 1).toNatClampNeg) (fun _ (r : Int32 × (Nat → Int32)) => Nt r.2 r.1 (v / p)) ?_ u _ ⟨n, Nat.le_refl _, by rw [Nat.div_eq_of_lt hz.1, Nat.zero_mod]; rfl, rfl, rfl, fun j h1 h2 => by omega, fun j hj => hD j hj⟩ (by dsimp only; rw [Int32.sub_add_cancel, nI_clamp (by omega)]; omega)
  rintro rec ⟨a, b, c, g⟩ ⟨k, hk, e1, e2, e3, e4, e5⟩ ih
  dsimp only at e1 e2 e3 e4 e5
  subst e1 e2 e3
  unfold fX3_divide_b18 fX3_divide_b64
  dsimp only
  by_cases k0 : k = 0
  · subst k0
    rw [if_pos (show nI 0 - 1 < 0 by decide)]
    obtain ⟨r, r1, r2⟩ := dropC (f := g) (v := v / p) hu hn6 (fun j hj => e4 j (Nat.zero_le _) hj) (Nat.lt_of_le_of_lt (Nat.div_le_self _ _) hz.1)
    rw [r1, ob_s]
    exact ⟨_, rfl, r2⟩
  · have e1 : nI k - 1 = nI (k - 1) := by rw [show (1 : Int32) = nI 1 from rfl, subN (by omega)]
    dsimp only at ih
    rw [e1] at ih
    have b1 := dg_lt v (k - 1)
    have b2 := Nat.mod_lt (v / 1073741824 ^ k) hp0
    have d1 := Nat.div_add_mod (v / 1073741824 ^ (k - 1)) 1073741824
    rw [di_s, show k - 1 + 1 = k by omega] at d1
    have d1' : v / 1073741824 ^ (k - 1) % 1073741824 = dg v (k - 1) := rfl
    have ev : v / 1073741824 ^ (k - 1) = v / 1073741824 ^ k * 1073741824 + dg v (k - 1) := by omega
    have hx : (v / 1073741824 ^ k % p * 1073741824 + dg v (k - 1)) % p = v / 1073741824 ^ (k - 1) % p := by
      rw [rm_s (v / 1073741824 ^ k) _ rfl, ev]
    have hlt : v / 1073741824 ^ k % p * 1073741824 + dg v (k - 1) < 2 ^ 62 := by
      have := Nat.mul_le_mul_right 1073741824 (show v / 1073741824 ^ k % p ≤ 1000 by omega)
      omega
    have hq : (v / 1073741824 ^ k % p * 1073741824 + dg v (k - 1)) / p < 1073741824 := by
      rw [Nat.div_lt_iff_lt_mul hp0]
      have h1 : (v / 1073741824 ^ k % p + 1) * 1073741824 ≤ p * 1073741824 := Nat.mul_le_mul_right 1073741824 b2
      rw [Nat.add_mul] at h1
      rw [Nat.mul_comm 1073741824 p]
      omega
    have hdq : dg (v / p) (k - 1) = (v / 1073741824 ^ k % p * 1073741824 + dg v (k - 1)) / p := by
      have e : v / p / 1073741824 ^ (k - 1) = v / 1073741824 ^ (k - 1) / p := by rw [Nat.div_div_eq_div_mul, Nat.div_div_eq_div_mul, Nat.mul_comm]
      show v / p / 1073741824 ^ (k - 1) % 1073741824 = _
      rw [e, ev, dv_d hp0, Nat.add_comm, Nat.add_mul_mod_self_right, Nat.mod_eq_of_lt hq]
    have hsh := shl30 (n := v / 1073741824 ^ k % p) (Nat.lt_of_le_of_lt (Nat.le_add_right _ _) (Nat.lt_trans hlt (by decide)))
    rw [e1, if_neg (nI_pos (by omega)), if_neg (nI_nle hp0 (by omega)), jgN (by omega) (by omega), nI_clamp (by omega), e5 (k - 1) (by omega), hsh, toL (by omega), toL (by omega), addL, blet_s, if_neg (show ¬ lN p = 0 from fun z => by have := (pk_lEQ (a := p) (b := 0) (by omega) (by decide)).mp z; omega), jgN (by omega) (by omega), divL (by omega) hp0 (by omega), toI, blet_s, if_neg (show ¬ lN p = 0 from fun z => by have := (pk_lEQ (a := p) (b := 0) (by omega) (by decide)).mp z; omega), remA, hx, blet_s, blet_s]
    have em : nI (k - 1) + -1 = nI (k - 1) - 1 := (Int32.sub_eq_add_neg _ _).symm
    refine ih _ ⟨k - 1, by omega, rfl, em, rfl, ?_, ?_⟩ ?_
    · intro j h1 h2
      dsimp only
      by_cases z : j = k - 1
      · subst z
        rw [updE rfl, hdq]
      · rw [updN z]
        exact e4 j (by omega) h2
    · intro j hj
      dsimp only
      rw [updN (by omega)]
      exact e5 j (by omega)
    · dsimp only
      rw [em, Int32.sub_add_cancel, nI_1, nI_clamp (by omega), nI_clamp (by omega)]
      omega
/-! what can be common -/
def prL : List Nat := [2, 3, 5, 7, 11, 13, 17, 19]
theorem pr_t : ∀ i : Fin 8, (jtab 5).getD i.val 0 = nI (prL.getD i.val 0) ∧ 2 ≤ prL.getD i.val 0 ∧ prL.getD i.val 0 ≤ 19 := by decide +kernel
theorem pr_d : ∀ (i : Fin 8) (d : Fin 20), prL.getD i.val 0 % d.val = 0 → d.val = 0 ∨ d.val = 1 ∨ d.val = prL.getD i.val 0 := by decide +kernel
theorem cop_p {g : Nat} (i : Nat) (hi : i < 8) (h : ¬ prL.getD i 0 ∣ g) : Nat.Coprime (prL.getD i 0) g := by
  have ht := pr_t ⟨i, hi⟩
  simp only at ht
  have h1 : Nat.gcd (prL.getD i 0) g ∣ prL.getD i 0 := Nat.gcd_dvd_left _ _
  have h2 : Nat.gcd (prL.getD i 0) g ≤ prL.getD i 0 := Nat.le_of_dvd (by omega) h1
  have hd := pr_d ⟨i, hi⟩ ⟨Nat.gcd (prL.getD i 0) g, by omega⟩
  simp only at hd
  have h3 := hd (Nat.mod_eq_zero_of_dvd h1)
  rcases h3 with e | e | e
  · have := Nat.gcd_pos_of_pos_left g (show 0 < prL.getD i 0 by omega)
    omega
  · exact e
  · exact absurd (e ▸ Nat.gcd_dvd_right (prL.getD i 0) g) h
theorem cop_20 {g : Nat} (h : ∀ i, i < 8 → ¬ prL.getD i 0 ∣ g) : ∀ c, 1 ≤ c → c ≤ 20 → Nat.Coprime c g := by
  have h2 : Nat.Coprime 2 g := cop_p 0 (by decide) (h 0 (by decide))
  have h3 : Nat.Coprime 3 g := cop_p 1 (by decide) (h 1 (by decide))
  have h5 : Nat.Coprime 5 g := cop_p 2 (by decide) (h 2 (by decide))
  have h7 : Nat.Coprime 7 g := cop_p 3 (by decide) (h 3 (by decide))
  have h11 : Nat.Coprime 11 g := cop_p 4 (by decide) (h 4 (by decide))
  have h13 : Nat.Coprime 13 g := cop_p 5 (by decide) (h 5 (by decide))
  have h17 : Nat.Coprime 17 g := cop_p 6 (by decide) (h 6 (by decide))
  have h19 : Nat.Coprime 19 g := cop_p 7 (by decide) (h 7 (by decide))
  have h4 : Nat.Coprime 4 g := Nat.Coprime.mul_left (m := 2) (n := 2) h2 h2
  have h6 : Nat.Coprime 6 g := Nat.Coprime.mul_left (m := 2) (n := 3) h2 h3
  have h8 : Nat.Coprime 8 g := Nat.Coprime.mul_left (m := 4) (n := 2) h4 h2
  have h9 : Nat.Coprime 9 g := Nat.Coprime.mul_left (m := 3) (n := 3) h3 h3
  have h10 : Nat.Coprime 10 g := Nat.Coprime.mul_left (m := 2) (n := 5) h2 h5
  have h12 : Nat.Coprime 12 g := Nat.Coprime.mul_left (m := 4) (n := 3) h4 h3
  have h14 : Nat.Coprime 14 g := Nat.Coprime.mul_left (m := 2) (n := 7) h2 h7
  have h15 : Nat.Coprime 15 g := Nat.Coprime.mul_left (m := 3) (n := 5) h3 h5
  have h16 : Nat.Coprime 16 g := Nat.Coprime.mul_left (m := 4) (n := 4) h4 h4
  have h18 : Nat.Coprime 18 g := Nat.Coprime.mul_left (m := 2) (n := 9) h2 h9
  have h20 : Nat.Coprime 20 g := Nat.Coprime.mul_left (m := 4) (n := 5) h4 h5
  intro c c1 c2
  have hc : c = 1 ∨ c = 2 ∨ c = 3 ∨ c = 4 ∨ c = 5 ∨ c = 6 ∨ c = 7 ∨ c = 8 ∨ c = 9 ∨ c = 10 ∨ c = 11 ∨ c = 12 ∨ c = 13 ∨ c = 14 ∨ c = 15 ∨ c = 16 ∨ c = 17 ∨ c = 18 ∨ c = 19 ∨ c = 20 := by omega
  rcases hc with rfl | rfl | rfl | rfl | rfl | rfl | rfl | rfl | rfl | rfl | rfl | rfl | rfl | rfl | rfl | rfl | rfl | rfl | rfl | rfl
  · exact Nat.gcd_one_left g
  all_goals assumption
theorem evd {x p : Nat} : (nI (x % p) = 0) = (p ∣ x) ∨ ¬ (0 < p ∧ p ≤ 1000) := by
  by_cases c : 0 < p ∧ p ≤ 1000
  · refine Or.inl ?_
    have := Nat.mod_lt x c.1
    rw [show (0 : Int32) = nI 0 from rfl, eqN (by omega) (by decide)]
    exact propext ⟨Nat.dvd_of_mod_eq_zero, Nat.mod_eq_zero_of_dvd⟩
  · exact Or.inr c
theorem areC {u : Nat} (hu : 4000000 ≤ u) {f g : Nat → Int32} {sa sb : Int32} {v w p : Nat} (hp0 : 0 < p) (hp : p ≤ 1000) (h : Nt f sa v) (h2 : Nt g sb w) : fX1_areDividedBy u (nI p) sa sb f g = some (if p ∣ v ∧ p ∣ w then 1 else 0) := by
  unfold fX1_areDividedBy
  rw [remC hu hp0 hp h, ob_s, remC hu hp0 hp h2]
  have e1 : (nI (v % p) = 0) = (p ∣ v) := evd.resolve_right (fun z => z ⟨hp0, hp⟩)
  have e2 : (nI (w % p) = 0) = (p ∣ w) := evd.resolve_right (fun z => z ⟨hp0, hp⟩)
  simp only [e1]
  by_cases c : p ∣ v
  · rw [if_pos c, ob_s]
    simp only [e2]
    by_cases d : p ∣ w
    · rw [if_pos d, if_pos ⟨c, d⟩]
    · rw [if_neg d, if_neg (fun z => d z.2)]
  · rw [if_neg c, if_neg (fun z => c z.1)]
