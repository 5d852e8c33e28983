/-! a throw: pushing, leaving, flying -/
def nbN (v b : Nat) : Nat := if b ≤ v then b + (v - b) / 3 else b - (b - v) / 3
def enN (p rc len : Nat) : Nat → Nat
  | 0 => 0
  | k + 1 => p * (k + 1) * (rc + len) / rc
def bnN (p rc len tip st : Nat) : Nat → Nat
  | 0 => 0
  | k + 1 => nbN (enN p rc len (k + 1) * (10 + tip) / (10 * st)) (bnN p rc len tip st k)
def ofN (b : Nat) : Nat := if 10 ≤ b then (if b ≤ 30 then 0 else b - 30) else 10 - b
def pcN (p rc len tip st k : Nat) : Nat := enN p rc len k + bnN p rc len tip st k * st / 50
theorem nb_I {v b : Nat} (hv : v < 2 ^ 30) (hb : b < 2 ^ 30) : nI b + (nI v - nI b) / nI 3 = nI (nbN v b) := by
  unfold nbN
  split
  · rename_i h
    rw [subN h, divI (by omega) (by decide) (by decide), nI_add]
  · rename_i h
    have e : (nI v - nI b) / nI 3 = nI b - nI (b + (b - v) / 3) := by
      apply Int32.toInt_inj.mp
      rw [Int32.toInt_div_of_ne_right _ _ (by decide), pk_sub_toInt hv hb, Int32.toInt_sub, nI_toInt (show b < 2 ^ 31 by omega), nI_toInt (show b + (b - v) / 3 < 2 ^ 31 by omega), nI_toInt (show 3 < 2 ^ 31 by decide), bm32 (by omega) (by omega)]
      have e1 : (v : Int) - b = -((b - v : Nat) : Int) := by omega
      rw [e1, Int.neg_tdiv, ← Int.ofNat_tdiv]
      omega
    rw [e]
    have e2 : nI b = nI (b - (b - v) / 3) + nI ((b - v) / 3) := by rw [nI_add]; congr 1; omega
    have e3 : nI (b + (b - v) / 3) = nI b + nI ((b - v) / 3) := by rw [nI_add]
    rw [e3]
    have e4 : nI b - (nI b + nI ((b - v) / 3)) = - nI ((b - v) / 3) := by
      rw [← Int32.sub_sub, Int32.sub_self, Int32.zero_sub]
    rw [e4]
    conv => lhs; rw [e2]
    rw [← Int32.sub_eq_add_neg, Int32.add_sub_cancel]
theorem nb_le {v b st M : Nat} (hv : v * st ≤ M) (hb : b * st ≤ M) : nbN v b * st ≤ M := by
  unfold nbN
  split
  · have h : b + (v - b) / 3 ≤ v := by omega
    exact Nat.le_trans (Nat.mul_le_mul_right st h) hv
  · have h : b - (b - v) / 3 ≤ b := by omega
    exact Nat.le_trans (Nat.mul_le_mul_right st h) hb
theorem en_b {p rc len k : Nat} (hp : p * (20 + len) ≤ 5940) (hrc : 20 ≤ rc) (hk : k ≤ 19) : p * k * (rc + len) ≤ 5643 * rc := by
  have h1 : 20 * (rc + len) ≤ rc * (20 + len) := by
    have h := Nat.mul_le_mul_right len hrc
    rw [Nat.mul_add, Nat.mul_add]
    omega
  have h2 := Nat.mul_le_mul_left (p * k) h1
  have h3 : p * k * (rc * (20 + len)) = (k * rc) * (p * (20 + len)) := by ac_rfl
  have h4 : (k * rc) * (p * (20 + len)) ≤ (19 * rc) * 5940 := Nat.mul_le_mul (Nat.mul_le_mul_right rc hk) hp
  have h5 : p * k * (20 * (rc + len)) = 20 * (p * k * (rc + len)) := by ac_rfl
  omega
theorem en_l {p rc len k : Nat} (hp : p * (20 + len) ≤ 5940) (hrc : 20 ≤ rc) (hk : k ≤ 19) : enN p rc len k ≤ 5643 := by
  cases k with
  | zero => exact Nat.zero_le _
  | succ k =>
    refine Nat.div_le_of_le_mul ?_
    rw [Nat.mul_comm rc]
    exact en_b hp hrc hk
theorem bv_l {e tip st : Nat} (he : e ≤ 5643) (ht : tip ≤ 60) : e * (10 + tip) / (10 * st) * st ≤ 39501 := by
  have h1 := Nat.div_mul_le_self (e * (10 + tip)) (10 * st)
  have h2 : e * (10 + tip) ≤ 5643 * 70 := Nat.mul_le_mul he (by omega)
  have h3 : e * (10 + tip) / (10 * st) * (10 * st) = 10 * (e * (10 + tip) / (10 * st) * st) := by ac_rfl
  omega
theorem bn_l {p rc len tip st : Nat} (hp : p * (20 + len) ≤ 5940) (hrc : 20 ≤ rc) (ht : tip ≤ 60) : ∀ k : Nat, k ≤ 19 → bnN p rc len tip st k * st ≤ 39501 := by
  intro k
  induction k with
  | zero => intro _; rw [show bnN p rc len tip st 0 = 0 from rfl, Nat.zero_mul]; omega
  | succ k ih =>
    intro hk
    exact nb_le (bv_l (en_l hp hrc hk) ht) (ih (by omega))
theorem le_of_m {b st M : Nat} (h : b * st ≤ M) (hs : 1 ≤ st) : b ≤ M := Nat.le_trans (by have := Nat.mul_le_mul_left b hs; omega) h
theorem pc_l {p rc len tip st k : Nat} (hp : p * (20 + len) ≤ 5940) (hrc : 20 ≤ rc) (ht : tip ≤ 60) (hk : k ≤ 19) : pcN p rc len tip st k ≤ 6433 := by
  unfold pcN
  have h1 := en_l (k := k) hp hrc hk
  have h2 := bn_l (st := st) hp hrc ht k hk
  omega
theorem of_l {b M : Nat} (h : b ≤ M) (h2 : 10 ≤ M) : ofN b ≤ M := by
  unfold ofN
  split
  · split <;> omega
  · omega
/-- the class: pushing -/
theorem leaveC (u : Nat) (a1 a2 a3 a4 a5 a6 a7 a8 a9 : Int32) (t : Nat → Int32) {p rc len tip st n : Nat} (W P AN pa of0 : Int32) (h0 : t 0 = nI rc) (h8 : t 8 = nI tip) (hp : p * (20 + len) ≤ 5940) (hrc : 20 ≤ rc) (hrc2 : rc ≤ 90) (hlen : len ≤ 99) (ht : tip ≤ 60) (hs : 1 ≤ st) (hs2 : st ≤ 99) (hn : n ≤ 19) (hu : 4000000 ≤ u) : jfix (fX2_leave_b71 u a1 a2 a3 a4 a5 a6 a7 a8 a9 t) u (nI p, 0, 0, 0, nI len, W, P, nI st, AN, nI n, pa, 0, of0) = some (nI len, W, P, nI st, AN, nI n, nI (pcN p rc len tip st n), nI (bnN p rc len tip st n), nI (ofN (bnN p rc len tip st n))) := by
  refine jfix_it (fun k => (nI p, nI (p * k), nI (enN p rc len k), nI k, nI len, W, P, nI st, AN, nI n, pa, nI (bnN p rc len tip st k), of0)) n _ ?_ ?_ (by omega)
  · intro k hk rec
    have b1 : p * k + p = p * (k + 1) := rfl
    have b2 : p * (k + 1) * (rc + len) ≤ 5643 * rc := en_b hp hrc (by omega)
    have b3 := en_l (k := k + 1) hp hrc (by omega)
    have b4 : enN p rc len (k + 1) * (10 + tip) ≤ 5643 * 70 := Nat.mul_le_mul b3 (by omega)
    have b5 := le_of_m (bv_l (st := st) b3 ht) hs
    have b6 := le_of_m (bn_l (st := st) hp hrc ht k (by omega)) hs
    unfold fX2_leave_b71
    dsimp only
    rw [if_neg (nI_ge hk (by omega)), blet_s, nI_add, b1]
    simp only [show (0 : Int32).toNatClampNeg = 0 from rfl, show (8 : Int32).toNatClampNeg = 8 from rfl, h0, h8]
    rw [lit32 (nat_lit 0), jgN (by decide) (by decide), jgN (by decide) (by decide), nI_add, mulN, divd (by omega) (by omega) (by omega), ob_s, lit32 (nat_lit 8), jgN (by decide) (by decide), lit32 (nat_lit 10), nI_add, mulN, mulN]
    have e : p * (k + 1) * (rc + len) / rc = enN p rc len (k + 1) := rfl
    rw [e, divd (by omega) (by omega) (by omega), ob_s, blet_s, lit32 (nat_lit 3), nb_I (by omega) (by omega), blet_s, nI_1]
    rfl
  · intro rec
    have b3 := en_l (k := n) hp hrc hn
    have b6 := bn_l (st := st) hp hrc ht n hn
    have b7 := le_of_m b6 hs
    unfold fX2_leave_b71
    dsimp only
    rw [if_pos (nI_le (Nat.le_refl _) (by omega)), blet_s, mulN, lit32 (nat_lit 50), divI (by omega) (by decide) (by decide), nI_add, lit32 (nat_lit 10)]
    simp only [leN (show 10 < 2 ^ 31 by decide) (show bnN p rc len tip st n < 2 ^ 31 by omega)]
    unfold ofN
    by_cases c : 10 ≤ bnN p rc len tip st n
    · rw [if_pos c, if_pos c]
      by_cases d : bnN p rc len tip st n ≤ 30
      · rw [if_pos d]
        have e : ¬ (0 : Int32) < nI (bnN p rc len tip st n) - 30 := by
          rw [Int32.lt_iff_toInt_lt, lit32 (nat_lit 30), pk_sub_toInt (by omega) (by decide), show (0 : Int32).toInt = 0 by decide]
          omega
        rw [if_neg e]
        rfl
      · rw [if_neg d, lit32 (nat_lit 30), subN (by omega), lit32 (nat_lit 0), if_pos (nI_lt (by omega) (by omega))]
        rfl
    · rw [if_neg c, if_neg c, subN (by omega)]
      rfl
/-- the reference: pushing -/
theorem pushR (u : Nat) (q1 q2 : Int32) (str : Nat) (a3 a4 a5 a6 a7 a8 : Int32) (a10 a11 a12 : Int32) {load rc len tip st : Nat} (x pa of0 : Int32) (n : Nat) (hx : (if (1 : Int32) ≤ x then x else 1) = nI n) (hl : 20 + len ≤ load) (hl2 : load < 2 ^ 31) (hstr : str ≤ 99) (hrc : 20 ≤ rc) (hrc2 : rc ≤ 90) (hlen : len ≤ 99) (ht : tip ≤ 60) (hs : 1 ≤ st) (hs2 : st ≤ 99) (hn : n ≤ 19) (hu : 4000000 ≤ u) : jfix (fX9_push_b185 u q1 q2 (nI rc) (nI str) a3 a4 a5 a6 a7 a8 (nI tip) a10 a11 a12) u (nI len, nI st, nI load, x, 0, 0, 0, pa, 0, of0) = some (nI (pcN (60 * str / load) rc len tip st n), nI (bnN (60 * str / load) rc len tip st n), nI (ofN (bnN (60 * str / load) rc len tip st n))) := by
  have hp : 60 * str / load * (20 + len) ≤ 5940 := by
    have h1 := Nat.mul_le_mul_left (60 * str / load) hl
    have h2 := Nat.div_mul_le_self (60 * str) load
    omega
  have hd : ∀ k : Nat, nI (60 * str / load * k) + nI (60 * str / load) = nI (60 * str / load * (k + 1)) := fun k => by rw [nI_add]; rfl
  generalize hq : 60 * str / load = p at hp hd
  refine jfix_it (fun k => (nI len, nI st, nI load, x, nI (p * k), nI (enN p rc len k), nI k, pa, nI (bnN p rc len tip st k), of0)) n _ ?_ ?_ (by omega)
  · intro k hk rec
    have b2 : p * (k + 1) * (rc + len) ≤ 5643 * rc := en_b hp hrc (by omega)
    have b3 := en_l (k := k + 1) hp hrc (by omega)
    have b4 : enN p rc len (k + 1) * (10 + tip) ≤ 5643 * 70 := Nat.mul_le_mul b3 (by omega)
    have b5 := le_of_m (bv_l (st := st) b3 ht) hs
    have b6 := le_of_m (bn_l (st := st) hp hrc ht k (by omega)) hs
    have e0 : fX9_push_b185 u q1 q2 (nI rc) (nI str) a3 a4 a5 a6 a7 a8 (nI tip) a10 a11 a12 rec (nI len, nI st, nI load, x, nI (p * k), nI (enN p rc len k), nI k, pa, nI (bnN p rc len tip st k), of0) = fX9_push_b199 u q1 q2 (nI rc) (nI str) a3 a4 a5 a6 a7 a8 (nI tip) a10 a11 a12 rec (nI len, nI st, nI load, x, nI (p * k), nI (enN p rc len k), nI k, nI k, nI n, pa, nI (bnN p rc len tip st k), of0) := by
      rw [← hx]
      unfold fX9_push_b185
      dsimp only
      split <;> rfl
    rw [e0]
    unfold fX9_push_b199
    dsimp only
    rw [if_neg (nI_ge hk (by omega)), if_neg (nI_ne0 (by omega) hl2), lit32 (nat_lit 60), mulN, divI (by omega) (by omega) hl2, hq, hd k, blet_s, if_neg (nI_ne0 (by omega) (by omega)), nI_add, mulN, divI (by omega) (by omega) (by omega), blet_s]
    have e : p * (k + 1) * (rc + len) / rc = enN p rc len (k + 1) := rfl
    rw [e, lit32 (nat_lit 10), mulN, if_neg (nI_ne0 (by omega) (by omega)), nI_add, mulN, divI (by omega) (by omega) (by omega), lit32 (nat_lit 3), nb_I (by omega) (by omega), blet_s, blet_s, nI_1]
    rfl
  · intro rec
    have b3 := en_l (k := n) hp hrc hn
    have b6 := bn_l (st := st) hp hrc ht n hn
    have b7 := le_of_m b6 hs
    have e0 : fX9_push_b185 u q1 q2 (nI rc) (nI str) a3 a4 a5 a6 a7 a8 (nI tip) a10 a11 a12 rec (nI len, nI st, nI load, x, nI (p * n), nI (enN p rc len n), nI n, pa, nI (bnN p rc len tip st n), of0) = fX9_push_b199 u q1 q2 (nI rc) (nI str) a3 a4 a5 a6 a7 a8 (nI tip) a10 a11 a12 rec (nI len, nI st, nI load, x, nI (p * n), nI (enN p rc len n), nI n, nI n, nI n, pa, nI (bnN p rc len tip st n), of0) := by
      rw [show nI len = nI len from rfl]
      unfold fX9_push_b185
      dsimp only
      split
      · rename_i c
        rw [if_pos c] at hx
        rw [hx]
      · rename_i c
        rw [if_neg c] at hx
        rw [hx]
    rw [e0]
    unfold fX9_push_b199
    dsimp only
    rw [if_pos (nI_le (Nat.le_refl _) (by omega)), blet_s, mulN, lit32 (nat_lit 50), divI (by omega) (by decide) (by decide), nI_add, lit32 (nat_lit 10), lit32 (nat_lit 30)]
    simp only [leN (show 10 < 2 ^ 31 by decide) (show bnN p rc len tip st n < 2 ^ 31 by omega), leN (show bnN p rc len tip st n < 2 ^ 31 by omega) (show 30 < 2 ^ 31 by decide)]
    unfold ofN
    by_cases c : 10 ≤ bnN p rc len tip st n
    · rw [if_pos c, if_pos c]
      by_cases d : bnN p rc len tip st n ≤ 30
      · rw [if_pos d, if_pos d]
        rfl
      · rw [if_neg d, if_neg d, subN (by omega)]
        rfl
    · rw [if_neg c, if_neg c, subN (by omega)]
      rfl
