def kUp (q : Nat) (N K : Nat → Int32) : Nat → Int32 := fun j => if 398 * q ≤ j ∧ j < 398 * q + 398 then N (j - 398 * q) else K j
theorem cpt {a b : Int32} {n : Nat} {f g : Nat → Int32} (hn : n < 2 ^ 31) : fX7_copyFrom a b n f n g = some (b, va_cpy g f 0 0 n) := by
  unfold fX7_copyFrom
  rw [if_neg (Int32.lt_irrefl _), blet_s, show Int32.ofNat n = nI n from rfl, nI_clamp hn, if_pos ⟨by decide, by decide, nI_pos' hn, by show 0 + n ≤ n; omega, by show 0 + n ≤ n; omega⟩, blet_s]
  rfl
theorem cpt_s {f g : Nat → Int32} {n : Nat} : ∀ k : Nat, k < n → va_cpy g f 0 0 n k = g k := fun k hk => by
  rw [pk_cpy_in (Nat.zero_le _) (by omega), Nat.zero_add, Nat.sub_zero]
theorem w01 {p1 : Int32} (hp : p1 ≠ 0 ∧ p1 ≠ 1) : fX8_within p1 0 1 = some 0 := by
  rcases wi p1 0 1 (A := 0) (B := 1) rfl rfl with ⟨e, h⟩ | ⟨e, h⟩
  · obtain ⟨n, rfl, hn⟩ := rg_N (B := 1) h
    have : n = 0 ∨ n = 1 := by omega
    rcases this with rfl | rfl
    · exact absurd rfl hp.1
    · exact absurd rfl hp.2
  · exact e
theorem imgR {u : Nat} (hu : 4000000 ≤ u) {q : Nat} {p1 : Int32} (hq : (q = 0 ∧ p1 = 0) ∨ (q = 1 ∧ p1 = 1)) (Z K N rf : Nat → Int32) : fX9_image u p1 Z K N rf = some (1, upd Z q 1, kUp q N K, rf) := by
  have hp : p1 = nI q := by rcases hq with ⟨rfl, rfl⟩ | ⟨rfl, rfl⟩ <;> rfl
  have hq1 : q ≤ 1 := by omega
  subst hp
  unfold fX9_image
  rw [in_0_1]
  have ew : fX8_within (nI q) 0 1 = some 1 := by rcases hq with ⟨rfl, _⟩ | ⟨rfl, _⟩ <;> rfl
  rw [ew, ob_s, if_neg one0]
  have key := jfix_to (g := fX9_image_b19 u (nI q) Z K N rf) (fun k => (nI k, Z, (fun j => if 398 * q ≤ j ∧ j < 398 * q + k then N (j - 398 * q) else K j), rf)) 398 (some (1, upd Z q 1, kUp q N K, rf)) (u := u) (by
    intro k hk rec
    unfold fX9_image_b19
    dsimp only
    rw [show (398 : Int32) = nI 398 from rfl, if_neg (nI_ge hk (by decide)), mulN, nI_add, jgN hk (by omega), jgN (by omega) (by omega), nI_clamp (by omega), nI_clamp (by omega), blet_s, blet_s, nI_1]
    congr 3
    funext j
    by_cases c : j = 398 * q + k
    · rw [updE c, if_pos (by omega)]
      congr 1
      omega
    · rw [updN c]
      by_cases d : 398 * q ≤ j ∧ j < 398 * q + k
      · rw [if_pos d, if_pos (by omega)]
      · rw [if_neg d, if_neg (by omega)]) (by
    intro rec
    unfold fX9_image_b19
    dsimp only
    rw [if_pos (show (398 : Int32) ≤ nI 398 by decide), jgN (by omega) (by omega), nI_clamp (by omega), blet_s]
    rfl) (by omega)
  have e0 : (fun j => if 398 * q ≤ j ∧ j < 398 * q + 0 then N (j - 398 * q) else K j) = K := by
    funext j
    rw [if_neg (by omega)]
  dsimp only at key
  rw [e0] at key
  exact key
theorem pv_imageB (u : Nat) (N K Z rf : Nat → Int32) (sg : Int32) (Lm : Nat → Int64) (S cal cbl : Nat → Int32) (p1 : Int32) (hp : p1 ≠ 0 ∧ p1 ≠ 1) (hR : RelC N K Z rf sg Lm S cal cbl) : ∃ (rc : Int32 × (Nat → Int32)) (rf2 : Nat → Int32), fX8_imageB p1 rf = some rc ∧ fX9_image u p1 Z K N rf = some (rc.1, Z, K, rf2) ∧ RelAll N K Z rf2 sg Lm S (N 392) (N 393) (N 394) 4 1 (N 395) 1 (N 396) (N 397) 1 3 8 (N 191) (cw 0 N) (cw 12 N) (cw 24 N) (cw 40 N) (cw 48 N) (cw 50 N) (cw 98 N) (cw 99 N) (cw 147 N) (cw 153 N) (cw 154 N) (cw 175 N) (cw 192 N) rc.2 sg (S 0) (S 1) cal cbl := by
  unfold fX8_imageB fX9_image
  rw [in_0_1, w01 hp, ob_s, ob_s, if_pos rfl, if_pos rfl]
  exact ⟨_, _, rfl, rfl, Rel_rf _ hR⟩
theorem pv_fromB (u : Nat) (N K Z rf : Nat → Int32) (sg : Int32) (Lm : Nat → Int64) (S cal cbl : Nat → Int32) (p1 : Int32) (hp : p1 ≠ 0 ∧ p1 ≠ 1) (hR : RelC N K Z rf sg Lm S cal cbl) : ∃ (rc : Int32 × (Nat → Int32)) (rf2 : Nat → Int32), fX8_fromB p1 rf = some rc ∧ fX9_from u p1 Z K N rf = some (rc.1, N, rf2) ∧ RelAll N K Z rf2 sg Lm S (N 392) (N 393) (N 394) 4 1 (N 395) 1 (N 396) (N 397) 1 3 8 (N 191) (cw 0 N) (cw 12 N) (cw 24 N) (cw 40 N) (cw 48 N) (cw 50 N) (cw 98 N) (cw 99 N) (cw 147 N) (cw 153 N) (cw 154 N) (cw 175 N) (cw 192 N) rc.2 sg (S 0) (S 1) cal cbl := by
  unfold fX8_fromB fX9_from
  rw [in_0_1, w01 hp, ob_s, ob_s, if_pos rfl, if_pos rfl]
  exact ⟨_, _, rfl, rfl, Rel_rf _ hR⟩
theorem pv_fromN (u : Nat) (N K Z rf : Nat → Int32) (sg : Int32) (Lm : Nat → Int64) (S cal cbl : Nat → Int32) (q : Nat) (p1 : Int32) (hq : (q = 0 ∧ p1 = 0) ∨ (q = 1 ∧ p1 = 1)) (hR : RelC N K Z rf sg Lm S cal cbl) (hz : Z q = 0) : ∃ (rc : Int32 × (Nat → Int32)) (rf2 : Nat → Int32), fX8_fromN p1 rf = some rc ∧ fX9_from u p1 Z K N rf = some (rc.1, N, rf2) ∧ RelAll N K Z rf2 sg Lm S (N 392) (N 393) (N 394) 4 1 (N 395) 1 (N 396) (N 397) 1 3 8 (N 191) (cw 0 N) (cw 12 N) (cw 24 N) (cw 40 N) (cw 48 N) (cw 50 N) (cw 98 N) (cw 99 N) (cw 147 N) (cw 153 N) (cw 154 N) (cw 175 N) (cw 192 N) rc.2 sg (S 0) (S 1) cal cbl := by
  have hp : p1 = nI q := by rcases hq with ⟨rfl, rfl⟩ | ⟨rfl, rfl⟩ <;> rfl
  have hq1 : q ≤ 1 := by omega
  have ew : fX8_within p1 0 1 = some 1 := by rcases hq with ⟨_, rfl⟩ | ⟨_, rfl⟩ <;> rfl
  unfold fX8_fromN fX9_from
  rw [in_0_1, ew, ob_s, ob_s, if_neg one0, if_neg one0, hp, jgN (by omega) (by omega), jgN (by omega) (by omega), nI_clamp (by omega), if_pos hz]
  exact ⟨_, _, rfl, rfl, Rel_rf _ hR⟩
