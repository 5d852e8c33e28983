def kUp (q : Nat) (N K : Nat → Int32) : Nat → Int32 := fun j => if 398 * q ≤ j ∧ j < 398 * q + 398 then N (j - 398 * q) else K j
theorem cpt {a b : Int32} {n : Nat} {f g : Nat → Int32} (hn : n < 2 ^ 31) : fX7_copyFrom a b n f n g = some (b, va_cpy g f 0 0 n) := by
  unfold fX7_copyFrom
  rw [ite_self, blet_s, show Int32.ofNat n = nI n from rfl, nI_clamp hn, if_pos ⟨by decide, by decide, nI_pos' hn, by show 0 + n ≤ n; omega, by show 0 + n ≤ n; omega⟩, blet_s]
  rfl
theorem cpt_s {f g : Nat → Int32} {n : Nat} : ∀ k : Nat, k < n → va_cpy g f 0 0 n k = g k := fun k hk => by
  rw [pk_cpy_in (Nat.zero_le _) (by omega), Nat.zero_add, Nat.sub_zero]
theorem w01 {p1 : Int32} (hp : p1 ≠ 0 ∧ p1 ≠ 1) : fX8_within p1 0 1 = some 0 := by
  rcases wi p1 0 1 (A := 0) (B := 1) rfl rfl with ⟨e, h⟩ | ⟨e, h⟩
  · obtain ⟨n, rfl, hn⟩ := rg_N (B := 1) h
    have : n = 0 ∨ n = 1 := by omega
    rcases this with rfl | rfl
    · exact absurd rfl hp.1
    · exact absurd rfl hp.2
  · exact e
theorem imgR {u : Nat} (hu : 4000000 ≤ u) {q : Nat} {p1 : Int32} (hq : (q = 0 ∧ p1 = 0) ∨ (q = 1 ∧ p1 = 1)) (Z K N rf : Nat → Int32) : fX9_image u p1 Z K N rf = some (1, upd Z q 1, kUp q N K, rf) := by
  have hp : p1 = nI q := by rcases hq with ⟨rfl, rfl⟩ | ⟨rfl, rfl⟩ <;> rfl
  have hq1 : q ≤ 1 := by omega
  subst hp
  unfold fX9_image
  rw [in_0_1]
  have ew : fX8_within (nI q) 0 1 = some 1 := by rcases hq with ⟨rfl, _⟩ | ⟨rfl, _⟩ <;> rfl
  rw [ew, ob_s, if_neg one0]
  have key := jfix_to (g := fX9_image_b19 u (nI q) Z K N rf) (fun k => (nI k, Z, (fun j => if 398 * q ≤ j ∧ j < 398 * q + k then N (j - 398 * q) else K j), rf)) 398 (some (1, upd Z q 1, kUp q N K, rf)) (u := u) (by
    intro k hk rec
    unfold fX9_image_b19
    dsimp only
    rw [show (398 : Int32) = nI 398 from rfl, if_neg (nI_ge hk (by decide)), mulN, nI_add, jgN hk (by omega), jgN (by omega) (by omega), nI_clamp (by omega), nI_clamp (by omega), blet_s, blet_s, nI_1]
    have ef : upd (fun j => if 398 * q ≤ j ∧ j < 398 * q + k then N (j - 398 * q) else K j) (398 * q + k) (N k) = (fun j => if 398 * q ≤ j ∧ j < 398 * q + (k + 1) then N (j - 398 * q) else K j) := by
     funext j
     by_cases c : j = 398 * q + k
     · rw [updE c, if_pos (by omega)]
       congr 1
       omega
     · rw [updN c]
       by_cases d : 398 * q ≤ j ∧ j < 398 * q + k
       · rw [if_pos d, if_pos (by omega)]
       · rw [if_neg d, if_neg (by omega)]
    rw [ef]) (by
    intro rec
    unfold fX9_image_b19
    dsimp only
    rw [if_pos (show (398 : Int32) ≤ nI 398 by decide), jgN (by omega) (by omega), nI_clamp (by omega), blet_s]
    rfl) (by omega)
  have e0 : (fun j => if 398 * q ≤ j ∧ j < 398 * q + 0 then N (j - 398 * q) else K j) = K := by
    funext j
    rw [if_neg (by omega)]
  have key2 : jfix (fX9_image_b19 u (nI q) Z K N rf) u (nI 0, Z, (fun j => if 398 * q ≤ j ∧ j < 398 * q + 0 then N (j - 398 * q) else K j), rf) = some (1, upd Z q 1, kUp q N K, rf) := key
  rw [e0] at key2
  exact key2
theorem pv_imageB (u : Nat) (N K Z rf : Nat → Int32) (sg : Int32) (Lm : Nat → Int64) (S cal cbl : Nat → Int32) (p1 : Int32) (hp : p1 ≠ 0 ∧ p1 ≠ 1) (hR : RelC N K Z rf sg Lm S cal cbl) : ∃ (rc : Int32 × (Nat → Int32)) (rf2 : Nat → Int32), fX8_imageB p1 rf = some rc ∧ fX9_image u p1 Z K N rf = some (rc.1, Z, K, rf2) ∧ RelAll N K Z rf2 sg Lm S (N 392) (N 393) (N 394) 4 1 (N 395) 1 (N 396) (N 397) 1 3 8 (N 191) (cw 0 N) (cw 12 N) (cw 24 N) (cw 40 N) (cw 48 N) (cw 50 N) (cw 98 N) (cw 99 N) (cw 147 N) (cw 153 N) (cw 154 N) (cw 175 N) (cw 192 N) rc.2 sg (S 0) (S 1) cal cbl := by
  unfold fX8_imageB fX9_image
  rw [in_0_1, w01 hp, ob_s, ob_s, if_pos rfl, if_pos rfl]
  exact ⟨_, _, rfl, rfl, Rel_rf _ hR⟩
theorem pv_fromB (u : Nat) (N K Z rf : Nat → Int32) (sg : Int32) (Lm : Nat → Int64) (S cal cbl : Nat → Int32) (p1 : Int32) (hp : p1 ≠ 0 ∧ p1 ≠ 1) (hR : RelC N K Z rf sg Lm S cal cbl) : ∃ (rc : Int32 × (Nat → Int32)) (rf2 : Nat → Int32), fX8_fromB p1 rf = some rc ∧ fX9_from u p1 Z K N rf = some (rc.1, N, rf2) ∧ RelAll N K Z rf2 sg Lm S (N 392) (N 393) (N 394) 4 1 (N 395) 1 (N 396) (N 397) 1 3 8 (N 191) (cw 0 N) (cw 12 N) (cw 24 N) (cw 40 N) (cw 48 N) (cw 50 N) (cw 98 N) (cw 99 N) (cw 147 N) (cw 153 N) (cw 154 N) (cw 175 N) (cw 192 N) rc.2 sg (S 0) (S 1) cal cbl := by
  unfold fX8_fromB fX9_from
  rw [in_0_1, w01 hp, ob_s, ob_s, if_pos rfl, if_pos rfl]
  exact ⟨_, _, rfl, rfl, Rel_rf _ hR⟩
theorem pv_fromN (u : Nat) (N K Z rf : Nat → Int32) (sg : Int32) (Lm : Nat → Int64) (S cal cbl : Nat → Int32) (q : Nat) (p1 : Int32) (hq : (q = 0 ∧ p1 = 0) ∨ (q = 1 ∧ p1 = 1)) (hR : RelC N K Z rf sg Lm S cal cbl) (hz : Z q = 0) : ∃ (rc : Int32 × (Nat → Int32)) (rf2 : Nat → Int32), fX8_fromN p1 rf = some rc ∧ fX9_from u p1 Z K N rf = some (rc.1, N, rf2) ∧ RelAll N K Z rf2 sg Lm S (N 392) (N 393) (N 394) 4 1 (N 395) 1 (N 396) (N 397) 1 3 8 (N 191) (cw 0 N) (cw 12 N) (cw 24 N) (cw 40 N) (cw 48 N) (cw 50 N) (cw 98 N) (cw 99 N) (cw 147 N) (cw 153 N) (cw 154 N) (cw 175 N) (cw 192 N) rc.2 sg (S 0) (S 1) cal cbl := by
  have hp : p1 = nI q := by rcases hq with ⟨rfl, rfl⟩ | ⟨rfl, rfl⟩ <;> rfl
  have hq1 : q ≤ 1 := by omega
  have ew : fX8_within p1 0 1 = some 1 := by rcases hq with ⟨_, rfl⟩ | ⟨_, rfl⟩ <;> rfl
  unfold fX8_fromN fX9_from
  rw [in_0_1, ew, ob_s, ob_s, if_neg one0, if_neg one0, hp, jgN (by omega) (by omega), jgN (by omega) (by omega), nI_clamp (by omega), if_pos hz]
  exact ⟨_, _, rfl, rfl, Rel_rf _ hR⟩
theorem pv_imageN (u : Nat) (hu : 4000000 ≤ u) (N K Z rf : Nat → Int32) (sg : Int32) (Lm : Nat → Int64) (S cal cbl : Nat → Int32) (q : Nat) (p1 : Int32) (hq : (q = 0 ∧ p1 = 0) ∨ (q = 1 ∧ p1 = 1)) (hR : RelC N K Z rf sg Lm S cal cbl) : ∃ rc : Int32 × (Nat → Int32) × Int32 × (Nat → Int32) × Int32 × (Nat → Int32) × Int32 × (Nat → Int32) × Int32 × (Nat → Int32) × Int32 × (Nat → Int32) × Int32 × (Nat → Int32) × Int32 × (Nat → Int32) × Int32 × (Nat → Int32) × Int32 × (Nat → Int32) × Int32 × (Nat → Int32) × Int32 × (Nat → Int32) × Int32 × (Nat → Int32), fX8_imageN p1 (N 392) (cw 0 N) (N 393) (cw 12 N) (N 394) (cw 24 N) 4 (cw 40 N) 1 (cw 48 N) (N 395) (cw 50 N) 1 (cw 98 N) (N 396) (cw 99 N) (N 397) (cw 147 N) 1 (cw 153 N) 3 (cw 154 N) 8 (cw 175 N) (N 191) (cw 192 N) = some rc ∧ fX9_image u p1 Z K N rf = some ((1 : Int32), upd Z q 1, kUp q N K, rf) ∧ RelS N rc.1 rc.2.2.1 rc.2.2.2.2.1 rc.2.2.2.2.2.2.1 rc.2.2.2.2.2.2.2.2.1 rc.2.2.2.2.2.2.2.2.2.2.1 rc.2.2.2.2.2.2.2.2.2.2.2.2.1 rc.2.2.2.2.2.2.2.2.2.2.2.2.2.2.1 rc.2.2.2.2.2.2.2.2.2.2.2.2.2.2.2.2.1 rc.2.2.2.2.2.2.2.2.2.2.2.2.2.2.2.2.2.2.1 rc.2.2.2.2.2.2.2.2.2.2.2.2.2.2.2.2.2.2.2.2.1 rc.2.2.2.2.2.2.2.2.2.2.2.2.2.2.2.2.2.2.2.2.2.2.1 rc.2.2.2.2.2.2.2.2.2.2.2.2.2.2.2.2.2.2.2.2.2.2.2.2.1 rc.2.1 rc.2.2.2.1 rc.2.2.2.2.2.1 rc.2.2.2.2.2.2.2.1 rc.2.2.2.2.2.2.2.2.2.1 rc.2.2.2.2.2.2.2.2.2.2.2.1 rc.2.2.2.2.2.2.2.2.2.2.2.2.2.1 rc.2.2.2.2.2.2.2.2.2.2.2.2.2.2.2.1 rc.2.2.2.2.2.2.2.2.2.2.2.2.2.2.2.2.2.1 rc.2.2.2.2.2.2.2.2.2.2.2.2.2.2.2.2.2.2.2.1 rc.2.2.2.2.2.2.2.2.2.2.2.2.2.2.2.2.2.2.2.2.2.1 rc.2.2.2.2.2.2.2.2.2.2.2.2.2.2.2.2.2.2.2.2.2.2.2.1 rc.2.2.2.2.2.2.2.2.2.2.2.2.2.2.2.2.2.2.2.2.2.2.2.2.2 := by
  have hp : p1 = nI q := by rcases hq with ⟨rfl, rfl⟩ | ⟨rfl, rfl⟩ <;> rfl
  have hq1 : q ≤ 1 := by omega
  have ew : fX8_within p1 0 1 = some 1 := by rcases hq with ⟨_, rfl⟩ | ⟨_, rfl⟩ <;> rfl
  have e9 := imgR hu hq Z K N rf
  unfold fX8_imageN
  rw [ew, ob_s, if_neg one0, hp, jgN (by omega) (by omega), jgN (by omega) (by omega), jgN (by omega) (by omega), show fX6_init = some () from rfl, ob_s]
  unfold fX6_copyFrom
  simp (disch := decide) only [cpt, ob_s]
  rw [← hp]
  exact ⟨_, rfl, e9, ⟨rfl, rfl, rfl, rfl, rfl, rfl, rfl, rfl, rfl, rfl, rfl, rfl, rfl⟩, fun k hk => by dsimp only; exact cpt_s k hk, fun k hk => by dsimp only; exact cpt_s k hk, fun k hk => by dsimp only; exact cpt_s k hk, fun k hk => by dsimp only; exact cpt_s k hk, fun k hk => by dsimp only; exact cpt_s k hk, fun k hk => by dsimp only; exact cpt_s k hk, fun k hk => by dsimp only; exact cpt_s k hk, fun k hk => by dsimp only; exact cpt_s k hk, fun k hk => by dsimp only; exact cpt_s k hk, fun k hk => by dsimp only; exact cpt_s k hk, fun k hk => by dsimp only; exact cpt_s k hk, fun k hk => by dsimp only; exact cpt_s k hk, fun k hk => by dsimp only; exact cpt_s k hk⟩
theorem pv_imageS (u : Nat) (hu : 4000000 ≤ u) (N K Z rf : Nat → Int32) (sg : Int32) (Lm : Nat → Int64) (S cal cbl : Nat → Int32) (q : Nat) (p1 : Int32) (hq : (q = 0 ∧ p1 = 0) ∨ (q = 1 ∧ p1 = 1)) (hR : RelC N K Z rf sg Lm S cal cbl) (hz : Z q = 1) : ∃ rc : Int32 × (Nat → Int32) × Int32 × (Nat → Int32) × Int32 × (Nat → Int32) × Int32 × (Nat → Int32) × Int32 × (Nat → Int32) × Int32 × (Nat → Int32) × Int32 × (Nat → Int32) × Int32 × (Nat → Int32) × Int32 × (Nat → Int32) × Int32 × (Nat → Int32) × Int32 × (Nat → Int32) × Int32 × (Nat → Int32) × Int32 × (Nat → Int32), fX8_imageS p1 (N 392) (cw 0 N) (N 393) (cw 12 N) (N 394) (cw 24 N) 4 (cw 40 N) 1 (cw 48 N) (N 395) (cw 50 N) 1 (cw 98 N) (N 396) (cw 99 N) (N 397) (cw 147 N) 1 (cw 153 N) 3 (cw 154 N) 8 (cw 175 N) (N 191) (cw 192 N) ((cw (398 * q) K) 392) (cw 0 (cw (398 * q) K)) ((cw (398 * q) K) 393) (cw 12 (cw (398 * q) K)) ((cw (398 * q) K) 394) (cw 24 (cw (398 * q) K)) 4 (cw 40 (cw (398 * q) K)) 1 (cw 48 (cw (398 * q) K)) ((cw (398 * q) K) 395) (cw 50 (cw (398 * q) K)) 1 (cw 98 (cw (398 * q) K)) ((cw (398 * q) K) 396) (cw 99 (cw (398 * q) K)) ((cw (398 * q) K) 397) (cw 147 (cw (398 * q) K)) 1 (cw 153 (cw (398 * q) K)) 3 (cw 154 (cw (398 * q) K)) 8 (cw 175 (cw (398 * q) K)) ((cw (398 * q) K) 191) (cw 192 (cw (398 * q) K)) = some rc ∧ fX9_image u p1 Z K N rf = some ((1 : Int32), upd Z q 1, kUp q N K, rf) ∧ RelS N rc.1 rc.2.2.1 rc.2.2.2.2.1 rc.2.2.2.2.2.2.1 rc.2.2.2.2.2.2.2.2.1 rc.2.2.2.2.2.2.2.2.2.2.1 rc.2.2.2.2.2.2.2.2.2.2.2.2.1 rc.2.2.2.2.2.2.2.2.2.2.2.2.2.2.1 rc.2.2.2.2.2.2.2.2.2.2.2.2.2.2.2.2.1 rc.2.2.2.2.2.2.2.2.2.2.2.2.2.2.2.2.2.2.1 rc.2.2.2.2.2.2.2.2.2.2.2.2.2.2.2.2.2.2.2.2.1 rc.2.2.2.2.2.2.2.2.2.2.2.2.2.2.2.2.2.2.2.2.2.2.1 rc.2.2.2.2.2.2.2.2.2.2.2.2.2.2.2.2.2.2.2.2.2.2.2.2.1 rc.2.1 rc.2.2.2.1 rc.2.2.2.2.2.1 rc.2.2.2.2.2.2.2.1 rc.2.2.2.2.2.2.2.2.2.1 rc.2.2.2.2.2.2.2.2.2.2.2.1 rc.2.2.2.2.2.2.2.2.2.2.2.2.2.1 rc.2.2.2.2.2.2.2.2.2.2.2.2.2.2.2.1 rc.2.2.2.2.2.2.2.2.2.2.2.2.2.2.2.2.2.1 rc.2.2.2.2.2.2.2.2.2.2.2.2.2.2.2.2.2.2.2.1 rc.2.2.2.2.2.2.2.2.2.2.2.2.2.2.2.2.2.2.2.2.2.1 rc.2.2.2.2.2.2.2.2.2.2.2.2.2.2.2.2.2.2.2.2.2.2.2.1 rc.2.2.2.2.2.2.2.2.2.2.2.2.2.2.2.2.2.2.2.2.2.2.2.2.2 := by
  have hp : p1 = nI q := by rcases hq with ⟨rfl, rfl⟩ | ⟨rfl, rfl⟩ <;> rfl
  have hq1 : q ≤ 1 := by omega
  have ew : fX8_within p1 0 1 = some 1 := by rcases hq with ⟨_, rfl⟩ | ⟨_, rfl⟩ <;> rfl
  have e9 := imgR hu hq Z K N rf
  unfold fX8_imageS
  rw [ew, ob_s, if_neg one0, hp, jgN (by omega) (by omega), jgN (by omega) (by omega)]
  unfold fX6_copyFrom
  simp (disch := decide) only [cpt, ob_s]
  rw [← hp]
  exact ⟨_, rfl, e9, ⟨rfl, rfl, rfl, rfl, rfl, rfl, rfl, rfl, rfl, rfl, rfl, rfl, rfl⟩, fun k hk => cpt_s k hk, fun k hk => cpt_s k hk, fun k hk => cpt_s k hk, fun k hk => cpt_s k hk, fun k hk => cpt_s k hk, fun k hk => cpt_s k hk, fun k hk => cpt_s k hk, fun k hk => cpt_s k hk, fun k hk => cpt_s k hk, fun k hk => cpt_s k hk, fun k hk => cpt_s k hk, fun k hk => cpt_s k hk, fun k hk => cpt_s k hk⟩
theorem InvN_cong {N N2 : Nat → Int32} (I : InvN N) (h : ∀ k : Nat, k < 398 → N2 k = N k) : InvN N2 := by
  refine InvN_arms I (fun k hk _ _ => h k hk) (by rw [h 392 (by decide)]; exact I.1.1) (fun i hi => ?_)
  rw [h 392 (by decide)] at hi
  have h4 := I.1.1.2
  rw [h _ (by omega), h _ (by omega), h _ (by omega)]
  exact I.2.1 i hi
def frN (q : Nat) (K N : Nat → Int32) : Nat → Int32 := fun j => if j < 398 then K (398 * q + j) else N j
theorem frmR {u : Nat} (hu : 4000000 ≤ u) {q : Nat} {p1 : Int32} (hq : (q = 0 ∧ p1 = 0) ∨ (q = 1 ∧ p1 = 1)) (Z K N rf : Nat → Int32) (hz : Z q = 1) : fX9_from u p1 Z K N rf = some (1, frN q K N, rf) := by
  have hp : p1 = nI q := by rcases hq with ⟨rfl, rfl⟩ | ⟨rfl, rfl⟩ <;> rfl
  have hq1 : q ≤ 1 := by omega
  have ew : fX8_within p1 0 1 = some 1 := by rcases hq with ⟨_, rfl⟩ | ⟨_, rfl⟩ <;> rfl
  unfold fX9_from
  rw [in_0_1, ew, ob_s, if_neg one0, hp, jgN (by omega) (by omega), nI_clamp (by omega), hz, if_neg one0]
  have key := jfix_to (g := fX9_from_b35 u (nI q) Z K N rf) (fun k => (nI k, (fun j => if j < k then K (398 * q + j) else N j), rf)) 398 (some (1, frN q K N, rf)) (u := u) (by
    intro k hk rec
    unfold fX9_from_b35
    dsimp only
    rw [show (398 : Int32) = nI 398 from rfl, if_neg (nI_ge hk (by decide)), mulN, nI_add, blet_s, jgN (by omega) (by omega), jgN hk (by omega), nI_clamp (by omega), nI_clamp (by omega), blet_s, blet_s, nI_1]
    have ef : upd (fun j => if j < k then K (398 * q + j) else N j) k (K (398 * q + k)) = (fun j => if j < k + 1 then K (398 * q + j) else N j) := by
      funext j
      by_cases c : j = k
      · rw [updE c, if_pos (by omega), c]
      · rw [updN c]
        by_cases d : j < k
        · rw [if_pos d, if_pos (by omega)]
        · rw [if_neg d, if_neg (by omega)]
    rw [ef]) (by
    intro rec
    unfold fX9_from_b35
    dsimp only
    rw [if_pos (show (398 : Int32) ≤ nI 398 by decide)]
    rfl) (by omega)
  exact key
theorem pv_fromS (u : Nat) (hu : 4000000 ≤ u) (N K Z rf : Nat → Int32) (sg : Int32) (Lm : Nat → Int64) (S cal cbl : Nat → Int32) (q : Nat) (p1 : Int32) (hq : (q = 0 ∧ p1 = 0) ∨ (q = 1 ∧ p1 = 1)) (hR : RelC N K Z rf sg Lm S cal cbl) (hz : Z q = 1) : ∃ (rc : Int32 × (Nat → Int32) × Int32 × (Nat → Int32) × Int32 × (Nat → Int32) × Int32 × (Nat → Int32) × Int32 × (Nat → Int32) × Int32 × (Nat → Int32) × Int32 × (Nat → Int32) × Int32 × (Nat → Int32) × Int32 × (Nat → Int32) × Int32 × (Nat → Int32) × Int32 × (Nat → Int32) × Int32 × (Nat → Int32) × Int32 × (Nat → Int32)) (N2 : Nat → Int32), fX8_fromS p1 (N 392) (cw 0 N) (N 393) (cw 12 N) (N 394) (cw 24 N) 4 (cw 40 N) 1 (cw 48 N) (N 395) (cw 50 N) 1 (cw 98 N) (N 396) (cw 99 N) (N 397) (cw 147 N) 1 (cw 153 N) 3 (cw 154 N) 8 (cw 175 N) (N 191) (cw 192 N) ((cw (398 * q) K) 392) (cw 0 (cw (398 * q) K)) ((cw (398 * q) K) 393) (cw 12 (cw (398 * q) K)) ((cw (398 * q) K) 394) (cw 24 (cw (398 * q) K)) 4 (cw 40 (cw (398 * q) K)) 1 (cw 48 (cw (398 * q) K)) ((cw (398 * q) K) 395) (cw 50 (cw (398 * q) K)) 1 (cw 98 (cw (398 * q) K)) ((cw (398 * q) K) 396) (cw 99 (cw (398 * q) K)) ((cw (398 * q) K) 397) (cw 147 (cw (398 * q) K)) 1 (cw 153 (cw (398 * q) K)) 3 (cw 154 (cw (398 * q) K)) 8 (cw 175 (cw (398 * q) K)) ((cw (398 * q) K) 191) (cw 192 (cw (398 * q) K)) = some rc ∧ fX9_from u p1 Z K N rf = some ((1 : Int32), N2, rf) ∧ RelAll N2 K Z rf sg Lm S rc.1 rc.2.2.1 rc.2.2.2.2.1 rc.2.2.2.2.2.2.1 rc.2.2.2.2.2.2.2.2.1 rc.2.2.2.2.2.2.2.2.2.2.1 rc.2.2.2.2.2.2.2.2.2.2.2.2.1 rc.2.2.2.2.2.2.2.2.2.2.2.2.2.2.1 rc.2.2.2.2.2.2.2.2.2.2.2.2.2.2.2.2.1 rc.2.2.2.2.2.2.2.2.2.2.2.2.2.2.2.2.2.2.1 rc.2.2.2.2.2.2.2.2.2.2.2.2.2.2.2.2.2.2.2.2.1 rc.2.2.2.2.2.2.2.2.2.2.2.2.2.2.2.2.2.2.2.2.2.2.1 rc.2.2.2.2.2.2.2.2.2.2.2.2.2.2.2.2.2.2.2.2.2.2.2.2.1 rc.2.1 rc.2.2.2.1 rc.2.2.2.2.2.1 rc.2.2.2.2.2.2.2.1 rc.2.2.2.2.2.2.2.2.2.1 rc.2.2.2.2.2.2.2.2.2.2.2.1 rc.2.2.2.2.2.2.2.2.2.2.2.2.2.1 rc.2.2.2.2.2.2.2.2.2.2.2.2.2.2.2.1 rc.2.2.2.2.2.2.2.2.2.2.2.2.2.2.2.2.2.1 rc.2.2.2.2.2.2.2.2.2.2.2.2.2.2.2.2.2.2.2.1 rc.2.2.2.2.2.2.2.2.2.2.2.2.2.2.2.2.2.2.2.2.2.1 rc.2.2.2.2.2.2.2.2.2.2.2.2.2.2.2.2.2.2.2.2.2.2.2.1 rc.2.2.2.2.2.2.2.2.2.2.2.2.2.2.2.2.2.2.2.2.2.2.2.2.2 rf sg (S 0) (S 1) cal cbl := by
  have hp : p1 = nI q := by rcases hq with ⟨rfl, rfl⟩ | ⟨rfl, rfl⟩ <;> rfl
  have hq1 : q ≤ 1 := by omega
  have ew : fX8_within p1 0 1 = some 1 := by rcases hq with ⟨_, rfl⟩ | ⟨_, rfl⟩ <;> rfl
  have e9 := frmR hu hq Z K N rf hz
  have hI : InvN (cw (398 * q) K) := (hR.2.1 q (by omega)).2 hz
  unfold fX8_fromS
  rw [ew, ob_s, if_neg one0, hp, jgN (by omega) (by omega), jgN (by omega) (by omega)]
  unfold fX6_copyFrom
  simp (disch := decide) only [cpt, ob_s]
  rw [← hp]
  have ek : ∀ k : Nat, k < 398 → frN q K N k = cw (398 * q) K k := fun k hk => if_pos hk
  refine ⟨_, frN q K N, rfl, e9, InvN_cong hI ek, hR.2.1, ⟨⟨(ek 392 (by decide)).symm, (ek 393 (by decide)).symm, (ek 394 (by decide)).symm, rfl, rfl, (ek 395 (by decide)).symm, rfl, (ek 396 (by decide)).symm, (ek 397 (by decide)).symm, rfl, rfl, rfl, (ek 191 (by decide)).symm⟩, fun k hk => (cpt_s k hk).trans (ek _ (by omega)).symm, fun k hk => (cpt_s k hk).trans (ek _ (by omega)).symm, fun k hk => (cpt_s k hk).trans (ek _ (by omega)).symm, fun k hk => (cpt_s k hk).trans (ek _ (by omega)).symm, fun k hk => (cpt_s k hk).trans (ek _ (by omega)).symm, fun k hk => (cpt_s k hk).trans (ek _ (by omega)).symm, fun k hk => (cpt_s k hk).trans (ek _ (by omega)).symm, fun k hk => (cpt_s k hk).trans (ek _ (by omega)).symm, fun k hk => (cpt_s k hk).trans (ek _ (by omega)).symm, fun k hk => (cpt_s k hk).trans (ek _ (by omega)).symm, fun k hk => (cpt_s k hk).trans (ek _ (by omega)).symm, fun k hk => (cpt_s k hk).trans (ek _ (by omega)).symm, fun k hk => (cpt_s k hk).trans (ek _ (by omega)).symm⟩, fun _ _ => rfl, hR.2.2.2.2⟩
def lawN0 : Nat → Int32 := (upd (upd (upd (upd (upd (upd (upd (upd (upd (upd (upd (upd (fun _ => 0) 40 (10 : Int32)) 41 (1 : Int32)) 42 (10 : Int32)) 43 (1 : Int32)) 44 (10 : Int32)) 45 (1 : Int32)) 46 (10 : Int32)) 47 (1 : Int32)) 153 (1 : Int32)) 154 (1 : Int32)) 161 (1 : Int32)) 168 (1 : Int32))
theorem of_fin {f g : Nat → Int32} {n : Nat} (h : ∀ k : Fin n, f k.val = g k.val) : ∀ k : Nat, k < n → f k = g k := fun k hk => h ⟨k, hk⟩
theorem InvN0 : InvN lawN0 := by
  have z : ∀ i : Nat, ¬ (i : Int) < (0 : Int32).toInt := fun i h => by
    have : (0 : Int32).toInt = 0 := by decide
    omega
  refine ⟨⟨?_, ?_, ?_, ?_, ?_, ?_, ?_⟩, fun i hi => absurd hi (z i), fun i hi => absurd hi (z i), fun i hi => absurd hi (z i), fun i hi => ?_, ?_, fun i hi => absurd hi (z i), ?_, fun i hi => absurd hi (z i), fun i hi => absurd hi (z i), ?_, fun i hi => ⟨?_, fun j hj => ?_⟩, fun i hi => ?_, fun i hi => absurd hi (z i)⟩
  · unfold rg; decide +kernel
  · unfold rg; decide +kernel
  · unfold rg; decide +kernel
  · unfold rg; decide +kernel
  · unfold rg; decide +kernel
  · unfold rg; decide +kernel
  · unfold rg; decide +kernel
  · unfold rg
    exact (by decide +kernel : ∀ i : Fin 4, (0 ≤ (lawN0 (40 + 2 * i.val)).toInt ∧ (lawN0 (40 + 2 * i.val)).toInt ≤ 20) ∧ 0 ≤ (lawN0 (40 + 2 * i.val + 1)).toInt ∧ (lawN0 (40 + 2 * i.val + 1)).toInt ≤ 9) ⟨i, hi⟩
  · unfold rg; decide +kernel
  · unfold rg; decide +kernel
  · unfold rg; decide +kernel
  · unfold rg
    exact (by decide +kernel : ∀ i : Fin 3, 0 ≤ (lawN0 (154 + 7 * i.val)).toInt ∧ (lawN0 (154 + 7 * i.val)).toInt ≤ 9) ⟨i, hi⟩
  · unfold rg
    exact (by decide +kernel : ∀ (i : Fin 3) (j : Fin 6), 0 ≤ (lawN0 (154 + 7 * i.val + 1 + j.val)).toInt ∧ (lawN0 (154 + 7 * i.val + 1 + j.val)).toInt ≤ 99) ⟨i, hi⟩ ⟨j, hj⟩
  · unfold rg
    exact (by decide +kernel : ∀ i : Fin 16, 0 ≤ (lawN0 (175 + i.val)).toInt ∧ (lawN0 (175 + i.val)).toInt ≤ 99) ⟨i, hi⟩
theorem pv_init (u : Nat) (hu : 4000000 ≤ u) : ∃ (r8 : Int32 × (Nat → Int32)) (r9 : (Nat → Int64) × (Nat → Int32)), fX8_init u = some r8 ∧ fX9_init u = some r9 ∧ RelAll lawN0 (fun _ => 0) (fun _ => 0) (fun _ => 0) 0 r9.1 r9.2 (0 : Int32) (0 : Int32) (0 : Int32) (4 : Int32) (1 : Int32) (0 : Int32) (1 : Int32) (0 : Int32) (0 : Int32) (1 : Int32) (3 : Int32) (8 : Int32) (0 : Int32) ((fun _ => 0)) ((fun _ => 0)) ((fun _ => 0)) ((upd (upd (upd (upd (upd (upd (upd (upd (fun _ => 0) 0 (10 : Int32)) 1 (1 : Int32)) 2 (10 : Int32)) 3 (1 : Int32)) 4 (10 : Int32)) 5 (1 : Int32)) 6 (10 : Int32)) 7 (1 : Int32))) ((fun _ => 0)) ((fun _ => 0)) ((fun _ => 0)) ((fun _ => 0)) ((fun _ => 0)) ((upd (fun _ => 0) 0 (1 : Int32))) ((upd (upd (upd (upd (upd (upd (upd (upd (upd (upd (upd (upd (upd (upd (upd (upd (upd (upd (upd (upd (upd (fun _ => 0) 0 (1 : Int32)) 1 (0 : Int32)) 2 (0 : Int32)) 3 (0 : Int32)) 4 (0 : Int32)) 5 (0 : Int32)) 6 (0 : Int32)) 7 (1 : Int32)) 8 (0 : Int32)) 9 (0 : Int32)) 10 (0 : Int32)) 11 (0 : Int32)) 12 (0 : Int32)) 13 (0 : Int32)) 14 (1 : Int32)) 15 (0 : Int32)) 16 (0 : Int32)) 17 (0 : Int32)) 18 (0 : Int32)) 19 (0 : Int32)) 20 (0 : Int32))) ((fun _ => 0)) ((fun _ => 0)) (fun _ => 0) 0 0 r8.1 (fun _ => 0) r8.2 := by
  obtain ⟨a, a1, a2⟩ := setC hu 0 (fun _ => 0) (show 1 < 2 ^ 63 by decide)
  obtain ⟨b, b1, b2, b3⟩ := setR hu (fun _ => 0) (fun _ => 0) (show 1 < 10 by decide) (show 1 < 2 ^ 63 by decide)
  have e8 : fX8_init u = some (a.1, a.2) := by
    unfold fX8_init fX1_init fX4_init fX3_init
    rw [show fX3_set u 1 0 (fun _ => 0) = some a from a1]
    rfl
  have e9 : fX9_init u = some (b.1, b.2) := by
    unfold fX9_init
    rw [show fX9_set u 1 1 (fun _ => 0) (fun _ => 0) = some b from b1]
    rfl
  refine ⟨_, _, e8, e9, InvN0, fun i _ => ⟨Or.inl rfl, fun h => absurd (show (0 : Int32) = 1 from h) (by decide)⟩, ⟨⟨?_, ?_, ?_, ?_, ?_, ?_, ?_, ?_, ?_, ?_, ?_, ?_, ?_⟩, ?_, ?_, ?_, ?_, ?_, ?_, ?_, ?_, ?_, ?_, ?_, ?_, ?_⟩, fun _ _ => rfl, ?_⟩
  · decide +kernel
  · decide +kernel
  · decide +kernel
  · decide +kernel
  · decide +kernel
  · decide +kernel
  · decide +kernel
  · decide +kernel
  · decide +kernel
  · decide +kernel
  · decide +kernel
  · decide +kernel
  · decide +kernel
  · exact of_fin (by decide +kernel)
  · exact of_fin (by decide +kernel)
  · exact of_fin (by decide +kernel)
  · exact of_fin (by decide +kernel)
  · exact of_fin (by decide +kernel)
  · exact of_fin (by decide +kernel)
  · exact of_fin (by decide +kernel)
  · exact of_fin (by decide +kernel)
  · exact of_fin (by decide +kernel)
  · exact of_fin (by decide +kernel)
  · exact of_fin (by decide +kernel)
  · exact of_fin (by decide +kernel)
  · exact of_fin (by decide +kernel)
  · have h0 : Sl b.1 b.2 0 0 := ⟨0, by omega, b3.2 0 (by decide), fun k hk => absurd hk (Nat.not_lt_zero _), by rw [Nat.pow_zero]; omega, Or.inl rfl⟩
    have c0 : Nt (fun _ => 0) 0 0 := ⟨0, by omega, rfl, fun k hk => absurd hk (Nat.not_lt_zero _), by rw [Nat.pow_zero]; omega, Or.inl rfl⟩
    exact RelF_of h0 b2 c0 a2 rfl
