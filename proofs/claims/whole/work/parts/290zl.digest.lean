def hsN (f : Nat → Int32) (h : Int64) : Nat → Int64
  | 0 => h
  | k + 1 => 31 * hsN f h k + (f k).toInt64
theorem hs_cg {f g : Nat → Int32} {h : Int64} : ∀ n, (∀ k, k < n → f k = g k) → hsN f h n = hsN g h n := by
  intro n
  induction n with
  | zero => intro _; rfl
  | succ n ih =>
    intro e
    show 31 * hsN f h n + (f n).toInt64 = 31 * hsN g h n + (g n).toInt64
    rw [ih (fun k hk => e k (by omega)), e n (by omega)]
theorem smR {u : Nat} (hu : 4000000 ≤ u) {N : Nat → Int32} {o n : Nat} (h : Int64) (ho : o + n ≤ 398) : fX9_sums u h (nI o) (nI n) N = some (hsN (cw o N) h n) := by
  unfold fX9_sums
  refine jfix_to (fun k => (hsN (cw o N) h k, nI k)) n _ ?_ ?_ (by omega)
  · intro k hk rec
    unfold fX9_sums_b6
    dsimp only
    rw [if_neg (nI_ge hk (by omega)), nI_add, blet_s, jgN (by omega) (by omega), nI_clamp (by omega), blet_s, blet_s, nI_1]
    rfl
  · intro rec
    unfold fX9_sums_b6
    dsimp only
    rw [if_pos (nI_le (Nat.le_refl n) (by omega))]
theorem smM {u : Nat} (hu : 4000000 ≤ u) {N : Nat → Int32} {o w n : Nat} {x : Int64} (h : Int64) (ho : o + n * w ≤ 398) (e : x = hsN (cw o N) h (n * w)) : fX9_sums u h (nI o) (nI w * nI n) N = some x := by
  rw [mulN, Nat.mul_comm, e]
  exact smR hu h ho
theorem mxC {u : Nat} (hu : 4000000 ≤ u) {f : Nat → Int32} {w r nc : Nat} (h : Int64) (hw : w ≤ 10) (hr : r ≤ 300) (hn : r * w ≤ nc) (hnc : nc ≤ 1000) : fX7_mixedInto u h (nI w) (nI r) nc f = some (hsN f h (r * w)) := by
  unfold fX7_mixedInto
  have h0 : hsN f h (0 * w) = h := by rw [Nat.zero_mul]; rfl
  have key := jfix_to (g := fX7_mixedInto_b5 u h (nI w) (nI r) nc f) (fun k => (hsN f h (k * w), nI k)) r (some (hsN f h (r * w))) (u := u) (by
    intro k hk rec
    have hkw : k * w + w ≤ nc := by
      have h1 : (k + 1) * w ≤ r * w := Nat.mul_le_mul_right w hk
      rw [Nat.add_mul, Nat.one_mul] at h1
      omega
    unfold fX7_mixedInto_b5
    dsimp only
    rw [if_neg (nI_ge hk (by omega))]
    refine jfix_to (fun j => (hsN f h (k * w + j), nI k, nI j)) w _ ?_ ?_ (by omega)
    · intro j hj rec2
      unfold fX7_mixedInto_b17
      dsimp only
      rw [if_neg (nI_ge hj (by omega)), cell7 hk hj (by omega) (by omega) (by omega) (by omega), ob_s]
      unfold fX8_mixed
      rw [ob_s, blet_s, nI_1]
      rfl
    · intro rec2
      unfold fX7_mixedInto_b17
      dsimp only
      rw [if_pos (nI_le (Nat.le_refl w) (by omega)), blet_s, nI_1, Nat.add_mul, Nat.one_mul]) (by
    intro rec
    unfold fX7_mixedInto_b5
    dsimp only
    rw [if_pos (nI_le (Nat.le_refl r) (by omega))]) (by omega)
  have key2 : jfix (fX7_mixedInto_b5 u h (nI w) (nI r) nc f) u (hsN f h (0 * w), nI 0) = some (hsN f h (r * w)) := key
  rw [h0] at key2
  exact key2
theorem hs_ap {f : Nat → Int32} {h : Int64} {a : Nat} : ∀ b, hsN f h (a + b) = hsN (fun k => f (a + k)) (hsN f h a) b := by
  intro b
  induction b with
  | zero => rfl
  | succ b ih =>
    show 31 * hsN f h (a + b) + (f (a + b)).toInt64 = _
    rw [ih]
    rfl
theorem dgC {f : Nat → Int32} {n k : Nat} (hk : k < n) (hn : n ≤ 6) : fX3_digit (nI k) (nI n) f = some (f k) := by
  unfold fX3_digit
  rw [if_neg (nI_pos (by omega)), if_neg (nI_ge hk (by omega)), show (6 : Int32) = nI 6 from rfl, if_neg (nI_ge (show k < 6 by omega) (by decide)), jgN (by omega) (by omega), nI_clamp (by omega)]
def pxN (a b c : Int64) : Nat → Int64
  | 0 => a
  | 1 => b
  | _ => c
def cR (N : Nat → Int32) (k : Nat) : Int32 := if k < 6 then N (392 + k) else N 191
theorem pv_digest (u : Nat) (hu : 4000000 ≤ u) (N K Z rf : Nat → Int32) (sg : Int32) (Lm : Nat → Int64) (S cal cbl : Nat → Int32)  (hR : RelC N K Z rf sg Lm S cal cbl) : ∃ (rc : Int64) (rm : Int64), fX8_digest u sg (S 0) (S 1) (N 392) (N 397) (N 394) (N 393) (8 : Int32) (N 395) (N 191) (1 : Int32) (1 : Int32) (3 : Int32) (4 : Int32) (N 396) (1 : Int32) cal cbl (cw 0 N) (cw 147 N) (cw 24 N) (cw 12 N) (cw 175 N) (cw 50 N) (cw 192 N) (cw 153 N) (cw 98 N) (cw 154 N) (cw 40 N) (cw 99 N) (cw 48 N) = some rc ∧ fX9_digest u sg Lm N S = some rm ∧ rc = rm ∧ RelAll N K Z rf sg Lm S (N 392) (N 393) (N 394) (4 : Int32) (1 : Int32) (N 395) (1 : Int32) (N 396) (N 397) (1 : Int32) (3 : Int32) (8 : Int32) (N 191) (cw 0 N) (cw 12 N) (cw 24 N) (cw 40 N) (cw 48 N) (cw 50 N) (cw 98 N) (cw 99 N) (cw 147 N) (cw 153 N) (cw 154 N) (cw 175 N) (cw 192 N) rf sg (S 0) (S 1) cal cbl := by
  have hR0 := hR
  obtain ⟨⟨⟨i0, i1, i2, i3, i4, i5, i6⟩, _⟩, _, _, _, f1, f2, f3, f4, f5, f6, f7⟩ := hR
  obtain ⟨n0, e0, l0⟩ := rg_N (B := 4) i0
  obtain ⟨n1, e1, l1⟩ := rg_N (B := 4) i1
  obtain ⟨n2, e2, l2⟩ := rg_N (B := 4) i2
  obtain ⟨n3, e3, l3⟩ := rg_N (B := 16) i3
  obtain ⟨n4, e4, l4⟩ := rg_N (B := 12) i4
  obtain ⟨n5, e5, l5⟩ := rg_N (B := 6) i5
  obtain ⟨n6, e6, l6⟩ := rg_N (B := 200) i6
  obtain ⟨s0, es0, ls0⟩ := rg_N (B := 6) f4
  obtain ⟨s1, es1, ls1⟩ := rg_N (B := 6) f5
  rw [es0, nI_clamp (by omega)] at f6
  rw [es1, nI_clamp (by omega)] at f7
  have rws : ∀ k, k < 7 → fX6_rowsOf (nI k) (N 392) (N 397) (N 394) (N 393) (N 395) (N 191) (N 396) = some (cR N k) := by
    intro k hk
    have h : k = 0 ∨ k = 1 ∨ k = 2 ∨ k = 3 ∨ k = 4 ∨ k = 5 ∨ k = 6 := by omega
    rcases h with rfl | rfl | rfl | rfl | rfl | rfl | rfl <;> rfl
  have cnt : ∀ k, k < 7 → fX9_counted (nI k) N = some (cR N k) := by
    intro k hk
    unfold fX9_counted cR
    by_cases c : k < 6
    · rw [show (6 : Int32) = nI 6 from rfl, if_neg (nI_ge c (by decide)), many9 N c, ob_s, if_pos c]
    · rw [show (6 : Int32) = nI 6 from rfl, if_pos (nI_le (by omega) (by omega)), if_neg c]
      rfl
  have hm0 : fX9_many 0 N = some (nI n0) := by rw [show (0 : Int32) = nI 0 from rfl, many9 N (by decide), ← e0]
  have hm1 : fX9_many 1 N = some (nI n1) := by rw [show (1 : Int32) = nI 1 from rfl, many9 N (by decide), ← e1]
  have hm2 : fX9_many 2 N = some (nI n2) := by rw [show (2 : Int32) = nI 2 from rfl, many9 N (by decide), ← e2]
  have hm3 : fX9_many 3 N = some (nI n3) := by rw [show (3 : Int32) = nI 3 from rfl, many9 N (by decide), ← e3]
  have hm4 : fX9_many 4 N = some (nI n4) := by rw [show (4 : Int32) = nI 4 from rfl, many9 N (by decide), ← e4]
  have hm5 : fX9_many 5 N = some (nI n5) := by rw [show (5 : Int32) = nI 5 from rfl, many9 N (by decide), ← e5]
  have htl : fX9_textLong N = some (nI n6) := by rw [← e6]; rfl
  obtain ⟨H0, eH0⟩ : ∃ x, x = hsN (cR N) 613 7 := ⟨_, rfl⟩
  obtain ⟨H1, eH1⟩ : ∃ x, x = hsN (cw 0 N) H0 (n0 * 3) := ⟨_, rfl⟩
  obtain ⟨H2, eH2⟩ : ∃ x, x = hsN (cw 12 N) H1 (n1 * 3) := ⟨_, rfl⟩
  obtain ⟨H3, eH3⟩ : ∃ x, x = hsN (cw 24 N) H2 (n2 * 4) := ⟨_, rfl⟩
  obtain ⟨H4, eH4⟩ : ∃ x, x = hsN (cw 40 N) H3 (4 * 2) := ⟨_, rfl⟩
  obtain ⟨H5, eH5⟩ : ∃ x, x = hsN (cw 48 N) H4 (1 * 2) := ⟨_, rfl⟩
  obtain ⟨H6, eH6⟩ : ∃ x, x = hsN (cw 50 N) H5 (n3 * 3) := ⟨_, rfl⟩
  obtain ⟨H7, eH7⟩ : ∃ x, x = hsN (cw 98 N) H6 (1 * 1) := ⟨_, rfl⟩
  obtain ⟨H8, eH8⟩ : ∃ x, x = hsN (cw 99 N) H7 (n4 * 4) := ⟨_, rfl⟩
  obtain ⟨H9, eH9⟩ : ∃ x, x = hsN (cw 147 N) H8 (n5 * 1) := ⟨_, rfl⟩
  obtain ⟨HA, eHA⟩ : ∃ x, x = hsN (cw 153 N) H9 (1 * 1) := ⟨_, rfl⟩
  obtain ⟨HB, eHB⟩ : ∃ x, x = hsN (cw 154 N) HA (3 * 7) := ⟨_, rfl⟩
  obtain ⟨HC, eHC⟩ : ∃ x, x = hsN (cw 175 N) HB (8 * 2) := ⟨_, rfl⟩
  obtain ⟨HD, eHD⟩ : ∃ x, x = hsN (cw 192 N) HC (n6 * 1) := ⟨_, rfl⟩
  obtain ⟨HE, eHE⟩ : ∃ x : Int64, x = 31 * (31 * (31 * HD + sg.toInt64) + (S 0).toInt64) + (S 1).toInt64 := ⟨_, rfl⟩
  obtain ⟨HF, eHF⟩ : ∃ x, x = hsN cal HE s0 := ⟨_, rfl⟩
  obtain ⟨HG, eHG⟩ : ∃ x, x = hsN cbl HF s1 := ⟨_, rfl⟩
  have c45 : hsN (cw 40 N) H3 10 = H5 := by
    have h := hs_ap (f := cw 40 N) (h := H3) (a := 8) 2
    rw [show 8 + 2 = 10 from rfl] at h
    rw [h, eH5, eH4]
    refine hs_cg 2 (fun k _ => ?_)
    unfold cw
    congr 1
    omega
  have mixC : fX6_mixedInto u H0 (N 392) (N 397) (N 394) (N 393) 8 (N 395) (N 191) 1 1 3 4 (N 396) 1 (cw 0 N) (cw 147 N) (cw 24 N) (cw 12 N) (cw 175 N) (cw 50 N) (cw 192 N) (cw 153 N) (cw 98 N) (cw 154 N) (cw 40 N) (cw 99 N) (cw 48 N) = some HD := by
    unfold fX6_mixedInto
    rw [e0, e1, e2, e3, e4, e5, e6]
    rw [show fX7_mixedInto u H0 3 (nI n0) 12 (cw 0 N) = some H1 from eH1 ▸ mxC hu (w := 3) H0 (by omega) (by omega) (by omega) (by omega), ob_s]
    rw [show fX7_mixedInto u H1 3 (nI n1) 12 (cw 12 N) = some H2 from eH2 ▸ mxC hu (w := 3) H1 (by omega) (by omega) (by omega) (by omega), ob_s]
    rw [show fX7_mixedInto u H2 4 (nI n2) 16 (cw 24 N) = some H3 from eH3 ▸ mxC hu (w := 4) H2 (by omega) (by omega) (by omega) (by omega), ob_s]
    rw [show fX7_mixedInto u H3 2 4 8 (cw 40 N) = some H4 from eH4 ▸ mxC hu (w := 2) (r := 4) H3 (by omega) (by omega) (by omega) (by omega), ob_s]
    rw [show fX7_mixedInto u H4 2 1 2 (cw 48 N) = some H5 from eH5 ▸ mxC hu (w := 2) (r := 1) H4 (by omega) (by omega) (by omega) (by omega), ob_s]
    rw [show fX7_mixedInto u H5 3 (nI n3) 48 (cw 50 N) = some H6 from eH6 ▸ mxC hu (w := 3) H5 (by omega) (by omega) (by omega) (by omega), ob_s]
    rw [show fX7_mixedInto u H6 1 1 1 (cw 98 N) = some H7 from eH7 ▸ mxC hu (w := 1) (r := 1) H6 (by omega) (by omega) (by omega) (by omega), ob_s]
    rw [show fX7_mixedInto u H7 4 (nI n4) 48 (cw 99 N) = some H8 from eH8 ▸ mxC hu (w := 4) H7 (by omega) (by omega) (by omega) (by omega), ob_s]
    rw [show fX7_mixedInto u H8 1 (nI n5) 6 (cw 147 N) = some H9 from eH9 ▸ mxC hu (w := 1) H8 (by omega) (by omega) (by omega) (by omega), ob_s]
    rw [show fX7_mixedInto u H9 1 1 1 (cw 153 N) = some HA from eHA ▸ mxC hu (w := 1) (r := 1) H9 (by omega) (by omega) (by omega) (by omega), ob_s]
    rw [show fX7_mixedInto u HA 7 3 21 (cw 154 N) = some HB from eHB ▸ mxC hu (w := 7) (r := 3) HA (by omega) (by omega) (by omega) (by omega), ob_s]
    rw [show fX7_mixedInto u HB 2 8 16 (cw 175 N) = some HC from eHC ▸ mxC hu (w := 2) (r := 8) HB (by omega) (by omega) (by omega) (by omega), ob_s]
    rw [show fX7_mixedInto u HC 1 (nI n6) 200 (cw 192 N) = some HD from eHD ▸ mxC hu (w := 1) HC (by omega) (by omega) (by omega) (by omega), ob_s]
  have frC : fX1_mixedInto u HD sg (S 0) (S 1) cal cbl = some HG := by
    unfold fX1_mixedInto fX8_mixed
    rw [ob_s, ob_s, ob_s, ← eHE, es0, es1]
    refine jfix_to (fun k => (hsN cal HE k, nI k)) s0 _ ?_ ?_ (by omega)
    · intro k hk rec
      unfold fX1_mixedInto_b35 fX8_mixed
      dsimp only
      rw [if_neg (nI_ge hk (by omega)), dgC hk ls0, ob_s, ob_s, blet_s, nI_1]
      rfl
    · intro rec
      unfold fX1_mixedInto_b35
      dsimp only
      rw [if_pos (nI_le (Nat.le_refl s0) (by omega)), ← eHF]
      refine jfix_to (fun k => (hsN cbl HF k, nI k)) s1 _ ?_ ?_ (by omega)
      · intro k hk rec
        unfold fX1_mixedInto_b71 fX8_mixed
        dsimp only
        rw [if_neg (nI_ge hk (by omega)), dgC hk ls1, ob_s, ob_s, blet_s, nI_1]
        rfl
      · intro rec
        unfold fX1_mixedInto_b71
        dsimp only
        rw [if_pos (nI_le (Nat.le_refl s1) (by omega)), eHG]
  have hc := jfix_to (g := fX8_digest_b6 u sg (S 0) (S 1) (N 392) (N 397) (N 394) (N 393) 8 (N 395) (N 191) 1 1 3 4 (N 396) 1 cal cbl (cw 0 N) (cw 147 N) (cw 24 N) (cw 12 N) (cw 175 N) (cw 50 N) (cw 192 N) (cw 153 N) (cw 98 N) (cw 154 N) (cw 40 N) (cw 99 N) (cw 48 N)) (fun k => (hsN (cR N) 613 k, nI k)) 7 (some HG) (u := u) (by
    intro k hk rec
    unfold fX8_digest_b6 fX8_mixed
    dsimp only
    rw [show (6 : Int32) = nI 6 from rfl, if_neg (nI_nlt (by omega) (by omega)), rws k hk, ob_s, ob_s, blet_s, nI_1]
    rfl) (by
    intro rec
    unfold fX8_digest_b6
    dsimp only
    rw [if_pos (show (6 : Int32) < nI 7 by decide), ← eH0, mixC, ob_s, frC, ob_s]) (by omega)
  have hr := jfix_to (g := fX9_digest_b6 u sg Lm N S) (fun k => (hsN (cR N) 613 k, nI k)) 7 (some HG) (u := u) (by
    intro k hk rec
    unfold fX9_digest_b6
    dsimp only
    rw [show (7 : Int32) = nI 7 from rfl, if_neg (nI_ge hk (by decide)), cnt k hk, ob_s, blet_s, blet_s, nI_1]
    rfl) (by
    intro rec
    unfold fX9_digest_b6
    dsimp only
    rw [if_pos (show (7 : Int32) ≤ nI 7 by decide), ← eH0, hm0, hm1, hm2, hm3, hm4, hm5, htl]
    rw [ob_s, show fX9_sums u H0 0 (3 * nI n0) N = some H1 from smM hu (o := 0) (w := 3) (n := n0) H0 (by omega) eH1, ob_s]
    rw [ob_s, show fX9_sums u H1 12 (3 * nI n1) N = some H2 from smM hu (o := 12) (w := 3) (n := n1) H1 (by omega) eH2, ob_s]
    rw [ob_s, show fX9_sums u H2 24 (4 * nI n2) N = some H3 from smM hu (o := 24) (w := 4) (n := n2) H2 (by omega) eH3, ob_s]
    rw [show fX9_sums u H3 40 10 N = some H5 from by rw [← c45]; exact smR hu (o := 40) (n := 10) H3 (by omega), ob_s]
    rw [ob_s, show fX9_sums u H5 50 (3 * nI n3) N = some H6 from smM hu (o := 50) (w := 3) (n := n3) H5 (by omega) eH6, ob_s]
    rw [show fX9_sums u H6 98 1 N = some H7 from by rw [eH7]; exact smR hu (o := 98) (n := 1) H6 (by omega), ob_s]
    rw [ob_s, show fX9_sums u H7 99 (4 * nI n4) N = some H8 from smM hu (o := 99) (w := 4) (n := n4) H7 (by omega) eH8, ob_s]
    rw [ob_s, show fX9_sums u H8 147 (nI n5) N = some H9 from by rw [eH9, Nat.mul_one]; exact smR hu (o := 147) (n := n5) H8 (by omega), ob_s]
    rw [show fX9_sums u H9 153 1 N = some HA from by rw [eHA]; exact smR hu (o := 153) (n := 1) H9 (by omega), ob_s]
    rw [show fX9_sums u HA 154 21 N = some HB from by rw [eHB]; exact smR hu (o := 154) (n := 21) HA (by omega), ob_s]
    rw [show fX9_sums u HB 175 16 N = some HC from by rw [eHC]; exact smR hu (o := 175) (n := 16) HB (by omega), ob_s]
    rw [ob_s, show fX9_sums u HC 192 (nI n6) N = some HD from by rw [eHD, Nat.mul_one]; exact smR hu (o := 192) (n := n6) HC (by omega), ob_s]
    rw [show (0 : Int32) = nI 0 from rfl, show (1 : Int32) = nI 1 from rfl, jgN (by decide) (by decide), jgN (by decide) (by decide), nI_clamp (by decide), nI_clamp (by decide), blet_s, ← eHE]
    refine jfix_to (fun k => (pxN HE HF HG k, nI k)) 2 _ ?_ ?_ (by omega)
    · intro k hk rec2
      have inner : ∀ (t n : Nat) (h : Int64) (f : Nat → Int32), t < 2 → S t = nI n → n ≤ 6 → (∀ j, j < n → (f j).toInt64 = Lm (64 * t + j)) → fX9_digest_b221 u sg Lm N S rec2 (h, nI t) = rec2 (hsN f h n, nI (t + 1)) := by
        intro t n h f ht en hn hf
        unfold fX9_digest_b221
        dsimp only
        rw [show (1 : Int32) = nI 1 from rfl, if_neg (nI_nlt (by omega) (by omega))]
        refine jfix_to (fun j => (hsN f h j, nI t, nI j)) n _ ?_ ?_ (by omega)
        · intro j hj rec3
          unfold fX9_digest_b229
          dsimp only
          rw [jgN (by omega) (by omega), nI_clamp (show t < 2 ^ 31 by omega), en, if_neg (nI_ge hj (by omega)), show (64 : Int32) = nI 64 from rfl, mulN, nI_add, blet_s, jgN (by omega) (by omega), nI_clamp (by omega), ← hf j hj, blet_s, blet_s, nI_1]
          rfl
        · intro rec3
          unfold fX9_digest_b229
          dsimp only
          rw [jgN (by omega) (by omega), nI_clamp (show t < 2 ^ 31 by omega), en, if_pos (nI_le (Nat.le_refl n) (by omega)), blet_s, nI_1]
      have hk2 : k = 0 ∨ k = 1 := by omega
      rcases hk2 with rfl | rfl
      · have := inner 0 s0 HE cal (by decide) es0 ls0 (fun j hj => by rw [(f6 j hj).1]; congr 1; omega)
        rw [← eHF] at this
        exact this
      · have := inner 1 s1 HF cbl (by decide) es1 ls1 (fun j hj => (f7 j hj).1)
        rw [← eHG] at this
        exact this
    · intro rec2
      unfold fX9_digest_b221
      dsimp only
      rw [if_pos (show (1 : Int32) < nI 2 by decide)]
      rfl) (by omega)
  unfold fX8_digest fX9_digest
  exact ⟨HG, HG, hc, hr, rfl, hR0⟩
