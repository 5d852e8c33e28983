/-- what both sides know of the plan so far -/
def PLr (told cells rng : Nat → Int32) (fa fh fd t : Nat) (g re stg lag len wei pla mas sti tip tai : Int32) : Prop := (fa ≤ 1 ∧ fh ≤ 1 ∧ fd ≤ 1 ∧ t ≤ 12) ∧ (fa = 1 → (told 0 = re ∧ told 1 = stg ∧ told 2 = lag) ∧ fX8_within re 20 90 = some 1 ∧ fX8_within stg 1 99 = some 1 ∧ fX8_within lag 0 9 = some 1) ∧ (fh = 1 → (told 3 = len ∧ told 4 = wei ∧ told 5 = pla) ∧ fX8_within len 0 99 = some 1 ∧ fX8_within wei 0 99 = some 1 ∧ fX8_within pla 0 len = some 1) ∧ (fd = 1 → (told 6 = mas ∧ told 7 = sti ∧ told 8 = tip ∧ told 9 = tai) ∧ fX8_within mas 20 300 = some 1 ∧ fX8_within sti 1 99 = some 1 ∧ fX8_within tip 0 60 = some 1 ∧ fX8_within tai 0 9 = some 1) ∧ ∃ TT : Nat → Nat → Nat, ∀ j, j < t → TB (TT j) ∧ (∀ c, c < 13 → cells (j * 13 + c) = nI (TT j c)) ∧ (¬ g = 0 → rng j = rgT (TT j))
theorem tdN_o {told : Nat → Int32} {L0 : Nat} {W : Nat → Int32} {j : Nat} : ∀ c, (j < L0 ∨ L0 + c ≤ j) → tdN told L0 W c j = told j := by
  intro c
  induction c with
  | zero => intro _; rfl
  | succ c ih =>
    intro h
    show upd _ _ _ _ = _
    rw [updN (by omega), ih (by omega)]
theorem tdN_i {told : Nat → Int32} {L0 : Nat} {W : Nat → Int32} {i j : Nat} (hj : j = L0 + i) : ∀ c, i < c → tdN told L0 W c j = W i := by
  intro c
  induction c with
  | zero => intro h; omega
  | succ c ih =>
    intro h
    show upd _ _ _ _ = _
    by_cases e : i = c
    · rw [hj, e, updE rfl]
    · rw [updN (by omega), ih (by omega)]
theorem PLr_0 {told cells rng : Nat → Int32} {fa fh fd t : Nat} {g re stg lag len wei pla mas sti tip tai : Int32} (h : PLr told cells rng fa fh fd t g re stg lag len wei pla mas sti tip tai) (W : Nat → Int32) (h1 : fX8_within (W 0) 20 90 = some 1) (h2 : fX8_within (W 1) 1 99 = some 1) (h3 : fX8_within (W 2) 0 9 = some 1) : PLr (tdN told 0 W 3) cells rng 1 fh fd t g (W 0) (W 1) (W 2) len wei pla mas sti tip tai := by
  refine ⟨⟨Nat.le_refl 1, h.1.2⟩, fun _ => ⟨⟨tdN_i (i := 0) (j := 0) rfl 3 (by omega), tdN_i (i := 1) (j := 1) rfl 3 (by omega), tdN_i (i := 2) (j := 2) rfl 3 (by omega)⟩, h1, h2, h3⟩, fun q => by rw [tdN_o (j := 3) 3 (by omega), tdN_o (j := 4) 3 (by omega), tdN_o (j := 5) 3 (by omega)]; exact h.2.2.1 q, fun q => by rw [tdN_o (j := 6) 3 (by omega), tdN_o (j := 7) 3 (by omega), tdN_o (j := 8) 3 (by omega), tdN_o (j := 9) 3 (by omega)]; exact h.2.2.2.1 q, h.2.2.2.2⟩
theorem PLr_1 {told cells rng : Nat → Int32} {fa fh fd t : Nat} {g re stg lag len wei pla mas sti tip tai : Int32} (h : PLr told cells rng fa fh fd t g re stg lag len wei pla mas sti tip tai) (W : Nat → Int32) (h1 : fX8_within (W 0) 0 99 = some 1) (h2 : fX8_within (W 1) 0 99 = some 1) (h3 : fX8_within (W 2) 0 (W 0) = some 1) : PLr (tdN told 3 W 3) cells rng fa 1 fd t g re stg lag (W 0) (W 1) (W 2) mas sti tip tai := by
  refine ⟨⟨h.1.1, Nat.le_refl 1, h.1.2.2⟩, fun q => by rw [tdN_o (j := 0) 3 (by omega), tdN_o (j := 1) 3 (by omega), tdN_o (j := 2) 3 (by omega)]; exact h.2.1 q, fun _ => ⟨⟨tdN_i (i := 0) (j := 3) rfl 3 (by omega), tdN_i (i := 1) (j := 4) rfl 3 (by omega), tdN_i (i := 2) (j := 5) rfl 3 (by omega)⟩, h1, h2, h3⟩, fun q => by rw [tdN_o (j := 6) 3 (by omega), tdN_o (j := 7) 3 (by omega), tdN_o (j := 8) 3 (by omega), tdN_o (j := 9) 3 (by omega)]; exact h.2.2.2.1 q, h.2.2.2.2⟩
theorem PLr_2 {told cells rng : Nat → Int32} {fa fh fd t : Nat} {g re stg lag len wei pla mas sti tip tai : Int32} (h : PLr told cells rng fa fh fd t g re stg lag len wei pla mas sti tip tai) (W : Nat → Int32) (h1 : fX8_within (W 0) 20 300 = some 1) (h2 : fX8_within (W 1) 1 99 = some 1) (h3 : fX8_within (W 2) 0 60 = some 1) (h4 : fX8_within (W 3) 0 9 = some 1) : PLr (tdN told 6 W 4) cells rng fa fh 1 t g re stg lag len wei pla (W 0) (W 1) (W 2) (W 3) := by
  refine ⟨⟨h.1.1, h.1.2.1, Nat.le_refl 1, h.1.2.2.2⟩, fun q => by rw [tdN_o (j := 0) 4 (by omega), tdN_o (j := 1) 4 (by omega), tdN_o (j := 2) 4 (by omega)]; exact h.2.1 q, fun q => by rw [tdN_o (j := 3) 4 (by omega), tdN_o (j := 4) 4 (by omega), tdN_o (j := 5) 4 (by omega)]; exact h.2.2.1 q, fun _ => ⟨⟨tdN_i (i := 0) (j := 6) rfl 4 (by omega), tdN_i (i := 1) (j := 7) rfl 4 (by omega), tdN_i (i := 2) (j := 8) rfl 4 (by omega), tdN_i (i := 3) (j := 9) rfl 4 (by omega)⟩, h1, h2, h3, h4⟩, h.2.2.2.2⟩
theorem wi_N {v : Int32} {lo hi : Nat} {a b : Int32} (ha : a.toInt = lo) (hb : b.toInt = hi) (h : fX8_within v a b = some 1) : ∃ x : Nat, v = nI x ∧ lo ≤ x ∧ x ≤ hi := rg_ex (A := lo) (B := hi) ((wi v a b ha hb).resolve_right (fun q => absurd (h.symm.trans q.1) (by decide))).2
theorem PLr_T {told cells rng : Nat → Int32} {t : Nat} {g re stg lag len wei pla mas sti tip tai : Int32} (h : PLr told cells rng 1 1 1 t g re stg lag len wei pla mas sti tip tai) (W : Nat → Int32) (h1 : fX8_within (W 0) 0 6 = some 1) (h2 : fX8_within (W 1) 0 19 = some 1) (h3 : fX8_within (W 2) 0 6 = some 1) : ∃ T : Nat → Nat, TB T ∧ W 0 = nI (T 10) ∧ W 1 = nI (T 11) ∧ W 2 = nI (T 12) ∧ re = nI (T 0) ∧ stg = nI (T 1) ∧ lag = nI (T 2) ∧ len = nI (T 3) ∧ wei = nI (T 4) ∧ pla = nI (T 5) ∧ mas = nI (T 6) ∧ sti = nI (T 7) ∧ tip = nI (T 8) ∧ tai = nI (T 9) ∧ ∀ c, c < 13 → tdN told 10 W 3 c = nI (T c) := by
  obtain ⟨-, ha, hh, hd, -⟩ := h
  obtain ⟨⟨a0, a1, a2⟩, b0, b1, b2⟩ := ha rfl
  obtain ⟨⟨a3, a4, a5⟩, b3, b4, b5⟩ := hh rfl
  obtain ⟨⟨a6, a7, a8, a9⟩, b6, b7, b8, b9⟩ := hd rfl
  have b5' := ((pl_i b3).mpr b5).1
  obtain ⟨x0, e0, l0, m0⟩ := wi_N (a := 20) (b := 90) (lo := 20) (hi := 90) rfl rfl b0
  obtain ⟨x1, e1, l1, m1⟩ := wi_N (a := 1) (b := 99) (lo := 1) (hi := 99) rfl rfl b1
  obtain ⟨x2, e2, l2, m2⟩ := wi_N (a := 0) (b := 9) (lo := 0) (hi := 9) rfl rfl b2
  obtain ⟨x3, e3, l3, m3⟩ := wi_N (a := 0) (b := 99) (lo := 0) (hi := 99) rfl rfl b3
  obtain ⟨x4, e4, l4, m4⟩ := wi_N (a := 0) (b := 99) (lo := 0) (hi := 99) rfl rfl b4
  obtain ⟨x5, e5, l5, m5⟩ := wi_N (a := 0) (b := 99) (lo := 0) (hi := 99) rfl rfl b5'
  obtain ⟨x6, e6, l6, m6⟩ := wi_N (a := 20) (b := 300) (lo := 20) (hi := 300) rfl rfl b6
  obtain ⟨x7, e7, l7, m7⟩ := wi_N (a := 1) (b := 99) (lo := 1) (hi := 99) rfl rfl b7
  obtain ⟨x8, e8, l8, m8⟩ := wi_N (a := 0) (b := 60) (lo := 0) (hi := 60) rfl rfl b8
  obtain ⟨x9, e9, l9, m9⟩ := wi_N (a := 0) (b := 9) (lo := 0) (hi := 9) rfl rfl b9
  obtain ⟨x10, e10, l10, m10⟩ := wi_N (a := 0) (b := 6) (lo := 0) (hi := 6) rfl rfl h1
  obtain ⟨x11, e11, l11, m11⟩ := wi_N (a := 0) (b := 19) (lo := 0) (hi := 19) rfl rfl h2
  obtain ⟨x12, e12, l12, m12⟩ := wi_N (a := 0) (b := 6) (lo := 0) (hi := 6) rfl rfl h3
  refine ⟨tOf13 x0 x1 x2 x3 x4 x5 x6 x7 x8 x9 x10 x11 x12, ⟨⟨l0, m0⟩, ⟨l1, m1⟩, m2, m3, m4, m5, ⟨l6, m6⟩, ⟨l7, m7⟩, m8, m9, m10, m11, m12⟩, e10, e11, e12, e0, e1, e2, e3, e4, e5, e6, e7, e8, e9, ?_⟩
  intro c hc
  have hc2 : c = 0 ∨ c = 1 ∨ c = 2 ∨ c = 3 ∨ c = 4 ∨ c = 5 ∨ c = 6 ∨ c = 7 ∨ c = 8 ∨ c = 9 ∨ c = 10 ∨ c = 11 ∨ c = 12 := by omega
  rcases hc2 with rfl | rfl | rfl | rfl | rfl | rfl | rfl | rfl | rfl | rfl | rfl | rfl | rfl
  · exact (tdN_o (j := 0) 3 (by omega)).trans (a0.trans e0)
  · exact (tdN_o (j := 1) 3 (by omega)).trans (a1.trans e1)
  · exact (tdN_o (j := 2) 3 (by omega)).trans (a2.trans e2)
  · exact (tdN_o (j := 3) 3 (by omega)).trans (a3.trans e3)
  · exact (tdN_o (j := 4) 3 (by omega)).trans (a4.trans e4)
  · exact (tdN_o (j := 5) 3 (by omega)).trans (a5.trans e5)
  · exact (tdN_o (j := 6) 3 (by omega)).trans (a6.trans e6)
  · exact (tdN_o (j := 7) 3 (by omega)).trans (a7.trans e7)
  · exact (tdN_o (j := 8) 3 (by omega)).trans (a8.trans e8)
  · exact (tdN_o (j := 9) 3 (by omega)).trans (a9.trans e9)
  · exact (tdN_i (i := 0) (j := 10) rfl 3 (by omega)).trans e10
  · exact (tdN_i (i := 1) (j := 11) rfl 3 (by omega)).trans e11
  · exact (tdN_i (i := 2) (j := 12) rfl 3 (by omega)).trans e12
theorem PLr_3 {told cells rng : Nat → Int32} {t : Nat} {g re stg lag len wei pla mas sti tip tai : Int32} (h : PLr told cells rng 1 1 1 t g re stg lag len wei pla mas sti tip tai) (W : Nat → Int32) (ht : t < 12) {T : Nat → Nat} (hT : TB T) (hc : ∀ c, c < 13 → tdN told 10 W 3 c = nI (T c)) {rng2 : Nat → Int32} (hr : ¬ g = 0 → rng2 = upd rng t (rgT T)) : PLr (tdN told 10 W 3) (apN t (tdN told 10 W 3) cells 13) rng2 1 1 1 (t + 1) g re stg lag len wei pla mas sti tip tai := by
  obtain ⟨TT, hTT⟩ := h.2.2.2.2
  refine ⟨⟨Nat.le_refl 1, Nat.le_refl 1, Nat.le_refl 1, ht⟩, fun q => by rw [tdN_o (j := 0) 3 (by omega), tdN_o (j := 1) 3 (by omega), tdN_o (j := 2) 3 (by omega)]; exact h.2.1 q, fun q => by rw [tdN_o (j := 3) 3 (by omega), tdN_o (j := 4) 3 (by omega), tdN_o (j := 5) 3 (by omega)]; exact h.2.2.1 q, fun q => by rw [tdN_o (j := 6) 3 (by omega), tdN_o (j := 7) 3 (by omega), tdN_o (j := 8) 3 (by omega), tdN_o (j := 9) 3 (by omega)]; exact h.2.2.2.1 q, fun j => if j = t then T else TT j, ?_⟩
  intro j hj
  by_cases c : j = t
  · subst c
    simp only [if_pos]
    refine ⟨hT, fun c hc2 => ?_, fun hg => ?_⟩
    · rw [apN_in 13 c hc2, hc c hc2]
    · rw [hr hg, updE rfl]
  · simp only [if_neg c]
    obtain ⟨q1, q2, q3⟩ := hTT j (by omega)
    refine ⟨q1, fun c hc2 => ?_, fun hg => ?_⟩
    · rw [apN_out 13 _ (by omega), q2 c hc2]
    · rw [hr hg, updN c, q3 hg]
/-- how the two readings end -/
def TE (n : Nat) (g : Int32) (r : Int32 × Int32 × Int32 × Int32 × Int32 × Int32 × Int32 × (Nat → Int32) × (Nat → Int32)) (s : Int32 × Int32 × Int32 × Int32 × Int32 × Int32 × Int32 × Int32 × Int32 × Int32 × Int32 × Int32 × Int32 × Int32 × Int32 × Int32 × Int32 × Int32 × Int32 × Int32 × Int32 × Int32 × Int32 × Int32 × Int32 × Int32 × Int32 × Int32 × Int32 × Int32 × (Nat → Int32)) : Prop := (r.1 = -1 ∧ s.1 = 1 ∧ ∃ (t : Nat) (TT : Nat → Nat → Nat), t ≤ 12 ∧ r.2.2.2.2.2.2.1 = nI t ∧ s.2.2.2.2.2.2.2.2.2.2.2.2.2.2.2.2.2.2.2.2.2.2.2.2.2.2.2.2.1 = nI t ∧ ∀ j, j < t → TB (TT j) ∧ (∀ c, c < 13 → r.2.2.2.2.2.2.2.2 (j * 13 + c) = nI (TT j c)) ∧ (¬ g = 0 → s.2.2.2.2.2.2.2.2.2.2.2.2.2.2.2.2.2.2.2.2.2.2.2.2.2.2.2.2.2.2 j = rgT (TT j))) ∨ (∃ sf : Nat, sf ≤ n ∧ r.1 = nI sf ∧ s.1 = 0 ∧ s.2.2.2.2.2.2.2.2.2.2.2.2.2.2.2.2.2.2.2.2.1 = nI sf)
theorem loopP {u : Nat} (hu : 4000000 ≤ u) {N : Nat → Int32} {n : Nat} (hn : n ≤ 200) (w1 w2 w3 w4 w5 w6 : Int32) (w7 w8 : Nat → Int32) (z0 z1 z2 z3 z4 z5 z6 z7 z8 z9 z10 z11 z12 z13 z14 z15 z16 z17 z18 z19 z20 z21 z22 z23 z24 z25 z26 z27 z28 z29 : Int32) (zr : Nat → Int32) (g : Int32) : ∀ (d m m2 i : Nat) (A S K : Nat → Nat) (V : Nat → Int32), CH u N n A S K V → i ≤ A 0 → n < A 0 + d → d + 1 < m → d + 1 < m2 → ∀ (st tk nm re stg lag len wei pla mas sti tip tai pac ben off ris rou x y vx vy rd : Int32) (fa fh fd t : Nat) (told cells rng : Nat → Int32), PLr told cells rng fa fh fd t g re stg lag len wei pla mas sti tip tai → ∃ r s, jfix (fX5_read_b20 u w1 w2 w3 w4 w5 1 (nI n) w6 w7 200 (cw 192 N) w8) m (nI i, nI (fa + 2 * fh + 4 * fd), nI (A 0), st, tk, nm, nI t, told, cells) = some r ∧ jfix (fX9_reads_b32 u z0 z1 z2 z3 z4 z5 z6 z7 z8 z9 z10 z11 z12 z13 z14 z15 z16 z17 z18 z19 z20 z21 z22 z23 z24 z25 z26 z27 z28 z29 N zr) m2 (1, re, stg, lag, len, wei, pla, mas, sti, tip, tai, pac, ben, off, ris, rou, x, y, vx, vy, nI (S 0), nI (A 1 - S 0), nI (K 0), V 0, rd, nI fa, nI fh, nI fd, nI t, g, rng) = some s ∧ TE n g r s := by
  intro d
  induction d with
  | zero =>
    intro m m2 i A S K V C hi hd hm hm2 st tk nm re stg lag len wei pla mas sti tip tai pac ben off ris rou x y vx vy rd fa fh fd t told cells rng hL
    have h1 := (C 0).1
    have h2 := (C 0).2.1
    have h3 := (C 0).2.2.1
    omega
  | succ d ih =>
    intro m m2 i A S K V C hi hd hm hm2 st tk nm re stg lag len wei pla mas sti tip tai pac ben off ris rou x y vx vy rd fa fh fd t told cells rng hL
    obtain ⟨m, rfl⟩ : ∃ k, m = k + 1 := ⟨m - 1, by omega⟩
    obtain ⟨m2, rfl⟩ : ∃ k, m2 = k + 1 := ⟨m2 - 1, by omega⟩
    have mono : ∀ j, A j ≤ S j ∧ S j ≤ A (j + 1) ∧ A (j + 1) ≤ n ∧ K j ≤ 4 := fun j => ⟨(C j).1, (C j).2.1, (C j).2.2.1, (C j).2.2.2.2.1⟩
    have mA : ∀ j k, A j ≤ A (j + k) := by
      intro j k
      induction k with
      | zero => exact Nat.le_refl _
      | succ k ihk =>
        have q := mono (j + k)
        have q2 : A (j + k + 1) = A (j + (k + 1)) := rfl
        omega
    have hin : i ≤ n := by have := mono 0; omega
    show ∃ r s, fX5_read_b20 u w1 w2 w3 w4 w5 1 (nI n) w6 w7 200 (cw 192 N) w8 (jfix (fX5_read_b20 u w1 w2 w3 w4 w5 1 (nI n) w6 w7 200 (cw 192 N) w8) m) (nI i, nI (fa + 2 * fh + 4 * fd), nI (A 0), st, tk, nm, nI t, told, cells) = some r ∧ fX9_reads_b32 u z0 z1 z2 z3 z4 z5 z6 z7 z8 z9 z10 z11 z12 z13 z14 z15 z16 z17 z18 z19 z20 z21 z22 z23 z24 z25 z26 z27 z28 z29 N zr (jfix (fX9_reads_b32 u z0 z1 z2 z3 z4 z5 z6 z7 z8 z9 z10 z11 z12 z13 z14 z15 z16 z17 z18 z19 z20 z21 z22 z23 z24 z25 z26 z27 z28 z29 N zr) m2) (1, re, stg, lag, len, wei, pla, mas, sti, tip, tai, pac, ben, off, ris, rou, x, y, vx, vy, nI (S 0), nI (A 1 - S 0), nI (K 0), V 0, rd, nI fa, nI fh, nI fd, nI t, g, rng) = some s ∧ TE n g r s
    by_cases hK : K 0 = 0
    · obtain ⟨a, b, c, e, hc⟩ := cl_0 hu hn C w1 w2 w3 w4 w5 w6 w7 w8 hin (nI (fa + 2 * fh + 4 * fd)) st tk nm (nI t) told cells (jfix (fX5_read_b20 u w1 w2 w3 w4 w5 1 (nI n) w6 w7 200 (cw 192 N) w8) m) hK
      obtain ⟨TT, hTT⟩ := hL.2.2.2.2
      refine ⟨_, (1, re, stg, lag, len, wei, pla, mas, sti, tip, tai, pac, ben, off, ris, rou, x, y, vx, vy, nI (S 0), nI (A 1 - S 0), nI (K 0), V 0, rd, nI fa, nI fh, nI fd, nI t, g, rng), hc, ?_, Or.inl ⟨rfl, rfl, t, TT, hL.1.2.2.2, rfl, rfl, hTT⟩⟩
      unfold fX9_reads_b32
      dsimp only
      rw [if_neg one0, if_pos (show nI (K 0) = 0 by rw [hK]; rfl), jz1]
    · have h01 : S 0 < A 1 := (C 0).2.2.2.1 hK
      have hk4 := (mono 0).2.2.2
      have rf : ∀ rec, fX9_reads_b32 u z0 z1 z2 z3 z4 z5 z6 z7 z8 z9 z10 z11 z12 z13 z14 z15 z16 z17 z18 z19 z20 z21 z22 z23 z24 z25 z26 z27 z28 z29 N zr rec (1, re, stg, lag, len, wei, pla, mas, sti, tip, tai, pac, ben, off, ris, rou, x, y, vx, vy, nI (S 0), nI (A 1 - S 0), nI (K 0), V 0, rd, nI fa, nI fh, nI fd, nI t, g, rng) = ob (fX9_readItem u re stg lag len wei pla mas sti tip tai pac ben off ris rou x y vx vy (nI (S 0)) (nI (A 1 - S 0)) (nI (K 0)) (V 0) rd (nI fa) (nI fh) (nI fd) (nI t) g N rng) (fun r => rec (r.1, r.2.1, r.2.2.1, r.2.2.2.1, r.2.2.2.2.1, r.2.2.2.2.2.1, r.2.2.2.2.2.2.1, r.2.2.2.2.2.2.2.1, r.2.2.2.2.2.2.2.2.1, r.2.2.2.2.2.2.2.2.2.1, r.2.2.2.2.2.2.2.2.2.2.1, r.2.2.2.2.2.2.2.2.2.2.2.1, r.2.2.2.2.2.2.2.2.2.2.2.2.1, r.2.2.2.2.2.2.2.2.2.2.2.2.2.1, r.2.2.2.2.2.2.2.2.2.2.2.2.2.2.1, r.2.2.2.2.2.2.2.2.2.2.2.2.2.2.2.1, r.2.2.2.2.2.2.2.2.2.2.2.2.2.2.2.2.1, r.2.2.2.2.2.2.2.2.2.2.2.2.2.2.2.2.2.1, r.2.2.2.2.2.2.2.2.2.2.2.2.2.2.2.2.2.2.1, r.2.2.2.2.2.2.2.2.2.2.2.2.2.2.2.2.2.2.2.1, r.2.2.2.2.2.2.2.2.2.2.2.2.2.2.2.2.2.2.2.2.1, r.2.2.2.2.2.2.2.2.2.2.2.2.2.2.2.2.2.2.2.2.2.1, r.2.2.2.2.2.2.2.2.2.2.2.2.2.2.2.2.2.2.2.2.2.2.1, r.2.2.2.2.2.2.2.2.2.2.2.2.2.2.2.2.2.2.2.2.2.2.2.1, r.2.2.2.2.2.2.2.2.2.2.2.2.2.2.2.2.2.2.2.2.2.2.2.2.1, r.2.2.2.2.2.2.2.2.2.2.2.2.2.2.2.2.2.2.2.2.2.2.2.2.2.1, r.2.2.2.2.2.2.2.2.2.2.2.2.2.2.2.2.2.2.2.2.2.2.2.2.2.2.1, r.2.2.2.2.2.2.2.2.2.2.2.2.2.2.2.2.2.2.2.2.2.2.2.2.2.2.2.1, r.2.2.2.2.2.2.2.2.2.2.2.2.2.2.2.2.2.2.2.2.2.2.2.2.2.2.2.2.1, g, r.2.2.2.2.2.2.2.2.2.2.2.2.2.2.2.2.2.2.2.2.2.2.2.2.2.2.2.2.2)) := by
        intro rec
        unfold fX9_reads_b32
        dsimp only
        rw [if_neg one0, if_neg (show ¬ nI (K 0) = 0 from fun q => hK ((nI_eq (b := 0) (by omega) (by decide)).mp q))]
      rw [rf]
      have hfail : ∀ j, (∃ r, fX5_read_b20 u w1 w2 w3 w4 w5 1 (nI n) w6 w7 200 (cw 192 N) w8 (jfix (fX5_read_b20 u w1 w2 w3 w4 w5 1 (nI n) w6 w7 200 (cw 192 N) w8) m) (nI i, nI (fa + 2 * fh + 4 * fd), nI (A 0), st, tk, nm, nI t, told, cells) = some r ∧ r.1 = nI (S j)) → (∃ r, fX9_readItem u re stg lag len wei pla mas sti tip tai pac ben off ris rou x y vx vy (nI (S 0)) (nI (A 1 - S 0)) (nI (K 0)) (V 0) rd (nI fa) (nI fh) (nI fd) (nI t) g N rng = some r ∧ r.1 = 0 ∧ r.2.2.2.2.2.2.2.2.2.2.2.2.2.2.2.2.2.2.2.2.1 = nI (S j)) → ∃ r s, fX5_read_b20 u w1 w2 w3 w4 w5 1 (nI n) w6 w7 200 (cw 192 N) w8 (jfix (fX5_read_b20 u w1 w2 w3 w4 w5 1 (nI n) w6 w7 200 (cw 192 N) w8) m) (nI i, nI (fa + 2 * fh + 4 * fd), nI (A 0), st, tk, nm, nI t, told, cells) = some r ∧ ob (fX9_readItem u re stg lag len wei pla mas sti tip tai pac ben off ris rou x y vx vy (nI (S 0)) (nI (A 1 - S 0)) (nI (K 0)) (V 0) rd (nI fa) (nI fh) (nI fd) (nI t) g N rng) (fun r => jfix (fX9_reads_b32 u z0 z1 z2 z3 z4 z5 z6 z7 z8 z9 z10 z11 z12 z13 z14 z15 z16 z17 z18 z19 z20 z21 z22 z23 z24 z25 z26 z27 z28 z29 N zr) m2 (r.1, r.2.1, r.2.2.1, r.2.2.2.1, r.2.2.2.2.1, r.2.2.2.2.2.1, r.2.2.2.2.2.2.1, r.2.2.2.2.2.2.2.1, r.2.2.2.2.2.2.2.2.1, r.2.2.2.2.2.2.2.2.2.1, r.2.2.2.2.2.2.2.2.2.2.1, r.2.2.2.2.2.2.2.2.2.2.2.1, r.2.2.2.2.2.2.2.2.2.2.2.2.1, r.2.2.2.2.2.2.2.2.2.2.2.2.2.1, r.2.2.2.2.2.2.2.2.2.2.2.2.2.2.1, r.2.2.2.2.2.2.2.2.2.2.2.2.2.2.2.1, r.2.2.2.2.2.2.2.2.2.2.2.2.2.2.2.2.1, r.2.2.2.2.2.2.2.2.2.2.2.2.2.2.2.2.2.1, r.2.2.2.2.2.2.2.2.2.2.2.2.2.2.2.2.2.2.1, r.2.2.2.2.2.2.2.2.2.2.2.2.2.2.2.2.2.2.2.1, r.2.2.2.2.2.2.2.2.2.2.2.2.2.2.2.2.2.2.2.2.1, r.2.2.2.2.2.2.2.2.2.2.2.2.2.2.2.2.2.2.2.2.2.1, r.2.2.2.2.2.2.2.2.2.2.2.2.2.2.2.2.2.2.2.2.2.2.1, r.2.2.2.2.2.2.2.2.2.2.2.2.2.2.2.2.2.2.2.2.2.2.2.1, r.2.2.2.2.2.2.2.2.2.2.2.2.2.2.2.2.2.2.2.2.2.2.2.2.1, r.2.2.2.2.2.2.2.2.2.2.2.2.2.2.2.2.2.2.2.2.2.2.2.2.2.1, r.2.2.2.2.2.2.2.2.2.2.2.2.2.2.2.2.2.2.2.2.2.2.2.2.2.2.1, r.2.2.2.2.2.2.2.2.2.2.2.2.2.2.2.2.2.2.2.2.2.2.2.2.2.2.2.1, r.2.2.2.2.2.2.2.2.2.2.2.2.2.2.2.2.2.2.2.2.2.2.2.2.2.2.2.2.1, g, r.2.2.2.2.2.2.2.2.2.2.2.2.2.2.2.2.2.2.2.2.2.2.2.2.2.2.2.2.2)) = some s ∧ TE n g r s := by
        rintro j ⟨r, e1, e2⟩ ⟨s, e3, e4, e5⟩
        obtain ⟨m3, rfl⟩ : ∃ k, m2 = k + 1 := ⟨m2 - 1, by omega⟩
        refine ⟨r, (s.1, s.2.1, s.2.2.1, s.2.2.2.1, s.2.2.2.2.1, s.2.2.2.2.2.1, s.2.2.2.2.2.2.1, s.2.2.2.2.2.2.2.1, s.2.2.2.2.2.2.2.2.1, s.2.2.2.2.2.2.2.2.2.1, s.2.2.2.2.2.2.2.2.2.2.1, s.2.2.2.2.2.2.2.2.2.2.2.1, s.2.2.2.2.2.2.2.2.2.2.2.2.1, s.2.2.2.2.2.2.2.2.2.2.2.2.2.1, s.2.2.2.2.2.2.2.2.2.2.2.2.2.2.1, s.2.2.2.2.2.2.2.2.2.2.2.2.2.2.2.1, s.2.2.2.2.2.2.2.2.2.2.2.2.2.2.2.2.1, s.2.2.2.2.2.2.2.2.2.2.2.2.2.2.2.2.2.1, s.2.2.2.2.2.2.2.2.2.2.2.2.2.2.2.2.2.2.1, s.2.2.2.2.2.2.2.2.2.2.2.2.2.2.2.2.2.2.2.1, s.2.2.2.2.2.2.2.2.2.2.2.2.2.2.2.2.2.2.2.2.1, s.2.2.2.2.2.2.2.2.2.2.2.2.2.2.2.2.2.2.2.2.2.1, s.2.2.2.2.2.2.2.2.2.2.2.2.2.2.2.2.2.2.2.2.2.2.1, s.2.2.2.2.2.2.2.2.2.2.2.2.2.2.2.2.2.2.2.2.2.2.2.1, s.2.2.2.2.2.2.2.2.2.2.2.2.2.2.2.2.2.2.2.2.2.2.2.2.1, s.2.2.2.2.2.2.2.2.2.2.2.2.2.2.2.2.2.2.2.2.2.2.2.2.2.1, s.2.2.2.2.2.2.2.2.2.2.2.2.2.2.2.2.2.2.2.2.2.2.2.2.2.2.1, s.2.2.2.2.2.2.2.2.2.2.2.2.2.2.2.2.2.2.2.2.2.2.2.2.2.2.2.1, s.2.2.2.2.2.2.2.2.2.2.2.2.2.2.2.2.2.2.2.2.2.2.2.2.2.2.2.2.1, g, s.2.2.2.2.2.2.2.2.2.2.2.2.2.2.2.2.2.2.2.2.2.2.2.2.2.2.2.2.2), e1, ?_, Or.inr ⟨S j, by have := mono j; omega, e2, e4, e5⟩⟩
        rw [e3, ob_s]
        show fX9_reads_b32 u z0 z1 z2 z3 z4 z5 z6 z7 z8 z9 z10 z11 z12 z13 z14 z15 z16 z17 z18 z19 z20 z21 z22 z23 z24 z25 z26 z27 z28 z29 N zr (jfix (fX9_reads_b32 u z0 z1 z2 z3 z4 z5 z6 z7 z8 z9 z10 z11 z12 z13 z14 z15 z16 z17 z18 z19 z20 z21 z22 z23 z24 z25 z26 z27 z28 z29 N zr) m3) (s.1, s.2.1, s.2.2.1, s.2.2.2.1, s.2.2.2.2.1, s.2.2.2.2.2.1, s.2.2.2.2.2.2.1, s.2.2.2.2.2.2.2.1, s.2.2.2.2.2.2.2.2.1, s.2.2.2.2.2.2.2.2.2.1, s.2.2.2.2.2.2.2.2.2.2.1, s.2.2.2.2.2.2.2.2.2.2.2.1, s.2.2.2.2.2.2.2.2.2.2.2.2.1, s.2.2.2.2.2.2.2.2.2.2.2.2.2.1, s.2.2.2.2.2.2.2.2.2.2.2.2.2.2.1, s.2.2.2.2.2.2.2.2.2.2.2.2.2.2.2.1, s.2.2.2.2.2.2.2.2.2.2.2.2.2.2.2.2.1, s.2.2.2.2.2.2.2.2.2.2.2.2.2.2.2.2.2.1, s.2.2.2.2.2.2.2.2.2.2.2.2.2.2.2.2.2.2.1, s.2.2.2.2.2.2.2.2.2.2.2.2.2.2.2.2.2.2.2.1, s.2.2.2.2.2.2.2.2.2.2.2.2.2.2.2.2.2.2.2.2.1, s.2.2.2.2.2.2.2.2.2.2.2.2.2.2.2.2.2.2.2.2.2.1, s.2.2.2.2.2.2.2.2.2.2.2.2.2.2.2.2.2.2.2.2.2.2.1, s.2.2.2.2.2.2.2.2.2.2.2.2.2.2.2.2.2.2.2.2.2.2.2.1, s.2.2.2.2.2.2.2.2.2.2.2.2.2.2.2.2.2.2.2.2.2.2.2.2.1, s.2.2.2.2.2.2.2.2.2.2.2.2.2.2.2.2.2.2.2.2.2.2.2.2.2.1, s.2.2.2.2.2.2.2.2.2.2.2.2.2.2.2.2.2.2.2.2.2.2.2.2.2.2.1, s.2.2.2.2.2.2.2.2.2.2.2.2.2.2.2.2.2.2.2.2.2.2.2.2.2.2.2.1, s.2.2.2.2.2.2.2.2.2.2.2.2.2.2.2.2.2.2.2.2.2.2.2.2.2.2.2.2.1, g, s.2.2.2.2.2.2.2.2.2.2.2.2.2.2.2.2.2.2.2.2.2.2.2.2.2.2.2.2.2) = _
        unfold fX9_reads_b32
        dsimp only
        rw [if_pos e4, e4, jz0]
      obtain ⟨w, hw4, hwk, nC, nT, nA, nH, nD⟩ := names hu (N := N) (s := S 0) (e := A 1) (k := K 0) hn (Nat.le_of_lt h01) (mono 0).2.2.1 hk4
      have hsn := sn_0 hL.1.1 hL.1.2.1 hL.1.2.2.1
      have hwc : w = 0 ∨ w = 1 ∨ w = 2 ∨ w = 3 ∨ w = 4 := by omega
      rcases hwc with rfl | rfl | rfl | rfl | rfl
      · have cw := cl_w hu hn C w1 w2 w3 w4 w5 w6 w7 w8 hin (nI (fa + 2 * fh + 4 * fd)) st tk nm (nI t) told cells (jfix (fX5_read_b20 u w1 w2 w3 w4 w5 1 (nI n) w6 w7 200 (cw 192 N) w8) m) hK (w := 0) (L0 := 0) (c := 3) (by decide) nC (ms_n (by decide) _ _)
        rcases itm_Arm hu hn C with ⟨j, j1, j2, hc, hr⟩ | ⟨hc, h3, hr⟩ | ⟨hc, h3, hv, hr⟩
        · refine hfail j (cw.1 j hc) ?_
          obtain ⟨r, e1, e2, e3⟩ := hr re stg lag rd (nI fa)
          exact ⟨_, by rw [rI_0 hu hn C nT nA nH nD re stg lag len wei pla mas sti tip tai pac ben off ris rou x y vx vy rd (nI fa) (nI fh) (nI fd) (nI t) g rng, e1, ob_s, e2, jz0], rfl, e3⟩
        · refine hfail 4 (cw.2.1 hc h3) ?_
          obtain ⟨r, e1, e2, e3⟩ := hr re stg lag rd (nI fa)
          exact ⟨_, by rw [rI_0 hu hn C nT nA nH nD re stg lag len wei pla mas sti tip tai pac ben off ris rou x y vx vy rd (nI fa) (nI fh) (nI fd) (nI t) g rng, e1, ob_s, e2, jz0], rfl, e3⟩
        · obtain ⟨x1, x2, x3, e⟩ := cw.2.2 hc h3
          rw [e, cls_n (by decide), ob_s, rI_0 hu hn C nT nA nH nD re stg lag len wei pla mas sti tip tai pac ben off ris rou x y vx vy rd (nI fa) (nI fh) (nI fd) (nI t) g rng, hr, ob_s]
          dsimp only
          rw [jz1, ob_s, hsn.1]
          have hA : A 1 ≤ A 5 := mA 1 4
          exact ih m m2 (i + 1) _ _ _ _ (CH_sh C 5) (show i + 1 ≤ A (0 + 5) by rw [Nat.zero_add]; have := mono 0; omega) (show n < A (0 + 5) + d by rw [Nat.zero_add]; have := mono 0; omega) (by omega) (by omega) x1 x2 x3 (V 1) (V 2) (V 3) len wei pla mas sti tip tai pac ben off ris rou x y vx vy (V 3) 1 fh fd t _ cells rng (PLr_0 hL (fun i => V (i + 1)) hv.1 hv.2.1 hv.2.2)
      · have cw := cl_w hu hn C w1 w2 w3 w4 w5 w6 w7 w8 hin (nI (fa + 2 * fh + 4 * fd)) st tk nm (nI t) told cells (jfix (fX5_read_b20 u w1 w2 w3 w4 w5 1 (nI n) w6 w7 200 (cw 192 N) w8) m) hK (w := 1) (L0 := 3) (c := 3) (by decide) nC (ms_n (by decide) _ _)
        rcases itm_Hook hu hn C with ⟨j, j1, j2, hc, hr⟩ | ⟨hc, h3, hr⟩ | ⟨hc, h3, hv, hr⟩
        · refine hfail j (cw.1 j hc) ?_
          obtain ⟨r, e1, e2, e3⟩ := hr len wei pla rd (nI fh)
          exact ⟨_, by rw [rI_1 hu hn C nT nA nH nD re stg lag len wei pla mas sti tip tai pac ben off ris rou x y vx vy rd (nI fa) (nI fh) (nI fd) (nI t) g rng, e1, ob_s, e2, jz0], rfl, e3⟩
        · refine hfail 4 (cw.2.1 hc h3) ?_
          obtain ⟨r, e1, e2, e3⟩ := hr len wei pla rd (nI fh)
          exact ⟨_, by rw [rI_1 hu hn C nT nA nH nD re stg lag len wei pla mas sti tip tai pac ben off ris rou x y vx vy rd (nI fa) (nI fh) (nI fd) (nI t) g rng, e1, ob_s, e2, jz0], rfl, e3⟩
        · obtain ⟨x1, x2, x3, e⟩ := cw.2.2 hc h3
          rw [e, cls_n (by decide), ob_s, rI_1 hu hn C nT nA nH nD re stg lag len wei pla mas sti tip tai pac ben off ris rou x y vx vy rd (nI fa) (nI fh) (nI fd) (nI t) g rng, hr, ob_s]
          dsimp only
          rw [jz1, ob_s, hsn.2.1]
          have hA : A 1 ≤ A 5 := mA 1 4
          exact ih m m2 (i + 1) _ _ _ _ (CH_sh C 5) (show i + 1 ≤ A (0 + 5) by rw [Nat.zero_add]; have := mono 0; omega) (show n < A (0 + 5) + d by rw [Nat.zero_add]; have := mono 0; omega) (by omega) (by omega) x1 x2 x3 re stg lag (V 1) (V 2) (V 3) mas sti tip tai pac ben off ris rou x y vx vy (V 3) fa 1 fd t _ cells rng (PLr_1 hL (fun i => V (i + 1)) hv.1 hv.2.1 hv.2.2)
      · have cw := cl_w hu hn C w1 w2 w3 w4 w5 w6 w7 w8 hin (nI (fa + 2 * fh + 4 * fd)) st tk nm (nI t) told cells (jfix (fX5_read_b20 u w1 w2 w3 w4 w5 1 (nI n) w6 w7 200 (cw 192 N) w8) m) hK (w := 2) (L0 := 6) (c := 4) (by decide) nC (ms_n (by decide) _ _)
        rcases itm_Dart hu hn C with ⟨j, j1, j2, hc, hr⟩ | ⟨hc, h3, hr⟩ | ⟨hc, h3, hv, hr⟩
        · refine hfail j (cw.1 j hc) ?_
          obtain ⟨r, e1, e2, e3⟩ := hr mas sti tip tai rd (nI fd)
          exact ⟨_, by rw [rI_2 hu hn C nT nA nH nD re stg lag len wei pla mas sti tip tai pac ben off ris rou x y vx vy rd (nI fa) (nI fh) (nI fd) (nI t) g rng, e1, ob_s, e2, jz0], rfl, e3⟩
        · refine hfail 5 (cw.2.1 hc h3) ?_
          obtain ⟨r, e1, e2, e3⟩ := hr mas sti tip tai rd (nI fd)
          exact ⟨_, by rw [rI_2 hu hn C nT nA nH nD re stg lag len wei pla mas sti tip tai pac ben off ris rou x y vx vy rd (nI fa) (nI fh) (nI fd) (nI t) g rng, e1, ob_s, e2, jz0], rfl, e3⟩
        · obtain ⟨x1, x2, x3, e⟩ := cw.2.2 hc h3
          rw [e, cls_n (by decide), ob_s, rI_2 hu hn C nT nA nH nD re stg lag len wei pla mas sti tip tai pac ben off ris rou x y vx vy rd (nI fa) (nI fh) (nI fd) (nI t) g rng, hr, ob_s]
          dsimp only
          rw [jz1, ob_s, hsn.2.2]
          have hA : A 1 ≤ A 6 := mA 1 5
          exact ih m m2 (i + 1) _ _ _ _ (CH_sh C 6) (show i + 1 ≤ A (0 + 6) by rw [Nat.zero_add]; have := mono 0; omega) (show n < A (0 + 6) + d by rw [Nat.zero_add]; have := mono 0; omega) (by omega) (by omega) x1 x2 x3 re stg lag len wei pla (V 1) (V 2) (V 3) (V 4) pac ben off ris rou x y vx vy (V 4) fa fh 1 t _ cells rng (PLr_2 hL (fun i => V (i + 1)) hv.1 hv.2.1 hv.2.2.1 hv.2.2.2)
      · have rT := rI_3 hu hn C nT nA nH nD re stg lag len wei pla mas sti tip tai pac ben off ris rou x y vx vy rd (nI fa) (nI fh) (nI fd) (nI t) g rng
        rcases ms_3 hL.1.1 hL.1.2.1 hL.1.2.2.1 hL.1.2.2.2 with ⟨rfl, rfl, rfl, ht, ms⟩ | ⟨hno, ms⟩
        · have t12 : ¬ nI t = 12 := fun q => by have := (nI_eq (b := 12) (by omega) (by decide)).mp q; omega
          have rT2 := rT.2 one0 one0 one0 t12
          have cw := cl_w hu hn C w1 w2 w3 w4 w5 w6 w7 w8 hin (nI (1 + 2 * 1 + 4 * 1)) st tk nm (nI t) told cells (jfix (fX5_read_b20 u w1 w2 w3 w4 w5 1 (nI n) w6 w7 200 (cw 192 N) w8) m) hK (w := 3) (L0 := 10) (c := 3) (by decide) nC ms
          rcases itm_Throw hu hn C with ⟨j, j1, j2, hc, hr⟩ | ⟨hc, hv, h3, hr⟩ | ⟨hc, hv, h3, hr⟩
          · refine hfail j (cw.1 j hc) ?_
            obtain ⟨r, e1, e2, e3⟩ := hr re stg lag len wei pla mas sti tip tai pac ben off ris rou x y vx vy rd g t rng
            exact ⟨_, by rw [rT2, e1, ob_s, e2, jz0], rfl, e3⟩
          · refine hfail 4 (cw.2.1 hc h3) ?_
            obtain ⟨T, hT, t10, t11, t12, t0, t1, t2, t3, t4, t5, t6, t7, t8, t9, hcc⟩ := PLr_T hL (fun i => V (i + 1)) hv.1 hv.2.1 hv.2.2
            obtain ⟨r, e1, e2, e3⟩ := hr re stg lag len wei pla mas sti tip tai pac ben off ris rou x y vx vy rd g t rng ht T hT t10 t11 t12 t0 t1 t2 t3 t4 t5 t6 t7 t8 t9
            exact ⟨_, by rw [rT2, e1, ob_s, e2, jz0], rfl, e3⟩
          · obtain ⟨x1, x2, x3, e⟩ := cw.2.2 hc h3
            obtain ⟨T, hT, t10, t11, t12, t0, t1, t2, t3, t4, t5, t6, t7, t8, t9, hcc⟩ := PLr_T hL (fun i => V (i + 1)) hv.1 hv.2.1 hv.2.2
            obtain ⟨pa, be, of0, ri, ro, xa, ya, vxa, vya, rng2, e1, e2⟩ := hr re stg lag len wei pla mas sti tip tai pac ben off ris rou x y vx vy rd g t rng ht T hT t10 t11 t12 t0 t1 t2 t3 t4 t5 t6 t7 t8 t9
            rw [e, cls_3 hu ht, ob_s, rT2, e1, ob_s]
            dsimp only
            rw [jz1, ob_s]
            have hA : A 1 ≤ A 5 := mA 1 4
            exact ih m m2 (i + 1) _ _ _ _ (CH_sh C 5) (show i + 1 ≤ A (0 + 5) by rw [Nat.zero_add]; have := mono 0; omega) (show n < A (0 + 5) + d by rw [Nat.zero_add]; have := mono 0; omega) (by omega) (by omega) x1 x2 x3 re stg lag len wei pla mas sti tip tai pa be of0 ri ro xa ya vxa vya (V 3) 1 1 1 (t + 1) _ _ rng2 (PLr_3 hL (fun i => V (i + 1)) ht hT hcc e2)
        · refine hfail 0 ?_ (rT.1 hno)
          exact cl_4 hu hn C w1 w2 w3 w4 w5 w6 w7 w8 hin (nI (fa + 2 * fh + 4 * fd)) st tk nm (nI t) told cells (jfix (fX5_read_b20 u w1 w2 w3 w4 w5 1 (nI n) w6 w7 200 (cw 192 N) w8) m) hK nC (Or.inr ms)
      · refine hfail 0 ?_ ?_
        · exact cl_4 hu hn C w1 w2 w3 w4 w5 w6 w7 w8 hin (nI (fa + 2 * fh + 4 * fd)) st tk nm (nI t) told cells (jfix (fX5_read_b20 u w1 w2 w3 w4 w5 1 (nI n) w6 w7 200 (cw 192 N) w8) m) hK nC (Or.inl rfl)
        · exact ⟨_, rI_4 hu hn C nT nA nH nD re stg lag len wei pla mas sti tip tai pac ben off ris rou x y vx vy rd (nI fa) (nI fh) (nI fd) (nI t) g rng, rfl, rfl⟩
