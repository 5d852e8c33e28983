theorem hs_c (p : Int32) {r : Nat} (hr : r ≤ 1000) : (∃ a : Nat, a < r ∧ p = nI a ∧ fX7_has p (nI r) = some 1 ∧ fX9_in p.toInt64 (0 : Int64) ((nI r - 1).toInt64) = some 1) ∨ (fX7_has p (nI r) = some 0 ∧ fX9_in p.toInt64 (0 : Int64) ((nI r - 1).toInt64) = some 0) := by
  rw [in_0_v]
  have z : (nI r - 1).toInt = (r : Int) - 1 := pk_sub_toInt (a := r) (b := 1) (by omega) (by decide)
  rcases wi p 0 (nI r - 1) (A := 0) (B := (r : Int) - 1) rfl z with ⟨e, h⟩ | ⟨e, h⟩
  · obtain ⟨a, rfl, -, ha, hb⟩ := rg_nI h (by decide)
    refine Or.inl ⟨a, by omega, rfl, ?_, e⟩
    rw [has7 hb (by omega), if_pos (by omega)]
  · refine Or.inr ⟨?_, e⟩
    unfold fX7_has
    by_cases c : p < 0
    · rw [if_pos c]
    · rw [if_neg c]
      obtain ⟨j, hj, rfl⟩ := nI_of c
      rw [if_pos]
      refine nI_le ?_ (by omega)
      unfold rg at h
      rw [nI_toInt hj] at h
      omega
def cpN (w r st : Nat) (f cells : Nat → Int32) : Nat → Nat → Int32
  | 0 => f
  | k + 1 => upd (cpN w r st f cells k) (st + k) (cells (r * w + k))
theorem copy7 {u r st w R n : Nat} {f cells : Nat → Int32} (hr : r < R) (hw : w ≤ 20) (hR : R < 2 ^ 31) (hn : n < 2 ^ 31) (hat : r * w + w ≤ n) (hst : st + w ≤ 13) (hu : 4000000 ≤ u) : fX7_copyRow u (nI r) (nI st) (nI w) (nI R) 13 f n cells = some (cpN w r st f cells w) := by
  unfold fX7_copyRow
  refine jfix_it (fun k => (nI k, cpN w r st f cells k)) w _ ?_ ?_ (by omega)
  · intro k hk rec
    unfold fX7_copyRow_b3
    dsimp only
    rw [if_neg (nI_ge hk (by omega)), nI_add, if_neg (show ¬ Int32.ofNat 13 ≤ nI (st + k) from nI_ge (by omega) (by decide)), cell7 hr hk (by omega) hR (by omega) hn, ob_s, jgN (by omega) (by omega), nI_clamp (by omega), blet_s, nI_1, blet_s]
    rfl
  · intro rec
    unfold fX7_copyRow_b3
    dsimp only
    rw [if_pos (nI_le (Nat.le_refl _) (by omega))]
theorem one0 : ¬ (1 : Int32) = 0 := by decide
theorem rg_ex {x : Int32} {A B : Nat} (h : rg x A B) : ∃ n : Nat, x = nI n ∧ A ≤ n ∧ n ≤ B := by
  obtain ⟨n, e, h1, h2, -⟩ := rg_nI h (by omega)
  exact ⟨n, e, by omega, by omega⟩
theorem rg_N {x : Int32} {B : Nat} (h : rg x 0 B) : ∃ n : Nat, x = nI n ∧ n ≤ B := by
  obtain ⟨n, e, h1, h2, -⟩ := rg_nI h (by omega)
  exact ⟨n, e, by omega⟩
def tOf13 (a0 a1 a2 a3 a4 a5 a6 a7 a8 a9 a10 a11 a12 : Nat) (i : Nat) : Nat := [a0, a1, a2, a3, a4, a5, a6, a7, a8, a9, a10, a11, a12].getD i 0
theorem ready_c {N : Nat → Int32} (I : InvN N) {u : Nat} (hu : 4000000 ≤ u) (p1 p2 p3 p4 : Int32) (told : Nat → Int32) : (∃ (T : Nat → Nat) (t : Nat → Int32), p4 = nI (T 12) ∧ T 10 = 0 ∧ T 11 = 0 ∧ TB T ∧ (∀ i, i < 13 → t i = nI (T i)) ∧ fX9_isThrow p1 p2 p3 p4 N = some 1 ∧ fX8_ready u p1 p2 p3 p4 told (N 392) (N 394) (N 393) (cw 0 N) (cw 24 N) (cw 12 N) = some (1, t) ∧ ∀ a b c d e f g h i j : Int32, fX9_take_ p1 p2 p3 a b c d e f g h i j N = some (nI (T 0), nI (T 1), nI (T 2), nI (T 3), nI (T 4), nI (T 5), nI (T 6), nI (T 7), nI (T 8), nI (T 9))) ∨ (fX9_isThrow p1 p2 p3 p4 N = some 0 ∧ fX8_ready u p1 p2 p3 p4 told (N 392) (N 394) (N 393) (cw 0 N) (cw 24 N) (cw 12 N) = some (0, told)) := by
  obtain ⟨ra, ea, hra⟩ := rg_N (B := 4) I.1.1
  obtain ⟨rh, eh, hrh⟩ := rg_N (B := 4) I.1.2.1
  obtain ⟨rd, ed, hrd⟩ := rg_N (B := 4) I.1.2.2.1
  have ma : fX9_many 0 N = some (nI ra) := by rw [lit32 (nat_lit 0), many9 N (by decide), ea]
  have mh : fX9_many 1 N = some (nI rh) := by rw [lit32 (nat_lit 1), many9 N (by decide), eh]
  have md : fX9_many 2 N = some (nI rd) := by rw [lit32 (nat_lit 2), many9 N (by decide), ed]
  unfold fX9_isThrow fX8_ready
  rw [ma, mh, md, ea, eh, ed, in_0_6, fits12]
  rcases hs_c p1 (show ra ≤ 1000 by omega) with ⟨a, ha, rfl, h1, h1'⟩ | ⟨h1, h1'⟩
  · rcases hs_c p2 (show rh ≤ 1000 by omega) with ⟨b, hb, rfl, h2, h2'⟩ | ⟨h2, h2'⟩
    · rcases hs_c p3 (show rd ≤ 1000 by omega) with ⟨c, hc, rfl, h3, h3'⟩ | ⟨h3, h3'⟩
      · rcases wi p4 0 6 (A := 0) (B := 6) rfl rfl with ⟨e4, h4⟩ | ⟨e4, h4⟩
        · left
          obtain ⟨d, rfl, hd⟩ := rg_N (B := 6) h4
          have va := I.2.1 a (by rw [ea, nI_toInt (by omega)]; omega)
          have vh := I.2.2.1 b (by rw [eh, nI_toInt (by omega)]; omega)
          have vd := I.2.2.2.1 c (by rw [ed, nI_toInt (by omega)]; omega)
          obtain ⟨x0, e0, l0, m0⟩ := rg_ex (A := 20) (B := 90) va.1
          obtain ⟨x1, e1, l1, m1⟩ := rg_ex (A := 1) (B := 99) va.2.1
          obtain ⟨x2, e2, m2⟩ := rg_N (B := 9) va.2.2
          obtain ⟨x3, e3, m3⟩ := rg_N (B := 99) vh.1
          obtain ⟨x4, e4', m4⟩ := rg_N (B := 99) vh.2.1
          obtain ⟨x5, e5, m5⟩ := rg_N (B := 99) (show rg (N (12 + 3 * b + 2)) 0 (99 : Nat) from ⟨vh.2.2.1, Int.le_trans vh.2.2.2 vh.1.2⟩)
          obtain ⟨x6, e6, l6, m6⟩ := rg_ex (A := 20) (B := 300) vd.1
          obtain ⟨x7, e7, l7, m7⟩ := rg_ex (A := 1) (B := 99) vd.2.1
          obtain ⟨x8, e8, m8⟩ := rg_N (B := 60) vd.2.2.1
          obtain ⟨x9, e9, m9⟩ := rg_N (B := 9) vd.2.2.2
          refine ⟨tOf13 x0 x1 x2 x3 x4 x5 x6 x7 x8 x9 0 0 d, upd (upd (upd (cpN 4 c 6 (cpN 3 b 3 (cpN 3 a 0 told (cw 0 N) 3) (cw 12 N) 3) (cw 24 N) 4) 10 0) 11 0) 12 (nI d), rfl, rfl, rfl, ⟨⟨l0, m0⟩, ⟨l1, m1⟩, m2, m3, m4, m5, ⟨l6, m6⟩, ⟨l7, m7⟩, m8, m9, (by decide : 0 ≤ 6), (by decide : 0 ≤ 19), hd⟩, ?_, ?_, ?_, ?_⟩
          · intro i hi
            have hi2 : i = 0 ∨ i = 1 ∨ i = 2 ∨ i = 3 ∨ i = 4 ∨ i = 5 ∨ i = 6 ∨ i = 7 ∨ i = 8 ∨ i = 9 ∨ i = 10 ∨ i = 11 ∨ i = 12 := by omega
            rcases hi2 with rfl | rfl | rfl | rfl | rfl | rfl | rfl | rfl | rfl | rfl | rfl | rfl | rfl
            · show N (0 + (a * 3 + 0)) = nI x0
              rw [← e0]; congr 1; omega
            · show N (0 + (a * 3 + 1)) = nI x1
              rw [← e1]; congr 1; omega
            · show N (0 + (a * 3 + 2)) = nI x2
              rw [← e2]; congr 1; omega
            · show N (12 + (b * 3 + 0)) = nI x3
              rw [← e3]; congr 1; omega
            · show N (12 + (b * 3 + 1)) = nI x4
              rw [← e4']; congr 1; omega
            · show N (12 + (b * 3 + 2)) = nI x5
              rw [← e5]; congr 1; omega
            · show N (24 + (c * 4 + 0)) = nI x6
              rw [← e6]; congr 1; omega
            · show N (24 + (c * 4 + 1)) = nI x7
              rw [← e7]; congr 1; omega
            · show N (24 + (c * 4 + 2)) = nI x8
              rw [← e8]; congr 1; omega
            · show N (24 + (c * 4 + 3)) = nI x9
              rw [← e9]; congr 1; omega
            · rfl
            · rfl
            · rfl
          · rw [ob_s, h1', ob_s, if_neg one0, ob_s, h2', ob_s, if_neg one0, ob_s, h3', ob_s, if_neg one0, e4, ob_s, if_neg one0]
          · rw [h1, ob_s, if_neg one0, h2, ob_s, if_neg one0, h3, ob_s, if_neg one0, e4, ob_s, if_neg one0, lit32 (nat_lit 0), lit32 (nat_lit 3), lit32 (nat_lit 4), lit32 (nat_lit 6), copy7 (by omega) (by decide) (by omega) (by decide) (by omega) (by decide) hu, ob_s, copy7 (by omega) (by decide) (by omega) (by decide) (by omega) (by decide) hu, ob_s, copy7 (by omega) (by decide) (by omega) (by decide) (by omega) (by decide) hu, ob_s]
            rfl
          · intro j0 j1 j2 j3 j4 j5 j6 j7 j8 j9
            unfold fX9_take_
            simp (disch := omega) only [blet_s, lit32, jgN, nI_add, mulN, clampN, Nat.zero_add, e0, e1, e2, e3, e4', e5, e6, e7, e8, e9]
            rfl
        · right
          rw [ob_s, h1', ob_s, if_neg one0, ob_s, h2', ob_s, if_neg one0, ob_s, h3', ob_s, if_neg one0, e4, ob_s, if_pos rfl, h1, ob_s, if_neg one0, h2, ob_s, if_neg one0, h3, ob_s, if_neg one0, ob_s, if_pos rfl]
          exact ⟨rfl, rfl⟩
      · right
        rw [ob_s, h1', ob_s, if_neg one0, ob_s, h2', ob_s, if_neg one0, ob_s, h3', ob_s, if_pos rfl, h1, ob_s, if_neg one0, h2, ob_s, if_neg one0, h3, ob_s, if_pos rfl]
        exact ⟨rfl, rfl⟩
    · right
      rw [ob_s, h1', ob_s, if_neg one0, ob_s, h2', ob_s, if_pos rfl, h1, ob_s, if_neg one0, h2, ob_s, if_pos rfl]
      exact ⟨rfl, rfl⟩
  · right
    rw [ob_s, h1', ob_s, if_pos rfl, h1, ob_s, if_pos rfl]
    exact ⟨rfl, rfl⟩
