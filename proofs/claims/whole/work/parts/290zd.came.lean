def mI (N : Nat → Int32) (l : Nat) : Nat → Int32
  | 0 => 0
  | k + 1 => mI N l k + N (175 + 2 * k + (if k < l then 0 else 1))
def caN (V : Nat → Int32) : Nat → Int32 × Int32 × Int32
  | 0 => (0, 0, V 0)
  | k + 1 => (if (caN V k).2.2 ≤ V (k + 1) then (caN V k).1 else nI (k + 1), if V (k + 1) ≤ (caN V k).2.2 then nI (k + 1) else (caN V k).2.1, if (caN V k).2.2 ≤ V (k + 1) then (caN V k).2.2 else V (k + 1))
theorem caN_b {V : Nat → Int32} : ∀ k, (∃ j, j ≤ k ∧ (caN V k).1 = nI j) ∧ ∃ j, j ≤ k ∧ (caN V k).2.1 = nI j := by
  intro k
  induction k with
  | zero => exact ⟨⟨0, Nat.le_refl _, rfl⟩, ⟨0, Nat.le_refl _, rfl⟩⟩
  | succ k ih =>
    obtain ⟨⟨a, ha, ea⟩, ⟨b, hb, eb⟩⟩ := ih
    refine ⟨?_, ?_⟩
    · show ∃ j, j ≤ k + 1 ∧ (if (caN V k).2.2 ≤ V (k + 1) then (caN V k).1 else nI (k + 1)) = nI j
      split
      · exact ⟨a, by omega, ea⟩
      · exact ⟨k + 1, Nat.le_refl _, rfl⟩
    · show ∃ j, j ≤ k + 1 ∧ (if V (k + 1) ≤ (caN V k).2.2 then nI (k + 1) else (caN V k).2.1) = nI j
      split
      · exact ⟨k + 1, Nat.le_refl _, rfl⟩
      · exact ⟨b, by omega, eb⟩
theorem misC {N : Nat → Int32} {u : Nat} (hu : 4000000 ≤ u) {l : Nat} (hl : l ≤ 8) : fX6_misfits u (nI l) 8 (cw 175 N) = some (mI N l 8) := by
  unfold fX6_misfits
  refine jfix_to (fun k => (mI N l k, nI k)) 8 _ ?_ ?_ (by omega)
  · intro k hk rec
    have e1 : cw 175 N (k * 2 + 1) = N (175 + 2 * k + 1) := by unfold cw; congr 1; omega
    have e0 : cw 175 N (k * 2 + 0) = N (175 + 2 * k + 0) := by unfold cw; congr 1; omega
    have es : mI N l (k + 1) = mI N l k + N (175 + 2 * k + (if k < l then 0 else 1)) := rfl
    unfold fX6_misfits_b4 fX6_misfits_b26
    simp (disch := omega) only [blet_s, ob_s, lit32, litL, jgN, nI_add, mulN, clampN, leN, show ¬ 8 ≤ k by omega, if_false, cell7, e1, e0]
    rw [es]
    by_cases c : l ≤ k
    · rw [if_pos c, if_neg (by omega)]
    · rw [if_neg c, if_pos (by omega)]
  · intro rec
    unfold fX6_misfits_b4
    simp (disch := omega) only [blet_s, ob_s, lit32, litL, jgN, nI_add, mulN, clampN, leN, Nat.le_refl, if_true]
theorem pv_came (u : Nat) (hu : 4000000 ≤ u) (N K Z rf : Nat → Int32) (sg : Int32) (Lm : Nat → Int64) (S cal cbl : Nat → Int32)  (p1 : Int32)(hR : RelC N K Z rf sg Lm S cal cbl) : ∃ (rc : Int32 × (Nat → Int32)) (rm : Int32 × (Nat → Int32)), fX8_came u p1 rf (8 : Int32) (cw 175 N) = some rc ∧ fX9_came u p1 N rf = some rm ∧ rc.1 = rm.1 ∧ RelAll N K Z rm.2 sg Lm S (N 392) (N 393) (N 394) (4 : Int32) (1 : Int32) (N 395) (1 : Int32) (N 396) (N 397) (1 : Int32) (3 : Int32) (8 : Int32) (N 191) (cw 0 N) (cw 12 N) (cw 24 N) (cw 40 N) (cw 48 N) (cw 50 N) (cw 98 N) (cw 99 N) (cw 147 N) (cw 153 N) (cw 154 N) (cw 175 N) (cw 192 N) rc.2 sg (S 0) (S 1) cal cbl := by
  unfold fX8_came fX9_came
  rw [in_0_2]
  rcases wi p1 0 2 (A := 0) (B := 2) rfl rfl with ⟨e1, h1⟩ | ⟨e1, h1⟩
  · rw [e1, ob_s, if_neg one0, ob_s, if_neg one0]
    generalize hV : (fun l => mI N l 8) = V
    have hm : ∀ l, l ≤ 8 → fX6_misfits u (nI l) 8 (cw 175 N) = some (V l) := fun l hl => by rw [misC hu hl, ← hV]
    have hc := jfix_to (g := fX8_came_b33 u p1 rf 8 (cw 175 N)) (fun k => ((caN V k).1, (caN V k).2.1, (caN V k).2.2, nI (k + 1), rf)) 8 (if p1 = 2 then some ((caN V 8).2.2, rf) else if p1 = 0 then some ((caN V 8).1, rf) else some ((caN V 8).2.1, rf)) (u := u) (by
      intro k hk rec
      unfold fX8_came_b33
      dsimp only
      rw [show (8 : Int32) = nI 8 from rfl, if_neg (nI_nlt (by omega) (by omega)), show nI 8 = (8 : Int32) from rfl, hm (k + 1) (by omega), ob_s]
      unfold fX8_came_b65 fX8_came_b75
      dsimp only
      have es : caN V (k + 1) = (if (caN V k).2.2 ≤ V (k + 1) then (caN V k).1 else nI (k + 1), if V (k + 1) ≤ (caN V k).2.2 then nI (k + 1) else (caN V k).2.1, if (caN V k).2.2 ≤ V (k + 1) then (caN V k).2.2 else V (k + 1)) := rfl
      rw [es]
      dsimp only
      by_cases c : (caN V k).2.2 ≤ V (k + 1)
      · rw [if_pos c, if_pos c, if_pos c]
        by_cases d : V (k + 1) = (caN V k).2.2
        · rw [if_pos d, blet_s, nI_1, if_pos (by rw [d]; exact Int32.le_refl _)]
        · rw [if_neg d, blet_s, nI_1, if_neg (fun q => d (Int32.le_antisymm q c))]
      · rw [if_neg c, if_neg c, if_neg c, if_pos rfl, blet_s, nI_1, if_pos (Int32.le_of_lt (Int32.not_le.mp c))]) (by
      intro rec
      unfold fX8_came_b33
      dsimp only
      rw [if_pos (show (8 : Int32) < nI (8 + 1) by decide)]) (by omega)
    have hr := jfix_to (g := fX9_came_b29 u p1 N rf) (fun k => match k with
      | 0 => (-1, -1, 0, 0, rf)
      | k + 1 => ((caN V k).1, (caN V k).2.1, (caN V k).2.2, nI (k + 1), rf)) 9 (if p1 = 0 then some ((caN V 8).1, rf) else if p1 = 1 then some ((caN V 8).2.1, rf) else some ((caN V 8).2.2, rf)) (u := u) (by
      intro k hk rec
      have inner : ∀ (a b c : Int32), fX9_came_b29 u p1 N rf rec (a, b, c, nI k, rf) = (if a = -1 then fX9_came_b98 u p1 N rf rec (b, c, nI k, V k, rf) else if c ≤ V k then fX9_came_b104 u p1 N rf rec (b, c, nI k, V k, a, rf) else fX9_came_b98 u p1 N rf rec (b, c, nI k, V k, rf)) := by
        intro a b c
        unfold fX9_came_b29
        dsimp only
        rw [show (8 : Int32) = nI 8 from rfl, if_neg (nI_nlt (by omega) (by omega))]
        refine jfix_to (fun j => (a, b, c, nI k, mI N k j, nI j, rf)) 8 _ ?_ ?_ (by omega)
        · intro j hj rec2
          have es : mI N k (j + 1) = mI N k j + N (175 + 2 * j + (if j < k then 0 else 1)) := rfl
          unfold fX9_came_b42 fX9_came_b75
          simp (disch := omega) only [blet_s, ob_s, lit32, litL, jgN, nI_add, mulN, clampN, leN, show ¬ 8 ≤ j by omega, if_false]
          rw [es]
          by_cases c : k ≤ j
          · rw [if_pos c, if_neg (by omega)]
          · rw [if_neg c, if_pos (by omega), Nat.add_zero]
        · intro rec2
          unfold fX9_came_b42
          dsimp only
          rw [if_pos (show (8 : Int32) ≤ nI 8 by decide)]
          rw [show mI N k 8 = V k by rw [← hV]]
      cases k with
      | zero =>
        dsimp only
        rw [show (-1, -1, 0, (0 : Int32), rf) = ((-1 : Int32), (-1 : Int32), (0 : Int32), nI 0, rf) from rfl, inner, if_pos rfl]
        unfold fX9_came_b98 fX9_came_b104 fX9_came_b117 fX9_came_b123 fX9_came_b137 fX9_came_b144
        dsimp only
        rw [if_pos rfl, if_pos rfl, blet_s]
        rfl
      | succ k =>
        dsimp only
        obtain ⟨⟨a, ha, ea⟩, ⟨b, hb, eb⟩⟩ := caN_b (V := V) k
        have es : caN V (k + 1) = (if (caN V k).2.2 ≤ V (k + 1) then (caN V k).1 else nI (k + 1), if V (k + 1) ≤ (caN V k).2.2 then nI (k + 1) else (caN V k).2.1, if (caN V k).2.2 ≤ V (k + 1) then (caN V k).2.2 else V (k + 1)) := rfl
        rw [inner, es, ea, eb]
        unfold fX9_came_b98 fX9_came_b104 fX9_came_b117 fX9_came_b123 fX9_came_b137 fX9_came_b144
        dsimp only
        rw [if_neg (nI_nm (by omega)), if_neg (nI_nm (by omega))]
        have hne : ¬ nI a = nI (k + 1) := fun q => by
          have := (nI_eq (by omega) (by omega)).mp q
          omega
        by_cases c : (caN V k).2.2 ≤ V (k + 1)
        · by_cases d : (caN V k).2.2 < V (k + 1)
          · simp only [if_pos c, if_pos d, if_neg hne, if_neg (Int32.not_le.mpr d), blet_s, nI_1]
          · simp only [if_pos c, if_neg d, if_neg hne, if_pos (Int32.not_lt.mp d), blet_s, nI_1]
        · have d : V (k + 1) ≤ (caN V k).2.2 := Int32.le_of_lt (Int32.not_le.mp c)
          simp only [if_neg c, if_neg (nI_nm (show b < 2 ^ 31 by omega)), if_neg (Int32.not_lt.mpr d), if_true, if_pos d, blet_s, nI_1]) (by
      intro rec
      unfold fX9_came_b29
      dsimp only
      rw [if_pos (show (8 : Int32) < nI (8 + 1) by decide)]) (by omega)
    rw [show fX6_misfits u 0 8 (cw 175 N) = some (V 0) from hm 0 (by decide), ob_s, show jfix (fX8_came_b33 u p1 rf 8 (cw 175 N)) u (0, 0, V 0, 1, rf) = _ from hc, show jfix (fX9_came_b29 u p1 N rf) u (-1, -1, 0, 0, rf) = _ from hr]
    obtain ⟨w, rfl, hw⟩ := rg_N (B := 2) h1
    have hw3 : w = 0 ∨ w = 1 ∨ w = 2 := by omega
    rcases hw3 with rfl | rfl | rfl
    · exact ⟨_, _, rfl, rfl, rfl, hR⟩
    · exact ⟨_, _, rfl, rfl, rfl, hR⟩
    · exact ⟨_, _, rfl, rfl, rfl, hR⟩
  · rw [e1, ob_s, if_pos rfl, ob_s, if_pos rfl]
    exact ⟨_, _, rfl, rfl, rfl, Rel_rf _ hR⟩
