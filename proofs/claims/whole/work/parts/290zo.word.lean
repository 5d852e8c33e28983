/-- the token is this word -/
def mW (N : Nat → Int32) (s e k L : Nat) (c : Nat → Int32) : Prop := k = 1 ∧ e - s = L ∧ ∀ j, j < L → N (192 + (s + j)) = c j
noncomputable def mB (N : Nat → Int32) (s e k L : Nat) (c : Nat → Int32) : Int32 := @ite Int32 (mW N s e k L c) (Classical.propDecidable _) 1 0
theorem mB_1 {N : Nat → Int32} {s e k L : Nat} {c : Nat → Int32} (h : mW N s e k L c) : mB N s e k L c = 1 := by unfold mB; exact if_pos h
theorem mB_0 {N : Nat → Int32} {s e k L : Nat} {c : Nat → Int32} (h : ¬ mW N s e k L c) : mB N s e k L c = 0 := by unfold mB; exact if_neg h
theorem wd_c {u : Nat} (hu : 4000000 ≤ u) {N : Nat → Int32} {n s e L W : Nat} {c : Nat → Int32} (hn : n ≤ 200) (hse : s ≤ e) (hen : e ≤ n) (hL : L ≤ 5) (hl : jlen W = nI L) (hc : ∀ j, j < L → fJ0_charAt W (nI j) = some (c j)) : fX5_isWord u W (nI e) (nI s) 1 (nI n) 200 (cw 192 N) = some (mB N s e 1 L c) := by
  unfold fX5_isWord
  rw [ob_s, hl, subN hse]
  simp only [eqN (show e - s < 2 ^ 31 by omega) (show L < 2 ^ 31 by omega)]
  by_cases h : e - s = L
  · rw [if_pos h]
    have stp : ∀ j, j < L → ∀ rec : Int32 → Option Int32, fX5_isWord_b20 u W (nI e) (nI s) 1 (nI n) 200 (cw 192 N) rec (nI j) = if N (192 + (s + j)) = c j then rec (nI (j + 1)) else some 0 := by
      intro j hj rec
      unfold fX5_isWord_b20
      rw [ob_s, hl, if_neg (nI_ge hj (by omega)), nI_add, pt_c hn (show s + j < n by omega), ob_s, hc j hj, ob_s, blet_s, nI_1]
    by_cases a : ∀ j, j < L → N (192 + (s + j)) = c j
    · rw [mB_1 (show mW N s e 1 L c from ⟨rfl, h, a⟩)]
      refine jfix_to (fun j => nI j) L _ ?_ ?_ (by omega)
      · intro j hj rec
        rw [stp j hj, if_pos (a j hj)]
      · intro rec
        unfold fX5_isWord_b20
        rw [ob_s, hl, if_pos (nI_le (Nat.le_refl L) (by omega))]
    · rw [mB_0 (show ¬ mW N s e 1 L c from fun q => a q.2.2)]
      obtain ⟨m, ⟨hm, hm1⟩, hm2⟩ := pk_least (fun j => j < L ∧ N (192 + (s + j)) ≠ c j) (by
        obtain ⟨j, hj⟩ := Classical.not_forall.mp a
        exact ⟨j, (Classical.not_imp.mp hj).1, (Classical.not_imp.mp hj).2⟩)
      refine jfix_to (fun j => nI j) m _ ?_ ?_ (by omega)
      · intro j hj rec
        rw [stp j (by omega), if_pos (Classical.byContradiction (fun q => hm2 j hj ⟨by omega, q⟩))]
      · intro rec
        rw [stp m hm, if_neg hm1]
  · rw [if_neg h, mB_0 (show ¬ mW N s e 1 L c from fun q => h q.2.1)]
def c5 (a b c d f : Int32) : Nat → Int32
  | 0 => a
  | 1 => b
  | 2 => c
  | 3 => d
  | _ => f
theorem wd_r {u : Nat} (hu : 4000000 ≤ u) {N : Nat → Int32} {n s e k L : Nat} {c0 c1 c2 c3 c4 : Int32} (hn : n ≤ 200) (hse : s ≤ e) (hen : e ≤ n) (hk : k ≤ 4) (hL : L = if c3 = 0 then 3 else if c4 = 0 then 4 else 5) : fX9_isWord u c0 c1 c2 c3 c4 (nI s) (nI (e - s)) (nI k) N = some (mB N s e k L (c5 c0 c1 c2 c3 c4)) := by
  have hL5 : L ≤ 5 := by rw [hL]; split <;> (try split) <;> omega
  have h19 : fX9_isWord u c0 c1 c2 c3 c4 (nI s) (nI (e - s)) (nI k) N = fX9_isWord_b19 u c0 c1 c2 c3 c4 (nI s) (nI (e - s)) (nI k) N (nI L) := by
    unfold fX9_isWord
    rw [hL]
    split
    · rfl
    · split <;> rfl
  have hz : fX9_isWord_b43 u c0 c1 c2 c3 c4 (nI s) (nI (e - s)) (nI k) N (nI L, 0) = some 0 := by
    unfold fX9_isWord_b43
    refine jfix_to (fun _ => (nI L, (0 : Int32), (0 : Int32))) 0 _ ?_ ?_ (by omega)
    · intro j hj; omega
    · intro rec
      unfold fX9_isWord_b48
      dsimp only
      split
      · rfl
      · rw [if_pos rfl]; rfl
  rw [h19]
  unfold fX9_isWord_b19 fX9_isWord_b42
  have ek : (nI k = 1) = (k = 1) := eqN (b := 1) (by omega) (by decide)
  simp only [ek, eqN (show e - s < 2 ^ 31 by omega) (show L < 2 ^ 31 by omega)]
  by_cases hk1 : k = 1
  · rw [if_pos hk1]
    by_cases h : e - s = L
    · rw [if_pos h]
      have stp : ∀ j, j < L → ∀ rec : Int32 × Int32 × Int32 → Option Int32, fX9_isWord_b48 u c0 c1 c2 c3 c4 (nI s) (nI (e - s)) (nI k) N rec (nI L, 1, nI j) = if N (192 + (s + j)) = c5 c0 c1 c2 c3 c4 j then rec (nI L, 1, nI (j + 1)) else rec (nI L, 0, nI (j + 1)) := by
        intro j hj rec
        have h113 : ∀ ch : Int32, fX9_isWord_b113 u c0 c1 c2 c3 c4 (nI s) (nI (e - s)) (nI k) N rec (nI L, nI j, N (192 + (s + j)), ch) = if N (192 + (s + j)) = ch then rec (nI L, 1, nI (j + 1)) else rec (nI L, 0, nI (j + 1)) := by
          intro ch
          unfold fX9_isWord_b113 fX9_isWord_b121
          dsimp only
          simp only [blet_s, nI_1]
        unfold fX9_isWord_b48
        dsimp only
        rw [if_neg (nI_ge hj (by omega)), if_neg one0, nI_add, by_r (by omega), ob_s, h113, h113, h113, h113, h113]
        have hj5 : j = 0 ∨ j = 1 ∨ j = 2 ∨ j = 3 ∨ j = 4 := by omega
        rcases hj5 with rfl | rfl | rfl | rfl | rfl <;> rfl
      unfold fX9_isWord_b43
      dsimp only
      by_cases a : ∀ j, j < L → N (192 + (s + j)) = c5 c0 c1 c2 c3 c4 j
      · rw [mB_1 (show mW N s e k L _ from ⟨hk1, h, a⟩)]
        refine jfix_to (fun j => (nI L, 1, nI j)) L _ ?_ ?_ (by omega)
        · intro j hj rec
          rw [stp j hj, if_pos (a j hj)]
        · intro rec
          unfold fX9_isWord_b48
          dsimp only
          rw [if_pos (nI_le (Nat.le_refl L) (by omega))]
          rfl
      · rw [mB_0 (show ¬ mW N s e k L _ from fun q => a q.2.2)]
        obtain ⟨m, ⟨hm, hm1⟩, hm2⟩ := pk_least (fun j => j < L ∧ N (192 + (s + j)) ≠ c5 c0 c1 c2 c3 c4 j) (by
          obtain ⟨j, hj⟩ := Classical.not_forall.mp a
          exact ⟨j, (Classical.not_imp.mp hj).1, (Classical.not_imp.mp hj).2⟩)
        have hh := jfix_to (g := fX9_isWord_b48 u c0 c1 c2 c3 c4 (nI s) (nI (e - s)) (nI k) N) (fun j => (nI L, (if j = m + 1 then (0 : Int32) else 1), nI j)) (m + 1) (some (0 : Int32)) (u := u) (by
          intro j hj rec
          rw [if_neg (show ¬ j = m + 1 by omega), stp j (by omega)]
          by_cases jm : j = m
          · rw [jm, if_neg hm1, if_pos rfl]
          · rw [if_pos (Classical.byContradiction (fun q => hm2 j (by omega) ⟨by omega, q⟩)), if_neg (show ¬ j + 1 = m + 1 by omega)]) (by
          intro rec
          rw [if_pos rfl]
          unfold fX9_isWord_b48
          dsimp only
          split
          · rfl
          · rw [if_pos rfl]; rfl) (by omega)
        rw [if_neg (show ¬ 0 = m + 1 by omega)] at hh
        exact hh
    · rw [if_neg h, mB_0 (show ¬ mW N s e k L _ from fun q => h q.2.1)]
      exact hz
  · rw [if_neg hk1, mB_0 (show ¬ mW N s e k L _ from fun q => hk1 q.1)]
    exact hz
def cA : Nat → Int32 := c5 97 114 109 0 0
def cH : Nat → Int32 := c5 104 111 111 107 0
def cD : Nat → Int32 := c5 100 97 114 116 0
def cT : Nat → Int32 := c5 116 104 114 111 119
/-- which word the token is: 0 arm, 1 hook, 2 dart, 3 throw, 4 none -/
theorem names {u : Nat} (hu : 4000000 ≤ u) {N : Nat → Int32} {n s e k : Nat} (hn : n ≤ 200) (hse : s ≤ e) (hen : e ≤ n) (hk : k ≤ 4) : ∃ w : Nat, w ≤ 4 ∧ (w ≠ 4 → k = 1) ∧ fX5_itemNamed u (nI e) (nI s) (nI k) 1 (nI n) 200 (cw 192 N) = some (if w = 4 then -1 else nI w) ∧ fX9_isWord u 116 104 114 111 119 (nI s) (nI (e - s)) (nI k) N = some (if w = 3 then 1 else 0) ∧ fX9_isWord u 97 114 109 0 0 (nI s) (nI (e - s)) (nI k) N = some (if w = 0 then 1 else 0) ∧ fX9_isWord u 104 111 111 107 0 (nI s) (nI (e - s)) (nI k) N = some (if w = 1 then 1 else 0) ∧ fX9_isWord u 100 97 114 116 0 (nI s) (nI (e - s)) (nI k) N = some (if w = 2 then 1 else 0) := by
  have r3 := wd_r hu (c0 := 116) (c1 := 104) (c2 := 114) (c3 := 111) (c4 := 119) (L := 5) (N := N) hn hse hen hk rfl
  have r0 := wd_r hu (c0 := 97) (c1 := 114) (c2 := 109) (c3 := 0) (c4 := 0) (L := 3) (N := N) hn hse hen hk rfl
  have r1 := wd_r hu (c0 := 104) (c1 := 111) (c2 := 111) (c3 := 107) (c4 := 0) (L := 4) (N := N) hn hse hen hk rfl
  have r2 := wd_r hu (c0 := 100) (c1 := 97) (c2 := 114) (c3 := 116) (c4 := 0) (L := 4) (N := N) hn hse hen hk rfl
  have d0 := wd_c hu (W := 0) (L := 3) (c := cA) (N := N) hn hse hen (by decide) rfl (by
    intro j hj
    have : j = 0 ∨ j = 1 ∨ j = 2 := by omega
    rcases this with rfl | rfl | rfl <;> rfl)
  have d1 := wd_c hu (W := 1) (L := 4) (c := cH) (N := N) hn hse hen (by decide) rfl (by
    intro j hj
    have : j = 0 ∨ j = 1 ∨ j = 2 ∨ j = 3 := by omega
    rcases this with rfl | rfl | rfl | rfl <;> rfl)
  have d2 := wd_c hu (W := 2) (L := 4) (c := cD) (N := N) hn hse hen (by decide) rfl (by
    intro j hj
    have : j = 0 ∨ j = 1 ∨ j = 2 ∨ j = 3 := by omega
    rcases this with rfl | rfl | rfl | rfl <;> rfl)
  have d3 := wd_c hu (W := 3) (L := 5) (c := cT) (N := N) hn hse hen (by decide) rfl (by
    intro j hj
    have : j = 0 ∨ j = 1 ∨ j = 2 ∨ j = 3 ∨ j = 4 := by omega
    rcases this with rfl | rfl | rfl | rfl | rfl <;> rfl)
  unfold fX5_itemNamed
  rw [r0, r1, r2, r3, d0, d1, d2, d3, ob_s, ob_s, ob_s, ob_s]
  have ek : (nI k = 1) = (k = 1) := eqN (b := 1) (by omega) (by decide)
  simp only [ek]
  by_cases hk1 : k = 1
  · subst hk1
    rw [if_pos rfl]
    by_cases h0 : mW N s e 1 3 cA
    · have n1 : ¬ mW N s e 1 4 cH := fun q => by have := h0.2.1; have := q.2.1; omega
      have n2 : ¬ mW N s e 1 4 cD := fun q => by have := h0.2.1; have := q.2.1; omega
      have n3 : ¬ mW N s e 1 5 cT := fun q => by have := h0.2.1; have := q.2.1; omega
      refine ⟨0, by omega, fun _ => rfl, ?_, ?_, ?_, ?_, ?_⟩
      · rw [mB_1 h0]; rfl
      · exact congrArg some (mB_0 n3)
      · exact congrArg some (mB_1 h0)
      · exact congrArg some (mB_0 n1)
      · exact congrArg some (mB_0 n2)
    · by_cases h1 : mW N s e 1 4 cH
      · have n2 : ¬ mW N s e 1 4 cD := fun q => by
          have a := h1.2.2 0 (by decide)
          have b := q.2.2 0 (by decide)
          exact absurd (a.symm.trans b) (by decide)
        have n3 : ¬ mW N s e 1 5 cT := fun q => by have := h1.2.1; have := q.2.1; omega
        refine ⟨1, by omega, fun _ => rfl, ?_, ?_, ?_, ?_, ?_⟩
        · rw [mB_0 h0, mB_1 h1]; rfl
        · exact congrArg some (mB_0 n3)
        · exact congrArg some (mB_0 h0)
        · exact congrArg some (mB_1 h1)
        · exact congrArg some (mB_0 n2)
      · by_cases h2 : mW N s e 1 4 cD
        · have n3 : ¬ mW N s e 1 5 cT := fun q => by have := h2.2.1; have := q.2.1; omega
          refine ⟨2, by omega, fun _ => rfl, ?_, ?_, ?_, ?_, ?_⟩
          · rw [mB_0 h0, mB_0 h1, mB_1 h2]; rfl
          · exact congrArg some (mB_0 n3)
          · exact congrArg some (mB_0 h0)
          · exact congrArg some (mB_0 h1)
          · exact congrArg some (mB_1 h2)
        · by_cases h3 : mW N s e 1 5 cT
          · refine ⟨3, by omega, fun _ => rfl, ?_, ?_, ?_, ?_, ?_⟩
            · rw [mB_0 h0, mB_0 h1, mB_0 h2, mB_1 h3]; rfl
            · exact congrArg some (mB_1 h3)
            · exact congrArg some (mB_0 h0)
            · exact congrArg some (mB_0 h1)
            · exact congrArg some (mB_0 h2)
          · refine ⟨4, by omega, fun _ => rfl, ?_, ?_, ?_, ?_, ?_⟩
            · rw [mB_0 h0, mB_0 h1, mB_0 h2, mB_0 h3]; rfl
            · exact congrArg some (mB_0 h3)
            · exact congrArg some (mB_0 h0)
            · exact congrArg some (mB_0 h1)
            · exact congrArg some (mB_0 h2)
  · refine ⟨4, by omega, fun h => absurd rfl h, ?_, ?_, ?_, ?_, ?_⟩
    · rw [if_neg hk1]; rfl
    · exact congrArg some (mB_0 (fun q => hk1 q.1))
    · exact congrArg some (mB_0 (fun q => hk1 q.1))
    · exact congrArg some (mB_0 (fun q => hk1 q.1))
    · exact congrArg some (mB_0 (fun q => hk1 q.1))
