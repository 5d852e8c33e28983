theorem pt_c {N : Nat → Int32} {n j : Nat} (hn : n ≤ 200) (hj : j < n) : fX7_cell (nI j) 0 1 (nI n) 200 (cw 192 N) = some (N (192 + j)) := by
  have h := cell7 (r := j) (c := 0) (w := 1) (R := n) (n := 200) (f := cw 192 N) hj (by decide) (by omega) (by omega) (by decide) (by decide)
  rw [show j * 1 + 0 = j by omega] at h
  exact h
theorem by_r {N : Nat → Int32} {j : Nat} (hj : j ≤ 200) : fX9_byteAt (nI j) N = some (N (192 + j)) := by
  unfold fX9_byteAt
  rw [show (192 : Int32) = nI 192 from rfl, nI_add, blet_s, jgN (by omega) (by omega), nI_clamp (by omega)]
def lB (b : Int32) : Prop := fX8_within b 97 122 = some 1
def fB (b : Int32) : Prop := fX8_within b 48 57 = some 1
theorem isL8 (b : Int32) : fX5_isLetter b = fX8_within b 97 122 := jz_b _ (wi_b _ _ _)
theorem isF8 (b : Int32) : fX5_isFigure b = fX8_within b 48 57 := jz_b _ (wi_b _ _ _)
theorem isL9 (b : Int32) : fX9_isSmall b = fX8_within b 97 122 := by
  unfold fX9_isSmall
  rw [in_97_122]
  exact jz_b _ (wi_b _ _ _)
theorem isF9 (b : Int32) : fX9_isFigure b = fX8_within b 48 57 := by
  unfold fX9_isFigure
  rw [in_48_57]
  exact jz_b _ (wi_b _ _ _)
theorem lB_n {b : Int32} (h : ¬ lB b) : fX8_within b 97 122 = some 0 := (wi_b _ _ _).resolve_left h
theorem fB_n {b : Int32} (h : ¬ fB b) : fX8_within b 48 57 = some 0 := (wi_b _ _ _).resolve_left h
def nuN (N : Nat → Int32) (s : Nat) : Nat → Int32
  | 0 => 0
  | k + 1 => if 3 ≤ k then nuN N s k else 10 * nuN N s k + N (192 + (s + k)) - 48
theorem nuN_3 {N : Nat → Int32} {s : Nat} : ∀ d, nuN N s (3 + d) = nuN N s 3 := by
  intro d
  induction d with
  | zero => rfl
  | succ d ih =>
    show (if 3 ≤ 3 + d then nuN N s (3 + d) else _) = _
    rw [if_pos (by omega)]
    exact ih
def tsB (k : Nat) (b : Int32) : Option Int32 := if k = 1 then fX8_within b 97 122 else fX8_within b 48 57
theorem last9 {u : Nat} (hu : 4000000 ≤ u) {N : Nat → Int32} {s l k : Nat} (q x y z w : Int32) (h1 : 1 ≤ l) (hl : l ≤ 200) (hk : k ≤ 4) (hk2 : k ≠ 2) : fX9_look_b212 u q x y z w N (nI s, nI l, nI k, 0) = some (nI s, nI l, nI k, 0) := by
  unfold fX9_look_b212
  obtain ⟨v, hv⟩ : ∃ v, u = v + 1 := ⟨u - 1, by omega⟩
  have h : ∀ rec, fX9_look_b215 u q x y z w N rec (0, nI s, nI l, nI k, 0) = some (nI s, nI l, nI k, 0) := by
    intro rec
    unfold fX9_look_b215 fX9_look_b270
    dsimp only
    have hn2 : ¬ nI k = 2 := fun e => hk2 ((nI_eq (b := 2) (by omega) (by decide)).mp e)
    rw [if_neg (nI_nle (by omega) (by omega)), if_neg (show ¬ (3 : Int32) ≤ 0 by decide), if_neg hn2, if_neg hn2]
    rfl
  conv => lhs; arg 2; rw [hv]
  exact h _
theorem last2 {u : Nat} (hu : 4000000 ≤ u) {N : Nat → Int32} {s l : Nat} (q x y z w : Int32) (h1 : 1 ≤ l) (hl : s + l ≤ 200) : fX9_look_b212 u q x y z w N (nI s, nI l, nI 2, 0) = some (nI s, nI l, nI (if l ≤ 3 then 2 else 4), nuN N s (if l ≤ 3 then l else 3)) := by
  unfold fX9_look_b212
  have hm : (if l ≤ 3 then l else 3) ≤ l := by split <;> omega
  have hm3 : (if l ≤ 3 then l else 3) ≤ 3 := by split <;> omega
  refine jfix_to (fun k => (nI k, nI s, nI l, nI 2, nuN N s k)) (if l ≤ 3 then l else 3) _ ?_ ?_ (by omega)
  · intro k hk rec
    unfold fX9_look_b215
    dsimp only
    rw [if_neg (nI_ge (show k < l by omega) (by omega)), show (3 : Int32) = nI 3 from rfl, if_neg (nI_ge (show k < 3 by omega) (by decide)), if_pos (show nI 2 = 2 from rfl), nI_add, by_r (by omega), ob_s, blet_s, blet_s, nI_1]
    show _ = rec (nI (k + 1), nI s, nI l, nI 2, if 3 ≤ k then nuN N s k else 10 * nuN N s k + N (192 + (s + k)) - 48)
    rw [if_neg (by omega)]
  · intro rec
    unfold fX9_look_b215 fX9_look_b270 fX9_look_b291
    dsimp only
    by_cases c : l ≤ 3
    · simp only [if_pos c]
      rw [if_pos (nI_le (Nat.le_refl l) (by omega)), if_pos (show nI 2 = 2 from rfl), if_pos (show nI l ≤ 3 from nI_le (b := 3) c (by decide))]
    · simp only [if_neg c]
      rw [if_neg (nI_ge (by omega) (by omega)), if_pos (show (3 : Int32) ≤ nI 3 by decide), if_pos (show nI 2 = 2 from rfl), if_neg (show ¬ nI l ≤ 3 from nI_ge (a := 3) (by omega) (by omega))]
      rfl
theorem runR {u : Nat} (hu : 4000000 ≤ u) {N : Nat → Int32} {n s e k : Nat} (hn : n ≤ 200) (en : N 191 = nI n) (hk : k = 1 ∨ k = 2) (hse : s < e) (hen : e ≤ n) (hr : ∀ j, s < j → j < e → tsB k (N (192 + j)) = some 1) (he : e = n ∨ tsB k (N (192 + e)) = some 0) (q x y z w : Int32) : jfix (fX9_look_b134 u q x y z w N) u (1, nI s, 1, nI k, 0) = fX9_look_b212 u q x y z w N (nI s, nI (e - s), nI k, 0) := by
  have tl : fX9_textLong N = some (nI n) := by rw [← en]; rfl
  have tst : ∀ (rec : Int32 × Int32 × Int32 × Int32 × Int32 → Option (Int32 × Int32 × Int32 × Int32)) (j l : Nat), j ≤ 200 → s + l = j → (if nI k = 1 then ob (fX9_isSmall (N (192 + j))) (fun r13 => fX9_look_b190 u q x y z w N rec (r13, nI s, nI l, nI k, 0)) else ob (fX9_isFigure (N (192 + j))) (fun r11 => fX9_look_b190 u q x y z w N rec (r11, nI s, nI l, nI k, 0))) = ob (tsB k (N (192 + j))) (fun r => fX9_look_b190 u q x y z w N rec (r, nI s, nI l, nI k, 0)) := by
    intro rec j l _ _
    unfold tsB
    rw [isL9, isF9]
    rcases hk with rfl | rfl
    · rw [if_pos (show nI 1 = 1 from rfl), if_pos rfl]
    · rw [if_neg (show ¬ nI 2 = 1 by decide), if_neg (by decide)]
  have step : ∀ (rec : Int32 × Int32 × Int32 × Int32 × Int32 → Option (Int32 × Int32 × Int32 × Int32)) (l : Nat), s + l < n → fX9_look_b134 u q x y z w N rec (1, nI s, nI l, nI k, 0) = ob (tsB k (N (192 + (s + l)))) (fun r => fX9_look_b190 u q x y z w N rec (r, nI s, nI l, nI k, 0)) := by
    intro rec l hl
    unfold fX9_look_b134
    dsimp only
    rw [if_neg one0, tl, ob_s, nI_add, if_neg (nI_ge hl (by omega)), by_r (by omega), ob_s]
    exact tst rec (s + l) l (by omega) rfl
  by_cases c : e = n
  · refine jfix_to (fun i => (1, nI s, nI (1 + i), nI k, 0)) (e - s - 1) _ ?_ ?_ (by omega)
    · intro i hi rec
      rw [step rec (1 + i) (by omega), hr (s + (1 + i)) (by omega) (by omega), ob_s]
      unfold fX9_look_b190 fX9_look_b205
      dsimp only
      rw [if_neg one0, blet_s, nI_1]
      rfl
    · intro rec
      unfold fX9_look_b134
      dsimp only
      rw [if_neg one0, tl, ob_s, nI_add, if_pos (nI_le (by omega) (by omega)), show 1 + (e - s - 1) = e - s by omega]
  · have he0 := he.resolve_left c
    have h := jfix_to (g := fX9_look_b134 u q x y z w N) (fun i => ((if i = e - s then 0 else 1 : Int32), nI s, (if i = e - s then nI (e - s) else nI (1 + i)), nI k, (0 : Int32))) (e - s) (fX9_look_b212 u q x y z w N (nI s, nI (e - s), nI k, 0)) (u := u) (by
      intro i hi rec
      rw [if_neg (show ¬ i = e - s by omega), if_neg (show ¬ i = e - s by omega)]
      rw [step rec (1 + i) (by omega)]
      by_cases d : i + 1 = e - s
      · rw [if_pos d, if_pos d, show s + (1 + i) = e by omega, he0, ob_s, show 1 + i = e - s by omega]
        unfold fX9_look_b190 fX9_look_b205
        dsimp only
        rw [if_pos rfl, blet_s, Int32.add_zero]
      · rw [if_neg d, if_neg d, hr (s + (1 + i)) (by omega) (by omega), ob_s]
        unfold fX9_look_b190 fX9_look_b205
        dsimp only
        rw [if_neg one0, blet_s, nI_1]
        rfl) (by
      intro rec
      rw [if_pos rfl, if_pos rfl]
      unfold fX9_look_b134
      dsimp only
      rw [if_pos rfl]) (by omega)
    have h0 : ¬ 0 = e - s := by omega
    rw [if_neg h0, if_neg h0] at h
    exact h
/-- a token: from where it is looked for, where it stands, its end, kind and number -/
def TP (u : Nat) (N : Nat → Int32) (n a s e k : Nat) (v : Int32) : Prop := a ≤ s ∧ s ≤ e ∧ e ≤ n ∧ (k ≠ 0 → s < e) ∧ k ≤ 4 ∧ (∀ st tk nm : Int32, ∃ nm2, fX5_advance u (nI a) st tk nm 1 (nI n) 200 (cw 192 N) = some (nI e, nI s, nI k, nm2) ∧ (k = 2 → nm2 = v)) ∧ ∀ x y z w : Int32, fX9_look u (nI a) x y z w N = some (nI s, nI (e - s), nI k, v)
theorem tok {u : Nat} (hu : 4000000 ≤ u) {N : Nat → Int32} {n : Nat} (hn : n ≤ 200) (en : N 191 = nI n) {a : Nat} (ha : a ≤ n) : ∃ s e k v, TP u N n a s e k v := by
  have tl : fX9_textLong N = some (nI n) := by rw [← en]; rfl
  obtain ⟨s, ⟨hs1, hs2, hs3⟩, hsb⟩ := pk_least (fun j => a ≤ j ∧ j ≤ n ∧ (j = n ∨ N (192 + j) ≠ 32)) ⟨n, ha, Nat.le_refl n, Or.inl rfl⟩
  have hsp : ∀ j, a ≤ j → j < s → N (192 + j) = 32 := fun j h1 h2 => Decidable.byContradiction (fun q => hsb j h2 ⟨h1, by omega, Or.inr q⟩)
  -- the blanks
  have skC : ∀ st tk nm : Int32, fX5_advance u (nI a) st tk nm 1 (nI n) 200 (cw 192 N) = fX5_advance_b38 u (nI a) st tk nm 1 (nI n) 200 (cw 192 N) (nI s, st, tk, nm) := by
    intro st tk nm
    unfold fX5_advance
    refine jfix_to (fun j => (nI (a + j), st, tk, nm)) (s - a) _ ?_ ?_ (by omega)
    · intro j hj rec
      unfold fX5_advance_b0
      dsimp only
      rw [if_neg (nI_ge (show a + j < n by omega) (by omega)), pt_c hn (show a + j < n by omega), ob_s, hsp (a + j) (by omega) (by omega), if_pos rfl, blet_s, nI_1]
      rfl
    · intro rec
      unfold fX5_advance_b0
      dsimp only
      rw [show a + (s - a) = s by omega]
      by_cases c : s = n
      · rw [if_pos (nI_le (by omega) (by omega))]
      · rw [if_neg (nI_ge (by omega) (by omega)), pt_c hn (by omega), ob_s, if_neg (hs3.resolve_left c)]
  have skR : ∀ x y z w : Int32, fX9_look u (nI a) x y z w N = fX9_look_b42 u (nI a) x y z w N (nI s, y, z, w) := by
    intro x y z w
    unfold fX9_look
    refine jfix_to (fun j => (nI (a + j), y, z, w)) (s - a) _ ?_ ?_ (by omega)
    · intro j hj rec
      unfold fX9_look_b5
      dsimp only
      rw [tl, ob_s, if_neg (nI_ge (show a + j < n by omega) (by omega)), by_r (by omega), ob_s, hsp (a + j) (by omega) (by omega), if_pos rfl, blet_s, nI_1]
      rfl
    · intro rec
      unfold fX9_look_b5
      dsimp only
      rw [show a + (s - a) = s by omega, tl, ob_s]
      by_cases c : s = n
      · rw [if_pos (nI_le (by omega) (by omega))]
      · rw [if_neg (nI_ge (by omega) (by omega)), by_r (by omega), ob_s, if_neg (hs3.resolve_left c)]
  by_cases c : s = n
  · refine ⟨s, s, 0, 0, hs1, Nat.le_refl s, hs2, fun h => absurd rfl h, by omega, ?_, ?_⟩
    · intro st tk nm
      refine ⟨nm, ?_, fun h => absurd h (by decide)⟩
      rw [skC]
      unfold fX5_advance_b38
      dsimp only
      rw [if_neg (nI_nlt (by omega) (by omega))]
      rfl
    · intro x y z w
      rw [skR]
      unfold fX9_look_b42
      dsimp only
      rw [tl, ob_s, if_pos (by rw [c]), Nat.sub_self]
      rfl
  have hsn : s < n := by omega
  have hcell : fX7_cell (nI s) 0 1 (nI n) 200 (cw 192 N) = some (N (192 + s)) := pt_c hn hsn
  have lt0 : ¬ nI s = nI n := fun q => by have := (nI_eq (by omega) (by omega)).mp q; omega
  have one : ∀ k : Nat, (k = 3 ∨ k = 4) → ¬ lB (N (192 + s)) → ¬ fB (N (192 + s)) → (k = 3 ↔ N (192 + s) = 59) → TP u N n a s (s + 1) k 0 := by
    intro k hk hl hf h59
    refine ⟨hs1, by omega, by omega, fun _ => by omega, by omega, ?_, ?_⟩
    · intro st tk nm
      refine ⟨nm, ?_, fun h => absurd h (by omega)⟩
      rw [skC]
      unfold fX5_advance_b38 fX5_advance_b131
      dsimp only
      rw [if_pos (nI_lt hsn (by omega)), hcell, ob_s, isL8, lB_n hl, ob_s, if_pos rfl, ob_s, isF8, fB_n hf, ob_s, if_pos rfl, ob_s]
      by_cases c59 : N (192 + s) = 59
      · rw [if_pos c59, blet_s, nI_1, h59.mpr c59]
        rfl
      · rw [if_neg c59, blet_s, nI_1, show k = 4 from hk.resolve_left (fun q => c59 (h59.mp q))]
        rfl
    · intro x y z w
      rw [skR]
      unfold fX9_look_b42
      dsimp only
      rw [tl, ob_s, if_neg lt0, by_r (by omega), ob_s, isL9, lB_n hl, ob_s, if_pos rfl, isF9, fB_n hf, ob_s, if_pos rfl, show s + 1 - s = 1 by omega]
      have h112 : fX9_look_b112 u (nI a) x y z w N (nI k, nI s, 0, 0, 0) = some (nI s, nI 1, nI k, 0) := by
        unfold fX9_look_b112 fX9_look_b133
        dsimp only
        rw [show (3 : Int32) = nI 3 from rfl, if_pos (nI_le (by omega) (by omega))]
        obtain ⟨v, hv⟩ : ∃ v, u = v + 1 := ⟨u - 1, by omega⟩
        have h : ∀ rec, fX9_look_b134 u (nI a) x y z w N rec (0, nI s, 1, nI k, 0) = some (nI s, nI 1, nI k, 0) := by
          intro rec
          unfold fX9_look_b134
          dsimp only
          rw [if_pos rfl]
          exact last9 hu (nI a) x y z w (l := 1) (by omega) (by omega) (by omega) (by omega)
        conv => lhs; arg 2; rw [hv]
        exact h _
      by_cases c59 : N (192 + s) = 59
      · rw [if_pos c59]
        have k3 := h59.mpr c59
        subst k3
        exact h112
      · rw [if_neg c59]
        have k4 : k = 4 := hk.resolve_left (fun q => c59 (h59.mp q))
        subst k4
        exact h112
  by_cases cl : lB (N (192 + s))
  · obtain ⟨e, ⟨he1, he2, he3⟩, heb⟩ := pk_least (fun j => s < j ∧ j ≤ n ∧ (j = n ∨ ¬ lB (N (192 + j)))) ⟨n, hsn, Nat.le_refl n, Or.inl rfl⟩
    have hrun : ∀ j, s ≤ j → j < e → lB (N (192 + j)) := fun j h1 h2 => by
      by_cases z : j = s
      · rw [z]; exact cl
      · exact Classical.byContradiction (fun q => heb j h2 ⟨by omega, by omega, Or.inr q⟩)
    refine ⟨s, e, 1, 0, hs1, by omega, he2, fun _ => he1, by omega, ?_, ?_⟩
    · intro st tk nm
      refine ⟨nm, ?_, fun h => absurd h (by decide)⟩
      rw [skC]
      unfold fX5_advance_b38
      dsimp only
      rw [if_pos (nI_lt hsn (by omega)), hcell, ob_s, isL8, show fX8_within (N (192 + s)) 97 122 = some 1 from cl, ob_s, if_neg one0]
      have h : fX5_readLetters u (nI s) tk 1 (nI n) 200 (cw 192 N) = some (nI e, 1) := by
        unfold fX5_readLetters
        refine jfix_to (fun i => (nI (s + i), tk)) (e - s) _ ?_ ?_ (by omega)
        · intro i hi rec
          unfold fX5_readLetters_b0
          dsimp only
          rw [if_neg (nI_ge (show s + i < n by omega) (by omega)), pt_c hn (show s + i < n by omega), ob_s, isL8, show fX8_within (N (192 + (s + i))) 97 122 = some 1 from hrun (s + i) (by omega) (by omega), ob_s, if_neg one0, blet_s, nI_1]
          rfl
        · intro rec
          unfold fX5_readLetters_b0 fX5_readLetters_b39
          dsimp only
          rw [show s + (e - s) = e by omega]
          by_cases z : e = n
          · rw [if_pos (nI_le (by omega) (by omega))]
          · rw [if_neg (nI_ge (by omega) (by omega)), pt_c hn (by omega), ob_s, isL8, lB_n (he3.resolve_left z), ob_s, if_pos rfl]
      rw [h, ob_s]
      rfl
    · intro x y z w
      rw [skR]
      unfold fX9_look_b42 fX9_look_b112 fX9_look_b133
      dsimp only
      rw [tl, ob_s, if_neg lt0, by_r (by omega), ob_s, isL9, show fX8_within (N (192 + s)) 97 122 = some 1 from cl, ob_s, if_neg one0, if_neg (show ¬ (3 : Int32) ≤ 1 by decide)]
      refine (runR hu (k := 1) hn en (Or.inl rfl) he1 he2 (fun j h1 h2 => hrun j (by omega) h2) ?_ (nI a) x y z w).trans ?_
      · rcases he3 with q | q
        · exact Or.inl q
        · exact Or.inr (lB_n q)
      · exact last9 hu (nI a) x y z w (by omega) (by omega) (by omega) (by omega)
  · by_cases cf : fB (N (192 + s))
    · obtain ⟨e, ⟨he1, he2, he3⟩, heb⟩ := pk_least (fun j => s < j ∧ j ≤ n ∧ (j = n ∨ ¬ fB (N (192 + j)))) ⟨n, hsn, Nat.le_refl n, Or.inl rfl⟩
      have hrun : ∀ j, s ≤ j → j < e → fB (N (192 + j)) := fun j h1 h2 => by
        by_cases z : j = s
        · rw [z]; exact cf
        · exact Classical.byContradiction (fun q => heb j h2 ⟨by omega, by omega, Or.inr q⟩)
      have hk4 : (if e - s ≤ 3 then 2 else 4) ≤ 4 := by split <;> omega
      refine ⟨s, e, if e - s ≤ 3 then 2 else 4, nuN N s (if e - s ≤ 3 then e - s else 3), hs1, by omega, he2, fun _ => he1, hk4, ?_, ?_⟩
      · intro st tk nm
        refine ⟨nuN N s (e - s), ?_, fun h => ?_⟩
        · rw [skC]
          unfold fX5_advance_b38
          dsimp only
          rw [if_pos (nI_lt hsn (by omega)), hcell, ob_s, isL8, lB_n cl, ob_s, if_pos rfl, ob_s, isF8, show fX8_within (N (192 + s)) 48 57 = some 1 from cf, ob_s, if_neg one0]
          have h : fX5_readFigures u (nI s) (nI s) tk nm 1 (nI n) 200 (cw 192 N) = some (nI e, nI (if e - s ≤ 3 then 2 else 4), nuN N s (e - s)) := by
            unfold fX5_readFigures
            refine jfix_to (fun i => (nI (s + i), tk, nuN N s i)) (e - s) _ ?_ ?_ (by omega)
            · intro i hi rec
              unfold fX5_readFigures_b5 fX5_readFigures_b68
              dsimp only
              rw [if_neg (nI_ge (show s + i < n by omega) (by omega)), pt_c hn (show s + i < n by omega), ob_s, isF8, show fX8_within (N (192 + (s + i))) 48 57 = some 1 from hrun (s + i) (by omega) (by omega), ob_s, if_neg one0, subN (show s ≤ s + i by omega), show s + i - s = i by omega, show (3 : Int32) = nI 3 from rfl]
              simp only [leN (show 3 < 2 ^ 31 by decide) (show i < 2 ^ 31 by omega)]
              have eu : nuN N s (i + 1) = if 3 ≤ i then nuN N s i else 10 * nuN N s i + N (192 + (s + i)) - 48 := rfl
              rw [eu]
              by_cases z : 3 ≤ i
              · rw [if_pos z, if_pos z, blet_s, nI_1]
                rfl
              · rw [if_neg z, if_neg z, ob_s, blet_s, blet_s, nI_1]
                rfl
            · intro rec
              have hend : fX5_readFigures_b81 u (nI s) (nI s) tk nm 1 (nI n) 200 (cw 192 N) (nI e, tk, nuN N s (e - s)) = some (nI e, nI (if e - s ≤ 3 then 2 else 4), nuN N s (e - s)) := by
                unfold fX5_readFigures_b81
                dsimp only
                rw [subN (show s ≤ e by omega), show (3 : Int32) = nI 3 from rfl]
                simp only [ltN (show 3 < 2 ^ 31 by decide) (show e - s < 2 ^ 31 by omega)]
                by_cases z : e - s ≤ 3
                · rw [if_neg (by omega), if_pos z]
                  rfl
                · rw [if_pos (by omega), if_neg z]
                  rfl
              unfold fX5_readFigures_b5
              dsimp only
              rw [show s + (e - s) = e by omega]
              by_cases z : e = n
              · rw [if_pos (nI_le (by omega) (by omega))]
                exact hend
              · rw [if_neg (nI_ge (by omega) (by omega)), pt_c hn (by omega), ob_s, isF8, fB_n (he3.resolve_left z), ob_s, if_pos rfl]
                exact hend
          rw [h, ob_s]
        · have z : e - s ≤ 3 := Decidable.byContradiction (fun q => by rw [if_neg q] at h; exact absurd h (by decide))
          rw [if_pos z]
      · intro x y z w
        rw [skR]
        unfold fX9_look_b42 fX9_look_b112 fX9_look_b133
        dsimp only
        rw [tl, ob_s, if_neg lt0, by_r (by omega), ob_s, isL9, lB_n cl, ob_s, if_pos rfl, isF9, show fX8_within (N (192 + s)) 48 57 = some 1 from cf, ob_s, if_neg one0, if_neg (show ¬ (3 : Int32) ≤ 2 by decide)]
        refine (runR hu (k := 2) hn en (Or.inr rfl) he1 he2 (fun j h1 h2 => hrun j (by omega) h2) ?_ (nI a) x y z w).trans ?_
        · rcases he3 with q | q
          · exact Or.inl q
          · exact Or.inr (fB_n q)
        · exact last2 hu (nI a) x y z w (by omega) (by omega)
    · by_cases c59 : N (192 + s) = 59
      · exact ⟨s, s + 1, 3, 0, one 3 (Or.inl rfl) cl cf ⟨fun _ => c59, fun _ => rfl⟩⟩
      · exact ⟨s, s + 1, 4, 0, one 4 (Or.inr rfl) cl cf ⟨fun h => absurd h (by decide), fun h => absurd h c59⟩⟩
