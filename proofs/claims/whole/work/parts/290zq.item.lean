theorem jz1 {ρ : Type} (e : Option ρ) : jz 1 e = e := if_pos (by decide)
theorem jz0 {ρ : Type} (e : Option ρ) : jz 0 e = e := if_pos (by decide)
def cNO (u : Nat) (N : Nat → Int32) (n : Nat) (A S : Nat → Nat) (p m : Nat) : Prop := ∀ (st tk nm : Int32) (told : Nat → Int32), ∃ x y z t, fX5_readNumbers u (nI p) (nI (A 1)) st tk nm 1 (nI n) told 200 (cw 192 N) = some (0, x, nI (S m), y, z, t)
def cOK (u : Nat) (N : Nat → Int32) (n : Nat) (A : Nat → Nat) (V : Nat → Int32) (p L0 c : Nat) : Prop := ∀ (st tk nm : Int32) (told : Nat → Int32), ∃ x y z, fX5_readNumbers u (nI p) (nI (A 1)) st tk nm 1 (nI n) told 200 (cw 192 N) = some (1, nI (A (c + 1)), x, y, z, tdN told L0 (fun i => V (i + 1)) c)
/-- the last number of a hook: no more than its length -/
theorem pl_i {a b : Int32} (ha : fX8_within a 0 99 = some 1) : (fX8_within b 0 99 = some 1 ∧ b ≤ a) ↔ fX8_within b 0 a = some 1 := by
  have h1 : rg a 0 99 := (wi a 0 99 (A := 0) (B := 99) rfl rfl).resolve_right (fun q => absurd (ha.symm.trans q.1) (by decide)) |>.2
  have key : b ≤ a ↔ b.toInt ≤ a.toInt := Int32.le_iff_toInt_le
  constructor
  · rintro ⟨h2, h3⟩
    have h4 : rg b 0 99 := (wi b 0 99 (A := 0) (B := 99) rfl rfl).resolve_right (fun q => absurd (h2.symm.trans q.1) (by decide)) |>.2
    exact ((wi b 0 a (A := 0) (B := a.toInt) rfl rfl).resolve_right (fun q => q.2 ⟨h4.1, key.mp h3⟩)).1
  · intro h2
    have h4 : rg b 0 a.toInt := (wi b 0 a (A := 0) (B := a.toInt) rfl rfl).resolve_right (fun q => absurd (h2.symm.trans q.1) (by decide)) |>.2
    exact ⟨((wi b 0 99 (A := 0) (B := 99) rfl rfl).resolve_right (fun q => q.2 ⟨h4.1, Int.le_trans h4.2 h1.2⟩)).1, key.mpr h4.2⟩

theorem itm_Arm {u : Nat} (hu : 4000000 ≤ u) {N : Nat → Int32} {n : Nat} {A S K : Nat → Nat} {V : Nat → Int32} (hn : n ≤ 200) (C : CH u N n A S K V) : (∃ m, 1 ≤ m ∧ m ≤ 3 ∧ cNO u N n A S 0 m ∧ (∀ re stg lag rd ha : Int32, ∃ r, fX9_readArm u re stg lag (nI (S 1)) (nI (A 2 - S 1)) (nI (K 1)) (V 1) rd ha N = some r ∧ r.1 = 0 ∧ r.2.2.2.2.1 = nI (S m))) ∨ (cOK u N n A V 0 0 3 ∧ ¬ K 4 = 3 ∧ (∀ re stg lag rd ha : Int32, ∃ r, fX9_readArm u re stg lag (nI (S 1)) (nI (A 2 - S 1)) (nI (K 1)) (V 1) rd ha N = some r ∧ r.1 = 0 ∧ r.2.2.2.2.1 = nI (S 4))) ∨ (cOK u N n A V 0 0 3 ∧ K 4 = 3 ∧ (fX8_within (V 1) 20 90 = some 1 ∧ fX8_within (V 2) 1 99 = some 1 ∧ fX8_within (V 3) 0 9 = some 1) ∧ ∀ re stg lag rd ha : Int32, fX9_readArm u re stg lag (nI (S 1)) (nI (A 2 - S 1)) (nI (K 1)) (V 1) rd ha N = some (1, V 1, V 2, V 3, nI (S 5), nI (A 6 - S 5), nI (K 5), V 5, V 3, 1)) := by
  have C1 := CH_sh C 1
  have hp : IT 0 0 3 := by unfold IT; omega
  by_cases g1 : K 1 = 2 ∧ fX8_within (V 1) 20 90 = some 1
  rotate_left
  · refine Or.inl ⟨1, by decide, by decide, fun st tk nm told => rd_no hu hn C1 hp st tk nm told 0 (by decide) ?_ (fun q => g1 ⟨q.1, (fits0 _).symm.trans q.2.1⟩), ?_⟩
    · intro i hi; omega
    · intro re stg lag rd ha
      unfold fX9_readArm
      rw [tkNo C 1 _ g1, ob_s]; dsimp only; rw [if_pos rfl]
      exact ⟨_, rfl, rfl, rfl⟩
  by_cases g2 : K 2 = 2 ∧ fX8_within (V 2) 1 99 = some 1
  rotate_left
  · refine Or.inl ⟨2, by decide, by decide, fun st tk nm told => rd_no hu hn C1 hp st tk nm told 1 (by decide) ?_ (fun q => g2 ⟨q.1, (fits1 _).symm.trans q.2.1⟩), ?_⟩
    · intro i hi
      have hh : i = 0 := by omega
      rcases hh with rfl
      · exact ⟨g1.1, (fits0 _).trans g1.2, fun h => absurd h (by decide)⟩
    · intro re stg lag rd ha
      unfold fX9_readArm
      rw [tkOk C 1 _ g1.1 g1.2, ob_s]; dsimp only; rw [if_neg one0]
      rw [tkNo C 2 _ g2, ob_s]; dsimp only; rw [if_pos rfl]
      exact ⟨_, rfl, rfl, rfl⟩
  by_cases g3 : K 3 = 2 ∧ fX8_within (V 3) 0 9 = some 1
  rotate_left
  · refine Or.inl ⟨3, by decide, by decide, fun st tk nm told => rd_no hu hn C1 hp st tk nm told 2 (by decide) ?_ (fun q => g3 ⟨q.1, (fits2 _).symm.trans q.2.1⟩), ?_⟩
    · intro i hi
      have hh : i = 0 ∨ i = 1 := by omega
      rcases hh with rfl | rfl
      · exact ⟨g1.1, (fits0 _).trans g1.2, fun h => absurd h (by decide)⟩
      · exact ⟨g2.1, (fits1 _).trans g2.2, fun h => absurd h (by decide)⟩
    · intro re stg lag rd ha
      unfold fX9_readArm
      rw [tkOk C 1 _ g1.1 g1.2, ob_s]; dsimp only; rw [if_neg one0]
      rw [tkOk C 2 _ g2.1 g2.2, ob_s]; dsimp only; rw [if_neg one0]
      rw [tkNo C 3 _ g3, ob_s]; dsimp only; rw [if_pos rfl]
      exact ⟨_, rfl, rfl, rfl⟩
  have hok : cOK u N n A V 0 0 3 := by
    intro st tk nm told
    refine rd_ok hu hn C1 hp st tk nm told ?_
    intro i hi
    have hh : i = 0 ∨ i = 1 ∨ i = 2 := by omega
    rcases hh with rfl | rfl | rfl
    · exact ⟨g1.1, (fits0 _).trans g1.2, fun h => absurd h (by decide)⟩
    · exact ⟨g2.1, (fits1 _).trans g2.2, fun h => absurd h (by decide)⟩
    · exact ⟨g3.1, (fits2 _).trans g3.2, fun h => absurd h (by decide)⟩
  by_cases g : K 4 = 3
  · refine Or.inr (Or.inr ⟨hok, g, ⟨g1.2, g2.2, g3.2⟩, ?_⟩)
    intro re stg lag rd ha
    unfold fX9_readArm
    rw [tkOk C 1 _ g1.1 g1.2, ob_s]; dsimp only; rw [if_neg one0]
    rw [tkOk C 2 _ g2.1 g2.2, ob_s]; dsimp only; rw [if_neg one0]
    rw [tkOk C 3 _ g3.1 g3.2, ob_s]; dsimp only; rw [if_neg one0]
    rw [spOk C 4 g, ob_s]; dsimp only
    rw [jz1]
  · refine Or.inr (Or.inl ⟨hok, g, ?_⟩)
    intro re stg lag rd ha
    unfold fX9_readArm
    rw [tkOk C 1 _ g1.1 g1.2, ob_s]; dsimp only; rw [if_neg one0]
    rw [tkOk C 2 _ g2.1 g2.2, ob_s]; dsimp only; rw [if_neg one0]
    rw [tkOk C 3 _ g3.1 g3.2, ob_s]; dsimp only; rw [if_neg one0]
    rw [spNo C 4 g, ob_s]; dsimp only
    exact ⟨_, rfl, rfl, rfl⟩
theorem itm_Hook {u : Nat} (hu : 4000000 ≤ u) {N : Nat → Int32} {n : Nat} {A S K : Nat → Nat} {V : Nat → Int32} (hn : n ≤ 200) (C : CH u N n A S K V) : (∃ m, 1 ≤ m ∧ m ≤ 3 ∧ cNO u N n A S 1 m ∧ (∀ len wei pla rd hh : Int32, ∃ r, fX9_readHook u len wei pla (nI (S 1)) (nI (A 2 - S 1)) (nI (K 1)) (V 1) rd hh N = some r ∧ r.1 = 0 ∧ r.2.2.2.2.1 = nI (S m))) ∨ (cOK u N n A V 1 3 3 ∧ ¬ K 4 = 3 ∧ (∀ len wei pla rd hh : Int32, ∃ r, fX9_readHook u len wei pla (nI (S 1)) (nI (A 2 - S 1)) (nI (K 1)) (V 1) rd hh N = some r ∧ r.1 = 0 ∧ r.2.2.2.2.1 = nI (S 4))) ∨ (cOK u N n A V 1 3 3 ∧ K 4 = 3 ∧ (fX8_within (V 1) 0 99 = some 1 ∧ fX8_within (V 2) 0 99 = some 1 ∧ fX8_within (V 3) 0 (V 1) = some 1) ∧ ∀ len wei pla rd hh : Int32, fX9_readHook u len wei pla (nI (S 1)) (nI (A 2 - S 1)) (nI (K 1)) (V 1) rd hh N = some (1, V 1, V 2, V 3, nI (S 5), nI (A 6 - S 5), nI (K 5), V 5, V 3, 1)) := by
  have C1 := CH_sh C 1
  have hp : IT 1 3 3 := by unfold IT; omega
  by_cases g1 : K 1 = 2 ∧ fX8_within (V 1) 0 99 = some 1
  rotate_left
  · refine Or.inl ⟨1, by decide, by decide, fun st tk nm told => rd_no hu hn C1 hp st tk nm told 0 (by decide) ?_ (fun q => g1 ⟨q.1, (fits3 _).symm.trans q.2.1⟩), ?_⟩
    · intro i hi; omega
    · intro len wei pla rd hh
      unfold fX9_readHook
      rw [tkNo C 1 _ g1, ob_s]; dsimp only; rw [if_pos rfl]
      exact ⟨_, rfl, rfl, rfl⟩
  by_cases g2 : K 2 = 2 ∧ fX8_within (V 2) 0 99 = some 1
  rotate_left
  · refine Or.inl ⟨2, by decide, by decide, fun st tk nm told => rd_no hu hn C1 hp st tk nm told 1 (by decide) ?_ (fun q => g2 ⟨q.1, (fits4 _).symm.trans q.2.1⟩), ?_⟩
    · intro i hi
      have hh : i = 0 := by omega
      rcases hh with rfl
      · exact ⟨g1.1, (fits3 _).trans g1.2, fun h => absurd h (by decide)⟩
    · intro len wei pla rd hh
      unfold fX9_readHook
      rw [tkOk C 1 _ g1.1 g1.2, ob_s]; dsimp only; rw [if_neg one0]
      rw [tkNo C 2 _ g2, ob_s]; dsimp only; rw [if_pos rfl]
      exact ⟨_, rfl, rfl, rfl⟩
  by_cases g3 : K 3 = 2 ∧ fX8_within (V 3) 0 (V 1) = some 1
  rotate_left
  · refine Or.inl ⟨3, by decide, by decide, fun st tk nm told => rd_no hu hn C1 hp st tk nm told 2 (by decide) ?_ (fun q => g3 ⟨q.1, (pl_i g1.2).mp ⟨(fits5 _).symm.trans q.2.1, q.2.2 rfl⟩⟩), ?_⟩
    · intro i hi
      have hh : i = 0 ∨ i = 1 := by omega
      rcases hh with rfl | rfl
      · exact ⟨g1.1, (fits3 _).trans g1.2, fun h => absurd h (by decide)⟩
      · exact ⟨g2.1, (fits4 _).trans g2.2, fun h => absurd h (by decide)⟩
    · intro len wei pla rd hh
      unfold fX9_readHook
      rw [tkOk C 1 _ g1.1 g1.2, ob_s]; dsimp only; rw [if_neg one0]
      rw [tkOk C 2 _ g2.1 g2.2, ob_s]; dsimp only; rw [if_neg one0]
      rw [tkNo C 3 _ g3, ob_s]; dsimp only; rw [if_pos rfl]
      exact ⟨_, rfl, rfl, rfl⟩
  have hok : cOK u N n A V 1 3 3 := by
    intro st tk nm told
    refine rd_ok hu hn C1 hp st tk nm told ?_
    intro i hi
    have hh : i = 0 ∨ i = 1 ∨ i = 2 := by omega
    rcases hh with rfl | rfl | rfl
    · exact ⟨g1.1, (fits3 _).trans g1.2, fun h => absurd h (by decide)⟩
    · exact ⟨g2.1, (fits4 _).trans g2.2, fun h => absurd h (by decide)⟩
    · exact ⟨g3.1, (fits5 _).trans ((pl_i g1.2).mpr g3.2).1, fun _ => ((pl_i g1.2).mpr g3.2).2⟩
  by_cases g : K 4 = 3
  · refine Or.inr (Or.inr ⟨hok, g, ⟨g1.2, g2.2, g3.2⟩, ?_⟩)
    intro len wei pla rd hh
    unfold fX9_readHook
    rw [tkOk C 1 _ g1.1 g1.2, ob_s]; dsimp only; rw [if_neg one0]
    rw [tkOk C 2 _ g2.1 g2.2, ob_s]; dsimp only; rw [if_neg one0]
    rw [tkOk C 3 _ g3.1 g3.2, ob_s]; dsimp only; rw [if_neg one0]
    rw [spOk C 4 g, ob_s]; dsimp only
    rw [jz1]
  · refine Or.inr (Or.inl ⟨hok, g, ?_⟩)
    intro len wei pla rd hh
    unfold fX9_readHook
    rw [tkOk C 1 _ g1.1 g1.2, ob_s]; dsimp only; rw [if_neg one0]
    rw [tkOk C 2 _ g2.1 g2.2, ob_s]; dsimp only; rw [if_neg one0]
    rw [tkOk C 3 _ g3.1 g3.2, ob_s]; dsimp only; rw [if_neg one0]
    rw [spNo C 4 g, ob_s]; dsimp only
    exact ⟨_, rfl, rfl, rfl⟩
theorem itm_Dart {u : Nat} (hu : 4000000 ≤ u) {N : Nat → Int32} {n : Nat} {A S K : Nat → Nat} {V : Nat → Int32} (hn : n ≤ 200) (C : CH u N n A S K V) : (∃ m, 1 ≤ m ∧ m ≤ 4 ∧ cNO u N n A S 2 m ∧ (∀ mas sti tip tai rd hd : Int32, ∃ r, fX9_readDart u mas sti tip tai (nI (S 1)) (nI (A 2 - S 1)) (nI (K 1)) (V 1) rd hd N = some r ∧ r.1 = 0 ∧ r.2.2.2.2.2.1 = nI (S m))) ∨ (cOK u N n A V 2 6 4 ∧ ¬ K 5 = 3 ∧ (∀ mas sti tip tai rd hd : Int32, ∃ r, fX9_readDart u mas sti tip tai (nI (S 1)) (nI (A 2 - S 1)) (nI (K 1)) (V 1) rd hd N = some r ∧ r.1 = 0 ∧ r.2.2.2.2.2.1 = nI (S 5))) ∨ (cOK u N n A V 2 6 4 ∧ K 5 = 3 ∧ (fX8_within (V 1) 20 300 = some 1 ∧ fX8_within (V 2) 1 99 = some 1 ∧ fX8_within (V 3) 0 60 = some 1 ∧ fX8_within (V 4) 0 9 = some 1) ∧ ∀ mas sti tip tai rd hd : Int32, fX9_readDart u mas sti tip tai (nI (S 1)) (nI (A 2 - S 1)) (nI (K 1)) (V 1) rd hd N = some (1, V 1, V 2, V 3, V 4, nI (S 6), nI (A 7 - S 6), nI (K 6), V 6, V 4, 1)) := by
  have C1 := CH_sh C 1
  have hp : IT 2 6 4 := by unfold IT; omega
  by_cases g1 : K 1 = 2 ∧ fX8_within (V 1) 20 300 = some 1
  rotate_left
  · refine Or.inl ⟨1, by decide, by decide, fun st tk nm told => rd_no hu hn C1 hp st tk nm told 0 (by decide) ?_ (fun q => g1 ⟨q.1, (fits6 _).symm.trans q.2.1⟩), ?_⟩
    · intro i hi; omega
    · intro mas sti tip tai rd hd
      unfold fX9_readDart
      rw [tkNo C 1 _ g1, ob_s]; dsimp only; rw [if_pos rfl]
      exact ⟨_, rfl, rfl, rfl⟩
  by_cases g2 : K 2 = 2 ∧ fX8_within (V 2) 1 99 = some 1
  rotate_left
  · refine Or.inl ⟨2, by decide, by decide, fun st tk nm told => rd_no hu hn C1 hp st tk nm told 1 (by decide) ?_ (fun q => g2 ⟨q.1, (fits7 _).symm.trans q.2.1⟩), ?_⟩
    · intro i hi
      have hh : i = 0 := by omega
      rcases hh with rfl
      · exact ⟨g1.1, (fits6 _).trans g1.2, fun h => absurd h (by decide)⟩
    · intro mas sti tip tai rd hd
      unfold fX9_readDart
      rw [tkOk C 1 _ g1.1 g1.2, ob_s]; dsimp only; rw [if_neg one0]
      rw [tkNo C 2 _ g2, ob_s]; dsimp only; rw [if_pos rfl]
      exact ⟨_, rfl, rfl, rfl⟩
  by_cases g3 : K 3 = 2 ∧ fX8_within (V 3) 0 60 = some 1
  rotate_left
  · refine Or.inl ⟨3, by decide, by decide, fun st tk nm told => rd_no hu hn C1 hp st tk nm told 2 (by decide) ?_ (fun q => g3 ⟨q.1, (fits8 _).symm.trans q.2.1⟩), ?_⟩
    · intro i hi
      have hh : i = 0 ∨ i = 1 := by omega
      rcases hh with rfl | rfl
      · exact ⟨g1.1, (fits6 _).trans g1.2, fun h => absurd h (by decide)⟩
      · exact ⟨g2.1, (fits7 _).trans g2.2, fun h => absurd h (by decide)⟩
    · intro mas sti tip tai rd hd
      unfold fX9_readDart
      rw [tkOk C 1 _ g1.1 g1.2, ob_s]; dsimp only; rw [if_neg one0]
      rw [tkOk C 2 _ g2.1 g2.2, ob_s]; dsimp only; rw [if_neg one0]
      rw [tkNo C 3 _ g3, ob_s]; dsimp only; rw [if_pos rfl]
      exact ⟨_, rfl, rfl, rfl⟩
  by_cases g4 : K 4 = 2 ∧ fX8_within (V 4) 0 9 = some 1
  rotate_left
  · refine Or.inl ⟨4, by decide, by decide, fun st tk nm told => rd_no hu hn C1 hp st tk nm told 3 (by decide) ?_ (fun q => g4 ⟨q.1, (fits9 _).symm.trans q.2.1⟩), ?_⟩
    · intro i hi
      have hh : i = 0 ∨ i = 1 ∨ i = 2 := by omega
      rcases hh with rfl | rfl | rfl
      · exact ⟨g1.1, (fits6 _).trans g1.2, fun h => absurd h (by decide)⟩
      · exact ⟨g2.1, (fits7 _).trans g2.2, fun h => absurd h (by decide)⟩
      · exact ⟨g3.1, (fits8 _).trans g3.2, fun h => absurd h (by decide)⟩
    · intro mas sti tip tai rd hd
      unfold fX9_readDart
      rw [tkOk C 1 _ g1.1 g1.2, ob_s]; dsimp only; rw [if_neg one0]
      rw [tkOk C 2 _ g2.1 g2.2, ob_s]; dsimp only; rw [if_neg one0]
      rw [tkOk C 3 _ g3.1 g3.2, ob_s]; dsimp only; rw [if_neg one0]
      rw [tkNo C 4 _ g4, ob_s]; dsimp only; rw [if_pos rfl]
      exact ⟨_, rfl, rfl, rfl⟩
  have hok : cOK u N n A V 2 6 4 := by
    intro st tk nm told
    refine rd_ok hu hn C1 hp st tk nm told ?_
    intro i hi
    have hh : i = 0 ∨ i = 1 ∨ i = 2 ∨ i = 3 := by omega
    rcases hh with rfl | rfl | rfl | rfl
    · exact ⟨g1.1, (fits6 _).trans g1.2, fun h => absurd h (by decide)⟩
    · exact ⟨g2.1, (fits7 _).trans g2.2, fun h => absurd h (by decide)⟩
    · exact ⟨g3.1, (fits8 _).trans g3.2, fun h => absurd h (by decide)⟩
    · exact ⟨g4.1, (fits9 _).trans g4.2, fun h => absurd h (by decide)⟩
  by_cases g : K 5 = 3
  · refine Or.inr (Or.inr ⟨hok, g, ⟨g1.2, g2.2, g3.2, g4.2⟩, ?_⟩)
    intro mas sti tip tai rd hd
    unfold fX9_readDart
    rw [tkOk C 1 _ g1.1 g1.2, ob_s]; dsimp only; rw [if_neg one0]
    rw [tkOk C 2 _ g2.1 g2.2, ob_s]; dsimp only; rw [if_neg one0]
    rw [tkOk C 3 _ g3.1 g3.2, ob_s]; dsimp only; rw [if_neg one0]
    rw [tkOk C 4 _ g4.1 g4.2, ob_s]; dsimp only; rw [if_neg one0]
    rw [spOk C 5 g, ob_s]; dsimp only
    rw [jz1]
  · refine Or.inr (Or.inl ⟨hok, g, ?_⟩)
    intro mas sti tip tai rd hd
    unfold fX9_readDart
    rw [tkOk C 1 _ g1.1 g1.2, ob_s]; dsimp only; rw [if_neg one0]
    rw [tkOk C 2 _ g2.1 g2.2, ob_s]; dsimp only; rw [if_neg one0]
    rw [tkOk C 3 _ g3.1 g3.2, ob_s]; dsimp only; rw [if_neg one0]
    rw [tkOk C 4 _ g4.1 g4.2, ob_s]; dsimp only; rw [if_neg one0]
    rw [spNo C 5 g, ob_s]; dsimp only
    exact ⟨_, rfl, rfl, rfl⟩
theorem itm_Throw {u : Nat} (hu : 4000000 ≤ u) {N : Nat → Int32} {n : Nat} {A S K : Nat → Nat} {V : Nat → Int32} (hn : n ≤ 200) (C : CH u N n A S K V) : (∃ m, 1 ≤ m ∧ m ≤ 3 ∧ cNO u N n A S 3 m ∧ ∀ (re stg lag len wei pla mas sti tip tai pac ben off ris rou x y vx vy rd g : Int32) (t : Nat) (rng : Nat → Int32), ∃ r, fX9_readThrow u re stg lag len wei pla mas sti tip tai pac ben off ris rou x y vx vy (nI (S 1)) (nI (A 2 - S 1)) (nI (K 1)) (V 1) rd (nI t) g N rng = some r ∧ r.1 = 0 ∧ r.2.2.2.2.2.2.2.2.2.2.1 = nI (S m)) ∨ (cOK u N n A V 3 10 3 ∧ (fX8_within (V 1) 0 6 = some 1 ∧ fX8_within (V 2) 0 19 = some 1 ∧ fX8_within (V 3) 0 6 = some 1) ∧ ¬ K 4 = 3 ∧ ∀ (re stg lag len wei pla mas sti tip tai pac ben off ris rou x y vx vy rd g : Int32) (t : Nat) (rng : Nat → Int32), t < 12 → ∀ T : Nat → Nat, TB T → V 1 = nI (T 10) → V 2 = nI (T 11) → V 3 = nI (T 12) → re = nI (T 0) → stg = nI (T 1) → lag = nI (T 2) → len = nI (T 3) → wei = nI (T 4) → pla = nI (T 5) → mas = nI (T 6) → sti = nI (T 7) → tip = nI (T 8) → tai = nI (T 9) → ∃ r, fX9_readThrow u re stg lag len wei pla mas sti tip tai pac ben off ris rou x y vx vy (nI (S 1)) (nI (A 2 - S 1)) (nI (K 1)) (V 1) rd (nI t) g N rng = some r ∧ r.1 = 0 ∧ r.2.2.2.2.2.2.2.2.2.2.1 = nI (S 4)) ∨ (cOK u N n A V 3 10 3 ∧ (fX8_within (V 1) 0 6 = some 1 ∧ fX8_within (V 2) 0 19 = some 1 ∧ fX8_within (V 3) 0 6 = some 1) ∧ K 4 = 3 ∧ ∀ (re stg lag len wei pla mas sti tip tai pac ben off ris rou x y vx vy rd g : Int32) (t : Nat) (rng : Nat → Int32), t < 12 → ∀ T : Nat → Nat, TB T → V 1 = nI (T 10) → V 2 = nI (T 11) → V 3 = nI (T 12) → re = nI (T 0) → stg = nI (T 1) → lag = nI (T 2) → len = nI (T 3) → wei = nI (T 4) → pla = nI (T 5) → mas = nI (T 6) → sti = nI (T 7) → tip = nI (T 8) → tai = nI (T 9) → ∃ pa be of0 ri ro x2 y2 vx2 vy2 rng2, fX9_readThrow u re stg lag len wei pla mas sti tip tai pac ben off ris rou x y vx vy (nI (S 1)) (nI (A 2 - S 1)) (nI (K 1)) (V 1) rd (nI t) g N rng = some (1, pa, be, of0, ri, ro, x2, y2, vx2, vy2, nI (S 5), nI (A 6 - S 5), nI (K 5), V 5, V 3, nI (t + 1), rng2) ∧ (¬ g = 0 → rng2 = upd rng t (rgT T))) := by
  have C1 := CH_sh C 1
  have hp : IT 3 10 3 := by unfold IT; omega
  by_cases g1 : K 1 = 2 ∧ fX8_within (V 1) 0 6 = some 1
  rotate_left
  · refine Or.inl ⟨1, by decide, by decide, fun st tk nm told => rd_no hu hn C1 hp st tk nm told 0 (by decide) ?_ (fun q => g1 ⟨q.1, (fits10 _).symm.trans q.2.1⟩), ?_⟩
    · intro i hi; omega
    · intro re stg lag len wei pla mas sti tip tai pac ben off ris rou x y vx vy rd g t rng
      unfold fX9_readThrow
      rw [tkNo C 1 _ g1, ob_s]; dsimp only; rw [if_pos rfl]
      exact ⟨_, rfl, rfl, rfl⟩
  by_cases g2 : K 2 = 2 ∧ fX8_within (V 2) 0 19 = some 1
  rotate_left
  · refine Or.inl ⟨2, by decide, by decide, fun st tk nm told => rd_no hu hn C1 hp st tk nm told 1 (by decide) ?_ (fun q => g2 ⟨q.1, (fits11 _).symm.trans q.2.1⟩), ?_⟩
    · intro i hi
      have hh : i = 0 := by omega
      rcases hh with rfl
      · exact ⟨g1.1, (fits10 _).trans g1.2, fun h => absurd h (by decide)⟩
    · intro re stg lag len wei pla mas sti tip tai pac ben off ris rou x y vx vy rd g t rng
      unfold fX9_readThrow
      rw [tkOk C 1 _ g1.1 g1.2, ob_s]; dsimp only; rw [if_neg one0]
      rw [tkNo C 2 _ g2, ob_s]; dsimp only; rw [if_pos rfl]
      exact ⟨_, rfl, rfl, rfl⟩
  by_cases g3 : K 3 = 2 ∧ fX8_within (V 3) 0 6 = some 1
  rotate_left
  · refine Or.inl ⟨3, by decide, by decide, fun st tk nm told => rd_no hu hn C1 hp st tk nm told 2 (by decide) ?_ (fun q => g3 ⟨q.1, (fits12 _).symm.trans q.2.1⟩), ?_⟩
    · intro i hi
      have hh : i = 0 ∨ i = 1 := by omega
      rcases hh with rfl | rfl
      · exact ⟨g1.1, (fits10 _).trans g1.2, fun h => absurd h (by decide)⟩
      · exact ⟨g2.1, (fits11 _).trans g2.2, fun h => absurd h (by decide)⟩
    · intro re stg lag len wei pla mas sti tip tai pac ben off ris rou x y vx vy rd g t rng
      unfold fX9_readThrow
      rw [tkOk C 1 _ g1.1 g1.2, ob_s]; dsimp only; rw [if_neg one0]
      rw [tkOk C 2 _ g2.1 g2.2, ob_s]; dsimp only; rw [if_neg one0]
      rw [tkNo C 3 _ g3, ob_s]; dsimp only; rw [if_pos rfl]
      exact ⟨_, rfl, rfl, rfl⟩
  have hok : cOK u N n A V 3 10 3 := by
    intro st tk nm told
    refine rd_ok hu hn C1 hp st tk nm told ?_
    intro i hi
    have hh : i = 0 ∨ i = 1 ∨ i = 2 := by omega
    rcases hh with rfl | rfl | rfl
    · exact ⟨g1.1, (fits10 _).trans g1.2, fun h => absurd h (by decide)⟩
    · exact ⟨g2.1, (fits11 _).trans g2.2, fun h => absurd h (by decide)⟩
    · exact ⟨g3.1, (fits12 _).trans g3.2, fun h => absurd h (by decide)⟩
  by_cases g4 : K 4 = 3
  · refine Or.inr (Or.inr ⟨hok, ⟨g1.2, g2.2, g3.2⟩, g4, ?_⟩)
    intro re stg lag len wei pla mas sti tip tai pac ben off ris rou x y vx vy rd g t rng ht T hT e10 e11 e12 q0 q1 q2 q3 q4 q5 q6 q7 q8 q9
    unfold fX9_readThrow
    rw [tkOk C 1 _ g1.1 g1.2, ob_s]; dsimp only; rw [if_neg one0]
    rw [tkOk C 2 _ g2.1 g2.2, ob_s]; dsimp only; rw [if_neg one0]
    rw [tkOk C 3 _ g3.1 g3.2, ob_s]; dsimp only; rw [if_neg one0]
    by_cases cg : g = 0
    · rw [if_pos cg]
      unfold fX9_readThrow_b76
      dsimp only
      rw [blet_s, spOk C 4 g4, ob_s]; dsimp only
      exact ⟨pac, ben, off, ris, rou, x, y, vx, vy, rng, by rw [jz1, nI_1], fun q => absurd cg q⟩
    · rw [if_neg cg, e10, e11, e12, q0, q1, q2, q3, q4, q5, q6, q7, q8, q9, flingR_T hT hu, ob_s, jgN ht (by omega), nI_clamp (by omega), blet_s]
      unfold fX9_readThrow_b76
      dsimp only
      rw [blet_s, spOk C 4 g4, ob_s]; dsimp only
      exact ⟨_, _, _, _, _, _, _, _, _, upd rng t (rgT T), by rw [jz1, nI_1, ← e12]; rfl, fun _ => rfl⟩
  · refine Or.inr (Or.inl ⟨hok, ⟨g1.2, g2.2, g3.2⟩, g4, ?_⟩)
    intro re stg lag len wei pla mas sti tip tai pac ben off ris rou x y vx vy rd g t rng ht T hT e10 e11 e12 q0 q1 q2 q3 q4 q5 q6 q7 q8 q9
    unfold fX9_readThrow
    rw [tkOk C 1 _ g1.1 g1.2, ob_s]; dsimp only; rw [if_neg one0]
    rw [tkOk C 2 _ g2.1 g2.2, ob_s]; dsimp only; rw [if_neg one0]
    rw [tkOk C 3 _ g3.1 g3.2, ob_s]; dsimp only; rw [if_neg one0]
    by_cases cg : g = 0
    · rw [if_pos cg]
      unfold fX9_readThrow_b76
      dsimp only
      rw [blet_s, spNo C 4 g4, ob_s]; dsimp only
      exact ⟨_, rfl, rfl, rfl⟩
    · rw [if_neg cg, e10, e11, e12, q0, q1, q2, q3, q4, q5, q6, q7, q8, q9, flingR_T hT hu, ob_s, jgN ht (by omega), nI_clamp (by omega), blet_s]
      unfold fX9_readThrow_b76
      dsimp only
      rw [blet_s, spNo C 4 g4, ob_s]; dsimp only
      exact ⟨_, rfl, rfl, rfl⟩
