theorem rI_4 {u : Nat} (hu : 4000000 ≤ u) {N : Nat → Int32} {n : Nat} {A S K : Nat → Nat} {V : Nat → Int32} (hn : n ≤ 200) (C : CH u N n A S K V) (eT : fX9_isWord u 116 104 114 111 119 (nI (S 0)) (nI (A 1 - S 0)) (nI (K 0)) N = some 0) (eA : fX9_isWord u 97 114 109 0 0 (nI (S 0)) (nI (A 1 - S 0)) (nI (K 0)) N = some 0) (eH : fX9_isWord u 104 111 111 107 0 (nI (S 0)) (nI (A 1 - S 0)) (nI (K 0)) N = some 0) (eD : fX9_isWord u 100 97 114 116 0 (nI (S 0)) (nI (A 1 - S 0)) (nI (K 0)) N = some 0) (re stg lag len wei pla mas sti tip tai pac ben off ris rou x y vx vy rd ha hh hd tm g : Int32) (rng : Nat → Int32) : fX9_readItem u re stg lag len wei pla mas sti tip tai pac ben off ris rou x y vx vy (nI (S 0)) (nI (A 1 - S 0)) (nI (K 0)) (V 0) rd ha hh hd tm g N rng = some (0, re, stg, lag, len, wei, pla, mas, sti, tip, tai, pac, ben, off, ris, rou, x, y, vx, vy, nI (S 0), nI (A 1 - S 0), nI (K 0), V 0, rd, ha, hh, hd, tm, rng) := by
  unfold fX9_readItem
  rw [eT, ob_s, eA, ob_s, eH, ob_s, if_pos rfl, if_pos rfl, if_pos rfl, eD, ob_s, if_pos rfl]
theorem rI_0 {u : Nat} (hu : 4000000 ≤ u) {N : Nat → Int32} {n : Nat} {A S K : Nat → Nat} {V : Nat → Int32} (hn : n ≤ 200) (C : CH u N n A S K V) (eT : fX9_isWord u 116 104 114 111 119 (nI (S 0)) (nI (A 1 - S 0)) (nI (K 0)) N = some 0) (eA : fX9_isWord u 97 114 109 0 0 (nI (S 0)) (nI (A 1 - S 0)) (nI (K 0)) N = some 1) (eH : fX9_isWord u 104 111 111 107 0 (nI (S 0)) (nI (A 1 - S 0)) (nI (K 0)) N = some 0) (eD : fX9_isWord u 100 97 114 116 0 (nI (S 0)) (nI (A 1 - S 0)) (nI (K 0)) N = some 0) (re stg lag len wei pla mas sti tip tai pac ben off ris rou x y vx vy rd ha hh hd tm g : Int32) (rng : Nat → Int32) : fX9_readItem u re stg lag len wei pla mas sti tip tai pac ben off ris rou x y vx vy (nI (S 0)) (nI (A 1 - S 0)) (nI (K 0)) (V 0) rd ha hh hd tm g N rng = ob (fX9_readArm u re stg lag (nI (S 1)) (nI (A 2 - S 1)) (nI (K 1)) (V 1) rd ha N) (fun r => jz r.1 (some (r.1, r.2.1, r.2.2.1, r.2.2.2.1, len, wei, pla, mas, sti, tip, tai, pac, ben, off, ris, rou, x, y, vx, vy, r.2.2.2.2.1, r.2.2.2.2.2.1, r.2.2.2.2.2.2.1, r.2.2.2.2.2.2.2.1, r.2.2.2.2.2.2.2.2.1, r.2.2.2.2.2.2.2.2.2, hh, hd, tm, rng))) := by
  unfold fX9_readItem
  rw [eT, ob_s, eA, ob_s, eH, ob_s, if_pos rfl, if_neg one0]
  unfold fX9_readItem_b70
  dsimp only
  rw [if_pos rfl]
  unfold fX9_readItem_b106
  dsimp only
  rw [nI_add, show S 0 + (A 1 - S 0) = A 1 by have h01 : S 0 ≤ A 1 := (C 0).2.1; omega, (C 1).2.2.2.2.2.2, ob_s]
  dsimp only
  rw [if_pos rfl, if_neg one0]
theorem rI_1 {u : Nat} (hu : 4000000 ≤ u) {N : Nat → Int32} {n : Nat} {A S K : Nat → Nat} {V : Nat → Int32} (hn : n ≤ 200) (C : CH u N n A S K V) (eT : fX9_isWord u 116 104 114 111 119 (nI (S 0)) (nI (A 1 - S 0)) (nI (K 0)) N = some 0) (eA : fX9_isWord u 97 114 109 0 0 (nI (S 0)) (nI (A 1 - S 0)) (nI (K 0)) N = some 0) (eH : fX9_isWord u 104 111 111 107 0 (nI (S 0)) (nI (A 1 - S 0)) (nI (K 0)) N = some 1) (eD : fX9_isWord u 100 97 114 116 0 (nI (S 0)) (nI (A 1 - S 0)) (nI (K 0)) N = some 0) (re stg lag len wei pla mas sti tip tai pac ben off ris rou x y vx vy rd ha hh hd tm g : Int32) (rng : Nat → Int32) : fX9_readItem u re stg lag len wei pla mas sti tip tai pac ben off ris rou x y vx vy (nI (S 0)) (nI (A 1 - S 0)) (nI (K 0)) (V 0) rd ha hh hd tm g N rng = ob (fX9_readHook u len wei pla (nI (S 1)) (nI (A 2 - S 1)) (nI (K 1)) (V 1) rd hh N) (fun r => jz r.1 (some (r.1, re, stg, lag, r.2.1, r.2.2.1, r.2.2.2.1, mas, sti, tip, tai, pac, ben, off, ris, rou, x, y, vx, vy, r.2.2.2.2.1, r.2.2.2.2.2.1, r.2.2.2.2.2.2.1, r.2.2.2.2.2.2.2.1, r.2.2.2.2.2.2.2.2.1, ha, r.2.2.2.2.2.2.2.2.2, hd, tm, rng))) := by
  unfold fX9_readItem
  rw [eT, ob_s, eA, ob_s, eH, ob_s, if_pos rfl, if_pos rfl, if_neg one0]
  unfold fX9_readItem_b70
  dsimp only
  rw [if_pos rfl]
  unfold fX9_readItem_b106
  dsimp only
  rw [nI_add, show S 0 + (A 1 - S 0) = A 1 by have h01 : S 0 ≤ A 1 := (C 0).2.1; omega, (C 1).2.2.2.2.2.2, ob_s]
  dsimp only
  rw [if_pos rfl, if_pos rfl, if_neg one0]
theorem rI_2 {u : Nat} (hu : 4000000 ≤ u) {N : Nat → Int32} {n : Nat} {A S K : Nat → Nat} {V : Nat → Int32} (hn : n ≤ 200) (C : CH u N n A S K V) (eT : fX9_isWord u 116 104 114 111 119 (nI (S 0)) (nI (A 1 - S 0)) (nI (K 0)) N = some 0) (eA : fX9_isWord u 97 114 109 0 0 (nI (S 0)) (nI (A 1 - S 0)) (nI (K 0)) N = some 0) (eH : fX9_isWord u 104 111 111 107 0 (nI (S 0)) (nI (A 1 - S 0)) (nI (K 0)) N = some 0) (eD : fX9_isWord u 100 97 114 116 0 (nI (S 0)) (nI (A 1 - S 0)) (nI (K 0)) N = some 1) (re stg lag len wei pla mas sti tip tai pac ben off ris rou x y vx vy rd ha hh hd tm g : Int32) (rng : Nat → Int32) : fX9_readItem u re stg lag len wei pla mas sti tip tai pac ben off ris rou x y vx vy (nI (S 0)) (nI (A 1 - S 0)) (nI (K 0)) (V 0) rd ha hh hd tm g N rng = ob (fX9_readDart u mas sti tip tai (nI (S 1)) (nI (A 2 - S 1)) (nI (K 1)) (V 1) rd hd N) (fun r => jz r.1 (some (r.1, re, stg, lag, len, wei, pla, r.2.1, r.2.2.1, r.2.2.2.1, r.2.2.2.2.1, pac, ben, off, ris, rou, x, y, vx, vy, r.2.2.2.2.2.1, r.2.2.2.2.2.2.1, r.2.2.2.2.2.2.2.1, r.2.2.2.2.2.2.2.2.1, r.2.2.2.2.2.2.2.2.2.1, ha, hh, r.2.2.2.2.2.2.2.2.2.2, tm, rng))) := by
  unfold fX9_readItem
  rw [eT, ob_s, eA, ob_s, eH, ob_s, if_pos rfl, if_pos rfl, if_pos rfl, eD, ob_s, if_neg one0]
  unfold fX9_readItem_b70
  dsimp only
  rw [if_pos rfl]
  unfold fX9_readItem_b106
  dsimp only
  rw [nI_add, show S 0 + (A 1 - S 0) = A 1 by have h01 : S 0 ≤ A 1 := (C 0).2.1; omega, (C 1).2.2.2.2.2.2, ob_s]
  dsimp only
  rw [if_pos rfl, if_pos rfl, if_pos rfl]
theorem rI_3 {u : Nat} (hu : 4000000 ≤ u) {N : Nat → Int32} {n : Nat} {A S K : Nat → Nat} {V : Nat → Int32} (hn : n ≤ 200) (C : CH u N n A S K V) (eT : fX9_isWord u 116 104 114 111 119 (nI (S 0)) (nI (A 1 - S 0)) (nI (K 0)) N = some 1) (eA : fX9_isWord u 97 114 109 0 0 (nI (S 0)) (nI (A 1 - S 0)) (nI (K 0)) N = some 0) (eH : fX9_isWord u 104 111 111 107 0 (nI (S 0)) (nI (A 1 - S 0)) (nI (K 0)) N = some 0) (eD : fX9_isWord u 100 97 114 116 0 (nI (S 0)) (nI (A 1 - S 0)) (nI (K 0)) N = some 0) (re stg lag len wei pla mas sti tip tai pac ben off ris rou x y vx vy rd ha hh hd tm g : Int32) (rng : Nat → Int32) : (ha = 0 ∨ hh = 0 ∨ hd = 0 ∨ tm = 12 → ∃ r, fX9_readItem u re stg lag len wei pla mas sti tip tai pac ben off ris rou x y vx vy (nI (S 0)) (nI (A 1 - S 0)) (nI (K 0)) (V 0) rd ha hh hd tm g N rng = some r ∧ r.1 = 0 ∧ r.2.2.2.2.2.2.2.2.2.2.2.2.2.2.2.2.2.2.2.2.1 = nI (S 0)) ∧ (¬ ha = 0 → ¬ hh = 0 → ¬ hd = 0 → ¬ tm = 12 → fX9_readItem u re stg lag len wei pla mas sti tip tai pac ben off ris rou x y vx vy (nI (S 0)) (nI (A 1 - S 0)) (nI (K 0)) (V 0) rd ha hh hd tm g N rng = ob (fX9_readThrow u re stg lag len wei pla mas sti tip tai pac ben off ris rou x y vx vy (nI (S 1)) (nI (A 2 - S 1)) (nI (K 1)) (V 1) rd tm g N rng) (fun r => jz r.1 (some (r.1, re, stg, lag, len, wei, pla, mas, sti, tip, tai, r.2.1, r.2.2.1, r.2.2.2.1, r.2.2.2.2.1, r.2.2.2.2.2.1, r.2.2.2.2.2.2.1, r.2.2.2.2.2.2.2.1, r.2.2.2.2.2.2.2.2.1, r.2.2.2.2.2.2.2.2.2.1, r.2.2.2.2.2.2.2.2.2.2.1, r.2.2.2.2.2.2.2.2.2.2.2.1, r.2.2.2.2.2.2.2.2.2.2.2.2.1, r.2.2.2.2.2.2.2.2.2.2.2.2.2.1, r.2.2.2.2.2.2.2.2.2.2.2.2.2.2.1, ha, hh, hd, r.2.2.2.2.2.2.2.2.2.2.2.2.2.2.2.1, r.2.2.2.2.2.2.2.2.2.2.2.2.2.2.2.2)))) := by
  unfold fX9_readItem
  rw [eT, ob_s, eA, ob_s, eH, ob_s, if_neg one0]
  unfold fX9_readItem_b70
  dsimp only
  rw [if_neg one0]
  by_cases h1 : ha = 0
  · rw [if_pos h1]
    exact ⟨fun _ => ⟨_, rfl, rfl, rfl⟩, fun q => absurd h1 q⟩
  rw [if_neg h1]
  by_cases h2 : hh = 0
  · rw [if_pos h2]
    exact ⟨fun _ => ⟨_, rfl, rfl, rfl⟩, fun _ q => absurd h2 q⟩
  rw [if_neg h2]
  by_cases h3 : hd = 0
  · rw [if_pos h3]
    exact ⟨fun _ => ⟨_, rfl, rfl, rfl⟩, fun _ _ q => absurd h3 q⟩
  rw [if_neg h3]
  by_cases h4 : tm = 12
  · rw [if_pos h4]
    exact ⟨fun _ => ⟨_, rfl, rfl, rfl⟩, fun _ _ _ q => absurd h4 q⟩
  rw [if_neg h4]
  refine ⟨fun q => absurd q (by simp only [h1, h2, h3, h4, or_self, not_false_eq_true]), fun _ _ _ _ => ?_⟩
  unfold fX9_readItem_b106
  dsimp only
  rw [nI_add, show S 0 + (A 1 - S 0) = A 1 by have h01 : S 0 ≤ A 1 := (C 0).2.1; omega, (C 1).2.2.2.2.2.2, ob_s]
  dsimp only
  rw [if_neg one0]
theorem cl_0 {u : Nat} (hu : 4000000 ≤ u) {N : Nat → Int32} {n : Nat} {A S K : Nat → Nat} {V : Nat → Int32} (hn : n ≤ 200) (C : CH u N n A S K V) (w1 w2 w3 w4 w5 w6 : Int32) (w7 w8 : Nat → Int32) {i : Nat} (hi : i ≤ n) (seen st tk nm rows : Int32) (told cells : Nat → Int32) (rec : Int32 × Int32 × Int32 × Int32 × Int32 × Int32 × Int32 × (Nat → Int32) × (Nat → Int32) → Option (Int32 × Int32 × Int32 × Int32 × Int32 × Int32 × Int32 × (Nat → Int32) × (Nat → Int32))) (hK : K 0 = 0) : ∃ a b c d, fX5_read_b20 u w1 w2 w3 w4 w5 1 (nI n) w6 w7 200 (cw 192 N) w8 rec (nI i, seen, nI (A 0), st, tk, nm, rows, told, cells) = some (-1, seen, a, b, c, d, rows, told, cells) := by
  obtain ⟨nm2, adv, -⟩ := (C 0).2.2.2.2.2.1 st tk nm
  unfold fX5_read_b20
  dsimp only
  rw [if_neg (nI_nlt hi (by omega)), adv, ob_s]
  dsimp only
  rw [hK, if_pos (show nI 0 = 0 from rfl)]
  exact ⟨_, _, _, _, rfl⟩
theorem cl_4 {u : Nat} (hu : 4000000 ≤ u) {N : Nat → Int32} {n : Nat} {A S K : Nat → Nat} {V : Nat → Int32} (hn : n ≤ 200) (C : CH u N n A S K V) (w1 w2 w3 w4 w5 w6 : Int32) (w7 w8 : Nat → Int32) {i : Nat} (hi : i ≤ n) (seen st tk nm rows : Int32) (told cells : Nat → Int32) (rec : Int32 × Int32 × Int32 × Int32 × Int32 × Int32 × Int32 × (Nat → Int32) × (Nat → Int32) → Option (Int32 × Int32 × Int32 × Int32 × Int32 × Int32 × Int32 × (Nat → Int32) × (Nat → Int32))) (hK : ¬ K 0 = 0) {z : Int32} (hw : fX5_itemNamed u (nI (A 1)) (nI (S 0)) (nI (K 0)) 1 (nI n) 200 (cw 192 N) = some z) (hz : z = -1 ∨ fX5_mayStand z seen rows = some 0) : ∃ r, fX5_read_b20 u w1 w2 w3 w4 w5 1 (nI n) w6 w7 200 (cw 192 N) w8 rec (nI i, seen, nI (A 0), st, tk, nm, rows, told, cells) = some r ∧ r.1 = nI (S 0) := by
  obtain ⟨nm2, adv, -⟩ := (C 0).2.2.2.2.2.1 st tk nm
  have hk4 := (C 0).2.2.2.2.1
  unfold fX5_read_b20
  dsimp only
  rw [if_neg (nI_nlt hi (by omega)), adv, ob_s]
  dsimp only
  rw [if_neg (show ¬ nI (K 0) = 0 from fun q => hK ((nI_eq (b := 0) (by omega) (by decide)).mp q)), hw, ob_s]
  by_cases c : z = -1
  · rw [if_pos c]
    exact ⟨_, rfl, rfl⟩
  · rw [if_neg c, hz.resolve_left c, ob_s, if_pos rfl]
    exact ⟨_, rfl, rfl⟩
theorem cl_w {u : Nat} (hu : 4000000 ≤ u) {N : Nat → Int32} {n : Nat} {A S K : Nat → Nat} {V : Nat → Int32} (hn : n ≤ 200) (C : CH u N n A S K V) (w1 w2 w3 w4 w5 w6 : Int32) (w7 w8 : Nat → Int32) {i : Nat} (hi : i ≤ n) (seen st tk nm rows : Int32) (told cells : Nat → Int32) (rec : Int32 × Int32 × Int32 × Int32 × Int32 × Int32 × Int32 × (Nat → Int32) × (Nat → Int32) → Option (Int32 × Int32 × Int32 × Int32 × Int32 × Int32 × Int32 × (Nat → Int32) × (Nat → Int32))) (hK : ¬ K 0 = 0) {w L0 c : Nat} (hw4 : w < 4) (hw : fX5_itemNamed u (nI (A 1)) (nI (S 0)) (nI (K 0)) 1 (nI n) 200 (cw 192 N) = some (nI w)) (hz : fX5_mayStand (nI w) seen rows = some 1) : (∀ m, cNO u N n A S w m → ∃ r, fX5_read_b20 u w1 w2 w3 w4 w5 1 (nI n) w6 w7 200 (cw 192 N) w8 rec (nI i, seen, nI (A 0), st, tk, nm, rows, told, cells) = some r ∧ r.1 = nI (S m)) ∧ (cOK u N n A V w L0 c → ¬ K (c + 1) = 3 → ∃ r, fX5_read_b20 u w1 w2 w3 w4 w5 1 (nI n) w6 w7 200 (cw 192 N) w8 rec (nI i, seen, nI (A 0), st, tk, nm, rows, told, cells) = some r ∧ r.1 = nI (S (c + 1))) ∧ (cOK u N n A V w L0 c → K (c + 1) = 3 → ∃ x y z, fX5_read_b20 u w1 w2 w3 w4 w5 1 (nI n) w6 w7 200 (cw 192 N) w8 rec (nI i, seen, nI (A 0), st, tk, nm, rows, told, cells) = ob (fX5_close u (nI w) seen rows (tdN told L0 (fun i => V (i + 1)) c) cells) (fun r6 => rec (nI (i + 1), r6.1, nI (A (c + 2)), x, y, z, r6.2.1, tdN told L0 (fun i => V (i + 1)) c, r6.2.2))) := by
  obtain ⟨nm2, adv, -⟩ := (C 0).2.2.2.2.2.1 st tk nm
  have hk4 := (C 0).2.2.2.2.1
  have hkc := (C (c + 1)).2.2.2.2.1
  unfold fX5_read_b20
  dsimp only
  rw [if_neg (nI_nlt hi (by omega)), adv, ob_s]
  dsimp only
  rw [if_neg (show ¬ nI (K 0) = 0 from fun q => hK ((nI_eq (b := 0) (by omega) (by decide)).mp q)), hw, ob_s, if_neg (nI_nm (by omega)), hz, ob_s, if_neg one0]
  refine ⟨fun m hm => ?_, fun ho h3 => ?_, fun ho h3 => ?_⟩
  · obtain ⟨x, y, z, t, e⟩ := hm (nI (S 0)) (nI (K 0)) nm2 told
    rw [show A (0 + 1) = A 1 from rfl, e, ob_s]
    dsimp only
    rw [if_pos rfl]
    exact ⟨_, rfl, rfl⟩
  · obtain ⟨x, y, z, e⟩ := ho (nI (S 0)) (nI (K 0)) nm2 told
    obtain ⟨nm3, adv3, -⟩ := (C (c + 1)).2.2.2.2.2.1 x y z
    rw [show A (0 + 1) = A 1 from rfl, e, ob_s]
    dsimp only
    rw [if_neg one0, adv3, ob_s]
    dsimp only
    rw [if_neg (show ¬ nI (K (c + 1)) = 3 from fun q => h3 ((nI_eq (b := 3) (by omega) (by decide)).mp q))]
    exact ⟨_, rfl, rfl⟩
  · obtain ⟨x, y, z, e⟩ := ho (nI (S 0)) (nI (K 0)) nm2 told
    obtain ⟨nm3, adv3, -⟩ := (C (c + 1)).2.2.2.2.2.1 x y z
    refine ⟨nI (S (c + 1)), nI (K (c + 1)), nm3, ?_⟩
    rw [show A (0 + 1) = A 1 from rfl, e, ob_s]
    dsimp only
    rw [if_neg one0, adv3, ob_s]
    dsimp only
    rw [if_pos (show nI (K (c + 1)) = 3 by rw [h3]; rfl)]
    simp only [blet_s, nI_1]
def apN (r : Nat) (told cells : Nat → Int32) : Nat → Nat → Int32
  | 0 => cells
  | k + 1 => upd (apN r told cells k) (r * 13 + k) (told k)
theorem apN_in {r : Nat} {told cells : Nat → Int32} : ∀ k c, c < k → apN r told cells k (r * 13 + c) = told c := by
  intro k
  induction k with
  | zero => intro c h; omega
  | succ k ih =>
    intro c h
    show upd _ _ _ _ = _
    by_cases e : c = k
    · rw [e, updE rfl]
    · rw [updN (by omega), ih c (by omega)]
theorem apN_out {r : Nat} {told cells : Nat → Int32} : ∀ k j, j < r * 13 → apN r told cells k j = cells j := by
  intro k
  induction k with
  | zero => intro j _; rfl
  | succ k ih =>
    intro j h
    show upd _ _ _ _ = _
    rw [updN (by omega), ih j h]
theorem apR {u : Nat} (hu : 4000000 ≤ u) {t : Nat} (ht : t < 12) (told cells : Nat → Int32) : fX7_appendRow u 13 (nI t) 13 told 156 cells = some (nI (t + 1), apN t told cells 13) := by
  unfold fX7_appendRow
  rw [blet_s, nI_1]
  refine jfix_to (fun k => (nI t, nI k, nI (t + 1), apN t told cells k)) 13 _ ?_ ?_ (by omega)
  · intro k hk rec
    unfold fX7_appendRow_b17
    dsimp only
    rw [if_neg (show ¬ (13 : Int32) ≤ nI k from nI_ge (b := 13) hk (by decide)), if_neg (show ¬ Int32.ofNat 13 ≤ nI k from nI_ge (b := 13) hk (by decide)), jgN hk (by omega), nI_clamp (by omega), show (13 : Int32) = nI 13 from rfl, put7 (by omega) hk (by omega) (by omega) (by decide) (by decide), ob_s, blet_s, nI_1]
    rfl
  · intro rec
    unfold fX7_appendRow_b17
    dsimp only
    rw [if_pos (show (13 : Int32) ≤ nI 13 by decide)]
theorem sn_0 {fa fh fd : Nat} (ha : fa ≤ 1) (hh : fh ≤ 1) (hd : fd ≤ 1) : nI (fa + 2 * fh + 4 * fd) ||| ((1 : Int32) <<< (nI 0 &&& 31)) = nI (1 + 2 * fh + 4 * fd) ∧ nI (fa + 2 * fh + 4 * fd) ||| ((1 : Int32) <<< (nI 1 &&& 31)) = nI (fa + 2 * 1 + 4 * fd) ∧ nI (fa + 2 * fh + 4 * fd) ||| ((1 : Int32) <<< (nI 2 &&& 31)) = nI (fa + 2 * fh + 4 * 1) := by
  have a2 : fa = 0 ∨ fa = 1 := by omega
  have h2 : fh = 0 ∨ fh = 1 := by omega
  have d2 : fd = 0 ∨ fd = 1 := by omega
  rcases a2 with rfl | rfl <;> rcases h2 with rfl | rfl <;> rcases d2 with rfl | rfl <;> decide
theorem ms_3 {fa fh fd t : Nat} (ha : fa ≤ 1) (hh : fh ≤ 1) (hd : fd ≤ 1) (ht : t ≤ 12) : (fa = 1 ∧ fh = 1 ∧ fd = 1 ∧ t < 12 ∧ fX5_mayStand (nI 3) (nI (fa + 2 * fh + 4 * fd)) (nI t) = some 1) ∨ ((nI fa = 0 ∨ nI fh = 0 ∨ nI fd = 0 ∨ nI t = 12) ∧ fX5_mayStand (nI 3) (nI (fa + 2 * fh + 4 * fd)) (nI t) = some 0) := by
  unfold fX5_mayStand
  rw [if_pos (show nI 3 = 3 from rfl)]
  by_cases c : fa = 1 ∧ fh = 1 ∧ fd = 1
  · obtain ⟨rfl, rfl, rfl⟩ := c
    rw [if_pos (show nI (1 + 2 * 1 + 4 * 1) = 7 from rfl), show (13 : Int32) = nI 13 from rfl, full7 (by omega) (by decide), ob_s]
    by_cases c2 : t < 12
    · left
      rw [if_pos (show (t + 1) * 13 ≤ 156 by omega), if_pos rfl]
      exact ⟨rfl, rfl, rfl, c2, rfl⟩
    · right
      rw [if_neg (show ¬ (t + 1) * 13 ≤ 156 by omega), if_neg one0]
      exact ⟨Or.inr (Or.inr (Or.inr (by rw [show t = 12 by omega]; rfl))), rfl⟩
  · right
    rw [if_neg (show ¬ nI (fa + 2 * fh + 4 * fd) = 7 from fun q => by have := (nI_eq (b := 7) (by omega) (by decide)).mp q; omega)]
    refine ⟨?_, rfl⟩
    by_cases c1 : fa = 0
    · exact Or.inl (by rw [c1]; rfl)
    · by_cases c2 : fh = 0
      · exact Or.inr (Or.inl (by rw [c2]; rfl))
      · exact Or.inr (Or.inr (Or.inl (by rw [show fd = 0 by omega]; rfl)))
theorem ms_n {w : Nat} (hw : w < 3) (a b : Int32) : fX5_mayStand (nI w) a b = some 1 := by
  have h : w = 0 ∨ w = 1 ∨ w = 2 := by omega
  rcases h with rfl | rfl | rfl <;> rfl
theorem cls_n {u w : Nat} (hw : w < 3) (a b : Int32) (f c : Nat → Int32) : fX5_close u (nI w) a b f c = some (a ||| ((1 : Int32) <<< (nI w &&& 31)), b, c) := by
  have h : w = 0 ∨ w = 1 ∨ w = 2 := by omega
  rcases h with rfl | rfl | rfl <;> rfl
theorem cls_3 {u : Nat} (hu : 4000000 ≤ u) {t : Nat} (ht : t < 12) (a : Int32) (f c : Nat → Int32) : fX5_close u (nI 3) a (nI t) f c = some (a, nI (t + 1), apN t f c 13) := by
  unfold fX5_close
  rw [if_pos (show nI 3 = 3 from rfl), apR hu ht, ob_s]
