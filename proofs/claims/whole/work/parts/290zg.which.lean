theorem gwN_b (N : Nat → Int32) (nT b t : Nat) : gwN N nT b t = 0 ∨ gwN N nT b t = 1 := by
  unfold gwN
  split
  · exact Or.inl rfl
  · split <;> split <;> first | exact Or.inl rfl | exact Or.inr rfl
theorem growC {N : Nat → Int32} {nT nR b k : Nat} {p1 p2 p4 : Int32} {u : Nat} (hu : 4000000 ≤ u) (hk : k < 64) (hb : b ≤ 6) (hR : nR ≤ 6) (hT : nT ≤ 12) (V : Nat → Nat) (hV : ∀ s, s < 64 → V s ≤ 46657) (h4 : ∀ t, t < 6 → (p4 = -1 ∨ p4 = nI t ↔ (nI b = p1 → nI t = p2))) (W : Nat → Int32) (hW : ∀ s, s < 64 → W s = nI (V s)) : ∃ W2, fX0_grow u (nI k) (nI b) p4 W (nI nR) 1 (nI nT) (cw 147 N) (cw 153 N) (cw 99 N) = some W2 ∧ ∀ s, s < 64 → W2 s = nI ((if b < nR then gI (okB N nT p1 p2 b) k V 6 else V) s) := by
  unfold fX0_grow
  refine jfix_cn (fun t (p : Int32 × (Nat → Int32)) => p.1 = nI t ∧ ∀ s, s < 64 → p.2 s = nI ((if b < nR then gI (okB N nT p1 p2 b) k V t else V) s)) 6 _ ?_ ?_ (by omega) ⟨rfl, fun s hs => by dsimp only; rw [hW s hs]; split <;> rfl⟩
  · rintro t ht rec ⟨a, W1⟩ ⟨e1, e2⟩
    dsimp only at e1 e2
    subst e1
    have skip : (∀ s, s < 64 → (if b < nR then gI (okB N nT p1 p2 b) k V (t + 1) else V) s = (if b < nR then gI (okB N nT p1 p2 b) k V t else V) s) → ∃ q, fX0_grow_b82 u (nI k) (nI b) p4 W (nI nR) 1 (nI nT) (cw 147 N) (cw 153 N) (cw 99 N) rec (nI t, W1) = rec q ∧ (q.1 = nI (t + 1) ∧ ∀ s, s < 64 → q.2 s = nI ((if b < nR then gI (okB N nT p1 p2 b) k V (t + 1) else V) s)) := by
      intro hs
      unfold fX0_grow_b82
      dsimp only
      rw [blet_s, nI_1]
      exact ⟨_, rfl, rfl, fun s h => by rw [hs s h]; exact e2 s h⟩
    have hor := w_or ⟨k, hk⟩ ⟨t, ht⟩
    simp only at hor
    have eg : ∀ s, gI (okB N nT p1 p2 b) k V (t + 1) s = if k / 2 ^ t % 2 = 0 ∧ okB N nT p1 p2 b t = true ∧ s = k + 2 ^ t then gI (okB N nT p1 p2 b) k V t s + V k else gI (okB N nT p1 p2 b) k V t s := fun s => rfl
    have h36 : ∀ z : Int32, (z = 0 ∨ z = 1) → (z = 1 ↔ (nI b = p1 → nI t = p2)) → ∃ q, fX0_grow_b36 u (nI k) (nI b) p4 W (nI nR) 1 (nI nT) (cw 147 N) (cw 153 N) (cw 99 N) rec (nI t, nI (if k / 2 ^ t % 2 = 0 then k + 2 ^ t else k), z, W1) = rec q ∧ (q.1 = nI (t + 1) ∧ ∀ s, s < 64 → q.2 s = nI ((if b < nR then gI (okB N nT p1 p2 b) k V (t + 1) else V) s)) := by
      intro z hz hz1
      unfold fX0_grow_b36
      dsimp only
      by_cases bit : k / 2 ^ t % 2 = 0
      · have hup := w_up ⟨k, hk⟩ ⟨t, ht⟩ bit
        simp only at hup
        have hp := Nat.two_pow_pos t
        rw [if_pos bit, if_neg (fun q => by have := (nI_eq (by omega) (by omega)).mp q; omega), show (64 : Int32) = nI 64 from rfl, if_neg (nI_ge hup.1 (by decide))]
        by_cases z0 : z = 0
        · rw [if_pos z0]
          refine skip (fun s _ => ?_)
          by_cases c : b < nR
          · rw [if_pos c, if_pos c, eg, if_neg]
            intro q
            have h := of_decide_eq_true q.2.1
            have := hz1.mpr h.1
            rw [z0] at this
            exact absurd this (by decide)
          · rw [if_neg c, if_neg c]
        · rw [if_neg z0]
          have hask := hz1.mp (hz.resolve_left z0)
          by_cases c : b < nR
          · rw [gwC c hR hT ht, ob_s]
            rcases gwN_b N nT b t with g | g
            · rw [g, if_pos rfl]
              refine skip (fun s _ => ?_)
              rw [if_pos c, if_pos c, eg, if_neg]
              intro q
              have h := (of_decide_eq_true q.2.1).2
              rw [g] at h
              exact absurd h (by decide)
            · rw [g, if_neg one0, jgN (by omega) (by omega), jgN hk (by omega), jgN (by omega) (by omega), nI_clamp (by omega), nI_clamp (by omega)]
              simp only [if_pos c] at e2 ⊢
              have l1 := gI_le (ok := okB N nT p1 p2 b) (k := k) (s := k + 2 ^ t) (V := V) t (by omega)
              have l2 := hV k hk
              have l3 := hV (k + 2 ^ t) hup.1
              rw [e2 _ hup.1, e2 k hk, gI_k, nI_add, blet_s]
              unfold fX0_grow_b82
              dsimp only
              rw [blet_s, nI_1]
              refine ⟨_, rfl, rfl, fun s hs => ?_⟩
              dsimp only
              rw [eg]
              have hok : okB N nT p1 p2 b t = true := decide_eq_true ⟨hask, g⟩
              by_cases d : s = k + 2 ^ t
              · rw [updE d, if_pos ⟨bit, hok, d⟩, d]
              · rw [updN d, if_neg (fun q => d q.2.2)]
                exact e2 s hs
          · rw [gwC2 (by omega) hb, ob_s, if_pos rfl]
            refine skip (fun s _ => ?_)
            rw [if_neg c, if_neg c]
      · rw [if_neg bit, if_pos rfl]
        refine skip (fun s _ => ?_)
        by_cases c : b < nR
        · rw [if_pos c, if_pos c, eg, if_neg (fun q => bit q.1)]
        · rw [if_neg c, if_neg c]
    unfold fX0_grow_b3
    dsimp only
    rw [show (6 : Int32) = nI 6 from rfl, if_neg (nI_ge ht (by decide)), hor, blet_s]
    unfold fX0_grow_b31
    dsimp only
    by_cases c1 : p4 = -1
    · rw [if_pos c1]
      exact h36 1 (Or.inr rfl) ⟨fun _ => (h4 t ht).mp (Or.inl c1), fun _ => rfl⟩
    · rw [if_neg c1]
      by_cases c2 : p4 = nI t
      · rw [if_pos c2]
        exact h36 1 (Or.inr rfl) ⟨fun _ => (h4 t ht).mp (Or.inr c2), fun _ => rfl⟩
      · rw [if_neg c2]
        exact h36 0 (Or.inl rfl) ⟨fun q => absurd q (by decide), fun q => ((h4 t ht).mpr q).elim (fun y => absurd y c1) (fun y => absurd y c2)⟩
  · rintro rec ⟨a, W1⟩ ⟨e1, e2⟩
    dsimp only at e1 e2
    subst e1
    unfold fX0_grow_b3
    dsimp only
    rw [if_pos (show (6 : Int32) ≤ nI 6 by decide)]
    exact ⟨_, rfl, e2⟩
theorem matC {N : Nat → Int32} {nT nR : Nat} {p1 p2 : Int32} {u : Nat} (hu : 4000000 ≤ u) (hR : nR ≤ 6) (hT : nT ≤ 12) (hp : (p1 = -1 ∧ p2 = -1) ∨ ∃ t, t < 6 ∧ p2 = nI t) (W : Nat → Int32) : ∃ r, fX0_matches u p1 p2 W (nI nR) 1 (nI nT) (cw 147 N) (cw 153 N) (cw 99 N) = some r ∧ r.1 = nI (SS N nT nR p1 p2 64) := by
  unfold fX0_matches
  refine jfix_cn (fun k (p : Int32 × Int32 × (Nat → Int32)) => p.1 = 0 ∧ p.2.1 = nI k ∧ ∀ s, s < k → p.2.2 s = 0) 64 _ ?_ ?_ (by omega) ⟨rfl, rfl, fun _ h => absurd h (Nat.not_lt_zero _)⟩
  · rintro k hk rec ⟨a, b, W1⟩ ⟨e1, e2, e3⟩
    dsimp only at e1 e2 e3
    subst e1 e2
    unfold fX0_matches_b6
    dsimp only
    rw [show (64 : Int32) = nI 64 from rfl, if_neg (nI_ge hk (by decide)), jgN hk (by omega), nI_clamp (by omega), blet_s, blet_s, nI_1]
    refine ⟨_, rfl, rfl, rfl, fun s hs => ?_⟩
    dsimp only
    by_cases c : s = k
    · rw [updE c]
    · rw [updN c]
      exact e3 s (by omega)
  · rintro rec ⟨a, b, W1⟩ ⟨e1, e2, e3⟩
    dsimp only at e1 e2 e3
    subst e1 e2
    unfold fX0_matches_b6
    dsimp only
    rw [if_pos (show (64 : Int32) ≤ nI 64 by decide), show (0 : Int32) = nI 0 from rfl, jgN (by decide) (by decide), nI_clamp (by decide), blet_s]
    refine jfix_cn (fun k (p : Int32 × Int32 × (Nat → Int32)) => p.1 = nI (SS N nT nR p1 p2 k) ∧ p.2.1 = nI k ∧ ∀ s, s < 64 → p.2.2 s = nI (VS N nT nR p1 p2 k s)) 64 _ ?_ ?_ (by omega) ⟨rfl, rfl, fun s hs => ?_⟩
    · rintro k hk rec2 ⟨a, b, W2⟩ ⟨f1, f2, f3⟩
      dsimp only at f1 f2 f3
      subst f1 f2
      have hbc := w_bc ⟨k, hk⟩
      have hle := w_le ⟨k, hk⟩
      simp only at hbc hle
      have hSb := SS_b (N := N) (nT := nT) (nR := nR) (p1 := p1) (p2 := p2) k (by omega)
      have hVl := fun s hs => VS_l (N := N) (nT := nT) (nR := nR) (p1 := p1) (p2 := p2) (k := k) (s := s) hk hs
      have hVk := hVl k hk
      have eS : SS N nT nR p1 p2 (k + 1) = SS N nT nR p1 p2 k + (if bcN k = nR then VS N nT nR p1 p2 k k else 0) := rfl
      have eV : VS N nT nR p1 p2 (k + 1) = if bcN k < nR then gI (okB N nT p1 p2 (bcN k)) k (VS N nT nR p1 p2 k) 6 else VS N nT nR p1 p2 k := rfl
      unfold fX0_matches_b37 fX0_matches_b105 fX0_matches_b108
      dsimp only
      rw [show (64 : Int32) = nI 64 from rfl, if_neg (nI_ge hk (by decide)), hbc, ob_s, jgN hk (by omega), jgN hk (by omega), nI_clamp (show k < 2 ^ 31 by omega)]
      simp only [f3 k hk, eqN (show bcN k < 2 ^ 31 by omega) (show nR < 2 ^ 31 by omega)]
      by_cases c : bcN k = nR
      · rw [if_pos c, blet_s, blet_s, nI_1, nI_add]
        refine ⟨_, rfl, ?_, rfl, fun s hs => ?_⟩
        · dsimp only
          rw [eS, if_pos c]
        · dsimp only
          rw [eV, if_neg (by omega)]
          exact f3 s hs
      · rw [if_neg c]
        rw [if_neg c] at eS
        rw [show (0 : Int32) = nI 0 from rfl]
        simp only [leN (show VS N nT nR p1 p2 k k < 2 ^ 31 by omega) (show 0 < 2 ^ 31 by decide)]
        by_cases d : VS N nT nR p1 p2 k k ≤ 0
        · rw [if_pos d, blet_s, nI_1]
          refine ⟨_, rfl, ?_, rfl, fun s hs => ?_⟩
          · dsimp only
            rw [eS]
            rfl
          · dsimp only
            rw [eV]
            split
            · rw [gI_0 (by omega)]
              exact f3 s hs
            · exact f3 s hs
        · rw [if_neg d]
          have h4 : ∀ t, t < 6 → ((if nI (bcN k) = p1 then p2 else -1) = -1 ∨ (if nI (bcN k) = p1 then p2 else -1) = nI t ↔ (nI (bcN k) = p1 → nI t = p2)) := by
            intro t ht
            by_cases e : nI (bcN k) = p1
            · rw [if_pos e]
              rcases hp with ⟨q1, q2⟩ | ⟨th, hth, q2⟩
              · exact absurd (e.trans q1) (nI_nm (by omega))
              · constructor
                · rintro (y | y) _
                  · rw [q2] at y
                    exact absurd y (nI_nm (by omega))
                  · exact y.symm
                · intro y
                  exact Or.inr (y e).symm
            · rw [if_neg e]
              exact ⟨fun _ y => absurd y e, fun _ => Or.inl rfl⟩
          obtain ⟨W3, g1, g2⟩ := growC (N := N) (nT := nT) (nR := nR) (b := bcN k) (p1 := p1) (p2 := p2) hu hk hle.2.1 hR hT (VS N nT nR p1 p2 k) hVl h4 W2 f3
          have fin : ∃ q : Int32 × Int32 × (Nat → Int32), ob (fX0_grow u (nI k) (nI (bcN k)) (if nI (bcN k) = p1 then p2 else -1) W2 (nI nR) 1 (nI nT) (cw 147 N) (cw 153 N) (cw 99 N)) (fun r4 => blet (nI k + 1) (fun x3 => rec2 (nI (SS N nT nR p1 p2 k), x3, r4))) = rec2 q ∧ (q.1 = nI (SS N nT nR p1 p2 (k + 1)) ∧ q.2.1 = nI (k + 1) ∧ ∀ s, s < 64 → q.2.2 s = nI (VS N nT nR p1 p2 (k + 1) s)) := by
            rw [g1, ob_s, blet_s, nI_1]
            refine ⟨_, rfl, ?_, rfl, fun s hs => ?_⟩
            · dsimp only
              rw [eS]
              rfl
            · dsimp only
              rw [eV]
              exact g2 s hs
          by_cases e : nI (bcN k) = p1
          · rw [if_pos e] at fin ⊢
            exact fin
          · rw [if_neg e] at fin ⊢
            exact fin
    · rintro rec2 ⟨a, b, W2⟩ ⟨f1, f2, f3⟩
      dsimp only at f1 f2 f3
      subst f1 f2
      unfold fX0_matches_b37
      dsimp only
      rw [if_pos (show (64 : Int32) ≤ nI 64 by decide)]
      exact ⟨_, rfl, rfl⟩
    · dsimp only
      by_cases c : s = 0
      · rw [updE c, c]
        rfl
      · rw [updN c, e3 s hs]
        show (0 : Int32) = nI (if s = 0 then 1 else 0)
        rw [if_neg c]
        rfl
theorem jfix_cq {α β ρ : Type} {g : (α → Option ρ) → α → Option ρ} (F : β → Option ρ) (I : Nat → α → Prop) (m : Nat) (Q : β → Prop) (hs : ∀ k, k < m → ∀ (rec : α → Option ρ) (p : α), I k p → ∃ q, g rec p = rec q ∧ I (k + 1) q) (he : ∀ (rec : α → Option ρ) (p : α), I m p → ∃ r, g rec p = F r ∧ Q r) {u : Nat} (hu : m < u) {p : α} (h0 : I 0 p) : ∃ r, jfix g u p = F r ∧ Q r := by
  have key : ∀ (d n j : Nat) (p : α), j + d = m → d < n → I j p → ∃ r, jfix g n p = F r ∧ Q r := by
    intro d
    induction d with
    | zero =>
      intro n j p hj hn h
      cases n with
      | zero => omega
      | succ n =>
        have e : j = m := by omega
        subst e
        exact he _ p h
    | succ d ih =>
      intro n j p hj hn h
      cases n with
      | zero => omega
      | succ n =>
        obtain ⟨q, e, h2⟩ := hs j (by omega) (jfix g n) p h
        obtain ⟨r, e2, h3⟩ := ih n (j + 1) q (by omega) (by omega) h2
        exact ⟨r, e.trans e2, h3⟩
  exact key m u 0 p (by omega) hu h0
theorem rowR {N : Nat → Int32} {nT nR : Nat} {p1 p2 : Int32} {u : Nat} (hu : 4000000 ≤ u) (m5 : fX9_many 5 N = some (nI nR)) (m4 : fX9_many 4 N = some (nI nT)) (hR : nR ≤ 6) (hT : nT ≤ 12) (W : Nat → Int32) : ∃ r, fX9_rowsBy u p1 p2 N W = some r ∧ r.1 = nI (SS N nT nR p1 p2 64) := by
  unfold fX9_rowsBy
  refine jfix_cn (fun k (p : Int32 × (Nat → Int32)) => p.1 = nI k ∧ ∀ s, s < k → p.2 s = nI (VS N nT nR p1 p2 0 s)) 64 _ ?_ ?_ (by omega) ⟨rfl, fun _ h => absurd h (Nat.not_lt_zero _)⟩
  · rintro k hk rec ⟨b, W1⟩ ⟨e2, e3⟩
    dsimp only at e2 e3
    subst e2
    have h22 : ∀ z : Int32, z = nI (VS N nT nR p1 p2 0 k) → ∃ q, fX9_rowsBy_b22 u p1 p2 N W rec (nI k, nI k, z, W1) = rec q ∧ (q.1 = nI (k + 1) ∧ ∀ s, s < k + 1 → q.2 s = nI (VS N nT nR p1 p2 0 s)) := by
      intro z hz
      unfold fX9_rowsBy_b22
      dsimp only
      rw [jgN hk (by omega), nI_clamp (by omega), blet_s, blet_s, nI_1]
      refine ⟨_, rfl, rfl, fun s hs => ?_⟩
      dsimp only
      by_cases c : s = k
      · rw [updE c, hz, c]
      · rw [updN c]
        exact e3 s (by omega)
    unfold fX9_rowsBy_b2
    dsimp only
    rw [show (64 : Int32) = nI 64 from rfl, if_neg (nI_ge hk (by decide))]
    by_cases c : k = 0
    · rw [if_pos (show nI k = 0 by rw [c]; rfl)]
      exact h22 1 (by rw [c]; rfl)
    · rw [if_neg (nI_ne0 (by omega) (by omega))]
      refine h22 0 ?_
      show (0 : Int32) = nI (if k = 0 then 1 else 0)
      rw [if_neg c]
      rfl
  · rintro rec ⟨b, W1⟩ ⟨e2, e3⟩
    dsimp only at e2 e3
    subst e2
    unfold fX9_rowsBy_b2
    dsimp only
    rw [if_pos (show (64 : Int32) ≤ nI 64 by decide)]
    refine jfix_cn (fun k (p : Int32 × Int32 × (Nat → Int32)) => p.1 = nI (SS N nT nR p1 p2 k) ∧ p.2.1 = nI k ∧ ∀ s, s < 64 → p.2.2 s = nI (VS N nT nR p1 p2 k s)) 64 _ ?_ ?_ (by omega) ⟨rfl, rfl, e3⟩
    · rintro k hk rec2 ⟨a, b, W2⟩ ⟨f1, f2, f3⟩
      dsimp only at f1 f2 f3
      subst f1 f2
      have hle := w_le ⟨k, hk⟩
      simp only at hle
      have hSb := SS_b (N := N) (nT := nT) (nR := nR) (p1 := p1) (p2 := p2) k (by omega)
      have hVl := fun s hs => VS_l (N := N) (nT := nT) (nR := nR) (p1 := p1) (p2 := p2) (k := k) (s := s) hk hs
      have hVk := hVl k hk
      have eS : SS N nT nR p1 p2 (k + 1) = SS N nT nR p1 p2 k + (if bcN k = nR then VS N nT nR p1 p2 k k else 0) := rfl
      have eV : VS N nT nR p1 p2 (k + 1) = if bcN k < nR then gI (okB N nT p1 p2 (bcN k)) k (VS N nT nR p1 p2 k) 6 else VS N nT nR p1 p2 k := rfl
      -- the end of one set
      have h153 : ∀ W3 : Nat → Int32, (∀ s, s < 64 → W3 s = nI (VS N nT nR p1 p2 (k + 1) s)) → W3 k = nI (VS N nT nR p1 p2 k k) → ∃ q, fX9_rowsBy_b153 u p1 p2 N W rec2 (nI (SS N nT nR p1 p2 k), nI k, nI (bcN k), W3) = rec2 q ∧ (q.1 = nI (SS N nT nR p1 p2 (k + 1)) ∧ q.2.1 = nI (k + 1) ∧ ∀ s, s < 64 → q.2.2 s = nI (VS N nT nR p1 p2 (k + 1) s)) := by
        intro W3 g1 g2
        unfold fX9_rowsBy_b153 fX9_rowsBy_b175
        dsimp only
        rw [m5, ob_s, jgN hk (by omega), nI_clamp (show k < 2 ^ 31 by omega), g2]
        simp only [eqN (show bcN k < 2 ^ 31 by omega) (show nR < 2 ^ 31 by omega)]
        by_cases c : bcN k = nR
        · rw [if_pos c, blet_s, blet_s, nI_1, nI_add]
          exact ⟨_, rfl, by rw [eS, if_pos c], rfl, g1⟩
        · rw [if_neg c, blet_s, blet_s, nI_1, Int32.add_zero]
          exact ⟨_, rfl, by rw [eS, if_neg c]; rfl, rfl, g1⟩
      unfold fX9_rowsBy_b34
      dsimp only
      rw [show (64 : Int32) = nI 64 from rfl, if_neg (nI_ge hk (by decide))]
      have h47 := jfix_to (g := fX9_rowsBy_b47 u p1 p2 N W rec2) (fun j => (nI (SS N nT nR p1 p2 k), nI k, nI (bcS k j), nI j, W2)) 6 (jfix (fX9_rowsBy_b75 u p1 p2 N W rec2) u (nI (SS N nT nR p1 p2 k), nI k, nI (bcN k), 0, W2)) (u := u) (by
        intro j hj rec3
        have hbt := w_bt ⟨k, hk⟩ ⟨j, hj⟩
        simp only at hbt
        unfold fX9_rowsBy_b47
        dsimp only
        rw [show (6 : Int32) = nI 6 from rfl, if_neg (nI_ge hj (by decide)), hbt, nI_add, blet_s, blet_s, nI_1]
        rfl) (by
        intro rec3
        unfold fX9_rowsBy_b47
        dsimp only
        rw [if_pos (show (6 : Int32) ≤ nI 6 by decide)]
        rfl) (by omega)
      rw [show jfix (fX9_rowsBy_b47 u p1 p2 N W rec2) u (nI (SS N nT nR p1 p2 k), nI k, 0, 0, W2) = _ from h47]
      by_cases c : bcN k < nR
      · rw [if_pos c] at eV
        refine jfix_cq (fun q => rec2 q) (fun t (p : Int32 × Int32 × Int32 × Int32 × (Nat → Int32)) => p.1 = nI (SS N nT nR p1 p2 k) ∧ p.2.1 = nI k ∧ p.2.2.1 = nI (bcN k) ∧ p.2.2.2.1 = nI t ∧ ∀ s, s < 64 → p.2.2.2.2 s = nI (gI (okB N nT p1 p2 (bcN k)) k (VS N nT nR p1 p2 k) t s)) 6 _ ?_ ?_ (by omega) ⟨rfl, rfl, rfl, rfl, f3⟩
        · rintro t ht rec3 ⟨a, b, d, e, W3⟩ ⟨g1, g2, g3, g4, g5⟩
          dsimp only at g1 g2 g3 g4 g5
          subst g1 g2 g3 g4
          have hor := w_or ⟨k, hk⟩ ⟨t, ht⟩
          have hbt := w_bt ⟨k, hk⟩ ⟨t, ht⟩
          simp only at hor hbt
          have eg : ∀ s, gI (okB N nT p1 p2 (bcN k)) k (VS N nT nR p1 p2 k) (t + 1) s = if k / 2 ^ t % 2 = 0 ∧ okB N nT p1 p2 (bcN k) t = true ∧ s = k + 2 ^ t then gI (okB N nT p1 p2 (bcN k)) k (VS N nT nR p1 p2 k) t s + VS N nT nR p1 p2 k k else gI (okB N nT p1 p2 (bcN k)) k (VS N nT nR p1 p2 k) t s := fun s => rfl
          have skip : (¬ (k / 2 ^ t % 2 = 0 ∧ okB N nT p1 p2 (bcN k) t = true)) → ∃ q, fX9_rowsBy_b147 u p1 p2 N W rec2 rec3 (nI (SS N nT nR p1 p2 k), nI k, nI (bcN k), nI t, W3) = rec3 q ∧ (q.1 = nI (SS N nT nR p1 p2 k) ∧ q.2.1 = nI k ∧ q.2.2.1 = nI (bcN k) ∧ q.2.2.2.1 = nI (t + 1) ∧ ∀ s, s < 64 → q.2.2.2.2 s = nI (gI (okB N nT p1 p2 (bcN k)) k (VS N nT nR p1 p2 k) (t + 1) s)) := by
            intro hn
            unfold fX9_rowsBy_b147
            dsimp only
            rw [blet_s, nI_1]
            refine ⟨_, rfl, rfl, rfl, rfl, rfl, fun s hs => ?_⟩
            rw [eg, if_neg (fun q => hn ⟨q.1, q.2.1⟩)]
            exact g5 s hs
          unfold fX9_rowsBy_b75
          dsimp only
          rw [show (6 : Int32) = nI 6 from rfl, if_neg (nI_ge ht (by decide)), m5, ob_s, if_neg (nI_ge c (by omega)), hbt]
          by_cases bit : k / 2 ^ t % 2 = 0
          · rw [bit, if_pos (show nI 0 = 0 from rfl), gwR m4 hT (by omega) ht, ob_s]
            rcases gwN_b N nT (bcN k) t with g | g
            · rw [g, if_pos rfl]
              refine skip (fun q => ?_)
              have h := (of_decide_eq_true q.2).2
              rw [g] at h
              exact absurd h (by decide)
            · rw [g, if_neg one0]
              have hup := w_up ⟨k, hk⟩ ⟨t, ht⟩ bit
              simp only at hup
              have yes : (nI (bcN k) = p1 → nI t = p2) → ∃ q, fX9_rowsBy_b125 u p1 p2 N W rec2 rec3 (nI (SS N nT nR p1 p2 k), nI k, nI (bcN k), nI t, W3) = rec3 q ∧ (q.1 = nI (SS N nT nR p1 p2 k) ∧ q.2.1 = nI k ∧ q.2.2.1 = nI (bcN k) ∧ q.2.2.2.1 = nI (t + 1) ∧ ∀ s, s < 64 → q.2.2.2.2 s = nI (gI (okB N nT p1 p2 (bcN k)) k (VS N nT nR p1 p2 k) (t + 1) s)) := by
                intro hask
                have hp := Nat.two_pow_pos t
                have l1 := gI_le (ok := okB N nT p1 p2 (bcN k)) (k := k) (s := k + 2 ^ t) (V := VS N nT nR p1 p2 k) t (by omega)
                have l3 := hVl (k + 2 ^ t) hup.1
                unfold fX9_rowsBy_b125 fX9_rowsBy_b147
                dsimp only
                rw [hor, if_pos bit, blet_s, jgN (by omega) (by omega), jgN hk (by omega), jgN (by omega) (by omega), nI_clamp (show k + 2 ^ t < 2 ^ 31 by omega), nI_clamp (show k < 2 ^ 31 by omega), g5 _ hup.1, g5 k hk, gI_k, nI_add, blet_s, blet_s, nI_1]
                refine ⟨_, rfl, rfl, rfl, rfl, rfl, fun s hs => ?_⟩
                dsimp only
                rw [eg]
                have hok : okB N nT p1 p2 (bcN k) t = true := decide_eq_true ⟨hask, g⟩
                by_cases d : s = k + 2 ^ t
                · rw [updE d, if_pos ⟨bit, hok, d⟩, d]
                · rw [updN d, if_neg (fun q => d q.2.2)]
                  exact g5 s hs
              by_cases c1 : nI (bcN k) = p1
              · rw [if_pos c1]
                by_cases c2 : nI t = p2
                · rw [if_pos c2]
                  exact yes (fun _ => c2)
                · rw [if_neg c2]
                  refine skip (fun q => ?_)
                  exact c2 ((of_decide_eq_true q.2).1 c1)
              · rw [if_neg c1]
                exact yes (fun y => absurd y c1)
          · rw [if_neg (nI_ne0 (by omega) (by omega))]
            exact skip (fun q => bit q.1)
        · rintro rec3 ⟨a, b, d, e, W3⟩ ⟨g1, g2, g3, g4, g5⟩
          dsimp only at g1 g2 g3 g4 g5
          subst g1 g2 g3 g4
          unfold fX9_rowsBy_b75
          dsimp only
          rw [if_pos (show (6 : Int32) ≤ nI 6 by decide)]
          refine h153 W3 (fun s hs => by rw [eV]; exact g5 s hs) ?_
          rw [g5 k hk, gI_k]
      · rw [if_neg c] at eV
        obtain ⟨v, hv⟩ : ∃ v, u = v + 1 := ⟨u - 1, by omega⟩
        have e75 : jfix (fX9_rowsBy_b75 u p1 p2 N W rec2) u (nI (SS N nT nR p1 p2 k), nI k, nI (bcN k), 0, W2) = fX9_rowsBy_b153 u p1 p2 N W rec2 (nI (SS N nT nR p1 p2 k), nI k, nI (bcN k), W2) := by
          have q : ∀ rec3, fX9_rowsBy_b75 u p1 p2 N W rec2 rec3 (nI (SS N nT nR p1 p2 k), nI k, nI (bcN k), 0, W2) = fX9_rowsBy_b153 u p1 p2 N W rec2 (nI (SS N nT nR p1 p2 k), nI k, nI (bcN k), W2) := by
            intro rec3
            unfold fX9_rowsBy_b75
            dsimp only
            rw [if_neg (show ¬ (6 : Int32) ≤ 0 by decide), m5, ob_s, if_pos (nI_le (by omega) (by omega))]
          conv => lhs; arg 2; rw [hv]
          exact q _
        rw [e75]
        exact h153 W2 (fun s hs => by rw [eV]; exact f3 s hs) (f3 k hk)
    · rintro rec2 ⟨a, b, W2⟩ ⟨f1, f2, f3⟩
      dsimp only at f1 f2 f3
      subst f1 f2
      unfold fX9_rowsBy_b34
      dsimp only
      rw [if_pos (show (64 : Int32) ≤ nI 64 by decide)]
      exact ⟨_, rfl, rfl⟩
theorem pv_which (u : Nat) (hu : 4000000 ≤ u) (N K Z rf : Nat → Int32) (sg : Int32) (Lm : Nat → Int64) (S cal cbl : Nat → Int32) (xfinds_ways yways : Nat → Int32) (p1 p2 : Int32)(hR : RelC N K Z rf sg Lm S cal cbl) : ∃ (rc : Int32 × Int32 × (Nat → Int32) × (Nat → Int32) × Int32 × Int32 × (Nat → Int32) × (Nat → Int32)) (rm : Int32 × Int32 × (Nat → Int64) × (Nat → Int32) × (Nat → Int32) × (Nat → Int32)), fX8_which u p1 p2 sg rf xfinds_ways (S 0) (S 1) (N 397) (1 : Int32) (N 396) cal cbl (cw 147 N) (cw 153 N) (cw 99 N) = some rc ∧ fX9_which u p1 p2 sg Lm N rf S yways = some rm ∧ rc.1 = rm.1 ∧ RelAll N K Z rm.2.2.2.1 rm.2.1 rm.2.2.1 rm.2.2.2.2.1 (N 392) (N 393) (N 394) (4 : Int32) (1 : Int32) (N 395) (1 : Int32) (N 396) (N 397) (1 : Int32) (3 : Int32) (8 : Int32) (N 191) (cw 0 N) (cw 12 N) (cw 24 N) (cw 40 N) (cw 48 N) (cw 50 N) (cw 98 N) (cw 99 N) (cw 147 N) (cw 153 N) (cw 154 N) (cw 175 N) (cw 192 N) rc.2.2.1 rc.2.1 rc.2.2.2.2.1 rc.2.2.2.2.2.1 rc.2.2.2.2.2.2.1 rc.2.2.2.2.2.2.2 := by
  obtain ⟨nT, eT, hT⟩ := rg_N (B := 12) hR.1.1.2.2.2.2.1
  obtain ⟨nR, eR, hRb⟩ := rg_N (B := 6) hR.1.1.2.2.2.2.2.1
  have m4 : fX9_many 4 N = some (nI nT) := by rw [show (4 : Int32) = nI 4 from rfl, many9 N (by decide), eT]
  have m5 : fX9_many 5 N = some (nI nR) := by rw [show (5 : Int32) = nI 5 from rfl, many9 N (by decide), eR]
  have hSS := SS_b (N := N) (nT := nT) (nR := nR) (p1 := -1) (p2 := -1) 64 (Nat.le_refl 64)
  have hSS2 := SS_b (N := N) (nT := nT) (nR := nR) (p1 := p1) (p2 := p2) 64 (Nat.le_refl 64)
  -- the tails
  have key : ∀ all : Int32, ((all = 1 ∧ p1 = -1) ∨ (all = 0 ∧ p1 ≠ -1 ∧ ∃ t, t < 6 ∧ p2 = nI t)) → ∃ rc rm, fX8_which_b68 u p1 p2 sg rf xfinds_ways (S 0) (S 1) (N 397) 1 (N 396) cal cbl (cw 147 N) (cw 153 N) (cw 99 N) (all, sg, rf, xfinds_ways, S 0, S 1, cal, cbl) = some rc ∧ fX9_which_b50 u p1 p2 sg Lm N rf S yways (sg, Lm, rf, S, yways) = some rm ∧ rc.1 = rm.1 ∧ RelAll N K Z rm.2.2.2.1 rm.2.1 rm.2.2.1 rm.2.2.2.2.1 (N 392) (N 393) (N 394) (4 : Int32) (1 : Int32) (N 395) (1 : Int32) (N 396) (N 397) (1 : Int32) (3 : Int32) (8 : Int32) (N 191) (cw 0 N) (cw 12 N) (cw 24 N) (cw 40 N) (cw 48 N) (cw 50 N) (cw 98 N) (cw 99 N) (cw 147 N) (cw 153 N) (cw 154 N) (cw 175 N) (cw 192 N) rc.2.2.1 rc.2.1 rc.2.2.2.2.1 rc.2.2.2.2.2.1 rc.2.2.2.2.2.2.1 rc.2.2.2.2.2.2.2 := by
    intro all hall
    have k2 : ∀ (n : Nat) (W W' : Nat → Int32), n ≤ 46657 * 64 → ∃ rc rm, fX8_which_b98 u p1 p2 sg rf xfinds_ways (S 0) (S 1) (N 397) 1 (N 396) cal cbl (cw 147 N) (cw 153 N) (cw 99 N) (all, nI n, sg, rf, W, S 0, S 1, cal, cbl) = some rc ∧ fX9_which_b68 u p1 p2 sg Lm N rf S yways (nI n, sg, Lm, rf, S, W') = some rm ∧ rc.1 = rm.1 ∧ RelAll N K Z rm.2.2.2.1 rm.2.1 rm.2.2.1 rm.2.2.2.2.1 (N 392) (N 393) (N 394) (4 : Int32) (1 : Int32) (N 395) (1 : Int32) (N 396) (N 397) (1 : Int32) (3 : Int32) (8 : Int32) (N 191) (cw 0 N) (cw 12 N) (cw 24 N) (cw 40 N) (cw 48 N) (cw 50 N) (cw 98 N) (cw 99 N) (cw 147 N) (cw 153 N) (cw 154 N) (cw 175 N) (cw 192 N) rc.2.2.1 rc.2.1 rc.2.2.2.2.1 rc.2.2.2.2.2.1 rc.2.2.2.2.2.2.1 rc.2.2.2.2.2.2.2 := by
      intro n W W' hn
      unfold fX8_which_b98 fX9_which_b68
      dsimp only
      by_cases c : nI n = 0
      · rw [if_pos c, if_pos c]
        exact ⟨_, _, rfl, rfl, rfl, Rel_rf _ hR⟩
      · rw [if_neg c, if_neg c]
        have c0 : 0 < n := Nat.pos_of_ne_zero (fun z => c (by rw [z]; rfl))
        rcases hall with ⟨a1, a2⟩ | ⟨a1, a2, t, ht, a3⟩
        · rw [a1, if_neg one0, if_pos a2]
          exact ⟨_, _, rfl, rfl, rfl, hR⟩
        · rw [a1, if_pos rfl, if_neg a2]
          obtain ⟨r, r1, r2⟩ := matC (N := N) (nT := nT) (nR := nR) (p1 := p1) (p2 := p2) hu hRb hT (Or.inr ⟨t, ht, a3⟩) W
          obtain ⟨s, s1, s2⟩ := rowR (N := N) (nT := nT) (nR := nR) (p1 := p1) (p2 := p2) hu m5 m4 hRb hT W'
          have r1' : fX0_matches u p1 p2 W (N 397) 1 (N 396) (cw 147 N) (cw 153 N) (cw 99 N) = some r := by rw [eR, eT]; exact r1
          rw [r1', ob_s, s1, ob_s, r2, s2, toL (by omega), toL (by omega)]
          obtain ⟨x, q, x1, x2, x3, x4⟩ := frac hu (n := SS N nT nR p1 p2 64) (w := n) (b := false) (by omega) (by omega) c0 (fun z => absurd z (by decide)) sg (S 0) (S 1) sg cal cbl Lm S
          rw [show fX1_set u (lN (SS N nT nR p1 p2 64)) _ _ _ _ _ _ = some x from x1, show fX9_tells u (lN (SS N nT nR p1 p2 64)) _ _ _ _ = some q from x2, ob_s, ob_s]
          exact ⟨_, _, rfl, rfl, x3.symm, Rel_fr hR x4⟩
    unfold fX8_which_b68 fX9_which_b50
    dsimp only
    rw [m5, ob_s]
    by_cases c : N 397 = 0
    · rw [if_pos c, if_pos (show nI nR = 0 from eR ▸ c)]
      exact k2 0 xfinds_ways yways (by omega)
    · rw [if_neg c, if_neg (show ¬ nI nR = 0 from eR ▸ c)]
      obtain ⟨r, r1, r2⟩ := matC (N := N) (nT := nT) (nR := nR) (p1 := -1) (p2 := -1) hu hRb hT (Or.inl ⟨rfl, rfl⟩) xfinds_ways
      obtain ⟨s, s1, s2⟩ := rowR (N := N) (nT := nT) (nR := nR) (p1 := -1) (p2 := -1) hu m5 m4 hRb hT yways
      have r1' : fX0_matches u (-1) (-1) xfinds_ways (N 397) 1 (N 396) (cw 147 N) (cw 153 N) (cw 99 N) = some r := by rw [eR, eT]; exact r1
      rw [r1', ob_s, s1, ob_s, r2, s2]
      exact k2 _ r.2 s.2 hSS
  unfold fX8_which fX9_which
  by_cases c : p1 = -1
  · rw [if_pos c, if_pos c]
    obtain ⟨rc, rm, k1, k2, k3, k4⟩ := key 1 (Or.inl ⟨rfl, c⟩)
    refine ⟨rc, rm, ?_, k2, k3, k4⟩
    unfold fX8_which_b10
    dsimp only
    have h50 : ∀ z : Int32, fX8_which_b50 u p1 p2 sg rf xfinds_ways (S 0) (S 1) (N 397) 1 (N 396) cal cbl (cw 147 N) (cw 153 N) (cw 99 N) (1, z, sg, rf, xfinds_ways, S 0, S 1, cal, cbl) = some rc := by
      intro z
      unfold fX8_which_b50
      dsimp only
      rw [if_neg one0]
      exact k1
    have hh : fX7_has p1 (N 397) = some 0 := by
      rw [c]
      rfl
    rw [hh, ob_s, if_pos rfl]
    unfold fX8_which_b49
    exact h50 0
  · rw [if_neg c, if_neg c, m5, ob_s]
    unfold fX8_which_b10 fX8_which_b49
    dsimp only
    have h50 : fX8_which_b50 u p1 p2 sg rf xfinds_ways (S 0) (S 1) (N 397) 1 (N 396) cal cbl (cw 147 N) (cw 153 N) (cw 99 N) (0, 0, sg, rf, xfinds_ways, S 0, S 1, cal, cbl) = some (-2, sg, upd rf 0 (rf 0 + 1), xfinds_ways, S 0, S 1, cal, cbl) := by
      unfold fX8_which_b50
      rfl
    rw [h50]
    have h43 : fX9_which_b43 u p1 p2 sg Lm N rf S yways (sg, Lm, rf, S, yways) = some (-2, sg, Lm, upd rf 0 (rf 0 + 1), S, yways) := rfl
    rw [h43]
    have ha := hs_c p1 (show nR ≤ 1000 by omega)
    rw [← eR] at ha
    rcases ha with ⟨b, hb, rfl, h1, h1'⟩ | ⟨h1, h1'⟩
    · rw [← eR, h1, ob_s, if_neg one0, h1', ob_s, if_neg one0, in_0_5]
      rcases wi p2 0 5 (A := 0) (B := 5) rfl rfl with ⟨e2, h2⟩ | ⟨e2, h2⟩
      · obtain ⟨t, rfl, ht⟩ := rg_N (B := 5) h2
        rw [e2, ob_s, if_neg one0, m4, ob_s, eT, has7 (by omega) (by omega), ob_s, show (6 : Int32) = nI 6 from rfl, if_neg (nI_ge (show t < 6 by omega) (by decide))]
        by_cases d : t < nT
        · rw [if_pos d, if_neg one0, if_pos (nI_lt d (by omega))]
          obtain ⟨rc, rm, k1, k2, k3, k4⟩ := key 0 (Or.inr ⟨rfl, c, t, by omega, rfl⟩)
          rw [← eT]
          refine ⟨rc, rm, ?_, k2, k3, k4⟩
          unfold fX8_which_b50
          exact k1
        · rw [if_neg d, if_pos rfl, if_neg (nI_nlt (by omega) (by omega)), ← eT]
          exact ⟨_, _, rfl, rfl, rfl, Rel_rf _ hR⟩
      · rw [e2, ob_s, if_pos rfl]
        rcases hs_c p2 (show nT ≤ 1000 by omega) with ⟨t, ht, rfl, g1, g1'⟩ | ⟨g1, g1'⟩
        · rw [← eT] at g1
          rw [g1, ob_s, if_neg one0, if_pos]
          · exact ⟨_, _, rfl, rfl, rfl, Rel_rf _ hR⟩
          · unfold rg at h2
            rw [nI_toInt (by omega)] at h2
            exact nI_le (a := 6) (b := t) (by omega) (by omega)
        · rw [← eT] at g1
          rw [g1, ob_s, if_pos rfl]
          exact ⟨_, _, rfl, rfl, rfl, Rel_rf _ hR⟩
    · rw [← eR, h1, ob_s, if_pos rfl, h1', ob_s, if_pos rfl]
      exact ⟨_, _, rfl, rfl, rfl, Rel_rf _ hR⟩
