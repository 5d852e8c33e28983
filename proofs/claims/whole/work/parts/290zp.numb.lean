/-- the tokens one after another -/
def CH (u : Nat) (N : Nat → Int32) (n : Nat) (A S K : Nat → Nat) (V : Nat → Int32) : Prop := ∀ i, TP u N n (A i) (S i) (A (i + 1)) (K i) (V i)
theorem chain {u : Nat} (hu : 4000000 ≤ u) {N : Nat → Int32} {n : Nat} (hn : n ≤ 200) (en : N 191 = nI n) {a : Nat} (ha : a ≤ n) : ∃ A S K V, A 0 = a ∧ CH u N n A S K V := by
  have H : ∀ b : Nat, ∃ q : Nat × Nat × Nat × Int32, b ≤ n → TP u N n b q.1 q.2.1 q.2.2.1 q.2.2.2 := by
    intro b
    by_cases c : b ≤ n
    · obtain ⟨s, e, k, v, h⟩ := tok hu hn en c
      exact ⟨(s, e, k, v), fun _ => h⟩
    · exact ⟨(0, 0, 0, 0), fun h => absurd h c⟩
  obtain ⟨F, hF⟩ := Classical.axiomOfChoice H
  have hA : ∀ i : Nat, (Nat.rec a (fun _ x => (F x).2.1) i : Nat) ≤ n := by
    intro i
    induction i with
    | zero => exact ha
    | succ i ih => exact (hF _ ih).2.2.1
  exact ⟨fun i => Nat.rec a (fun _ x => (F x).2.1) i, fun i => (F (Nat.rec a (fun _ x => (F x).2.1) i)).1, fun i => (F (Nat.rec a (fun _ x => (F x).2.1) i)).2.2.1, fun i => (F (Nat.rec a (fun _ x => (F x).2.1) i)).2.2.2, rfl, fun i => hF _ (hA i)⟩
theorem CH_sh {u : Nat} {N : Nat → Int32} {n : Nat} {A S K : Nat → Nat} {V : Nat → Int32} (C : CH u N n A S K V) (d : Nat) : CH u N n (fun i => A (i + d)) (fun i => S (i + d)) (fun i => K (i + d)) (fun i => V (i + d)) := by
  intro i
  have h := C (i + d)
  rw [show i + d + 1 = i + 1 + d by omega] at h
  exact h
theorem fits_b {i : Nat} (hi : i < 13) (v : Int32) : fX8_fits (nI i) v = some 1 ∨ fX8_fits (nI i) v = some 0 := by
  have h : i = 0 ∨ i = 1 ∨ i = 2 ∨ i = 3 ∨ i = 4 ∨ i = 5 ∨ i = 6 ∨ i = 7 ∨ i = 8 ∨ i = 9 ∨ i = 10 ∨ i = 11 ∨ i = 12 := by omega
  rcases h with rfl | rfl | rfl | rfl | rfl | rfl | rfl | rfl | rfl | rfl | rfl | rfl | rfl
  · exact (fits0 v) ▸ wi_b v 20 90
  · exact (fits1 v) ▸ wi_b v 1 99
  · exact (fits2 v) ▸ wi_b v 0 9
  · exact (fits3 v) ▸ wi_b v 0 99
  · exact (fits4 v) ▸ wi_b v 0 99
  · exact (fits5 v) ▸ wi_b v 0 99
  · exact (fits6 v) ▸ wi_b v 20 300
  · exact (fits7 v) ▸ wi_b v 1 99
  · exact (fits8 v) ▸ wi_b v 0 60
  · exact (fits9 v) ▸ wi_b v 0 9
  · exact (fits10 v) ▸ wi_b v 0 6
  · exact (fits11 v) ▸ wi_b v 0 19
  · exact (fits12 v) ▸ wi_b v 0 6
/-- the item and its slots -/
def IT (p L0 c : Nat) : Prop := (p = 0 ∧ L0 = 0 ∧ c = 3) ∨ (p = 1 ∧ L0 = 3 ∧ c = 3) ∨ (p = 2 ∧ L0 = 6 ∧ c = 4) ∨ (p = 3 ∧ L0 = 10 ∧ c = 3)
def gdN (k i : Nat) (v told3 : Int32) : Prop := k = 2 ∧ fX8_fits (nI i) v = some 1 ∧ (i = 5 → v ≤ told3)
theorem stC {u : Nat} {N : Nat → Int32} {n a s e k i p L0 c : Nat} {v : Int32} (hn : n ≤ 200) (hp : IT p L0 c) (hi : L0 + i < L0 + c) (P : TP u N n a s e k v) (w1 w2 w3 w4 st tk nm : Int32) (told0 told : Nat → Int32) : ∃ x : Int32, ∀ rec : Int32 × Int32 × Int32 × Int32 × Int32 × (Nat → Int32) → Option (Int32 × Int32 × Int32 × Int32 × Int32 × (Nat → Int32)), (gdN k (L0 + i) v (told 3) → fX5_readNumbers_b22 u (nI p) w1 w2 w3 w4 1 (nI n) told0 200 (cw 192 N) rec (nI (L0 + i), nI a, st, tk, nm, told) = rec (nI (L0 + (i + 1)), nI e, nI s, 2, v, upd told (L0 + i) v)) ∧ (¬ gdN k (L0 + i) v (told 3) → fX5_readNumbers_b22 u (nI p) w1 w2 w3 w4 1 (nI n) told0 200 (cw 192 N) rec (nI (L0 + i), nI a, st, tk, nm, told) = some (0, nI e, nI s, nI k, x, told)) := by
  have hi13 : L0 + i < 13 := by unfold IT at hp; omega
  obtain ⟨nm2, adv, hv⟩ := P.2.2.2.2.2.1 st tk nm
  refine ⟨nm2, fun rec => ?_⟩
  have hk4 := P.2.2.2.2.1
  have lim : ∀ X Y : Option (Int32 × Int32 × Int32 × Int32 × Int32 × (Nat → Int32)), jg (nI p + 1) 5 (if ((jtab 4).getD (nI p + 1).toNatClampNeg 0) ≤ nI (L0 + i) then X else Y) = Y := by
    intro X Y
    have z : ∀ H : Nat, H = L0 + c → (if nI H ≤ nI (L0 + i) then X else Y) = Y := by
      intro H hH
      rw [if_neg]
      exact nI_ge (by omega) (by unfold IT at hp; omega)
    rcases hp with ⟨rfl, rfl, rfl⟩ | ⟨rfl, rfl, rfl⟩ | ⟨rfl, rfl, rfl⟩ | ⟨rfl, rfl, rfl⟩
    · exact z 3 rfl
    · exact z 6 rfl
    · exact z 10 rfl
    · exact z 13 rfl
  unfold fX5_readNumbers_b22
  dsimp only
  rw [blet_s, lim, adv, ob_s]
  dsimp only
  have ek : (nI k = 2) = (k = 2) := eqN (b := 2) (by omega) (by decide)
  simp only [ek]
  have e5 : (nI (L0 + i) = 5) = (L0 + i = 5) := eqN (b := 5) (by omega) (by decide)
  simp only [e5]
  by_cases hk : k = 2
  · rw [if_pos hk, hv hk]
    rcases fits_b hi13 v with f | f
    · rw [f, ob_s, if_neg one0]
      have h77 : fX5_readNumbers_b77 u (nI p) w1 w2 w3 w4 1 (nI n) told0 200 (cw 192 N) rec (nI (L0 + i), nI e, nI s, nI k, v, told) = rec (nI (L0 + (i + 1)), nI e, nI s, 2, v, upd told (L0 + i) v) := by
        unfold fX5_readNumbers_b77
        dsimp only
        rw [jgN hi13 (by omega), nI_clamp (by omega), blet_s, nI_1, blet_s, hk]
        rfl
      by_cases h5 : L0 + i = 5
      · rw [if_pos h5, show jg (3 : Int32) 13 _ = _ from jgN (i := 3) (by decide) (by decide)]
        by_cases hle : v ≤ told 3
        · refine ⟨fun _ => ?_, fun q => absurd ⟨hk, f, fun _ => hle⟩ q⟩
          rw [if_pos (show v ≤ told (3 : Int32).toNatClampNeg from hle)]
          exact h77
        · refine ⟨fun q => absurd (q.2.2 h5) hle, fun _ => ?_⟩
          exact if_neg (show ¬ v ≤ told (3 : Int32).toNatClampNeg from hle)
      · rw [if_neg h5]
        exact ⟨fun _ => h77, fun q => absurd ⟨hk, f, fun h => absurd h h5⟩ q⟩
    · rw [f, ob_s, if_pos rfl]
      refine ⟨fun q => ?_, fun _ => rfl⟩
      have h := q.2.1
      rw [f] at h
      exact absurd h (by decide)
  · rw [if_neg hk]
    exact ⟨fun q => absurd q.1 hk, fun _ => rfl⟩
def tdN (told : Nat → Int32) (L0 : Nat) (V : Nat → Int32) : Nat → Nat → Int32
  | 0 => told
  | i + 1 => upd (tdN told L0 V i) (L0 + i) (V i)
def nsF (A S : Nat → Nat) (V : Nat → Int32) (L0 : Nat) (st tk nm : Int32) (told : Nat → Int32) : Nat → Int32 × Int32 × Int32 × Int32 × Int32 × (Nat → Int32)
  | 0 => (nI L0, nI (A 0), st, tk, nm, told)
  | i + 1 => (nI (L0 + (i + 1)), nI (A (i + 1)), nI (S i), 2, V i, tdN told L0 V (i + 1))
theorem nsF_e (A S : Nat → Nat) (V : Nat → Int32) (L0 : Nat) (st tk nm : Int32) (told : Nat → Int32) (i : Nat) : ∃ a b c, nsF A S V L0 st tk nm told i = (nI (L0 + i), nI (A i), a, b, c, tdN told L0 V i) := by
  cases i with
  | zero => exact ⟨st, tk, nm, rfl⟩
  | succ i => exact ⟨_, _, _, rfl⟩
theorem rd_s {u : Nat} {N : Nat → Int32} {n p L0 c : Nat} (hp : IT p L0 c) (a st tk nm : Int32) (told : Nat → Int32) : fX5_readNumbers u (nI p) a st tk nm 1 (nI n) told 200 (cw 192 N) = jfix (fX5_readNumbers_b22 u (nI p) a st tk nm 1 (nI n) told 200 (cw 192 N)) u (nI L0, a, st, tk, nm, told) := by
  rcases hp with ⟨rfl, rfl, rfl⟩ | ⟨rfl, rfl, rfl⟩ | ⟨rfl, rfl, rfl⟩ | ⟨rfl, rfl, rfl⟩ <;> rfl
theorem rd_ok {u : Nat} (hu : 4000000 ≤ u) {N : Nat → Int32} {n p L0 c : Nat} {A S K : Nat → Nat} {V : Nat → Int32} (hn : n ≤ 200) (C : CH u N n A S K V) (hp : IT p L0 c) (st tk nm : Int32) (told : Nat → Int32) (hg : ∀ i, i < c → gdN (K i) (L0 + i) (V i) (tdN told L0 V i 3)) : ∃ x y z, fX5_readNumbers u (nI p) (nI (A 0)) st tk nm 1 (nI n) told 200 (cw 192 N) = some (1, nI (A c), x, y, z, tdN told L0 V c) := by
  obtain ⟨x, y, z, ec⟩ := nsF_e A S V L0 st tk nm told c
  refine ⟨x, y, z, ?_⟩
  rw [rd_s hp]
  have hc : c ≤ 4 := by unfold IT at hp; omega
  refine jfix_to (nsF A S V L0 st tk nm told) c _ ?_ ?_ (by omega)
  · intro i hi rec
    obtain ⟨a, b, d, e⟩ := nsF_e A S V L0 st tk nm told i
    rw [e]
    obtain ⟨x, hx⟩ := stC hn hp (show L0 + i < L0 + c by omega) (C i) (nI (A 0)) st tk nm a b d told (tdN told L0 V i)
    exact (hx rec).1 (hg i hi)
  · intro rec
    rw [ec]
    unfold fX5_readNumbers_b22
    dsimp only
    rw [blet_s]
    rcases hp with ⟨rfl, rfl, rfl⟩ | ⟨rfl, rfl, rfl⟩ | ⟨rfl, rfl, rfl⟩ | ⟨rfl, rfl, rfl⟩ <;> rfl
theorem rd_no {u : Nat} (hu : 4000000 ≤ u) {N : Nat → Int32} {n p L0 c : Nat} {A S K : Nat → Nat} {V : Nat → Int32} (hn : n ≤ 200) (C : CH u N n A S K V) (hp : IT p L0 c) (st tk nm : Int32) (told : Nat → Int32) (m : Nat) (hm : m < c) (hg : ∀ i, i < m → gdN (K i) (L0 + i) (V i) (tdN told L0 V i 3)) (hb : ¬ gdN (K m) (L0 + m) (V m) (tdN told L0 V m 3)) : ∃ x y z t, fX5_readNumbers u (nI p) (nI (A 0)) st tk nm 1 (nI n) told 200 (cw 192 N) = some (0, x, nI (S m), y, z, t) := by
  have hc : c ≤ 4 := by unfold IT at hp; omega
  obtain ⟨a, b, d, e⟩ := nsF_e A S V L0 st tk nm told m
  have hx : ∃ x : Int32, ∀ rec, fX5_readNumbers_b22 u (nI p) (nI (A 0)) st tk nm 1 (nI n) told 200 (cw 192 N) rec (nsF A S V L0 st tk nm told m) = some (0, nI (A (m + 1)), nI (S m), nI (K m), x, tdN told L0 V m) := by
    obtain ⟨x, hx⟩ := stC hn hp (show L0 + m < L0 + c by omega) (C m) (nI (A 0)) st tk nm a b d told (tdN told L0 V m)
    refine ⟨x, fun rec => ?_⟩
    rw [e]
    exact (hx rec).2 hb
  obtain ⟨x, hx⟩ := hx
  refine ⟨nI (A (m + 1)), nI (K m), x, tdN told L0 V m, ?_⟩
  rw [rd_s hp]
  refine jfix_to (nsF A S V L0 st tk nm told) m _ ?_ hx (by omega)
  intro i hi rec
  obtain ⟨a, b, d, e⟩ := nsF_e A S V L0 st tk nm told i
  rw [e]
  obtain ⟨x, hx⟩ := stC hn hp (show L0 + i < L0 + c by omega) (C i) (nI (A 0)) st tk nm a b d told (tdN told L0 V i)
  exact (hx rec).1 (hg i hi)
theorem tkOk {u : Nat} {N : Nat → Int32} {n : Nat} {A S K : Nat → Nat} {V : Nat → Int32} (C : CH u N n A S K V) (i : Nat) {lo hi : Int32} (rd : Int32) (hk : K i = 2) (hw : fX8_within (V i) lo hi = some 1) : fX9_takes u lo hi (nI (S i)) (nI (A (i + 1) - S i)) (nI (K i)) (V i) rd N = some (1, nI (S (i + 1)), nI (A (i + 2) - S (i + 1)), nI (K (i + 1)), V (i + 1), V i) := by
  unfold fX9_takes
  rw [if_pos (show nI (K i) = 2 by rw [hk]; rfl), in_v_v, hw, ob_s, if_neg one0, nI_add, show S i + (A (i + 1) - S i) = A (i + 1) by have := (C i).2.1; omega, (C (i + 1)).2.2.2.2.2.2, ob_s]
theorem tkNo {u : Nat} {N : Nat → Int32} {n : Nat} {A S K : Nat → Nat} {V : Nat → Int32} (C : CH u N n A S K V) (i : Nat) {lo hi : Int32} (rd : Int32) (h : ¬ (K i = 2 ∧ fX8_within (V i) lo hi = some 1)) : fX9_takes u lo hi (nI (S i)) (nI (A (i + 1) - S i)) (nI (K i)) (V i) rd N = some (0, nI (S i), nI (A (i + 1) - S i), nI (K i), V i, rd) := by
  unfold fX9_takes
  by_cases hk : K i = 2
  · rw [if_pos (show nI (K i) = 2 by rw [hk]; rfl), in_v_v, (wi_b (V i) lo hi).resolve_left (fun q => h ⟨hk, q⟩), ob_s, if_pos rfl]
  · rw [if_neg (show ¬ nI (K i) = 2 from fun q => hk ((nI_eq (b := 2) (by have := (C i).2.2.2.2.1; omega) (by decide)).mp q))]
theorem spOk {u : Nat} {N : Nat → Int32} {n : Nat} {A S K : Nat → Nat} {V : Nat → Int32} (C : CH u N n A S K V) (i : Nat) (hk : K i = 3) : fX9_stops u (nI (S i)) (nI (A (i + 1) - S i)) (nI (K i)) (V i) N = some (1, nI (S (i + 1)), nI (A (i + 2) - S (i + 1)), nI (K (i + 1)), V (i + 1)) := by
  unfold fX9_stops
  rw [if_pos (show nI (K i) = 3 by rw [hk]; rfl), nI_add, show S i + (A (i + 1) - S i) = A (i + 1) by have := (C i).2.1; omega, (C (i + 1)).2.2.2.2.2.2, ob_s]
theorem spNo {u : Nat} {N : Nat → Int32} {n : Nat} {A S K : Nat → Nat} {V : Nat → Int32} (C : CH u N n A S K V) (i : Nat) (hk : ¬ K i = 3) : fX9_stops u (nI (S i)) (nI (A (i + 1) - S i)) (nI (K i)) (V i) N = some (0, nI (S i), nI (A (i + 1) - S i), nI (K i), V i) := by
  unfold fX9_stops
  rw [if_neg (show ¬ nI (K i) = 3 from fun q => hk ((nI_eq (b := 3) (by have := (C i).2.2.2.2.1; omega) (by decide)).mp q))]
