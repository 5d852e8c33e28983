/-! BUTTS and THORNS that go together -/
def bcS (k : Nat) : Nat → Nat
  | 0 => 0
  | t + 1 => bcS k t + k / 2 ^ t % 2
def bcN (k : Nat) : Nat := bcS k 6
def npS (j s : Nat) : Nat → Nat
  | 0 => 0
  | t + 1 => npS j s t + (if s / 2 ^ t % 2 = 1 ∧ s - 2 ^ t < j then 1 else 0)
def npN (j s : Nat) : Nat := npS j s 6
theorem w_bc : ∀ k : Fin 64, fJ6_bitCount_0f7a4 (nI k.val) = some (nI (bcN k.val)) := by decide +kernel
theorem w_or : ∀ (k : Fin 64) (t : Fin 6), (nI k.val ||| ((1 : Int32) <<< (nI t.val &&& 31))) = nI (if k.val / 2 ^ t.val % 2 = 0 then k.val + 2 ^ t.val else k.val) := by decide +kernel
theorem w_bt : ∀ (k : Fin 64) (t : Fin 6), ((nI k.val >>> (nI t.val &&& 31)) &&& 1) = nI (k.val / 2 ^ t.val % 2) := by decide +kernel
theorem w_up : ∀ (k : Fin 64) (t : Fin 6), k.val / 2 ^ t.val % 2 = 0 → k.val + 2 ^ t.val < 64 ∧ bcN (k.val + 2 ^ t.val) = bcN k.val + 1 ∧ npN (k.val + 1) (k.val + 2 ^ t.val) = npN k.val (k.val + 2 ^ t.val) + 1 := by decide +kernel
theorem w_mo : ∀ (k s : Fin 64), npN k.val s.val ≤ npN (k.val + 1) s.val := by decide +kernel
theorem w_le : ∀ (k : Fin 64), npN k.val k.val ≤ 6 ∧ bcN k.val ≤ 6 ∧ (k.val ≠ 0 → 1 ≤ bcN k.val) := by decide +kernel
theorem w_l2 : ∀ (k s : Fin 64), npN k.val s.val ≤ 6 := by decide +kernel
theorem w_tw : ∀ (t t2 : Fin 6), 2 ^ t.val = 2 ^ t2.val → t.val = t2.val := by decide +kernel
def gI (ok : Nat → Bool) (k : Nat) (V : Nat → Nat) : Nat → Nat → Nat
  | 0 => V
  | t + 1 => fun s => if k / 2 ^ t % 2 = 0 ∧ ok t = true ∧ s = k + 2 ^ t then gI ok k V t s + V k else gI ok k V t s
theorem gI_no {ok : Nat → Bool} {k s : Nat} {V : Nat → Nat} : ∀ t, (∀ j, j < t → ¬ (k / 2 ^ j % 2 = 0 ∧ s = k + 2 ^ j)) → gI ok k V t s = V s := by
  intro t
  induction t with
  | zero => intro _; rfl
  | succ t ih =>
    intro h
    show (if k / 2 ^ t % 2 = 0 ∧ ok t = true ∧ s = k + 2 ^ t then _ else gI ok k V t s) = V s
    rw [if_neg (fun q => h t (by omega) ⟨q.1, q.2.2⟩)]
    exact ih (fun j hj => h j (by omega))
theorem gI_k {ok : Nat → Bool} {k : Nat} {V : Nat → Nat} (t : Nat) : gI ok k V t k = V k := gI_no t (fun j _ q => by have := Nat.two_pow_pos j; omega)
theorem gI_0 {ok : Nat → Bool} {k s : Nat} {V : Nat → Nat} (h : V k = 0) : ∀ t, gI ok k V t s = V s := by
  intro t
  induction t with
  | zero => rfl
  | succ t ih =>
    show (if k / 2 ^ t % 2 = 0 ∧ ok t = true ∧ s = k + 2 ^ t then gI ok k V t s + V k else gI ok k V t s) = V s
    rw [h, ih, Nat.add_zero, ite_self]
theorem gI_le {ok : Nat → Bool} {k s : Nat} {V : Nat → Nat} : ∀ t, t ≤ 6 → gI ok k V t s ≤ V s + V k := by
  intro t
  induction t with
  | zero => intro _; exact Nat.le_add_right _ _
  | succ t ih =>
    intro ht
    show (if k / 2 ^ t % 2 = 0 ∧ ok t = true ∧ s = k + 2 ^ t then gI ok k V t s + V k else gI ok k V t s) ≤ _
    split
    · rename_i c
      rw [gI_no t (fun j hj q => by
        have e : 2 ^ j = 2 ^ t := by omega
        have := w_tw ⟨j, by omega⟩ ⟨t, by omega⟩ e
        simp only at this
        omega)]
      exact Nat.le_refl _
    · exact ih (by omega)
def gwN (N : Nat → Int32) (nT b t : Nat) : Int32 := if nT ≤ t then 0 else if N 153 < (if 0 ≤ N (147 + b) - N (99 + 4 * t + 2) then N (147 + b) - N (99 + 4 * t + 2) else - (N (147 + b) - N (99 + 4 * t + 2))) then 0 else 1
def okB (N : Nat → Int32) (nT : Nat) (p1 p2 : Int32) (b t : Nat) : Bool := decide ((nI b = p1 → nI t = p2) ∧ gwN N nT b t = 1)
def VS (N : Nat → Int32) (nT nR : Nat) (p1 p2 : Int32) : Nat → Nat → Nat
  | 0 => fun s => if s = 0 then 1 else 0
  | k + 1 => if bcN k < nR then gI (okB N nT p1 p2 (bcN k)) k (VS N nT nR p1 p2 k) 6 else VS N nT nR p1 p2 k
def SS (N : Nat → Int32) (nT nR : Nat) (p1 p2 : Int32) : Nat → Nat
  | 0 => 0
  | k + 1 => SS N nT nR p1 p2 k + (if bcN k = nR then VS N nT nR p1 p2 k k else 0)
theorem VS_b {N : Nat → Int32} {nT nR : Nat} {p1 p2 : Int32} : ∀ k, k ≤ 64 → ∀ s, s < 64 → VS N nT nR p1 p2 k s ≤ npN k s * 6 ^ (bcN s - 1) + (if s = 0 then 1 else 0) := by
  intro k
  induction k with
  | zero =>
    intro _ s _
    exact Nat.le_add_left _ _
  | succ k ih =>
    intro hk s hs
    have h1 := ih (by omega) s hs
    have hkk := ih (by omega) k (by omega)
    have hm := w_mo ⟨k, by omega⟩ ⟨s, hs⟩
    have hl := w_le ⟨k, by omega⟩
    simp only at hm hl
    have hmm := Nat.mul_le_mul_right (6 ^ (bcN s - 1)) hm
    show (if bcN k < nR then gI (okB N nT p1 p2 (bcN k)) k (VS N nT nR p1 p2 k) 6 else VS N nT nR p1 p2 k) s ≤ _
    split
    · by_cases c : ∃ t, t < 6 ∧ k / 2 ^ t % 2 = 0 ∧ s = k + 2 ^ t
      · obtain ⟨t, ht, hbit, rfl⟩ := c
        have hu := w_up ⟨k, by omega⟩ ⟨t, ht⟩ hbit
        simp only at hu
        have hg := gI_le (ok := okB N nT p1 p2 (bcN k)) (k := k) (s := k + 2 ^ t) (V := VS N nT nR p1 p2 k) 6 (Nat.le_refl 6)
        have hp := Nat.two_pow_pos t
        rw [hu.2.1, Nat.add_sub_cancel] at h1 ⊢
        rw [hu.2.2, Nat.add_mul, Nat.one_mul]
        rw [if_neg (by omega)] at h1 ⊢
        have hk6 : VS N nT nR p1 p2 k k ≤ 6 ^ bcN k := by
          by_cases z : k = 0
          · subst z
            rw [if_pos rfl, show npN 0 0 = 0 by decide, Nat.zero_mul] at hkk
            exact Nat.le_trans hkk (by decide)
          · rw [if_neg z] at hkk
            obtain ⟨j, hj⟩ : ∃ j, bcN k = j + 1 := ⟨bcN k - 1, by have := hl.2.2 z; omega⟩
            rw [hj, Nat.add_sub_cancel] at hkk
            rw [hj, Nat.pow_succ]
            have := Nat.mul_le_mul_right (6 ^ j) hl.1
            omega
        omega
      · rw [gI_no 6 (fun j hj q => c ⟨j, hj, q.1, q.2⟩)]
        omega
    · omega
theorem VS_l {N : Nat → Int32} {nT nR : Nat} {p1 p2 : Int32} {k s : Nat} (hk : k < 64) (hs : s < 64) : VS N nT nR p1 p2 k s ≤ 46657 := by
  have h := VS_b (N := N) (nT := nT) (nR := nR) (p1 := p1) (p2 := p2) k (by omega) s hs
  have h1 := w_l2 ⟨k, hk⟩ ⟨s, hs⟩
  have h2 := w_le ⟨s, hs⟩
  simp only at h1 h2
  have h3 : 6 ^ (bcN s - 1) ≤ 6 ^ 5 := Nat.pow_le_pow_right (by decide) (by omega)
  have h4 : npN k s * 6 ^ (bcN s - 1) ≤ 6 * 6 ^ 5 := Nat.mul_le_mul h1 h3
  split at h <;> omega
theorem SS_b {N : Nat → Int32} {nT nR : Nat} {p1 p2 : Int32} : ∀ k, k ≤ 64 → SS N nT nR p1 p2 k ≤ 46657 * k := by
  intro k
  induction k with
  | zero => intro _; exact Nat.le_refl _
  | succ k ih =>
    intro hk
    have h1 := ih (by omega)
    have h2 := VS_l (N := N) (nT := nT) (nR := nR) (p1 := p1) (p2 := p2) (show k < 64 by omega) (show k < 64 by omega)
    show SS N nT nR p1 p2 k + (if bcN k = nR then VS N nT nR p1 p2 k k else 0) ≤ _
    split <;> omega
theorem gwC {N : Nat → Int32} {nT nR b t : Nat} (hb : b < nR) (hR : nR ≤ 6) (hT : nT ≤ 12) (ht : t < 6) : fX0_goTogether (nI b) (nI t) (nI nR) 1 (nI nT) (cw 147 N) (cw 153 N) (cw 99 N) = some (gwN N nT b t) := by
  have e2 : cw 99 N (t * 4 + 2) = N (99 + 4 * t + 2) := by unfold cw; congr 1; omega
  have e1 : cw 147 N (b * 1 + 0) = N (147 + b) := by unfold cw; congr 1; omega
  unfold fX0_goTogether gwN
  rw [has7 (by omega) (by omega), ob_s, if_pos hb, if_neg one0, has7 (by omega) (by omega), ob_s]
  by_cases c : nT ≤ t
  · rw [if_neg (show ¬ t < nT by omega), if_pos rfl, if_pos c]
  · rw [if_pos (show t < nT by omega), if_neg one0, if_neg c, show (0 : Int32) = nI 0 from rfl, show (1 : Int32) = nI 1 from rfl, cell7 hb (by decide) (by omega) (by omega) (by decide) (by decide), ob_s, e1, show (2 : Int32) = nI 2 from rfl, show (4 : Int32) = nI 4 from rfl, cell7 (show t < nT by omega) (by decide) (by omega) (by omega) (by decide) (by decide), ob_s, e2, blet_s, cell7 (by decide) (by decide) (by decide) (by decide) (by decide) (by decide), ob_s, show cw 153 N (0 * 1 + 0) = N 153 from rfl, show nI 0 - (N (147 + b) - N (99 + 4 * t + 2)) = - (N (147 + b) - N (99 + 4 * t + 2)) from Int32.zero_sub _]
    split <;> split <;> rfl
theorem gwC2 {N : Nat → Int32} {nT nR b t : Nat} (hb : nR ≤ b) (hb2 : b ≤ 6) : fX0_goTogether (nI b) (nI t) (nI nR) 1 (nI nT) (cw 147 N) (cw 153 N) (cw 99 N) = some 0 := by
  unfold fX0_goTogether
  rw [has7 (by omega) (by omega), ob_s, if_neg (show ¬ b < nR by omega), if_pos rfl]
theorem gwR {N : Nat → Int32} {nT b t : Nat} (m4 : fX9_many 4 N = some (nI nT)) (hT : nT ≤ 12) (hb : b < 6) (ht : t < 6) : fX9_goesWith (nI b) (nI t) N = some (gwN N nT b t) := by
  unfold fX9_goesWith fX9_goesWith_b44 gwN
  rw [m4, show (147 : Int32) = nI 147 from rfl, nI_add, blet_s, jgN (by omega) (by omega), show (99 : Int32) = nI 99 from rfl, show (4 : Int32) = nI 4 from rfl, show (2 : Int32) = nI 2 from rfl, mulN, nI_add, nI_add, blet_s, jgN (by omega) (by omega), nI_clamp (by omega), nI_clamp (by omega), blet_s, ob_s]
  simp only [leN (show nT < 2 ^ 31 by omega) (show t < 2 ^ 31 by omega)]
  by_cases c : nT ≤ t
  · rw [if_pos c, if_pos c]
  · rw [if_neg c, if_neg c]
    rw [show (153 : Int32) = nI 153 from rfl, jgN (by decide) (by decide), jgN (by decide) (by decide), nI_clamp (by decide)]
    by_cases d : 0 ≤ N (147 + b) - N (99 + 4 * t + 2)
    · rw [if_pos d, if_pos d]
      split <;> rfl
    · rw [if_neg d, if_neg d]
      split <;> rfl
