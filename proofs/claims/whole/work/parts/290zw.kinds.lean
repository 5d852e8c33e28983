def SG (w : Nat → Nat) (t lo hi a b : Nat) : Prop := ∀ k, k < t → ((lo < w k ∧ w k ≤ hi) ↔ (a ≤ k ∧ k < b))
theorem pc_x {x w : Nat → Nat} {t : Nat} (hp : ∀ f : Nat → Nat, suN (fun k => f (w k)) t = suN (fun k => f (x k)) t) (lo hi : Nat) : kpN x t lo hi = kpN w t lo hi := (hp (fun v => if lo < v ∧ v ≤ hi then 1 else 0)).symm
theorem sp_x {x w : Nat → Nat} {t : Nat} (hp : ∀ f : Nat → Nat, suN (fun k => f (w k)) t = suN (fun k => f (x k)) t) (lo hi m : Nat) : ksN x t lo hi m = ksN w t lo hi m := (hp (fun v => if lo < v ∧ v ≤ hi then dsN v m else 0)).symm
theorem pc_g {w : Nat → Nat} {t lo hi a b : Nat} (h : SG w t lo hi a b) (hab : a ≤ b) (hb : b ≤ t) : kpN w t lo hi = b - a := by
  rw [← suN_in hab t hb]
  exact suN_e t (fun k hk => by
    by_cases c : a ≤ k ∧ k < b
    · rw [if_pos c, if_pos ((h k hk).mpr c)]
    · rw [if_neg c, if_neg (fun q => c ((h k hk).mp q))])
theorem sp_g {w : Nat → Nat} {t lo hi a b m : Nat} (h : SG w t lo hi a b) : ksN w t lo hi m = sgN w t a b m :=
  suN_e t (fun k hk => by
    by_cases c : a ≤ k ∧ k < b
    · rw [if_pos c, if_pos ((h k hk).mpr c)]
    · rw [if_neg c, if_neg (fun q => c ((h k hk).mp q))])
theorem mono_w {w : Nat → Nat} {t : Nat} (ho : ∀ a b, a < b → b < t → w a ≤ w b) {i j : Nat} (h : i ≤ j) (hj : j < t) : w i ≤ w j := by
  by_cases e : i = j
  · rw [e]; exact Nat.le_refl _
  · exact ho i j (by omega) hj
theorem isM_g {x w : Nat → Nat} {t lo hi a b : Nat} (hp : ∀ f : Nat → Nat, suN (fun k => f (w k)) t = suN (fun k => f (x k)) t) (ho : ∀ a b, a < b → b < t → w a ≤ w b) (h : SG w t lo hi a b) (hab : a < b) (hb : b ≤ t) : isM x t lo hi (w (a + (b - a - 1) / 2)) := by
  obtain ⟨q, hq⟩ : ∃ q, q = a + (b - a - 1) / 2 := ⟨_, rfl⟩
  rw [← hq]
  have hqb : q < b := by omega
  have hs := (h q (by omega)).mpr ⟨by omega, hqb⟩
  have e := pc_g h (Nat.le_of_lt hab) hb
  unfold isM
  rw [pc_x hp lo hi, pc_x hp lo (w q), e]
  refine ⟨by omega, hs.2, Or.inr ?_, ?_⟩
  · have h1 : q + 1 - a ≤ kpN w t lo (w q) := by
      rw [← suN_in (show a ≤ q + 1 by omega) t (by omega)]
      refine suN_le t (fun k hk => ?_)
      by_cases c : a ≤ k ∧ k < q + 1
      · rw [if_pos c, if_pos ⟨((h k hk).mpr ⟨c.1, by omega⟩).1, mono_w ho (show k ≤ q by omega) (by omega)⟩]
        exact Nat.le_refl 1
      · rw [if_neg c]
        exact Nat.zero_le _
    omega
  · intro v hv1 hv2
    rw [pc_x hp lo v]
    have h1 : kpN w t lo v ≤ q - a := by
      rw [← suN_in (show a ≤ q by omega) t (by omega)]
      refine suN_le t (fun k hk => ?_)
      by_cases c : lo < w k ∧ w k ≤ v
      · have hk1 := (h k hk).mp ⟨c.1, by omega⟩
        have hk2 : k < q := by
          refine Nat.lt_of_not_le (fun z => ?_)
          have := mono_w ho z hk
          omega
        rw [if_pos c, if_pos ⟨hk1.1, hk2⟩]
        exact Nat.le_refl 1
      · rw [if_neg c]
        exact Nat.zero_le _
    omega
/-- the spread of one part, and of a cut -/
def seN (w : Nat → Nat) (t a b : Nat) : Nat := sgN w t a b (w (a + (b - a - 1) / 2))
def ctN (w : Nat → Nat) (t i : Nat) : Nat := seN w t 0 i + seN w t i t
theorem se_b {w : Nat → Nat} {t a b : Nat} (hw : ∀ k, k < t → w k ≤ 99) (hab : a < b) (hb : b ≤ t) : seN w t a b ≤ t * 99 := by
  refine suN_b t (fun k hk => ?_)
  split
  · exact ds_le (hw k hk) (hw _ (by omega))
  · exact Nat.zero_le _
def bsN (p : Int32 × Int32) (c s : Int32) : Int32 × Int32 := if p.1 = -1 then (c, s) else if p.2 ≤ s then p else (c, s)
def ixN (w : Nat → Nat) (t c : Nat) : Nat := kpN w t 0 c
def rfN (w : Nat → Nat) (t : Nat) : Nat → Int32 × Int32
  | 0 => (-1, 0)
  | d + 1 => if ixN w t (d + 1) = 0 ∨ ixN w t (d + 1) = t then rfN w t d else bsN (rfN w t d) (nI (d + 1)) (nI (ctN w t (ixN w t (d + 1))))
def cfN (w : Nat → Nat) (t : Nat) : Nat → Int32 × Int32
  | 0 => (-1, 0)
  | j + 1 => if w j = w (j + 1) then cfN w t j else bsN (cfN w t j) (nI (w j)) (nI (ctN w t (j + 1)))
theorem ix_e {w : Nat → Nat} {t c i : Nat} (h1 : ∀ k, k < t → 1 ≤ w k) (ho : ∀ a b, a < b → b < t → w a ≤ w b) (hi : i ≤ t) (ha : ∀ k, k < i → w k ≤ c) (hb : ∀ k, i ≤ k → k < t → c < w k) : ixN w t c = i ∧ SG w t 0 c 0 i := by
  have hs : SG w t 0 c 0 i := by
    intro k hk
    have := h1 k hk
    constructor
    · intro q
      refine ⟨Nat.zero_le _, Nat.lt_of_not_le (fun z => ?_)⟩
      have := hb k z hk
      omega
    · intro q
      exact ⟨by omega, ha k q.2⟩
  exact ⟨by unfold ixN; rw [pc_g hs (Nat.zero_le _) hi]; rfl, hs⟩
/-- every c cuts somewhere -/
theorem ix_c {w : Nat → Nat} {t : Nat} (h1 : ∀ k, k < t → 1 ≤ w k ∧ w k ≤ 99) (ho : ∀ a b, a < b → b < t → w a ≤ w b) (c : Nat) : ixN w t c ≤ t ∧ SG w t 0 c 0 (ixN w t c) ∧ SG w t c 99 (ixN w t c) t := by
  obtain ⟨i, ⟨i1, i2⟩, i3⟩ := pk_least (fun i => i ≤ t ∧ ∀ k, i ≤ k → k < t → c < w k) ⟨t, Nat.le_refl t, fun k a b => by omega⟩
  have ha : ∀ k, k < i → w k ≤ c := by
    intro k hk
    refine Nat.le_of_not_lt (fun z => ?_)
    refine i3 k hk ⟨by omega, fun j j1 j2 => ?_⟩
    have := mono_w ho j1 j2
    omega
  obtain ⟨e, s⟩ := ix_e (fun k hk => (h1 k hk).1) ho i1 ha i2
  rw [e]
  refine ⟨i1, s, fun k hk => ?_⟩
  have h9 := (h1 k hk).2
  constructor
  · intro q
    refine ⟨Nat.le_of_not_lt (fun z => ?_), hk⟩
    have := ha k z
    omega
  · intro q
    exact ⟨i2 k q.1 hk, h9⟩
theorem rf_st {w : Nat → Nat} {t d : Nat} : ∀ m, (∀ c, d < c → c ≤ d + m → ixN w t c = 0 ∨ ixN w t c = t) → rfN w t (d + m) = rfN w t d := by
  intro m
  induction m with
  | zero => intro _; rfl
  | succ m ih =>
    intro h
    show (if ixN w t (d + m + 1) = 0 ∨ ixN w t (d + m + 1) = t then rfN w t (d + m) else _) = _
    rw [if_pos (h (d + m + 1) (by omega) (by omega)), ih (fun c h1 h2 => h c h1 (by omega))]
theorem bs_k {p : Int32 × Int32} {c c2 s : Int32} (h : c ≠ -1) : bsN (bsN p c s) c2 s = bsN p c s := by
  have hs : s ≤ s := Int32.le_refl s
  unfold bsN
  by_cases c1 : p.1 = -1
  · rw [if_pos c1]
    dsimp only
    rw [if_neg h, if_pos hs]
  · rw [if_neg c1]
    by_cases c3 : p.2 ≤ s
    · rw [if_pos c3, if_neg c1, if_pos c3]
    · rw [if_neg c3]
      dsimp only
      rw [if_neg h, if_pos hs]
theorem rf_cf {w : Nat → Nat} {t : Nat} (h1 : ∀ k, k < t → 1 ≤ w k ∧ w k ≤ 99) (ho : ∀ a b, a < b → b < t → w a ≤ w b) : ∀ j, j < t → rfN w t (w j - 1) = cfN w t j := by
  intro j
  induction j with
  | zero =>
    intro ht
    have h := rf_st (w := w) (t := t) (d := 0) (w 0 - 1) (fun c c1 c2 => Or.inl (ix_e (fun k hk => (h1 k hk).1) ho (Nat.zero_le t) (fun k hk => by omega) (fun k _ hk => by have := mono_w ho (Nat.zero_le k) hk; omega)).1)
    rw [Nat.zero_add] at h
    exact h
  | succ j ih =>
    intro hj
    have i1 := ih (by omega)
    have hw := h1 j (by omega)
    have ec : cfN w t (j + 1) = if w j = w (j + 1) then cfN w t j else bsN (cfN w t j) (nI (w j)) (nI (ctN w t (j + 1))) := rfl
    rw [ec]
    by_cases c : w j = w (j + 1)
    · rw [if_pos c, ← c]
      exact i1
    · rw [if_neg c]
      have hlt : w j < w (j + 1) := by have := ho j (j + 1) (by omega) hj; omega
      have hix : ∀ d, w j ≤ d → d < w (j + 1) → ixN w t d = j + 1 := fun d d1 d2 => (ix_e (fun k hk => (h1 k hk).1) ho (by omega) (fun k hk => by have := mono_w ho (show k ≤ j by omega) (by omega); omega) (fun k k1 hk => by have := mono_w ho k1 hk; omega)).1
      have e1 : rfN w t (w j) = bsN (cfN w t j) (nI (w j)) (nI (ctN w t (j + 1))) := by
        obtain ⟨z, hz⟩ : ∃ z, w j = z + 1 := ⟨w j - 1, by omega⟩
        have er : rfN w t (z + 1) = if ixN w t (z + 1) = 0 ∨ ixN w t (z + 1) = t then rfN w t z else bsN (rfN w t z) (nI (z + 1)) (nI (ctN w t (ixN w t (z + 1)))) := rfl
        rw [hz, er, ← hz, hix (w j) (Nat.le_refl _) hlt, if_neg (by omega), show z = w j - 1 by omega, i1]
      have e2 : ∀ m, w j + m < w (j + 1) → rfN w t (w j + m) = rfN w t (w j) := by
        intro m
        induction m with
        | zero => intro _; rfl
        | succ m im =>
          intro hm
          have er : rfN w t (w j + m + 1) = if ixN w t (w j + m + 1) = 0 ∨ ixN w t (w j + m + 1) = t then rfN w t (w j + m) else bsN (rfN w t (w j + m)) (nI (w j + m + 1)) (nI (ctN w t (ixN w t (w j + m + 1)))) := rfl
          show rfN w t (w j + m + 1) = _
          rw [er, hix (w j + m + 1) (by omega) (by omega), if_neg (by omega), im (by omega), e1, bs_k (nI_nm (by omega))]
      rw [show w (j + 1) - 1 = w j + (w (j + 1) - 1 - w j) by omega, e2 _ (by omega), e1]
theorem rf_e {w : Nat → Nat} {t : Nat} (h1 : ∀ k, k < t → 1 ≤ w k ∧ w k ≤ 99) (ho : ∀ a b, a < b → b < t → w a ≤ w b) : rfN w t 98 = cfN w t (t - 1) := by
  by_cases c : t = 0
  · subst c
    have h := rf_st (w := w) (t := 0) (d := 0) 98 (fun c _ _ => Or.inl rfl)
    exact h
  · rw [← rf_cf h1 ho (t - 1) (by omega)]
    have hw := h1 (t - 1) (by omega)
    have h := rf_st (w := w) (t := t) (d := w (t - 1) - 1) (98 - (w (t - 1) - 1)) (fun c c1 c2 => Or.inr (ix_e (fun k hk => (h1 k hk).1) ho (Nat.le_refl t) (fun k hk => by have := mono_w ho (show k ≤ t - 1 by omega) (by omega); omega) (fun k k1 hk => by omega)).1)
    rw [show w (t - 1) - 1 + (98 - (w (t - 1) - 1)) = 98 by omega] at h
    exact h
