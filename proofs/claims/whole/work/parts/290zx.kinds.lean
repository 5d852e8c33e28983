theorem bs_n {p : Int32 × Int32} {c s : Int32} (h : c ≠ -1) : (bsN p c s).1 ≠ -1 := by
  unfold bsN
  by_cases c1 : p.1 = -1
  · rw [if_pos c1]; exact h
  · rw [if_neg c1]
    by_cases c2 : p.2 ≤ s
    · rw [if_pos c2]; exact c1
    · rw [if_neg c2]; exact h
/-- the reference's loop -/
theorem kd_r {u : Nat} (hu : 4000000 ≤ u) {N : Nat → Int32} {t : Nat} {x w : Nat → Nat} (L : LN N t x) (hp : ∀ f : Nat → Nat, suN (fun k => f (w k)) t = suN (fun k => f (x k)) t) (h1 : ∀ k, k < t → 1 ≤ w k ∧ w k ≤ 99) (ho : ∀ a b, a < b → b < t → w a ≤ w b) (p1 : Int32) (rf rf2 : Nat → Int32) (X : Option (Int32 × (Nat → Int32))) (hX : ∀ rec, fX9_kinds_b24 u p1 N rf rec ((rfN w t 98).1, (rfN w t 98).2, nI 99, rf2) = X) : jfix (fX9_kinds_b24 u p1 N rf) u (-1, 0, 1, rf2) = X := by
  have ht := L.1
  have hw9 : ∀ k, k < t → w k ≤ 99 := fun k hk => (h1 k hk).2
  refine jfix_to (fun d => ((rfN w t d).1, (rfN w t d).2, nI (1 + d), rf2)) 98 _ ?_ ?_ (by omega)
  · intro d hd rec
    obtain ⟨i1, s1, s2⟩ := ix_c h1 ho (d + 1)
    have er : rfN w t (d + 1) = if ixN w t (d + 1) = 0 ∨ ixN w t (d + 1) = t then rfN w t d else bsN (rfN w t d) (nI (d + 1)) (nI (ctN w t (ixN w t (d + 1)))) := rfl
    have pa : kpN x t 0 (d + 1) = ixN w t (d + 1) := pc_x hp 0 (d + 1)
    have pb : kpN x t (d + 1) 99 = t - ixN w t (d + 1) := by rw [pc_x hp, pc_g s2 i1 (Nat.le_refl t)]
    rw [er]
    have h87 : ∀ (z : Int32 × Int32), fX9_kinds_b87 u p1 N rf rec (z.1, z.2, nI (1 + d), rf2) = rec (z.1, z.2, nI (1 + (d + 1)), rf2) := by
      intro z
      unfold fX9_kinds_b87
      dsimp only
      rw [nI_1, blet_s]
      rfl
    unfold fX9_kinds_b24
    dsimp only
    have e0 : fX9_partOf u 0 (nI (1 + d)) N = some (nI (ixN w t (d + 1))) := by
      rw [← pa, Nat.add_comm 1 d]
      exact pt_r hu L (lo := 0) (by omega) (by omega)
    have e9 : fX9_partOf u (nI (1 + d)) 99 N = some (nI (t - ixN w t (d + 1))) := by
      rw [← pb, Nat.add_comm 1 d]
      exact pt_r hu L (hi := 99) (by omega) (by omega)
    rw [if_neg (show ¬ (99 : Int32) ≤ nI (1 + d) from nI_ge (b := 99) (by omega) (by decide)), e0, ob_s]
    by_cases c0 : ixN w t (d + 1) = 0
    · rw [if_pos (show nI (ixN w t (d + 1)) ≤ 0 by rw [c0]; decide), if_pos (Or.inl c0)]
      exact h87 _
    · rw [if_neg (show ¬ nI (ixN w t (d + 1)) ≤ 0 from nI_ge (a := 0) (by omega) (by omega)), e9, ob_s]
      by_cases c1 : ixN w t (d + 1) = t
      · rw [if_pos (show nI (t - ixN w t (d + 1)) ≤ 0 by rw [c1, Nat.sub_self]; decide), if_pos (Or.inr c1)]
        exact h87 _
      · rw [if_neg (show ¬ nI (t - ixN w t (d + 1)) ≤ 0 from nI_ge (a := 0) (by omega) (by omega)), if_neg (show ¬ (ixN w t (d + 1) = 0 ∨ ixN w t (d + 1) = t) by omega)]
        have q0 : fX9_spreadOf u 0 (nI (1 + d)) N = some (nI (seN w t 0 (ixN w t (d + 1)))) := by
          have h := sp_r hu L (lo := 0) (hi := d + 1) (by omega) (by omega) (isM_g hp ho s1 (by omega) i1)
          rw [sp_x hp, sp_g s1] at h
          rw [Nat.add_comm 1 d]
          exact h
        have q9 : fX9_spreadOf u (nI (1 + d)) 99 N = some (nI (seN w t (ixN w t (d + 1)) t)) := by
          have h := sp_r hu L (lo := d + 1) (hi := 99) (by omega) (by omega) (isM_g hp ho s2 (by omega) (Nat.le_refl t))
          rw [sp_x hp, sp_g s2] at h
          rw [Nat.add_comm 1 d]
          exact h
        rw [q0, ob_s, q9, ob_s, nI_add, blet_s, show seN w t 0 (ixN w t (d + 1)) + seN w t (ixN w t (d + 1)) t = ctN w t (ixN w t (d + 1)) from rfl, Nat.add_comm d 1]
        unfold bsN fX9_kinds_b81
        dsimp only
        by_cases d1 : (rfN w t d).1 = -1
        · simp only [if_pos d1]
          rw [Nat.add_comm 1 d] at h87
          rw [Nat.add_comm 1 d]
          exact h87 (nI (d + 1), nI (ctN w t (ixN w t (d + 1))))
        · simp only [if_neg d1]
          by_cases d2 : (rfN w t d).2 ≤ nI (ctN w t (ixN w t (1 + d)))
          · simp only [if_pos d2]
            rw [show 1 + (1 + d) = 1 + (d + 1) by omega]
            exact h87 (rfN w t d)
          · simp only [if_neg d2]
            rw [show 1 + (1 + d) = 1 + (d + 1) by omega]
            exact h87 (nI (1 + d), nI (ctN w t (ixN w t (1 + d))))
  · intro rec
    exact hX rec
/-- the class's loop -/
theorem kd_c {u : Nat} (hu : 4000000 ≤ u) {t : Nat} {w : Nat → Nat} {arr a0 cells : Nat → Int32} {q1 q2 : Int32} (ht : t ≤ 12) (h1 : ∀ k, k < t → 1 ≤ w k ∧ w k ≤ 99) (hw : ∀ k, k < t → arr k = nI (w k) ∧ w k ≤ 99) (ar : Int32) (X : Option (Int32 × Int32 × (Nat → Int32))) (hX : ∀ rec, fX0_divide_b29 u q1 q2 4 (nI t) a0 48 cells rec (nI t, (cfN w t (t - 1)).2, nI (1 + (t - 1)), (cfN w t (t - 1)).1, ar, arr) = X) : jfix (fX0_divide_b29 u q1 q2 4 (nI t) a0 48 cells) u (nI t, 0, 1, -1, ar, arr) = X := by
  refine jfix_to (fun d => (nI t, (cfN w t d).2, nI (1 + d), (cfN w t d).1, ar, arr)) (t - 1) _ ?_ ?_ (by omega)
  · intro d hd rec
    have ec : cfN w t (d + 1) = if w d = w (d + 1) then cfN w t d else bsN (cfN w t d) (nI (w d)) (nI (ctN w t (d + 1))) := rfl
    have h101 : ∀ (z : Int32 × Int32), fX0_divide_b101 u q1 q2 4 (nI t) a0 48 cells rec (nI t, z.2, nI (1 + d), z.1, ar, arr) = rec (nI t, z.2, nI (1 + (1 + d)), z.1, ar, arr) := by
      intro z
      unfold fX0_divide_b101
      dsimp only
      rw [nI_1, blet_s, Nat.add_comm 1 (1 + d)]
    have e1 : nI (1 + d) - 1 = nI d := by
      have h := subN (a := 1 + d) (b := 1) (by omega)
      rw [show 1 + d - 1 = d by omega] at h
      exact h
    have ha := hw d (by omega)
    have hb := hw (1 + d) (by omega)
    rw [ec]
    unfold fX0_divide_b29
    dsimp only
    rw [if_neg (nI_ge (show 1 + d < t by omega) (by omega)), e1, blet_s, jgN (by omega) (by omega), jgN (by omega) (by omega), nI_clamp (by omega), nI_clamp (by omega)]
    simp only [ha.1, hb.1, eqN (show w d < 2 ^ 31 by omega) (show w (1 + d) < 2 ^ 31 by omega), Nat.add_comm d 1]
    by_cases c : w d = w (1 + d)
    · simp only [if_pos c]
      exact h101 (cfN w t d)
    · simp only [if_neg c]
      have s0 := sp_c hu ht hw (show 0 < 1 + d by omega) (show 1 + d ≤ t by omega)
      have s9 := sp_c hu ht hw (show 1 + d < t by omega) (Nat.le_refl t)
      rw [show fX0_spread u 0 (nI (1 + d)) arr = some (nI (seN w t 0 (1 + d))) from s0, ob_s, show fX0_spread u (nI (1 + d)) (nI t) arr = some (nI (seN w t (1 + d) t)) from s9, ob_s, nI_add, blet_s, show seN w t 0 (1 + d) + seN w t (1 + d) t = ctN w t (1 + d) from rfl]
      unfold fX0_divide_b85
      dsimp only
      rw [e1, blet_s, jgN (by omega) (by omega), nI_clamp (by omega), ha.1, blet_s]
      unfold bsN
      by_cases d1 : (cfN w t d).1 = -1
      · simp only [if_pos d1]
        exact h101 (nI (w d), nI (ctN w t (1 + d)))
      · simp only [if_neg d1]
        by_cases d2 : (cfN w t d).2 ≤ nI (ctN w t (1 + d))
        · simp only [if_pos d2]
          exact h101 (cfN w t d)
        · simp only [if_neg d2]
          exact h101 (nI (w d), nI (ctN w t (1 + d)))
  · intro rec
    exact hX rec
theorem pv_kinds (u : Nat) (hu : 4000000 ≤ u) (N K Z rf : Nat → Int32) (sg : Int32) (Lm : Nat → Int64) (S cal cbl : Nat → Int32) (xfinds_cut xfinds_areTwoKinds : Int32) (xfinds_sorted : Nat → Int32) (p1 : Int32)(hR : RelC N K Z rf sg Lm S cal cbl) : ∃ (rc : Int32 × Int32 × Int32 × (Nat → Int32) × (Nat → Int32)) (rm : Int32 × (Nat → Int32)), fX8_kinds u p1 xfinds_cut xfinds_areTwoKinds rf xfinds_sorted (N 396) (cw 99 N) = some rc ∧ fX9_kinds u p1 N rf = some rm ∧ rc.1 = rm.1 ∧ RelAll N K Z rm.2 sg Lm S (N 392) (N 393) (N 394) (4 : Int32) (1 : Int32) (N 395) (1 : Int32) (N 396) (N 397) (1 : Int32) (3 : Int32) (8 : Int32) (N 191) (cw 0 N) (cw 12 N) (cw 24 N) (cw 40 N) (cw 48 N) (cw 50 N) (cw 98 N) (cw 99 N) (cw 147 N) (cw 153 N) (cw 154 N) (cw 175 N) (cw 192 N) rc.2.2.2.1 sg (S 0) (S 1) cal cbl := by
  obtain ⟨t, et, ht⟩ := rg_N (B := 12) hR.1.1.2.2.2.2.1
  have hI := hR.1.2.2.2.2.2.2.2.2.1
  have hX : ∀ k, k < t → ∃ y : Nat, N (99 + 4 * k) = nI y ∧ 1 ≤ y ∧ y ≤ 99 := fun k hk => rg_ex (A := 1) (B := 99) (hI k (by rw [et, nI_toInt (by omega)]; omega)).1
  obtain ⟨x, hx⟩ : ∃ x : Nat → Nat, ∀ k, k < t → N (99 + 4 * k) = nI (x k) ∧ 1 ≤ x k ∧ x k ≤ 99 := by
    have H : ∀ k : Nat, ∃ y : Nat, k < t → N (99 + 4 * k) = nI y ∧ 1 ≤ y ∧ y ≤ 99 := by
      intro k
      by_cases c : k < t
      · obtain ⟨y, hy⟩ := hX k c
        exact ⟨y, fun _ => hy⟩
      · exact ⟨0, fun h => absurd h c⟩
    obtain ⟨F, hF⟩ := Classical.axiomOfChoice H
    exact ⟨F, hF⟩
  have L : LN N t x := ⟨ht, et, hx⟩
  obtain ⟨arr, ea, w, hw, ho, hp⟩ := sortC hu (t := t) (x := x) (a0 := xfinds_sorted) (cells := cw 99 N) ht (fun k hk => ⟨by rw [show cw 99 N (k * 4) = N (99 + k * 4) from rfl, Nat.mul_comm k 4]; exact (hx k hk).1, (hx k hk).2.2⟩)
  have h1 : ∀ k, k < t → 1 ≤ w k ∧ w k ≤ 99 := by
    intro k hk
    refine ⟨?_, (hw k hk).2⟩
    refine Nat.pos_of_ne_zero (fun z => ?_)
    have e := hp (fun v => if v = 0 then 1 else 0)
    have e0 : suN (fun k => if x k = 0 then 1 else 0) t = 0 := by
      have h := suN_b (f := fun k => if x k = 0 then 1 else 0) (B := 0) t (fun j hj => by
        rw [if_neg (by have := (hx j hj).2.1; omega)]
        exact Nat.le_refl 0)
      rw [Nat.mul_zero] at h
      exact Nat.le_zero.mp h
    have e1 : k + 1 - k ≤ suN (fun k => if w k = 0 then 1 else 0) t := by
      rw [← suN_in (show k ≤ k + 1 by omega) t hk]
      refine suN_le t (fun j hj => ?_)
      by_cases c : k ≤ j ∧ j < k + 1
      · rw [if_pos c, if_pos (by rw [show j = k by omega]; exact z)]
        exact Nat.le_refl 1
      · rw [if_neg c]
        exact Nat.zero_le _
    have e2 : suN (fun k => if w k = 0 then 1 else 0) t = suN (fun k => if x k = 0 then 1 else 0) t := e
    omega
  have hrel := fun rf2 => Rel_rf rf2 hR
  unfold fX8_kinds fX9_kinds
  rw [in_0_1]
  rcases wi p1 0 1 (A := 0) (B := 1) rfl rfl with ⟨e, hr⟩ | ⟨e, hr⟩
  · rw [e, ob_s, ob_s, if_neg one0, if_neg one0]
    have hn1 : (t - 1 = 0 ∧ (cfN w t (t - 1)).1 = -1) ∨ 1 < t := by
      by_cases c : 1 < t
      · exact Or.inr c
      · exact Or.inl ⟨by omega, by rw [show t - 1 = 0 by omega]; rfl⟩
    have hcls : ∃ k2 : Int32, fX0_divide u xfinds_cut xfinds_areTwoKinds 4 (N 396) xfinds_sorted 48 (cw 99 N) = some ((cfN w t (t - 1)).1, k2, arr) ∧ ((cfN w t (t - 1)).1 ≠ -1 → k2 = if nI (seN w t 0 t) ≤ 2 * (cfN w t (t - 1)).2 then 0 else 1) := by
      unfold fX0_divide
      have e12 : (if (12 : Int32) < nI t then (12 : Int32) else nI t) = nI t := if_neg (show ¬ (12 : Int32) < nI t from nI_nlt (a := 12) ht (by decide))
      rw [et, e12, blet_s, ea, ob_s]
      by_cases c : (cfN w t (t - 1)).1 = -1
      · refine ⟨0, kd_c hu ht h1 hw xfinds_areTwoKinds _ (fun rec => ?_), fun q => absurd c q⟩
        unfold fX0_divide_b29
        dsimp only
        rw [if_pos (nI_le (by omega) (by omega)), if_pos c]
      · have h1t : 1 < t := hn1.resolve_left (fun q => c q.2)
        refine ⟨if nI (seN w t 0 t) ≤ 2 * (cfN w t (t - 1)).2 then 0 else 1, kd_c hu ht h1 hw xfinds_areTwoKinds _ (fun rec => ?_), fun _ => rfl⟩
        unfold fX0_divide_b29
        dsimp only
        rw [if_pos (nI_le (by omega) (by omega)), if_neg c, show fX0_spread u 0 (nI t) arr = some (nI (seN w t 0 t)) from sp_c hu ht hw (show 0 < t by omega) (Nat.le_refl t), ob_s]
        by_cases d : nI (seN w t 0 t) ≤ 2 * (cfN w t (t - 1)).2
        · rw [if_pos d, if_pos d]
        · rw [if_neg d, if_neg d]
    obtain ⟨k2, ec, hk2⟩ := hcls
    rw [ec, ob_s]
    have er := rf_e h1 ho
    dsimp only
    by_cases c : (cfN w t (t - 1)).1 = -1
    · have hrf : jfix (fX9_kinds_b24 u p1 N rf) u (-1, 0, 1, rf) = some (-1, rf) := kd_r hu L hp h1 ho p1 rf rf _ (fun rec => by
        rw [er]
        unfold fX9_kinds_b24 fX9_kinds_b102
        dsimp only
        rw [if_pos (show (99 : Int32) ≤ nI 99 by decide), if_pos c, c])
      rw [if_pos c, hrf]
      exact ⟨_, _, rfl, rfl, c, hrel _⟩
    · have h1t : 1 < t := hn1.resolve_left (fun q => c q.2)
      rw [if_neg c]
      by_cases c0 : p1 = 0
      · have hrf : jfix (fX9_kinds_b24 u p1 N rf) u (-1, 0, 1, rf) = some ((cfN w t (t - 1)).1, rf) := kd_r hu L hp h1 ho p1 rf rf _ (fun rec => by
          rw [er]
          unfold fX9_kinds_b24 fX9_kinds_b102
          dsimp only
          rw [if_pos (show (99 : Int32) ≤ nI 99 by decide), if_neg c, if_pos c0])
        rw [if_pos c0, hrf]
        exact ⟨_, _, rfl, rfl, rfl, hrel _⟩
      · have sA : SG w t 0 99 0 t := fun k hk => ⟨fun _ => ⟨Nat.zero_le _, hk⟩, fun _ => ⟨by have := h1 k hk; omega, (h1 k hk).2⟩⟩
        have q9 : fX9_spreadOf u 0 99 N = some (nI (seN w t 0 t)) := by
          have h := sp_r hu L (lo := 0) (hi := 99) (by omega) (by omega) (isM_g hp ho sA (by omega) (Nat.le_refl t))
          rw [sp_x hp, sp_g sA] at h
          exact h
        have hrf : jfix (fX9_kinds_b24 u p1 N rf) u (-1, 0, 1, rf) = some (if nI (seN w t 0 t) ≤ 2 * (cfN w t (t - 1)).2 then 0 else 1, rf) := kd_r hu L hp h1 ho p1 rf rf _ (fun rec => by
          rw [er]
          unfold fX9_kinds_b24
          dsimp only
          rw [if_pos (show (99 : Int32) ≤ nI 99 by decide), if_neg c, if_neg c0, q9, ob_s]
          by_cases d : nI (seN w t 0 t) ≤ 2 * (cfN w t (t - 1)).2
          · rw [if_pos d, if_pos d]
          · rw [if_neg d, if_neg d])
        rw [if_neg c0, hrf, hk2 c]
        by_cases d : nI (seN w t 0 t) ≤ 2 * (cfN w t (t - 1)).2
        · simp only [if_pos d]
          rw [if_pos True.intro]
          exact ⟨_, _, rfl, rfl, rfl, hrel _⟩
        · simp only [if_neg d]
          rw [if_neg one0]
          exact ⟨_, _, rfl, rfl, rfl, hrel _⟩
  · rw [e, ob_s, ob_s, if_pos rfl, if_pos rfl, bad8, bad9, ob_s, ob_s]
    exact ⟨_, _, rfl, rfl, rfl, hrel _⟩
