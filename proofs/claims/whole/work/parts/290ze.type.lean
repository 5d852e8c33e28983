def byB (v : Int64) (i : Nat) : Int32 := ((v >>> ((nI (8 * i)).toInt64 &&& 63)).toInt32) &&& 255
theorem sh_a : ∀ i : Fin 8, ((((nI (8 * i.val)).toInt64 &&& 63).toBitVec.smod 64).toNat) = 8 * i.val := by decide
theorem sh_b : ∀ i : Fin 8, (((nI (8 * i.val)).toInt64.toUInt64 &&& Int64.toUInt64 63).toBitVec % 64).toNat = 8 * i.val := by decide
theorem m255 : ∀ j : Fin 64, (255#64).getLsbD j.val = decide (j.val < 8) := by decide
theorem m255b : ∀ j : Fin 32, (255#32).getLsbD j.val = decide (j.val < 8) := by decide
theorem byB_eq (v : Int64) {i : Nat} (hi : i < 8) : (((v.toUInt64 >>> ((nI (8 * i)).toInt64.toUInt64 &&& Int64.toUInt64 63)).toInt64) &&& 255).toInt32 = byB v i := by
  apply Int32.toBitVec_inj.mp
  have e1 : (v.toUInt64 >>> ((nI (8 * i)).toInt64.toUInt64 &&& Int64.toUInt64 63)).toInt64.toBitVec = v.toBitVec >>> (8 * i) := by
    have h : (((nI (8 * i)).toInt64.toUInt64 &&& Int64.toUInt64 63).toBitVec % 64).toNat = 8 * i := sh_b ⟨i, hi⟩
    exact (UInt64.toBitVec_shiftRight _ _).trans (congrArg (fun z => v.toBitVec >>> z) h)
  have e2 : (v >>> ((nI (8 * i)).toInt64 &&& 63)).toBitVec = v.toBitVec.sshiftRight (8 * i) := by
    have h := sh_a ⟨i, hi⟩
    show v.toBitVec.sshiftRight ((((nI (8 * i)).toInt64 &&& 63).toBitVec.smod 64).toNat) = _
    rw [h]
  have l : ((((v.toUInt64 >>> ((nI (8 * i)).toInt64.toUInt64 &&& Int64.toUInt64 63)).toInt64) &&& 255).toInt32).toBitVec = ((v.toBitVec >>> (8 * i)) &&& 255#64).setWidth 32 := by
    rw [Int64.toBitVec_toInt32, BitVec.signExtend_eq_setWidth_of_le _ (by decide), Int64.toBitVec_and, e1]
    rfl
  have r : (byB v i).toBitVec = (v.toBitVec.sshiftRight (8 * i)).setWidth 32 &&& 255#32 := by
    unfold byB
    rw [Int32.toBitVec_and, Int64.toBitVec_toInt32, BitVec.signExtend_eq_setWidth_of_le _ (by decide), e2]
    rfl
  rw [l, r]
  apply BitVec.eq_of_getLsbD_eq
  intro j hj
  rw [BitVec.getLsbD_setWidth, BitVec.getLsbD_and, BitVec.getLsbD_and, BitVec.getLsbD_setWidth, BitVec.getLsbD_ushiftRight, BitVec.getLsbD_sshiftRight, m255 ⟨j, by omega⟩, m255b ⟨j, hj⟩]
  by_cases c : j < 8
  · have e3 : decide (64 ≤ j) = false := decide_eq_false (by omega)
    rw [e3, if_pos (by omega), decide_eq_true c, decide_eq_true hj]
    simp
  · have e4 : decide (j < 8) = false := decide_eq_false c
    simp only [e4, Bool.and_false]
theorem byB_b (v : Int64) (i : Nat) : rg (byB v i) 0 255 := by
  unfold byB
  rw [pk_and _ 8 (by decide)]
  have h := Nat.mod_lt ((v >>> ((nI (8 * i)).toInt64 &&& 63)).toInt32).toBitVec.toNat (show 0 < 2 ^ 8 by decide)
  exact rg_of (by omega) (by omega) (by omega)
def tyN (N : Nat → Int32) (v : Int64) (r n : Nat) : Nat → Nat → Int32
  | 0 => N
  | k + 1 => upd (upd (tyN N v r n k) (192 + (r + k)) (byB v (n - 1 - k))) 191 (nI (r + k + 1))
theorem tyN_191 {N : Nat → Int32} {v : Int64} {r n : Nat} (e : N 191 = nI r) : ∀ k, tyN N v r n k 191 = nI (r + k) := by
  intro k
  cases k with
  | zero => exact e
  | succ k => exact updE rfl
theorem tyN_o {N : Nat → Int32} {v : Int64} {r n : Nat} {j : Nat} : ∀ k, r + k ≤ 200 → (j < 192 ∨ 392 ≤ j) → j ≠ 191 → tyN N v r n k j = N j := by
  intro k
  induction k with
  | zero => intro _ _ _; rfl
  | succ k ih =>
    intro h h1 h2
    show upd (upd (tyN N v r n k) (192 + (r + k)) _) 191 _ j = N j
    rw [updN h2, updN (by omega)]
    exact ih (by omega) h1 h2
theorem tyN_b {N : Nat → Int32} {v : Int64} {r n : Nat} (h : ∀ i : Nat, i < r → rg (N (192 + i)) 0 255) : ∀ k, ∀ i : Nat, i < r + k → rg (tyN N v r n k (192 + i)) 0 255 := by
  intro k
  induction k with
  | zero => intro i hi; exact h i hi
  | succ k ih =>
    intro i hi
    show rg (upd (upd (tyN N v r n k) (192 + (r + k)) (byB v (n - 1 - k))) 191 (nI (r + k + 1)) (192 + i)) 0 255
    rw [updN (by omega)]
    by_cases c : i = r + k
    · rw [updE (by rw [c])]
      exact byB_b _ _
    · rw [updN (by omega)]
      exact ih i (by omega)
theorem pv_type (u : Nat) (hu : 4000000 ≤ u) (N K Z rf : Nat → Int32) (sg : Int32) (Lm : Nat → Int64) (S cal cbl : Nat → Int32)  (p1 : Int64) (p3 : Int32)(hR : RelC N K Z rf sg Lm S cal cbl) : ∃ (rc : Int32 × (Nat → Int32) × Int32 × (Nat → Int32)) (rm : Int32 × (Nat → Int32) × (Nat → Int32)), fX8_type u p1 p3 rf (N 191) (cw 192 N) = some rc ∧ fX9_type u p1 p3 N rf = some rm ∧ rc.1 = rm.1 ∧ RelAll rm.2.1 K Z rm.2.2 sg Lm S (N 392) (N 393) (N 394) (4 : Int32) (1 : Int32) (N 395) (1 : Int32) (N 396) (N 397) (1 : Int32) (3 : Int32) (8 : Int32) rc.2.2.1 (cw 0 N) (cw 12 N) (cw 24 N) (cw 40 N) (cw 48 N) (cw 50 N) (cw 98 N) (cw 99 N) (cw 147 N) (cw 153 N) (cw 154 N) (cw 175 N) rc.2.2.2 rc.2.1 sg (S 0) (S 1) cal cbl := by
  obtain ⟨r, er, hr⟩ := rg_N (B := 200) hR.1.1.2.2.2.2.2.2
  have tl : ∀ f : Nat → Int32, fX9_textLong f = some (f 191) := fun f => rfl
  unfold fX8_type fX9_type
  rw [in_1_8]
  rcases wi p3 1 8 (A := 1) (B := 8) rfl rfl with ⟨e1, h1⟩ | ⟨e1, h1⟩
  · obtain ⟨n, rfl, hn1, hn⟩ := rg_ex (A := 1) (B := 8) h1
    rw [e1, ob_s, if_neg one0, ob_s, if_neg one0, tl, ob_s, er, nI_add, show (200 : Int32) = nI 200 from rfl]
    by_cases c : r + n ≤ 200
    · rw [if_pos (nI_le c (by decide)), if_pos (nI_le c (by decide)), blet_s, blet_s]
      have hc := jfix_to (g := fX8_type_b45 u p1 (nI n) rf (nI r) (cw 192 N)) (fun k => (nI (n - k) - 1, rf, nI (r + k), cw 192 (tyN N p1 r n k))) n (some (nI (r + n), rf, nI (r + n), cw 192 (tyN N p1 r n n))) (u := u) (by
        intro k hk rec
        unfold fX8_type_b45
        dsimp only
        have en : nI (n - k) - 1 = nI (n - 1 - k) := by
          rw [show (1 : Int32) = nI 1 from rfl, subN (by omega)]
          congr 1
          omega
        rw [en, if_neg (nI_pos (by omega)), show (8 : Int32) = nI 8 from rfl, mulN]
        have eb : ((p1 >>> ((nI (8 * (n - 1 - k))).toInt64 &&& 63)).toInt32) &&& 255 = byB p1 (n - 1 - k) := rfl
        rw [eb]
        have ea : fX7_append (byB p1 (n - 1 - k)) 0 0 0 1 (nI (r + k)) 200 (cw 192 (tyN N p1 r n k)) = some (nI (r + k), nI (r + k + 1), upd (cw 192 (tyN N p1 r n k)) (r + k) (byB p1 (n - 1 - k))) := by
          unfold fX7_append
          simp (disch := omega) only [blet_s, ob_s, lit32, nI_add, put7, put7_no, Nat.mul_one, Nat.add_zero]
        rw [ea, ob_s, blet_s, cwE]
        have ew : cw 192 (upd (tyN N p1 r n k) (192 + (r + k)) (byB p1 (n - 1 - k))) = cw 192 (tyN N p1 r n (k + 1)) := by
          funext j
          show upd (tyN N p1 r n k) (192 + (r + k)) (byB p1 (n - 1 - k)) (192 + j) = upd (upd (tyN N p1 r n k) (192 + (r + k)) (byB p1 (n - 1 - k))) 191 (nI (r + k + 1)) (192 + j)
          rw [updN (j := 192 + j) (k := 191) (by omega)]
        rw [ew, show n - (k + 1) = n - 1 - k by omega, show nI (n - 1 - k) + -1 = nI (n - 1 - k) - 1 from (Int32.sub_eq_add_neg _ _).symm]
        rfl) (by
        intro rec
        unfold fX8_type_b45
        dsimp only
        rw [Nat.sub_self, if_pos (show nI 0 - 1 < 0 by decide)]) (by omega)
      have hd := jfix_to (g := fX9_type_b41 u p1 (nI n) N rf) (fun k => (nI (n - k) - 1, tyN N p1 r n k, rf)) n (some (nI (r + n), tyN N p1 r n n, rf)) (u := u) (by
        intro k hk rec
        unfold fX9_type_b41
        dsimp only
        have en : nI (n - k) - 1 = nI (n - 1 - k) := by
          rw [show (1 : Int32) = nI 1 from rfl, subN (by omega)]
          congr 1
          omega
        rw [en, if_neg (nI_pos (by omega)), tl, ob_s, tyN_191 er, show (192 : Int32) = nI 192 from rfl, nI_add, jgN (by omega) (by omega), nI_clamp (by omega), show (8 : Int32) = nI 8 from rfl, mulN, byB_eq p1 (by omega), blet_s, show (191 : Int32) = nI 191 from rfl, jgN (by decide) (by decide), jgN (by decide) (by decide), nI_clamp (by decide), updN (j := 191) (by omega), tyN_191 er, nI_1, blet_s, blet_s, show n - (k + 1) = n - 1 - k by omega, show nI (n - 1 - k) + -1 = nI (n - 1 - k) - 1 from (Int32.sub_eq_add_neg _ _).symm]
        rfl) (by
        intro rec
        unfold fX9_type_b41
        dsimp only
        rw [Nat.sub_self, if_pos (show nI 0 - 1 < 0 by decide), tl, ob_s, tyN_191 er]) (by omega)
      rw [show jfix (fX8_type_b45 u p1 (nI n) rf (nI r) (cw 192 N)) u (nI n - 1, rf, nI r, cw 192 N) = _ from hc, show jfix (fX9_type_b41 u p1 (nI n) N rf) u (nI n - 1, N, rf) = _ from hd]
      refine ⟨_, _, rfl, rfl, rfl, ?_⟩
      have e191 := tyN_191 (v := p1) (n := n) er n
      refine Rel2_plan hR (fun k _ h2 h3 => tyN_o n c h2 h3) (InvN_plan hR.1 (fun k _ h2 h3 => tyN_o n c h2 h3) ?_ ?_) e191.symm (fun k _ => rfl)
      · dsimp only
        rw [e191]
        exact rg_of (by omega) (by omega) (by omega)
      · intro i hi
        dsimp only at hi ⊢
        rw [e191, nI_toInt (by omega)] at hi
        refine tyN_b (fun j hj => ?_) n i (by omega)
        exact hR.1.2.2.2.2.2.2.2.2.2.2.2.2.2 j (by rw [er, nI_toInt (by omega)]; omega)
    · rw [if_neg (fun q => c ((nI_leI (by omega) (by decide)).mp q)), if_neg (fun q => c ((nI_leI (by omega) (by decide)).mp q)), ← er]
      exact ⟨_, _, rfl, rfl, rfl, Rel_rf _ hR⟩
  · rw [e1, ob_s, if_pos rfl, ob_s, if_pos rfl]
    exact ⟨_, _, rfl, rfl, rfl, Rel_rf _ hR⟩
