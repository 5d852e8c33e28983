theorem rg_nI {p : Int32} {A B : Int} (h : rg p A B) (hA : 0 ≤ A) : ∃ n : Nat, p = nI n ∧ A ≤ (n : Int) ∧ (n : Int) ≤ B ∧ n < 2 ^ 31 := by
  obtain ⟨h1, h2⟩ := h
  have hb := Int32.toInt_lt p
  obtain ⟨j, hj, e⟩ := nI_of (x := p) (by rw [Int32.lt_iff_toInt_lt]; have : (0 : Int32).toInt = 0 := by decide
                                          omega)
  subst e
  rw [nI_toInt hj] at h1 h2
  exact ⟨j, rfl, h1, h2, hj⟩
theorem rg_of {n : Nat} {A B : Int} (h : n < 2 ^ 31) (h1 : A ≤ (n : Int)) (h2 : (n : Int) ≤ B) : rg (nI n) A B := by
  unfold rg
  rw [nI_toInt h]
  exact ⟨h1, h2⟩
theorem wi (p a b : Int32) {A B : Int} (ha : a.toInt = A) (hb : b.toInt = B) : (fX8_within p a b = some 1 ∧ rg p A B) ∨ (fX8_within p a b = some 0 ∧ ¬ rg p A B) := by
  subst ha; subst hb
  unfold fX8_within rg
  by_cases h1 : p < a
  · rw [if_pos h1]
    rw [Int32.lt_iff_toInt_lt] at h1
    exact Or.inr ⟨rfl, fun h => by omega⟩
  · rw [if_neg h1]
    by_cases h2 : b < p
    · rw [if_pos h2]
      rw [Int32.lt_iff_toInt_lt] at h2
      exact Or.inr ⟨rfl, fun h => by omega⟩
    · rw [if_neg h2]
      rw [Int32.lt_iff_toInt_lt] at h1 h2
      exact Or.inl ⟨rfl, by omega, by omega⟩
theorem ob_bool (x : Option Int32) (h : x = some 1 ∨ x = some 0) : ob x (fun r => if r = 0 then some (0 : Int32) else some 1) = x := by
  rcases h with h | h <;> subst h <;> rfl
theorem wi_b (p a b : Int32) : fX8_within p a b = some 1 ∨ fX8_within p a b = some 0 := (wi p a b rfl rfl).imp And.left And.left
theorem bad8 (p : Int32) (rf : Nat → Int32) : fX8_bad p rf = some (p, upd rf 0 (rf 0 + 1)) := rfl
theorem bad9 (p : Int32) (rf : Nat → Int32) : fX9_bad p rf = some (p, upd rf 0 (rf 0 + 1)) := rfl
theorem no8 (p : Int32) (rf : Nat → Int32) : fX8_no p rf = some (p, upd rf 1 (rf 1 + 1)) := rfl
theorem no9 (p : Int32) (rf : Nat → Int32) : fX9_no p rf = some (p, upd rf 1 (rf 1 + 1)) := rfl
theorem full8 (rf : Nat → Int32) : fX8_full rf = some (-4, upd rf 2 (rf 2 + 1)) := rfl
theorem full9 (rf : Nat → Int32) : fX9_full rf = some (-4, upd rf 2 (rf 2 + 1)) := rfl
theorem fits0 (v : Int32) : fX8_fits (0 : Int32) v = fX8_within v (20 : Int32) (90 : Int32) := ob_bool _ (wi_b _ _ _)
theorem fits1 (v : Int32) : fX8_fits (1 : Int32) v = fX8_within v (1 : Int32) (99 : Int32) := ob_bool _ (wi_b _ _ _)
theorem fits2 (v : Int32) : fX8_fits (2 : Int32) v = fX8_within v (0 : Int32) (9 : Int32) := ob_bool _ (wi_b _ _ _)
theorem fits3 (v : Int32) : fX8_fits (3 : Int32) v = fX8_within v (0 : Int32) (99 : Int32) := ob_bool _ (wi_b _ _ _)
theorem fits4 (v : Int32) : fX8_fits (4 : Int32) v = fX8_within v (0 : Int32) (99 : Int32) := ob_bool _ (wi_b _ _ _)
theorem fits5 (v : Int32) : fX8_fits (5 : Int32) v = fX8_within v (0 : Int32) (99 : Int32) := ob_bool _ (wi_b _ _ _)
theorem fits6 (v : Int32) : fX8_fits (6 : Int32) v = fX8_within v (20 : Int32) (300 : Int32) := ob_bool _ (wi_b _ _ _)
theorem fits7 (v : Int32) : fX8_fits (7 : Int32) v = fX8_within v (1 : Int32) (99 : Int32) := ob_bool _ (wi_b _ _ _)
theorem fits8 (v : Int32) : fX8_fits (8 : Int32) v = fX8_within v (0 : Int32) (60 : Int32) := ob_bool _ (wi_b _ _ _)
theorem fits9 (v : Int32) : fX8_fits (9 : Int32) v = fX8_within v (0 : Int32) (9 : Int32) := ob_bool _ (wi_b _ _ _)
theorem fits10 (v : Int32) : fX8_fits (10 : Int32) v = fX8_within v (0 : Int32) (6 : Int32) := ob_bool _ (wi_b _ _ _)
theorem fits11 (v : Int32) : fX8_fits (11 : Int32) v = fX8_within v (0 : Int32) (19 : Int32) := ob_bool _ (wi_b _ _ _)
theorem fits12 (v : Int32) : fX8_fits (12 : Int32) v = fX8_within v (0 : Int32) (6 : Int32) := ob_bool _ (wi_b _ _ _)
theorem in_m99_99 (p : Int32) : fX9_in (p.toInt64) (-99 : Int64) (99 : Int64) = fX8_within p (-99 : Int32) (99 : Int32) := in32 rfl rfl
theorem in_0_1 (p : Int32) : fX9_in (p.toInt64) (0 : Int64) (1 : Int64) = fX8_within p (0 : Int32) (1 : Int32) := in32 rfl rfl
theorem in_0_2 (p : Int32) : fX9_in (p.toInt64) (0 : Int64) (2 : Int64) = fX8_within p (0 : Int32) (2 : Int32) := in32 rfl rfl
theorem in_0_3 (p : Int32) : fX9_in (p.toInt64) (0 : Int64) (3 : Int64) = fX8_within p (0 : Int32) (3 : Int32) := in32 rfl rfl
theorem in_0_5 (p : Int32) : fX9_in (p.toInt64) (0 : Int64) (5 : Int64) = fX8_within p (0 : Int32) (5 : Int32) := in32 rfl rfl
theorem in_0_6 (p : Int32) : fX9_in (p.toInt64) (0 : Int64) (6 : Int64) = fX8_within p (0 : Int32) (6 : Int32) := in32 rfl rfl
theorem in_0_7 (p : Int32) : fX9_in (p.toInt64) (0 : Int64) (7 : Int64) = fX8_within p (0 : Int32) (7 : Int32) := in32 rfl rfl
theorem in_0_9 (p : Int32) : fX9_in (p.toInt64) (0 : Int64) (9 : Int64) = fX8_within p (0 : Int32) (9 : Int32) := in32 rfl rfl
theorem in_0_10 (p : Int32) : fX9_in (p.toInt64) (0 : Int64) (10 : Int64) = fX8_within p (0 : Int32) (10 : Int32) := in32 rfl rfl
theorem in_0_19 (p : Int32) : fX9_in (p.toInt64) (0 : Int64) (19 : Int64) = fX8_within p (0 : Int32) (19 : Int32) := in32 rfl rfl
theorem in_0_30 (p : Int32) : fX9_in (p.toInt64) (0 : Int64) (30 : Int64) = fX8_within p (0 : Int32) (30 : Int32) := in32 rfl rfl
theorem in_0_60 (p : Int32) : fX9_in (p.toInt64) (0 : Int64) (60 : Int64) = fX8_within p (0 : Int32) (60 : Int32) := in32 rfl rfl
theorem in_0_99 (p : Int32) : fX9_in (p.toInt64) (0 : Int64) (99 : Int64) = fX8_within p (0 : Int32) (99 : Int32) := in32 rfl rfl
theorem in_0_999 (p : Int32) : fX9_in (p.toInt64) (0 : Int64) (999 : Int64) = fX8_within p (0 : Int32) (999 : Int32) := in32 rfl rfl
theorem in_1_8 (p : Int32) : fX9_in (p.toInt64) (1 : Int64) (8 : Int64) = fX8_within p (1 : Int32) (8 : Int32) := in32 rfl rfl
theorem in_1_30 (p : Int32) : fX9_in (p.toInt64) (1 : Int64) (30 : Int64) = fX8_within p (1 : Int32) (30 : Int32) := in32 rfl rfl
theorem in_1_99 (p : Int32) : fX9_in (p.toInt64) (1 : Int64) (99 : Int64) = fX8_within p (1 : Int32) (99 : Int32) := in32 rfl rfl
theorem in_1_20000 (p : Int32) : fX9_in (p.toInt64) (1 : Int64) (20000 : Int64) = fX8_within p (1 : Int32) (20000 : Int32) := in32 rfl rfl
theorem in_20_90 (p : Int32) : fX9_in (p.toInt64) (20 : Int64) (90 : Int64) = fX8_within p (20 : Int32) (90 : Int32) := in32 rfl rfl
theorem in_20_300 (p : Int32) : fX9_in (p.toInt64) (20 : Int64) (300 : Int64) = fX8_within p (20 : Int32) (300 : Int32) := in32 rfl rfl
theorem in_48_57 (p : Int32) : fX9_in (p.toInt64) (48 : Int64) (57 : Int64) = fX8_within p (48 : Int32) (57 : Int32) := in32 rfl rfl
theorem in_97_122 (p : Int32) : fX9_in (p.toInt64) (97 : Int64) (122 : Int64) = fX8_within p (97 : Int32) (122 : Int32) := in32 rfl rfl
theorem in_0_v (p b : Int32) : fX9_in p.toInt64 (0 : Int64) b.toInt64 = fX8_within p 0 b := in32 rfl rfl
theorem in_20_v (p b : Int32) : fX9_in p.toInt64 (20 : Int64) b.toInt64 = fX8_within p 20 b := in32 rfl rfl
theorem in_v_v (p a b : Int32) : fX9_in p.toInt64 a.toInt64 b.toInt64 = fX8_within p a b := in32 rfl rfl
theorem jz_b (x : Option Int32) (h : x = some 1 ∨ x = some 0) : ob x (fun r => jz r (some r)) = x := by
  rcases h with h | h <;> subst h <;> rfl
theorem idx7 {r c w R n : Nat} (hr : r < R) (hc : c < w) (hat : r * w + c < n) (hR : R < 2 ^ 31) (hw : w < 2 ^ 31) (hn : n < 2 ^ 31) : fX7_indexOf (nI r) (nI c) (nI w) (nI R) n = some (nI (r * w + c)) := by
  unfold fX7_indexOf fX7_indexOf_b38
  rw [mulN, nI_add]
  show (if nI r < nI 0 then _ else if nI R ≤ nI r then _ else if nI c < nI 0 then _ else if nI w ≤ nI c then _ else _) = _
  rw [if_neg (nI_nlt (by omega) (by omega)), if_neg (nI_ge hr hR), if_neg (nI_nlt (by omega) (by omega)), if_neg (nI_ge hc hw)]
  show (if (1 : Int32) = 0 then _ else if nI n ≤ nI (r * w + c) then _ else _) = _
  rw [if_neg (by decide), if_neg (nI_ge hat hn)]
theorem idx7_no {r c w R n : Nat} (hc : w ≤ c) (h2 : c < 2 ^ 31) : fX7_indexOf (nI r) (nI c) (nI w) (nI R) n = some (-1) := by
  unfold fX7_indexOf fX7_indexOf_b38
  have e : nI w ≤ nI c := nI_le hc h2
  have t : fX7_indexOf_b37 (nI r) (nI c) (nI w) (nI R) n (nI r * nI w + nI c) = some (-1) := rfl
  rw [blet_s, t, if_pos e, ite_self, ite_self, ite_self]
theorem put7 {r c w R n : Nat} {v : Int32} {f : Nat → Int32} (hr : r < R) (hc : c < w) (hat : r * w + c < n) (hR : R < 2 ^ 31) (hw : w < 2 ^ 31) (hn : n < 2 ^ 31) : fX7_put (nI r) (nI c) v (nI w) (nI R) n f = some (f (r * w + c), upd f (r * w + c) v) := by
  unfold fX7_put
  rw [idx7 hr hc hat hR hw hn, ob_s, if_pos (nI_pos' (by omega)), jgN hat (by omega), blet_s, jgN hat (by omega), blet_s, nI_clamp (by omega)]
theorem put7_no {r c w R n : Nat} {v : Int32} {f : Nat → Int32} (hc : w ≤ c) (h2 : c < 2 ^ 31) : fX7_put (nI r) (nI c) v (nI w) (nI R) n f = some (0, f) := by
  unfold fX7_put
  rw [idx7_no hc h2]
  rfl
theorem cell7 {r c w R n : Nat} {f : Nat → Int32} (hr : r < R) (hc : c < w) (hat : r * w + c < n) (hR : R < 2 ^ 31) (hw : w < 2 ^ 31) (hn : n < 2 ^ 31) : fX7_cell (nI r) (nI c) (nI w) (nI R) n f = some (f (r * w + c)) := by
  unfold fX7_cell
  rw [idx7 hr hc hat hR hw hn, ob_s, if_pos (nI_pos' (by omega)), jgN hat (by omega), nI_clamp (by omega)]
theorem full7 {w R n : Nat} (h : (R + 1) * w < 2 ^ 31) (hn : n < 2 ^ 31) : fX7_isFull (nI w) (nI R) n = some (if (R + 1) * w ≤ n then 0 else 1) := by
  unfold fX7_isFull
  rw [nI_1, mulN]
  show (if nI ((R + 1) * w) ≤ nI n then _ else _) = _
  simp only [leN h hn]
  split <;> rfl
theorem has7 {r R : Nat} (hr : r < 2 ^ 31) (hR : R < 2 ^ 31) : fX7_has (nI r) (nI R) = some (if r < R then 1 else 0) := by
  unfold fX7_has
  rw [if_neg (nI_pos hr)]
  simp only [leN hR hr]
  by_cases h : r < R
  · rw [if_neg (by omega), if_pos h]
  · rw [if_pos (by omega), if_neg h]
theorem many9 {w : Nat} (N : Nat → Int32) (h : w < 6) : fX9_many (nI w) N = some (N (392 + w)) := by
  unfold fX9_many
  rw [lit32, nI_add, blet_s, jgN (by omega) (by omega), nI_clamp (by omega)]
