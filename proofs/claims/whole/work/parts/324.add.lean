/-! the methods that add a row -/
theorem app7_1 {r n : Nat} {a b c d : Int32} {f : Nat → Int32} (h : r < n) (hn : n < 2 ^ 20) : fX7_append a b c d (nI 1) (nI r) n f = some (nI r, nI (r + 1), upd f r a) := by
  unfold fX7_append
  simp (disch := omega) only [ob_s, blet_s, lit32, nI_add, put7, put7_no, Nat.mul_one, Nat.add_zero]
theorem app7_3 {r n : Nat} {a b c d : Int32} {f : Nat → Int32} (h : r * 3 + 3 ≤ n) (hn : n < 2 ^ 20) : fX7_append a b c d (nI 3) (nI r) n f = some (nI r, nI (r + 1), upd (upd (upd f (r * 3) a) (r * 3 + 1) b) (r * 3 + 2) c) := by
  unfold fX7_append
  simp (disch := omega) only [ob_s, blet_s, lit32, nI_add, put7, put7_no, Nat.add_zero]
theorem app7_4 {r n : Nat} {a b c d : Int32} {f : Nat → Int32} (h : r * 4 + 4 ≤ n) (hn : n < 2 ^ 20) : fX7_append a b c d (nI 4) (nI r) n f = some (nI r, nI (r + 1), upd (upd (upd (upd f (r * 4) a) (r * 4 + 1) b) (r * 4 + 2) c) (r * 4 + 3) d) := by
  unfold fX7_append
  simp (disch := omega) only [ob_s, blet_s, lit32, nI_add, put7, put7_no, Nat.add_zero]
theorem notes9 {w at_ : Nat} {a b c : Int32} {N : Nat → Int32} (hw : w < 6) (h : at_ + 2 < 392) : fX9_notes (nI w) (nI at_) a b c N = some (N (392 + w), upd (upd (upd (upd N at_ a) (at_ + 1) b) (at_ + 2) c) (392 + w) (N (392 + w) + 1)) := by
  unfold fX9_notes
  simp (disch := omega) only [ob_s, blet_s, lit32, nI_add, many9, jgN, clampN, updN]
theorem row3 {o r k : Nat} {a b c : Int32} {N : Nat → Int32} : upd (upd (upd (cw o N) (r * 3) a) (r * 3 + 1) b) (r * 3 + 2) c k = upd (upd (upd N (o + 3 * r) a) (o + 3 * r + 1) b) (o + 3 * r + 2) c (o + k) := by
  rw [cwE, cwE, cwE, show o + r * 3 = o + 3 * r by omega, show o + (r * 3 + 1) = o + 3 * r + 1 by omega, show o + (r * 3 + 2) = o + 3 * r + 2 by omega]
  rfl
theorem row4 {o r k : Nat} {a b c d : Int32} {N : Nat → Int32} : upd (upd (upd (upd (cw o N) (r * 4) a) (r * 4 + 1) b) (r * 4 + 2) c) (r * 4 + 3) d k = upd (upd (upd (upd N (o + 4 * r) a) (o + 4 * r + 1) b) (o + 4 * r + 2) c) (o + 4 * r + 3) d (o + k) := by
  rw [cwE, cwE, cwE, cwE, show o + r * 4 = o + 4 * r by omega, show o + (r * 4 + 1) = o + 4 * r + 1 by omega, show o + (r * 4 + 2) = o + 4 * r + 2 by omega, show o + (r * 4 + 3) = o + 4 * r + 3 by omega]
  rfl
theorem isArm9 (a b c : Int32) : fX9_isArm a b c = ob (fX8_within a 20 90) (fun r1 => if r1 = 0 then some 0 else ob (fX8_within b 1 99) (fun r2 => if r2 = 0 then some 0 else fX8_within c 0 9)) := by
  unfold fX9_isArm
  rw [in_20_90, in_1_99, in_0_9, ob_bool _ (wi_b _ _ _)]
theorem isHook9 (a b c : Int32) : fX9_isHook a b c = ob (fX8_within a 0 99) (fun r1 => if r1 = 0 then some 0 else ob (fX8_within b 0 99) (fun r2 => if r2 = 0 then some 0 else fX8_within c 0 a)) := by
  unfold fX9_isHook
  rw [in_0_99, in_0_99, in_0_v, ob_bool _ (wi_b _ _ _)]
theorem isDart9 (a b c d : Int32) : fX9_isDart a b c d = ob (fX8_within a 20 300) (fun r1 => if r1 = 0 then some 0 else ob (fX8_within b 1 99) (fun r2 => if r2 = 0 then some 0 else ob (fX8_within c 0 60) (fun r3 => if r3 = 0 then some 0 else fX8_within d 0 9))) := by
  unfold fX9_isDart
  rw [in_20_300, in_1_99, in_0_60, in_0_9, ob_bool _ (wi_b _ _ _)]
theorem added8 {a b c d : Int32} {w r n : Nat} {rf f : Nat → Int32} (hw : (r + 1) * w < 2 ^ 31) (hn : n < 2 ^ 31) : fX8_added a b c d (nI w) (nI r) rf n f = if (r + 1) * w ≤ n then ob (fX7_append a b c d (nI w) (nI r) n f) (fun r2 => some (r2.1, r2.2.1, rf, r2.2.2)) else some (-4, nI r, upd rf 2 (rf 2 + 1), f) := by
  unfold fX8_added
  rw [full7 hw hn]
  by_cases h : (r + 1) * w ≤ n
  · rw [if_pos h, if_pos h]; rfl
  · rw [if_neg h, if_neg h]; rfl
