/-! numbers at hand: every Int32 that is told is nI n of a small n -/
theorem ob_s {α β : Type} (x : α) (k : α → Option β) : ob (some x) k = k x := rfl
theorem blet_s {α β : Type} (v : α) (k : α → β) : blet v k = k v := rfl
theorem lit32 (n : Nat) : (no_index (OfNat.ofNat n) : Int32) = nI (OfNat.ofNat n) := rfl
theorem jgN {ρ : Type} {i n : Nat} {e : Option ρ} (h : i < n) (h2 : i < 2 ^ 31) : jg (nI i) n e = e := by
  unfold jg
  rw [nI_clamp h2]
  exact if_pos ⟨nI_pos' h2, h⟩
theorem mulN (a b : Nat) : nI a * nI b = nI (a * b) := by
  unfold nI
  rw [Int32.ofNat_mul]
theorem subN {a b : Nat} (h : b ≤ a) : nI a - nI b = nI (a - b) := by
  have e : nI a = nI (a - b) + nI b := by rw [nI_add, Nat.sub_add_cancel h]
  rw [e, Int32.add_sub_cancel]
theorem eqN {a b : Nat} (ha : a < 2 ^ 31) (hb : b < 2 ^ 31) : (nI a = nI b) = (a = b) := propext (nI_eq ha hb)
theorem leN {a b : Nat} (ha : a < 2 ^ 31) (hb : b < 2 ^ 31) : (nI a ≤ nI b) = (a ≤ b) := propext (nI_leI ha hb)
theorem ltN {a b : Nat} (ha : a < 2 ^ 31) (hb : b < 2 ^ 31) : (nI a < nI b) = (a < b) := propext (nI_ltI ha hb)
theorem clampN {a : Nat} (ha : a < 2 ^ 31) : (nI a).toNatClampNeg = a := nI_clamp ha
theorem updE {f : Nat → Int32} {k j : Nat} {v : Int32} (h : j = k) : upd f k v j = v := if_pos h
theorem updN {f : Nat → Int32} {k j : Nat} {v : Int32} (h : j ≠ k) : upd f k v j = f j := if_neg h
theorem lt64 (a b : Int32) : (a.toInt64 < b.toInt64) = (a < b) := by
  apply propext
  rw [Int64.lt_iff_toInt_lt, Int32.lt_iff_toInt_lt, Int32.toInt_toInt64, Int32.toInt_toInt64]
theorem in32 {p a b : Int32} {A B : Int64} (hA : a.toInt64 = A) (hB : b.toInt64 = B) : fX9_in p.toInt64 A B = fX8_within p a b := by
  subst hA; subst hB
  unfold fX9_in fX8_within
  simp only [lg_cmp_lt, lg_cmp_gt, lt64]
