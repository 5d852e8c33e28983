/-! what stands in the row of numbers, one table changed -/
theorem InvN_arms {N N2 : Nat → Int32} (I : InvN N) (h : ∀ k : Nat, k < 398 → (k < 0 ∨ 12 ≤ k) → k ≠ 392 → N2 k = N k) (hc : rg (N2 392) 0 4) (ht : ∀ i : Nat, (i : Int) < (N2 392).toInt → rg (N2 (3 * i)) 20 90 ∧ rg (N2 (3 * i + 1)) 1 99 ∧ rg (N2 (3 * i + 2)) 0 9) : InvN N2 := by
  obtain ⟨⟨a0, a1, a2, a3, a4, a5, a6⟩, b0, b1, b2, b3, b4, b5, b6, b7, b8, b9, b10, b11, b12⟩ := I
  have c0 := a0.2
  have c1 := a1.2
  have c2 := a2.2
  have c3 := a3.2
  have c4 := a4.2
  have c5 := a5.2
  have c6 := a6.2
  refine ⟨⟨hc, (h 393 (by omega) (by omega) (by omega)) ▸ a1, (h 394 (by omega) (by omega) (by omega)) ▸ a2, (h 395 (by omega) (by omega) (by omega)) ▸ a3, (h 396 (by omega) (by omega) (by omega)) ▸ a4, (h 397 (by omega) (by omega) (by omega)) ▸ a5, (h 191 (by omega) (by omega) (by omega)) ▸ a6⟩, ht, ?_, ?_, ?_, ?_, ?_, ?_, ?_, ?_, ?_, ?_, ?_, ?_⟩
  · intro i hi
    rw [h 393 (by omega) (by omega) (by omega)] at hi
    rw [h _ (by omega) (by omega) (by omega), h _ (by omega) (by omega) (by omega), h _ (by omega) (by omega) (by omega)]
    exact b1 i hi
  · intro i hi
    rw [h 394 (by omega) (by omega) (by omega)] at hi
    rw [h _ (by omega) (by omega) (by omega), h _ (by omega) (by omega) (by omega), h _ (by omega) (by omega) (by omega), h _ (by omega) (by omega) (by omega)]
    exact b2 i hi
  · intro i hi
    rw [h _ (by omega) (by omega) (by omega), h _ (by omega) (by omega) (by omega)]
    exact b3 i hi
  · rw [h 48 (by omega) (by omega) (by omega), h 49 (by omega) (by omega) (by omega)]; exact b4
  · intro i hi
    rw [h 395 (by omega) (by omega) (by omega)] at hi
    rw [h _ (by omega) (by omega) (by omega), h _ (by omega) (by omega) (by omega), h _ (by omega) (by omega) (by omega)]
    exact b5 i hi
  · rw [h 98 (by omega) (by omega) (by omega)]; exact b6
  · intro i hi
    rw [h 396 (by omega) (by omega) (by omega)] at hi
    rw [h _ (by omega) (by omega) (by omega), h _ (by omega) (by omega) (by omega), h _ (by omega) (by omega) (by omega), h _ (by omega) (by omega) (by omega)]
    exact b7 i hi
  · intro i hi
    rw [h 397 (by omega) (by omega) (by omega)] at hi
    rw [h _ (by omega) (by omega) (by omega)]
    exact b8 i hi
  · rw [h 153 (by omega) (by omega) (by omega)]; exact b9
  · intro i hi
    refine ⟨?_, fun j hj => ?_⟩
    · rw [h _ (by omega) (by omega) (by omega)]; exact (b10 i hi).1
    · rw [h _ (by omega) (by omega) (by omega)]; exact (b10 i hi).2 j hj
  · intro i hi
    rw [h _ (by omega) (by omega) (by omega)]
    exact b11 i hi
  · intro i hi
    rw [h 191 (by omega) (by omega) (by omega)] at hi
    rw [h _ (by omega) (by omega) (by omega)]
    exact b12 i hi
theorem InvN_hooks {N N2 : Nat → Int32} (I : InvN N) (h : ∀ k : Nat, k < 398 → (k < 12 ∨ 24 ≤ k) → k ≠ 393 → N2 k = N k) (hc : rg (N2 393) 0 4) (ht : ∀ i : Nat, (i : Int) < (N2 393).toInt → rg (N2 (12 + 3 * i)) 0 99 ∧ rg (N2 (12 + 3 * i + 1)) 0 99 ∧ rg (N2 (12 + 3 * i + 2)) 0 (N2 (12 + 3 * i)).toInt) : InvN N2 := by
  obtain ⟨⟨a0, a1, a2, a3, a4, a5, a6⟩, b0, b1, b2, b3, b4, b5, b6, b7, b8, b9, b10, b11, b12⟩ := I
  have c0 := a0.2
  have c1 := a1.2
  have c2 := a2.2
  have c3 := a3.2
  have c4 := a4.2
  have c5 := a5.2
  have c6 := a6.2
  refine ⟨⟨(h 392 (by omega) (by omega) (by omega)) ▸ a0, hc, (h 394 (by omega) (by omega) (by omega)) ▸ a2, (h 395 (by omega) (by omega) (by omega)) ▸ a3, (h 396 (by omega) (by omega) (by omega)) ▸ a4, (h 397 (by omega) (by omega) (by omega)) ▸ a5, (h 191 (by omega) (by omega) (by omega)) ▸ a6⟩, ?_, ht, ?_, ?_, ?_, ?_, ?_, ?_, ?_, ?_, ?_, ?_, ?_⟩
  · intro i hi
    rw [h 392 (by omega) (by omega) (by omega)] at hi
    rw [h _ (by omega) (by omega) (by omega), h _ (by omega) (by omega) (by omega), h _ (by omega) (by omega) (by omega)]
    exact b0 i hi
  · intro i hi
    rw [h 394 (by omega) (by omega) (by omega)] at hi
    rw [h _ (by omega) (by omega) (by omega), h _ (by omega) (by omega) (by omega), h _ (by omega) (by omega) (by omega), h _ (by omega) (by omega) (by omega)]
    exact b2 i hi
  · intro i hi
    rw [h _ (by omega) (by omega) (by omega), h _ (by omega) (by omega) (by omega)]
    exact b3 i hi
  · rw [h 48 (by omega) (by omega) (by omega), h 49 (by omega) (by omega) (by omega)]; exact b4
  · intro i hi
    rw [h 395 (by omega) (by omega) (by omega)] at hi
    rw [h _ (by omega) (by omega) (by omega), h _ (by omega) (by omega) (by omega), h _ (by omega) (by omega) (by omega)]
    exact b5 i hi
  · rw [h 98 (by omega) (by omega) (by omega)]; exact b6
  · intro i hi
    rw [h 396 (by omega) (by omega) (by omega)] at hi
    rw [h _ (by omega) (by omega) (by omega), h _ (by omega) (by omega) (by omega), h _ (by omega) (by omega) (by omega), h _ (by omega) (by omega) (by omega)]
    exact b7 i hi
  · intro i hi
    rw [h 397 (by omega) (by omega) (by omega)] at hi
    rw [h _ (by omega) (by omega) (by omega)]
    exact b8 i hi
  · rw [h 153 (by omega) (by omega) (by omega)]; exact b9
  · intro i hi
    refine ⟨?_, fun j hj => ?_⟩
    · rw [h _ (by omega) (by omega) (by omega)]; exact (b10 i hi).1
    · rw [h _ (by omega) (by omega) (by omega)]; exact (b10 i hi).2 j hj
  · intro i hi
    rw [h _ (by omega) (by omega) (by omega)]
    exact b11 i hi
  · intro i hi
    rw [h 191 (by omega) (by omega) (by omega)] at hi
    rw [h _ (by omega) (by omega) (by omega)]
    exact b12 i hi
theorem InvN_darts {N N2 : Nat → Int32} (I : InvN N) (h : ∀ k : Nat, k < 398 → (k < 24 ∨ 40 ≤ k) → k ≠ 394 → N2 k = N k) (hc : rg (N2 394) 0 4) (ht : ∀ i : Nat, (i : Int) < (N2 394).toInt → rg (N2 (24 + 4 * i)) 20 300 ∧ rg (N2 (24 + 4 * i + 1)) 1 99 ∧ rg (N2 (24 + 4 * i + 2)) 0 60 ∧ rg (N2 (24 + 4 * i + 3)) 0 9) : InvN N2 := by
  obtain ⟨⟨a0, a1, a2, a3, a4, a5, a6⟩, b0, b1, b2, b3, b4, b5, b6, b7, b8, b9, b10, b11, b12⟩ := I
  have c0 := a0.2
  have c1 := a1.2
  have c2 := a2.2
  have c3 := a3.2
  have c4 := a4.2
  have c5 := a5.2
  have c6 := a6.2
  refine ⟨⟨(h 392 (by omega) (by omega) (by omega)) ▸ a0, (h 393 (by omega) (by omega) (by omega)) ▸ a1, hc, (h 395 (by omega) (by omega) (by omega)) ▸ a3, (h 396 (by omega) (by omega) (by omega)) ▸ a4, (h 397 (by omega) (by omega) (by omega)) ▸ a5, (h 191 (by omega) (by omega) (by omega)) ▸ a6⟩, ?_, ?_, ht, ?_, ?_, ?_, ?_, ?_, ?_, ?_, ?_, ?_, ?_⟩
  · intro i hi
    rw [h 392 (by omega) (by omega) (by omega)] at hi
    rw [h _ (by omega) (by omega) (by omega), h _ (by omega) (by omega) (by omega), h _ (by omega) (by omega) (by omega)]
    exact b0 i hi
  · intro i hi
    rw [h 393 (by omega) (by omega) (by omega)] at hi
    rw [h _ (by omega) (by omega) (by omega), h _ (by omega) (by omega) (by omega), h _ (by omega) (by omega) (by omega)]
    exact b1 i hi
  · intro i hi
    rw [h _ (by omega) (by omega) (by omega), h _ (by omega) (by omega) (by omega)]
    exact b3 i hi
  · rw [h 48 (by omega) (by omega) (by omega), h 49 (by omega) (by omega) (by omega)]; exact b4
  · intro i hi
    rw [h 395 (by omega) (by omega) (by omega)] at hi
    rw [h _ (by omega) (by omega) (by omega), h _ (by omega) (by omega) (by omega), h _ (by omega) (by omega) (by omega)]
    exact b5 i hi
  · rw [h 98 (by omega) (by omega) (by omega)]; exact b6
  · intro i hi
    rw [h 396 (by omega) (by omega) (by omega)] at hi
    rw [h _ (by omega) (by omega) (by omega), h _ (by omega) (by omega) (by omega), h _ (by omega) (by omega) (by omega), h _ (by omega) (by omega) (by omega)]
    exact b7 i hi
  · intro i hi
    rw [h 397 (by omega) (by omega) (by omega)] at hi
    rw [h _ (by omega) (by omega) (by omega)]
    exact b8 i hi
  · rw [h 153 (by omega) (by omega) (by omega)]; exact b9
  · intro i hi
    refine ⟨?_, fun j hj => ?_⟩
    · rw [h _ (by omega) (by omega) (by omega)]; exact (b10 i hi).1
    · rw [h _ (by omega) (by omega) (by omega)]; exact (b10 i hi).2 j hj
  · intro i hi
    rw [h _ (by omega) (by omega) (by omega)]
    exact b11 i hi
  · intro i hi
    rw [h 191 (by omega) (by omega) (by omega)] at hi
    rw [h _ (by omega) (by omega) (by omega)]
    exact b12 i hi
theorem InvN_stories {N N2 : Nat → Int32} (I : InvN N) (h : ∀ k : Nat, k < 398 → (k < 40 ∨ 48 ≤ k) → N2 k = N k) (ht : ∀ i : Nat, i < 4 → rg (N2 (40 + 2 * i)) 0 20 ∧ rg (N2 (40 + 2 * i + 1)) 0 9) : InvN N2 := by
  obtain ⟨⟨a0, a1, a2, a3, a4, a5, a6⟩, b0, b1, b2, b3, b4, b5, b6, b7, b8, b9, b10, b11, b12⟩ := I
  have c0 := a0.2
  have c1 := a1.2
  have c2 := a2.2
  have c3 := a3.2
  have c4 := a4.2
  have c5 := a5.2
  have c6 := a6.2
  refine ⟨⟨(h 392 (by omega) (by omega)) ▸ a0, (h 393 (by omega) (by omega)) ▸ a1, (h 394 (by omega) (by omega)) ▸ a2, (h 395 (by omega) (by omega)) ▸ a3, (h 396 (by omega) (by omega)) ▸ a4, (h 397 (by omega) (by omega)) ▸ a5, (h 191 (by omega) (by omega)) ▸ a6⟩, ?_, ?_, ?_, ht, ?_, ?_, ?_, ?_, ?_, ?_, ?_, ?_, ?_⟩
  · intro i hi
    rw [h 392 (by omega) (by omega)] at hi
    rw [h _ (by omega) (by omega), h _ (by omega) (by omega), h _ (by omega) (by omega)]
    exact b0 i hi
  · intro i hi
    rw [h 393 (by omega) (by omega)] at hi
    rw [h _ (by omega) (by omega), h _ (by omega) (by omega), h _ (by omega) (by omega)]
    exact b1 i hi
  · intro i hi
    rw [h 394 (by omega) (by omega)] at hi
    rw [h _ (by omega) (by omega), h _ (by omega) (by omega), h _ (by omega) (by omega), h _ (by omega) (by omega)]
    exact b2 i hi
  · rw [h 48 (by omega) (by omega), h 49 (by omega) (by omega)]; exact b4
  · intro i hi
    rw [h 395 (by omega) (by omega)] at hi
    rw [h _ (by omega) (by omega), h _ (by omega) (by omega), h _ (by omega) (by omega)]
    exact b5 i hi
  · rw [h 98 (by omega) (by omega)]; exact b6
  · intro i hi
    rw [h 396 (by omega) (by omega)] at hi
    rw [h _ (by omega) (by omega), h _ (by omega) (by omega), h _ (by omega) (by omega), h _ (by omega) (by omega)]
    exact b7 i hi
  · intro i hi
    rw [h 397 (by omega) (by omega)] at hi
    rw [h _ (by omega) (by omega)]
    exact b8 i hi
  · rw [h 153 (by omega) (by omega)]; exact b9
  · intro i hi
    refine ⟨?_, fun j hj => ?_⟩
    · rw [h _ (by omega) (by omega)]; exact (b10 i hi).1
    · rw [h _ (by omega) (by omega)]; exact (b10 i hi).2 j hj
  · intro i hi
    rw [h _ (by omega) (by omega)]
    exact b11 i hi
  · intro i hi
    rw [h 191 (by omega) (by omega)] at hi
    rw [h _ (by omega) (by omega)]
    exact b12 i hi
theorem InvN_tries {N N2 : Nat → Int32} (I : InvN N) (h : ∀ k : Nat, k < 398 → (k < 48 ∨ 50 ≤ k) → N2 k = N k) (ht : rg (N2 48) 0 30 ∧ rg (N2 49) 0 (N2 48).toInt) : InvN N2 := by
  obtain ⟨⟨a0, a1, a2, a3, a4, a5, a6⟩, b0, b1, b2, b3, b4, b5, b6, b7, b8, b9, b10, b11, b12⟩ := I
  have c0 := a0.2
  have c1 := a1.2
  have c2 := a2.2
  have c3 := a3.2
  have c4 := a4.2
  have c5 := a5.2
  have c6 := a6.2
  refine ⟨⟨(h 392 (by omega) (by omega)) ▸ a0, (h 393 (by omega) (by omega)) ▸ a1, (h 394 (by omega) (by omega)) ▸ a2, (h 395 (by omega) (by omega)) ▸ a3, (h 396 (by omega) (by omega)) ▸ a4, (h 397 (by omega) (by omega)) ▸ a5, (h 191 (by omega) (by omega)) ▸ a6⟩, ?_, ?_, ?_, ?_, ht, ?_, ?_, ?_, ?_, ?_, ?_, ?_, ?_⟩
  · intro i hi
    rw [h 392 (by omega) (by omega)] at hi
    rw [h _ (by omega) (by omega), h _ (by omega) (by omega), h _ (by omega) (by omega)]
    exact b0 i hi
  · intro i hi
    rw [h 393 (by omega) (by omega)] at hi
    rw [h _ (by omega) (by omega), h _ (by omega) (by omega), h _ (by omega) (by omega)]
    exact b1 i hi
  · intro i hi
    rw [h 394 (by omega) (by omega)] at hi
    rw [h _ (by omega) (by omega), h _ (by omega) (by omega), h _ (by omega) (by omega), h _ (by omega) (by omega)]
    exact b2 i hi
  · intro i hi
    rw [h _ (by omega) (by omega), h _ (by omega) (by omega)]
    exact b3 i hi
  · intro i hi
    rw [h 395 (by omega) (by omega)] at hi
    rw [h _ (by omega) (by omega), h _ (by omega) (by omega), h _ (by omega) (by omega)]
    exact b5 i hi
  · rw [h 98 (by omega) (by omega)]; exact b6
  · intro i hi
    rw [h 396 (by omega) (by omega)] at hi
    rw [h _ (by omega) (by omega), h _ (by omega) (by omega), h _ (by omega) (by omega), h _ (by omega) (by omega)]
    exact b7 i hi
  · intro i hi
    rw [h 397 (by omega) (by omega)] at hi
    rw [h _ (by omega) (by omega)]
    exact b8 i hi
  · rw [h 153 (by omega) (by omega)]; exact b9
  · intro i hi
    refine ⟨?_, fun j hj => ?_⟩
    · rw [h _ (by omega) (by omega)]; exact (b10 i hi).1
    · rw [h _ (by omega) (by omega)]; exact (b10 i hi).2 j hj
  · intro i hi
    rw [h _ (by omega) (by omega)]
    exact b11 i hi
  · intro i hi
    rw [h 191 (by omega) (by omega)] at hi
    rw [h _ (by omega) (by omega)]
    exact b12 i hi
theorem InvN_people {N N2 : Nat → Int32} (I : InvN N) (h : ∀ k : Nat, k < 398 → (k < 50 ∨ 98 ≤ k) → k ≠ 395 → N2 k = N k) (hc : rg (N2 395) 0 16) (ht : ∀ i : Nat, (i : Int) < (N2 395).toInt → rg (N2 (50 + 3 * i)) 0 1 ∧ rg (N2 (50 + 3 * i + 1)) 0 999 ∧ rg (N2 (50 + 3 * i + 2)) 0 1) : InvN N2 := by
  obtain ⟨⟨a0, a1, a2, a3, a4, a5, a6⟩, b0, b1, b2, b3, b4, b5, b6, b7, b8, b9, b10, b11, b12⟩ := I
  have c0 := a0.2
  have c1 := a1.2
  have c2 := a2.2
  have c3 := a3.2
  have c4 := a4.2
  have c5 := a5.2
  have c6 := a6.2
  refine ⟨⟨(h 392 (by omega) (by omega) (by omega)) ▸ a0, (h 393 (by omega) (by omega) (by omega)) ▸ a1, (h 394 (by omega) (by omega) (by omega)) ▸ a2, hc, (h 396 (by omega) (by omega) (by omega)) ▸ a4, (h 397 (by omega) (by omega) (by omega)) ▸ a5, (h 191 (by omega) (by omega) (by omega)) ▸ a6⟩, ?_, ?_, ?_, ?_, ?_, ht, ?_, ?_, ?_, ?_, ?_, ?_, ?_⟩
  · intro i hi
    rw [h 392 (by omega) (by omega) (by omega)] at hi
    rw [h _ (by omega) (by omega) (by omega), h _ (by omega) (by omega) (by omega), h _ (by omega) (by omega) (by omega)]
    exact b0 i hi
  · intro i hi
    rw [h 393 (by omega) (by omega) (by omega)] at hi
    rw [h _ (by omega) (by omega) (by omega), h _ (by omega) (by omega) (by omega), h _ (by omega) (by omega) (by omega)]
    exact b1 i hi
  · intro i hi
    rw [h 394 (by omega) (by omega) (by omega)] at hi
    rw [h _ (by omega) (by omega) (by omega), h _ (by omega) (by omega) (by omega), h _ (by omega) (by omega) (by omega), h _ (by omega) (by omega) (by omega)]
    exact b2 i hi
  · intro i hi
    rw [h _ (by omega) (by omega) (by omega), h _ (by omega) (by omega) (by omega)]
    exact b3 i hi
  · rw [h 48 (by omega) (by omega) (by omega), h 49 (by omega) (by omega) (by omega)]; exact b4
  · rw [h 98 (by omega) (by omega) (by omega)]; exact b6
  · intro i hi
    rw [h 396 (by omega) (by omega) (by omega)] at hi
    rw [h _ (by omega) (by omega) (by omega), h _ (by omega) (by omega) (by omega), h _ (by omega) (by omega) (by omega), h _ (by omega) (by omega) (by omega)]
    exact b7 i hi
  · intro i hi
    rw [h 397 (by omega) (by omega) (by omega)] at hi
    rw [h _ (by omega) (by omega) (by omega)]
    exact b8 i hi
  · rw [h 153 (by omega) (by omega) (by omega)]; exact b9
  · intro i hi
    refine ⟨?_, fun j hj => ?_⟩
    · rw [h _ (by omega) (by omega) (by omega)]; exact (b10 i hi).1
    · rw [h _ (by omega) (by omega) (by omega)]; exact (b10 i hi).2 j hj
  · intro i hi
    rw [h _ (by omega) (by omega) (by omega)]
    exact b11 i hi
  · intro i hi
    rw [h 191 (by omega) (by omega) (by omega)] at hi
    rw [h _ (by omega) (by omega) (by omega)]
    exact b12 i hi
theorem InvN_praise {N N2 : Nat → Int32} (I : InvN N) (h : ∀ k : Nat, k < 398 → (k < 98 ∨ 99 ≤ k) → N2 k = N k) (ht : rg (N2 98) (-99) 99) : InvN N2 := by
  obtain ⟨⟨a0, a1, a2, a3, a4, a5, a6⟩, b0, b1, b2, b3, b4, b5, b6, b7, b8, b9, b10, b11, b12⟩ := I
  have c0 := a0.2
  have c1 := a1.2
  have c2 := a2.2
  have c3 := a3.2
  have c4 := a4.2
  have c5 := a5.2
  have c6 := a6.2
  refine ⟨⟨(h 392 (by omega) (by omega)) ▸ a0, (h 393 (by omega) (by omega)) ▸ a1, (h 394 (by omega) (by omega)) ▸ a2, (h 395 (by omega) (by omega)) ▸ a3, (h 396 (by omega) (by omega)) ▸ a4, (h 397 (by omega) (by omega)) ▸ a5, (h 191 (by omega) (by omega)) ▸ a6⟩, ?_, ?_, ?_, ?_, ?_, ?_, ht, ?_, ?_, ?_, ?_, ?_, ?_⟩
  · intro i hi
    rw [h 392 (by omega) (by omega)] at hi
    rw [h _ (by omega) (by omega), h _ (by omega) (by omega), h _ (by omega) (by omega)]
    exact b0 i hi
  · intro i hi
    rw [h 393 (by omega) (by omega)] at hi
    rw [h _ (by omega) (by omega), h _ (by omega) (by omega), h _ (by omega) (by omega)]
    exact b1 i hi
  · intro i hi
    rw [h 394 (by omega) (by omega)] at hi
    rw [h _ (by omega) (by omega), h _ (by omega) (by omega), h _ (by omega) (by omega), h _ (by omega) (by omega)]
    exact b2 i hi
  · intro i hi
    rw [h _ (by omega) (by omega), h _ (by omega) (by omega)]
    exact b3 i hi
  · rw [h 48 (by omega) (by omega), h 49 (by omega) (by omega)]; exact b4
  · intro i hi
    rw [h 395 (by omega) (by omega)] at hi
    rw [h _ (by omega) (by omega), h _ (by omega) (by omega), h _ (by omega) (by omega)]
    exact b5 i hi
  · intro i hi
    rw [h 396 (by omega) (by omega)] at hi
    rw [h _ (by omega) (by omega), h _ (by omega) (by omega), h _ (by omega) (by omega), h _ (by omega) (by omega)]
    exact b7 i hi
  · intro i hi
    rw [h 397 (by omega) (by omega)] at hi
    rw [h _ (by omega) (by omega)]
    exact b8 i hi
  · rw [h 153 (by omega) (by omega)]; exact b9
  · intro i hi
    refine ⟨?_, fun j hj => ?_⟩
    · rw [h _ (by omega) (by omega)]; exact (b10 i hi).1
    · rw [h _ (by omega) (by omega)]; exact (b10 i hi).2 j hj
  · intro i hi
    rw [h _ (by omega) (by omega)]
    exact b11 i hi
  · intro i hi
    rw [h 191 (by omega) (by omega)] at hi
    rw [h _ (by omega) (by omega)]
    exact b12 i hi
theorem InvN_thorns {N N2 : Nat → Int32} (I : InvN N) (h : ∀ k : Nat, k < 398 → (k < 99 ∨ 147 ≤ k) → k ≠ 396 → N2 k = N k) (hc : rg (N2 396) 0 12) (ht : ∀ i : Nat, (i : Int) < (N2 396).toInt → rg (N2 (99 + 4 * i)) 1 99 ∧ rg (N2 (99 + 4 * i + 1)) 0 3 ∧ rg (N2 (99 + 4 * i + 2)) 1 30 ∧ rg (N2 (99 + 4 * i + 3)) 0 1) : InvN N2 := by
  obtain ⟨⟨a0, a1, a2, a3, a4, a5, a6⟩, b0, b1, b2, b3, b4, b5, b6, b7, b8, b9, b10, b11, b12⟩ := I
  have c0 := a0.2
  have c1 := a1.2
  have c2 := a2.2
  have c3 := a3.2
  have c4 := a4.2
  have c5 := a5.2
  have c6 := a6.2
  refine ⟨⟨(h 392 (by omega) (by omega) (by omega)) ▸ a0, (h 393 (by omega) (by omega) (by omega)) ▸ a1, (h 394 (by omega) (by omega) (by omega)) ▸ a2, (h 395 (by omega) (by omega) (by omega)) ▸ a3, hc, (h 397 (by omega) (by omega) (by omega)) ▸ a5, (h 191 (by omega) (by omega) (by omega)) ▸ a6⟩, ?_, ?_, ?_, ?_, ?_, ?_, ?_, ht, ?_, ?_, ?_, ?_, ?_⟩
  · intro i hi
    rw [h 392 (by omega) (by omega) (by omega)] at hi
    rw [h _ (by omega) (by omega) (by omega), h _ (by omega) (by omega) (by omega), h _ (by omega) (by omega) (by omega)]
    exact b0 i hi
  · intro i hi
    rw [h 393 (by omega) (by omega) (by omega)] at hi
    rw [h _ (by omega) (by omega) (by omega), h _ (by omega) (by omega) (by omega), h _ (by omega) (by omega) (by omega)]
    exact b1 i hi
  · intro i hi
    rw [h 394 (by omega) (by omega) (by omega)] at hi
    rw [h _ (by omega) (by omega) (by omega), h _ (by omega) (by omega) (by omega), h _ (by omega) (by omega) (by omega), h _ (by omega) (by omega) (by omega)]
    exact b2 i hi
  · intro i hi
    rw [h _ (by omega) (by omega) (by omega), h _ (by omega) (by omega) (by omega)]
    exact b3 i hi
  · rw [h 48 (by omega) (by omega) (by omega), h 49 (by omega) (by omega) (by omega)]; exact b4
  · intro i hi
    rw [h 395 (by omega) (by omega) (by omega)] at hi
    rw [h _ (by omega) (by omega) (by omega), h _ (by omega) (by omega) (by omega), h _ (by omega) (by omega) (by omega)]
    exact b5 i hi
  · rw [h 98 (by omega) (by omega) (by omega)]; exact b6
  · intro i hi
    rw [h 397 (by omega) (by omega) (by omega)] at hi
    rw [h _ (by omega) (by omega) (by omega)]
    exact b8 i hi
  · rw [h 153 (by omega) (by omega) (by omega)]; exact b9
  · intro i hi
    refine ⟨?_, fun j hj => ?_⟩
    · rw [h _ (by omega) (by omega) (by omega)]; exact (b10 i hi).1
    · rw [h _ (by omega) (by omega) (by omega)]; exact (b10 i hi).2 j hj
  · intro i hi
    rw [h _ (by omega) (by omega) (by omega)]
    exact b11 i hi
  · intro i hi
    rw [h 191 (by omega) (by omega) (by omega)] at hi
    rw [h _ (by omega) (by omega) (by omega)]
    exact b12 i hi
theorem InvN_butts {N N2 : Nat → Int32} (I : InvN N) (h : ∀ k : Nat, k < 398 → (k < 147 ∨ 153 ≤ k) → k ≠ 397 → N2 k = N k) (hc : rg (N2 397) 0 6) (ht : ∀ i : Nat, (i : Int) < (N2 397).toInt → rg (N2 (147 + i)) 1 30) : InvN N2 := by
  obtain ⟨⟨a0, a1, a2, a3, a4, a5, a6⟩, b0, b1, b2, b3, b4, b5, b6, b7, b8, b9, b10, b11, b12⟩ := I
  have c0 := a0.2
  have c1 := a1.2
  have c2 := a2.2
  have c3 := a3.2
  have c4 := a4.2
  have c5 := a5.2
  have c6 := a6.2
  refine ⟨⟨(h 392 (by omega) (by omega) (by omega)) ▸ a0, (h 393 (by omega) (by omega) (by omega)) ▸ a1, (h 394 (by omega) (by omega) (by omega)) ▸ a2, (h 395 (by omega) (by omega) (by omega)) ▸ a3, (h 396 (by omega) (by omega) (by omega)) ▸ a4, hc, (h 191 (by omega) (by omega) (by omega)) ▸ a6⟩, ?_, ?_, ?_, ?_, ?_, ?_, ?_, ?_, ht, ?_, ?_, ?_, ?_⟩
  · intro i hi
    rw [h 392 (by omega) (by omega) (by omega)] at hi
    rw [h _ (by omega) (by omega) (by omega), h _ (by omega) (by omega) (by omega), h _ (by omega) (by omega) (by omega)]
    exact b0 i hi
  · intro i hi
    rw [h 393 (by omega) (by omega) (by omega)] at hi
    rw [h _ (by omega) (by omega) (by omega), h _ (by omega) (by omega) (by omega), h _ (by omega) (by omega) (by omega)]
    exact b1 i hi
  · intro i hi
    rw [h 394 (by omega) (by omega) (by omega)] at hi
    rw [h _ (by omega) (by omega) (by omega), h _ (by omega) (by omega) (by omega), h _ (by omega) (by omega) (by omega), h _ (by omega) (by omega) (by omega)]
    exact b2 i hi
  · intro i hi
    rw [h _ (by omega) (by omega) (by omega), h _ (by omega) (by omega) (by omega)]
    exact b3 i hi
  · rw [h 48 (by omega) (by omega) (by omega), h 49 (by omega) (by omega) (by omega)]; exact b4
  · intro i hi
    rw [h 395 (by omega) (by omega) (by omega)] at hi
    rw [h _ (by omega) (by omega) (by omega), h _ (by omega) (by omega) (by omega), h _ (by omega) (by omega) (by omega)]
    exact b5 i hi
  · rw [h 98 (by omega) (by omega) (by omega)]; exact b6
  · intro i hi
    rw [h 396 (by omega) (by omega) (by omega)] at hi
    rw [h _ (by omega) (by omega) (by omega), h _ (by omega) (by omega) (by omega), h _ (by omega) (by omega) (by omega), h _ (by omega) (by omega) (by omega)]
    exact b7 i hi
  · rw [h 153 (by omega) (by omega) (by omega)]; exact b9
  · intro i hi
    refine ⟨?_, fun j hj => ?_⟩
    · rw [h _ (by omega) (by omega) (by omega)]; exact (b10 i hi).1
    · rw [h _ (by omega) (by omega) (by omega)]; exact (b10 i hi).2 j hj
  · intro i hi
    rw [h _ (by omega) (by omega) (by omega)]
    exact b11 i hi
  · intro i hi
    rw [h 191 (by omega) (by omega) (by omega)] at hi
    rw [h _ (by omega) (by omega) (by omega)]
    exact b12 i hi
theorem InvN_play {N N2 : Nat → Int32} (I : InvN N) (h : ∀ k : Nat, k < 398 → (k < 153 ∨ 154 ≤ k) → N2 k = N k) (ht : rg (N2 153) 0 9) : InvN N2 := by
  obtain ⟨⟨a0, a1, a2, a3, a4, a5, a6⟩, b0, b1, b2, b3, b4, b5, b6, b7, b8, b9, b10, b11, b12⟩ := I
  have c0 := a0.2
  have c1 := a1.2
  have c2 := a2.2
  have c3 := a3.2
  have c4 := a4.2
  have c5 := a5.2
  have c6 := a6.2
  refine ⟨⟨(h 392 (by omega) (by omega)) ▸ a0, (h 393 (by omega) (by omega)) ▸ a1, (h 394 (by omega) (by omega)) ▸ a2, (h 395 (by omega) (by omega)) ▸ a3, (h 396 (by omega) (by omega)) ▸ a4, (h 397 (by omega) (by omega)) ▸ a5, (h 191 (by omega) (by omega)) ▸ a6⟩, ?_, ?_, ?_, ?_, ?_, ?_, ?_, ?_, ?_, ht, ?_, ?_, ?_⟩
  · intro i hi
    rw [h 392 (by omega) (by omega)] at hi
    rw [h _ (by omega) (by omega), h _ (by omega) (by omega), h _ (by omega) (by omega)]
    exact b0 i hi
  · intro i hi
    rw [h 393 (by omega) (by omega)] at hi
    rw [h _ (by omega) (by omega), h _ (by omega) (by omega), h _ (by omega) (by omega)]
    exact b1 i hi
  · intro i hi
    rw [h 394 (by omega) (by omega)] at hi
    rw [h _ (by omega) (by omega), h _ (by omega) (by omega), h _ (by omega) (by omega), h _ (by omega) (by omega)]
    exact b2 i hi
  · intro i hi
    rw [h _ (by omega) (by omega), h _ (by omega) (by omega)]
    exact b3 i hi
  · rw [h 48 (by omega) (by omega), h 49 (by omega) (by omega)]; exact b4
  · intro i hi
    rw [h 395 (by omega) (by omega)] at hi
    rw [h _ (by omega) (by omega), h _ (by omega) (by omega), h _ (by omega) (by omega)]
    exact b5 i hi
  · rw [h 98 (by omega) (by omega)]; exact b6
  · intro i hi
    rw [h 396 (by omega) (by omega)] at hi
    rw [h _ (by omega) (by omega), h _ (by omega) (by omega), h _ (by omega) (by omega), h _ (by omega) (by omega)]
    exact b7 i hi
  · intro i hi
    rw [h 397 (by omega) (by omega)] at hi
    rw [h _ (by omega) (by omega)]
    exact b8 i hi
  · intro i hi
    refine ⟨?_, fun j hj => ?_⟩
    · rw [h _ (by omega) (by omega)]; exact (b10 i hi).1
    · rw [h _ (by omega) (by omega)]; exact (b10 i hi).2 j hj
  · intro i hi
    rw [h _ (by omega) (by omega)]
    exact b11 i hi
  · intro i hi
    rw [h 191 (by omega) (by omega)] at hi
    rw [h _ (by omega) (by omega)]
    exact b12 i hi
theorem InvN_sorts {N N2 : Nat → Int32} (I : InvN N) (h : ∀ k : Nat, k < 398 → (k < 154 ∨ 175 ≤ k) → N2 k = N k) (ht : ∀ i : Nat, i < 3 → rg (N2 (154 + 7 * i)) 0 9 ∧ ∀ j : Nat, j < 6 → rg (N2 (154 + 7 * i + 1 + j)) 0 99) : InvN N2 := by
  obtain ⟨⟨a0, a1, a2, a3, a4, a5, a6⟩, b0, b1, b2, b3, b4, b5, b6, b7, b8, b9, b10, b11, b12⟩ := I
  have c0 := a0.2
  have c1 := a1.2
  have c2 := a2.2
  have c3 := a3.2
  have c4 := a4.2
  have c5 := a5.2
  have c6 := a6.2
  refine ⟨⟨(h 392 (by omega) (by omega)) ▸ a0, (h 393 (by omega) (by omega)) ▸ a1, (h 394 (by omega) (by omega)) ▸ a2, (h 395 (by omega) (by omega)) ▸ a3, (h 396 (by omega) (by omega)) ▸ a4, (h 397 (by omega) (by omega)) ▸ a5, (h 191 (by omega) (by omega)) ▸ a6⟩, ?_, ?_, ?_, ?_, ?_, ?_, ?_, ?_, ?_, ?_, ht, ?_, ?_⟩
  · intro i hi
    rw [h 392 (by omega) (by omega)] at hi
    rw [h _ (by omega) (by omega), h _ (by omega) (by omega), h _ (by omega) (by omega)]
    exact b0 i hi
  · intro i hi
    rw [h 393 (by omega) (by omega)] at hi
    rw [h _ (by omega) (by omega), h _ (by omega) (by omega), h _ (by omega) (by omega)]
    exact b1 i hi
  · intro i hi
    rw [h 394 (by omega) (by omega)] at hi
    rw [h _ (by omega) (by omega), h _ (by omega) (by omega), h _ (by omega) (by omega), h _ (by omega) (by omega)]
    exact b2 i hi
  · intro i hi
    rw [h _ (by omega) (by omega), h _ (by omega) (by omega)]
    exact b3 i hi
  · rw [h 48 (by omega) (by omega), h 49 (by omega) (by omega)]; exact b4
  · intro i hi
    rw [h 395 (by omega) (by omega)] at hi
    rw [h _ (by omega) (by omega), h _ (by omega) (by omega), h _ (by omega) (by omega)]
    exact b5 i hi
  · rw [h 98 (by omega) (by omega)]; exact b6
  · intro i hi
    rw [h 396 (by omega) (by omega)] at hi
    rw [h _ (by omega) (by omega), h _ (by omega) (by omega), h _ (by omega) (by omega), h _ (by omega) (by omega)]
    exact b7 i hi
  · intro i hi
    rw [h 397 (by omega) (by omega)] at hi
    rw [h _ (by omega) (by omega)]
    exact b8 i hi
  · rw [h 153 (by omega) (by omega)]; exact b9
  · intro i hi
    rw [h _ (by omega) (by omega)]
    exact b11 i hi
  · intro i hi
    rw [h 191 (by omega) (by omega)] at hi
    rw [h _ (by omega) (by omega)]
    exact b12 i hi
theorem InvN_layers {N N2 : Nat → Int32} (I : InvN N) (h : ∀ k : Nat, k < 398 → (k < 175 ∨ 191 ≤ k) → N2 k = N k) (ht : ∀ i : Nat, i < 16 → rg (N2 (175 + i)) 0 99) : InvN N2 := by
  obtain ⟨⟨a0, a1, a2, a3, a4, a5, a6⟩, b0, b1, b2, b3, b4, b5, b6, b7, b8, b9, b10, b11, b12⟩ := I
  have c0 := a0.2
  have c1 := a1.2
  have c2 := a2.2
  have c3 := a3.2
  have c4 := a4.2
  have c5 := a5.2
  have c6 := a6.2
  refine ⟨⟨(h 392 (by omega) (by omega)) ▸ a0, (h 393 (by omega) (by omega)) ▸ a1, (h 394 (by omega) (by omega)) ▸ a2, (h 395 (by omega) (by omega)) ▸ a3, (h 396 (by omega) (by omega)) ▸ a4, (h 397 (by omega) (by omega)) ▸ a5, (h 191 (by omega) (by omega)) ▸ a6⟩, ?_, ?_, ?_, ?_, ?_, ?_, ?_, ?_, ?_, ?_, ?_, ht, ?_⟩
  · intro i hi
    rw [h 392 (by omega) (by omega)] at hi
    rw [h _ (by omega) (by omega), h _ (by omega) (by omega), h _ (by omega) (by omega)]
    exact b0 i hi
  · intro i hi
    rw [h 393 (by omega) (by omega)] at hi
    rw [h _ (by omega) (by omega), h _ (by omega) (by omega), h _ (by omega) (by omega)]
    exact b1 i hi
  · intro i hi
    rw [h 394 (by omega) (by omega)] at hi
    rw [h _ (by omega) (by omega), h _ (by omega) (by omega), h _ (by omega) (by omega), h _ (by omega) (by omega)]
    exact b2 i hi
  · intro i hi
    rw [h _ (by omega) (by omega), h _ (by omega) (by omega)]
    exact b3 i hi
  · rw [h 48 (by omega) (by omega), h 49 (by omega) (by omega)]; exact b4
  · intro i hi
    rw [h 395 (by omega) (by omega)] at hi
    rw [h _ (by omega) (by omega), h _ (by omega) (by omega), h _ (by omega) (by omega)]
    exact b5 i hi
  · rw [h 98 (by omega) (by omega)]; exact b6
  · intro i hi
    rw [h 396 (by omega) (by omega)] at hi
    rw [h _ (by omega) (by omega), h _ (by omega) (by omega), h _ (by omega) (by omega), h _ (by omega) (by omega)]
    exact b7 i hi
  · intro i hi
    rw [h 397 (by omega) (by omega)] at hi
    rw [h _ (by omega) (by omega)]
    exact b8 i hi
  · rw [h 153 (by omega) (by omega)]; exact b9
  · intro i hi
    refine ⟨?_, fun j hj => ?_⟩
    · rw [h _ (by omega) (by omega)]; exact (b10 i hi).1
    · rw [h _ (by omega) (by omega)]; exact (b10 i hi).2 j hj
  · intro i hi
    rw [h 191 (by omega) (by omega)] at hi
    rw [h _ (by omega) (by omega)]
    exact b12 i hi
theorem InvN_plan {N N2 : Nat → Int32} (I : InvN N) (h : ∀ k : Nat, k < 398 → (k < 192 ∨ 392 ≤ k) → k ≠ 191 → N2 k = N k) (hc : rg (N2 191) 0 200) (ht : ∀ i : Nat, (i : Int) < (N2 191).toInt → rg (N2 (192 + i)) 0 255) : InvN N2 := by
  obtain ⟨⟨a0, a1, a2, a3, a4, a5, a6⟩, b0, b1, b2, b3, b4, b5, b6, b7, b8, b9, b10, b11, b12⟩ := I
  have c0 := a0.2
  have c1 := a1.2
  have c2 := a2.2
  have c3 := a3.2
  have c4 := a4.2
  have c5 := a5.2
  have c6 := a6.2
  refine ⟨⟨(h 392 (by omega) (by omega) (by omega)) ▸ a0, (h 393 (by omega) (by omega) (by omega)) ▸ a1, (h 394 (by omega) (by omega) (by omega)) ▸ a2, (h 395 (by omega) (by omega) (by omega)) ▸ a3, (h 396 (by omega) (by omega) (by omega)) ▸ a4, (h 397 (by omega) (by omega) (by omega)) ▸ a5, hc⟩, ?_, ?_, ?_, ?_, ?_, ?_, ?_, ?_, ?_, ?_, ?_, ?_, ht⟩
  · intro i hi
    rw [h 392 (by omega) (by omega) (by omega)] at hi
    rw [h _ (by omega) (by omega) (by omega), h _ (by omega) (by omega) (by omega), h _ (by omega) (by omega) (by omega)]
    exact b0 i hi
  · intro i hi
    rw [h 393 (by omega) (by omega) (by omega)] at hi
    rw [h _ (by omega) (by omega) (by omega), h _ (by omega) (by omega) (by omega), h _ (by omega) (by omega) (by omega)]
    exact b1 i hi
  · intro i hi
    rw [h 394 (by omega) (by omega) (by omega)] at hi
    rw [h _ (by omega) (by omega) (by omega), h _ (by omega) (by omega) (by omega), h _ (by omega) (by omega) (by omega), h _ (by omega) (by omega) (by omega)]
    exact b2 i hi
  · intro i hi
    rw [h _ (by omega) (by omega) (by omega), h _ (by omega) (by omega) (by omega)]
    exact b3 i hi
  · rw [h 48 (by omega) (by omega) (by omega), h 49 (by omega) (by omega) (by omega)]; exact b4
  · intro i hi
    rw [h 395 (by omega) (by omega) (by omega)] at hi
    rw [h _ (by omega) (by omega) (by omega), h _ (by omega) (by omega) (by omega), h _ (by omega) (by omega) (by omega)]
    exact b5 i hi
  · rw [h 98 (by omega) (by omega) (by omega)]; exact b6
  · intro i hi
    rw [h 396 (by omega) (by omega) (by omega)] at hi
    rw [h _ (by omega) (by omega) (by omega), h _ (by omega) (by omega) (by omega), h _ (by omega) (by omega) (by omega), h _ (by omega) (by omega) (by omega)]
    exact b7 i hi
  · intro i hi
    rw [h 397 (by omega) (by omega) (by omega)] at hi
    rw [h _ (by omega) (by omega) (by omega)]
    exact b8 i hi
  · rw [h 153 (by omega) (by omega) (by omega)]; exact b9
  · intro i hi
    refine ⟨?_, fun j hj => ?_⟩
    · rw [h _ (by omega) (by omega) (by omega)]; exact (b10 i hi).1
    · rw [h _ (by omega) (by omega) (by omega)]; exact (b10 i hi).2 j hj
  · intro i hi
    rw [h _ (by omega) (by omega) (by omega)]
    exact b11 i hi
theorem cwE {o j : Nat} {N : Nat → Int32} {v : Int32} : upd (cw o N) j v = cw o (upd N (o + j) v) := by
  funext k
  unfold upd cw
  show (if k = j then v else N (o + k)) = (if o + k = o + j then v else N (o + k))
  by_cases h : k = j
  · subst h; rw [if_pos rfl, if_pos rfl]
  · rw [if_neg h, if_neg (by omega)]
theorem Rel_arms {N N2 K Z rf rf2 : Nat → Int32} {sg : Int32} {Lm : Nat → Int64} {S cal cbl : Nat → Int32} (hR : RelC N K Z rf sg Lm S cal cbl) (h : ∀ k : Nat, k < 398 → (k < 0 ∨ 12 ≤ k) → k ≠ 392 → N2 k = N k) (I : InvN N2) : RelAll N2 K Z rf2 sg Lm S (N2 392) (N 393) (N 394) 4 1 (N 395) 1 (N 396) (N 397) 1 3 8 (N 191) (cw 0 N2) (cw 12 N) (cw 24 N) (cw 40 N) (cw 48 N) (cw 50 N) (cw 98 N) (cw 99 N) (cw 147 N) (cw 153 N) (cw 154 N) (cw 175 N) (cw 192 N) rf2 sg (S 0) (S 1) cal cbl := ⟨I, hR.2.1, ⟨⟨rfl, (h 393 (by omega) (by omega) (by omega)).symm, (h 394 (by omega) (by omega) (by omega)).symm, rfl, rfl, (h 395 (by omega) (by omega) (by omega)).symm, rfl, (h 396 (by omega) (by omega) (by omega)).symm, (h 397 (by omega) (by omega) (by omega)).symm, rfl, rfl, rfl, (h 191 (by omega) (by omega) (by omega)).symm⟩, fun _ _ => rfl, fun k hk => (h (12 + k) (by omega) (by omega) (by omega)).symm, fun k hk => (h (24 + k) (by omega) (by omega) (by omega)).symm, fun k hk => (h (40 + k) (by omega) (by omega) (by omega)).symm, fun k hk => (h (48 + k) (by omega) (by omega) (by omega)).symm, fun k hk => (h (50 + k) (by omega) (by omega) (by omega)).symm, fun k hk => (h (98 + k) (by omega) (by omega) (by omega)).symm, fun k hk => (h (99 + k) (by omega) (by omega) (by omega)).symm, fun k hk => (h (147 + k) (by omega) (by omega) (by omega)).symm, fun k hk => (h (153 + k) (by omega) (by omega) (by omega)).symm, fun k hk => (h (154 + k) (by omega) (by omega) (by omega)).symm, fun k hk => (h (175 + k) (by omega) (by omega) (by omega)).symm, fun k hk => (h (192 + k) (by omega) (by omega) (by omega)).symm⟩, fun _ _ => rfl, hR.2.2.2.2⟩
theorem Rel_hooks {N N2 K Z rf rf2 : Nat → Int32} {sg : Int32} {Lm : Nat → Int64} {S cal cbl : Nat → Int32} (hR : RelC N K Z rf sg Lm S cal cbl) (h : ∀ k : Nat, k < 398 → (k < 12 ∨ 24 ≤ k) → k ≠ 393 → N2 k = N k) (I : InvN N2) : RelAll N2 K Z rf2 sg Lm S (N 392) (N2 393) (N 394) 4 1 (N 395) 1 (N 396) (N 397) 1 3 8 (N 191) (cw 0 N) (cw 12 N2) (cw 24 N) (cw 40 N) (cw 48 N) (cw 50 N) (cw 98 N) (cw 99 N) (cw 147 N) (cw 153 N) (cw 154 N) (cw 175 N) (cw 192 N) rf2 sg (S 0) (S 1) cal cbl := ⟨I, hR.2.1, ⟨⟨(h 392 (by omega) (by omega) (by omega)).symm, rfl, (h 394 (by omega) (by omega) (by omega)).symm, rfl, rfl, (h 395 (by omega) (by omega) (by omega)).symm, rfl, (h 396 (by omega) (by omega) (by omega)).symm, (h 397 (by omega) (by omega) (by omega)).symm, rfl, rfl, rfl, (h 191 (by omega) (by omega) (by omega)).symm⟩, fun k hk => (h (0 + k) (by omega) (by omega) (by omega)).symm, fun _ _ => rfl, fun k hk => (h (24 + k) (by omega) (by omega) (by omega)).symm, fun k hk => (h (40 + k) (by omega) (by omega) (by omega)).symm, fun k hk => (h (48 + k) (by omega) (by omega) (by omega)).symm, fun k hk => (h (50 + k) (by omega) (by omega) (by omega)).symm, fun k hk => (h (98 + k) (by omega) (by omega) (by omega)).symm, fun k hk => (h (99 + k) (by omega) (by omega) (by omega)).symm, fun k hk => (h (147 + k) (by omega) (by omega) (by omega)).symm, fun k hk => (h (153 + k) (by omega) (by omega) (by omega)).symm, fun k hk => (h (154 + k) (by omega) (by omega) (by omega)).symm, fun k hk => (h (175 + k) (by omega) (by omega) (by omega)).symm, fun k hk => (h (192 + k) (by omega) (by omega) (by omega)).symm⟩, fun _ _ => rfl, hR.2.2.2.2⟩
theorem Rel_darts {N N2 K Z rf rf2 : Nat → Int32} {sg : Int32} {Lm : Nat → Int64} {S cal cbl : Nat → Int32} (hR : RelC N K Z rf sg Lm S cal cbl) (h : ∀ k : Nat, k < 398 → (k < 24 ∨ 40 ≤ k) → k ≠ 394 → N2 k = N k) (I : InvN N2) : RelAll N2 K Z rf2 sg Lm S (N 392) (N 393) (N2 394) 4 1 (N 395) 1 (N 396) (N 397) 1 3 8 (N 191) (cw 0 N) (cw 12 N) (cw 24 N2) (cw 40 N) (cw 48 N) (cw 50 N) (cw 98 N) (cw 99 N) (cw 147 N) (cw 153 N) (cw 154 N) (cw 175 N) (cw 192 N) rf2 sg (S 0) (S 1) cal cbl := ⟨I, hR.2.1, ⟨⟨(h 392 (by omega) (by omega) (by omega)).symm, (h 393 (by omega) (by omega) (by omega)).symm, rfl, rfl, rfl, (h 395 (by omega) (by omega) (by omega)).symm, rfl, (h 396 (by omega) (by omega) (by omega)).symm, (h 397 (by omega) (by omega) (by omega)).symm, rfl, rfl, rfl, (h 191 (by omega) (by omega) (by omega)).symm⟩, fun k hk => (h (0 + k) (by omega) (by omega) (by omega)).symm, fun k hk => (h (12 + k) (by omega) (by omega) (by omega)).symm, fun _ _ => rfl, fun k hk => (h (40 + k) (by omega) (by omega) (by omega)).symm, fun k hk => (h (48 + k) (by omega) (by omega) (by omega)).symm, fun k hk => (h (50 + k) (by omega) (by omega) (by omega)).symm, fun k hk => (h (98 + k) (by omega) (by omega) (by omega)).symm, fun k hk => (h (99 + k) (by omega) (by omega) (by omega)).symm, fun k hk => (h (147 + k) (by omega) (by omega) (by omega)).symm, fun k hk => (h (153 + k) (by omega) (by omega) (by omega)).symm, fun k hk => (h (154 + k) (by omega) (by omega) (by omega)).symm, fun k hk => (h (175 + k) (by omega) (by omega) (by omega)).symm, fun k hk => (h (192 + k) (by omega) (by omega) (by omega)).symm⟩, fun _ _ => rfl, hR.2.2.2.2⟩
theorem Rel_stories {N N2 K Z rf rf2 : Nat → Int32} {sg : Int32} {Lm : Nat → Int64} {S cal cbl : Nat → Int32} (hR : RelC N K Z rf sg Lm S cal cbl) (h : ∀ k : Nat, k < 398 → (k < 40 ∨ 48 ≤ k) → N2 k = N k) (I : InvN N2) : RelAll N2 K Z rf2 sg Lm S (N 392) (N 393) (N 394) 4 1 (N 395) 1 (N 396) (N 397) 1 3 8 (N 191) (cw 0 N) (cw 12 N) (cw 24 N) (cw 40 N2) (cw 48 N) (cw 50 N) (cw 98 N) (cw 99 N) (cw 147 N) (cw 153 N) (cw 154 N) (cw 175 N) (cw 192 N) rf2 sg (S 0) (S 1) cal cbl := ⟨I, hR.2.1, ⟨⟨(h 392 (by omega) (by omega)).symm, (h 393 (by omega) (by omega)).symm, (h 394 (by omega) (by omega)).symm, rfl, rfl, (h 395 (by omega) (by omega)).symm, rfl, (h 396 (by omega) (by omega)).symm, (h 397 (by omega) (by omega)).symm, rfl, rfl, rfl, (h 191 (by omega) (by omega)).symm⟩, fun k hk => (h (0 + k) (by omega) (by omega)).symm, fun k hk => (h (12 + k) (by omega) (by omega)).symm, fun k hk => (h (24 + k) (by omega) (by omega)).symm, fun _ _ => rfl, fun k hk => (h (48 + k) (by omega) (by omega)).symm, fun k hk => (h (50 + k) (by omega) (by omega)).symm, fun k hk => (h (98 + k) (by omega) (by omega)).symm, fun k hk => (h (99 + k) (by omega) (by omega)).symm, fun k hk => (h (147 + k) (by omega) (by omega)).symm, fun k hk => (h (153 + k) (by omega) (by omega)).symm, fun k hk => (h (154 + k) (by omega) (by omega)).symm, fun k hk => (h (175 + k) (by omega) (by omega)).symm, fun k hk => (h (192 + k) (by omega) (by omega)).symm⟩, fun _ _ => rfl, hR.2.2.2.2⟩
theorem Rel_tries {N N2 K Z rf rf2 : Nat → Int32} {sg : Int32} {Lm : Nat → Int64} {S cal cbl : Nat → Int32} (hR : RelC N K Z rf sg Lm S cal cbl) (h : ∀ k : Nat, k < 398 → (k < 48 ∨ 50 ≤ k) → N2 k = N k) (I : InvN N2) : RelAll N2 K Z rf2 sg Lm S (N 392) (N 393) (N 394) 4 1 (N 395) 1 (N 396) (N 397) 1 3 8 (N 191) (cw 0 N) (cw 12 N) (cw 24 N) (cw 40 N) (cw 48 N2) (cw 50 N) (cw 98 N) (cw 99 N) (cw 147 N) (cw 153 N) (cw 154 N) (cw 175 N) (cw 192 N) rf2 sg (S 0) (S 1) cal cbl := ⟨I, hR.2.1, ⟨⟨(h 392 (by omega) (by omega)).symm, (h 393 (by omega) (by omega)).symm, (h 394 (by omega) (by omega)).symm, rfl, rfl, (h 395 (by omega) (by omega)).symm, rfl, (h 396 (by omega) (by omega)).symm, (h 397 (by omega) (by omega)).symm, rfl, rfl, rfl, (h 191 (by omega) (by omega)).symm⟩, fun k hk => (h (0 + k) (by omega) (by omega)).symm, fun k hk => (h (12 + k) (by omega) (by omega)).symm, fun k hk => (h (24 + k) (by omega) (by omega)).symm, fun k hk => (h (40 + k) (by omega) (by omega)).symm, fun _ _ => rfl, fun k hk => (h (50 + k) (by omega) (by omega)).symm, fun k hk => (h (98 + k) (by omega) (by omega)).symm, fun k hk => (h (99 + k) (by omega) (by omega)).symm, fun k hk => (h (147 + k) (by omega) (by omega)).symm, fun k hk => (h (153 + k) (by omega) (by omega)).symm, fun k hk => (h (154 + k) (by omega) (by omega)).symm, fun k hk => (h (175 + k) (by omega) (by omega)).symm, fun k hk => (h (192 + k) (by omega) (by omega)).symm⟩, fun _ _ => rfl, hR.2.2.2.2⟩
theorem Rel_people {N N2 K Z rf rf2 : Nat → Int32} {sg : Int32} {Lm : Nat → Int64} {S cal cbl : Nat → Int32} (hR : RelC N K Z rf sg Lm S cal cbl) (h : ∀ k : Nat, k < 398 → (k < 50 ∨ 98 ≤ k) → k ≠ 395 → N2 k = N k) (I : InvN N2) : RelAll N2 K Z rf2 sg Lm S (N 392) (N 393) (N 394) 4 1 (N2 395) 1 (N 396) (N 397) 1 3 8 (N 191) (cw 0 N) (cw 12 N) (cw 24 N) (cw 40 N) (cw 48 N) (cw 50 N2) (cw 98 N) (cw 99 N) (cw 147 N) (cw 153 N) (cw 154 N) (cw 175 N) (cw 192 N) rf2 sg (S 0) (S 1) cal cbl := ⟨I, hR.2.1, ⟨⟨(h 392 (by omega) (by omega) (by omega)).symm, (h 393 (by omega) (by omega) (by omega)).symm, (h 394 (by omega) (by omega) (by omega)).symm, rfl, rfl, rfl, rfl, (h 396 (by omega) (by omega) (by omega)).symm, (h 397 (by omega) (by omega) (by omega)).symm, rfl, rfl, rfl, (h 191 (by omega) (by omega) (by omega)).symm⟩, fun k hk => (h (0 + k) (by omega) (by omega) (by omega)).symm, fun k hk => (h (12 + k) (by omega) (by omega) (by omega)).symm, fun k hk => (h (24 + k) (by omega) (by omega) (by omega)).symm, fun k hk => (h (40 + k) (by omega) (by omega) (by omega)).symm, fun k hk => (h (48 + k) (by omega) (by omega) (by omega)).symm, fun _ _ => rfl, fun k hk => (h (98 + k) (by omega) (by omega) (by omega)).symm, fun k hk => (h (99 + k) (by omega) (by omega) (by omega)).symm, fun k hk => (h (147 + k) (by omega) (by omega) (by omega)).symm, fun k hk => (h (153 + k) (by omega) (by omega) (by omega)).symm, fun k hk => (h (154 + k) (by omega) (by omega) (by omega)).symm, fun k hk => (h (175 + k) (by omega) (by omega) (by omega)).symm, fun k hk => (h (192 + k) (by omega) (by omega) (by omega)).symm⟩, fun _ _ => rfl, hR.2.2.2.2⟩
theorem Rel_praise {N N2 K Z rf rf2 : Nat → Int32} {sg : Int32} {Lm : Nat → Int64} {S cal cbl : Nat → Int32} (hR : RelC N K Z rf sg Lm S cal cbl) (h : ∀ k : Nat, k < 398 → (k < 98 ∨ 99 ≤ k) → N2 k = N k) (I : InvN N2) : RelAll N2 K Z rf2 sg Lm S (N 392) (N 393) (N 394) 4 1 (N 395) 1 (N 396) (N 397) 1 3 8 (N 191) (cw 0 N) (cw 12 N) (cw 24 N) (cw 40 N) (cw 48 N) (cw 50 N) (cw 98 N2) (cw 99 N) (cw 147 N) (cw 153 N) (cw 154 N) (cw 175 N) (cw 192 N) rf2 sg (S 0) (S 1) cal cbl := ⟨I, hR.2.1, ⟨⟨(h 392 (by omega) (by omega)).symm, (h 393 (by omega) (by omega)).symm, (h 394 (by omega) (by omega)).symm, rfl, rfl, (h 395 (by omega) (by omega)).symm, rfl, (h 396 (by omega) (by omega)).symm, (h 397 (by omega) (by omega)).symm, rfl, rfl, rfl, (h 191 (by omega) (by omega)).symm⟩, fun k hk => (h (0 + k) (by omega) (by omega)).symm, fun k hk => (h (12 + k) (by omega) (by omega)).symm, fun k hk => (h (24 + k) (by omega) (by omega)).symm, fun k hk => (h (40 + k) (by omega) (by omega)).symm, fun k hk => (h (48 + k) (by omega) (by omega)).symm, fun k hk => (h (50 + k) (by omega) (by omega)).symm, fun _ _ => rfl, fun k hk => (h (99 + k) (by omega) (by omega)).symm, fun k hk => (h (147 + k) (by omega) (by omega)).symm, fun k hk => (h (153 + k) (by omega) (by omega)).symm, fun k hk => (h (154 + k) (by omega) (by omega)).symm, fun k hk => (h (175 + k) (by omega) (by omega)).symm, fun k hk => (h (192 + k) (by omega) (by omega)).symm⟩, fun _ _ => rfl, hR.2.2.2.2⟩
theorem Rel_thorns {N N2 K Z rf rf2 : Nat → Int32} {sg : Int32} {Lm : Nat → Int64} {S cal cbl : Nat → Int32} (hR : RelC N K Z rf sg Lm S cal cbl) (h : ∀ k : Nat, k < 398 → (k < 99 ∨ 147 ≤ k) → k ≠ 396 → N2 k = N k) (I : InvN N2) : RelAll N2 K Z rf2 sg Lm S (N 392) (N 393) (N 394) 4 1 (N 395) 1 (N2 396) (N 397) 1 3 8 (N 191) (cw 0 N) (cw 12 N) (cw 24 N) (cw 40 N) (cw 48 N) (cw 50 N) (cw 98 N) (cw 99 N2) (cw 147 N) (cw 153 N) (cw 154 N) (cw 175 N) (cw 192 N) rf2 sg (S 0) (S 1) cal cbl := ⟨I, hR.2.1, ⟨⟨(h 392 (by omega) (by omega) (by omega)).symm, (h 393 (by omega) (by omega) (by omega)).symm, (h 394 (by omega) (by omega) (by omega)).symm, rfl, rfl, (h 395 (by omega) (by omega) (by omega)).symm, rfl, rfl, (h 397 (by omega) (by omega) (by omega)).symm, rfl, rfl, rfl, (h 191 (by omega) (by omega) (by omega)).symm⟩, fun k hk => (h (0 + k) (by omega) (by omega) (by omega)).symm, fun k hk => (h (12 + k) (by omega) (by omega) (by omega)).symm, fun k hk => (h (24 + k) (by omega) (by omega) (by omega)).symm, fun k hk => (h (40 + k) (by omega) (by omega) (by omega)).symm, fun k hk => (h (48 + k) (by omega) (by omega) (by omega)).symm, fun k hk => (h (50 + k) (by omega) (by omega) (by omega)).symm, fun k hk => (h (98 + k) (by omega) (by omega) (by omega)).symm, fun _ _ => rfl, fun k hk => (h (147 + k) (by omega) (by omega) (by omega)).symm, fun k hk => (h (153 + k) (by omega) (by omega) (by omega)).symm, fun k hk => (h (154 + k) (by omega) (by omega) (by omega)).symm, fun k hk => (h (175 + k) (by omega) (by omega) (by omega)).symm, fun k hk => (h (192 + k) (by omega) (by omega) (by omega)).symm⟩, fun _ _ => rfl, hR.2.2.2.2⟩
theorem Rel_butts {N N2 K Z rf rf2 : Nat → Int32} {sg : Int32} {Lm : Nat → Int64} {S cal cbl : Nat → Int32} (hR : RelC N K Z rf sg Lm S cal cbl) (h : ∀ k : Nat, k < 398 → (k < 147 ∨ 153 ≤ k) → k ≠ 397 → N2 k = N k) (I : InvN N2) : RelAll N2 K Z rf2 sg Lm S (N 392) (N 393) (N 394) 4 1 (N 395) 1 (N 396) (N2 397) 1 3 8 (N 191) (cw 0 N) (cw 12 N) (cw 24 N) (cw 40 N) (cw 48 N) (cw 50 N) (cw 98 N) (cw 99 N) (cw 147 N2) (cw 153 N) (cw 154 N) (cw 175 N) (cw 192 N) rf2 sg (S 0) (S 1) cal cbl := ⟨I, hR.2.1, ⟨⟨(h 392 (by omega) (by omega) (by omega)).symm, (h 393 (by omega) (by omega) (by omega)).symm, (h 394 (by omega) (by omega) (by omega)).symm, rfl, rfl, (h 395 (by omega) (by omega) (by omega)).symm, rfl, (h 396 (by omega) (by omega) (by omega)).symm, rfl, rfl, rfl, rfl, (h 191 (by omega) (by omega) (by omega)).symm⟩, fun k hk => (h (0 + k) (by omega) (by omega) (by omega)).symm, fun k hk => (h (12 + k) (by omega) (by omega) (by omega)).symm, fun k hk => (h (24 + k) (by omega) (by omega) (by omega)).symm, fun k hk => (h (40 + k) (by omega) (by omega) (by omega)).symm, fun k hk => (h (48 + k) (by omega) (by omega) (by omega)).symm, fun k hk => (h (50 + k) (by omega) (by omega) (by omega)).symm, fun k hk => (h (98 + k) (by omega) (by omega) (by omega)).symm, fun k hk => (h (99 + k) (by omega) (by omega) (by omega)).symm, fun _ _ => rfl, fun k hk => (h (153 + k) (by omega) (by omega) (by omega)).symm, fun k hk => (h (154 + k) (by omega) (by omega) (by omega)).symm, fun k hk => (h (175 + k) (by omega) (by omega) (by omega)).symm, fun k hk => (h (192 + k) (by omega) (by omega) (by omega)).symm⟩, fun _ _ => rfl, hR.2.2.2.2⟩
theorem Rel_play {N N2 K Z rf rf2 : Nat → Int32} {sg : Int32} {Lm : Nat → Int64} {S cal cbl : Nat → Int32} (hR : RelC N K Z rf sg Lm S cal cbl) (h : ∀ k : Nat, k < 398 → (k < 153 ∨ 154 ≤ k) → N2 k = N k) (I : InvN N2) : RelAll N2 K Z rf2 sg Lm S (N 392) (N 393) (N 394) 4 1 (N 395) 1 (N 396) (N 397) 1 3 8 (N 191) (cw 0 N) (cw 12 N) (cw 24 N) (cw 40 N) (cw 48 N) (cw 50 N) (cw 98 N) (cw 99 N) (cw 147 N) (cw 153 N2) (cw 154 N) (cw 175 N) (cw 192 N) rf2 sg (S 0) (S 1) cal cbl := ⟨I, hR.2.1, ⟨⟨(h 392 (by omega) (by omega)).symm, (h 393 (by omega) (by omega)).symm, (h 394 (by omega) (by omega)).symm, rfl, rfl, (h 395 (by omega) (by omega)).symm, rfl, (h 396 (by omega) (by omega)).symm, (h 397 (by omega) (by omega)).symm, rfl, rfl, rfl, (h 191 (by omega) (by omega)).symm⟩, fun k hk => (h (0 + k) (by omega) (by omega)).symm, fun k hk => (h (12 + k) (by omega) (by omega)).symm, fun k hk => (h (24 + k) (by omega) (by omega)).symm, fun k hk => (h (40 + k) (by omega) (by omega)).symm, fun k hk => (h (48 + k) (by omega) (by omega)).symm, fun k hk => (h (50 + k) (by omega) (by omega)).symm, fun k hk => (h (98 + k) (by omega) (by omega)).symm, fun k hk => (h (99 + k) (by omega) (by omega)).symm, fun k hk => (h (147 + k) (by omega) (by omega)).symm, fun _ _ => rfl, fun k hk => (h (154 + k) (by omega) (by omega)).symm, fun k hk => (h (175 + k) (by omega) (by omega)).symm, fun k hk => (h (192 + k) (by omega) (by omega)).symm⟩, fun _ _ => rfl, hR.2.2.2.2⟩
theorem Rel_sorts {N N2 K Z rf rf2 : Nat → Int32} {sg : Int32} {Lm : Nat → Int64} {S cal cbl : Nat → Int32} (hR : RelC N K Z rf sg Lm S cal cbl) (h : ∀ k : Nat, k < 398 → (k < 154 ∨ 175 ≤ k) → N2 k = N k) (I : InvN N2) : RelAll N2 K Z rf2 sg Lm S (N 392) (N 393) (N 394) 4 1 (N 395) 1 (N 396) (N 397) 1 3 8 (N 191) (cw 0 N) (cw 12 N) (cw 24 N) (cw 40 N) (cw 48 N) (cw 50 N) (cw 98 N) (cw 99 N) (cw 147 N) (cw 153 N) (cw 154 N2) (cw 175 N) (cw 192 N) rf2 sg (S 0) (S 1) cal cbl := ⟨I, hR.2.1, ⟨⟨(h 392 (by omega) (by omega)).symm, (h 393 (by omega) (by omega)).symm, (h 394 (by omega) (by omega)).symm, rfl, rfl, (h 395 (by omega) (by omega)).symm, rfl, (h 396 (by omega) (by omega)).symm, (h 397 (by omega) (by omega)).symm, rfl, rfl, rfl, (h 191 (by omega) (by omega)).symm⟩, fun k hk => (h (0 + k) (by omega) (by omega)).symm, fun k hk => (h (12 + k) (by omega) (by omega)).symm, fun k hk => (h (24 + k) (by omega) (by omega)).symm, fun k hk => (h (40 + k) (by omega) (by omega)).symm, fun k hk => (h (48 + k) (by omega) (by omega)).symm, fun k hk => (h (50 + k) (by omega) (by omega)).symm, fun k hk => (h (98 + k) (by omega) (by omega)).symm, fun k hk => (h (99 + k) (by omega) (by omega)).symm, fun k hk => (h (147 + k) (by omega) (by omega)).symm, fun k hk => (h (153 + k) (by omega) (by omega)).symm, fun _ _ => rfl, fun k hk => (h (175 + k) (by omega) (by omega)).symm, fun k hk => (h (192 + k) (by omega) (by omega)).symm⟩, fun _ _ => rfl, hR.2.2.2.2⟩
theorem Rel_layers {N N2 K Z rf rf2 : Nat → Int32} {sg : Int32} {Lm : Nat → Int64} {S cal cbl : Nat → Int32} (hR : RelC N K Z rf sg Lm S cal cbl) (h : ∀ k : Nat, k < 398 → (k < 175 ∨ 191 ≤ k) → N2 k = N k) (I : InvN N2) : RelAll N2 K Z rf2 sg Lm S (N 392) (N 393) (N 394) 4 1 (N 395) 1 (N 396) (N 397) 1 3 8 (N 191) (cw 0 N) (cw 12 N) (cw 24 N) (cw 40 N) (cw 48 N) (cw 50 N) (cw 98 N) (cw 99 N) (cw 147 N) (cw 153 N) (cw 154 N) (cw 175 N2) (cw 192 N) rf2 sg (S 0) (S 1) cal cbl := ⟨I, hR.2.1, ⟨⟨(h 392 (by omega) (by omega)).symm, (h 393 (by omega) (by omega)).symm, (h 394 (by omega) (by omega)).symm, rfl, rfl, (h 395 (by omega) (by omega)).symm, rfl, (h 396 (by omega) (by omega)).symm, (h 397 (by omega) (by omega)).symm, rfl, rfl, rfl, (h 191 (by omega) (by omega)).symm⟩, fun k hk => (h (0 + k) (by omega) (by omega)).symm, fun k hk => (h (12 + k) (by omega) (by omega)).symm, fun k hk => (h (24 + k) (by omega) (by omega)).symm, fun k hk => (h (40 + k) (by omega) (by omega)).symm, fun k hk => (h (48 + k) (by omega) (by omega)).symm, fun k hk => (h (50 + k) (by omega) (by omega)).symm, fun k hk => (h (98 + k) (by omega) (by omega)).symm, fun k hk => (h (99 + k) (by omega) (by omega)).symm, fun k hk => (h (147 + k) (by omega) (by omega)).symm, fun k hk => (h (153 + k) (by omega) (by omega)).symm, fun k hk => (h (154 + k) (by omega) (by omega)).symm, fun _ _ => rfl, fun k hk => (h (192 + k) (by omega) (by omega)).symm⟩, fun _ _ => rfl, hR.2.2.2.2⟩
theorem Rel_plan {N N2 K Z rf rf2 : Nat → Int32} {sg : Int32} {Lm : Nat → Int64} {S cal cbl : Nat → Int32} (hR : RelC N K Z rf sg Lm S cal cbl) (h : ∀ k : Nat, k < 398 → (k < 192 ∨ 392 ≤ k) → k ≠ 191 → N2 k = N k) (I : InvN N2) : RelAll N2 K Z rf2 sg Lm S (N 392) (N 393) (N 394) 4 1 (N 395) 1 (N 396) (N 397) 1 3 8 (N2 191) (cw 0 N) (cw 12 N) (cw 24 N) (cw 40 N) (cw 48 N) (cw 50 N) (cw 98 N) (cw 99 N) (cw 147 N) (cw 153 N) (cw 154 N) (cw 175 N) (cw 192 N2) rf2 sg (S 0) (S 1) cal cbl := ⟨I, hR.2.1, ⟨⟨(h 392 (by omega) (by omega) (by omega)).symm, (h 393 (by omega) (by omega) (by omega)).symm, (h 394 (by omega) (by omega) (by omega)).symm, rfl, rfl, (h 395 (by omega) (by omega) (by omega)).symm, rfl, (h 396 (by omega) (by omega) (by omega)).symm, (h 397 (by omega) (by omega) (by omega)).symm, rfl, rfl, rfl, rfl⟩, fun k hk => (h (0 + k) (by omega) (by omega) (by omega)).symm, fun k hk => (h (12 + k) (by omega) (by omega) (by omega)).symm, fun k hk => (h (24 + k) (by omega) (by omega) (by omega)).symm, fun k hk => (h (40 + k) (by omega) (by omega) (by omega)).symm, fun k hk => (h (48 + k) (by omega) (by omega) (by omega)).symm, fun k hk => (h (50 + k) (by omega) (by omega) (by omega)).symm, fun k hk => (h (98 + k) (by omega) (by omega) (by omega)).symm, fun k hk => (h (99 + k) (by omega) (by omega) (by omega)).symm, fun k hk => (h (147 + k) (by omega) (by omega) (by omega)).symm, fun k hk => (h (153 + k) (by omega) (by omega) (by omega)).symm, fun k hk => (h (154 + k) (by omega) (by omega) (by omega)).symm, fun k hk => (h (175 + k) (by omega) (by omega) (by omega)).symm, fun _ _ => rfl⟩, fun _ _ => rfl, hR.2.2.2.2⟩
theorem Rel_rf {N K Z rf : Nat → Int32} {sg : Int32} {Lm : Nat → Int64} {S cal cbl : Nat → Int32} (rf2 : Nat → Int32) (hR : RelC N K Z rf sg Lm S cal cbl) : RelAll N K Z rf2 sg Lm S (N 392) (N 393) (N 394) 4 1 (N 395) 1 (N 396) (N 397) 1 3 8 (N 191) (cw 0 N) (cw 12 N) (cw 24 N) (cw 40 N) (cw 48 N) (cw 50 N) (cw 98 N) (cw 99 N) (cw 147 N) (cw 153 N) (cw 154 N) (cw 175 N) (cw 192 N) rf2 sg (S 0) (S 1) cal cbl := ⟨hR.1, hR.2.1, hR.2.2.1, fun _ _ => rfl, hR.2.2.2.2⟩
