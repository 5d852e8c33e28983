/-! how the numbers of the class and those of the reference belong together -/
def cw (o : Nat) (f : Nat → Int32) : Nat → Int32 := fun k => f (o + k)
def rg (x : Int32) (lo hi : Int) : Prop := lo ≤ x.toInt ∧ x.toInt ≤ hi
/-- what stands in the reference's row of numbers is as told -/
def InvN (N : Nat → Int32) : Prop :=
  (rg (N 392) 0 4 ∧ rg (N 393) 0 4 ∧ rg (N 394) 0 4 ∧ rg (N 395) 0 16 ∧ rg (N 396) 0 12 ∧ rg (N 397) 0 6 ∧ rg (N 191) 0 200) ∧
  (∀ i : Nat, (i : Int) < (N 392).toInt → rg (N (3 * i)) 20 90 ∧ rg (N (3 * i + 1)) 1 99 ∧ rg (N (3 * i + 2)) 0 9) ∧
  (∀ i : Nat, (i : Int) < (N 393).toInt → rg (N (12 + 3 * i)) 0 99 ∧ rg (N (12 + 3 * i + 1)) 0 99 ∧ rg (N (12 + 3 * i + 2)) 0 (N (12 + 3 * i)).toInt) ∧
  (∀ i : Nat, (i : Int) < (N 394).toInt → rg (N (24 + 4 * i)) 20 300 ∧ rg (N (24 + 4 * i + 1)) 1 99 ∧ rg (N (24 + 4 * i + 2)) 0 60 ∧ rg (N (24 + 4 * i + 3)) 0 9) ∧
  (∀ i : Nat, i < 4 → rg (N (40 + 2 * i)) 0 20 ∧ rg (N (40 + 2 * i + 1)) 0 9) ∧
  (rg (N 48) 0 30 ∧ rg (N 49) 0 (N 48).toInt) ∧
  (∀ i : Nat, (i : Int) < (N 395).toInt → rg (N (50 + 3 * i)) 0 1 ∧ rg (N (50 + 3 * i + 1)) 0 999 ∧ rg (N (50 + 3 * i + 2)) 0 1) ∧
  rg (N 98) (-99) 99 ∧
  (∀ i : Nat, (i : Int) < (N 396).toInt → rg (N (99 + 4 * i)) 1 99 ∧ rg (N (99 + 4 * i + 1)) 0 3 ∧ rg (N (99 + 4 * i + 2)) 1 30 ∧ rg (N (99 + 4 * i + 3)) 0 1) ∧
  (∀ i : Nat, (i : Int) < (N 397).toInt → rg (N (147 + i)) 1 30) ∧
  rg (N 153) 0 9 ∧
  (∀ i : Nat, i < 3 → rg (N (154 + 7 * i)) 0 9 ∧ ∀ j : Nat, j < 6 → rg (N (154 + 7 * i + 1 + j)) 0 99) ∧
  (∀ i : Nat, i < 16 → rg (N (175 + i)) 0 99) ∧
  (∀ i : Nat, (i : Int) < (N 191).toInt → rg (N (192 + i)) 0 255)
def InvK (K Z : Nat → Int32) : Prop := ∀ i : Nat, i < 2 → (Z i = 0 ∨ Z i = 1) ∧ (Z i = 1 → InvN (cw (398 * i) K))
def RelS (N : Nat → Int32) (r0 r1 r2 r3 r4 r5 r6 r7 r8 r9 r10 r11 r12 : Int32) (c0 c1 c2 c3 c4 c5 c6 c7 c8 c9 c10 c11 c12 : Nat → Int32) : Prop :=
  (r0 = N 392 ∧ r1 = N 393 ∧ r2 = N 394 ∧ r3 = 4 ∧ r4 = 1 ∧ r5 = N 395 ∧ r6 = 1 ∧ r7 = N 396 ∧ r8 = N 397 ∧ r9 = 1 ∧ r10 = 3 ∧ r11 = 8 ∧ r12 = N 191) ∧
  (∀ k : Nat, k < 12 → c0 k = cw 0 N k) ∧ (∀ k : Nat, k < 12 → c1 k = cw 12 N k) ∧ (∀ k : Nat, k < 16 → c2 k = cw 24 N k) ∧ (∀ k : Nat, k < 8 → c3 k = cw 40 N k) ∧ (∀ k : Nat, k < 2 → c4 k = cw 48 N k) ∧ (∀ k : Nat, k < 48 → c5 k = cw 50 N k) ∧ (∀ k : Nat, k < 1 → c6 k = cw 98 N k) ∧ (∀ k : Nat, k < 48 → c7 k = cw 99 N k) ∧ (∀ k : Nat, k < 6 → c8 k = cw 147 N k) ∧ (∀ k : Nat, k < 1 → c9 k = cw 153 N k) ∧ (∀ k : Nat, k < 21 → c10 k = cw 154 N k) ∧ (∀ k : Nat, k < 16 → c11 k = cw 175 N k) ∧ (∀ k : Nat, k < 200 → c12 k = cw 192 N k)
def RelF (sg : Int32) (Lm : Nat → Int64) (S : Nat → Int32) (csg casz cbsz : Int32) (cal cbl : Nat → Int32) : Prop :=
  csg = sg ∧ casz = S 0 ∧ cbsz = S 1 ∧ rg (S 0) 0 6 ∧ rg (S 1) 0 6 ∧ (∀ k : Nat, k < (S 0).toNatClampNeg → (cal k).toInt64 = Lm k ∧ 0 ≤ (cal k).toInt) ∧ (∀ k : Nat, k < (S 1).toNatClampNeg → (cbl k).toInt64 = Lm (64 + k) ∧ 0 ≤ (cbl k).toInt)
def RelAll (N K Z rf : Nat → Int32) (sg : Int32) (Lm : Nat → Int64) (S : Nat → Int32) (r0 r1 r2 r3 r4 r5 r6 r7 r8 r9 r10 r11 r12 : Int32) (c0 c1 c2 c3 c4 c5 c6 c7 c8 c9 c10 c11 c12 : Nat → Int32) (crf : Nat → Int32) (csg casz cbsz : Int32) (cal cbl : Nat → Int32) : Prop :=
  InvN N ∧ InvK K Z ∧ RelS N r0 r1 r2 r3 r4 r5 r6 r7 r8 r9 r10 r11 r12 c0 c1 c2 c3 c4 c5 c6 c7 c8 c9 c10 c11 c12 ∧ (∀ k : Nat, k < 3 → crf k = rf k) ∧ RelF sg Lm S csg casz cbsz cal cbl
def RelC (N K Z rf : Nat → Int32) (sg : Int32) (Lm : Nat → Int64) (S cal cbl : Nat → Int32) : Prop := RelAll N K Z rf sg Lm S (N 392) (N 393) (N 394) 4 1 (N 395) 1 (N 396) (N 397) 1 3 8 (N 191) (cw 0 N) (cw 12 N) (cw 24 N) (cw 40 N) (cw 48 N) (cw 50 N) (cw 98 N) (cw 99 N) (cw 147 N) (cw 153 N) (cw 154 N) (cw 175 N) (cw 192 N) rf sg (S 0) (S 1) cal cbl
