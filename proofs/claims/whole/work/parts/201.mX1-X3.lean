abbrev gX3_digit (X : jX) (h_a h_a_limbs : Nat) (p1 v_a_size : Int32) (f_a_limbs : Nat → Int32) (pc : Nat) (lv : List (Nat × Value)) (st : List Value) (e : Option (Int32)) : Prop := jJ (ρ := Int32) X 2 0 0 (jQf X 0 0 (fun (r : Int32) => some (.int r)) (fun (_ : Int32) (_ : Nat → Nat) => [(h_a, .inr (3, [.ref h_a_limbs, .int v_a_size])), (h_a_limbs, .inl (jy X 0, 6, .inl f_a_limbs))])) pc lv st [(h_a, .inr (3, [.ref h_a_limbs, .int v_a_size])), (h_a_limbs, .inl (jy X 0, 6, .inl f_a_limbs))] (e)
set_option maxHeartbeats 4000000 in
set_option maxRecDepth 100000 in
theorem jX3_digit {X : jX} (hC : jC X cX3_digit 2 RX3 rX3_digit (some .int)) (h_a h_a_limbs : Nat) (p1 v_a_size : Int32) (f_a_limbs : Nat → Int32) : gX3_digit X h_a h_a_limbs p1 v_a_size f_a_limbs 0 [(0, .ref h_a), (1, .int p1)] [] (fX3_digit p1 v_a_size f_a_limbs) := by
  unfold fX3_digit
  refine j_iload_n (pc := 0) hC 1 rfl dX3_digit_0 ?_
  refine j_iflt (pc := 1) hC 30 (by decide) dX3_digit_1 ?_ ?_
  · refine j_iconst (pc := 30) hC ki_0 dX3_digit_30 ?_
    exact j_iret (pc := 31) hC (fun _ => 0) rfl rfl dX3_digit_31
  · refine j_iload_n (pc := 4) hC 1 rfl dX3_digit_4 ?_
    refine j_aload_n (pc := 5) hC 0 rfl dX3_digit_5 ?_
    refine j_get (pc := 6) hC flRX3_13 0 rfl rfl dX3_digit_6 ?_
    refine j_icmpge (pc := 9) hC 30 (by decide) dX3_digit_9 ?_ ?_
    · refine j_iconst (pc := 30) hC ki_0 dX3_digit_30 ?_
      exact j_iret (pc := 31) hC (fun _ => 0) rfl rfl dX3_digit_31
    · refine j_iload_n (pc := 12) hC 1 rfl dX3_digit_12 ?_
      refine j_aload_n (pc := 13) hC 0 rfl dX3_digit_13 ?_
      refine j_get (pc := 14) hC flRX3_7 0 rfl rfl dX3_digit_14 ?_
      refine j_alen (pc := 17) hC 1 0 rfl rfl (v := (6 : Int32)) rfl dX3_digit_17 ?_
      refine j_icmpge (pc := 18) hC 30 (by decide) dX3_digit_18 ?_ ?_
      · refine j_iconst (pc := 30) hC ki_0 dX3_digit_30 ?_
        exact j_iret (pc := 31) hC (fun _ => 0) rfl rfl dX3_digit_31
      · refine j_aload_n (pc := 21) hC 0 rfl dX3_digit_21 ?_
        refine j_get (pc := 22) hC flRX3_7 0 rfl rfl dX3_digit_22 ?_
        refine j_iload_n (pc := 25) hC 1 rfl dX3_digit_25 ?_
        refine j_iald (pc := 26) hC 1 rfl dX3_digit_26 ?_
        refine j_goto (pc := 27) hC 31 (by decide) dX3_digit_27 ?_
        exact j_iret (pc := 31) hC (fun _ => 0) rfl rfl dX3_digit_31
set_option maxHeartbeats 4000000 in
set_option maxRecDepth 100000 in
theorem mX3_digit (l : Launch) (D : va_G) (cy : Nat → ClassId) (ev : jE) (h_a h_a_limbs : Nat) (p1 v_a_size : Int32) (f_a_limbs : Nat → Int32) : jM l yX3_digit cX3_digit 2 (some .int) rX3_digit [.ref h_a, .int p1] [(h_a, .inr (3, [.ref h_a_limbs, .int v_a_size])), (h_a_limbs, .inl (cy 0, 6, .inl f_a_limbs))] (fun (_ : Int32) (_ : Nat → Nat) => [(h_a, .inr (3, [.ref h_a_limbs, .int v_a_size])), (h_a_limbs, .inl (cy 0, 6, .inl f_a_limbs))]) (fun (r : Int32) => some (.int r)) (fX3_digit p1 v_a_size f_a_limbs) D cy ev := j_met RX3 (by decide +kernel) rfl (Nat.le_of_ble_eq_true rfl) (fun X hC _ hD hy hv => by subst hD; subst hy; subst hv; exact jX3_digit hC h_a h_a_limbs p1 v_a_size f_a_limbs)
abbrev gX3_remainder (X : jX) (h_a h_a_limbs : Nat) (p1 v_a_size : Int32) (f_a_limbs : Nat → Int32) (pc : Nat) (lv : List (Nat × Value)) (st : List Value) (e : Option (Int32)) : Prop := jJ (ρ := Int32) X 5 0 0 (jQf X 0 0 (fun (r : Int32) => some (.int r)) (fun (_ : Int32) (_ : Nat → Nat) => [(h_a, .inr (3, [.ref h_a_limbs, .int v_a_size])), (h_a_limbs, .inl (jy X 0, 6, .inl f_a_limbs))])) pc lv st [(h_a, .inr (3, [.ref h_a_limbs, .int v_a_size])), (h_a_limbs, .inl (jy X 0, 6, .inl f_a_limbs))] (e)
set_option maxHeartbeats 4000000 in
set_option maxRecDepth 100000 in
theorem jX3_remainder_b10_step {X : jX} (hC : jC X cX3_remainder 5 RX3 rX3_remainder (some .int)) (u : Nat) (h_a h_a_limbs : Nat) (p1 v_a_size : Int32) (f_a_limbs : Nat → Int32) (rec10 : (Int64 × Int32) → Option (Int32)) (hrec10 : ∀ p : Int64 × Int32, gX3_remainder X h_a h_a_limbs p1 v_a_size f_a_limbs 10 [(0, .ref h_a), (1, .int p1), (2, .long p.1), (4, .int p.2)] [] (rec10 p)) (p : Int64 × Int32) : gX3_remainder X h_a h_a_limbs p1 v_a_size f_a_limbs 10 [(0, .ref h_a), (1, .int p1), (2, .long p.1), (4, .int p.2)] [] (fX3_remainder_b10 u p1 v_a_size f_a_limbs rec10 p) := by
  unfold fX3_remainder_b10
  refine j_iload (pc := 10) hC 3 rfl dX3_remainder_10 ?_
  refine j_iflt (pc := 12) hC 41 (by decide) dX3_remainder_12 ?_ ?_
  · refine j_lload_n (pc := 41) hC 2 rfl dX3_remainder_41 ?_
    refine j_l2i (pc := 42) hC dX3_remainder_42 ?_
    exact j_iret (pc := 43) hC (fun _ => 0) rfl rfl dX3_remainder_43
  · refine j_iload_n (pc := 15) hC 1 rfl dX3_remainder_15 ?_
    refine j_ifle (pc := 16) hC 41 (by decide) dX3_remainder_16 ?_ ?_
    · refine j_lload_n (pc := 41) hC 2 rfl dX3_remainder_41 ?_
      refine j_l2i (pc := 42) hC dX3_remainder_42 ?_
      exact j_iret (pc := 43) hC (fun _ => 0) rfl rfl dX3_remainder_43
    · refine j_lload_n (pc := 19) hC 2 rfl dX3_remainder_19 ?_
      refine j_bipush (pc := 20) hC kb_30 dX3_remainder_20 ?_
      refine j_lshl (pc := 22) hC dX3_remainder_22 ?_
      refine j_aload_n (pc := 23) hC 0 rfl dX3_remainder_23 ?_
      refine j_iload (pc := 24) hC 3 rfl dX3_remainder_24 ?_
      refine j_callV (pc := 26) hC csRX3_38 [.int p.2] (mX3_digit (jl X) (jD X) (jy X) (jv X) h_a h_a_limbs p.2 v_a_size f_a_limbs) [0, 1] rfl (by decide +kernel) 0 rfl ⟨_, _, rfl⟩ ⟨by decide, by decide, rfl, rfl, by decide, by decide⟩ rfl rfl (Nat.le_of_ble_eq_true rfl) dX3_remainder_26 (jki0 (fun _ => rfl) (fun _ _ => rfl) (fun r2 => ?_))
      refine j_i2l (pc := 29) hC dX3_remainder_29 ?_
      refine j_ladd (pc := 30) hC dX3_remainder_30 ?_
      refine j_iload_n (pc := 31) hC 1 rfl dX3_remainder_31 ?_
      refine j_i2l (pc := 32) hC dX3_remainder_32 ?_
      refine j_lrem (pc := 33) hC dX3_remainder_33 ?_
      refine j_letl (pc := 34) (fun x3 => ?_)
      refine j_lstore_n (pc := 34) hC (lv' := [(2, .long x3), (0, .ref h_a), (1, .int p1), (4, .int p.2)]) rfl (by decide) dX3_remainder_34 ?_
      refine j_iinc (pc := 35) hC 3 rfl ki_m1 (fun x4 => (rfl : @Eq (List (Nat × Value)) _ [(4, .int x4), (2, .long x3), (0, .ref h_a), (1, .int p1)])) (by decide) dX3_remainder_35 (fun x4 => ?_)
      refine j_goto (pc := 38) hC 10 (by decide) dX3_remainder_38 ?_
      refine j_lv (pc := 10) [2, 3, 1, 0] rfl ?_
      exact hrec10 (x3, x4)
set_option maxHeartbeats 4000000 in
set_option maxRecDepth 100000 in
theorem jX3_remainder_b10 {X : jX} (hC : jC X cX3_remainder 5 RX3 rX3_remainder (some .int)) (u : Nat) (h_a h_a_limbs : Nat) (p1 v_a_size : Int32) (f_a_limbs : Nat → Int32) (p : Int64 × Int32) : gX3_remainder X h_a h_a_limbs p1 v_a_size f_a_limbs 10 [(0, .ref h_a), (1, .int p1), (2, .long p.1), (4, .int p.2)] [] (jfix (fX3_remainder_b10 u p1 v_a_size f_a_limbs) u p) :=
  j_fix (fun rec10 hrec10 p => jX3_remainder_b10_step hC u h_a h_a_limbs p1 v_a_size f_a_limbs rec10 hrec10 p) u p
set_option maxHeartbeats 4000000 in
set_option maxRecDepth 100000 in
theorem jX3_remainder {X : jX} (hC : jC X cX3_remainder 5 RX3 rX3_remainder (some .int)) (u : Nat) (h_a h_a_limbs : Nat) (p1 v_a_size : Int32) (f_a_limbs : Nat → Int32) : gX3_remainder X h_a h_a_limbs p1 v_a_size f_a_limbs 0 [(0, .ref h_a), (1, .int p1)] [] (fX3_remainder u p1 v_a_size f_a_limbs) := by
  unfold fX3_remainder
  refine j_lconst (pc := 0) hC (v := (0 : Int64)) rfl dX3_remainder_0 ?_
  refine j_lstore_n (pc := 1) hC (lv' := [(2, .long (0 : Int64)), (0, .ref h_a), (1, .int p1)]) rfl (by decide) dX3_remainder_1 ?_
  refine j_aload_n (pc := 2) hC 1 rfl dX3_remainder_2 ?_
  refine j_get (pc := 3) hC flRX3_13 0 rfl rfl dX3_remainder_3 ?_
  refine j_iconst (pc := 6) hC ki_1 dX3_remainder_6 ?_
  refine j_isub (pc := 7) hC dX3_remainder_7 ?_
  refine j_let (pc := 8) (fun x1 => ?_)
  refine j_istore (pc := 8) hC (lv' := [(4, .int x1), (2, .long (0 : Int64)), (0, .ref h_a), (1, .int p1)]) rfl (by decide) dX3_remainder_8 ?_
  refine j_lv (pc := 10) [2, 3, 1, 0] rfl ?_
  exact jX3_remainder_b10 hC u h_a h_a_limbs p1 v_a_size f_a_limbs ((0 : Int64), x1)
set_option maxHeartbeats 4000000 in
set_option maxRecDepth 100000 in
theorem mX3_remainder (l : Launch) (D : va_G) (cy : Nat → ClassId) (ev : jE) (u : Nat) (h_a h_a_limbs : Nat) (p1 v_a_size : Int32) (f_a_limbs : Nat → Int32) : jM l yX3_remainder cX3_remainder 5 (some .int) rX3_remainder [.ref h_a, .int p1] [(h_a, .inr (3, [.ref h_a_limbs, .int v_a_size])), (h_a_limbs, .inl (cy 0, 6, .inl f_a_limbs))] (fun (_ : Int32) (_ : Nat → Nat) => [(h_a, .inr (3, [.ref h_a_limbs, .int v_a_size])), (h_a_limbs, .inl (cy 0, 6, .inl f_a_limbs))]) (fun (r : Int32) => some (.int r)) (fX3_remainder u p1 v_a_size f_a_limbs) D cy ev := j_met RX3 (by decide +kernel) rfl (Nat.le_of_ble_eq_true rfl) (fun X hC _ hD hy hv => by subst hD; subst hy; subst hv; exact jX3_remainder hC u h_a h_a_limbs p1 v_a_size f_a_limbs)
abbrev gX1_areDividedBy (X : jX) (h_a h_a_above h_a_below h_a_above_limbs h_a_below_limbs : Nat) (p1 v_a_signum v_a_above_size v_a_below_size : Int32) (f_a_above_limbs f_a_below_limbs : Nat → Int32) (pc : Nat) (lv : List (Nat × Value)) (st : List Value) (e : Option (Int32)) : Prop := jJ (ρ := Int32) X 2 0 0 (jQf X 0 0 (fun (r : Int32) => some (.int r)) (fun (_ : Int32) (_ : Nat → Nat) => [(h_a, .inr (1, [.int v_a_signum, .ref h_a_above, .ref h_a_below])), (h_a_above, .inr (3, [.ref h_a_above_limbs, .int v_a_above_size])), (h_a_below, .inr (3, [.ref h_a_below_limbs, .int v_a_below_size])), (h_a_above_limbs, .inl (jy X 0, 6, .inl f_a_above_limbs)), (h_a_below_limbs, .inl (jy X 0, 6, .inl f_a_below_limbs))])) pc lv st [(h_a, .inr (1, [.int v_a_signum, .ref h_a_above, .ref h_a_below])), (h_a_above, .inr (3, [.ref h_a_above_limbs, .int v_a_above_size])), (h_a_below, .inr (3, [.ref h_a_below_limbs, .int v_a_below_size])), (h_a_above_limbs, .inl (jy X 0, 6, .inl f_a_above_limbs)), (h_a_below_limbs, .inl (jy X 0, 6, .inl f_a_below_limbs))] (e)
set_option maxHeartbeats 4000000 in
set_option maxRecDepth 100000 in
theorem jX1_areDividedBy {X : jX} (hC : jC X cX1_areDividedBy 2 RX1 rX1_areDividedBy (some .boolean)) (u : Nat) (h_a h_a_above h_a_below h_a_above_limbs h_a_below_limbs : Nat) (p1 v_a_signum v_a_above_size v_a_below_size : Int32) (f_a_above_limbs f_a_below_limbs : Nat → Int32) : gX1_areDividedBy X h_a h_a_above h_a_below h_a_above_limbs h_a_below_limbs p1 v_a_signum v_a_above_size v_a_below_size f_a_above_limbs f_a_below_limbs 0 [(0, .ref h_a), (1, .int p1)] [] (fX1_areDividedBy u p1 v_a_above_size v_a_below_size f_a_above_limbs f_a_below_limbs) := by
  unfold fX1_areDividedBy
  refine j_aload_n (pc := 0) hC 0 rfl dX1_areDividedBy_0 ?_
  refine j_get (pc := 1) hC flRX1_10 0 rfl rfl dX1_areDividedBy_1 ?_
  refine j_iload_n (pc := 4) hC 1 rfl dX1_areDividedBy_4 ?_
  refine j_callV (pc := 5) hC csRX1_65 [.int p1] (mX3_remainder (jl X) (jD X) (jy X) (jv X) u h_a_above h_a_above_limbs p1 v_a_above_size f_a_above_limbs) [1, 3] rfl (by decide +kernel) 1 rfl ⟨_, _, rfl⟩ ⟨by decide, by decide, rfl, rfl, by decide, by decide⟩ rfl rfl (Nat.le_of_ble_eq_true rfl) dX1_areDividedBy_5 (jki0 (fun _ => rfl) (fun _ _ => rfl) (fun r1 => ?_))
  refine j_ifne (pc := 8) hC 26 (by decide) dX1_areDividedBy_8 ?_ ?_
  · refine j_iconst (pc := 26) hC ki_0 dX1_areDividedBy_26 ?_
    exact j_zret (pc := 27) hC (fun _ => 0) (by decide) rfl rfl dX1_areDividedBy_27
  · refine j_aload_n (pc := 11) hC 0 rfl dX1_areDividedBy_11 ?_
    refine j_get (pc := 12) hC flRX1_16 0 rfl rfl dX1_areDividedBy_12 ?_
    refine j_iload_n (pc := 15) hC 1 rfl dX1_areDividedBy_15 ?_
    refine j_callV (pc := 16) hC csRX1_65 [.int p1] (mX3_remainder (jl X) (jD X) (jy X) (jv X) u h_a_below h_a_below_limbs p1 v_a_below_size f_a_below_limbs) [2, 4] rfl (by decide +kernel) 2 rfl ⟨_, _, rfl⟩ ⟨by decide, by decide, rfl, rfl, by decide, by decide⟩ rfl rfl (Nat.le_of_ble_eq_true rfl) dX1_areDividedBy_16 (jki0 (fun _ => rfl) (fun _ _ => rfl) (fun r2 => ?_))
    refine j_ifne (pc := 19) hC 26 (by decide) dX1_areDividedBy_19 ?_ ?_
    · refine j_iconst (pc := 26) hC ki_0 dX1_areDividedBy_26 ?_
      exact j_zret (pc := 27) hC (fun _ => 0) (by decide) rfl rfl dX1_areDividedBy_27
    · refine j_iconst (pc := 22) hC ki_1 dX1_areDividedBy_22 ?_
      refine j_goto (pc := 23) hC 27 (by decide) dX1_areDividedBy_23 ?_
      exact j_zret (pc := 27) hC (fun _ => 0) (by decide) rfl rfl dX1_areDividedBy_27
set_option maxHeartbeats 4000000 in
set_option maxRecDepth 100000 in
theorem mX1_areDividedBy (l : Launch) (D : va_G) (cy : Nat → ClassId) (ev : jE) (u : Nat) (h_a h_a_above h_a_below h_a_above_limbs h_a_below_limbs : Nat) (p1 v_a_signum v_a_above_size v_a_below_size : Int32) (f_a_above_limbs f_a_below_limbs : Nat → Int32) : jM l yX1_areDividedBy cX1_areDividedBy 2 (some .boolean) rX1_areDividedBy [.ref h_a, .int p1] [(h_a, .inr (1, [.int v_a_signum, .ref h_a_above, .ref h_a_below])), (h_a_above, .inr (3, [.ref h_a_above_limbs, .int v_a_above_size])), (h_a_below, .inr (3, [.ref h_a_below_limbs, .int v_a_below_size])), (h_a_above_limbs, .inl (cy 0, 6, .inl f_a_above_limbs)), (h_a_below_limbs, .inl (cy 0, 6, .inl f_a_below_limbs))] (fun (_ : Int32) (_ : Nat → Nat) => [(h_a, .inr (1, [.int v_a_signum, .ref h_a_above, .ref h_a_below])), (h_a_above, .inr (3, [.ref h_a_above_limbs, .int v_a_above_size])), (h_a_below, .inr (3, [.ref h_a_below_limbs, .int v_a_below_size])), (h_a_above_limbs, .inl (cy 0, 6, .inl f_a_above_limbs)), (h_a_below_limbs, .inl (cy 0, 6, .inl f_a_below_limbs))]) (fun (r : Int32) => some (.int r)) (fX1_areDividedBy u p1 v_a_above_size v_a_below_size f_a_above_limbs f_a_below_limbs) D cy ev := j_met RX1 (by decide +kernel) rfl (Nat.le_of_ble_eq_true rfl) (fun X hC _ hD hy hv => by subst hD; subst hy; subst hv; exact jX1_areDividedBy hC u h_a h_a_above h_a_below h_a_above_limbs h_a_below_limbs p1 v_a_signum v_a_above_size v_a_below_size f_a_above_limbs f_a_below_limbs)
abbrev gX3_dropZeros (X : jX) (h_a h_a_limbs : Nat) (v_a_size : Int32) (f_a_limbs : Nat → Int32) (pc : Nat) (lv : List (Nat × Value)) (st : List Value) (w0 : Int32) (e : Option (Int32)) : Prop := jJ (ρ := Int32) X 1 0 0 (jQf X 0 0 (fun (_ : Int32) => none) (fun (r : Int32) (_ : Nat → Nat) => [(h_a, .inr (3, [.ref h_a_limbs, .int r])), (h_a_limbs, .inl (jy X 0, 6, .inl f_a_limbs))])) pc lv st [(h_a, .inr (3, [.ref h_a_limbs, .int w0])), (h_a_limbs, .inl (jy X 0, 6, .inl f_a_limbs))] (e)
set_option maxHeartbeats 4000000 in
set_option maxRecDepth 100000 in
theorem jX3_dropZeros_b0_step {X : jX} (hC : jC X cX3_dropZeros 1 RX3 rX3_dropZeros none) (u : Nat) (h_a h_a_limbs : Nat) (v_a_size : Int32) (f_a_limbs : Nat → Int32) (rec0 : Int32 → Option (Int32)) (hrec0 : ∀ p : Int32, gX3_dropZeros X h_a h_a_limbs v_a_size f_a_limbs 0 [(0, .ref h_a)] [] p (rec0 p)) (p : Int32) : gX3_dropZeros X h_a h_a_limbs v_a_size f_a_limbs 0 [(0, .ref h_a)] [] p (fX3_dropZeros_b0 u v_a_size f_a_limbs rec0 p) := by
  unfold fX3_dropZeros_b0
  refine j_aload_n (pc := 0) hC 0 rfl dX3_dropZeros_0 ?_
  refine j_get (pc := 1) hC flRX3_13 0 rfl rfl dX3_dropZeros_1 ?_
  refine j_ifle (pc := 4) hC 33 (by decide) dX3_dropZeros_4 ?_ ?_
  · exact j_vret (pc := 33) hC (fun _ => 0) rfl rfl dX3_dropZeros_33
  · refine j_aload_n (pc := 7) hC 0 rfl dX3_dropZeros_7 ?_
    refine j_aload_n (pc := 8) hC 0 rfl dX3_dropZeros_8 ?_
    refine j_get (pc := 9) hC flRX3_13 0 rfl rfl dX3_dropZeros_9 ?_
    refine j_iconst (pc := 12) hC ki_1 dX3_dropZeros_12 ?_
    refine j_isub (pc := 13) hC dX3_dropZeros_13 ?_
    refine j_callV (pc := 14) hC csRX3_38 [.int (p - (1 : Int32))] (mX3_digit (jl X) (jD X) (jy X) (jv X) h_a h_a_limbs (p - (1 : Int32)) p f_a_limbs) [0, 1] rfl (by decide +kernel) 0 rfl ⟨_, _, rfl⟩ ⟨by decide, by decide, rfl, rfl, by decide, by decide⟩ rfl rfl (Nat.le_of_ble_eq_true rfl) dX3_dropZeros_14 (jki0 (fun _ => rfl) (fun _ _ => rfl) (fun r1 => ?_))
    refine j_ifne (pc := 17) hC 33 (by decide) dX3_dropZeros_17 ?_ ?_
    · exact j_vret (pc := 33) hC (fun _ => 0) rfl rfl dX3_dropZeros_33
    · refine j_aload_n (pc := 20) hC 0 rfl dX3_dropZeros_20 ?_
      refine j_dup (pc := 21) hC rfl dX3_dropZeros_21 ?_
      refine j_get (pc := 22) hC flRX3_13 0 rfl rfl dX3_dropZeros_22 ?_
      refine j_iconst (pc := 25) hC ki_1 dX3_dropZeros_25 ?_
      refine j_isub (pc := 26) hC dX3_dropZeros_26 ?_
      refine j_let (pc := 27) (fun x2 => ?_)
      refine j_put (pc := 27) hC fpRX3_13 0 rfl rfl rfl (Nat.le_of_ble_eq_true rfl) dX3_dropZeros_27 (ws' := [(h_a, .inr (3, [.ref h_a_limbs, .int x2])), (h_a_limbs, .inl (jy X 0, 6, .inl f_a_limbs))]) rfl ?_
      refine j_goto (pc := 30) hC 0 (by decide) dX3_dropZeros_30 ?_
      exact hrec0 x2
set_option maxHeartbeats 4000000 in
set_option maxRecDepth 100000 in
theorem jX3_dropZeros_b0 {X : jX} (hC : jC X cX3_dropZeros 1 RX3 rX3_dropZeros none) (u : Nat) (h_a h_a_limbs : Nat) (v_a_size : Int32) (f_a_limbs : Nat → Int32) (p : Int32) : gX3_dropZeros X h_a h_a_limbs v_a_size f_a_limbs 0 [(0, .ref h_a)] [] p (jfix (fX3_dropZeros_b0 u v_a_size f_a_limbs) u p) :=
  j_fix (fun rec0 hrec0 p => jX3_dropZeros_b0_step hC u h_a h_a_limbs v_a_size f_a_limbs rec0 hrec0 p) u p
set_option maxHeartbeats 4000000 in
set_option maxRecDepth 100000 in
theorem jX3_dropZeros {X : jX} (hC : jC X cX3_dropZeros 1 RX3 rX3_dropZeros none) (u : Nat) (h_a h_a_limbs : Nat) (v_a_size : Int32) (f_a_limbs : Nat → Int32) : gX3_dropZeros X h_a h_a_limbs v_a_size f_a_limbs 0 [(0, .ref h_a)] [] v_a_size (fX3_dropZeros u v_a_size f_a_limbs) := by
  unfold fX3_dropZeros
  exact jX3_dropZeros_b0 hC u h_a h_a_limbs v_a_size f_a_limbs v_a_size
set_option maxHeartbeats 4000000 in
set_option maxRecDepth 100000 in
theorem mX3_dropZeros (l : Launch) (D : va_G) (cy : Nat → ClassId) (ev : jE) (u : Nat) (h_a h_a_limbs : Nat) (v_a_size : Int32) (f_a_limbs : Nat → Int32) : jM l yX3_dropZeros cX3_dropZeros 1 none rX3_dropZeros [.ref h_a] [(h_a, .inr (3, [.ref h_a_limbs, .int v_a_size])), (h_a_limbs, .inl (cy 0, 6, .inl f_a_limbs))] (fun (r : Int32) (_ : Nat → Nat) => [(h_a, .inr (3, [.ref h_a_limbs, .int r])), (h_a_limbs, .inl (cy 0, 6, .inl f_a_limbs))]) (fun (_ : Int32) => none) (fX3_dropZeros u v_a_size f_a_limbs) D cy ev := j_met RX3 (by decide +kernel) rfl (Nat.le_of_ble_eq_true rfl) (fun X hC _ hD hy hv => by subst hD; subst hy; subst hv; exact jX3_dropZeros hC u h_a h_a_limbs v_a_size f_a_limbs)
abbrev gX3_divide (X : jX) (h_a h_a_limbs : Nat) (p1 v_a_size : Int32) (f_a_limbs : Nat → Int32) (pc : Nat) (lv : List (Nat × Value)) (st : List Value) (w0 : Int32) (w1 : Nat → Int32) (e : Option (Int32 × (Nat → Int32))) : Prop := jJ (ρ := Int32 × (Nat → Int32)) X 5 0 0 (jQf X 0 0 (fun (_ : Int32 × (Nat → Int32)) => none) (fun (r : Int32 × (Nat → Int32)) (_ : Nat → Nat) => [(h_a, .inr (3, [.ref h_a_limbs, .int r.1])), (h_a_limbs, .inl (jy X 0, 6, .inl r.2))])) pc lv st [(h_a, .inr (3, [.ref h_a_limbs, .int w0])), (h_a_limbs, .inl (jy X 0, 6, .inl w1))] (e)
set_option maxHeartbeats 4000000 in
set_option maxRecDepth 100000 in
theorem jX3_divide_b64 {X : jX} (hC : jC X cX3_divide 5 RX3 rX3_divide none) (u : Nat) (h_a h_a_limbs : Nat) (p1 v_a_size : Int32) (f_a_limbs : Nat → Int32) (p : Int32 × (Nat → Int32)) : gX3_divide X h_a h_a_limbs p1 v_a_size f_a_limbs 64 [(0, .ref h_a)] [] p.1 p.2 (fX3_divide_b64 u p1 v_a_size f_a_limbs p) := by
  unfold fX3_divide_b64
  refine j_aload_n (pc := 64) hC 0 rfl dX3_divide_64 ?_
  refine j_callV (pc := 65) hC csRX3_29 [] (mX3_dropZeros (jl X) (jD X) (jy X) (jv X) u h_a h_a_limbs p.1 p.2) [0, 1] rfl (by decide +kernel) 0 rfl ⟨_, _, rfl⟩ ⟨by decide, by decide, rfl, rfl, by decide, by decide⟩ rfl rfl (Nat.le_of_ble_eq_true rfl) dX3_divide_65 (jkv (fun r3 _ => (rfl : @Eq va_W _ [(h_a, .inr (3, [.ref h_a_limbs, .int r3])), (h_a_limbs, .inl (jy X 0, 6, .inl p.2))])) (fun r3 => ?_))
  exact j_vret (pc := 68) hC (fun _ => 0) rfl rfl dX3_divide_68
set_option maxHeartbeats 4000000 in
set_option maxRecDepth 100000 in
theorem jX3_divide_b18_step {X : jX} (hC : jC X cX3_divide 5 RX3 rX3_divide none) (u : Nat) (h_a h_a_limbs : Nat) (p1 v_a_size : Int32) (f_a_limbs : Nat → Int32) (rec18 : (Int64 × Int32 × Int32 × (Nat → Int32)) → Option (Int32 × (Nat → Int32))) (hrec18 : ∀ p : Int64 × Int32 × Int32 × (Nat → Int32), gX3_divide X h_a h_a_limbs p1 v_a_size f_a_limbs 18 [(0, .ref h_a), (1, .int p1), (2, .long p.1), (4, .int p.2.1)] [] p.2.2.1 p.2.2.2 (rec18 p)) (p : Int64 × Int32 × Int32 × (Nat → Int32)) : gX3_divide X h_a h_a_limbs p1 v_a_size f_a_limbs 18 [(0, .ref h_a), (1, .int p1), (2, .long p.1), (4, .int p.2.1)] [] p.2.2.1 p.2.2.2 (fX3_divide_b18 u p1 v_a_size f_a_limbs rec18 p) := by
  unfold fX3_divide_b18
  refine j_iload (pc := 18) hC 3 rfl dX3_divide_18 ?_
  refine j_iflt (pc := 20) hC 64 (by decide) dX3_divide_20 ?_ ?_
  · refine j_lv (pc := 64) [0] rfl ?_
    exact jX3_divide_b64 hC u h_a h_a_limbs p1 v_a_size f_a_limbs (p.2.2.1, p.2.2.2)
  · refine j_iload_n (pc := 23) hC 1 rfl dX3_divide_23 ?_
    refine j_ifle (pc := 24) hC 64 (by decide) dX3_divide_24 ?_ ?_
    · refine j_lv (pc := 64) [0] rfl ?_
      exact jX3_divide_b64 hC u h_a h_a_limbs p1 v_a_size f_a_limbs (p.2.2.1, p.2.2.2)
    · refine j_lload_n (pc := 27) hC 2 rfl dX3_divide_27 ?_
      refine j_bipush (pc := 28) hC kb_30 dX3_divide_28 ?_
      refine j_lshl (pc := 30) hC dX3_divide_30 ?_
      refine j_aload_n (pc := 31) hC 0 rfl dX3_divide_31 ?_
      refine j_get (pc := 32) hC flRX3_7 0 rfl rfl dX3_divide_32 ?_
      refine j_iload (pc := 35) hC 3 rfl dX3_divide_35 ?_
      refine j_iald (pc := 37) hC 1 rfl dX3_divide_37 ?_
      refine j_i2l (pc := 38) hC dX3_divide_38 ?_
      refine j_ladd (pc := 39) hC dX3_divide_39 ?_
      refine j_letl (pc := 40) (fun x4 => ?_)
      refine j_lstore_n (pc := 40) hC (lv' := [(2, .long x4), (0, .ref h_a), (1, .int p1), (4, .int p.2.1)]) rfl (by decide) dX3_divide_40 ?_
      refine j_aload_n (pc := 41) hC 1 rfl dX3_divide_41 ?_
      refine j_get (pc := 42) hC flRX3_7 0 rfl rfl dX3_divide_42 ?_
      refine j_iload (pc := 45) hC 3 rfl dX3_divide_45 ?_
      refine j_lload_n (pc := 47) hC 0 rfl dX3_divide_47 ?_
      refine j_iload_n (pc := 48) hC 2 rfl dX3_divide_48 ?_
      refine j_i2l (pc := 49) hC dX3_divide_49 ?_
      refine j_ldiv (pc := 50) hC dX3_divide_50 ?_
      refine j_l2i (pc := 51) hC dX3_divide_51 ?_
      refine j_iast (pc := 52) hC 1 rfl dX3_divide_52 (fun g5 => (rfl : @Eq va_W _ [(h_a, .inr (3, [.ref h_a_limbs, .int p.2.2.1])), (h_a_limbs, .inl (jy X 0, 6, .inl g5))])) (fun g5 => ?_)
      refine j_lload_n (pc := 53) hC 0 rfl dX3_divide_53 ?_
      refine j_iload_n (pc := 54) hC 2 rfl dX3_divide_54 ?_
      refine j_i2l (pc := 55) hC dX3_divide_55 ?_
      refine j_lrem (pc := 56) hC dX3_divide_56 ?_
      refine j_letl (pc := 57) (fun x6 => ?_)
      refine j_lstore_n (pc := 57) hC (lv' := [(2, .long x6), (0, .ref h_a), (1, .int p1), (4, .int p.2.1)]) rfl (by decide) dX3_divide_57 ?_
      refine j_iinc (pc := 58) hC 3 rfl ki_m1 (fun x7 => (rfl : @Eq (List (Nat × Value)) _ [(4, .int x7), (2, .long x6), (0, .ref h_a), (1, .int p1)])) (by decide) dX3_divide_58 (fun x7 => ?_)
      refine j_goto (pc := 61) hC 18 (by decide) dX3_divide_61 ?_
      refine j_lv (pc := 18) [2, 3, 1, 0] rfl ?_
      exact hrec18 (x6, x7, p.2.2.1, g5)
set_option maxHeartbeats 4000000 in
set_option maxRecDepth 100000 in
theorem jX3_divide_b18 {X : jX} (hC : jC X cX3_divide 5 RX3 rX3_divide none) (u : Nat) (h_a h_a_limbs : Nat) (p1 v_a_size : Int32) (f_a_limbs : Nat → Int32) (p : Int64 × Int32 × Int32 × (Nat → Int32)) : gX3_divide X h_a h_a_limbs p1 v_a_size f_a_limbs 18 [(0, .ref h_a), (1, .int p1), (2, .long p.1), (4, .int p.2.1)] [] p.2.2.1 p.2.2.2 (jfix (fX3_divide_b18 u p1 v_a_size f_a_limbs) u p) :=
  j_fix (fun rec18 hrec18 p => jX3_divide_b18_step hC u h_a h_a_limbs p1 v_a_size f_a_limbs rec18 hrec18 p) u p
set_option maxHeartbeats 4000000 in
set_option maxRecDepth 100000 in
theorem jX3_divide {X : jX} (hC : jC X cX3_divide 5 RX3 rX3_divide none) (u : Nat) (h_a h_a_limbs : Nat) (p1 v_a_size : Int32) (f_a_limbs : Nat → Int32) : gX3_divide X h_a h_a_limbs p1 v_a_size f_a_limbs 0 [(0, .ref h_a), (1, .int p1)] [] v_a_size f_a_limbs (fX3_divide u p1 v_a_size f_a_limbs) := by
  unfold fX3_divide
  refine j_lconst (pc := 0) hC (v := (0 : Int64)) rfl dX3_divide_0 ?_
  refine j_lstore_n (pc := 1) hC (lv' := [(2, .long (0 : Int64)), (0, .ref h_a), (1, .int p1)]) rfl (by decide) dX3_divide_1 ?_
  refine j_aload_n (pc := 2) hC 1 rfl dX3_divide_2 ?_
  refine j_get (pc := 3) hC flRX3_13 0 rfl rfl dX3_divide_3 ?_
  refine j_aload_n (pc := 6) hC 1 rfl dX3_divide_6 ?_
  refine j_get (pc := 7) hC flRX3_7 0 rfl rfl dX3_divide_7 ?_
  refine j_alen (pc := 10) hC 1 0 rfl rfl (v := (6 : Int32)) rfl dX3_divide_10 ?_
  refine j_imin (pc := 11) hC wm591 wm471 wm84 wm472 (by decide) (Nat.le_of_ble_eq_true rfl) ⟨Nat.le_of_ble_eq_true rfl, Nat.le_of_ble_eq_true rfl⟩ dX3_divide_11 ?_
  refine j_let (pc := 14) (fun x1 => ?_)
  refine j_iconst (pc := 14) hC ki_1 dX3_divide_14 ?_
  refine j_isub (pc := 15) hC dX3_divide_15 ?_
  refine j_let (pc := 16) (fun x2 => ?_)
  refine j_istore (pc := 16) hC (lv' := [(4, .int x2), (2, .long (0 : Int64)), (0, .ref h_a), (1, .int p1)]) rfl (by decide) dX3_divide_16 ?_
  refine j_lv (pc := 18) [2, 3, 1, 0] rfl ?_
  exact jX3_divide_b18 hC u h_a h_a_limbs p1 v_a_size f_a_limbs ((0 : Int64), x2, v_a_size, f_a_limbs)
set_option maxHeartbeats 4000000 in
set_option maxRecDepth 100000 in
theorem mX3_divide (l : Launch) (D : va_G) (cy : Nat → ClassId) (ev : jE) (u : Nat) (h_a h_a_limbs : Nat) (p1 v_a_size : Int32) (f_a_limbs : Nat → Int32) : jM l yX3_divide cX3_divide 5 none rX3_divide [.ref h_a, .int p1] [(h_a, .inr (3, [.ref h_a_limbs, .int v_a_size])), (h_a_limbs, .inl (cy 0, 6, .inl f_a_limbs))] (fun (r : Int32 × (Nat → Int32)) (_ : Nat → Nat) => [(h_a, .inr (3, [.ref h_a_limbs, .int r.1])), (h_a_limbs, .inl (cy 0, 6, .inl r.2))]) (fun (_ : Int32 × (Nat → Int32)) => none) (fX3_divide u p1 v_a_size f_a_limbs) D cy ev := j_met RX3 (by decide +kernel) rfl (Nat.le_of_ble_eq_true rfl) (fun X hC _ hD hy hv => by subst hD; subst hy; subst hv; exact jX3_divide hC u h_a h_a_limbs p1 v_a_size f_a_limbs)
