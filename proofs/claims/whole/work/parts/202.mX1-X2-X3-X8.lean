abbrev gX1_share (X : jX) (h_a h_a_above h_a_below h_b1 h_b1_limbs h_b2 h_b2_limbs h_a_above_limbs h_a_below_limbs : Nat) (v_a_signum v_b1_size v_b2_size v_a_above_size v_a_below_size : Int32) (f_b1_limbs f_b2_limbs f_a_above_limbs f_a_below_limbs : Nat → Int32) (pc : Nat) (lv : List (Nat × Value)) (st : List Value) (w0 : Int32) (w1 : Int32) (w2 : Int32) (w3 : Nat → Int32) (w4 : Nat → Int32) (e : Option (Int32 × Int32 × Int32 × (Nat → Int32) × (Nat → Int32))) : Prop := jJ (ρ := Int32 × Int32 × Int32 × (Nat → Int32) × (Nat → Int32)) X 8 0 0 (jQf X 0 0 (fun (_ : Int32 × Int32 × Int32 × (Nat → Int32) × (Nat → Int32)) => none) (fun (r : Int32 × Int32 × Int32 × (Nat → Int32) × (Nat → Int32)) (_ : Nat → Nat) => [(h_a, .inr (1, [.int r.1, .ref h_a_above, .ref h_a_below])), (h_b1, .inr (3, [.ref h_b1_limbs, .int v_b1_size])), (h_b2, .inr (3, [.ref h_b2_limbs, .int v_b2_size])), (h_a_above, .inr (3, [.ref h_a_above_limbs, .int r.2.1])), (h_a_below, .inr (3, [.ref h_a_below_limbs, .int r.2.2.1])), (h_b1_limbs, .inl (jy X 0, 6, .inl f_b1_limbs)), (h_b2_limbs, .inl (jy X 0, 6, .inl f_b2_limbs)), (h_a_above_limbs, .inl (jy X 0, 6, .inl r.2.2.2.1)), (h_a_below_limbs, .inl (jy X 0, 6, .inl r.2.2.2.2))])) pc lv st [(h_a, .inr (1, [.int w0, .ref h_a_above, .ref h_a_below])), (h_b1, .inr (3, [.ref h_b1_limbs, .int v_b1_size])), (h_b2, .inr (3, [.ref h_b2_limbs, .int v_b2_size])), (h_a_above, .inr (3, [.ref h_a_above_limbs, .int w1])), (h_a_below, .inr (3, [.ref h_a_below_limbs, .int w2])), (h_b1_limbs, .inl (jy X 0, 6, .inl f_b1_limbs)), (h_b2_limbs, .inl (jy X 0, 6, .inl f_b2_limbs)), (h_a_above_limbs, .inl (jy X 0, 6, .inl w3)), (h_a_below_limbs, .inl (jy X 0, 6, .inl w4))] (e)
set_option maxHeartbeats 4000000 in
set_option maxRecDepth 100000 in
theorem jX1_share_b103 {X : jX} (hC : jC X cX1_share 8 RX1 rX1_share none) (u : Nat) (h_a h_a_above h_a_below h_b1 h_b1_limbs h_b2 h_b2_limbs h_a_above_limbs h_a_below_limbs : Nat) (v_a_signum v_b1_size v_b2_size v_a_above_size v_a_below_size : Int32) (f_b1_limbs f_b2_limbs f_a_above_limbs f_a_below_limbs : Nat → Int32) (rec46 : (Int32 × Int32 × Int32 × Int32 × Int32 × (Nat → Int32) × (Nat → Int32)) → Option (Int32 × Int32 × Int32 × (Nat → Int32) × (Nat → Int32))) (hrec46 : ∀ p : Int32 × Int32 × Int32 × Int32 × Int32 × (Nat → Int32) × (Nat → Int32), gX1_share X h_a h_a_above h_a_below h_b1 h_b1_limbs h_b2 h_b2_limbs h_a_above_limbs h_a_below_limbs v_a_signum v_b1_size v_b2_size v_a_above_size v_a_below_size f_b1_limbs f_b2_limbs f_a_above_limbs f_a_below_limbs 46 [(0, .ref h_a), (3, .ref ((jv X).1 5)), (4, .int p.1), (5, .int p.2.1)] [] p.2.2.1 p.2.2.2.1 p.2.2.2.2.1 p.2.2.2.2.2.1 p.2.2.2.2.2.2 (rec46 p)) (p : Int32 × Int32 × Int32 × Int32 × Int32 × (Nat → Int32) × (Nat → Int32)) : gX1_share X h_a h_a_above h_a_below h_b1 h_b1_limbs h_b2 h_b2_limbs h_a_above_limbs h_a_below_limbs v_a_signum v_b1_size v_b2_size v_a_above_size v_a_below_size f_b1_limbs f_b2_limbs f_a_above_limbs f_a_below_limbs 103 [(0, .ref h_a), (3, .ref ((jv X).1 5)), (4, .int p.1), (5, .int p.2.1)] [] p.2.2.1 p.2.2.2.1 p.2.2.2.2.1 p.2.2.2.2.2.1 p.2.2.2.2.2.2 (fX1_share_b103 u v_a_signum v_b1_size v_b2_size v_a_above_size v_a_below_size f_b1_limbs f_b2_limbs f_a_above_limbs f_a_below_limbs rec46 p) := by
  unfold fX1_share_b103
  refine j_iinc (pc := 103) hC 3 rfl ki_1 (fun x4 => (rfl : @Eq (List (Nat × Value)) _ [(5, .int x4), (0, .ref h_a), (3, .ref ((jv X).1 5)), (4, .int p.1)])) (by decide) dX1_share_103 (fun x4 => ?_)
  refine j_goto (pc := 106) hC 46 (by decide) dX1_share_106 ?_
  refine j_lv (pc := 46) [1, 2, 3, 0] rfl ?_
  exact hrec46 (p.1, x4, p.2.2.1, p.2.2.2.1, p.2.2.2.2.1, p.2.2.2.2.2.1, p.2.2.2.2.2.2)
set_option maxHeartbeats 4000000 in
set_option maxRecDepth 100000 in
theorem jX1_share_b62_step {X : jX} (hC : jC X cX1_share 8 RX1 rX1_share none) (u : Nat) (h_a h_a_above h_a_below h_b1 h_b1_limbs h_b2 h_b2_limbs h_a_above_limbs h_a_below_limbs : Nat) (v_a_signum v_b1_size v_b2_size v_a_above_size v_a_below_size : Int32) (f_b1_limbs f_b2_limbs f_a_above_limbs f_a_below_limbs : Nat → Int32) (rec46 : (Int32 × Int32 × Int32 × Int32 × Int32 × (Nat → Int32) × (Nat → Int32)) → Option (Int32 × Int32 × Int32 × (Nat → Int32) × (Nat → Int32))) (hrec46 : ∀ p : Int32 × Int32 × Int32 × Int32 × Int32 × (Nat → Int32) × (Nat → Int32), gX1_share X h_a h_a_above h_a_below h_b1 h_b1_limbs h_b2 h_b2_limbs h_a_above_limbs h_a_below_limbs v_a_signum v_b1_size v_b2_size v_a_above_size v_a_below_size f_b1_limbs f_b2_limbs f_a_above_limbs f_a_below_limbs 46 [(0, .ref h_a), (3, .ref ((jv X).1 5)), (4, .int p.1), (5, .int p.2.1)] [] p.2.2.1 p.2.2.2.1 p.2.2.2.2.1 p.2.2.2.2.2.1 p.2.2.2.2.2.2 (rec46 p)) (rec62 : (Int32 × Int32 × Int32 × Int32 × Int32 × Int32 × Int32 × (Nat → Int32) × (Nat → Int32)) → Option (Int32 × Int32 × Int32 × (Nat → Int32) × (Nat → Int32))) (hrec62 : ∀ p : Int32 × Int32 × Int32 × Int32 × Int32 × Int32 × Int32 × (Nat → Int32) × (Nat → Int32), gX1_share X h_a h_a_above h_a_below h_b1 h_b1_limbs h_b2 h_b2_limbs h_a_above_limbs h_a_below_limbs v_a_signum v_b1_size v_b2_size v_a_above_size v_a_below_size f_b1_limbs f_b2_limbs f_a_above_limbs f_a_below_limbs 62 [(0, .ref h_a), (3, .ref ((jv X).1 5)), (4, .int p.1), (5, .int p.2.1), (6, .int p.2.2.1), (7, .int p.2.2.2.1)] [] p.2.2.2.2.1 p.2.2.2.2.2.1 p.2.2.2.2.2.2.1 p.2.2.2.2.2.2.2.1 p.2.2.2.2.2.2.2.2 (rec62 p)) (p : Int32 × Int32 × Int32 × Int32 × Int32 × Int32 × Int32 × (Nat → Int32) × (Nat → Int32)) : gX1_share X h_a h_a_above h_a_below h_b1 h_b1_limbs h_b2 h_b2_limbs h_a_above_limbs h_a_below_limbs v_a_signum v_b1_size v_b2_size v_a_above_size v_a_below_size f_b1_limbs f_b2_limbs f_a_above_limbs f_a_below_limbs 62 [(0, .ref h_a), (3, .ref ((jv X).1 5)), (4, .int p.1), (5, .int p.2.1), (6, .int p.2.2.1), (7, .int p.2.2.2.1)] [] p.2.2.2.2.1 p.2.2.2.2.2.1 p.2.2.2.2.2.2.1 p.2.2.2.2.2.2.2.1 p.2.2.2.2.2.2.2.2 (fX1_share_b62 u v_a_signum v_b1_size v_b2_size v_a_above_size v_a_below_size f_b1_limbs f_b2_limbs f_a_above_limbs f_a_below_limbs rec46 rec62 p) := by
  unfold fX1_share_b62
  refine j_iload (pc := 62) hC 5 rfl dX1_share_62 ?_
  refine j_sipush (pc := 64) hC ks_1000 dX1_share_64 ?_
  refine j_icmpge (pc := 67) hC 103 (by decide) dX1_share_67 ?_ ?_
  · refine j_lv (pc := 103) [0, 1, 2, 3] rfl ?_
    exact jX1_share_b103 hC u h_a h_a_above h_a_below h_b1 h_b1_limbs h_b2 h_b2_limbs h_a_above_limbs h_a_below_limbs v_a_signum v_b1_size v_b2_size v_a_above_size v_a_below_size f_b1_limbs f_b2_limbs f_a_above_limbs f_a_below_limbs rec46 hrec46 (p.1, p.2.1, p.2.2.2.2.1, p.2.2.2.2.2.1, p.2.2.2.2.2.2.1, p.2.2.2.2.2.2.2.1, p.2.2.2.2.2.2.2.2)
  · refine j_aload_n (pc := 70) hC 0 rfl dX1_share_70 ?_
    refine j_iload (pc := 71) hC 4 rfl dX1_share_71 ?_
    refine j_callV (pc := 73) hC csRX1_57 [.int p.2.2.1] (mX1_areDividedBy (jl X) (jD X) (jy X) (jv X) u h_a h_a_above h_a_below h_a_above_limbs h_a_below_limbs p.2.2.1 p.2.2.2.2.1 p.2.2.2.2.2.1 p.2.2.2.2.2.2.1 p.2.2.2.2.2.2.2.1 p.2.2.2.2.2.2.2.2) [0, 3, 4, 7, 8] rfl (by decide +kernel) 0 rfl ⟨_, _, rfl⟩ ⟨by decide, by decide, rfl, rfl, by decide, by decide⟩ rfl rfl (Nat.le_of_ble_eq_true rfl) dX1_share_73 (jki0 (fun _ => rfl) (fun _ _ => rfl) (fun r5 => ?_))
    refine j_ifeq (pc := 76) hC 103 (by decide) dX1_share_76 ?_ ?_
    · refine j_lv (pc := 103) [0, 1, 2, 3] rfl ?_
      exact jX1_share_b103 hC u h_a h_a_above h_a_below h_b1 h_b1_limbs h_b2 h_b2_limbs h_a_above_limbs h_a_below_limbs v_a_signum v_b1_size v_b2_size v_a_above_size v_a_below_size f_b1_limbs f_b2_limbs f_a_above_limbs f_a_below_limbs rec46 hrec46 (p.1, p.2.1, p.2.2.2.2.1, p.2.2.2.2.2.1, p.2.2.2.2.2.2.1, p.2.2.2.2.2.2.2.1, p.2.2.2.2.2.2.2.2)
    · refine j_aload_n (pc := 79) hC 0 rfl dX1_share_79 ?_
      refine j_get (pc := 80) hC flRX1_10 0 rfl rfl dX1_share_80 ?_
      refine j_iload (pc := 83) hC 4 rfl dX1_share_83 ?_
      refine j_callV (pc := 85) hC csRX1_61 [.int p.2.2.1] (mX3_divide (jl X) (jD X) (jy X) (jv X) u h_a_above h_a_above_limbs p.2.2.1 p.2.2.2.2.2.1 p.2.2.2.2.2.2.2.1) [3, 7] rfl (by decide +kernel) 3 rfl ⟨_, _, rfl⟩ ⟨by decide, by decide, rfl, rfl, by decide, by decide⟩ rfl rfl (Nat.le_of_ble_eq_true rfl) dX1_share_85 (jkv (fun r6 _ => (rfl : @Eq va_W _ [(h_a, .inr (1, [.int p.2.2.2.2.1, .ref h_a_above, .ref h_a_below])), (h_b1, .inr (3, [.ref h_b1_limbs, .int v_b1_size])), (h_b2, .inr (3, [.ref h_b2_limbs, .int v_b2_size])), (h_a_above, .inr (3, [.ref h_a_above_limbs, .int r6.1])), (h_a_below, .inr (3, [.ref h_a_below_limbs, .int p.2.2.2.2.2.2.1])), (h_b1_limbs, .inl (jy X 0, 6, .inl f_b1_limbs)), (h_b2_limbs, .inl (jy X 0, 6, .inl f_b2_limbs)), (h_a_above_limbs, .inl (jy X 0, 6, .inl r6.2)), (h_a_below_limbs, .inl (jy X 0, 6, .inl p.2.2.2.2.2.2.2.2))])) (fun r6 => ?_))
      refine j_aload_n (pc := 88) hC 0 rfl dX1_share_88 ?_
      refine j_get (pc := 89) hC flRX1_16 0 rfl rfl dX1_share_89 ?_
      refine j_iload (pc := 92) hC 4 rfl dX1_share_92 ?_
      refine j_callV (pc := 94) hC csRX1_61 [.int p.2.2.1] (mX3_divide (jl X) (jD X) (jy X) (jv X) u h_a_below h_a_below_limbs p.2.2.1 p.2.2.2.2.2.2.1 p.2.2.2.2.2.2.2.2) [4, 8] rfl (by decide +kernel) 4 rfl ⟨_, _, rfl⟩ ⟨by decide, by decide, rfl, rfl, by decide, by decide⟩ rfl rfl (Nat.le_of_ble_eq_true rfl) dX1_share_94 (jkv (fun r7 _ => (rfl : @Eq va_W _ [(h_a, .inr (1, [.int p.2.2.2.2.1, .ref h_a_above, .ref h_a_below])), (h_b1, .inr (3, [.ref h_b1_limbs, .int v_b1_size])), (h_b2, .inr (3, [.ref h_b2_limbs, .int v_b2_size])), (h_a_above, .inr (3, [.ref h_a_above_limbs, .int r6.1])), (h_a_below, .inr (3, [.ref h_a_below_limbs, .int r7.1])), (h_b1_limbs, .inl (jy X 0, 6, .inl f_b1_limbs)), (h_b2_limbs, .inl (jy X 0, 6, .inl f_b2_limbs)), (h_a_above_limbs, .inl (jy X 0, 6, .inl r6.2)), (h_a_below_limbs, .inl (jy X 0, 6, .inl r7.2))])) (fun r7 => ?_))
      refine j_iinc (pc := 97) hC 5 rfl ki_1 (fun x8 => (rfl : @Eq (List (Nat × Value)) _ [(7, .int x8), (0, .ref h_a), (3, .ref ((jv X).1 5)), (4, .int p.1), (5, .int p.2.1), (6, .int p.2.2.1)])) (by decide) dX1_share_97 (fun x8 => ?_)
      refine j_goto (pc := 100) hC 62 (by decide) dX1_share_100 ?_
      refine j_lv (pc := 62) [1, 2, 3, 4, 5, 0] rfl ?_
      exact hrec62 (p.1, p.2.1, p.2.2.1, x8, p.2.2.2.2.1, r6.1, r7.1, r6.2, r7.2)
set_option maxHeartbeats 4000000 in
set_option maxRecDepth 100000 in
theorem jX1_share_b62 {X : jX} (hC : jC X cX1_share 8 RX1 rX1_share none) (u : Nat) (h_a h_a_above h_a_below h_b1 h_b1_limbs h_b2 h_b2_limbs h_a_above_limbs h_a_below_limbs : Nat) (v_a_signum v_b1_size v_b2_size v_a_above_size v_a_below_size : Int32) (f_b1_limbs f_b2_limbs f_a_above_limbs f_a_below_limbs : Nat → Int32) (rec46 : (Int32 × Int32 × Int32 × Int32 × Int32 × (Nat → Int32) × (Nat → Int32)) → Option (Int32 × Int32 × Int32 × (Nat → Int32) × (Nat → Int32))) (hrec46 : ∀ p : Int32 × Int32 × Int32 × Int32 × Int32 × (Nat → Int32) × (Nat → Int32), gX1_share X h_a h_a_above h_a_below h_b1 h_b1_limbs h_b2 h_b2_limbs h_a_above_limbs h_a_below_limbs v_a_signum v_b1_size v_b2_size v_a_above_size v_a_below_size f_b1_limbs f_b2_limbs f_a_above_limbs f_a_below_limbs 46 [(0, .ref h_a), (3, .ref ((jv X).1 5)), (4, .int p.1), (5, .int p.2.1)] [] p.2.2.1 p.2.2.2.1 p.2.2.2.2.1 p.2.2.2.2.2.1 p.2.2.2.2.2.2 (rec46 p)) (p : Int32 × Int32 × Int32 × Int32 × Int32 × Int32 × Int32 × (Nat → Int32) × (Nat → Int32)) : gX1_share X h_a h_a_above h_a_below h_b1 h_b1_limbs h_b2 h_b2_limbs h_a_above_limbs h_a_below_limbs v_a_signum v_b1_size v_b2_size v_a_above_size v_a_below_size f_b1_limbs f_b2_limbs f_a_above_limbs f_a_below_limbs 62 [(0, .ref h_a), (3, .ref ((jv X).1 5)), (4, .int p.1), (5, .int p.2.1), (6, .int p.2.2.1), (7, .int p.2.2.2.1)] [] p.2.2.2.2.1 p.2.2.2.2.2.1 p.2.2.2.2.2.2.1 p.2.2.2.2.2.2.2.1 p.2.2.2.2.2.2.2.2 (jfix (fX1_share_b62 u v_a_signum v_b1_size v_b2_size v_a_above_size v_a_below_size f_b1_limbs f_b2_limbs f_a_above_limbs f_a_below_limbs rec46) u p) :=
  j_fix (fun rec62 hrec62 p => jX1_share_b62_step hC u h_a h_a_above h_a_below h_b1 h_b1_limbs h_b2 h_b2_limbs h_a_above_limbs h_a_below_limbs v_a_signum v_b1_size v_b2_size v_a_above_size v_a_below_size f_b1_limbs f_b2_limbs f_a_above_limbs f_a_below_limbs rec46 hrec46 rec62 hrec62 p) u p
set_option maxHeartbeats 4000000 in
set_option maxRecDepth 100000 in
theorem jX1_share_b46_step {X : jX} (hC : jC X cX1_share 8 RX1 rX1_share none) (u : Nat) (h_a h_a_above h_a_below h_b1 h_b1_limbs h_b2 h_b2_limbs h_a_above_limbs h_a_below_limbs : Nat) (v_a_signum v_b1_size v_b2_size v_a_above_size v_a_below_size : Int32) (f_b1_limbs f_b2_limbs f_a_above_limbs f_a_below_limbs : Nat → Int32) (rec46 : (Int32 × Int32 × Int32 × Int32 × Int32 × (Nat → Int32) × (Nat → Int32)) → Option (Int32 × Int32 × Int32 × (Nat → Int32) × (Nat → Int32))) (hrec46 : ∀ p : Int32 × Int32 × Int32 × Int32 × Int32 × (Nat → Int32) × (Nat → Int32), gX1_share X h_a h_a_above h_a_below h_b1 h_b1_limbs h_b2 h_b2_limbs h_a_above_limbs h_a_below_limbs v_a_signum v_b1_size v_b2_size v_a_above_size v_a_below_size f_b1_limbs f_b2_limbs f_a_above_limbs f_a_below_limbs 46 [(0, .ref h_a), (3, .ref ((jv X).1 5)), (4, .int p.1), (5, .int p.2.1)] [] p.2.2.1 p.2.2.2.1 p.2.2.2.2.1 p.2.2.2.2.2.1 p.2.2.2.2.2.2 (rec46 p)) (p : Int32 × Int32 × Int32 × Int32 × Int32 × (Nat → Int32) × (Nat → Int32)) : gX1_share X h_a h_a_above h_a_below h_b1 h_b1_limbs h_b2 h_b2_limbs h_a_above_limbs h_a_below_limbs v_a_signum v_b1_size v_b2_size v_a_above_size v_a_below_size f_b1_limbs f_b2_limbs f_a_above_limbs f_a_below_limbs 46 [(0, .ref h_a), (3, .ref ((jv X).1 5)), (4, .int p.1), (5, .int p.2.1)] [] p.2.2.1 p.2.2.2.1 p.2.2.2.2.1 p.2.2.2.2.2.1 p.2.2.2.2.2.2 (fX1_share_b46 u v_a_signum v_b1_size v_b2_size v_a_above_size v_a_below_size f_b1_limbs f_b2_limbs f_a_above_limbs f_a_below_limbs rec46 p) := by
  unfold fX1_share_b46
  refine j_iload (pc := 46) hC 3 rfl dX1_share_46 ?_
  refine j_iload (pc := 48) hC 2 rfl dX1_share_48 ?_
  refine j_icmpge (pc := 50) hC 109 (by decide) dX1_share_50 ?_ ?_
  · exact j_vret (pc := 109) hC (fun _ => 0) rfl rfl dX1_share_109
  · refine j_aload_n (pc := 53) hC 1 rfl dX1_share_53 ?_
    refine j_iload (pc := 54) hC 3 rfl dX1_share_54 ?_
    refine j_tald (pc := 56) hC 5 rfl rfl dX1_share_56 ?_
    refine j_let (pc := 57) (fun x3 => ?_)
    refine j_istore (pc := 57) hC (lv' := [(6, .int x3), (0, .ref h_a), (3, .ref ((jv X).1 5)), (4, .int p.1), (5, .int p.2.1)]) rfl (by decide) dX1_share_57 ?_
    refine j_iconst (pc := 59) hC ki_0 dX1_share_59 ?_
    refine j_istore (pc := 60) hC (lv' := [(7, .int (0 : Int32)), (6, .int x3), (0, .ref h_a), (3, .ref ((jv X).1 5)), (4, .int p.1), (5, .int p.2.1)]) rfl (by decide) dX1_share_60 ?_
    refine j_lv (pc := 62) [2, 3, 4, 5, 1, 0] rfl ?_
    exact jX1_share_b62 hC u h_a h_a_above h_a_below h_b1 h_b1_limbs h_b2 h_b2_limbs h_a_above_limbs h_a_below_limbs v_a_signum v_b1_size v_b2_size v_a_above_size v_a_below_size f_b1_limbs f_b2_limbs f_a_above_limbs f_a_below_limbs rec46 hrec46 (p.1, p.2.1, x3, (0 : Int32), p.2.2.1, p.2.2.2.1, p.2.2.2.2.1, p.2.2.2.2.2.1, p.2.2.2.2.2.2)
set_option maxHeartbeats 4000000 in
set_option maxRecDepth 100000 in
theorem jX1_share_b46 {X : jX} (hC : jC X cX1_share 8 RX1 rX1_share none) (u : Nat) (h_a h_a_above h_a_below h_b1 h_b1_limbs h_b2 h_b2_limbs h_a_above_limbs h_a_below_limbs : Nat) (v_a_signum v_b1_size v_b2_size v_a_above_size v_a_below_size : Int32) (f_b1_limbs f_b2_limbs f_a_above_limbs f_a_below_limbs : Nat → Int32) (p : Int32 × Int32 × Int32 × Int32 × Int32 × (Nat → Int32) × (Nat → Int32)) : gX1_share X h_a h_a_above h_a_below h_b1 h_b1_limbs h_b2 h_b2_limbs h_a_above_limbs h_a_below_limbs v_a_signum v_b1_size v_b2_size v_a_above_size v_a_below_size f_b1_limbs f_b2_limbs f_a_above_limbs f_a_below_limbs 46 [(0, .ref h_a), (3, .ref ((jv X).1 5)), (4, .int p.1), (5, .int p.2.1)] [] p.2.2.1 p.2.2.2.1 p.2.2.2.2.1 p.2.2.2.2.2.1 p.2.2.2.2.2.2 (jfix (fX1_share_b46 u v_a_signum v_b1_size v_b2_size v_a_above_size v_a_below_size f_b1_limbs f_b2_limbs f_a_above_limbs f_a_below_limbs) u p) :=
  j_fix (fun rec46 hrec46 p => jX1_share_b46_step hC u h_a h_a_above h_a_below h_b1 h_b1_limbs h_b2 h_b2_limbs h_a_above_limbs h_a_below_limbs v_a_signum v_b1_size v_b2_size v_a_above_size v_a_below_size f_b1_limbs f_b2_limbs f_a_above_limbs f_a_below_limbs rec46 hrec46 p) u p
set_option maxHeartbeats 4000000 in
set_option maxRecDepth 100000 in
theorem jX1_share {X : jX} (hC : jC X cX1_share 8 RX1 rX1_share none) (u : Nat) (h_a h_a_above h_a_below h_b1 h_b1_limbs h_b2 h_b2_limbs h_a_above_limbs h_a_below_limbs : Nat) (v_a_signum v_b1_size v_b2_size v_a_above_size v_a_below_size : Int32) (f_b1_limbs f_b2_limbs f_a_above_limbs f_a_below_limbs : Nat → Int32) : gX1_share X h_a h_a_above h_a_below h_b1 h_b1_limbs h_b2 h_b2_limbs h_a_above_limbs h_a_below_limbs v_a_signum v_b1_size v_b2_size v_a_above_size v_a_below_size f_b1_limbs f_b2_limbs f_a_above_limbs f_a_below_limbs 0 [(0, .ref h_a), (1, .ref h_b1), (2, .ref h_b2)] [] v_a_signum v_a_above_size v_a_below_size f_a_above_limbs f_a_below_limbs (fX1_share u v_a_signum v_b1_size v_b2_size v_a_above_size v_a_below_size f_b1_limbs f_b2_limbs f_a_above_limbs f_a_below_limbs) := by
  unfold fX1_share
  refine j_aload_n (pc := 0) hC 1 rfl dX1_share_0 ?_
  refine j_get (pc := 1) hC flRX1_43 1 rfl rfl dX1_share_1 ?_
  refine j_ifne (pc := 4) hC 14 (by decide) dX1_share_4 ?_ ?_
  · refine j_aload_n (pc := 14) hC 0 rfl dX1_share_14 ?_
    refine j_iconst (pc := 15) hC ki_1 dX1_share_15 ?_
    refine j_put (pc := 16) hC fpRX1_39 0 rfl rfl rfl (Nat.le_of_ble_eq_true rfl) dX1_share_16 (ws' := [(h_a, .inr (1, [.int (1 : Int32), .ref h_a_above, .ref h_a_below])), (h_b1, .inr (3, [.ref h_b1_limbs, .int v_b1_size])), (h_b2, .inr (3, [.ref h_b2_limbs, .int v_b2_size])), (h_a_above, .inr (3, [.ref h_a_above_limbs, .int v_a_above_size])), (h_a_below, .inr (3, [.ref h_a_below_limbs, .int v_a_below_size])), (h_b1_limbs, .inl (jy X 0, 6, .inl f_b1_limbs)), (h_b2_limbs, .inl (jy X 0, 6, .inl f_b2_limbs)), (h_a_above_limbs, .inl (jy X 0, 6, .inl f_a_above_limbs)), (h_a_below_limbs, .inl (jy X 0, 6, .inl f_a_below_limbs))]) rfl ?_
    refine j_aload_n (pc := 19) hC 0 rfl dX1_share_19 ?_
    refine j_get (pc := 20) hC flRX1_10 0 rfl rfl dX1_share_20 ?_
    refine j_aload_n (pc := 23) hC 1 rfl dX1_share_23 ?_
    refine j_callV (pc := 24) hC csRX1_49 [.ref h_b1] (mX3_copyFrom (jl X) (jD X) (jy X) (jv X) h_a_above h_a_above_limbs h_b1 h_b1_limbs v_a_above_size v_b1_size f_a_above_limbs f_b1_limbs) [3, 1, 7, 5] rfl (by decide +kernel) 3 rfl ⟨_, _, rfl⟩ ⟨by decide, by decide, rfl, rfl, by decide, by decide⟩ rfl rfl (Nat.le_of_ble_eq_true rfl) dX1_share_24 (jkv (fun r1 _ => (rfl : @Eq va_W _ [(h_a, .inr (1, [.int (1 : Int32), .ref h_a_above, .ref h_a_below])), (h_b1, .inr (3, [.ref h_b1_limbs, .int v_b1_size])), (h_b2, .inr (3, [.ref h_b2_limbs, .int v_b2_size])), (h_a_above, .inr (3, [.ref h_a_above_limbs, .int r1.1])), (h_a_below, .inr (3, [.ref h_a_below_limbs, .int v_a_below_size])), (h_b1_limbs, .inl (jy X 0, 6, .inl f_b1_limbs)), (h_b2_limbs, .inl (jy X 0, 6, .inl f_b2_limbs)), (h_a_above_limbs, .inl (jy X 0, 6, .inl r1.2)), (h_a_below_limbs, .inl (jy X 0, 6, .inl f_a_below_limbs))])) (fun r1 => ?_))
    refine j_aload_n (pc := 27) hC 0 rfl dX1_share_27 ?_
    refine j_get (pc := 28) hC flRX1_16 0 rfl rfl dX1_share_28 ?_
    refine j_aload_n (pc := 31) hC 2 rfl dX1_share_31 ?_
    refine j_callV (pc := 32) hC csRX1_49 [.ref h_b2] (mX3_copyFrom (jl X) (jD X) (jy X) (jv X) h_a_below h_a_below_limbs h_b2 h_b2_limbs v_a_below_size v_b2_size f_a_below_limbs f_b2_limbs) [4, 2, 8, 6] rfl (by decide +kernel) 4 rfl ⟨_, _, rfl⟩ ⟨by decide, by decide, rfl, rfl, by decide, by decide⟩ rfl rfl (Nat.le_of_ble_eq_true rfl) dX1_share_32 (jkv (fun r2 _ => (rfl : @Eq va_W _ [(h_a, .inr (1, [.int (1 : Int32), .ref h_a_above, .ref h_a_below])), (h_b1, .inr (3, [.ref h_b1_limbs, .int v_b1_size])), (h_b2, .inr (3, [.ref h_b2_limbs, .int v_b2_size])), (h_a_above, .inr (3, [.ref h_a_above_limbs, .int r1.1])), (h_a_below, .inr (3, [.ref h_a_below_limbs, .int r2.1])), (h_b1_limbs, .inl (jy X 0, 6, .inl f_b1_limbs)), (h_b2_limbs, .inl (jy X 0, 6, .inl f_b2_limbs)), (h_a_above_limbs, .inl (jy X 0, 6, .inl r1.2)), (h_a_below_limbs, .inl (jy X 0, 6, .inl r2.2))])) (fun r2 => ?_))
    refine j_gets (pc := 35) hC 5 rfl wm577 dX1_share_35 ?_
    refine j_astore_n (pc := 38) hC (lv' := [(3, .ref ((jv X).1 5)), (0, .ref h_a), (1, .ref h_b1), (2, .ref h_b2)]) rfl (by decide) dX1_share_38 ?_
    refine j_aload_n (pc := 39) hC 0 rfl dX1_share_39 ?_
    refine j_tlen (pc := 40) hC 5 rfl (v := (8 : Int32)) rfl dX1_share_40 ?_
    refine j_istore (pc := 41) hC (lv' := [(4, .int (8 : Int32)), (3, .ref ((jv X).1 5)), (0, .ref h_a), (1, .ref h_b1), (2, .ref h_b2)]) rfl (by decide) dX1_share_41 ?_
    refine j_iconst (pc := 43) hC ki_0 dX1_share_43 ?_
    refine j_istore (pc := 44) hC (lv' := [(5, .int (0 : Int32)), (4, .int (8 : Int32)), (3, .ref ((jv X).1 5)), (0, .ref h_a), (1, .ref h_b1), (2, .ref h_b2)]) rfl (by decide) dX1_share_44 ?_
    refine j_lv (pc := 46) [3, 2, 1, 0] rfl ?_
    exact jX1_share_b46 hC u h_a h_a_above h_a_below h_b1 h_b1_limbs h_b2 h_b2_limbs h_a_above_limbs h_a_below_limbs v_a_signum v_b1_size v_b2_size v_a_above_size v_a_below_size f_b1_limbs f_b2_limbs f_a_above_limbs f_a_below_limbs ((8 : Int32), (0 : Int32), (1 : Int32), r1.1, r2.1, r1.2, r2.2)
  · refine j_aload_n (pc := 7) hC 0 rfl dX1_share_7 ?_
    refine j_lconst (pc := 8) hC (v := (0 : Int64)) rfl dX1_share_8 ?_
    refine j_lconst (pc := 9) hC (v := (1 : Int64)) rfl dX1_share_9 ?_
    refine j_callV (pc := 10) hC csRX1_46 [.long (0 : Int64), .long (1 : Int64)] (mX1_set (jl X) (jD X) (jy X) (jv X) u h_a h_a_above h_a_below h_a_above_limbs h_a_below_limbs (0 : Int64) (1 : Int64) v_a_signum v_a_above_size v_a_below_size f_a_above_limbs f_a_below_limbs) [0, 3, 4, 7, 8] rfl (by decide +kernel) 0 rfl ⟨_, _, rfl⟩ ⟨by decide, by decide, rfl, rfl, by decide, by decide⟩ rfl rfl (Nat.le_of_ble_eq_true rfl) dX1_share_10 (jkv (fun r9 _ => (rfl : @Eq va_W _ [(h_a, .inr (1, [.int r9.1, .ref h_a_above, .ref h_a_below])), (h_b1, .inr (3, [.ref h_b1_limbs, .int v_b1_size])), (h_b2, .inr (3, [.ref h_b2_limbs, .int v_b2_size])), (h_a_above, .inr (3, [.ref h_a_above_limbs, .int r9.2.1])), (h_a_below, .inr (3, [.ref h_a_below_limbs, .int r9.2.2.1])), (h_b1_limbs, .inl (jy X 0, 6, .inl f_b1_limbs)), (h_b2_limbs, .inl (jy X 0, 6, .inl f_b2_limbs)), (h_a_above_limbs, .inl (jy X 0, 6, .inl r9.2.2.2.1)), (h_a_below_limbs, .inl (jy X 0, 6, .inl r9.2.2.2.2))])) (fun r9 => ?_))
    exact j_vret (pc := 13) hC (fun _ => 0) rfl rfl dX1_share_13
set_option maxHeartbeats 4000000 in
set_option maxRecDepth 100000 in
theorem mX1_share (l : Launch) (D : va_G) (cy : Nat → ClassId) (ev : jE) (u : Nat) (h_a h_a_above h_a_below h_b1 h_b1_limbs h_b2 h_b2_limbs h_a_above_limbs h_a_below_limbs : Nat) (v_a_signum v_b1_size v_b2_size v_a_above_size v_a_below_size : Int32) (f_b1_limbs f_b2_limbs f_a_above_limbs f_a_below_limbs : Nat → Int32) : jM l yX1_share cX1_share 8 none rX1_share [.ref h_a, .ref h_b1, .ref h_b2] [(h_a, .inr (1, [.int v_a_signum, .ref h_a_above, .ref h_a_below])), (h_b1, .inr (3, [.ref h_b1_limbs, .int v_b1_size])), (h_b2, .inr (3, [.ref h_b2_limbs, .int v_b2_size])), (h_a_above, .inr (3, [.ref h_a_above_limbs, .int v_a_above_size])), (h_a_below, .inr (3, [.ref h_a_below_limbs, .int v_a_below_size])), (h_b1_limbs, .inl (cy 0, 6, .inl f_b1_limbs)), (h_b2_limbs, .inl (cy 0, 6, .inl f_b2_limbs)), (h_a_above_limbs, .inl (cy 0, 6, .inl f_a_above_limbs)), (h_a_below_limbs, .inl (cy 0, 6, .inl f_a_below_limbs))] (fun (r : Int32 × Int32 × Int32 × (Nat → Int32) × (Nat → Int32)) (_ : Nat → Nat) => [(h_a, .inr (1, [.int r.1, .ref h_a_above, .ref h_a_below])), (h_b1, .inr (3, [.ref h_b1_limbs, .int v_b1_size])), (h_b2, .inr (3, [.ref h_b2_limbs, .int v_b2_size])), (h_a_above, .inr (3, [.ref h_a_above_limbs, .int r.2.1])), (h_a_below, .inr (3, [.ref h_a_below_limbs, .int r.2.2.1])), (h_b1_limbs, .inl (cy 0, 6, .inl f_b1_limbs)), (h_b2_limbs, .inl (cy 0, 6, .inl f_b2_limbs)), (h_a_above_limbs, .inl (cy 0, 6, .inl r.2.2.2.1)), (h_a_below_limbs, .inl (cy 0, 6, .inl r.2.2.2.2))]) (fun (_ : Int32 × Int32 × Int32 × (Nat → Int32) × (Nat → Int32)) => none) (fX1_share u v_a_signum v_b1_size v_b2_size v_a_above_size v_a_below_size f_b1_limbs f_b2_limbs f_a_above_limbs f_a_below_limbs) D cy ev := j_met RX1 (by decide +kernel) rfl (Nat.le_of_ble_eq_true rfl) (fun X hC _ hD hy hv => by subst hD; subst hy; subst hv; exact jX1_share hC u h_a h_a_above h_a_below h_b1 h_b1_limbs h_b2 h_b2_limbs h_a_above_limbs h_a_below_limbs v_a_signum v_b1_size v_b2_size v_a_above_size v_a_below_size f_b1_limbs f_b2_limbs f_a_above_limbs f_a_below_limbs)
abbrev gX8_mixed (X : jX) (p0 p2 : Int64) (pc : Nat) (lv : List (Nat × Value)) (st : List Value) (e : Option (Int64)) : Prop := jJ (ρ := Int64) X 4 0 0 (jQf X 0 0 (fun (r : Int64) => some (.long r)) (fun (_ : Int64) (_ : Nat → Nat) => [])) pc lv st [] (e)
set_option maxHeartbeats 4000000 in
set_option maxRecDepth 100000 in
theorem jX8_mixed {X : jX} (hC : jC X cX8_mixed 4 RX8 rX8_mixed (some .long)) (p0 p2 : Int64) : gX8_mixed X p0 p2 0 [(0, .long p0), (2, .long p2)] [] (fX8_mixed p0 p2) := by
  unfold fX8_mixed
  refine j_ldc2 (pc := 0) hC wm886 dX8_mixed_0 ?_
  refine j_lload_n (pc := 3) hC 0 rfl dX8_mixed_3 ?_
  refine j_lmul (pc := 4) hC dX8_mixed_4 ?_
  refine j_lload_n (pc := 5) hC 1 rfl dX8_mixed_5 ?_
  refine j_ladd (pc := 6) hC dX8_mixed_6 ?_
  exact j_lret (pc := 7) hC (fun _ => 0) rfl rfl dX8_mixed_7
set_option maxHeartbeats 4000000 in
set_option maxRecDepth 100000 in
theorem mX8_mixed (l : Launch) (D : va_G) (cy : Nat → ClassId) (ev : jE) (p0 p2 : Int64) : jM l yX8_mixed cX8_mixed 4 (some .long) rX8_mixed [.long p0, .long p2] [] (fun (_ : Int64) (_ : Nat → Nat) => []) (fun (r : Int64) => some (.long r)) (fX8_mixed p0 p2) D cy ev := j_met RX8 (by decide +kernel) rfl (Nat.le_of_ble_eq_true rfl) (fun X hC _ hD hy hv => by subst hD; subst hy; subst hv; exact jX8_mixed hC p0 p2)
abbrev gX1_mixedInto (X : jX) (h_a h_a_above h_a_below h_a_above_limbs h_a_below_limbs : Nat) (p1 : Int64) (v_a_signum v_a_above_size v_a_below_size : Int32) (f_a_above_limbs f_a_below_limbs : Nat → Int32) (pc : Nat) (lv : List (Nat × Value)) (st : List Value) (e : Option (Int64)) : Prop := jJ (ρ := Int64) X 6 0 0 (jQf X 0 0 (fun (r : Int64) => some (.long r)) (fun (_ : Int64) (_ : Nat → Nat) => [(h_a, .inr (1, [.int v_a_signum, .ref h_a_above, .ref h_a_below])), (h_a_above, .inr (3, [.ref h_a_above_limbs, .int v_a_above_size])), (h_a_below, .inr (3, [.ref h_a_below_limbs, .int v_a_below_size])), (h_a_above_limbs, .inl (jy X 0, 6, .inl f_a_above_limbs)), (h_a_below_limbs, .inl (jy X 0, 6, .inl f_a_below_limbs))])) pc lv st [(h_a, .inr (1, [.int v_a_signum, .ref h_a_above, .ref h_a_below])), (h_a_above, .inr (3, [.ref h_a_above_limbs, .int v_a_above_size])), (h_a_below, .inr (3, [.ref h_a_below_limbs, .int v_a_below_size])), (h_a_above_limbs, .inl (jy X 0, 6, .inl f_a_above_limbs)), (h_a_below_limbs, .inl (jy X 0, 6, .inl f_a_below_limbs))] (e)
set_option maxHeartbeats 4000000 in
set_option maxRecDepth 100000 in
theorem jX1_mixedInto_b71_step {X : jX} (hC : jC X cX1_mixedInto 6 RX1 rX1_mixedInto (some .long)) (u : Nat) (h_a h_a_above h_a_below h_a_above_limbs h_a_below_limbs : Nat) (p1 : Int64) (v_a_signum v_a_above_size v_a_below_size : Int32) (f_a_above_limbs f_a_below_limbs : Nat → Int32) (rec71 : (Int64 × Int32) → Option (Int64)) (hrec71 : ∀ p : Int64 × Int32, gX1_mixedInto X h_a h_a_above h_a_below h_a_above_limbs h_a_below_limbs p1 v_a_signum v_a_above_size v_a_below_size f_a_above_limbs f_a_below_limbs 71 [(0, .ref h_a), (3, .long p.1), (5, .int p.2)] [] (rec71 p)) (p : Int64 × Int32) : gX1_mixedInto X h_a h_a_above h_a_below h_a_above_limbs h_a_below_limbs p1 v_a_signum v_a_above_size v_a_below_size f_a_above_limbs f_a_below_limbs 71 [(0, .ref h_a), (3, .long p.1), (5, .int p.2)] [] (fX1_mixedInto_b71 u p1 v_a_signum v_a_above_size v_a_below_size f_a_above_limbs f_a_below_limbs rec71 p) := by
  unfold fX1_mixedInto_b71
  refine j_iload (pc := 71) hC 2 rfl dX1_mixedInto_71 ?_
  refine j_aload_n (pc := 73) hC 0 rfl dX1_mixedInto_73 ?_
  refine j_get (pc := 74) hC flRX1_16 0 rfl rfl dX1_mixedInto_74 ?_
  refine j_get (pc := 77) hC flRX1_43 2 rfl rfl dX1_mixedInto_77 ?_
  refine j_icmpge (pc := 80) hC 104 (by decide) dX1_mixedInto_80 ?_ ?_
  · refine j_lload_n (pc := 104) hC 1 rfl dX1_mixedInto_104 ?_
    exact j_lret (pc := 105) hC (fun _ => 0) rfl rfl dX1_mixedInto_105
  · refine j_lload_n (pc := 83) hC 1 rfl dX1_mixedInto_83 ?_
    refine j_aload_n (pc := 84) hC 0 rfl dX1_mixedInto_84 ?_
    refine j_get (pc := 85) hC flRX1_16 0 rfl rfl dX1_mixedInto_85 ?_
    refine j_iload (pc := 88) hC 2 rfl dX1_mixedInto_88 ?_
    refine j_callV (pc := 90) hC csRX1_74 [.int p.2] (mX3_digit (jl X) (jD X) (jy X) (jv X) h_a_below h_a_below_limbs p.2 v_a_below_size f_a_below_limbs) [2, 4] rfl (by decide +kernel) 2 rfl ⟨_, _, rfl⟩ ⟨by decide, by decide, rfl, rfl, by decide, by decide⟩ rfl rfl (Nat.le_of_ble_eq_true rfl) dX1_mixedInto_90 (jki0 (fun _ => rfl) (fun _ _ => rfl) (fun r4 => ?_))
    refine j_i2l (pc := 93) hC dX1_mixedInto_93 ?_
    refine j_callN (pc := 94) hC csRX1_69 [.long p.1, .long (r4.toInt64)] (mX8_mixed (jl X) (jD X) (jy X) (jv X) p.1 (r4.toInt64)) [] rfl (by decide +kernel) ⟨by decide, by decide, rfl, rfl, by decide, by decide⟩ rfl rfl (Nat.le_of_ble_eq_true rfl) dX1_mixedInto_94 (jkl0 (fun _ => rfl) (fun _ _ => rfl) (fun r5 => ?_))
    refine j_lstore_n (pc := 97) hC (lv' := [(3, .long r5), (0, .ref h_a), (5, .int p.2)]) rfl (by decide) dX1_mixedInto_97 ?_
    refine j_iinc (pc := 98) hC 2 rfl ki_1 (fun x6 => (rfl : @Eq (List (Nat × Value)) _ [(5, .int x6), (3, .long r5), (0, .ref h_a)])) (by decide) dX1_mixedInto_98 (fun x6 => ?_)
    refine j_goto (pc := 101) hC 71 (by decide) dX1_mixedInto_101 ?_
    refine j_lv (pc := 71) [2, 1, 0] rfl ?_
    exact hrec71 (r5, x6)
set_option maxHeartbeats 4000000 in
set_option maxRecDepth 100000 in
theorem jX1_mixedInto_b71 {X : jX} (hC : jC X cX1_mixedInto 6 RX1 rX1_mixedInto (some .long)) (u : Nat) (h_a h_a_above h_a_below h_a_above_limbs h_a_below_limbs : Nat) (p1 : Int64) (v_a_signum v_a_above_size v_a_below_size : Int32) (f_a_above_limbs f_a_below_limbs : Nat → Int32) (p : Int64 × Int32) : gX1_mixedInto X h_a h_a_above h_a_below h_a_above_limbs h_a_below_limbs p1 v_a_signum v_a_above_size v_a_below_size f_a_above_limbs f_a_below_limbs 71 [(0, .ref h_a), (3, .long p.1), (5, .int p.2)] [] (jfix (fX1_mixedInto_b71 u p1 v_a_signum v_a_above_size v_a_below_size f_a_above_limbs f_a_below_limbs) u p) :=
  j_fix (fun rec71 hrec71 p => jX1_mixedInto_b71_step hC u h_a h_a_above h_a_below h_a_above_limbs h_a_below_limbs p1 v_a_signum v_a_above_size v_a_below_size f_a_above_limbs f_a_below_limbs rec71 hrec71 p) u p
set_option maxHeartbeats 4000000 in
set_option maxRecDepth 100000 in
theorem jX1_mixedInto_b35_step {X : jX} (hC : jC X cX1_mixedInto 6 RX1 rX1_mixedInto (some .long)) (u : Nat) (h_a h_a_above h_a_below h_a_above_limbs h_a_below_limbs : Nat) (p1 : Int64) (v_a_signum v_a_above_size v_a_below_size : Int32) (f_a_above_limbs f_a_below_limbs : Nat → Int32) (rec35 : (Int64 × Int32) → Option (Int64)) (hrec35 : ∀ p : Int64 × Int32, gX1_mixedInto X h_a h_a_above h_a_below h_a_above_limbs h_a_below_limbs p1 v_a_signum v_a_above_size v_a_below_size f_a_above_limbs f_a_below_limbs 35 [(0, .ref h_a), (3, .long p.1), (5, .int p.2)] [] (rec35 p)) (p : Int64 × Int32) : gX1_mixedInto X h_a h_a_above h_a_below h_a_above_limbs h_a_below_limbs p1 v_a_signum v_a_above_size v_a_below_size f_a_above_limbs f_a_below_limbs 35 [(0, .ref h_a), (3, .long p.1), (5, .int p.2)] [] (fX1_mixedInto_b35 u p1 v_a_signum v_a_above_size v_a_below_size f_a_above_limbs f_a_below_limbs rec35 p) := by
  unfold fX1_mixedInto_b35
  refine j_iload (pc := 35) hC 2 rfl dX1_mixedInto_35 ?_
  refine j_aload_n (pc := 37) hC 0 rfl dX1_mixedInto_37 ?_
  refine j_get (pc := 38) hC flRX1_10 0 rfl rfl dX1_mixedInto_38 ?_
  refine j_get (pc := 41) hC flRX1_43 1 rfl rfl dX1_mixedInto_41 ?_
  refine j_icmpge (pc := 44) hC 68 (by decide) dX1_mixedInto_44 ?_ ?_
  · refine j_iconst (pc := 68) hC ki_0 dX1_mixedInto_68 ?_
    refine j_istore (pc := 69) hC (lv' := [(5, .int (0 : Int32)), (0, .ref h_a), (3, .long p.1)]) rfl (by decide) dX1_mixedInto_69 ?_
    refine j_lv (pc := 71) [1, 2, 0] rfl ?_
    exact jX1_mixedInto_b71 hC u h_a h_a_above h_a_below h_a_above_limbs h_a_below_limbs p1 v_a_signum v_a_above_size v_a_below_size f_a_above_limbs f_a_below_limbs (p.1, (0 : Int32))
  · refine j_lload_n (pc := 47) hC 1 rfl dX1_mixedInto_47 ?_
    refine j_aload_n (pc := 48) hC 0 rfl dX1_mixedInto_48 ?_
    refine j_get (pc := 49) hC flRX1_10 0 rfl rfl dX1_mixedInto_49 ?_
    refine j_iload (pc := 52) hC 2 rfl dX1_mixedInto_52 ?_
    refine j_callV (pc := 54) hC csRX1_74 [.int p.2] (mX3_digit (jl X) (jD X) (jy X) (jv X) h_a_above h_a_above_limbs p.2 v_a_above_size f_a_above_limbs) [1, 3] rfl (by decide +kernel) 1 rfl ⟨_, _, rfl⟩ ⟨by decide, by decide, rfl, rfl, by decide, by decide⟩ rfl rfl (Nat.le_of_ble_eq_true rfl) dX1_mixedInto_54 (jki0 (fun _ => rfl) (fun _ _ => rfl) (fun r7 => ?_))
    refine j_i2l (pc := 57) hC dX1_mixedInto_57 ?_
    refine j_callN (pc := 58) hC csRX1_69 [.long p.1, .long (r7.toInt64)] (mX8_mixed (jl X) (jD X) (jy X) (jv X) p.1 (r7.toInt64)) [] rfl (by decide +kernel) ⟨by decide, by decide, rfl, rfl, by decide, by decide⟩ rfl rfl (Nat.le_of_ble_eq_true rfl) dX1_mixedInto_58 (jkl0 (fun _ => rfl) (fun _ _ => rfl) (fun r8 => ?_))
    refine j_lstore_n (pc := 61) hC (lv' := [(3, .long r8), (0, .ref h_a), (5, .int p.2)]) rfl (by decide) dX1_mixedInto_61 ?_
    refine j_iinc (pc := 62) hC 2 rfl ki_1 (fun x9 => (rfl : @Eq (List (Nat × Value)) _ [(5, .int x9), (3, .long r8), (0, .ref h_a)])) (by decide) dX1_mixedInto_62 (fun x9 => ?_)
    refine j_goto (pc := 65) hC 35 (by decide) dX1_mixedInto_65 ?_
    refine j_lv (pc := 35) [2, 1, 0] rfl ?_
    exact hrec35 (r8, x9)
set_option maxHeartbeats 4000000 in
set_option maxRecDepth 100000 in
theorem jX1_mixedInto_b35 {X : jX} (hC : jC X cX1_mixedInto 6 RX1 rX1_mixedInto (some .long)) (u : Nat) (h_a h_a_above h_a_below h_a_above_limbs h_a_below_limbs : Nat) (p1 : Int64) (v_a_signum v_a_above_size v_a_below_size : Int32) (f_a_above_limbs f_a_below_limbs : Nat → Int32) (p : Int64 × Int32) : gX1_mixedInto X h_a h_a_above h_a_below h_a_above_limbs h_a_below_limbs p1 v_a_signum v_a_above_size v_a_below_size f_a_above_limbs f_a_below_limbs 35 [(0, .ref h_a), (3, .long p.1), (5, .int p.2)] [] (jfix (fX1_mixedInto_b35 u p1 v_a_signum v_a_above_size v_a_below_size f_a_above_limbs f_a_below_limbs) u p) :=
  j_fix (fun rec35 hrec35 p => jX1_mixedInto_b35_step hC u h_a h_a_above h_a_below h_a_above_limbs h_a_below_limbs p1 v_a_signum v_a_above_size v_a_below_size f_a_above_limbs f_a_below_limbs rec35 hrec35 p) u p
set_option maxHeartbeats 4000000 in
set_option maxRecDepth 100000 in
theorem jX1_mixedInto {X : jX} (hC : jC X cX1_mixedInto 6 RX1 rX1_mixedInto (some .long)) (u : Nat) (h_a h_a_above h_a_below h_a_above_limbs h_a_below_limbs : Nat) (p1 : Int64) (v_a_signum v_a_above_size v_a_below_size : Int32) (f_a_above_limbs f_a_below_limbs : Nat → Int32) : gX1_mixedInto X h_a h_a_above h_a_below h_a_above_limbs h_a_below_limbs p1 v_a_signum v_a_above_size v_a_below_size f_a_above_limbs f_a_below_limbs 0 [(0, .ref h_a), (1, .long p1)] [] (fX1_mixedInto u p1 v_a_signum v_a_above_size v_a_below_size f_a_above_limbs f_a_below_limbs) := by
  unfold fX1_mixedInto
  refine j_lload_n (pc := 0) hC 1 rfl dX1_mixedInto_0 ?_
  refine j_aload_n (pc := 1) hC 0 rfl dX1_mixedInto_1 ?_
  refine j_get (pc := 2) hC flRX1_39 0 rfl rfl dX1_mixedInto_2 ?_
  refine j_i2l (pc := 5) hC dX1_mixedInto_5 ?_
  refine j_callN (pc := 6) hC csRX1_69 [.long p1, .long (v_a_signum.toInt64)] (mX8_mixed (jl X) (jD X) (jy X) (jv X) p1 (v_a_signum.toInt64)) [] rfl (by decide +kernel) ⟨by decide, by decide, rfl, rfl, by decide, by decide⟩ rfl rfl (Nat.le_of_ble_eq_true rfl) dX1_mixedInto_6 (jkl0 (fun _ => rfl) (fun _ _ => rfl) (fun r1 => ?_))
  refine j_aload_n (pc := 9) hC 0 rfl dX1_mixedInto_9 ?_
  refine j_get (pc := 10) hC flRX1_10 0 rfl rfl dX1_mixedInto_10 ?_
  refine j_get (pc := 13) hC flRX1_43 1 rfl rfl dX1_mixedInto_13 ?_
  refine j_i2l (pc := 16) hC dX1_mixedInto_16 ?_
  refine j_callN (pc := 17) hC csRX1_69 [.long r1, .long (v_a_above_size.toInt64)] (mX8_mixed (jl X) (jD X) (jy X) (jv X) r1 (v_a_above_size.toInt64)) [] rfl (by decide +kernel) ⟨by decide, by decide, rfl, rfl, by decide, by decide⟩ rfl rfl (Nat.le_of_ble_eq_true rfl) dX1_mixedInto_17 (jkl0 (fun _ => rfl) (fun _ _ => rfl) (fun r2 => ?_))
  refine j_aload_n (pc := 20) hC 0 rfl dX1_mixedInto_20 ?_
  refine j_get (pc := 21) hC flRX1_16 0 rfl rfl dX1_mixedInto_21 ?_
  refine j_get (pc := 24) hC flRX1_43 2 rfl rfl dX1_mixedInto_24 ?_
  refine j_i2l (pc := 27) hC dX1_mixedInto_27 ?_
  refine j_callN (pc := 28) hC csRX1_69 [.long r2, .long (v_a_below_size.toInt64)] (mX8_mixed (jl X) (jD X) (jy X) (jv X) r2 (v_a_below_size.toInt64)) [] rfl (by decide +kernel) ⟨by decide, by decide, rfl, rfl, by decide, by decide⟩ rfl rfl (Nat.le_of_ble_eq_true rfl) dX1_mixedInto_28 (jkl0 (fun _ => rfl) (fun _ _ => rfl) (fun r3 => ?_))
  refine j_lstore_n (pc := 31) hC (lv' := [(3, .long r3), (0, .ref h_a), (1, .long p1)]) rfl (by decide) dX1_mixedInto_31 ?_
  refine j_iconst (pc := 32) hC ki_0 dX1_mixedInto_32 ?_
  refine j_istore (pc := 33) hC (lv' := [(5, .int (0 : Int32)), (3, .long r3), (0, .ref h_a), (1, .long p1)]) rfl (by decide) dX1_mixedInto_33 ?_
  refine j_lv (pc := 35) [2, 1, 0] rfl ?_
  exact jX1_mixedInto_b35 hC u h_a h_a_above h_a_below h_a_above_limbs h_a_below_limbs p1 v_a_signum v_a_above_size v_a_below_size f_a_above_limbs f_a_below_limbs (r3, (0 : Int32))
set_option maxHeartbeats 4000000 in
set_option maxRecDepth 100000 in
theorem mX1_mixedInto (l : Launch) (D : va_G) (cy : Nat → ClassId) (ev : jE) (u : Nat) (h_a h_a_above h_a_below h_a_above_limbs h_a_below_limbs : Nat) (p1 : Int64) (v_a_signum v_a_above_size v_a_below_size : Int32) (f_a_above_limbs f_a_below_limbs : Nat → Int32) : jM l yX1_mixedInto cX1_mixedInto 6 (some .long) rX1_mixedInto [.ref h_a, .long p1] [(h_a, .inr (1, [.int v_a_signum, .ref h_a_above, .ref h_a_below])), (h_a_above, .inr (3, [.ref h_a_above_limbs, .int v_a_above_size])), (h_a_below, .inr (3, [.ref h_a_below_limbs, .int v_a_below_size])), (h_a_above_limbs, .inl (cy 0, 6, .inl f_a_above_limbs)), (h_a_below_limbs, .inl (cy 0, 6, .inl f_a_below_limbs))] (fun (_ : Int64) (_ : Nat → Nat) => [(h_a, .inr (1, [.int v_a_signum, .ref h_a_above, .ref h_a_below])), (h_a_above, .inr (3, [.ref h_a_above_limbs, .int v_a_above_size])), (h_a_below, .inr (3, [.ref h_a_below_limbs, .int v_a_below_size])), (h_a_above_limbs, .inl (cy 0, 6, .inl f_a_above_limbs)), (h_a_below_limbs, .inl (cy 0, 6, .inl f_a_below_limbs))]) (fun (r : Int64) => some (.long r)) (fX1_mixedInto u p1 v_a_signum v_a_above_size v_a_below_size f_a_above_limbs f_a_below_limbs) D cy ev := j_met RX1 (by decide +kernel) rfl (Nat.le_of_ble_eq_true rfl) (fun X hC _ hD hy hv => by subst hD; subst hy; subst hv; exact jX1_mixedInto hC u h_a h_a_above h_a_below h_a_above_limbs h_a_below_limbs p1 v_a_signum v_a_above_size v_a_below_size f_a_above_limbs f_a_below_limbs)
abbrev gX2_shape (X : jX) (h_a h_a_told : Nat) (v_a_length v_a_weight v_a_place v_a_stiff v_a_angle v_a_pushes v_a_pace v_a_bend v_a_off v_a_range v_a_rise v_a_rounds v_a_heightThere : Int32) (f_a_told : Nat → Int32) (pc : Nat) (lv : List (Nat × Value)) (st : List Value) (w0 : Int32) (w1 : Int32) (w2 : Int32) (w3 : Int32) (w4 : Int32) (w5 : Int32) (e : Option (Int32 × Int32 × Int32 × Int32 × Int32 × Int32)) : Prop := jJ (ρ := Int32 × Int32 × Int32 × Int32 × Int32 × Int32) X 2 0 0 (jQf X 0 0 (fun (_ : Int32 × Int32 × Int32 × Int32 × Int32 × Int32) => none) (fun (r : Int32 × Int32 × Int32 × Int32 × Int32 × Int32) (_ : Nat → Nat) => [(h_a, .inr (2, [.ref h_a_told, .int r.1, .int r.2.1, .int r.2.2.1, .int r.2.2.2.1, .int r.2.2.2.2.1, .int r.2.2.2.2.2, .int v_a_pace, .int v_a_bend, .int v_a_off, .int v_a_range, .int v_a_rise, .int v_a_rounds, .int v_a_heightThere])), (h_a_told, .inl (jy X 0, 13, .inl f_a_told))])) pc lv st [(h_a, .inr (2, [.ref h_a_told, .int w0, .int w1, .int w2, .int w3, .int w4, .int w5, .int v_a_pace, .int v_a_bend, .int v_a_off, .int v_a_range, .int v_a_rise, .int v_a_rounds, .int v_a_heightThere])), (h_a_told, .inl (jy X 0, 13, .inl f_a_told))] (e)
set_option maxHeartbeats 4000000 in
set_option maxRecDepth 100000 in
theorem jX2_shape {X : jX} (hC : jC X cX2_shape 2 RX2 rX2_shape none) (h_a h_a_told : Nat) (v_a_length v_a_weight v_a_place v_a_stiff v_a_angle v_a_pushes v_a_pace v_a_bend v_a_off v_a_range v_a_rise v_a_rounds v_a_heightThere : Int32) (f_a_told : Nat → Int32) : gX2_shape X h_a h_a_told v_a_length v_a_weight v_a_place v_a_stiff v_a_angle v_a_pushes v_a_pace v_a_bend v_a_off v_a_range v_a_rise v_a_rounds v_a_heightThere f_a_told 0 [(0, .ref h_a)] [] v_a_length v_a_weight v_a_place v_a_stiff v_a_angle v_a_pushes (fX2_shape v_a_length v_a_weight v_a_place v_a_stiff v_a_angle v_a_pushes f_a_told) := by
  unfold fX2_shape
  refine j_aload_n (pc := 0) hC 0 rfl dX2_shape_0 ?_
  refine j_get (pc := 1) hC flRX2_9 0 rfl rfl dX2_shape_1 ?_
  refine j_bipush (pc := 4) hC kb_11 dX2_shape_4 ?_
  refine j_iald (pc := 6) hC 1 rfl dX2_shape_6 ?_
  refine j_let (pc := 7) (fun x1 => ?_)
  refine j_istore_n (pc := 7) hC (lv' := [(1, .int x1), (0, .ref h_a)]) rfl (by decide) dX2_shape_7 ?_
  refine j_aload_n (pc := 8) hC 1 rfl dX2_shape_8 ?_
  refine j_aload_n (pc := 9) hC 1 rfl dX2_shape_9 ?_
  refine j_get (pc := 10) hC flRX2_9 0 rfl rfl dX2_shape_10 ?_
  refine j_iconst (pc := 13) hC ki_3 dX2_shape_13 ?_
  refine j_iald (pc := 14) hC 1 rfl dX2_shape_14 ?_
  refine j_let (pc := 15) (fun x2 => ?_)
  refine j_put (pc := 15) hC fpRX2_15 0 rfl rfl rfl (Nat.le_of_ble_eq_true rfl) dX2_shape_15 (ws' := [(h_a, .inr (2, [.ref h_a_told, .int x2, .int v_a_weight, .int v_a_place, .int v_a_stiff, .int v_a_angle, .int v_a_pushes, .int v_a_pace, .int v_a_bend, .int v_a_off, .int v_a_range, .int v_a_rise, .int v_a_rounds, .int v_a_heightThere])), (h_a_told, .inl (jy X 0, 13, .inl f_a_told))]) rfl ?_
  refine j_aload_n (pc := 18) hC 1 rfl dX2_shape_18 ?_
  refine j_aload_n (pc := 19) hC 1 rfl dX2_shape_19 ?_
  refine j_get (pc := 20) hC flRX2_9 0 rfl rfl dX2_shape_20 ?_
  refine j_iconst (pc := 23) hC ki_4 dX2_shape_23 ?_
  refine j_iald (pc := 24) hC 1 rfl dX2_shape_24 ?_
  refine j_let (pc := 25) (fun x3 => ?_)
  refine j_put (pc := 25) hC fpRX2_19 0 rfl rfl rfl (Nat.le_of_ble_eq_true rfl) dX2_shape_25 (ws' := [(h_a, .inr (2, [.ref h_a_told, .int x2, .int x3, .int v_a_place, .int v_a_stiff, .int v_a_angle, .int v_a_pushes, .int v_a_pace, .int v_a_bend, .int v_a_off, .int v_a_range, .int v_a_rise, .int v_a_rounds, .int v_a_heightThere])), (h_a_told, .inl (jy X 0, 13, .inl f_a_told))]) rfl ?_
  refine j_aload_n (pc := 28) hC 1 rfl dX2_shape_28 ?_
  refine j_aload_n (pc := 29) hC 1 rfl dX2_shape_29 ?_
  refine j_get (pc := 30) hC flRX2_9 0 rfl rfl dX2_shape_30 ?_
  refine j_iconst (pc := 33) hC ki_5 dX2_shape_33 ?_
  refine j_iald (pc := 34) hC 1 rfl dX2_shape_34 ?_
  refine j_let (pc := 35) (fun x4 => ?_)
  refine j_put (pc := 35) hC fpRX2_22 0 rfl rfl rfl (Nat.le_of_ble_eq_true rfl) dX2_shape_35 (ws' := [(h_a, .inr (2, [.ref h_a_told, .int x2, .int x3, .int x4, .int v_a_stiff, .int v_a_angle, .int v_a_pushes, .int v_a_pace, .int v_a_bend, .int v_a_off, .int v_a_range, .int v_a_rise, .int v_a_rounds, .int v_a_heightThere])), (h_a_told, .inl (jy X 0, 13, .inl f_a_told))]) rfl ?_
  refine j_aload_n (pc := 38) hC 1 rfl dX2_shape_38 ?_
  refine j_aload_n (pc := 39) hC 1 rfl dX2_shape_39 ?_
  refine j_get (pc := 40) hC flRX2_9 0 rfl rfl dX2_shape_40 ?_
  refine j_bipush (pc := 43) hC kb_7 dX2_shape_43 ?_
  refine j_iald (pc := 45) hC 1 rfl dX2_shape_45 ?_
  refine j_let (pc := 46) (fun x5 => ?_)
  refine j_put (pc := 46) hC fpRX2_25 0 rfl rfl rfl (Nat.le_of_ble_eq_true rfl) dX2_shape_46 (ws' := [(h_a, .inr (2, [.ref h_a_told, .int x2, .int x3, .int x4, .int x5, .int v_a_angle, .int v_a_pushes, .int v_a_pace, .int v_a_bend, .int v_a_off, .int v_a_range, .int v_a_rise, .int v_a_rounds, .int v_a_heightThere])), (h_a_told, .inl (jy X 0, 13, .inl f_a_told))]) rfl ?_
  refine j_aload_n (pc := 49) hC 1 rfl dX2_shape_49 ?_
  refine j_aload_n (pc := 50) hC 1 rfl dX2_shape_50 ?_
  refine j_get (pc := 51) hC flRX2_9 0 rfl rfl dX2_shape_51 ?_
  refine j_bipush (pc := 54) hC kb_12 dX2_shape_54 ?_
  refine j_iald (pc := 56) hC 1 rfl dX2_shape_56 ?_
  refine j_let (pc := 57) (fun x6 => ?_)
  refine j_put (pc := 57) hC fpRX2_28 0 rfl rfl rfl (Nat.le_of_ble_eq_true rfl) dX2_shape_57 (ws' := [(h_a, .inr (2, [.ref h_a_told, .int x2, .int x3, .int x4, .int x5, .int x6, .int v_a_pushes, .int v_a_pace, .int v_a_bend, .int v_a_off, .int v_a_range, .int v_a_rise, .int v_a_rounds, .int v_a_heightThere])), (h_a_told, .inl (jy X 0, 13, .inl f_a_told))]) rfl ?_
  refine j_aload_n (pc := 60) hC 1 rfl dX2_shape_60 ?_
  refine j_bipush (pc := 61) hC kb_10 dX2_shape_61 ?_
  refine j_aload_n (pc := 63) hC 1 rfl dX2_shape_63 ?_
  refine j_get (pc := 64) hC flRX2_9 0 rfl rfl dX2_shape_64 ?_
  refine j_iconst (pc := 67) hC ki_2 dX2_shape_67 ?_
  refine j_iald (pc := 68) hC 1 rfl dX2_shape_68 ?_
  refine j_iadd (pc := 69) hC dX2_shape_69 ?_
  refine j_let (pc := 70) (fun x7 => ?_)
  refine j_put (pc := 70) hC fpRX2_31 0 rfl rfl rfl (Nat.le_of_ble_eq_true rfl) dX2_shape_70 (ws' := [(h_a, .inr (2, [.ref h_a_told, .int x2, .int x3, .int x4, .int x5, .int x6, .int x7, .int v_a_pace, .int v_a_bend, .int v_a_off, .int v_a_range, .int v_a_rise, .int v_a_rounds, .int v_a_heightThere])), (h_a_told, .inl (jy X 0, 13, .inl f_a_told))]) rfl ?_
  refine j_aload_n (pc := 73) hC 1 rfl dX2_shape_73 ?_
  refine j_get (pc := 74) hC flRX2_9 0 rfl rfl dX2_shape_74 ?_
  refine j_bipush (pc := 77) hC kb_10 dX2_shape_77 ?_
  refine j_iald (pc := 79) hC 1 rfl dX2_shape_79 ?_
  refine j_let (pc := 80) (fun x8 => ?_)
  refine j_swc (pc := 80) hC (1 : Int32) 120 (by decide) (by decide) rfl (by decide) dX2_shape_80 ?_ (fun c10 => ?_)
  · refine j_aload_n (pc := 120) hC 1 rfl dX2_shape_120 ?_
    refine j_iconst (pc := 121) hC ki_1 dX2_shape_121 ?_
    refine j_aload_n (pc := 122) hC 1 rfl dX2_shape_122 ?_
    refine j_get (pc := 123) hC flRX2_31 0 rfl rfl dX2_shape_123 ?_
    refine j_iload_n (pc := 126) hC 0 rfl dX2_shape_126 ?_
    refine j_isub (pc := 127) hC dX2_shape_127 ?_
    refine j_imax (pc := 128) hC wm467 wm468 wm84 wm469 (by decide) (Nat.le_of_ble_eq_true rfl) ⟨Nat.le_of_ble_eq_true rfl, Nat.le_of_ble_eq_true rfl⟩ dX2_shape_128 ?_
    refine j_let (pc := 131) (fun x9 => ?_)
    refine j_put (pc := 131) hC fpRX2_31 0 rfl rfl rfl (Nat.le_of_ble_eq_true rfl) dX2_shape_131 (ws' := [(h_a, .inr (2, [.ref h_a_told, .int x2, .int x3, .int x4, .int x5, .int x6, .int x9, .int v_a_pace, .int v_a_bend, .int v_a_off, .int v_a_range, .int v_a_rise, .int v_a_rounds, .int v_a_heightThere])), (h_a_told, .inl (jy X 0, 13, .inl f_a_told))]) rfl ?_
    refine j_goto (pc := 134) hC 235 (by decide) dX2_shape_134 ?_
    exact j_vret (pc := 235) hC (fun _ => 0) rfl rfl dX2_shape_235
  refine j_swc (pc := 80) hC (2 : Int32) 137 (by decide) (by decide) rfl (by decide) dX2_shape_80 ?_ (fun c12 => ?_)
  · refine j_aload_n (pc := 137) hC 1 rfl dX2_shape_137 ?_
    refine j_iconst (pc := 138) hC ki_1 dX2_shape_138 ?_
    refine j_aload_n (pc := 139) hC 1 rfl dX2_shape_139 ?_
    refine j_get (pc := 140) hC flRX2_25 0 rfl rfl dX2_shape_140 ?_
    refine j_iconst (pc := 143) hC ki_2 dX2_shape_143 ?_
    refine j_idivc (pc := 144) hC (by decide) dX2_shape_144 ?_
    refine j_imax (pc := 145) hC wm467 wm468 wm84 wm469 (by decide) (Nat.le_of_ble_eq_true rfl) ⟨Nat.le_of_ble_eq_true rfl, Nat.le_of_ble_eq_true rfl⟩ dX2_shape_145 ?_
    refine j_let (pc := 148) (fun x11 => ?_)
    refine j_put (pc := 148) hC fpRX2_25 0 rfl rfl rfl (Nat.le_of_ble_eq_true rfl) dX2_shape_148 (ws' := [(h_a, .inr (2, [.ref h_a_told, .int x2, .int x3, .int x4, .int x11, .int x6, .int x7, .int v_a_pace, .int v_a_bend, .int v_a_off, .int v_a_range, .int v_a_rise, .int v_a_rounds, .int v_a_heightThere])), (h_a_told, .inl (jy X 0, 13, .inl f_a_told))]) rfl ?_
    refine j_goto (pc := 151) hC 235 (by decide) dX2_shape_151 ?_
    exact j_vret (pc := 235) hC (fun _ => 0) rfl rfl dX2_shape_235
  refine j_swc (pc := 80) hC (3 : Int32) 154 (by decide) (by decide) rfl (by decide) dX2_shape_80 ?_ (fun c14 => ?_)
  · refine j_aload_n (pc := 154) hC 1 rfl dX2_shape_154 ?_
    refine j_bipush (pc := 155) hC kb_99 dX2_shape_155 ?_
    refine j_iconst (pc := 157) hC ki_2 dX2_shape_157 ?_
    refine j_aload_n (pc := 158) hC 1 rfl dX2_shape_158 ?_
    refine j_get (pc := 159) hC flRX2_25 0 rfl rfl dX2_shape_159 ?_
    refine j_imul (pc := 162) hC dX2_shape_162 ?_
    refine j_imin (pc := 163) hC wm470 wm471 wm84 wm472 (by decide) (Nat.le_of_ble_eq_true rfl) ⟨Nat.le_of_ble_eq_true rfl, Nat.le_of_ble_eq_true rfl⟩ dX2_shape_163 ?_
    refine j_let (pc := 166) (fun x13 => ?_)
    refine j_put (pc := 166) hC fpRX2_25 0 rfl rfl rfl (Nat.le_of_ble_eq_true rfl) dX2_shape_166 (ws' := [(h_a, .inr (2, [.ref h_a_told, .int x2, .int x3, .int x4, .int x13, .int x6, .int x7, .int v_a_pace, .int v_a_bend, .int v_a_off, .int v_a_range, .int v_a_rise, .int v_a_rounds, .int v_a_heightThere])), (h_a_told, .inl (jy X 0, 13, .inl f_a_told))]) rfl ?_
    refine j_goto (pc := 169) hC 235 (by decide) dX2_shape_169 ?_
    exact j_vret (pc := 235) hC (fun _ => 0) rfl rfl dX2_shape_235
  refine j_swc (pc := 80) hC (4 : Int32) 172 (by decide) (by decide) rfl (by decide) dX2_shape_80 ?_ (fun c16 => ?_)
  · refine j_aload_n (pc := 172) hC 1 rfl dX2_shape_172 ?_
    refine j_bipush (pc := 173) hC kb_6 dX2_shape_173 ?_
    refine j_aload_n (pc := 175) hC 1 rfl dX2_shape_175 ?_
    refine j_get (pc := 176) hC flRX2_28 0 rfl rfl dX2_shape_176 ?_
    refine j_iconst (pc := 179) hC ki_1 dX2_shape_179 ?_
    refine j_iadd (pc := 180) hC dX2_shape_180 ?_
    refine j_imin (pc := 181) hC wm470 wm471 wm84 wm472 (by decide) (Nat.le_of_ble_eq_true rfl) ⟨Nat.le_of_ble_eq_true rfl, Nat.le_of_ble_eq_true rfl⟩ dX2_shape_181 ?_
    refine j_let (pc := 184) (fun x15 => ?_)
    refine j_put (pc := 184) hC fpRX2_28 0 rfl rfl rfl (Nat.le_of_ble_eq_true rfl) dX2_shape_184 (ws' := [(h_a, .inr (2, [.ref h_a_told, .int x2, .int x3, .int x4, .int x5, .int x15, .int x7, .int v_a_pace, .int v_a_bend, .int v_a_off, .int v_a_range, .int v_a_rise, .int v_a_rounds, .int v_a_heightThere])), (h_a_told, .inl (jy X 0, 13, .inl f_a_told))]) rfl ?_
    refine j_goto (pc := 187) hC 235 (by decide) dX2_shape_187 ?_
    exact j_vret (pc := 235) hC (fun _ => 0) rfl rfl dX2_shape_235
  refine j_swc (pc := 80) hC (5 : Int32) 190 (by decide) (by decide) rfl (by decide) dX2_shape_80 ?_ (fun c18 => ?_)
  · refine j_aload_n (pc := 190) hC 1 rfl dX2_shape_190 ?_
    refine j_iconst (pc := 191) hC ki_1 dX2_shape_191 ?_
    refine j_aload_n (pc := 192) hC 1 rfl dX2_shape_192 ?_
    refine j_get (pc := 193) hC flRX2_31 0 rfl rfl dX2_shape_193 ?_
    refine j_iload_n (pc := 196) hC 0 rfl dX2_shape_196 ?_
    refine j_isub (pc := 197) hC dX2_shape_197 ?_
    refine j_imax (pc := 198) hC wm467 wm468 wm84 wm469 (by decide) (Nat.le_of_ble_eq_true rfl) ⟨Nat.le_of_ble_eq_true rfl, Nat.le_of_ble_eq_true rfl⟩ dX2_shape_198 ?_
    refine j_let (pc := 201) (fun x17 => ?_)
    refine j_put (pc := 201) hC fpRX2_31 0 rfl rfl rfl (Nat.le_of_ble_eq_true rfl) dX2_shape_201 (ws' := [(h_a, .inr (2, [.ref h_a_told, .int x2, .int x3, .int x4, .int x5, .int x6, .int x17, .int v_a_pace, .int v_a_bend, .int v_a_off, .int v_a_range, .int v_a_rise, .int v_a_rounds, .int v_a_heightThere])), (h_a_told, .inl (jy X 0, 13, .inl f_a_told))]) rfl ?_
    refine j_aload_n (pc := 204) hC 1 rfl dX2_shape_204 ?_
    refine j_iconst (pc := 205) hC ki_0 dX2_shape_205 ?_
    refine j_put (pc := 206) hC fpRX2_15 0 rfl rfl rfl (Nat.le_of_ble_eq_true rfl) dX2_shape_206 (ws' := [(h_a, .inr (2, [.ref h_a_told, .int (0 : Int32), .int x3, .int x4, .int x5, .int x6, .int x17, .int v_a_pace, .int v_a_bend, .int v_a_off, .int v_a_range, .int v_a_rise, .int v_a_rounds, .int v_a_heightThere])), (h_a_told, .inl (jy X 0, 13, .inl f_a_told))]) rfl ?_
    refine j_aload_n (pc := 209) hC 1 rfl dX2_shape_209 ?_
    refine j_iconst (pc := 210) hC ki_0 dX2_shape_210 ?_
    refine j_put (pc := 211) hC fpRX2_19 0 rfl rfl rfl (Nat.le_of_ble_eq_true rfl) dX2_shape_211 (ws' := [(h_a, .inr (2, [.ref h_a_told, .int (0 : Int32), .int (0 : Int32), .int x4, .int x5, .int x6, .int x17, .int v_a_pace, .int v_a_bend, .int v_a_off, .int v_a_range, .int v_a_rise, .int v_a_rounds, .int v_a_heightThere])), (h_a_told, .inl (jy X 0, 13, .inl f_a_told))]) rfl ?_
    refine j_aload_n (pc := 214) hC 1 rfl dX2_shape_214 ?_
    refine j_iconst (pc := 215) hC ki_0 dX2_shape_215 ?_
    refine j_put (pc := 216) hC fpRX2_22 0 rfl rfl rfl (Nat.le_of_ble_eq_true rfl) dX2_shape_216 (ws' := [(h_a, .inr (2, [.ref h_a_told, .int (0 : Int32), .int (0 : Int32), .int (0 : Int32), .int x5, .int x6, .int x17, .int v_a_pace, .int v_a_bend, .int v_a_off, .int v_a_range, .int v_a_rise, .int v_a_rounds, .int v_a_heightThere])), (h_a_told, .inl (jy X 0, 13, .inl f_a_told))]) rfl ?_
    refine j_goto (pc := 219) hC 235 (by decide) dX2_shape_219 ?_
    exact j_vret (pc := 235) hC (fun _ => 0) rfl rfl dX2_shape_235
  refine j_swc (pc := 80) hC (6 : Int32) 222 (by decide) (by decide) rfl (by decide) dX2_shape_80 ?_ (fun c20 => ?_)
  · refine j_aload_n (pc := 222) hC 1 rfl dX2_shape_222 ?_
    refine j_dup (pc := 223) hC rfl dX2_shape_223 ?_
    refine j_get (pc := 224) hC flRX2_19 0 rfl rfl dX2_shape_224 ?_
    refine j_iload_n (pc := 227) hC 0 rfl dX2_shape_227 ?_
    refine j_iadd (pc := 228) hC dX2_shape_228 ?_
    refine j_let (pc := 229) (fun x19 => ?_)
    refine j_put (pc := 229) hC fpRX2_19 0 rfl rfl rfl (Nat.le_of_ble_eq_true rfl) dX2_shape_229 (ws' := [(h_a, .inr (2, [.ref h_a_told, .int x2, .int x19, .int x4, .int x5, .int x6, .int x7, .int v_a_pace, .int v_a_bend, .int v_a_off, .int v_a_range, .int v_a_rise, .int v_a_rounds, .int v_a_heightThere])), (h_a_told, .inl (jy X 0, 13, .inl f_a_told))]) rfl ?_
    refine j_goto (pc := 232) hC 235 (by decide) dX2_shape_232 ?_
    exact j_vret (pc := 235) hC (fun _ => 0) rfl rfl dX2_shape_235
  refine j_swd (pc := 80) hC 235 (sw_1_6 c10 c12 c14 c16 c18 c20) (by decide) dX2_shape_80 ?_
  exact j_vret (pc := 235) hC (fun _ => 0) rfl rfl dX2_shape_235
set_option maxHeartbeats 4000000 in
set_option maxRecDepth 100000 in
theorem mX2_shape (l : Launch) (D : va_G) (cy : Nat → ClassId) (ev : jE) (h_a h_a_told : Nat) (v_a_length v_a_weight v_a_place v_a_stiff v_a_angle v_a_pushes v_a_pace v_a_bend v_a_off v_a_range v_a_rise v_a_rounds v_a_heightThere : Int32) (f_a_told : Nat → Int32) : jM l yX2_shape cX2_shape 2 none rX2_shape [.ref h_a] [(h_a, .inr (2, [.ref h_a_told, .int v_a_length, .int v_a_weight, .int v_a_place, .int v_a_stiff, .int v_a_angle, .int v_a_pushes, .int v_a_pace, .int v_a_bend, .int v_a_off, .int v_a_range, .int v_a_rise, .int v_a_rounds, .int v_a_heightThere])), (h_a_told, .inl (cy 0, 13, .inl f_a_told))] (fun (r : Int32 × Int32 × Int32 × Int32 × Int32 × Int32) (_ : Nat → Nat) => [(h_a, .inr (2, [.ref h_a_told, .int r.1, .int r.2.1, .int r.2.2.1, .int r.2.2.2.1, .int r.2.2.2.2.1, .int r.2.2.2.2.2, .int v_a_pace, .int v_a_bend, .int v_a_off, .int v_a_range, .int v_a_rise, .int v_a_rounds, .int v_a_heightThere])), (h_a_told, .inl (cy 0, 13, .inl f_a_told))]) (fun (_ : Int32 × Int32 × Int32 × Int32 × Int32 × Int32) => none) (fX2_shape v_a_length v_a_weight v_a_place v_a_stiff v_a_angle v_a_pushes f_a_told) D cy ev := j_met RX2 (by decide +kernel) rfl (Nat.le_of_ble_eq_true rfl) (fun X hC _ hD hy hv => by subst hD; subst hy; subst hv; exact jX2_shape hC h_a h_a_told v_a_length v_a_weight v_a_place v_a_stiff v_a_angle v_a_pushes v_a_pace v_a_bend v_a_off v_a_range v_a_rise v_a_rounds v_a_heightThere f_a_told)
abbrev gX8_divided (X : jX) (p0 p1 : Int32) (pc : Nat) (lv : List (Nat × Value)) (st : List Value) (e : Option (Int32)) : Prop := jJ (ρ := Int32) X 2 0 0 (jQf X 0 0 (fun (r : Int32) => some (.int r)) (fun (_ : Int32) (_ : Nat → Nat) => [])) pc lv st [] (e)
set_option maxHeartbeats 4000000 in
set_option maxRecDepth 100000 in
theorem jX8_divided {X : jX} (hC : jC X cX8_divided 2 RX8 rX8_divided (some .int)) (p0 p1 : Int32) : gX8_divided X p0 p1 0 [(0, .int p0), (1, .int p1)] [] (fX8_divided p0 p1) := by
  unfold fX8_divided
  refine j_iload_n (pc := 0) hC 1 rfl dX8_divided_0 ?_
  refine j_ifne (pc := 1) hC 8 (by decide) dX8_divided_1 ?_ ?_
  · refine j_iload_n (pc := 8) hC 0 rfl dX8_divided_8 ?_
    refine j_iload_n (pc := 9) hC 1 rfl dX8_divided_9 ?_
    refine j_idiv (pc := 10) hC dX8_divided_10 ?_
    exact j_iret (pc := 11) hC (fun _ => 0) rfl rfl dX8_divided_11
  · refine j_iconst (pc := 4) hC ki_0 dX8_divided_4 ?_
    refine j_goto (pc := 5) hC 11 (by decide) dX8_divided_5 ?_
    exact j_iret (pc := 11) hC (fun _ => 0) rfl rfl dX8_divided_11
set_option maxHeartbeats 4000000 in
set_option maxRecDepth 100000 in
theorem mX8_divided (l : Launch) (D : va_G) (cy : Nat → ClassId) (ev : jE) (p0 p1 : Int32) : jM l yX8_divided cX8_divided 2 (some .int) rX8_divided [.int p0, .int p1] [] (fun (_ : Int32) (_ : Nat → Nat) => []) (fun (r : Int32) => some (.int r)) (fX8_divided p0 p1) D cy ev := j_met RX8 (by decide +kernel) rfl (Nat.le_of_ble_eq_true rfl) (fun X hC _ hD hy hv => by subst hD; subst hy; subst hv; exact jX8_divided hC p0 p1)
abbrev gX2_leave (X : jX) (h_a h_a_told : Nat) (v_a_length v_a_weight v_a_place v_a_stiff v_a_angle v_a_pushes v_a_pace v_a_bend v_a_off v_a_range v_a_rise v_a_rounds v_a_heightThere : Int32) (f_a_told : Nat → Int32) (pc : Nat) (lv : List (Nat × Value)) (st : List Value) (w0 : Int32) (w1 : Int32) (w2 : Int32) (w3 : Int32) (w4 : Int32) (w5 : Int32) (w6 : Int32) (w7 : Int32) (w8 : Int32) (e : Option (Int32 × Int32 × Int32 × Int32 × Int32 × Int32 × Int32 × Int32 × Int32)) : Prop := jJ (ρ := Int32 × Int32 × Int32 × Int32 × Int32 × Int32 × Int32 × Int32 × Int32) X 6 0 0 (jQf X 0 0 (fun (_ : Int32 × Int32 × Int32 × Int32 × Int32 × Int32 × Int32 × Int32 × Int32) => none) (fun (r : Int32 × Int32 × Int32 × Int32 × Int32 × Int32 × Int32 × Int32 × Int32) (_ : Nat → Nat) => [(h_a, .inr (2, [.ref h_a_told, .int r.1, .int r.2.1, .int r.2.2.1, .int r.2.2.2.1, .int r.2.2.2.2.1, .int r.2.2.2.2.2.1, .int r.2.2.2.2.2.2.1, .int r.2.2.2.2.2.2.2.1, .int r.2.2.2.2.2.2.2.2, .int v_a_range, .int v_a_rise, .int v_a_rounds, .int v_a_heightThere])), (h_a_told, .inl (jy X 0, 13, .inl f_a_told))])) pc lv st [(h_a, .inr (2, [.ref h_a_told, .int w0, .int w1, .int w2, .int w3, .int w4, .int w5, .int w6, .int w7, .int w8, .int v_a_range, .int v_a_rise, .int v_a_rounds, .int v_a_heightThere])), (h_a_told, .inl (jy X 0, 13, .inl f_a_told))] (e)
set_option maxHeartbeats 4000000 in
set_option maxRecDepth 100000 in
theorem jX2_leave_b71_step {X : jX} (hC : jC X cX2_leave 6 RX2 rX2_leave none) (u : Nat) (h_a h_a_told : Nat) (v_a_length v_a_weight v_a_place v_a_stiff v_a_angle v_a_pushes v_a_pace v_a_bend v_a_off v_a_range v_a_rise v_a_rounds v_a_heightThere : Int32) (f_a_told : Nat → Int32) (rec71 : (Int32 × Int32 × Int32 × Int32 × Int32 × Int32 × Int32 × Int32 × Int32 × Int32 × Int32 × Int32 × Int32) → Option (Int32 × Int32 × Int32 × Int32 × Int32 × Int32 × Int32 × Int32 × Int32)) (hrec71 : ∀ p : Int32 × Int32 × Int32 × Int32 × Int32 × Int32 × Int32 × Int32 × Int32 × Int32 × Int32 × Int32 × Int32, gX2_leave X h_a h_a_told v_a_length v_a_weight v_a_place v_a_stiff v_a_angle v_a_pushes v_a_pace v_a_bend v_a_off v_a_range v_a_rise v_a_rounds v_a_heightThere f_a_told 71 [(0, .ref h_a), (2, .int p.1), (3, .int p.2.1), (4, .int p.2.2.1), (5, .int p.2.2.2.1)] [] p.2.2.2.2.1 p.2.2.2.2.2.1 p.2.2.2.2.2.2.1 p.2.2.2.2.2.2.2.1 p.2.2.2.2.2.2.2.2.1 p.2.2.2.2.2.2.2.2.2.1 p.2.2.2.2.2.2.2.2.2.2.1 p.2.2.2.2.2.2.2.2.2.2.2.1 p.2.2.2.2.2.2.2.2.2.2.2.2 (rec71 p)) (p : Int32 × Int32 × Int32 × Int32 × Int32 × Int32 × Int32 × Int32 × Int32 × Int32 × Int32 × Int32 × Int32) : gX2_leave X h_a h_a_told v_a_length v_a_weight v_a_place v_a_stiff v_a_angle v_a_pushes v_a_pace v_a_bend v_a_off v_a_range v_a_rise v_a_rounds v_a_heightThere f_a_told 71 [(0, .ref h_a), (2, .int p.1), (3, .int p.2.1), (4, .int p.2.2.1), (5, .int p.2.2.2.1)] [] p.2.2.2.2.1 p.2.2.2.2.2.1 p.2.2.2.2.2.2.1 p.2.2.2.2.2.2.2.1 p.2.2.2.2.2.2.2.2.1 p.2.2.2.2.2.2.2.2.2.1 p.2.2.2.2.2.2.2.2.2.2.1 p.2.2.2.2.2.2.2.2.2.2.2.1 p.2.2.2.2.2.2.2.2.2.2.2.2 (fX2_leave_b71 u v_a_length v_a_weight v_a_place v_a_stiff v_a_angle v_a_pushes v_a_pace v_a_bend v_a_off f_a_told rec71 p) := by
  unfold fX2_leave_b71
  refine j_iload (pc := 71) hC 4 rfl dX2_leave_71 ?_
  refine j_aload_n (pc := 73) hC 0 rfl dX2_leave_73 ?_
  refine j_get (pc := 74) hC flRX2_31 0 rfl rfl dX2_leave_74 ?_
  refine j_icmpge (pc := 77) hC 153 (by decide) dX2_leave_77 ?_ ?_
  · refine j_aload_n (pc := 153) hC 0 rfl dX2_leave_153 ?_
    refine j_iload (pc := 154) hC 3 rfl dX2_leave_154 ?_
    refine j_aload_n (pc := 156) hC 0 rfl dX2_leave_156 ?_
    refine j_get (pc := 157) hC flRX2_49 0 rfl rfl dX2_leave_157 ?_
    refine j_aload_n (pc := 160) hC 0 rfl dX2_leave_160 ?_
    refine j_get (pc := 161) hC flRX2_25 0 rfl rfl dX2_leave_161 ?_
    refine j_imul (pc := 164) hC dX2_leave_164 ?_
    refine j_bipush (pc := 165) hC kb_50 dX2_leave_165 ?_
    refine j_idivc (pc := 167) hC (by decide) dX2_leave_167 ?_
    refine j_iadd (pc := 168) hC dX2_leave_168 ?_
    refine j_let (pc := 169) (fun x5 => ?_)
    refine j_put (pc := 169) hC fpRX2_52 0 rfl rfl rfl (Nat.le_of_ble_eq_true rfl) dX2_leave_169 (ws' := [(h_a, .inr (2, [.ref h_a_told, .int p.2.2.2.2.1, .int p.2.2.2.2.2.1, .int p.2.2.2.2.2.2.1, .int p.2.2.2.2.2.2.2.1, .int p.2.2.2.2.2.2.2.2.1, .int p.2.2.2.2.2.2.2.2.2.1, .int x5, .int p.2.2.2.2.2.2.2.2.2.2.2.1, .int p.2.2.2.2.2.2.2.2.2.2.2.2, .int v_a_range, .int v_a_rise, .int v_a_rounds, .int v_a_heightThere])), (h_a_told, .inl (jy X 0, 13, .inl f_a_told))]) rfl ?_
    refine j_aload_n (pc := 172) hC 0 rfl dX2_leave_172 ?_
    refine j_aload_n (pc := 173) hC 0 rfl dX2_leave_173 ?_
    refine j_get (pc := 174) hC flRX2_49 0 rfl rfl dX2_leave_174 ?_
    refine j_bipush (pc := 177) hC kb_10 dX2_leave_177 ?_
    refine j_icmpge (pc := 179) hC 192 (by decide) dX2_leave_179 ?_ ?_
    · refine j_iconst (pc := 192) hC ki_0 dX2_leave_192 ?_
      refine j_aload_n (pc := 193) hC 0 rfl dX2_leave_193 ?_
      refine j_get (pc := 194) hC flRX2_49 0 rfl rfl dX2_leave_194 ?_
      refine j_bipush (pc := 197) hC kb_30 dX2_leave_197 ?_
      refine j_isub (pc := 199) hC dX2_leave_199 ?_
      refine j_imax (pc := 200) hC wm467 wm468 wm84 wm469 (by decide) (Nat.le_of_ble_eq_true rfl) ⟨Nat.le_of_ble_eq_true rfl, Nat.le_of_ble_eq_true rfl⟩ dX2_leave_200 ?_
      refine j_let (pc := 203) (fun x6 => ?_)
      refine j_put (pc := 203) hC fpRX2_55 0 rfl rfl rfl (Nat.le_of_ble_eq_true rfl) dX2_leave_203 (ws' := [(h_a, .inr (2, [.ref h_a_told, .int p.2.2.2.2.1, .int p.2.2.2.2.2.1, .int p.2.2.2.2.2.2.1, .int p.2.2.2.2.2.2.2.1, .int p.2.2.2.2.2.2.2.2.1, .int p.2.2.2.2.2.2.2.2.2.1, .int x5, .int p.2.2.2.2.2.2.2.2.2.2.2.1, .int x6, .int v_a_range, .int v_a_rise, .int v_a_rounds, .int v_a_heightThere])), (h_a_told, .inl (jy X 0, 13, .inl f_a_told))]) rfl ?_
      exact j_vret (pc := 206) hC (fun _ => 0) rfl rfl dX2_leave_206
    · refine j_bipush (pc := 182) hC kb_10 dX2_leave_182 ?_
      refine j_aload_n (pc := 184) hC 0 rfl dX2_leave_184 ?_
      refine j_get (pc := 185) hC flRX2_49 0 rfl rfl dX2_leave_185 ?_
      refine j_isub (pc := 188) hC dX2_leave_188 ?_
      refine j_goto (pc := 189) hC 203 (by decide) dX2_leave_189 ?_
      refine j_let (pc := 203) (fun x7 => ?_)
      refine j_put (pc := 203) hC fpRX2_55 0 rfl rfl rfl (Nat.le_of_ble_eq_true rfl) dX2_leave_203 (ws' := [(h_a, .inr (2, [.ref h_a_told, .int p.2.2.2.2.1, .int p.2.2.2.2.2.1, .int p.2.2.2.2.2.2.1, .int p.2.2.2.2.2.2.2.1, .int p.2.2.2.2.2.2.2.2.1, .int p.2.2.2.2.2.2.2.2.2.1, .int x5, .int p.2.2.2.2.2.2.2.2.2.2.2.1, .int x7, .int v_a_range, .int v_a_rise, .int v_a_rounds, .int v_a_heightThere])), (h_a_told, .inl (jy X 0, 13, .inl f_a_told))]) rfl ?_
      exact j_vret (pc := 206) hC (fun _ => 0) rfl rfl dX2_leave_206
  · refine j_iload_n (pc := 80) hC 2 rfl dX2_leave_80 ?_
    refine j_iload_n (pc := 81) hC 1 rfl dX2_leave_81 ?_
    refine j_iadd (pc := 82) hC dX2_leave_82 ?_
    refine j_let (pc := 83) (fun x8 => ?_)
    refine j_istore_n (pc := 83) hC (lv' := [(3, .int x8), (0, .ref h_a), (2, .int p.1), (4, .int p.2.2.1), (5, .int p.2.2.2.1)]) rfl (by decide) dX2_leave_83 ?_
    refine j_iload_n (pc := 84) hC 0 rfl dX2_leave_84 ?_
    refine j_aload_n (pc := 85) hC 1 rfl dX2_leave_85 ?_
    refine j_get (pc := 86) hC flRX2_9 0 rfl rfl dX2_leave_86 ?_
    refine j_iconst (pc := 89) hC ki_0 dX2_leave_89 ?_
    refine j_iald (pc := 90) hC 1 rfl dX2_leave_90 ?_
    refine j_aload_n (pc := 91) hC 1 rfl dX2_leave_91 ?_
    refine j_get (pc := 92) hC flRX2_15 0 rfl rfl dX2_leave_92 ?_
    refine j_iadd (pc := 95) hC dX2_leave_95 ?_
    refine j_imul (pc := 96) hC dX2_leave_96 ?_
    refine j_aload_n (pc := 97) hC 1 rfl dX2_leave_97 ?_
    refine j_get (pc := 98) hC flRX2_9 0 rfl rfl dX2_leave_98 ?_
    refine j_iconst (pc := 101) hC ki_0 dX2_leave_101 ?_
    refine j_iald (pc := 102) hC 1 rfl dX2_leave_102 ?_
    refine j_callN (pc := 103) hC csRX2_46 [.int (x8 * ((f_a_told (0 : Int32).toNatClampNeg) + p.2.2.2.2.1)), .int (f_a_told (0 : Int32).toNatClampNeg)] (mX8_divided (jl X) (jD X) (jy X) (jv X) (x8 * ((f_a_told (0 : Int32).toNatClampNeg) + p.2.2.2.2.1)) (f_a_told (0 : Int32).toNatClampNeg)) [] rfl (by decide +kernel) ⟨by decide, by decide, rfl, rfl, by decide, by decide⟩ rfl rfl (Nat.le_of_ble_eq_true rfl) dX2_leave_103 (jki0 (fun _ => rfl) (fun _ _ => rfl) (fun r9 => ?_))
    refine j_istore (pc := 106) hC (lv' := [(4, .int r9), (3, .int x8), (0, .ref h_a), (2, .int p.1), (5, .int p.2.2.2.1)]) rfl (by decide) dX2_leave_106 ?_
    refine j_aload_n (pc := 108) hC 2 rfl dX2_leave_108 ?_
    refine j_dup (pc := 109) hC rfl dX2_leave_109 ?_
    refine j_get (pc := 110) hC flRX2_49 0 rfl rfl dX2_leave_110 ?_
    refine j_iload (pc := 113) hC 0 rfl dX2_leave_113 ?_
    refine j_bipush (pc := 115) hC kb_10 dX2_leave_115 ?_
    refine j_aload_n (pc := 117) hC 2 rfl dX2_leave_117 ?_
    refine j_get (pc := 118) hC flRX2_9 0 rfl rfl dX2_leave_118 ?_
    refine j_bipush (pc := 121) hC kb_8 dX2_leave_121 ?_
    refine j_iald (pc := 123) hC 1 rfl dX2_leave_123 ?_
    refine j_iadd (pc := 124) hC dX2_leave_124 ?_
    refine j_imul (pc := 125) hC dX2_leave_125 ?_
    refine j_bipush (pc := 126) hC kb_10 dX2_leave_126 ?_
    refine j_aload_n (pc := 128) hC 2 rfl dX2_leave_128 ?_
    refine j_get (pc := 129) hC flRX2_25 0 rfl rfl dX2_leave_129 ?_
    refine j_imul (pc := 132) hC dX2_leave_132 ?_
    refine j_callN (pc := 133) hC csRX2_46 [.int (r9 * ((10 : Int32) + (f_a_told (8 : Int32).toNatClampNeg))), .int ((10 : Int32) * p.2.2.2.2.2.2.2.1)] (mX8_divided (jl X) (jD X) (jy X) (jv X) (r9 * ((10 : Int32) + (f_a_told (8 : Int32).toNatClampNeg))) ((10 : Int32) * p.2.2.2.2.2.2.2.1)) [] rfl (by decide +kernel) ⟨by decide, by decide, rfl, rfl, by decide, by decide⟩ rfl rfl (Nat.le_of_ble_eq_true rfl) dX2_leave_133 (jki0 (fun _ => rfl) (fun _ _ => rfl) (fun r10 => ?_))
    refine j_aload_n (pc := 136) hC 2 rfl dX2_leave_136 ?_
    refine j_get (pc := 137) hC flRX2_49 0 rfl rfl dX2_leave_137 ?_
    refine j_isub (pc := 140) hC dX2_leave_140 ?_
    refine j_iconst (pc := 141) hC ki_3 dX2_leave_141 ?_
    refine j_idivc (pc := 142) hC (by decide) dX2_leave_142 ?_
    refine j_iadd (pc := 143) hC dX2_leave_143 ?_
    refine j_let (pc := 144) (fun x11 => ?_)
    refine j_put (pc := 144) hC fpRX2_49 0 rfl rfl rfl (Nat.le_of_ble_eq_true rfl) dX2_leave_144 (ws' := [(h_a, .inr (2, [.ref h_a_told, .int p.2.2.2.2.1, .int p.2.2.2.2.2.1, .int p.2.2.2.2.2.2.1, .int p.2.2.2.2.2.2.2.1, .int p.2.2.2.2.2.2.2.2.1, .int p.2.2.2.2.2.2.2.2.2.1, .int p.2.2.2.2.2.2.2.2.2.2.1, .int x11, .int p.2.2.2.2.2.2.2.2.2.2.2.2, .int v_a_range, .int v_a_rise, .int v_a_rounds, .int v_a_heightThere])), (h_a_told, .inl (jy X 0, 13, .inl f_a_told))]) rfl ?_
    refine j_iinc (pc := 147) hC 4 rfl ki_1 (fun x12 => (rfl : @Eq (List (Nat × Value)) _ [(5, .int x12), (4, .int r9), (3, .int x8), (0, .ref h_a), (2, .int p.1)])) (by decide) dX2_leave_147 (fun x12 => ?_)
    refine j_goto (pc := 150) hC 71 (by decide) dX2_leave_150 ?_
    refine j_lv (pc := 71) [3, 4, 2, 1, 0] rfl ?_
    exact hrec71 (p.1, x8, r9, x12, p.2.2.2.2.1, p.2.2.2.2.2.1, p.2.2.2.2.2.2.1, p.2.2.2.2.2.2.2.1, p.2.2.2.2.2.2.2.2.1, p.2.2.2.2.2.2.2.2.2.1, p.2.2.2.2.2.2.2.2.2.2.1, x11, p.2.2.2.2.2.2.2.2.2.2.2.2)
set_option maxHeartbeats 4000000 in
set_option maxRecDepth 100000 in
theorem jX2_leave_b71 {X : jX} (hC : jC X cX2_leave 6 RX2 rX2_leave none) (u : Nat) (h_a h_a_told : Nat) (v_a_length v_a_weight v_a_place v_a_stiff v_a_angle v_a_pushes v_a_pace v_a_bend v_a_off v_a_range v_a_rise v_a_rounds v_a_heightThere : Int32) (f_a_told : Nat → Int32) (p : Int32 × Int32 × Int32 × Int32 × Int32 × Int32 × Int32 × Int32 × Int32 × Int32 × Int32 × Int32 × Int32) : gX2_leave X h_a h_a_told v_a_length v_a_weight v_a_place v_a_stiff v_a_angle v_a_pushes v_a_pace v_a_bend v_a_off v_a_range v_a_rise v_a_rounds v_a_heightThere f_a_told 71 [(0, .ref h_a), (2, .int p.1), (3, .int p.2.1), (4, .int p.2.2.1), (5, .int p.2.2.2.1)] [] p.2.2.2.2.1 p.2.2.2.2.2.1 p.2.2.2.2.2.2.1 p.2.2.2.2.2.2.2.1 p.2.2.2.2.2.2.2.2.1 p.2.2.2.2.2.2.2.2.2.1 p.2.2.2.2.2.2.2.2.2.2.1 p.2.2.2.2.2.2.2.2.2.2.2.1 p.2.2.2.2.2.2.2.2.2.2.2.2 (jfix (fX2_leave_b71 u v_a_length v_a_weight v_a_place v_a_stiff v_a_angle v_a_pushes v_a_pace v_a_bend v_a_off f_a_told) u p) :=
  j_fix (fun rec71 hrec71 p => jX2_leave_b71_step hC u h_a h_a_told v_a_length v_a_weight v_a_place v_a_stiff v_a_angle v_a_pushes v_a_pace v_a_bend v_a_off v_a_range v_a_rise v_a_rounds v_a_heightThere f_a_told rec71 hrec71 p) u p
set_option maxHeartbeats 4000000 in
set_option maxRecDepth 100000 in
theorem jX2_leave {X : jX} (hC : jC X cX2_leave 6 RX2 rX2_leave none) (u : Nat) (h_a h_a_told : Nat) (v_a_length v_a_weight v_a_place v_a_stiff v_a_angle v_a_pushes v_a_pace v_a_bend v_a_off v_a_range v_a_rise v_a_rounds v_a_heightThere : Int32) (f_a_told : Nat → Int32) : gX2_leave X h_a h_a_told v_a_length v_a_weight v_a_place v_a_stiff v_a_angle v_a_pushes v_a_pace v_a_bend v_a_off v_a_range v_a_rise v_a_rounds v_a_heightThere f_a_told 0 [(0, .ref h_a)] [] v_a_length v_a_weight v_a_place v_a_stiff v_a_angle v_a_pushes v_a_pace v_a_bend v_a_off (fX2_leave u v_a_length v_a_weight v_a_place v_a_stiff v_a_angle v_a_pushes v_a_pace v_a_bend v_a_off f_a_told) := by
  unfold fX2_leave
  refine j_aload_n (pc := 0) hC 0 rfl dX2_leave_0 ?_
  refine j_callV (pc := 1) hC csRX2_43 [] (mX2_shape (jl X) (jD X) (jy X) (jv X) h_a h_a_told v_a_length v_a_weight v_a_place v_a_stiff v_a_angle v_a_pushes v_a_pace v_a_bend v_a_off v_a_range v_a_rise v_a_rounds v_a_heightThere f_a_told) [0, 1] rfl (by decide +kernel) 0 rfl ⟨_, _, rfl⟩ ⟨by decide, by decide, rfl, rfl, by decide, by decide⟩ rfl rfl (Nat.le_of_ble_eq_true rfl) dX2_leave_1 (jkv (fun r1 _ => (rfl : @Eq va_W _ [(h_a, .inr (2, [.ref h_a_told, .int r1.1, .int r1.2.1, .int r1.2.2.1, .int r1.2.2.2.1, .int r1.2.2.2.2.1, .int r1.2.2.2.2.2, .int v_a_pace, .int v_a_bend, .int v_a_off, .int v_a_range, .int v_a_rise, .int v_a_rounds, .int v_a_heightThere])), (h_a_told, .inl (jy X 0, 13, .inl f_a_told))])) (fun r1 => ?_))
  refine j_aload_n (pc := 4) hC 0 rfl dX2_leave_4 ?_
  refine j_get (pc := 5) hC flRX2_9 0 rfl rfl dX2_leave_5 ?_
  refine j_bipush (pc := 8) hC kb_6 dX2_leave_8 ?_
  refine j_iald (pc := 10) hC 1 rfl dX2_leave_10 ?_
  refine j_aload_n (pc := 11) hC 0 rfl dX2_leave_11 ?_
  refine j_get (pc := 12) hC flRX2_9 0 rfl rfl dX2_leave_12 ?_
  refine j_bipush (pc := 15) hC kb_8 dX2_leave_15 ?_
  refine j_iald (pc := 17) hC 1 rfl dX2_leave_17 ?_
  refine j_iadd (pc := 18) hC dX2_leave_18 ?_
  refine j_aload_n (pc := 19) hC 0 rfl dX2_leave_19 ?_
  refine j_get (pc := 20) hC flRX2_15 0 rfl rfl dX2_leave_20 ?_
  refine j_iadd (pc := 23) hC dX2_leave_23 ?_
  refine j_aload_n (pc := 24) hC 0 rfl dX2_leave_24 ?_
  refine j_get (pc := 25) hC flRX2_19 0 rfl rfl dX2_leave_25 ?_
  refine j_aload_n (pc := 28) hC 0 rfl dX2_leave_28 ?_
  refine j_get (pc := 29) hC flRX2_22 0 rfl rfl dX2_leave_29 ?_
  refine j_imul (pc := 32) hC dX2_leave_32 ?_
  refine j_aload_n (pc := 33) hC 0 rfl dX2_leave_33 ?_
  refine j_get (pc := 34) hC flRX2_15 0 rfl rfl dX2_leave_34 ?_
  refine j_iconst (pc := 37) hC ki_1 dX2_leave_37 ?_
  refine j_iadd (pc := 38) hC dX2_leave_38 ?_
  refine j_callN (pc := 39) hC csRX2_46 [.int (r1.2.1 * r1.2.2.1), .int (r1.1 + (1 : Int32))] (mX8_divided (jl X) (jD X) (jy X) (jv X) (r1.2.1 * r1.2.2.1) (r1.1 + (1 : Int32))) [] rfl (by decide +kernel) ⟨by decide, by decide, rfl, rfl, by decide, by decide⟩ rfl rfl (Nat.le_of_ble_eq_true rfl) dX2_leave_39 (jki0 (fun _ => rfl) (fun _ _ => rfl) (fun r2 => ?_))
  refine j_iadd (pc := 42) hC dX2_leave_42 ?_
  refine j_let (pc := 43) (fun x3 => ?_)
  refine j_istore_n (pc := 43) hC (lv' := [(1, .int x3), (0, .ref h_a)]) rfl (by decide) dX2_leave_43 ?_
  refine j_bipush (pc := 44) hC kb_60 dX2_leave_44 ?_
  refine j_aload_n (pc := 46) hC 1 rfl dX2_leave_46 ?_
  refine j_get (pc := 47) hC flRX2_9 0 rfl rfl dX2_leave_47 ?_
  refine j_iconst (pc := 50) hC ki_1 dX2_leave_50 ?_
  refine j_iald (pc := 51) hC 1 rfl dX2_leave_51 ?_
  refine j_imul (pc := 52) hC dX2_leave_52 ?_
  refine j_iload_n (pc := 53) hC 0 rfl dX2_leave_53 ?_
  refine j_callN (pc := 54) hC csRX2_46 [.int ((60 : Int32) * (f_a_told (1 : Int32).toNatClampNeg)), .int x3] (mX8_divided (jl X) (jD X) (jy X) (jv X) ((60 : Int32) * (f_a_told (1 : Int32).toNatClampNeg)) x3) [] rfl (by decide +kernel) ⟨by decide, by decide, rfl, rfl, by decide, by decide⟩ rfl rfl (Nat.le_of_ble_eq_true rfl) dX2_leave_54 (jki0 (fun _ => rfl) (fun _ _ => rfl) (fun r4 => ?_))
  refine j_istore_n (pc := 57) hC (lv' := [(2, .int r4), (1, .int x3), (0, .ref h_a)]) rfl (by decide) dX2_leave_57 ?_
  refine j_iconst (pc := 58) hC ki_0 dX2_leave_58 ?_
  refine j_istore_n (pc := 59) hC (lv' := [(3, .int (0 : Int32)), (2, .int r4), (1, .int x3), (0, .ref h_a)]) rfl (by decide) dX2_leave_59 ?_
  refine j_iconst (pc := 60) hC ki_0 dX2_leave_60 ?_
  refine j_istore (pc := 61) hC (lv' := [(4, .int (0 : Int32)), (3, .int (0 : Int32)), (2, .int r4), (1, .int x3), (0, .ref h_a)]) rfl (by decide) dX2_leave_61 ?_
  refine j_aload_n (pc := 63) hC 4 rfl dX2_leave_63 ?_
  refine j_iconst (pc := 64) hC ki_0 dX2_leave_64 ?_
  refine j_put (pc := 65) hC fpRX2_49 0 rfl rfl rfl (Nat.le_of_ble_eq_true rfl) dX2_leave_65 (ws' := [(h_a, .inr (2, [.ref h_a_told, .int r1.1, .int r1.2.1, .int r1.2.2.1, .int r1.2.2.2.1, .int r1.2.2.2.2.1, .int r1.2.2.2.2.2, .int v_a_pace, .int (0 : Int32), .int v_a_off, .int v_a_range, .int v_a_rise, .int v_a_rounds, .int v_a_heightThere])), (h_a_told, .inl (jy X 0, 13, .inl f_a_told))]) rfl ?_
  refine j_iconst (pc := 68) hC ki_0 dX2_leave_68 ?_
  refine j_istore (pc := 69) hC (lv' := [(5, .int (0 : Int32)), (4, .int (0 : Int32)), (3, .int (0 : Int32)), (2, .int r4), (1, .int x3), (0, .ref h_a)]) rfl (by decide) dX2_leave_69 ?_
  refine j_lv (pc := 71) [5, 3, 2, 1, 0] rfl ?_
  exact jX2_leave_b71 hC u h_a h_a_told v_a_length v_a_weight v_a_place v_a_stiff v_a_angle v_a_pushes v_a_pace v_a_bend v_a_off v_a_range v_a_rise v_a_rounds v_a_heightThere f_a_told (r4, (0 : Int32), (0 : Int32), (0 : Int32), r1.1, r1.2.1, r1.2.2.1, r1.2.2.2.1, r1.2.2.2.2.1, r1.2.2.2.2.2, v_a_pace, (0 : Int32), v_a_off)
set_option maxHeartbeats 4000000 in
set_option maxRecDepth 100000 in
theorem mX2_leave (l : Launch) (D : va_G) (cy : Nat → ClassId) (ev : jE) (u : Nat) (h_a h_a_told : Nat) (v_a_length v_a_weight v_a_place v_a_stiff v_a_angle v_a_pushes v_a_pace v_a_bend v_a_off v_a_range v_a_rise v_a_rounds v_a_heightThere : Int32) (f_a_told : Nat → Int32) : jM l yX2_leave cX2_leave 6 none rX2_leave [.ref h_a] [(h_a, .inr (2, [.ref h_a_told, .int v_a_length, .int v_a_weight, .int v_a_place, .int v_a_stiff, .int v_a_angle, .int v_a_pushes, .int v_a_pace, .int v_a_bend, .int v_a_off, .int v_a_range, .int v_a_rise, .int v_a_rounds, .int v_a_heightThere])), (h_a_told, .inl (cy 0, 13, .inl f_a_told))] (fun (r : Int32 × Int32 × Int32 × Int32 × Int32 × Int32 × Int32 × Int32 × Int32) (_ : Nat → Nat) => [(h_a, .inr (2, [.ref h_a_told, .int r.1, .int r.2.1, .int r.2.2.1, .int r.2.2.2.1, .int r.2.2.2.2.1, .int r.2.2.2.2.2.1, .int r.2.2.2.2.2.2.1, .int r.2.2.2.2.2.2.2.1, .int r.2.2.2.2.2.2.2.2, .int v_a_range, .int v_a_rise, .int v_a_rounds, .int v_a_heightThere])), (h_a_told, .inl (cy 0, 13, .inl f_a_told))]) (fun (_ : Int32 × Int32 × Int32 × Int32 × Int32 × Int32 × Int32 × Int32 × Int32) => none) (fX2_leave u v_a_length v_a_weight v_a_place v_a_stiff v_a_angle v_a_pushes v_a_pace v_a_bend v_a_off f_a_told) D cy ev := j_met RX2 (by decide +kernel) rfl (Nat.le_of_ble_eq_true rfl) (fun X hC _ hD hy hv => by subst hD; subst hy; subst hv; exact jX2_leave hC u h_a h_a_told v_a_length v_a_weight v_a_place v_a_stiff v_a_angle v_a_pushes v_a_pace v_a_bend v_a_off v_a_range v_a_rise v_a_rounds v_a_heightThere f_a_told)
abbrev gX2_fly (X : jX) (h_a h_a_told : Nat) (p1 v_a_length v_a_weight v_a_place v_a_stiff v_a_angle v_a_pushes v_a_pace v_a_bend v_a_off v_a_range v_a_rise v_a_rounds v_a_heightThere : Int32) (f_a_told : Nat → Int32) (pc : Nat) (lv : List (Nat × Value)) (st : List Value) (w0 : Int32) (w1 : Int32) (w2 : Int32) (w3 : Int32) (w4 : Int32) (w5 : Int32) (w6 : Int32) (w7 : Int32) (w8 : Int32) (w9 : Int32) (w10 : Int32) (w11 : Int32) (w12 : Int32) (e : Option (Int32 × Int32 × Int32 × Int32 × Int32 × Int32 × Int32 × Int32 × Int32 × Int32 × Int32 × Int32 × Int32)) : Prop := jJ (ρ := Int32 × Int32 × Int32 × Int32 × Int32 × Int32 × Int32 × Int32 × Int32 × Int32 × Int32 × Int32 × Int32) X 8 0 0 (jQf X 0 0 (fun (_ : Int32 × Int32 × Int32 × Int32 × Int32 × Int32 × Int32 × Int32 × Int32 × Int32 × Int32 × Int32 × Int32) => none) (fun (r : Int32 × Int32 × Int32 × Int32 × Int32 × Int32 × Int32 × Int32 × Int32 × Int32 × Int32 × Int32 × Int32) (_ : Nat → Nat) => [(h_a, .inr (2, [.ref h_a_told, .int r.1, .int r.2.1, .int r.2.2.1, .int r.2.2.2.1, .int r.2.2.2.2.1, .int r.2.2.2.2.2.1, .int r.2.2.2.2.2.2.1, .int r.2.2.2.2.2.2.2.1, .int r.2.2.2.2.2.2.2.2.1, .int r.2.2.2.2.2.2.2.2.2.1, .int r.2.2.2.2.2.2.2.2.2.2.1, .int r.2.2.2.2.2.2.2.2.2.2.2.1, .int r.2.2.2.2.2.2.2.2.2.2.2.2])), (h_a_told, .inl (jy X 0, 13, .inl f_a_told))])) pc lv st [(h_a, .inr (2, [.ref h_a_told, .int w0, .int w1, .int w2, .int w3, .int w4, .int w5, .int w6, .int w7, .int w8, .int w9, .int w10, .int w11, .int w12])), (h_a_told, .inl (jy X 0, 13, .inl f_a_told))] (e)
set_option maxHeartbeats 4000000 in
set_option maxRecDepth 100000 in
theorem jX2_fly_b237 {X : jX} (hC : jC X cX2_fly 8 RX2 rX2_fly none) (u : Nat) (h_a h_a_told : Nat) (p1 v_a_length v_a_weight v_a_place v_a_stiff v_a_angle v_a_pushes v_a_pace v_a_bend v_a_off v_a_range v_a_rise v_a_rounds v_a_heightThere : Int32) (f_a_told : Nat → Int32) (p : Int32 × Int32 × Int32 × Int32 × Int32 × Int32 × Int32 × Int32 × Int32 × Int32 × Int32 × Int32 × Int32 × Int32) : gX2_fly X h_a h_a_told p1 v_a_length v_a_weight v_a_place v_a_stiff v_a_angle v_a_pushes v_a_pace v_a_bend v_a_off v_a_range v_a_rise v_a_rounds v_a_heightThere f_a_told 237 [(0, .ref h_a), (6, .int p.1)] [] p.2.1 p.2.2.1 p.2.2.2.1 p.2.2.2.2.1 p.2.2.2.2.2.1 p.2.2.2.2.2.2.1 p.2.2.2.2.2.2.2.1 p.2.2.2.2.2.2.2.2.1 p.2.2.2.2.2.2.2.2.2.1 p.2.2.2.2.2.2.2.2.2.2.1 p.2.2.2.2.2.2.2.2.2.2.2.1 p.2.2.2.2.2.2.2.2.2.2.2.2.1 p.2.2.2.2.2.2.2.2.2.2.2.2.2 (fX2_fly_b237 u p1 v_a_length v_a_weight v_a_place v_a_stiff v_a_angle v_a_pushes v_a_pace v_a_bend v_a_off v_a_range v_a_rise v_a_rounds v_a_heightThere f_a_told p) := by
  unfold fX2_fly_b237
  refine j_aload_n (pc := 237) hC 0 rfl dX2_fly_237 ?_
  refine j_iload (pc := 238) hC 1 rfl dX2_fly_238 ?_
  refine j_put (pc := 240) hC fpRX2_77 0 rfl rfl rfl (Nat.le_of_ble_eq_true rfl) dX2_fly_240 (ws' := [(h_a, .inr (2, [.ref h_a_told, .int p.2.1, .int p.2.2.1, .int p.2.2.2.1, .int p.2.2.2.2.1, .int p.2.2.2.2.2.1, .int p.2.2.2.2.2.2.1, .int p.2.2.2.2.2.2.2.1, .int p.2.2.2.2.2.2.2.2.1, .int p.2.2.2.2.2.2.2.2.2.1, .int p.1, .int p.2.2.2.2.2.2.2.2.2.2.2.1, .int p.2.2.2.2.2.2.2.2.2.2.2.2.1, .int p.2.2.2.2.2.2.2.2.2.2.2.2.2])), (h_a_told, .inl (jy X 0, 13, .inl f_a_told))]) rfl ?_
  exact j_vret (pc := 243) hC (fun _ => 0) rfl rfl dX2_fly_243
set_option maxHeartbeats 4000000 in
set_option maxRecDepth 100000 in
theorem jX2_fly_b148_step {X : jX} (hC : jC X cX2_fly 8 RX2 rX2_fly none) (u : Nat) (h_a h_a_told : Nat) (p1 v_a_length v_a_weight v_a_place v_a_stiff v_a_angle v_a_pushes v_a_pace v_a_bend v_a_off v_a_range v_a_rise v_a_rounds v_a_heightThere : Int32) (f_a_told : Nat → Int32) (rec148 : (Int32 × Int32 × Int32 × Int32 × Int32 × Int32 × Int32 × Int32 × Int32 × Int32 × Int32 × Int32 × Int32 × Int32 × Int32 × Int32 × Int32 × Int32 × Int32) → Option (Int32 × Int32 × Int32 × Int32 × Int32 × Int32 × Int32 × Int32 × Int32 × Int32 × Int32 × Int32 × Int32)) (hrec148 : ∀ p : Int32 × Int32 × Int32 × Int32 × Int32 × Int32 × Int32 × Int32 × Int32 × Int32 × Int32 × Int32 × Int32 × Int32 × Int32 × Int32 × Int32 × Int32 × Int32, gX2_fly X h_a h_a_told p1 v_a_length v_a_weight v_a_place v_a_stiff v_a_angle v_a_pushes v_a_pace v_a_bend v_a_off v_a_range v_a_rise v_a_rounds v_a_heightThere f_a_told 148 [(0, .ref h_a), (1, .int p1), (2, .int p.1), (3, .int p.2.1), (4, .int p.2.2.1), (5, .int p.2.2.2.1), (6, .int p.2.2.2.2.1), (7, .int p.2.2.2.2.2.1)] [] p.2.2.2.2.2.2.1 p.2.2.2.2.2.2.2.1 p.2.2.2.2.2.2.2.2.1 p.2.2.2.2.2.2.2.2.2.1 p.2.2.2.2.2.2.2.2.2.2.1 p.2.2.2.2.2.2.2.2.2.2.2.1 p.2.2.2.2.2.2.2.2.2.2.2.2.1 p.2.2.2.2.2.2.2.2.2.2.2.2.2.1 p.2.2.2.2.2.2.2.2.2.2.2.2.2.2.1 p.2.2.2.2.2.2.2.2.2.2.2.2.2.2.2.1 p.2.2.2.2.2.2.2.2.2.2.2.2.2.2.2.2.1 p.2.2.2.2.2.2.2.2.2.2.2.2.2.2.2.2.2.1 p.2.2.2.2.2.2.2.2.2.2.2.2.2.2.2.2.2.2 (rec148 p)) (p : Int32 × Int32 × Int32 × Int32 × Int32 × Int32 × Int32 × Int32 × Int32 × Int32 × Int32 × Int32 × Int32 × Int32 × Int32 × Int32 × Int32 × Int32 × Int32) : gX2_fly X h_a h_a_told p1 v_a_length v_a_weight v_a_place v_a_stiff v_a_angle v_a_pushes v_a_pace v_a_bend v_a_off v_a_range v_a_rise v_a_rounds v_a_heightThere f_a_told 148 [(0, .ref h_a), (1, .int p1), (2, .int p.1), (3, .int p.2.1), (4, .int p.2.2.1), (5, .int p.2.2.2.1), (6, .int p.2.2.2.2.1), (7, .int p.2.2.2.2.2.1)] [] p.2.2.2.2.2.2.1 p.2.2.2.2.2.2.2.1 p.2.2.2.2.2.2.2.2.1 p.2.2.2.2.2.2.2.2.2.1 p.2.2.2.2.2.2.2.2.2.2.1 p.2.2.2.2.2.2.2.2.2.2.2.1 p.2.2.2.2.2.2.2.2.2.2.2.2.1 p.2.2.2.2.2.2.2.2.2.2.2.2.2.1 p.2.2.2.2.2.2.2.2.2.2.2.2.2.2.1 p.2.2.2.2.2.2.2.2.2.2.2.2.2.2.2.1 p.2.2.2.2.2.2.2.2.2.2.2.2.2.2.2.2.1 p.2.2.2.2.2.2.2.2.2.2.2.2.2.2.2.2.2.1 p.2.2.2.2.2.2.2.2.2.2.2.2.2.2.2.2.2.2 (fX2_fly_b148 u p1 v_a_length v_a_weight v_a_place v_a_stiff v_a_angle v_a_pushes v_a_pace v_a_bend v_a_off v_a_range v_a_rise v_a_rounds v_a_heightThere f_a_told rec148 p) := by
  unfold fX2_fly_b148
  refine j_iload (pc := 148) hC 7 rfl dX2_fly_148 ?_
  refine j_ifle (pc := 150) hC 237 (by decide) dX2_fly_150 ?_ ?_
  · refine j_lv (pc := 237) [0, 6] rfl ?_
    exact jX2_fly_b237 hC u h_a h_a_told p1 v_a_length v_a_weight v_a_place v_a_stiff v_a_angle v_a_pushes v_a_pace v_a_bend v_a_off v_a_range v_a_rise v_a_rounds v_a_heightThere f_a_told (p.2.2.2.2.1, p.2.2.2.2.2.2.1, p.2.2.2.2.2.2.2.1, p.2.2.2.2.2.2.2.2.1, p.2.2.2.2.2.2.2.2.2.1, p.2.2.2.2.2.2.2.2.2.2.1, p.2.2.2.2.2.2.2.2.2.2.2.1, p.2.2.2.2.2.2.2.2.2.2.2.2.1, p.2.2.2.2.2.2.2.2.2.2.2.2.2.1, p.2.2.2.2.2.2.2.2.2.2.2.2.2.2.1, p.2.2.2.2.2.2.2.2.2.2.2.2.2.2.2.1, p.2.2.2.2.2.2.2.2.2.2.2.2.2.2.2.2.1, p.2.2.2.2.2.2.2.2.2.2.2.2.2.2.2.2.2.1, p.2.2.2.2.2.2.2.2.2.2.2.2.2.2.2.2.2.2)
  · refine j_aload_n (pc := 153) hC 0 rfl dX2_fly_153 ?_
    refine j_get (pc := 154) hC flRX2_70 0 rfl rfl dX2_fly_154 ?_
    refine j_ldc (pc := 157) hC wm480 dX2_fly_157 ?_
    refine j_icmpge (pc := 159) hC 237 (by decide) dX2_fly_159 ?_ ?_
    · refine j_lv (pc := 237) [0, 6] rfl ?_
      exact jX2_fly_b237 hC u h_a h_a_told p1 v_a_length v_a_weight v_a_place v_a_stiff v_a_angle v_a_pushes v_a_pace v_a_bend v_a_off v_a_range v_a_rise v_a_rounds v_a_heightThere f_a_told (p.2.2.2.2.1, p.2.2.2.2.2.2.1, p.2.2.2.2.2.2.2.1, p.2.2.2.2.2.2.2.2.1, p.2.2.2.2.2.2.2.2.2.1, p.2.2.2.2.2.2.2.2.2.2.1, p.2.2.2.2.2.2.2.2.2.2.2.1, p.2.2.2.2.2.2.2.2.2.2.2.2.1, p.2.2.2.2.2.2.2.2.2.2.2.2.2.1, p.2.2.2.2.2.2.2.2.2.2.2.2.2.2.1, p.2.2.2.2.2.2.2.2.2.2.2.2.2.2.2.1, p.2.2.2.2.2.2.2.2.2.2.2.2.2.2.2.2.1, p.2.2.2.2.2.2.2.2.2.2.2.2.2.2.2.2.2.1, p.2.2.2.2.2.2.2.2.2.2.2.2.2.2.2.2.2.2)
    · refine j_aload_n (pc := 162) hC 0 rfl dX2_fly_162 ?_
      refine j_dup (pc := 163) hC rfl dX2_fly_163 ?_
      refine j_get (pc := 164) hC flRX2_70 0 rfl rfl dX2_fly_164 ?_
      refine j_iconst (pc := 167) hC ki_1 dX2_fly_167 ?_
      refine j_iadd (pc := 168) hC dX2_fly_168 ?_
      refine j_let (pc := 169) (fun x2 => ?_)
      refine j_put (pc := 169) hC fpRX2_70 0 rfl rfl rfl (Nat.le_of_ble_eq_true rfl) dX2_fly_169 (ws' := [(h_a, .inr (2, [.ref h_a_told, .int p.2.2.2.2.2.2.1, .int p.2.2.2.2.2.2.2.1, .int p.2.2.2.2.2.2.2.2.1, .int p.2.2.2.2.2.2.2.2.2.1, .int p.2.2.2.2.2.2.2.2.2.2.1, .int p.2.2.2.2.2.2.2.2.2.2.2.1, .int p.2.2.2.2.2.2.2.2.2.2.2.2.1, .int p.2.2.2.2.2.2.2.2.2.2.2.2.2.1, .int p.2.2.2.2.2.2.2.2.2.2.2.2.2.2.1, .int p.2.2.2.2.2.2.2.2.2.2.2.2.2.2.2.1, .int p.2.2.2.2.2.2.2.2.2.2.2.2.2.2.2.2.1, .int x2, .int p.2.2.2.2.2.2.2.2.2.2.2.2.2.2.2.2.2.2])), (h_a_told, .inl (jy X 0, 13, .inl f_a_told))]) rfl ?_
      refine j_iconst (pc := 172) hC ki_0 dX2_fly_172 ?_
      refine j_iload_n (pc := 173) hC 3 rfl dX2_fly_173 ?_
      refine j_iload_n (pc := 174) hC 3 rfl dX2_fly_174 ?_
      refine j_iload (pc := 175) hC 5 rfl dX2_fly_175 ?_
      refine j_imul (pc := 177) hC dX2_fly_177 ?_
      refine j_sipush (pc := 178) hC ks_1000 dX2_fly_178 ?_
      refine j_idivc (pc := 181) hC (by decide) dX2_fly_181 ?_
      refine j_isub (pc := 182) hC dX2_fly_182 ?_
      refine j_imax (pc := 183) hC wm467 wm468 wm84 wm469 (by decide) (Nat.le_of_ble_eq_true rfl) ⟨Nat.le_of_ble_eq_true rfl, Nat.le_of_ble_eq_true rfl⟩ dX2_fly_183 ?_
      refine j_let (pc := 186) (fun x3 => ?_)
      refine j_istore_n (pc := 186) hC (lv' := [(3, .int x3), (0, .ref h_a), (1, .int p1), (2, .int p.1), (4, .int p.2.2.1), (5, .int p.2.2.2.1), (6, .int p.2.2.2.2.1), (7, .int p.2.2.2.2.2.1)]) rfl (by decide) dX2_fly_186 ?_
      refine j_iinc (pc := 187) hC 4 rfl ki_m10 (fun x4 => (rfl : @Eq (List (Nat × Value)) _ [(4, .int x4), (3, .int x3), (0, .ref h_a), (1, .int p1), (2, .int p.1), (5, .int p.2.2.2.1), (6, .int p.2.2.2.2.1), (7, .int p.2.2.2.2.2.1)])) (by decide) dX2_fly_187 (fun x4 => ?_)
      refine j_iload (pc := 190) hC 6 rfl dX2_fly_190 ?_
      refine j_iload_n (pc := 192) hC 1 rfl dX2_fly_192 ?_
      refine j_iadd (pc := 193) hC dX2_fly_193 ?_
      refine j_let (pc := 194) (fun x5 => ?_)
      refine j_istore (pc := 194) hC (lv' := [(6, .int x5), (4, .int x4), (3, .int x3), (0, .ref h_a), (1, .int p1), (2, .int p.1), (5, .int p.2.2.2.1), (7, .int p.2.2.2.2.2.1)]) rfl (by decide) dX2_fly_194 ?_
      refine j_iload (pc := 196) hC 7 rfl dX2_fly_196 ?_
      refine j_iload (pc := 198) hC 1 rfl dX2_fly_198 ?_
      refine j_iadd (pc := 200) hC dX2_fly_200 ?_
      refine j_let (pc := 201) (fun x6 => ?_)
      refine j_istore (pc := 201) hC (lv' := [(7, .int x6), (6, .int x5), (4, .int x4), (3, .int x3), (0, .ref h_a), (1, .int p1), (2, .int p.1), (5, .int p.2.2.2.1)]) rfl (by decide) dX2_fly_201 ?_
      refine j_aload_n (pc := 203) hC 4 rfl dX2_fly_203 ?_
      refine j_aload_n (pc := 204) hC 4 rfl dX2_fly_204 ?_
      refine j_get (pc := 205) hC flRX2_67 0 rfl rfl dX2_fly_205 ?_
      refine j_iload (pc := 208) hC 0 rfl dX2_fly_208 ?_
      refine j_imax (pc := 210) hC wm467 wm468 wm84 wm469 (by decide) (Nat.le_of_ble_eq_true rfl) ⟨Nat.le_of_ble_eq_true rfl, Nat.le_of_ble_eq_true rfl⟩ dX2_fly_210 ?_
      refine j_let (pc := 213) (fun x7 => ?_)
      refine j_put (pc := 213) hC fpRX2_67 0 rfl rfl rfl (Nat.le_of_ble_eq_true rfl) dX2_fly_213 (ws' := [(h_a, .inr (2, [.ref h_a_told, .int p.2.2.2.2.2.2.1, .int p.2.2.2.2.2.2.2.1, .int p.2.2.2.2.2.2.2.2.1, .int p.2.2.2.2.2.2.2.2.2.1, .int p.2.2.2.2.2.2.2.2.2.2.1, .int p.2.2.2.2.2.2.2.2.2.2.2.1, .int p.2.2.2.2.2.2.2.2.2.2.2.2.1, .int p.2.2.2.2.2.2.2.2.2.2.2.2.2.1, .int p.2.2.2.2.2.2.2.2.2.2.2.2.2.2.1, .int p.2.2.2.2.2.2.2.2.2.2.2.2.2.2.2.1, .int x7, .int x2, .int p.2.2.2.2.2.2.2.2.2.2.2.2.2.2.2.2.2.2])), (h_a_told, .inl (jy X 0, 13, .inl f_a_told))]) rfl ?_
      refine j_iload (pc := 216) hC 1 rfl dX2_fly_216 ?_
      refine j_iload_n (pc := 218) hC 5 rfl dX2_fly_218 ?_
      refine j_icmplt (pc := 219) hC 148 (by decide) dX2_fly_219 ?_ ?_
      · refine j_lv (pc := 148) [4, 5, 6, 3, 2, 7, 1, 0] rfl ?_
        exact hrec148 (p.1, x3, x4, p.2.2.2.1, x5, x6, p.2.2.2.2.2.2.1, p.2.2.2.2.2.2.2.1, p.2.2.2.2.2.2.2.2.1, p.2.2.2.2.2.2.2.2.2.1, p.2.2.2.2.2.2.2.2.2.2.1, p.2.2.2.2.2.2.2.2.2.2.2.1, p.2.2.2.2.2.2.2.2.2.2.2.2.1, p.2.2.2.2.2.2.2.2.2.2.2.2.2.1, p.2.2.2.2.2.2.2.2.2.2.2.2.2.2.1, p.2.2.2.2.2.2.2.2.2.2.2.2.2.2.2.1, x7, x2, p.2.2.2.2.2.2.2.2.2.2.2.2.2.2.2.2.2.2)
      · refine j_iload_n (pc := 222) hC 6 rfl dX2_fly_222 ?_
        refine j_ifne (pc := 223) hC 148 (by decide) dX2_fly_223 ?_ ?_
        · refine j_lv (pc := 148) [4, 5, 6, 3, 2, 7, 1, 0] rfl ?_
          exact hrec148 (p.1, x3, x4, p.2.2.2.1, x5, x6, p.2.2.2.2.2.2.1, p.2.2.2.2.2.2.2.1, p.2.2.2.2.2.2.2.2.1, p.2.2.2.2.2.2.2.2.2.1, p.2.2.2.2.2.2.2.2.2.2.1, p.2.2.2.2.2.2.2.2.2.2.2.1, p.2.2.2.2.2.2.2.2.2.2.2.2.1, p.2.2.2.2.2.2.2.2.2.2.2.2.2.1, p.2.2.2.2.2.2.2.2.2.2.2.2.2.2.1, p.2.2.2.2.2.2.2.2.2.2.2.2.2.2.2.1, x7, x2, p.2.2.2.2.2.2.2.2.2.2.2.2.2.2.2.2.2.2)
        · refine j_iconst (pc := 226) hC ki_1 dX2_fly_226 ?_
          refine j_istore_n (pc := 227) hC (lv' := [(2, .int (1 : Int32)), (7, .int x6), (6, .int x5), (4, .int x4), (3, .int x3), (0, .ref h_a), (1, .int p1), (5, .int p.2.2.2.1)]) rfl (by decide) dX2_fly_227 ?_
          refine j_aload_n (pc := 228) hC 5 rfl dX2_fly_228 ?_
          refine j_iload (pc := 229) hC 1 rfl dX2_fly_229 ?_
          refine j_put (pc := 231) hC fpRX2_73 0 rfl rfl rfl (Nat.le_of_ble_eq_true rfl) dX2_fly_231 (ws' := [(h_a, .inr (2, [.ref h_a_told, .int p.2.2.2.2.2.2.1, .int p.2.2.2.2.2.2.2.1, .int p.2.2.2.2.2.2.2.2.1, .int p.2.2.2.2.2.2.2.2.2.1, .int p.2.2.2.2.2.2.2.2.2.2.1, .int p.2.2.2.2.2.2.2.2.2.2.2.1, .int p.2.2.2.2.2.2.2.2.2.2.2.2.1, .int p.2.2.2.2.2.2.2.2.2.2.2.2.2.1, .int p.2.2.2.2.2.2.2.2.2.2.2.2.2.2.1, .int p.2.2.2.2.2.2.2.2.2.2.2.2.2.2.2.1, .int x7, .int x2, .int x6])), (h_a_told, .inl (jy X 0, 13, .inl f_a_told))]) rfl ?_
          refine j_goto (pc := 234) hC 148 (by decide) dX2_fly_234 ?_
          refine j_lv (pc := 148) [5, 6, 0, 4, 3, 7, 2, 1] rfl ?_
          exact hrec148 ((1 : Int32), x3, x4, p.2.2.2.1, x5, x6, p.2.2.2.2.2.2.1, p.2.2.2.2.2.2.2.1, p.2.2.2.2.2.2.2.2.1, p.2.2.2.2.2.2.2.2.2.1, p.2.2.2.2.2.2.2.2.2.2.1, p.2.2.2.2.2.2.2.2.2.2.2.1, p.2.2.2.2.2.2.2.2.2.2.2.2.1, p.2.2.2.2.2.2.2.2.2.2.2.2.2.1, p.2.2.2.2.2.2.2.2.2.2.2.2.2.2.1, p.2.2.2.2.2.2.2.2.2.2.2.2.2.2.2.1, x7, x2, x6)
set_option maxHeartbeats 4000000 in
set_option maxRecDepth 100000 in
theorem jX2_fly_b148 {X : jX} (hC : jC X cX2_fly 8 RX2 rX2_fly none) (u : Nat) (h_a h_a_told : Nat) (p1 v_a_length v_a_weight v_a_place v_a_stiff v_a_angle v_a_pushes v_a_pace v_a_bend v_a_off v_a_range v_a_rise v_a_rounds v_a_heightThere : Int32) (f_a_told : Nat → Int32) (p : Int32 × Int32 × Int32 × Int32 × Int32 × Int32 × Int32 × Int32 × Int32 × Int32 × Int32 × Int32 × Int32 × Int32 × Int32 × Int32 × Int32 × Int32 × Int32) : gX2_fly X h_a h_a_told p1 v_a_length v_a_weight v_a_place v_a_stiff v_a_angle v_a_pushes v_a_pace v_a_bend v_a_off v_a_range v_a_rise v_a_rounds v_a_heightThere f_a_told 148 [(0, .ref h_a), (1, .int p1), (2, .int p.1), (3, .int p.2.1), (4, .int p.2.2.1), (5, .int p.2.2.2.1), (6, .int p.2.2.2.2.1), (7, .int p.2.2.2.2.2.1)] [] p.2.2.2.2.2.2.1 p.2.2.2.2.2.2.2.1 p.2.2.2.2.2.2.2.2.1 p.2.2.2.2.2.2.2.2.2.1 p.2.2.2.2.2.2.2.2.2.2.1 p.2.2.2.2.2.2.2.2.2.2.2.1 p.2.2.2.2.2.2.2.2.2.2.2.2.1 p.2.2.2.2.2.2.2.2.2.2.2.2.2.1 p.2.2.2.2.2.2.2.2.2.2.2.2.2.2.1 p.2.2.2.2.2.2.2.2.2.2.2.2.2.2.2.1 p.2.2.2.2.2.2.2.2.2.2.2.2.2.2.2.2.1 p.2.2.2.2.2.2.2.2.2.2.2.2.2.2.2.2.2.1 p.2.2.2.2.2.2.2.2.2.2.2.2.2.2.2.2.2.2 (jfix (fX2_fly_b148 u p1 v_a_length v_a_weight v_a_place v_a_stiff v_a_angle v_a_pushes v_a_pace v_a_bend v_a_off v_a_range v_a_rise v_a_rounds v_a_heightThere f_a_told) u p) :=
  j_fix (fun rec148 hrec148 p => jX2_fly_b148_step hC u h_a h_a_told p1 v_a_length v_a_weight v_a_place v_a_stiff v_a_angle v_a_pushes v_a_pace v_a_bend v_a_off v_a_range v_a_rise v_a_rounds v_a_heightThere f_a_told rec148 hrec148 p) u p
set_option maxHeartbeats 4000000 in
set_option maxRecDepth 100000 in
theorem jX2_fly_b122 {X : jX} (hC : jC X cX2_fly 8 RX2 rX2_fly none) (u : Nat) (h_a h_a_told : Nat) (p1 v_a_length v_a_weight v_a_place v_a_stiff v_a_angle v_a_pushes v_a_pace v_a_bend v_a_off v_a_range v_a_rise v_a_rounds v_a_heightThere : Int32) (f_a_told : Nat → Int32) (p : Int32 × Int32 × Int32 × Int32 × Int32 × Int32 × Int32 × Int32 × Int32 × Int32 × Int32 × Int32 × Int32 × Int32 × Int32 × Int32 × Int32) : gX2_fly X h_a h_a_told p1 v_a_length v_a_weight v_a_place v_a_stiff v_a_angle v_a_pushes v_a_pace v_a_bend v_a_off v_a_range v_a_rise v_a_rounds v_a_heightThere f_a_told 122 [(0, .ref h_a), (1, .int p1), (2, .int p.1), (3, .int p.2.1), (4, .int p.2.2.1)] [.int p.2.2.2.1] p.2.2.2.2.1 p.2.2.2.2.2.1 p.2.2.2.2.2.2.1 p.2.2.2.2.2.2.2.1 p.2.2.2.2.2.2.2.2.1 p.2.2.2.2.2.2.2.2.2.1 p.2.2.2.2.2.2.2.2.2.2.1 p.2.2.2.2.2.2.2.2.2.2.2.1 p.2.2.2.2.2.2.2.2.2.2.2.2.1 p.2.2.2.2.2.2.2.2.2.2.2.2.2.1 p.2.2.2.2.2.2.2.2.2.2.2.2.2.2.1 p.2.2.2.2.2.2.2.2.2.2.2.2.2.2.2.1 p.2.2.2.2.2.2.2.2.2.2.2.2.2.2.2.2 (fX2_fly_b122 u p1 v_a_length v_a_weight v_a_place v_a_stiff v_a_angle v_a_pushes v_a_pace v_a_bend v_a_off v_a_range v_a_rise v_a_rounds v_a_heightThere f_a_told p) := by
  unfold fX2_fly_b122
  refine j_istore (pc := 122) hC (lv' := [(5, .int p.2.2.2.1), (0, .ref h_a), (1, .int p1), (2, .int p.1), (3, .int p.2.1), (4, .int p.2.2.1)]) rfl (by decide) dX2_fly_122 ?_
  refine j_iconst (pc := 124) hC ki_0 dX2_fly_124 ?_
  refine j_istore (pc := 125) hC (lv' := [(6, .int (0 : Int32)), (5, .int p.2.2.2.1), (0, .ref h_a), (1, .int p1), (2, .int p.1), (3, .int p.2.1), (4, .int p.2.2.1)]) rfl (by decide) dX2_fly_125 ?_
  refine j_sipush (pc := 127) hC ks_150 dX2_fly_127 ?_
  refine j_istore (pc := 130) hC (lv' := [(7, .int (150 : Int32)), (6, .int (0 : Int32)), (5, .int p.2.2.2.1), (0, .ref h_a), (1, .int p1), (2, .int p.1), (3, .int p.2.1), (4, .int p.2.2.1)]) rfl (by decide) dX2_fly_130 ?_
  refine j_aload_n (pc := 132) hC 3 rfl dX2_fly_132 ?_
  refine j_iload (pc := 133) hC 0 rfl dX2_fly_133 ?_
  refine j_put (pc := 135) hC fpRX2_67 0 rfl rfl rfl (Nat.le_of_ble_eq_true rfl) dX2_fly_135 (ws' := [(h_a, .inr (2, [.ref h_a_told, .int p.2.2.2.2.1, .int p.2.2.2.2.2.1, .int p.2.2.2.2.2.2.1, .int p.2.2.2.2.2.2.2.1, .int p.2.2.2.2.2.2.2.2.1, .int p.2.2.2.2.2.2.2.2.2.1, .int p.2.2.2.2.2.2.2.2.2.2.1, .int p.2.2.2.2.2.2.2.2.2.2.2.1, .int p.2.2.2.2.2.2.2.2.2.2.2.2.1, .int p.2.2.2.2.2.2.2.2.2.2.2.2.2.1, .int (150 : Int32), .int p.2.2.2.2.2.2.2.2.2.2.2.2.2.2.2.1, .int p.2.2.2.2.2.2.2.2.2.2.2.2.2.2.2.2])), (h_a_told, .inl (jy X 0, 13, .inl f_a_told))]) rfl ?_
  refine j_aload_n (pc := 138) hC 3 rfl dX2_fly_138 ?_
  refine j_iconst (pc := 139) hC ki_0 dX2_fly_139 ?_
  refine j_put (pc := 140) hC fpRX2_70 0 rfl rfl rfl (Nat.le_of_ble_eq_true rfl) dX2_fly_140 (ws' := [(h_a, .inr (2, [.ref h_a_told, .int p.2.2.2.2.1, .int p.2.2.2.2.2.1, .int p.2.2.2.2.2.2.1, .int p.2.2.2.2.2.2.2.1, .int p.2.2.2.2.2.2.2.2.1, .int p.2.2.2.2.2.2.2.2.2.1, .int p.2.2.2.2.2.2.2.2.2.2.1, .int p.2.2.2.2.2.2.2.2.2.2.2.1, .int p.2.2.2.2.2.2.2.2.2.2.2.2.1, .int p.2.2.2.2.2.2.2.2.2.2.2.2.2.1, .int (150 : Int32), .int (0 : Int32), .int p.2.2.2.2.2.2.2.2.2.2.2.2.2.2.2.2])), (h_a_told, .inl (jy X 0, 13, .inl f_a_told))]) rfl ?_
  refine j_aload_n (pc := 143) hC 3 rfl dX2_fly_143 ?_
  refine j_iconst (pc := 144) hC ki_0 dX2_fly_144 ?_
  refine j_put (pc := 145) hC fpRX2_73 0 rfl rfl rfl (Nat.le_of_ble_eq_true rfl) dX2_fly_145 (ws' := [(h_a, .inr (2, [.ref h_a_told, .int p.2.2.2.2.1, .int p.2.2.2.2.2.1, .int p.2.2.2.2.2.2.1, .int p.2.2.2.2.2.2.2.1, .int p.2.2.2.2.2.2.2.2.1, .int p.2.2.2.2.2.2.2.2.2.1, .int p.2.2.2.2.2.2.2.2.2.2.1, .int p.2.2.2.2.2.2.2.2.2.2.2.1, .int p.2.2.2.2.2.2.2.2.2.2.2.2.1, .int p.2.2.2.2.2.2.2.2.2.2.2.2.2.1, .int (150 : Int32), .int (0 : Int32), .int (0 : Int32)])), (h_a_told, .inl (jy X 0, 13, .inl f_a_told))]) rfl ?_
  refine j_lv (pc := 148) [3, 4, 5, 6, 7, 2, 1, 0] rfl ?_
  exact jX2_fly_b148 hC u h_a h_a_told p1 v_a_length v_a_weight v_a_place v_a_stiff v_a_angle v_a_pushes v_a_pace v_a_bend v_a_off v_a_range v_a_rise v_a_rounds v_a_heightThere f_a_told (p.1, p.2.1, p.2.2.1, p.2.2.2.1, (0 : Int32), (150 : Int32), p.2.2.2.2.1, p.2.2.2.2.2.1, p.2.2.2.2.2.2.1, p.2.2.2.2.2.2.2.1, p.2.2.2.2.2.2.2.2.1, p.2.2.2.2.2.2.2.2.2.1, p.2.2.2.2.2.2.2.2.2.2.1, p.2.2.2.2.2.2.2.2.2.2.2.1, p.2.2.2.2.2.2.2.2.2.2.2.2.1, p.2.2.2.2.2.2.2.2.2.2.2.2.2.1, (150 : Int32), (0 : Int32), (0 : Int32))
set_option maxHeartbeats 4000000 in
set_option maxRecDepth 100000 in
theorem jX2_fly_b83 {X : jX} (hC : jC X cX2_fly 8 RX2 rX2_fly none) (u : Nat) (h_a h_a_told : Nat) (p1 v_a_length v_a_weight v_a_place v_a_stiff v_a_angle v_a_pushes v_a_pace v_a_bend v_a_off v_a_range v_a_rise v_a_rounds v_a_heightThere : Int32) (f_a_told : Nat → Int32) (p : Int32 × Int32 × Int32 × Int32 × Int32 × Int32 × Int32 × Int32 × Int32 × Int32 × Int32 × Int32 × Int32 × Int32 × Int32 × Int32) : gX2_fly X h_a h_a_told p1 v_a_length v_a_weight v_a_place v_a_stiff v_a_angle v_a_pushes v_a_pace v_a_bend v_a_off v_a_range v_a_rise v_a_rounds v_a_heightThere f_a_told 83 [(0, .ref h_a), (1, .int p1), (2, .int p.1), (3, .int p.2.1)] [.int p.2.2.1] p.2.2.2.1 p.2.2.2.2.1 p.2.2.2.2.2.1 p.2.2.2.2.2.2.1 p.2.2.2.2.2.2.2.1 p.2.2.2.2.2.2.2.2.1 p.2.2.2.2.2.2.2.2.2.1 p.2.2.2.2.2.2.2.2.2.2.1 p.2.2.2.2.2.2.2.2.2.2.2.1 p.2.2.2.2.2.2.2.2.2.2.2.2.1 p.2.2.2.2.2.2.2.2.2.2.2.2.2.1 p.2.2.2.2.2.2.2.2.2.2.2.2.2.2.1 p.2.2.2.2.2.2.2.2.2.2.2.2.2.2.2 (fX2_fly_b83 u p1 v_a_length v_a_weight v_a_place v_a_stiff v_a_angle v_a_pushes v_a_pace v_a_bend v_a_off v_a_range v_a_rise v_a_rounds v_a_heightThere f_a_told p) := by
  unfold fX2_fly_b83
  refine j_istore (pc := 83) hC (lv' := [(4, .int p.2.2.1), (0, .ref h_a), (1, .int p1), (2, .int p.1), (3, .int p.2.1)]) rfl (by decide) dX2_fly_83 ?_
  refine j_aload_n (pc := 85) hC 1 rfl dX2_fly_85 ?_
  refine j_get (pc := 86) hC flRX2_9 0 rfl rfl dX2_fly_86 ?_
  refine j_bipush (pc := 89) hC kb_9 dX2_fly_89 ?_
  refine j_iald (pc := 91) hC 1 rfl dX2_fly_91 ?_
  refine j_ifne (pc := 92) hC 106 (by decide) dX2_fly_92 ?_ ?_
  · refine j_iconst (pc := 106) hC ki_4 dX2_fly_106 ?_
    refine j_iconst (pc := 107) hC ki_2 dX2_fly_107 ?_
    refine j_aload_n (pc := 108) hC 1 rfl dX2_fly_108 ?_
    refine j_get (pc := 109) hC flRX2_9 0 rfl rfl dX2_fly_109 ?_
    refine j_bipush (pc := 112) hC kb_9 dX2_fly_112 ?_
    refine j_iald (pc := 114) hC 1 rfl dX2_fly_114 ?_
    refine j_imul (pc := 115) hC dX2_fly_115 ?_
    refine j_iadd (pc := 116) hC dX2_fly_116 ?_
    refine j_aload_n (pc := 117) hC 1 rfl dX2_fly_117 ?_
    refine j_get (pc := 118) hC flRX2_55 0 rfl rfl dX2_fly_118 ?_
    refine j_iadd (pc := 121) hC dX2_fly_121 ?_
    refine j_lv (pc := 122) [1, 2, 3, 4, 0] rfl ?_
    exact jX2_fly_b122 hC u h_a h_a_told p1 v_a_length v_a_weight v_a_place v_a_stiff v_a_angle v_a_pushes v_a_pace v_a_bend v_a_off v_a_range v_a_rise v_a_rounds v_a_heightThere f_a_told (p.1, p.2.1, p.2.2.1, (((4 : Int32) + ((2 : Int32) * (f_a_told (9 : Int32).toNatClampNeg))) + p.2.2.2.2.2.2.2.2.2.2.2.1), p.2.2.2.1, p.2.2.2.2.1, p.2.2.2.2.2.1, p.2.2.2.2.2.2.1, p.2.2.2.2.2.2.2.1, p.2.2.2.2.2.2.2.2.1, p.2.2.2.2.2.2.2.2.2.1, p.2.2.2.2.2.2.2.2.2.2.1, p.2.2.2.2.2.2.2.2.2.2.2.1, p.2.2.2.2.2.2.2.2.2.2.2.2.1, p.2.2.2.2.2.2.2.2.2.2.2.2.2.1, p.2.2.2.2.2.2.2.2.2.2.2.2.2.2.1, p.2.2.2.2.2.2.2.2.2.2.2.2.2.2.2)
  · refine j_iconst (pc := 95) hC ki_4 dX2_fly_95 ?_
    refine j_iconst (pc := 96) hC ki_3 dX2_fly_96 ?_
    refine j_aload_n (pc := 97) hC 1 rfl dX2_fly_97 ?_
    refine j_get (pc := 98) hC flRX2_55 0 rfl rfl dX2_fly_98 ?_
    refine j_imul (pc := 101) hC dX2_fly_101 ?_
    refine j_iadd (pc := 102) hC dX2_fly_102 ?_
    refine j_goto (pc := 103) hC 122 (by decide) dX2_fly_103 ?_
    refine j_lv (pc := 122) [1, 2, 3, 4, 0] rfl ?_
    exact jX2_fly_b122 hC u h_a h_a_told p1 v_a_length v_a_weight v_a_place v_a_stiff v_a_angle v_a_pushes v_a_pace v_a_bend v_a_off v_a_range v_a_rise v_a_rounds v_a_heightThere f_a_told (p.1, p.2.1, p.2.2.1, ((4 : Int32) + ((3 : Int32) * p.2.2.2.2.2.2.2.2.2.2.2.1)), p.2.2.2.1, p.2.2.2.2.1, p.2.2.2.2.2.1, p.2.2.2.2.2.2.1, p.2.2.2.2.2.2.2.1, p.2.2.2.2.2.2.2.2.1, p.2.2.2.2.2.2.2.2.2.1, p.2.2.2.2.2.2.2.2.2.2.1, p.2.2.2.2.2.2.2.2.2.2.2.1, p.2.2.2.2.2.2.2.2.2.2.2.2.1, p.2.2.2.2.2.2.2.2.2.2.2.2.2.1, p.2.2.2.2.2.2.2.2.2.2.2.2.2.2.1, p.2.2.2.2.2.2.2.2.2.2.2.2.2.2.2)
set_option maxHeartbeats 4000000 in
set_option maxRecDepth 100000 in
theorem jX2_fly_b82 {X : jX} (hC : jC X cX2_fly 8 RX2 rX2_fly none) (u : Nat) (h_a h_a_told : Nat) (p1 v_a_length v_a_weight v_a_place v_a_stiff v_a_angle v_a_pushes v_a_pace v_a_bend v_a_off v_a_range v_a_rise v_a_rounds v_a_heightThere : Int32) (f_a_told : Nat → Int32) (p : Int32 × Int32 × Int32 × Int32 × Int32 × Int32 × Int32 × Int32 × Int32 × Int32 × Int32 × Int32 × Int32 × Int32 × Int32) : gX2_fly X h_a h_a_told p1 v_a_length v_a_weight v_a_place v_a_stiff v_a_angle v_a_pushes v_a_pace v_a_bend v_a_off v_a_range v_a_rise v_a_rounds v_a_heightThere f_a_told 82 [(0, .ref h_a), (1, .int p1), (2, .int p.1), (3, .int p.2.1)] [] p.2.2.1 p.2.2.2.1 p.2.2.2.2.1 p.2.2.2.2.2.1 p.2.2.2.2.2.2.1 p.2.2.2.2.2.2.2.1 p.2.2.2.2.2.2.2.2.1 p.2.2.2.2.2.2.2.2.2.1 p.2.2.2.2.2.2.2.2.2.2.1 p.2.2.2.2.2.2.2.2.2.2.2.1 p.2.2.2.2.2.2.2.2.2.2.2.2.1 p.2.2.2.2.2.2.2.2.2.2.2.2.2.1 p.2.2.2.2.2.2.2.2.2.2.2.2.2.2 (fX2_fly_b82 u p1 v_a_length v_a_weight v_a_place v_a_stiff v_a_angle v_a_pushes v_a_pace v_a_bend v_a_off v_a_range v_a_rise v_a_rounds v_a_heightThere f_a_told p) := by
  unfold fX2_fly_b82
  refine j_iconst (pc := 82) hC ki_0 dX2_fly_82 ?_
  exact jX2_fly_b83 hC u h_a h_a_told p1 v_a_length v_a_weight v_a_place v_a_stiff v_a_angle v_a_pushes v_a_pace v_a_bend v_a_off v_a_range v_a_rise v_a_rounds v_a_heightThere f_a_told (p.1, p.2.1, (0 : Int32), p.2.2.1, p.2.2.2.1, p.2.2.2.2.1, p.2.2.2.2.2.1, p.2.2.2.2.2.2.1, p.2.2.2.2.2.2.2.1, p.2.2.2.2.2.2.2.2.1, p.2.2.2.2.2.2.2.2.2.1, p.2.2.2.2.2.2.2.2.2.2.1, p.2.2.2.2.2.2.2.2.2.2.2.1, p.2.2.2.2.2.2.2.2.2.2.2.2.1, p.2.2.2.2.2.2.2.2.2.2.2.2.2.1, p.2.2.2.2.2.2.2.2.2.2.2.2.2.2)
set_option maxHeartbeats 4000000 in
set_option maxRecDepth 100000 in
theorem jX2_fly_b44 {X : jX} (hC : jC X cX2_fly 8 RX2 rX2_fly none) (u : Nat) (h_a h_a_told : Nat) (p1 v_a_length v_a_weight v_a_place v_a_stiff v_a_angle v_a_pushes v_a_pace v_a_bend v_a_off v_a_range v_a_rise v_a_rounds v_a_heightThere : Int32) (f_a_told : Nat → Int32) (p : Int32 × Int32 × Int32 × Int32 × Int32 × Int32 × Int32 × Int32 × Int32 × Int32 × Int32 × Int32 × Int32 × Int32 × Int32) : gX2_fly X h_a h_a_told p1 v_a_length v_a_weight v_a_place v_a_stiff v_a_angle v_a_pushes v_a_pace v_a_bend v_a_off v_a_range v_a_rise v_a_rounds v_a_heightThere f_a_told 44 [(0, .ref h_a), (1, .int p1), (2, .int p.1)] [.int p.2.1] p.2.2.1 p.2.2.2.1 p.2.2.2.2.1 p.2.2.2.2.2.1 p.2.2.2.2.2.2.1 p.2.2.2.2.2.2.2.1 p.2.2.2.2.2.2.2.2.1 p.2.2.2.2.2.2.2.2.2.1 p.2.2.2.2.2.2.2.2.2.2.1 p.2.2.2.2.2.2.2.2.2.2.2.1 p.2.2.2.2.2.2.2.2.2.2.2.2.1 p.2.2.2.2.2.2.2.2.2.2.2.2.2.1 p.2.2.2.2.2.2.2.2.2.2.2.2.2.2 (fX2_fly_b44 u p1 v_a_length v_a_weight v_a_place v_a_stiff v_a_angle v_a_pushes v_a_pace v_a_bend v_a_off v_a_range v_a_rise v_a_rounds v_a_heightThere f_a_told p) := by
  unfold fX2_fly_b44
  refine j_istore_n (pc := 44) hC (lv' := [(3, .int p.2.1), (0, .ref h_a), (1, .int p1), (2, .int p.1)]) rfl (by decide) dX2_fly_44 ?_
  refine j_aload_n (pc := 45) hC 1 rfl dX2_fly_45 ?_
  refine j_get (pc := 46) hC flRX2_28 0 rfl rfl dX2_fly_46 ?_
  refine j_iflt (pc := 49) hC 82 (by decide) dX2_fly_49 ?_ ?_
  · refine j_lv (pc := 82) [1, 2, 3, 0] rfl ?_
    exact jX2_fly_b82 hC u h_a h_a_told p1 v_a_length v_a_weight v_a_place v_a_stiff v_a_angle v_a_pushes v_a_pace v_a_bend v_a_off v_a_range v_a_rise v_a_rounds v_a_heightThere f_a_told (p.1, p.2.1, p.2.2.1, p.2.2.2.1, p.2.2.2.2.1, p.2.2.2.2.2.1, p.2.2.2.2.2.2.1, p.2.2.2.2.2.2.2.1, p.2.2.2.2.2.2.2.2.1, p.2.2.2.2.2.2.2.2.2.1, p.2.2.2.2.2.2.2.2.2.2.1, p.2.2.2.2.2.2.2.2.2.2.2.1, p.2.2.2.2.2.2.2.2.2.2.2.2.1, p.2.2.2.2.2.2.2.2.2.2.2.2.2.1, p.2.2.2.2.2.2.2.2.2.2.2.2.2.2)
  · refine j_aload_n (pc := 52) hC 1 rfl dX2_fly_52 ?_
    refine j_get (pc := 53) hC flRX2_28 0 rfl rfl dX2_fly_53 ?_
    refine j_gets (pc := 56) hC 3 rfl wm478 dX2_fly_56 ?_
    refine j_tlen (pc := 59) hC 3 rfl (v := (7 : Int32)) rfl dX2_fly_59 ?_
    refine j_icmpge (pc := 60) hC 82 (by decide) dX2_fly_60 ?_ ?_
    · refine j_lv (pc := 82) [1, 2, 3, 0] rfl ?_
      exact jX2_fly_b82 hC u h_a h_a_told p1 v_a_length v_a_weight v_a_place v_a_stiff v_a_angle v_a_pushes v_a_pace v_a_bend v_a_off v_a_range v_a_rise v_a_rounds v_a_heightThere f_a_told (p.1, p.2.1, p.2.2.1, p.2.2.2.1, p.2.2.2.2.1, p.2.2.2.2.2.1, p.2.2.2.2.2.2.1, p.2.2.2.2.2.2.2.1, p.2.2.2.2.2.2.2.2.1, p.2.2.2.2.2.2.2.2.2.1, p.2.2.2.2.2.2.2.2.2.2.1, p.2.2.2.2.2.2.2.2.2.2.2.1, p.2.2.2.2.2.2.2.2.2.2.2.2.1, p.2.2.2.2.2.2.2.2.2.2.2.2.2.1, p.2.2.2.2.2.2.2.2.2.2.2.2.2.2)
    · refine j_aload_n (pc := 63) hC 1 rfl dX2_fly_63 ?_
      refine j_get (pc := 64) hC flRX2_52 0 rfl rfl dX2_fly_64 ?_
      refine j_gets (pc := 67) hC 3 rfl wm478 dX2_fly_67 ?_
      refine j_aload_n (pc := 70) hC 1 rfl dX2_fly_70 ?_
      refine j_get (pc := 71) hC flRX2_28 0 rfl rfl dX2_fly_71 ?_
      refine j_tald (pc := 74) hC 3 rfl rfl dX2_fly_74 ?_
      refine j_imul (pc := 75) hC dX2_fly_75 ?_
      refine j_bipush (pc := 76) hC kb_100 dX2_fly_76 ?_
      refine j_idivc (pc := 78) hC (by decide) dX2_fly_78 ?_
      refine j_goto (pc := 79) hC 83 (by decide) dX2_fly_79 ?_
      refine j_lv (pc := 83) [1, 2, 3, 0] rfl ?_
      exact jX2_fly_b83 hC u h_a h_a_told p1 v_a_length v_a_weight v_a_place v_a_stiff v_a_angle v_a_pushes v_a_pace v_a_bend v_a_off v_a_range v_a_rise v_a_rounds v_a_heightThere f_a_told (p.1, p.2.1, ((p.2.2.2.2.2.2.2.2.1 * ((jtab 3).getD p.2.2.2.2.2.2.1.toNatClampNeg 0)) / (100 : Int32)), p.2.2.1, p.2.2.2.1, p.2.2.2.2.1, p.2.2.2.2.2.1, p.2.2.2.2.2.2.1, p.2.2.2.2.2.2.2.1, p.2.2.2.2.2.2.2.2.1, p.2.2.2.2.2.2.2.2.2.1, p.2.2.2.2.2.2.2.2.2.2.1, p.2.2.2.2.2.2.2.2.2.2.2.1, p.2.2.2.2.2.2.2.2.2.2.2.2.1, p.2.2.2.2.2.2.2.2.2.2.2.2.2.1, p.2.2.2.2.2.2.2.2.2.2.2.2.2.2)
set_option maxHeartbeats 4000000 in
set_option maxRecDepth 100000 in
theorem jX2_fly_b43 {X : jX} (hC : jC X cX2_fly 8 RX2 rX2_fly none) (u : Nat) (h_a h_a_told : Nat) (p1 v_a_length v_a_weight v_a_place v_a_stiff v_a_angle v_a_pushes v_a_pace v_a_bend v_a_off v_a_range v_a_rise v_a_rounds v_a_heightThere : Int32) (f_a_told : Nat → Int32) (p : Int32 × Int32 × Int32 × Int32 × Int32 × Int32 × Int32 × Int32 × Int32 × Int32 × Int32 × Int32 × Int32 × Int32) : gX2_fly X h_a h_a_told p1 v_a_length v_a_weight v_a_place v_a_stiff v_a_angle v_a_pushes v_a_pace v_a_bend v_a_off v_a_range v_a_rise v_a_rounds v_a_heightThere f_a_told 43 [(0, .ref h_a), (1, .int p1), (2, .int p.1)] [] p.2.1 p.2.2.1 p.2.2.2.1 p.2.2.2.2.1 p.2.2.2.2.2.1 p.2.2.2.2.2.2.1 p.2.2.2.2.2.2.2.1 p.2.2.2.2.2.2.2.2.1 p.2.2.2.2.2.2.2.2.2.1 p.2.2.2.2.2.2.2.2.2.2.1 p.2.2.2.2.2.2.2.2.2.2.2.1 p.2.2.2.2.2.2.2.2.2.2.2.2.1 p.2.2.2.2.2.2.2.2.2.2.2.2.2 (fX2_fly_b43 u p1 v_a_length v_a_weight v_a_place v_a_stiff v_a_angle v_a_pushes v_a_pace v_a_bend v_a_off v_a_range v_a_rise v_a_rounds v_a_heightThere f_a_told p) := by
  unfold fX2_fly_b43
  refine j_iconst (pc := 43) hC ki_0 dX2_fly_43 ?_
  exact jX2_fly_b44 hC u h_a h_a_told p1 v_a_length v_a_weight v_a_place v_a_stiff v_a_angle v_a_pushes v_a_pace v_a_bend v_a_off v_a_range v_a_rise v_a_rounds v_a_heightThere f_a_told (p.1, (0 : Int32), p.2.1, p.2.2.1, p.2.2.2.1, p.2.2.2.2.1, p.2.2.2.2.2.1, p.2.2.2.2.2.2.1, p.2.2.2.2.2.2.2.1, p.2.2.2.2.2.2.2.2.1, p.2.2.2.2.2.2.2.2.2.1, p.2.2.2.2.2.2.2.2.2.2.1, p.2.2.2.2.2.2.2.2.2.2.2.1, p.2.2.2.2.2.2.2.2.2.2.2.2.1, p.2.2.2.2.2.2.2.2.2.2.2.2.2)
set_option maxHeartbeats 4000000 in
set_option maxRecDepth 100000 in
theorem jX2_fly {X : jX} (hC : jC X cX2_fly 8 RX2 rX2_fly none) (u : Nat) (h_a h_a_told : Nat) (p1 v_a_length v_a_weight v_a_place v_a_stiff v_a_angle v_a_pushes v_a_pace v_a_bend v_a_off v_a_range v_a_rise v_a_rounds v_a_heightThere : Int32) (f_a_told : Nat → Int32) : gX2_fly X h_a h_a_told p1 v_a_length v_a_weight v_a_place v_a_stiff v_a_angle v_a_pushes v_a_pace v_a_bend v_a_off v_a_range v_a_rise v_a_rounds v_a_heightThere f_a_told 0 [(0, .ref h_a), (1, .int p1)] [] v_a_length v_a_weight v_a_place v_a_stiff v_a_angle v_a_pushes v_a_pace v_a_bend v_a_off v_a_range v_a_rise v_a_rounds v_a_heightThere (fX2_fly u p1 v_a_length v_a_weight v_a_place v_a_stiff v_a_angle v_a_pushes v_a_pace v_a_bend v_a_off v_a_range v_a_rise v_a_rounds v_a_heightThere f_a_told) := by
  unfold fX2_fly
  refine j_aload_n (pc := 0) hC 0 rfl dX2_fly_0 ?_
  refine j_callV (pc := 1) hC csRX2_58 [] (mX2_leave (jl X) (jD X) (jy X) (jv X) u h_a h_a_told v_a_length v_a_weight v_a_place v_a_stiff v_a_angle v_a_pushes v_a_pace v_a_bend v_a_off v_a_range v_a_rise v_a_rounds v_a_heightThere f_a_told) [0, 1] rfl (by decide +kernel) 0 rfl ⟨_, _, rfl⟩ ⟨by decide, by decide, rfl, rfl, by decide, by decide⟩ rfl rfl (Nat.le_of_ble_eq_true rfl) dX2_fly_1 (jkv (fun r1 _ => (rfl : @Eq va_W _ [(h_a, .inr (2, [.ref h_a_told, .int r1.1, .int r1.2.1, .int r1.2.2.1, .int r1.2.2.2.1, .int r1.2.2.2.2.1, .int r1.2.2.2.2.2.1, .int r1.2.2.2.2.2.2.1, .int r1.2.2.2.2.2.2.2.1, .int r1.2.2.2.2.2.2.2.2, .int v_a_range, .int v_a_rise, .int v_a_rounds, .int v_a_heightThere])), (h_a_told, .inl (jy X 0, 13, .inl f_a_told))])) (fun r1 => ?_))
  refine j_iconst (pc := 4) hC ki_0 dX2_fly_4 ?_
  refine j_istore_n (pc := 5) hC (lv' := [(2, .int (0 : Int32)), (0, .ref h_a), (1, .int p1)]) rfl (by decide) dX2_fly_5 ?_
  refine j_aload_n (pc := 6) hC 1 rfl dX2_fly_6 ?_
  refine j_get (pc := 7) hC flRX2_28 0 rfl rfl dX2_fly_7 ?_
  refine j_iflt (pc := 10) hC 43 (by decide) dX2_fly_10 ?_ ?_
  · refine j_lv (pc := 43) [1, 2, 0] rfl ?_
    exact jX2_fly_b43 hC u h_a h_a_told p1 v_a_length v_a_weight v_a_place v_a_stiff v_a_angle v_a_pushes v_a_pace v_a_bend v_a_off v_a_range v_a_rise v_a_rounds v_a_heightThere f_a_told ((0 : Int32), r1.1, r1.2.1, r1.2.2.1, r1.2.2.2.1, r1.2.2.2.2.1, r1.2.2.2.2.2.1, r1.2.2.2.2.2.2.1, r1.2.2.2.2.2.2.2.1, r1.2.2.2.2.2.2.2.2, v_a_range, v_a_rise, v_a_rounds, v_a_heightThere)
  · refine j_aload_n (pc := 13) hC 1 rfl dX2_fly_13 ?_
    refine j_get (pc := 14) hC flRX2_28 0 rfl rfl dX2_fly_14 ?_
    refine j_gets (pc := 17) hC 2 rfl wm476 dX2_fly_17 ?_
    refine j_tlen (pc := 20) hC 2 rfl (v := (7 : Int32)) rfl dX2_fly_20 ?_
    refine j_icmpge (pc := 21) hC 43 (by decide) dX2_fly_21 ?_ ?_
    · refine j_lv (pc := 43) [1, 2, 0] rfl ?_
      exact jX2_fly_b43 hC u h_a h_a_told p1 v_a_length v_a_weight v_a_place v_a_stiff v_a_angle v_a_pushes v_a_pace v_a_bend v_a_off v_a_range v_a_rise v_a_rounds v_a_heightThere f_a_told ((0 : Int32), r1.1, r1.2.1, r1.2.2.1, r1.2.2.2.1, r1.2.2.2.2.1, r1.2.2.2.2.2.1, r1.2.2.2.2.2.2.1, r1.2.2.2.2.2.2.2.1, r1.2.2.2.2.2.2.2.2, v_a_range, v_a_rise, v_a_rounds, v_a_heightThere)
    · refine j_aload_n (pc := 24) hC 1 rfl dX2_fly_24 ?_
      refine j_get (pc := 25) hC flRX2_52 0 rfl rfl dX2_fly_25 ?_
      refine j_gets (pc := 28) hC 2 rfl wm476 dX2_fly_28 ?_
      refine j_aload_n (pc := 31) hC 1 rfl dX2_fly_31 ?_
      refine j_get (pc := 32) hC flRX2_28 0 rfl rfl dX2_fly_32 ?_
      refine j_tald (pc := 35) hC 2 rfl rfl dX2_fly_35 ?_
      refine j_imul (pc := 36) hC dX2_fly_36 ?_
      refine j_bipush (pc := 37) hC kb_100 dX2_fly_37 ?_
      refine j_idivc (pc := 39) hC (by decide) dX2_fly_39 ?_
      refine j_goto (pc := 40) hC 44 (by decide) dX2_fly_40 ?_
      refine j_lv (pc := 44) [1, 2, 0] rfl ?_
      exact jX2_fly_b44 hC u h_a h_a_told p1 v_a_length v_a_weight v_a_place v_a_stiff v_a_angle v_a_pushes v_a_pace v_a_bend v_a_off v_a_range v_a_rise v_a_rounds v_a_heightThere f_a_told ((0 : Int32), ((r1.2.2.2.2.2.2.1 * ((jtab 2).getD r1.2.2.2.2.1.toNatClampNeg 0)) / (100 : Int32)), r1.1, r1.2.1, r1.2.2.1, r1.2.2.2.1, r1.2.2.2.2.1, r1.2.2.2.2.2.1, r1.2.2.2.2.2.2.1, r1.2.2.2.2.2.2.2.1, r1.2.2.2.2.2.2.2.2, v_a_range, v_a_rise, v_a_rounds, v_a_heightThere)
set_option maxHeartbeats 4000000 in
set_option maxRecDepth 100000 in
theorem mX2_fly (l : Launch) (D : va_G) (cy : Nat → ClassId) (ev : jE) (u : Nat) (h_a h_a_told : Nat) (p1 v_a_length v_a_weight v_a_place v_a_stiff v_a_angle v_a_pushes v_a_pace v_a_bend v_a_off v_a_range v_a_rise v_a_rounds v_a_heightThere : Int32) (f_a_told : Nat → Int32) : jM l yX2_fly cX2_fly 8 none rX2_fly [.ref h_a, .int p1] [(h_a, .inr (2, [.ref h_a_told, .int v_a_length, .int v_a_weight, .int v_a_place, .int v_a_stiff, .int v_a_angle, .int v_a_pushes, .int v_a_pace, .int v_a_bend, .int v_a_off, .int v_a_range, .int v_a_rise, .int v_a_rounds, .int v_a_heightThere])), (h_a_told, .inl (cy 0, 13, .inl f_a_told))] (fun (r : Int32 × Int32 × Int32 × Int32 × Int32 × Int32 × Int32 × Int32 × Int32 × Int32 × Int32 × Int32 × Int32) (_ : Nat → Nat) => [(h_a, .inr (2, [.ref h_a_told, .int r.1, .int r.2.1, .int r.2.2.1, .int r.2.2.2.1, .int r.2.2.2.2.1, .int r.2.2.2.2.2.1, .int r.2.2.2.2.2.2.1, .int r.2.2.2.2.2.2.2.1, .int r.2.2.2.2.2.2.2.2.1, .int r.2.2.2.2.2.2.2.2.2.1, .int r.2.2.2.2.2.2.2.2.2.2.1, .int r.2.2.2.2.2.2.2.2.2.2.2.1, .int r.2.2.2.2.2.2.2.2.2.2.2.2])), (h_a_told, .inl (cy 0, 13, .inl f_a_told))]) (fun (_ : Int32 × Int32 × Int32 × Int32 × Int32 × Int32 × Int32 × Int32 × Int32 × Int32 × Int32 × Int32 × Int32) => none) (fX2_fly u p1 v_a_length v_a_weight v_a_place v_a_stiff v_a_angle v_a_pushes v_a_pace v_a_bend v_a_off v_a_range v_a_rise v_a_rounds v_a_heightThere f_a_told) D cy ev := j_met RX2 (by decide +kernel) rfl (Nat.le_of_ble_eq_true rfl) (fun X hC _ hD hy hv => by subst hD; subst hy; subst hv; exact jX2_fly hC u h_a h_a_told p1 v_a_length v_a_weight v_a_place v_a_stiff v_a_angle v_a_pushes v_a_pace v_a_bend v_a_off v_a_range v_a_rise v_a_rounds v_a_heightThere f_a_told)
abbrev gX2_outcome (X : jX) (h_a h_a_told : Nat) (p1 v_a_length v_a_weight v_a_place v_a_stiff v_a_angle v_a_pushes v_a_pace v_a_bend v_a_off v_a_range v_a_rise v_a_rounds v_a_heightThere : Int32) (pc : Nat) (lv : List (Nat × Value)) (st : List Value) (e : Option (Int32)) : Prop := jJ (ρ := Int32) X 2 0 0 (jQf X 0 0 (fun (r : Int32) => some (.int r)) (fun (_ : Int32) (_ : Nat → Nat) => [(h_a, .inr (2, [.ref h_a_told, .int v_a_length, .int v_a_weight, .int v_a_place, .int v_a_stiff, .int v_a_angle, .int v_a_pushes, .int v_a_pace, .int v_a_bend, .int v_a_off, .int v_a_range, .int v_a_rise, .int v_a_rounds, .int v_a_heightThere]))])) pc lv st [(h_a, .inr (2, [.ref h_a_told, .int v_a_length, .int v_a_weight, .int v_a_place, .int v_a_stiff, .int v_a_angle, .int v_a_pushes, .int v_a_pace, .int v_a_bend, .int v_a_off, .int v_a_range, .int v_a_rise, .int v_a_rounds, .int v_a_heightThere]))] (e)
set_option maxHeartbeats 4000000 in
set_option maxRecDepth 100000 in
theorem jX2_outcome {X : jX} (hC : jC X cX2_outcome 2 RX2 rX2_outcome (some .int)) (h_a h_a_told : Nat) (p1 v_a_length v_a_weight v_a_place v_a_stiff v_a_angle v_a_pushes v_a_pace v_a_bend v_a_off v_a_range v_a_rise v_a_rounds v_a_heightThere : Int32) : gX2_outcome X h_a h_a_told p1 v_a_length v_a_weight v_a_place v_a_stiff v_a_angle v_a_pushes v_a_pace v_a_bend v_a_off v_a_range v_a_rise v_a_rounds v_a_heightThere 0 [(0, .ref h_a), (1, .int p1)] [] (fX2_outcome p1 v_a_pace v_a_bend v_a_off v_a_range v_a_rise v_a_rounds) := by
  unfold fX2_outcome
  refine j_iload_n (pc := 0) hC 1 rfl dX2_outcome_0 ?_
  refine j_swc (pc := 1) hC (0 : Int32) 36 (by decide) (by decide) rfl (by decide) dX2_outcome_1 ?_ (fun c1 => ?_)
  · refine j_aload_n (pc := 36) hC 0 rfl dX2_outcome_36 ?_
    refine j_get (pc := 37) hC flRX2_77 0 rfl rfl dX2_outcome_37 ?_
    exact j_iret (pc := 40) hC (fun _ => 0) rfl rfl dX2_outcome_40
  refine j_swc (pc := 1) hC (1 : Int32) 41 (by decide) (by decide) rfl (by decide) dX2_outcome_1 ?_ (fun c2 => ?_)
  · refine j_aload_n (pc := 41) hC 0 rfl dX2_outcome_41 ?_
    refine j_get (pc := 42) hC flRX2_52 0 rfl rfl dX2_outcome_42 ?_
    exact j_iret (pc := 45) hC (fun _ => 0) rfl rfl dX2_outcome_45
  refine j_swc (pc := 1) hC (2 : Int32) 46 (by decide) (by decide) rfl (by decide) dX2_outcome_1 ?_ (fun c3 => ?_)
  · refine j_aload_n (pc := 46) hC 0 rfl dX2_outcome_46 ?_
    refine j_get (pc := 47) hC flRX2_49 0 rfl rfl dX2_outcome_47 ?_
    exact j_iret (pc := 50) hC (fun _ => 0) rfl rfl dX2_outcome_50
  refine j_swc (pc := 1) hC (3 : Int32) 51 (by decide) (by decide) rfl (by decide) dX2_outcome_1 ?_ (fun c4 => ?_)
  · refine j_aload_n (pc := 51) hC 0 rfl dX2_outcome_51 ?_
    refine j_get (pc := 52) hC flRX2_55 0 rfl rfl dX2_outcome_52 ?_
    exact j_iret (pc := 55) hC (fun _ => 0) rfl rfl dX2_outcome_55
  refine j_swc (pc := 1) hC (4 : Int32) 56 (by decide) (by decide) rfl (by decide) dX2_outcome_1 ?_ (fun c5 => ?_)
  · refine j_aload_n (pc := 56) hC 0 rfl dX2_outcome_56 ?_
    refine j_get (pc := 57) hC flRX2_67 0 rfl rfl dX2_outcome_57 ?_
    exact j_iret (pc := 60) hC (fun _ => 0) rfl rfl dX2_outcome_60
  refine j_swd (pc := 1) hC 61 (sw_0_4 c1 c2 c3 c4 c5) (by decide) dX2_outcome_1 ?_
  refine j_aload_n (pc := 61) hC 0 rfl dX2_outcome_61 ?_
  refine j_get (pc := 62) hC flRX2_70 0 rfl rfl dX2_outcome_62 ?_
  exact j_iret (pc := 65) hC (fun _ => 0) rfl rfl dX2_outcome_65
set_option maxHeartbeats 4000000 in
set_option maxRecDepth 100000 in
theorem mX2_outcome (l : Launch) (D : va_G) (cy : Nat → ClassId) (ev : jE) (h_a h_a_told : Nat) (p1 v_a_length v_a_weight v_a_place v_a_stiff v_a_angle v_a_pushes v_a_pace v_a_bend v_a_off v_a_range v_a_rise v_a_rounds v_a_heightThere : Int32) : jM l yX2_outcome cX2_outcome 2 (some .int) rX2_outcome [.ref h_a, .int p1] [(h_a, .inr (2, [.ref h_a_told, .int v_a_length, .int v_a_weight, .int v_a_place, .int v_a_stiff, .int v_a_angle, .int v_a_pushes, .int v_a_pace, .int v_a_bend, .int v_a_off, .int v_a_range, .int v_a_rise, .int v_a_rounds, .int v_a_heightThere]))] (fun (_ : Int32) (_ : Nat → Nat) => [(h_a, .inr (2, [.ref h_a_told, .int v_a_length, .int v_a_weight, .int v_a_place, .int v_a_stiff, .int v_a_angle, .int v_a_pushes, .int v_a_pace, .int v_a_bend, .int v_a_off, .int v_a_range, .int v_a_rise, .int v_a_rounds, .int v_a_heightThere]))]) (fun (r : Int32) => some (.int r)) (fX2_outcome p1 v_a_pace v_a_bend v_a_off v_a_range v_a_rise v_a_rounds) D cy ev := j_met RX2 (by decide +kernel) rfl (Nat.le_of_ble_eq_true rfl) (fun X hC _ hD hy hv => by subst hD; subst hy; subst hv; exact jX2_outcome hC h_a h_a_told p1 v_a_length v_a_weight v_a_place v_a_stiff v_a_angle v_a_pushes v_a_pace v_a_bend v_a_off v_a_range v_a_rise v_a_rounds v_a_heightThere)
abbrev gX3_multiply (X : jX) (h_a h_a_limbs : Nat) (p1 v_a_size : Int32) (f_a_limbs : Nat → Int32) (pc : Nat) (lv : List (Nat × Value)) (st : List Value) (w0 : Int32) (w1 : Nat → Int32) (e : Option (Int32 × (Nat → Int32))) : Prop := jJ (ρ := Int32 × (Nat → Int32)) X 5 0 0 (jQf X 0 0 (fun (_ : Int32 × (Nat → Int32)) => none) (fun (r : Int32 × (Nat → Int32)) (_ : Nat → Nat) => [(h_a, .inr (3, [.ref h_a_limbs, .int r.1])), (h_a_limbs, .inl (jy X 0, 6, .inl r.2))])) pc lv st [(h_a, .inr (3, [.ref h_a_limbs, .int w0])), (h_a_limbs, .inl (jy X 0, 6, .inl w1))] (e)
set_option maxHeartbeats 4000000 in
set_option maxRecDepth 100000 in
theorem jX3_multiply_b62 {X : jX} (hC : jC X cX3_multiply 5 RX3 rX3_multiply none) (u : Nat) (h_a h_a_limbs : Nat) (p1 v_a_size : Int32) (f_a_limbs : Nat → Int32) (p : Int64 × Int32 × (Nat → Int32)) : gX3_multiply X h_a h_a_limbs p1 v_a_size f_a_limbs 62 [(0, .ref h_a), (2, .long p.1)] [] p.2.1 p.2.2 (fX3_multiply_b62 u p1 v_a_size f_a_limbs p) := by
  unfold fX3_multiply_b62
  refine j_aload_n (pc := 62) hC 0 rfl dX3_multiply_62 ?_
  refine j_lload_n (pc := 63) hC 1 rfl dX3_multiply_63 ?_
  refine j_callV (pc := 64) hC csRX3_17 [.long p.1] (mX3_pushUp (jl X) (jD X) (jy X) (jv X) u h_a h_a_limbs p.1 p.2.1 p.2.2) [0, 1] rfl (by decide +kernel) 0 rfl ⟨_, _, rfl⟩ ⟨by decide, by decide, rfl, rfl, by decide, by decide⟩ rfl rfl (Nat.le_of_ble_eq_true rfl) dX3_multiply_64 (jkv (fun r1 _ => (rfl : @Eq va_W _ [(h_a, .inr (3, [.ref h_a_limbs, .int r1.1])), (h_a_limbs, .inl (jy X 0, 6, .inl r1.2))])) (fun r1 => ?_))
  refine j_aload_n (pc := 67) hC 0 rfl dX3_multiply_67 ?_
  refine j_callV (pc := 68) hC csRX3_29 [] (mX3_dropZeros (jl X) (jD X) (jy X) (jv X) u h_a h_a_limbs r1.1 r1.2) [0, 1] rfl (by decide +kernel) 0 rfl ⟨_, _, rfl⟩ ⟨by decide, by decide, rfl, rfl, by decide, by decide⟩ rfl rfl (Nat.le_of_ble_eq_true rfl) dX3_multiply_68 (jkv (fun r2 _ => (rfl : @Eq va_W _ [(h_a, .inr (3, [.ref h_a_limbs, .int r2])), (h_a_limbs, .inl (jy X 0, 6, .inl r1.2))])) (fun r2 => ?_))
  exact j_vret (pc := 71) hC (fun _ => 0) rfl rfl dX3_multiply_71
set_option maxHeartbeats 4000000 in
set_option maxRecDepth 100000 in
theorem jX3_multiply_b5_step {X : jX} (hC : jC X cX3_multiply 5 RX3 rX3_multiply none) (u : Nat) (h_a h_a_limbs : Nat) (p1 v_a_size : Int32) (f_a_limbs : Nat → Int32) (rec5 : (Int64 × Int32 × Int32 × (Nat → Int32)) → Option (Int32 × (Nat → Int32))) (hrec5 : ∀ p : Int64 × Int32 × Int32 × (Nat → Int32), gX3_multiply X h_a h_a_limbs p1 v_a_size f_a_limbs 5 [(0, .ref h_a), (1, .int p1), (2, .long p.1), (4, .int p.2.1)] [] p.2.2.1 p.2.2.2 (rec5 p)) (p : Int64 × Int32 × Int32 × (Nat → Int32)) : gX3_multiply X h_a h_a_limbs p1 v_a_size f_a_limbs 5 [(0, .ref h_a), (1, .int p1), (2, .long p.1), (4, .int p.2.1)] [] p.2.2.1 p.2.2.2 (fX3_multiply_b5 u p1 v_a_size f_a_limbs rec5 p) := by
  unfold fX3_multiply_b5
  refine j_iload (pc := 5) hC 3 rfl dX3_multiply_5 ?_
  refine j_aload_n (pc := 7) hC 0 rfl dX3_multiply_7 ?_
  refine j_get (pc := 8) hC flRX3_13 0 rfl rfl dX3_multiply_8 ?_
  refine j_icmpge (pc := 11) hC 62 (by decide) dX3_multiply_11 ?_ ?_
  · refine j_lv (pc := 62) [0, 2] rfl ?_
    exact jX3_multiply_b62 hC u h_a h_a_limbs p1 v_a_size f_a_limbs (p.1, p.2.2.1, p.2.2.2)
  · refine j_iload (pc := 14) hC 3 rfl dX3_multiply_14 ?_
    refine j_aload_n (pc := 16) hC 0 rfl dX3_multiply_16 ?_
    refine j_get (pc := 17) hC flRX3_7 0 rfl rfl dX3_multiply_17 ?_
    refine j_alen (pc := 20) hC 1 0 rfl rfl (v := (6 : Int32)) rfl dX3_multiply_20 ?_
    refine j_icmpge (pc := 21) hC 62 (by decide) dX3_multiply_21 ?_ ?_
    · refine j_lv (pc := 62) [0, 2] rfl ?_
      exact jX3_multiply_b62 hC u h_a h_a_limbs p1 v_a_size f_a_limbs (p.1, p.2.2.1, p.2.2.2)
    · refine j_lload_n (pc := 24) hC 2 rfl dX3_multiply_24 ?_
      refine j_aload_n (pc := 25) hC 0 rfl dX3_multiply_25 ?_
      refine j_get (pc := 26) hC flRX3_7 0 rfl rfl dX3_multiply_26 ?_
      refine j_iload (pc := 29) hC 3 rfl dX3_multiply_29 ?_
      refine j_iald (pc := 31) hC 1 rfl dX3_multiply_31 ?_
      refine j_i2l (pc := 32) hC dX3_multiply_32 ?_
      refine j_iload_n (pc := 33) hC 1 rfl dX3_multiply_33 ?_
      refine j_i2l (pc := 34) hC dX3_multiply_34 ?_
      refine j_lmul (pc := 35) hC dX3_multiply_35 ?_
      refine j_ladd (pc := 36) hC dX3_multiply_36 ?_
      refine j_letl (pc := 37) (fun x3 => ?_)
      refine j_lstore_n (pc := 37) hC (lv' := [(2, .long x3), (0, .ref h_a), (1, .int p1), (4, .int p.2.1)]) rfl (by decide) dX3_multiply_37 ?_
      refine j_aload_n (pc := 38) hC 1 rfl dX3_multiply_38 ?_
      refine j_get (pc := 39) hC flRX3_7 0 rfl rfl dX3_multiply_39 ?_
      refine j_iload (pc := 42) hC 3 rfl dX3_multiply_42 ?_
      refine j_lload_n (pc := 44) hC 0 rfl dX3_multiply_44 ?_
      refine j_ldc2 (pc := 45) hC wm345 dX3_multiply_45 ?_
      refine j_land (pc := 48) hC dX3_multiply_48 ?_
      refine j_l2i (pc := 49) hC dX3_multiply_49 ?_
      refine j_iast (pc := 50) hC 1 rfl dX3_multiply_50 (fun g4 => (rfl : @Eq va_W _ [(h_a, .inr (3, [.ref h_a_limbs, .int p.2.2.1])), (h_a_limbs, .inl (jy X 0, 6, .inl g4))])) (fun g4 => ?_)
      refine j_lload_n (pc := 51) hC 0 rfl dX3_multiply_51 ?_
      refine j_bipush (pc := 52) hC kb_30 dX3_multiply_52 ?_
      refine j_lshr (pc := 54) hC dX3_multiply_54 ?_
      refine j_letl (pc := 55) (fun x5 => ?_)
      refine j_lstore_n (pc := 55) hC (lv' := [(2, .long x5), (0, .ref h_a), (1, .int p1), (4, .int p.2.1)]) rfl (by decide) dX3_multiply_55 ?_
      refine j_iinc (pc := 56) hC 3 rfl ki_1 (fun x6 => (rfl : @Eq (List (Nat × Value)) _ [(4, .int x6), (2, .long x5), (0, .ref h_a), (1, .int p1)])) (by decide) dX3_multiply_56 (fun x6 => ?_)
      refine j_goto (pc := 59) hC 5 (by decide) dX3_multiply_59 ?_
      refine j_lv (pc := 5) [2, 3, 1, 0] rfl ?_
      exact hrec5 (x5, x6, p.2.2.1, g4)
set_option maxHeartbeats 4000000 in
set_option maxRecDepth 100000 in
theorem jX3_multiply_b5 {X : jX} (hC : jC X cX3_multiply 5 RX3 rX3_multiply none) (u : Nat) (h_a h_a_limbs : Nat) (p1 v_a_size : Int32) (f_a_limbs : Nat → Int32) (p : Int64 × Int32 × Int32 × (Nat → Int32)) : gX3_multiply X h_a h_a_limbs p1 v_a_size f_a_limbs 5 [(0, .ref h_a), (1, .int p1), (2, .long p.1), (4, .int p.2.1)] [] p.2.2.1 p.2.2.2 (jfix (fX3_multiply_b5 u p1 v_a_size f_a_limbs) u p) :=
  j_fix (fun rec5 hrec5 p => jX3_multiply_b5_step hC u h_a h_a_limbs p1 v_a_size f_a_limbs rec5 hrec5 p) u p
set_option maxHeartbeats 4000000 in
set_option maxRecDepth 100000 in
theorem jX3_multiply {X : jX} (hC : jC X cX3_multiply 5 RX3 rX3_multiply none) (u : Nat) (h_a h_a_limbs : Nat) (p1 v_a_size : Int32) (f_a_limbs : Nat → Int32) : gX3_multiply X h_a h_a_limbs p1 v_a_size f_a_limbs 0 [(0, .ref h_a), (1, .int p1)] [] v_a_size f_a_limbs (fX3_multiply u p1 v_a_size f_a_limbs) := by
  unfold fX3_multiply
  refine j_lconst (pc := 0) hC (v := (0 : Int64)) rfl dX3_multiply_0 ?_
  refine j_lstore_n (pc := 1) hC (lv' := [(2, .long (0 : Int64)), (0, .ref h_a), (1, .int p1)]) rfl (by decide) dX3_multiply_1 ?_
  refine j_iconst (pc := 2) hC ki_0 dX3_multiply_2 ?_
  refine j_istore (pc := 3) hC (lv' := [(4, .int (0 : Int32)), (2, .long (0 : Int64)), (0, .ref h_a), (1, .int p1)]) rfl (by decide) dX3_multiply_3 ?_
  refine j_lv (pc := 5) [2, 3, 1, 0] rfl ?_
  exact jX3_multiply_b5 hC u h_a h_a_limbs p1 v_a_size f_a_limbs ((0 : Int64), (0 : Int32), v_a_size, f_a_limbs)
set_option maxHeartbeats 4000000 in
set_option maxRecDepth 100000 in
theorem mX3_multiply (l : Launch) (D : va_G) (cy : Nat → ClassId) (ev : jE) (u : Nat) (h_a h_a_limbs : Nat) (p1 v_a_size : Int32) (f_a_limbs : Nat → Int32) : jM l yX3_multiply cX3_multiply 5 none rX3_multiply [.ref h_a, .int p1] [(h_a, .inr (3, [.ref h_a_limbs, .int v_a_size])), (h_a_limbs, .inl (cy 0, 6, .inl f_a_limbs))] (fun (r : Int32 × (Nat → Int32)) (_ : Nat → Nat) => [(h_a, .inr (3, [.ref h_a_limbs, .int r.1])), (h_a_limbs, .inl (cy 0, 6, .inl r.2))]) (fun (_ : Int32 × (Nat → Int32)) => none) (fX3_multiply u p1 v_a_size f_a_limbs) D cy ev := j_met RX3 (by decide +kernel) rfl (Nat.le_of_ble_eq_true rfl) (fun X hC _ hD hy hv => by subst hD; subst hy; subst hv; exact jX3_multiply hC u h_a h_a_limbs p1 v_a_size f_a_limbs)
abbrev gX3_add (X : jX) (h_a h_a_limbs h_b1 h_b1_limbs : Nat) (v_a_size v_b1_size : Int32) (f_a_limbs f_b1_limbs : Nat → Int32) (pc : Nat) (lv : List (Nat × Value)) (st : List Value) (w0 : Int32) (w1 : Nat → Int32) (e : Option (Int32 × (Nat → Int32))) : Prop := jJ (ρ := Int32 × (Nat → Int32)) X 6 0 0 (jQf X 0 0 (fun (_ : Int32 × (Nat → Int32)) => none) (fun (r : Int32 × (Nat → Int32)) (_ : Nat → Nat) => [(h_a, .inr (3, [.ref h_a_limbs, .int r.1])), (h_b1, .inr (3, [.ref h_b1_limbs, .int v_b1_size])), (h_a_limbs, .inl (jy X 0, 6, .inl r.2)), (h_b1_limbs, .inl (jy X 0, 6, .inl f_b1_limbs))])) pc lv st [(h_a, .inr (3, [.ref h_a_limbs, .int w0])), (h_b1, .inr (3, [.ref h_b1_limbs, .int v_b1_size])), (h_a_limbs, .inl (jy X 0, 6, .inl w1)), (h_b1_limbs, .inl (jy X 0, 6, .inl f_b1_limbs))] (e)
set_option maxHeartbeats 4000000 in
set_option maxRecDepth 100000 in
theorem jX3_add_b77 {X : jX} (hC : jC X cX3_add 6 RX3 rX3_add none) (u : Nat) (h_a h_a_limbs h_b1 h_b1_limbs : Nat) (v_a_size v_b1_size : Int32) (f_a_limbs f_b1_limbs : Nat → Int32) (p : Int64 × Int32 × Int32 × (Nat → Int32)) : gX3_add X h_a h_a_limbs h_b1 h_b1_limbs v_a_size v_b1_size f_a_limbs f_b1_limbs 77 [(0, .ref h_a), (2, .long p.1), (4, .int p.2.1)] [] p.2.2.1 p.2.2.2 (fX3_add_b77 u v_a_size v_b1_size f_a_limbs f_b1_limbs p) := by
  unfold fX3_add_b77
  refine j_aload_n (pc := 77) hC 0 rfl dX3_add_77 ?_
  refine j_iload (pc := 78) hC 2 rfl dX3_add_78 ?_
  refine j_put (pc := 80) hC fpRX3_13 0 rfl rfl rfl (Nat.le_of_ble_eq_true rfl) dX3_add_80 (ws' := [(h_a, .inr (3, [.ref h_a_limbs, .int p.2.1])), (h_b1, .inr (3, [.ref h_b1_limbs, .int v_b1_size])), (h_a_limbs, .inl (jy X 0, 6, .inl p.2.2.2)), (h_b1_limbs, .inl (jy X 0, 6, .inl f_b1_limbs))]) rfl ?_
  refine j_aload_n (pc := 83) hC 0 rfl dX3_add_83 ?_
  refine j_lload_n (pc := 84) hC 1 rfl dX3_add_84 ?_
  refine j_callV (pc := 85) hC csRX3_17 [.long p.1] (mX3_pushUp (jl X) (jD X) (jy X) (jv X) u h_a h_a_limbs p.1 p.2.1 p.2.2.2) [0, 2] rfl (by decide +kernel) 0 rfl ⟨_, _, rfl⟩ ⟨by decide, by decide, rfl, rfl, by decide, by decide⟩ rfl rfl (Nat.le_of_ble_eq_true rfl) dX3_add_85 (jkv (fun r2 _ => (rfl : @Eq va_W _ [(h_a, .inr (3, [.ref h_a_limbs, .int r2.1])), (h_b1, .inr (3, [.ref h_b1_limbs, .int v_b1_size])), (h_a_limbs, .inl (jy X 0, 6, .inl r2.2)), (h_b1_limbs, .inl (jy X 0, 6, .inl f_b1_limbs))])) (fun r2 => ?_))
  exact j_vret (pc := 88) hC (fun _ => 0) rfl rfl dX3_add_88
set_option maxHeartbeats 4000000 in
set_option maxRecDepth 100000 in
theorem jX3_add_b18_step {X : jX} (hC : jC X cX3_add 6 RX3 rX3_add none) (u : Nat) (h_a h_a_limbs h_b1 h_b1_limbs : Nat) (v_a_size v_b1_size : Int32) (f_a_limbs f_b1_limbs : Nat → Int32) (rec18 : (Int64 × Int32 × Int32 × Int32 × (Nat → Int32)) → Option (Int32 × (Nat → Int32))) (hrec18 : ∀ p : Int64 × Int32 × Int32 × Int32 × (Nat → Int32), gX3_add X h_a h_a_limbs h_b1 h_b1_limbs v_a_size v_b1_size f_a_limbs f_b1_limbs 18 [(0, .ref h_a), (1, .ref h_b1), (2, .long p.1), (4, .int p.2.1), (5, .int p.2.2.1)] [] p.2.2.2.1 p.2.2.2.2 (rec18 p)) (p : Int64 × Int32 × Int32 × Int32 × (Nat → Int32)) : gX3_add X h_a h_a_limbs h_b1 h_b1_limbs v_a_size v_b1_size f_a_limbs f_b1_limbs 18 [(0, .ref h_a), (1, .ref h_b1), (2, .long p.1), (4, .int p.2.1), (5, .int p.2.2.1)] [] p.2.2.2.1 p.2.2.2.2 (fX3_add_b18 u v_a_size v_b1_size f_a_limbs f_b1_limbs rec18 p) := by
  unfold fX3_add_b18
  refine j_iload (pc := 18) hC 4 rfl dX3_add_18 ?_
  refine j_iload (pc := 20) hC 3 rfl dX3_add_20 ?_
  refine j_icmpge (pc := 22) hC 77 (by decide) dX3_add_22 ?_ ?_
  · refine j_lv (pc := 77) [0, 2, 3] rfl ?_
    exact jX3_add_b77 hC u h_a h_a_limbs h_b1 h_b1_limbs v_a_size v_b1_size f_a_limbs f_b1_limbs (p.1, p.2.1, p.2.2.2.1, p.2.2.2.2)
  · refine j_iload (pc := 25) hC 4 rfl dX3_add_25 ?_
    refine j_aload_n (pc := 27) hC 0 rfl dX3_add_27 ?_
    refine j_get (pc := 28) hC flRX3_7 0 rfl rfl dX3_add_28 ?_
    refine j_alen (pc := 31) hC 2 0 rfl rfl (v := (6 : Int32)) rfl dX3_add_31 ?_
    refine j_icmpge (pc := 32) hC 77 (by decide) dX3_add_32 ?_ ?_
    · refine j_lv (pc := 77) [0, 2, 3] rfl ?_
      exact jX3_add_b77 hC u h_a h_a_limbs h_b1 h_b1_limbs v_a_size v_b1_size f_a_limbs f_b1_limbs (p.1, p.2.1, p.2.2.2.1, p.2.2.2.2)
    · refine j_lload_n (pc := 35) hC 2 rfl dX3_add_35 ?_
      refine j_aload_n (pc := 36) hC 0 rfl dX3_add_36 ?_
      refine j_iload (pc := 37) hC 4 rfl dX3_add_37 ?_
      refine j_callV (pc := 39) hC csRX3_38 [.int p.2.2.1] (mX3_digit (jl X) (jD X) (jy X) (jv X) h_a h_a_limbs p.2.2.1 p.2.2.2.1 p.2.2.2.2) [0, 2] rfl (by decide +kernel) 0 rfl ⟨_, _, rfl⟩ ⟨by decide, by decide, rfl, rfl, by decide, by decide⟩ rfl rfl (Nat.le_of_ble_eq_true rfl) dX3_add_39 (jki0 (fun _ => rfl) (fun _ _ => rfl) (fun r3 => ?_))
      refine j_i2l (pc := 42) hC dX3_add_42 ?_
      refine j_aload_n (pc := 43) hC 1 rfl dX3_add_43 ?_
      refine j_iload (pc := 44) hC 4 rfl dX3_add_44 ?_
      refine j_callV (pc := 46) hC csRX3_38 [.int p.2.2.1] (mX3_digit (jl X) (jD X) (jy X) (jv X) h_b1 h_b1_limbs p.2.2.1 v_b1_size f_b1_limbs) [1, 3] rfl (by decide +kernel) 1 rfl ⟨_, _, rfl⟩ ⟨by decide, by decide, rfl, rfl, by decide, by decide⟩ rfl rfl (Nat.le_of_ble_eq_true rfl) dX3_add_46 (jki0 (fun _ => rfl) (fun _ _ => rfl) (fun r4 => ?_))
      refine j_i2l (pc := 49) hC dX3_add_49 ?_
      refine j_ladd (pc := 50) hC dX3_add_50 ?_
      refine j_ladd (pc := 51) hC dX3_add_51 ?_
      refine j_letl (pc := 52) (fun x5 => ?_)
      refine j_lstore_n (pc := 52) hC (lv' := [(2, .long x5), (0, .ref h_a), (1, .ref h_b1), (4, .int p.2.1), (5, .int p.2.2.1)]) rfl (by decide) dX3_add_52 ?_
      refine j_aload_n (pc := 53) hC 1 rfl dX3_add_53 ?_
      refine j_get (pc := 54) hC flRX3_7 0 rfl rfl dX3_add_54 ?_
      refine j_iload (pc := 57) hC 4 rfl dX3_add_57 ?_
      refine j_lload_n (pc := 59) hC 0 rfl dX3_add_59 ?_
      refine j_ldc2 (pc := 60) hC wm345 dX3_add_60 ?_
      refine j_land (pc := 63) hC dX3_add_63 ?_
      refine j_l2i (pc := 64) hC dX3_add_64 ?_
      refine j_iast (pc := 65) hC 2 rfl dX3_add_65 (fun g6 => (rfl : @Eq va_W _ [(h_a, .inr (3, [.ref h_a_limbs, .int p.2.2.2.1])), (h_b1, .inr (3, [.ref h_b1_limbs, .int v_b1_size])), (h_a_limbs, .inl (jy X 0, 6, .inl g6)), (h_b1_limbs, .inl (jy X 0, 6, .inl f_b1_limbs))])) (fun g6 => ?_)
      refine j_lload_n (pc := 66) hC 0 rfl dX3_add_66 ?_
      refine j_bipush (pc := 67) hC kb_30 dX3_add_67 ?_
      refine j_lshr (pc := 69) hC dX3_add_69 ?_
      refine j_letl (pc := 70) (fun x7 => ?_)
      refine j_lstore_n (pc := 70) hC (lv' := [(2, .long x7), (0, .ref h_a), (1, .ref h_b1), (4, .int p.2.1), (5, .int p.2.2.1)]) rfl (by decide) dX3_add_70 ?_
      refine j_iinc (pc := 71) hC 4 rfl ki_1 (fun x8 => (rfl : @Eq (List (Nat × Value)) _ [(5, .int x8), (2, .long x7), (0, .ref h_a), (1, .ref h_b1), (4, .int p.2.1)])) (by decide) dX3_add_71 (fun x8 => ?_)
      refine j_goto (pc := 74) hC 18 (by decide) dX3_add_74 ?_
      refine j_lv (pc := 18) [2, 3, 1, 4, 0] rfl ?_
      exact hrec18 (x7, p.2.1, x8, p.2.2.2.1, g6)
set_option maxHeartbeats 4000000 in
set_option maxRecDepth 100000 in
theorem jX3_add_b18 {X : jX} (hC : jC X cX3_add 6 RX3 rX3_add none) (u : Nat) (h_a h_a_limbs h_b1 h_b1_limbs : Nat) (v_a_size v_b1_size : Int32) (f_a_limbs f_b1_limbs : Nat → Int32) (p : Int64 × Int32 × Int32 × Int32 × (Nat → Int32)) : gX3_add X h_a h_a_limbs h_b1 h_b1_limbs v_a_size v_b1_size f_a_limbs f_b1_limbs 18 [(0, .ref h_a), (1, .ref h_b1), (2, .long p.1), (4, .int p.2.1), (5, .int p.2.2.1)] [] p.2.2.2.1 p.2.2.2.2 (jfix (fX3_add_b18 u v_a_size v_b1_size f_a_limbs f_b1_limbs) u p) :=
  j_fix (fun rec18 hrec18 p => jX3_add_b18_step hC u h_a h_a_limbs h_b1 h_b1_limbs v_a_size v_b1_size f_a_limbs f_b1_limbs rec18 hrec18 p) u p
set_option maxHeartbeats 4000000 in
set_option maxRecDepth 100000 in
theorem jX3_add {X : jX} (hC : jC X cX3_add 6 RX3 rX3_add none) (u : Nat) (h_a h_a_limbs h_b1 h_b1_limbs : Nat) (v_a_size v_b1_size : Int32) (f_a_limbs f_b1_limbs : Nat → Int32) : gX3_add X h_a h_a_limbs h_b1 h_b1_limbs v_a_size v_b1_size f_a_limbs f_b1_limbs 0 [(0, .ref h_a), (1, .ref h_b1)] [] v_a_size f_a_limbs (fX3_add u v_a_size v_b1_size f_a_limbs f_b1_limbs) := by
  unfold fX3_add
  refine j_lconst (pc := 0) hC (v := (0 : Int64)) rfl dX3_add_0 ?_
  refine j_lstore_n (pc := 1) hC (lv' := [(2, .long (0 : Int64)), (0, .ref h_a), (1, .ref h_b1)]) rfl (by decide) dX3_add_1 ?_
  refine j_aload_n (pc := 2) hC 1 rfl dX3_add_2 ?_
  refine j_get (pc := 3) hC flRX3_13 0 rfl rfl dX3_add_3 ?_
  refine j_aload_n (pc := 6) hC 2 rfl dX3_add_6 ?_
  refine j_get (pc := 7) hC flRX3_13 1 rfl rfl dX3_add_7 ?_
  refine j_imax (pc := 10) hC wm542 wm468 wm84 wm469 (by decide) (Nat.le_of_ble_eq_true rfl) ⟨Nat.le_of_ble_eq_true rfl, Nat.le_of_ble_eq_true rfl⟩ dX3_add_10 ?_
  refine j_let (pc := 13) (fun x1 => ?_)
  refine j_istore (pc := 13) hC (lv' := [(4, .int x1), (2, .long (0 : Int64)), (0, .ref h_a), (1, .ref h_b1)]) rfl (by decide) dX3_add_13 ?_
  refine j_iconst (pc := 15) hC ki_0 dX3_add_15 ?_
  refine j_istore (pc := 16) hC (lv' := [(5, .int (0 : Int32)), (4, .int x1), (2, .long (0 : Int64)), (0, .ref h_a), (1, .ref h_b1)]) rfl (by decide) dX3_add_16 ?_
  refine j_lv (pc := 18) [3, 4, 2, 1, 0] rfl ?_
  exact jX3_add_b18 hC u h_a h_a_limbs h_b1 h_b1_limbs v_a_size v_b1_size f_a_limbs f_b1_limbs ((0 : Int64), x1, (0 : Int32), v_a_size, f_a_limbs)
set_option maxHeartbeats 4000000 in
set_option maxRecDepth 100000 in
theorem mX3_add (l : Launch) (D : va_G) (cy : Nat → ClassId) (ev : jE) (u : Nat) (h_a h_a_limbs h_b1 h_b1_limbs : Nat) (v_a_size v_b1_size : Int32) (f_a_limbs f_b1_limbs : Nat → Int32) : jM l yX3_add cX3_add 6 none rX3_add [.ref h_a, .ref h_b1] [(h_a, .inr (3, [.ref h_a_limbs, .int v_a_size])), (h_b1, .inr (3, [.ref h_b1_limbs, .int v_b1_size])), (h_a_limbs, .inl (cy 0, 6, .inl f_a_limbs)), (h_b1_limbs, .inl (cy 0, 6, .inl f_b1_limbs))] (fun (r : Int32 × (Nat → Int32)) (_ : Nat → Nat) => [(h_a, .inr (3, [.ref h_a_limbs, .int r.1])), (h_b1, .inr (3, [.ref h_b1_limbs, .int v_b1_size])), (h_a_limbs, .inl (cy 0, 6, .inl r.2)), (h_b1_limbs, .inl (cy 0, 6, .inl f_b1_limbs))]) (fun (_ : Int32 × (Nat → Int32)) => none) (fX3_add u v_a_size v_b1_size f_a_limbs f_b1_limbs) D cy ev := j_met RX3 (by decide +kernel) rfl (Nat.le_of_ble_eq_true rfl) (fun X hC _ hD hy hv => by subst hD; subst hy; subst hv; exact jX3_add hC u h_a h_a_limbs h_b1 h_b1_limbs v_a_size v_b1_size f_a_limbs f_b1_limbs)
