set_option maxHeartbeats 4000000 in
set_option maxRecDepth 100000 in
theorem jX1_share_b103 {X : jX} (hC : jC X cX1_share 8 RX1 rX1_share none) (u : Nat) (h_a h_a_above h_a_below h_b1 h_b1_limbs h_b2 h_b2_limbs h_a_above_limbs h_a_below_limbs : Nat) (v_a_signum v_b1_size v_b2_size v_a_above_size v_a_below_size : Int32) (f_b1_limbs f_b2_limbs f_a_above_limbs f_a_below_limbs : Nat → Int32) (rec46 : (Int32 × Int32 × Int32 × Int32 × Int32 × (Nat → Int32) × (Nat → Int32)) → Option (Int32 × Int32 × Int32 × (Nat → Int32) × (Nat → Int32))) (hrec46 : ∀ p : Int32 × Int32 × Int32 × Int32 × Int32 × (Nat → Int32) × (Nat → Int32), jJ X 8 0 0 (jQf X 0 0 (fun _ => none) (fun r _ => [(h_a, .inr (1, [.int r.1, .ref h_a_above, .ref h_a_below])), (h_b1, .inr (3, [.ref h_b1_limbs, .int v_b1_size])), (h_b2, .inr (3, [.ref h_b2_limbs, .int v_b2_size])), (h_a_above, .inr (3, [.ref h_a_above_limbs, .int r.2.1])), (h_a_below, .inr (3, [.ref h_a_below_limbs, .int r.2.2.1])), (h_b1_limbs, .inl (jy X 0, 6, .inl f_b1_limbs)), (h_b2_limbs, .inl (jy X 0, 6, .inl f_b2_limbs)), (h_a_above_limbs, .inl (jy X 0, 6, .inl r.2.2.2.1)), (h_a_below_limbs, .inl (jy X 0, 6, .inl r.2.2.2.2))])) 46 [(0, .ref h_a), (3, .ref ((jv X).1 5)), (4, .int p.1), (5, .int p.2.1)] [] [(h_a, .inr (1, [.int p.2.2.1, .ref h_a_above, .ref h_a_below])), (h_b1, .inr (3, [.ref h_b1_limbs, .int v_b1_size])), (h_b2, .inr (3, [.ref h_b2_limbs, .int v_b2_size])), (h_a_above, .inr (3, [.ref h_a_above_limbs, .int p.2.2.2.1])), (h_a_below, .inr (3, [.ref h_a_below_limbs, .int p.2.2.2.2.1])), (h_b1_limbs, .inl (jy X 0, 6, .inl f_b1_limbs)), (h_b2_limbs, .inl (jy X 0, 6, .inl f_b2_limbs)), (h_a_above_limbs, .inl (jy X 0, 6, .inl p.2.2.2.2.2.1)), (h_a_below_limbs, .inl (jy X 0, 6, .inl p.2.2.2.2.2.2))] (rec46 p)) (p : Int32 × Int32 × Int32 × Int32 × Int32 × (Nat → Int32) × (Nat → Int32)) : jJ X 8 0 0 (jQf X 0 0 (fun _ => none) (fun r _ => [(h_a, .inr (1, [.int r.1, .ref h_a_above, .ref h_a_below])), (h_b1, .inr (3, [.ref h_b1_limbs, .int v_b1_size])), (h_b2, .inr (3, [.ref h_b2_limbs, .int v_b2_size])), (h_a_above, .inr (3, [.ref h_a_above_limbs, .int r.2.1])), (h_a_below, .inr (3, [.ref h_a_below_limbs, .int r.2.2.1])), (h_b1_limbs, .inl (jy X 0, 6, .inl f_b1_limbs)), (h_b2_limbs, .inl (jy X 0, 6, .inl f_b2_limbs)), (h_a_above_limbs, .inl (jy X 0, 6, .inl r.2.2.2.1)), (h_a_below_limbs, .inl (jy X 0, 6, .inl r.2.2.2.2))])) 103 [(0, .ref h_a), (3, .ref ((jv X).1 5)), (4, .int p.1), (5, .int p.2.1)] [] [(h_a, .inr (1, [.int p.2.2.1, .ref h_a_above, .ref h_a_below])), (h_b1, .inr (3, [.ref h_b1_limbs, .int v_b1_size])), (h_b2, .inr (3, [.ref h_b2_limbs, .int v_b2_size])), (h_a_above, .inr (3, [.ref h_a_above_limbs, .int p.2.2.2.1])), (h_a_below, .inr (3, [.ref h_a_below_limbs, .int p.2.2.2.2.1])), (h_b1_limbs, .inl (jy X 0, 6, .inl f_b1_limbs)), (h_b2_limbs, .inl (jy X 0, 6, .inl f_b2_limbs)), (h_a_above_limbs, .inl (jy X 0, 6, .inl p.2.2.2.2.2.1)), (h_a_below_limbs, .inl (jy X 0, 6, .inl p.2.2.2.2.2.2))] (fX1_share_b103 u v_a_signum v_b1_size v_b2_size v_a_above_size v_a_below_size f_b1_limbs f_b2_limbs f_a_above_limbs f_a_below_limbs rec46 p) := by
  unfold fX1_share_b103
  refine j_iinc (pc := 103) hC 3 rfl ki_1 (fun x4 => (rfl : @Eq (List (Nat × Value)) _ [(5, .int x4), (0, .ref h_a), (3, .ref ((jv X).1 5)), (4, .int p.1)])) (by decide) dX1_share_103 (fun x4 => ?_)
  refine j_goto (pc := 106) hC 46 (by decide) dX1_share_106 ?_
  refine j_lv (pc := 46) [1, 2, 3, 0] rfl ?_
  exact hrec46 (p.1, x4, p.2.2.1, p.2.2.2.1, p.2.2.2.2.1, p.2.2.2.2.2.1, p.2.2.2.2.2.2)
set_option maxHeartbeats 4000000 in
set_option maxRecDepth 100000 in
theorem jX1_share_b62_step {X : jX} (hC : jC X cX1_share 8 RX1 rX1_share none) (u : Nat) (h_a h_a_above h_a_below h_b1 h_b1_limbs h_b2 h_b2_limbs h_a_above_limbs h_a_below_limbs : Nat) (v_a_signum v_b1_size v_b2_size v_a_above_size v_a_below_size : Int32) (f_b1_limbs f_b2_limbs f_a_above_limbs f_a_below_limbs : Nat → Int32) (rec46 : (Int32 × Int32 × Int32 × Int32 × Int32 × (Nat → Int32) × (Nat → Int32)) → Option (Int32 × Int32 × Int32 × (Nat → Int32) × (Nat → Int32))) (hrec46 : ∀ p : Int32 × Int32 × Int32 × Int32 × Int32 × (Nat → Int32) × (Nat → Int32), jJ X 8 0 0 (jQf X 0 0 (fun _ => none) (fun r _ => [(h_a, .inr (1, [.int r.1, .ref h_a_above, .ref h_a_below])), (h_b1, .inr (3, [.ref h_b1_limbs, .int v_b1_size])), (h_b2, .inr (3, [.ref h_b2_limbs, .int v_b2_size])), (h_a_above, .inr (3, [.ref h_a_above_limbs, .int r.2.1])), (h_a_below, .inr (3, [.ref h_a_below_limbs, .int r.2.2.1])), (h_b1_limbs, .inl (jy X 0, 6, .inl f_b1_limbs)), (h_b2_limbs, .inl (jy X 0, 6, .inl f_b2_limbs)), (h_a_above_limbs, .inl (jy X 0, 6, .inl r.2.2.2.1)), (h_a_below_limbs, .inl (jy X 0, 6, .inl r.2.2.2.2))])) 46 [(0, .ref h_a), (3, .ref ((jv X).1 5)), (4, .int p.1), (5, .int p.2.1)] [] [(h_a, .inr (1, [.int p.2.2.1, .ref h_a_above, .ref h_a_below])), (h_b1, .inr (3, [.ref h_b1_limbs, .int v_b1_size])), (h_b2, .inr (3, [.ref h_b2_limbs, .int v_b2_size])), (h_a_above, .inr (3, [.ref h_a_above_limbs, .int p.2.2.2.1])), (h_a_below, .inr (3, [.ref h_a_below_limbs, .int p.2.2.2.2.1])), (h_b1_limbs, .inl (jy X 0, 6, .inl f_b1_limbs)), (h_b2_limbs, .inl (jy X 0, 6, .inl f_b2_limbs)), (h_a_above_limbs, .inl (jy X 0, 6, .inl p.2.2.2.2.2.1)), (h_a_below_limbs, .inl (jy X 0, 6, .inl p.2.2.2.2.2.2))] (rec46 p)) (rec62 : (Int32 × Int32 × Int32 × Int32 × Int32 × Int32 × Int32 × (Nat → Int32) × (Nat → Int32)) → Option (Int32 × Int32 × Int32 × (Nat → Int32) × (Nat → Int32))) (hrec62 : ∀ p : Int32 × Int32 × Int32 × Int32 × Int32 × Int32 × Int32 × (Nat → Int32) × (Nat → Int32), jJ X 8 0 0 (jQf X 0 0 (fun _ => none) (fun r _ => [(h_a, .inr (1, [.int r.1, .ref h_a_above, .ref h_a_below])), (h_b1, .inr (3, [.ref h_b1_limbs, .int v_b1_size])), (h_b2, .inr (3, [.ref h_b2_limbs, .int v_b2_size])), (h_a_above, .inr (3, [.ref h_a_above_limbs, .int r.2.1])), (h_a_below, .inr (3, [.ref h_a_below_limbs, .int r.2.2.1])), (h_b1_limbs, .inl (jy X 0, 6, .inl f_b1_limbs)), (h_b2_limbs, .inl (jy X 0, 6, .inl f_b2_limbs)), (h_a_above_limbs, .inl (jy X 0, 6, .inl r.2.2.2.1)), (h_a_below_limbs, .inl (jy X 0, 6, .inl r.2.2.2.2))])) 62 [(0, .ref h_a), (3, .ref ((jv X).1 5)), (4, .int p.1), (5, .int p.2.1), (6, .int p.2.2.1), (7, .int p.2.2.2.1)] [] [(h_a, .inr (1, [.int p.2.2.2.2.1, .ref h_a_above, .ref h_a_below])), (h_b1, .inr (3, [.ref h_b1_limbs, .int v_b1_size])), (h_b2, .inr (3, [.ref h_b2_limbs, .int v_b2_size])), (h_a_above, .inr (3, [.ref h_a_above_limbs, .int p.2.2.2.2.2.1])), (h_a_below, .inr (3, [.ref h_a_below_limbs, .int p.2.2.2.2.2.2.1])), (h_b1_limbs, .inl (jy X 0, 6, .inl f_b1_limbs)), (h_b2_limbs, .inl (jy X 0, 6, .inl f_b2_limbs)), (h_a_above_limbs, .inl (jy X 0, 6, .inl p.2.2.2.2.2.2.2.1)), (h_a_below_limbs, .inl (jy X 0, 6, .inl p.2.2.2.2.2.2.2.2))] (rec62 p)) (p : Int32 × Int32 × Int32 × Int32 × Int32 × Int32 × Int32 × (Nat → Int32) × (Nat → Int32)) : jJ X 8 0 0 (jQf X 0 0 (fun _ => none) (fun r _ => [(h_a, .inr (1, [.int r.1, .ref h_a_above, .ref h_a_below])), (h_b1, .inr (3, [.ref h_b1_limbs, .int v_b1_size])), (h_b2, .inr (3, [.ref h_b2_limbs, .int v_b2_size])), (h_a_above, .inr (3, [.ref h_a_above_limbs, .int r.2.1])), (h_a_below, .inr (3, [.ref h_a_below_limbs, .int r.2.2.1])), (h_b1_limbs, .inl (jy X 0, 6, .inl f_b1_limbs)), (h_b2_limbs, .inl (jy X 0, 6, .inl f_b2_limbs)), (h_a_above_limbs, .inl (jy X 0, 6, .inl r.2.2.2.1)), (h_a_below_limbs, .inl (jy X 0, 6, .inl r.2.2.2.2))])) 62 [(0, .ref h_a), (3, .ref ((jv X).1 5)), (4, .int p.1), (5, .int p.2.1), (6, .int p.2.2.1), (7, .int p.2.2.2.1)] [] [(h_a, .inr (1, [.int p.2.2.2.2.1, .ref h_a_above, .ref h_a_below])), (h_b1, .inr (3, [.ref h_b1_limbs, .int v_b1_size])), (h_b2, .inr (3, [.ref h_b2_limbs, .int v_b2_size])), (h_a_above, .inr (3, [.ref h_a_above_limbs, .int p.2.2.2.2.2.1])), (h_a_below, .inr (3, [.ref h_a_below_limbs, .int p.2.2.2.2.2.2.1])), (h_b1_limbs, .inl (jy X 0, 6, .inl f_b1_limbs)), (h_b2_limbs, .inl (jy X 0, 6, .inl f_b2_limbs)), (h_a_above_limbs, .inl (jy X 0, 6, .inl p.2.2.2.2.2.2.2.1)), (h_a_below_limbs, .inl (jy X 0, 6, .inl p.2.2.2.2.2.2.2.2))] (fX1_share_b62 u v_a_signum v_b1_size v_b2_size v_a_above_size v_a_below_size f_b1_limbs f_b2_limbs f_a_above_limbs f_a_below_limbs rec46 rec62 p) := by
  unfold fX1_share_b62
  refine j_iload (pc := 62) hC 5 rfl dX1_share_62 ?_
  refine j_sipush (pc := 64) hC ks_1000 dX1_share_64 ?_
  refine j_icmpge (pc := 67) hC 103 (by decide) dX1_share_67 ?_ ?_
  · refine j_lv (pc := 103) [0, 1, 2, 3] rfl ?_
    exact jX1_share_b103 hC u h_a h_a_above h_a_below h_b1 h_b1_limbs h_b2 h_b2_limbs h_a_above_limbs h_a_below_limbs v_a_signum v_b1_size v_b2_size v_a_above_size v_a_below_size f_b1_limbs f_b2_limbs f_a_above_limbs f_a_below_limbs rec46 hrec46 (p.1, p.2.1, p.2.2.2.2.1, p.2.2.2.2.2.1, p.2.2.2.2.2.2.1, p.2.2.2.2.2.2.2.1, p.2.2.2.2.2.2.2.2)
  · refine j_aload_n (pc := 70) hC 0 rfl dX1_share_70 ?_
    refine j_iload (pc := 71) hC 4 rfl dX1_share_71 ?_
    refine j_callV (pc := 73) hC csRX1_57 [.int p.2.2.1] (mX1_areDividedBy (jl X) (jD X) (jy X) (jv X) u h_a h_a_above h_a_below h_a_above_limbs h_a_below_limbs p.2.2.1 p.2.2.2.2.1 p.2.2.2.2.2.1 p.2.2.2.2.2.2.1 p.2.2.2.2.2.2.2.1 p.2.2.2.2.2.2.2.2) [0, 3, 4, 7, 8] rfl (by decide +kernel) 0 rfl ⟨_, _, rfl⟩ ⟨by decide, by decide, rfl, rfl, by decide, by decide⟩ rfl rfl (Nat.le_of_ble_eq_true rfl) dX1_share_73 (jki0 (fun _ => rfl) (fun _ _ => rfl) (fun r5 => ?_))
    refine j_ifeq (pc := 76) hC 103 (by decide) dX1_share_76 ?_ ?_
    · refine j_lv (pc := 103) [0, 1, 2, 3] rfl ?_
      exact jX1_share_b103 hC u h_a h_a_above h_a_below h_b1 h_b1_limbs h_b2 h_b2_limbs h_a_above_limbs h_a_below_limbs v_a_signum v_b1_size v_b2_size v_a_above_size v_a_below_size f_b1_limbs f_b2_limbs f_a_above_limbs f_a_below_limbs rec46 hrec46 (p.1, p.2.1, p.2.2.2.2.1, p.2.2.2.2.2.1, p.2.2.2.2.2.2.1, p.2.2.2.2.2.2.2.1, p.2.2.2.2.2.2.2.2)
    · refine j_aload_n (pc := 79) hC 0 rfl dX1_share_79 ?_
      refine j_get (pc := 80) hC flRX1_10 0 rfl rfl dX1_share_80 ?_
      refine j_iload (pc := 83) hC 4 rfl dX1_share_83 ?_
      refine j_callV (pc := 85) hC csRX1_61 [.int p.2.2.1] (mX3_divide (jl X) (jD X) (jy X) (jv X) u h_a_above h_a_above_limbs p.2.2.1 p.2.2.2.2.2.1 p.2.2.2.2.2.2.2.1) [3, 7] rfl (by decide +kernel) 3 rfl ⟨_, _, rfl⟩ ⟨by decide, by decide, rfl, rfl, by decide, by decide⟩ rfl rfl (Nat.le_of_ble_eq_true rfl) dX1_share_85 (jkv (fun r6 _ => (rfl : @Eq va_W _ [(h_a, .inr (1, [.int p.2.2.2.2.1, .ref h_a_above, .ref h_a_below])), (h_b1, .inr (3, [.ref h_b1_limbs, .int v_b1_size])), (h_b2, .inr (3, [.ref h_b2_limbs, .int v_b2_size])), (h_a_above, .inr (3, [.ref h_a_above_limbs, .int r6.1])), (h_a_below, .inr (3, [.ref h_a_below_limbs, .int p.2.2.2.2.2.2.1])), (h_b1_limbs, .inl (jy X 0, 6, .inl f_b1_limbs)), (h_b2_limbs, .inl (jy X 0, 6, .inl f_b2_limbs)), (h_a_above_limbs, .inl (jy X 0, 6, .inl r6.2)), (h_a_below_limbs, .inl (jy X 0, 6, .inl p.2.2.2.2.2.2.2.2))])) (fun r6 => ?_))
      refine j_aload_n (pc := 88) hC 0 rfl dX1_share_88 ?_
      refine j_get (pc := 89) hC flRX1_16 0 rfl rfl dX1_share_89 ?_
      refine j_iload (pc := 92) hC 4 rfl dX1_share_92 ?_
      refine j_callV (pc := 94) hC csRX1_61 [.int p.2.2.1] (mX3_divide (jl X) (jD X) (jy X) (jv X) u h_a_below h_a_below_limbs p.2.2.1 p.2.2.2.2.2.2.1 p.2.2.2.2.2.2.2.2) [4, 8] rfl (by decide +kernel) 4 rfl ⟨_, _, rfl⟩ ⟨by decide, by decide, rfl, rfl, by decide, by decide⟩ rfl rfl (Nat.le_of_ble_eq_true rfl) dX1_share_94 (jkv (fun r7 _ => (rfl : @Eq va_W _ [(h_a, .inr (1, [.int p.2.2.2.2.1, .ref h_a_above, .ref h_a_below])), (h_b1, .inr (3, [.ref h_b1_limbs, .int v_b1_size])), (h_b2, .inr (3, [.ref h_b2_limbs, .int v_b2_size])), (h_a_above, .inr (3, [.ref h_a_above_limbs, .int r6.1])), (h_a_below, .inr (3, [.ref h_a_below_limbs, .int r7.1])), (h_b1_limbs, .inl (jy X 0, 6, .inl f_b1_limbs)), (h_b2_limbs, .inl (jy X 0, 6, .inl f_b2_limbs)), (h_a_above_limbs, .inl (jy X 0, 6, .inl r6.2)), (h_a_below_limbs, .inl (jy X 0, 6, .inl r7.2))])) (fun r7 => ?_))
      refine j_iinc (pc := 97) hC 5 rfl ki_1 (fun x8 => (rfl : @Eq (List (Nat × Value)) _ [(7, .int x8), (0, .ref h_a), (3, .ref ((jv X).1 5)), (4, .int p.1), (5, .int p.2.1), (6, .int p.2.2.1)])) (by decide) dX1_share_97 (fun x8 => ?_)
      refine j_goto (pc := 100) hC 62 (by decide) dX1_share_100 ?_
      refine j_lv (pc := 62) [1, 2, 3, 4, 5, 0] rfl ?_
      exact hrec62 (p.1, p.2.1, p.2.2.1, x8, p.2.2.2.2.1, r6.1, r7.1, r6.2, r7.2)
set_option maxHeartbeats 4000000 in
set_option maxRecDepth 100000 in
theorem jX1_share_b62 {X : jX} (hC : jC X cX1_share 8 RX1 rX1_share none) (u : Nat) (h_a h_a_above h_a_below h_b1 h_b1_limbs h_b2 h_b2_limbs h_a_above_limbs h_a_below_limbs : Nat) (v_a_signum v_b1_size v_b2_size v_a_above_size v_a_below_size : Int32) (f_b1_limbs f_b2_limbs f_a_above_limbs f_a_below_limbs : Nat → Int32) (rec46 : (Int32 × Int32 × Int32 × Int32 × Int32 × (Nat → Int32) × (Nat → Int32)) → Option (Int32 × Int32 × Int32 × (Nat → Int32) × (Nat → Int32))) (hrec46 : ∀ p : Int32 × Int32 × Int32 × Int32 × Int32 × (Nat → Int32) × (Nat → Int32), jJ X 8 0 0 (jQf X 0 0 (fun _ => none) (fun r _ => [(h_a, .inr (1, [.int r.1, .ref h_a_above, .ref h_a_below])), (h_b1, .inr (3, [.ref h_b1_limbs, .int v_b1_size])), (h_b2, .inr (3, [.ref h_b2_limbs, .int v_b2_size])), (h_a_above, .inr (3, [.ref h_a_above_limbs, .int r.2.1])), (h_a_below, .inr (3, [.ref h_a_below_limbs, .int r.2.2.1])), (h_b1_limbs, .inl (jy X 0, 6, .inl f_b1_limbs)), (h_b2_limbs, .inl (jy X 0, 6, .inl f_b2_limbs)), (h_a_above_limbs, .inl (jy X 0, 6, .inl r.2.2.2.1)), (h_a_below_limbs, .inl (jy X 0, 6, .inl r.2.2.2.2))])) 46 [(0, .ref h_a), (3, .ref ((jv X).1 5)), (4, .int p.1), (5, .int p.2.1)] [] [(h_a, .inr (1, [.int p.2.2.1, .ref h_a_above, .ref h_a_below])), (h_b1, .inr (3, [.ref h_b1_limbs, .int v_b1_size])), (h_b2, .inr (3, [.ref h_b2_limbs, .int v_b2_size])), (h_a_above, .inr (3, [.ref h_a_above_limbs, .int p.2.2.2.1])), (h_a_below, .inr (3, [.ref h_a_below_limbs, .int p.2.2.2.2.1])), (h_b1_limbs, .inl (jy X 0, 6, .inl f_b1_limbs)), (h_b2_limbs, .inl (jy X 0, 6, .inl f_b2_limbs)), (h_a_above_limbs, .inl (jy X 0, 6, .inl p.2.2.2.2.2.1)), (h_a_below_limbs, .inl (jy X 0, 6, .inl p.2.2.2.2.2.2))] (rec46 p)) (p : Int32 × Int32 × Int32 × Int32 × Int32 × Int32 × Int32 × (Nat → Int32) × (Nat → Int32)) : jJ X 8 0 0 (jQf X 0 0 (fun _ => none) (fun r _ => [(h_a, .inr (1, [.int r.1, .ref h_a_above, .ref h_a_below])), (h_b1, .inr (3, [.ref h_b1_limbs, .int v_b1_size])), (h_b2, .inr (3, [.ref h_b2_limbs, .int v_b2_size])), (h_a_above, .inr (3, [.ref h_a_above_limbs, .int r.2.1])), (h_a_below, .inr (3, [.ref h_a_below_limbs, .int r.2.2.1])), (h_b1_limbs, .inl (jy X 0, 6, .inl f_b1_limbs)), (h_b2_limbs, .inl (jy X 0, 6, .inl f_b2_limbs)), (h_a_above_limbs, .inl (jy X 0, 6, .inl r.2.2.2.1)), (h_a_below_limbs, .inl (jy X 0, 6, .inl r.2.2.2.2))])) 62 [(0, .ref h_a), (3, .ref ((jv X).1 5)), (4, .int p.1), (5, .int p.2.1), (6, .int p.2.2.1), (7, .int p.2.2.2.1)] [] [(h_a, .inr (1, [.int p.2.2.2.2.1, .ref h_a_above, .ref h_a_below])), (h_b1, .inr (3, [.ref h_b1_limbs, .int v_b1_size])), (h_b2, .inr (3, [.ref h_b2_limbs, .int v_b2_size])), (h_a_above, .inr (3, [.ref h_a_above_limbs, .int p.2.2.2.2.2.1])), (h_a_below, .inr (3, [.ref h_a_below_limbs, .int p.2.2.2.2.2.2.1])), (h_b1_limbs, .inl (jy X 0, 6, .inl f_b1_limbs)), (h_b2_limbs, .inl (jy X 0, 6, .inl f_b2_limbs)), (h_a_above_limbs, .inl (jy X 0, 6, .inl p.2.2.2.2.2.2.2.1)), (h_a_below_limbs, .inl (jy X 0, 6, .inl p.2.2.2.2.2.2.2.2))] (jfix (fX1_share_b62 u v_a_signum v_b1_size v_b2_size v_a_above_size v_a_below_size f_b1_limbs f_b2_limbs f_a_above_limbs f_a_below_limbs rec46) u p) :=
  j_fix (fun rec62 hrec62 p => jX1_share_b62_step hC u h_a h_a_above h_a_below h_b1 h_b1_limbs h_b2 h_b2_limbs h_a_above_limbs h_a_below_limbs v_a_signum v_b1_size v_b2_size v_a_above_size v_a_below_size f_b1_limbs f_b2_limbs f_a_above_limbs f_a_below_limbs rec46 hrec46 rec62 hrec62 p) u p
set_option maxHeartbeats 4000000 in
set_option maxRecDepth 100000 in
theorem jX1_share_b46_step {X : jX} (hC : jC X cX1_share 8 RX1 rX1_share none) (u : Nat) (h_a h_a_above h_a_below h_b1 h_b1_limbs h_b2 h_b2_limbs h_a_above_limbs h_a_below_limbs : Nat) (v_a_signum v_b1_size v_b2_size v_a_above_size v_a_below_size : Int32) (f_b1_limbs f_b2_limbs f_a_above_limbs f_a_below_limbs : Nat → Int32) (rec46 : (Int32 × Int32 × Int32 × Int32 × Int32 × (Nat → Int32) × (Nat → Int32)) → Option (Int32 × Int32 × Int32 × (Nat → Int32) × (Nat → Int32))) (hrec46 : ∀ p : Int32 × Int32 × Int32 × Int32 × Int32 × (Nat → Int32) × (Nat → Int32), jJ X 8 0 0 (jQf X 0 0 (fun _ => none) (fun r _ => [(h_a, .inr (1, [.int r.1, .ref h_a_above, .ref h_a_below])), (h_b1, .inr (3, [.ref h_b1_limbs, .int v_b1_size])), (h_b2, .inr (3, [.ref h_b2_limbs, .int v_b2_size])), (h_a_above, .inr (3, [.ref h_a_above_limbs, .int r.2.1])), (h_a_below, .inr (3, [.ref h_a_below_limbs, .int r.2.2.1])), (h_b1_limbs, .inl (jy X 0, 6, .inl f_b1_limbs)), (h_b2_limbs, .inl (jy X 0, 6, .inl f_b2_limbs)), (h_a_above_limbs, .inl (jy X 0, 6, .inl r.2.2.2.1)), (h_a_below_limbs, .inl (jy X 0, 6, .inl r.2.2.2.2))])) 46 [(0, .ref h_a), (3, .ref ((jv X).1 5)), (4, .int p.1), (5, .int p.2.1)] [] [(h_a, .inr (1, [.int p.2.2.1, .ref h_a_above, .ref h_a_below])), (h_b1, .inr (3, [.ref h_b1_limbs, .int v_b1_size])), (h_b2, .inr (3, [.ref h_b2_limbs, .int v_b2_size])), (h_a_above, .inr (3, [.ref h_a_above_limbs, .int p.2.2.2.1])), (h_a_below, .inr (3, [.ref h_a_below_limbs, .int p.2.2.2.2.1])), (h_b1_limbs, .inl (jy X 0, 6, .inl f_b1_limbs)), (h_b2_limbs, .inl (jy X 0, 6, .inl f_b2_limbs)), (h_a_above_limbs, .inl (jy X 0, 6, .inl p.2.2.2.2.2.1)), (h_a_below_limbs, .inl (jy X 0, 6, .inl p.2.2.2.2.2.2))] (rec46 p)) (p : Int32 × Int32 × Int32 × Int32 × Int32 × (Nat → Int32) × (Nat → Int32)) : jJ X 8 0 0 (jQf X 0 0 (fun _ => none) (fun r _ => [(h_a, .inr (1, [.int r.1, .ref h_a_above, .ref h_a_below])), (h_b1, .inr (3, [.ref h_b1_limbs, .int v_b1_size])), (h_b2, .inr (3, [.ref h_b2_limbs, .int v_b2_size])), (h_a_above, .inr (3, [.ref h_a_above_limbs, .int r.2.1])), (h_a_below, .inr (3, [.ref h_a_below_limbs, .int r.2.2.1])), (h_b1_limbs, .inl (jy X 0, 6, .inl f_b1_limbs)), (h_b2_limbs, .inl (jy X 0, 6, .inl f_b2_limbs)), (h_a_above_limbs, .inl (jy X 0, 6, .inl r.2.2.2.1)), (h_a_below_limbs, .inl (jy X 0, 6, .inl r.2.2.2.2))])) 46 [(0, .ref h_a), (3, .ref ((jv X).1 5)), (4, .int p.1), (5, .int p.2.1)] [] [(h_a, .inr (1, [.int p.2.2.1, .ref h_a_above, .ref h_a_below])), (h_b1, .inr (3, [.ref h_b1_limbs, .int v_b1_size])), (h_b2, .inr (3, [.ref h_b2_limbs, .int v_b2_size])), (h_a_above, .inr (3, [.ref h_a_above_limbs, .int p.2.2.2.1])), (h_a_below, .inr (3, [.ref h_a_below_limbs, .int p.2.2.2.2.1])), (h_b1_limbs, .inl (jy X 0, 6, .inl f_b1_limbs)), (h_b2_limbs, .inl (jy X 0, 6, .inl f_b2_limbs)), (h_a_above_limbs, .inl (jy X 0, 6, .inl p.2.2.2.2.2.1)), (h_a_below_limbs, .inl (jy X 0, 6, .inl p.2.2.2.2.2.2))] (fX1_share_b46 u v_a_signum v_b1_size v_b2_size v_a_above_size v_a_below_size f_b1_limbs f_b2_limbs f_a_above_limbs f_a_below_limbs rec46 p) := by
  unfold fX1_share_b46
  refine j_iload (pc := 46) hC 3 rfl dX1_share_46 ?_
  refine j_iload (pc := 48) hC 2 rfl dX1_share_48 ?_
  refine j_icmpge (pc := 50) hC 109 (by decide) dX1_share_50 ?_ ?_
  · exact j_vret (pc := 109) hC (fun _ => 0) rfl rfl dX1_share_109
  · refine j_aload_n (pc := 53) hC 1 rfl dX1_share_53 ?_
    refine j_iload (pc := 54) hC 3 rfl dX1_share_54 ?_
    refine j_tald (pc := 56) hC 5 rfl rfl dX1_share_56 ?_
    refine j_let (pc := 57) (fun x3 => ?_)
    refine j_istore (pc := 57) hC (lv' := [(6, .int x3), (0, .ref h_a), (3, .ref ((jv X).1 5)), (4, .int p.1), (5, .int p.2.1)]) rfl (by decide) dX1_share_57 ?_
    refine j_iconst (pc := 59) hC ki_0 dX1_share_59 ?_
    refine j_istore (pc := 60) hC (lv' := [(7, .int (0 : Int32)), (6, .int x3), (0, .ref h_a), (3, .ref ((jv X).1 5)), (4, .int p.1), (5, .int p.2.1)]) rfl (by decide) dX1_share_60 ?_
    refine j_lv (pc := 62) [2, 3, 4, 5, 1, 0] rfl ?_
    exact jX1_share_b62 hC u h_a h_a_above h_a_below h_b1 h_b1_limbs h_b2 h_b2_limbs h_a_above_limbs h_a_below_limbs v_a_signum v_b1_size v_b2_size v_a_above_size v_a_below_size f_b1_limbs f_b2_limbs f_a_above_limbs f_a_below_limbs rec46 hrec46 (p.1, p.2.1, x3, (0 : Int32), p.2.2.1, p.2.2.2.1, p.2.2.2.2.1, p.2.2.2.2.2.1, p.2.2.2.2.2.2)
set_option maxHeartbeats 4000000 in
set_option maxRecDepth 100000 in
theorem jX1_share_b46 {X : jX} (hC : jC X cX1_share 8 RX1 rX1_share none) (u : Nat) (h_a h_a_above h_a_below h_b1 h_b1_limbs h_b2 h_b2_limbs h_a_above_limbs h_a_below_limbs : Nat) (v_a_signum v_b1_size v_b2_size v_a_above_size v_a_below_size : Int32) (f_b1_limbs f_b2_limbs f_a_above_limbs f_a_below_limbs : Nat → Int32) (p : Int32 × Int32 × Int32 × Int32 × Int32 × (Nat → Int32) × (Nat → Int32)) : jJ X 8 0 0 (jQf X 0 0 (fun _ => none) (fun r _ => [(h_a, .inr (1, [.int r.1, .ref h_a_above, .ref h_a_below])), (h_b1, .inr (3, [.ref h_b1_limbs, .int v_b1_size])), (h_b2, .inr (3, [.ref h_b2_limbs, .int v_b2_size])), (h_a_above, .inr (3, [.ref h_a_above_limbs, .int r.2.1])), (h_a_below, .inr (3, [.ref h_a_below_limbs, .int r.2.2.1])), (h_b1_limbs, .inl (jy X 0, 6, .inl f_b1_limbs)), (h_b2_limbs, .inl (jy X 0, 6, .inl f_b2_limbs)), (h_a_above_limbs, .inl (jy X 0, 6, .inl r.2.2.2.1)), (h_a_below_limbs, .inl (jy X 0, 6, .inl r.2.2.2.2))])) 46 [(0, .ref h_a), (3, .ref ((jv X).1 5)), (4, .int p.1), (5, .int p.2.1)] [] [(h_a, .inr (1, [.int p.2.2.1, .ref h_a_above, .ref h_a_below])), (h_b1, .inr (3, [.ref h_b1_limbs, .int v_b1_size])), (h_b2, .inr (3, [.ref h_b2_limbs, .int v_b2_size])), (h_a_above, .inr (3, [.ref h_a_above_limbs, .int p.2.2.2.1])), (h_a_below, .inr (3, [.ref h_a_below_limbs, .int p.2.2.2.2.1])), (h_b1_limbs, .inl (jy X 0, 6, .inl f_b1_limbs)), (h_b2_limbs, .inl (jy X 0, 6, .inl f_b2_limbs)), (h_a_above_limbs, .inl (jy X 0, 6, .inl p.2.2.2.2.2.1)), (h_a_below_limbs, .inl (jy X 0, 6, .inl p.2.2.2.2.2.2))] (jfix (fX1_share_b46 u v_a_signum v_b1_size v_b2_size v_a_above_size v_a_below_size f_b1_limbs f_b2_limbs f_a_above_limbs f_a_below_limbs) u p) :=
  j_fix (fun rec46 hrec46 p => jX1_share_b46_step hC u h_a h_a_above h_a_below h_b1 h_b1_limbs h_b2 h_b2_limbs h_a_above_limbs h_a_below_limbs v_a_signum v_b1_size v_b2_size v_a_above_size v_a_below_size f_b1_limbs f_b2_limbs f_a_above_limbs f_a_below_limbs rec46 hrec46 p) u p
set_option maxHeartbeats 4000000 in
set_option maxRecDepth 100000 in
theorem jX1_share {X : jX} (hC : jC X cX1_share 8 RX1 rX1_share none) (u : Nat) (h_a h_a_above h_a_below h_b1 h_b1_limbs h_b2 h_b2_limbs h_a_above_limbs h_a_below_limbs : Nat) (v_a_signum v_b1_size v_b2_size v_a_above_size v_a_below_size : Int32) (f_b1_limbs f_b2_limbs f_a_above_limbs f_a_below_limbs : Nat → Int32) : jJ X 8 0 0 (jQf X 0 0 (fun _ => none) (fun r _ => [(h_a, .inr (1, [.int r.1, .ref h_a_above, .ref h_a_below])), (h_b1, .inr (3, [.ref h_b1_limbs, .int v_b1_size])), (h_b2, .inr (3, [.ref h_b2_limbs, .int v_b2_size])), (h_a_above, .inr (3, [.ref h_a_above_limbs, .int r.2.1])), (h_a_below, .inr (3, [.ref h_a_below_limbs, .int r.2.2.1])), (h_b1_limbs, .inl (jy X 0, 6, .inl f_b1_limbs)), (h_b2_limbs, .inl (jy X 0, 6, .inl f_b2_limbs)), (h_a_above_limbs, .inl (jy X 0, 6, .inl r.2.2.2.1)), (h_a_below_limbs, .inl (jy X 0, 6, .inl r.2.2.2.2))])) 0 [(0, .ref h_a), (1, .ref h_b1), (2, .ref h_b2)] [] [(h_a, .inr (1, [.int v_a_signum, .ref h_a_above, .ref h_a_below])), (h_b1, .inr (3, [.ref h_b1_limbs, .int v_b1_size])), (h_b2, .inr (3, [.ref h_b2_limbs, .int v_b2_size])), (h_a_above, .inr (3, [.ref h_a_above_limbs, .int v_a_above_size])), (h_a_below, .inr (3, [.ref h_a_below_limbs, .int v_a_below_size])), (h_b1_limbs, .inl (jy X 0, 6, .inl f_b1_limbs)), (h_b2_limbs, .inl (jy X 0, 6, .inl f_b2_limbs)), (h_a_above_limbs, .inl (jy X 0, 6, .inl f_a_above_limbs)), (h_a_below_limbs, .inl (jy X 0, 6, .inl f_a_below_limbs))] (fX1_share u v_a_signum v_b1_size v_b2_size v_a_above_size v_a_below_size f_b1_limbs f_b2_limbs f_a_above_limbs f_a_below_limbs) := by
  unfold fX1_share
  refine j_aload_n (pc := 0) hC 1 rfl dX1_share_0 ?_
  refine j_get (pc := 1) hC flRX1_43 1 rfl rfl dX1_share_1 ?_
  refine j_ifne (pc := 4) hC 14 (by decide) dX1_share_4 ?_ ?_
  · refine j_aload_n (pc := 14) hC 0 rfl dX1_share_14 ?_
    refine j_iconst (pc := 15) hC ki_1 dX1_share_15 ?_
    refine j_put (pc := 16) hC fpRX1_39 0 rfl rfl rfl (Nat.le_of_ble_eq_true rfl) dX1_share_16 (ws' := [(h_a, .inr (1, [.int (1 : Int32), .ref h_a_above, .ref h_a_below])), (h_b1, .inr (3, [.ref h_b1_limbs, .int v_b1_size])), (h_b2, .inr (3, [.ref h_b2_limbs, .int v_b2_size])), (h_a_above, .inr (3, [.ref h_a_above_limbs, .int v_a_above_size])), (h_a_below, .inr (3, [.ref h_a_below_limbs, .int v_a_below_size])), (h_b1_limbs, .inl (jy X 0, 6, .inl f_b1_limbs)), (h_b2_limbs, .inl (jy X 0, 6, .inl f_b2_limbs)), (h_a_above_limbs, .inl (jy X 0, 6, .inl f_a_above_limbs)), (h_a_below_limbs, .inl (jy X 0, 6, .inl f_a_below_limbs))]) rfl ?_
    refine j_aload_n (pc := 19) hC 0 rfl dX1_share_19 ?_
    refine j_get (pc := 20) hC flRX1_10 0 rfl rfl dX1_share_20 ?_
    refine j_aload_n (pc := 23) hC 1 rfl dX1_share_23 ?_
    refine j_callV (pc := 24) hC csRX1_49 [.ref h_b1] (mX3_copyFrom (jl X) (jD X) (jy X) (jv X) h_a_above h_a_above_limbs h_b1 h_b1_limbs v_a_above_size v_b1_size f_a_above_limbs f_b1_limbs) [3, 1, 7, 5] rfl (by decide +kernel) 3 rfl ⟨_, _, rfl⟩ ⟨by decide, by decide, rfl, rfl, by decide, by decide⟩ rfl rfl (Nat.le_of_ble_eq_true rfl) dX1_share_24 (jkv (fun r1 _ => (rfl : @Eq va_W _ [(h_a, .inr (1, [.int (1 : Int32), .ref h_a_above, .ref h_a_below])), (h_b1, .inr (3, [.ref h_b1_limbs, .int v_b1_size])), (h_b2, .inr (3, [.ref h_b2_limbs, .int v_b2_size])), (h_a_above, .inr (3, [.ref h_a_above_limbs, .int r1.1])), (h_a_below, .inr (3, [.ref h_a_below_limbs, .int v_a_below_size])), (h_b1_limbs, .inl (jy X 0, 6, .inl f_b1_limbs)), (h_b2_limbs, .inl (jy X 0, 6, .inl f_b2_limbs)), (h_a_above_limbs, .inl (jy X 0, 6, .inl r1.2)), (h_a_below_limbs, .inl (jy X 0, 6, .inl f_a_below_limbs))])) (fun r1 => ?_))
    refine j_aload_n (pc := 27) hC 0 rfl dX1_share_27 ?_
    refine j_get (pc := 28) hC flRX1_16 0 rfl rfl dX1_share_28 ?_
    refine j_aload_n (pc := 31) hC 2 rfl dX1_share_31 ?_
    refine j_callV (pc := 32) hC csRX1_49 [.ref h_b2] (mX3_copyFrom (jl X) (jD X) (jy X) (jv X) h_a_below h_a_below_limbs h_b2 h_b2_limbs v_a_below_size v_b2_size f_a_below_limbs f_b2_limbs) [4, 2, 8, 6] rfl (by decide +kernel) 4 rfl ⟨_, _, rfl⟩ ⟨by decide, by decide, rfl, rfl, by decide, by decide⟩ rfl rfl (Nat.le_of_ble_eq_true rfl) dX1_share_32 (jkv (fun r2 _ => (rfl : @Eq va_W _ [(h_a, .inr (1, [.int (1 : Int32), .ref h_a_above, .ref h_a_below])), (h_b1, .inr (3, [.ref h_b1_limbs, .int v_b1_size])), (h_b2, .inr (3, [.ref h_b2_limbs, .int v_b2_size])), (h_a_above, .inr (3, [.ref h_a_above_limbs, .int r1.1])), (h_a_below, .inr (3, [.ref h_a_below_limbs, .int r2.1])), (h_b1_limbs, .inl (jy X 0, 6, .inl f_b1_limbs)), (h_b2_limbs, .inl (jy X 0, 6, .inl f_b2_limbs)), (h_a_above_limbs, .inl (jy X 0, 6, .inl r1.2)), (h_a_below_limbs, .inl (jy X 0, 6, .inl r2.2))])) (fun r2 => ?_))
    refine j_gets (pc := 35) hC 5 rfl wm577 dX1_share_35 ?_
    refine j_astore_n (pc := 38) hC (lv' := [(3, .ref ((jv X).1 5)), (0, .ref h_a), (1, .ref h_b1), (2, .ref h_b2)]) rfl (by decide) dX1_share_38 ?_
    refine j_aload_n (pc := 39) hC 0 rfl dX1_share_39 ?_
    refine j_tlen (pc := 40) hC 5 rfl (v := (8 : Int32)) rfl dX1_share_40 ?_
    refine j_istore (pc := 41) hC (lv' := [(4, .int (8 : Int32)), (3, .ref ((jv X).1 5)), (0, .ref h_a), (1, .ref h_b1), (2, .ref h_b2)]) rfl (by decide) dX1_share_41 ?_
    refine j_iconst (pc := 43) hC ki_0 dX1_share_43 ?_
    refine j_istore (pc := 44) hC (lv' := [(5, .int (0 : Int32)), (4, .int (8 : Int32)), (3, .ref ((jv X).1 5)), (0, .ref h_a), (1, .ref h_b1), (2, .ref h_b2)]) rfl (by decide) dX1_share_44 ?_
    refine j_lv (pc := 46) [3, 2, 1, 0] rfl ?_
    exact jX1_share_b46 hC u h_a h_a_above h_a_below h_b1 h_b1_limbs h_b2 h_b2_limbs h_a_above_limbs h_a_below_limbs v_a_signum v_b1_size v_b2_size v_a_above_size v_a_below_size f_b1_limbs f_b2_limbs f_a_above_limbs f_a_below_limbs ((8 : Int32), (0 : Int32), (1 : Int32), r1.1, r2.1, r1.2, r2.2)
  · refine j_aload_n (pc := 7) hC 0 rfl dX1_share_7 ?_
    refine j_lconst (pc := 8) hC (v := (0 : Int64)) rfl dX1_share_8 ?_
    refine j_lconst (pc := 9) hC (v := (1 : Int64)) rfl dX1_share_9 ?_
    refine j_callV (pc := 10) hC csRX1_46 [.long (0 : Int64), .long (1 : Int64)] (mX1_set (jl X) (jD X) (jy X) (jv X) u h_a h_a_above h_a_below h_a_above_limbs h_a_below_limbs (0 : Int64) (1 : Int64) v_a_signum v_a_above_size v_a_below_size f_a_above_limbs f_a_below_limbs) [0, 3, 4, 7, 8] rfl (by decide +kernel) 0 rfl ⟨_, _, rfl⟩ ⟨by decide, by decide, rfl, rfl, by decide, by decide⟩ rfl rfl (Nat.le_of_ble_eq_true rfl) dX1_share_10 (jkv (fun r9 _ => (rfl : @Eq va_W _ [(h_a, .inr (1, [.int r9.1, .ref h_a_above, .ref h_a_below])), (h_b1, .inr (3, [.ref h_b1_limbs, .int v_b1_size])), (h_b2, .inr (3, [.ref h_b2_limbs, .int v_b2_size])), (h_a_above, .inr (3, [.ref h_a_above_limbs, .int r9.2.1])), (h_a_below, .inr (3, [.ref h_a_below_limbs, .int r9.2.2.1])), (h_b1_limbs, .inl (jy X 0, 6, .inl f_b1_limbs)), (h_b2_limbs, .inl (jy X 0, 6, .inl f_b2_limbs)), (h_a_above_limbs, .inl (jy X 0, 6, .inl r9.2.2.2.1)), (h_a_below_limbs, .inl (jy X 0, 6, .inl r9.2.2.2.2))])) (fun r9 => ?_))
    exact j_vret (pc := 13) hC (fun _ => 0) rfl rfl dX1_share_13
set_option maxHeartbeats 4000000 in
set_option maxRecDepth 100000 in
theorem mX1_share (l : Launch) (D : va_G) (cy : Nat → ClassId) (ev : jE) (u : Nat) (h_a h_a_above h_a_below h_b1 h_b1_limbs h_b2 h_b2_limbs h_a_above_limbs h_a_below_limbs : Nat) (v_a_signum v_b1_size v_b2_size v_a_above_size v_a_below_size : Int32) (f_b1_limbs f_b2_limbs f_a_above_limbs f_a_below_limbs : Nat → Int32) : jM l yX1_share cX1_share 8 none rX1_share [.ref h_a, .ref h_b1, .ref h_b2] [(h_a, .inr (1, [.int v_a_signum, .ref h_a_above, .ref h_a_below])), (h_b1, .inr (3, [.ref h_b1_limbs, .int v_b1_size])), (h_b2, .inr (3, [.ref h_b2_limbs, .int v_b2_size])), (h_a_above, .inr (3, [.ref h_a_above_limbs, .int v_a_above_size])), (h_a_below, .inr (3, [.ref h_a_below_limbs, .int v_a_below_size])), (h_b1_limbs, .inl (cy 0, 6, .inl f_b1_limbs)), (h_b2_limbs, .inl (cy 0, 6, .inl f_b2_limbs)), (h_a_above_limbs, .inl (cy 0, 6, .inl f_a_above_limbs)), (h_a_below_limbs, .inl (cy 0, 6, .inl f_a_below_limbs))] (fun r _ => [(h_a, .inr (1, [.int r.1, .ref h_a_above, .ref h_a_below])), (h_b1, .inr (3, [.ref h_b1_limbs, .int v_b1_size])), (h_b2, .inr (3, [.ref h_b2_limbs, .int v_b2_size])), (h_a_above, .inr (3, [.ref h_a_above_limbs, .int r.2.1])), (h_a_below, .inr (3, [.ref h_a_below_limbs, .int r.2.2.1])), (h_b1_limbs, .inl (cy 0, 6, .inl f_b1_limbs)), (h_b2_limbs, .inl (cy 0, 6, .inl f_b2_limbs)), (h_a_above_limbs, .inl (cy 0, 6, .inl r.2.2.2.1)), (h_a_below_limbs, .inl (cy 0, 6, .inl r.2.2.2.2))]) (fun _ => none) (fX1_share u v_a_signum v_b1_size v_b2_size v_a_above_size v_a_below_size f_b1_limbs f_b2_limbs f_a_above_limbs f_a_below_limbs) D cy ev := j_met RX1 (by decide +kernel) rfl (Nat.le_of_ble_eq_true rfl) (fun X hC _ hD hy hv => by subst hD; subst hy; subst hv; exact jX1_share hC u h_a h_a_above h_a_below h_b1 h_b1_limbs h_b2 h_b2_limbs h_a_above_limbs h_a_below_limbs v_a_signum v_b1_size v_b2_size v_a_above_size v_a_below_size f_b1_limbs f_b2_limbs f_a_above_limbs f_a_below_limbs)
set_option maxHeartbeats 4000000 in
set_option maxRecDepth 100000 in
theorem jX8_mixed {X : jX} (hC : jC X cX8_mixed 4 RX8 rX8_mixed (some .long)) (p0 p2 : Int64) : jJ X 4 0 0 (jQf X 0 0 (fun r => some (.long r)) (fun _ _ => [])) 0 [(0, .long p0), (2, .long p2)] [] [] (fX8_mixed p0 p2) := by
  unfold fX8_mixed
  refine j_ldc2 (pc := 0) hC wm886 dX8_mixed_0 ?_
  refine j_lload_n (pc := 3) hC 0 rfl dX8_mixed_3 ?_
  refine j_lmul (pc := 4) hC dX8_mixed_4 ?_
  refine j_lload_n (pc := 5) hC 1 rfl dX8_mixed_5 ?_
  refine j_ladd (pc := 6) hC dX8_mixed_6 ?_
  exact j_lret (pc := 7) hC (fun _ => 0) rfl rfl dX8_mixed_7
set_option maxHeartbeats 4000000 in
set_option maxRecDepth 100000 in
theorem mX8_mixed (l : Launch) (D : va_G) (cy : Nat → ClassId) (ev : jE) (p0 p2 : Int64) : jM l yX8_mixed cX8_mixed 4 (some .long) rX8_mixed [.long p0, .long p2] [] (fun _ _ => []) (fun r => some (.long r)) (fX8_mixed p0 p2) D cy ev := j_met RX8 (by decide +kernel) rfl (Nat.le_of_ble_eq_true rfl) (fun X hC _ hD hy hv => by subst hD; subst hy; subst hv; exact jX8_mixed hC p0 p2)
set_option maxHeartbeats 4000000 in
set_option maxRecDepth 100000 in
theorem jX1_mixedInto_b71_step {X : jX} (hC : jC X cX1_mixedInto 6 RX1 rX1_mixedInto (some .long)) (u : Nat) (h_a h_a_above h_a_below h_a_above_limbs h_a_below_limbs : Nat) (p1 : Int64) (v_a_signum v_a_above_size v_a_below_size : Int32) (f_a_above_limbs f_a_below_limbs : Nat → Int32) (rec71 : (Int64 × Int32) → Option (Int64)) (hrec71 : ∀ p : Int64 × Int32, jJ X 6 0 0 (jQf X 0 0 (fun r => some (.long r)) (fun _ _ => [(h_a, .inr (1, [.int v_a_signum, .ref h_a_above, .ref h_a_below])), (h_a_above, .inr (3, [.ref h_a_above_limbs, .int v_a_above_size])), (h_a_below, .inr (3, [.ref h_a_below_limbs, .int v_a_below_size])), (h_a_above_limbs, .inl (jy X 0, 6, .inl f_a_above_limbs)), (h_a_below_limbs, .inl (jy X 0, 6, .inl f_a_below_limbs))])) 71 [(0, .ref h_a), (3, .long p.1), (5, .int p.2)] [] [(h_a, .inr (1, [.int v_a_signum, .ref h_a_above, .ref h_a_below])), (h_a_above, .inr (3, [.ref h_a_above_limbs, .int v_a_above_size])), (h_a_below, .inr (3, [.ref h_a_below_limbs, .int v_a_below_size])), (h_a_above_limbs, .inl (jy X 0, 6, .inl f_a_above_limbs)), (h_a_below_limbs, .inl (jy X 0, 6, .inl f_a_below_limbs))] (rec71 p)) (p : Int64 × Int32) : jJ X 6 0 0 (jQf X 0 0 (fun r => some (.long r)) (fun _ _ => [(h_a, .inr (1, [.int v_a_signum, .ref h_a_above, .ref h_a_below])), (h_a_above, .inr (3, [.ref h_a_above_limbs, .int v_a_above_size])), (h_a_below, .inr (3, [.ref h_a_below_limbs, .int v_a_below_size])), (h_a_above_limbs, .inl (jy X 0, 6, .inl f_a_above_limbs)), (h_a_below_limbs, .inl (jy X 0, 6, .inl f_a_below_limbs))])) 71 [(0, .ref h_a), (3, .long p.1), (5, .int p.2)] [] [(h_a, .inr (1, [.int v_a_signum, .ref h_a_above, .ref h_a_below])), (h_a_above, .inr (3, [.ref h_a_above_limbs, .int v_a_above_size])), (h_a_below, .inr (3, [.ref h_a_below_limbs, .int v_a_below_size])), (h_a_above_limbs, .inl (jy X 0, 6, .inl f_a_above_limbs)), (h_a_below_limbs, .inl (jy X 0, 6, .inl f_a_below_limbs))] (fX1_mixedInto_b71 u p1 v_a_signum v_a_above_size v_a_below_size f_a_above_limbs f_a_below_limbs rec71 p) := by
  unfold fX1_mixedInto_b71
  refine j_iload (pc := 71) hC 2 rfl dX1_mixedInto_71 ?_
  refine j_aload_n (pc := 73) hC 0 rfl dX1_mixedInto_73 ?_
  refine j_get (pc := 74) hC flRX1_16 0 rfl rfl dX1_mixedInto_74 ?_
  refine j_get (pc := 77) hC flRX1_43 2 rfl rfl dX1_mixedInto_77 ?_
  refine j_icmpge (pc := 80) hC 104 (by decide) dX1_mixedInto_80 ?_ ?_
  · refine j_lload_n (pc := 104) hC 1 rfl dX1_mixedInto_104 ?_
    exact j_lret (pc := 105) hC (fun _ => 0) rfl rfl dX1_mixedInto_105
  · refine j_lload_n (pc := 83) hC 1 rfl dX1_mixedInto_83 ?_
    refine j_aload_n (pc := 84) hC 0 rfl dX1_mixedInto_84 ?_
    refine j_get (pc := 85) hC flRX1_16 0 rfl rfl dX1_mixedInto_85 ?_
    refine j_iload (pc := 88) hC 2 rfl dX1_mixedInto_88 ?_
    refine j_callV (pc := 90) hC csRX1_74 [.int p.2] (mX3_digit (jl X) (jD X) (jy X) (jv X) h_a_below h_a_below_limbs p.2 v_a_below_size f_a_below_limbs) [2, 4] rfl (by decide +kernel) 2 rfl ⟨_, _, rfl⟩ ⟨by decide, by decide, rfl, rfl, by decide, by decide⟩ rfl rfl (Nat.le_of_ble_eq_true rfl) dX1_mixedInto_90 (jki0 (fun _ => rfl) (fun _ _ => rfl) (fun r4 => ?_))
    refine j_i2l (pc := 93) hC dX1_mixedInto_93 ?_
    refine j_callN (pc := 94) hC csRX1_69 [.long p.1, .long (r4.toInt64)] (mX8_mixed (jl X) (jD X) (jy X) (jv X) p.1 (r4.toInt64)) [] rfl (by decide +kernel) ⟨by decide, by decide, rfl, rfl, by decide, by decide⟩ rfl rfl (Nat.le_of_ble_eq_true rfl) dX1_mixedInto_94 (jkl0 (fun _ => rfl) (fun _ _ => rfl) (fun r5 => ?_))
    refine j_lstore_n (pc := 97) hC (lv' := [(3, .long r5), (0, .ref h_a), (5, .int p.2)]) rfl (by decide) dX1_mixedInto_97 ?_
    refine j_iinc (pc := 98) hC 2 rfl ki_1 (fun x6 => (rfl : @Eq (List (Nat × Value)) _ [(5, .int x6), (3, .long r5), (0, .ref h_a)])) (by decide) dX1_mixedInto_98 (fun x6 => ?_)
    refine j_goto (pc := 101) hC 71 (by decide) dX1_mixedInto_101 ?_
    refine j_lv (pc := 71) [2, 1, 0] rfl ?_
    exact hrec71 (r5, x6)
set_option maxHeartbeats 4000000 in
set_option maxRecDepth 100000 in
theorem jX1_mixedInto_b71 {X : jX} (hC : jC X cX1_mixedInto 6 RX1 rX1_mixedInto (some .long)) (u : Nat) (h_a h_a_above h_a_below h_a_above_limbs h_a_below_limbs : Nat) (p1 : Int64) (v_a_signum v_a_above_size v_a_below_size : Int32) (f_a_above_limbs f_a_below_limbs : Nat → Int32) (p : Int64 × Int32) : jJ X 6 0 0 (jQf X 0 0 (fun r => some (.long r)) (fun _ _ => [(h_a, .inr (1, [.int v_a_signum, .ref h_a_above, .ref h_a_below])), (h_a_above, .inr (3, [.ref h_a_above_limbs, .int v_a_above_size])), (h_a_below, .inr (3, [.ref h_a_below_limbs, .int v_a_below_size])), (h_a_above_limbs, .inl (jy X 0, 6, .inl f_a_above_limbs)), (h_a_below_limbs, .inl (jy X 0, 6, .inl f_a_below_limbs))])) 71 [(0, .ref h_a), (3, .long p.1), (5, .int p.2)] [] [(h_a, .inr (1, [.int v_a_signum, .ref h_a_above, .ref h_a_below])), (h_a_above, .inr (3, [.ref h_a_above_limbs, .int v_a_above_size])), (h_a_below, .inr (3, [.ref h_a_below_limbs, .int v_a_below_size])), (h_a_above_limbs, .inl (jy X 0, 6, .inl f_a_above_limbs)), (h_a_below_limbs, .inl (jy X 0, 6, .inl f_a_below_limbs))] (jfix (fX1_mixedInto_b71 u p1 v_a_signum v_a_above_size v_a_below_size f_a_above_limbs f_a_below_limbs) u p) :=
  j_fix (fun rec71 hrec71 p => jX1_mixedInto_b71_step hC u h_a h_a_above h_a_below h_a_above_limbs h_a_below_limbs p1 v_a_signum v_a_above_size v_a_below_size f_a_above_limbs f_a_below_limbs rec71 hrec71 p) u p
set_option maxHeartbeats 4000000 in
set_option maxRecDepth 100000 in
theorem jX1_mixedInto_b35_step {X : jX} (hC : jC X cX1_mixedInto 6 RX1 rX1_mixedInto (some .long)) (u : Nat) (h_a h_a_above h_a_below h_a_above_limbs h_a_below_limbs : Nat) (p1 : Int64) (v_a_signum v_a_above_size v_a_below_size : Int32) (f_a_above_limbs f_a_below_limbs : Nat → Int32) (rec35 : (Int64 × Int32) → Option (Int64)) (hrec35 : ∀ p : Int64 × Int32, jJ X 6 0 0 (jQf X 0 0 (fun r => some (.long r)) (fun _ _ => [(h_a, .inr (1, [.int v_a_signum, .ref h_a_above, .ref h_a_below])), (h_a_above, .inr (3, [.ref h_a_above_limbs, .int v_a_above_size])), (h_a_below, .inr (3, [.ref h_a_below_limbs, .int v_a_below_size])), (h_a_above_limbs, .inl (jy X 0, 6, .inl f_a_above_limbs)), (h_a_below_limbs, .inl (jy X 0, 6, .inl f_a_below_limbs))])) 35 [(0, .ref h_a), (3, .long p.1), (5, .int p.2)] [] [(h_a, .inr (1, [.int v_a_signum, .ref h_a_above, .ref h_a_below])), (h_a_above, .inr (3, [.ref h_a_above_limbs, .int v_a_above_size])), (h_a_below, .inr (3, [.ref h_a_below_limbs, .int v_a_below_size])), (h_a_above_limbs, .inl (jy X 0, 6, .inl f_a_above_limbs)), (h_a_below_limbs, .inl (jy X 0, 6, .inl f_a_below_limbs))] (rec35 p)) (p : Int64 × Int32) : jJ X 6 0 0 (jQf X 0 0 (fun r => some (.long r)) (fun _ _ => [(h_a, .inr (1, [.int v_a_signum, .ref h_a_above, .ref h_a_below])), (h_a_above, .inr (3, [.ref h_a_above_limbs, .int v_a_above_size])), (h_a_below, .inr (3, [.ref h_a_below_limbs, .int v_a_below_size])), (h_a_above_limbs, .inl (jy X 0, 6, .inl f_a_above_limbs)), (h_a_below_limbs, .inl (jy X 0, 6, .inl f_a_below_limbs))])) 35 [(0, .ref h_a), (3, .long p.1), (5, .int p.2)] [] [(h_a, .inr (1, [.int v_a_signum, .ref h_a_above, .ref h_a_below])), (h_a_above, .inr (3, [.ref h_a_above_limbs, .int v_a_above_size])), (h_a_below, .inr (3, [.ref h_a_below_limbs, .int v_a_below_size])), (h_a_above_limbs, .inl (jy X 0, 6, .inl f_a_above_limbs)), (h_a_below_limbs, .inl (jy X 0, 6, .inl f_a_below_limbs))] (fX1_mixedInto_b35 u p1 v_a_signum v_a_above_size v_a_below_size f_a_above_limbs f_a_below_limbs rec35 p) := by
  unfold fX1_mixedInto_b35
  refine j_iload (pc := 35) hC 2 rfl dX1_mixedInto_35 ?_
  refine j_aload_n (pc := 37) hC 0 rfl dX1_mixedInto_37 ?_
  refine j_get (pc := 38) hC flRX1_10 0 rfl rfl dX1_mixedInto_38 ?_
  refine j_get (pc := 41) hC flRX1_43 1 rfl rfl dX1_mixedInto_41 ?_
  refine j_icmpge (pc := 44) hC 68 (by decide) dX1_mixedInto_44 ?_ ?_
  · refine j_iconst (pc := 68) hC ki_0 dX1_mixedInto_68 ?_
    refine j_istore (pc := 69) hC (lv' := [(5, .int (0 : Int32)), (0, .ref h_a), (3, .long p.1)]) rfl (by decide) dX1_mixedInto_69 ?_
    refine j_lv (pc := 71) [1, 2, 0] rfl ?_
    exact jX1_mixedInto_b71 hC u h_a h_a_above h_a_below h_a_above_limbs h_a_below_limbs p1 v_a_signum v_a_above_size v_a_below_size f_a_above_limbs f_a_below_limbs (p.1, (0 : Int32))
  · refine j_lload_n (pc := 47) hC 1 rfl dX1_mixedInto_47 ?_
    refine j_aload_n (pc := 48) hC 0 rfl dX1_mixedInto_48 ?_
    refine j_get (pc := 49) hC flRX1_10 0 rfl rfl dX1_mixedInto_49 ?_
    refine j_iload (pc := 52) hC 2 rfl dX1_mixedInto_52 ?_
    refine j_callV (pc := 54) hC csRX1_74 [.int p.2] (mX3_digit (jl X) (jD X) (jy X) (jv X) h_a_above h_a_above_limbs p.2 v_a_above_size f_a_above_limbs) [1, 3] rfl (by decide +kernel) 1 rfl ⟨_, _, rfl⟩ ⟨by decide, by decide, rfl, rfl, by decide, by decide⟩ rfl rfl (Nat.le_of_ble_eq_true rfl) dX1_mixedInto_54 (jki0 (fun _ => rfl) (fun _ _ => rfl) (fun r7 => ?_))
    refine j_i2l (pc := 57) hC dX1_mixedInto_57 ?_
    refine j_callN (pc := 58) hC csRX1_69 [.long p.1, .long (r7.toInt64)] (mX8_mixed (jl X) (jD X) (jy X) (jv X) p.1 (r7.toInt64)) [] rfl (by decide +kernel) ⟨by decide, by decide, rfl, rfl, by decide, by decide⟩ rfl rfl (Nat.le_of_ble_eq_true rfl) dX1_mixedInto_58 (jkl0 (fun _ => rfl) (fun _ _ => rfl) (fun r8 => ?_))
    refine j_lstore_n (pc := 61) hC (lv' := [(3, .long r8), (0, .ref h_a), (5, .int p.2)]) rfl (by decide) dX1_mixedInto_61 ?_
    refine j_iinc (pc := 62) hC 2 rfl ki_1 (fun x9 => (rfl : @Eq (List (Nat × Value)) _ [(5, .int x9), (3, .long r8), (0, .ref h_a)])) (by decide) dX1_mixedInto_62 (fun x9 => ?_)
    refine j_goto (pc := 65) hC 35 (by decide) dX1_mixedInto_65 ?_
    refine j_lv (pc := 35) [2, 1, 0] rfl ?_
    exact hrec35 (r8, x9)
set_option maxHeartbeats 4000000 in
set_option maxRecDepth 100000 in
theorem jX1_mixedInto_b35 {X : jX} (hC : jC X cX1_mixedInto 6 RX1 rX1_mixedInto (some .long)) (u : Nat) (h_a h_a_above h_a_below h_a_above_limbs h_a_below_limbs : Nat) (p1 : Int64) (v_a_signum v_a_above_size v_a_below_size : Int32) (f_a_above_limbs f_a_below_limbs : Nat → Int32) (p : Int64 × Int32) : jJ X 6 0 0 (jQf X 0 0 (fun r => some (.long r)) (fun _ _ => [(h_a, .inr (1, [.int v_a_signum, .ref h_a_above, .ref h_a_below])), (h_a_above, .inr (3, [.ref h_a_above_limbs, .int v_a_above_size])), (h_a_below, .inr (3, [.ref h_a_below_limbs, .int v_a_below_size])), (h_a_above_limbs, .inl (jy X 0, 6, .inl f_a_above_limbs)), (h_a_below_limbs, .inl (jy X 0, 6, .inl f_a_below_limbs))])) 35 [(0, .ref h_a), (3, .long p.1), (5, .int p.2)] [] [(h_a, .inr (1, [.int v_a_signum, .ref h_a_above, .ref h_a_below])), (h_a_above, .inr (3, [.ref h_a_above_limbs, .int v_a_above_size])), (h_a_below, .inr (3, [.ref h_a_below_limbs, .int v_a_below_size])), (h_a_above_limbs, .inl (jy X 0, 6, .inl f_a_above_limbs)), (h_a_below_limbs, .inl (jy X 0, 6, .inl f_a_below_limbs))] (jfix (fX1_mixedInto_b35 u p1 v_a_signum v_a_above_size v_a_below_size f_a_above_limbs f_a_below_limbs) u p) :=
  j_fix (fun rec35 hrec35 p => jX1_mixedInto_b35_step hC u h_a h_a_above h_a_below h_a_above_limbs h_a_below_limbs p1 v_a_signum v_a_above_size v_a_below_size f_a_above_limbs f_a_below_limbs rec35 hrec35 p) u p
set_option maxHeartbeats 4000000 in
set_option maxRecDepth 100000 in
theorem jX1_mixedInto {X : jX} (hC : jC X cX1_mixedInto 6 RX1 rX1_mixedInto (some .long)) (u : Nat) (h_a h_a_above h_a_below h_a_above_limbs h_a_below_limbs : Nat) (p1 : Int64) (v_a_signum v_a_above_size v_a_below_size : Int32) (f_a_above_limbs f_a_below_limbs : Nat → Int32) : jJ X 6 0 0 (jQf X 0 0 (fun r => some (.long r)) (fun _ _ => [(h_a, .inr (1, [.int v_a_signum, .ref h_a_above, .ref h_a_below])), (h_a_above, .inr (3, [.ref h_a_above_limbs, .int v_a_above_size])), (h_a_below, .inr (3, [.ref h_a_below_limbs, .int v_a_below_size])), (h_a_above_limbs, .inl (jy X 0, 6, .inl f_a_above_limbs)), (h_a_below_limbs, .inl (jy X 0, 6, .inl f_a_below_limbs))])) 0 [(0, .ref h_a), (1, .long p1)] [] [(h_a, .inr (1, [.int v_a_signum, .ref h_a_above, .ref h_a_below])), (h_a_above, .inr (3, [.ref h_a_above_limbs, .int v_a_above_size])), (h_a_below, .inr (3, [.ref h_a_below_limbs, .int v_a_below_size])), (h_a_above_limbs, .inl (jy X 0, 6, .inl f_a_above_limbs)), (h_a_below_limbs, .inl (jy X 0, 6, .inl f_a_below_limbs))] (fX1_mixedInto u p1 v_a_signum v_a_above_size v_a_below_size f_a_above_limbs f_a_below_limbs) := by
  unfold fX1_mixedInto
  refine j_lload_n (pc := 0) hC 1 rfl dX1_mixedInto_0 ?_
  refine j_aload_n (pc := 1) hC 0 rfl dX1_mixedInto_1 ?_
  refine j_get (pc := 2) hC flRX1_39 0 rfl rfl dX1_mixedInto_2 ?_
  refine j_i2l (pc := 5) hC dX1_mixedInto_5 ?_
  refine j_callN (pc := 6) hC csRX1_69 [.long p1, .long (v_a_signum.toInt64)] (mX8_mixed (jl X) (jD X) (jy X) (jv X) p1 (v_a_signum.toInt64)) [] rfl (by decide +kernel) ⟨by decide, by decide, rfl, rfl, by decide, by decide⟩ rfl rfl (Nat.le_of_ble_eq_true rfl) dX1_mixedInto_6 (jkl0 (fun _ => rfl) (fun _ _ => rfl) (fun r1 => ?_))
  refine j_aload_n (pc := 9) hC 0 rfl dX1_mixedInto_9 ?_
  refine j_get (pc := 10) hC flRX1_10 0 rfl rfl dX1_mixedInto_10 ?_
  refine j_get (pc := 13) hC flRX1_43 1 rfl rfl dX1_mixedInto_13 ?_
  refine j_i2l (pc := 16) hC dX1_mixedInto_16 ?_
  refine j_callN (pc := 17) hC csRX1_69 [.long r1, .long (v_a_above_size.toInt64)] (mX8_mixed (jl X) (jD X) (jy X) (jv X) r1 (v_a_above_size.toInt64)) [] rfl (by decide +kernel) ⟨by decide, by decide, rfl, rfl, by decide, by decide⟩ rfl rfl (Nat.le_of_ble_eq_true rfl) dX1_mixedInto_17 (jkl0 (fun _ => rfl) (fun _ _ => rfl) (fun r2 => ?_))
  refine j_aload_n (pc := 20) hC 0 rfl dX1_mixedInto_20 ?_
  refine j_get (pc := 21) hC flRX1_16 0 rfl rfl dX1_mixedInto_21 ?_
  refine j_get (pc := 24) hC flRX1_43 2 rfl rfl dX1_mixedInto_24 ?_
  refine j_i2l (pc := 27) hC dX1_mixedInto_27 ?_
  refine j_callN (pc := 28) hC csRX1_69 [.long r2, .long (v_a_below_size.toInt64)] (mX8_mixed (jl X) (jD X) (jy X) (jv X) r2 (v_a_below_size.toInt64)) [] rfl (by decide +kernel) ⟨by decide, by decide, rfl, rfl, by decide, by decide⟩ rfl rfl (Nat.le_of_ble_eq_true rfl) dX1_mixedInto_28 (jkl0 (fun _ => rfl) (fun _ _ => rfl) (fun r3 => ?_))
  refine j_lstore_n (pc := 31) hC (lv' := [(3, .long r3), (0, .ref h_a), (1, .long p1)]) rfl (by decide) dX1_mixedInto_31 ?_
  refine j_iconst (pc := 32) hC ki_0 dX1_mixedInto_32 ?_
  refine j_istore (pc := 33) hC (lv' := [(5, .int (0 : Int32)), (3, .long r3), (0, .ref h_a), (1, .long p1)]) rfl (by decide) dX1_mixedInto_33 ?_
  refine j_lv (pc := 35) [2, 1, 0] rfl ?_
  exact jX1_mixedInto_b35 hC u h_a h_a_above h_a_below h_a_above_limbs h_a_below_limbs p1 v_a_signum v_a_above_size v_a_below_size f_a_above_limbs f_a_below_limbs (r3, (0 : Int32))
set_option maxHeartbeats 4000000 in
set_option maxRecDepth 100000 in
theorem mX1_mixedInto (l : Launch) (D : va_G) (cy : Nat → ClassId) (ev : jE) (u : Nat) (h_a h_a_above h_a_below h_a_above_limbs h_a_below_limbs : Nat) (p1 : Int64) (v_a_signum v_a_above_size v_a_below_size : Int32) (f_a_above_limbs f_a_below_limbs : Nat → Int32) : jM l yX1_mixedInto cX1_mixedInto 6 (some .long) rX1_mixedInto [.ref h_a, .long p1] [(h_a, .inr (1, [.int v_a_signum, .ref h_a_above, .ref h_a_below])), (h_a_above, .inr (3, [.ref h_a_above_limbs, .int v_a_above_size])), (h_a_below, .inr (3, [.ref h_a_below_limbs, .int v_a_below_size])), (h_a_above_limbs, .inl (cy 0, 6, .inl f_a_above_limbs)), (h_a_below_limbs, .inl (cy 0, 6, .inl f_a_below_limbs))] (fun _ _ => [(h_a, .inr (1, [.int v_a_signum, .ref h_a_above, .ref h_a_below])), (h_a_above, .inr (3, [.ref h_a_above_limbs, .int v_a_above_size])), (h_a_below, .inr (3, [.ref h_a_below_limbs, .int v_a_below_size])), (h_a_above_limbs, .inl (cy 0, 6, .inl f_a_above_limbs)), (h_a_below_limbs, .inl (cy 0, 6, .inl f_a_below_limbs))]) (fun r => some (.long r)) (fX1_mixedInto u p1 v_a_signum v_a_above_size v_a_below_size f_a_above_limbs f_a_below_limbs) D cy ev := j_met RX1 (by decide +kernel) rfl (Nat.le_of_ble_eq_true rfl) (fun X hC _ hD hy hv => by subst hD; subst hy; subst hv; exact jX1_mixedInto hC u h_a h_a_above h_a_below h_a_above_limbs h_a_below_limbs p1 v_a_signum v_a_above_size v_a_below_size f_a_above_limbs f_a_below_limbs)
set_option maxHeartbeats 4000000 in
set_option maxRecDepth 100000 in
theorem jX2_shape {X : jX} (hC : jC X cX2_shape 2 RX2 rX2_shape none) (h_a h_a_told : Nat) (v_a_length v_a_weight v_a_place v_a_stiff v_a_angle v_a_pushes v_a_pace v_a_bend v_a_off v_a_range v_a_rise v_a_rounds v_a_heightThere : Int32) (f_a_told : Nat → Int32) : jJ X 2 0 0 (jQf X 0 0 (fun _ => none) (fun r _ => [(h_a, .inr (2, [.ref h_a_told, .int r.1, .int r.2.1, .int r.2.2.1, .int r.2.2.2.1, .int r.2.2.2.2.1, .int r.2.2.2.2.2, .int v_a_pace, .int v_a_bend, .int v_a_off, .int v_a_range, .int v_a_rise, .int v_a_rounds, .int v_a_heightThere])), (h_a_told, .inl (jy X 0, 13, .inl f_a_told))])) 0 [(0, .ref h_a)] [] [(h_a, .inr (2, [.ref h_a_told, .int v_a_length, .int v_a_weight, .int v_a_place, .int v_a_stiff, .int v_a_angle, .int v_a_pushes, .int v_a_pace, .int v_a_bend, .int v_a_off, .int v_a_range, .int v_a_rise, .int v_a_rounds, .int v_a_heightThere])), (h_a_told, .inl (jy X 0, 13, .inl f_a_told))] (fX2_shape v_a_length v_a_weight v_a_place v_a_stiff v_a_angle v_a_pushes f_a_told) := by
  unfold fX2_shape
  refine j_aload_n (pc := 0) hC 0 rfl dX2_shape_0 ?_
  refine j_get (pc := 1) hC flRX2_9 0 rfl rfl dX2_shape_1 ?_
  refine j_bipush (pc := 4) hC kb_11 dX2_shape_4 ?_
  refine j_iald (pc := 6) hC 1 rfl dX2_shape_6 ?_
  refine j_let (pc := 7) (fun x1 => ?_)
  refine j_istore_n (pc := 7) hC (lv' := [(1, .int x1), (0, .ref h_a)]) rfl (by decide) dX2_shape_7 ?_
  refine j_aload_n (pc := 8) hC 1 rfl dX2_shape_8 ?_
  refine j_aload_n (pc := 9) hC 1 rfl dX2_shape_9 ?_
  refine j_get (pc := 10) hC flRX2_9 0 rfl rfl dX2_shape_10 ?_
  refine j_iconst (pc := 13) hC ki_3 dX2_shape_13 ?_
  refine j_iald (pc := 14) hC 1 rfl dX2_shape_14 ?_
  refine j_let (pc := 15) (fun x2 => ?_)
  refine j_put (pc := 15) hC fpRX2_15 0 rfl rfl rfl (Nat.le_of_ble_eq_true rfl) dX2_shape_15 (ws' := [(h_a, .inr (2, [.ref h_a_told, .int x2, .int v_a_weight, .int v_a_place, .int v_a_stiff, .int v_a_angle, .int v_a_pushes, .int v_a_pace, .int v_a_bend, .int v_a_off, .int v_a_range, .int v_a_rise, .int v_a_rounds, .int v_a_heightThere])), (h_a_told, .inl (jy X 0, 13, .inl f_a_told))]) rfl ?_
  refine j_aload_n (pc := 18) hC 1 rfl dX2_shape_18 ?_
  refine j_aload_n (pc := 19) hC 1 rfl dX2_shape_19 ?_
  refine j_get (pc := 20) hC flRX2_9 0 rfl rfl dX2_shape_20 ?_
  refine j_iconst (pc := 23) hC ki_4 dX2_shape_23 ?_
  refine j_iald (pc := 24) hC 1 rfl dX2_shape_24 ?_
  refine j_let (pc := 25) (fun x3 => ?_)
  refine j_put (pc := 25) hC fpRX2_19 0 rfl rfl rfl (Nat.le_of_ble_eq_true rfl) dX2_shape_25 (ws' := [(h_a, .inr (2, [.ref h_a_told, .int x2, .int x3, .int v_a_place, .int v_a_stiff, .int v_a_angle, .int v_a_pushes, .int v_a_pace, .int v_a_bend, .int v_a_off, .int v_a_range, .int v_a_rise, .int v_a_rounds, .int v_a_heightThere])), (h_a_told, .inl (jy X 0, 13, .inl f_a_told))]) rfl ?_
  refine j_aload_n (pc := 28) hC 1 rfl dX2_shape_28 ?_
  refine j_aload_n (pc := 29) hC 1 rfl dX2_shape_29 ?_
  refine j_get (pc := 30) hC flRX2_9 0 rfl rfl dX2_shape_30 ?_
  refine j_iconst (pc := 33) hC ki_5 dX2_shape_33 ?_
  refine j_iald (pc := 34) hC 1 rfl dX2_shape_34 ?_
  refine j_let (pc := 35) (fun x4 => ?_)
  refine j_put (pc := 35) hC fpRX2_22 0 rfl rfl rfl (Nat.le_of_ble_eq_true rfl) dX2_shape_35 (ws' := [(h_a, .inr (2, [.ref h_a_told, .int x2, .int x3, .int x4, .int v_a_stiff, .int v_a_angle, .int v_a_pushes, .int v_a_pace, .int v_a_bend, .int v_a_off, .int v_a_range, .int v_a_rise, .int v_a_rounds, .int v_a_heightThere])), (h_a_told, .inl (jy X 0, 13, .inl f_a_told))]) rfl ?_
  refine j_aload_n (pc := 38) hC 1 rfl dX2_shape_38 ?_
  refine j_aload_n (pc := 39) hC 1 rfl dX2_shape_39 ?_
  refine j_get (pc := 40) hC flRX2_9 0 rfl rfl dX2_shape_40 ?_
  refine j_bipush (pc := 43) hC kb_7 dX2_shape_43 ?_
  refine j_iald (pc := 45) hC 1 rfl dX2_shape_45 ?_
  refine j_let (pc := 46) (fun x5 => ?_)
  refine j_put (pc := 46) hC fpRX2_25 0 rfl rfl rfl (Nat.le_of_ble_eq_true rfl) dX2_shape_46 (ws' := [(h_a, .inr (2, [.ref h_a_told, .int x2, .int x3, .int x4, .int x5, .int v_a_angle, .int v_a_pushes, .int v_a_pace, .int v_a_bend, .int v_a_off, .int v_a_range, .int v_a_rise, .int v_a_rounds, .int v_a_heightThere])), (h_a_told, .inl (jy X 0, 13, .inl f_a_told))]) rfl ?_
  refine j_aload_n (pc := 49) hC 1 rfl dX2_shape_49 ?_
  refine j_aload_n (pc := 50) hC 1 rfl dX2_shape_50 ?_
  refine j_get (pc := 51) hC flRX2_9 0 rfl rfl dX2_shape_51 ?_
  refine j_bipush (pc := 54) hC kb_12 dX2_shape_54 ?_
  refine j_iald (pc := 56) hC 1 rfl dX2_shape_56 ?_
  refine j_let (pc := 57) (fun x6 => ?_)
  refine j_put (pc := 57) hC fpRX2_28 0 rfl rfl rfl (Nat.le_of_ble_eq_true rfl) dX2_shape_57 (ws' := [(h_a, .inr (2, [.ref h_a_told, .int x2, .int x3, .int x4, .int x5, .int x6, .int v_a_pushes, .int v_a_pace, .int v_a_bend, .int v_a_off, .int v_a_range, .int v_a_rise, .int v_a_rounds, .int v_a_heightThere])), (h_a_told, .inl (jy X 0, 13, .inl f_a_told))]) rfl ?_
  refine j_aload_n (pc := 60) hC 1 rfl dX2_shape_60 ?_
  refine j_bipush (pc := 61) hC kb_10 dX2_shape_61 ?_
  refine j_aload_n (pc := 63) hC 1 rfl dX2_shape_63 ?_
  refine j_get (pc := 64) hC flRX2_9 0 rfl rfl dX2_shape_64 ?_
  refine j_iconst (pc := 67) hC ki_2 dX2_shape_67 ?_
  refine j_iald (pc := 68) hC 1 rfl dX2_shape_68 ?_
  refine j_iadd (pc := 69) hC dX2_shape_69 ?_
  refine j_let (pc := 70) (fun x7 => ?_)
  refine j_put (pc := 70) hC fpRX2_31 0 rfl rfl rfl (Nat.le_of_ble_eq_true rfl) dX2_shape_70 (ws' := [(h_a, .inr (2, [.ref h_a_told, .int x2, .int x3, .int x4, .int x5, .int x6, .int x7, .int v_a_pace, .int v_a_bend, .int v_a_off, .int v_a_range, .int v_a_rise, .int v_a_rounds, .int v_a_heightThere])), (h_a_told, .inl (jy X 0, 13, .inl f_a_told))]) rfl ?_
  refine j_aload_n (pc := 73) hC 1 rfl dX2_shape_73 ?_
  refine j_get (pc := 74) hC flRX2_9 0 rfl rfl dX2_shape_74 ?_
  refine j_bipush (pc := 77) hC kb_10 dX2_shape_77 ?_
  refine j_iald (pc := 79) hC 1 rfl dX2_shape_79 ?_
  refine j_let (pc := 80) (fun x8 => ?_)
  refine j_swc (pc := 80) hC (1 : Int32) 120 (by decide) (by decide) rfl (by decide) dX2_shape_80 ?_ (fun c10 => ?_)
  · refine j_aload_n (pc := 120) hC 1 rfl dX2_shape_120 ?_
    refine j_iconst (pc := 121) hC ki_1 dX2_shape_121 ?_
    refine j_aload_n (pc := 122) hC 1 rfl dX2_shape_122 ?_
    refine j_get (pc := 123) hC flRX2_31 0 rfl rfl dX2_shape_123 ?_
    refine j_iload_n (pc := 126) hC 0 rfl dX2_shape_126 ?_
    refine j_isub (pc := 127) hC dX2_shape_127 ?_
    refine j_imax (pc := 128) hC wm467 wm468 wm84 wm469 (by decide) (Nat.le_of_ble_eq_true rfl) ⟨Nat.le_of_ble_eq_true rfl, Nat.le_of_ble_eq_true rfl⟩ dX2_shape_128 ?_
    refine j_let (pc := 131) (fun x9 => ?_)
    refine j_put (pc := 131) hC fpRX2_31 0 rfl rfl rfl (Nat.le_of_ble_eq_true rfl) dX2_shape_131 (ws' := [(h_a, .inr (2, [.ref h_a_told, .int x2, .int x3, .int x4, .int x5, .int x6, .int x9, .int v_a_pace, .int v_a_bend, .int v_a_off, .int v_a_range, .int v_a_rise, .int v_a_rounds, .int v_a_heightThere])), (h_a_told, .inl (jy X 0, 13, .inl f_a_told))]) rfl ?_
    refine j_goto (pc := 134) hC 235 (by decide) dX2_shape_134 ?_
    exact j_vret (pc := 235) hC (fun _ => 0) rfl rfl dX2_shape_235
  refine j_swc (pc := 80) hC (2 : Int32) 137 (by decide) (by decide) rfl (by decide) dX2_shape_80 ?_ (fun c12 => ?_)
  · refine j_aload_n (pc := 137) hC 1 rfl dX2_shape_137 ?_
    refine j_iconst (pc := 138) hC ki_1 dX2_shape_138 ?_
    refine j_aload_n (pc := 139) hC 1 rfl dX2_shape_139 ?_
    refine j_get (pc := 140) hC flRX2_25 0 rfl rfl dX2_shape_140 ?_
    refine j_iconst (pc := 143) hC ki_2 dX2_shape_143 ?_
    refine j_idivc (pc := 144) hC (by decide) dX2_shape_144 ?_
    refine j_imax (pc := 145) hC wm467 wm468 wm84 wm469 (by decide) (Nat.le_of_ble_eq_true rfl) ⟨Nat.le_of_ble_eq_true rfl, Nat.le_of_ble_eq_true rfl⟩ dX2_shape_145 ?_
    refine j_let (pc := 148) (fun x11 => ?_)
    refine j_put (pc := 148) hC fpRX2_25 0 rfl rfl rfl (Nat.le_of_ble_eq_true rfl) dX2_shape_148 (ws' := [(h_a, .inr (2, [.ref h_a_told, .int x2, .int x3, .int x4, .int x11, .int x6, .int x7, .int v_a_pace, .int v_a_bend, .int v_a_off, .int v_a_range, .int v_a_rise, .int v_a_rounds, .int v_a_heightThere])), (h_a_told, .inl (jy X 0, 13, .inl f_a_told))]) rfl ?_
    refine j_goto (pc := 151) hC 235 (by decide) dX2_shape_151 ?_
    exact j_vret (pc := 235) hC (fun _ => 0) rfl rfl dX2_shape_235
  refine j_swc (pc := 80) hC (3 : Int32) 154 (by decide) (by decide) rfl (by decide) dX2_shape_80 ?_ (fun c14 => ?_)
  · refine j_aload_n (pc := 154) hC 1 rfl dX2_shape_154 ?_
    refine j_bipush (pc := 155) hC kb_99 dX2_shape_155 ?_
    refine j_iconst (pc := 157) hC ki_2 dX2_shape_157 ?_
    refine j_aload_n (pc := 158) hC 1 rfl dX2_shape_158 ?_
    refine j_get (pc := 159) hC flRX2_25 0 rfl rfl dX2_shape_159 ?_
    refine j_imul (pc := 162) hC dX2_shape_162 ?_
    refine j_imin (pc := 163) hC wm470 wm471 wm84 wm472 (by decide) (Nat.le_of_ble_eq_true rfl) ⟨Nat.le_of_ble_eq_true rfl, Nat.le_of_ble_eq_true rfl⟩ dX2_shape_163 ?_
    refine j_let (pc := 166) (fun x13 => ?_)
    refine j_put (pc := 166) hC fpRX2_25 0 rfl rfl rfl (Nat.le_of_ble_eq_true rfl) dX2_shape_166 (ws' := [(h_a, .inr (2, [.ref h_a_told, .int x2, .int x3, .int x4, .int x13, .int x6, .int x7, .int v_a_pace, .int v_a_bend, .int v_a_off, .int v_a_range, .int v_a_rise, .int v_a_rounds, .int v_a_heightThere])), (h_a_told, .inl (jy X 0, 13, .inl f_a_told))]) rfl ?_
    refine j_goto (pc := 169) hC 235 (by decide) dX2_shape_169 ?_
    exact j_vret (pc := 235) hC (fun _ => 0) rfl rfl dX2_shape_235
  refine j_swc (pc := 80) hC (4 : Int32) 172 (by decide) (by decide) rfl (by decide) dX2_shape_80 ?_ (fun c16 => ?_)
  · refine j_aload_n (pc := 172) hC 1 rfl dX2_shape_172 ?_
    refine j_bipush (pc := 173) hC kb_6 dX2_shape_173 ?_
    refine j_aload_n (pc := 175) hC 1 rfl dX2_shape_175 ?_
    refine j_get (pc := 176) hC flRX2_28 0 rfl rfl dX2_shape_176 ?_
    refine j_iconst (pc := 179) hC ki_1 dX2_shape_179 ?_
    refine j_iadd (pc := 180) hC dX2_shape_180 ?_
    refine j_imin (pc := 181) hC wm470 wm471 wm84 wm472 (by decide) (Nat.le_of_ble_eq_true rfl) ⟨Nat.le_of_ble_eq_true rfl, Nat.le_of_ble_eq_true rfl⟩ dX2_shape_181 ?_
    refine j_let (pc := 184) (fun x15 => ?_)
    refine j_put (pc := 184) hC fpRX2_28 0 rfl rfl rfl (Nat.le_of_ble_eq_true rfl) dX2_shape_184 (ws' := [(h_a, .inr (2, [.ref h_a_told, .int x2, .int x3, .int x4, .int x5, .int x15, .int x7, .int v_a_pace, .int v_a_bend, .int v_a_off, .int v_a_range, .int v_a_rise, .int v_a_rounds, .int v_a_heightThere])), (h_a_told, .inl (jy X 0, 13, .inl f_a_told))]) rfl ?_
    refine j_goto (pc := 187) hC 235 (by decide) dX2_shape_187 ?_
    exact j_vret (pc := 235) hC (fun _ => 0) rfl rfl dX2_shape_235
  refine j_swc (pc := 80) hC (5 : Int32) 190 (by decide) (by decide) rfl (by decide) dX2_shape_80 ?_ (fun c18 => ?_)
  · refine j_aload_n (pc := 190) hC 1 rfl dX2_shape_190 ?_
    refine j_iconst (pc := 191) hC ki_1 dX2_shape_191 ?_
    refine j_aload_n (pc := 192) hC 1 rfl dX2_shape_192 ?_
    refine j_get (pc := 193) hC flRX2_31 0 rfl rfl dX2_shape_193 ?_
    refine j_iload_n (pc := 196) hC 0 rfl dX2_shape_196 ?_
    refine j_isub (pc := 197) hC dX2_shape_197 ?_
    refine j_imax (pc := 198) hC wm467 wm468 wm84 wm469 (by decide) (Nat.le_of_ble_eq_true rfl) ⟨Nat.le_of_ble_eq_true rfl, Nat.le_of_ble_eq_true rfl⟩ dX2_shape_198 ?_
    refine j_let (pc := 201) (fun x17 => ?_)
    refine j_put (pc := 201) hC fpRX2_31 0 rfl rfl rfl (Nat.le_of_ble_eq_true rfl) dX2_shape_201 (ws' := [(h_a, .inr (2, [.ref h_a_told, .int x2, .int x3, .int x4, .int x5, .int x6, .int x17, .int v_a_pace, .int v_a_bend, .int v_a_off, .int v_a_range, .int v_a_rise, .int v_a_rounds, .int v_a_heightThere])), (h_a_told, .inl (jy X 0, 13, .inl f_a_told))]) rfl ?_
    refine j_aload_n (pc := 204) hC 1 rfl dX2_shape_204 ?_
    refine j_iconst (pc := 205) hC ki_0 dX2_shape_205 ?_
    refine j_put (pc := 206) hC fpRX2_15 0 rfl rfl rfl (Nat.le_of_ble_eq_true rfl) dX2_shape_206 (ws' := [(h_a, .inr (2, [.ref h_a_told, .int (0 : Int32), .int x3, .int x4, .int x5, .int x6, .int x17, .int v_a_pace, .int v_a_bend, .int v_a_off, .int v_a_range, .int v_a_rise, .int v_a_rounds, .int v_a_heightThere])), (h_a_told, .inl (jy X 0, 13, .inl f_a_told))]) rfl ?_
    refine j_aload_n (pc := 209) hC 1 rfl dX2_shape_209 ?_
    refine j_iconst (pc := 210) hC ki_0 dX2_shape_210 ?_
    refine j_put (pc := 211) hC fpRX2_19 0 rfl rfl rfl (Nat.le_of_ble_eq_true rfl) dX2_shape_211 (ws' := [(h_a, .inr (2, [.ref h_a_told, .int (0 : Int32), .int (0 : Int32), .int x4, .int x5, .int x6, .int x17, .int v_a_pace, .int v_a_bend, .int v_a_off, .int v_a_range, .int v_a_rise, .int v_a_rounds, .int v_a_heightThere])), (h_a_told, .inl (jy X 0, 13, .inl f_a_told))]) rfl ?_
    refine j_aload_n (pc := 214) hC 1 rfl dX2_shape_214 ?_
    refine j_iconst (pc := 215) hC ki_0 dX2_shape_215 ?_
    refine j_put (pc := 216) hC fpRX2_22 0 rfl rfl rfl (Nat.le_of_ble_eq_true rfl) dX2_shape_216 (ws' := [(h_a, .inr (2, [.ref h_a_told, .int (0 : Int32), .int (0 : Int32), .int (0 : Int32), .int x5, .int x6, .int x17, .int v_a_pace, .int v_a_bend, .int v_a_off, .int v_a_range, .int v_a_rise, .int v_a_rounds, .int v_a_heightThere])), (h_a_told, .inl (jy X 0, 13, .inl f_a_told))]) rfl ?_
    refine j_goto (pc := 219) hC 235 (by decide) dX2_shape_219 ?_
    exact j_vret (pc := 235) hC (fun _ => 0) rfl rfl dX2_shape_235
  refine j_swc (pc := 80) hC (6 : Int32) 222 (by decide) (by decide) rfl (by decide) dX2_shape_80 ?_ (fun c20 => ?_)
  · refine j_aload_n (pc := 222) hC 1 rfl dX2_shape_222 ?_
    refine j_dup (pc := 223) hC rfl dX2_shape_223 ?_
    refine j_get (pc := 224) hC flRX2_19 0 rfl rfl dX2_shape_224 ?_
    refine j_iload_n (pc := 227) hC 0 rfl dX2_shape_227 ?_
    refine j_iadd (pc := 228) hC dX2_shape_228 ?_
    refine j_let (pc := 229) (fun x19 => ?_)
    refine j_put (pc := 229) hC fpRX2_19 0 rfl rfl rfl (Nat.le_of_ble_eq_true rfl) dX2_shape_229 (ws' := [(h_a, .inr (2, [.ref h_a_told, .int x2, .int x19, .int x4, .int x5, .int x6, .int x7, .int v_a_pace, .int v_a_bend, .int v_a_off, .int v_a_range, .int v_a_rise, .int v_a_rounds, .int v_a_heightThere])), (h_a_told, .inl (jy X 0, 13, .inl f_a_told))]) rfl ?_
    refine j_goto (pc := 232) hC 235 (by decide) dX2_shape_232 ?_
    exact j_vret (pc := 235) hC (fun _ => 0) rfl rfl dX2_shape_235
  refine j_swd (pc := 80) hC 235 (sw_1_6 c10 c12 c14 c16 c18 c20) (by decide) dX2_shape_80 ?_
  exact j_vret (pc := 235) hC (fun _ => 0) rfl rfl dX2_shape_235
set_option maxHeartbeats 4000000 in
set_option maxRecDepth 100000 in
theorem mX2_shape (l : Launch) (D : va_G) (cy : Nat → ClassId) (ev : jE) (h_a h_a_told : Nat) (v_a_length v_a_weight v_a_place v_a_stiff v_a_angle v_a_pushes v_a_pace v_a_bend v_a_off v_a_range v_a_rise v_a_rounds v_a_heightThere : Int32) (f_a_told : Nat → Int32) : jM l yX2_shape cX2_shape 2 none rX2_shape [.ref h_a] [(h_a, .inr (2, [.ref h_a_told, .int v_a_length, .int v_a_weight, .int v_a_place, .int v_a_stiff, .int v_a_angle, .int v_a_pushes, .int v_a_pace, .int v_a_bend, .int v_a_off, .int v_a_range, .int v_a_rise, .int v_a_rounds, .int v_a_heightThere])), (h_a_told, .inl (cy 0, 13, .inl f_a_told))] (fun r _ => [(h_a, .inr (2, [.ref h_a_told, .int r.1, .int r.2.1, .int r.2.2.1, .int r.2.2.2.1, .int r.2.2.2.2.1, .int r.2.2.2.2.2, .int v_a_pace, .int v_a_bend, .int v_a_off, .int v_a_range, .int v_a_rise, .int v_a_rounds, .int v_a_heightThere])), (h_a_told, .inl (cy 0, 13, .inl f_a_told))]) (fun _ => none) (fX2_shape v_a_length v_a_weight v_a_place v_a_stiff v_a_angle v_a_pushes f_a_told) D cy ev := j_met RX2 (by decide +kernel) rfl (Nat.le_of_ble_eq_true rfl) (fun X hC _ hD hy hv => by subst hD; subst hy; subst hv; exact jX2_shape hC h_a h_a_told v_a_length v_a_weight v_a_place v_a_stiff v_a_angle v_a_pushes v_a_pace v_a_bend v_a_off v_a_range v_a_rise v_a_rounds v_a_heightThere f_a_told)
set_option maxHeartbeats 4000000 in
set_option maxRecDepth 100000 in
theorem jX8_divided {X : jX} (hC : jC X cX8_divided 2 RX8 rX8_divided (some .int)) (p0 p1 : Int32) : jJ X 2 0 0 (jQf X 0 0 (fun r => some (.int r)) (fun _ _ => [])) 0 [(0, .int p0), (1, .int p1)] [] [] (fX8_divided p0 p1) := by
  unfold fX8_divided
  refine j_iload_n (pc := 0) hC 1 rfl dX8_divided_0 ?_
  refine j_ifne (pc := 1) hC 8 (by decide) dX8_divided_1 ?_ ?_
  · refine j_iload_n (pc := 8) hC 0 rfl dX8_divided_8 ?_
    refine j_iload_n (pc := 9) hC 1 rfl dX8_divided_9 ?_
    refine j_idiv (pc := 10) hC dX8_divided_10 ?_
    exact j_iret (pc := 11) hC (fun _ => 0) rfl rfl dX8_divided_11
  · refine j_iconst (pc := 4) hC ki_0 dX8_divided_4 ?_
    refine j_goto (pc := 5) hC 11 (by decide) dX8_divided_5 ?_
    exact j_iret (pc := 11) hC (fun _ => 0) rfl rfl dX8_divided_11
set_option maxHeartbeats 4000000 in
set_option maxRecDepth 100000 in
theorem mX8_divided (l : Launch) (D : va_G) (cy : Nat → ClassId) (ev : jE) (p0 p1 : Int32) : jM l yX8_divided cX8_divided 2 (some .int) rX8_divided [.int p0, .int p1] [] (fun _ _ => []) (fun r => some (.int r)) (fX8_divided p0 p1) D cy ev := j_met RX8 (by decide +kernel) rfl (Nat.le_of_ble_eq_true rfl) (fun X hC _ hD hy hv => by subst hD; subst hy; subst hv; exact jX8_divided hC p0 p1)
set_option maxHeartbeats 4000000 in
set_option maxRecDepth 100000 in
theorem jX2_leave_b71_step {X : jX} (hC : jC X cX2_leave 6 RX2 rX2_leave none) (u : Nat) (h_a h_a_told : Nat) (v_a_length v_a_weight v_a_place v_a_stiff v_a_angle v_a_pushes v_a_pace v_a_bend v_a_off v_a_range v_a_rise v_a_rounds v_a_heightThere : Int32) (f_a_told : Nat → Int32) (rec71 : (Int32 × Int32 × Int32 × Int32 × Int32 × Int32 × Int32 × Int32 × Int32 × Int32 × Int32 × Int32 × Int32) → Option (Int32 × Int32 × Int32 × Int32 × Int32 × Int32 × Int32 × Int32 × Int32)) (hrec71 : ∀ p : Int32 × Int32 × Int32 × Int32 × Int32 × Int32 × Int32 × Int32 × Int32 × Int32 × Int32 × Int32 × Int32, jJ X 6 0 0 (jQf X 0 0 (fun _ => none) (fun r _ => [(h_a, .inr (2, [.ref h_a_told, .int r.1, .int r.2.1, .int r.2.2.1, .int r.2.2.2.1, .int r.2.2.2.2.1, .int r.2.2.2.2.2.1, .int r.2.2.2.2.2.2.1, .int r.2.2.2.2.2.2.2.1, .int r.2.2.2.2.2.2.2.2, .int v_a_range, .int v_a_rise, .int v_a_rounds, .int v_a_heightThere])), (h_a_told, .inl (jy X 0, 13, .inl f_a_told))])) 71 [(0, .ref h_a), (2, .int p.1), (3, .int p.2.1), (4, .int p.2.2.1), (5, .int p.2.2.2.1)] [] [(h_a, .inr (2, [.ref h_a_told, .int p.2.2.2.2.1, .int p.2.2.2.2.2.1, .int p.2.2.2.2.2.2.1, .int p.2.2.2.2.2.2.2.1, .int p.2.2.2.2.2.2.2.2.1, .int p.2.2.2.2.2.2.2.2.2.1, .int p.2.2.2.2.2.2.2.2.2.2.1, .int p.2.2.2.2.2.2.2.2.2.2.2.1, .int p.2.2.2.2.2.2.2.2.2.2.2.2, .int v_a_range, .int v_a_rise, .int v_a_rounds, .int v_a_heightThere])), (h_a_told, .inl (jy X 0, 13, .inl f_a_told))] (rec71 p)) (p : Int32 × Int32 × Int32 × Int32 × Int32 × Int32 × Int32 × Int32 × Int32 × Int32 × Int32 × Int32 × Int32) : jJ X 6 0 0 (jQf X 0 0 (fun _ => none) (fun r _ => [(h_a, .inr (2, [.ref h_a_told, .int r.1, .int r.2.1, .int r.2.2.1, .int r.2.2.2.1, .int r.2.2.2.2.1, .int r.2.2.2.2.2.1, .int r.2.2.2.2.2.2.1, .int r.2.2.2.2.2.2.2.1, .int r.2.2.2.2.2.2.2.2, .int v_a_range, .int v_a_rise, .int v_a_rounds, .int v_a_heightThere])), (h_a_told, .inl (jy X 0, 13, .inl f_a_told))])) 71 [(0, .ref h_a), (2, .int p.1), (3, .int p.2.1), (4, .int p.2.2.1), (5, .int p.2.2.2.1)] [] [(h_a, .inr (2, [.ref h_a_told, .int p.2.2.2.2.1, .int p.2.2.2.2.2.1, .int p.2.2.2.2.2.2.1, .int p.2.2.2.2.2.2.2.1, .int p.2.2.2.2.2.2.2.2.1, .int p.2.2.2.2.2.2.2.2.2.1, .int p.2.2.2.2.2.2.2.2.2.2.1, .int p.2.2.2.2.2.2.2.2.2.2.2.1, .int p.2.2.2.2.2.2.2.2.2.2.2.2, .int v_a_range, .int v_a_rise, .int v_a_rounds, .int v_a_heightThere])), (h_a_told, .inl (jy X 0, 13, .inl f_a_told))] (fX2_leave_b71 u v_a_length v_a_weight v_a_place v_a_stiff v_a_angle v_a_pushes v_a_pace v_a_bend v_a_off f_a_told rec71 p) := by
  unfold fX2_leave_b71
  refine j_iload (pc := 71) hC 4 rfl dX2_leave_71 ?_
  refine j_aload_n (pc := 73) hC 0 rfl dX2_leave_73 ?_
  refine j_get (pc := 74) hC flRX2_31 0 rfl rfl dX2_leave_74 ?_
  refine j_icmpge (pc := 77) hC 153 (by decide) dX2_leave_77 ?_ ?_
  · refine j_aload_n (pc := 153) hC 0 rfl dX2_leave_153 ?_
    refine j_iload (pc := 154) hC 3 rfl dX2_leave_154 ?_
    refine j_aload_n (pc := 156) hC 0 rfl dX2_leave_156 ?_
    refine j_get (pc := 157) hC flRX2_49 0 rfl rfl dX2_leave_157 ?_
    refine j_aload_n (pc := 160) hC 0 rfl dX2_leave_160 ?_
    refine j_get (pc := 161) hC flRX2_25 0 rfl rfl dX2_leave_161 ?_
    refine j_imul (pc := 164) hC dX2_leave_164 ?_
    refine j_bipush (pc := 165) hC kb_50 dX2_leave_165 ?_
    refine j_idivc (pc := 167) hC (by decide) dX2_leave_167 ?_
    refine j_iadd (pc := 168) hC dX2_leave_168 ?_
    refine j_let (pc := 169) (fun x5 => ?_)
    refine j_put (pc := 169) hC fpRX2_52 0 rfl rfl rfl (Nat.le_of_ble_eq_true rfl) dX2_leave_169 (ws' := [(h_a, .inr (2, [.ref h_a_told, .int p.2.2.2.2.1, .int p.2.2.2.2.2.1, .int p.2.2.2.2.2.2.1, .int p.2.2.2.2.2.2.2.1, .int p.2.2.2.2.2.2.2.2.1, .int p.2.2.2.2.2.2.2.2.2.1, .int x5, .int p.2.2.2.2.2.2.2.2.2.2.2.1, .int p.2.2.2.2.2.2.2.2.2.2.2.2, .int v_a_range, .int v_a_rise, .int v_a_rounds, .int v_a_heightThere])), (h_a_told, .inl (jy X 0, 13, .inl f_a_told))]) rfl ?_
    refine j_aload_n (pc := 172) hC 0 rfl dX2_leave_172 ?_
    refine j_aload_n (pc := 173) hC 0 rfl dX2_leave_173 ?_
    refine j_get (pc := 174) hC flRX2_49 0 rfl rfl dX2_leave_174 ?_
    refine j_bipush (pc := 177) hC kb_10 dX2_leave_177 ?_
    refine j_icmpge (pc := 179) hC 192 (by decide) dX2_leave_179 ?_ ?_
    · refine j_iconst (pc := 192) hC ki_0 dX2_leave_192 ?_
      refine j_aload_n (pc := 193) hC 0 rfl dX2_leave_193 ?_
      refine j_get (pc := 194) hC flRX2_49 0 rfl rfl dX2_leave_194 ?_
      refine j_bipush (pc := 197) hC kb_30 dX2_leave_197 ?_
      refine j_isub (pc := 199) hC dX2_leave_199 ?_
      refine j_imax (pc := 200) hC wm467 wm468 wm84 wm469 (by decide) (Nat.le_of_ble_eq_true rfl) ⟨Nat.le_of_ble_eq_true rfl, Nat.le_of_ble_eq_true rfl⟩ dX2_leave_200 ?_
      refine j_let (pc := 203) (fun x6 => ?_)
      refine j_put (pc := 203) hC fpRX2_55 0 rfl rfl rfl (Nat.le_of_ble_eq_true rfl) dX2_leave_203 (ws' := [(h_a, .inr (2, [.ref h_a_told, .int p.2.2.2.2.1, .int p.2.2.2.2.2.1, .int p.2.2.2.2.2.2.1, .int p.2.2.2.2.2.2.2.1, .int p.2.2.2.2.2.2.2.2.1, .int p.2.2.2.2.2.2.2.2.2.1, .int x5, .int p.2.2.2.2.2.2.2.2.2.2.2.1, .int x6, .int v_a_range, .int v_a_rise, .int v_a_rounds, .int v_a_heightThere])), (h_a_told, .inl (jy X 0, 13, .inl f_a_told))]) rfl ?_
      exact j_vret (pc := 206) hC (fun _ => 0) rfl rfl dX2_leave_206
    · refine j_bipush (pc := 182) hC kb_10 dX2_leave_182 ?_
      refine j_aload_n (pc := 184) hC 0 rfl dX2_leave_184 ?_
      refine j_get (pc := 185) hC flRX2_49 0 rfl rfl dX2_leave_185 ?_
      refine j_isub (pc := 188) hC dX2_leave_188 ?_
      refine j_goto (pc := 189) hC 203 (by decide) dX2_leave_189 ?_
      refine j_let (pc := 203) (fun x7 => ?_)
      refine j_put (pc := 203) hC fpRX2_55 0 rfl rfl rfl (Nat.le_of_ble_eq_true rfl) dX2_leave_203 (ws' := [(h_a, .inr (2, [.ref h_a_told, .int p.2.2.2.2.1, .int p.2.2.2.2.2.1, .int p.2.2.2.2.2.2.1, .int p.2.2.2.2.2.2.2.1, .int p.2.2.2.2.2.2.2.2.1, .int p.2.2.2.2.2.2.2.2.2.1, .int x5, .int p.2.2.2.2.2.2.2.2.2.2.2.1, .int x7, .int v_a_range, .int v_a_rise, .int v_a_rounds, .int v_a_heightThere])), (h_a_told, .inl (jy X 0, 13, .inl f_a_told))]) rfl ?_
      exact j_vret (pc := 206) hC (fun _ => 0) rfl rfl dX2_leave_206
  · refine j_iload_n (pc := 80) hC 2 rfl dX2_leave_80 ?_
    refine j_iload_n (pc := 81) hC 1 rfl dX2_leave_81 ?_
    refine j_iadd (pc := 82) hC dX2_leave_82 ?_
    refine j_let (pc := 83) (fun x8 => ?_)
    refine j_istore_n (pc := 83) hC (lv' := [(3, .int x8), (0, .ref h_a), (2, .int p.1), (4, .int p.2.2.1), (5, .int p.2.2.2.1)]) rfl (by decide) dX2_leave_83 ?_
    refine j_iload_n (pc := 84) hC 0 rfl dX2_leave_84 ?_
    refine j_aload_n (pc := 85) hC 1 rfl dX2_leave_85 ?_
    refine j_get (pc := 86) hC flRX2_9 0 rfl rfl dX2_leave_86 ?_
    refine j_iconst (pc := 89) hC ki_0 dX2_leave_89 ?_
    refine j_iald (pc := 90) hC 1 rfl dX2_leave_90 ?_
    refine j_aload_n (pc := 91) hC 1 rfl dX2_leave_91 ?_
    refine j_get (pc := 92) hC flRX2_15 0 rfl rfl dX2_leave_92 ?_
    refine j_iadd (pc := 95) hC dX2_leave_95 ?_
    refine j_imul (pc := 96) hC dX2_leave_96 ?_
    refine j_aload_n (pc := 97) hC 1 rfl dX2_leave_97 ?_
    refine j_get (pc := 98) hC flRX2_9 0 rfl rfl dX2_leave_98 ?_
    refine j_iconst (pc := 101) hC ki_0 dX2_leave_101 ?_
    refine j_iald (pc := 102) hC 1 rfl dX2_leave_102 ?_
    refine j_callN (pc := 103) hC csRX2_46 [.int (x8 * ((f_a_told (0 : Int32).toNatClampNeg) + p.2.2.2.2.1)), .int (f_a_told (0 : Int32).toNatClampNeg)] (mX8_divided (jl X) (jD X) (jy X) (jv X) (x8 * ((f_a_told (0 : Int32).toNatClampNeg) + p.2.2.2.2.1)) (f_a_told (0 : Int32).toNatClampNeg)) [] rfl (by decide +kernel) ⟨by decide, by decide, rfl, rfl, by decide, by decide⟩ rfl rfl (Nat.le_of_ble_eq_true rfl) dX2_leave_103 (jki0 (fun _ => rfl) (fun _ _ => rfl) (fun r9 => ?_))
    refine j_istore (pc := 106) hC (lv' := [(4, .int r9), (3, .int x8), (0, .ref h_a), (2, .int p.1), (5, .int p.2.2.2.1)]) rfl (by decide) dX2_leave_106 ?_
    refine j_aload_n (pc := 108) hC 2 rfl dX2_leave_108 ?_
    refine j_dup (pc := 109) hC rfl dX2_leave_109 ?_
    refine j_get (pc := 110) hC flRX2_49 0 rfl rfl dX2_leave_110 ?_
    refine j_iload (pc := 113) hC 0 rfl dX2_leave_113 ?_
    refine j_bipush (pc := 115) hC kb_10 dX2_leave_115 ?_
    refine j_aload_n (pc := 117) hC 2 rfl dX2_leave_117 ?_
    refine j_get (pc := 118) hC flRX2_9 0 rfl rfl dX2_leave_118 ?_
    refine j_bipush (pc := 121) hC kb_8 dX2_leave_121 ?_
    refine j_iald (pc := 123) hC 1 rfl dX2_leave_123 ?_
    refine j_iadd (pc := 124) hC dX2_leave_124 ?_
    refine j_imul (pc := 125) hC dX2_leave_125 ?_
    refine j_bipush (pc := 126) hC kb_10 dX2_leave_126 ?_
    refine j_aload_n (pc := 128) hC 2 rfl dX2_leave_128 ?_
    refine j_get (pc := 129) hC flRX2_25 0 rfl rfl dX2_leave_129 ?_
    refine j_imul (pc := 132) hC dX2_leave_132 ?_
    refine j_callN (pc := 133) hC csRX2_46 [.int (r9 * ((10 : Int32) + (f_a_told (8 : Int32).toNatClampNeg))), .int ((10 : Int32) * p.2.2.2.2.2.2.2.1)] (mX8_divided (jl X) (jD X) (jy X) (jv X) (r9 * ((10 : Int32) + (f_a_told (8 : Int32).toNatClampNeg))) ((10 : Int32) * p.2.2.2.2.2.2.2.1)) [] rfl (by decide +kernel) ⟨by decide, by decide, rfl, rfl, by decide, by decide⟩ rfl rfl (Nat.le_of_ble_eq_true rfl) dX2_leave_133 (jki0 (fun _ => rfl) (fun _ _ => rfl) (fun r10 => ?_))
    refine j_aload_n (pc := 136) hC 2 rfl dX2_leave_136 ?_
    refine j_get (pc := 137) hC flRX2_49 0 rfl rfl dX2_leave_137 ?_
    refine j_isub (pc := 140) hC dX2_leave_140 ?_
    refine j_iconst (pc := 141) hC ki_3 dX2_leave_141 ?_
    refine j_idivc (pc := 142) hC (by decide) dX2_leave_142 ?_
    refine j_iadd (pc := 143) hC dX2_leave_143 ?_
    refine j_let (pc := 144) (fun x11 => ?_)
    refine j_put (pc := 144) hC fpRX2_49 0 rfl rfl rfl (Nat.le_of_ble_eq_true rfl) dX2_leave_144 (ws' := [(h_a, .inr (2, [.ref h_a_told, .int p.2.2.2.2.1, .int p.2.2.2.2.2.1, .int p.2.2.2.2.2.2.1, .int p.2.2.2.2.2.2.2.1, .int p.2.2.2.2.2.2.2.2.1, .int p.2.2.2.2.2.2.2.2.2.1, .int p.2.2.2.2.2.2.2.2.2.2.1, .int x11, .int p.2.2.2.2.2.2.2.2.2.2.2.2, .int v_a_range, .int v_a_rise, .int v_a_rounds, .int v_a_heightThere])), (h_a_told, .inl (jy X 0, 13, .inl f_a_told))]) rfl ?_
    refine j_iinc (pc := 147) hC 4 rfl ki_1 (fun x12 => (rfl : @Eq (List (Nat × Value)) _ [(5, .int x12), (4, .int r9), (3, .int x8), (0, .ref h_a), (2, .int p.1)])) (by decide) dX2_leave_147 (fun x12 => ?_)
    refine j_goto (pc := 150) hC 71 (by decide) dX2_leave_150 ?_
    refine j_lv (pc := 71) [3, 4, 2, 1, 0] rfl ?_
    exact hrec71 (p.1, x8, r9, x12, p.2.2.2.2.1, p.2.2.2.2.2.1, p.2.2.2.2.2.2.1, p.2.2.2.2.2.2.2.1, p.2.2.2.2.2.2.2.2.1, p.2.2.2.2.2.2.2.2.2.1, p.2.2.2.2.2.2.2.2.2.2.1, x11, p.2.2.2.2.2.2.2.2.2.2.2.2)
set_option maxHeartbeats 4000000 in
set_option maxRecDepth 100000 in
theorem jX2_leave_b71 {X : jX} (hC : jC X cX2_leave 6 RX2 rX2_leave none) (u : Nat) (h_a h_a_told : Nat) (v_a_length v_a_weight v_a_place v_a_stiff v_a_angle v_a_pushes v_a_pace v_a_bend v_a_off v_a_range v_a_rise v_a_rounds v_a_heightThere : Int32) (f_a_told : Nat → Int32) (p : Int32 × Int32 × Int32 × Int32 × Int32 × Int32 × Int32 × Int32 × Int32 × Int32 × Int32 × Int32 × Int32) : jJ X 6 0 0 (jQf X 0 0 (fun _ => none) (fun r _ => [(h_a, .inr (2, [.ref h_a_told, .int r.1, .int r.2.1, .int r.2.2.1, .int r.2.2.2.1, .int r.2.2.2.2.1, .int r.2.2.2.2.2.1, .int r.2.2.2.2.2.2.1, .int r.2.2.2.2.2.2.2.1, .int r.2.2.2.2.2.2.2.2, .int v_a_range, .int v_a_rise, .int v_a_rounds, .int v_a_heightThere])), (h_a_told, .inl (jy X 0, 13, .inl f_a_told))])) 71 [(0, .ref h_a), (2, .int p.1), (3, .int p.2.1), (4, .int p.2.2.1), (5, .int p.2.2.2.1)] [] [(h_a, .inr (2, [.ref h_a_told, .int p.2.2.2.2.1, .int p.2.2.2.2.2.1, .int p.2.2.2.2.2.2.1, .int p.2.2.2.2.2.2.2.1, .int p.2.2.2.2.2.2.2.2.1, .int p.2.2.2.2.2.2.2.2.2.1, .int p.2.2.2.2.2.2.2.2.2.2.1, .int p.2.2.2.2.2.2.2.2.2.2.2.1, .int p.2.2.2.2.2.2.2.2.2.2.2.2, .int v_a_range, .int v_a_rise, .int v_a_rounds, .int v_a_heightThere])), (h_a_told, .inl (jy X 0, 13, .inl f_a_told))] (jfix (fX2_leave_b71 u v_a_length v_a_weight v_a_place v_a_stiff v_a_angle v_a_pushes v_a_pace v_a_bend v_a_off f_a_told) u p) :=
  j_fix (fun rec71 hrec71 p => jX2_leave_b71_step hC u h_a h_a_told v_a_length v_a_weight v_a_place v_a_stiff v_a_angle v_a_pushes v_a_pace v_a_bend v_a_off v_a_range v_a_rise v_a_rounds v_a_heightThere f_a_told rec71 hrec71 p) u p
set_option maxHeartbeats 4000000 in
set_option maxRecDepth 100000 in
theorem jX2_leave {X : jX} (hC : jC X cX2_leave 6 RX2 rX2_leave none) (u : Nat) (h_a h_a_told : Nat) (v_a_length v_a_weight v_a_place v_a_stiff v_a_angle v_a_pushes v_a_pace v_a_bend v_a_off v_a_range v_a_rise v_a_rounds v_a_heightThere : Int32) (f_a_told : Nat → Int32) : jJ X 6 0 0 (jQf X 0 0 (fun _ => none) (fun r _ => [(h_a, .inr (2, [.ref h_a_told, .int r.1, .int r.2.1, .int r.2.2.1, .int r.2.2.2.1, .int r.2.2.2.2.1, .int r.2.2.2.2.2.1, .int r.2.2.2.2.2.2.1, .int r.2.2.2.2.2.2.2.1, .int r.2.2.2.2.2.2.2.2, .int v_a_range, .int v_a_rise, .int v_a_rounds, .int v_a_heightThere])), (h_a_told, .inl (jy X 0, 13, .inl f_a_told))])) 0 [(0, .ref h_a)] [] [(h_a, .inr (2, [.ref h_a_told, .int v_a_length, .int v_a_weight, .int v_a_place, .int v_a_stiff, .int v_a_angle, .int v_a_pushes, .int v_a_pace, .int v_a_bend, .int v_a_off, .int v_a_range, .int v_a_rise, .int v_a_rounds, .int v_a_heightThere])), (h_a_told, .inl (jy X 0, 13, .inl f_a_told))] (fX2_leave u v_a_length v_a_weight v_a_place v_a_stiff v_a_angle v_a_pushes v_a_pace v_a_bend v_a_off f_a_told) := by
  unfold fX2_leave
  refine j_aload_n (pc := 0) hC 0 rfl dX2_leave_0 ?_
  refine j_callV (pc := 1) hC csRX2_43 [] (mX2_shape (jl X) (jD X) (jy X) (jv X) h_a h_a_told v_a_length v_a_weight v_a_place v_a_stiff v_a_angle v_a_pushes v_a_pace v_a_bend v_a_off v_a_range v_a_rise v_a_rounds v_a_heightThere f_a_told) [0, 1] rfl (by decide +kernel) 0 rfl ⟨_, _, rfl⟩ ⟨by decide, by decide, rfl, rfl, by decide, by decide⟩ rfl rfl (Nat.le_of_ble_eq_true rfl) dX2_leave_1 (jkv (fun r1 _ => (rfl : @Eq va_W _ [(h_a, .inr (2, [.ref h_a_told, .int r1.1, .int r1.2.1, .int r1.2.2.1, .int r1.2.2.2.1, .int r1.2.2.2.2.1, .int r1.2.2.2.2.2, .int v_a_pace, .int v_a_bend, .int v_a_off, .int v_a_range, .int v_a_rise, .int v_a_rounds, .int v_a_heightThere])), (h_a_told, .inl (jy X 0, 13, .inl f_a_told))])) (fun r1 => ?_))
  refine j_aload_n (pc := 4) hC 0 rfl dX2_leave_4 ?_
  refine j_get (pc := 5) hC flRX2_9 0 rfl rfl dX2_leave_5 ?_
  refine j_bipush (pc := 8) hC kb_6 dX2_leave_8 ?_
  refine j_iald (pc := 10) hC 1 rfl dX2_leave_10 ?_
  refine j_aload_n (pc := 11) hC 0 rfl dX2_leave_11 ?_
  refine j_get (pc := 12) hC flRX2_9 0 rfl rfl dX2_leave_12 ?_
  refine j_bipush (pc := 15) hC kb_8 dX2_leave_15 ?_
  refine j_iald (pc := 17) hC 1 rfl dX2_leave_17 ?_
  refine j_iadd (pc := 18) hC dX2_leave_18 ?_
  refine j_aload_n (pc := 19) hC 0 rfl dX2_leave_19 ?_
  refine j_get (pc := 20) hC flRX2_15 0 rfl rfl dX2_leave_20 ?_
  refine j_iadd (pc := 23) hC dX2_leave_23 ?_
  refine j_aload_n (pc := 24) hC 0 rfl dX2_leave_24 ?_
  refine j_get (pc := 25) hC flRX2_19 0 rfl rfl dX2_leave_25 ?_
  refine j_aload_n (pc := 28) hC 0 rfl dX2_leave_28 ?_
  refine j_get (pc := 29) hC flRX2_22 0 rfl rfl dX2_leave_29 ?_
  refine j_imul (pc := 32) hC dX2_leave_32 ?_
  refine j_aload_n (pc := 33) hC 0 rfl dX2_leave_33 ?_
  refine j_get (pc := 34) hC flRX2_15 0 rfl rfl dX2_leave_34 ?_
  refine j_iconst (pc := 37) hC ki_1 dX2_leave_37 ?_
  refine j_iadd (pc := 38) hC dX2_leave_38 ?_
  refine j_callN (pc := 39) hC csRX2_46 [.int (r1.2.1 * r1.2.2.1), .int (r1.1 + (1 : Int32))] (mX8_divided (jl X) (jD X) (jy X) (jv X) (r1.2.1 * r1.2.2.1) (r1.1 + (1 : Int32))) [] rfl (by decide +kernel) ⟨by decide, by decide, rfl, rfl, by decide, by decide⟩ rfl rfl (Nat.le_of_ble_eq_true rfl) dX2_leave_39 (jki0 (fun _ => rfl) (fun _ _ => rfl) (fun r2 => ?_))
  refine j_iadd (pc := 42) hC dX2_leave_42 ?_
  refine j_let (pc := 43) (fun x3 => ?_)
  refine j_istore_n (pc := 43) hC (lv' := [(1, .int x3), (0, .ref h_a)]) rfl (by decide) dX2_leave_43 ?_
  refine j_bipush (pc := 44) hC kb_60 dX2_leave_44 ?_
  refine j_aload_n (pc := 46) hC 1 rfl dX2_leave_46 ?_
  refine j_get (pc := 47) hC flRX2_9 0 rfl rfl dX2_leave_47 ?_
  refine j_iconst (pc := 50) hC ki_1 dX2_leave_50 ?_
  refine j_iald (pc := 51) hC 1 rfl dX2_leave_51 ?_
  refine j_imul (pc := 52) hC dX2_leave_52 ?_
  refine j_iload_n (pc := 53) hC 0 rfl dX2_leave_53 ?_
  refine j_callN (pc := 54) hC csRX2_46 [.int ((60 : Int32) * (f_a_told (1 : Int32).toNatClampNeg)), .int x3] (mX8_divided (jl X) (jD X) (jy X) (jv X) ((60 : Int32) * (f_a_told (1 : Int32).toNatClampNeg)) x3) [] rfl (by decide +kernel) ⟨by decide, by decide, rfl, rfl, by decide, by decide⟩ rfl rfl (Nat.le_of_ble_eq_true rfl) dX2_leave_54 (jki0 (fun _ => rfl) (fun _ _ => rfl) (fun r4 => ?_))
  refine j_istore_n (pc := 57) hC (lv' := [(2, .int r4), (1, .int x3), (0, .ref h_a)]) rfl (by decide) dX2_leave_57 ?_
  refine j_iconst (pc := 58) hC ki_0 dX2_leave_58 ?_
  refine j_istore_n (pc := 59) hC (lv' := [(3, .int (0 : Int32)), (2, .int r4), (1, .int x3), (0, .ref h_a)]) rfl (by decide) dX2_leave_59 ?_
  refine j_iconst (pc := 60) hC ki_0 dX2_leave_60 ?_
  refine j_istore (pc := 61) hC (lv' := [(4, .int (0 : Int32)), (3, .int (0 : Int32)), (2, .int r4), (1, .int x3), (0, .ref h_a)]) rfl (by decide) dX2_leave_61 ?_
  refine j_aload_n (pc := 63) hC 4 rfl dX2_leave_63 ?_
  refine j_iconst (pc := 64) hC ki_0 dX2_leave_64 ?_
  refine j_put (pc := 65) hC fpRX2_49 0 rfl rfl rfl (Nat.le_of_ble_eq_true rfl) dX2_leave_65 (ws' := [(h_a, .inr (2, [.ref h_a_told, .int r1.1, .int r1.2.1, .int r1.2.2.1, .int r1.2.2.2.1, .int r1.2.2.2.2.1, .int r1.2.2.2.2.2, .int v_a_pace, .int (0 : Int32), .int v_a_off, .int v_a_range, .int v_a_rise, .int v_a_rounds, .int v_a_heightThere])), (h_a_told, .inl (jy X 0, 13, .inl f_a_told))]) rfl ?_
  refine j_iconst (pc := 68) hC ki_0 dX2_leave_68 ?_
  refine j_istore (pc := 69) hC (lv' := [(5, .int (0 : Int32)), (4, .int (0 : Int32)), (3, .int (0 : Int32)), (2, .int r4), (1, .int x3), (0, .ref h_a)]) rfl (by decide) dX2_leave_69 ?_
  refine j_lv (pc := 71) [5, 3, 2, 1, 0] rfl ?_
  exact jX2_leave_b71 hC u h_a h_a_told v_a_length v_a_weight v_a_place v_a_stiff v_a_angle v_a_pushes v_a_pace v_a_bend v_a_off v_a_range v_a_rise v_a_rounds v_a_heightThere f_a_told (r4, (0 : Int32), (0 : Int32), (0 : Int32), r1.1, r1.2.1, r1.2.2.1, r1.2.2.2.1, r1.2.2.2.2.1, r1.2.2.2.2.2, v_a_pace, (0 : Int32), v_a_off)
set_option maxHeartbeats 4000000 in
set_option maxRecDepth 100000 in
theorem mX2_leave (l : Launch) (D : va_G) (cy : Nat → ClassId) (ev : jE) (u : Nat) (h_a h_a_told : Nat) (v_a_length v_a_weight v_a_place v_a_stiff v_a_angle v_a_pushes v_a_pace v_a_bend v_a_off v_a_range v_a_rise v_a_rounds v_a_heightThere : Int32) (f_a_told : Nat → Int32) : jM l yX2_leave cX2_leave 6 none rX2_leave [.ref h_a] [(h_a, .inr (2, [.ref h_a_told, .int v_a_length, .int v_a_weight, .int v_a_place, .int v_a_stiff, .int v_a_angle, .int v_a_pushes, .int v_a_pace, .int v_a_bend, .int v_a_off, .int v_a_range, .int v_a_rise, .int v_a_rounds, .int v_a_heightThere])), (h_a_told, .inl (cy 0, 13, .inl f_a_told))] (fun r _ => [(h_a, .inr (2, [.ref h_a_told, .int r.1, .int r.2.1, .int r.2.2.1, .int r.2.2.2.1, .int r.2.2.2.2.1, .int r.2.2.2.2.2.1, .int r.2.2.2.2.2.2.1, .int r.2.2.2.2.2.2.2.1, .int r.2.2.2.2.2.2.2.2, .int v_a_range, .int v_a_rise, .int v_a_rounds, .int v_a_heightThere])), (h_a_told, .inl (cy 0, 13, .inl f_a_told))]) (fun _ => none) (fX2_leave u v_a_length v_a_weight v_a_place v_a_stiff v_a_angle v_a_pushes v_a_pace v_a_bend v_a_off f_a_told) D cy ev := j_met RX2 (by decide +kernel) rfl (Nat.le_of_ble_eq_true rfl) (fun X hC _ hD hy hv => by subst hD; subst hy; subst hv; exact jX2_leave hC u h_a h_a_told v_a_length v_a_weight v_a_place v_a_stiff v_a_angle v_a_pushes v_a_pace v_a_bend v_a_off v_a_range v_a_rise v_a_rounds v_a_heightThere f_a_told)
set_option maxHeartbeats 4000000 in
set_option maxRecDepth 100000 in
theorem jX2_fly_b237 {X : jX} (hC : jC X cX2_fly 8 RX2 rX2_fly none) (u : Nat) (h_a h_a_told : Nat) (p1 v_a_length v_a_weight v_a_place v_a_stiff v_a_angle v_a_pushes v_a_pace v_a_bend v_a_off v_a_range v_a_rise v_a_rounds v_a_heightThere : Int32) (f_a_told : Nat → Int32) (p : Int32 × Int32 × Int32 × Int32 × Int32 × Int32 × Int32 × Int32 × Int32 × Int32 × Int32 × Int32 × Int32 × Int32) : jJ X 8 0 0 (jQf X 0 0 (fun _ => none) (fun r _ => [(h_a, .inr (2, [.ref h_a_told, .int r.1, .int r.2.1, .int r.2.2.1, .int r.2.2.2.1, .int r.2.2.2.2.1, .int r.2.2.2.2.2.1, .int r.2.2.2.2.2.2.1, .int r.2.2.2.2.2.2.2.1, .int r.2.2.2.2.2.2.2.2.1, .int r.2.2.2.2.2.2.2.2.2.1, .int r.2.2.2.2.2.2.2.2.2.2.1, .int r.2.2.2.2.2.2.2.2.2.2.2.1, .int r.2.2.2.2.2.2.2.2.2.2.2.2])), (h_a_told, .inl (jy X 0, 13, .inl f_a_told))])) 237 [(0, .ref h_a), (6, .int p.1)] [] [(h_a, .inr (2, [.ref h_a_told, .int p.2.1, .int p.2.2.1, .int p.2.2.2.1, .int p.2.2.2.2.1, .int p.2.2.2.2.2.1, .int p.2.2.2.2.2.2.1, .int p.2.2.2.2.2.2.2.1, .int p.2.2.2.2.2.2.2.2.1, .int p.2.2.2.2.2.2.2.2.2.1, .int p.2.2.2.2.2.2.2.2.2.2.1, .int p.2.2.2.2.2.2.2.2.2.2.2.1, .int p.2.2.2.2.2.2.2.2.2.2.2.2.1, .int p.2.2.2.2.2.2.2.2.2.2.2.2.2])), (h_a_told, .inl (jy X 0, 13, .inl f_a_told))] (fX2_fly_b237 u p1 v_a_length v_a_weight v_a_place v_a_stiff v_a_angle v_a_pushes v_a_pace v_a_bend v_a_off v_a_range v_a_rise v_a_rounds v_a_heightThere f_a_told p) := by
  unfold fX2_fly_b237
  refine j_aload_n (pc := 237) hC 0 rfl dX2_fly_237 ?_
  refine j_iload (pc := 238) hC 1 rfl dX2_fly_238 ?_
  refine j_put (pc := 240) hC fpRX2_77 0 rfl rfl rfl (Nat.le_of_ble_eq_true rfl) dX2_fly_240 (ws' := [(h_a, .inr (2, [.ref h_a_told, .int p.2.1, .int p.2.2.1, .int p.2.2.2.1, .int p.2.2.2.2.1, .int p.2.2.2.2.2.1, .int p.2.2.2.2.2.2.1, .int p.2.2.2.2.2.2.2.1, .int p.2.2.2.2.2.2.2.2.1, .int p.2.2.2.2.2.2.2.2.2.1, .int p.1, .int p.2.2.2.2.2.2.2.2.2.2.2.1, .int p.2.2.2.2.2.2.2.2.2.2.2.2.1, .int p.2.2.2.2.2.2.2.2.2.2.2.2.2])), (h_a_told, .inl (jy X 0, 13, .inl f_a_told))]) rfl ?_
  exact j_vret (pc := 243) hC (fun _ => 0) rfl rfl dX2_fly_243
set_option maxHeartbeats 4000000 in
set_option maxRecDepth 100000 in
theorem jX2_fly_b148_step {X : jX} (hC : jC X cX2_fly 8 RX2 rX2_fly none) (u : Nat) (h_a h_a_told : Nat) (p1 v_a_length v_a_weight v_a_place v_a_stiff v_a_angle v_a_pushes v_a_pace v_a_bend v_a_off v_a_range v_a_rise v_a_rounds v_a_heightThere : Int32) (f_a_told : Nat → Int32) (rec148 : (Int32 × Int32 × Int32 × Int32 × Int32 × Int32 × Int32 × Int32 × Int32 × Int32 × Int32 × Int32 × Int32 × Int32 × Int32 × Int32 × Int32 × Int32 × Int32) → Option (Int32 × Int32 × Int32 × Int32 × Int32 × Int32 × Int32 × Int32 × Int32 × Int32 × Int32 × Int32 × Int32)) (hrec148 : ∀ p : Int32 × Int32 × Int32 × Int32 × Int32 × Int32 × Int32 × Int32 × Int32 × Int32 × Int32 × Int32 × Int32 × Int32 × Int32 × Int32 × Int32 × Int32 × Int32, jJ X 8 0 0 (jQf X 0 0 (fun _ => none) (fun r _ => [(h_a, .inr (2, [.ref h_a_told, .int r.1, .int r.2.1, .int r.2.2.1, .int r.2.2.2.1, .int r.2.2.2.2.1, .int r.2.2.2.2.2.1, .int r.2.2.2.2.2.2.1, .int r.2.2.2.2.2.2.2.1, .int r.2.2.2.2.2.2.2.2.1, .int r.2.2.2.2.2.2.2.2.2.1, .int r.2.2.2.2.2.2.2.2.2.2.1, .int r.2.2.2.2.2.2.2.2.2.2.2.1, .int r.2.2.2.2.2.2.2.2.2.2.2.2])), (h_a_told, .inl (jy X 0, 13, .inl f_a_told))])) 148 [(0, .ref h_a), (1, .int p1), (2, .int p.1), (3, .int p.2.1), (4, .int p.2.2.1), (5, .int p.2.2.2.1), (6, .int p.2.2.2.2.1), (7, .int p.2.2.2.2.2.1)] [] [(h_a, .inr (2, [.ref h_a_told, .int p.2.2.2.2.2.2.1, .int p.2.2.2.2.2.2.2.1, .int p.2.2.2.2.2.2.2.2.1, .int p.2.2.2.2.2.2.2.2.2.1, .int p.2.2.2.2.2.2.2.2.2.2.1, .int p.2.2.2.2.2.2.2.2.2.2.2.1, .int p.2.2.2.2.2.2.2.2.2.2.2.2.1, .int p.2.2.2.2.2.2.2.2.2.2.2.2.2.1, .int p.2.2.2.2.2.2.2.2.2.2.2.2.2.2.1, .int p.2.2.2.2.2.2.2.2.2.2.2.2.2.2.2.1, .int p.2.2.2.2.2.2.2.2.2.2.2.2.2.2.2.2.1, .int p.2.2.2.2.2.2.2.2.2.2.2.2.2.2.2.2.2.1, .int p.2.2.2.2.2.2.2.2.2.2.2.2.2.2.2.2.2.2])), (h_a_told, .inl (jy X 0, 13, .inl f_a_told))] (rec148 p)) (p : Int32 × Int32 × Int32 × Int32 × Int32 × Int32 × Int32 × Int32 × Int32 × Int32 × Int32 × Int32 × Int32 × Int32 × Int32 × Int32 × Int32 × Int32 × Int32) : jJ X 8 0 0 (jQf X 0 0 (fun _ => none) (fun r _ => [(h_a, .inr (2, [.ref h_a_told, .int r.1, .int r.2.1, .int r.2.2.1, .int r.2.2.2.1, .int r.2.2.2.2.1, .int r.2.2.2.2.2.1, .int r.2.2.2.2.2.2.1, .int r.2.2.2.2.2.2.2.1, .int r.2.2.2.2.2.2.2.2.1, .int r.2.2.2.2.2.2.2.2.2.1, .int r.2.2.2.2.2.2.2.2.2.2.1, .int r.2.2.2.2.2.2.2.2.2.2.2.1, .int r.2.2.2.2.2.2.2.2.2.2.2.2])), (h_a_told, .inl (jy X 0, 13, .inl f_a_told))])) 148 [(0, .ref h_a), (1, .int p1), (2, .int p.1), (3, .int p.2.1), (4, .int p.2.2.1), (5, .int p.2.2.2.1), (6, .int p.2.2.2.2.1), (7, .int p.2.2.2.2.2.1)] [] [(h_a, .inr (2, [.ref h_a_told, .int p.2.2.2.2.2.2.1, .int p.2.2.2.2.2.2.2.1, .int p.2.2.2.2.2.2.2.2.1, .int p.2.2.2.2.2.2.2.2.2.1, .int p.2.2.2.2.2.2.2.2.2.2.1, .int p.2.2.2.2.2.2.2.2.2.2.2.1, .int p.2.2.2.2.2.2.2.2.2.2.2.2.1, .int p.2.2.2.2.2.2.2.2.2.2.2.2.2.1, .int p.2.2.2.2.2.2.2.2.2.2.2.2.2.2.1, .int p.2.2.2.2.2.2.2.2.2.2.2.2.2.2.2.1, .int p.2.2.2.2.2.2.2.2.2.2.2.2.2.2.2.2.1, .int p.2.2.2.2.2.2.2.2.2.2.2.2.2.2.2.2.2.1, .int p.2.2.2.2.2.2.2.2.2.2.2.2.2.2.2.2.2.2])), (h_a_told, .inl (jy X 0, 13, .inl f_a_told))] (fX2_fly_b148 u p1 v_a_length v_a_weight v_a_place v_a_stiff v_a_angle v_a_pushes v_a_pace v_a_bend v_a_off v_a_range v_a_rise v_a_rounds v_a_heightThere f_a_told rec148 p) := by
  unfold fX2_fly_b148
  refine j_iload (pc := 148) hC 7 rfl dX2_fly_148 ?_
  refine j_ifle (pc := 150) hC 237 (by decide) dX2_fly_150 ?_ ?_
  · refine j_lv (pc := 237) [0, 6] rfl ?_
    exact jX2_fly_b237 hC u h_a h_a_told p1 v_a_length v_a_weight v_a_place v_a_stiff v_a_angle v_a_pushes v_a_pace v_a_bend v_a_off v_a_range v_a_rise v_a_rounds v_a_heightThere f_a_told (p.2.2.2.2.1, p.2.2.2.2.2.2.1, p.2.2.2.2.2.2.2.1, p.2.2.2.2.2.2.2.2.1, p.2.2.2.2.2.2.2.2.2.1, p.2.2.2.2.2.2.2.2.2.2.1, p.2.2.2.2.2.2.2.2.2.2.2.1, p.2.2.2.2.2.2.2.2.2.2.2.2.1, p.2.2.2.2.2.2.2.2.2.2.2.2.2.1, p.2.2.2.2.2.2.2.2.2.2.2.2.2.2.1, p.2.2.2.2.2.2.2.2.2.2.2.2.2.2.2.1, p.2.2.2.2.2.2.2.2.2.2.2.2.2.2.2.2.1, p.2.2.2.2.2.2.2.2.2.2.2.2.2.2.2.2.2.1, p.2.2.2.2.2.2.2.2.2.2.2.2.2.2.2.2.2.2)
  · refine j_aload_n (pc := 153) hC 0 rfl dX2_fly_153 ?_
    refine j_get (pc := 154) hC flRX2_70 0 rfl rfl dX2_fly_154 ?_
    refine j_ldc (pc := 157) hC wm480 dX2_fly_157 ?_
    refine j_icmpge (pc := 159) hC 237 (by decide) dX2_fly_159 ?_ ?_
    · refine j_lv (pc := 237) [0, 6] rfl ?_
      exact jX2_fly_b237 hC u h_a h_a_told p1 v_a_length v_a_weight v_a_place v_a_stiff v_a_angle v_a_pushes v_a_pace v_a_bend v_a_off v_a_range v_a_rise v_a_rounds v_a_heightThere f_a_told (p.2.2.2.2.1, p.2.2.2.2.2.2.1, p.2.2.2.2.2.2.2.1, p.2.2.2.2.2.2.2.2.1, p.2.2.2.2.2.2.2.2.2.1, p.2.2.2.2.2.2.2.2.2.2.1, p.2.2.2.2.2.2.2.2.2.2.2.1, p.2.2.2.2.2.2.2.2.2.2.2.2.1, p.2.2.2.2.2.2.2.2.2.2.2.2.2.1, p.2.2.2.2.2.2.2.2.2.2.2.2.2.2.1, p.2.2.2.2.2.2.2.2.2.2.2.2.2.2.2.1, p.2.2.2.2.2.2.2.2.2.2.2.2.2.2.2.2.1, p.2.2.2.2.2.2.2.2.2.2.2.2.2.2.2.2.2.1, p.2.2.2.2.2.2.2.2.2.2.2.2.2.2.2.2.2.2)
    · refine j_aload_n (pc := 162) hC 0 rfl dX2_fly_162 ?_
      refine j_dup (pc := 163) hC rfl dX2_fly_163 ?_
      refine j_get (pc := 164) hC flRX2_70 0 rfl rfl dX2_fly_164 ?_
      refine j_iconst (pc := 167) hC ki_1 dX2_fly_167 ?_
      refine j_iadd (pc := 168) hC dX2_fly_168 ?_
      refine j_let (pc := 169) (fun x2 => ?_)
      refine j_put (pc := 169) hC fpRX2_70 0 rfl rfl rfl (Nat.le_of_ble_eq_true rfl) dX2_fly_169 (ws' := [(h_a, .inr (2, [.ref h_a_told, .int p.2.2.2.2.2.2.1, .int p.2.2.2.2.2.2.2.1, .int p.2.2.2.2.2.2.2.2.1, .int p.2.2.2.2.2.2.2.2.2.1, .int p.2.2.2.2.2.2.2.2.2.2.1, .int p.2.2.2.2.2.2.2.2.2.2.2.1, .int p.2.2.2.2.2.2.2.2.2.2.2.2.1, .int p.2.2.2.2.2.2.2.2.2.2.2.2.2.1, .int p.2.2.2.2.2.2.2.2.2.2.2.2.2.2.1, .int p.2.2.2.2.2.2.2.2.2.2.2.2.2.2.2.1, .int p.2.2.2.2.2.2.2.2.2.2.2.2.2.2.2.2.1, .int x2, .int p.2.2.2.2.2.2.2.2.2.2.2.2.2.2.2.2.2.2])), (h_a_told, .inl (jy X 0, 13, .inl f_a_told))]) rfl ?_
      refine j_iconst (pc := 172) hC ki_0 dX2_fly_172 ?_
      refine j_iload_n (pc := 173) hC 3 rfl dX2_fly_173 ?_
      refine j_iload_n (pc := 174) hC 3 rfl dX2_fly_174 ?_
      refine j_iload (pc := 175) hC 5 rfl dX2_fly_175 ?_
      refine j_imul (pc := 177) hC dX2_fly_177 ?_
      refine j_sipush (pc := 178) hC ks_1000 dX2_fly_178 ?_
      refine j_idivc (pc := 181) hC (by decide) dX2_fly_181 ?_
      refine j_isub (pc := 182) hC dX2_fly_182 ?_
      refine j_imax (pc := 183) hC wm467 wm468 wm84 wm469 (by decide) (Nat.le_of_ble_eq_true rfl) ⟨Nat.le_of_ble_eq_true rfl, Nat.le_of_ble_eq_true rfl⟩ dX2_fly_183 ?_
      refine j_let (pc := 186) (fun x3 => ?_)
      refine j_istore_n (pc := 186) hC (lv' := [(3, .int x3), (0, .ref h_a), (1, .int p1), (2, .int p.1), (4, .int p.2.2.1), (5, .int p.2.2.2.1), (6, .int p.2.2.2.2.1), (7, .int p.2.2.2.2.2.1)]) rfl (by decide) dX2_fly_186 ?_
      refine j_iinc (pc := 187) hC 4 rfl ki_m10 (fun x4 => (rfl : @Eq (List (Nat × Value)) _ [(4, .int x4), (3, .int x3), (0, .ref h_a), (1, .int p1), (2, .int p.1), (5, .int p.2.2.2.1), (6, .int p.2.2.2.2.1), (7, .int p.2.2.2.2.2.1)])) (by decide) dX2_fly_187 (fun x4 => ?_)
      refine j_iload (pc := 190) hC 6 rfl dX2_fly_190 ?_
      refine j_iload_n (pc := 192) hC 1 rfl dX2_fly_192 ?_
      refine j_iadd (pc := 193) hC dX2_fly_193 ?_
      refine j_let (pc := 194) (fun x5 => ?_)
      refine j_istore (pc := 194) hC (lv' := [(6, .int x5), (4, .int x4), (3, .int x3), (0, .ref h_a), (1, .int p1), (2, .int p.1), (5, .int p.2.2.2.1), (7, .int p.2.2.2.2.2.1)]) rfl (by decide) dX2_fly_194 ?_
      refine j_iload (pc := 196) hC 7 rfl dX2_fly_196 ?_
      refine j_iload (pc := 198) hC 1 rfl dX2_fly_198 ?_
      refine j_iadd (pc := 200) hC dX2_fly_200 ?_
      refine j_let (pc := 201) (fun x6 => ?_)
      refine j_istore (pc := 201) hC (lv' := [(7, .int x6), (6, .int x5), (4, .int x4), (3, .int x3), (0, .ref h_a), (1, .int p1), (2, .int p.1), (5, .int p.2.2.2.1)]) rfl (by decide) dX2_fly_201 ?_
      refine j_aload_n (pc := 203) hC 4 rfl dX2_fly_203 ?_
      refine j_aload_n (pc := 204) hC 4 rfl dX2_fly_204 ?_
      refine j_get (pc := 205) hC flRX2_67 0 rfl rfl dX2_fly_205 ?_
      refine j_iload (pc := 208) hC 0 rfl dX2_fly_208 ?_
      refine j_imax (pc := 210) hC wm467 wm468 wm84 wm469 (by decide) (Nat.le_of_ble_eq_true rfl) ⟨Nat.le_of_ble_eq_true rfl, Nat.le_of_ble_eq_true rfl⟩ dX2_fly_210 ?_
      refine j_let (pc := 213) (fun x7 => ?_)
      refine j_put (pc := 213) hC fpRX2_67 0 rfl rfl rfl (Nat.le_of_ble_eq_true rfl) dX2_fly_213 (ws' := [(h_a, .inr (2, [.ref h_a_told, .int p.2.2.2.2.2.2.1, .int p.2.2.2.2.2.2.2.1, .int p.2.2.2.2.2.2.2.2.1, .int p.2.2.2.2.2.2.2.2.2.1, .int p.2.2.2.2.2.2.2.2.2.2.1, .int p.2.2.2.2.2.2.2.2.2.2.2.1, .int p.2.2.2.2.2.2.2.2.2.2.2.2.1, .int p.2.2.2.2.2.2.2.2.2.2.2.2.2.1, .int p.2.2.2.2.2.2.2.2.2.2.2.2.2.2.1, .int p.2.2.2.2.2.2.2.2.2.2.2.2.2.2.2.1, .int x7, .int x2, .int p.2.2.2.2.2.2.2.2.2.2.2.2.2.2.2.2.2.2])), (h_a_told, .inl (jy X 0, 13, .inl f_a_told))]) rfl ?_
      refine j_iload (pc := 216) hC 1 rfl dX2_fly_216 ?_
      refine j_iload_n (pc := 218) hC 5 rfl dX2_fly_218 ?_
      refine j_icmplt (pc := 219) hC 148 (by decide) dX2_fly_219 ?_ ?_
      · refine j_lv (pc := 148) [4, 5, 6, 3, 2, 7, 1, 0] rfl ?_
        exact hrec148 (p.1, x3, x4, p.2.2.2.1, x5, x6, p.2.2.2.2.2.2.1, p.2.2.2.2.2.2.2.1, p.2.2.2.2.2.2.2.2.1, p.2.2.2.2.2.2.2.2.2.1, p.2.2.2.2.2.2.2.2.2.2.1, p.2.2.2.2.2.2.2.2.2.2.2.1, p.2.2.2.2.2.2.2.2.2.2.2.2.1, p.2.2.2.2.2.2.2.2.2.2.2.2.2.1, p.2.2.2.2.2.2.2.2.2.2.2.2.2.2.1, p.2.2.2.2.2.2.2.2.2.2.2.2.2.2.2.1, x7, x2, p.2.2.2.2.2.2.2.2.2.2.2.2.2.2.2.2.2.2)
      · refine j_iload_n (pc := 222) hC 6 rfl dX2_fly_222 ?_
        refine j_ifne (pc := 223) hC 148 (by decide) dX2_fly_223 ?_ ?_
        · refine j_lv (pc := 148) [4, 5, 6, 3, 2, 7, 1, 0] rfl ?_
          exact hrec148 (p.1, x3, x4, p.2.2.2.1, x5, x6, p.2.2.2.2.2.2.1, p.2.2.2.2.2.2.2.1, p.2.2.2.2.2.2.2.2.1, p.2.2.2.2.2.2.2.2.2.1, p.2.2.2.2.2.2.2.2.2.2.1, p.2.2.2.2.2.2.2.2.2.2.2.1, p.2.2.2.2.2.2.2.2.2.2.2.2.1, p.2.2.2.2.2.2.2.2.2.2.2.2.2.1, p.2.2.2.2.2.2.2.2.2.2.2.2.2.2.1, p.2.2.2.2.2.2.2.2.2.2.2.2.2.2.2.1, x7, x2, p.2.2.2.2.2.2.2.2.2.2.2.2.2.2.2.2.2.2)
        · refine j_iconst (pc := 226) hC ki_1 dX2_fly_226 ?_
          refine j_istore_n (pc := 227) hC (lv' := [(2, .int (1 : Int32)), (7, .int x6), (6, .int x5), (4, .int x4), (3, .int x3), (0, .ref h_a), (1, .int p1), (5, .int p.2.2.2.1)]) rfl (by decide) dX2_fly_227 ?_
          refine j_aload_n (pc := 228) hC 5 rfl dX2_fly_228 ?_
          refine j_iload (pc := 229) hC 1 rfl dX2_fly_229 ?_
          refine j_put (pc := 231) hC fpRX2_73 0 rfl rfl rfl (Nat.le_of_ble_eq_true rfl) dX2_fly_231 (ws' := [(h_a, .inr (2, [.ref h_a_told, .int p.2.2.2.2.2.2.1, .int p.2.2.2.2.2.2.2.1, .int p.2.2.2.2.2.2.2.2.1, .int p.2.2.2.2.2.2.2.2.2.1, .int p.2.2.2.2.2.2.2.2.2.2.1, .int p.2.2.2.2.2.2.2.2.2.2.2.1, .int p.2.2.2.2.2.2.2.2.2.2.2.2.1, .int p.2.2.2.2.2.2.2.2.2.2.2.2.2.1, .int p.2.2.2.2.2.2.2.2.2.2.2.2.2.2.1, .int p.2.2.2.2.2.2.2.2.2.2.2.2.2.2.2.1, .int x7, .int x2, .int x6])), (h_a_told, .inl (jy X 0, 13, .inl f_a_told))]) rfl ?_
          refine j_goto (pc := 234) hC 148 (by decide) dX2_fly_234 ?_
          refine j_lv (pc := 148) [5, 6, 0, 4, 3, 7, 2, 1] rfl ?_
          exact hrec148 ((1 : Int32), x3, x4, p.2.2.2.1, x5, x6, p.2.2.2.2.2.2.1, p.2.2.2.2.2.2.2.1, p.2.2.2.2.2.2.2.2.1, p.2.2.2.2.2.2.2.2.2.1, p.2.2.2.2.2.2.2.2.2.2.1, p.2.2.2.2.2.2.2.2.2.2.2.1, p.2.2.2.2.2.2.2.2.2.2.2.2.1, p.2.2.2.2.2.2.2.2.2.2.2.2.2.1, p.2.2.2.2.2.2.2.2.2.2.2.2.2.2.1, p.2.2.2.2.2.2.2.2.2.2.2.2.2.2.2.1, x7, x2, x6)
set_option maxHeartbeats 4000000 in
set_option maxRecDepth 100000 in
theorem jX2_fly_b148 {X : jX} (hC : jC X cX2_fly 8 RX2 rX2_fly none) (u : Nat) (h_a h_a_told : Nat) (p1 v_a_length v_a_weight v_a_place v_a_stiff v_a_angle v_a_pushes v_a_pace v_a_bend v_a_off v_a_range v_a_rise v_a_rounds v_a_heightThere : Int32) (f_a_told : Nat → Int32) (p : Int32 × Int32 × Int32 × Int32 × Int32 × Int32 × Int32 × Int32 × Int32 × Int32 × Int32 × Int32 × Int32 × Int32 × Int32 × Int32 × Int32 × Int32 × Int32) : jJ X 8 0 0 (jQf X 0 0 (fun _ => none) (fun r _ => [(h_a, .inr (2, [.ref h_a_told, .int r.1, .int r.2.1, .int r.2.2.1, .int r.2.2.2.1, .int r.2.2.2.2.1, .int r.2.2.2.2.2.1, .int r.2.2.2.2.2.2.1, .int r.2.2.2.2.2.2.2.1, .int r.2.2.2.2.2.2.2.2.1, .int r.2.2.2.2.2.2.2.2.2.1, .int r.2.2.2.2.2.2.2.2.2.2.1, .int r.2.2.2.2.2.2.2.2.2.2.2.1, .int r.2.2.2.2.2.2.2.2.2.2.2.2])), (h_a_told, .inl (jy X 0, 13, .inl f_a_told))])) 148 [(0, .ref h_a), (1, .int p1), (2, .int p.1), (3, .int p.2.1), (4, .int p.2.2.1), (5, .int p.2.2.2.1), (6, .int p.2.2.2.2.1), (7, .int p.2.2.2.2.2.1)] [] [(h_a, .inr (2, [.ref h_a_told, .int p.2.2.2.2.2.2.1, .int p.2.2.2.2.2.2.2.1, .int p.2.2.2.2.2.2.2.2.1, .int p.2.2.2.2.2.2.2.2.2.1, .int p.2.2.2.2.2.2.2.2.2.2.1, .int p.2.2.2.2.2.2.2.2.2.2.2.1, .int p.2.2.2.2.2.2.2.2.2.2.2.2.1, .int p.2.2.2.2.2.2.2.2.2.2.2.2.2.1, .int p.2.2.2.2.2.2.2.2.2.2.2.2.2.2.1, .int p.2.2.2.2.2.2.2.2.2.2.2.2.2.2.2.1, .int p.2.2.2.2.2.2.2.2.2.2.2.2.2.2.2.2.1, .int p.2.2.2.2.2.2.2.2.2.2.2.2.2.2.2.2.2.1, .int p.2.2.2.2.2.2.2.2.2.2.2.2.2.2.2.2.2.2])), (h_a_told, .inl (jy X 0, 13, .inl f_a_told))] (jfix (fX2_fly_b148 u p1 v_a_length v_a_weight v_a_place v_a_stiff v_a_angle v_a_pushes v_a_pace v_a_bend v_a_off v_a_range v_a_rise v_a_rounds v_a_heightThere f_a_told) u p) :=
  j_fix (fun rec148 hrec148 p => jX2_fly_b148_step hC u h_a h_a_told p1 v_a_length v_a_weight v_a_place v_a_stiff v_a_angle v_a_pushes v_a_pace v_a_bend v_a_off v_a_range v_a_rise v_a_rounds v_a_heightThere f_a_told rec148 hrec148 p) u p
set_option maxHeartbeats 4000000 in
set_option maxRecDepth 100000 in
theorem jX2_fly_b122 {X : jX} (hC : jC X cX2_fly 8 RX2 rX2_fly none) (u : Nat) (h_a h_a_told : Nat) (p1 v_a_length v_a_weight v_a_place v_a_stiff v_a_angle v_a_pushes v_a_pace v_a_bend v_a_off v_a_range v_a_rise v_a_rounds v_a_heightThere : Int32) (f_a_told : Nat → Int32) (p : Int32 × Int32 × Int32 × Int32 × Int32 × Int32 × Int32 × Int32 × Int32 × Int32 × Int32 × Int32 × Int32 × Int32 × Int32 × Int32 × Int32) : jJ X 8 0 0 (jQf X 0 0 (fun _ => none) (fun r _ => [(h_a, .inr (2, [.ref h_a_told, .int r.1, .int r.2.1, .int r.2.2.1, .int r.2.2.2.1, .int r.2.2.2.2.1, .int r.2.2.2.2.2.1, .int r.2.2.2.2.2.2.1, .int r.2.2.2.2.2.2.2.1, .int r.2.2.2.2.2.2.2.2.1, .int r.2.2.2.2.2.2.2.2.2.1, .int r.2.2.2.2.2.2.2.2.2.2.1, .int r.2.2.2.2.2.2.2.2.2.2.2.1, .int r.2.2.2.2.2.2.2.2.2.2.2.2])), (h_a_told, .inl (jy X 0, 13, .inl f_a_told))])) 122 [(0, .ref h_a), (1, .int p1), (2, .int p.1), (3, .int p.2.1), (4, .int p.2.2.1)] [.int p.2.2.2.1] [(h_a, .inr (2, [.ref h_a_told, .int p.2.2.2.2.1, .int p.2.2.2.2.2.1, .int p.2.2.2.2.2.2.1, .int p.2.2.2.2.2.2.2.1, .int p.2.2.2.2.2.2.2.2.1, .int p.2.2.2.2.2.2.2.2.2.1, .int p.2.2.2.2.2.2.2.2.2.2.1, .int p.2.2.2.2.2.2.2.2.2.2.2.1, .int p.2.2.2.2.2.2.2.2.2.2.2.2.1, .int p.2.2.2.2.2.2.2.2.2.2.2.2.2.1, .int p.2.2.2.2.2.2.2.2.2.2.2.2.2.2.1, .int p.2.2.2.2.2.2.2.2.2.2.2.2.2.2.2.1, .int p.2.2.2.2.2.2.2.2.2.2.2.2.2.2.2.2])), (h_a_told, .inl (jy X 0, 13, .inl f_a_told))] (fX2_fly_b122 u p1 v_a_length v_a_weight v_a_place v_a_stiff v_a_angle v_a_pushes v_a_pace v_a_bend v_a_off v_a_range v_a_rise v_a_rounds v_a_heightThere f_a_told p) := by
  unfold fX2_fly_b122
  refine j_istore (pc := 122) hC (lv' := [(5, .int p.2.2.2.1), (0, .ref h_a), (1, .int p1), (2, .int p.1), (3, .int p.2.1), (4, .int p.2.2.1)]) rfl (by decide) dX2_fly_122 ?_
  refine j_iconst (pc := 124) hC ki_0 dX2_fly_124 ?_
  refine j_istore (pc := 125) hC (lv' := [(6, .int (0 : Int32)), (5, .int p.2.2.2.1), (0, .ref h_a), (1, .int p1), (2, .int p.1), (3, .int p.2.1), (4, .int p.2.2.1)]) rfl (by decide) dX2_fly_125 ?_
  refine j_sipush (pc := 127) hC ks_150 dX2_fly_127 ?_
  refine j_istore (pc := 130) hC (lv' := [(7, .int (150 : Int32)), (6, .int (0 : Int32)), (5, .int p.2.2.2.1), (0, .ref h_a), (1, .int p1), (2, .int p.1), (3, .int p.2.1), (4, .int p.2.2.1)]) rfl (by decide) dX2_fly_130 ?_
  refine j_aload_n (pc := 132) hC 3 rfl dX2_fly_132 ?_
  refine j_iload (pc := 133) hC 0 rfl dX2_fly_133 ?_
  refine j_put (pc := 135) hC fpRX2_67 0 rfl rfl rfl (Nat.le_of_ble_eq_true rfl) dX2_fly_135 (ws' := [(h_a, .inr (2, [.ref h_a_told, .int p.2.2.2.2.1, .int p.2.2.2.2.2.1, .int p.2.2.2.2.2.2.1, .int p.2.2.2.2.2.2.2.1, .int p.2.2.2.2.2.2.2.2.1, .int p.2.2.2.2.2.2.2.2.2.1, .int p.2.2.2.2.2.2.2.2.2.2.1, .int p.2.2.2.2.2.2.2.2.2.2.2.1, .int p.2.2.2.2.2.2.2.2.2.2.2.2.1, .int p.2.2.2.2.2.2.2.2.2.2.2.2.2.1, .int (150 : Int32), .int p.2.2.2.2.2.2.2.2.2.2.2.2.2.2.2.1, .int p.2.2.2.2.2.2.2.2.2.2.2.2.2.2.2.2])), (h_a_told, .inl (jy X 0, 13, .inl f_a_told))]) rfl ?_
  refine j_aload_n (pc := 138) hC 3 rfl dX2_fly_138 ?_
  refine j_iconst (pc := 139) hC ki_0 dX2_fly_139 ?_
  refine j_put (pc := 140) hC fpRX2_70 0 rfl rfl rfl (Nat.le_of_ble_eq_true rfl) dX2_fly_140 (ws' := [(h_a, .inr (2, [.ref h_a_told, .int p.2.2.2.2.1, .int p.2.2.2.2.2.1, .int p.2.2.2.2.2.2.1, .int p.2.2.2.2.2.2.2.1, .int p.2.2.2.2.2.2.2.2.1, .int p.2.2.2.2.2.2.2.2.2.1, .int p.2.2.2.2.2.2.2.2.2.2.1, .int p.2.2.2.2.2.2.2.2.2.2.2.1, .int p.2.2.2.2.2.2.2.2.2.2.2.2.1, .int p.2.2.2.2.2.2.2.2.2.2.2.2.2.1, .int (150 : Int32), .int (0 : Int32), .int p.2.2.2.2.2.2.2.2.2.2.2.2.2.2.2.2])), (h_a_told, .inl (jy X 0, 13, .inl f_a_told))]) rfl ?_
  refine j_aload_n (pc := 143) hC 3 rfl dX2_fly_143 ?_
  refine j_iconst (pc := 144) hC ki_0 dX2_fly_144 ?_
  refine j_put (pc := 145) hC fpRX2_73 0 rfl rfl rfl (Nat.le_of_ble_eq_true rfl) dX2_fly_145 (ws' := [(h_a, .inr (2, [.ref h_a_told, .int p.2.2.2.2.1, .int p.2.2.2.2.2.1, .int p.2.2.2.2.2.2.1, .int p.2.2.2.2.2.2.2.1, .int p.2.2.2.2.2.2.2.2.1, .int p.2.2.2.2.2.2.2.2.2.1, .int p.2.2.2.2.2.2.2.2.2.2.1, .int p.2.2.2.2.2.2.2.2.2.2.2.1, .int p.2.2.2.2.2.2.2.2.2.2.2.2.1, .int p.2.2.2.2.2.2.2.2.2.2.2.2.2.1, .int (150 : Int32), .int (0 : Int32), .int (0 : Int32)])), (h_a_told, .inl (jy X 0, 13, .inl f_a_told))]) rfl ?_
  refine j_lv (pc := 148) [3, 4, 5, 6, 7, 2, 1, 0] rfl ?_
  exact jX2_fly_b148 hC u h_a h_a_told p1 v_a_length v_a_weight v_a_place v_a_stiff v_a_angle v_a_pushes v_a_pace v_a_bend v_a_off v_a_range v_a_rise v_a_rounds v_a_heightThere f_a_told (p.1, p.2.1, p.2.2.1, p.2.2.2.1, (0 : Int32), (150 : Int32), p.2.2.2.2.1, p.2.2.2.2.2.1, p.2.2.2.2.2.2.1, p.2.2.2.2.2.2.2.1, p.2.2.2.2.2.2.2.2.1, p.2.2.2.2.2.2.2.2.2.1, p.2.2.2.2.2.2.2.2.2.2.1, p.2.2.2.2.2.2.2.2.2.2.2.1, p.2.2.2.2.2.2.2.2.2.2.2.2.1, p.2.2.2.2.2.2.2.2.2.2.2.2.2.1, (150 : Int32), (0 : Int32), (0 : Int32))
set_option maxHeartbeats 4000000 in
set_option maxRecDepth 100000 in
theorem jX2_fly_b83 {X : jX} (hC : jC X cX2_fly 8 RX2 rX2_fly none) (u : Nat) (h_a h_a_told : Nat) (p1 v_a_length v_a_weight v_a_place v_a_stiff v_a_angle v_a_pushes v_a_pace v_a_bend v_a_off v_a_range v_a_rise v_a_rounds v_a_heightThere : Int32) (f_a_told : Nat → Int32) (p : Int32 × Int32 × Int32 × Int32 × Int32 × Int32 × Int32 × Int32 × Int32 × Int32 × Int32 × Int32 × Int32 × Int32 × Int32 × Int32) : jJ X 8 0 0 (jQf X 0 0 (fun _ => none) (fun r _ => [(h_a, .inr (2, [.ref h_a_told, .int r.1, .int r.2.1, .int r.2.2.1, .int r.2.2.2.1, .int r.2.2.2.2.1, .int r.2.2.2.2.2.1, .int r.2.2.2.2.2.2.1, .int r.2.2.2.2.2.2.2.1, .int r.2.2.2.2.2.2.2.2.1, .int r.2.2.2.2.2.2.2.2.2.1, .int r.2.2.2.2.2.2.2.2.2.2.1, .int r.2.2.2.2.2.2.2.2.2.2.2.1, .int r.2.2.2.2.2.2.2.2.2.2.2.2])), (h_a_told, .inl (jy X 0, 13, .inl f_a_told))])) 83 [(0, .ref h_a), (1, .int p1), (2, .int p.1), (3, .int p.2.1)] [.int p.2.2.1] [(h_a, .inr (2, [.ref h_a_told, .int p.2.2.2.1, .int p.2.2.2.2.1, .int p.2.2.2.2.2.1, .int p.2.2.2.2.2.2.1, .int p.2.2.2.2.2.2.2.1, .int p.2.2.2.2.2.2.2.2.1, .int p.2.2.2.2.2.2.2.2.2.1, .int p.2.2.2.2.2.2.2.2.2.2.1, .int p.2.2.2.2.2.2.2.2.2.2.2.1, .int p.2.2.2.2.2.2.2.2.2.2.2.2.1, .int p.2.2.2.2.2.2.2.2.2.2.2.2.2.1, .int p.2.2.2.2.2.2.2.2.2.2.2.2.2.2.1, .int p.2.2.2.2.2.2.2.2.2.2.2.2.2.2.2])), (h_a_told, .inl (jy X 0, 13, .inl f_a_told))] (fX2_fly_b83 u p1 v_a_length v_a_weight v_a_place v_a_stiff v_a_angle v_a_pushes v_a_pace v_a_bend v_a_off v_a_range v_a_rise v_a_rounds v_a_heightThere f_a_told p) := by
  unfold fX2_fly_b83
  refine j_istore (pc := 83) hC (lv' := [(4, .int p.2.2.1), (0, .ref h_a), (1, .int p1), (2, .int p.1), (3, .int p.2.1)]) rfl (by decide) dX2_fly_83 ?_
  refine j_aload_n (pc := 85) hC 1 rfl dX2_fly_85 ?_
  refine j_get (pc := 86) hC flRX2_9 0 rfl rfl dX2_fly_86 ?_
  refine j_bipush (pc := 89) hC kb_9 dX2_fly_89 ?_
  refine j_iald (pc := 91) hC 1 rfl dX2_fly_91 ?_
  refine j_ifne (pc := 92) hC 106 (by decide) dX2_fly_92 ?_ ?_
  · refine j_iconst (pc := 106) hC ki_4 dX2_fly_106 ?_
    refine j_iconst (pc := 107) hC ki_2 dX2_fly_107 ?_
    refine j_aload_n (pc := 108) hC 1 rfl dX2_fly_108 ?_
    refine j_get (pc := 109) hC flRX2_9 0 rfl rfl dX2_fly_109 ?_
    refine j_bipush (pc := 112) hC kb_9 dX2_fly_112 ?_
    refine j_iald (pc := 114) hC 1 rfl dX2_fly_114 ?_
    refine j_imul (pc := 115) hC dX2_fly_115 ?_
    refine j_iadd (pc := 116) hC dX2_fly_116 ?_
    refine j_aload_n (pc := 117) hC 1 rfl dX2_fly_117 ?_
    refine j_get (pc := 118) hC flRX2_55 0 rfl rfl dX2_fly_118 ?_
    refine j_iadd (pc := 121) hC dX2_fly_121 ?_
    refine j_lv (pc := 122) [1, 2, 3, 4, 0] rfl ?_
    exact jX2_fly_b122 hC u h_a h_a_told p1 v_a_length v_a_weight v_a_place v_a_stiff v_a_angle v_a_pushes v_a_pace v_a_bend v_a_off v_a_range v_a_rise v_a_rounds v_a_heightThere f_a_told (p.1, p.2.1, p.2.2.1, (((4 : Int32) + ((2 : Int32) * (f_a_told (9 : Int32).toNatClampNeg))) + p.2.2.2.2.2.2.2.2.2.2.2.1), p.2.2.2.1, p.2.2.2.2.1, p.2.2.2.2.2.1, p.2.2.2.2.2.2.1, p.2.2.2.2.2.2.2.1, p.2.2.2.2.2.2.2.2.1, p.2.2.2.2.2.2.2.2.2.1, p.2.2.2.2.2.2.2.2.2.2.1, p.2.2.2.2.2.2.2.2.2.2.2.1, p.2.2.2.2.2.2.2.2.2.2.2.2.1, p.2.2.2.2.2.2.2.2.2.2.2.2.2.1, p.2.2.2.2.2.2.2.2.2.2.2.2.2.2.1, p.2.2.2.2.2.2.2.2.2.2.2.2.2.2.2)
  · refine j_iconst (pc := 95) hC ki_4 dX2_fly_95 ?_
    refine j_iconst (pc := 96) hC ki_3 dX2_fly_96 ?_
    refine j_aload_n (pc := 97) hC 1 rfl dX2_fly_97 ?_
    refine j_get (pc := 98) hC flRX2_55 0 rfl rfl dX2_fly_98 ?_
    refine j_imul (pc := 101) hC dX2_fly_101 ?_
    refine j_iadd (pc := 102) hC dX2_fly_102 ?_
    refine j_goto (pc := 103) hC 122 (by decide) dX2_fly_103 ?_
    refine j_lv (pc := 122) [1, 2, 3, 4, 0] rfl ?_
    exact jX2_fly_b122 hC u h_a h_a_told p1 v_a_length v_a_weight v_a_place v_a_stiff v_a_angle v_a_pushes v_a_pace v_a_bend v_a_off v_a_range v_a_rise v_a_rounds v_a_heightThere f_a_told (p.1, p.2.1, p.2.2.1, ((4 : Int32) + ((3 : Int32) * p.2.2.2.2.2.2.2.2.2.2.2.1)), p.2.2.2.1, p.2.2.2.2.1, p.2.2.2.2.2.1, p.2.2.2.2.2.2.1, p.2.2.2.2.2.2.2.1, p.2.2.2.2.2.2.2.2.1, p.2.2.2.2.2.2.2.2.2.1, p.2.2.2.2.2.2.2.2.2.2.1, p.2.2.2.2.2.2.2.2.2.2.2.1, p.2.2.2.2.2.2.2.2.2.2.2.2.1, p.2.2.2.2.2.2.2.2.2.2.2.2.2.1, p.2.2.2.2.2.2.2.2.2.2.2.2.2.2.1, p.2.2.2.2.2.2.2.2.2.2.2.2.2.2.2)
set_option maxHeartbeats 4000000 in
set_option maxRecDepth 100000 in
theorem jX2_fly_b82 {X : jX} (hC : jC X cX2_fly 8 RX2 rX2_fly none) (u : Nat) (h_a h_a_told : Nat) (p1 v_a_length v_a_weight v_a_place v_a_stiff v_a_angle v_a_pushes v_a_pace v_a_bend v_a_off v_a_range v_a_rise v_a_rounds v_a_heightThere : Int32) (f_a_told : Nat → Int32) (p : Int32 × Int32 × Int32 × Int32 × Int32 × Int32 × Int32 × Int32 × Int32 × Int32 × Int32 × Int32 × Int32 × Int32 × Int32) : jJ X 8 0 0 (jQf X 0 0 (fun _ => none) (fun r _ => [(h_a, .inr (2, [.ref h_a_told, .int r.1, .int r.2.1, .int r.2.2.1, .int r.2.2.2.1, .int r.2.2.2.2.1, .int r.2.2.2.2.2.1, .int r.2.2.2.2.2.2.1, .int r.2.2.2.2.2.2.2.1, .int r.2.2.2.2.2.2.2.2.1, .int r.2.2.2.2.2.2.2.2.2.1, .int r.2.2.2.2.2.2.2.2.2.2.1, .int r.2.2.2.2.2.2.2.2.2.2.2.1, .int r.2.2.2.2.2.2.2.2.2.2.2.2])), (h_a_told, .inl (jy X 0, 13, .inl f_a_told))])) 82 [(0, .ref h_a), (1, .int p1), (2, .int p.1), (3, .int p.2.1)] [] [(h_a, .inr (2, [.ref h_a_told, .int p.2.2.1, .int p.2.2.2.1, .int p.2.2.2.2.1, .int p.2.2.2.2.2.1, .int p.2.2.2.2.2.2.1, .int p.2.2.2.2.2.2.2.1, .int p.2.2.2.2.2.2.2.2.1, .int p.2.2.2.2.2.2.2.2.2.1, .int p.2.2.2.2.2.2.2.2.2.2.1, .int p.2.2.2.2.2.2.2.2.2.2.2.1, .int p.2.2.2.2.2.2.2.2.2.2.2.2.1, .int p.2.2.2.2.2.2.2.2.2.2.2.2.2.1, .int p.2.2.2.2.2.2.2.2.2.2.2.2.2.2])), (h_a_told, .inl (jy X 0, 13, .inl f_a_told))] (fX2_fly_b82 u p1 v_a_length v_a_weight v_a_place v_a_stiff v_a_angle v_a_pushes v_a_pace v_a_bend v_a_off v_a_range v_a_rise v_a_rounds v_a_heightThere f_a_told p) := by
  unfold fX2_fly_b82
  refine j_iconst (pc := 82) hC ki_0 dX2_fly_82 ?_
  exact jX2_fly_b83 hC u h_a h_a_told p1 v_a_length v_a_weight v_a_place v_a_stiff v_a_angle v_a_pushes v_a_pace v_a_bend v_a_off v_a_range v_a_rise v_a_rounds v_a_heightThere f_a_told (p.1, p.2.1, (0 : Int32), p.2.2.1, p.2.2.2.1, p.2.2.2.2.1, p.2.2.2.2.2.1, p.2.2.2.2.2.2.1, p.2.2.2.2.2.2.2.1, p.2.2.2.2.2.2.2.2.1, p.2.2.2.2.2.2.2.2.2.1, p.2.2.2.2.2.2.2.2.2.2.1, p.2.2.2.2.2.2.2.2.2.2.2.1, p.2.2.2.2.2.2.2.2.2.2.2.2.1, p.2.2.2.2.2.2.2.2.2.2.2.2.2.1, p.2.2.2.2.2.2.2.2.2.2.2.2.2.2)
set_option maxHeartbeats 4000000 in
set_option maxRecDepth 100000 in
theorem jX2_fly_b44 {X : jX} (hC : jC X cX2_fly 8 RX2 rX2_fly none) (u : Nat) (h_a h_a_told : Nat) (p1 v_a_length v_a_weight v_a_place v_a_stiff v_a_angle v_a_pushes v_a_pace v_a_bend v_a_off v_a_range v_a_rise v_a_rounds v_a_heightThere : Int32) (f_a_told : Nat → Int32) (p : Int32 × Int32 × Int32 × Int32 × Int32 × Int32 × Int32 × Int32 × Int32 × Int32 × Int32 × Int32 × Int32 × Int32 × Int32) : jJ X 8 0 0 (jQf X 0 0 (fun _ => none) (fun r _ => [(h_a, .inr (2, [.ref h_a_told, .int r.1, .int r.2.1, .int r.2.2.1, .int r.2.2.2.1, .int r.2.2.2.2.1, .int r.2.2.2.2.2.1, .int r.2.2.2.2.2.2.1, .int r.2.2.2.2.2.2.2.1, .int r.2.2.2.2.2.2.2.2.1, .int r.2.2.2.2.2.2.2.2.2.1, .int r.2.2.2.2.2.2.2.2.2.2.1, .int r.2.2.2.2.2.2.2.2.2.2.2.1, .int r.2.2.2.2.2.2.2.2.2.2.2.2])), (h_a_told, .inl (jy X 0, 13, .inl f_a_told))])) 44 [(0, .ref h_a), (1, .int p1), (2, .int p.1)] [.int p.2.1] [(h_a, .inr (2, [.ref h_a_told, .int p.2.2.1, .int p.2.2.2.1, .int p.2.2.2.2.1, .int p.2.2.2.2.2.1, .int p.2.2.2.2.2.2.1, .int p.2.2.2.2.2.2.2.1, .int p.2.2.2.2.2.2.2.2.1, .int p.2.2.2.2.2.2.2.2.2.1, .int p.2.2.2.2.2.2.2.2.2.2.1, .int p.2.2.2.2.2.2.2.2.2.2.2.1, .int p.2.2.2.2.2.2.2.2.2.2.2.2.1, .int p.2.2.2.2.2.2.2.2.2.2.2.2.2.1, .int p.2.2.2.2.2.2.2.2.2.2.2.2.2.2])), (h_a_told, .inl (jy X 0, 13, .inl f_a_told))] (fX2_fly_b44 u p1 v_a_length v_a_weight v_a_place v_a_stiff v_a_angle v_a_pushes v_a_pace v_a_bend v_a_off v_a_range v_a_rise v_a_rounds v_a_heightThere f_a_told p) := by
  unfold fX2_fly_b44
  refine j_istore_n (pc := 44) hC (lv' := [(3, .int p.2.1), (0, .ref h_a), (1, .int p1), (2, .int p.1)]) rfl (by decide) dX2_fly_44 ?_
  refine j_aload_n (pc := 45) hC 1 rfl dX2_fly_45 ?_
  refine j_get (pc := 46) hC flRX2_28 0 rfl rfl dX2_fly_46 ?_
  refine j_iflt (pc := 49) hC 82 (by decide) dX2_fly_49 ?_ ?_
  · refine j_lv (pc := 82) [1, 2, 3, 0] rfl ?_
    exact jX2_fly_b82 hC u h_a h_a_told p1 v_a_length v_a_weight v_a_place v_a_stiff v_a_angle v_a_pushes v_a_pace v_a_bend v_a_off v_a_range v_a_rise v_a_rounds v_a_heightThere f_a_told (p.1, p.2.1, p.2.2.1, p.2.2.2.1, p.2.2.2.2.1, p.2.2.2.2.2.1, p.2.2.2.2.2.2.1, p.2.2.2.2.2.2.2.1, p.2.2.2.2.2.2.2.2.1, p.2.2.2.2.2.2.2.2.2.1, p.2.2.2.2.2.2.2.2.2.2.1, p.2.2.2.2.2.2.2.2.2.2.2.1, p.2.2.2.2.2.2.2.2.2.2.2.2.1, p.2.2.2.2.2.2.2.2.2.2.2.2.2.1, p.2.2.2.2.2.2.2.2.2.2.2.2.2.2)
  · refine j_aload_n (pc := 52) hC 1 rfl dX2_fly_52 ?_
    refine j_get (pc := 53) hC flRX2_28 0 rfl rfl dX2_fly_53 ?_
    refine j_gets (pc := 56) hC 3 rfl wm478 dX2_fly_56 ?_
    refine j_tlen (pc := 59) hC 3 rfl (v := (7 : Int32)) rfl dX2_fly_59 ?_
    refine j_icmpge (pc := 60) hC 82 (by decide) dX2_fly_60 ?_ ?_
    · refine j_lv (pc := 82) [1, 2, 3, 0] rfl ?_
      exact jX2_fly_b82 hC u h_a h_a_told p1 v_a_length v_a_weight v_a_place v_a_stiff v_a_angle v_a_pushes v_a_pace v_a_bend v_a_off v_a_range v_a_rise v_a_rounds v_a_heightThere f_a_told (p.1, p.2.1, p.2.2.1, p.2.2.2.1, p.2.2.2.2.1, p.2.2.2.2.2.1, p.2.2.2.2.2.2.1, p.2.2.2.2.2.2.2.1, p.2.2.2.2.2.2.2.2.1, p.2.2.2.2.2.2.2.2.2.1, p.2.2.2.2.2.2.2.2.2.2.1, p.2.2.2.2.2.2.2.2.2.2.2.1, p.2.2.2.2.2.2.2.2.2.2.2.2.1, p.2.2.2.2.2.2.2.2.2.2.2.2.2.1, p.2.2.2.2.2.2.2.2.2.2.2.2.2.2)
    · refine j_aload_n (pc := 63) hC 1 rfl dX2_fly_63 ?_
      refine j_get (pc := 64) hC flRX2_52 0 rfl rfl dX2_fly_64 ?_
      refine j_gets (pc := 67) hC 3 rfl wm478 dX2_fly_67 ?_
      refine j_aload_n (pc := 70) hC 1 rfl dX2_fly_70 ?_
      refine j_get (pc := 71) hC flRX2_28 0 rfl rfl dX2_fly_71 ?_
      refine j_tald (pc := 74) hC 3 rfl rfl dX2_fly_74 ?_
      refine j_imul (pc := 75) hC dX2_fly_75 ?_
      refine j_bipush (pc := 76) hC kb_100 dX2_fly_76 ?_
      refine j_idivc (pc := 78) hC (by decide) dX2_fly_78 ?_
      refine j_goto (pc := 79) hC 83 (by decide) dX2_fly_79 ?_
      refine j_lv (pc := 83) [1, 2, 3, 0] rfl ?_
      exact jX2_fly_b83 hC u h_a h_a_told p1 v_a_length v_a_weight v_a_place v_a_stiff v_a_angle v_a_pushes v_a_pace v_a_bend v_a_off v_a_range v_a_rise v_a_rounds v_a_heightThere f_a_told (p.1, p.2.1, ((p.2.2.2.2.2.2.2.2.1 * ((jtab 3).getD p.2.2.2.2.2.2.1.toNatClampNeg 0)) / (100 : Int32)), p.2.2.1, p.2.2.2.1, p.2.2.2.2.1, p.2.2.2.2.2.1, p.2.2.2.2.2.2.1, p.2.2.2.2.2.2.2.1, p.2.2.2.2.2.2.2.2.1, p.2.2.2.2.2.2.2.2.2.1, p.2.2.2.2.2.2.2.2.2.2.1, p.2.2.2.2.2.2.2.2.2.2.2.1, p.2.2.2.2.2.2.2.2.2.2.2.2.1, p.2.2.2.2.2.2.2.2.2.2.2.2.2.1, p.2.2.2.2.2.2.2.2.2.2.2.2.2.2)
set_option maxHeartbeats 4000000 in
set_option maxRecDepth 100000 in
theorem jX2_fly_b43 {X : jX} (hC : jC X cX2_fly 8 RX2 rX2_fly none) (u : Nat) (h_a h_a_told : Nat) (p1 v_a_length v_a_weight v_a_place v_a_stiff v_a_angle v_a_pushes v_a_pace v_a_bend v_a_off v_a_range v_a_rise v_a_rounds v_a_heightThere : Int32) (f_a_told : Nat → Int32) (p : Int32 × Int32 × Int32 × Int32 × Int32 × Int32 × Int32 × Int32 × Int32 × Int32 × Int32 × Int32 × Int32 × Int32) : jJ X 8 0 0 (jQf X 0 0 (fun _ => none) (fun r _ => [(h_a, .inr (2, [.ref h_a_told, .int r.1, .int r.2.1, .int r.2.2.1, .int r.2.2.2.1, .int r.2.2.2.2.1, .int r.2.2.2.2.2.1, .int r.2.2.2.2.2.2.1, .int r.2.2.2.2.2.2.2.1, .int r.2.2.2.2.2.2.2.2.1, .int r.2.2.2.2.2.2.2.2.2.1, .int r.2.2.2.2.2.2.2.2.2.2.1, .int r.2.2.2.2.2.2.2.2.2.2.2.1, .int r.2.2.2.2.2.2.2.2.2.2.2.2])), (h_a_told, .inl (jy X 0, 13, .inl f_a_told))])) 43 [(0, .ref h_a), (1, .int p1), (2, .int p.1)] [] [(h_a, .inr (2, [.ref h_a_told, .int p.2.1, .int p.2.2.1, .int p.2.2.2.1, .int p.2.2.2.2.1, .int p.2.2.2.2.2.1, .int p.2.2.2.2.2.2.1, .int p.2.2.2.2.2.2.2.1, .int p.2.2.2.2.2.2.2.2.1, .int p.2.2.2.2.2.2.2.2.2.1, .int p.2.2.2.2.2.2.2.2.2.2.1, .int p.2.2.2.2.2.2.2.2.2.2.2.1, .int p.2.2.2.2.2.2.2.2.2.2.2.2.1, .int p.2.2.2.2.2.2.2.2.2.2.2.2.2])), (h_a_told, .inl (jy X 0, 13, .inl f_a_told))] (fX2_fly_b43 u p1 v_a_length v_a_weight v_a_place v_a_stiff v_a_angle v_a_pushes v_a_pace v_a_bend v_a_off v_a_range v_a_rise v_a_rounds v_a_heightThere f_a_told p) := by
  unfold fX2_fly_b43
  refine j_iconst (pc := 43) hC ki_0 dX2_fly_43 ?_
  exact jX2_fly_b44 hC u h_a h_a_told p1 v_a_length v_a_weight v_a_place v_a_stiff v_a_angle v_a_pushes v_a_pace v_a_bend v_a_off v_a_range v_a_rise v_a_rounds v_a_heightThere f_a_told (p.1, (0 : Int32), p.2.1, p.2.2.1, p.2.2.2.1, p.2.2.2.2.1, p.2.2.2.2.2.1, p.2.2.2.2.2.2.1, p.2.2.2.2.2.2.2.1, p.2.2.2.2.2.2.2.2.1, p.2.2.2.2.2.2.2.2.2.1, p.2.2.2.2.2.2.2.2.2.2.1, p.2.2.2.2.2.2.2.2.2.2.2.1, p.2.2.2.2.2.2.2.2.2.2.2.2.1, p.2.2.2.2.2.2.2.2.2.2.2.2.2)
set_option maxHeartbeats 4000000 in
set_option maxRecDepth 100000 in
theorem jX2_fly {X : jX} (hC : jC X cX2_fly 8 RX2 rX2_fly none) (u : Nat) (h_a h_a_told : Nat) (p1 v_a_length v_a_weight v_a_place v_a_stiff v_a_angle v_a_pushes v_a_pace v_a_bend v_a_off v_a_range v_a_rise v_a_rounds v_a_heightThere : Int32) (f_a_told : Nat → Int32) : jJ X 8 0 0 (jQf X 0 0 (fun _ => none) (fun r _ => [(h_a, .inr (2, [.ref h_a_told, .int r.1, .int r.2.1, .int r.2.2.1, .int r.2.2.2.1, .int r.2.2.2.2.1, .int r.2.2.2.2.2.1, .int r.2.2.2.2.2.2.1, .int r.2.2.2.2.2.2.2.1, .int r.2.2.2.2.2.2.2.2.1, .int r.2.2.2.2.2.2.2.2.2.1, .int r.2.2.2.2.2.2.2.2.2.2.1, .int r.2.2.2.2.2.2.2.2.2.2.2.1, .int r.2.2.2.2.2.2.2.2.2.2.2.2])), (h_a_told, .inl (jy X 0, 13, .inl f_a_told))])) 0 [(0, .ref h_a), (1, .int p1)] [] [(h_a, .inr (2, [.ref h_a_told, .int v_a_length, .int v_a_weight, .int v_a_place, .int v_a_stiff, .int v_a_angle, .int v_a_pushes, .int v_a_pace, .int v_a_bend, .int v_a_off, .int v_a_range, .int v_a_rise, .int v_a_rounds, .int v_a_heightThere])), (h_a_told, .inl (jy X 0, 13, .inl f_a_told))] (fX2_fly u p1 v_a_length v_a_weight v_a_place v_a_stiff v_a_angle v_a_pushes v_a_pace v_a_bend v_a_off v_a_range v_a_rise v_a_rounds v_a_heightThere f_a_told) := by
  unfold fX2_fly
  refine j_aload_n (pc := 0) hC 0 rfl dX2_fly_0 ?_
  refine j_callV (pc := 1) hC csRX2_58 [] (mX2_leave (jl X) (jD X) (jy X) (jv X) u h_a h_a_told v_a_length v_a_weight v_a_place v_a_stiff v_a_angle v_a_pushes v_a_pace v_a_bend v_a_off v_a_range v_a_rise v_a_rounds v_a_heightThere f_a_told) [0, 1] rfl (by decide +kernel) 0 rfl ⟨_, _, rfl⟩ ⟨by decide, by decide, rfl, rfl, by decide, by decide⟩ rfl rfl (Nat.le_of_ble_eq_true rfl) dX2_fly_1 (jkv (fun r1 _ => (rfl : @Eq va_W _ [(h_a, .inr (2, [.ref h_a_told, .int r1.1, .int r1.2.1, .int r1.2.2.1, .int r1.2.2.2.1, .int r1.2.2.2.2.1, .int r1.2.2.2.2.2.1, .int r1.2.2.2.2.2.2.1, .int r1.2.2.2.2.2.2.2.1, .int r1.2.2.2.2.2.2.2.2, .int v_a_range, .int v_a_rise, .int v_a_rounds, .int v_a_heightThere])), (h_a_told, .inl (jy X 0, 13, .inl f_a_told))])) (fun r1 => ?_))
  refine j_iconst (pc := 4) hC ki_0 dX2_fly_4 ?_
  refine j_istore_n (pc := 5) hC (lv' := [(2, .int (0 : Int32)), (0, .ref h_a), (1, .int p1)]) rfl (by decide) dX2_fly_5 ?_
  refine j_aload_n (pc := 6) hC 1 rfl dX2_fly_6 ?_
  refine j_get (pc := 7) hC flRX2_28 0 rfl rfl dX2_fly_7 ?_
  refine j_iflt (pc := 10) hC 43 (by decide) dX2_fly_10 ?_ ?_
  · refine j_lv (pc := 43) [1, 2, 0] rfl ?_
    exact jX2_fly_b43 hC u h_a h_a_told p1 v_a_length v_a_weight v_a_place v_a_stiff v_a_angle v_a_pushes v_a_pace v_a_bend v_a_off v_a_range v_a_rise v_a_rounds v_a_heightThere f_a_told ((0 : Int32), r1.1, r1.2.1, r1.2.2.1, r1.2.2.2.1, r1.2.2.2.2.1, r1.2.2.2.2.2.1, r1.2.2.2.2.2.2.1, r1.2.2.2.2.2.2.2.1, r1.2.2.2.2.2.2.2.2, v_a_range, v_a_rise, v_a_rounds, v_a_heightThere)
  · refine j_aload_n (pc := 13) hC 1 rfl dX2_fly_13 ?_
    refine j_get (pc := 14) hC flRX2_28 0 rfl rfl dX2_fly_14 ?_
    refine j_gets (pc := 17) hC 2 rfl wm476 dX2_fly_17 ?_
    refine j_tlen (pc := 20) hC 2 rfl (v := (7 : Int32)) rfl dX2_fly_20 ?_
    refine j_icmpge (pc := 21) hC 43 (by decide) dX2_fly_21 ?_ ?_
    · refine j_lv (pc := 43) [1, 2, 0] rfl ?_
      exact jX2_fly_b43 hC u h_a h_a_told p1 v_a_length v_a_weight v_a_place v_a_stiff v_a_angle v_a_pushes v_a_pace v_a_bend v_a_off v_a_range v_a_rise v_a_rounds v_a_heightThere f_a_told ((0 : Int32), r1.1, r1.2.1, r1.2.2.1, r1.2.2.2.1, r1.2.2.2.2.1, r1.2.2.2.2.2.1, r1.2.2.2.2.2.2.1, r1.2.2.2.2.2.2.2.1, r1.2.2.2.2.2.2.2.2, v_a_range, v_a_rise, v_a_rounds, v_a_heightThere)
    · refine j_aload_n (pc := 24) hC 1 rfl dX2_fly_24 ?_
      refine j_get (pc := 25) hC flRX2_52 0 rfl rfl dX2_fly_25 ?_
      refine j_gets (pc := 28) hC 2 rfl wm476 dX2_fly_28 ?_
      refine j_aload_n (pc := 31) hC 1 rfl dX2_fly_31 ?_
      refine j_get (pc := 32) hC flRX2_28 0 rfl rfl dX2_fly_32 ?_
      refine j_tald (pc := 35) hC 2 rfl rfl dX2_fly_35 ?_
      refine j_imul (pc := 36) hC dX2_fly_36 ?_
      refine j_bipush (pc := 37) hC kb_100 dX2_fly_37 ?_
      refine j_idivc (pc := 39) hC (by decide) dX2_fly_39 ?_
      refine j_goto (pc := 40) hC 44 (by decide) dX2_fly_40 ?_
      refine j_lv (pc := 44) [1, 2, 0] rfl ?_
      exact jX2_fly_b44 hC u h_a h_a_told p1 v_a_length v_a_weight v_a_place v_a_stiff v_a_angle v_a_pushes v_a_pace v_a_bend v_a_off v_a_range v_a_rise v_a_rounds v_a_heightThere f_a_told ((0 : Int32), ((r1.2.2.2.2.2.2.1 * ((jtab 2).getD r1.2.2.2.2.1.toNatClampNeg 0)) / (100 : Int32)), r1.1, r1.2.1, r1.2.2.1, r1.2.2.2.1, r1.2.2.2.2.1, r1.2.2.2.2.2.1, r1.2.2.2.2.2.2.1, r1.2.2.2.2.2.2.2.1, r1.2.2.2.2.2.2.2.2, v_a_range, v_a_rise, v_a_rounds, v_a_heightThere)
set_option maxHeartbeats 4000000 in
set_option maxRecDepth 100000 in
theorem mX2_fly (l : Launch) (D : va_G) (cy : Nat → ClassId) (ev : jE) (u : Nat) (h_a h_a_told : Nat) (p1 v_a_length v_a_weight v_a_place v_a_stiff v_a_angle v_a_pushes v_a_pace v_a_bend v_a_off v_a_range v_a_rise v_a_rounds v_a_heightThere : Int32) (f_a_told : Nat → Int32) : jM l yX2_fly cX2_fly 8 none rX2_fly [.ref h_a, .int p1] [(h_a, .inr (2, [.ref h_a_told, .int v_a_length, .int v_a_weight, .int v_a_place, .int v_a_stiff, .int v_a_angle, .int v_a_pushes, .int v_a_pace, .int v_a_bend, .int v_a_off, .int v_a_range, .int v_a_rise, .int v_a_rounds, .int v_a_heightThere])), (h_a_told, .inl (cy 0, 13, .inl f_a_told))] (fun r _ => [(h_a, .inr (2, [.ref h_a_told, .int r.1, .int r.2.1, .int r.2.2.1, .int r.2.2.2.1, .int r.2.2.2.2.1, .int r.2.2.2.2.2.1, .int r.2.2.2.2.2.2.1, .int r.2.2.2.2.2.2.2.1, .int r.2.2.2.2.2.2.2.2.1, .int r.2.2.2.2.2.2.2.2.2.1, .int r.2.2.2.2.2.2.2.2.2.2.1, .int r.2.2.2.2.2.2.2.2.2.2.2.1, .int r.2.2.2.2.2.2.2.2.2.2.2.2])), (h_a_told, .inl (cy 0, 13, .inl f_a_told))]) (fun _ => none) (fX2_fly u p1 v_a_length v_a_weight v_a_place v_a_stiff v_a_angle v_a_pushes v_a_pace v_a_bend v_a_off v_a_range v_a_rise v_a_rounds v_a_heightThere f_a_told) D cy ev := j_met RX2 (by decide +kernel) rfl (Nat.le_of_ble_eq_true rfl) (fun X hC _ hD hy hv => by subst hD; subst hy; subst hv; exact jX2_fly hC u h_a h_a_told p1 v_a_length v_a_weight v_a_place v_a_stiff v_a_angle v_a_pushes v_a_pace v_a_bend v_a_off v_a_range v_a_rise v_a_rounds v_a_heightThere f_a_told)
set_option maxHeartbeats 4000000 in
set_option maxRecDepth 100000 in
theorem jX2_outcome {X : jX} (hC : jC X cX2_outcome 2 RX2 rX2_outcome (some .int)) (h_a h_a_told : Nat) (p1 v_a_length v_a_weight v_a_place v_a_stiff v_a_angle v_a_pushes v_a_pace v_a_bend v_a_off v_a_range v_a_rise v_a_rounds v_a_heightThere : Int32) : jJ X 2 0 0 (jQf X 0 0 (fun r => some (.int r)) (fun _ _ => [(h_a, .inr (2, [.ref h_a_told, .int v_a_length, .int v_a_weight, .int v_a_place, .int v_a_stiff, .int v_a_angle, .int v_a_pushes, .int v_a_pace, .int v_a_bend, .int v_a_off, .int v_a_range, .int v_a_rise, .int v_a_rounds, .int v_a_heightThere]))])) 0 [(0, .ref h_a), (1, .int p1)] [] [(h_a, .inr (2, [.ref h_a_told, .int v_a_length, .int v_a_weight, .int v_a_place, .int v_a_stiff, .int v_a_angle, .int v_a_pushes, .int v_a_pace, .int v_a_bend, .int v_a_off, .int v_a_range, .int v_a_rise, .int v_a_rounds, .int v_a_heightThere]))] (fX2_outcome p1 v_a_pace v_a_bend v_a_off v_a_range v_a_rise v_a_rounds) := by
  unfold fX2_outcome
  refine j_iload_n (pc := 0) hC 1 rfl dX2_outcome_0 ?_
  refine j_swc (pc := 1) hC (0 : Int32) 36 (by decide) (by decide) rfl (by decide) dX2_outcome_1 ?_ (fun c1 => ?_)
  · refine j_aload_n (pc := 36) hC 0 rfl dX2_outcome_36 ?_
    refine j_get (pc := 37) hC flRX2_77 0 rfl rfl dX2_outcome_37 ?_
    exact j_iret (pc := 40) hC (fun _ => 0) rfl rfl dX2_outcome_40
  refine j_swc (pc := 1) hC (1 : Int32) 41 (by decide) (by decide) rfl (by decide) dX2_outcome_1 ?_ (fun c2 => ?_)
  · refine j_aload_n (pc := 41) hC 0 rfl dX2_outcome_41 ?_
    refine j_get (pc := 42) hC flRX2_52 0 rfl rfl dX2_outcome_42 ?_
    exact j_iret (pc := 45) hC (fun _ => 0) rfl rfl dX2_outcome_45
  refine j_swc (pc := 1) hC (2 : Int32) 46 (by decide) (by decide) rfl (by decide) dX2_outcome_1 ?_ (fun c3 => ?_)
  · refine j_aload_n (pc := 46) hC 0 rfl dX2_outcome_46 ?_
    refine j_get (pc := 47) hC flRX2_49 0 rfl rfl dX2_outcome_47 ?_
    exact j_iret (pc := 50) hC (fun _ => 0) rfl rfl dX2_outcome_50
  refine j_swc (pc := 1) hC (3 : Int32) 51 (by decide) (by decide) rfl (by decide) dX2_outcome_1 ?_ (fun c4 => ?_)
  · refine j_aload_n (pc := 51) hC 0 rfl dX2_outcome_51 ?_
    refine j_get (pc := 52) hC flRX2_55 0 rfl rfl dX2_outcome_52 ?_
    exact j_iret (pc := 55) hC (fun _ => 0) rfl rfl dX2_outcome_55
  refine j_swc (pc := 1) hC (4 : Int32) 56 (by decide) (by decide) rfl (by decide) dX2_outcome_1 ?_ (fun c5 => ?_)
  · refine j_aload_n (pc := 56) hC 0 rfl dX2_outcome_56 ?_
    refine j_get (pc := 57) hC flRX2_67 0 rfl rfl dX2_outcome_57 ?_
    exact j_iret (pc := 60) hC (fun _ => 0) rfl rfl dX2_outcome_60
  refine j_swd (pc := 1) hC 61 (sw_0_4 c1 c2 c3 c4 c5) (by decide) dX2_outcome_1 ?_
  refine j_aload_n (pc := 61) hC 0 rfl dX2_outcome_61 ?_
  refine j_get (pc := 62) hC flRX2_70 0 rfl rfl dX2_outcome_62 ?_
  exact j_iret (pc := 65) hC (fun _ => 0) rfl rfl dX2_outcome_65
set_option maxHeartbeats 4000000 in
set_option maxRecDepth 100000 in
theorem mX2_outcome (l : Launch) (D : va_G) (cy : Nat → ClassId) (ev : jE) (h_a h_a_told : Nat) (p1 v_a_length v_a_weight v_a_place v_a_stiff v_a_angle v_a_pushes v_a_pace v_a_bend v_a_off v_a_range v_a_rise v_a_rounds v_a_heightThere : Int32) : jM l yX2_outcome cX2_outcome 2 (some .int) rX2_outcome [.ref h_a, .int p1] [(h_a, .inr (2, [.ref h_a_told, .int v_a_length, .int v_a_weight, .int v_a_place, .int v_a_stiff, .int v_a_angle, .int v_a_pushes, .int v_a_pace, .int v_a_bend, .int v_a_off, .int v_a_range, .int v_a_rise, .int v_a_rounds, .int v_a_heightThere]))] (fun _ _ => [(h_a, .inr (2, [.ref h_a_told, .int v_a_length, .int v_a_weight, .int v_a_place, .int v_a_stiff, .int v_a_angle, .int v_a_pushes, .int v_a_pace, .int v_a_bend, .int v_a_off, .int v_a_range, .int v_a_rise, .int v_a_rounds, .int v_a_heightThere]))]) (fun r => some (.int r)) (fX2_outcome p1 v_a_pace v_a_bend v_a_off v_a_range v_a_rise v_a_rounds) D cy ev := j_met RX2 (by decide +kernel) rfl (Nat.le_of_ble_eq_true rfl) (fun X hC _ hD hy hv => by subst hD; subst hy; subst hv; exact jX2_outcome hC h_a h_a_told p1 v_a_length v_a_weight v_a_place v_a_stiff v_a_angle v_a_pushes v_a_pace v_a_bend v_a_off v_a_range v_a_rise v_a_rounds v_a_heightThere)
set_option maxHeartbeats 4000000 in
set_option maxRecDepth 100000 in
theorem jX3_multiply_b62 {X : jX} (hC : jC X cX3_multiply 5 RX3 rX3_multiply none) (u : Nat) (h_a h_a_limbs : Nat) (p1 v_a_size : Int32) (f_a_limbs : Nat → Int32) (p : Int64 × Int32 × (Nat → Int32)) : jJ X 5 0 0 (jQf X 0 0 (fun _ => none) (fun r _ => [(h_a, .inr (3, [.ref h_a_limbs, .int r.1])), (h_a_limbs, .inl (jy X 0, 6, .inl r.2))])) 62 [(0, .ref h_a), (2, .long p.1)] [] [(h_a, .inr (3, [.ref h_a_limbs, .int p.2.1])), (h_a_limbs, .inl (jy X 0, 6, .inl p.2.2))] (fX3_multiply_b62 u p1 v_a_size f_a_limbs p) := by
  unfold fX3_multiply_b62
  refine j_aload_n (pc := 62) hC 0 rfl dX3_multiply_62 ?_
  refine j_lload_n (pc := 63) hC 1 rfl dX3_multiply_63 ?_
  refine j_callV (pc := 64) hC csRX3_17 [.long p.1] (mX3_pushUp (jl X) (jD X) (jy X) (jv X) u h_a h_a_limbs p.1 p.2.1 p.2.2) [0, 1] rfl (by decide +kernel) 0 rfl ⟨_, _, rfl⟩ ⟨by decide, by decide, rfl, rfl, by decide, by decide⟩ rfl rfl (Nat.le_of_ble_eq_true rfl) dX3_multiply_64 (jkv (fun r1 _ => (rfl : @Eq va_W _ [(h_a, .inr (3, [.ref h_a_limbs, .int r1.1])), (h_a_limbs, .inl (jy X 0, 6, .inl r1.2))])) (fun r1 => ?_))
  refine j_aload_n (pc := 67) hC 0 rfl dX3_multiply_67 ?_
  refine j_callV (pc := 68) hC csRX3_29 [] (mX3_dropZeros (jl X) (jD X) (jy X) (jv X) u h_a h_a_limbs r1.1 r1.2) [0, 1] rfl (by decide +kernel) 0 rfl ⟨_, _, rfl⟩ ⟨by decide, by decide, rfl, rfl, by decide, by decide⟩ rfl rfl (Nat.le_of_ble_eq_true rfl) dX3_multiply_68 (jkv (fun r2 _ => (rfl : @Eq va_W _ [(h_a, .inr (3, [.ref h_a_limbs, .int r2])), (h_a_limbs, .inl (jy X 0, 6, .inl r1.2))])) (fun r2 => ?_))
  exact j_vret (pc := 71) hC (fun _ => 0) rfl rfl dX3_multiply_71
set_option maxHeartbeats 4000000 in
set_option maxRecDepth 100000 in
theorem jX3_multiply_b5_step {X : jX} (hC : jC X cX3_multiply 5 RX3 rX3_multiply none) (u : Nat) (h_a h_a_limbs : Nat) (p1 v_a_size : Int32) (f_a_limbs : Nat → Int32) (rec5 : (Int64 × Int32 × Int32 × (Nat → Int32)) → Option (Int32 × (Nat → Int32))) (hrec5 : ∀ p : Int64 × Int32 × Int32 × (Nat → Int32), jJ X 5 0 0 (jQf X 0 0 (fun _ => none) (fun r _ => [(h_a, .inr (3, [.ref h_a_limbs, .int r.1])), (h_a_limbs, .inl (jy X 0, 6, .inl r.2))])) 5 [(0, .ref h_a), (1, .int p1), (2, .long p.1), (4, .int p.2.1)] [] [(h_a, .inr (3, [.ref h_a_limbs, .int p.2.2.1])), (h_a_limbs, .inl (jy X 0, 6, .inl p.2.2.2))] (rec5 p)) (p : Int64 × Int32 × Int32 × (Nat → Int32)) : jJ X 5 0 0 (jQf X 0 0 (fun _ => none) (fun r _ => [(h_a, .inr (3, [.ref h_a_limbs, .int r.1])), (h_a_limbs, .inl (jy X 0, 6, .inl r.2))])) 5 [(0, .ref h_a), (1, .int p1), (2, .long p.1), (4, .int p.2.1)] [] [(h_a, .inr (3, [.ref h_a_limbs, .int p.2.2.1])), (h_a_limbs, .inl (jy X 0, 6, .inl p.2.2.2))] (fX3_multiply_b5 u p1 v_a_size f_a_limbs rec5 p) := by
  unfold fX3_multiply_b5
  refine j_iload (pc := 5) hC 3 rfl dX3_multiply_5 ?_
  refine j_aload_n (pc := 7) hC 0 rfl dX3_multiply_7 ?_
  refine j_get (pc := 8) hC flRX3_13 0 rfl rfl dX3_multiply_8 ?_
  refine j_icmpge (pc := 11) hC 62 (by decide) dX3_multiply_11 ?_ ?_
  · refine j_lv (pc := 62) [0, 2] rfl ?_
    exact jX3_multiply_b62 hC u h_a h_a_limbs p1 v_a_size f_a_limbs (p.1, p.2.2.1, p.2.2.2)
  · refine j_iload (pc := 14) hC 3 rfl dX3_multiply_14 ?_
    refine j_aload_n (pc := 16) hC 0 rfl dX3_multiply_16 ?_
    refine j_get (pc := 17) hC flRX3_7 0 rfl rfl dX3_multiply_17 ?_
    refine j_alen (pc := 20) hC 1 0 rfl rfl (v := (6 : Int32)) rfl dX3_multiply_20 ?_
    refine j_icmpge (pc := 21) hC 62 (by decide) dX3_multiply_21 ?_ ?_
    · refine j_lv (pc := 62) [0, 2] rfl ?_
      exact jX3_multiply_b62 hC u h_a h_a_limbs p1 v_a_size f_a_limbs (p.1, p.2.2.1, p.2.2.2)
    · refine j_lload_n (pc := 24) hC 2 rfl dX3_multiply_24 ?_
      refine j_aload_n (pc := 25) hC 0 rfl dX3_multiply_25 ?_
      refine j_get (pc := 26) hC flRX3_7 0 rfl rfl dX3_multiply_26 ?_
      refine j_iload (pc := 29) hC 3 rfl dX3_multiply_29 ?_
      refine j_iald (pc := 31) hC 1 rfl dX3_multiply_31 ?_
      refine j_i2l (pc := 32) hC dX3_multiply_32 ?_
      refine j_iload_n (pc := 33) hC 1 rfl dX3_multiply_33 ?_
      refine j_i2l (pc := 34) hC dX3_multiply_34 ?_
      refine j_lmul (pc := 35) hC dX3_multiply_35 ?_
      refine j_ladd (pc := 36) hC dX3_multiply_36 ?_
      refine j_letl (pc := 37) (fun x3 => ?_)
      refine j_lstore_n (pc := 37) hC (lv' := [(2, .long x3), (0, .ref h_a), (1, .int p1), (4, .int p.2.1)]) rfl (by decide) dX3_multiply_37 ?_
      refine j_aload_n (pc := 38) hC 1 rfl dX3_multiply_38 ?_
      refine j_get (pc := 39) hC flRX3_7 0 rfl rfl dX3_multiply_39 ?_
      refine j_iload (pc := 42) hC 3 rfl dX3_multiply_42 ?_
      refine j_lload_n (pc := 44) hC 0 rfl dX3_multiply_44 ?_
      refine j_ldc2 (pc := 45) hC wm345 dX3_multiply_45 ?_
      refine j_land (pc := 48) hC dX3_multiply_48 ?_
      refine j_l2i (pc := 49) hC dX3_multiply_49 ?_
      refine j_iast (pc := 50) hC 1 rfl dX3_multiply_50 (fun g4 => (rfl : @Eq va_W _ [(h_a, .inr (3, [.ref h_a_limbs, .int p.2.2.1])), (h_a_limbs, .inl (jy X 0, 6, .inl g4))])) (fun g4 => ?_)
      refine j_lload_n (pc := 51) hC 0 rfl dX3_multiply_51 ?_
      refine j_bipush (pc := 52) hC kb_30 dX3_multiply_52 ?_
      refine j_lshr (pc := 54) hC dX3_multiply_54 ?_
      refine j_letl (pc := 55) (fun x5 => ?_)
      refine j_lstore_n (pc := 55) hC (lv' := [(2, .long x5), (0, .ref h_a), (1, .int p1), (4, .int p.2.1)]) rfl (by decide) dX3_multiply_55 ?_
      refine j_iinc (pc := 56) hC 3 rfl ki_1 (fun x6 => (rfl : @Eq (List (Nat × Value)) _ [(4, .int x6), (2, .long x5), (0, .ref h_a), (1, .int p1)])) (by decide) dX3_multiply_56 (fun x6 => ?_)
      refine j_goto (pc := 59) hC 5 (by decide) dX3_multiply_59 ?_
      refine j_lv (pc := 5) [2, 3, 1, 0] rfl ?_
      exact hrec5 (x5, x6, p.2.2.1, g4)
set_option maxHeartbeats 4000000 in
set_option maxRecDepth 100000 in
theorem jX3_multiply_b5 {X : jX} (hC : jC X cX3_multiply 5 RX3 rX3_multiply none) (u : Nat) (h_a h_a_limbs : Nat) (p1 v_a_size : Int32) (f_a_limbs : Nat → Int32) (p : Int64 × Int32 × Int32 × (Nat → Int32)) : jJ X 5 0 0 (jQf X 0 0 (fun _ => none) (fun r _ => [(h_a, .inr (3, [.ref h_a_limbs, .int r.1])), (h_a_limbs, .inl (jy X 0, 6, .inl r.2))])) 5 [(0, .ref h_a), (1, .int p1), (2, .long p.1), (4, .int p.2.1)] [] [(h_a, .inr (3, [.ref h_a_limbs, .int p.2.2.1])), (h_a_limbs, .inl (jy X 0, 6, .inl p.2.2.2))] (jfix (fX3_multiply_b5 u p1 v_a_size f_a_limbs) u p) :=
  j_fix (fun rec5 hrec5 p => jX3_multiply_b5_step hC u h_a h_a_limbs p1 v_a_size f_a_limbs rec5 hrec5 p) u p
set_option maxHeartbeats 4000000 in
set_option maxRecDepth 100000 in
theorem jX3_multiply {X : jX} (hC : jC X cX3_multiply 5 RX3 rX3_multiply none) (u : Nat) (h_a h_a_limbs : Nat) (p1 v_a_size : Int32) (f_a_limbs : Nat → Int32) : jJ X 5 0 0 (jQf X 0 0 (fun _ => none) (fun r _ => [(h_a, .inr (3, [.ref h_a_limbs, .int r.1])), (h_a_limbs, .inl (jy X 0, 6, .inl r.2))])) 0 [(0, .ref h_a), (1, .int p1)] [] [(h_a, .inr (3, [.ref h_a_limbs, .int v_a_size])), (h_a_limbs, .inl (jy X 0, 6, .inl f_a_limbs))] (fX3_multiply u p1 v_a_size f_a_limbs) := by
  unfold fX3_multiply
  refine j_lconst (pc := 0) hC (v := (0 : Int64)) rfl dX3_multiply_0 ?_
  refine j_lstore_n (pc := 1) hC (lv' := [(2, .long (0 : Int64)), (0, .ref h_a), (1, .int p1)]) rfl (by decide) dX3_multiply_1 ?_
  refine j_iconst (pc := 2) hC ki_0 dX3_multiply_2 ?_
  refine j_istore (pc := 3) hC (lv' := [(4, .int (0 : Int32)), (2, .long (0 : Int64)), (0, .ref h_a), (1, .int p1)]) rfl (by decide) dX3_multiply_3 ?_
  refine j_lv (pc := 5) [2, 3, 1, 0] rfl ?_
  exact jX3_multiply_b5 hC u h_a h_a_limbs p1 v_a_size f_a_limbs ((0 : Int64), (0 : Int32), v_a_size, f_a_limbs)
set_option maxHeartbeats 4000000 in
set_option maxRecDepth 100000 in
theorem mX3_multiply (l : Launch) (D : va_G) (cy : Nat → ClassId) (ev : jE) (u : Nat) (h_a h_a_limbs : Nat) (p1 v_a_size : Int32) (f_a_limbs : Nat → Int32) : jM l yX3_multiply cX3_multiply 5 none rX3_multiply [.ref h_a, .int p1] [(h_a, .inr (3, [.ref h_a_limbs, .int v_a_size])), (h_a_limbs, .inl (cy 0, 6, .inl f_a_limbs))] (fun r _ => [(h_a, .inr (3, [.ref h_a_limbs, .int r.1])), (h_a_limbs, .inl (cy 0, 6, .inl r.2))]) (fun _ => none) (fX3_multiply u p1 v_a_size f_a_limbs) D cy ev := j_met RX3 (by decide +kernel) rfl (Nat.le_of_ble_eq_true rfl) (fun X hC _ hD hy hv => by subst hD; subst hy; subst hv; exact jX3_multiply hC u h_a h_a_limbs p1 v_a_size f_a_limbs)
set_option maxHeartbeats 4000000 in
set_option maxRecDepth 100000 in
theorem jX3_add_b77 {X : jX} (hC : jC X cX3_add 6 RX3 rX3_add none) (u : Nat) (h_a h_a_limbs h_b1 h_b1_limbs : Nat) (v_a_size v_b1_size : Int32) (f_a_limbs f_b1_limbs : Nat → Int32) (p : Int64 × Int32 × Int32 × (Nat → Int32)) : jJ X 6 0 0 (jQf X 0 0 (fun _ => none) (fun r _ => [(h_a, .inr (3, [.ref h_a_limbs, .int r.1])), (h_b1, .inr (3, [.ref h_b1_limbs, .int v_b1_size])), (h_a_limbs, .inl (jy X 0, 6, .inl r.2)), (h_b1_limbs, .inl (jy X 0, 6, .inl f_b1_limbs))])) 77 [(0, .ref h_a), (2, .long p.1), (4, .int p.2.1)] [] [(h_a, .inr (3, [.ref h_a_limbs, .int p.2.2.1])), (h_b1, .inr (3, [.ref h_b1_limbs, .int v_b1_size])), (h_a_limbs, .inl (jy X 0, 6, .inl p.2.2.2)), (h_b1_limbs, .inl (jy X 0, 6, .inl f_b1_limbs))] (fX3_add_b77 u v_a_size v_b1_size f_a_limbs f_b1_limbs p) := by
  unfold fX3_add_b77
  refine j_aload_n (pc := 77) hC 0 rfl dX3_add_77 ?_
  refine j_iload (pc := 78) hC 2 rfl dX3_add_78 ?_
  refine j_put (pc := 80) hC fpRX3_13 0 rfl rfl rfl (Nat.le_of_ble_eq_true rfl) dX3_add_80 (ws' := [(h_a, .inr (3, [.ref h_a_limbs, .int p.2.1])), (h_b1, .inr (3, [.ref h_b1_limbs, .int v_b1_size])), (h_a_limbs, .inl (jy X 0, 6, .inl p.2.2.2)), (h_b1_limbs, .inl (jy X 0, 6, .inl f_b1_limbs))]) rfl ?_
  refine j_aload_n (pc := 83) hC 0 rfl dX3_add_83 ?_
  refine j_lload_n (pc := 84) hC 1 rfl dX3_add_84 ?_
  refine j_callV (pc := 85) hC csRX3_17 [.long p.1] (mX3_pushUp (jl X) (jD X) (jy X) (jv X) u h_a h_a_limbs p.1 p.2.1 p.2.2.2) [0, 2] rfl (by decide +kernel) 0 rfl ⟨_, _, rfl⟩ ⟨by decide, by decide, rfl, rfl, by decide, by decide⟩ rfl rfl (Nat.le_of_ble_eq_true rfl) dX3_add_85 (jkv (fun r2 _ => (rfl : @Eq va_W _ [(h_a, .inr (3, [.ref h_a_limbs, .int r2.1])), (h_b1, .inr (3, [.ref h_b1_limbs, .int v_b1_size])), (h_a_limbs, .inl (jy X 0, 6, .inl r2.2)), (h_b1_limbs, .inl (jy X 0, 6, .inl f_b1_limbs))])) (fun r2 => ?_))
  exact j_vret (pc := 88) hC (fun _ => 0) rfl rfl dX3_add_88
set_option maxHeartbeats 4000000 in
set_option maxRecDepth 100000 in
theorem jX3_add_b18_step {X : jX} (hC : jC X cX3_add 6 RX3 rX3_add none) (u : Nat) (h_a h_a_limbs h_b1 h_b1_limbs : Nat) (v_a_size v_b1_size : Int32) (f_a_limbs f_b1_limbs : Nat → Int32) (rec18 : (Int64 × Int32 × Int32 × Int32 × (Nat → Int32)) → Option (Int32 × (Nat → Int32))) (hrec18 : ∀ p : Int64 × Int32 × Int32 × Int32 × (Nat → Int32), jJ X 6 0 0 (jQf X 0 0 (fun _ => none) (fun r _ => [(h_a, .inr (3, [.ref h_a_limbs, .int r.1])), (h_b1, .inr (3, [.ref h_b1_limbs, .int v_b1_size])), (h_a_limbs, .inl (jy X 0, 6, .inl r.2)), (h_b1_limbs, .inl (jy X 0, 6, .inl f_b1_limbs))])) 18 [(0, .ref h_a), (1, .ref h_b1), (2, .long p.1), (4, .int p.2.1), (5, .int p.2.2.1)] [] [(h_a, .inr (3, [.ref h_a_limbs, .int p.2.2.2.1])), (h_b1, .inr (3, [.ref h_b1_limbs, .int v_b1_size])), (h_a_limbs, .inl (jy X 0, 6, .inl p.2.2.2.2)), (h_b1_limbs, .inl (jy X 0, 6, .inl f_b1_limbs))] (rec18 p)) (p : Int64 × Int32 × Int32 × Int32 × (Nat → Int32)) : jJ X 6 0 0 (jQf X 0 0 (fun _ => none) (fun r _ => [(h_a, .inr (3, [.ref h_a_limbs, .int r.1])), (h_b1, .inr (3, [.ref h_b1_limbs, .int v_b1_size])), (h_a_limbs, .inl (jy X 0, 6, .inl r.2)), (h_b1_limbs, .inl (jy X 0, 6, .inl f_b1_limbs))])) 18 [(0, .ref h_a), (1, .ref h_b1), (2, .long p.1), (4, .int p.2.1), (5, .int p.2.2.1)] [] [(h_a, .inr (3, [.ref h_a_limbs, .int p.2.2.2.1])), (h_b1, .inr (3, [.ref h_b1_limbs, .int v_b1_size])), (h_a_limbs, .inl (jy X 0, 6, .inl p.2.2.2.2)), (h_b1_limbs, .inl (jy X 0, 6, .inl f_b1_limbs))] (fX3_add_b18 u v_a_size v_b1_size f_a_limbs f_b1_limbs rec18 p) := by
  unfold fX3_add_b18
  refine j_iload (pc := 18) hC 4 rfl dX3_add_18 ?_
  refine j_iload (pc := 20) hC 3 rfl dX3_add_20 ?_
  refine j_icmpge (pc := 22) hC 77 (by decide) dX3_add_22 ?_ ?_
  · refine j_lv (pc := 77) [0, 2, 3] rfl ?_
    exact jX3_add_b77 hC u h_a h_a_limbs h_b1 h_b1_limbs v_a_size v_b1_size f_a_limbs f_b1_limbs (p.1, p.2.1, p.2.2.2.1, p.2.2.2.2)
  · refine j_iload (pc := 25) hC 4 rfl dX3_add_25 ?_
    refine j_aload_n (pc := 27) hC 0 rfl dX3_add_27 ?_
    refine j_get (pc := 28) hC flRX3_7 0 rfl rfl dX3_add_28 ?_
    refine j_alen (pc := 31) hC 2 0 rfl rfl (v := (6 : Int32)) rfl dX3_add_31 ?_
    refine j_icmpge (pc := 32) hC 77 (by decide) dX3_add_32 ?_ ?_
    · refine j_lv (pc := 77) [0, 2, 3] rfl ?_
      exact jX3_add_b77 hC u h_a h_a_limbs h_b1 h_b1_limbs v_a_size v_b1_size f_a_limbs f_b1_limbs (p.1, p.2.1, p.2.2.2.1, p.2.2.2.2)
    · refine j_lload_n (pc := 35) hC 2 rfl dX3_add_35 ?_
      refine j_aload_n (pc := 36) hC 0 rfl dX3_add_36 ?_
      refine j_iload (pc := 37) hC 4 rfl dX3_add_37 ?_
      refine j_callV (pc := 39) hC csRX3_38 [.int p.2.2.1] (mX3_digit (jl X) (jD X) (jy X) (jv X) h_a h_a_limbs p.2.2.1 p.2.2.2.1 p.2.2.2.2) [0, 2] rfl (by decide +kernel) 0 rfl ⟨_, _, rfl⟩ ⟨by decide, by decide, rfl, rfl, by decide, by decide⟩ rfl rfl (Nat.le_of_ble_eq_true rfl) dX3_add_39 (jki0 (fun _ => rfl) (fun _ _ => rfl) (fun r3 => ?_))
      refine j_i2l (pc := 42) hC dX3_add_42 ?_
      refine j_aload_n (pc := 43) hC 1 rfl dX3_add_43 ?_
      refine j_iload (pc := 44) hC 4 rfl dX3_add_44 ?_
      refine j_callV (pc := 46) hC csRX3_38 [.int p.2.2.1] (mX3_digit (jl X) (jD X) (jy X) (jv X) h_b1 h_b1_limbs p.2.2.1 v_b1_size f_b1_limbs) [1, 3] rfl (by decide +kernel) 1 rfl ⟨_, _, rfl⟩ ⟨by decide, by decide, rfl, rfl, by decide, by decide⟩ rfl rfl (Nat.le_of_ble_eq_true rfl) dX3_add_46 (jki0 (fun _ => rfl) (fun _ _ => rfl) (fun r4 => ?_))
      refine j_i2l (pc := 49) hC dX3_add_49 ?_
      refine j_ladd (pc := 50) hC dX3_add_50 ?_
      refine j_ladd (pc := 51) hC dX3_add_51 ?_
      refine j_letl (pc := 52) (fun x5 => ?_)
      refine j_lstore_n (pc := 52) hC (lv' := [(2, .long x5), (0, .ref h_a), (1, .ref h_b1), (4, .int p.2.1), (5, .int p.2.2.1)]) rfl (by decide) dX3_add_52 ?_
      refine j_aload_n (pc := 53) hC 1 rfl dX3_add_53 ?_
      refine j_get (pc := 54) hC flRX3_7 0 rfl rfl dX3_add_54 ?_
      refine j_iload (pc := 57) hC 4 rfl dX3_add_57 ?_
      refine j_lload_n (pc := 59) hC 0 rfl dX3_add_59 ?_
      refine j_ldc2 (pc := 60) hC wm345 dX3_add_60 ?_
      refine j_land (pc := 63) hC dX3_add_63 ?_
      refine j_l2i (pc := 64) hC dX3_add_64 ?_
      refine j_iast (pc := 65) hC 2 rfl dX3_add_65 (fun g6 => (rfl : @Eq va_W _ [(h_a, .inr (3, [.ref h_a_limbs, .int p.2.2.2.1])), (h_b1, .inr (3, [.ref h_b1_limbs, .int v_b1_size])), (h_a_limbs, .inl (jy X 0, 6, .inl g6)), (h_b1_limbs, .inl (jy X 0, 6, .inl f_b1_limbs))])) (fun g6 => ?_)
      refine j_lload_n (pc := 66) hC 0 rfl dX3_add_66 ?_
      refine j_bipush (pc := 67) hC kb_30 dX3_add_67 ?_
      refine j_lshr (pc := 69) hC dX3_add_69 ?_
      refine j_letl (pc := 70) (fun x7 => ?_)
      refine j_lstore_n (pc := 70) hC (lv' := [(2, .long x7), (0, .ref h_a), (1, .ref h_b1), (4, .int p.2.1), (5, .int p.2.2.1)]) rfl (by decide) dX3_add_70 ?_
      refine j_iinc (pc := 71) hC 4 rfl ki_1 (fun x8 => (rfl : @Eq (List (Nat × Value)) _ [(5, .int x8), (2, .long x7), (0, .ref h_a), (1, .ref h_b1), (4, .int p.2.1)])) (by decide) dX3_add_71 (fun x8 => ?_)
      refine j_goto (pc := 74) hC 18 (by decide) dX3_add_74 ?_
      refine j_lv (pc := 18) [2, 3, 1, 4, 0] rfl ?_
      exact hrec18 (x7, p.2.1, x8, p.2.2.2.1, g6)
set_option maxHeartbeats 4000000 in
set_option maxRecDepth 100000 in
theorem jX3_add_b18 {X : jX} (hC : jC X cX3_add 6 RX3 rX3_add none) (u : Nat) (h_a h_a_limbs h_b1 h_b1_limbs : Nat) (v_a_size v_b1_size : Int32) (f_a_limbs f_b1_limbs : Nat → Int32) (p : Int64 × Int32 × Int32 × Int32 × (Nat → Int32)) : jJ X 6 0 0 (jQf X 0 0 (fun _ => none) (fun r _ => [(h_a, .inr (3, [.ref h_a_limbs, .int r.1])), (h_b1, .inr (3, [.ref h_b1_limbs, .int v_b1_size])), (h_a_limbs, .inl (jy X 0, 6, .inl r.2)), (h_b1_limbs, .inl (jy X 0, 6, .inl f_b1_limbs))])) 18 [(0, .ref h_a), (1, .ref h_b1), (2, .long p.1), (4, .int p.2.1), (5, .int p.2.2.1)] [] [(h_a, .inr (3, [.ref h_a_limbs, .int p.2.2.2.1])), (h_b1, .inr (3, [.ref h_b1_limbs, .int v_b1_size])), (h_a_limbs, .inl (jy X 0, 6, .inl p.2.2.2.2)), (h_b1_limbs, .inl (jy X 0, 6, .inl f_b1_limbs))] (jfix (fX3_add_b18 u v_a_size v_b1_size f_a_limbs f_b1_limbs) u p) :=
  j_fix (fun rec18 hrec18 p => jX3_add_b18_step hC u h_a h_a_limbs h_b1 h_b1_limbs v_a_size v_b1_size f_a_limbs f_b1_limbs rec18 hrec18 p) u p
set_option maxHeartbeats 4000000 in
set_option maxRecDepth 100000 in
theorem jX3_add {X : jX} (hC : jC X cX3_add 6 RX3 rX3_add none) (u : Nat) (h_a h_a_limbs h_b1 h_b1_limbs : Nat) (v_a_size v_b1_size : Int32) (f_a_limbs f_b1_limbs : Nat → Int32) : jJ X 6 0 0 (jQf X 0 0 (fun _ => none) (fun r _ => [(h_a, .inr (3, [.ref h_a_limbs, .int r.1])), (h_b1, .inr (3, [.ref h_b1_limbs, .int v_b1_size])), (h_a_limbs, .inl (jy X 0, 6, .inl r.2)), (h_b1_limbs, .inl (jy X 0, 6, .inl f_b1_limbs))])) 0 [(0, .ref h_a), (1, .ref h_b1)] [] [(h_a, .inr (3, [.ref h_a_limbs, .int v_a_size])), (h_b1, .inr (3, [.ref h_b1_limbs, .int v_b1_size])), (h_a_limbs, .inl (jy X 0, 6, .inl f_a_limbs)), (h_b1_limbs, .inl (jy X 0, 6, .inl f_b1_limbs))] (fX3_add u v_a_size v_b1_size f_a_limbs f_b1_limbs) := by
  unfold fX3_add
  refine j_lconst (pc := 0) hC (v := (0 : Int64)) rfl dX3_add_0 ?_
  refine j_lstore_n (pc := 1) hC (lv' := [(2, .long (0 : Int64)), (0, .ref h_a), (1, .ref h_b1)]) rfl (by decide) dX3_add_1 ?_
  refine j_aload_n (pc := 2) hC 1 rfl dX3_add_2 ?_
  refine j_get (pc := 3) hC flRX3_13 0 rfl rfl dX3_add_3 ?_
  refine j_aload_n (pc := 6) hC 2 rfl dX3_add_6 ?_
  refine j_get (pc := 7) hC flRX3_13 1 rfl rfl dX3_add_7 ?_
  refine j_imax (pc := 10) hC wm542 wm468 wm84 wm469 (by decide) (Nat.le_of_ble_eq_true rfl) ⟨Nat.le_of_ble_eq_true rfl, Nat.le_of_ble_eq_true rfl⟩ dX3_add_10 ?_
  refine j_let (pc := 13) (fun x1 => ?_)
  refine j_istore (pc := 13) hC (lv' := [(4, .int x1), (2, .long (0 : Int64)), (0, .ref h_a), (1, .ref h_b1)]) rfl (by decide) dX3_add_13 ?_
  refine j_iconst (pc := 15) hC ki_0 dX3_add_15 ?_
  refine j_istore (pc := 16) hC (lv' := [(5, .int (0 : Int32)), (4, .int x1), (2, .long (0 : Int64)), (0, .ref h_a), (1, .ref h_b1)]) rfl (by decide) dX3_add_16 ?_
  refine j_lv (pc := 18) [3, 4, 2, 1, 0] rfl ?_
  exact jX3_add_b18 hC u h_a h_a_limbs h_b1 h_b1_limbs v_a_size v_b1_size f_a_limbs f_b1_limbs ((0 : Int64), x1, (0 : Int32), v_a_size, f_a_limbs)
set_option maxHeartbeats 4000000 in
set_option maxRecDepth 100000 in
theorem mX3_add (l : Launch) (D : va_G) (cy : Nat → ClassId) (ev : jE) (u : Nat) (h_a h_a_limbs h_b1 h_b1_limbs : Nat) (v_a_size v_b1_size : Int32) (f_a_limbs f_b1_limbs : Nat → Int32) : jM l yX3_add cX3_add 6 none rX3_add [.ref h_a, .ref h_b1] [(h_a, .inr (3, [.ref h_a_limbs, .int v_a_size])), (h_b1, .inr (3, [.ref h_b1_limbs, .int v_b1_size])), (h_a_limbs, .inl (cy 0, 6, .inl f_a_limbs)), (h_b1_limbs, .inl (cy 0, 6, .inl f_b1_limbs))] (fun r _ => [(h_a, .inr (3, [.ref h_a_limbs, .int r.1])), (h_b1, .inr (3, [.ref h_b1_limbs, .int v_b1_size])), (h_a_limbs, .inl (cy 0, 6, .inl r.2)), (h_b1_limbs, .inl (cy 0, 6, .inl f_b1_limbs))]) (fun _ => none) (fX3_add u v_a_size v_b1_size f_a_limbs f_b1_limbs) D cy ev := j_met RX3 (by decide +kernel) rfl (Nat.le_of_ble_eq_true rfl) (fun X hC _ hD hy hv => by subst hD; subst hy; subst hv; exact jX3_add hC u h_a h_a_limbs h_b1 h_b1_limbs v_a_size v_b1_size f_a_limbs f_b1_limbs)
set_option maxHeartbeats 4000000 in
set_option maxRecDepth 100000 in
theorem jX3_isAbove_b14_step {X : jX} (hC : jC X cX3_isAbove 3 RX3 rX3_isAbove (some .boolean)) (u : Nat) (h_a h_a_limbs h_b1 h_b1_limbs : Nat) (v_a_size v_b1_size : Int32) (f_a_limbs f_b1_limbs : Nat → Int32) (rec14 : Int32 → Option (Int32)) (hrec14 : ∀ p : Int32, jJ X 3 0 0 (jQf X 0 0 (fun r => some (.int r)) (fun _ _ => [(h_a, .inr (3, [.ref h_a_limbs, .int v_a_size])), (h_b1, .inr (3, [.ref h_b1_limbs, .int v_b1_size])), (h_a_limbs, .inl (jy X 0, 6, .inl f_a_limbs)), (h_b1_limbs, .inl (jy X 0, 6, .inl f_b1_limbs))])) 14 [(0, .ref h_a), (1, .ref h_b1), (2, .int p)] [] [(h_a, .inr (3, [.ref h_a_limbs, .int v_a_size])), (h_b1, .inr (3, [.ref h_b1_limbs, .int v_b1_size])), (h_a_limbs, .inl (jy X 0, 6, .inl f_a_limbs)), (h_b1_limbs, .inl (jy X 0, 6, .inl f_b1_limbs))] (rec14 p)) (p : Int32) : jJ X 3 0 0 (jQf X 0 0 (fun r => some (.int r)) (fun _ _ => [(h_a, .inr (3, [.ref h_a_limbs, .int v_a_size])), (h_b1, .inr (3, [.ref h_b1_limbs, .int v_b1_size])), (h_a_limbs, .inl (jy X 0, 6, .inl f_a_limbs)), (h_b1_limbs, .inl (jy X 0, 6, .inl f_b1_limbs))])) 14 [(0, .ref h_a), (1, .ref h_b1), (2, .int p)] [] [(h_a, .inr (3, [.ref h_a_limbs, .int v_a_size])), (h_b1, .inr (3, [.ref h_b1_limbs, .int v_b1_size])), (h_a_limbs, .inl (jy X 0, 6, .inl f_a_limbs)), (h_b1_limbs, .inl (jy X 0, 6, .inl f_b1_limbs))] (fX3_isAbove_b14 u v_a_size v_b1_size f_a_limbs f_b1_limbs rec14 p) := by
  unfold fX3_isAbove_b14
  refine j_iload_n (pc := 14) hC 2 rfl dX3_isAbove_14 ?_
  refine j_iflt (pc := 15) hC 56 (by decide) dX3_isAbove_15 ?_ ?_
  · refine j_iconst (pc := 56) hC ki_0 dX3_isAbove_56 ?_
    exact j_zret (pc := 57) hC (fun _ => 0) (by decide) rfl rfl dX3_isAbove_57
  · refine j_aload_n (pc := 18) hC 0 rfl dX3_isAbove_18 ?_
    refine j_iload_n (pc := 19) hC 2 rfl dX3_isAbove_19 ?_
    refine j_callV (pc := 20) hC csRX3_38 [.int p] (mX3_digit (jl X) (jD X) (jy X) (jv X) h_a h_a_limbs p v_a_size f_a_limbs) [0, 2] rfl (by decide +kernel) 0 rfl ⟨_, _, rfl⟩ ⟨by decide, by decide, rfl, rfl, by decide, by decide⟩ rfl rfl (Nat.le_of_ble_eq_true rfl) dX3_isAbove_20 (jki0 (fun _ => rfl) (fun _ _ => rfl) (fun r3 => ?_))
    refine j_aload_n (pc := 23) hC 1 rfl dX3_isAbove_23 ?_
    refine j_iload_n (pc := 24) hC 2 rfl dX3_isAbove_24 ?_
    refine j_callV (pc := 25) hC csRX3_38 [.int p] (mX3_digit (jl X) (jD X) (jy X) (jv X) h_b1 h_b1_limbs p v_b1_size f_b1_limbs) [1, 3] rfl (by decide +kernel) 1 rfl ⟨_, _, rfl⟩ ⟨by decide, by decide, rfl, rfl, by decide, by decide⟩ rfl rfl (Nat.le_of_ble_eq_true rfl) dX3_isAbove_25 (jki0 (fun _ => rfl) (fun _ _ => rfl) (fun r4 => ?_))
    refine j_icmpeq (pc := 28) hC 50 (by decide) dX3_isAbove_28 ?_ ?_
    · refine j_iinc (pc := 50) hC 2 rfl ki_m1 (fun x5 => (rfl : @Eq (List (Nat × Value)) _ [(2, .int x5), (0, .ref h_a), (1, .ref h_b1)])) (by decide) dX3_isAbove_50 (fun x5 => ?_)
      refine j_goto (pc := 53) hC 14 (by decide) dX3_isAbove_53 ?_
      refine j_lv (pc := 14) [1, 2, 0] rfl ?_
      exact hrec14 x5
    · refine j_aload_n (pc := 31) hC 0 rfl dX3_isAbove_31 ?_
      refine j_iload_n (pc := 32) hC 2 rfl dX3_isAbove_32 ?_
      refine j_callV (pc := 33) hC csRX3_38 [.int p] (mX3_digit (jl X) (jD X) (jy X) (jv X) h_a h_a_limbs p v_a_size f_a_limbs) [0, 2] rfl (by decide +kernel) 0 rfl ⟨_, _, rfl⟩ ⟨by decide, by decide, rfl, rfl, by decide, by decide⟩ rfl rfl (Nat.le_of_ble_eq_true rfl) dX3_isAbove_33 (jki0 (fun _ => rfl) (fun _ _ => rfl) (fun r6 => ?_))
      refine j_aload_n (pc := 36) hC 1 rfl dX3_isAbove_36 ?_
      refine j_iload_n (pc := 37) hC 2 rfl dX3_isAbove_37 ?_
      refine j_callV (pc := 38) hC csRX3_38 [.int p] (mX3_digit (jl X) (jD X) (jy X) (jv X) h_b1 h_b1_limbs p v_b1_size f_b1_limbs) [1, 3] rfl (by decide +kernel) 1 rfl ⟨_, _, rfl⟩ ⟨by decide, by decide, rfl, rfl, by decide, by decide⟩ rfl rfl (Nat.le_of_ble_eq_true rfl) dX3_isAbove_38 (jki0 (fun _ => rfl) (fun _ _ => rfl) (fun r7 => ?_))
      refine j_icmple (pc := 41) hC 48 (by decide) dX3_isAbove_41 ?_ ?_
      · refine j_iconst (pc := 48) hC ki_0 dX3_isAbove_48 ?_
        exact j_zret (pc := 49) hC (fun _ => 0) (by decide) rfl rfl dX3_isAbove_49
      · refine j_iconst (pc := 44) hC ki_1 dX3_isAbove_44 ?_
        refine j_goto (pc := 45) hC 49 (by decide) dX3_isAbove_45 ?_
        exact j_zret (pc := 49) hC (fun _ => 0) (by decide) rfl rfl dX3_isAbove_49
set_option maxHeartbeats 4000000 in
set_option maxRecDepth 100000 in
theorem jX3_isAbove_b14 {X : jX} (hC : jC X cX3_isAbove 3 RX3 rX3_isAbove (some .boolean)) (u : Nat) (h_a h_a_limbs h_b1 h_b1_limbs : Nat) (v_a_size v_b1_size : Int32) (f_a_limbs f_b1_limbs : Nat → Int32) (p : Int32) : jJ X 3 0 0 (jQf X 0 0 (fun r => some (.int r)) (fun _ _ => [(h_a, .inr (3, [.ref h_a_limbs, .int v_a_size])), (h_b1, .inr (3, [.ref h_b1_limbs, .int v_b1_size])), (h_a_limbs, .inl (jy X 0, 6, .inl f_a_limbs)), (h_b1_limbs, .inl (jy X 0, 6, .inl f_b1_limbs))])) 14 [(0, .ref h_a), (1, .ref h_b1), (2, .int p)] [] [(h_a, .inr (3, [.ref h_a_limbs, .int v_a_size])), (h_b1, .inr (3, [.ref h_b1_limbs, .int v_b1_size])), (h_a_limbs, .inl (jy X 0, 6, .inl f_a_limbs)), (h_b1_limbs, .inl (jy X 0, 6, .inl f_b1_limbs))] (jfix (fX3_isAbove_b14 u v_a_size v_b1_size f_a_limbs f_b1_limbs) u p) :=
  j_fix (fun rec14 hrec14 p => jX3_isAbove_b14_step hC u h_a h_a_limbs h_b1 h_b1_limbs v_a_size v_b1_size f_a_limbs f_b1_limbs rec14 hrec14 p) u p
set_option maxHeartbeats 4000000 in
set_option maxRecDepth 100000 in
theorem jX3_isAbove {X : jX} (hC : jC X cX3_isAbove 3 RX3 rX3_isAbove (some .boolean)) (u : Nat) (h_a h_a_limbs h_b1 h_b1_limbs : Nat) (v_a_size v_b1_size : Int32) (f_a_limbs f_b1_limbs : Nat → Int32) : jJ X 3 0 0 (jQf X 0 0 (fun r => some (.int r)) (fun _ _ => [(h_a, .inr (3, [.ref h_a_limbs, .int v_a_size])), (h_b1, .inr (3, [.ref h_b1_limbs, .int v_b1_size])), (h_a_limbs, .inl (jy X 0, 6, .inl f_a_limbs)), (h_b1_limbs, .inl (jy X 0, 6, .inl f_b1_limbs))])) 0 [(0, .ref h_a), (1, .ref h_b1)] [] [(h_a, .inr (3, [.ref h_a_limbs, .int v_a_size])), (h_b1, .inr (3, [.ref h_b1_limbs, .int v_b1_size])), (h_a_limbs, .inl (jy X 0, 6, .inl f_a_limbs)), (h_b1_limbs, .inl (jy X 0, 6, .inl f_b1_limbs))] (fX3_isAbove u v_a_size v_b1_size f_a_limbs f_b1_limbs) := by
  unfold fX3_isAbove
  refine j_aload_n (pc := 0) hC 0 rfl dX3_isAbove_0 ?_
  refine j_get (pc := 1) hC flRX3_13 0 rfl rfl dX3_isAbove_1 ?_
  refine j_aload_n (pc := 4) hC 1 rfl dX3_isAbove_4 ?_
  refine j_get (pc := 5) hC flRX3_13 1 rfl rfl dX3_isAbove_5 ?_
  refine j_imax (pc := 8) hC wm542 wm468 wm84 wm469 (by decide) (Nat.le_of_ble_eq_true rfl) ⟨Nat.le_of_ble_eq_true rfl, Nat.le_of_ble_eq_true rfl⟩ dX3_isAbove_8 ?_
  refine j_let (pc := 11) (fun x1 => ?_)
  refine j_iconst (pc := 11) hC ki_1 dX3_isAbove_11 ?_
  refine j_isub (pc := 12) hC dX3_isAbove_12 ?_
  refine j_let (pc := 13) (fun x2 => ?_)
  refine j_istore_n (pc := 13) hC (lv' := [(2, .int x2), (0, .ref h_a), (1, .ref h_b1)]) rfl (by decide) dX3_isAbove_13 ?_
  refine j_lv (pc := 14) [1, 2, 0] rfl ?_
  exact jX3_isAbove_b14 hC u h_a h_a_limbs h_b1 h_b1_limbs v_a_size v_b1_size f_a_limbs f_b1_limbs x2
set_option maxHeartbeats 4000000 in
set_option maxRecDepth 100000 in
theorem mX3_isAbove (l : Launch) (D : va_G) (cy : Nat → ClassId) (ev : jE) (u : Nat) (h_a h_a_limbs h_b1 h_b1_limbs : Nat) (v_a_size v_b1_size : Int32) (f_a_limbs f_b1_limbs : Nat → Int32) : jM l yX3_isAbove cX3_isAbove 3 (some .boolean) rX3_isAbove [.ref h_a, .ref h_b1] [(h_a, .inr (3, [.ref h_a_limbs, .int v_a_size])), (h_b1, .inr (3, [.ref h_b1_limbs, .int v_b1_size])), (h_a_limbs, .inl (cy 0, 6, .inl f_a_limbs)), (h_b1_limbs, .inl (cy 0, 6, .inl f_b1_limbs))] (fun _ _ => [(h_a, .inr (3, [.ref h_a_limbs, .int v_a_size])), (h_b1, .inr (3, [.ref h_b1_limbs, .int v_b1_size])), (h_a_limbs, .inl (cy 0, 6, .inl f_a_limbs)), (h_b1_limbs, .inl (cy 0, 6, .inl f_b1_limbs))]) (fun r => some (.int r)) (fX3_isAbove u v_a_size v_b1_size f_a_limbs f_b1_limbs) D cy ev := j_met RX3 (by decide +kernel) rfl (Nat.le_of_ble_eq_true rfl) (fun X hC _ hD hy hv => by subst hD; subst hy; subst hv; exact jX3_isAbove hC u h_a h_a_limbs h_b1 h_b1_limbs v_a_size v_b1_size f_a_limbs f_b1_limbs)
set_option maxHeartbeats 4000000 in
set_option maxRecDepth 100000 in
theorem jX4_weigh_b78 {X : jX} (hC : jC X cX4_weigh 7 RX4 rX4_weigh none) (u : Nat) (h_a h_a_one h_a_all h_a_most h_b1 h_b1_arms h_b1_hooks h_b1_darts h_b1_stories h_b1_tries h_b1_people h_b1_praise h_b1_thorns h_b1_butts h_b1_play h_b1_sorts h_b1_layers h_b1_plan h_a_one_limbs h_b1_stories_cells h_b1_tries_cells : Nat) (p2 v_a_heaviest v_a_one_size v_b1_stories_rows v_b1_tries_rows : Int32) (f_a_one_limbs f_b1_stories_cells f_b1_tries_cells : Nat → Int32) (rec52 : (Int32 × Int32 × Int32 × Int32 × Int32 × (Nat → Int32)) → Option (Int32 × (Nat → Int32))) (hrec52 : ∀ p : Int32 × Int32 × Int32 × Int32 × Int32 × (Nat → Int32), jJ X 7 0 0 (jQf X 0 0 (fun _ => none) (fun r _ => [(h_a, .inr (4, [.ref h_a_one, .ref h_a_all, .ref h_a_most, .int v_a_heaviest])), (h_b1, .inr (6, [.ref h_b1_arms, .ref h_b1_hooks, .ref h_b1_darts, .ref h_b1_stories, .ref h_b1_tries, .ref h_b1_people, .ref h_b1_praise, .ref h_b1_thorns, .ref h_b1_butts, .ref h_b1_play, .ref h_b1_sorts, .ref h_b1_layers, .ref h_b1_plan])), (h_a_one, .inr (3, [.ref h_a_one_limbs, .int r.1])), (h_b1_stories, .inr (7, [.int (2 : Int32), .ref h_b1_stories_cells, .int v_b1_stories_rows])), (h_b1_tries, .inr (7, [.int (2 : Int32), .ref h_b1_tries_cells, .int v_b1_tries_rows])), (h_a_one_limbs, .inl (jy X 0, 6, .inl r.2)), (h_b1_stories_cells, .inl (jy X 0, 8, .inl f_b1_stories_cells)), (h_b1_tries_cells, .inl (jy X 0, 2, .inl f_b1_tries_cells))])) 52 [(0, .ref h_a), (3, .int p.1), (4, .int p.2.1), (5, .int p.2.2.1), (6, .int p.2.2.2.1)] [] [(h_a, .inr (4, [.ref h_a_one, .ref h_a_all, .ref h_a_most, .int v_a_heaviest])), (h_b1, .inr (6, [.ref h_b1_arms, .ref h_b1_hooks, .ref h_b1_darts, .ref h_b1_stories, .ref h_b1_tries, .ref h_b1_people, .ref h_b1_praise, .ref h_b1_thorns, .ref h_b1_butts, .ref h_b1_play, .ref h_b1_sorts, .ref h_b1_layers, .ref h_b1_plan])), (h_a_one, .inr (3, [.ref h_a_one_limbs, .int p.2.2.2.2.1])), (h_b1_stories, .inr (7, [.int (2 : Int32), .ref h_b1_stories_cells, .int v_b1_stories_rows])), (h_b1_tries, .inr (7, [.int (2 : Int32), .ref h_b1_tries_cells, .int v_b1_tries_rows])), (h_a_one_limbs, .inl (jy X 0, 6, .inl p.2.2.2.2.2)), (h_b1_stories_cells, .inl (jy X 0, 8, .inl f_b1_stories_cells)), (h_b1_tries_cells, .inl (jy X 0, 2, .inl f_b1_tries_cells))] (rec52 p)) (p : Int32 × Int32 × Int32 × Int32 × Int32 × Int32 × (Nat → Int32)) : jJ X 7 0 0 (jQf X 0 0 (fun _ => none) (fun r _ => [(h_a, .inr (4, [.ref h_a_one, .ref h_a_all, .ref h_a_most, .int v_a_heaviest])), (h_b1, .inr (6, [.ref h_b1_arms, .ref h_b1_hooks, .ref h_b1_darts, .ref h_b1_stories, .ref h_b1_tries, .ref h_b1_people, .ref h_b1_praise, .ref h_b1_thorns, .ref h_b1_butts, .ref h_b1_play, .ref h_b1_sorts, .ref h_b1_layers, .ref h_b1_plan])), (h_a_one, .inr (3, [.ref h_a_one_limbs, .int r.1])), (h_b1_stories, .inr (7, [.int (2 : Int32), .ref h_b1_stories_cells, .int v_b1_stories_rows])), (h_b1_tries, .inr (7, [.int (2 : Int32), .ref h_b1_tries_cells, .int v_b1_tries_rows])), (h_a_one_limbs, .inl (jy X 0, 6, .inl r.2)), (h_b1_stories_cells, .inl (jy X 0, 8, .inl f_b1_stories_cells)), (h_b1_tries_cells, .inl (jy X 0, 2, .inl f_b1_tries_cells))])) 78 [(0, .ref h_a), (3, .int p.1), (4, .int p.2.1), (5, .int p.2.2.1), (6, .int p.2.2.2.1)] [.int p.2.2.2.2.1, .ref h_a_one] [(h_a, .inr (4, [.ref h_a_one, .ref h_a_all, .ref h_a_most, .int v_a_heaviest])), (h_b1, .inr (6, [.ref h_b1_arms, .ref h_b1_hooks, .ref h_b1_darts, .ref h_b1_stories, .ref h_b1_tries, .ref h_b1_people, .ref h_b1_praise, .ref h_b1_thorns, .ref h_b1_butts, .ref h_b1_play, .ref h_b1_sorts, .ref h_b1_layers, .ref h_b1_plan])), (h_a_one, .inr (3, [.ref h_a_one_limbs, .int p.2.2.2.2.2.1])), (h_b1_stories, .inr (7, [.int (2 : Int32), .ref h_b1_stories_cells, .int v_b1_stories_rows])), (h_b1_tries, .inr (7, [.int (2 : Int32), .ref h_b1_tries_cells, .int v_b1_tries_rows])), (h_a_one_limbs, .inl (jy X 0, 6, .inl p.2.2.2.2.2.2)), (h_b1_stories_cells, .inl (jy X 0, 8, .inl f_b1_stories_cells)), (h_b1_tries_cells, .inl (jy X 0, 2, .inl f_b1_tries_cells))] (fX4_weigh_b78 u p2 v_a_one_size v_b1_stories_rows v_b1_tries_rows f_a_one_limbs f_b1_stories_cells f_b1_tries_cells rec52 p) := by
  unfold fX4_weigh_b78
  refine j_callV (pc := 78) hC csRX4_43 [.int p.2.2.2.2.1] (mX3_multiply (jl X) (jD X) (jy X) (jv X) u h_a_one h_a_one_limbs p.2.2.2.2.1 p.2.2.2.2.2.1 p.2.2.2.2.2.2) [2, 5] rfl (by decide +kernel) 2 rfl ⟨_, _, rfl⟩ ⟨by decide, by decide, rfl, rfl, by decide, by decide⟩ rfl rfl (Nat.le_of_ble_eq_true rfl) dX4_weigh_78 (jkv (fun r6 _ => (rfl : @Eq va_W _ [(h_a, .inr (4, [.ref h_a_one, .ref h_a_all, .ref h_a_most, .int v_a_heaviest])), (h_b1, .inr (6, [.ref h_b1_arms, .ref h_b1_hooks, .ref h_b1_darts, .ref h_b1_stories, .ref h_b1_tries, .ref h_b1_people, .ref h_b1_praise, .ref h_b1_thorns, .ref h_b1_butts, .ref h_b1_play, .ref h_b1_sorts, .ref h_b1_layers, .ref h_b1_plan])), (h_a_one, .inr (3, [.ref h_a_one_limbs, .int r6.1])), (h_b1_stories, .inr (7, [.int (2 : Int32), .ref h_b1_stories_cells, .int v_b1_stories_rows])), (h_b1_tries, .inr (7, [.int (2 : Int32), .ref h_b1_tries_cells, .int v_b1_tries_rows])), (h_a_one_limbs, .inl (jy X 0, 6, .inl r6.2)), (h_b1_stories_cells, .inl (jy X 0, 8, .inl f_b1_stories_cells)), (h_b1_tries_cells, .inl (jy X 0, 2, .inl f_b1_tries_cells))])) (fun r6 => ?_))
  refine j_iinc (pc := 81) hC 4 rfl ki_1 (fun x7 => (rfl : @Eq (List (Nat × Value)) _ [(6, .int x7), (0, .ref h_a), (3, .int p.1), (4, .int p.2.1), (5, .int p.2.2.1)])) (by decide) dX4_weigh_81 (fun x7 => ?_)
  refine j_goto (pc := 84) hC 52 (by decide) dX4_weigh_84 ?_
  refine j_lv (pc := 52) [1, 2, 3, 4, 0] rfl ?_
  exact hrec52 (p.1, p.2.1, p.2.2.1, x7, r6.1, r6.2)
set_option maxHeartbeats 4000000 in
set_option maxRecDepth 100000 in
theorem jX4_weigh_b52_step {X : jX} (hC : jC X cX4_weigh 7 RX4 rX4_weigh none) (u : Nat) (h_a h_a_one h_a_all h_a_most h_b1 h_b1_arms h_b1_hooks h_b1_darts h_b1_stories h_b1_tries h_b1_people h_b1_praise h_b1_thorns h_b1_butts h_b1_play h_b1_sorts h_b1_layers h_b1_plan h_a_one_limbs h_b1_stories_cells h_b1_tries_cells : Nat) (p2 v_a_heaviest v_a_one_size v_b1_stories_rows v_b1_tries_rows : Int32) (f_a_one_limbs f_b1_stories_cells f_b1_tries_cells : Nat → Int32) (rec52 : (Int32 × Int32 × Int32 × Int32 × Int32 × (Nat → Int32)) → Option (Int32 × (Nat → Int32))) (hrec52 : ∀ p : Int32 × Int32 × Int32 × Int32 × Int32 × (Nat → Int32), jJ X 7 0 0 (jQf X 0 0 (fun _ => none) (fun r _ => [(h_a, .inr (4, [.ref h_a_one, .ref h_a_all, .ref h_a_most, .int v_a_heaviest])), (h_b1, .inr (6, [.ref h_b1_arms, .ref h_b1_hooks, .ref h_b1_darts, .ref h_b1_stories, .ref h_b1_tries, .ref h_b1_people, .ref h_b1_praise, .ref h_b1_thorns, .ref h_b1_butts, .ref h_b1_play, .ref h_b1_sorts, .ref h_b1_layers, .ref h_b1_plan])), (h_a_one, .inr (3, [.ref h_a_one_limbs, .int r.1])), (h_b1_stories, .inr (7, [.int (2 : Int32), .ref h_b1_stories_cells, .int v_b1_stories_rows])), (h_b1_tries, .inr (7, [.int (2 : Int32), .ref h_b1_tries_cells, .int v_b1_tries_rows])), (h_a_one_limbs, .inl (jy X 0, 6, .inl r.2)), (h_b1_stories_cells, .inl (jy X 0, 8, .inl f_b1_stories_cells)), (h_b1_tries_cells, .inl (jy X 0, 2, .inl f_b1_tries_cells))])) 52 [(0, .ref h_a), (3, .int p.1), (4, .int p.2.1), (5, .int p.2.2.1), (6, .int p.2.2.2.1)] [] [(h_a, .inr (4, [.ref h_a_one, .ref h_a_all, .ref h_a_most, .int v_a_heaviest])), (h_b1, .inr (6, [.ref h_b1_arms, .ref h_b1_hooks, .ref h_b1_darts, .ref h_b1_stories, .ref h_b1_tries, .ref h_b1_people, .ref h_b1_praise, .ref h_b1_thorns, .ref h_b1_butts, .ref h_b1_play, .ref h_b1_sorts, .ref h_b1_layers, .ref h_b1_plan])), (h_a_one, .inr (3, [.ref h_a_one_limbs, .int p.2.2.2.2.1])), (h_b1_stories, .inr (7, [.int (2 : Int32), .ref h_b1_stories_cells, .int v_b1_stories_rows])), (h_b1_tries, .inr (7, [.int (2 : Int32), .ref h_b1_tries_cells, .int v_b1_tries_rows])), (h_a_one_limbs, .inl (jy X 0, 6, .inl p.2.2.2.2.2)), (h_b1_stories_cells, .inl (jy X 0, 8, .inl f_b1_stories_cells)), (h_b1_tries_cells, .inl (jy X 0, 2, .inl f_b1_tries_cells))] (rec52 p)) (p : Int32 × Int32 × Int32 × Int32 × Int32 × (Nat → Int32)) : jJ X 7 0 0 (jQf X 0 0 (fun _ => none) (fun r _ => [(h_a, .inr (4, [.ref h_a_one, .ref h_a_all, .ref h_a_most, .int v_a_heaviest])), (h_b1, .inr (6, [.ref h_b1_arms, .ref h_b1_hooks, .ref h_b1_darts, .ref h_b1_stories, .ref h_b1_tries, .ref h_b1_people, .ref h_b1_praise, .ref h_b1_thorns, .ref h_b1_butts, .ref h_b1_play, .ref h_b1_sorts, .ref h_b1_layers, .ref h_b1_plan])), (h_a_one, .inr (3, [.ref h_a_one_limbs, .int r.1])), (h_b1_stories, .inr (7, [.int (2 : Int32), .ref h_b1_stories_cells, .int v_b1_stories_rows])), (h_b1_tries, .inr (7, [.int (2 : Int32), .ref h_b1_tries_cells, .int v_b1_tries_rows])), (h_a_one_limbs, .inl (jy X 0, 6, .inl r.2)), (h_b1_stories_cells, .inl (jy X 0, 8, .inl f_b1_stories_cells)), (h_b1_tries_cells, .inl (jy X 0, 2, .inl f_b1_tries_cells))])) 52 [(0, .ref h_a), (3, .int p.1), (4, .int p.2.1), (5, .int p.2.2.1), (6, .int p.2.2.2.1)] [] [(h_a, .inr (4, [.ref h_a_one, .ref h_a_all, .ref h_a_most, .int v_a_heaviest])), (h_b1, .inr (6, [.ref h_b1_arms, .ref h_b1_hooks, .ref h_b1_darts, .ref h_b1_stories, .ref h_b1_tries, .ref h_b1_people, .ref h_b1_praise, .ref h_b1_thorns, .ref h_b1_butts, .ref h_b1_play, .ref h_b1_sorts, .ref h_b1_layers, .ref h_b1_plan])), (h_a_one, .inr (3, [.ref h_a_one_limbs, .int p.2.2.2.2.1])), (h_b1_stories, .inr (7, [.int (2 : Int32), .ref h_b1_stories_cells, .int v_b1_stories_rows])), (h_b1_tries, .inr (7, [.int (2 : Int32), .ref h_b1_tries_cells, .int v_b1_tries_rows])), (h_a_one_limbs, .inl (jy X 0, 6, .inl p.2.2.2.2.2)), (h_b1_stories_cells, .inl (jy X 0, 8, .inl f_b1_stories_cells)), (h_b1_tries_cells, .inl (jy X 0, 2, .inl f_b1_tries_cells))] (fX4_weigh_b52 u p2 v_a_one_size v_b1_stories_rows v_b1_tries_rows f_a_one_limbs f_b1_stories_cells f_b1_tries_cells rec52 p) := by
  unfold fX4_weigh_b52
  refine j_iload (pc := 52) hC 4 rfl dX4_weigh_52 ?_
  refine j_iload (pc := 54) hC 2 rfl dX4_weigh_54 ?_
  refine j_icmpge (pc := 56) hC 87 (by decide) dX4_weigh_56 ?_ ?_
  · exact j_vret (pc := 87) hC (fun _ => 0) rfl rfl dX4_weigh_87
  · refine j_aload_n (pc := 59) hC 0 rfl dX4_weigh_59 ?_
    refine j_get (pc := 60) hC flRX4_12 0 rfl rfl dX4_weigh_60 ?_
    refine j_iload (pc := 63) hC 4 rfl dX4_weigh_63 ?_
    refine j_iload (pc := 65) hC 3 rfl dX4_weigh_65 ?_
    refine j_icmpge (pc := 67) hC 74 (by decide) dX4_weigh_67 ?_ ?_
    · refine j_bipush (pc := 74) hC kb_20 dX4_weigh_74 ?_
      refine j_iload_n (pc := 76) hC 1 rfl dX4_weigh_76 ?_
      refine j_isub (pc := 77) hC dX4_weigh_77 ?_
      exact jX4_weigh_b78 hC u h_a h_a_one h_a_all h_a_most h_b1 h_b1_arms h_b1_hooks h_b1_darts h_b1_stories h_b1_tries h_b1_people h_b1_praise h_b1_thorns h_b1_butts h_b1_play h_b1_sorts h_b1_layers h_b1_plan h_a_one_limbs h_b1_stories_cells h_b1_tries_cells p2 v_a_heaviest v_a_one_size v_b1_stories_rows v_b1_tries_rows f_a_one_limbs f_b1_stories_cells f_b1_tries_cells rec52 hrec52 (p.1, p.2.1, p.2.2.1, p.2.2.2.1, ((20 : Int32) - p.1), p.2.2.2.2.1, p.2.2.2.2.2)
    · refine j_iload_n (pc := 70) hC 1 rfl dX4_weigh_70 ?_
      refine j_goto (pc := 71) hC 78 (by decide) dX4_weigh_71 ?_
      exact jX4_weigh_b78 hC u h_a h_a_one h_a_all h_a_most h_b1 h_b1_arms h_b1_hooks h_b1_darts h_b1_stories h_b1_tries h_b1_people h_b1_praise h_b1_thorns h_b1_butts h_b1_play h_b1_sorts h_b1_layers h_b1_plan h_a_one_limbs h_b1_stories_cells h_b1_tries_cells p2 v_a_heaviest v_a_one_size v_b1_stories_rows v_b1_tries_rows f_a_one_limbs f_b1_stories_cells f_b1_tries_cells rec52 hrec52 (p.1, p.2.1, p.2.2.1, p.2.2.2.1, p.1, p.2.2.2.2.1, p.2.2.2.2.2)
set_option maxHeartbeats 4000000 in
set_option maxRecDepth 100000 in
theorem jX4_weigh_b52 {X : jX} (hC : jC X cX4_weigh 7 RX4 rX4_weigh none) (u : Nat) (h_a h_a_one h_a_all h_a_most h_b1 h_b1_arms h_b1_hooks h_b1_darts h_b1_stories h_b1_tries h_b1_people h_b1_praise h_b1_thorns h_b1_butts h_b1_play h_b1_sorts h_b1_layers h_b1_plan h_a_one_limbs h_b1_stories_cells h_b1_tries_cells : Nat) (p2 v_a_heaviest v_a_one_size v_b1_stories_rows v_b1_tries_rows : Int32) (f_a_one_limbs f_b1_stories_cells f_b1_tries_cells : Nat → Int32) (p : Int32 × Int32 × Int32 × Int32 × Int32 × (Nat → Int32)) : jJ X 7 0 0 (jQf X 0 0 (fun _ => none) (fun r _ => [(h_a, .inr (4, [.ref h_a_one, .ref h_a_all, .ref h_a_most, .int v_a_heaviest])), (h_b1, .inr (6, [.ref h_b1_arms, .ref h_b1_hooks, .ref h_b1_darts, .ref h_b1_stories, .ref h_b1_tries, .ref h_b1_people, .ref h_b1_praise, .ref h_b1_thorns, .ref h_b1_butts, .ref h_b1_play, .ref h_b1_sorts, .ref h_b1_layers, .ref h_b1_plan])), (h_a_one, .inr (3, [.ref h_a_one_limbs, .int r.1])), (h_b1_stories, .inr (7, [.int (2 : Int32), .ref h_b1_stories_cells, .int v_b1_stories_rows])), (h_b1_tries, .inr (7, [.int (2 : Int32), .ref h_b1_tries_cells, .int v_b1_tries_rows])), (h_a_one_limbs, .inl (jy X 0, 6, .inl r.2)), (h_b1_stories_cells, .inl (jy X 0, 8, .inl f_b1_stories_cells)), (h_b1_tries_cells, .inl (jy X 0, 2, .inl f_b1_tries_cells))])) 52 [(0, .ref h_a), (3, .int p.1), (4, .int p.2.1), (5, .int p.2.2.1), (6, .int p.2.2.2.1)] [] [(h_a, .inr (4, [.ref h_a_one, .ref h_a_all, .ref h_a_most, .int v_a_heaviest])), (h_b1, .inr (6, [.ref h_b1_arms, .ref h_b1_hooks, .ref h_b1_darts, .ref h_b1_stories, .ref h_b1_tries, .ref h_b1_people, .ref h_b1_praise, .ref h_b1_thorns, .ref h_b1_butts, .ref h_b1_play, .ref h_b1_sorts, .ref h_b1_layers, .ref h_b1_plan])), (h_a_one, .inr (3, [.ref h_a_one_limbs, .int p.2.2.2.2.1])), (h_b1_stories, .inr (7, [.int (2 : Int32), .ref h_b1_stories_cells, .int v_b1_stories_rows])), (h_b1_tries, .inr (7, [.int (2 : Int32), .ref h_b1_tries_cells, .int v_b1_tries_rows])), (h_a_one_limbs, .inl (jy X 0, 6, .inl p.2.2.2.2.2)), (h_b1_stories_cells, .inl (jy X 0, 8, .inl f_b1_stories_cells)), (h_b1_tries_cells, .inl (jy X 0, 2, .inl f_b1_tries_cells))] (jfix (fX4_weigh_b52 u p2 v_a_one_size v_b1_stories_rows v_b1_tries_rows f_a_one_limbs f_b1_stories_cells f_b1_tries_cells) u p) :=
  j_fix (fun rec52 hrec52 p => jX4_weigh_b52_step hC u h_a h_a_one h_a_all h_a_most h_b1 h_b1_arms h_b1_hooks h_b1_darts h_b1_stories h_b1_tries h_b1_people h_b1_praise h_b1_thorns h_b1_butts h_b1_play h_b1_sorts h_b1_layers h_b1_plan h_a_one_limbs h_b1_stories_cells h_b1_tries_cells p2 v_a_heaviest v_a_one_size v_b1_stories_rows v_b1_tries_rows f_a_one_limbs f_b1_stories_cells f_b1_tries_cells rec52 hrec52 p) u p
set_option maxHeartbeats 4000000 in
set_option maxRecDepth 100000 in
theorem jX4_weigh {X : jX} (hC : jC X cX4_weigh 7 RX4 rX4_weigh none) (u : Nat) (h_a h_a_one h_a_all h_a_most h_b1 h_b1_arms h_b1_hooks h_b1_darts h_b1_stories h_b1_tries h_b1_people h_b1_praise h_b1_thorns h_b1_butts h_b1_play h_b1_sorts h_b1_layers h_b1_plan h_a_one_limbs h_b1_stories_cells h_b1_tries_cells : Nat) (p2 v_a_heaviest v_a_one_size v_b1_stories_rows v_b1_tries_rows : Int32) (f_a_one_limbs f_b1_stories_cells f_b1_tries_cells : Nat → Int32) : jJ X 7 0 0 (jQf X 0 0 (fun _ => none) (fun r _ => [(h_a, .inr (4, [.ref h_a_one, .ref h_a_all, .ref h_a_most, .int v_a_heaviest])), (h_b1, .inr (6, [.ref h_b1_arms, .ref h_b1_hooks, .ref h_b1_darts, .ref h_b1_stories, .ref h_b1_tries, .ref h_b1_people, .ref h_b1_praise, .ref h_b1_thorns, .ref h_b1_butts, .ref h_b1_play, .ref h_b1_sorts, .ref h_b1_layers, .ref h_b1_plan])), (h_a_one, .inr (3, [.ref h_a_one_limbs, .int r.1])), (h_b1_stories, .inr (7, [.int (2 : Int32), .ref h_b1_stories_cells, .int v_b1_stories_rows])), (h_b1_tries, .inr (7, [.int (2 : Int32), .ref h_b1_tries_cells, .int v_b1_tries_rows])), (h_a_one_limbs, .inl (jy X 0, 6, .inl r.2)), (h_b1_stories_cells, .inl (jy X 0, 8, .inl f_b1_stories_cells)), (h_b1_tries_cells, .inl (jy X 0, 2, .inl f_b1_tries_cells))])) 0 [(0, .ref h_a), (1, .ref h_b1), (2, .int p2)] [] [(h_a, .inr (4, [.ref h_a_one, .ref h_a_all, .ref h_a_most, .int v_a_heaviest])), (h_b1, .inr (6, [.ref h_b1_arms, .ref h_b1_hooks, .ref h_b1_darts, .ref h_b1_stories, .ref h_b1_tries, .ref h_b1_people, .ref h_b1_praise, .ref h_b1_thorns, .ref h_b1_butts, .ref h_b1_play, .ref h_b1_sorts, .ref h_b1_layers, .ref h_b1_plan])), (h_a_one, .inr (3, [.ref h_a_one_limbs, .int v_a_one_size])), (h_b1_stories, .inr (7, [.int (2 : Int32), .ref h_b1_stories_cells, .int v_b1_stories_rows])), (h_b1_tries, .inr (7, [.int (2 : Int32), .ref h_b1_tries_cells, .int v_b1_tries_rows])), (h_a_one_limbs, .inl (jy X 0, 6, .inl f_a_one_limbs)), (h_b1_stories_cells, .inl (jy X 0, 8, .inl f_b1_stories_cells)), (h_b1_tries_cells, .inl (jy X 0, 2, .inl f_b1_tries_cells))] (fX4_weigh u p2 v_a_one_size v_b1_stories_rows v_b1_tries_rows f_a_one_limbs f_b1_stories_cells f_b1_tries_cells) := by
  unfold fX4_weigh
  refine j_aload_n (pc := 0) hC 1 rfl dX4_weigh_0 ?_
  refine j_get (pc := 1) hC flRX4_24 1 rfl rfl dX4_weigh_1 ?_
  refine j_iload_n (pc := 4) hC 2 rfl dX4_weigh_4 ?_
  refine j_iconst (pc := 5) hC ki_0 dX4_weigh_5 ?_
  refine j_callV (pc := 6) hC csRX4_30 [.int p2, .int (0 : Int32)] (mX7_cell (jl X) (jD X) (jy X) (jv X) h_b1_stories h_b1_stories_cells p2 (0 : Int32) (2 : Int32) v_b1_stories_rows 8 f_b1_stories_cells) [3, 6] rfl (by decide +kernel) 3 rfl ⟨_, _, rfl⟩ ⟨by decide, by decide, rfl, rfl, by decide, by decide⟩ rfl rfl (Nat.le_of_ble_eq_true rfl) dX4_weigh_6 (jki0 (fun _ => rfl) (fun _ _ => rfl) (fun r1 => ?_))
  refine j_istore_n (pc := 9) hC (lv' := [(3, .int r1), (0, .ref h_a), (1, .ref h_b1), (2, .int p2)]) rfl (by decide) dX4_weigh_9 ?_
  refine j_aload_n (pc := 10) hC 2 rfl dX4_weigh_10 ?_
  refine j_get (pc := 11) hC flRX4_36 1 rfl rfl dX4_weigh_11 ?_
  refine j_iconst (pc := 14) hC ki_0 dX4_weigh_14 ?_
  refine j_iconst (pc := 15) hC ki_0 dX4_weigh_15 ?_
  refine j_callV (pc := 16) hC csRX4_30 [.int (0 : Int32), .int (0 : Int32)] (mX7_cell (jl X) (jD X) (jy X) (jv X) h_b1_tries h_b1_tries_cells (0 : Int32) (0 : Int32) (2 : Int32) v_b1_tries_rows 2 f_b1_tries_cells) [4, 7] rfl (by decide +kernel) 4 rfl ⟨_, _, rfl⟩ ⟨by decide, by decide, rfl, rfl, by decide, by decide⟩ rfl rfl (Nat.le_of_ble_eq_true rfl) dX4_weigh_16 (jki0 (fun _ => rfl) (fun _ _ => rfl) (fun r2 => ?_))
  refine j_istore (pc := 19) hC (lv' := [(4, .int r2), (3, .int r1), (0, .ref h_a), (1, .ref h_b1), (2, .int p2)]) rfl (by decide) dX4_weigh_19 ?_
  refine j_aload_n (pc := 21) hC 3 rfl dX4_weigh_21 ?_
  refine j_get (pc := 22) hC flRX4_36 1 rfl rfl dX4_weigh_22 ?_
  refine j_iconst (pc := 25) hC ki_0 dX4_weigh_25 ?_
  refine j_iconst (pc := 26) hC ki_1 dX4_weigh_26 ?_
  refine j_callV (pc := 27) hC csRX4_30 [.int (0 : Int32), .int (1 : Int32)] (mX7_cell (jl X) (jD X) (jy X) (jv X) h_b1_tries h_b1_tries_cells (0 : Int32) (1 : Int32) (2 : Int32) v_b1_tries_rows 2 f_b1_tries_cells) [4, 7] rfl (by decide +kernel) 4 rfl ⟨_, _, rfl⟩ ⟨by decide, by decide, rfl, rfl, by decide, by decide⟩ rfl rfl (Nat.le_of_ble_eq_true rfl) dX4_weigh_27 (jki0 (fun _ => rfl) (fun _ _ => rfl) (fun r3 => ?_))
  refine j_istore (pc := 30) hC (lv' := [(5, .int r3), (4, .int r2), (3, .int r1), (0, .ref h_a), (1, .ref h_b1), (2, .int p2)]) rfl (by decide) dX4_weigh_30 ?_
  refine j_aload_n (pc := 32) hC 3 rfl dX4_weigh_32 ?_
  refine j_get (pc := 33) hC flRX4_12 0 rfl rfl dX4_weigh_33 ?_
  refine j_aload_n (pc := 36) hC 4 rfl dX4_weigh_36 ?_
  refine j_get (pc := 37) hC flRX4_24 1 rfl rfl dX4_weigh_37 ?_
  refine j_iload_n (pc := 40) hC 5 rfl dX4_weigh_40 ?_
  refine j_iconst (pc := 41) hC ki_1 dX4_weigh_41 ?_
  refine j_callV (pc := 42) hC csRX4_30 [.int p2, .int (1 : Int32)] (mX7_cell (jl X) (jD X) (jy X) (jv X) h_b1_stories h_b1_stories_cells p2 (1 : Int32) (2 : Int32) v_b1_stories_rows 8 f_b1_stories_cells) [3, 6] rfl (by decide +kernel) 3 rfl ⟨_, _, rfl⟩ ⟨by decide, by decide, rfl, rfl, by decide, by decide⟩ rfl rfl (Nat.le_of_ble_eq_true rfl) dX4_weigh_42 (jki0 (fun _ => rfl) (fun _ _ => rfl) (fun r4 => ?_))
  refine j_i2l (pc := 45) hC dX4_weigh_45 ?_
  refine j_callV (pc := 46) hC csRX4_39 [.long (r4.toInt64)] (mX3_set (jl X) (jD X) (jy X) (jv X) u h_a_one h_a_one_limbs (r4.toInt64) v_a_one_size f_a_one_limbs) [2, 5] rfl (by decide +kernel) 2 rfl ⟨_, _, rfl⟩ ⟨by decide, by decide, rfl, rfl, by decide, by decide⟩ rfl rfl (Nat.le_of_ble_eq_true rfl) dX4_weigh_46 (jkv (fun r5 _ => (rfl : @Eq va_W _ [(h_a, .inr (4, [.ref h_a_one, .ref h_a_all, .ref h_a_most, .int v_a_heaviest])), (h_b1, .inr (6, [.ref h_b1_arms, .ref h_b1_hooks, .ref h_b1_darts, .ref h_b1_stories, .ref h_b1_tries, .ref h_b1_people, .ref h_b1_praise, .ref h_b1_thorns, .ref h_b1_butts, .ref h_b1_play, .ref h_b1_sorts, .ref h_b1_layers, .ref h_b1_plan])), (h_a_one, .inr (3, [.ref h_a_one_limbs, .int r5.1])), (h_b1_stories, .inr (7, [.int (2 : Int32), .ref h_b1_stories_cells, .int v_b1_stories_rows])), (h_b1_tries, .inr (7, [.int (2 : Int32), .ref h_b1_tries_cells, .int v_b1_tries_rows])), (h_a_one_limbs, .inl (jy X 0, 6, .inl r5.2)), (h_b1_stories_cells, .inl (jy X 0, 8, .inl f_b1_stories_cells)), (h_b1_tries_cells, .inl (jy X 0, 2, .inl f_b1_tries_cells))])) (fun r5 => ?_))
  refine j_iconst (pc := 49) hC ki_0 dX4_weigh_49 ?_
  refine j_istore (pc := 50) hC (lv' := [(6, .int (0 : Int32)), (5, .int r3), (4, .int r2), (3, .int r1), (0, .ref h_a), (1, .ref h_b1), (2, .int p2)]) rfl (by decide) dX4_weigh_50 ?_
  refine j_lv (pc := 52) [4, 3, 2, 1, 0] rfl ?_
  exact jX4_weigh_b52 hC u h_a h_a_one h_a_all h_a_most h_b1 h_b1_arms h_b1_hooks h_b1_darts h_b1_stories h_b1_tries h_b1_people h_b1_praise h_b1_thorns h_b1_butts h_b1_play h_b1_sorts h_b1_layers h_b1_plan h_a_one_limbs h_b1_stories_cells h_b1_tries_cells p2 v_a_heaviest v_a_one_size v_b1_stories_rows v_b1_tries_rows f_a_one_limbs f_b1_stories_cells f_b1_tries_cells (r1, r2, r3, (0 : Int32), r5.1, r5.2)
set_option maxHeartbeats 4000000 in
set_option maxRecDepth 100000 in
theorem mX4_weigh (l : Launch) (D : va_G) (cy : Nat → ClassId) (ev : jE) (u : Nat) (h_a h_a_one h_a_all h_a_most h_b1 h_b1_arms h_b1_hooks h_b1_darts h_b1_stories h_b1_tries h_b1_people h_b1_praise h_b1_thorns h_b1_butts h_b1_play h_b1_sorts h_b1_layers h_b1_plan h_a_one_limbs h_b1_stories_cells h_b1_tries_cells : Nat) (p2 v_a_heaviest v_a_one_size v_b1_stories_rows v_b1_tries_rows : Int32) (f_a_one_limbs f_b1_stories_cells f_b1_tries_cells : Nat → Int32) : jM l yX4_weigh cX4_weigh 7 none rX4_weigh [.ref h_a, .ref h_b1, .int p2] [(h_a, .inr (4, [.ref h_a_one, .ref h_a_all, .ref h_a_most, .int v_a_heaviest])), (h_b1, .inr (6, [.ref h_b1_arms, .ref h_b1_hooks, .ref h_b1_darts, .ref h_b1_stories, .ref h_b1_tries, .ref h_b1_people, .ref h_b1_praise, .ref h_b1_thorns, .ref h_b1_butts, .ref h_b1_play, .ref h_b1_sorts, .ref h_b1_layers, .ref h_b1_plan])), (h_a_one, .inr (3, [.ref h_a_one_limbs, .int v_a_one_size])), (h_b1_stories, .inr (7, [.int (2 : Int32), .ref h_b1_stories_cells, .int v_b1_stories_rows])), (h_b1_tries, .inr (7, [.int (2 : Int32), .ref h_b1_tries_cells, .int v_b1_tries_rows])), (h_a_one_limbs, .inl (cy 0, 6, .inl f_a_one_limbs)), (h_b1_stories_cells, .inl (cy 0, 8, .inl f_b1_stories_cells)), (h_b1_tries_cells, .inl (cy 0, 2, .inl f_b1_tries_cells))] (fun r _ => [(h_a, .inr (4, [.ref h_a_one, .ref h_a_all, .ref h_a_most, .int v_a_heaviest])), (h_b1, .inr (6, [.ref h_b1_arms, .ref h_b1_hooks, .ref h_b1_darts, .ref h_b1_stories, .ref h_b1_tries, .ref h_b1_people, .ref h_b1_praise, .ref h_b1_thorns, .ref h_b1_butts, .ref h_b1_play, .ref h_b1_sorts, .ref h_b1_layers, .ref h_b1_plan])), (h_a_one, .inr (3, [.ref h_a_one_limbs, .int r.1])), (h_b1_stories, .inr (7, [.int (2 : Int32), .ref h_b1_stories_cells, .int v_b1_stories_rows])), (h_b1_tries, .inr (7, [.int (2 : Int32), .ref h_b1_tries_cells, .int v_b1_tries_rows])), (h_a_one_limbs, .inl (cy 0, 6, .inl r.2)), (h_b1_stories_cells, .inl (cy 0, 8, .inl f_b1_stories_cells)), (h_b1_tries_cells, .inl (cy 0, 2, .inl f_b1_tries_cells))]) (fun _ => none) (fX4_weigh u p2 v_a_one_size v_b1_stories_rows v_b1_tries_rows f_a_one_limbs f_b1_stories_cells f_b1_tries_cells) D cy ev := j_met RX4 (by decide +kernel) rfl (Nat.le_of_ble_eq_true rfl) (fun X hC _ hD hy hv => by subst hD; subst hy; subst hv; exact jX4_weigh hC u h_a h_a_one h_a_all h_a_most h_b1 h_b1_arms h_b1_hooks h_b1_darts h_b1_stories h_b1_tries h_b1_people h_b1_praise h_b1_thorns h_b1_butts h_b1_play h_b1_sorts h_b1_layers h_b1_plan h_a_one_limbs h_b1_stories_cells h_b1_tries_cells p2 v_a_heaviest v_a_one_size v_b1_stories_rows v_b1_tries_rows f_a_one_limbs f_b1_stories_cells f_b1_tries_cells)
set_option maxHeartbeats 4000000 in
set_option maxRecDepth 100000 in
theorem jX4_weighAll_b75 {X : jX} (hC : jC X cX4_weighAll 3 RX4 rX4_weighAll (some .boolean)) (u : Nat) (h_a h_a_one h_a_all h_a_most h_b1 h_b1_arms h_b1_hooks h_b1_darts h_b1_stories h_b1_tries h_b1_people h_b1_praise h_b1_thorns h_b1_butts h_b1_play h_b1_sorts h_b1_layers h_b1_plan h_a_all_limbs h_a_most_limbs h_a_one_limbs h_b1_stories_cells h_b1_tries_cells : Nat) (v_a_heaviest v_a_all_size v_a_most_size v_a_one_size v_b1_stories_rows v_b1_tries_rows : Int32) (f_a_all_limbs f_a_most_limbs f_a_one_limbs f_b1_stories_cells f_b1_tries_cells : Nat → Int32) (rec23 : (Int32 × Int32 × Int32 × Int32 × Int32 × (Nat → Int32) × (Nat → Int32) × (Nat → Int32)) → Option (Int32 × Int32 × Int32 × Int32 × Int32 × (Nat → Int32) × (Nat → Int32) × (Nat → Int32))) (hrec23 : ∀ p : Int32 × Int32 × Int32 × Int32 × Int32 × (Nat → Int32) × (Nat → Int32) × (Nat → Int32), jJ X 3 0 0 (jQf X 0 0 (fun r => some (.int r.1)) (fun r _ => [(h_a, .inr (4, [.ref h_a_one, .ref h_a_all, .ref h_a_most, .int r.2.1])), (h_b1, .inr (6, [.ref h_b1_arms, .ref h_b1_hooks, .ref h_b1_darts, .ref h_b1_stories, .ref h_b1_tries, .ref h_b1_people, .ref h_b1_praise, .ref h_b1_thorns, .ref h_b1_butts, .ref h_b1_play, .ref h_b1_sorts, .ref h_b1_layers, .ref h_b1_plan])), (h_a_all, .inr (3, [.ref h_a_all_limbs, .int r.2.2.1])), (h_a_most, .inr (3, [.ref h_a_most_limbs, .int r.2.2.2.1])), (h_a_one, .inr (3, [.ref h_a_one_limbs, .int r.2.2.2.2.1])), (h_b1_stories, .inr (7, [.int (2 : Int32), .ref h_b1_stories_cells, .int v_b1_stories_rows])), (h_b1_tries, .inr (7, [.int (2 : Int32), .ref h_b1_tries_cells, .int v_b1_tries_rows])), (h_a_all_limbs, .inl (jy X 0, 6, .inl r.2.2.2.2.2.1)), (h_a_most_limbs, .inl (jy X 0, 6, .inl r.2.2.2.2.2.2.1)), (h_a_one_limbs, .inl (jy X 0, 6, .inl r.2.2.2.2.2.2.2)), (h_b1_stories_cells, .inl (jy X 0, 8, .inl f_b1_stories_cells)), (h_b1_tries_cells, .inl (jy X 0, 2, .inl f_b1_tries_cells))])) 23 [(0, .ref h_a), (1, .ref h_b1), (2, .int p.1)] [] [(h_a, .inr (4, [.ref h_a_one, .ref h_a_all, .ref h_a_most, .int p.2.1])), (h_b1, .inr (6, [.ref h_b1_arms, .ref h_b1_hooks, .ref h_b1_darts, .ref h_b1_stories, .ref h_b1_tries, .ref h_b1_people, .ref h_b1_praise, .ref h_b1_thorns, .ref h_b1_butts, .ref h_b1_play, .ref h_b1_sorts, .ref h_b1_layers, .ref h_b1_plan])), (h_a_all, .inr (3, [.ref h_a_all_limbs, .int p.2.2.1])), (h_a_most, .inr (3, [.ref h_a_most_limbs, .int p.2.2.2.1])), (h_a_one, .inr (3, [.ref h_a_one_limbs, .int p.2.2.2.2.1])), (h_b1_stories, .inr (7, [.int (2 : Int32), .ref h_b1_stories_cells, .int v_b1_stories_rows])), (h_b1_tries, .inr (7, [.int (2 : Int32), .ref h_b1_tries_cells, .int v_b1_tries_rows])), (h_a_all_limbs, .inl (jy X 0, 6, .inl p.2.2.2.2.2.1)), (h_a_most_limbs, .inl (jy X 0, 6, .inl p.2.2.2.2.2.2.1)), (h_a_one_limbs, .inl (jy X 0, 6, .inl p.2.2.2.2.2.2.2)), (h_b1_stories_cells, .inl (jy X 0, 8, .inl f_b1_stories_cells)), (h_b1_tries_cells, .inl (jy X 0, 2, .inl f_b1_tries_cells))] (rec23 p)) (p : Int32 × Int32 × Int32 × Int32 × Int32 × (Nat → Int32) × (Nat → Int32) × (Nat → Int32)) : jJ X 3 0 0 (jQf X 0 0 (fun r => some (.int r.1)) (fun r _ => [(h_a, .inr (4, [.ref h_a_one, .ref h_a_all, .ref h_a_most, .int r.2.1])), (h_b1, .inr (6, [.ref h_b1_arms, .ref h_b1_hooks, .ref h_b1_darts, .ref h_b1_stories, .ref h_b1_tries, .ref h_b1_people, .ref h_b1_praise, .ref h_b1_thorns, .ref h_b1_butts, .ref h_b1_play, .ref h_b1_sorts, .ref h_b1_layers, .ref h_b1_plan])), (h_a_all, .inr (3, [.ref h_a_all_limbs, .int r.2.2.1])), (h_a_most, .inr (3, [.ref h_a_most_limbs, .int r.2.2.2.1])), (h_a_one, .inr (3, [.ref h_a_one_limbs, .int r.2.2.2.2.1])), (h_b1_stories, .inr (7, [.int (2 : Int32), .ref h_b1_stories_cells, .int v_b1_stories_rows])), (h_b1_tries, .inr (7, [.int (2 : Int32), .ref h_b1_tries_cells, .int v_b1_tries_rows])), (h_a_all_limbs, .inl (jy X 0, 6, .inl r.2.2.2.2.2.1)), (h_a_most_limbs, .inl (jy X 0, 6, .inl r.2.2.2.2.2.2.1)), (h_a_one_limbs, .inl (jy X 0, 6, .inl r.2.2.2.2.2.2.2)), (h_b1_stories_cells, .inl (jy X 0, 8, .inl f_b1_stories_cells)), (h_b1_tries_cells, .inl (jy X 0, 2, .inl f_b1_tries_cells))])) 75 [(0, .ref h_a), (1, .ref h_b1), (2, .int p.1)] [] [(h_a, .inr (4, [.ref h_a_one, .ref h_a_all, .ref h_a_most, .int p.2.1])), (h_b1, .inr (6, [.ref h_b1_arms, .ref h_b1_hooks, .ref h_b1_darts, .ref h_b1_stories, .ref h_b1_tries, .ref h_b1_people, .ref h_b1_praise, .ref h_b1_thorns, .ref h_b1_butts, .ref h_b1_play, .ref h_b1_sorts, .ref h_b1_layers, .ref h_b1_plan])), (h_a_all, .inr (3, [.ref h_a_all_limbs, .int p.2.2.1])), (h_a_most, .inr (3, [.ref h_a_most_limbs, .int p.2.2.2.1])), (h_a_one, .inr (3, [.ref h_a_one_limbs, .int p.2.2.2.2.1])), (h_b1_stories, .inr (7, [.int (2 : Int32), .ref h_b1_stories_cells, .int v_b1_stories_rows])), (h_b1_tries, .inr (7, [.int (2 : Int32), .ref h_b1_tries_cells, .int v_b1_tries_rows])), (h_a_all_limbs, .inl (jy X 0, 6, .inl p.2.2.2.2.2.1)), (h_a_most_limbs, .inl (jy X 0, 6, .inl p.2.2.2.2.2.2.1)), (h_a_one_limbs, .inl (jy X 0, 6, .inl p.2.2.2.2.2.2.2)), (h_b1_stories_cells, .inl (jy X 0, 8, .inl f_b1_stories_cells)), (h_b1_tries_cells, .inl (jy X 0, 2, .inl f_b1_tries_cells))] (fX4_weighAll_b75 u v_a_heaviest v_a_all_size v_a_most_size v_a_one_size v_b1_stories_rows v_b1_tries_rows f_a_all_limbs f_a_most_limbs f_a_one_limbs f_b1_stories_cells f_b1_tries_cells rec23 p) := by
  unfold fX4_weighAll_b75
  refine j_iinc (pc := 75) hC 2 rfl ki_1 (fun x6 => (rfl : @Eq (List (Nat × Value)) _ [(2, .int x6), (0, .ref h_a), (1, .ref h_b1)])) (by decide) dX4_weighAll_75 (fun x6 => ?_)
  refine j_goto (pc := 78) hC 23 (by decide) dX4_weighAll_78 ?_
  refine j_lv (pc := 23) [1, 2, 0] rfl ?_
  exact hrec23 (x6, p.2.1, p.2.2.1, p.2.2.2.1, p.2.2.2.2.1, p.2.2.2.2.2.1, p.2.2.2.2.2.2.1, p.2.2.2.2.2.2.2)
set_option maxHeartbeats 4000000 in
set_option maxRecDepth 100000 in
theorem jX4_weighAll_b23_step {X : jX} (hC : jC X cX4_weighAll 3 RX4 rX4_weighAll (some .boolean)) (u : Nat) (h_a h_a_one h_a_all h_a_most h_b1 h_b1_arms h_b1_hooks h_b1_darts h_b1_stories h_b1_tries h_b1_people h_b1_praise h_b1_thorns h_b1_butts h_b1_play h_b1_sorts h_b1_layers h_b1_plan h_a_all_limbs h_a_most_limbs h_a_one_limbs h_b1_stories_cells h_b1_tries_cells : Nat) (v_a_heaviest v_a_all_size v_a_most_size v_a_one_size v_b1_stories_rows v_b1_tries_rows : Int32) (f_a_all_limbs f_a_most_limbs f_a_one_limbs f_b1_stories_cells f_b1_tries_cells : Nat → Int32) (rec23 : (Int32 × Int32 × Int32 × Int32 × Int32 × (Nat → Int32) × (Nat → Int32) × (Nat → Int32)) → Option (Int32 × Int32 × Int32 × Int32 × Int32 × (Nat → Int32) × (Nat → Int32) × (Nat → Int32))) (hrec23 : ∀ p : Int32 × Int32 × Int32 × Int32 × Int32 × (Nat → Int32) × (Nat → Int32) × (Nat → Int32), jJ X 3 0 0 (jQf X 0 0 (fun r => some (.int r.1)) (fun r _ => [(h_a, .inr (4, [.ref h_a_one, .ref h_a_all, .ref h_a_most, .int r.2.1])), (h_b1, .inr (6, [.ref h_b1_arms, .ref h_b1_hooks, .ref h_b1_darts, .ref h_b1_stories, .ref h_b1_tries, .ref h_b1_people, .ref h_b1_praise, .ref h_b1_thorns, .ref h_b1_butts, .ref h_b1_play, .ref h_b1_sorts, .ref h_b1_layers, .ref h_b1_plan])), (h_a_all, .inr (3, [.ref h_a_all_limbs, .int r.2.2.1])), (h_a_most, .inr (3, [.ref h_a_most_limbs, .int r.2.2.2.1])), (h_a_one, .inr (3, [.ref h_a_one_limbs, .int r.2.2.2.2.1])), (h_b1_stories, .inr (7, [.int (2 : Int32), .ref h_b1_stories_cells, .int v_b1_stories_rows])), (h_b1_tries, .inr (7, [.int (2 : Int32), .ref h_b1_tries_cells, .int v_b1_tries_rows])), (h_a_all_limbs, .inl (jy X 0, 6, .inl r.2.2.2.2.2.1)), (h_a_most_limbs, .inl (jy X 0, 6, .inl r.2.2.2.2.2.2.1)), (h_a_one_limbs, .inl (jy X 0, 6, .inl r.2.2.2.2.2.2.2)), (h_b1_stories_cells, .inl (jy X 0, 8, .inl f_b1_stories_cells)), (h_b1_tries_cells, .inl (jy X 0, 2, .inl f_b1_tries_cells))])) 23 [(0, .ref h_a), (1, .ref h_b1), (2, .int p.1)] [] [(h_a, .inr (4, [.ref h_a_one, .ref h_a_all, .ref h_a_most, .int p.2.1])), (h_b1, .inr (6, [.ref h_b1_arms, .ref h_b1_hooks, .ref h_b1_darts, .ref h_b1_stories, .ref h_b1_tries, .ref h_b1_people, .ref h_b1_praise, .ref h_b1_thorns, .ref h_b1_butts, .ref h_b1_play, .ref h_b1_sorts, .ref h_b1_layers, .ref h_b1_plan])), (h_a_all, .inr (3, [.ref h_a_all_limbs, .int p.2.2.1])), (h_a_most, .inr (3, [.ref h_a_most_limbs, .int p.2.2.2.1])), (h_a_one, .inr (3, [.ref h_a_one_limbs, .int p.2.2.2.2.1])), (h_b1_stories, .inr (7, [.int (2 : Int32), .ref h_b1_stories_cells, .int v_b1_stories_rows])), (h_b1_tries, .inr (7, [.int (2 : Int32), .ref h_b1_tries_cells, .int v_b1_tries_rows])), (h_a_all_limbs, .inl (jy X 0, 6, .inl p.2.2.2.2.2.1)), (h_a_most_limbs, .inl (jy X 0, 6, .inl p.2.2.2.2.2.2.1)), (h_a_one_limbs, .inl (jy X 0, 6, .inl p.2.2.2.2.2.2.2)), (h_b1_stories_cells, .inl (jy X 0, 8, .inl f_b1_stories_cells)), (h_b1_tries_cells, .inl (jy X 0, 2, .inl f_b1_tries_cells))] (rec23 p)) (p : Int32 × Int32 × Int32 × Int32 × Int32 × (Nat → Int32) × (Nat → Int32) × (Nat → Int32)) : jJ X 3 0 0 (jQf X 0 0 (fun r => some (.int r.1)) (fun r _ => [(h_a, .inr (4, [.ref h_a_one, .ref h_a_all, .ref h_a_most, .int r.2.1])), (h_b1, .inr (6, [.ref h_b1_arms, .ref h_b1_hooks, .ref h_b1_darts, .ref h_b1_stories, .ref h_b1_tries, .ref h_b1_people, .ref h_b1_praise, .ref h_b1_thorns, .ref h_b1_butts, .ref h_b1_play, .ref h_b1_sorts, .ref h_b1_layers, .ref h_b1_plan])), (h_a_all, .inr (3, [.ref h_a_all_limbs, .int r.2.2.1])), (h_a_most, .inr (3, [.ref h_a_most_limbs, .int r.2.2.2.1])), (h_a_one, .inr (3, [.ref h_a_one_limbs, .int r.2.2.2.2.1])), (h_b1_stories, .inr (7, [.int (2 : Int32), .ref h_b1_stories_cells, .int v_b1_stories_rows])), (h_b1_tries, .inr (7, [.int (2 : Int32), .ref h_b1_tries_cells, .int v_b1_tries_rows])), (h_a_all_limbs, .inl (jy X 0, 6, .inl r.2.2.2.2.2.1)), (h_a_most_limbs, .inl (jy X 0, 6, .inl r.2.2.2.2.2.2.1)), (h_a_one_limbs, .inl (jy X 0, 6, .inl r.2.2.2.2.2.2.2)), (h_b1_stories_cells, .inl (jy X 0, 8, .inl f_b1_stories_cells)), (h_b1_tries_cells, .inl (jy X 0, 2, .inl f_b1_tries_cells))])) 23 [(0, .ref h_a), (1, .ref h_b1), (2, .int p.1)] [] [(h_a, .inr (4, [.ref h_a_one, .ref h_a_all, .ref h_a_most, .int p.2.1])), (h_b1, .inr (6, [.ref h_b1_arms, .ref h_b1_hooks, .ref h_b1_darts, .ref h_b1_stories, .ref h_b1_tries, .ref h_b1_people, .ref h_b1_praise, .ref h_b1_thorns, .ref h_b1_butts, .ref h_b1_play, .ref h_b1_sorts, .ref h_b1_layers, .ref h_b1_plan])), (h_a_all, .inr (3, [.ref h_a_all_limbs, .int p.2.2.1])), (h_a_most, .inr (3, [.ref h_a_most_limbs, .int p.2.2.2.1])), (h_a_one, .inr (3, [.ref h_a_one_limbs, .int p.2.2.2.2.1])), (h_b1_stories, .inr (7, [.int (2 : Int32), .ref h_b1_stories_cells, .int v_b1_stories_rows])), (h_b1_tries, .inr (7, [.int (2 : Int32), .ref h_b1_tries_cells, .int v_b1_tries_rows])), (h_a_all_limbs, .inl (jy X 0, 6, .inl p.2.2.2.2.2.1)), (h_a_most_limbs, .inl (jy X 0, 6, .inl p.2.2.2.2.2.2.1)), (h_a_one_limbs, .inl (jy X 0, 6, .inl p.2.2.2.2.2.2.2)), (h_b1_stories_cells, .inl (jy X 0, 8, .inl f_b1_stories_cells)), (h_b1_tries_cells, .inl (jy X 0, 2, .inl f_b1_tries_cells))] (fX4_weighAll_b23 u v_a_heaviest v_a_all_size v_a_most_size v_a_one_size v_b1_stories_rows v_b1_tries_rows f_a_all_limbs f_a_most_limbs f_a_one_limbs f_b1_stories_cells f_b1_tries_cells rec23 p) := by
  unfold fX4_weighAll_b23
  refine j_iload_n (pc := 23) hC 2 rfl dX4_weighAll_23 ?_
  refine j_iconst (pc := 24) hC ki_4 dX4_weighAll_24 ?_
  refine j_icmpge (pc := 25) hC 81 (by decide) dX4_weighAll_25 ?_ ?_
  · refine j_aload_n (pc := 81) hC 0 rfl dX4_weighAll_81 ?_
    refine j_get (pc := 82) hC flRX4_18 0 rfl rfl dX4_weighAll_82 ?_
    refine j_get (pc := 85) hC flRX4_66 2 rfl rfl dX4_weighAll_85 ?_
    refine j_ifle (pc := 88) hC 95 (by decide) dX4_weighAll_88 ?_ ?_
    · refine j_iconst (pc := 95) hC ki_0 dX4_weighAll_95 ?_
      exact j_zret (pc := 96) hC (fun _ => 0) (by decide) rfl rfl dX4_weighAll_96
    · refine j_iconst (pc := 91) hC ki_1 dX4_weighAll_91 ?_
      refine j_goto (pc := 92) hC 96 (by decide) dX4_weighAll_92 ?_
      exact j_zret (pc := 96) hC (fun _ => 0) (by decide) rfl rfl dX4_weighAll_96
  · refine j_aload_n (pc := 28) hC 0 rfl dX4_weighAll_28 ?_
    refine j_aload_n (pc := 29) hC 1 rfl dX4_weighAll_29 ?_
    refine j_iload_n (pc := 30) hC 2 rfl dX4_weighAll_30 ?_
    refine j_callV (pc := 31) hC csRX4_51 [.ref h_b1, .int p.1] (mX4_weigh (jl X) (jD X) (jy X) (jv X) u h_a h_a_one h_a_all h_a_most h_b1 h_b1_arms h_b1_hooks h_b1_darts h_b1_stories h_b1_tries h_b1_people h_b1_praise h_b1_thorns h_b1_butts h_b1_play h_b1_sorts h_b1_layers h_b1_plan h_a_one_limbs h_b1_stories_cells h_b1_tries_cells p.1 p.2.1 p.2.2.2.2.1 v_b1_stories_rows v_b1_tries_rows p.2.2.2.2.2.2.2 f_b1_stories_cells f_b1_tries_cells) [0, 1, 4, 5, 6, 9, 10, 11] rfl (by decide +kernel) 0 rfl ⟨_, _, rfl⟩ ⟨by decide, by decide, rfl, rfl, by decide, by decide⟩ rfl rfl (Nat.le_of_ble_eq_true rfl) dX4_weighAll_31 (jkv (fun r3 _ => (rfl : @Eq va_W _ [(h_a, .inr (4, [.ref h_a_one, .ref h_a_all, .ref h_a_most, .int p.2.1])), (h_b1, .inr (6, [.ref h_b1_arms, .ref h_b1_hooks, .ref h_b1_darts, .ref h_b1_stories, .ref h_b1_tries, .ref h_b1_people, .ref h_b1_praise, .ref h_b1_thorns, .ref h_b1_butts, .ref h_b1_play, .ref h_b1_sorts, .ref h_b1_layers, .ref h_b1_plan])), (h_a_all, .inr (3, [.ref h_a_all_limbs, .int p.2.2.1])), (h_a_most, .inr (3, [.ref h_a_most_limbs, .int p.2.2.2.1])), (h_a_one, .inr (3, [.ref h_a_one_limbs, .int r3.1])), (h_b1_stories, .inr (7, [.int (2 : Int32), .ref h_b1_stories_cells, .int v_b1_stories_rows])), (h_b1_tries, .inr (7, [.int (2 : Int32), .ref h_b1_tries_cells, .int v_b1_tries_rows])), (h_a_all_limbs, .inl (jy X 0, 6, .inl p.2.2.2.2.2.1)), (h_a_most_limbs, .inl (jy X 0, 6, .inl p.2.2.2.2.2.2.1)), (h_a_one_limbs, .inl (jy X 0, 6, .inl r3.2)), (h_b1_stories_cells, .inl (jy X 0, 8, .inl f_b1_stories_cells)), (h_b1_tries_cells, .inl (jy X 0, 2, .inl f_b1_tries_cells))])) (fun r3 => ?_))
    refine j_aload_n (pc := 34) hC 0 rfl dX4_weighAll_34 ?_
    refine j_get (pc := 35) hC flRX4_18 0 rfl rfl dX4_weighAll_35 ?_
    refine j_aload_n (pc := 38) hC 0 rfl dX4_weighAll_38 ?_
    refine j_get (pc := 39) hC flRX4_12 0 rfl rfl dX4_weighAll_39 ?_
    refine j_callV (pc := 42) hC csRX4_55 [.ref h_a_one] (mX3_add (jl X) (jD X) (jy X) (jv X) u h_a_all h_a_all_limbs h_a_one h_a_one_limbs p.2.2.1 r3.1 p.2.2.2.2.2.1 r3.2) [2, 4, 7, 9] rfl (by decide +kernel) 2 rfl ⟨_, _, rfl⟩ ⟨by decide, by decide, rfl, rfl, by decide, by decide⟩ rfl rfl (Nat.le_of_ble_eq_true rfl) dX4_weighAll_42 (jkv (fun r4 _ => (rfl : @Eq va_W _ [(h_a, .inr (4, [.ref h_a_one, .ref h_a_all, .ref h_a_most, .int p.2.1])), (h_b1, .inr (6, [.ref h_b1_arms, .ref h_b1_hooks, .ref h_b1_darts, .ref h_b1_stories, .ref h_b1_tries, .ref h_b1_people, .ref h_b1_praise, .ref h_b1_thorns, .ref h_b1_butts, .ref h_b1_play, .ref h_b1_sorts, .ref h_b1_layers, .ref h_b1_plan])), (h_a_all, .inr (3, [.ref h_a_all_limbs, .int r4.1])), (h_a_most, .inr (3, [.ref h_a_most_limbs, .int p.2.2.2.1])), (h_a_one, .inr (3, [.ref h_a_one_limbs, .int r3.1])), (h_b1_stories, .inr (7, [.int (2 : Int32), .ref h_b1_stories_cells, .int v_b1_stories_rows])), (h_b1_tries, .inr (7, [.int (2 : Int32), .ref h_b1_tries_cells, .int v_b1_tries_rows])), (h_a_all_limbs, .inl (jy X 0, 6, .inl r4.2)), (h_a_most_limbs, .inl (jy X 0, 6, .inl p.2.2.2.2.2.2.1)), (h_a_one_limbs, .inl (jy X 0, 6, .inl r3.2)), (h_b1_stories_cells, .inl (jy X 0, 8, .inl f_b1_stories_cells)), (h_b1_tries_cells, .inl (jy X 0, 2, .inl f_b1_tries_cells))])) (fun r4 => ?_))
    refine j_aload_n (pc := 45) hC 0 rfl dX4_weighAll_45 ?_
    refine j_get (pc := 46) hC flRX4_12 0 rfl rfl dX4_weighAll_46 ?_
    refine j_aload_n (pc := 49) hC 0 rfl dX4_weighAll_49 ?_
    refine j_get (pc := 50) hC flRX4_21 0 rfl rfl dX4_weighAll_50 ?_
    refine j_callV (pc := 53) hC csRX4_59 [.ref h_a_most] (mX3_isAbove (jl X) (jD X) (jy X) (jv X) u h_a_one h_a_one_limbs h_a_most h_a_most_limbs r3.1 p.2.2.2.1 r3.2 p.2.2.2.2.2.2.1) [4, 3, 9, 8] rfl (by decide +kernel) 4 rfl ⟨_, _, rfl⟩ ⟨by decide, by decide, rfl, rfl, by decide, by decide⟩ rfl rfl (Nat.le_of_ble_eq_true rfl) dX4_weighAll_53 (jki0 (fun _ => rfl) (fun _ _ => rfl) (fun r5 => ?_))
    refine j_ifeq (pc := 56) hC 75 (by decide) dX4_weighAll_56 ?_ ?_
    · exact jX4_weighAll_b75 hC u h_a h_a_one h_a_all h_a_most h_b1 h_b1_arms h_b1_hooks h_b1_darts h_b1_stories h_b1_tries h_b1_people h_b1_praise h_b1_thorns h_b1_butts h_b1_play h_b1_sorts h_b1_layers h_b1_plan h_a_all_limbs h_a_most_limbs h_a_one_limbs h_b1_stories_cells h_b1_tries_cells v_a_heaviest v_a_all_size v_a_most_size v_a_one_size v_b1_stories_rows v_b1_tries_rows f_a_all_limbs f_a_most_limbs f_a_one_limbs f_b1_stories_cells f_b1_tries_cells rec23 hrec23 (p.1, p.2.1, r4.1, p.2.2.2.1, r3.1, r4.2, p.2.2.2.2.2.2.1, r3.2)
    · refine j_aload_n (pc := 59) hC 0 rfl dX4_weighAll_59 ?_
      refine j_get (pc := 60) hC flRX4_21 0 rfl rfl dX4_weighAll_60 ?_
      refine j_aload_n (pc := 63) hC 0 rfl dX4_weighAll_63 ?_
      refine j_get (pc := 64) hC flRX4_12 0 rfl rfl dX4_weighAll_64 ?_
      refine j_callV (pc := 67) hC csRX4_63 [.ref h_a_one] (mX3_copyFrom (jl X) (jD X) (jy X) (jv X) h_a_most h_a_most_limbs h_a_one h_a_one_limbs p.2.2.2.1 r3.1 p.2.2.2.2.2.2.1 r3.2) [3, 4, 8, 9] rfl (by decide +kernel) 3 rfl ⟨_, _, rfl⟩ ⟨by decide, by decide, rfl, rfl, by decide, by decide⟩ rfl rfl (Nat.le_of_ble_eq_true rfl) dX4_weighAll_67 (jkv (fun r7 _ => (rfl : @Eq va_W _ [(h_a, .inr (4, [.ref h_a_one, .ref h_a_all, .ref h_a_most, .int p.2.1])), (h_b1, .inr (6, [.ref h_b1_arms, .ref h_b1_hooks, .ref h_b1_darts, .ref h_b1_stories, .ref h_b1_tries, .ref h_b1_people, .ref h_b1_praise, .ref h_b1_thorns, .ref h_b1_butts, .ref h_b1_play, .ref h_b1_sorts, .ref h_b1_layers, .ref h_b1_plan])), (h_a_all, .inr (3, [.ref h_a_all_limbs, .int r4.1])), (h_a_most, .inr (3, [.ref h_a_most_limbs, .int r7.1])), (h_a_one, .inr (3, [.ref h_a_one_limbs, .int r3.1])), (h_b1_stories, .inr (7, [.int (2 : Int32), .ref h_b1_stories_cells, .int v_b1_stories_rows])), (h_b1_tries, .inr (7, [.int (2 : Int32), .ref h_b1_tries_cells, .int v_b1_tries_rows])), (h_a_all_limbs, .inl (jy X 0, 6, .inl r4.2)), (h_a_most_limbs, .inl (jy X 0, 6, .inl r7.2)), (h_a_one_limbs, .inl (jy X 0, 6, .inl r3.2)), (h_b1_stories_cells, .inl (jy X 0, 8, .inl f_b1_stories_cells)), (h_b1_tries_cells, .inl (jy X 0, 2, .inl f_b1_tries_cells))])) (fun r7 => ?_))
      refine j_aload_n (pc := 70) hC 0 rfl dX4_weighAll_70 ?_
      refine j_iload_n (pc := 71) hC 2 rfl dX4_weighAll_71 ?_
      refine j_put (pc := 72) hC fpRX4_47 0 rfl rfl rfl (Nat.le_of_ble_eq_true rfl) dX4_weighAll_72 (ws' := [(h_a, .inr (4, [.ref h_a_one, .ref h_a_all, .ref h_a_most, .int p.1])), (h_b1, .inr (6, [.ref h_b1_arms, .ref h_b1_hooks, .ref h_b1_darts, .ref h_b1_stories, .ref h_b1_tries, .ref h_b1_people, .ref h_b1_praise, .ref h_b1_thorns, .ref h_b1_butts, .ref h_b1_play, .ref h_b1_sorts, .ref h_b1_layers, .ref h_b1_plan])), (h_a_all, .inr (3, [.ref h_a_all_limbs, .int r4.1])), (h_a_most, .inr (3, [.ref h_a_most_limbs, .int r7.1])), (h_a_one, .inr (3, [.ref h_a_one_limbs, .int r3.1])), (h_b1_stories, .inr (7, [.int (2 : Int32), .ref h_b1_stories_cells, .int v_b1_stories_rows])), (h_b1_tries, .inr (7, [.int (2 : Int32), .ref h_b1_tries_cells, .int v_b1_tries_rows])), (h_a_all_limbs, .inl (jy X 0, 6, .inl r4.2)), (h_a_most_limbs, .inl (jy X 0, 6, .inl r7.2)), (h_a_one_limbs, .inl (jy X 0, 6, .inl r3.2)), (h_b1_stories_cells, .inl (jy X 0, 8, .inl f_b1_stories_cells)), (h_b1_tries_cells, .inl (jy X 0, 2, .inl f_b1_tries_cells))]) rfl ?_
      exact jX4_weighAll_b75 hC u h_a h_a_one h_a_all h_a_most h_b1 h_b1_arms h_b1_hooks h_b1_darts h_b1_stories h_b1_tries h_b1_people h_b1_praise h_b1_thorns h_b1_butts h_b1_play h_b1_sorts h_b1_layers h_b1_plan h_a_all_limbs h_a_most_limbs h_a_one_limbs h_b1_stories_cells h_b1_tries_cells v_a_heaviest v_a_all_size v_a_most_size v_a_one_size v_b1_stories_rows v_b1_tries_rows f_a_all_limbs f_a_most_limbs f_a_one_limbs f_b1_stories_cells f_b1_tries_cells rec23 hrec23 (p.1, p.1, r4.1, r7.1, r3.1, r4.2, r7.2, r3.2)
set_option maxHeartbeats 4000000 in
set_option maxRecDepth 100000 in
theorem jX4_weighAll_b23 {X : jX} (hC : jC X cX4_weighAll 3 RX4 rX4_weighAll (some .boolean)) (u : Nat) (h_a h_a_one h_a_all h_a_most h_b1 h_b1_arms h_b1_hooks h_b1_darts h_b1_stories h_b1_tries h_b1_people h_b1_praise h_b1_thorns h_b1_butts h_b1_play h_b1_sorts h_b1_layers h_b1_plan h_a_all_limbs h_a_most_limbs h_a_one_limbs h_b1_stories_cells h_b1_tries_cells : Nat) (v_a_heaviest v_a_all_size v_a_most_size v_a_one_size v_b1_stories_rows v_b1_tries_rows : Int32) (f_a_all_limbs f_a_most_limbs f_a_one_limbs f_b1_stories_cells f_b1_tries_cells : Nat → Int32) (p : Int32 × Int32 × Int32 × Int32 × Int32 × (Nat → Int32) × (Nat → Int32) × (Nat → Int32)) : jJ X 3 0 0 (jQf X 0 0 (fun r => some (.int r.1)) (fun r _ => [(h_a, .inr (4, [.ref h_a_one, .ref h_a_all, .ref h_a_most, .int r.2.1])), (h_b1, .inr (6, [.ref h_b1_arms, .ref h_b1_hooks, .ref h_b1_darts, .ref h_b1_stories, .ref h_b1_tries, .ref h_b1_people, .ref h_b1_praise, .ref h_b1_thorns, .ref h_b1_butts, .ref h_b1_play, .ref h_b1_sorts, .ref h_b1_layers, .ref h_b1_plan])), (h_a_all, .inr (3, [.ref h_a_all_limbs, .int r.2.2.1])), (h_a_most, .inr (3, [.ref h_a_most_limbs, .int r.2.2.2.1])), (h_a_one, .inr (3, [.ref h_a_one_limbs, .int r.2.2.2.2.1])), (h_b1_stories, .inr (7, [.int (2 : Int32), .ref h_b1_stories_cells, .int v_b1_stories_rows])), (h_b1_tries, .inr (7, [.int (2 : Int32), .ref h_b1_tries_cells, .int v_b1_tries_rows])), (h_a_all_limbs, .inl (jy X 0, 6, .inl r.2.2.2.2.2.1)), (h_a_most_limbs, .inl (jy X 0, 6, .inl r.2.2.2.2.2.2.1)), (h_a_one_limbs, .inl (jy X 0, 6, .inl r.2.2.2.2.2.2.2)), (h_b1_stories_cells, .inl (jy X 0, 8, .inl f_b1_stories_cells)), (h_b1_tries_cells, .inl (jy X 0, 2, .inl f_b1_tries_cells))])) 23 [(0, .ref h_a), (1, .ref h_b1), (2, .int p.1)] [] [(h_a, .inr (4, [.ref h_a_one, .ref h_a_all, .ref h_a_most, .int p.2.1])), (h_b1, .inr (6, [.ref h_b1_arms, .ref h_b1_hooks, .ref h_b1_darts, .ref h_b1_stories, .ref h_b1_tries, .ref h_b1_people, .ref h_b1_praise, .ref h_b1_thorns, .ref h_b1_butts, .ref h_b1_play, .ref h_b1_sorts, .ref h_b1_layers, .ref h_b1_plan])), (h_a_all, .inr (3, [.ref h_a_all_limbs, .int p.2.2.1])), (h_a_most, .inr (3, [.ref h_a_most_limbs, .int p.2.2.2.1])), (h_a_one, .inr (3, [.ref h_a_one_limbs, .int p.2.2.2.2.1])), (h_b1_stories, .inr (7, [.int (2 : Int32), .ref h_b1_stories_cells, .int v_b1_stories_rows])), (h_b1_tries, .inr (7, [.int (2 : Int32), .ref h_b1_tries_cells, .int v_b1_tries_rows])), (h_a_all_limbs, .inl (jy X 0, 6, .inl p.2.2.2.2.2.1)), (h_a_most_limbs, .inl (jy X 0, 6, .inl p.2.2.2.2.2.2.1)), (h_a_one_limbs, .inl (jy X 0, 6, .inl p.2.2.2.2.2.2.2)), (h_b1_stories_cells, .inl (jy X 0, 8, .inl f_b1_stories_cells)), (h_b1_tries_cells, .inl (jy X 0, 2, .inl f_b1_tries_cells))] (jfix (fX4_weighAll_b23 u v_a_heaviest v_a_all_size v_a_most_size v_a_one_size v_b1_stories_rows v_b1_tries_rows f_a_all_limbs f_a_most_limbs f_a_one_limbs f_b1_stories_cells f_b1_tries_cells) u p) :=
  j_fix (fun rec23 hrec23 p => jX4_weighAll_b23_step hC u h_a h_a_one h_a_all h_a_most h_b1 h_b1_arms h_b1_hooks h_b1_darts h_b1_stories h_b1_tries h_b1_people h_b1_praise h_b1_thorns h_b1_butts h_b1_play h_b1_sorts h_b1_layers h_b1_plan h_a_all_limbs h_a_most_limbs h_a_one_limbs h_b1_stories_cells h_b1_tries_cells v_a_heaviest v_a_all_size v_a_most_size v_a_one_size v_b1_stories_rows v_b1_tries_rows f_a_all_limbs f_a_most_limbs f_a_one_limbs f_b1_stories_cells f_b1_tries_cells rec23 hrec23 p) u p
set_option maxHeartbeats 4000000 in
set_option maxRecDepth 100000 in
theorem jX4_weighAll {X : jX} (hC : jC X cX4_weighAll 3 RX4 rX4_weighAll (some .boolean)) (u : Nat) (h_a h_a_one h_a_all h_a_most h_b1 h_b1_arms h_b1_hooks h_b1_darts h_b1_stories h_b1_tries h_b1_people h_b1_praise h_b1_thorns h_b1_butts h_b1_play h_b1_sorts h_b1_layers h_b1_plan h_a_all_limbs h_a_most_limbs h_a_one_limbs h_b1_stories_cells h_b1_tries_cells : Nat) (v_a_heaviest v_a_all_size v_a_most_size v_a_one_size v_b1_stories_rows v_b1_tries_rows : Int32) (f_a_all_limbs f_a_most_limbs f_a_one_limbs f_b1_stories_cells f_b1_tries_cells : Nat → Int32) : jJ X 3 0 0 (jQf X 0 0 (fun r => some (.int r.1)) (fun r _ => [(h_a, .inr (4, [.ref h_a_one, .ref h_a_all, .ref h_a_most, .int r.2.1])), (h_b1, .inr (6, [.ref h_b1_arms, .ref h_b1_hooks, .ref h_b1_darts, .ref h_b1_stories, .ref h_b1_tries, .ref h_b1_people, .ref h_b1_praise, .ref h_b1_thorns, .ref h_b1_butts, .ref h_b1_play, .ref h_b1_sorts, .ref h_b1_layers, .ref h_b1_plan])), (h_a_all, .inr (3, [.ref h_a_all_limbs, .int r.2.2.1])), (h_a_most, .inr (3, [.ref h_a_most_limbs, .int r.2.2.2.1])), (h_a_one, .inr (3, [.ref h_a_one_limbs, .int r.2.2.2.2.1])), (h_b1_stories, .inr (7, [.int (2 : Int32), .ref h_b1_stories_cells, .int v_b1_stories_rows])), (h_b1_tries, .inr (7, [.int (2 : Int32), .ref h_b1_tries_cells, .int v_b1_tries_rows])), (h_a_all_limbs, .inl (jy X 0, 6, .inl r.2.2.2.2.2.1)), (h_a_most_limbs, .inl (jy X 0, 6, .inl r.2.2.2.2.2.2.1)), (h_a_one_limbs, .inl (jy X 0, 6, .inl r.2.2.2.2.2.2.2)), (h_b1_stories_cells, .inl (jy X 0, 8, .inl f_b1_stories_cells)), (h_b1_tries_cells, .inl (jy X 0, 2, .inl f_b1_tries_cells))])) 0 [(0, .ref h_a), (1, .ref h_b1)] [] [(h_a, .inr (4, [.ref h_a_one, .ref h_a_all, .ref h_a_most, .int v_a_heaviest])), (h_b1, .inr (6, [.ref h_b1_arms, .ref h_b1_hooks, .ref h_b1_darts, .ref h_b1_stories, .ref h_b1_tries, .ref h_b1_people, .ref h_b1_praise, .ref h_b1_thorns, .ref h_b1_butts, .ref h_b1_play, .ref h_b1_sorts, .ref h_b1_layers, .ref h_b1_plan])), (h_a_all, .inr (3, [.ref h_a_all_limbs, .int v_a_all_size])), (h_a_most, .inr (3, [.ref h_a_most_limbs, .int v_a_most_size])), (h_a_one, .inr (3, [.ref h_a_one_limbs, .int v_a_one_size])), (h_b1_stories, .inr (7, [.int (2 : Int32), .ref h_b1_stories_cells, .int v_b1_stories_rows])), (h_b1_tries, .inr (7, [.int (2 : Int32), .ref h_b1_tries_cells, .int v_b1_tries_rows])), (h_a_all_limbs, .inl (jy X 0, 6, .inl f_a_all_limbs)), (h_a_most_limbs, .inl (jy X 0, 6, .inl f_a_most_limbs)), (h_a_one_limbs, .inl (jy X 0, 6, .inl f_a_one_limbs)), (h_b1_stories_cells, .inl (jy X 0, 8, .inl f_b1_stories_cells)), (h_b1_tries_cells, .inl (jy X 0, 2, .inl f_b1_tries_cells))] (fX4_weighAll u v_a_heaviest v_a_all_size v_a_most_size v_a_one_size v_b1_stories_rows v_b1_tries_rows f_a_all_limbs f_a_most_limbs f_a_one_limbs f_b1_stories_cells f_b1_tries_cells) := by
  unfold fX4_weighAll
  refine j_aload_n (pc := 0) hC 0 rfl dX4_weighAll_0 ?_
  refine j_get (pc := 1) hC flRX4_18 0 rfl rfl dX4_weighAll_1 ?_
  refine j_lconst (pc := 4) hC (v := (0 : Int64)) rfl dX4_weighAll_4 ?_
  refine j_callV (pc := 5) hC csRX4_39 [.long (0 : Int64)] (mX3_set (jl X) (jD X) (jy X) (jv X) u h_a_all h_a_all_limbs (0 : Int64) v_a_all_size f_a_all_limbs) [2, 7] rfl (by decide +kernel) 2 rfl ⟨_, _, rfl⟩ ⟨by decide, by decide, rfl, rfl, by decide, by decide⟩ rfl rfl (Nat.le_of_ble_eq_true rfl) dX4_weighAll_5 (jkv (fun r1 _ => (rfl : @Eq va_W _ [(h_a, .inr (4, [.ref h_a_one, .ref h_a_all, .ref h_a_most, .int v_a_heaviest])), (h_b1, .inr (6, [.ref h_b1_arms, .ref h_b1_hooks, .ref h_b1_darts, .ref h_b1_stories, .ref h_b1_tries, .ref h_b1_people, .ref h_b1_praise, .ref h_b1_thorns, .ref h_b1_butts, .ref h_b1_play, .ref h_b1_sorts, .ref h_b1_layers, .ref h_b1_plan])), (h_a_all, .inr (3, [.ref h_a_all_limbs, .int r1.1])), (h_a_most, .inr (3, [.ref h_a_most_limbs, .int v_a_most_size])), (h_a_one, .inr (3, [.ref h_a_one_limbs, .int v_a_one_size])), (h_b1_stories, .inr (7, [.int (2 : Int32), .ref h_b1_stories_cells, .int v_b1_stories_rows])), (h_b1_tries, .inr (7, [.int (2 : Int32), .ref h_b1_tries_cells, .int v_b1_tries_rows])), (h_a_all_limbs, .inl (jy X 0, 6, .inl r1.2)), (h_a_most_limbs, .inl (jy X 0, 6, .inl f_a_most_limbs)), (h_a_one_limbs, .inl (jy X 0, 6, .inl f_a_one_limbs)), (h_b1_stories_cells, .inl (jy X 0, 8, .inl f_b1_stories_cells)), (h_b1_tries_cells, .inl (jy X 0, 2, .inl f_b1_tries_cells))])) (fun r1 => ?_))
  refine j_aload_n (pc := 8) hC 0 rfl dX4_weighAll_8 ?_
  refine j_get (pc := 9) hC flRX4_21 0 rfl rfl dX4_weighAll_9 ?_
  refine j_lconst (pc := 12) hC (v := (0 : Int64)) rfl dX4_weighAll_12 ?_
  refine j_callV (pc := 13) hC csRX4_39 [.long (0 : Int64)] (mX3_set (jl X) (jD X) (jy X) (jv X) u h_a_most h_a_most_limbs (0 : Int64) v_a_most_size f_a_most_limbs) [3, 8] rfl (by decide +kernel) 3 rfl ⟨_, _, rfl⟩ ⟨by decide, by decide, rfl, rfl, by decide, by decide⟩ rfl rfl (Nat.le_of_ble_eq_true rfl) dX4_weighAll_13 (jkv (fun r2 _ => (rfl : @Eq va_W _ [(h_a, .inr (4, [.ref h_a_one, .ref h_a_all, .ref h_a_most, .int v_a_heaviest])), (h_b1, .inr (6, [.ref h_b1_arms, .ref h_b1_hooks, .ref h_b1_darts, .ref h_b1_stories, .ref h_b1_tries, .ref h_b1_people, .ref h_b1_praise, .ref h_b1_thorns, .ref h_b1_butts, .ref h_b1_play, .ref h_b1_sorts, .ref h_b1_layers, .ref h_b1_plan])), (h_a_all, .inr (3, [.ref h_a_all_limbs, .int r1.1])), (h_a_most, .inr (3, [.ref h_a_most_limbs, .int r2.1])), (h_a_one, .inr (3, [.ref h_a_one_limbs, .int v_a_one_size])), (h_b1_stories, .inr (7, [.int (2 : Int32), .ref h_b1_stories_cells, .int v_b1_stories_rows])), (h_b1_tries, .inr (7, [.int (2 : Int32), .ref h_b1_tries_cells, .int v_b1_tries_rows])), (h_a_all_limbs, .inl (jy X 0, 6, .inl r1.2)), (h_a_most_limbs, .inl (jy X 0, 6, .inl r2.2)), (h_a_one_limbs, .inl (jy X 0, 6, .inl f_a_one_limbs)), (h_b1_stories_cells, .inl (jy X 0, 8, .inl f_b1_stories_cells)), (h_b1_tries_cells, .inl (jy X 0, 2, .inl f_b1_tries_cells))])) (fun r2 => ?_))
  refine j_aload_n (pc := 16) hC 0 rfl dX4_weighAll_16 ?_
  refine j_iconst (pc := 17) hC ki_0 dX4_weighAll_17 ?_
  refine j_put (pc := 18) hC fpRX4_47 0 rfl rfl rfl (Nat.le_of_ble_eq_true rfl) dX4_weighAll_18 (ws' := [(h_a, .inr (4, [.ref h_a_one, .ref h_a_all, .ref h_a_most, .int (0 : Int32)])), (h_b1, .inr (6, [.ref h_b1_arms, .ref h_b1_hooks, .ref h_b1_darts, .ref h_b1_stories, .ref h_b1_tries, .ref h_b1_people, .ref h_b1_praise, .ref h_b1_thorns, .ref h_b1_butts, .ref h_b1_play, .ref h_b1_sorts, .ref h_b1_layers, .ref h_b1_plan])), (h_a_all, .inr (3, [.ref h_a_all_limbs, .int r1.1])), (h_a_most, .inr (3, [.ref h_a_most_limbs, .int r2.1])), (h_a_one, .inr (3, [.ref h_a_one_limbs, .int v_a_one_size])), (h_b1_stories, .inr (7, [.int (2 : Int32), .ref h_b1_stories_cells, .int v_b1_stories_rows])), (h_b1_tries, .inr (7, [.int (2 : Int32), .ref h_b1_tries_cells, .int v_b1_tries_rows])), (h_a_all_limbs, .inl (jy X 0, 6, .inl r1.2)), (h_a_most_limbs, .inl (jy X 0, 6, .inl r2.2)), (h_a_one_limbs, .inl (jy X 0, 6, .inl f_a_one_limbs)), (h_b1_stories_cells, .inl (jy X 0, 8, .inl f_b1_stories_cells)), (h_b1_tries_cells, .inl (jy X 0, 2, .inl f_b1_tries_cells))]) rfl ?_
  refine j_iconst (pc := 21) hC ki_0 dX4_weighAll_21 ?_
  refine j_istore_n (pc := 22) hC (lv' := [(2, .int (0 : Int32)), (0, .ref h_a), (1, .ref h_b1)]) rfl (by decide) dX4_weighAll_22 ?_
  refine j_lv (pc := 23) [1, 2, 0] rfl ?_
  exact jX4_weighAll_b23 hC u h_a h_a_one h_a_all h_a_most h_b1 h_b1_arms h_b1_hooks h_b1_darts h_b1_stories h_b1_tries h_b1_people h_b1_praise h_b1_thorns h_b1_butts h_b1_play h_b1_sorts h_b1_layers h_b1_plan h_a_all_limbs h_a_most_limbs h_a_one_limbs h_b1_stories_cells h_b1_tries_cells v_a_heaviest v_a_all_size v_a_most_size v_a_one_size v_b1_stories_rows v_b1_tries_rows f_a_all_limbs f_a_most_limbs f_a_one_limbs f_b1_stories_cells f_b1_tries_cells ((0 : Int32), (0 : Int32), r1.1, r2.1, v_a_one_size, r1.2, r2.2, f_a_one_limbs)
set_option maxHeartbeats 4000000 in
set_option maxRecDepth 100000 in
theorem mX4_weighAll (l : Launch) (D : va_G) (cy : Nat → ClassId) (ev : jE) (u : Nat) (h_a h_a_one h_a_all h_a_most h_b1 h_b1_arms h_b1_hooks h_b1_darts h_b1_stories h_b1_tries h_b1_people h_b1_praise h_b1_thorns h_b1_butts h_b1_play h_b1_sorts h_b1_layers h_b1_plan h_a_all_limbs h_a_most_limbs h_a_one_limbs h_b1_stories_cells h_b1_tries_cells : Nat) (v_a_heaviest v_a_all_size v_a_most_size v_a_one_size v_b1_stories_rows v_b1_tries_rows : Int32) (f_a_all_limbs f_a_most_limbs f_a_one_limbs f_b1_stories_cells f_b1_tries_cells : Nat → Int32) : jM l yX4_weighAll cX4_weighAll 3 (some .boolean) rX4_weighAll [.ref h_a, .ref h_b1] [(h_a, .inr (4, [.ref h_a_one, .ref h_a_all, .ref h_a_most, .int v_a_heaviest])), (h_b1, .inr (6, [.ref h_b1_arms, .ref h_b1_hooks, .ref h_b1_darts, .ref h_b1_stories, .ref h_b1_tries, .ref h_b1_people, .ref h_b1_praise, .ref h_b1_thorns, .ref h_b1_butts, .ref h_b1_play, .ref h_b1_sorts, .ref h_b1_layers, .ref h_b1_plan])), (h_a_all, .inr (3, [.ref h_a_all_limbs, .int v_a_all_size])), (h_a_most, .inr (3, [.ref h_a_most_limbs, .int v_a_most_size])), (h_a_one, .inr (3, [.ref h_a_one_limbs, .int v_a_one_size])), (h_b1_stories, .inr (7, [.int (2 : Int32), .ref h_b1_stories_cells, .int v_b1_stories_rows])), (h_b1_tries, .inr (7, [.int (2 : Int32), .ref h_b1_tries_cells, .int v_b1_tries_rows])), (h_a_all_limbs, .inl (cy 0, 6, .inl f_a_all_limbs)), (h_a_most_limbs, .inl (cy 0, 6, .inl f_a_most_limbs)), (h_a_one_limbs, .inl (cy 0, 6, .inl f_a_one_limbs)), (h_b1_stories_cells, .inl (cy 0, 8, .inl f_b1_stories_cells)), (h_b1_tries_cells, .inl (cy 0, 2, .inl f_b1_tries_cells))] (fun r _ => [(h_a, .inr (4, [.ref h_a_one, .ref h_a_all, .ref h_a_most, .int r.2.1])), (h_b1, .inr (6, [.ref h_b1_arms, .ref h_b1_hooks, .ref h_b1_darts, .ref h_b1_stories, .ref h_b1_tries, .ref h_b1_people, .ref h_b1_praise, .ref h_b1_thorns, .ref h_b1_butts, .ref h_b1_play, .ref h_b1_sorts, .ref h_b1_layers, .ref h_b1_plan])), (h_a_all, .inr (3, [.ref h_a_all_limbs, .int r.2.2.1])), (h_a_most, .inr (3, [.ref h_a_most_limbs, .int r.2.2.2.1])), (h_a_one, .inr (3, [.ref h_a_one_limbs, .int r.2.2.2.2.1])), (h_b1_stories, .inr (7, [.int (2 : Int32), .ref h_b1_stories_cells, .int v_b1_stories_rows])), (h_b1_tries, .inr (7, [.int (2 : Int32), .ref h_b1_tries_cells, .int v_b1_tries_rows])), (h_a_all_limbs, .inl (cy 0, 6, .inl r.2.2.2.2.2.1)), (h_a_most_limbs, .inl (cy 0, 6, .inl r.2.2.2.2.2.2.1)), (h_a_one_limbs, .inl (cy 0, 6, .inl r.2.2.2.2.2.2.2)), (h_b1_stories_cells, .inl (cy 0, 8, .inl f_b1_stories_cells)), (h_b1_tries_cells, .inl (cy 0, 2, .inl f_b1_tries_cells))]) (fun r => some (.int r.1)) (fX4_weighAll u v_a_heaviest v_a_all_size v_a_most_size v_a_one_size v_b1_stories_rows v_b1_tries_rows f_a_all_limbs f_a_most_limbs f_a_one_limbs f_b1_stories_cells f_b1_tries_cells) D cy ev := j_met RX4 (by decide +kernel) rfl (Nat.le_of_ble_eq_true rfl) (fun X hC _ hD hy hv => by subst hD; subst hy; subst hv; exact jX4_weighAll hC u h_a h_a_one h_a_all h_a_most h_b1 h_b1_arms h_b1_hooks h_b1_darts h_b1_stories h_b1_tries h_b1_people h_b1_praise h_b1_thorns h_b1_butts h_b1_play h_b1_sorts h_b1_layers h_b1_plan h_a_all_limbs h_a_most_limbs h_a_one_limbs h_b1_stories_cells h_b1_tries_cells v_a_heaviest v_a_all_size v_a_most_size v_a_one_size v_b1_stories_rows v_b1_tries_rows f_a_all_limbs f_a_most_limbs f_a_one_limbs f_b1_stories_cells f_b1_tries_cells)
set_option maxHeartbeats 4000000 in
set_option maxRecDepth 100000 in
theorem jX8_within {X : jX} (hC : jC X cX8_within 3 RX8 rX8_within (some .boolean)) (p0 p1 p2 : Int32) : jJ X 3 0 0 (jQf X 0 0 (fun r => some (.int r)) (fun _ _ => [])) 0 [(0, .int p0), (1, .int p1), (2, .int p2)] [] [] (fX8_within p0 p1 p2) := by
  unfold fX8_within
  refine j_iload_n (pc := 0) hC 0 rfl dX8_within_0 ?_
  refine j_iload_n (pc := 1) hC 1 rfl dX8_within_1 ?_
  refine j_icmplt (pc := 2) hC 14 (by decide) dX8_within_2 ?_ ?_
  · refine j_iconst (pc := 14) hC ki_0 dX8_within_14 ?_
    exact j_zret (pc := 15) hC (fun _ => 0) (by decide) rfl rfl dX8_within_15
  · refine j_iload_n (pc := 5) hC 0 rfl dX8_within_5 ?_
    refine j_iload_n (pc := 6) hC 2 rfl dX8_within_6 ?_
    refine j_icmpgt (pc := 7) hC 14 (by decide) dX8_within_7 ?_ ?_
    · refine j_iconst (pc := 14) hC ki_0 dX8_within_14 ?_
      exact j_zret (pc := 15) hC (fun _ => 0) (by decide) rfl rfl dX8_within_15
    · refine j_iconst (pc := 10) hC ki_1 dX8_within_10 ?_
      refine j_goto (pc := 11) hC 15 (by decide) dX8_within_11 ?_
      exact j_zret (pc := 15) hC (fun _ => 0) (by decide) rfl rfl dX8_within_15
set_option maxHeartbeats 4000000 in
set_option maxRecDepth 100000 in
theorem mX8_within (l : Launch) (D : va_G) (cy : Nat → ClassId) (ev : jE) (p0 p1 p2 : Int32) : jM l yX8_within cX8_within 3 (some .boolean) rX8_within [.int p0, .int p1, .int p2] [] (fun _ _ => []) (fun r => some (.int r)) (fX8_within p0 p1 p2) D cy ev := j_met RX8 (by decide +kernel) rfl (Nat.le_of_ble_eq_true rfl) (fun X hC _ hD hy hv => by subst hD; subst hy; subst hv; exact jX8_within hC p0 p1 p2)
set_option maxHeartbeats 4000000 in
set_option maxRecDepth 100000 in
theorem jX5_isLetter {X : jX} (hC : jC X cX5_isLetter 1 RX5 rX5_isLetter (some .boolean)) (p0 : Int32) : jJ X 1 0 0 (jQf X 0 0 (fun r => some (.int r)) (fun _ _ => [])) 0 [(0, .int p0)] [] [] (fX5_isLetter p0) := by
  unfold fX5_isLetter
  refine j_iload_n (pc := 0) hC 0 rfl dX5_isLetter_0 ?_
  refine j_bipush (pc := 1) hC kb_97 dX5_isLetter_1 ?_
  refine j_bipush (pc := 3) hC kb_122 dX5_isLetter_3 ?_
  refine j_callN (pc := 5) hC csRX5_116 [.int p0, .int (97 : Int32), .int (122 : Int32)] (mX8_within (jl X) (jD X) (jy X) (jv X) p0 (97 : Int32) (122 : Int32)) [] rfl (by decide +kernel) ⟨by decide, by decide, rfl, rfl, by decide, by decide⟩ rfl rfl (Nat.le_of_ble_eq_true rfl) dX5_isLetter_5 (jki0 (fun _ => rfl) (fun _ _ => rfl) (fun r1 => ?_))
  refine j_z (pc := 8) (fun z2 => ?_)
  exact j_zret (pc := 8) hC (fun _ => 0) z2 rfl rfl dX5_isLetter_8
set_option maxHeartbeats 4000000 in
set_option maxRecDepth 100000 in
theorem mX5_isLetter (l : Launch) (D : va_G) (cy : Nat → ClassId) (ev : jE) (p0 : Int32) : jM l yX5_isLetter cX5_isLetter 1 (some .boolean) rX5_isLetter [.int p0] [] (fun _ _ => []) (fun r => some (.int r)) (fX5_isLetter p0) D cy ev := j_met RX5 (by decide +kernel) rfl (Nat.le_of_ble_eq_true rfl) (fun X hC _ hD hy hv => by subst hD; subst hy; subst hv; exact jX5_isLetter hC p0)
set_option maxHeartbeats 4000000 in
set_option maxRecDepth 100000 in
theorem jX5_readLetters_b39 {X : jX} (hC : jC X cX5_readLetters 2 RX5 rX5_readLetters none) (u : Nat) (h_a h_a_throwsTold h_a_told h_b1 h_b1_cells : Nat) (v_a_itemsSeen v_a_at v_a_start v_a_token v_a_number v_b1_width v_b1_rows : Int32) (n_b1_cells : Nat) (f_b1_cells : Nat → Int32) (p : Int32 × Int32) : jJ X 2 0 0 (jQf X 0 0 (fun _ => none) (fun r _ => [(h_a, .inr (5, [.ref h_a_throwsTold, .ref h_a_told, .int v_a_itemsSeen, .int r.1, .int v_a_start, .int r.2, .int v_a_number])), (h_b1, .inr (7, [.int v_b1_width, .ref h_b1_cells, .int v_b1_rows])), (h_b1_cells, .inl (jy X 0, n_b1_cells, .inl f_b1_cells))])) 39 [(0, .ref h_a)] [] [(h_a, .inr (5, [.ref h_a_throwsTold, .ref h_a_told, .int v_a_itemsSeen, .int p.1, .int v_a_start, .int p.2, .int v_a_number])), (h_b1, .inr (7, [.int v_b1_width, .ref h_b1_cells, .int v_b1_rows])), (h_b1_cells, .inl (jy X 0, n_b1_cells, .inl f_b1_cells))] (fX5_readLetters_b39 u v_a_at v_a_token v_b1_width v_b1_rows n_b1_cells f_b1_cells p) := by
  unfold fX5_readLetters_b39
  refine j_aload_n (pc := 39) hC 0 rfl dX5_readLetters_39 ?_
  refine j_iconst (pc := 40) hC ki_1 dX5_readLetters_40 ?_
  refine j_put (pc := 41) hC fpRX5_38 0 rfl rfl rfl (Nat.le_of_ble_eq_true rfl) dX5_readLetters_41 (ws' := [(h_a, .inr (5, [.ref h_a_throwsTold, .ref h_a_told, .int v_a_itemsSeen, .int p.1, .int v_a_start, .int (1 : Int32), .int v_a_number])), (h_b1, .inr (7, [.int v_b1_width, .ref h_b1_cells, .int v_b1_rows])), (h_b1_cells, .inl (jy X 0, n_b1_cells, .inl f_b1_cells))]) rfl ?_
  exact j_vret (pc := 44) hC (fun _ => 0) rfl rfl dX5_readLetters_44
set_option maxHeartbeats 4000000 in
set_option maxRecDepth 100000 in
theorem jX5_readLetters_b0_step {X : jX} (hC : jC X cX5_readLetters 2 RX5 rX5_readLetters none) (u : Nat) (h_a h_a_throwsTold h_a_told h_b1 h_b1_cells : Nat) (v_a_itemsSeen v_a_at v_a_start v_a_token v_a_number v_b1_width v_b1_rows : Int32) (n_b1_cells : Nat) (f_b1_cells : Nat → Int32) (rec0 : (Int32 × Int32) → Option (Int32 × Int32)) (hrec0 : ∀ p : Int32 × Int32, jJ X 2 0 0 (jQf X 0 0 (fun _ => none) (fun r _ => [(h_a, .inr (5, [.ref h_a_throwsTold, .ref h_a_told, .int v_a_itemsSeen, .int r.1, .int v_a_start, .int r.2, .int v_a_number])), (h_b1, .inr (7, [.int v_b1_width, .ref h_b1_cells, .int v_b1_rows])), (h_b1_cells, .inl (jy X 0, n_b1_cells, .inl f_b1_cells))])) 0 [(0, .ref h_a), (1, .ref h_b1)] [] [(h_a, .inr (5, [.ref h_a_throwsTold, .ref h_a_told, .int v_a_itemsSeen, .int p.1, .int v_a_start, .int p.2, .int v_a_number])), (h_b1, .inr (7, [.int v_b1_width, .ref h_b1_cells, .int v_b1_rows])), (h_b1_cells, .inl (jy X 0, n_b1_cells, .inl f_b1_cells))] (rec0 p)) (p : Int32 × Int32) : jJ X 2 0 0 (jQf X 0 0 (fun _ => none) (fun r _ => [(h_a, .inr (5, [.ref h_a_throwsTold, .ref h_a_told, .int v_a_itemsSeen, .int r.1, .int v_a_start, .int r.2, .int v_a_number])), (h_b1, .inr (7, [.int v_b1_width, .ref h_b1_cells, .int v_b1_rows])), (h_b1_cells, .inl (jy X 0, n_b1_cells, .inl f_b1_cells))])) 0 [(0, .ref h_a), (1, .ref h_b1)] [] [(h_a, .inr (5, [.ref h_a_throwsTold, .ref h_a_told, .int v_a_itemsSeen, .int p.1, .int v_a_start, .int p.2, .int v_a_number])), (h_b1, .inr (7, [.int v_b1_width, .ref h_b1_cells, .int v_b1_rows])), (h_b1_cells, .inl (jy X 0, n_b1_cells, .inl f_b1_cells))] (fX5_readLetters_b0 u v_a_at v_a_token v_b1_width v_b1_rows n_b1_cells f_b1_cells rec0 p) := by
  unfold fX5_readLetters_b0
  refine j_aload_n (pc := 0) hC 0 rfl dX5_readLetters_0 ?_
  refine j_get (pc := 1) hC flRX5_31 0 rfl rfl dX5_readLetters_1 ?_
  refine j_aload_n (pc := 4) hC 1 rfl dX5_readLetters_4 ?_
  refine j_get (pc := 5) hC flRX5_24 1 rfl rfl dX5_readLetters_5 ?_
  refine j_icmpge (pc := 8) hC 39 (by decide) dX5_readLetters_8 ?_ ?_
  · refine j_lv (pc := 39) [0] rfl ?_
    exact jX5_readLetters_b39 hC u h_a h_a_throwsTold h_a_told h_b1 h_b1_cells v_a_itemsSeen v_a_at v_a_start v_a_token v_a_number v_b1_width v_b1_rows n_b1_cells f_b1_cells (p.1, p.2)
  · refine j_aload_n (pc := 11) hC 1 rfl dX5_readLetters_11 ?_
    refine j_aload_n (pc := 12) hC 0 rfl dX5_readLetters_12 ?_
    refine j_get (pc := 13) hC flRX5_31 0 rfl rfl dX5_readLetters_13 ?_
    refine j_iconst (pc := 16) hC ki_0 dX5_readLetters_16 ?_
    refine j_callV (pc := 17) hC csRX5_96 [.int p.1, .int (0 : Int32)] (mX7_cell (jl X) (jD X) (jy X) (jv X) h_b1 h_b1_cells p.1 (0 : Int32) v_b1_width v_b1_rows n_b1_cells f_b1_cells) [1, 2] rfl (by decide +kernel) 1 rfl ⟨_, _, rfl⟩ ⟨by decide, by decide, rfl, rfl, by decide, by decide⟩ rfl rfl (Nat.le_of_ble_eq_true rfl) dX5_readLetters_17 (jki0 (fun _ => rfl) (fun _ _ => rfl) (fun r1 => ?_))
    refine j_callS (pc := 20) hC csRX5_104 [.int r1] (mX5_isLetter (jl X) (jD X) (jy X) (jv X) r1) [] rfl (by decide +kernel) ⟨by decide, by decide, rfl, rfl, by decide, by decide⟩ rfl rfl (Nat.le_of_ble_eq_true rfl) dX5_readLetters_20 (jki0 (fun _ => rfl) (fun _ _ => rfl) (fun r2 => ?_))
    refine j_ifeq (pc := 23) hC 39 (by decide) dX5_readLetters_23 ?_ ?_
    · refine j_lv (pc := 39) [0] rfl ?_
      exact jX5_readLetters_b39 hC u h_a h_a_throwsTold h_a_told h_b1 h_b1_cells v_a_itemsSeen v_a_at v_a_start v_a_token v_a_number v_b1_width v_b1_rows n_b1_cells f_b1_cells (p.1, p.2)
    · refine j_aload_n (pc := 26) hC 0 rfl dX5_readLetters_26 ?_
      refine j_dup (pc := 27) hC rfl dX5_readLetters_27 ?_
      refine j_get (pc := 28) hC flRX5_31 0 rfl rfl dX5_readLetters_28 ?_
      refine j_iconst (pc := 31) hC ki_1 dX5_readLetters_31 ?_
      refine j_iadd (pc := 32) hC dX5_readLetters_32 ?_
      refine j_let (pc := 33) (fun x3 => ?_)
      refine j_put (pc := 33) hC fpRX5_31 0 rfl rfl rfl (Nat.le_of_ble_eq_true rfl) dX5_readLetters_33 (ws' := [(h_a, .inr (5, [.ref h_a_throwsTold, .ref h_a_told, .int v_a_itemsSeen, .int x3, .int v_a_start, .int p.2, .int v_a_number])), (h_b1, .inr (7, [.int v_b1_width, .ref h_b1_cells, .int v_b1_rows])), (h_b1_cells, .inl (jy X 0, n_b1_cells, .inl f_b1_cells))]) rfl ?_
      refine j_goto (pc := 36) hC 0 (by decide) dX5_readLetters_36 ?_
      exact hrec0 (x3, p.2)
set_option maxHeartbeats 4000000 in
set_option maxRecDepth 100000 in
theorem jX5_readLetters_b0 {X : jX} (hC : jC X cX5_readLetters 2 RX5 rX5_readLetters none) (u : Nat) (h_a h_a_throwsTold h_a_told h_b1 h_b1_cells : Nat) (v_a_itemsSeen v_a_at v_a_start v_a_token v_a_number v_b1_width v_b1_rows : Int32) (n_b1_cells : Nat) (f_b1_cells : Nat → Int32) (p : Int32 × Int32) : jJ X 2 0 0 (jQf X 0 0 (fun _ => none) (fun r _ => [(h_a, .inr (5, [.ref h_a_throwsTold, .ref h_a_told, .int v_a_itemsSeen, .int r.1, .int v_a_start, .int r.2, .int v_a_number])), (h_b1, .inr (7, [.int v_b1_width, .ref h_b1_cells, .int v_b1_rows])), (h_b1_cells, .inl (jy X 0, n_b1_cells, .inl f_b1_cells))])) 0 [(0, .ref h_a), (1, .ref h_b1)] [] [(h_a, .inr (5, [.ref h_a_throwsTold, .ref h_a_told, .int v_a_itemsSeen, .int p.1, .int v_a_start, .int p.2, .int v_a_number])), (h_b1, .inr (7, [.int v_b1_width, .ref h_b1_cells, .int v_b1_rows])), (h_b1_cells, .inl (jy X 0, n_b1_cells, .inl f_b1_cells))] (jfix (fX5_readLetters_b0 u v_a_at v_a_token v_b1_width v_b1_rows n_b1_cells f_b1_cells) u p) :=
  j_fix (fun rec0 hrec0 p => jX5_readLetters_b0_step hC u h_a h_a_throwsTold h_a_told h_b1 h_b1_cells v_a_itemsSeen v_a_at v_a_start v_a_token v_a_number v_b1_width v_b1_rows n_b1_cells f_b1_cells rec0 hrec0 p) u p
set_option maxHeartbeats 4000000 in
set_option maxRecDepth 100000 in
theorem jX5_readLetters {X : jX} (hC : jC X cX5_readLetters 2 RX5 rX5_readLetters none) (u : Nat) (h_a h_a_throwsTold h_a_told h_b1 h_b1_cells : Nat) (v_a_itemsSeen v_a_at v_a_start v_a_token v_a_number v_b1_width v_b1_rows : Int32) (n_b1_cells : Nat) (f_b1_cells : Nat → Int32) : jJ X 2 0 0 (jQf X 0 0 (fun _ => none) (fun r _ => [(h_a, .inr (5, [.ref h_a_throwsTold, .ref h_a_told, .int v_a_itemsSeen, .int r.1, .int v_a_start, .int r.2, .int v_a_number])), (h_b1, .inr (7, [.int v_b1_width, .ref h_b1_cells, .int v_b1_rows])), (h_b1_cells, .inl (jy X 0, n_b1_cells, .inl f_b1_cells))])) 0 [(0, .ref h_a), (1, .ref h_b1)] [] [(h_a, .inr (5, [.ref h_a_throwsTold, .ref h_a_told, .int v_a_itemsSeen, .int v_a_at, .int v_a_start, .int v_a_token, .int v_a_number])), (h_b1, .inr (7, [.int v_b1_width, .ref h_b1_cells, .int v_b1_rows])), (h_b1_cells, .inl (jy X 0, n_b1_cells, .inl f_b1_cells))] (fX5_readLetters u v_a_at v_a_token v_b1_width v_b1_rows n_b1_cells f_b1_cells) := by
  unfold fX5_readLetters
  exact jX5_readLetters_b0 hC u h_a h_a_throwsTold h_a_told h_b1 h_b1_cells v_a_itemsSeen v_a_at v_a_start v_a_token v_a_number v_b1_width v_b1_rows n_b1_cells f_b1_cells (v_a_at, v_a_token)
set_option maxHeartbeats 4000000 in
set_option maxRecDepth 100000 in
theorem mX5_readLetters (l : Launch) (D : va_G) (cy : Nat → ClassId) (ev : jE) (u : Nat) (h_a h_a_throwsTold h_a_told h_b1 h_b1_cells : Nat) (v_a_itemsSeen v_a_at v_a_start v_a_token v_a_number v_b1_width v_b1_rows : Int32) (n_b1_cells : Nat) (f_b1_cells : Nat → Int32) : jM l yX5_readLetters cX5_readLetters 2 none rX5_readLetters [.ref h_a, .ref h_b1] [(h_a, .inr (5, [.ref h_a_throwsTold, .ref h_a_told, .int v_a_itemsSeen, .int v_a_at, .int v_a_start, .int v_a_token, .int v_a_number])), (h_b1, .inr (7, [.int v_b1_width, .ref h_b1_cells, .int v_b1_rows])), (h_b1_cells, .inl (cy 0, n_b1_cells, .inl f_b1_cells))] (fun r _ => [(h_a, .inr (5, [.ref h_a_throwsTold, .ref h_a_told, .int v_a_itemsSeen, .int r.1, .int v_a_start, .int r.2, .int v_a_number])), (h_b1, .inr (7, [.int v_b1_width, .ref h_b1_cells, .int v_b1_rows])), (h_b1_cells, .inl (cy 0, n_b1_cells, .inl f_b1_cells))]) (fun _ => none) (fX5_readLetters u v_a_at v_a_token v_b1_width v_b1_rows n_b1_cells f_b1_cells) D cy ev := j_met RX5 (by decide +kernel) rfl (Nat.le_of_ble_eq_true rfl) (fun X hC _ hD hy hv => by subst hD; subst hy; subst hv; exact jX5_readLetters hC u h_a h_a_throwsTold h_a_told h_b1 h_b1_cells v_a_itemsSeen v_a_at v_a_start v_a_token v_a_number v_b1_width v_b1_rows n_b1_cells f_b1_cells)
set_option maxHeartbeats 4000000 in
set_option maxRecDepth 100000 in
theorem jX5_isFigure {X : jX} (hC : jC X cX5_isFigure 1 RX5 rX5_isFigure (some .boolean)) (p0 : Int32) : jJ X 1 0 0 (jQf X 0 0 (fun r => some (.int r)) (fun _ _ => [])) 0 [(0, .int p0)] [] [] (fX5_isFigure p0) := by
  unfold fX5_isFigure
  refine j_iload_n (pc := 0) hC 0 rfl dX5_isFigure_0 ?_
  refine j_bipush (pc := 1) hC kb_48 dX5_isFigure_1 ?_
  refine j_bipush (pc := 3) hC kb_57 dX5_isFigure_3 ?_
  refine j_callN (pc := 5) hC csRX5_116 [.int p0, .int (48 : Int32), .int (57 : Int32)] (mX8_within (jl X) (jD X) (jy X) (jv X) p0 (48 : Int32) (57 : Int32)) [] rfl (by decide +kernel) ⟨by decide, by decide, rfl, rfl, by decide, by decide⟩ rfl rfl (Nat.le_of_ble_eq_true rfl) dX5_isFigure_5 (jki0 (fun _ => rfl) (fun _ _ => rfl) (fun r1 => ?_))
  refine j_z (pc := 8) (fun z2 => ?_)
  exact j_zret (pc := 8) hC (fun _ => 0) z2 rfl rfl dX5_isFigure_8
set_option maxHeartbeats 4000000 in
set_option maxRecDepth 100000 in
theorem mX5_isFigure (l : Launch) (D : va_G) (cy : Nat → ClassId) (ev : jE) (p0 : Int32) : jM l yX5_isFigure cX5_isFigure 1 (some .boolean) rX5_isFigure [.int p0] [] (fun _ _ => []) (fun r => some (.int r)) (fX5_isFigure p0) D cy ev := j_met RX5 (by decide +kernel) rfl (Nat.le_of_ble_eq_true rfl) (fun X hC _ hD hy hv => by subst hD; subst hy; subst hv; exact jX5_isFigure hC p0)
set_option maxHeartbeats 4000000 in
set_option maxRecDepth 100000 in
theorem jX5_readFigures_b81 {X : jX} (hC : jC X cX5_readFigures 2 RX5 rX5_readFigures none) (u : Nat) (h_a h_a_throwsTold h_a_told h_b1 h_b1_cells : Nat) (v_a_itemsSeen v_a_at v_a_start v_a_token v_a_number v_b1_width v_b1_rows : Int32) (n_b1_cells : Nat) (f_b1_cells : Nat → Int32) (p : Int32 × Int32 × Int32) : jJ X 2 0 0 (jQf X 0 0 (fun _ => none) (fun r _ => [(h_a, .inr (5, [.ref h_a_throwsTold, .ref h_a_told, .int v_a_itemsSeen, .int r.1, .int v_a_start, .int r.2.1, .int r.2.2])), (h_b1, .inr (7, [.int v_b1_width, .ref h_b1_cells, .int v_b1_rows])), (h_b1_cells, .inl (jy X 0, n_b1_cells, .inl f_b1_cells))])) 81 [(0, .ref h_a)] [] [(h_a, .inr (5, [.ref h_a_throwsTold, .ref h_a_told, .int v_a_itemsSeen, .int p.1, .int v_a_start, .int p.2.1, .int p.2.2])), (h_b1, .inr (7, [.int v_b1_width, .ref h_b1_cells, .int v_b1_rows])), (h_b1_cells, .inl (jy X 0, n_b1_cells, .inl f_b1_cells))] (fX5_readFigures_b81 u v_a_at v_a_start v_a_token v_a_number v_b1_width v_b1_rows n_b1_cells f_b1_cells p) := by
  unfold fX5_readFigures_b81
  refine j_aload_n (pc := 81) hC 0 rfl dX5_readFigures_81 ?_
  refine j_aload_n (pc := 82) hC 0 rfl dX5_readFigures_82 ?_
  refine j_get (pc := 83) hC flRX5_31 0 rfl rfl dX5_readFigures_83 ?_
  refine j_aload_n (pc := 86) hC 0 rfl dX5_readFigures_86 ?_
  refine j_get (pc := 87) hC flRX5_53 0 rfl rfl dX5_readFigures_87 ?_
  refine j_isub (pc := 90) hC dX5_readFigures_90 ?_
  refine j_iconst (pc := 91) hC ki_3 dX5_readFigures_91 ?_
  refine j_icmpgt (pc := 92) hC 99 (by decide) dX5_readFigures_92 ?_ ?_
  · refine j_iconst (pc := 99) hC ki_4 dX5_readFigures_99 ?_
    refine j_put (pc := 100) hC fpRX5_38 0 rfl rfl rfl (Nat.le_of_ble_eq_true rfl) dX5_readFigures_100 (ws' := [(h_a, .inr (5, [.ref h_a_throwsTold, .ref h_a_told, .int v_a_itemsSeen, .int p.1, .int v_a_start, .int (4 : Int32), .int p.2.2])), (h_b1, .inr (7, [.int v_b1_width, .ref h_b1_cells, .int v_b1_rows])), (h_b1_cells, .inl (jy X 0, n_b1_cells, .inl f_b1_cells))]) rfl ?_
    exact j_vret (pc := 103) hC (fun _ => 0) rfl rfl dX5_readFigures_103
  · refine j_iconst (pc := 95) hC ki_2 dX5_readFigures_95 ?_
    refine j_goto (pc := 96) hC 100 (by decide) dX5_readFigures_96 ?_
    refine j_put (pc := 100) hC fpRX5_38 0 rfl rfl rfl (Nat.le_of_ble_eq_true rfl) dX5_readFigures_100 (ws' := [(h_a, .inr (5, [.ref h_a_throwsTold, .ref h_a_told, .int v_a_itemsSeen, .int p.1, .int v_a_start, .int (2 : Int32), .int p.2.2])), (h_b1, .inr (7, [.int v_b1_width, .ref h_b1_cells, .int v_b1_rows])), (h_b1_cells, .inl (jy X 0, n_b1_cells, .inl f_b1_cells))]) rfl ?_
    exact j_vret (pc := 103) hC (fun _ => 0) rfl rfl dX5_readFigures_103
set_option maxHeartbeats 4000000 in
set_option maxRecDepth 100000 in
theorem jX5_readFigures_b68 {X : jX} (hC : jC X cX5_readFigures 2 RX5 rX5_readFigures none) (u : Nat) (h_a h_a_throwsTold h_a_told h_b1 h_b1_cells : Nat) (v_a_itemsSeen v_a_at v_a_start v_a_token v_a_number v_b1_width v_b1_rows : Int32) (n_b1_cells : Nat) (f_b1_cells : Nat → Int32) (rec5 : (Int32 × Int32 × Int32) → Option (Int32 × Int32 × Int32)) (hrec5 : ∀ p : Int32 × Int32 × Int32, jJ X 2 0 0 (jQf X 0 0 (fun _ => none) (fun r _ => [(h_a, .inr (5, [.ref h_a_throwsTold, .ref h_a_told, .int v_a_itemsSeen, .int r.1, .int v_a_start, .int r.2.1, .int r.2.2])), (h_b1, .inr (7, [.int v_b1_width, .ref h_b1_cells, .int v_b1_rows])), (h_b1_cells, .inl (jy X 0, n_b1_cells, .inl f_b1_cells))])) 5 [(0, .ref h_a), (1, .ref h_b1)] [] [(h_a, .inr (5, [.ref h_a_throwsTold, .ref h_a_told, .int v_a_itemsSeen, .int p.1, .int v_a_start, .int p.2.1, .int p.2.2])), (h_b1, .inr (7, [.int v_b1_width, .ref h_b1_cells, .int v_b1_rows])), (h_b1_cells, .inl (jy X 0, n_b1_cells, .inl f_b1_cells))] (rec5 p)) (p : Int32 × Int32 × Int32) : jJ X 2 0 0 (jQf X 0 0 (fun _ => none) (fun r _ => [(h_a, .inr (5, [.ref h_a_throwsTold, .ref h_a_told, .int v_a_itemsSeen, .int r.1, .int v_a_start, .int r.2.1, .int r.2.2])), (h_b1, .inr (7, [.int v_b1_width, .ref h_b1_cells, .int v_b1_rows])), (h_b1_cells, .inl (jy X 0, n_b1_cells, .inl f_b1_cells))])) 68 [(0, .ref h_a), (1, .ref h_b1)] [] [(h_a, .inr (5, [.ref h_a_throwsTold, .ref h_a_told, .int v_a_itemsSeen, .int p.1, .int v_a_start, .int p.2.1, .int p.2.2])), (h_b1, .inr (7, [.int v_b1_width, .ref h_b1_cells, .int v_b1_rows])), (h_b1_cells, .inl (jy X 0, n_b1_cells, .inl f_b1_cells))] (fX5_readFigures_b68 u v_a_at v_a_start v_a_token v_a_number v_b1_width v_b1_rows n_b1_cells f_b1_cells rec5 p) := by
  unfold fX5_readFigures_b68
  refine j_aload_n (pc := 68) hC 0 rfl dX5_readFigures_68 ?_
  refine j_dup (pc := 69) hC rfl dX5_readFigures_69 ?_
  refine j_get (pc := 70) hC flRX5_31 0 rfl rfl dX5_readFigures_70 ?_
  refine j_iconst (pc := 73) hC ki_1 dX5_readFigures_73 ?_
  refine j_iadd (pc := 74) hC dX5_readFigures_74 ?_
  refine j_let (pc := 75) (fun x3 => ?_)
  refine j_put (pc := 75) hC fpRX5_31 0 rfl rfl rfl (Nat.le_of_ble_eq_true rfl) dX5_readFigures_75 (ws' := [(h_a, .inr (5, [.ref h_a_throwsTold, .ref h_a_told, .int v_a_itemsSeen, .int x3, .int v_a_start, .int p.2.1, .int p.2.2])), (h_b1, .inr (7, [.int v_b1_width, .ref h_b1_cells, .int v_b1_rows])), (h_b1_cells, .inl (jy X 0, n_b1_cells, .inl f_b1_cells))]) rfl ?_
  refine j_goto (pc := 78) hC 5 (by decide) dX5_readFigures_78 ?_
  exact hrec5 (x3, p.2.1, p.2.2)
set_option maxHeartbeats 4000000 in
set_option maxRecDepth 100000 in
theorem jX5_readFigures_b5_step {X : jX} (hC : jC X cX5_readFigures 2 RX5 rX5_readFigures none) (u : Nat) (h_a h_a_throwsTold h_a_told h_b1 h_b1_cells : Nat) (v_a_itemsSeen v_a_at v_a_start v_a_token v_a_number v_b1_width v_b1_rows : Int32) (n_b1_cells : Nat) (f_b1_cells : Nat → Int32) (rec5 : (Int32 × Int32 × Int32) → Option (Int32 × Int32 × Int32)) (hrec5 : ∀ p : Int32 × Int32 × Int32, jJ X 2 0 0 (jQf X 0 0 (fun _ => none) (fun r _ => [(h_a, .inr (5, [.ref h_a_throwsTold, .ref h_a_told, .int v_a_itemsSeen, .int r.1, .int v_a_start, .int r.2.1, .int r.2.2])), (h_b1, .inr (7, [.int v_b1_width, .ref h_b1_cells, .int v_b1_rows])), (h_b1_cells, .inl (jy X 0, n_b1_cells, .inl f_b1_cells))])) 5 [(0, .ref h_a), (1, .ref h_b1)] [] [(h_a, .inr (5, [.ref h_a_throwsTold, .ref h_a_told, .int v_a_itemsSeen, .int p.1, .int v_a_start, .int p.2.1, .int p.2.2])), (h_b1, .inr (7, [.int v_b1_width, .ref h_b1_cells, .int v_b1_rows])), (h_b1_cells, .inl (jy X 0, n_b1_cells, .inl f_b1_cells))] (rec5 p)) (p : Int32 × Int32 × Int32) : jJ X 2 0 0 (jQf X 0 0 (fun _ => none) (fun r _ => [(h_a, .inr (5, [.ref h_a_throwsTold, .ref h_a_told, .int v_a_itemsSeen, .int r.1, .int v_a_start, .int r.2.1, .int r.2.2])), (h_b1, .inr (7, [.int v_b1_width, .ref h_b1_cells, .int v_b1_rows])), (h_b1_cells, .inl (jy X 0, n_b1_cells, .inl f_b1_cells))])) 5 [(0, .ref h_a), (1, .ref h_b1)] [] [(h_a, .inr (5, [.ref h_a_throwsTold, .ref h_a_told, .int v_a_itemsSeen, .int p.1, .int v_a_start, .int p.2.1, .int p.2.2])), (h_b1, .inr (7, [.int v_b1_width, .ref h_b1_cells, .int v_b1_rows])), (h_b1_cells, .inl (jy X 0, n_b1_cells, .inl f_b1_cells))] (fX5_readFigures_b5 u v_a_at v_a_start v_a_token v_a_number v_b1_width v_b1_rows n_b1_cells f_b1_cells rec5 p) := by
  unfold fX5_readFigures_b5
  refine j_aload_n (pc := 5) hC 0 rfl dX5_readFigures_5 ?_
  refine j_get (pc := 6) hC flRX5_31 0 rfl rfl dX5_readFigures_6 ?_
  refine j_aload_n (pc := 9) hC 1 rfl dX5_readFigures_9 ?_
  refine j_get (pc := 10) hC flRX5_24 1 rfl rfl dX5_readFigures_10 ?_
  refine j_icmpge (pc := 13) hC 81 (by decide) dX5_readFigures_13 ?_ ?_
  · refine j_lv (pc := 81) [0] rfl ?_
    exact jX5_readFigures_b81 hC u h_a h_a_throwsTold h_a_told h_b1 h_b1_cells v_a_itemsSeen v_a_at v_a_start v_a_token v_a_number v_b1_width v_b1_rows n_b1_cells f_b1_cells (p.1, p.2.1, p.2.2)
  · refine j_aload_n (pc := 16) hC 1 rfl dX5_readFigures_16 ?_
    refine j_aload_n (pc := 17) hC 0 rfl dX5_readFigures_17 ?_
    refine j_get (pc := 18) hC flRX5_31 0 rfl rfl dX5_readFigures_18 ?_
    refine j_iconst (pc := 21) hC ki_0 dX5_readFigures_21 ?_
    refine j_callV (pc := 22) hC csRX5_96 [.int p.1, .int (0 : Int32)] (mX7_cell (jl X) (jD X) (jy X) (jv X) h_b1 h_b1_cells p.1 (0 : Int32) v_b1_width v_b1_rows n_b1_cells f_b1_cells) [1, 2] rfl (by decide +kernel) 1 rfl ⟨_, _, rfl⟩ ⟨by decide, by decide, rfl, rfl, by decide, by decide⟩ rfl rfl (Nat.le_of_ble_eq_true rfl) dX5_readFigures_22 (jki0 (fun _ => rfl) (fun _ _ => rfl) (fun r1 => ?_))
    refine j_callS (pc := 25) hC csRX5_110 [.int r1] (mX5_isFigure (jl X) (jD X) (jy X) (jv X) r1) [] rfl (by decide +kernel) ⟨by decide, by decide, rfl, rfl, by decide, by decide⟩ rfl rfl (Nat.le_of_ble_eq_true rfl) dX5_readFigures_25 (jki0 (fun _ => rfl) (fun _ _ => rfl) (fun r2 => ?_))
    refine j_ifeq (pc := 28) hC 81 (by decide) dX5_readFigures_28 ?_ ?_
    · refine j_lv (pc := 81) [0] rfl ?_
      exact jX5_readFigures_b81 hC u h_a h_a_throwsTold h_a_told h_b1 h_b1_cells v_a_itemsSeen v_a_at v_a_start v_a_token v_a_number v_b1_width v_b1_rows n_b1_cells f_b1_cells (p.1, p.2.1, p.2.2)
    · refine j_aload_n (pc := 31) hC 0 rfl dX5_readFigures_31 ?_
      refine j_get (pc := 32) hC flRX5_31 0 rfl rfl dX5_readFigures_32 ?_
      refine j_aload_n (pc := 35) hC 0 rfl dX5_readFigures_35 ?_
      refine j_get (pc := 36) hC flRX5_53 0 rfl rfl dX5_readFigures_36 ?_
      refine j_isub (pc := 39) hC dX5_readFigures_39 ?_
      refine j_iconst (pc := 40) hC ki_3 dX5_readFigures_40 ?_
      refine j_icmpge (pc := 41) hC 68 (by decide) dX5_readFigures_41 ?_ ?_
      · exact jX5_readFigures_b68 hC u h_a h_a_throwsTold h_a_told h_b1 h_b1_cells v_a_itemsSeen v_a_at v_a_start v_a_token v_a_number v_b1_width v_b1_rows n_b1_cells f_b1_cells rec5 hrec5 (p.1, p.2.1, p.2.2)
      · refine j_aload_n (pc := 44) hC 0 rfl dX5_readFigures_44 ?_
        refine j_bipush (pc := 45) hC kb_10 dX5_readFigures_45 ?_
        refine j_aload_n (pc := 47) hC 0 rfl dX5_readFigures_47 ?_
        refine j_get (pc := 48) hC flRX5_67 0 rfl rfl dX5_readFigures_48 ?_
        refine j_imul (pc := 51) hC dX5_readFigures_51 ?_
        refine j_aload_n (pc := 52) hC 1 rfl dX5_readFigures_52 ?_
        refine j_aload_n (pc := 53) hC 0 rfl dX5_readFigures_53 ?_
        refine j_get (pc := 54) hC flRX5_31 0 rfl rfl dX5_readFigures_54 ?_
        refine j_iconst (pc := 57) hC ki_0 dX5_readFigures_57 ?_
        refine j_callV (pc := 58) hC csRX5_96 [.int p.1, .int (0 : Int32)] (mX7_cell (jl X) (jD X) (jy X) (jv X) h_b1 h_b1_cells p.1 (0 : Int32) v_b1_width v_b1_rows n_b1_cells f_b1_cells) [1, 2] rfl (by decide +kernel) 1 rfl ⟨_, _, rfl⟩ ⟨by decide, by decide, rfl, rfl, by decide, by decide⟩ rfl rfl (Nat.le_of_ble_eq_true rfl) dX5_readFigures_58 (jki0 (fun _ => rfl) (fun _ _ => rfl) (fun r4 => ?_))
        refine j_iadd (pc := 61) hC dX5_readFigures_61 ?_
        refine j_bipush (pc := 62) hC kb_48 dX5_readFigures_62 ?_
        refine j_isub (pc := 64) hC dX5_readFigures_64 ?_
        refine j_let (pc := 65) (fun x5 => ?_)
        refine j_put (pc := 65) hC fpRX5_67 0 rfl rfl rfl (Nat.le_of_ble_eq_true rfl) dX5_readFigures_65 (ws' := [(h_a, .inr (5, [.ref h_a_throwsTold, .ref h_a_told, .int v_a_itemsSeen, .int p.1, .int v_a_start, .int p.2.1, .int x5])), (h_b1, .inr (7, [.int v_b1_width, .ref h_b1_cells, .int v_b1_rows])), (h_b1_cells, .inl (jy X 0, n_b1_cells, .inl f_b1_cells))]) rfl ?_
        exact jX5_readFigures_b68 hC u h_a h_a_throwsTold h_a_told h_b1 h_b1_cells v_a_itemsSeen v_a_at v_a_start v_a_token v_a_number v_b1_width v_b1_rows n_b1_cells f_b1_cells rec5 hrec5 (p.1, p.2.1, x5)
set_option maxHeartbeats 4000000 in
set_option maxRecDepth 100000 in
theorem jX5_readFigures_b5 {X : jX} (hC : jC X cX5_readFigures 2 RX5 rX5_readFigures none) (u : Nat) (h_a h_a_throwsTold h_a_told h_b1 h_b1_cells : Nat) (v_a_itemsSeen v_a_at v_a_start v_a_token v_a_number v_b1_width v_b1_rows : Int32) (n_b1_cells : Nat) (f_b1_cells : Nat → Int32) (p : Int32 × Int32 × Int32) : jJ X 2 0 0 (jQf X 0 0 (fun _ => none) (fun r _ => [(h_a, .inr (5, [.ref h_a_throwsTold, .ref h_a_told, .int v_a_itemsSeen, .int r.1, .int v_a_start, .int r.2.1, .int r.2.2])), (h_b1, .inr (7, [.int v_b1_width, .ref h_b1_cells, .int v_b1_rows])), (h_b1_cells, .inl (jy X 0, n_b1_cells, .inl f_b1_cells))])) 5 [(0, .ref h_a), (1, .ref h_b1)] [] [(h_a, .inr (5, [.ref h_a_throwsTold, .ref h_a_told, .int v_a_itemsSeen, .int p.1, .int v_a_start, .int p.2.1, .int p.2.2])), (h_b1, .inr (7, [.int v_b1_width, .ref h_b1_cells, .int v_b1_rows])), (h_b1_cells, .inl (jy X 0, n_b1_cells, .inl f_b1_cells))] (jfix (fX5_readFigures_b5 u v_a_at v_a_start v_a_token v_a_number v_b1_width v_b1_rows n_b1_cells f_b1_cells) u p) :=
  j_fix (fun rec5 hrec5 p => jX5_readFigures_b5_step hC u h_a h_a_throwsTold h_a_told h_b1 h_b1_cells v_a_itemsSeen v_a_at v_a_start v_a_token v_a_number v_b1_width v_b1_rows n_b1_cells f_b1_cells rec5 hrec5 p) u p
set_option maxHeartbeats 4000000 in
set_option maxRecDepth 100000 in
theorem jX5_readFigures {X : jX} (hC : jC X cX5_readFigures 2 RX5 rX5_readFigures none) (u : Nat) (h_a h_a_throwsTold h_a_told h_b1 h_b1_cells : Nat) (v_a_itemsSeen v_a_at v_a_start v_a_token v_a_number v_b1_width v_b1_rows : Int32) (n_b1_cells : Nat) (f_b1_cells : Nat → Int32) : jJ X 2 0 0 (jQf X 0 0 (fun _ => none) (fun r _ => [(h_a, .inr (5, [.ref h_a_throwsTold, .ref h_a_told, .int v_a_itemsSeen, .int r.1, .int v_a_start, .int r.2.1, .int r.2.2])), (h_b1, .inr (7, [.int v_b1_width, .ref h_b1_cells, .int v_b1_rows])), (h_b1_cells, .inl (jy X 0, n_b1_cells, .inl f_b1_cells))])) 0 [(0, .ref h_a), (1, .ref h_b1)] [] [(h_a, .inr (5, [.ref h_a_throwsTold, .ref h_a_told, .int v_a_itemsSeen, .int v_a_at, .int v_a_start, .int v_a_token, .int v_a_number])), (h_b1, .inr (7, [.int v_b1_width, .ref h_b1_cells, .int v_b1_rows])), (h_b1_cells, .inl (jy X 0, n_b1_cells, .inl f_b1_cells))] (fX5_readFigures u v_a_at v_a_start v_a_token v_a_number v_b1_width v_b1_rows n_b1_cells f_b1_cells) := by
  unfold fX5_readFigures
  refine j_aload_n (pc := 0) hC 0 rfl dX5_readFigures_0 ?_
  refine j_iconst (pc := 1) hC ki_0 dX5_readFigures_1 ?_
  refine j_put (pc := 2) hC fpRX5_67 0 rfl rfl rfl (Nat.le_of_ble_eq_true rfl) dX5_readFigures_2 (ws' := [(h_a, .inr (5, [.ref h_a_throwsTold, .ref h_a_told, .int v_a_itemsSeen, .int v_a_at, .int v_a_start, .int v_a_token, .int (0 : Int32)])), (h_b1, .inr (7, [.int v_b1_width, .ref h_b1_cells, .int v_b1_rows])), (h_b1_cells, .inl (jy X 0, n_b1_cells, .inl f_b1_cells))]) rfl ?_
  exact jX5_readFigures_b5 hC u h_a h_a_throwsTold h_a_told h_b1 h_b1_cells v_a_itemsSeen v_a_at v_a_start v_a_token v_a_number v_b1_width v_b1_rows n_b1_cells f_b1_cells (v_a_at, v_a_token, (0 : Int32))
set_option maxHeartbeats 4000000 in
set_option maxRecDepth 100000 in
theorem mX5_readFigures (l : Launch) (D : va_G) (cy : Nat → ClassId) (ev : jE) (u : Nat) (h_a h_a_throwsTold h_a_told h_b1 h_b1_cells : Nat) (v_a_itemsSeen v_a_at v_a_start v_a_token v_a_number v_b1_width v_b1_rows : Int32) (n_b1_cells : Nat) (f_b1_cells : Nat → Int32) : jM l yX5_readFigures cX5_readFigures 2 none rX5_readFigures [.ref h_a, .ref h_b1] [(h_a, .inr (5, [.ref h_a_throwsTold, .ref h_a_told, .int v_a_itemsSeen, .int v_a_at, .int v_a_start, .int v_a_token, .int v_a_number])), (h_b1, .inr (7, [.int v_b1_width, .ref h_b1_cells, .int v_b1_rows])), (h_b1_cells, .inl (cy 0, n_b1_cells, .inl f_b1_cells))] (fun r _ => [(h_a, .inr (5, [.ref h_a_throwsTold, .ref h_a_told, .int v_a_itemsSeen, .int r.1, .int v_a_start, .int r.2.1, .int r.2.2])), (h_b1, .inr (7, [.int v_b1_width, .ref h_b1_cells, .int v_b1_rows])), (h_b1_cells, .inl (cy 0, n_b1_cells, .inl f_b1_cells))]) (fun _ => none) (fX5_readFigures u v_a_at v_a_start v_a_token v_a_number v_b1_width v_b1_rows n_b1_cells f_b1_cells) D cy ev := j_met RX5 (by decide +kernel) rfl (Nat.le_of_ble_eq_true rfl) (fun X hC _ hD hy hv => by subst hD; subst hy; subst hv; exact jX5_readFigures hC u h_a h_a_throwsTold h_a_told h_b1 h_b1_cells v_a_itemsSeen v_a_at v_a_start v_a_token v_a_number v_b1_width v_b1_rows n_b1_cells f_b1_cells)
set_option maxHeartbeats 4000000 in
set_option maxRecDepth 100000 in
theorem jX5_advance_b131 {X : jX} (hC : jC X cX5_advance 2 RX5 rX5_advance none) (u : Nat) (h_a h_a_throwsTold h_a_told h_b1 h_b1_cells : Nat) (v_a_itemsSeen v_a_at v_a_start v_a_token v_a_number v_b1_width v_b1_rows : Int32) (n_b1_cells : Nat) (f_b1_cells : Nat → Int32) (p : Int32 × Int32 × Int32 × Int32 × Int32) : jJ X 2 0 0 (jQf X 0 0 (fun _ => none) (fun r _ => [(h_a, .inr (5, [.ref h_a_throwsTold, .ref h_a_told, .int v_a_itemsSeen, .int r.1, .int r.2.1, .int r.2.2.1, .int r.2.2.2])), (h_b1, .inr (7, [.int v_b1_width, .ref h_b1_cells, .int v_b1_rows])), (h_b1_cells, .inl (jy X 0, n_b1_cells, .inl f_b1_cells))])) 131 [(0, .ref h_a)] [.int p.1, .ref h_a] [(h_a, .inr (5, [.ref h_a_throwsTold, .ref h_a_told, .int v_a_itemsSeen, .int p.2.1, .int p.2.2.1, .int p.2.2.2.1, .int p.2.2.2.2])), (h_b1, .inr (7, [.int v_b1_width, .ref h_b1_cells, .int v_b1_rows])), (h_b1_cells, .inl (jy X 0, n_b1_cells, .inl f_b1_cells))] (fX5_advance_b131 u v_a_at v_a_start v_a_token v_a_number v_b1_width v_b1_rows n_b1_cells f_b1_cells p) := by
  unfold fX5_advance_b131
  refine j_put (pc := 131) hC fpRX5_38 0 rfl rfl rfl (Nat.le_of_ble_eq_true rfl) dX5_advance_131 (ws' := [(h_a, .inr (5, [.ref h_a_throwsTold, .ref h_a_told, .int v_a_itemsSeen, .int p.2.1, .int p.2.2.1, .int p.1, .int p.2.2.2.2])), (h_b1, .inr (7, [.int v_b1_width, .ref h_b1_cells, .int v_b1_rows])), (h_b1_cells, .inl (jy X 0, n_b1_cells, .inl f_b1_cells))]) rfl ?_
  refine j_aload_n (pc := 134) hC 0 rfl dX5_advance_134 ?_
  refine j_dup (pc := 135) hC rfl dX5_advance_135 ?_
  refine j_get (pc := 136) hC flRX5_31 0 rfl rfl dX5_advance_136 ?_
  refine j_iconst (pc := 139) hC ki_1 dX5_advance_139 ?_
  refine j_iadd (pc := 140) hC dX5_advance_140 ?_
  refine j_let (pc := 141) (fun x6 => ?_)
  refine j_put (pc := 141) hC fpRX5_31 0 rfl rfl rfl (Nat.le_of_ble_eq_true rfl) dX5_advance_141 (ws' := [(h_a, .inr (5, [.ref h_a_throwsTold, .ref h_a_told, .int v_a_itemsSeen, .int x6, .int p.2.2.1, .int p.1, .int p.2.2.2.2])), (h_b1, .inr (7, [.int v_b1_width, .ref h_b1_cells, .int v_b1_rows])), (h_b1_cells, .inl (jy X 0, n_b1_cells, .inl f_b1_cells))]) rfl ?_
  exact j_vret (pc := 144) hC (fun _ => 0) rfl rfl dX5_advance_144
set_option maxHeartbeats 4000000 in
set_option maxRecDepth 100000 in
theorem jX5_advance_b38 {X : jX} (hC : jC X cX5_advance 2 RX5 rX5_advance none) (u : Nat) (h_a h_a_throwsTold h_a_told h_b1 h_b1_cells : Nat) (v_a_itemsSeen v_a_at v_a_start v_a_token v_a_number v_b1_width v_b1_rows : Int32) (n_b1_cells : Nat) (f_b1_cells : Nat → Int32) (p : Int32 × Int32 × Int32 × Int32) : jJ X 2 0 0 (jQf X 0 0 (fun _ => none) (fun r _ => [(h_a, .inr (5, [.ref h_a_throwsTold, .ref h_a_told, .int v_a_itemsSeen, .int r.1, .int r.2.1, .int r.2.2.1, .int r.2.2.2])), (h_b1, .inr (7, [.int v_b1_width, .ref h_b1_cells, .int v_b1_rows])), (h_b1_cells, .inl (jy X 0, n_b1_cells, .inl f_b1_cells))])) 38 [(0, .ref h_a), (1, .ref h_b1)] [] [(h_a, .inr (5, [.ref h_a_throwsTold, .ref h_a_told, .int v_a_itemsSeen, .int p.1, .int p.2.1, .int p.2.2.1, .int p.2.2.2])), (h_b1, .inr (7, [.int v_b1_width, .ref h_b1_cells, .int v_b1_rows])), (h_b1_cells, .inl (jy X 0, n_b1_cells, .inl f_b1_cells))] (fX5_advance_b38 u v_a_at v_a_start v_a_token v_a_number v_b1_width v_b1_rows n_b1_cells f_b1_cells p) := by
  unfold fX5_advance_b38
  refine j_aload_n (pc := 38) hC 0 rfl dX5_advance_38 ?_
  refine j_aload_n (pc := 39) hC 0 rfl dX5_advance_39 ?_
  refine j_get (pc := 40) hC flRX5_31 0 rfl rfl dX5_advance_40 ?_
  refine j_put (pc := 43) hC fpRX5_53 0 rfl rfl rfl (Nat.le_of_ble_eq_true rfl) dX5_advance_43 (ws' := [(h_a, .inr (5, [.ref h_a_throwsTold, .ref h_a_told, .int v_a_itemsSeen, .int p.1, .int p.1, .int p.2.2.1, .int p.2.2.2])), (h_b1, .inr (7, [.int v_b1_width, .ref h_b1_cells, .int v_b1_rows])), (h_b1_cells, .inl (jy X 0, n_b1_cells, .inl f_b1_cells))]) rfl ?_
  refine j_aload_n (pc := 46) hC 0 rfl dX5_advance_46 ?_
  refine j_get (pc := 47) hC flRX5_31 0 rfl rfl dX5_advance_47 ?_
  refine j_aload_n (pc := 50) hC 1 rfl dX5_advance_50 ?_
  refine j_get (pc := 51) hC flRX5_24 1 rfl rfl dX5_advance_51 ?_
  refine j_icmplt (pc := 54) hC 65 (by decide) dX5_advance_54 ?_ ?_
  · refine j_aload_n (pc := 65) hC 1 rfl dX5_advance_65 ?_
    refine j_aload_n (pc := 66) hC 0 rfl dX5_advance_66 ?_
    refine j_get (pc := 67) hC flRX5_31 0 rfl rfl dX5_advance_67 ?_
    refine j_iconst (pc := 70) hC ki_0 dX5_advance_70 ?_
    refine j_callV (pc := 71) hC csRX5_96 [.int p.1, .int (0 : Int32)] (mX7_cell (jl X) (jD X) (jy X) (jv X) h_b1 h_b1_cells p.1 (0 : Int32) v_b1_width v_b1_rows n_b1_cells f_b1_cells) [1, 2] rfl (by decide +kernel) 1 rfl ⟨_, _, rfl⟩ ⟨by decide, by decide, rfl, rfl, by decide, by decide⟩ rfl rfl (Nat.le_of_ble_eq_true rfl) dX5_advance_71 (jki0 (fun _ => rfl) (fun _ _ => rfl) (fun r1 => ?_))
    refine j_callS (pc := 74) hC csRX5_104 [.int r1] (mX5_isLetter (jl X) (jD X) (jy X) (jv X) r1) [] rfl (by decide +kernel) ⟨by decide, by decide, rfl, rfl, by decide, by decide⟩ rfl rfl (Nat.le_of_ble_eq_true rfl) dX5_advance_74 (jki0 (fun _ => rfl) (fun _ _ => rfl) (fun r2 => ?_))
    refine j_ifeq (pc := 77) hC 88 (by decide) dX5_advance_77 ?_ ?_
    · refine j_aload_n (pc := 88) hC 1 rfl dX5_advance_88 ?_
      refine j_aload_n (pc := 89) hC 0 rfl dX5_advance_89 ?_
      refine j_get (pc := 90) hC flRX5_31 0 rfl rfl dX5_advance_90 ?_
      refine j_iconst (pc := 93) hC ki_0 dX5_advance_93 ?_
      refine j_callV (pc := 94) hC csRX5_96 [.int p.1, .int (0 : Int32)] (mX7_cell (jl X) (jD X) (jy X) (jv X) h_b1 h_b1_cells p.1 (0 : Int32) v_b1_width v_b1_rows n_b1_cells f_b1_cells) [1, 2] rfl (by decide +kernel) 1 rfl ⟨_, _, rfl⟩ ⟨by decide, by decide, rfl, rfl, by decide, by decide⟩ rfl rfl (Nat.le_of_ble_eq_true rfl) dX5_advance_94 (jki0 (fun _ => rfl) (fun _ _ => rfl) (fun r3 => ?_))
      refine j_callS (pc := 97) hC csRX5_110 [.int r3] (mX5_isFigure (jl X) (jD X) (jy X) (jv X) r3) [] rfl (by decide +kernel) ⟨by decide, by decide, rfl, rfl, by decide, by decide⟩ rfl rfl (Nat.le_of_ble_eq_true rfl) dX5_advance_97 (jki0 (fun _ => rfl) (fun _ _ => rfl) (fun r4 => ?_))
      refine j_ifeq (pc := 100) hC 111 (by decide) dX5_advance_100 ?_ ?_
      · refine j_aload_n (pc := 111) hC 0 rfl dX5_advance_111 ?_
        refine j_aload_n (pc := 112) hC 1 rfl dX5_advance_112 ?_
        refine j_aload_n (pc := 113) hC 0 rfl dX5_advance_113 ?_
        refine j_get (pc := 114) hC flRX5_31 0 rfl rfl dX5_advance_114 ?_
        refine j_iconst (pc := 117) hC ki_0 dX5_advance_117 ?_
        refine j_callV (pc := 118) hC csRX5_96 [.int p.1, .int (0 : Int32)] (mX7_cell (jl X) (jD X) (jy X) (jv X) h_b1 h_b1_cells p.1 (0 : Int32) v_b1_width v_b1_rows n_b1_cells f_b1_cells) [1, 2] rfl (by decide +kernel) 1 rfl ⟨_, _, rfl⟩ ⟨by decide, by decide, rfl, rfl, by decide, by decide⟩ rfl rfl (Nat.le_of_ble_eq_true rfl) dX5_advance_118 (jki0 (fun _ => rfl) (fun _ _ => rfl) (fun r5 => ?_))
        refine j_bipush (pc := 121) hC kb_59 dX5_advance_121 ?_
        refine j_icmpne (pc := 123) hC 130 (by decide) dX5_advance_123 ?_ ?_
        · refine j_iconst (pc := 130) hC ki_4 dX5_advance_130 ?_
          refine j_lv (pc := 131) [0] rfl ?_
          exact jX5_advance_b131 hC u h_a h_a_throwsTold h_a_told h_b1 h_b1_cells v_a_itemsSeen v_a_at v_a_start v_a_token v_a_number v_b1_width v_b1_rows n_b1_cells f_b1_cells ((4 : Int32), p.1, p.1, p.2.2.1, p.2.2.2)
        · refine j_iconst (pc := 126) hC ki_3 dX5_advance_126 ?_
          refine j_goto (pc := 127) hC 131 (by decide) dX5_advance_127 ?_
          refine j_lv (pc := 131) [0] rfl ?_
          exact jX5_advance_b131 hC u h_a h_a_throwsTold h_a_told h_b1 h_b1_cells v_a_itemsSeen v_a_at v_a_start v_a_token v_a_number v_b1_width v_b1_rows n_b1_cells f_b1_cells ((3 : Int32), p.1, p.1, p.2.2.1, p.2.2.2)
      · refine j_aload_n (pc := 103) hC 0 rfl dX5_advance_103 ?_
        refine j_aload_n (pc := 104) hC 1 rfl dX5_advance_104 ?_
        refine j_callV (pc := 105) hC csRX5_113 [.ref h_b1] (mX5_readFigures (jl X) (jD X) (jy X) (jv X) u h_a h_a_throwsTold h_a_told h_b1 h_b1_cells v_a_itemsSeen p.1 p.1 p.2.2.1 p.2.2.2 v_b1_width v_b1_rows n_b1_cells f_b1_cells) [0, 1, 2] rfl (by decide +kernel) 0 rfl ⟨_, _, rfl⟩ ⟨by decide, by decide, rfl, rfl, by decide, by decide⟩ rfl rfl (Nat.le_of_ble_eq_true rfl) dX5_advance_105 (jkv (fun r7 _ => (rfl : @Eq va_W _ [(h_a, .inr (5, [.ref h_a_throwsTold, .ref h_a_told, .int v_a_itemsSeen, .int r7.1, .int p.1, .int r7.2.1, .int r7.2.2])), (h_b1, .inr (7, [.int v_b1_width, .ref h_b1_cells, .int v_b1_rows])), (h_b1_cells, .inl (jy X 0, n_b1_cells, .inl f_b1_cells))])) (fun r7 => ?_))
        refine j_goto (pc := 108) hC 144 (by decide) dX5_advance_108 ?_
        exact j_vret (pc := 144) hC (fun _ => 0) rfl rfl dX5_advance_144
    · refine j_aload_n (pc := 80) hC 0 rfl dX5_advance_80 ?_
      refine j_aload_n (pc := 81) hC 1 rfl dX5_advance_81 ?_
      refine j_callV (pc := 82) hC csRX5_107 [.ref h_b1] (mX5_readLetters (jl X) (jD X) (jy X) (jv X) u h_a h_a_throwsTold h_a_told h_b1 h_b1_cells v_a_itemsSeen p.1 p.1 p.2.2.1 p.2.2.2 v_b1_width v_b1_rows n_b1_cells f_b1_cells) [0, 1, 2] rfl (by decide +kernel) 0 rfl ⟨_, _, rfl⟩ ⟨by decide, by decide, rfl, rfl, by decide, by decide⟩ rfl rfl (Nat.le_of_ble_eq_true rfl) dX5_advance_82 (jkv (fun r8 _ => (rfl : @Eq va_W _ [(h_a, .inr (5, [.ref h_a_throwsTold, .ref h_a_told, .int v_a_itemsSeen, .int r8.1, .int p.1, .int r8.2, .int p.2.2.2])), (h_b1, .inr (7, [.int v_b1_width, .ref h_b1_cells, .int v_b1_rows])), (h_b1_cells, .inl (jy X 0, n_b1_cells, .inl f_b1_cells))])) (fun r8 => ?_))
      refine j_goto (pc := 85) hC 144 (by decide) dX5_advance_85 ?_
      exact j_vret (pc := 144) hC (fun _ => 0) rfl rfl dX5_advance_144
  · refine j_aload_n (pc := 57) hC 0 rfl dX5_advance_57 ?_
    refine j_iconst (pc := 58) hC ki_0 dX5_advance_58 ?_
    refine j_put (pc := 59) hC fpRX5_38 0 rfl rfl rfl (Nat.le_of_ble_eq_true rfl) dX5_advance_59 (ws' := [(h_a, .inr (5, [.ref h_a_throwsTold, .ref h_a_told, .int v_a_itemsSeen, .int p.1, .int p.1, .int (0 : Int32), .int p.2.2.2])), (h_b1, .inr (7, [.int v_b1_width, .ref h_b1_cells, .int v_b1_rows])), (h_b1_cells, .inl (jy X 0, n_b1_cells, .inl f_b1_cells))]) rfl ?_
    refine j_goto (pc := 62) hC 144 (by decide) dX5_advance_62 ?_
    exact j_vret (pc := 144) hC (fun _ => 0) rfl rfl dX5_advance_144
set_option maxHeartbeats 4000000 in
set_option maxRecDepth 100000 in
theorem jX5_advance_b0_step {X : jX} (hC : jC X cX5_advance 2 RX5 rX5_advance none) (u : Nat) (h_a h_a_throwsTold h_a_told h_b1 h_b1_cells : Nat) (v_a_itemsSeen v_a_at v_a_start v_a_token v_a_number v_b1_width v_b1_rows : Int32) (n_b1_cells : Nat) (f_b1_cells : Nat → Int32) (rec0 : (Int32 × Int32 × Int32 × Int32) → Option (Int32 × Int32 × Int32 × Int32)) (hrec0 : ∀ p : Int32 × Int32 × Int32 × Int32, jJ X 2 0 0 (jQf X 0 0 (fun _ => none) (fun r _ => [(h_a, .inr (5, [.ref h_a_throwsTold, .ref h_a_told, .int v_a_itemsSeen, .int r.1, .int r.2.1, .int r.2.2.1, .int r.2.2.2])), (h_b1, .inr (7, [.int v_b1_width, .ref h_b1_cells, .int v_b1_rows])), (h_b1_cells, .inl (jy X 0, n_b1_cells, .inl f_b1_cells))])) 0 [(0, .ref h_a), (1, .ref h_b1)] [] [(h_a, .inr (5, [.ref h_a_throwsTold, .ref h_a_told, .int v_a_itemsSeen, .int p.1, .int p.2.1, .int p.2.2.1, .int p.2.2.2])), (h_b1, .inr (7, [.int v_b1_width, .ref h_b1_cells, .int v_b1_rows])), (h_b1_cells, .inl (jy X 0, n_b1_cells, .inl f_b1_cells))] (rec0 p)) (p : Int32 × Int32 × Int32 × Int32) : jJ X 2 0 0 (jQf X 0 0 (fun _ => none) (fun r _ => [(h_a, .inr (5, [.ref h_a_throwsTold, .ref h_a_told, .int v_a_itemsSeen, .int r.1, .int r.2.1, .int r.2.2.1, .int r.2.2.2])), (h_b1, .inr (7, [.int v_b1_width, .ref h_b1_cells, .int v_b1_rows])), (h_b1_cells, .inl (jy X 0, n_b1_cells, .inl f_b1_cells))])) 0 [(0, .ref h_a), (1, .ref h_b1)] [] [(h_a, .inr (5, [.ref h_a_throwsTold, .ref h_a_told, .int v_a_itemsSeen, .int p.1, .int p.2.1, .int p.2.2.1, .int p.2.2.2])), (h_b1, .inr (7, [.int v_b1_width, .ref h_b1_cells, .int v_b1_rows])), (h_b1_cells, .inl (jy X 0, n_b1_cells, .inl f_b1_cells))] (fX5_advance_b0 u v_a_at v_a_start v_a_token v_a_number v_b1_width v_b1_rows n_b1_cells f_b1_cells rec0 p) := by
  unfold fX5_advance_b0
  refine j_aload_n (pc := 0) hC 0 rfl dX5_advance_0 ?_
  refine j_get (pc := 1) hC flRX5_31 0 rfl rfl dX5_advance_1 ?_
  refine j_aload_n (pc := 4) hC 1 rfl dX5_advance_4 ?_
  refine j_get (pc := 5) hC flRX5_24 1 rfl rfl dX5_advance_5 ?_
  refine j_icmpge (pc := 8) hC 38 (by decide) dX5_advance_8 ?_ ?_
  · exact jX5_advance_b38 hC u h_a h_a_throwsTold h_a_told h_b1 h_b1_cells v_a_itemsSeen v_a_at v_a_start v_a_token v_a_number v_b1_width v_b1_rows n_b1_cells f_b1_cells (p.1, p.2.1, p.2.2.1, p.2.2.2)
  · refine j_aload_n (pc := 11) hC 1 rfl dX5_advance_11 ?_
    refine j_aload_n (pc := 12) hC 0 rfl dX5_advance_12 ?_
    refine j_get (pc := 13) hC flRX5_31 0 rfl rfl dX5_advance_13 ?_
    refine j_iconst (pc := 16) hC ki_0 dX5_advance_16 ?_
    refine j_callV (pc := 17) hC csRX5_96 [.int p.1, .int (0 : Int32)] (mX7_cell (jl X) (jD X) (jy X) (jv X) h_b1 h_b1_cells p.1 (0 : Int32) v_b1_width v_b1_rows n_b1_cells f_b1_cells) [1, 2] rfl (by decide +kernel) 1 rfl ⟨_, _, rfl⟩ ⟨by decide, by decide, rfl, rfl, by decide, by decide⟩ rfl rfl (Nat.le_of_ble_eq_true rfl) dX5_advance_17 (jki0 (fun _ => rfl) (fun _ _ => rfl) (fun r9 => ?_))
    refine j_bipush (pc := 20) hC kb_32 dX5_advance_20 ?_
    refine j_icmpne (pc := 22) hC 38 (by decide) dX5_advance_22 ?_ ?_
    · exact jX5_advance_b38 hC u h_a h_a_throwsTold h_a_told h_b1 h_b1_cells v_a_itemsSeen v_a_at v_a_start v_a_token v_a_number v_b1_width v_b1_rows n_b1_cells f_b1_cells (p.1, p.2.1, p.2.2.1, p.2.2.2)
    · refine j_aload_n (pc := 25) hC 0 rfl dX5_advance_25 ?_
      refine j_dup (pc := 26) hC rfl dX5_advance_26 ?_
      refine j_get (pc := 27) hC flRX5_31 0 rfl rfl dX5_advance_27 ?_
      refine j_iconst (pc := 30) hC ki_1 dX5_advance_30 ?_
      refine j_iadd (pc := 31) hC dX5_advance_31 ?_
      refine j_let (pc := 32) (fun x10 => ?_)
      refine j_put (pc := 32) hC fpRX5_31 0 rfl rfl rfl (Nat.le_of_ble_eq_true rfl) dX5_advance_32 (ws' := [(h_a, .inr (5, [.ref h_a_throwsTold, .ref h_a_told, .int v_a_itemsSeen, .int x10, .int p.2.1, .int p.2.2.1, .int p.2.2.2])), (h_b1, .inr (7, [.int v_b1_width, .ref h_b1_cells, .int v_b1_rows])), (h_b1_cells, .inl (jy X 0, n_b1_cells, .inl f_b1_cells))]) rfl ?_
      refine j_goto (pc := 35) hC 0 (by decide) dX5_advance_35 ?_
      exact hrec0 (x10, p.2.1, p.2.2.1, p.2.2.2)
set_option maxHeartbeats 4000000 in
set_option maxRecDepth 100000 in
theorem jX5_advance_b0 {X : jX} (hC : jC X cX5_advance 2 RX5 rX5_advance none) (u : Nat) (h_a h_a_throwsTold h_a_told h_b1 h_b1_cells : Nat) (v_a_itemsSeen v_a_at v_a_start v_a_token v_a_number v_b1_width v_b1_rows : Int32) (n_b1_cells : Nat) (f_b1_cells : Nat → Int32) (p : Int32 × Int32 × Int32 × Int32) : jJ X 2 0 0 (jQf X 0 0 (fun _ => none) (fun r _ => [(h_a, .inr (5, [.ref h_a_throwsTold, .ref h_a_told, .int v_a_itemsSeen, .int r.1, .int r.2.1, .int r.2.2.1, .int r.2.2.2])), (h_b1, .inr (7, [.int v_b1_width, .ref h_b1_cells, .int v_b1_rows])), (h_b1_cells, .inl (jy X 0, n_b1_cells, .inl f_b1_cells))])) 0 [(0, .ref h_a), (1, .ref h_b1)] [] [(h_a, .inr (5, [.ref h_a_throwsTold, .ref h_a_told, .int v_a_itemsSeen, .int p.1, .int p.2.1, .int p.2.2.1, .int p.2.2.2])), (h_b1, .inr (7, [.int v_b1_width, .ref h_b1_cells, .int v_b1_rows])), (h_b1_cells, .inl (jy X 0, n_b1_cells, .inl f_b1_cells))] (jfix (fX5_advance_b0 u v_a_at v_a_start v_a_token v_a_number v_b1_width v_b1_rows n_b1_cells f_b1_cells) u p) :=
  j_fix (fun rec0 hrec0 p => jX5_advance_b0_step hC u h_a h_a_throwsTold h_a_told h_b1 h_b1_cells v_a_itemsSeen v_a_at v_a_start v_a_token v_a_number v_b1_width v_b1_rows n_b1_cells f_b1_cells rec0 hrec0 p) u p
set_option maxHeartbeats 4000000 in
set_option maxRecDepth 100000 in
theorem jX5_advance {X : jX} (hC : jC X cX5_advance 2 RX5 rX5_advance none) (u : Nat) (h_a h_a_throwsTold h_a_told h_b1 h_b1_cells : Nat) (v_a_itemsSeen v_a_at v_a_start v_a_token v_a_number v_b1_width v_b1_rows : Int32) (n_b1_cells : Nat) (f_b1_cells : Nat → Int32) : jJ X 2 0 0 (jQf X 0 0 (fun _ => none) (fun r _ => [(h_a, .inr (5, [.ref h_a_throwsTold, .ref h_a_told, .int v_a_itemsSeen, .int r.1, .int r.2.1, .int r.2.2.1, .int r.2.2.2])), (h_b1, .inr (7, [.int v_b1_width, .ref h_b1_cells, .int v_b1_rows])), (h_b1_cells, .inl (jy X 0, n_b1_cells, .inl f_b1_cells))])) 0 [(0, .ref h_a), (1, .ref h_b1)] [] [(h_a, .inr (5, [.ref h_a_throwsTold, .ref h_a_told, .int v_a_itemsSeen, .int v_a_at, .int v_a_start, .int v_a_token, .int v_a_number])), (h_b1, .inr (7, [.int v_b1_width, .ref h_b1_cells, .int v_b1_rows])), (h_b1_cells, .inl (jy X 0, n_b1_cells, .inl f_b1_cells))] (fX5_advance u v_a_at v_a_start v_a_token v_a_number v_b1_width v_b1_rows n_b1_cells f_b1_cells) := by
  unfold fX5_advance
  exact jX5_advance_b0 hC u h_a h_a_throwsTold h_a_told h_b1 h_b1_cells v_a_itemsSeen v_a_at v_a_start v_a_token v_a_number v_b1_width v_b1_rows n_b1_cells f_b1_cells (v_a_at, v_a_start, v_a_token, v_a_number)
set_option maxHeartbeats 4000000 in
set_option maxRecDepth 100000 in
theorem mX5_advance (l : Launch) (D : va_G) (cy : Nat → ClassId) (ev : jE) (u : Nat) (h_a h_a_throwsTold h_a_told h_b1 h_b1_cells : Nat) (v_a_itemsSeen v_a_at v_a_start v_a_token v_a_number v_b1_width v_b1_rows : Int32) (n_b1_cells : Nat) (f_b1_cells : Nat → Int32) : jM l yX5_advance cX5_advance 2 none rX5_advance [.ref h_a, .ref h_b1] [(h_a, .inr (5, [.ref h_a_throwsTold, .ref h_a_told, .int v_a_itemsSeen, .int v_a_at, .int v_a_start, .int v_a_token, .int v_a_number])), (h_b1, .inr (7, [.int v_b1_width, .ref h_b1_cells, .int v_b1_rows])), (h_b1_cells, .inl (cy 0, n_b1_cells, .inl f_b1_cells))] (fun r _ => [(h_a, .inr (5, [.ref h_a_throwsTold, .ref h_a_told, .int v_a_itemsSeen, .int r.1, .int r.2.1, .int r.2.2.1, .int r.2.2.2])), (h_b1, .inr (7, [.int v_b1_width, .ref h_b1_cells, .int v_b1_rows])), (h_b1_cells, .inl (cy 0, n_b1_cells, .inl f_b1_cells))]) (fun _ => none) (fX5_advance u v_a_at v_a_start v_a_token v_a_number v_b1_width v_b1_rows n_b1_cells f_b1_cells) D cy ev := j_met RX5 (by decide +kernel) rfl (Nat.le_of_ble_eq_true rfl) (fun X hC _ hD hy hv => by subst hD; subst hy; subst hv; exact jX5_advance hC u h_a h_a_throwsTold h_a_told h_b1 h_b1_cells v_a_itemsSeen v_a_at v_a_start v_a_token v_a_number v_b1_width v_b1_rows n_b1_cells f_b1_cells)
set_option maxHeartbeats 4000000 in
set_option maxRecDepth 100000 in
theorem jX7_isFull {X : jX} (hC : jC X cX7_isFull 1 RX7 rX7_isFull (some .boolean)) (h_a h_a_cells : Nat) (v_a_width v_a_rows : Int32) (n_a_cells : Nat) (f_a_cells : Nat → Int32) : jJ X 1 0 0 (jQf X 0 0 (fun r => some (.int r)) (fun _ _ => [(h_a, .inr (7, [.int v_a_width, .ref h_a_cells, .int v_a_rows])), (h_a_cells, .inl (jy X 0, n_a_cells, .inl f_a_cells))])) 0 [(0, .ref h_a)] [] [(h_a, .inr (7, [.int v_a_width, .ref h_a_cells, .int v_a_rows])), (h_a_cells, .inl (jy X 0, n_a_cells, .inl f_a_cells))] (fX7_isFull v_a_width v_a_rows n_a_cells) := by
  unfold fX7_isFull
  refine j_aload_n (pc := 0) hC 0 rfl dX7_isFull_0 ?_
  refine j_get (pc := 1) hC flRX7_19 0 rfl rfl dX7_isFull_1 ?_
  refine j_iconst (pc := 4) hC ki_1 dX7_isFull_4 ?_
  refine j_iadd (pc := 5) hC dX7_isFull_5 ?_
  refine j_aload_n (pc := 6) hC 0 rfl dX7_isFull_6 ?_
  refine j_get (pc := 7) hC flRX7_9 0 rfl rfl dX7_isFull_7 ?_
  refine j_imul (pc := 10) hC dX7_isFull_10 ?_
  refine j_aload_n (pc := 11) hC 0 rfl dX7_isFull_11 ?_
  refine j_get (pc := 12) hC flRX7_15 0 rfl rfl dX7_isFull_12 ?_
  refine j_alen (pc := 15) hC 1 0 rfl rfl (v := (Int32.ofNat n_a_cells)) rfl dX7_isFull_15 ?_
  refine j_icmple (pc := 16) hC 23 (by decide) dX7_isFull_16 ?_ ?_
  · refine j_iconst (pc := 23) hC ki_0 dX7_isFull_23 ?_
    exact j_zret (pc := 24) hC (fun _ => 0) (by decide) rfl rfl dX7_isFull_24
  · refine j_iconst (pc := 19) hC ki_1 dX7_isFull_19 ?_
    refine j_goto (pc := 20) hC 24 (by decide) dX7_isFull_20 ?_
    exact j_zret (pc := 24) hC (fun _ => 0) (by decide) rfl rfl dX7_isFull_24
set_option maxHeartbeats 4000000 in
set_option maxRecDepth 100000 in
theorem mX7_isFull (l : Launch) (D : va_G) (cy : Nat → ClassId) (ev : jE) (h_a h_a_cells : Nat) (v_a_width v_a_rows : Int32) (n_a_cells : Nat) (f_a_cells : Nat → Int32) : jM l yX7_isFull cX7_isFull 1 (some .boolean) rX7_isFull [.ref h_a] [(h_a, .inr (7, [.int v_a_width, .ref h_a_cells, .int v_a_rows])), (h_a_cells, .inl (cy 0, n_a_cells, .inl f_a_cells))] (fun _ _ => [(h_a, .inr (7, [.int v_a_width, .ref h_a_cells, .int v_a_rows])), (h_a_cells, .inl (cy 0, n_a_cells, .inl f_a_cells))]) (fun r => some (.int r)) (fX7_isFull v_a_width v_a_rows n_a_cells) D cy ev := j_met RX7 (by decide +kernel) rfl (Nat.le_of_ble_eq_true rfl) (fun X hC _ hD hy hv => by subst hD; subst hy; subst hv; exact jX7_isFull hC h_a h_a_cells v_a_width v_a_rows n_a_cells f_a_cells)
set_option maxHeartbeats 4000000 in
set_option maxRecDepth 100000 in
theorem jX5_mayStand_b24 {X : jX} (hC : jC X cX5_mayStand 2 RX5 rX5_mayStand (some .boolean)) (h_a h_a_throwsTold h_a_told h_a_throwsTold_cells : Nat) (p1 v_a_itemsSeen v_a_at v_a_start v_a_token v_a_number v_a_throwsTold_rows : Int32) (f_a_throwsTold_cells : Nat → Int32) (p : Unit) : jJ X 2 0 0 (jQf X 0 0 (fun r => some (.int r)) (fun _ _ => [(h_a, .inr (5, [.ref h_a_throwsTold, .ref h_a_told, .int v_a_itemsSeen, .int v_a_at, .int v_a_start, .int v_a_token, .int v_a_number])), (h_a_throwsTold, .inr (7, [.int (13 : Int32), .ref h_a_throwsTold_cells, .int v_a_throwsTold_rows])), (h_a_throwsTold_cells, .inl (jy X 0, 156, .inl f_a_throwsTold_cells))])) 24 [] [] [(h_a, .inr (5, [.ref h_a_throwsTold, .ref h_a_told, .int v_a_itemsSeen, .int v_a_at, .int v_a_start, .int v_a_token, .int v_a_number])), (h_a_throwsTold, .inr (7, [.int (13 : Int32), .ref h_a_throwsTold_cells, .int v_a_throwsTold_rows])), (h_a_throwsTold_cells, .inl (jy X 0, 156, .inl f_a_throwsTold_cells))] (fX5_mayStand_b24 p1 v_a_itemsSeen v_a_throwsTold_rows p) := by
  unfold fX5_mayStand_b24
  refine j_iconst (pc := 24) hC ki_1 dX5_mayStand_24 ?_
  refine j_goto (pc := 25) hC 29 (by decide) dX5_mayStand_25 ?_
  exact j_zret (pc := 29) hC (fun _ => 0) (by decide) rfl rfl dX5_mayStand_29
set_option maxHeartbeats 4000000 in
set_option maxRecDepth 100000 in
theorem jX5_mayStand {X : jX} (hC : jC X cX5_mayStand 2 RX5 rX5_mayStand (some .boolean)) (h_a h_a_throwsTold h_a_told h_a_throwsTold_cells : Nat) (p1 v_a_itemsSeen v_a_at v_a_start v_a_token v_a_number v_a_throwsTold_rows : Int32) (f_a_throwsTold_cells : Nat → Int32) : jJ X 2 0 0 (jQf X 0 0 (fun r => some (.int r)) (fun _ _ => [(h_a, .inr (5, [.ref h_a_throwsTold, .ref h_a_told, .int v_a_itemsSeen, .int v_a_at, .int v_a_start, .int v_a_token, .int v_a_number])), (h_a_throwsTold, .inr (7, [.int (13 : Int32), .ref h_a_throwsTold_cells, .int v_a_throwsTold_rows])), (h_a_throwsTold_cells, .inl (jy X 0, 156, .inl f_a_throwsTold_cells))])) 0 [(0, .ref h_a), (1, .int p1)] [] [(h_a, .inr (5, [.ref h_a_throwsTold, .ref h_a_told, .int v_a_itemsSeen, .int v_a_at, .int v_a_start, .int v_a_token, .int v_a_number])), (h_a_throwsTold, .inr (7, [.int (13 : Int32), .ref h_a_throwsTold_cells, .int v_a_throwsTold_rows])), (h_a_throwsTold_cells, .inl (jy X 0, 156, .inl f_a_throwsTold_cells))] (fX5_mayStand p1 v_a_itemsSeen v_a_throwsTold_rows) := by
  unfold fX5_mayStand
  refine j_iload_n (pc := 0) hC 1 rfl dX5_mayStand_0 ?_
  refine j_iconst (pc := 1) hC ki_3 dX5_mayStand_1 ?_
  refine j_icmpne (pc := 2) hC 24 (by decide) dX5_mayStand_2 ?_ ?_
  · refine j_lv (pc := 24) [] rfl ?_
    exact jX5_mayStand_b24 hC h_a h_a_throwsTold h_a_told h_a_throwsTold_cells p1 v_a_itemsSeen v_a_at v_a_start v_a_token v_a_number v_a_throwsTold_rows f_a_throwsTold_cells ()
  · refine j_aload_n (pc := 5) hC 0 rfl dX5_mayStand_5 ?_
    refine j_get (pc := 6) hC flRX5_28 0 rfl rfl dX5_mayStand_6 ?_
    refine j_bipush (pc := 9) hC kb_7 dX5_mayStand_9 ?_
    refine j_icmpne (pc := 11) hC 28 (by decide) dX5_mayStand_11 ?_ ?_
    · refine j_iconst (pc := 28) hC ki_0 dX5_mayStand_28 ?_
      exact j_zret (pc := 29) hC (fun _ => 0) (by decide) rfl rfl dX5_mayStand_29
    · refine j_aload_n (pc := 14) hC 0 rfl dX5_mayStand_14 ?_
      refine j_get (pc := 15) hC flRX5_14 0 rfl rfl dX5_mayStand_15 ?_
      refine j_callV (pc := 18) hC csRX5_60 [] (mX7_isFull (jl X) (jD X) (jy X) (jv X) h_a_throwsTold h_a_throwsTold_cells (13 : Int32) v_a_throwsTold_rows 156 f_a_throwsTold_cells) [1, 2] rfl (by decide +kernel) 1 rfl ⟨_, _, rfl⟩ ⟨by decide, by decide, rfl, rfl, by decide, by decide⟩ rfl rfl (Nat.le_of_ble_eq_true rfl) dX5_mayStand_18 (jki0 (fun _ => rfl) (fun _ _ => rfl) (fun r1 => ?_))
      refine j_ifne (pc := 21) hC 28 (by decide) dX5_mayStand_21 ?_ ?_
      · refine j_iconst (pc := 28) hC ki_0 dX5_mayStand_28 ?_
        exact j_zret (pc := 29) hC (fun _ => 0) (by decide) rfl rfl dX5_mayStand_29
      · refine j_lv (pc := 24) [] rfl ?_
        exact jX5_mayStand_b24 hC h_a h_a_throwsTold h_a_told h_a_throwsTold_cells p1 v_a_itemsSeen v_a_at v_a_start v_a_token v_a_number v_a_throwsTold_rows f_a_throwsTold_cells ()
set_option maxHeartbeats 4000000 in
set_option maxRecDepth 100000 in
theorem mX5_mayStand (l : Launch) (D : va_G) (cy : Nat → ClassId) (ev : jE) (h_a h_a_throwsTold h_a_told h_a_throwsTold_cells : Nat) (p1 v_a_itemsSeen v_a_at v_a_start v_a_token v_a_number v_a_throwsTold_rows : Int32) (f_a_throwsTold_cells : Nat → Int32) : jM l yX5_mayStand cX5_mayStand 2 (some .boolean) rX5_mayStand [.ref h_a, .int p1] [(h_a, .inr (5, [.ref h_a_throwsTold, .ref h_a_told, .int v_a_itemsSeen, .int v_a_at, .int v_a_start, .int v_a_token, .int v_a_number])), (h_a_throwsTold, .inr (7, [.int (13 : Int32), .ref h_a_throwsTold_cells, .int v_a_throwsTold_rows])), (h_a_throwsTold_cells, .inl (cy 0, 156, .inl f_a_throwsTold_cells))] (fun _ _ => [(h_a, .inr (5, [.ref h_a_throwsTold, .ref h_a_told, .int v_a_itemsSeen, .int v_a_at, .int v_a_start, .int v_a_token, .int v_a_number])), (h_a_throwsTold, .inr (7, [.int (13 : Int32), .ref h_a_throwsTold_cells, .int v_a_throwsTold_rows])), (h_a_throwsTold_cells, .inl (cy 0, 156, .inl f_a_throwsTold_cells))]) (fun r => some (.int r)) (fX5_mayStand p1 v_a_itemsSeen v_a_throwsTold_rows) D cy ev := j_met RX5 (by decide +kernel) rfl (Nat.le_of_ble_eq_true rfl) (fun X hC _ hD hy hv => by subst hD; subst hy; subst hv; exact jX5_mayStand hC h_a h_a_throwsTold h_a_told h_a_throwsTold_cells p1 v_a_itemsSeen v_a_at v_a_start v_a_token v_a_number v_a_throwsTold_rows f_a_throwsTold_cells)
