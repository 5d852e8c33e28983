abbrev gX7_indexOf (X : jX) (h_a h_a_cells : Nat) (p1 p2 v_a_width v_a_rows : Int32) (n_a_cells : Nat) (f_a_cells : Nat → Int32) (pc : Nat) (lv : List (Nat × Value)) (st : List Value) (e : Option (Int32)) : Prop := jJ (ρ := Int32) X 5 0 0 (jQf X 0 0 (fun (r : Int32) => some (.int r)) (fun (_ : Int32) (_ : Nat → Nat) => [(h_a, .inr (7, [.int v_a_width, .ref h_a_cells, .int v_a_rows])), (h_a_cells, .inl (jy X 0, n_a_cells, .inl f_a_cells))])) pc lv st [(h_a, .inr (7, [.int v_a_width, .ref h_a_cells, .int v_a_rows])), (h_a_cells, .inl (jy X 0, n_a_cells, .inl f_a_cells))] (e)
set_option maxHeartbeats 4000000 in
set_option maxRecDepth 100000 in
theorem jX7_indexOf_b38 {X : jX} (hC : jC X cX7_indexOf 5 RX7 rX7_indexOf (some .int)) (h_a h_a_cells : Nat) (p1 p2 v_a_width v_a_rows : Int32) (n_a_cells : Nat) (f_a_cells : Nat → Int32) (p : Int32 × Int32) : gX7_indexOf X h_a h_a_cells p1 p2 v_a_width v_a_rows n_a_cells f_a_cells 38 [(0, .ref h_a), (3, .int p.1)] [.int p.2] (fX7_indexOf_b38 p1 p2 v_a_width v_a_rows n_a_cells p) := by
  unfold fX7_indexOf_b38
  refine j_istore (pc := 38) hC (lv' := [(4, .int p.2), (0, .ref h_a), (3, .int p.1)]) rfl (by decide) dX7_indexOf_38 ?_
  refine j_iload (pc := 40) hC 0 rfl dX7_indexOf_40 ?_
  refine j_ifeq (pc := 42) hC 58 (by decide) dX7_indexOf_42 ?_ ?_
  · refine j_iconst (pc := 58) hC ki_m1 dX7_indexOf_58 ?_
    exact j_iret (pc := 59) hC (fun _ => 0) rfl rfl dX7_indexOf_59
  · refine j_iload_n (pc := 45) hC 2 rfl dX7_indexOf_45 ?_
    refine j_aload_n (pc := 46) hC 1 rfl dX7_indexOf_46 ?_
    refine j_get (pc := 47) hC flRX7_15 0 rfl rfl dX7_indexOf_47 ?_
    refine j_alen (pc := 50) hC 1 0 rfl rfl (v := (Int32.ofNat n_a_cells)) rfl dX7_indexOf_50 ?_
    refine j_icmpge (pc := 51) hC 58 (by decide) dX7_indexOf_51 ?_ ?_
    · refine j_iconst (pc := 58) hC ki_m1 dX7_indexOf_58 ?_
      exact j_iret (pc := 59) hC (fun _ => 0) rfl rfl dX7_indexOf_59
    · refine j_iload_n (pc := 54) hC 2 rfl dX7_indexOf_54 ?_
      refine j_goto (pc := 55) hC 59 (by decide) dX7_indexOf_55 ?_
      exact j_iret (pc := 59) hC (fun _ => 0) rfl rfl dX7_indexOf_59
set_option maxHeartbeats 4000000 in
set_option maxRecDepth 100000 in
theorem jX7_indexOf_b37 {X : jX} (hC : jC X cX7_indexOf 5 RX7 rX7_indexOf (some .int)) (h_a h_a_cells : Nat) (p1 p2 v_a_width v_a_rows : Int32) (n_a_cells : Nat) (f_a_cells : Nat → Int32) (p : Int32) : gX7_indexOf X h_a h_a_cells p1 p2 v_a_width v_a_rows n_a_cells f_a_cells 37 [(0, .ref h_a), (3, .int p)] [] (fX7_indexOf_b37 p1 p2 v_a_width v_a_rows n_a_cells p) := by
  unfold fX7_indexOf_b37
  refine j_iconst (pc := 37) hC ki_0 dX7_indexOf_37 ?_
  exact jX7_indexOf_b38 hC h_a h_a_cells p1 p2 v_a_width v_a_rows n_a_cells f_a_cells (p, (0 : Int32))
set_option maxHeartbeats 4000000 in
set_option maxRecDepth 100000 in
theorem jX7_indexOf {X : jX} (hC : jC X cX7_indexOf 5 RX7 rX7_indexOf (some .int)) (h_a h_a_cells : Nat) (p1 p2 v_a_width v_a_rows : Int32) (n_a_cells : Nat) (f_a_cells : Nat → Int32) : gX7_indexOf X h_a h_a_cells p1 p2 v_a_width v_a_rows n_a_cells f_a_cells 0 [(0, .ref h_a), (1, .int p1), (2, .int p2)] [] (fX7_indexOf p1 p2 v_a_width v_a_rows n_a_cells) := by
  unfold fX7_indexOf
  refine j_iload_n (pc := 0) hC 1 rfl dX7_indexOf_0 ?_
  refine j_aload_n (pc := 1) hC 0 rfl dX7_indexOf_1 ?_
  refine j_get (pc := 2) hC flRX7_9 0 rfl rfl dX7_indexOf_2 ?_
  refine j_imul (pc := 5) hC dX7_indexOf_5 ?_
  refine j_iload_n (pc := 6) hC 2 rfl dX7_indexOf_6 ?_
  refine j_iadd (pc := 7) hC dX7_indexOf_7 ?_
  refine j_let (pc := 8) (fun x1 => ?_)
  refine j_istore_n (pc := 8) hC (lv' := [(3, .int x1), (0, .ref h_a), (1, .int p1), (2, .int p2)]) rfl (by decide) dX7_indexOf_8 ?_
  refine j_iload_n (pc := 9) hC 2 rfl dX7_indexOf_9 ?_
  refine j_iflt (pc := 10) hC 37 (by decide) dX7_indexOf_10 ?_ ?_
  · refine j_lv (pc := 37) [1, 0] rfl ?_
    exact jX7_indexOf_b37 hC h_a h_a_cells p1 p2 v_a_width v_a_rows n_a_cells f_a_cells x1
  · refine j_iload_n (pc := 13) hC 2 rfl dX7_indexOf_13 ?_
    refine j_aload_n (pc := 14) hC 1 rfl dX7_indexOf_14 ?_
    refine j_get (pc := 15) hC flRX7_19 0 rfl rfl dX7_indexOf_15 ?_
    refine j_icmpge (pc := 18) hC 37 (by decide) dX7_indexOf_18 ?_ ?_
    · refine j_lv (pc := 37) [1, 0] rfl ?_
      exact jX7_indexOf_b37 hC h_a h_a_cells p1 p2 v_a_width v_a_rows n_a_cells f_a_cells x1
    · refine j_iload_n (pc := 21) hC 3 rfl dX7_indexOf_21 ?_
      refine j_iflt (pc := 22) hC 37 (by decide) dX7_indexOf_22 ?_ ?_
      · refine j_lv (pc := 37) [1, 0] rfl ?_
        exact jX7_indexOf_b37 hC h_a h_a_cells p1 p2 v_a_width v_a_rows n_a_cells f_a_cells x1
      · refine j_iload_n (pc := 25) hC 3 rfl dX7_indexOf_25 ?_
        refine j_aload_n (pc := 26) hC 1 rfl dX7_indexOf_26 ?_
        refine j_get (pc := 27) hC flRX7_9 0 rfl rfl dX7_indexOf_27 ?_
        refine j_icmpge (pc := 30) hC 37 (by decide) dX7_indexOf_30 ?_ ?_
        · refine j_lv (pc := 37) [1, 0] rfl ?_
          exact jX7_indexOf_b37 hC h_a h_a_cells p1 p2 v_a_width v_a_rows n_a_cells f_a_cells x1
        · refine j_iconst (pc := 33) hC ki_1 dX7_indexOf_33 ?_
          refine j_goto (pc := 34) hC 38 (by decide) dX7_indexOf_34 ?_
          refine j_lv (pc := 38) [1, 0] rfl ?_
          exact jX7_indexOf_b38 hC h_a h_a_cells p1 p2 v_a_width v_a_rows n_a_cells f_a_cells (x1, (1 : Int32))
set_option maxHeartbeats 4000000 in
set_option maxRecDepth 100000 in
theorem mX7_indexOf (l : Launch) (D : va_G) (cy : Nat → ClassId) (ev : jE) (h_a h_a_cells : Nat) (p1 p2 v_a_width v_a_rows : Int32) (n_a_cells : Nat) (f_a_cells : Nat → Int32) : jM l yX7_indexOf cX7_indexOf 5 (some .int) rX7_indexOf [.ref h_a, .int p1, .int p2] [(h_a, .inr (7, [.int v_a_width, .ref h_a_cells, .int v_a_rows])), (h_a_cells, .inl (cy 0, n_a_cells, .inl f_a_cells))] (fun (_ : Int32) (_ : Nat → Nat) => [(h_a, .inr (7, [.int v_a_width, .ref h_a_cells, .int v_a_rows])), (h_a_cells, .inl (cy 0, n_a_cells, .inl f_a_cells))]) (fun (r : Int32) => some (.int r)) (fX7_indexOf p1 p2 v_a_width v_a_rows n_a_cells) D cy ev := j_met RX7 (by decide +kernel) rfl (Nat.le_of_ble_eq_true rfl) (fun X hC _ hD hy hv => by subst hD; subst hy; subst hv; exact jX7_indexOf hC h_a h_a_cells p1 p2 v_a_width v_a_rows n_a_cells f_a_cells)
abbrev gX7_cell (X : jX) (h_a h_a_cells : Nat) (p1 p2 v_a_width v_a_rows : Int32) (n_a_cells : Nat) (f_a_cells : Nat → Int32) (pc : Nat) (lv : List (Nat × Value)) (st : List Value) (e : Option (Int32)) : Prop := jJ (ρ := Int32) X 4 0 0 (jQf X 0 0 (fun (r : Int32) => some (.int r)) (fun (_ : Int32) (_ : Nat → Nat) => [(h_a, .inr (7, [.int v_a_width, .ref h_a_cells, .int v_a_rows])), (h_a_cells, .inl (jy X 0, n_a_cells, .inl f_a_cells))])) pc lv st [(h_a, .inr (7, [.int v_a_width, .ref h_a_cells, .int v_a_rows])), (h_a_cells, .inl (jy X 0, n_a_cells, .inl f_a_cells))] (e)
set_option maxHeartbeats 4000000 in
set_option maxRecDepth 100000 in
theorem jX7_cell {X : jX} (hC : jC X cX7_cell 4 RX7 rX7_cell (some .int)) (h_a h_a_cells : Nat) (p1 p2 v_a_width v_a_rows : Int32) (n_a_cells : Nat) (f_a_cells : Nat → Int32) : gX7_cell X h_a h_a_cells p1 p2 v_a_width v_a_rows n_a_cells f_a_cells 0 [(0, .ref h_a), (1, .int p1), (2, .int p2)] [] (fX7_cell p1 p2 v_a_width v_a_rows n_a_cells f_a_cells) := by
  unfold fX7_cell
  refine j_aload_n (pc := 0) hC 0 rfl dX7_cell_0 ?_
  refine j_iload_n (pc := 1) hC 1 rfl dX7_cell_1 ?_
  refine j_iload_n (pc := 2) hC 2 rfl dX7_cell_2 ?_
  refine j_callV (pc := 3) hC csRX7_26 [.int p1, .int p2] (mX7_indexOf (jl X) (jD X) (jy X) (jv X) h_a h_a_cells p1 p2 v_a_width v_a_rows n_a_cells f_a_cells) [0, 1] rfl (by decide +kernel) 0 rfl ⟨_, _, rfl⟩ ⟨by decide, by decide, rfl, rfl, by decide, by decide⟩ rfl rfl (Nat.le_of_ble_eq_true rfl) dX7_cell_3 (jki0 (fun _ => rfl) (fun _ _ => rfl) (fun r1 => ?_))
  refine j_istore_n (pc := 6) hC (lv' := [(3, .int r1), (0, .ref h_a), (1, .int p1), (2, .int p2)]) rfl (by decide) dX7_cell_6 ?_
  refine j_iload_n (pc := 7) hC 0 rfl dX7_cell_7 ?_
  refine j_ifge (pc := 8) hC 15 (by decide) dX7_cell_8 ?_ ?_
  · refine j_aload_n (pc := 15) hC 1 rfl dX7_cell_15 ?_
    refine j_get (pc := 16) hC flRX7_15 0 rfl rfl dX7_cell_16 ?_
    refine j_iload_n (pc := 19) hC 0 rfl dX7_cell_19 ?_
    refine j_iald (pc := 20) hC 1 rfl dX7_cell_20 ?_
    exact j_iret (pc := 21) hC (fun _ => 0) rfl rfl dX7_cell_21
  · refine j_iconst (pc := 11) hC ki_0 dX7_cell_11 ?_
    refine j_goto (pc := 12) hC 21 (by decide) dX7_cell_12 ?_
    exact j_iret (pc := 21) hC (fun _ => 0) rfl rfl dX7_cell_21
set_option maxHeartbeats 4000000 in
set_option maxRecDepth 100000 in
theorem mX7_cell (l : Launch) (D : va_G) (cy : Nat → ClassId) (ev : jE) (h_a h_a_cells : Nat) (p1 p2 v_a_width v_a_rows : Int32) (n_a_cells : Nat) (f_a_cells : Nat → Int32) : jM l yX7_cell cX7_cell 4 (some .int) rX7_cell [.ref h_a, .int p1, .int p2] [(h_a, .inr (7, [.int v_a_width, .ref h_a_cells, .int v_a_rows])), (h_a_cells, .inl (cy 0, n_a_cells, .inl f_a_cells))] (fun (_ : Int32) (_ : Nat → Nat) => [(h_a, .inr (7, [.int v_a_width, .ref h_a_cells, .int v_a_rows])), (h_a_cells, .inl (cy 0, n_a_cells, .inl f_a_cells))]) (fun (r : Int32) => some (.int r)) (fX7_cell p1 p2 v_a_width v_a_rows n_a_cells f_a_cells) D cy ev := j_met RX7 (by decide +kernel) rfl (Nat.le_of_ble_eq_true rfl) (fun X hC _ hD hy hv => by subst hD; subst hy; subst hv; exact jX7_cell hC h_a h_a_cells p1 p2 v_a_width v_a_rows n_a_cells f_a_cells)
abbrev gX0_sort (X : jX) (h_a h_a_sorted h_a_ways h_b1 h_b1_cells : Nat) (p2 v_a_cut v_a_areTwoKinds v_b1_width v_b1_rows : Int32) (f_a_sorted : Nat → Int32) (n_b1_cells : Nat) (f_b1_cells : Nat → Int32) (pc : Nat) (lv : List (Nat × Value)) (st : List Value) (w0 : Nat → Int32) (e : Option ((Nat → Int32))) : Prop := jJ (ρ := (Nat → Int32)) X 6 0 0 (jQf X 0 0 (fun (_ : (Nat → Int32)) => none) (fun (r : (Nat → Int32)) (_ : Nat → Nat) => [(h_a, .inr (0, [.ref h_a_sorted, .ref h_a_ways, .int v_a_cut, .int v_a_areTwoKinds])), (h_b1, .inr (7, [.int v_b1_width, .ref h_b1_cells, .int v_b1_rows])), (h_a_sorted, .inl (jy X 0, 12, .inl r)), (h_b1_cells, .inl (jy X 0, n_b1_cells, .inl f_b1_cells))])) pc lv st [(h_a, .inr (0, [.ref h_a_sorted, .ref h_a_ways, .int v_a_cut, .int v_a_areTwoKinds])), (h_b1, .inr (7, [.int v_b1_width, .ref h_b1_cells, .int v_b1_rows])), (h_a_sorted, .inl (jy X 0, 12, .inl w0)), (h_b1_cells, .inl (jy X 0, n_b1_cells, .inl f_b1_cells))] (e)
set_option maxHeartbeats 4000000 in
set_option maxRecDepth 100000 in
theorem jX0_sort_b59 {X : jX} (hC : jC X cX0_sort 6 RX0 rX0_sort none) (u : Nat) (h_a h_a_sorted h_a_ways h_b1 h_b1_cells : Nat) (p2 v_a_cut v_a_areTwoKinds v_b1_width v_b1_rows : Int32) (f_a_sorted : Nat → Int32) (n_b1_cells : Nat) (f_b1_cells : Nat → Int32) (rec2 : (Int32 × (Nat → Int32)) → Option ((Nat → Int32))) (hrec2 : ∀ p : Int32 × (Nat → Int32), gX0_sort X h_a h_a_sorted h_a_ways h_b1 h_b1_cells p2 v_a_cut v_a_areTwoKinds v_b1_width v_b1_rows f_a_sorted n_b1_cells f_b1_cells 2 [(0, .ref h_a), (1, .ref h_b1), (2, .int p2), (3, .int p.1)] [] p.2 (rec2 p)) (p : Int32 × Int32 × Int32 × (Nat → Int32)) : gX0_sort X h_a h_a_sorted h_a_ways h_b1 h_b1_cells p2 v_a_cut v_a_areTwoKinds v_b1_width v_b1_rows f_a_sorted n_b1_cells f_b1_cells 59 [(0, .ref h_a), (1, .ref h_b1), (2, .int p2), (3, .int p.1), (4, .int p.2.1), (5, .int p.2.2.1)] [] p.2.2.2 (fX0_sort_b59 u p2 v_b1_width v_b1_rows f_a_sorted n_b1_cells f_b1_cells rec2 p) := by
  unfold fX0_sort_b59
  refine j_aload_n (pc := 59) hC 0 rfl dX0_sort_59 ?_
  refine j_get (pc := 60) hC flRX0_9 0 rfl rfl dX0_sort_60 ?_
  refine j_iload (pc := 63) hC 5 rfl dX0_sort_63 ?_
  refine j_iload (pc := 65) hC 4 rfl dX0_sort_65 ?_
  refine j_iast (pc := 67) hC 2 rfl dX0_sort_67 (fun g2 => (rfl : @Eq va_W _ [(h_a, .inr (0, [.ref h_a_sorted, .ref h_a_ways, .int v_a_cut, .int v_a_areTwoKinds])), (h_b1, .inr (7, [.int v_b1_width, .ref h_b1_cells, .int v_b1_rows])), (h_a_sorted, .inl (jy X 0, 12, .inl g2)), (h_b1_cells, .inl (jy X 0, n_b1_cells, .inl f_b1_cells))])) (fun g2 => ?_)
  refine j_iinc (pc := 68) hC 3 rfl ki_1 (fun x3 => (rfl : @Eq (List (Nat × Value)) _ [(3, .int x3), (0, .ref h_a), (1, .ref h_b1), (2, .int p2), (4, .int p.2.1), (5, .int p.2.2.1)])) (by decide) dX0_sort_68 (fun x3 => ?_)
  refine j_goto (pc := 71) hC 2 (by decide) dX0_sort_71 ?_
  refine j_lv (pc := 2) [1, 2, 3, 0] rfl ?_
  exact hrec2 (x3, g2)
set_option maxHeartbeats 4000000 in
set_option maxRecDepth 100000 in
theorem jX0_sort_b18_step {X : jX} (hC : jC X cX0_sort 6 RX0 rX0_sort none) (u : Nat) (h_a h_a_sorted h_a_ways h_b1 h_b1_cells : Nat) (p2 v_a_cut v_a_areTwoKinds v_b1_width v_b1_rows : Int32) (f_a_sorted : Nat → Int32) (n_b1_cells : Nat) (f_b1_cells : Nat → Int32) (rec2 : (Int32 × (Nat → Int32)) → Option ((Nat → Int32))) (hrec2 : ∀ p : Int32 × (Nat → Int32), gX0_sort X h_a h_a_sorted h_a_ways h_b1 h_b1_cells p2 v_a_cut v_a_areTwoKinds v_b1_width v_b1_rows f_a_sorted n_b1_cells f_b1_cells 2 [(0, .ref h_a), (1, .ref h_b1), (2, .int p2), (3, .int p.1)] [] p.2 (rec2 p)) (rec18 : (Int32 × Int32 × Int32 × (Nat → Int32)) → Option ((Nat → Int32))) (hrec18 : ∀ p : Int32 × Int32 × Int32 × (Nat → Int32), gX0_sort X h_a h_a_sorted h_a_ways h_b1 h_b1_cells p2 v_a_cut v_a_areTwoKinds v_b1_width v_b1_rows f_a_sorted n_b1_cells f_b1_cells 18 [(0, .ref h_a), (1, .ref h_b1), (2, .int p2), (3, .int p.1), (4, .int p.2.1), (5, .int p.2.2.1)] [] p.2.2.2 (rec18 p)) (p : Int32 × Int32 × Int32 × (Nat → Int32)) : gX0_sort X h_a h_a_sorted h_a_ways h_b1 h_b1_cells p2 v_a_cut v_a_areTwoKinds v_b1_width v_b1_rows f_a_sorted n_b1_cells f_b1_cells 18 [(0, .ref h_a), (1, .ref h_b1), (2, .int p2), (3, .int p.1), (4, .int p.2.1), (5, .int p.2.2.1)] [] p.2.2.2 (fX0_sort_b18 u p2 v_b1_width v_b1_rows f_a_sorted n_b1_cells f_b1_cells rec2 rec18 p) := by
  unfold fX0_sort_b18
  refine j_iload (pc := 18) hC 5 rfl dX0_sort_18 ?_
  refine j_ifle (pc := 20) hC 59 (by decide) dX0_sort_20 ?_ ?_
  · exact jX0_sort_b59 hC u h_a h_a_sorted h_a_ways h_b1 h_b1_cells p2 v_a_cut v_a_areTwoKinds v_b1_width v_b1_rows f_a_sorted n_b1_cells f_b1_cells rec2 hrec2 (p.1, p.2.1, p.2.2.1, p.2.2.2)
  · refine j_aload_n (pc := 23) hC 0 rfl dX0_sort_23 ?_
    refine j_get (pc := 24) hC flRX0_9 0 rfl rfl dX0_sort_24 ?_
    refine j_iload (pc := 27) hC 5 rfl dX0_sort_27 ?_
    refine j_iconst (pc := 29) hC ki_1 dX0_sort_29 ?_
    refine j_isub (pc := 30) hC dX0_sort_30 ?_
    refine j_let (pc := 31) (fun x4 => ?_)
    refine j_iald (pc := 31) hC 2 rfl dX0_sort_31 ?_
    refine j_iload (pc := 32) hC 4 rfl dX0_sort_32 ?_
    refine j_icmple (pc := 34) hC 59 (by decide) dX0_sort_34 ?_ ?_
    · exact jX0_sort_b59 hC u h_a h_a_sorted h_a_ways h_b1 h_b1_cells p2 v_a_cut v_a_areTwoKinds v_b1_width v_b1_rows f_a_sorted n_b1_cells f_b1_cells rec2 hrec2 (p.1, p.2.1, p.2.2.1, p.2.2.2)
    · refine j_aload_n (pc := 37) hC 0 rfl dX0_sort_37 ?_
      refine j_get (pc := 38) hC flRX0_9 0 rfl rfl dX0_sort_38 ?_
      refine j_iload (pc := 41) hC 5 rfl dX0_sort_41 ?_
      refine j_aload_n (pc := 43) hC 0 rfl dX0_sort_43 ?_
      refine j_get (pc := 44) hC flRX0_9 0 rfl rfl dX0_sort_44 ?_
      refine j_iload (pc := 47) hC 5 rfl dX0_sort_47 ?_
      refine j_iconst (pc := 49) hC ki_1 dX0_sort_49 ?_
      refine j_isub (pc := 50) hC dX0_sort_50 ?_
      refine j_let (pc := 51) (fun x5 => ?_)
      refine j_iald (pc := 51) hC 2 rfl dX0_sort_51 ?_
      refine j_iast (pc := 52) hC 2 rfl dX0_sort_52 (fun g6 => (rfl : @Eq va_W _ [(h_a, .inr (0, [.ref h_a_sorted, .ref h_a_ways, .int v_a_cut, .int v_a_areTwoKinds])), (h_b1, .inr (7, [.int v_b1_width, .ref h_b1_cells, .int v_b1_rows])), (h_a_sorted, .inl (jy X 0, 12, .inl g6)), (h_b1_cells, .inl (jy X 0, n_b1_cells, .inl f_b1_cells))])) (fun g6 => ?_)
      refine j_iinc (pc := 53) hC 5 rfl ki_m1 (fun x7 => (rfl : @Eq (List (Nat × Value)) _ [(5, .int x7), (0, .ref h_a), (1, .ref h_b1), (2, .int p2), (3, .int p.1), (4, .int p.2.1)])) (by decide) dX0_sort_53 (fun x7 => ?_)
      refine j_goto (pc := 56) hC 18 (by decide) dX0_sort_56 ?_
      refine j_lv (pc := 18) [1, 2, 3, 4, 5, 0] rfl ?_
      exact hrec18 (p.1, p.2.1, x7, g6)
set_option maxHeartbeats 4000000 in
set_option maxRecDepth 100000 in
theorem jX0_sort_b18 {X : jX} (hC : jC X cX0_sort 6 RX0 rX0_sort none) (u : Nat) (h_a h_a_sorted h_a_ways h_b1 h_b1_cells : Nat) (p2 v_a_cut v_a_areTwoKinds v_b1_width v_b1_rows : Int32) (f_a_sorted : Nat → Int32) (n_b1_cells : Nat) (f_b1_cells : Nat → Int32) (rec2 : (Int32 × (Nat → Int32)) → Option ((Nat → Int32))) (hrec2 : ∀ p : Int32 × (Nat → Int32), gX0_sort X h_a h_a_sorted h_a_ways h_b1 h_b1_cells p2 v_a_cut v_a_areTwoKinds v_b1_width v_b1_rows f_a_sorted n_b1_cells f_b1_cells 2 [(0, .ref h_a), (1, .ref h_b1), (2, .int p2), (3, .int p.1)] [] p.2 (rec2 p)) (p : Int32 × Int32 × Int32 × (Nat → Int32)) : gX0_sort X h_a h_a_sorted h_a_ways h_b1 h_b1_cells p2 v_a_cut v_a_areTwoKinds v_b1_width v_b1_rows f_a_sorted n_b1_cells f_b1_cells 18 [(0, .ref h_a), (1, .ref h_b1), (2, .int p2), (3, .int p.1), (4, .int p.2.1), (5, .int p.2.2.1)] [] p.2.2.2 (jfix (fX0_sort_b18 u p2 v_b1_width v_b1_rows f_a_sorted n_b1_cells f_b1_cells rec2) u p) :=
  j_fix (fun rec18 hrec18 p => jX0_sort_b18_step hC u h_a h_a_sorted h_a_ways h_b1 h_b1_cells p2 v_a_cut v_a_areTwoKinds v_b1_width v_b1_rows f_a_sorted n_b1_cells f_b1_cells rec2 hrec2 rec18 hrec18 p) u p
set_option maxHeartbeats 4000000 in
set_option maxRecDepth 100000 in
theorem jX0_sort_b2_step {X : jX} (hC : jC X cX0_sort 6 RX0 rX0_sort none) (u : Nat) (h_a h_a_sorted h_a_ways h_b1 h_b1_cells : Nat) (p2 v_a_cut v_a_areTwoKinds v_b1_width v_b1_rows : Int32) (f_a_sorted : Nat → Int32) (n_b1_cells : Nat) (f_b1_cells : Nat → Int32) (rec2 : (Int32 × (Nat → Int32)) → Option ((Nat → Int32))) (hrec2 : ∀ p : Int32 × (Nat → Int32), gX0_sort X h_a h_a_sorted h_a_ways h_b1 h_b1_cells p2 v_a_cut v_a_areTwoKinds v_b1_width v_b1_rows f_a_sorted n_b1_cells f_b1_cells 2 [(0, .ref h_a), (1, .ref h_b1), (2, .int p2), (3, .int p.1)] [] p.2 (rec2 p)) (p : Int32 × (Nat → Int32)) : gX0_sort X h_a h_a_sorted h_a_ways h_b1 h_b1_cells p2 v_a_cut v_a_areTwoKinds v_b1_width v_b1_rows f_a_sorted n_b1_cells f_b1_cells 2 [(0, .ref h_a), (1, .ref h_b1), (2, .int p2), (3, .int p.1)] [] p.2 (fX0_sort_b2 u p2 v_b1_width v_b1_rows f_a_sorted n_b1_cells f_b1_cells rec2 p) := by
  unfold fX0_sort_b2
  refine j_iload_n (pc := 2) hC 3 rfl dX0_sort_2 ?_
  refine j_iload_n (pc := 3) hC 2 rfl dX0_sort_3 ?_
  refine j_icmpge (pc := 4) hC 74 (by decide) dX0_sort_4 ?_ ?_
  · exact j_vret (pc := 74) hC (fun _ => 0) rfl rfl dX0_sort_74
  · refine j_aload_n (pc := 7) hC 1 rfl dX0_sort_7 ?_
    refine j_iload_n (pc := 8) hC 3 rfl dX0_sort_8 ?_
    refine j_iconst (pc := 9) hC ki_0 dX0_sort_9 ?_
    refine j_callV (pc := 10) hC csRX0_44 [.int p.1, .int (0 : Int32)] (mX7_cell (jl X) (jD X) (jy X) (jv X) h_b1 h_b1_cells p.1 (0 : Int32) v_b1_width v_b1_rows n_b1_cells f_b1_cells) [1, 3] rfl (by decide +kernel) 1 rfl ⟨_, _, rfl⟩ ⟨by decide, by decide, rfl, rfl, by decide, by decide⟩ rfl rfl (Nat.le_of_ble_eq_true rfl) dX0_sort_10 (jki0 (fun _ => rfl) (fun _ _ => rfl) (fun r1 => ?_))
    refine j_istore (pc := 13) hC (lv' := [(4, .int r1), (0, .ref h_a), (1, .ref h_b1), (2, .int p2), (3, .int p.1)]) rfl (by decide) dX0_sort_13 ?_
    refine j_iload_n (pc := 15) hC 4 rfl dX0_sort_15 ?_
    refine j_istore (pc := 16) hC (lv' := [(5, .int p.1), (4, .int r1), (0, .ref h_a), (1, .ref h_b1), (2, .int p2), (3, .int p.1)]) rfl (by decide) dX0_sort_16 ?_
    refine j_lv (pc := 18) [2, 3, 4, 5, 1, 0] rfl ?_
    exact jX0_sort_b18 hC u h_a h_a_sorted h_a_ways h_b1 h_b1_cells p2 v_a_cut v_a_areTwoKinds v_b1_width v_b1_rows f_a_sorted n_b1_cells f_b1_cells rec2 hrec2 (p.1, r1, p.1, p.2)
set_option maxHeartbeats 4000000 in
set_option maxRecDepth 100000 in
theorem jX0_sort_b2 {X : jX} (hC : jC X cX0_sort 6 RX0 rX0_sort none) (u : Nat) (h_a h_a_sorted h_a_ways h_b1 h_b1_cells : Nat) (p2 v_a_cut v_a_areTwoKinds v_b1_width v_b1_rows : Int32) (f_a_sorted : Nat → Int32) (n_b1_cells : Nat) (f_b1_cells : Nat → Int32) (p : Int32 × (Nat → Int32)) : gX0_sort X h_a h_a_sorted h_a_ways h_b1 h_b1_cells p2 v_a_cut v_a_areTwoKinds v_b1_width v_b1_rows f_a_sorted n_b1_cells f_b1_cells 2 [(0, .ref h_a), (1, .ref h_b1), (2, .int p2), (3, .int p.1)] [] p.2 (jfix (fX0_sort_b2 u p2 v_b1_width v_b1_rows f_a_sorted n_b1_cells f_b1_cells) u p) :=
  j_fix (fun rec2 hrec2 p => jX0_sort_b2_step hC u h_a h_a_sorted h_a_ways h_b1 h_b1_cells p2 v_a_cut v_a_areTwoKinds v_b1_width v_b1_rows f_a_sorted n_b1_cells f_b1_cells rec2 hrec2 p) u p
set_option maxHeartbeats 4000000 in
set_option maxRecDepth 100000 in
theorem jX0_sort {X : jX} (hC : jC X cX0_sort 6 RX0 rX0_sort none) (u : Nat) (h_a h_a_sorted h_a_ways h_b1 h_b1_cells : Nat) (p2 v_a_cut v_a_areTwoKinds v_b1_width v_b1_rows : Int32) (f_a_sorted : Nat → Int32) (n_b1_cells : Nat) (f_b1_cells : Nat → Int32) : gX0_sort X h_a h_a_sorted h_a_ways h_b1 h_b1_cells p2 v_a_cut v_a_areTwoKinds v_b1_width v_b1_rows f_a_sorted n_b1_cells f_b1_cells 0 [(0, .ref h_a), (1, .ref h_b1), (2, .int p2)] [] f_a_sorted (fX0_sort u p2 v_b1_width v_b1_rows f_a_sorted n_b1_cells f_b1_cells) := by
  unfold fX0_sort
  refine j_iconst (pc := 0) hC ki_0 dX0_sort_0 ?_
  refine j_istore_n (pc := 1) hC (lv' := [(3, .int (0 : Int32)), (0, .ref h_a), (1, .ref h_b1), (2, .int p2)]) rfl (by decide) dX0_sort_1 ?_
  refine j_lv (pc := 2) [1, 2, 3, 0] rfl ?_
  exact jX0_sort_b2 hC u h_a h_a_sorted h_a_ways h_b1 h_b1_cells p2 v_a_cut v_a_areTwoKinds v_b1_width v_b1_rows f_a_sorted n_b1_cells f_b1_cells ((0 : Int32), f_a_sorted)
set_option maxHeartbeats 4000000 in
set_option maxRecDepth 100000 in
theorem mX0_sort (l : Launch) (D : va_G) (cy : Nat → ClassId) (ev : jE) (u : Nat) (h_a h_a_sorted h_a_ways h_b1 h_b1_cells : Nat) (p2 v_a_cut v_a_areTwoKinds v_b1_width v_b1_rows : Int32) (f_a_sorted : Nat → Int32) (n_b1_cells : Nat) (f_b1_cells : Nat → Int32) : jM l yX0_sort cX0_sort 6 none rX0_sort [.ref h_a, .ref h_b1, .int p2] [(h_a, .inr (0, [.ref h_a_sorted, .ref h_a_ways, .int v_a_cut, .int v_a_areTwoKinds])), (h_b1, .inr (7, [.int v_b1_width, .ref h_b1_cells, .int v_b1_rows])), (h_a_sorted, .inl (cy 0, 12, .inl f_a_sorted)), (h_b1_cells, .inl (cy 0, n_b1_cells, .inl f_b1_cells))] (fun (r : (Nat → Int32)) (_ : Nat → Nat) => [(h_a, .inr (0, [.ref h_a_sorted, .ref h_a_ways, .int v_a_cut, .int v_a_areTwoKinds])), (h_b1, .inr (7, [.int v_b1_width, .ref h_b1_cells, .int v_b1_rows])), (h_a_sorted, .inl (cy 0, 12, .inl r)), (h_b1_cells, .inl (cy 0, n_b1_cells, .inl f_b1_cells))]) (fun (_ : (Nat → Int32)) => none) (fX0_sort u p2 v_b1_width v_b1_rows f_a_sorted n_b1_cells f_b1_cells) D cy ev := j_met RX0 (by decide +kernel) rfl (Nat.le_of_ble_eq_true rfl) (fun X hC _ hD hy hv => by subst hD; subst hy; subst hv; exact jX0_sort hC u h_a h_a_sorted h_a_ways h_b1 h_b1_cells p2 v_a_cut v_a_areTwoKinds v_b1_width v_b1_rows f_a_sorted n_b1_cells f_b1_cells)
abbrev gX0_spread (X : jX) (h_a h_a_sorted h_a_ways : Nat) (p1 p2 v_a_cut v_a_areTwoKinds : Int32) (f_a_sorted : Nat → Int32) (pc : Nat) (lv : List (Nat × Value)) (st : List Value) (e : Option (Int32)) : Prop := jJ (ρ := Int32) X 6 0 0 (jQf X 0 0 (fun (r : Int32) => some (.int r)) (fun (_ : Int32) (_ : Nat → Nat) => [(h_a, .inr (0, [.ref h_a_sorted, .ref h_a_ways, .int v_a_cut, .int v_a_areTwoKinds])), (h_a_sorted, .inl (jy X 0, 12, .inl f_a_sorted))])) pc lv st [(h_a, .inr (0, [.ref h_a_sorted, .ref h_a_ways, .int v_a_cut, .int v_a_areTwoKinds])), (h_a_sorted, .inl (jy X 0, 12, .inl f_a_sorted))] (e)
set_option maxHeartbeats 4000000 in
set_option maxRecDepth 100000 in
theorem jX0_spread_b16_step {X : jX} (hC : jC X cX0_spread 6 RX0 rX0_spread (some .int)) (u : Nat) (h_a h_a_sorted h_a_ways : Nat) (p1 p2 v_a_cut v_a_areTwoKinds : Int32) (f_a_sorted : Nat → Int32) (rec16 : (Int32 × Int32 × Int32) → Option (Int32)) (hrec16 : ∀ p : Int32 × Int32 × Int32, gX0_spread X h_a h_a_sorted h_a_ways p1 p2 v_a_cut v_a_areTwoKinds f_a_sorted 16 [(0, .ref h_a), (2, .int p2), (3, .int p.1), (4, .int p.2.1), (5, .int p.2.2)] [] (rec16 p)) (p : Int32 × Int32 × Int32) : gX0_spread X h_a h_a_sorted h_a_ways p1 p2 v_a_cut v_a_areTwoKinds f_a_sorted 16 [(0, .ref h_a), (2, .int p2), (3, .int p.1), (4, .int p.2.1), (5, .int p.2.2)] [] (fX0_spread_b16 u p1 p2 f_a_sorted rec16 p) := by
  unfold fX0_spread_b16
  refine j_iload (pc := 16) hC 4 rfl dX0_spread_16 ?_
  refine j_iload_n (pc := 18) hC 1 rfl dX0_spread_18 ?_
  refine j_icmpge (pc := 19) hC 55 (by decide) dX0_spread_19 ?_ ?_
  · refine j_iload (pc := 55) hC 3 rfl dX0_spread_55 ?_
    exact j_iret (pc := 57) hC (fun _ => 0) rfl rfl dX0_spread_57
  · refine j_iload_n (pc := 22) hC 2 rfl dX0_spread_22 ?_
    refine j_iload_n (pc := 23) hC 1 rfl dX0_spread_23 ?_
    refine j_icmpge (pc := 24) hC 55 (by decide) dX0_spread_24 ?_ ?_
    · refine j_iload (pc := 55) hC 3 rfl dX0_spread_55 ?_
      exact j_iret (pc := 57) hC (fun _ => 0) rfl rfl dX0_spread_57
    · refine j_iload (pc := 27) hC 3 rfl dX0_spread_27 ?_
      refine j_aload_n (pc := 29) hC 0 rfl dX0_spread_29 ?_
      refine j_get (pc := 30) hC flRX0_9 0 rfl rfl dX0_spread_30 ?_
      refine j_iload (pc := 33) hC 4 rfl dX0_spread_33 ?_
      refine j_iald (pc := 35) hC 1 rfl dX0_spread_35 ?_
      refine j_aload_n (pc := 36) hC 0 rfl dX0_spread_36 ?_
      refine j_get (pc := 37) hC flRX0_9 0 rfl rfl dX0_spread_37 ?_
      refine j_iload_n (pc := 40) hC 2 rfl dX0_spread_40 ?_
      refine j_iald (pc := 41) hC 1 rfl dX0_spread_41 ?_
      refine j_isub (pc := 42) hC dX0_spread_42 ?_
      refine j_iabs (pc := 43) hC wm645 wm646 wm84 wm647 (by decide) (Nat.le_of_ble_eq_true rfl) ⟨Nat.le_of_ble_eq_true rfl, Nat.le_of_ble_eq_true rfl⟩ dX0_spread_43 ?_
      refine j_let (pc := 46) (fun x2 => ?_)
      refine j_iadd (pc := 46) hC dX0_spread_46 ?_
      refine j_let (pc := 47) (fun x3 => ?_)
      refine j_istore (pc := 47) hC (lv' := [(4, .int x3), (0, .ref h_a), (2, .int p2), (3, .int p.1), (5, .int p.2.2)]) rfl (by decide) dX0_spread_47 ?_
      refine j_iinc (pc := 49) hC 4 rfl ki_1 (fun x4 => (rfl : @Eq (List (Nat × Value)) _ [(5, .int x4), (4, .int x3), (0, .ref h_a), (2, .int p2), (3, .int p.1)])) (by decide) dX0_spread_49 (fun x4 => ?_)
      refine j_goto (pc := 52) hC 16 (by decide) dX0_spread_52 ?_
      refine j_lv (pc := 16) [2, 3, 4, 1, 0] rfl ?_
      exact hrec16 (p.1, x3, x4)
set_option maxHeartbeats 4000000 in
set_option maxRecDepth 100000 in
theorem jX0_spread_b16 {X : jX} (hC : jC X cX0_spread 6 RX0 rX0_spread (some .int)) (u : Nat) (h_a h_a_sorted h_a_ways : Nat) (p1 p2 v_a_cut v_a_areTwoKinds : Int32) (f_a_sorted : Nat → Int32) (p : Int32 × Int32 × Int32) : gX0_spread X h_a h_a_sorted h_a_ways p1 p2 v_a_cut v_a_areTwoKinds f_a_sorted 16 [(0, .ref h_a), (2, .int p2), (3, .int p.1), (4, .int p.2.1), (5, .int p.2.2)] [] (jfix (fX0_spread_b16 u p1 p2 f_a_sorted) u p) :=
  j_fix (fun rec16 hrec16 p => jX0_spread_b16_step hC u h_a h_a_sorted h_a_ways p1 p2 v_a_cut v_a_areTwoKinds f_a_sorted rec16 hrec16 p) u p
set_option maxHeartbeats 4000000 in
set_option maxRecDepth 100000 in
theorem jX0_spread {X : jX} (hC : jC X cX0_spread 6 RX0 rX0_spread (some .int)) (u : Nat) (h_a h_a_sorted h_a_ways : Nat) (p1 p2 v_a_cut v_a_areTwoKinds : Int32) (f_a_sorted : Nat → Int32) : gX0_spread X h_a h_a_sorted h_a_ways p1 p2 v_a_cut v_a_areTwoKinds f_a_sorted 0 [(0, .ref h_a), (1, .int p1), (2, .int p2)] [] (fX0_spread u p1 p2 f_a_sorted) := by
  unfold fX0_spread
  refine j_iload_n (pc := 0) hC 1 rfl dX0_spread_0 ?_
  refine j_iload_n (pc := 1) hC 2 rfl dX0_spread_1 ?_
  refine j_iload_n (pc := 2) hC 1 rfl dX0_spread_2 ?_
  refine j_isub (pc := 3) hC dX0_spread_3 ?_
  refine j_iconst (pc := 4) hC ki_1 dX0_spread_4 ?_
  refine j_isub (pc := 5) hC dX0_spread_5 ?_
  refine j_iconst (pc := 6) hC ki_2 dX0_spread_6 ?_
  refine j_idivc (pc := 7) hC (by decide) dX0_spread_7 ?_
  refine j_iadd (pc := 8) hC dX0_spread_8 ?_
  refine j_let (pc := 9) (fun x1 => ?_)
  refine j_istore_n (pc := 9) hC (lv' := [(3, .int x1), (0, .ref h_a), (1, .int p1), (2, .int p2)]) rfl (by decide) dX0_spread_9 ?_
  refine j_iconst (pc := 10) hC ki_0 dX0_spread_10 ?_
  refine j_istore (pc := 11) hC (lv' := [(4, .int (0 : Int32)), (3, .int x1), (0, .ref h_a), (1, .int p1), (2, .int p2)]) rfl (by decide) dX0_spread_11 ?_
  refine j_iload_n (pc := 13) hC 3 rfl dX0_spread_13 ?_
  refine j_istore (pc := 14) hC (lv' := [(5, .int p1), (4, .int (0 : Int32)), (3, .int x1), (0, .ref h_a), (1, .int p1), (2, .int p2)]) rfl (by decide) dX0_spread_14 ?_
  refine j_lv (pc := 16) [3, 5, 2, 1, 0] rfl ?_
  exact jX0_spread_b16 hC u h_a h_a_sorted h_a_ways p1 p2 v_a_cut v_a_areTwoKinds f_a_sorted (x1, (0 : Int32), p1)
set_option maxHeartbeats 4000000 in
set_option maxRecDepth 100000 in
theorem mX0_spread (l : Launch) (D : va_G) (cy : Nat → ClassId) (ev : jE) (u : Nat) (h_a h_a_sorted h_a_ways : Nat) (p1 p2 v_a_cut v_a_areTwoKinds : Int32) (f_a_sorted : Nat → Int32) : jM l yX0_spread cX0_spread 6 (some .int) rX0_spread [.ref h_a, .int p1, .int p2] [(h_a, .inr (0, [.ref h_a_sorted, .ref h_a_ways, .int v_a_cut, .int v_a_areTwoKinds])), (h_a_sorted, .inl (cy 0, 12, .inl f_a_sorted))] (fun (_ : Int32) (_ : Nat → Nat) => [(h_a, .inr (0, [.ref h_a_sorted, .ref h_a_ways, .int v_a_cut, .int v_a_areTwoKinds])), (h_a_sorted, .inl (cy 0, 12, .inl f_a_sorted))]) (fun (r : Int32) => some (.int r)) (fX0_spread u p1 p2 f_a_sorted) D cy ev := j_met RX0 (by decide +kernel) rfl (Nat.le_of_ble_eq_true rfl) (fun X hC _ hD hy hv => by subst hD; subst hy; subst hv; exact jX0_spread hC u h_a h_a_sorted h_a_ways p1 p2 v_a_cut v_a_areTwoKinds f_a_sorted)
abbrev gX0_divide (X : jX) (h_a h_a_sorted h_a_ways h_b1 h_b1_cells : Nat) (v_a_cut v_a_areTwoKinds v_b1_width v_b1_rows : Int32) (f_a_sorted : Nat → Int32) (n_b1_cells : Nat) (f_b1_cells : Nat → Int32) (pc : Nat) (lv : List (Nat × Value)) (st : List Value) (w0 : Int32) (w1 : Int32) (w2 : Nat → Int32) (e : Option (Int32 × Int32 × (Nat → Int32))) : Prop := jJ (ρ := Int32 × Int32 × (Nat → Int32)) X 6 0 0 (jQf X 0 0 (fun (_ : Int32 × Int32 × (Nat → Int32)) => none) (fun (r : Int32 × Int32 × (Nat → Int32)) (_ : Nat → Nat) => [(h_a, .inr (0, [.ref h_a_sorted, .ref h_a_ways, .int r.1, .int r.2.1])), (h_b1, .inr (7, [.int v_b1_width, .ref h_b1_cells, .int v_b1_rows])), (h_a_sorted, .inl (jy X 0, 12, .inl r.2.2)), (h_b1_cells, .inl (jy X 0, n_b1_cells, .inl f_b1_cells))])) pc lv st [(h_a, .inr (0, [.ref h_a_sorted, .ref h_a_ways, .int w0, .int w1])), (h_b1, .inr (7, [.int v_b1_width, .ref h_b1_cells, .int v_b1_rows])), (h_a_sorted, .inl (jy X 0, 12, .inl w2)), (h_b1_cells, .inl (jy X 0, n_b1_cells, .inl f_b1_cells))] (e)
set_option maxHeartbeats 4000000 in
set_option maxRecDepth 100000 in
theorem jX0_divide_b101 {X : jX} (hC : jC X cX0_divide 6 RX0 rX0_divide none) (u : Nat) (h_a h_a_sorted h_a_ways h_b1 h_b1_cells : Nat) (v_a_cut v_a_areTwoKinds v_b1_width v_b1_rows : Int32) (f_a_sorted : Nat → Int32) (n_b1_cells : Nat) (f_b1_cells : Nat → Int32) (rec29 : (Int32 × Int32 × Int32 × Int32 × Int32 × (Nat → Int32)) → Option (Int32 × Int32 × (Nat → Int32))) (hrec29 : ∀ p : Int32 × Int32 × Int32 × Int32 × Int32 × (Nat → Int32), gX0_divide X h_a h_a_sorted h_a_ways h_b1 h_b1_cells v_a_cut v_a_areTwoKinds v_b1_width v_b1_rows f_a_sorted n_b1_cells f_b1_cells 29 [(0, .ref h_a), (2, .int p.1), (3, .int p.2.1), (4, .int p.2.2.1)] [] p.2.2.2.1 p.2.2.2.2.1 p.2.2.2.2.2 (rec29 p)) (p : Int32 × Int32 × Int32 × Int32 × Int32 × (Nat → Int32)) : gX0_divide X h_a h_a_sorted h_a_ways h_b1 h_b1_cells v_a_cut v_a_areTwoKinds v_b1_width v_b1_rows f_a_sorted n_b1_cells f_b1_cells 101 [(0, .ref h_a), (2, .int p.1), (3, .int p.2.1), (4, .int p.2.2.1)] [] p.2.2.2.1 p.2.2.2.2.1 p.2.2.2.2.2 (fX0_divide_b101 u v_a_cut v_a_areTwoKinds v_b1_width v_b1_rows f_a_sorted n_b1_cells f_b1_cells rec29 p) := by
  unfold fX0_divide_b101
  refine j_iinc (pc := 101) hC 3 rfl ki_1 (fun x5 => (rfl : @Eq (List (Nat × Value)) _ [(4, .int x5), (0, .ref h_a), (2, .int p.1), (3, .int p.2.1)])) (by decide) dX0_divide_101 (fun x5 => ?_)
  refine j_goto (pc := 104) hC 29 (by decide) dX0_divide_104 ?_
  refine j_lv (pc := 29) [1, 2, 3, 0] rfl ?_
  exact hrec29 (p.1, p.2.1, x5, p.2.2.2.1, p.2.2.2.2.1, p.2.2.2.2.2)
set_option maxHeartbeats 4000000 in
set_option maxRecDepth 100000 in
theorem jX0_divide_b85 {X : jX} (hC : jC X cX0_divide 6 RX0 rX0_divide none) (u : Nat) (h_a h_a_sorted h_a_ways h_b1 h_b1_cells : Nat) (v_a_cut v_a_areTwoKinds v_b1_width v_b1_rows : Int32) (f_a_sorted : Nat → Int32) (n_b1_cells : Nat) (f_b1_cells : Nat → Int32) (rec29 : (Int32 × Int32 × Int32 × Int32 × Int32 × (Nat → Int32)) → Option (Int32 × Int32 × (Nat → Int32))) (hrec29 : ∀ p : Int32 × Int32 × Int32 × Int32 × Int32 × (Nat → Int32), gX0_divide X h_a h_a_sorted h_a_ways h_b1 h_b1_cells v_a_cut v_a_areTwoKinds v_b1_width v_b1_rows f_a_sorted n_b1_cells f_b1_cells 29 [(0, .ref h_a), (2, .int p.1), (3, .int p.2.1), (4, .int p.2.2.1)] [] p.2.2.2.1 p.2.2.2.2.1 p.2.2.2.2.2 (rec29 p)) (p : Int32 × Int32 × Int32 × Int32 × Int32 × (Nat → Int32)) : gX0_divide X h_a h_a_sorted h_a_ways h_b1 h_b1_cells v_a_cut v_a_areTwoKinds v_b1_width v_b1_rows f_a_sorted n_b1_cells f_b1_cells 85 [(0, .ref h_a), (2, .int p.1), (4, .int p.2.1), (5, .int p.2.2.1)] [] p.2.2.2.1 p.2.2.2.2.1 p.2.2.2.2.2 (fX0_divide_b85 u v_a_cut v_a_areTwoKinds v_b1_width v_b1_rows f_a_sorted n_b1_cells f_b1_cells rec29 p) := by
  unfold fX0_divide_b85
  refine j_iload (pc := 85) hC 3 rfl dX0_divide_85 ?_
  refine j_istore_n (pc := 87) hC (lv' := [(3, .int p.2.2.1), (0, .ref h_a), (2, .int p.1), (4, .int p.2.1), (5, .int p.2.2.1)]) rfl (by decide) dX0_divide_87 ?_
  refine j_aload_n (pc := 88) hC 1 rfl dX0_divide_88 ?_
  refine j_aload_n (pc := 89) hC 1 rfl dX0_divide_89 ?_
  refine j_get (pc := 90) hC flRX0_9 0 rfl rfl dX0_divide_90 ?_
  refine j_iload (pc := 93) hC 3 rfl dX0_divide_93 ?_
  refine j_iconst (pc := 95) hC ki_1 dX0_divide_95 ?_
  refine j_isub (pc := 96) hC dX0_divide_96 ?_
  refine j_let (pc := 97) (fun x9 => ?_)
  refine j_iald (pc := 97) hC 2 rfl dX0_divide_97 ?_
  refine j_let (pc := 98) (fun x10 => ?_)
  refine j_put (pc := 98) hC fpRX0_34 0 rfl rfl rfl (Nat.le_of_ble_eq_true rfl) dX0_divide_98 (ws' := [(h_a, .inr (0, [.ref h_a_sorted, .ref h_a_ways, .int x10, .int p.2.2.2.2.1])), (h_b1, .inr (7, [.int v_b1_width, .ref h_b1_cells, .int v_b1_rows])), (h_a_sorted, .inl (jy X 0, 12, .inl p.2.2.2.2.2)), (h_b1_cells, .inl (jy X 0, n_b1_cells, .inl f_b1_cells))]) rfl ?_
  refine j_lv (pc := 101) [1, 2, 0, 3] rfl ?_
  exact jX0_divide_b101 hC u h_a h_a_sorted h_a_ways h_b1 h_b1_cells v_a_cut v_a_areTwoKinds v_b1_width v_b1_rows f_a_sorted n_b1_cells f_b1_cells rec29 hrec29 (p.1, p.2.2.1, p.2.1, x10, p.2.2.2.2.1, p.2.2.2.2.2)
set_option maxHeartbeats 4000000 in
set_option maxRecDepth 100000 in
theorem jX0_divide_b29_step {X : jX} (hC : jC X cX0_divide 6 RX0 rX0_divide none) (u : Nat) (h_a h_a_sorted h_a_ways h_b1 h_b1_cells : Nat) (v_a_cut v_a_areTwoKinds v_b1_width v_b1_rows : Int32) (f_a_sorted : Nat → Int32) (n_b1_cells : Nat) (f_b1_cells : Nat → Int32) (rec29 : (Int32 × Int32 × Int32 × Int32 × Int32 × (Nat → Int32)) → Option (Int32 × Int32 × (Nat → Int32))) (hrec29 : ∀ p : Int32 × Int32 × Int32 × Int32 × Int32 × (Nat → Int32), gX0_divide X h_a h_a_sorted h_a_ways h_b1 h_b1_cells v_a_cut v_a_areTwoKinds v_b1_width v_b1_rows f_a_sorted n_b1_cells f_b1_cells 29 [(0, .ref h_a), (2, .int p.1), (3, .int p.2.1), (4, .int p.2.2.1)] [] p.2.2.2.1 p.2.2.2.2.1 p.2.2.2.2.2 (rec29 p)) (p : Int32 × Int32 × Int32 × Int32 × Int32 × (Nat → Int32)) : gX0_divide X h_a h_a_sorted h_a_ways h_b1 h_b1_cells v_a_cut v_a_areTwoKinds v_b1_width v_b1_rows f_a_sorted n_b1_cells f_b1_cells 29 [(0, .ref h_a), (2, .int p.1), (3, .int p.2.1), (4, .int p.2.2.1)] [] p.2.2.2.1 p.2.2.2.2.1 p.2.2.2.2.2 (fX0_divide_b29 u v_a_cut v_a_areTwoKinds v_b1_width v_b1_rows f_a_sorted n_b1_cells f_b1_cells rec29 p) := by
  unfold fX0_divide_b29
  refine j_iload (pc := 29) hC 3 rfl dX0_divide_29 ?_
  refine j_iload_n (pc := 31) hC 1 rfl dX0_divide_31 ?_
  refine j_icmpge (pc := 32) hC 107 (by decide) dX0_divide_32 ?_ ?_
  · refine j_aload_n (pc := 107) hC 0 rfl dX0_divide_107 ?_
    refine j_aload_n (pc := 108) hC 0 rfl dX0_divide_108 ?_
    refine j_get (pc := 109) hC flRX0_34 0 rfl rfl dX0_divide_109 ?_
    refine j_iconst (pc := 112) hC ki_m1 dX0_divide_112 ?_
    refine j_icmpeq (pc := 113) hC 132 (by decide) dX0_divide_113 ?_ ?_
    · refine j_iconst (pc := 132) hC ki_0 dX0_divide_132 ?_
      refine j_put (pc := 133) hC fpRX0_40 0 rfl rfl rfl (Nat.le_of_ble_eq_true rfl) dX0_divide_133 (ws' := [(h_a, .inr (0, [.ref h_a_sorted, .ref h_a_ways, .int p.2.2.2.1, .int (0 : Int32)])), (h_b1, .inr (7, [.int v_b1_width, .ref h_b1_cells, .int v_b1_rows])), (h_a_sorted, .inl (jy X 0, 12, .inl p.2.2.2.2.2)), (h_b1_cells, .inl (jy X 0, n_b1_cells, .inl f_b1_cells))]) rfl ?_
      exact j_vret (pc := 136) hC (fun _ => 0) rfl rfl dX0_divide_136
    · refine j_iconst (pc := 116) hC ki_2 dX0_divide_116 ?_
      refine j_iload_n (pc := 117) hC 2 rfl dX0_divide_117 ?_
      refine j_imul (pc := 118) hC dX0_divide_118 ?_
      refine j_aload_n (pc := 119) hC 0 rfl dX0_divide_119 ?_
      refine j_iconst (pc := 120) hC ki_0 dX0_divide_120 ?_
      refine j_iload_n (pc := 121) hC 1 rfl dX0_divide_121 ?_
      refine j_callV (pc := 122) hC csRX0_37 [.int (0 : Int32), .int p.1] (mX0_spread (jl X) (jD X) (jy X) (jv X) u h_a h_a_sorted h_a_ways (0 : Int32) p.1 p.2.2.2.1 p.2.2.2.2.1 p.2.2.2.2.2) [0, 2] rfl (by decide +kernel) 0 rfl ⟨_, _, rfl⟩ ⟨by decide, by decide, rfl, rfl, by decide, by decide⟩ rfl rfl (Nat.le_of_ble_eq_true rfl) dX0_divide_122 (jki0 (fun _ => rfl) (fun _ _ => rfl) (fun r3 => ?_))
      refine j_icmpge (pc := 125) hC 132 (by decide) dX0_divide_125 ?_ ?_
      · refine j_iconst (pc := 132) hC ki_0 dX0_divide_132 ?_
        refine j_put (pc := 133) hC fpRX0_40 0 rfl rfl rfl (Nat.le_of_ble_eq_true rfl) dX0_divide_133 (ws' := [(h_a, .inr (0, [.ref h_a_sorted, .ref h_a_ways, .int p.2.2.2.1, .int (0 : Int32)])), (h_b1, .inr (7, [.int v_b1_width, .ref h_b1_cells, .int v_b1_rows])), (h_a_sorted, .inl (jy X 0, 12, .inl p.2.2.2.2.2)), (h_b1_cells, .inl (jy X 0, n_b1_cells, .inl f_b1_cells))]) rfl ?_
        exact j_vret (pc := 136) hC (fun _ => 0) rfl rfl dX0_divide_136
      · refine j_iconst (pc := 128) hC ki_1 dX0_divide_128 ?_
        refine j_goto (pc := 129) hC 133 (by decide) dX0_divide_129 ?_
        refine j_put (pc := 133) hC fpRX0_40 0 rfl rfl rfl (Nat.le_of_ble_eq_true rfl) dX0_divide_133 (ws' := [(h_a, .inr (0, [.ref h_a_sorted, .ref h_a_ways, .int p.2.2.2.1, .int (1 : Int32)])), (h_b1, .inr (7, [.int v_b1_width, .ref h_b1_cells, .int v_b1_rows])), (h_a_sorted, .inl (jy X 0, 12, .inl p.2.2.2.2.2)), (h_b1_cells, .inl (jy X 0, n_b1_cells, .inl f_b1_cells))]) rfl ?_
        exact j_vret (pc := 136) hC (fun _ => 0) rfl rfl dX0_divide_136
  · refine j_aload_n (pc := 35) hC 0 rfl dX0_divide_35 ?_
    refine j_get (pc := 36) hC flRX0_9 0 rfl rfl dX0_divide_36 ?_
    refine j_iload (pc := 39) hC 3 rfl dX0_divide_39 ?_
    refine j_iconst (pc := 41) hC ki_1 dX0_divide_41 ?_
    refine j_isub (pc := 42) hC dX0_divide_42 ?_
    refine j_let (pc := 43) (fun x4 => ?_)
    refine j_iald (pc := 43) hC 2 rfl dX0_divide_43 ?_
    refine j_aload_n (pc := 44) hC 0 rfl dX0_divide_44 ?_
    refine j_get (pc := 45) hC flRX0_9 0 rfl rfl dX0_divide_45 ?_
    refine j_iload (pc := 48) hC 3 rfl dX0_divide_48 ?_
    refine j_iald (pc := 50) hC 2 rfl dX0_divide_50 ?_
    refine j_icmpeq (pc := 51) hC 101 (by decide) dX0_divide_51 ?_ ?_
    · exact jX0_divide_b101 hC u h_a h_a_sorted h_a_ways h_b1 h_b1_cells v_a_cut v_a_areTwoKinds v_b1_width v_b1_rows f_a_sorted n_b1_cells f_b1_cells rec29 hrec29 (p.1, p.2.1, p.2.2.1, p.2.2.2.1, p.2.2.2.2.1, p.2.2.2.2.2)
    · refine j_aload_n (pc := 54) hC 0 rfl dX0_divide_54 ?_
      refine j_iconst (pc := 55) hC ki_0 dX0_divide_55 ?_
      refine j_iload (pc := 56) hC 3 rfl dX0_divide_56 ?_
      refine j_callV (pc := 58) hC csRX0_37 [.int (0 : Int32), .int p.2.2.1] (mX0_spread (jl X) (jD X) (jy X) (jv X) u h_a h_a_sorted h_a_ways (0 : Int32) p.2.2.1 p.2.2.2.1 p.2.2.2.2.1 p.2.2.2.2.2) [0, 2] rfl (by decide +kernel) 0 rfl ⟨_, _, rfl⟩ ⟨by decide, by decide, rfl, rfl, by decide, by decide⟩ rfl rfl (Nat.le_of_ble_eq_true rfl) dX0_divide_58 (jki0 (fun _ => rfl) (fun _ _ => rfl) (fun r6 => ?_))
      refine j_aload_n (pc := 61) hC 0 rfl dX0_divide_61 ?_
      refine j_iload (pc := 62) hC 3 rfl dX0_divide_62 ?_
      refine j_iload_n (pc := 64) hC 1 rfl dX0_divide_64 ?_
      refine j_callV (pc := 65) hC csRX0_37 [.int p.2.2.1, .int p.1] (mX0_spread (jl X) (jD X) (jy X) (jv X) u h_a h_a_sorted h_a_ways p.2.2.1 p.1 p.2.2.2.1 p.2.2.2.2.1 p.2.2.2.2.2) [0, 2] rfl (by decide +kernel) 0 rfl ⟨_, _, rfl⟩ ⟨by decide, by decide, rfl, rfl, by decide, by decide⟩ rfl rfl (Nat.le_of_ble_eq_true rfl) dX0_divide_65 (jki0 (fun _ => rfl) (fun _ _ => rfl) (fun r7 => ?_))
      refine j_iadd (pc := 68) hC dX0_divide_68 ?_
      refine j_let (pc := 69) (fun x8 => ?_)
      refine j_istore (pc := 69) hC (lv' := [(5, .int x8), (0, .ref h_a), (2, .int p.1), (3, .int p.2.1), (4, .int p.2.2.1)]) rfl (by decide) dX0_divide_69 ?_
      refine j_aload_n (pc := 71) hC 1 rfl dX0_divide_71 ?_
      refine j_get (pc := 72) hC flRX0_34 0 rfl rfl dX0_divide_72 ?_
      refine j_iconst (pc := 75) hC ki_m1 dX0_divide_75 ?_
      refine j_icmpeq (pc := 76) hC 85 (by decide) dX0_divide_76 ?_ ?_
      · refine j_lv (pc := 85) [1, 2, 4, 0] rfl ?_
        exact jX0_divide_b85 hC u h_a h_a_sorted h_a_ways h_b1 h_b1_cells v_a_cut v_a_areTwoKinds v_b1_width v_b1_rows f_a_sorted n_b1_cells f_b1_cells rec29 hrec29 (p.1, p.2.2.1, x8, p.2.2.2.1, p.2.2.2.2.1, p.2.2.2.2.2)
      · refine j_iload (pc := 79) hC 0 rfl dX0_divide_79 ?_
        refine j_iload_n (pc := 81) hC 3 rfl dX0_divide_81 ?_
        refine j_icmpge (pc := 82) hC 101 (by decide) dX0_divide_82 ?_ ?_
        · refine j_lv (pc := 101) [1, 2, 3, 4] rfl ?_
          exact jX0_divide_b101 hC u h_a h_a_sorted h_a_ways h_b1 h_b1_cells v_a_cut v_a_areTwoKinds v_b1_width v_b1_rows f_a_sorted n_b1_cells f_b1_cells rec29 hrec29 (p.1, p.2.1, p.2.2.1, p.2.2.2.1, p.2.2.2.2.1, p.2.2.2.2.2)
        · refine j_lv (pc := 85) [1, 2, 4, 0] rfl ?_
          exact jX0_divide_b85 hC u h_a h_a_sorted h_a_ways h_b1 h_b1_cells v_a_cut v_a_areTwoKinds v_b1_width v_b1_rows f_a_sorted n_b1_cells f_b1_cells rec29 hrec29 (p.1, p.2.2.1, x8, p.2.2.2.1, p.2.2.2.2.1, p.2.2.2.2.2)
set_option maxHeartbeats 4000000 in
set_option maxRecDepth 100000 in
theorem jX0_divide_b29 {X : jX} (hC : jC X cX0_divide 6 RX0 rX0_divide none) (u : Nat) (h_a h_a_sorted h_a_ways h_b1 h_b1_cells : Nat) (v_a_cut v_a_areTwoKinds v_b1_width v_b1_rows : Int32) (f_a_sorted : Nat → Int32) (n_b1_cells : Nat) (f_b1_cells : Nat → Int32) (p : Int32 × Int32 × Int32 × Int32 × Int32 × (Nat → Int32)) : gX0_divide X h_a h_a_sorted h_a_ways h_b1 h_b1_cells v_a_cut v_a_areTwoKinds v_b1_width v_b1_rows f_a_sorted n_b1_cells f_b1_cells 29 [(0, .ref h_a), (2, .int p.1), (3, .int p.2.1), (4, .int p.2.2.1)] [] p.2.2.2.1 p.2.2.2.2.1 p.2.2.2.2.2 (jfix (fX0_divide_b29 u v_a_cut v_a_areTwoKinds v_b1_width v_b1_rows f_a_sorted n_b1_cells f_b1_cells) u p) :=
  j_fix (fun rec29 hrec29 p => jX0_divide_b29_step hC u h_a h_a_sorted h_a_ways h_b1 h_b1_cells v_a_cut v_a_areTwoKinds v_b1_width v_b1_rows f_a_sorted n_b1_cells f_b1_cells rec29 hrec29 p) u p
set_option maxHeartbeats 4000000 in
set_option maxRecDepth 100000 in
theorem jX0_divide {X : jX} (hC : jC X cX0_divide 6 RX0 rX0_divide none) (u : Nat) (h_a h_a_sorted h_a_ways h_b1 h_b1_cells : Nat) (v_a_cut v_a_areTwoKinds v_b1_width v_b1_rows : Int32) (f_a_sorted : Nat → Int32) (n_b1_cells : Nat) (f_b1_cells : Nat → Int32) : gX0_divide X h_a h_a_sorted h_a_ways h_b1 h_b1_cells v_a_cut v_a_areTwoKinds v_b1_width v_b1_rows f_a_sorted n_b1_cells f_b1_cells 0 [(0, .ref h_a), (1, .ref h_b1)] [] v_a_cut v_a_areTwoKinds f_a_sorted (fX0_divide u v_a_cut v_a_areTwoKinds v_b1_width v_b1_rows f_a_sorted n_b1_cells f_b1_cells) := by
  unfold fX0_divide
  refine j_aload_n (pc := 0) hC 1 rfl dX0_divide_0 ?_
  refine j_get (pc := 1) hC flRX0_18 1 rfl rfl dX0_divide_1 ?_
  refine j_aload_n (pc := 4) hC 0 rfl dX0_divide_4 ?_
  refine j_get (pc := 5) hC flRX0_9 0 rfl rfl dX0_divide_5 ?_
  refine j_alen (pc := 8) hC 2 0 rfl rfl (v := (12 : Int32)) rfl dX0_divide_8 ?_
  refine j_imin (pc := 9) hC wm635 wm471 wm84 wm472 (by decide) (Nat.le_of_ble_eq_true rfl) ⟨Nat.le_of_ble_eq_true rfl, Nat.le_of_ble_eq_true rfl⟩ dX0_divide_9 ?_
  refine j_let (pc := 12) (fun x1 => ?_)
  refine j_istore_n (pc := 12) hC (lv' := [(2, .int x1), (0, .ref h_a), (1, .ref h_b1)]) rfl (by decide) dX0_divide_12 ?_
  refine j_aload_n (pc := 13) hC 1 rfl dX0_divide_13 ?_
  refine j_aload_n (pc := 14) hC 2 rfl dX0_divide_14 ?_
  refine j_iload_n (pc := 15) hC 0 rfl dX0_divide_15 ?_
  refine j_callV (pc := 16) hC csRX0_30 [.ref h_b1, .int x1] (mX0_sort (jl X) (jD X) (jy X) (jv X) u h_a h_a_sorted h_a_ways h_b1 h_b1_cells x1 v_a_cut v_a_areTwoKinds v_b1_width v_b1_rows f_a_sorted n_b1_cells f_b1_cells) [0, 1, 2, 3] rfl (by decide +kernel) 0 rfl ⟨_, _, rfl⟩ ⟨by decide, by decide, rfl, rfl, by decide, by decide⟩ rfl rfl (Nat.le_of_ble_eq_true rfl) dX0_divide_16 (jkv (fun r2 _ => (rfl : @Eq va_W _ [(h_a, .inr (0, [.ref h_a_sorted, .ref h_a_ways, .int v_a_cut, .int v_a_areTwoKinds])), (h_b1, .inr (7, [.int v_b1_width, .ref h_b1_cells, .int v_b1_rows])), (h_a_sorted, .inl (jy X 0, 12, .inl r2)), (h_b1_cells, .inl (jy X 0, n_b1_cells, .inl f_b1_cells))])) (fun r2 => ?_))
  refine j_iconst (pc := 19) hC ki_0 dX0_divide_19 ?_
  refine j_istore_n (pc := 20) hC (lv' := [(3, .int (0 : Int32)), (2, .int x1), (0, .ref h_a), (1, .ref h_b1)]) rfl (by decide) dX0_divide_20 ?_
  refine j_aload_n (pc := 21) hC 2 rfl dX0_divide_21 ?_
  refine j_iconst (pc := 22) hC ki_m1 dX0_divide_22 ?_
  refine j_put (pc := 23) hC fpRX0_34 0 rfl rfl rfl (Nat.le_of_ble_eq_true rfl) dX0_divide_23 (ws' := [(h_a, .inr (0, [.ref h_a_sorted, .ref h_a_ways, .int (-1 : Int32), .int v_a_areTwoKinds])), (h_b1, .inr (7, [.int v_b1_width, .ref h_b1_cells, .int v_b1_rows])), (h_a_sorted, .inl (jy X 0, 12, .inl r2)), (h_b1_cells, .inl (jy X 0, n_b1_cells, .inl f_b1_cells))]) rfl ?_
  refine j_iconst (pc := 26) hC ki_1 dX0_divide_26 ?_
  refine j_istore (pc := 27) hC (lv' := [(4, .int (1 : Int32)), (3, .int (0 : Int32)), (2, .int x1), (0, .ref h_a), (1, .ref h_b1)]) rfl (by decide) dX0_divide_27 ?_
  refine j_lv (pc := 29) [3, 2, 1, 0] rfl ?_
  exact jX0_divide_b29 hC u h_a h_a_sorted h_a_ways h_b1 h_b1_cells v_a_cut v_a_areTwoKinds v_b1_width v_b1_rows f_a_sorted n_b1_cells f_b1_cells (x1, (0 : Int32), (1 : Int32), (-1 : Int32), v_a_areTwoKinds, r2)
set_option maxHeartbeats 4000000 in
set_option maxRecDepth 100000 in
theorem mX0_divide (l : Launch) (D : va_G) (cy : Nat → ClassId) (ev : jE) (u : Nat) (h_a h_a_sorted h_a_ways h_b1 h_b1_cells : Nat) (v_a_cut v_a_areTwoKinds v_b1_width v_b1_rows : Int32) (f_a_sorted : Nat → Int32) (n_b1_cells : Nat) (f_b1_cells : Nat → Int32) : jM l yX0_divide cX0_divide 6 none rX0_divide [.ref h_a, .ref h_b1] [(h_a, .inr (0, [.ref h_a_sorted, .ref h_a_ways, .int v_a_cut, .int v_a_areTwoKinds])), (h_b1, .inr (7, [.int v_b1_width, .ref h_b1_cells, .int v_b1_rows])), (h_a_sorted, .inl (cy 0, 12, .inl f_a_sorted)), (h_b1_cells, .inl (cy 0, n_b1_cells, .inl f_b1_cells))] (fun (r : Int32 × Int32 × (Nat → Int32)) (_ : Nat → Nat) => [(h_a, .inr (0, [.ref h_a_sorted, .ref h_a_ways, .int r.1, .int r.2.1])), (h_b1, .inr (7, [.int v_b1_width, .ref h_b1_cells, .int v_b1_rows])), (h_a_sorted, .inl (cy 0, 12, .inl r.2.2)), (h_b1_cells, .inl (cy 0, n_b1_cells, .inl f_b1_cells))]) (fun (_ : Int32 × Int32 × (Nat → Int32)) => none) (fX0_divide u v_a_cut v_a_areTwoKinds v_b1_width v_b1_rows f_a_sorted n_b1_cells f_b1_cells) D cy ev := j_met RX0 (by decide +kernel) rfl (Nat.le_of_ble_eq_true rfl) (fun X hC _ hD hy hv => by subst hD; subst hy; subst hv; exact jX0_divide hC u h_a h_a_sorted h_a_ways h_b1 h_b1_cells v_a_cut v_a_areTwoKinds v_b1_width v_b1_rows f_a_sorted n_b1_cells f_b1_cells)
abbrev gJ6_bitCount_0f7a4 (X : jX) (p0 : Int32) (pc : Nat) (lv : List (Nat × Value)) (st : List Value) (e : Option (Int32)) : Prop := jJ (ρ := Int32) X 1 0 0 (jQf X 0 0 (fun (r : Int32) => some (.int r)) (fun (_ : Int32) (_ : Nat → Nat) => [])) pc lv st [] (e)
set_option maxHeartbeats 4000000 in
set_option maxRecDepth 100000 in
theorem jJ6_bitCount_0f7a4 {X : jX} (hC : jC X cJ6_bitCount_0f7a4 1 RJ6 rJ6_bitCount_0f7a4 (some .int)) (p0 : Int32) : gJ6_bitCount_0f7a4 X p0 0 [(0, .int p0)] [] (fJ6_bitCount_0f7a4 p0) := by
  unfold fJ6_bitCount_0f7a4
  refine j_iload_n (pc := 0) hC 0 rfl dJ6_bitCount_0f7a4_0 ?_
  refine j_iload_n (pc := 1) hC 0 rfl dJ6_bitCount_0f7a4_1 ?_
  refine j_iconst (pc := 2) hC ki_1 dJ6_bitCount_0f7a4_2 ?_
  refine j_iushr (pc := 3) hC dJ6_bitCount_0f7a4_3 ?_
  refine j_ldcw (pc := 4) hC wm671 dJ6_bitCount_0f7a4_4 ?_
  refine j_iand (pc := 7) hC dJ6_bitCount_0f7a4_7 ?_
  refine j_isub (pc := 8) hC dJ6_bitCount_0f7a4_8 ?_
  refine j_let (pc := 9) (fun x1 => ?_)
  refine j_istore_n (pc := 9) hC (lv' := [(0, .int x1)]) rfl (by decide) dJ6_bitCount_0f7a4_9 ?_
  refine j_iload_n (pc := 10) hC 0 rfl dJ6_bitCount_0f7a4_10 ?_
  refine j_ldcw (pc := 11) hC wm672 dJ6_bitCount_0f7a4_11 ?_
  refine j_iand (pc := 14) hC dJ6_bitCount_0f7a4_14 ?_
  refine j_iload_n (pc := 15) hC 0 rfl dJ6_bitCount_0f7a4_15 ?_
  refine j_iconst (pc := 16) hC ki_2 dJ6_bitCount_0f7a4_16 ?_
  refine j_iushr (pc := 17) hC dJ6_bitCount_0f7a4_17 ?_
  refine j_ldcw (pc := 18) hC wm672 dJ6_bitCount_0f7a4_18 ?_
  refine j_iand (pc := 21) hC dJ6_bitCount_0f7a4_21 ?_
  refine j_iadd (pc := 22) hC dJ6_bitCount_0f7a4_22 ?_
  refine j_let (pc := 23) (fun x2 => ?_)
  refine j_istore_n (pc := 23) hC (lv' := [(0, .int x2)]) rfl (by decide) dJ6_bitCount_0f7a4_23 ?_
  refine j_iload_n (pc := 24) hC 0 rfl dJ6_bitCount_0f7a4_24 ?_
  refine j_iload_n (pc := 25) hC 0 rfl dJ6_bitCount_0f7a4_25 ?_
  refine j_iconst (pc := 26) hC ki_4 dJ6_bitCount_0f7a4_26 ?_
  refine j_iushr (pc := 27) hC dJ6_bitCount_0f7a4_27 ?_
  refine j_iadd (pc := 28) hC dJ6_bitCount_0f7a4_28 ?_
  refine j_ldcw (pc := 29) hC wm673 dJ6_bitCount_0f7a4_29 ?_
  refine j_iand (pc := 32) hC dJ6_bitCount_0f7a4_32 ?_
  refine j_let (pc := 33) (fun x3 => ?_)
  refine j_istore_n (pc := 33) hC (lv' := [(0, .int x3)]) rfl (by decide) dJ6_bitCount_0f7a4_33 ?_
  refine j_iload_n (pc := 34) hC 0 rfl dJ6_bitCount_0f7a4_34 ?_
  refine j_iload_n (pc := 35) hC 0 rfl dJ6_bitCount_0f7a4_35 ?_
  refine j_bipush (pc := 36) hC kb_8 dJ6_bitCount_0f7a4_36 ?_
  refine j_iushr (pc := 38) hC dJ6_bitCount_0f7a4_38 ?_
  refine j_iadd (pc := 39) hC dJ6_bitCount_0f7a4_39 ?_
  refine j_let (pc := 40) (fun x4 => ?_)
  refine j_istore_n (pc := 40) hC (lv' := [(0, .int x4)]) rfl (by decide) dJ6_bitCount_0f7a4_40 ?_
  refine j_iload_n (pc := 41) hC 0 rfl dJ6_bitCount_0f7a4_41 ?_
  refine j_iload_n (pc := 42) hC 0 rfl dJ6_bitCount_0f7a4_42 ?_
  refine j_bipush (pc := 43) hC kb_16 dJ6_bitCount_0f7a4_43 ?_
  refine j_iushr (pc := 45) hC dJ6_bitCount_0f7a4_45 ?_
  refine j_iadd (pc := 46) hC dJ6_bitCount_0f7a4_46 ?_
  refine j_let (pc := 47) (fun x5 => ?_)
  refine j_istore_n (pc := 47) hC (lv' := [(0, .int x5)]) rfl (by decide) dJ6_bitCount_0f7a4_47 ?_
  refine j_iload_n (pc := 48) hC 0 rfl dJ6_bitCount_0f7a4_48 ?_
  refine j_bipush (pc := 49) hC kb_63 dJ6_bitCount_0f7a4_49 ?_
  refine j_iand (pc := 51) hC dJ6_bitCount_0f7a4_51 ?_
  exact j_iret (pc := 52) hC (fun _ => 0) rfl rfl dJ6_bitCount_0f7a4_52
set_option maxHeartbeats 4000000 in
set_option maxRecDepth 100000 in
theorem mJ6_bitCount_0f7a4 (l : Launch) (D : va_G) (cy : Nat → ClassId) (ev : jE) (p0 : Int32) : jM l yJ6_bitCount_0f7a4 cJ6_bitCount_0f7a4 1 (some .int) rJ6_bitCount_0f7a4 [.int p0] [] (fun (_ : Int32) (_ : Nat → Nat) => []) (fun (r : Int32) => some (.int r)) (fJ6_bitCount_0f7a4 p0) D cy ev := j_met RJ6 (by decide +kernel) rfl (Nat.le_of_ble_eq_true rfl) (fun X hC _ hD hy hv => by subst hD; subst hy; subst hv; exact jJ6_bitCount_0f7a4 hC p0)
abbrev gX7_has (X : jX) (h_a h_a_cells : Nat) (p1 v_a_width v_a_rows : Int32) (pc : Nat) (lv : List (Nat × Value)) (st : List Value) (e : Option (Int32)) : Prop := jJ (ρ := Int32) X 2 0 0 (jQf X 0 0 (fun (r : Int32) => some (.int r)) (fun (_ : Int32) (_ : Nat → Nat) => [(h_a, .inr (7, [.int v_a_width, .ref h_a_cells, .int v_a_rows]))])) pc lv st [(h_a, .inr (7, [.int v_a_width, .ref h_a_cells, .int v_a_rows]))] (e)
set_option maxHeartbeats 4000000 in
set_option maxRecDepth 100000 in
theorem jX7_has {X : jX} (hC : jC X cX7_has 2 RX7 rX7_has (some .boolean)) (h_a h_a_cells : Nat) (p1 v_a_width v_a_rows : Int32) : gX7_has X h_a h_a_cells p1 v_a_width v_a_rows 0 [(0, .ref h_a), (1, .int p1)] [] (fX7_has p1 v_a_rows) := by
  unfold fX7_has
  refine j_iload_n (pc := 0) hC 1 rfl dX7_has_0 ?_
  refine j_iflt (pc := 1) hC 16 (by decide) dX7_has_1 ?_ ?_
  · refine j_iconst (pc := 16) hC ki_0 dX7_has_16 ?_
    exact j_zret (pc := 17) hC (fun _ => 0) (by decide) rfl rfl dX7_has_17
  · refine j_iload_n (pc := 4) hC 1 rfl dX7_has_4 ?_
    refine j_aload_n (pc := 5) hC 0 rfl dX7_has_5 ?_
    refine j_get (pc := 6) hC flRX7_19 0 rfl rfl dX7_has_6 ?_
    refine j_icmpge (pc := 9) hC 16 (by decide) dX7_has_9 ?_ ?_
    · refine j_iconst (pc := 16) hC ki_0 dX7_has_16 ?_
      exact j_zret (pc := 17) hC (fun _ => 0) (by decide) rfl rfl dX7_has_17
    · refine j_iconst (pc := 12) hC ki_1 dX7_has_12 ?_
      refine j_goto (pc := 13) hC 17 (by decide) dX7_has_13 ?_
      exact j_zret (pc := 17) hC (fun _ => 0) (by decide) rfl rfl dX7_has_17
set_option maxHeartbeats 4000000 in
set_option maxRecDepth 100000 in
theorem mX7_has (l : Launch) (D : va_G) (cy : Nat → ClassId) (ev : jE) (h_a h_a_cells : Nat) (p1 v_a_width v_a_rows : Int32) : jM l yX7_has cX7_has 2 (some .boolean) rX7_has [.ref h_a, .int p1] [(h_a, .inr (7, [.int v_a_width, .ref h_a_cells, .int v_a_rows]))] (fun (_ : Int32) (_ : Nat → Nat) => [(h_a, .inr (7, [.int v_a_width, .ref h_a_cells, .int v_a_rows]))]) (fun (r : Int32) => some (.int r)) (fX7_has p1 v_a_rows) D cy ev := j_met RX7 (by decide +kernel) rfl (Nat.le_of_ble_eq_true rfl) (fun X hC _ hD hy hv => by subst hD; subst hy; subst hv; exact jX7_has hC h_a h_a_cells p1 v_a_width v_a_rows)
abbrev gX0_goTogether (X : jX) (h_b0 h_b0_arms h_b0_hooks h_b0_darts h_b0_stories h_b0_tries h_b0_people h_b0_praise h_b0_thorns h_b0_butts h_b0_play h_b0_sorts h_b0_layers h_b0_plan h_b0_butts_cells h_b0_play_cells h_b0_thorns_cells : Nat) (p1 p2 v_b0_butts_rows v_b0_play_rows v_b0_thorns_rows : Int32) (f_b0_butts_cells f_b0_play_cells f_b0_thorns_cells : Nat → Int32) (pc : Nat) (lv : List (Nat × Value)) (st : List Value) (e : Option (Int32)) : Prop := jJ (ρ := Int32) X 4 0 0 (jQf X 0 0 (fun (r : Int32) => some (.int r)) (fun (_ : Int32) (_ : Nat → Nat) => [(h_b0, .inr (6, [.ref h_b0_arms, .ref h_b0_hooks, .ref h_b0_darts, .ref h_b0_stories, .ref h_b0_tries, .ref h_b0_people, .ref h_b0_praise, .ref h_b0_thorns, .ref h_b0_butts, .ref h_b0_play, .ref h_b0_sorts, .ref h_b0_layers, .ref h_b0_plan])), (h_b0_butts, .inr (7, [.int (1 : Int32), .ref h_b0_butts_cells, .int v_b0_butts_rows])), (h_b0_play, .inr (7, [.int (1 : Int32), .ref h_b0_play_cells, .int v_b0_play_rows])), (h_b0_thorns, .inr (7, [.int (4 : Int32), .ref h_b0_thorns_cells, .int v_b0_thorns_rows])), (h_b0_butts_cells, .inl (jy X 0, 6, .inl f_b0_butts_cells)), (h_b0_play_cells, .inl (jy X 0, 1, .inl f_b0_play_cells)), (h_b0_thorns_cells, .inl (jy X 0, 48, .inl f_b0_thorns_cells))])) pc lv st [(h_b0, .inr (6, [.ref h_b0_arms, .ref h_b0_hooks, .ref h_b0_darts, .ref h_b0_stories, .ref h_b0_tries, .ref h_b0_people, .ref h_b0_praise, .ref h_b0_thorns, .ref h_b0_butts, .ref h_b0_play, .ref h_b0_sorts, .ref h_b0_layers, .ref h_b0_plan])), (h_b0_butts, .inr (7, [.int (1 : Int32), .ref h_b0_butts_cells, .int v_b0_butts_rows])), (h_b0_play, .inr (7, [.int (1 : Int32), .ref h_b0_play_cells, .int v_b0_play_rows])), (h_b0_thorns, .inr (7, [.int (4 : Int32), .ref h_b0_thorns_cells, .int v_b0_thorns_rows])), (h_b0_butts_cells, .inl (jy X 0, 6, .inl f_b0_butts_cells)), (h_b0_play_cells, .inl (jy X 0, 1, .inl f_b0_play_cells)), (h_b0_thorns_cells, .inl (jy X 0, 48, .inl f_b0_thorns_cells))] (e)
set_option maxHeartbeats 4000000 in
set_option maxRecDepth 100000 in
theorem jX0_goTogether {X : jX} (hC : jC X cX0_goTogether 4 RX0 rX0_goTogether (some .boolean)) (h_b0 h_b0_arms h_b0_hooks h_b0_darts h_b0_stories h_b0_tries h_b0_people h_b0_praise h_b0_thorns h_b0_butts h_b0_play h_b0_sorts h_b0_layers h_b0_plan h_b0_butts_cells h_b0_play_cells h_b0_thorns_cells : Nat) (p1 p2 v_b0_butts_rows v_b0_play_rows v_b0_thorns_rows : Int32) (f_b0_butts_cells f_b0_play_cells f_b0_thorns_cells : Nat → Int32) : gX0_goTogether X h_b0 h_b0_arms h_b0_hooks h_b0_darts h_b0_stories h_b0_tries h_b0_people h_b0_praise h_b0_thorns h_b0_butts h_b0_play h_b0_sorts h_b0_layers h_b0_plan h_b0_butts_cells h_b0_play_cells h_b0_thorns_cells p1 p2 v_b0_butts_rows v_b0_play_rows v_b0_thorns_rows f_b0_butts_cells f_b0_play_cells f_b0_thorns_cells 0 [(0, .ref h_b0), (1, .int p1), (2, .int p2)] [] (fX0_goTogether p1 p2 v_b0_butts_rows v_b0_play_rows v_b0_thorns_rows f_b0_butts_cells f_b0_play_cells f_b0_thorns_cells) := by
  unfold fX0_goTogether
  refine j_aload_n (pc := 0) hC 0 rfl dX0_goTogether_0 ?_
  refine j_get (pc := 1) hC flRX0_56 0 rfl rfl dX0_goTogether_1 ?_
  refine j_iload_n (pc := 4) hC 1 rfl dX0_goTogether_4 ?_
  refine j_callV (pc := 5) hC csRX0_70 [.int p1] (mX7_has (jl X) (jD X) (jy X) (jv X) h_b0_butts h_b0_butts_cells p1 (1 : Int32) v_b0_butts_rows) [1] rfl (by decide +kernel) 1 rfl ⟨_, _, rfl⟩ ⟨by decide, by decide, rfl, rfl, by decide, by decide⟩ rfl rfl (Nat.le_of_ble_eq_true rfl) dX0_goTogether_5 (jki0 (fun _ => rfl) (fun _ _ => rfl) (fun r1 => ?_))
  refine j_ifeq (pc := 8) hC 22 (by decide) dX0_goTogether_8 ?_ ?_
  · refine j_iconst (pc := 22) hC ki_0 dX0_goTogether_22 ?_
    exact j_zret (pc := 23) hC (fun _ => 0) (by decide) rfl rfl dX0_goTogether_23
  · refine j_aload_n (pc := 11) hC 0 rfl dX0_goTogether_11 ?_
    refine j_get (pc := 12) hC flRX0_74 0 rfl rfl dX0_goTogether_12 ?_
    refine j_iload_n (pc := 15) hC 2 rfl dX0_goTogether_15 ?_
    refine j_callV (pc := 16) hC csRX0_70 [.int p2] (mX7_has (jl X) (jD X) (jy X) (jv X) h_b0_thorns h_b0_thorns_cells p2 (4 : Int32) v_b0_thorns_rows) [3] rfl (by decide +kernel) 3 rfl ⟨_, _, rfl⟩ ⟨by decide, by decide, rfl, rfl, by decide, by decide⟩ rfl rfl (Nat.le_of_ble_eq_true rfl) dX0_goTogether_16 (jki0 (fun _ => rfl) (fun _ _ => rfl) (fun r2 => ?_))
    refine j_ifne (pc := 19) hC 24 (by decide) dX0_goTogether_19 ?_ ?_
    · refine j_aload_n (pc := 24) hC 0 rfl dX0_goTogether_24 ?_
      refine j_get (pc := 25) hC flRX0_56 0 rfl rfl dX0_goTogether_25 ?_
      refine j_iload_n (pc := 28) hC 1 rfl dX0_goTogether_28 ?_
      refine j_iconst (pc := 29) hC ki_0 dX0_goTogether_29 ?_
      refine j_callV (pc := 30) hC csRX0_44 [.int p1, .int (0 : Int32)] (mX7_cell (jl X) (jD X) (jy X) (jv X) h_b0_butts h_b0_butts_cells p1 (0 : Int32) (1 : Int32) v_b0_butts_rows 6 f_b0_butts_cells) [1, 4] rfl (by decide +kernel) 1 rfl ⟨_, _, rfl⟩ ⟨by decide, by decide, rfl, rfl, by decide, by decide⟩ rfl rfl (Nat.le_of_ble_eq_true rfl) dX0_goTogether_30 (jki0 (fun _ => rfl) (fun _ _ => rfl) (fun r3 => ?_))
      refine j_aload_n (pc := 33) hC 0 rfl dX0_goTogether_33 ?_
      refine j_get (pc := 34) hC flRX0_74 0 rfl rfl dX0_goTogether_34 ?_
      refine j_iload_n (pc := 37) hC 2 rfl dX0_goTogether_37 ?_
      refine j_iconst (pc := 38) hC ki_2 dX0_goTogether_38 ?_
      refine j_callV (pc := 39) hC csRX0_44 [.int p2, .int (2 : Int32)] (mX7_cell (jl X) (jD X) (jy X) (jv X) h_b0_thorns h_b0_thorns_cells p2 (2 : Int32) (4 : Int32) v_b0_thorns_rows 48 f_b0_thorns_cells) [3, 6] rfl (by decide +kernel) 3 rfl ⟨_, _, rfl⟩ ⟨by decide, by decide, rfl, rfl, by decide, by decide⟩ rfl rfl (Nat.le_of_ble_eq_true rfl) dX0_goTogether_39 (jki0 (fun _ => rfl) (fun _ _ => rfl) (fun r4 => ?_))
      refine j_isub (pc := 42) hC dX0_goTogether_42 ?_
      refine j_iabs (pc := 43) hC wm645 wm646 wm84 wm647 (by decide) (Nat.le_of_ble_eq_true rfl) ⟨Nat.le_of_ble_eq_true rfl, Nat.le_of_ble_eq_true rfl⟩ dX0_goTogether_43 ?_
      refine j_let (pc := 46) (fun x5 => ?_)
      refine j_istore_n (pc := 46) hC (lv' := [(3, .int x5), (0, .ref h_b0), (1, .int p1), (2, .int p2)]) rfl (by decide) dX0_goTogether_46 ?_
      refine j_iload_n (pc := 47) hC 0 rfl dX0_goTogether_47 ?_
      refine j_aload_n (pc := 48) hC 1 rfl dX0_goTogether_48 ?_
      refine j_get (pc := 49) hC flRX0_77 0 rfl rfl dX0_goTogether_49 ?_
      refine j_iconst (pc := 52) hC ki_0 dX0_goTogether_52 ?_
      refine j_iconst (pc := 53) hC ki_0 dX0_goTogether_53 ?_
      refine j_callV (pc := 54) hC csRX0_44 [.int (0 : Int32), .int (0 : Int32)] (mX7_cell (jl X) (jD X) (jy X) (jv X) h_b0_play h_b0_play_cells (0 : Int32) (0 : Int32) (1 : Int32) v_b0_play_rows 1 f_b0_play_cells) [2, 5] rfl (by decide +kernel) 2 rfl ⟨_, _, rfl⟩ ⟨by decide, by decide, rfl, rfl, by decide, by decide⟩ rfl rfl (Nat.le_of_ble_eq_true rfl) dX0_goTogether_54 (jki0 (fun _ => rfl) (fun _ _ => rfl) (fun r6 => ?_))
      refine j_icmpgt (pc := 57) hC 64 (by decide) dX0_goTogether_57 ?_ ?_
      · refine j_iconst (pc := 64) hC ki_0 dX0_goTogether_64 ?_
        exact j_zret (pc := 65) hC (fun _ => 0) (by decide) rfl rfl dX0_goTogether_65
      · refine j_iconst (pc := 60) hC ki_1 dX0_goTogether_60 ?_
        refine j_goto (pc := 61) hC 65 (by decide) dX0_goTogether_61 ?_
        exact j_zret (pc := 65) hC (fun _ => 0) (by decide) rfl rfl dX0_goTogether_65
    · refine j_iconst (pc := 22) hC ki_0 dX0_goTogether_22 ?_
      exact j_zret (pc := 23) hC (fun _ => 0) (by decide) rfl rfl dX0_goTogether_23
set_option maxHeartbeats 4000000 in
set_option maxRecDepth 100000 in
theorem mX0_goTogether (l : Launch) (D : va_G) (cy : Nat → ClassId) (ev : jE) (h_b0 h_b0_arms h_b0_hooks h_b0_darts h_b0_stories h_b0_tries h_b0_people h_b0_praise h_b0_thorns h_b0_butts h_b0_play h_b0_sorts h_b0_layers h_b0_plan h_b0_butts_cells h_b0_play_cells h_b0_thorns_cells : Nat) (p1 p2 v_b0_butts_rows v_b0_play_rows v_b0_thorns_rows : Int32) (f_b0_butts_cells f_b0_play_cells f_b0_thorns_cells : Nat → Int32) : jM l yX0_goTogether cX0_goTogether 4 (some .boolean) rX0_goTogether [.ref h_b0, .int p1, .int p2] [(h_b0, .inr (6, [.ref h_b0_arms, .ref h_b0_hooks, .ref h_b0_darts, .ref h_b0_stories, .ref h_b0_tries, .ref h_b0_people, .ref h_b0_praise, .ref h_b0_thorns, .ref h_b0_butts, .ref h_b0_play, .ref h_b0_sorts, .ref h_b0_layers, .ref h_b0_plan])), (h_b0_butts, .inr (7, [.int (1 : Int32), .ref h_b0_butts_cells, .int v_b0_butts_rows])), (h_b0_play, .inr (7, [.int (1 : Int32), .ref h_b0_play_cells, .int v_b0_play_rows])), (h_b0_thorns, .inr (7, [.int (4 : Int32), .ref h_b0_thorns_cells, .int v_b0_thorns_rows])), (h_b0_butts_cells, .inl (cy 0, 6, .inl f_b0_butts_cells)), (h_b0_play_cells, .inl (cy 0, 1, .inl f_b0_play_cells)), (h_b0_thorns_cells, .inl (cy 0, 48, .inl f_b0_thorns_cells))] (fun (_ : Int32) (_ : Nat → Nat) => [(h_b0, .inr (6, [.ref h_b0_arms, .ref h_b0_hooks, .ref h_b0_darts, .ref h_b0_stories, .ref h_b0_tries, .ref h_b0_people, .ref h_b0_praise, .ref h_b0_thorns, .ref h_b0_butts, .ref h_b0_play, .ref h_b0_sorts, .ref h_b0_layers, .ref h_b0_plan])), (h_b0_butts, .inr (7, [.int (1 : Int32), .ref h_b0_butts_cells, .int v_b0_butts_rows])), (h_b0_play, .inr (7, [.int (1 : Int32), .ref h_b0_play_cells, .int v_b0_play_rows])), (h_b0_thorns, .inr (7, [.int (4 : Int32), .ref h_b0_thorns_cells, .int v_b0_thorns_rows])), (h_b0_butts_cells, .inl (cy 0, 6, .inl f_b0_butts_cells)), (h_b0_play_cells, .inl (cy 0, 1, .inl f_b0_play_cells)), (h_b0_thorns_cells, .inl (cy 0, 48, .inl f_b0_thorns_cells))]) (fun (r : Int32) => some (.int r)) (fX0_goTogether p1 p2 v_b0_butts_rows v_b0_play_rows v_b0_thorns_rows f_b0_butts_cells f_b0_play_cells f_b0_thorns_cells) D cy ev := j_met RX0 (by decide +kernel) rfl (Nat.le_of_ble_eq_true rfl) (fun X hC _ hD hy hv => by subst hD; subst hy; subst hv; exact jX0_goTogether hC h_b0 h_b0_arms h_b0_hooks h_b0_darts h_b0_stories h_b0_tries h_b0_people h_b0_praise h_b0_thorns h_b0_butts h_b0_play h_b0_sorts h_b0_layers h_b0_plan h_b0_butts_cells h_b0_play_cells h_b0_thorns_cells p1 p2 v_b0_butts_rows v_b0_play_rows v_b0_thorns_rows f_b0_butts_cells f_b0_play_cells f_b0_thorns_cells)
abbrev gX0_grow (X : jX) (h_a h_a_sorted h_a_ways h_b1 h_b1_arms h_b1_hooks h_b1_darts h_b1_stories h_b1_tries h_b1_people h_b1_praise h_b1_thorns h_b1_butts h_b1_play h_b1_sorts h_b1_layers h_b1_plan h_b1_butts_cells h_b1_play_cells h_b1_thorns_cells : Nat) (p2 p3 p4 v_a_cut v_a_areTwoKinds : Int32) (f_a_ways : Nat → Int32) (v_b1_butts_rows v_b1_play_rows v_b1_thorns_rows : Int32) (f_b1_butts_cells f_b1_play_cells f_b1_thorns_cells : Nat → Int32) (pc : Nat) (lv : List (Nat × Value)) (st : List Value) (w0 : Nat → Int32) (e : Option ((Nat → Int32))) : Prop := jJ (ρ := (Nat → Int32)) X 8 0 0 (jQf X 0 0 (fun (_ : (Nat → Int32)) => none) (fun (r : (Nat → Int32)) (_ : Nat → Nat) => [(h_a, .inr (0, [.ref h_a_sorted, .ref h_a_ways, .int v_a_cut, .int v_a_areTwoKinds])), (h_b1, .inr (6, [.ref h_b1_arms, .ref h_b1_hooks, .ref h_b1_darts, .ref h_b1_stories, .ref h_b1_tries, .ref h_b1_people, .ref h_b1_praise, .ref h_b1_thorns, .ref h_b1_butts, .ref h_b1_play, .ref h_b1_sorts, .ref h_b1_layers, .ref h_b1_plan])), (h_a_ways, .inl (jy X 0, 64, .inl r)), (h_b1_butts, .inr (7, [.int (1 : Int32), .ref h_b1_butts_cells, .int v_b1_butts_rows])), (h_b1_play, .inr (7, [.int (1 : Int32), .ref h_b1_play_cells, .int v_b1_play_rows])), (h_b1_thorns, .inr (7, [.int (4 : Int32), .ref h_b1_thorns_cells, .int v_b1_thorns_rows])), (h_b1_butts_cells, .inl (jy X 0, 6, .inl f_b1_butts_cells)), (h_b1_play_cells, .inl (jy X 0, 1, .inl f_b1_play_cells)), (h_b1_thorns_cells, .inl (jy X 0, 48, .inl f_b1_thorns_cells))])) pc lv st [(h_a, .inr (0, [.ref h_a_sorted, .ref h_a_ways, .int v_a_cut, .int v_a_areTwoKinds])), (h_b1, .inr (6, [.ref h_b1_arms, .ref h_b1_hooks, .ref h_b1_darts, .ref h_b1_stories, .ref h_b1_tries, .ref h_b1_people, .ref h_b1_praise, .ref h_b1_thorns, .ref h_b1_butts, .ref h_b1_play, .ref h_b1_sorts, .ref h_b1_layers, .ref h_b1_plan])), (h_a_ways, .inl (jy X 0, 64, .inl w0)), (h_b1_butts, .inr (7, [.int (1 : Int32), .ref h_b1_butts_cells, .int v_b1_butts_rows])), (h_b1_play, .inr (7, [.int (1 : Int32), .ref h_b1_play_cells, .int v_b1_play_rows])), (h_b1_thorns, .inr (7, [.int (4 : Int32), .ref h_b1_thorns_cells, .int v_b1_thorns_rows])), (h_b1_butts_cells, .inl (jy X 0, 6, .inl f_b1_butts_cells)), (h_b1_play_cells, .inl (jy X 0, 1, .inl f_b1_play_cells)), (h_b1_thorns_cells, .inl (jy X 0, 48, .inl f_b1_thorns_cells))] (e)
set_option maxHeartbeats 4000000 in
set_option maxRecDepth 100000 in
theorem jX0_grow_b82 {X : jX} (hC : jC X cX0_grow 8 RX0 rX0_grow none) (u : Nat) (h_a h_a_sorted h_a_ways h_b1 h_b1_arms h_b1_hooks h_b1_darts h_b1_stories h_b1_tries h_b1_people h_b1_praise h_b1_thorns h_b1_butts h_b1_play h_b1_sorts h_b1_layers h_b1_plan h_b1_butts_cells h_b1_play_cells h_b1_thorns_cells : Nat) (p2 p3 p4 v_a_cut v_a_areTwoKinds : Int32) (f_a_ways : Nat → Int32) (v_b1_butts_rows v_b1_play_rows v_b1_thorns_rows : Int32) (f_b1_butts_cells f_b1_play_cells f_b1_thorns_cells : Nat → Int32) (rec3 : (Int32 × (Nat → Int32)) → Option ((Nat → Int32))) (hrec3 : ∀ p : Int32 × (Nat → Int32), gX0_grow X h_a h_a_sorted h_a_ways h_b1 h_b1_arms h_b1_hooks h_b1_darts h_b1_stories h_b1_tries h_b1_people h_b1_praise h_b1_thorns h_b1_butts h_b1_play h_b1_sorts h_b1_layers h_b1_plan h_b1_butts_cells h_b1_play_cells h_b1_thorns_cells p2 p3 p4 v_a_cut v_a_areTwoKinds f_a_ways v_b1_butts_rows v_b1_play_rows v_b1_thorns_rows f_b1_butts_cells f_b1_play_cells f_b1_thorns_cells 3 [(0, .ref h_a), (1, .ref h_b1), (2, .int p2), (3, .int p3), (4, .int p4), (5, .int p.1)] [] p.2 (rec3 p)) (p : Int32 × (Nat → Int32)) : gX0_grow X h_a h_a_sorted h_a_ways h_b1 h_b1_arms h_b1_hooks h_b1_darts h_b1_stories h_b1_tries h_b1_people h_b1_praise h_b1_thorns h_b1_butts h_b1_play h_b1_sorts h_b1_layers h_b1_plan h_b1_butts_cells h_b1_play_cells h_b1_thorns_cells p2 p3 p4 v_a_cut v_a_areTwoKinds f_a_ways v_b1_butts_rows v_b1_play_rows v_b1_thorns_rows f_b1_butts_cells f_b1_play_cells f_b1_thorns_cells 82 [(0, .ref h_a), (1, .ref h_b1), (2, .int p2), (3, .int p3), (4, .int p4), (5, .int p.1)] [] p.2 (fX0_grow_b82 u p2 p3 p4 f_a_ways v_b1_butts_rows v_b1_play_rows v_b1_thorns_rows f_b1_butts_cells f_b1_play_cells f_b1_thorns_cells rec3 p) := by
  unfold fX0_grow_b82
  refine j_iinc (pc := 82) hC 5 rfl ki_1 (fun x2 => (rfl : @Eq (List (Nat × Value)) _ [(5, .int x2), (0, .ref h_a), (1, .ref h_b1), (2, .int p2), (3, .int p3), (4, .int p4)])) (by decide) dX0_grow_82 (fun x2 => ?_)
  refine j_goto (pc := 85) hC 3 (by decide) dX0_grow_85 ?_
  refine j_lv (pc := 3) [1, 2, 3, 4, 5, 0] rfl ?_
  exact hrec3 (x2, p.2)
set_option maxHeartbeats 4000000 in
set_option maxRecDepth 100000 in
theorem jX0_grow_b36 {X : jX} (hC : jC X cX0_grow 8 RX0 rX0_grow none) (u : Nat) (h_a h_a_sorted h_a_ways h_b1 h_b1_arms h_b1_hooks h_b1_darts h_b1_stories h_b1_tries h_b1_people h_b1_praise h_b1_thorns h_b1_butts h_b1_play h_b1_sorts h_b1_layers h_b1_plan h_b1_butts_cells h_b1_play_cells h_b1_thorns_cells : Nat) (p2 p3 p4 v_a_cut v_a_areTwoKinds : Int32) (f_a_ways : Nat → Int32) (v_b1_butts_rows v_b1_play_rows v_b1_thorns_rows : Int32) (f_b1_butts_cells f_b1_play_cells f_b1_thorns_cells : Nat → Int32) (rec3 : (Int32 × (Nat → Int32)) → Option ((Nat → Int32))) (hrec3 : ∀ p : Int32 × (Nat → Int32), gX0_grow X h_a h_a_sorted h_a_ways h_b1 h_b1_arms h_b1_hooks h_b1_darts h_b1_stories h_b1_tries h_b1_people h_b1_praise h_b1_thorns h_b1_butts h_b1_play h_b1_sorts h_b1_layers h_b1_plan h_b1_butts_cells h_b1_play_cells h_b1_thorns_cells p2 p3 p4 v_a_cut v_a_areTwoKinds f_a_ways v_b1_butts_rows v_b1_play_rows v_b1_thorns_rows f_b1_butts_cells f_b1_play_cells f_b1_thorns_cells 3 [(0, .ref h_a), (1, .ref h_b1), (2, .int p2), (3, .int p3), (4, .int p4), (5, .int p.1)] [] p.2 (rec3 p)) (p : Int32 × Int32 × Int32 × (Nat → Int32)) : gX0_grow X h_a h_a_sorted h_a_ways h_b1 h_b1_arms h_b1_hooks h_b1_darts h_b1_stories h_b1_tries h_b1_people h_b1_praise h_b1_thorns h_b1_butts h_b1_play h_b1_sorts h_b1_layers h_b1_plan h_b1_butts_cells h_b1_play_cells h_b1_thorns_cells p2 p3 p4 v_a_cut v_a_areTwoKinds f_a_ways v_b1_butts_rows v_b1_play_rows v_b1_thorns_rows f_b1_butts_cells f_b1_play_cells f_b1_thorns_cells 36 [(0, .ref h_a), (1, .ref h_b1), (2, .int p2), (3, .int p3), (4, .int p4), (5, .int p.1), (6, .int p.2.1)] [.int p.2.2.1] p.2.2.2 (fX0_grow_b36 u p2 p3 p4 f_a_ways v_b1_butts_rows v_b1_play_rows v_b1_thorns_rows f_b1_butts_cells f_b1_play_cells f_b1_thorns_cells rec3 p) := by
  unfold fX0_grow_b36
  refine j_istore (pc := 36) hC (lv' := [(7, .int p.2.2.1), (0, .ref h_a), (1, .ref h_b1), (2, .int p2), (3, .int p3), (4, .int p4), (5, .int p.1), (6, .int p.2.1)]) rfl (by decide) dX0_grow_36 ?_
  refine j_iload (pc := 38) hC 7 rfl dX0_grow_38 ?_
  refine j_iload_n (pc := 40) hC 3 rfl dX0_grow_40 ?_
  refine j_icmpeq (pc := 41) hC 82 (by decide) dX0_grow_41 ?_ ?_
  · refine j_lv (pc := 82) [1, 2, 3, 4, 5, 6] rfl ?_
    exact jX0_grow_b82 hC u h_a h_a_sorted h_a_ways h_b1 h_b1_arms h_b1_hooks h_b1_darts h_b1_stories h_b1_tries h_b1_people h_b1_praise h_b1_thorns h_b1_butts h_b1_play h_b1_sorts h_b1_layers h_b1_plan h_b1_butts_cells h_b1_play_cells h_b1_thorns_cells p2 p3 p4 v_a_cut v_a_areTwoKinds f_a_ways v_b1_butts_rows v_b1_play_rows v_b1_thorns_rows f_b1_butts_cells f_b1_play_cells f_b1_thorns_cells rec3 hrec3 (p.1, p.2.2.2)
  · refine j_iload (pc := 44) hC 7 rfl dX0_grow_44 ?_
    refine j_bipush (pc := 46) hC kb_64 dX0_grow_46 ?_
    refine j_icmpge (pc := 48) hC 82 (by decide) dX0_grow_48 ?_ ?_
    · refine j_lv (pc := 82) [1, 2, 3, 4, 5, 6] rfl ?_
      exact jX0_grow_b82 hC u h_a h_a_sorted h_a_ways h_b1 h_b1_arms h_b1_hooks h_b1_darts h_b1_stories h_b1_tries h_b1_people h_b1_praise h_b1_thorns h_b1_butts h_b1_play h_b1_sorts h_b1_layers h_b1_plan h_b1_butts_cells h_b1_play_cells h_b1_thorns_cells p2 p3 p4 v_a_cut v_a_areTwoKinds f_a_ways v_b1_butts_rows v_b1_play_rows v_b1_thorns_rows f_b1_butts_cells f_b1_play_cells f_b1_thorns_cells rec3 hrec3 (p.1, p.2.2.2)
    · refine j_iload (pc := 51) hC 0 rfl dX0_grow_51 ?_
      refine j_ifeq (pc := 53) hC 82 (by decide) dX0_grow_53 ?_ ?_
      · refine j_lv (pc := 82) [1, 2, 3, 4, 5, 6] rfl ?_
        exact jX0_grow_b82 hC u h_a h_a_sorted h_a_ways h_b1 h_b1_arms h_b1_hooks h_b1_darts h_b1_stories h_b1_tries h_b1_people h_b1_praise h_b1_thorns h_b1_butts h_b1_play h_b1_sorts h_b1_layers h_b1_plan h_b1_butts_cells h_b1_play_cells h_b1_thorns_cells p2 p3 p4 v_a_cut v_a_areTwoKinds f_a_ways v_b1_butts_rows v_b1_play_rows v_b1_thorns_rows f_b1_butts_cells f_b1_play_cells f_b1_thorns_cells rec3 hrec3 (p.1, p.2.2.2)
      · refine j_aload_n (pc := 56) hC 2 rfl dX0_grow_56 ?_
        refine j_iload_n (pc := 57) hC 4 rfl dX0_grow_57 ?_
        refine j_iload (pc := 58) hC 6 rfl dX0_grow_58 ?_
        refine j_callS (pc := 60) hC csRX0_66 [.ref h_b1, .int p3, .int p.1] (mX0_goTogether (jl X) (jD X) (jy X) (jv X) h_b1 h_b1_arms h_b1_hooks h_b1_darts h_b1_stories h_b1_tries h_b1_people h_b1_praise h_b1_thorns h_b1_butts h_b1_play h_b1_sorts h_b1_layers h_b1_plan h_b1_butts_cells h_b1_play_cells h_b1_thorns_cells p3 p.1 v_b1_butts_rows v_b1_play_rows v_b1_thorns_rows f_b1_butts_cells f_b1_play_cells f_b1_thorns_cells) [1, 3, 4, 5, 6, 7, 8] rfl (by decide +kernel) ⟨by decide, by decide, rfl, rfl, by decide, by decide⟩ rfl rfl (Nat.le_of_ble_eq_true rfl) dX0_grow_60 (jki0 (fun _ => rfl) (fun _ _ => rfl) (fun r3 => ?_))
        refine j_ifeq (pc := 63) hC 82 (by decide) dX0_grow_63 ?_ ?_
        · refine j_lv (pc := 82) [1, 2, 3, 4, 5, 6] rfl ?_
          exact jX0_grow_b82 hC u h_a h_a_sorted h_a_ways h_b1 h_b1_arms h_b1_hooks h_b1_darts h_b1_stories h_b1_tries h_b1_people h_b1_praise h_b1_thorns h_b1_butts h_b1_play h_b1_sorts h_b1_layers h_b1_plan h_b1_butts_cells h_b1_play_cells h_b1_thorns_cells p2 p3 p4 v_a_cut v_a_areTwoKinds f_a_ways v_b1_butts_rows v_b1_play_rows v_b1_thorns_rows f_b1_butts_cells f_b1_play_cells f_b1_thorns_cells rec3 hrec3 (p.1, p.2.2.2)
        · refine j_aload_n (pc := 66) hC 1 rfl dX0_grow_66 ?_
          refine j_get (pc := 67) hC flRX0_15 0 rfl rfl dX0_grow_67 ?_
          refine j_iload (pc := 70) hC 7 rfl dX0_grow_70 ?_
          refine j_dup2 (pc := 72) hC rfl rfl dX0_grow_72 ?_
          refine j_iald (pc := 73) hC 2 rfl dX0_grow_73 ?_
          refine j_aload_n (pc := 74) hC 1 rfl dX0_grow_74 ?_
          refine j_get (pc := 75) hC flRX0_15 0 rfl rfl dX0_grow_75 ?_
          refine j_iload_n (pc := 78) hC 3 rfl dX0_grow_78 ?_
          refine j_iald (pc := 79) hC 2 rfl dX0_grow_79 ?_
          refine j_iadd (pc := 80) hC dX0_grow_80 ?_
          refine j_iast (pc := 81) hC 2 rfl dX0_grow_81 (fun g4 => (rfl : @Eq va_W _ [(h_a, .inr (0, [.ref h_a_sorted, .ref h_a_ways, .int v_a_cut, .int v_a_areTwoKinds])), (h_b1, .inr (6, [.ref h_b1_arms, .ref h_b1_hooks, .ref h_b1_darts, .ref h_b1_stories, .ref h_b1_tries, .ref h_b1_people, .ref h_b1_praise, .ref h_b1_thorns, .ref h_b1_butts, .ref h_b1_play, .ref h_b1_sorts, .ref h_b1_layers, .ref h_b1_plan])), (h_a_ways, .inl (jy X 0, 64, .inl g4)), (h_b1_butts, .inr (7, [.int (1 : Int32), .ref h_b1_butts_cells, .int v_b1_butts_rows])), (h_b1_play, .inr (7, [.int (1 : Int32), .ref h_b1_play_cells, .int v_b1_play_rows])), (h_b1_thorns, .inr (7, [.int (4 : Int32), .ref h_b1_thorns_cells, .int v_b1_thorns_rows])), (h_b1_butts_cells, .inl (jy X 0, 6, .inl f_b1_butts_cells)), (h_b1_play_cells, .inl (jy X 0, 1, .inl f_b1_play_cells)), (h_b1_thorns_cells, .inl (jy X 0, 48, .inl f_b1_thorns_cells))])) (fun g4 => ?_)
          refine j_lv (pc := 82) [1, 2, 3, 4, 5, 6] rfl ?_
          exact jX0_grow_b82 hC u h_a h_a_sorted h_a_ways h_b1 h_b1_arms h_b1_hooks h_b1_darts h_b1_stories h_b1_tries h_b1_people h_b1_praise h_b1_thorns h_b1_butts h_b1_play h_b1_sorts h_b1_layers h_b1_plan h_b1_butts_cells h_b1_play_cells h_b1_thorns_cells p2 p3 p4 v_a_cut v_a_areTwoKinds f_a_ways v_b1_butts_rows v_b1_play_rows v_b1_thorns_rows f_b1_butts_cells f_b1_play_cells f_b1_thorns_cells rec3 hrec3 (p.1, g4)
set_option maxHeartbeats 4000000 in
set_option maxRecDepth 100000 in
theorem jX0_grow_b31 {X : jX} (hC : jC X cX0_grow 8 RX0 rX0_grow none) (u : Nat) (h_a h_a_sorted h_a_ways h_b1 h_b1_arms h_b1_hooks h_b1_darts h_b1_stories h_b1_tries h_b1_people h_b1_praise h_b1_thorns h_b1_butts h_b1_play h_b1_sorts h_b1_layers h_b1_plan h_b1_butts_cells h_b1_play_cells h_b1_thorns_cells : Nat) (p2 p3 p4 v_a_cut v_a_areTwoKinds : Int32) (f_a_ways : Nat → Int32) (v_b1_butts_rows v_b1_play_rows v_b1_thorns_rows : Int32) (f_b1_butts_cells f_b1_play_cells f_b1_thorns_cells : Nat → Int32) (rec3 : (Int32 × (Nat → Int32)) → Option ((Nat → Int32))) (hrec3 : ∀ p : Int32 × (Nat → Int32), gX0_grow X h_a h_a_sorted h_a_ways h_b1 h_b1_arms h_b1_hooks h_b1_darts h_b1_stories h_b1_tries h_b1_people h_b1_praise h_b1_thorns h_b1_butts h_b1_play h_b1_sorts h_b1_layers h_b1_plan h_b1_butts_cells h_b1_play_cells h_b1_thorns_cells p2 p3 p4 v_a_cut v_a_areTwoKinds f_a_ways v_b1_butts_rows v_b1_play_rows v_b1_thorns_rows f_b1_butts_cells f_b1_play_cells f_b1_thorns_cells 3 [(0, .ref h_a), (1, .ref h_b1), (2, .int p2), (3, .int p3), (4, .int p4), (5, .int p.1)] [] p.2 (rec3 p)) (p : Int32 × Int32 × (Nat → Int32)) : gX0_grow X h_a h_a_sorted h_a_ways h_b1 h_b1_arms h_b1_hooks h_b1_darts h_b1_stories h_b1_tries h_b1_people h_b1_praise h_b1_thorns h_b1_butts h_b1_play h_b1_sorts h_b1_layers h_b1_plan h_b1_butts_cells h_b1_play_cells h_b1_thorns_cells p2 p3 p4 v_a_cut v_a_areTwoKinds f_a_ways v_b1_butts_rows v_b1_play_rows v_b1_thorns_rows f_b1_butts_cells f_b1_play_cells f_b1_thorns_cells 31 [(0, .ref h_a), (1, .ref h_b1), (2, .int p2), (3, .int p3), (4, .int p4), (5, .int p.1), (6, .int p.2.1)] [] p.2.2 (fX0_grow_b31 u p2 p3 p4 f_a_ways v_b1_butts_rows v_b1_play_rows v_b1_thorns_rows f_b1_butts_cells f_b1_play_cells f_b1_thorns_cells rec3 p) := by
  unfold fX0_grow_b31
  refine j_iconst (pc := 31) hC ki_1 dX0_grow_31 ?_
  refine j_goto (pc := 32) hC 36 (by decide) dX0_grow_32 ?_
  exact jX0_grow_b36 hC u h_a h_a_sorted h_a_ways h_b1 h_b1_arms h_b1_hooks h_b1_darts h_b1_stories h_b1_tries h_b1_people h_b1_praise h_b1_thorns h_b1_butts h_b1_play h_b1_sorts h_b1_layers h_b1_plan h_b1_butts_cells h_b1_play_cells h_b1_thorns_cells p2 p3 p4 v_a_cut v_a_areTwoKinds f_a_ways v_b1_butts_rows v_b1_play_rows v_b1_thorns_rows f_b1_butts_cells f_b1_play_cells f_b1_thorns_cells rec3 hrec3 (p.1, p.2.1, (1 : Int32), p.2.2)
set_option maxHeartbeats 4000000 in
set_option maxRecDepth 100000 in
theorem jX0_grow_b3_step {X : jX} (hC : jC X cX0_grow 8 RX0 rX0_grow none) (u : Nat) (h_a h_a_sorted h_a_ways h_b1 h_b1_arms h_b1_hooks h_b1_darts h_b1_stories h_b1_tries h_b1_people h_b1_praise h_b1_thorns h_b1_butts h_b1_play h_b1_sorts h_b1_layers h_b1_plan h_b1_butts_cells h_b1_play_cells h_b1_thorns_cells : Nat) (p2 p3 p4 v_a_cut v_a_areTwoKinds : Int32) (f_a_ways : Nat → Int32) (v_b1_butts_rows v_b1_play_rows v_b1_thorns_rows : Int32) (f_b1_butts_cells f_b1_play_cells f_b1_thorns_cells : Nat → Int32) (rec3 : (Int32 × (Nat → Int32)) → Option ((Nat → Int32))) (hrec3 : ∀ p : Int32 × (Nat → Int32), gX0_grow X h_a h_a_sorted h_a_ways h_b1 h_b1_arms h_b1_hooks h_b1_darts h_b1_stories h_b1_tries h_b1_people h_b1_praise h_b1_thorns h_b1_butts h_b1_play h_b1_sorts h_b1_layers h_b1_plan h_b1_butts_cells h_b1_play_cells h_b1_thorns_cells p2 p3 p4 v_a_cut v_a_areTwoKinds f_a_ways v_b1_butts_rows v_b1_play_rows v_b1_thorns_rows f_b1_butts_cells f_b1_play_cells f_b1_thorns_cells 3 [(0, .ref h_a), (1, .ref h_b1), (2, .int p2), (3, .int p3), (4, .int p4), (5, .int p.1)] [] p.2 (rec3 p)) (p : Int32 × (Nat → Int32)) : gX0_grow X h_a h_a_sorted h_a_ways h_b1 h_b1_arms h_b1_hooks h_b1_darts h_b1_stories h_b1_tries h_b1_people h_b1_praise h_b1_thorns h_b1_butts h_b1_play h_b1_sorts h_b1_layers h_b1_plan h_b1_butts_cells h_b1_play_cells h_b1_thorns_cells p2 p3 p4 v_a_cut v_a_areTwoKinds f_a_ways v_b1_butts_rows v_b1_play_rows v_b1_thorns_rows f_b1_butts_cells f_b1_play_cells f_b1_thorns_cells 3 [(0, .ref h_a), (1, .ref h_b1), (2, .int p2), (3, .int p3), (4, .int p4), (5, .int p.1)] [] p.2 (fX0_grow_b3 u p2 p3 p4 f_a_ways v_b1_butts_rows v_b1_play_rows v_b1_thorns_rows f_b1_butts_cells f_b1_play_cells f_b1_thorns_cells rec3 p) := by
  unfold fX0_grow_b3
  refine j_iload (pc := 3) hC 5 rfl dX0_grow_3 ?_
  refine j_bipush (pc := 5) hC kb_6 dX0_grow_5 ?_
  refine j_icmpge (pc := 7) hC 88 (by decide) dX0_grow_7 ?_ ?_
  · exact j_vret (pc := 88) hC (fun _ => 0) rfl rfl dX0_grow_88
  · refine j_iload_n (pc := 10) hC 2 rfl dX0_grow_10 ?_
    refine j_iconst (pc := 11) hC ki_1 dX0_grow_11 ?_
    refine j_iload (pc := 12) hC 5 rfl dX0_grow_12 ?_
    refine j_ishl (pc := 14) hC dX0_grow_14 ?_
    refine j_ior (pc := 15) hC dX0_grow_15 ?_
    refine j_let (pc := 16) (fun x1 => ?_)
    refine j_istore (pc := 16) hC (lv' := [(6, .int x1), (0, .ref h_a), (1, .ref h_b1), (2, .int p2), (3, .int p3), (4, .int p4), (5, .int p.1)]) rfl (by decide) dX0_grow_16 ?_
    refine j_iload (pc := 18) hC 5 rfl dX0_grow_18 ?_
    refine j_iconst (pc := 20) hC ki_m1 dX0_grow_20 ?_
    refine j_icmpeq (pc := 21) hC 31 (by decide) dX0_grow_21 ?_ ?_
    · refine j_lv (pc := 31) [1, 2, 3, 4, 5, 6, 0] rfl ?_
      exact jX0_grow_b31 hC u h_a h_a_sorted h_a_ways h_b1 h_b1_arms h_b1_hooks h_b1_darts h_b1_stories h_b1_tries h_b1_people h_b1_praise h_b1_thorns h_b1_butts h_b1_play h_b1_sorts h_b1_layers h_b1_plan h_b1_butts_cells h_b1_play_cells h_b1_thorns_cells p2 p3 p4 v_a_cut v_a_areTwoKinds f_a_ways v_b1_butts_rows v_b1_play_rows v_b1_thorns_rows f_b1_butts_cells f_b1_play_cells f_b1_thorns_cells rec3 hrec3 (p.1, x1, p.2)
    · refine j_iload (pc := 24) hC 5 rfl dX0_grow_24 ?_
      refine j_iload (pc := 26) hC 6 rfl dX0_grow_26 ?_
      refine j_icmpne (pc := 28) hC 35 (by decide) dX0_grow_28 ?_ ?_
      · refine j_iconst (pc := 35) hC ki_0 dX0_grow_35 ?_
        refine j_lv (pc := 36) [1, 2, 3, 4, 5, 6, 0] rfl ?_
        exact jX0_grow_b36 hC u h_a h_a_sorted h_a_ways h_b1 h_b1_arms h_b1_hooks h_b1_darts h_b1_stories h_b1_tries h_b1_people h_b1_praise h_b1_thorns h_b1_butts h_b1_play h_b1_sorts h_b1_layers h_b1_plan h_b1_butts_cells h_b1_play_cells h_b1_thorns_cells p2 p3 p4 v_a_cut v_a_areTwoKinds f_a_ways v_b1_butts_rows v_b1_play_rows v_b1_thorns_rows f_b1_butts_cells f_b1_play_cells f_b1_thorns_cells rec3 hrec3 (p.1, x1, (0 : Int32), p.2)
      · refine j_lv (pc := 31) [1, 2, 3, 4, 5, 6, 0] rfl ?_
        exact jX0_grow_b31 hC u h_a h_a_sorted h_a_ways h_b1 h_b1_arms h_b1_hooks h_b1_darts h_b1_stories h_b1_tries h_b1_people h_b1_praise h_b1_thorns h_b1_butts h_b1_play h_b1_sorts h_b1_layers h_b1_plan h_b1_butts_cells h_b1_play_cells h_b1_thorns_cells p2 p3 p4 v_a_cut v_a_areTwoKinds f_a_ways v_b1_butts_rows v_b1_play_rows v_b1_thorns_rows f_b1_butts_cells f_b1_play_cells f_b1_thorns_cells rec3 hrec3 (p.1, x1, p.2)
set_option maxHeartbeats 4000000 in
set_option maxRecDepth 100000 in
theorem jX0_grow_b3 {X : jX} (hC : jC X cX0_grow 8 RX0 rX0_grow none) (u : Nat) (h_a h_a_sorted h_a_ways h_b1 h_b1_arms h_b1_hooks h_b1_darts h_b1_stories h_b1_tries h_b1_people h_b1_praise h_b1_thorns h_b1_butts h_b1_play h_b1_sorts h_b1_layers h_b1_plan h_b1_butts_cells h_b1_play_cells h_b1_thorns_cells : Nat) (p2 p3 p4 v_a_cut v_a_areTwoKinds : Int32) (f_a_ways : Nat → Int32) (v_b1_butts_rows v_b1_play_rows v_b1_thorns_rows : Int32) (f_b1_butts_cells f_b1_play_cells f_b1_thorns_cells : Nat → Int32) (p : Int32 × (Nat → Int32)) : gX0_grow X h_a h_a_sorted h_a_ways h_b1 h_b1_arms h_b1_hooks h_b1_darts h_b1_stories h_b1_tries h_b1_people h_b1_praise h_b1_thorns h_b1_butts h_b1_play h_b1_sorts h_b1_layers h_b1_plan h_b1_butts_cells h_b1_play_cells h_b1_thorns_cells p2 p3 p4 v_a_cut v_a_areTwoKinds f_a_ways v_b1_butts_rows v_b1_play_rows v_b1_thorns_rows f_b1_butts_cells f_b1_play_cells f_b1_thorns_cells 3 [(0, .ref h_a), (1, .ref h_b1), (2, .int p2), (3, .int p3), (4, .int p4), (5, .int p.1)] [] p.2 (jfix (fX0_grow_b3 u p2 p3 p4 f_a_ways v_b1_butts_rows v_b1_play_rows v_b1_thorns_rows f_b1_butts_cells f_b1_play_cells f_b1_thorns_cells) u p) :=
  j_fix (fun rec3 hrec3 p => jX0_grow_b3_step hC u h_a h_a_sorted h_a_ways h_b1 h_b1_arms h_b1_hooks h_b1_darts h_b1_stories h_b1_tries h_b1_people h_b1_praise h_b1_thorns h_b1_butts h_b1_play h_b1_sorts h_b1_layers h_b1_plan h_b1_butts_cells h_b1_play_cells h_b1_thorns_cells p2 p3 p4 v_a_cut v_a_areTwoKinds f_a_ways v_b1_butts_rows v_b1_play_rows v_b1_thorns_rows f_b1_butts_cells f_b1_play_cells f_b1_thorns_cells rec3 hrec3 p) u p
set_option maxHeartbeats 4000000 in
set_option maxRecDepth 100000 in
theorem jX0_grow {X : jX} (hC : jC X cX0_grow 8 RX0 rX0_grow none) (u : Nat) (h_a h_a_sorted h_a_ways h_b1 h_b1_arms h_b1_hooks h_b1_darts h_b1_stories h_b1_tries h_b1_people h_b1_praise h_b1_thorns h_b1_butts h_b1_play h_b1_sorts h_b1_layers h_b1_plan h_b1_butts_cells h_b1_play_cells h_b1_thorns_cells : Nat) (p2 p3 p4 v_a_cut v_a_areTwoKinds : Int32) (f_a_ways : Nat → Int32) (v_b1_butts_rows v_b1_play_rows v_b1_thorns_rows : Int32) (f_b1_butts_cells f_b1_play_cells f_b1_thorns_cells : Nat → Int32) : gX0_grow X h_a h_a_sorted h_a_ways h_b1 h_b1_arms h_b1_hooks h_b1_darts h_b1_stories h_b1_tries h_b1_people h_b1_praise h_b1_thorns h_b1_butts h_b1_play h_b1_sorts h_b1_layers h_b1_plan h_b1_butts_cells h_b1_play_cells h_b1_thorns_cells p2 p3 p4 v_a_cut v_a_areTwoKinds f_a_ways v_b1_butts_rows v_b1_play_rows v_b1_thorns_rows f_b1_butts_cells f_b1_play_cells f_b1_thorns_cells 0 [(0, .ref h_a), (1, .ref h_b1), (2, .int p2), (3, .int p3), (4, .int p4)] [] f_a_ways (fX0_grow u p2 p3 p4 f_a_ways v_b1_butts_rows v_b1_play_rows v_b1_thorns_rows f_b1_butts_cells f_b1_play_cells f_b1_thorns_cells) := by
  unfold fX0_grow
  refine j_iconst (pc := 0) hC ki_0 dX0_grow_0 ?_
  refine j_istore (pc := 1) hC (lv' := [(5, .int (0 : Int32)), (0, .ref h_a), (1, .ref h_b1), (2, .int p2), (3, .int p3), (4, .int p4)]) rfl (by decide) dX0_grow_1 ?_
  refine j_lv (pc := 3) [1, 2, 3, 4, 5, 0] rfl ?_
  exact jX0_grow_b3 hC u h_a h_a_sorted h_a_ways h_b1 h_b1_arms h_b1_hooks h_b1_darts h_b1_stories h_b1_tries h_b1_people h_b1_praise h_b1_thorns h_b1_butts h_b1_play h_b1_sorts h_b1_layers h_b1_plan h_b1_butts_cells h_b1_play_cells h_b1_thorns_cells p2 p3 p4 v_a_cut v_a_areTwoKinds f_a_ways v_b1_butts_rows v_b1_play_rows v_b1_thorns_rows f_b1_butts_cells f_b1_play_cells f_b1_thorns_cells ((0 : Int32), f_a_ways)
set_option maxHeartbeats 4000000 in
set_option maxRecDepth 100000 in
theorem mX0_grow (l : Launch) (D : va_G) (cy : Nat → ClassId) (ev : jE) (u : Nat) (h_a h_a_sorted h_a_ways h_b1 h_b1_arms h_b1_hooks h_b1_darts h_b1_stories h_b1_tries h_b1_people h_b1_praise h_b1_thorns h_b1_butts h_b1_play h_b1_sorts h_b1_layers h_b1_plan h_b1_butts_cells h_b1_play_cells h_b1_thorns_cells : Nat) (p2 p3 p4 v_a_cut v_a_areTwoKinds : Int32) (f_a_ways : Nat → Int32) (v_b1_butts_rows v_b1_play_rows v_b1_thorns_rows : Int32) (f_b1_butts_cells f_b1_play_cells f_b1_thorns_cells : Nat → Int32) : jM l yX0_grow cX0_grow 8 none rX0_grow [.ref h_a, .ref h_b1, .int p2, .int p3, .int p4] [(h_a, .inr (0, [.ref h_a_sorted, .ref h_a_ways, .int v_a_cut, .int v_a_areTwoKinds])), (h_b1, .inr (6, [.ref h_b1_arms, .ref h_b1_hooks, .ref h_b1_darts, .ref h_b1_stories, .ref h_b1_tries, .ref h_b1_people, .ref h_b1_praise, .ref h_b1_thorns, .ref h_b1_butts, .ref h_b1_play, .ref h_b1_sorts, .ref h_b1_layers, .ref h_b1_plan])), (h_a_ways, .inl (cy 0, 64, .inl f_a_ways)), (h_b1_butts, .inr (7, [.int (1 : Int32), .ref h_b1_butts_cells, .int v_b1_butts_rows])), (h_b1_play, .inr (7, [.int (1 : Int32), .ref h_b1_play_cells, .int v_b1_play_rows])), (h_b1_thorns, .inr (7, [.int (4 : Int32), .ref h_b1_thorns_cells, .int v_b1_thorns_rows])), (h_b1_butts_cells, .inl (cy 0, 6, .inl f_b1_butts_cells)), (h_b1_play_cells, .inl (cy 0, 1, .inl f_b1_play_cells)), (h_b1_thorns_cells, .inl (cy 0, 48, .inl f_b1_thorns_cells))] (fun (r : (Nat → Int32)) (_ : Nat → Nat) => [(h_a, .inr (0, [.ref h_a_sorted, .ref h_a_ways, .int v_a_cut, .int v_a_areTwoKinds])), (h_b1, .inr (6, [.ref h_b1_arms, .ref h_b1_hooks, .ref h_b1_darts, .ref h_b1_stories, .ref h_b1_tries, .ref h_b1_people, .ref h_b1_praise, .ref h_b1_thorns, .ref h_b1_butts, .ref h_b1_play, .ref h_b1_sorts, .ref h_b1_layers, .ref h_b1_plan])), (h_a_ways, .inl (cy 0, 64, .inl r)), (h_b1_butts, .inr (7, [.int (1 : Int32), .ref h_b1_butts_cells, .int v_b1_butts_rows])), (h_b1_play, .inr (7, [.int (1 : Int32), .ref h_b1_play_cells, .int v_b1_play_rows])), (h_b1_thorns, .inr (7, [.int (4 : Int32), .ref h_b1_thorns_cells, .int v_b1_thorns_rows])), (h_b1_butts_cells, .inl (cy 0, 6, .inl f_b1_butts_cells)), (h_b1_play_cells, .inl (cy 0, 1, .inl f_b1_play_cells)), (h_b1_thorns_cells, .inl (cy 0, 48, .inl f_b1_thorns_cells))]) (fun (_ : (Nat → Int32)) => none) (fX0_grow u p2 p3 p4 f_a_ways v_b1_butts_rows v_b1_play_rows v_b1_thorns_rows f_b1_butts_cells f_b1_play_cells f_b1_thorns_cells) D cy ev := j_met RX0 (by decide +kernel) rfl (Nat.le_of_ble_eq_true rfl) (fun X hC _ hD hy hv => by subst hD; subst hy; subst hv; exact jX0_grow hC u h_a h_a_sorted h_a_ways h_b1 h_b1_arms h_b1_hooks h_b1_darts h_b1_stories h_b1_tries h_b1_people h_b1_praise h_b1_thorns h_b1_butts h_b1_play h_b1_sorts h_b1_layers h_b1_plan h_b1_butts_cells h_b1_play_cells h_b1_thorns_cells p2 p3 p4 v_a_cut v_a_areTwoKinds f_a_ways v_b1_butts_rows v_b1_play_rows v_b1_thorns_rows f_b1_butts_cells f_b1_play_cells f_b1_thorns_cells)
abbrev gX0_matches (X : jX) (h_a h_a_sorted h_a_ways h_b1 h_b1_arms h_b1_hooks h_b1_darts h_b1_stories h_b1_tries h_b1_people h_b1_praise h_b1_thorns h_b1_butts h_b1_play h_b1_sorts h_b1_layers h_b1_plan h_b1_butts_cells h_b1_play_cells h_b1_thorns_cells : Nat) (p2 p3 v_a_cut v_a_areTwoKinds : Int32) (f_a_ways : Nat → Int32) (v_b1_butts_rows v_b1_play_rows v_b1_thorns_rows : Int32) (f_b1_butts_cells f_b1_play_cells f_b1_thorns_cells : Nat → Int32) (pc : Nat) (lv : List (Nat × Value)) (st : List Value) (w0 : Nat → Int32) (e : Option (Int32 × (Nat → Int32))) : Prop := jJ (ρ := Int32 × (Nat → Int32)) X 7 0 0 (jQf X 0 0 (fun (r : Int32 × (Nat → Int32)) => some (.int r.1)) (fun (r : Int32 × (Nat → Int32)) (_ : Nat → Nat) => [(h_a, .inr (0, [.ref h_a_sorted, .ref h_a_ways, .int v_a_cut, .int v_a_areTwoKinds])), (h_b1, .inr (6, [.ref h_b1_arms, .ref h_b1_hooks, .ref h_b1_darts, .ref h_b1_stories, .ref h_b1_tries, .ref h_b1_people, .ref h_b1_praise, .ref h_b1_thorns, .ref h_b1_butts, .ref h_b1_play, .ref h_b1_sorts, .ref h_b1_layers, .ref h_b1_plan])), (h_a_ways, .inl (jy X 0, 64, .inl r.2)), (h_b1_butts, .inr (7, [.int (1 : Int32), .ref h_b1_butts_cells, .int v_b1_butts_rows])), (h_b1_play, .inr (7, [.int (1 : Int32), .ref h_b1_play_cells, .int v_b1_play_rows])), (h_b1_thorns, .inr (7, [.int (4 : Int32), .ref h_b1_thorns_cells, .int v_b1_thorns_rows])), (h_b1_butts_cells, .inl (jy X 0, 6, .inl f_b1_butts_cells)), (h_b1_play_cells, .inl (jy X 0, 1, .inl f_b1_play_cells)), (h_b1_thorns_cells, .inl (jy X 0, 48, .inl f_b1_thorns_cells))])) pc lv st [(h_a, .inr (0, [.ref h_a_sorted, .ref h_a_ways, .int v_a_cut, .int v_a_areTwoKinds])), (h_b1, .inr (6, [.ref h_b1_arms, .ref h_b1_hooks, .ref h_b1_darts, .ref h_b1_stories, .ref h_b1_tries, .ref h_b1_people, .ref h_b1_praise, .ref h_b1_thorns, .ref h_b1_butts, .ref h_b1_play, .ref h_b1_sorts, .ref h_b1_layers, .ref h_b1_plan])), (h_a_ways, .inl (jy X 0, 64, .inl w0)), (h_b1_butts, .inr (7, [.int (1 : Int32), .ref h_b1_butts_cells, .int v_b1_butts_rows])), (h_b1_play, .inr (7, [.int (1 : Int32), .ref h_b1_play_cells, .int v_b1_play_rows])), (h_b1_thorns, .inr (7, [.int (4 : Int32), .ref h_b1_thorns_cells, .int v_b1_thorns_rows])), (h_b1_butts_cells, .inl (jy X 0, 6, .inl f_b1_butts_cells)), (h_b1_play_cells, .inl (jy X 0, 1, .inl f_b1_play_cells)), (h_b1_thorns_cells, .inl (jy X 0, 48, .inl f_b1_thorns_cells))] (e)
set_option maxHeartbeats 4000000 in
set_option maxRecDepth 100000 in
theorem jX0_matches_b108 {X : jX} (hC : jC X cX0_matches 7 RX0 rX0_matches (some .int)) (u : Nat) (h_a h_a_sorted h_a_ways h_b1 h_b1_arms h_b1_hooks h_b1_darts h_b1_stories h_b1_tries h_b1_people h_b1_praise h_b1_thorns h_b1_butts h_b1_play h_b1_sorts h_b1_layers h_b1_plan h_b1_butts_cells h_b1_play_cells h_b1_thorns_cells : Nat) (p2 p3 v_a_cut v_a_areTwoKinds : Int32) (f_a_ways : Nat → Int32) (v_b1_butts_rows v_b1_play_rows v_b1_thorns_rows : Int32) (f_b1_butts_cells f_b1_play_cells f_b1_thorns_cells : Nat → Int32) (rec37 : (Int32 × Int32 × (Nat → Int32)) → Option (Int32 × (Nat → Int32))) (hrec37 : ∀ p : Int32 × Int32 × (Nat → Int32), gX0_matches X h_a h_a_sorted h_a_ways h_b1 h_b1_arms h_b1_hooks h_b1_darts h_b1_stories h_b1_tries h_b1_people h_b1_praise h_b1_thorns h_b1_butts h_b1_play h_b1_sorts h_b1_layers h_b1_plan h_b1_butts_cells h_b1_play_cells h_b1_thorns_cells p2 p3 v_a_cut v_a_areTwoKinds f_a_ways v_b1_butts_rows v_b1_play_rows v_b1_thorns_rows f_b1_butts_cells f_b1_play_cells f_b1_thorns_cells 37 [(0, .ref h_a), (1, .ref h_b1), (2, .int p2), (3, .int p3), (4, .int p.1), (5, .int p.2.1)] [] p.2.2 (rec37 p)) (p : Int32 × Int32 × (Nat → Int32)) : gX0_matches X h_a h_a_sorted h_a_ways h_b1 h_b1_arms h_b1_hooks h_b1_darts h_b1_stories h_b1_tries h_b1_people h_b1_praise h_b1_thorns h_b1_butts h_b1_play h_b1_sorts h_b1_layers h_b1_plan h_b1_butts_cells h_b1_play_cells h_b1_thorns_cells p2 p3 v_a_cut v_a_areTwoKinds f_a_ways v_b1_butts_rows v_b1_play_rows v_b1_thorns_rows f_b1_butts_cells f_b1_play_cells f_b1_thorns_cells 108 [(0, .ref h_a), (1, .ref h_b1), (2, .int p2), (3, .int p3), (4, .int p.1), (5, .int p.2.1)] [] p.2.2 (fX0_matches_b108 u p2 p3 f_a_ways v_b1_butts_rows v_b1_play_rows v_b1_thorns_rows f_b1_butts_cells f_b1_play_cells f_b1_thorns_cells rec37 p) := by
  unfold fX0_matches_b108
  refine j_iinc (pc := 108) hC 5 rfl ki_1 (fun x3 => (rfl : @Eq (List (Nat × Value)) _ [(5, .int x3), (0, .ref h_a), (1, .ref h_b1), (2, .int p2), (3, .int p3), (4, .int p.1)])) (by decide) dX0_matches_108 (fun x3 => ?_)
  refine j_goto (pc := 111) hC 37 (by decide) dX0_matches_111 ?_
  refine j_lv (pc := 37) [1, 2, 3, 4, 5, 0] rfl ?_
  exact hrec37 (p.1, x3, p.2.2)
set_option maxHeartbeats 4000000 in
set_option maxRecDepth 100000 in
theorem jX0_matches_b105 {X : jX} (hC : jC X cX0_matches 7 RX0 rX0_matches (some .int)) (u : Nat) (h_a h_a_sorted h_a_ways h_b1 h_b1_arms h_b1_hooks h_b1_darts h_b1_stories h_b1_tries h_b1_people h_b1_praise h_b1_thorns h_b1_butts h_b1_play h_b1_sorts h_b1_layers h_b1_plan h_b1_butts_cells h_b1_play_cells h_b1_thorns_cells : Nat) (p2 p3 v_a_cut v_a_areTwoKinds : Int32) (f_a_ways : Nat → Int32) (v_b1_butts_rows v_b1_play_rows v_b1_thorns_rows : Int32) (f_b1_butts_cells f_b1_play_cells f_b1_thorns_cells : Nat → Int32) (rec37 : (Int32 × Int32 × (Nat → Int32)) → Option (Int32 × (Nat → Int32))) (hrec37 : ∀ p : Int32 × Int32 × (Nat → Int32), gX0_matches X h_a h_a_sorted h_a_ways h_b1 h_b1_arms h_b1_hooks h_b1_darts h_b1_stories h_b1_tries h_b1_people h_b1_praise h_b1_thorns h_b1_butts h_b1_play h_b1_sorts h_b1_layers h_b1_plan h_b1_butts_cells h_b1_play_cells h_b1_thorns_cells p2 p3 v_a_cut v_a_areTwoKinds f_a_ways v_b1_butts_rows v_b1_play_rows v_b1_thorns_rows f_b1_butts_cells f_b1_play_cells f_b1_thorns_cells 37 [(0, .ref h_a), (1, .ref h_b1), (2, .int p2), (3, .int p3), (4, .int p.1), (5, .int p.2.1)] [] p.2.2 (rec37 p)) (p : Int32 × Int32 × Int32 × Int32 × Int32 × (Nat → Int32)) : gX0_matches X h_a h_a_sorted h_a_ways h_b1 h_b1_arms h_b1_hooks h_b1_darts h_b1_stories h_b1_tries h_b1_people h_b1_praise h_b1_thorns h_b1_butts h_b1_play h_b1_sorts h_b1_layers h_b1_plan h_b1_butts_cells h_b1_play_cells h_b1_thorns_cells p2 p3 v_a_cut v_a_areTwoKinds f_a_ways v_b1_butts_rows v_b1_play_rows v_b1_thorns_rows f_b1_butts_cells f_b1_play_cells f_b1_thorns_cells 105 [(0, .ref h_a), (1, .ref h_b1), (2, .int p2), (3, .int p3), (4, .int p.1), (5, .int p.2.1)] [.int p.2.2.2.2.1, .int p.2.2.2.1, .int p.2.2.1, .ref h_b1, .ref h_a] p.2.2.2.2.2 (fX0_matches_b105 u p2 p3 f_a_ways v_b1_butts_rows v_b1_play_rows v_b1_thorns_rows f_b1_butts_cells f_b1_play_cells f_b1_thorns_cells rec37 p) := by
  unfold fX0_matches_b105
  refine j_callV (pc := 105) hC csRX0_62 [.ref h_b1, .int p.2.2.1, .int p.2.2.2.1, .int p.2.2.2.2.1] (mX0_grow (jl X) (jD X) (jy X) (jv X) u h_a h_a_sorted h_a_ways h_b1 h_b1_arms h_b1_hooks h_b1_darts h_b1_stories h_b1_tries h_b1_people h_b1_praise h_b1_thorns h_b1_butts h_b1_play h_b1_sorts h_b1_layers h_b1_plan h_b1_butts_cells h_b1_play_cells h_b1_thorns_cells p.2.2.1 p.2.2.2.1 p.2.2.2.2.1 v_a_cut v_a_areTwoKinds p.2.2.2.2.2 v_b1_butts_rows v_b1_play_rows v_b1_thorns_rows f_b1_butts_cells f_b1_play_cells f_b1_thorns_cells) [0, 1, 2, 3, 4, 5, 6, 7, 8] rfl (by decide +kernel) 0 rfl ⟨_, _, rfl⟩ ⟨by decide, by decide, rfl, rfl, by decide, by decide⟩ rfl rfl (Nat.le_of_ble_eq_true rfl) dX0_matches_105 (jkv (fun r4 _ => (rfl : @Eq va_W _ [(h_a, .inr (0, [.ref h_a_sorted, .ref h_a_ways, .int v_a_cut, .int v_a_areTwoKinds])), (h_b1, .inr (6, [.ref h_b1_arms, .ref h_b1_hooks, .ref h_b1_darts, .ref h_b1_stories, .ref h_b1_tries, .ref h_b1_people, .ref h_b1_praise, .ref h_b1_thorns, .ref h_b1_butts, .ref h_b1_play, .ref h_b1_sorts, .ref h_b1_layers, .ref h_b1_plan])), (h_a_ways, .inl (jy X 0, 64, .inl r4)), (h_b1_butts, .inr (7, [.int (1 : Int32), .ref h_b1_butts_cells, .int v_b1_butts_rows])), (h_b1_play, .inr (7, [.int (1 : Int32), .ref h_b1_play_cells, .int v_b1_play_rows])), (h_b1_thorns, .inr (7, [.int (4 : Int32), .ref h_b1_thorns_cells, .int v_b1_thorns_rows])), (h_b1_butts_cells, .inl (jy X 0, 6, .inl f_b1_butts_cells)), (h_b1_play_cells, .inl (jy X 0, 1, .inl f_b1_play_cells)), (h_b1_thorns_cells, .inl (jy X 0, 48, .inl f_b1_thorns_cells))])) (fun r4 => ?_))
  exact jX0_matches_b108 hC u h_a h_a_sorted h_a_ways h_b1 h_b1_arms h_b1_hooks h_b1_darts h_b1_stories h_b1_tries h_b1_people h_b1_praise h_b1_thorns h_b1_butts h_b1_play h_b1_sorts h_b1_layers h_b1_plan h_b1_butts_cells h_b1_play_cells h_b1_thorns_cells p2 p3 v_a_cut v_a_areTwoKinds f_a_ways v_b1_butts_rows v_b1_play_rows v_b1_thorns_rows f_b1_butts_cells f_b1_play_cells f_b1_thorns_cells rec37 hrec37 (p.1, p.2.1, r4)
set_option maxHeartbeats 4000000 in
set_option maxRecDepth 100000 in
theorem jX0_matches_b37_step {X : jX} (hC : jC X cX0_matches 7 RX0 rX0_matches (some .int)) (u : Nat) (h_a h_a_sorted h_a_ways h_b1 h_b1_arms h_b1_hooks h_b1_darts h_b1_stories h_b1_tries h_b1_people h_b1_praise h_b1_thorns h_b1_butts h_b1_play h_b1_sorts h_b1_layers h_b1_plan h_b1_butts_cells h_b1_play_cells h_b1_thorns_cells : Nat) (p2 p3 v_a_cut v_a_areTwoKinds : Int32) (f_a_ways : Nat → Int32) (v_b1_butts_rows v_b1_play_rows v_b1_thorns_rows : Int32) (f_b1_butts_cells f_b1_play_cells f_b1_thorns_cells : Nat → Int32) (rec37 : (Int32 × Int32 × (Nat → Int32)) → Option (Int32 × (Nat → Int32))) (hrec37 : ∀ p : Int32 × Int32 × (Nat → Int32), gX0_matches X h_a h_a_sorted h_a_ways h_b1 h_b1_arms h_b1_hooks h_b1_darts h_b1_stories h_b1_tries h_b1_people h_b1_praise h_b1_thorns h_b1_butts h_b1_play h_b1_sorts h_b1_layers h_b1_plan h_b1_butts_cells h_b1_play_cells h_b1_thorns_cells p2 p3 v_a_cut v_a_areTwoKinds f_a_ways v_b1_butts_rows v_b1_play_rows v_b1_thorns_rows f_b1_butts_cells f_b1_play_cells f_b1_thorns_cells 37 [(0, .ref h_a), (1, .ref h_b1), (2, .int p2), (3, .int p3), (4, .int p.1), (5, .int p.2.1)] [] p.2.2 (rec37 p)) (p : Int32 × Int32 × (Nat → Int32)) : gX0_matches X h_a h_a_sorted h_a_ways h_b1 h_b1_arms h_b1_hooks h_b1_darts h_b1_stories h_b1_tries h_b1_people h_b1_praise h_b1_thorns h_b1_butts h_b1_play h_b1_sorts h_b1_layers h_b1_plan h_b1_butts_cells h_b1_play_cells h_b1_thorns_cells p2 p3 v_a_cut v_a_areTwoKinds f_a_ways v_b1_butts_rows v_b1_play_rows v_b1_thorns_rows f_b1_butts_cells f_b1_play_cells f_b1_thorns_cells 37 [(0, .ref h_a), (1, .ref h_b1), (2, .int p2), (3, .int p3), (4, .int p.1), (5, .int p.2.1)] [] p.2.2 (fX0_matches_b37 u p2 p3 f_a_ways v_b1_butts_rows v_b1_play_rows v_b1_thorns_rows f_b1_butts_cells f_b1_play_cells f_b1_thorns_cells rec37 p) := by
  unfold fX0_matches_b37
  refine j_iload (pc := 37) hC 5 rfl dX0_matches_37 ?_
  refine j_bipush (pc := 39) hC kb_64 dX0_matches_39 ?_
  refine j_icmpge (pc := 41) hC 114 (by decide) dX0_matches_41 ?_ ?_
  · refine j_iload (pc := 114) hC 4 rfl dX0_matches_114 ?_
    exact j_iret (pc := 116) hC (fun _ => 0) rfl rfl dX0_matches_116
  · refine j_iload (pc := 44) hC 5 rfl dX0_matches_44 ?_
    refine j_callS (pc := 46) hC csRX0_51 [.int p.2.1] (mJ6_bitCount_0f7a4 (jl X) (jD X) (jy X) (jv X) p.2.1) [] rfl (by decide +kernel) ⟨by decide, by decide, rfl, rfl, by decide, by decide⟩ rfl rfl (Nat.le_of_ble_eq_true rfl) dX0_matches_46 (jki0 (fun _ => rfl) (fun _ _ => rfl) (fun r2 => ?_))
    refine j_istore (pc := 49) hC (lv' := [(6, .int r2), (0, .ref h_a), (1, .ref h_b1), (2, .int p2), (3, .int p3), (4, .int p.1), (5, .int p.2.1)]) rfl (by decide) dX0_matches_49 ?_
    refine j_iload (pc := 51) hC 0 rfl dX0_matches_51 ?_
    refine j_aload_n (pc := 53) hC 2 rfl dX0_matches_53 ?_
    refine j_get (pc := 54) hC flRX0_56 1 rfl rfl dX0_matches_54 ?_
    refine j_get (pc := 57) hC flRX0_18 3 rfl rfl dX0_matches_57 ?_
    refine j_icmpne (pc := 60) hC 78 (by decide) dX0_matches_60 ?_ ?_
    · refine j_aload_n (pc := 78) hC 1 rfl dX0_matches_78 ?_
      refine j_get (pc := 79) hC flRX0_15 0 rfl rfl dX0_matches_79 ?_
      refine j_iload (pc := 82) hC 6 rfl dX0_matches_82 ?_
      refine j_iald (pc := 84) hC 2 rfl dX0_matches_84 ?_
      refine j_ifle (pc := 85) hC 108 (by decide) dX0_matches_85 ?_ ?_
      · refine j_lv (pc := 108) [1, 2, 3, 4, 5, 6] rfl ?_
        exact jX0_matches_b108 hC u h_a h_a_sorted h_a_ways h_b1 h_b1_arms h_b1_hooks h_b1_darts h_b1_stories h_b1_tries h_b1_people h_b1_praise h_b1_thorns h_b1_butts h_b1_play h_b1_sorts h_b1_layers h_b1_plan h_b1_butts_cells h_b1_play_cells h_b1_thorns_cells p2 p3 v_a_cut v_a_areTwoKinds f_a_ways v_b1_butts_rows v_b1_play_rows v_b1_thorns_rows f_b1_butts_cells f_b1_play_cells f_b1_thorns_cells rec37 hrec37 (p.1, p.2.1, p.2.2)
      · refine j_aload_n (pc := 88) hC 1 rfl dX0_matches_88 ?_
        refine j_aload_n (pc := 89) hC 2 rfl dX0_matches_89 ?_
        refine j_iload (pc := 90) hC 6 rfl dX0_matches_90 ?_
        refine j_iload (pc := 92) hC 0 rfl dX0_matches_92 ?_
        refine j_iload (pc := 94) hC 0 rfl dX0_matches_94 ?_
        refine j_iload_n (pc := 96) hC 3 rfl dX0_matches_96 ?_
        refine j_icmpne (pc := 97) hC 104 (by decide) dX0_matches_97 ?_ ?_
        · refine j_iconst (pc := 104) hC ki_m1 dX0_matches_104 ?_
          refine j_lv (pc := 105) [1, 2, 3, 4, 5, 6] rfl ?_
          exact jX0_matches_b105 hC u h_a h_a_sorted h_a_ways h_b1 h_b1_arms h_b1_hooks h_b1_darts h_b1_stories h_b1_tries h_b1_people h_b1_praise h_b1_thorns h_b1_butts h_b1_play h_b1_sorts h_b1_layers h_b1_plan h_b1_butts_cells h_b1_play_cells h_b1_thorns_cells p2 p3 v_a_cut v_a_areTwoKinds f_a_ways v_b1_butts_rows v_b1_play_rows v_b1_thorns_rows f_b1_butts_cells f_b1_play_cells f_b1_thorns_cells rec37 hrec37 (p.1, p.2.1, p.2.1, r2, (-1 : Int32), p.2.2)
        · refine j_iload_n (pc := 100) hC 4 rfl dX0_matches_100 ?_
          refine j_goto (pc := 101) hC 105 (by decide) dX0_matches_101 ?_
          refine j_lv (pc := 105) [1, 2, 3, 4, 5, 6] rfl ?_
          exact jX0_matches_b105 hC u h_a h_a_sorted h_a_ways h_b1 h_b1_arms h_b1_hooks h_b1_darts h_b1_stories h_b1_tries h_b1_people h_b1_praise h_b1_thorns h_b1_butts h_b1_play h_b1_sorts h_b1_layers h_b1_plan h_b1_butts_cells h_b1_play_cells h_b1_thorns_cells p2 p3 v_a_cut v_a_areTwoKinds f_a_ways v_b1_butts_rows v_b1_play_rows v_b1_thorns_rows f_b1_butts_cells f_b1_play_cells f_b1_thorns_cells rec37 hrec37 (p.1, p.2.1, p.2.1, r2, p3, p.2.2)
    · refine j_iload (pc := 63) hC 5 rfl dX0_matches_63 ?_
      refine j_aload_n (pc := 65) hC 1 rfl dX0_matches_65 ?_
      refine j_get (pc := 66) hC flRX0_15 0 rfl rfl dX0_matches_66 ?_
      refine j_iload (pc := 69) hC 6 rfl dX0_matches_69 ?_
      refine j_iald (pc := 71) hC 2 rfl dX0_matches_71 ?_
      refine j_iadd (pc := 72) hC dX0_matches_72 ?_
      refine j_let (pc := 73) (fun x5 => ?_)
      refine j_istore (pc := 73) hC (lv' := [(4, .int x5), (6, .int r2), (0, .ref h_a), (1, .ref h_b1), (2, .int p2), (3, .int p3), (5, .int p.2.1)]) rfl (by decide) dX0_matches_73 ?_
      refine j_goto (pc := 75) hC 108 (by decide) dX0_matches_75 ?_
      refine j_lv (pc := 108) [2, 3, 4, 5, 0, 6] rfl ?_
      exact jX0_matches_b108 hC u h_a h_a_sorted h_a_ways h_b1 h_b1_arms h_b1_hooks h_b1_darts h_b1_stories h_b1_tries h_b1_people h_b1_praise h_b1_thorns h_b1_butts h_b1_play h_b1_sorts h_b1_layers h_b1_plan h_b1_butts_cells h_b1_play_cells h_b1_thorns_cells p2 p3 v_a_cut v_a_areTwoKinds f_a_ways v_b1_butts_rows v_b1_play_rows v_b1_thorns_rows f_b1_butts_cells f_b1_play_cells f_b1_thorns_cells rec37 hrec37 (x5, p.2.1, p.2.2)
set_option maxHeartbeats 4000000 in
set_option maxRecDepth 100000 in
theorem jX0_matches_b37 {X : jX} (hC : jC X cX0_matches 7 RX0 rX0_matches (some .int)) (u : Nat) (h_a h_a_sorted h_a_ways h_b1 h_b1_arms h_b1_hooks h_b1_darts h_b1_stories h_b1_tries h_b1_people h_b1_praise h_b1_thorns h_b1_butts h_b1_play h_b1_sorts h_b1_layers h_b1_plan h_b1_butts_cells h_b1_play_cells h_b1_thorns_cells : Nat) (p2 p3 v_a_cut v_a_areTwoKinds : Int32) (f_a_ways : Nat → Int32) (v_b1_butts_rows v_b1_play_rows v_b1_thorns_rows : Int32) (f_b1_butts_cells f_b1_play_cells f_b1_thorns_cells : Nat → Int32) (p : Int32 × Int32 × (Nat → Int32)) : gX0_matches X h_a h_a_sorted h_a_ways h_b1 h_b1_arms h_b1_hooks h_b1_darts h_b1_stories h_b1_tries h_b1_people h_b1_praise h_b1_thorns h_b1_butts h_b1_play h_b1_sorts h_b1_layers h_b1_plan h_b1_butts_cells h_b1_play_cells h_b1_thorns_cells p2 p3 v_a_cut v_a_areTwoKinds f_a_ways v_b1_butts_rows v_b1_play_rows v_b1_thorns_rows f_b1_butts_cells f_b1_play_cells f_b1_thorns_cells 37 [(0, .ref h_a), (1, .ref h_b1), (2, .int p2), (3, .int p3), (4, .int p.1), (5, .int p.2.1)] [] p.2.2 (jfix (fX0_matches_b37 u p2 p3 f_a_ways v_b1_butts_rows v_b1_play_rows v_b1_thorns_rows f_b1_butts_cells f_b1_play_cells f_b1_thorns_cells) u p) :=
  j_fix (fun rec37 hrec37 p => jX0_matches_b37_step hC u h_a h_a_sorted h_a_ways h_b1 h_b1_arms h_b1_hooks h_b1_darts h_b1_stories h_b1_tries h_b1_people h_b1_praise h_b1_thorns h_b1_butts h_b1_play h_b1_sorts h_b1_layers h_b1_plan h_b1_butts_cells h_b1_play_cells h_b1_thorns_cells p2 p3 v_a_cut v_a_areTwoKinds f_a_ways v_b1_butts_rows v_b1_play_rows v_b1_thorns_rows f_b1_butts_cells f_b1_play_cells f_b1_thorns_cells rec37 hrec37 p) u p
set_option maxHeartbeats 4000000 in
set_option maxRecDepth 100000 in
theorem jX0_matches_b6_step {X : jX} (hC : jC X cX0_matches 7 RX0 rX0_matches (some .int)) (u : Nat) (h_a h_a_sorted h_a_ways h_b1 h_b1_arms h_b1_hooks h_b1_darts h_b1_stories h_b1_tries h_b1_people h_b1_praise h_b1_thorns h_b1_butts h_b1_play h_b1_sorts h_b1_layers h_b1_plan h_b1_butts_cells h_b1_play_cells h_b1_thorns_cells : Nat) (p2 p3 v_a_cut v_a_areTwoKinds : Int32) (f_a_ways : Nat → Int32) (v_b1_butts_rows v_b1_play_rows v_b1_thorns_rows : Int32) (f_b1_butts_cells f_b1_play_cells f_b1_thorns_cells : Nat → Int32) (rec6 : (Int32 × Int32 × (Nat → Int32)) → Option (Int32 × (Nat → Int32))) (hrec6 : ∀ p : Int32 × Int32 × (Nat → Int32), gX0_matches X h_a h_a_sorted h_a_ways h_b1 h_b1_arms h_b1_hooks h_b1_darts h_b1_stories h_b1_tries h_b1_people h_b1_praise h_b1_thorns h_b1_butts h_b1_play h_b1_sorts h_b1_layers h_b1_plan h_b1_butts_cells h_b1_play_cells h_b1_thorns_cells p2 p3 v_a_cut v_a_areTwoKinds f_a_ways v_b1_butts_rows v_b1_play_rows v_b1_thorns_rows f_b1_butts_cells f_b1_play_cells f_b1_thorns_cells 6 [(0, .ref h_a), (1, .ref h_b1), (2, .int p2), (3, .int p3), (4, .int p.1), (5, .int p.2.1)] [] p.2.2 (rec6 p)) (p : Int32 × Int32 × (Nat → Int32)) : gX0_matches X h_a h_a_sorted h_a_ways h_b1 h_b1_arms h_b1_hooks h_b1_darts h_b1_stories h_b1_tries h_b1_people h_b1_praise h_b1_thorns h_b1_butts h_b1_play h_b1_sorts h_b1_layers h_b1_plan h_b1_butts_cells h_b1_play_cells h_b1_thorns_cells p2 p3 v_a_cut v_a_areTwoKinds f_a_ways v_b1_butts_rows v_b1_play_rows v_b1_thorns_rows f_b1_butts_cells f_b1_play_cells f_b1_thorns_cells 6 [(0, .ref h_a), (1, .ref h_b1), (2, .int p2), (3, .int p3), (4, .int p.1), (5, .int p.2.1)] [] p.2.2 (fX0_matches_b6 u p2 p3 f_a_ways v_b1_butts_rows v_b1_play_rows v_b1_thorns_rows f_b1_butts_cells f_b1_play_cells f_b1_thorns_cells rec6 p) := by
  unfold fX0_matches_b6
  refine j_iload (pc := 6) hC 5 rfl dX0_matches_6 ?_
  refine j_bipush (pc := 8) hC kb_64 dX0_matches_8 ?_
  refine j_icmpge (pc := 10) hC 27 (by decide) dX0_matches_10 ?_ ?_
  · refine j_aload_n (pc := 27) hC 0 rfl dX0_matches_27 ?_
    refine j_get (pc := 28) hC flRX0_15 0 rfl rfl dX0_matches_28 ?_
    refine j_iconst (pc := 31) hC ki_0 dX0_matches_31 ?_
    refine j_iconst (pc := 32) hC ki_1 dX0_matches_32 ?_
    refine j_iast (pc := 33) hC 2 rfl dX0_matches_33 (fun g1 => (rfl : @Eq va_W _ [(h_a, .inr (0, [.ref h_a_sorted, .ref h_a_ways, .int v_a_cut, .int v_a_areTwoKinds])), (h_b1, .inr (6, [.ref h_b1_arms, .ref h_b1_hooks, .ref h_b1_darts, .ref h_b1_stories, .ref h_b1_tries, .ref h_b1_people, .ref h_b1_praise, .ref h_b1_thorns, .ref h_b1_butts, .ref h_b1_play, .ref h_b1_sorts, .ref h_b1_layers, .ref h_b1_plan])), (h_a_ways, .inl (jy X 0, 64, .inl g1)), (h_b1_butts, .inr (7, [.int (1 : Int32), .ref h_b1_butts_cells, .int v_b1_butts_rows])), (h_b1_play, .inr (7, [.int (1 : Int32), .ref h_b1_play_cells, .int v_b1_play_rows])), (h_b1_thorns, .inr (7, [.int (4 : Int32), .ref h_b1_thorns_cells, .int v_b1_thorns_rows])), (h_b1_butts_cells, .inl (jy X 0, 6, .inl f_b1_butts_cells)), (h_b1_play_cells, .inl (jy X 0, 1, .inl f_b1_play_cells)), (h_b1_thorns_cells, .inl (jy X 0, 48, .inl f_b1_thorns_cells))])) (fun g1 => ?_)
    refine j_iconst (pc := 34) hC ki_0 dX0_matches_34 ?_
    refine j_istore (pc := 35) hC (lv' := [(5, .int (0 : Int32)), (0, .ref h_a), (1, .ref h_b1), (2, .int p2), (3, .int p3), (4, .int p.1)]) rfl (by decide) dX0_matches_35 ?_
    refine j_lv (pc := 37) [1, 2, 3, 4, 5, 0] rfl ?_
    exact jX0_matches_b37 hC u h_a h_a_sorted h_a_ways h_b1 h_b1_arms h_b1_hooks h_b1_darts h_b1_stories h_b1_tries h_b1_people h_b1_praise h_b1_thorns h_b1_butts h_b1_play h_b1_sorts h_b1_layers h_b1_plan h_b1_butts_cells h_b1_play_cells h_b1_thorns_cells p2 p3 v_a_cut v_a_areTwoKinds f_a_ways v_b1_butts_rows v_b1_play_rows v_b1_thorns_rows f_b1_butts_cells f_b1_play_cells f_b1_thorns_cells (p.1, (0 : Int32), g1)
  · refine j_aload_n (pc := 13) hC 0 rfl dX0_matches_13 ?_
    refine j_get (pc := 14) hC flRX0_15 0 rfl rfl dX0_matches_14 ?_
    refine j_iload (pc := 17) hC 5 rfl dX0_matches_17 ?_
    refine j_iconst (pc := 19) hC ki_0 dX0_matches_19 ?_
    refine j_iast (pc := 20) hC 2 rfl dX0_matches_20 (fun g6 => (rfl : @Eq va_W _ [(h_a, .inr (0, [.ref h_a_sorted, .ref h_a_ways, .int v_a_cut, .int v_a_areTwoKinds])), (h_b1, .inr (6, [.ref h_b1_arms, .ref h_b1_hooks, .ref h_b1_darts, .ref h_b1_stories, .ref h_b1_tries, .ref h_b1_people, .ref h_b1_praise, .ref h_b1_thorns, .ref h_b1_butts, .ref h_b1_play, .ref h_b1_sorts, .ref h_b1_layers, .ref h_b1_plan])), (h_a_ways, .inl (jy X 0, 64, .inl g6)), (h_b1_butts, .inr (7, [.int (1 : Int32), .ref h_b1_butts_cells, .int v_b1_butts_rows])), (h_b1_play, .inr (7, [.int (1 : Int32), .ref h_b1_play_cells, .int v_b1_play_rows])), (h_b1_thorns, .inr (7, [.int (4 : Int32), .ref h_b1_thorns_cells, .int v_b1_thorns_rows])), (h_b1_butts_cells, .inl (jy X 0, 6, .inl f_b1_butts_cells)), (h_b1_play_cells, .inl (jy X 0, 1, .inl f_b1_play_cells)), (h_b1_thorns_cells, .inl (jy X 0, 48, .inl f_b1_thorns_cells))])) (fun g6 => ?_)
    refine j_iinc (pc := 21) hC 5 rfl ki_1 (fun x7 => (rfl : @Eq (List (Nat × Value)) _ [(5, .int x7), (0, .ref h_a), (1, .ref h_b1), (2, .int p2), (3, .int p3), (4, .int p.1)])) (by decide) dX0_matches_21 (fun x7 => ?_)
    refine j_goto (pc := 24) hC 6 (by decide) dX0_matches_24 ?_
    refine j_lv (pc := 6) [1, 2, 3, 4, 5, 0] rfl ?_
    exact hrec6 (p.1, x7, g6)
set_option maxHeartbeats 4000000 in
set_option maxRecDepth 100000 in
theorem jX0_matches_b6 {X : jX} (hC : jC X cX0_matches 7 RX0 rX0_matches (some .int)) (u : Nat) (h_a h_a_sorted h_a_ways h_b1 h_b1_arms h_b1_hooks h_b1_darts h_b1_stories h_b1_tries h_b1_people h_b1_praise h_b1_thorns h_b1_butts h_b1_play h_b1_sorts h_b1_layers h_b1_plan h_b1_butts_cells h_b1_play_cells h_b1_thorns_cells : Nat) (p2 p3 v_a_cut v_a_areTwoKinds : Int32) (f_a_ways : Nat → Int32) (v_b1_butts_rows v_b1_play_rows v_b1_thorns_rows : Int32) (f_b1_butts_cells f_b1_play_cells f_b1_thorns_cells : Nat → Int32) (p : Int32 × Int32 × (Nat → Int32)) : gX0_matches X h_a h_a_sorted h_a_ways h_b1 h_b1_arms h_b1_hooks h_b1_darts h_b1_stories h_b1_tries h_b1_people h_b1_praise h_b1_thorns h_b1_butts h_b1_play h_b1_sorts h_b1_layers h_b1_plan h_b1_butts_cells h_b1_play_cells h_b1_thorns_cells p2 p3 v_a_cut v_a_areTwoKinds f_a_ways v_b1_butts_rows v_b1_play_rows v_b1_thorns_rows f_b1_butts_cells f_b1_play_cells f_b1_thorns_cells 6 [(0, .ref h_a), (1, .ref h_b1), (2, .int p2), (3, .int p3), (4, .int p.1), (5, .int p.2.1)] [] p.2.2 (jfix (fX0_matches_b6 u p2 p3 f_a_ways v_b1_butts_rows v_b1_play_rows v_b1_thorns_rows f_b1_butts_cells f_b1_play_cells f_b1_thorns_cells) u p) :=
  j_fix (fun rec6 hrec6 p => jX0_matches_b6_step hC u h_a h_a_sorted h_a_ways h_b1 h_b1_arms h_b1_hooks h_b1_darts h_b1_stories h_b1_tries h_b1_people h_b1_praise h_b1_thorns h_b1_butts h_b1_play h_b1_sorts h_b1_layers h_b1_plan h_b1_butts_cells h_b1_play_cells h_b1_thorns_cells p2 p3 v_a_cut v_a_areTwoKinds f_a_ways v_b1_butts_rows v_b1_play_rows v_b1_thorns_rows f_b1_butts_cells f_b1_play_cells f_b1_thorns_cells rec6 hrec6 p) u p
set_option maxHeartbeats 4000000 in
set_option maxRecDepth 100000 in
theorem jX0_matches {X : jX} (hC : jC X cX0_matches 7 RX0 rX0_matches (some .int)) (u : Nat) (h_a h_a_sorted h_a_ways h_b1 h_b1_arms h_b1_hooks h_b1_darts h_b1_stories h_b1_tries h_b1_people h_b1_praise h_b1_thorns h_b1_butts h_b1_play h_b1_sorts h_b1_layers h_b1_plan h_b1_butts_cells h_b1_play_cells h_b1_thorns_cells : Nat) (p2 p3 v_a_cut v_a_areTwoKinds : Int32) (f_a_ways : Nat → Int32) (v_b1_butts_rows v_b1_play_rows v_b1_thorns_rows : Int32) (f_b1_butts_cells f_b1_play_cells f_b1_thorns_cells : Nat → Int32) : gX0_matches X h_a h_a_sorted h_a_ways h_b1 h_b1_arms h_b1_hooks h_b1_darts h_b1_stories h_b1_tries h_b1_people h_b1_praise h_b1_thorns h_b1_butts h_b1_play h_b1_sorts h_b1_layers h_b1_plan h_b1_butts_cells h_b1_play_cells h_b1_thorns_cells p2 p3 v_a_cut v_a_areTwoKinds f_a_ways v_b1_butts_rows v_b1_play_rows v_b1_thorns_rows f_b1_butts_cells f_b1_play_cells f_b1_thorns_cells 0 [(0, .ref h_a), (1, .ref h_b1), (2, .int p2), (3, .int p3)] [] f_a_ways (fX0_matches u p2 p3 f_a_ways v_b1_butts_rows v_b1_play_rows v_b1_thorns_rows f_b1_butts_cells f_b1_play_cells f_b1_thorns_cells) := by
  unfold fX0_matches
  refine j_iconst (pc := 0) hC ki_0 dX0_matches_0 ?_
  refine j_istore (pc := 1) hC (lv' := [(4, .int (0 : Int32)), (0, .ref h_a), (1, .ref h_b1), (2, .int p2), (3, .int p3)]) rfl (by decide) dX0_matches_1 ?_
  refine j_iconst (pc := 3) hC ki_0 dX0_matches_3 ?_
  refine j_istore (pc := 4) hC (lv' := [(5, .int (0 : Int32)), (4, .int (0 : Int32)), (0, .ref h_a), (1, .ref h_b1), (2, .int p2), (3, .int p3)]) rfl (by decide) dX0_matches_4 ?_
  refine j_lv (pc := 6) [2, 3, 4, 5, 1, 0] rfl ?_
  exact jX0_matches_b6 hC u h_a h_a_sorted h_a_ways h_b1 h_b1_arms h_b1_hooks h_b1_darts h_b1_stories h_b1_tries h_b1_people h_b1_praise h_b1_thorns h_b1_butts h_b1_play h_b1_sorts h_b1_layers h_b1_plan h_b1_butts_cells h_b1_play_cells h_b1_thorns_cells p2 p3 v_a_cut v_a_areTwoKinds f_a_ways v_b1_butts_rows v_b1_play_rows v_b1_thorns_rows f_b1_butts_cells f_b1_play_cells f_b1_thorns_cells ((0 : Int32), (0 : Int32), f_a_ways)
set_option maxHeartbeats 4000000 in
set_option maxRecDepth 100000 in
theorem mX0_matches (l : Launch) (D : va_G) (cy : Nat → ClassId) (ev : jE) (u : Nat) (h_a h_a_sorted h_a_ways h_b1 h_b1_arms h_b1_hooks h_b1_darts h_b1_stories h_b1_tries h_b1_people h_b1_praise h_b1_thorns h_b1_butts h_b1_play h_b1_sorts h_b1_layers h_b1_plan h_b1_butts_cells h_b1_play_cells h_b1_thorns_cells : Nat) (p2 p3 v_a_cut v_a_areTwoKinds : Int32) (f_a_ways : Nat → Int32) (v_b1_butts_rows v_b1_play_rows v_b1_thorns_rows : Int32) (f_b1_butts_cells f_b1_play_cells f_b1_thorns_cells : Nat → Int32) : jM l yX0_matches cX0_matches 7 (some .int) rX0_matches [.ref h_a, .ref h_b1, .int p2, .int p3] [(h_a, .inr (0, [.ref h_a_sorted, .ref h_a_ways, .int v_a_cut, .int v_a_areTwoKinds])), (h_b1, .inr (6, [.ref h_b1_arms, .ref h_b1_hooks, .ref h_b1_darts, .ref h_b1_stories, .ref h_b1_tries, .ref h_b1_people, .ref h_b1_praise, .ref h_b1_thorns, .ref h_b1_butts, .ref h_b1_play, .ref h_b1_sorts, .ref h_b1_layers, .ref h_b1_plan])), (h_a_ways, .inl (cy 0, 64, .inl f_a_ways)), (h_b1_butts, .inr (7, [.int (1 : Int32), .ref h_b1_butts_cells, .int v_b1_butts_rows])), (h_b1_play, .inr (7, [.int (1 : Int32), .ref h_b1_play_cells, .int v_b1_play_rows])), (h_b1_thorns, .inr (7, [.int (4 : Int32), .ref h_b1_thorns_cells, .int v_b1_thorns_rows])), (h_b1_butts_cells, .inl (cy 0, 6, .inl f_b1_butts_cells)), (h_b1_play_cells, .inl (cy 0, 1, .inl f_b1_play_cells)), (h_b1_thorns_cells, .inl (cy 0, 48, .inl f_b1_thorns_cells))] (fun (r : Int32 × (Nat → Int32)) (_ : Nat → Nat) => [(h_a, .inr (0, [.ref h_a_sorted, .ref h_a_ways, .int v_a_cut, .int v_a_areTwoKinds])), (h_b1, .inr (6, [.ref h_b1_arms, .ref h_b1_hooks, .ref h_b1_darts, .ref h_b1_stories, .ref h_b1_tries, .ref h_b1_people, .ref h_b1_praise, .ref h_b1_thorns, .ref h_b1_butts, .ref h_b1_play, .ref h_b1_sorts, .ref h_b1_layers, .ref h_b1_plan])), (h_a_ways, .inl (cy 0, 64, .inl r.2)), (h_b1_butts, .inr (7, [.int (1 : Int32), .ref h_b1_butts_cells, .int v_b1_butts_rows])), (h_b1_play, .inr (7, [.int (1 : Int32), .ref h_b1_play_cells, .int v_b1_play_rows])), (h_b1_thorns, .inr (7, [.int (4 : Int32), .ref h_b1_thorns_cells, .int v_b1_thorns_rows])), (h_b1_butts_cells, .inl (cy 0, 6, .inl f_b1_butts_cells)), (h_b1_play_cells, .inl (cy 0, 1, .inl f_b1_play_cells)), (h_b1_thorns_cells, .inl (cy 0, 48, .inl f_b1_thorns_cells))]) (fun (r : Int32 × (Nat → Int32)) => some (.int r.1)) (fX0_matches u p2 p3 f_a_ways v_b1_butts_rows v_b1_play_rows v_b1_thorns_rows f_b1_butts_cells f_b1_play_cells f_b1_thorns_cells) D cy ev := j_met RX0 (by decide +kernel) rfl (Nat.le_of_ble_eq_true rfl) (fun X hC _ hD hy hv => by subst hD; subst hy; subst hv; exact jX0_matches hC u h_a h_a_sorted h_a_ways h_b1 h_b1_arms h_b1_hooks h_b1_darts h_b1_stories h_b1_tries h_b1_people h_b1_praise h_b1_thorns h_b1_butts h_b1_play h_b1_sorts h_b1_layers h_b1_plan h_b1_butts_cells h_b1_play_cells h_b1_thorns_cells p2 p3 v_a_cut v_a_areTwoKinds f_a_ways v_b1_butts_rows v_b1_play_rows v_b1_thorns_rows f_b1_butts_cells f_b1_play_cells f_b1_thorns_cells)
abbrev gX3_pushUp (X : jX) (h_a h_a_limbs : Nat) (p1 : Int64) (v_a_size : Int32) (f_a_limbs : Nat → Int32) (pc : Nat) (lv : List (Nat × Value)) (st : List Value) (w0 : Int32) (w1 : Nat → Int32) (e : Option (Int32 × (Nat → Int32))) : Prop := jJ (ρ := Int32 × (Nat → Int32)) X 5 0 0 (jQf X 0 0 (fun (_ : Int32 × (Nat → Int32)) => none) (fun (r : Int32 × (Nat → Int32)) (_ : Nat → Nat) => [(h_a, .inr (3, [.ref h_a_limbs, .int r.1])), (h_a_limbs, .inl (jy X 0, 6, .inl r.2))])) pc lv st [(h_a, .inr (3, [.ref h_a_limbs, .int w0])), (h_a_limbs, .inl (jy X 0, 6, .inl w1))] (e)
set_option maxHeartbeats 4000000 in
set_option maxRecDepth 100000 in
theorem jX3_pushUp_b2_step {X : jX} (hC : jC X cX3_pushUp 5 RX3 rX3_pushUp none) (u : Nat) (h_a h_a_limbs : Nat) (p1 : Int64) (v_a_size : Int32) (f_a_limbs : Nat → Int32) (rec2 : (Int64 × Int32 × (Nat → Int32)) → Option (Int32 × (Nat → Int32))) (hrec2 : ∀ p : Int64 × Int32 × (Nat → Int32), gX3_pushUp X h_a h_a_limbs p1 v_a_size f_a_limbs 2 [(0, .ref h_a), (3, .long p.1)] [] p.2.1 p.2.2 (rec2 p)) (p : Int64 × Int32 × (Nat → Int32)) : gX3_pushUp X h_a h_a_limbs p1 v_a_size f_a_limbs 2 [(0, .ref h_a), (3, .long p.1)] [] p.2.1 p.2.2 (fX3_pushUp_b2 u p1 v_a_size f_a_limbs rec2 p) := by
  unfold fX3_pushUp_b2
  refine j_lload_n (pc := 2) hC 1 rfl dX3_pushUp_2 ?_
  refine j_lconst (pc := 3) hC (v := (0 : Int64)) rfl dX3_pushUp_3 ?_
  refine j_lcmp (pc := 4) hC dX3_pushUp_4 ?_
  refine j_ifle (pc := 5) hC 53 (by decide) dX3_pushUp_5 ?_ ?_
  · exact j_vret (pc := 53) hC (fun _ => 0) rfl rfl dX3_pushUp_53
  · refine j_aload_n (pc := 8) hC 0 rfl dX3_pushUp_8 ?_
    refine j_get (pc := 9) hC flRX3_13 0 rfl rfl dX3_pushUp_9 ?_
    refine j_aload_n (pc := 12) hC 0 rfl dX3_pushUp_12 ?_
    refine j_get (pc := 13) hC flRX3_7 0 rfl rfl dX3_pushUp_13 ?_
    refine j_alen (pc := 16) hC 1 0 rfl rfl (v := (6 : Int32)) rfl dX3_pushUp_16 ?_
    refine j_icmpge (pc := 17) hC 53 (by decide) dX3_pushUp_17 ?_ ?_
    · exact j_vret (pc := 53) hC (fun _ => 0) rfl rfl dX3_pushUp_53
    · refine j_aload_n (pc := 20) hC 0 rfl dX3_pushUp_20 ?_
      refine j_get (pc := 21) hC flRX3_7 0 rfl rfl dX3_pushUp_21 ?_
      refine j_aload_n (pc := 24) hC 0 rfl dX3_pushUp_24 ?_
      refine j_get (pc := 25) hC flRX3_13 0 rfl rfl dX3_pushUp_25 ?_
      refine j_lload_n (pc := 28) hC 1 rfl dX3_pushUp_28 ?_
      refine j_ldc2 (pc := 29) hC wm345 dX3_pushUp_29 ?_
      refine j_land (pc := 32) hC dX3_pushUp_32 ?_
      refine j_l2i (pc := 33) hC dX3_pushUp_33 ?_
      refine j_iast (pc := 34) hC 1 rfl dX3_pushUp_34 (fun g1 => (rfl : @Eq va_W _ [(h_a, .inr (3, [.ref h_a_limbs, .int p.2.1])), (h_a_limbs, .inl (jy X 0, 6, .inl g1))])) (fun g1 => ?_)
      refine j_lload_n (pc := 35) hC 1 rfl dX3_pushUp_35 ?_
      refine j_bipush (pc := 36) hC kb_30 dX3_pushUp_36 ?_
      refine j_lshr (pc := 38) hC dX3_pushUp_38 ?_
      refine j_letl (pc := 39) (fun x2 => ?_)
      refine j_lstore_n (pc := 39) hC (lv' := [(3, .long x2), (0, .ref h_a)]) rfl (by decide) dX3_pushUp_39 ?_
      refine j_aload_n (pc := 40) hC 1 rfl dX3_pushUp_40 ?_
      refine j_dup (pc := 41) hC rfl dX3_pushUp_41 ?_
      refine j_get (pc := 42) hC flRX3_13 0 rfl rfl dX3_pushUp_42 ?_
      refine j_iconst (pc := 45) hC ki_1 dX3_pushUp_45 ?_
      refine j_iadd (pc := 46) hC dX3_pushUp_46 ?_
      refine j_let (pc := 47) (fun x3 => ?_)
      refine j_put (pc := 47) hC fpRX3_13 0 rfl rfl rfl (Nat.le_of_ble_eq_true rfl) dX3_pushUp_47 (ws' := [(h_a, .inr (3, [.ref h_a_limbs, .int x3])), (h_a_limbs, .inl (jy X 0, 6, .inl g1))]) rfl ?_
      refine j_goto (pc := 50) hC 2 (by decide) dX3_pushUp_50 ?_
      refine j_lv (pc := 2) [1, 0] rfl ?_
      exact hrec2 (x2, x3, g1)
set_option maxHeartbeats 4000000 in
set_option maxRecDepth 100000 in
theorem jX3_pushUp_b2 {X : jX} (hC : jC X cX3_pushUp 5 RX3 rX3_pushUp none) (u : Nat) (h_a h_a_limbs : Nat) (p1 : Int64) (v_a_size : Int32) (f_a_limbs : Nat → Int32) (p : Int64 × Int32 × (Nat → Int32)) : gX3_pushUp X h_a h_a_limbs p1 v_a_size f_a_limbs 2 [(0, .ref h_a), (3, .long p.1)] [] p.2.1 p.2.2 (jfix (fX3_pushUp_b2 u p1 v_a_size f_a_limbs) u p) :=
  j_fix (fun rec2 hrec2 p => jX3_pushUp_b2_step hC u h_a h_a_limbs p1 v_a_size f_a_limbs rec2 hrec2 p) u p
set_option maxHeartbeats 4000000 in
set_option maxRecDepth 100000 in
theorem jX3_pushUp {X : jX} (hC : jC X cX3_pushUp 5 RX3 rX3_pushUp none) (u : Nat) (h_a h_a_limbs : Nat) (p1 : Int64) (v_a_size : Int32) (f_a_limbs : Nat → Int32) : gX3_pushUp X h_a h_a_limbs p1 v_a_size f_a_limbs 0 [(0, .ref h_a), (1, .long p1)] [] v_a_size f_a_limbs (fX3_pushUp u p1 v_a_size f_a_limbs) := by
  unfold fX3_pushUp
  refine j_lload_n (pc := 0) hC 1 rfl dX3_pushUp_0 ?_
  refine j_lstore_n (pc := 1) hC (lv' := [(3, .long p1), (0, .ref h_a), (1, .long p1)]) rfl (by decide) dX3_pushUp_1 ?_
  refine j_lv (pc := 2) [1, 0] rfl ?_
  exact jX3_pushUp_b2 hC u h_a h_a_limbs p1 v_a_size f_a_limbs (p1, v_a_size, f_a_limbs)
set_option maxHeartbeats 4000000 in
set_option maxRecDepth 100000 in
theorem mX3_pushUp (l : Launch) (D : va_G) (cy : Nat → ClassId) (ev : jE) (u : Nat) (h_a h_a_limbs : Nat) (p1 : Int64) (v_a_size : Int32) (f_a_limbs : Nat → Int32) : jM l yX3_pushUp cX3_pushUp 5 none rX3_pushUp [.ref h_a, .long p1] [(h_a, .inr (3, [.ref h_a_limbs, .int v_a_size])), (h_a_limbs, .inl (cy 0, 6, .inl f_a_limbs))] (fun (r : Int32 × (Nat → Int32)) (_ : Nat → Nat) => [(h_a, .inr (3, [.ref h_a_limbs, .int r.1])), (h_a_limbs, .inl (cy 0, 6, .inl r.2))]) (fun (_ : Int32 × (Nat → Int32)) => none) (fX3_pushUp u p1 v_a_size f_a_limbs) D cy ev := j_met RX3 (by decide +kernel) rfl (Nat.le_of_ble_eq_true rfl) (fun X hC _ hD hy hv => by subst hD; subst hy; subst hv; exact jX3_pushUp hC u h_a h_a_limbs p1 v_a_size f_a_limbs)
abbrev gX3_set (X : jX) (h_a h_a_limbs : Nat) (p1 : Int64) (v_a_size : Int32) (f_a_limbs : Nat → Int32) (pc : Nat) (lv : List (Nat × Value)) (st : List Value) (w0 : Int32) (w1 : Nat → Int32) (e : Option (Int32 × (Nat → Int32))) : Prop := jJ (ρ := Int32 × (Nat → Int32)) X 3 0 0 (jQf X 0 0 (fun (_ : Int32 × (Nat → Int32)) => none) (fun (r : Int32 × (Nat → Int32)) (_ : Nat → Nat) => [(h_a, .inr (3, [.ref h_a_limbs, .int r.1])), (h_a_limbs, .inl (jy X 0, 6, .inl r.2))])) pc lv st [(h_a, .inr (3, [.ref h_a_limbs, .int w0])), (h_a_limbs, .inl (jy X 0, 6, .inl w1))] (e)
set_option maxHeartbeats 4000000 in
set_option maxRecDepth 100000 in
theorem jX3_set {X : jX} (hC : jC X cX3_set 3 RX3 rX3_set none) (u : Nat) (h_a h_a_limbs : Nat) (p1 : Int64) (v_a_size : Int32) (f_a_limbs : Nat → Int32) : gX3_set X h_a h_a_limbs p1 v_a_size f_a_limbs 0 [(0, .ref h_a), (1, .long p1)] [] v_a_size f_a_limbs (fX3_set u p1 v_a_size f_a_limbs) := by
  unfold fX3_set
  refine j_aload_n (pc := 0) hC 0 rfl dX3_set_0 ?_
  refine j_iconst (pc := 1) hC ki_0 dX3_set_1 ?_
  refine j_put (pc := 2) hC fpRX3_13 0 rfl rfl rfl (Nat.le_of_ble_eq_true rfl) dX3_set_2 (ws' := [(h_a, .inr (3, [.ref h_a_limbs, .int (0 : Int32)])), (h_a_limbs, .inl (jy X 0, 6, .inl f_a_limbs))]) rfl ?_
  refine j_aload_n (pc := 5) hC 0 rfl dX3_set_5 ?_
  refine j_lload_n (pc := 6) hC 1 rfl dX3_set_6 ?_
  refine j_callV (pc := 7) hC csRX3_17 [.long p1] (mX3_pushUp (jl X) (jD X) (jy X) (jv X) u h_a h_a_limbs p1 (0 : Int32) f_a_limbs) [0, 1] rfl (by decide +kernel) 0 rfl ⟨_, _, rfl⟩ ⟨by decide, by decide, rfl, rfl, by decide, by decide⟩ rfl rfl (Nat.le_of_ble_eq_true rfl) dX3_set_7 (jkv (fun r1 _ => (rfl : @Eq va_W _ [(h_a, .inr (3, [.ref h_a_limbs, .int r1.1])), (h_a_limbs, .inl (jy X 0, 6, .inl r1.2))])) (fun r1 => ?_))
  exact j_vret (pc := 10) hC (fun _ => 0) rfl rfl dX3_set_10
set_option maxHeartbeats 4000000 in
set_option maxRecDepth 100000 in
theorem mX3_set (l : Launch) (D : va_G) (cy : Nat → ClassId) (ev : jE) (u : Nat) (h_a h_a_limbs : Nat) (p1 : Int64) (v_a_size : Int32) (f_a_limbs : Nat → Int32) : jM l yX3_set cX3_set 3 none rX3_set [.ref h_a, .long p1] [(h_a, .inr (3, [.ref h_a_limbs, .int v_a_size])), (h_a_limbs, .inl (cy 0, 6, .inl f_a_limbs))] (fun (r : Int32 × (Nat → Int32)) (_ : Nat → Nat) => [(h_a, .inr (3, [.ref h_a_limbs, .int r.1])), (h_a_limbs, .inl (cy 0, 6, .inl r.2))]) (fun (_ : Int32 × (Nat → Int32)) => none) (fX3_set u p1 v_a_size f_a_limbs) D cy ev := j_met RX3 (by decide +kernel) rfl (Nat.le_of_ble_eq_true rfl) (fun X hC _ hD hy hv => by subst hD; subst hy; subst hv; exact jX3_set hC u h_a h_a_limbs p1 v_a_size f_a_limbs)
abbrev gX1_commonDivisor (X : jX) (p0 p2 : Int64) (pc : Nat) (lv : List (Nat × Value)) (st : List Value) (e : Option (Int64)) : Prop := jJ (ρ := Int64) X 11 0 0 (jQf X 0 0 (fun (r : Int64) => some (.long r)) (fun (_ : Int64) (_ : Nat → Nat) => [])) pc lv st [] (e)
set_option maxHeartbeats 4000000 in
set_option maxRecDepth 100000 in
theorem jX1_commonDivisor_b9_step {X : jX} (hC : jC X cX1_commonDivisor 11 RX1 rX1_commonDivisor (some .long)) (u : Nat) (p0 p2 : Int64) (rec9 : (Int64 × Int64 × Int32) → Option (Int64)) (hrec9 : ∀ p : Int64 × Int64 × Int32, gX1_commonDivisor X p0 p2 9 [(4, .long p.1), (6, .long p.2.1), (8, .int p.2.2)] [] (rec9 p)) (p : Int64 × Int64 × Int32) : gX1_commonDivisor X p0 p2 9 [(4, .long p.1), (6, .long p.2.1), (8, .int p.2.2)] [] (fX1_commonDivisor_b9 u p0 p2 rec9 p) := by
  unfold fX1_commonDivisor_b9
  refine j_iload (pc := 9) hC 2 rfl dX1_commonDivisor_9 ?_
  refine j_sipush (pc := 11) hC ks_1000 dX1_commonDivisor_11 ?_
  refine j_icmpge (pc := 14) hC 45 (by decide) dX1_commonDivisor_14 ?_ ?_
  · refine j_lload (pc := 45) hC 0 rfl dX1_commonDivisor_45 ?_
    exact j_lret (pc := 47) hC (fun _ => 0) rfl rfl dX1_commonDivisor_47
  · refine j_lload (pc := 17) hC 1 rfl dX1_commonDivisor_17 ?_
    refine j_lconst (pc := 19) hC (v := (0 : Int64)) rfl dX1_commonDivisor_19 ?_
    refine j_lcmp (pc := 20) hC dX1_commonDivisor_20 ?_
    refine j_ifeq (pc := 21) hC 45 (by decide) dX1_commonDivisor_21 ?_ ?_
    · refine j_lload (pc := 45) hC 0 rfl dX1_commonDivisor_45 ?_
      exact j_lret (pc := 47) hC (fun _ => 0) rfl rfl dX1_commonDivisor_47
    · refine j_lload (pc := 24) hC 0 rfl dX1_commonDivisor_24 ?_
      refine j_lload (pc := 26) hC 1 rfl dX1_commonDivisor_26 ?_
      refine j_lrem (pc := 28) hC dX1_commonDivisor_28 ?_
      refine j_letl (pc := 29) (fun x1 => ?_)
      refine j_lstore (pc := 29) hC (lv' := [(9, .long x1), (4, .long p.1), (6, .long p.2.1), (8, .int p.2.2)]) rfl (by decide) dX1_commonDivisor_29 ?_
      refine j_lload (pc := 31) hC 2 rfl dX1_commonDivisor_31 ?_
      refine j_lstore (pc := 33) hC (lv' := [(4, .long p.2.1), (9, .long x1), (6, .long p.2.1), (8, .int p.2.2)]) rfl (by decide) dX1_commonDivisor_33 ?_
      refine j_lload (pc := 35) hC 1 rfl dX1_commonDivisor_35 ?_
      refine j_lstore (pc := 37) hC (lv' := [(6, .long x1), (4, .long p.2.1), (9, .long x1), (8, .int p.2.2)]) rfl (by decide) dX1_commonDivisor_37 ?_
      refine j_iinc (pc := 39) hC 3 rfl ki_1 (fun x2 => (rfl : @Eq (List (Nat × Value)) _ [(8, .int x2), (6, .long x1), (4, .long p.2.1), (9, .long x1)])) (by decide) dX1_commonDivisor_39 (fun x2 => ?_)
      refine j_goto (pc := 42) hC 9 (by decide) dX1_commonDivisor_42 ?_
      refine j_lv (pc := 9) [2, 1, 0] rfl ?_
      exact hrec9 (p.2.1, x1, x2)
set_option maxHeartbeats 4000000 in
set_option maxRecDepth 100000 in
theorem jX1_commonDivisor_b9 {X : jX} (hC : jC X cX1_commonDivisor 11 RX1 rX1_commonDivisor (some .long)) (u : Nat) (p0 p2 : Int64) (p : Int64 × Int64 × Int32) : gX1_commonDivisor X p0 p2 9 [(4, .long p.1), (6, .long p.2.1), (8, .int p.2.2)] [] (jfix (fX1_commonDivisor_b9 u p0 p2) u p) :=
  j_fix (fun rec9 hrec9 p => jX1_commonDivisor_b9_step hC u p0 p2 rec9 hrec9 p) u p
set_option maxHeartbeats 4000000 in
set_option maxRecDepth 100000 in
theorem jX1_commonDivisor {X : jX} (hC : jC X cX1_commonDivisor 11 RX1 rX1_commonDivisor (some .long)) (u : Nat) (p0 p2 : Int64) : gX1_commonDivisor X p0 p2 0 [(0, .long p0), (2, .long p2)] [] (fX1_commonDivisor u p0 p2) := by
  unfold fX1_commonDivisor
  refine j_lload_n (pc := 0) hC 0 rfl dX1_commonDivisor_0 ?_
  refine j_lstore (pc := 1) hC (lv' := [(4, .long p0), (0, .long p0), (2, .long p2)]) rfl (by decide) dX1_commonDivisor_1 ?_
  refine j_lload_n (pc := 3) hC 2 rfl dX1_commonDivisor_3 ?_
  refine j_lstore (pc := 4) hC (lv' := [(6, .long p2), (4, .long p0), (0, .long p0), (2, .long p2)]) rfl (by decide) dX1_commonDivisor_4 ?_
  refine j_iconst (pc := 6) hC ki_0 dX1_commonDivisor_6 ?_
  refine j_istore (pc := 7) hC (lv' := [(8, .int (0 : Int32)), (6, .long p2), (4, .long p0), (0, .long p0), (2, .long p2)]) rfl (by decide) dX1_commonDivisor_7 ?_
  refine j_lv (pc := 9) [2, 1, 0] rfl ?_
  exact jX1_commonDivisor_b9 hC u p0 p2 (p0, p2, (0 : Int32))
set_option maxHeartbeats 4000000 in
set_option maxRecDepth 100000 in
theorem mX1_commonDivisor (l : Launch) (D : va_G) (cy : Nat → ClassId) (ev : jE) (u : Nat) (p0 p2 : Int64) : jM l yX1_commonDivisor cX1_commonDivisor 11 (some .long) rX1_commonDivisor [.long p0, .long p2] [] (fun (_ : Int64) (_ : Nat → Nat) => []) (fun (r : Int64) => some (.long r)) (fX1_commonDivisor u p0 p2) D cy ev := j_met RX1 (by decide +kernel) rfl (Nat.le_of_ble_eq_true rfl) (fun X hC _ hD hy hv => by subst hD; subst hy; subst hv; exact jX1_commonDivisor hC u p0 p2)
abbrev gJ13_compare_74951 (X : jX) (p0 p2 : Int64) (pc : Nat) (lv : List (Nat × Value)) (st : List Value) (e : Option (Int32)) : Prop := jJ (ρ := Int32) X 4 0 0 (jQf X 0 0 (fun (r : Int32) => some (.int r)) (fun (_ : Int32) (_ : Nat → Nat) => [])) pc lv st [] (e)
set_option maxHeartbeats 4000000 in
set_option maxRecDepth 100000 in
theorem jJ13_compare_74951 {X : jX} (hC : jC X cJ13_compare_74951 4 RJ13 rJ13_compare_74951 (some .int)) (p0 p2 : Int64) : gJ13_compare_74951 X p0 p2 0 [(0, .long p0), (2, .long p2)] [] (fJ13_compare_74951 p0 p2) := by
  unfold fJ13_compare_74951
  refine j_lload_n (pc := 0) hC 0 rfl dJ13_compare_74951_0 ?_
  refine j_lload_n (pc := 1) hC 1 rfl dJ13_compare_74951_1 ?_
  refine j_lcmp (pc := 2) hC dJ13_compare_74951_2 ?_
  refine j_ifge (pc := 3) hC 10 (by decide) dJ13_compare_74951_3 ?_ ?_
  · refine j_lload_n (pc := 10) hC 0 rfl dJ13_compare_74951_10 ?_
    refine j_lload_n (pc := 11) hC 1 rfl dJ13_compare_74951_11 ?_
    refine j_lcmp (pc := 12) hC dJ13_compare_74951_12 ?_
    refine j_ifne (pc := 13) hC 20 (by decide) dJ13_compare_74951_13 ?_ ?_
    · refine j_iconst (pc := 20) hC ki_1 dJ13_compare_74951_20 ?_
      exact j_iret (pc := 21) hC (fun _ => 0) rfl rfl dJ13_compare_74951_21
    · refine j_iconst (pc := 16) hC ki_0 dJ13_compare_74951_16 ?_
      refine j_goto (pc := 17) hC 21 (by decide) dJ13_compare_74951_17 ?_
      exact j_iret (pc := 21) hC (fun _ => 0) rfl rfl dJ13_compare_74951_21
  · refine j_iconst (pc := 6) hC ki_m1 dJ13_compare_74951_6 ?_
    refine j_goto (pc := 7) hC 21 (by decide) dJ13_compare_74951_7 ?_
    exact j_iret (pc := 21) hC (fun _ => 0) rfl rfl dJ13_compare_74951_21
set_option maxHeartbeats 4000000 in
set_option maxRecDepth 100000 in
theorem mJ13_compare_74951 (l : Launch) (D : va_G) (cy : Nat → ClassId) (ev : jE) (p0 p2 : Int64) : jM l yJ13_compare_74951 cJ13_compare_74951 4 (some .int) rJ13_compare_74951 [.long p0, .long p2] [] (fun (_ : Int32) (_ : Nat → Nat) => []) (fun (r : Int32) => some (.int r)) (fJ13_compare_74951 p0 p2) D cy ev := j_met RJ13 (by decide +kernel) rfl (Nat.le_of_ble_eq_true rfl) (fun X hC _ hD hy hv => by subst hD; subst hy; subst hv; exact jJ13_compare_74951 hC p0 p2)
abbrev gX1_set (X : jX) (h_a h_a_above h_a_below h_a_above_limbs h_a_below_limbs : Nat) (p1 p3 : Int64) (v_a_signum v_a_above_size v_a_below_size : Int32) (f_a_above_limbs f_a_below_limbs : Nat → Int32) (pc : Nat) (lv : List (Nat × Value)) (st : List Value) (w0 : Int32) (w1 : Int32) (w2 : Int32) (w3 : Nat → Int32) (w4 : Nat → Int32) (e : Option (Int32 × Int32 × Int32 × (Nat → Int32) × (Nat → Int32))) : Prop := jJ (ρ := Int32 × Int32 × Int32 × (Nat → Int32) × (Nat → Int32)) X 7 0 0 (jQf X 0 0 (fun (_ : Int32 × Int32 × Int32 × (Nat → Int32) × (Nat → Int32)) => none) (fun (r : Int32 × Int32 × Int32 × (Nat → Int32) × (Nat → Int32)) (_ : Nat → Nat) => [(h_a, .inr (1, [.int r.1, .ref h_a_above, .ref h_a_below])), (h_a_above, .inr (3, [.ref h_a_above_limbs, .int r.2.1])), (h_a_below, .inr (3, [.ref h_a_below_limbs, .int r.2.2.1])), (h_a_above_limbs, .inl (jy X 0, 6, .inl r.2.2.2.1)), (h_a_below_limbs, .inl (jy X 0, 6, .inl r.2.2.2.2))])) pc lv st [(h_a, .inr (1, [.int w0, .ref h_a_above, .ref h_a_below])), (h_a_above, .inr (3, [.ref h_a_above_limbs, .int w1])), (h_a_below, .inr (3, [.ref h_a_below_limbs, .int w2])), (h_a_above_limbs, .inl (jy X 0, 6, .inl w3)), (h_a_below_limbs, .inl (jy X 0, 6, .inl w4))] (e)
set_option maxHeartbeats 4000000 in
set_option maxRecDepth 100000 in
theorem jX1_set_b63 {X : jX} (hC : jC X cX1_set 7 RX1 rX1_set none) (u : Nat) (h_a h_a_above h_a_below h_a_above_limbs h_a_below_limbs : Nat) (p1 p3 : Int64) (v_a_signum v_a_above_size v_a_below_size : Int32) (f_a_above_limbs f_a_below_limbs : Nat → Int32) (p : Int64 × Int32 × Int32 × Int32 × (Nat → Int32) × (Nat → Int32)) : gX1_set X h_a h_a_above h_a_below h_a_above_limbs h_a_below_limbs p1 p3 v_a_signum v_a_above_size v_a_below_size f_a_above_limbs f_a_below_limbs 63 [] [.long p.1, .ref h_a_below] p.2.1 p.2.2.1 p.2.2.2.1 p.2.2.2.2.1 p.2.2.2.2.2 (fX1_set_b63 u p1 p3 v_a_signum v_a_above_size v_a_below_size f_a_above_limbs f_a_below_limbs p) := by
  unfold fX1_set_b63
  refine j_callV (pc := 63) hC csRX1_19 [.long p.1] (mX3_set (jl X) (jD X) (jy X) (jv X) u h_a_below h_a_below_limbs p.1 p.2.2.2.1 p.2.2.2.2.2) [2, 4] rfl (by decide +kernel) 2 rfl ⟨_, _, rfl⟩ ⟨by decide, by decide, rfl, rfl, by decide, by decide⟩ rfl rfl (Nat.le_of_ble_eq_true rfl) dX1_set_63 (jkv (fun r6 _ => (rfl : @Eq va_W _ [(h_a, .inr (1, [.int p.2.1, .ref h_a_above, .ref h_a_below])), (h_a_above, .inr (3, [.ref h_a_above_limbs, .int p.2.2.1])), (h_a_below, .inr (3, [.ref h_a_below_limbs, .int r6.1])), (h_a_above_limbs, .inl (jy X 0, 6, .inl p.2.2.2.2.1)), (h_a_below_limbs, .inl (jy X 0, 6, .inl r6.2))])) (fun r6 => ?_))
  exact j_vret (pc := 66) hC (fun _ => 0) rfl rfl dX1_set_66
set_option maxHeartbeats 4000000 in
set_option maxRecDepth 100000 in
theorem jX1_set_b41 {X : jX} (hC : jC X cX1_set 7 RX1 rX1_set none) (u : Nat) (h_a h_a_above h_a_below h_a_above_limbs h_a_below_limbs : Nat) (p1 p3 : Int64) (v_a_signum v_a_above_size v_a_below_size : Int32) (f_a_above_limbs f_a_below_limbs : Nat → Int32) (p : Int64 × Int64 × Int32 × Int32 × Int32 × (Nat → Int32) × (Nat → Int32)) : gX1_set X h_a h_a_above h_a_below h_a_above_limbs h_a_below_limbs p1 p3 v_a_signum v_a_above_size v_a_below_size f_a_above_limbs f_a_below_limbs 41 [(0, .ref h_a), (3, .long p3), (5, .long p.1)] [.long p.2.1, .ref h_a_above] p.2.2.1 p.2.2.2.1 p.2.2.2.2.1 p.2.2.2.2.2.1 p.2.2.2.2.2.2 (fX1_set_b41 u p1 p3 v_a_signum v_a_above_size v_a_below_size f_a_above_limbs f_a_below_limbs p) := by
  unfold fX1_set_b41
  refine j_callV (pc := 41) hC csRX1_19 [.long p.2.1] (mX3_set (jl X) (jD X) (jy X) (jv X) u h_a_above h_a_above_limbs p.2.1 p.2.2.2.1 p.2.2.2.2.2.1) [1, 3] rfl (by decide +kernel) 1 rfl ⟨_, _, rfl⟩ ⟨by decide, by decide, rfl, rfl, by decide, by decide⟩ rfl rfl (Nat.le_of_ble_eq_true rfl) dX1_set_41 (jkv (fun r5 _ => (rfl : @Eq va_W _ [(h_a, .inr (1, [.int p.2.2.1, .ref h_a_above, .ref h_a_below])), (h_a_above, .inr (3, [.ref h_a_above_limbs, .int r5.1])), (h_a_below, .inr (3, [.ref h_a_below_limbs, .int p.2.2.2.2.1])), (h_a_above_limbs, .inl (jy X 0, 6, .inl r5.2)), (h_a_below_limbs, .inl (jy X 0, 6, .inl p.2.2.2.2.2.2))])) (fun r5 => ?_))
  refine j_aload_n (pc := 44) hC 0 rfl dX1_set_44 ?_
  refine j_get (pc := 45) hC flRX1_16 0 rfl rfl dX1_set_45 ?_
  refine j_lload (pc := 48) hC 2 rfl dX1_set_48 ?_
  refine j_lconst (pc := 50) hC (v := (0 : Int64)) rfl dX1_set_50 ?_
  refine j_lcmp (pc := 51) hC dX1_set_51 ?_
  refine j_ifne (pc := 52) hC 59 (by decide) dX1_set_52 ?_ ?_
  · refine j_lload_n (pc := 59) hC 1 rfl dX1_set_59 ?_
    refine j_lload (pc := 60) hC 2 rfl dX1_set_60 ?_
    refine j_ldiv (pc := 62) hC dX1_set_62 ?_
    refine j_lv (pc := 63) [] rfl ?_
    exact jX1_set_b63 hC u h_a h_a_above h_a_below h_a_above_limbs h_a_below_limbs p1 p3 v_a_signum v_a_above_size v_a_below_size f_a_above_limbs f_a_below_limbs ((p3 / p.1), p.2.2.1, r5.1, p.2.2.2.2.1, r5.2, p.2.2.2.2.2.2)
  · refine j_lconst (pc := 55) hC (v := (1 : Int64)) rfl dX1_set_55 ?_
    refine j_goto (pc := 56) hC 63 (by decide) dX1_set_56 ?_
    refine j_lv (pc := 63) [] rfl ?_
    exact jX1_set_b63 hC u h_a h_a_above h_a_below h_a_above_limbs h_a_below_limbs p1 p3 v_a_signum v_a_above_size v_a_below_size f_a_above_limbs f_a_below_limbs ((1 : Int64), p.2.2.1, r5.1, p.2.2.2.2.1, r5.2, p.2.2.2.2.2.2)
set_option maxHeartbeats 4000000 in
set_option maxRecDepth 100000 in
theorem jX1_set {X : jX} (hC : jC X cX1_set 7 RX1 rX1_set none) (u : Nat) (h_a h_a_above h_a_below h_a_above_limbs h_a_below_limbs : Nat) (p1 p3 : Int64) (v_a_signum v_a_above_size v_a_below_size : Int32) (f_a_above_limbs f_a_below_limbs : Nat → Int32) : gX1_set X h_a h_a_above h_a_below h_a_above_limbs h_a_below_limbs p1 p3 v_a_signum v_a_above_size v_a_below_size f_a_above_limbs f_a_below_limbs 0 [(0, .ref h_a), (1, .long p1), (3, .long p3)] [] v_a_signum v_a_above_size v_a_below_size f_a_above_limbs f_a_below_limbs (fX1_set u p1 p3 v_a_signum v_a_above_size v_a_below_size f_a_above_limbs f_a_below_limbs) := by
  unfold fX1_set
  refine j_lload_n (pc := 0) hC 1 rfl dX1_set_0 ?_
  refine j_labs (pc := 1) hC wm567 wm568 wm84 wm569 (by decide) (Nat.le_of_ble_eq_true rfl) ⟨Nat.le_of_ble_eq_true rfl, Nat.le_of_ble_eq_true rfl⟩ dX1_set_1 ?_
  refine j_letl (pc := 4) (fun x1 => ?_)
  refine j_lload_n (pc := 4) hC 2 rfl dX1_set_4 ?_
  refine j_callS (pc := 5) hC csRX1_29 [.long x1, .long p3] (mX1_commonDivisor (jl X) (jD X) (jy X) (jv X) u x1 p3) [] rfl (by decide +kernel) ⟨by decide, by decide, rfl, rfl, by decide, by decide⟩ rfl rfl (Nat.le_of_ble_eq_true rfl) dX1_set_5 (jkl0 (fun _ => rfl) (fun _ _ => rfl) (fun r2 => ?_))
  refine j_lstore (pc := 8) hC (lv' := [(5, .long r2), (0, .ref h_a), (1, .long p1), (3, .long p3)]) rfl (by decide) dX1_set_8 ?_
  refine j_aload_n (pc := 10) hC 1 rfl dX1_set_10 ?_
  refine j_lload_n (pc := 11) hC 2 rfl dX1_set_11 ?_
  refine j_lconst (pc := 12) hC (v := (0 : Int64)) rfl dX1_set_12 ?_
  refine j_callS (pc := 13) hC csRX1_33 [.long p1, .long (0 : Int64)] (mJ13_compare_74951 (jl X) (jD X) (jy X) (jv X) p1 (0 : Int64)) [] rfl (by decide +kernel) ⟨by decide, by decide, rfl, rfl, by decide, by decide⟩ rfl rfl (Nat.le_of_ble_eq_true rfl) dX1_set_13 (jki0 (fun _ => rfl) (fun _ _ => rfl) (fun r3 => ?_))
  refine j_put (pc := 16) hC fpRX1_39 0 rfl rfl rfl (Nat.le_of_ble_eq_true rfl) dX1_set_16 (ws' := [(h_a, .inr (1, [.int r3, .ref h_a_above, .ref h_a_below])), (h_a_above, .inr (3, [.ref h_a_above_limbs, .int v_a_above_size])), (h_a_below, .inr (3, [.ref h_a_below_limbs, .int v_a_below_size])), (h_a_above_limbs, .inl (jy X 0, 6, .inl f_a_above_limbs)), (h_a_below_limbs, .inl (jy X 0, 6, .inl f_a_below_limbs))]) rfl ?_
  refine j_aload_n (pc := 19) hC 1 rfl dX1_set_19 ?_
  refine j_get (pc := 20) hC flRX1_10 0 rfl rfl dX1_set_20 ?_
  refine j_lload (pc := 23) hC 0 rfl dX1_set_23 ?_
  refine j_lconst (pc := 25) hC (v := (0 : Int64)) rfl dX1_set_25 ?_
  refine j_lcmp (pc := 26) hC dX1_set_26 ?_
  refine j_ifne (pc := 27) hC 34 (by decide) dX1_set_27 ?_ ?_
  · refine j_lload_n (pc := 34) hC 2 rfl dX1_set_34 ?_
    refine j_labs (pc := 35) hC wm567 wm568 wm84 wm569 (by decide) (Nat.le_of_ble_eq_true rfl) ⟨Nat.le_of_ble_eq_true rfl, Nat.le_of_ble_eq_true rfl⟩ dX1_set_35 ?_
    refine j_letl (pc := 38) (fun x4 => ?_)
    refine j_lload (pc := 38) hC 0 rfl dX1_set_38 ?_
    refine j_ldiv (pc := 40) hC dX1_set_40 ?_
    refine j_lv (pc := 41) [1, 3, 0] rfl ?_
    exact jX1_set_b41 hC u h_a h_a_above h_a_below h_a_above_limbs h_a_below_limbs p1 p3 v_a_signum v_a_above_size v_a_below_size f_a_above_limbs f_a_below_limbs (r2, (x4 / r2), r3, v_a_above_size, v_a_below_size, f_a_above_limbs, f_a_below_limbs)
  · refine j_lconst (pc := 30) hC (v := (0 : Int64)) rfl dX1_set_30 ?_
    refine j_goto (pc := 31) hC 41 (by decide) dX1_set_31 ?_
    refine j_lv (pc := 41) [1, 3, 0] rfl ?_
    exact jX1_set_b41 hC u h_a h_a_above h_a_below h_a_above_limbs h_a_below_limbs p1 p3 v_a_signum v_a_above_size v_a_below_size f_a_above_limbs f_a_below_limbs (r2, (0 : Int64), r3, v_a_above_size, v_a_below_size, f_a_above_limbs, f_a_below_limbs)
set_option maxHeartbeats 4000000 in
set_option maxRecDepth 100000 in
theorem mX1_set (l : Launch) (D : va_G) (cy : Nat → ClassId) (ev : jE) (u : Nat) (h_a h_a_above h_a_below h_a_above_limbs h_a_below_limbs : Nat) (p1 p3 : Int64) (v_a_signum v_a_above_size v_a_below_size : Int32) (f_a_above_limbs f_a_below_limbs : Nat → Int32) : jM l yX1_set cX1_set 7 none rX1_set [.ref h_a, .long p1, .long p3] [(h_a, .inr (1, [.int v_a_signum, .ref h_a_above, .ref h_a_below])), (h_a_above, .inr (3, [.ref h_a_above_limbs, .int v_a_above_size])), (h_a_below, .inr (3, [.ref h_a_below_limbs, .int v_a_below_size])), (h_a_above_limbs, .inl (cy 0, 6, .inl f_a_above_limbs)), (h_a_below_limbs, .inl (cy 0, 6, .inl f_a_below_limbs))] (fun (r : Int32 × Int32 × Int32 × (Nat → Int32) × (Nat → Int32)) (_ : Nat → Nat) => [(h_a, .inr (1, [.int r.1, .ref h_a_above, .ref h_a_below])), (h_a_above, .inr (3, [.ref h_a_above_limbs, .int r.2.1])), (h_a_below, .inr (3, [.ref h_a_below_limbs, .int r.2.2.1])), (h_a_above_limbs, .inl (cy 0, 6, .inl r.2.2.2.1)), (h_a_below_limbs, .inl (cy 0, 6, .inl r.2.2.2.2))]) (fun (_ : Int32 × Int32 × Int32 × (Nat → Int32) × (Nat → Int32)) => none) (fX1_set u p1 p3 v_a_signum v_a_above_size v_a_below_size f_a_above_limbs f_a_below_limbs) D cy ev := j_met RX1 (by decide +kernel) rfl (Nat.le_of_ble_eq_true rfl) (fun X hC _ hD hy hv => by subst hD; subst hy; subst hv; exact jX1_set hC u h_a h_a_above h_a_below h_a_above_limbs h_a_below_limbs p1 p3 v_a_signum v_a_above_size v_a_below_size f_a_above_limbs f_a_below_limbs)
abbrev gX3_copyFrom (X : jX) (h_a h_a_limbs h_b1 h_b1_limbs : Nat) (v_a_size v_b1_size : Int32) (f_a_limbs f_b1_limbs : Nat → Int32) (pc : Nat) (lv : List (Nat × Value)) (st : List Value) (w0 : Int32) (w1 : Nat → Int32) (e : Option (Int32 × (Nat → Int32))) : Prop := jJ (ρ := Int32 × (Nat → Int32)) X 2 0 0 (jQf X 0 0 (fun (_ : Int32 × (Nat → Int32)) => none) (fun (r : Int32 × (Nat → Int32)) (_ : Nat → Nat) => [(h_a, .inr (3, [.ref h_a_limbs, .int r.1])), (h_b1, .inr (3, [.ref h_b1_limbs, .int v_b1_size])), (h_a_limbs, .inl (jy X 0, 6, .inl r.2)), (h_b1_limbs, .inl (jy X 0, 6, .inl f_b1_limbs))])) pc lv st [(h_a, .inr (3, [.ref h_a_limbs, .int w0])), (h_b1, .inr (3, [.ref h_b1_limbs, .int v_b1_size])), (h_a_limbs, .inl (jy X 0, 6, .inl w1)), (h_b1_limbs, .inl (jy X 0, 6, .inl f_b1_limbs))] (e)
set_option maxHeartbeats 4000000 in
set_option maxRecDepth 100000 in
theorem jX3_copyFrom {X : jX} (hC : jC X cX3_copyFrom 2 RX3 rX3_copyFrom none) (h_a h_a_limbs h_b1 h_b1_limbs : Nat) (v_a_size v_b1_size : Int32) (f_a_limbs f_b1_limbs : Nat → Int32) : gX3_copyFrom X h_a h_a_limbs h_b1 h_b1_limbs v_a_size v_b1_size f_a_limbs f_b1_limbs 0 [(0, .ref h_a), (1, .ref h_b1)] [] v_a_size f_a_limbs (fX3_copyFrom v_a_size v_b1_size f_a_limbs f_b1_limbs) := by
  unfold fX3_copyFrom
  refine j_aload_n (pc := 0) hC 1 rfl dX3_copyFrom_0 ?_
  refine j_get (pc := 1) hC flRX3_7 1 rfl rfl dX3_copyFrom_1 ?_
  refine j_iconst (pc := 4) hC ki_0 dX3_copyFrom_4 ?_
  refine j_aload_n (pc := 5) hC 0 rfl dX3_copyFrom_5 ?_
  refine j_get (pc := 6) hC flRX3_7 0 rfl rfl dX3_copyFrom_6 ?_
  refine j_iconst (pc := 9) hC ki_0 dX3_copyFrom_9 ?_
  refine j_aload_n (pc := 10) hC 0 rfl dX3_copyFrom_10 ?_
  refine j_get (pc := 11) hC flRX3_7 0 rfl rfl dX3_copyFrom_11 ?_
  refine j_alen (pc := 14) hC 2 0 rfl rfl (v := (6 : Int32)) rfl dX3_copyFrom_14 ?_
  refine j_copyi (pc := 15) hC wm551 wm553 wm552 wm85 3 2 rfl rfl (by decide) (Nat.le_of_ble_eq_true rfl) dX3_copyFrom_15 (fun g1 => (rfl : @Eq va_W _ [(h_a, .inr (3, [.ref h_a_limbs, .int v_a_size])), (h_b1, .inr (3, [.ref h_b1_limbs, .int v_b1_size])), (h_a_limbs, .inl (jy X 0, 6, .inl g1)), (h_b1_limbs, .inl (jy X 0, 6, .inl f_b1_limbs))])) (fun g1 => ?_)
  refine j_aload_n (pc := 18) hC 0 rfl dX3_copyFrom_18 ?_
  refine j_aload_n (pc := 19) hC 1 rfl dX3_copyFrom_19 ?_
  refine j_get (pc := 20) hC flRX3_13 1 rfl rfl dX3_copyFrom_20 ?_
  refine j_put (pc := 23) hC fpRX3_13 0 rfl rfl rfl (Nat.le_of_ble_eq_true rfl) dX3_copyFrom_23 (ws' := [(h_a, .inr (3, [.ref h_a_limbs, .int v_b1_size])), (h_b1, .inr (3, [.ref h_b1_limbs, .int v_b1_size])), (h_a_limbs, .inl (jy X 0, 6, .inl g1)), (h_b1_limbs, .inl (jy X 0, 6, .inl f_b1_limbs))]) rfl ?_
  exact j_vret (pc := 26) hC (fun _ => 0) rfl rfl dX3_copyFrom_26
set_option maxHeartbeats 4000000 in
set_option maxRecDepth 100000 in
theorem mX3_copyFrom (l : Launch) (D : va_G) (cy : Nat → ClassId) (ev : jE) (h_a h_a_limbs h_b1 h_b1_limbs : Nat) (v_a_size v_b1_size : Int32) (f_a_limbs f_b1_limbs : Nat → Int32) : jM l yX3_copyFrom cX3_copyFrom 2 none rX3_copyFrom [.ref h_a, .ref h_b1] [(h_a, .inr (3, [.ref h_a_limbs, .int v_a_size])), (h_b1, .inr (3, [.ref h_b1_limbs, .int v_b1_size])), (h_a_limbs, .inl (cy 0, 6, .inl f_a_limbs)), (h_b1_limbs, .inl (cy 0, 6, .inl f_b1_limbs))] (fun (r : Int32 × (Nat → Int32)) (_ : Nat → Nat) => [(h_a, .inr (3, [.ref h_a_limbs, .int r.1])), (h_b1, .inr (3, [.ref h_b1_limbs, .int v_b1_size])), (h_a_limbs, .inl (cy 0, 6, .inl r.2)), (h_b1_limbs, .inl (cy 0, 6, .inl f_b1_limbs))]) (fun (_ : Int32 × (Nat → Int32)) => none) (fX3_copyFrom v_a_size v_b1_size f_a_limbs f_b1_limbs) D cy ev := j_met RX3 (by decide +kernel) rfl (Nat.le_of_ble_eq_true rfl) (fun X hC _ hD hy hv => by subst hD; subst hy; subst hv; exact jX3_copyFrom hC h_a h_a_limbs h_b1 h_b1_limbs v_a_size v_b1_size f_a_limbs f_b1_limbs)
