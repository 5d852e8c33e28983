abbrev gX7_isFull (X : jX) (h_a h_a_cells : Nat) (v_a_width v_a_rows : Int32) (n_a_cells : Nat) (f_a_cells : Nat → Int32) (pc : Nat) (lv : List (Nat × Value)) (st : List Value) (e : Option (Int32)) : Prop := jJ (ρ := Int32) X 1 0 0 (jQf X 0 0 (fun (r : Int32) => some (.int r)) (fun (_ : Int32) (_ : Nat → Nat) => [(h_a, .inr (7, [.int v_a_width, .ref h_a_cells, .int v_a_rows])), (h_a_cells, .inl (jy X 0, n_a_cells, .inl f_a_cells))])) pc lv st [(h_a, .inr (7, [.int v_a_width, .ref h_a_cells, .int v_a_rows])), (h_a_cells, .inl (jy X 0, n_a_cells, .inl f_a_cells))] (e)
set_option maxHeartbeats 4000000 in
set_option maxRecDepth 100000 in
theorem jX7_isFull {X : jX} (hC : jC X cX7_isFull 1 RX7 rX7_isFull (some .boolean)) (h_a h_a_cells : Nat) (v_a_width v_a_rows : Int32) (n_a_cells : Nat) (f_a_cells : Nat → Int32) : gX7_isFull X h_a h_a_cells v_a_width v_a_rows n_a_cells f_a_cells 0 [(0, .ref h_a)] [] (fX7_isFull v_a_width v_a_rows n_a_cells) := by
  unfold fX7_isFull
  refine j_aload_n (pc := 0) hC 0 rfl dX7_isFull_0 ?_
  refine j_get (pc := 1) hC flRX7_19 0 rfl rfl dX7_isFull_1 ?_
  refine j_iconst (pc := 4) hC ki_1 dX7_isFull_4 ?_
  refine j_iadd (pc := 5) hC dX7_isFull_5 ?_
  refine j_aload_n (pc := 6) hC 0 rfl dX7_isFull_6 ?_
  refine j_get (pc := 7) hC flRX7_9 0 rfl rfl dX7_isFull_7 ?_
  refine j_imul (pc := 10) hC dX7_isFull_10 ?_
  refine j_aload_n (pc := 11) hC 0 rfl dX7_isFull_11 ?_
  refine j_get (pc := 12) hC flRX7_15 0 rfl rfl dX7_isFull_12 ?_
  refine j_alen (pc := 15) hC 1 0 rfl rfl (v := (Int32.ofNat n_a_cells)) rfl dX7_isFull_15 ?_
  refine j_icmple (pc := 16) hC 23 (by decide) dX7_isFull_16 ?_ ?_
  · refine j_iconst (pc := 23) hC ki_0 dX7_isFull_23 ?_
    exact j_zret (pc := 24) hC (fun _ => 0) (by decide) rfl rfl dX7_isFull_24
  · refine j_iconst (pc := 19) hC ki_1 dX7_isFull_19 ?_
    refine j_goto (pc := 20) hC 24 (by decide) dX7_isFull_20 ?_
    exact j_zret (pc := 24) hC (fun _ => 0) (by decide) rfl rfl dX7_isFull_24
set_option maxHeartbeats 4000000 in
set_option maxRecDepth 100000 in
theorem mX7_isFull (l : Launch) (D : va_G) (cy : Nat → ClassId) (ev : jE) (h_a h_a_cells : Nat) (v_a_width v_a_rows : Int32) (n_a_cells : Nat) (f_a_cells : Nat → Int32) : jM l yX7_isFull cX7_isFull 1 (some .boolean) rX7_isFull [.ref h_a] [(h_a, .inr (7, [.int v_a_width, .ref h_a_cells, .int v_a_rows])), (h_a_cells, .inl (cy 0, n_a_cells, .inl f_a_cells))] (fun (_ : Int32) (_ : Nat → Nat) => [(h_a, .inr (7, [.int v_a_width, .ref h_a_cells, .int v_a_rows])), (h_a_cells, .inl (cy 0, n_a_cells, .inl f_a_cells))]) (fun (r : Int32) => some (.int r)) (fX7_isFull v_a_width v_a_rows n_a_cells) D cy ev := j_met RX7 (by decide +kernel) rfl (Nat.le_of_ble_eq_true rfl) (fun X hC _ hD hy hv => by subst hD; subst hy; subst hv; exact jX7_isFull hC h_a h_a_cells v_a_width v_a_rows n_a_cells f_a_cells)
abbrev gX5_mayStand (X : jX) (h_a h_a_throwsTold h_a_told h_a_throwsTold_cells : Nat) (p1 v_a_itemsSeen v_a_at v_a_start v_a_token v_a_number v_a_throwsTold_rows : Int32) (f_a_throwsTold_cells : Nat → Int32) (pc : Nat) (lv : List (Nat × Value)) (st : List Value) (e : Option (Int32)) : Prop := jJ (ρ := Int32) X 2 0 0 (jQf X 0 0 (fun (r : Int32) => some (.int r)) (fun (_ : Int32) (_ : Nat → Nat) => [(h_a, .inr (5, [.ref h_a_throwsTold, .ref h_a_told, .int v_a_itemsSeen, .int v_a_at, .int v_a_start, .int v_a_token, .int v_a_number])), (h_a_throwsTold, .inr (7, [.int (13 : Int32), .ref h_a_throwsTold_cells, .int v_a_throwsTold_rows])), (h_a_throwsTold_cells, .inl (jy X 0, 156, .inl f_a_throwsTold_cells))])) pc lv st [(h_a, .inr (5, [.ref h_a_throwsTold, .ref h_a_told, .int v_a_itemsSeen, .int v_a_at, .int v_a_start, .int v_a_token, .int v_a_number])), (h_a_throwsTold, .inr (7, [.int (13 : Int32), .ref h_a_throwsTold_cells, .int v_a_throwsTold_rows])), (h_a_throwsTold_cells, .inl (jy X 0, 156, .inl f_a_throwsTold_cells))] (e)
set_option maxHeartbeats 4000000 in
set_option maxRecDepth 100000 in
theorem jX5_mayStand_b24 {X : jX} (hC : jC X cX5_mayStand 2 RX5 rX5_mayStand (some .boolean)) (h_a h_a_throwsTold h_a_told h_a_throwsTold_cells : Nat) (p1 v_a_itemsSeen v_a_at v_a_start v_a_token v_a_number v_a_throwsTold_rows : Int32) (f_a_throwsTold_cells : Nat → Int32) (p : Unit) : gX5_mayStand X h_a h_a_throwsTold h_a_told h_a_throwsTold_cells p1 v_a_itemsSeen v_a_at v_a_start v_a_token v_a_number v_a_throwsTold_rows f_a_throwsTold_cells 24 [] [] (fX5_mayStand_b24 p1 v_a_itemsSeen v_a_throwsTold_rows p) := by
  unfold fX5_mayStand_b24
  refine j_iconst (pc := 24) hC ki_1 dX5_mayStand_24 ?_
  refine j_goto (pc := 25) hC 29 (by decide) dX5_mayStand_25 ?_
  exact j_zret (pc := 29) hC (fun _ => 0) (by decide) rfl rfl dX5_mayStand_29
set_option maxHeartbeats 4000000 in
set_option maxRecDepth 100000 in
theorem jX5_mayStand {X : jX} (hC : jC X cX5_mayStand 2 RX5 rX5_mayStand (some .boolean)) (h_a h_a_throwsTold h_a_told h_a_throwsTold_cells : Nat) (p1 v_a_itemsSeen v_a_at v_a_start v_a_token v_a_number v_a_throwsTold_rows : Int32) (f_a_throwsTold_cells : Nat → Int32) : gX5_mayStand X h_a h_a_throwsTold h_a_told h_a_throwsTold_cells p1 v_a_itemsSeen v_a_at v_a_start v_a_token v_a_number v_a_throwsTold_rows f_a_throwsTold_cells 0 [(0, .ref h_a), (1, .int p1)] [] (fX5_mayStand p1 v_a_itemsSeen v_a_throwsTold_rows) := by
  unfold fX5_mayStand
  refine j_iload_n (pc := 0) hC 1 rfl dX5_mayStand_0 ?_
  refine j_iconst (pc := 1) hC ki_3 dX5_mayStand_1 ?_
  refine j_icmpne (pc := 2) hC 24 (by decide) dX5_mayStand_2 ?_ ?_
  · refine j_lv (pc := 24) [] rfl ?_
    exact jX5_mayStand_b24 hC h_a h_a_throwsTold h_a_told h_a_throwsTold_cells p1 v_a_itemsSeen v_a_at v_a_start v_a_token v_a_number v_a_throwsTold_rows f_a_throwsTold_cells ()
  · refine j_aload_n (pc := 5) hC 0 rfl dX5_mayStand_5 ?_
    refine j_get (pc := 6) hC flRX5_28 0 rfl rfl dX5_mayStand_6 ?_
    refine j_bipush (pc := 9) hC kb_7 dX5_mayStand_9 ?_
    refine j_icmpne (pc := 11) hC 28 (by decide) dX5_mayStand_11 ?_ ?_
    · refine j_iconst (pc := 28) hC ki_0 dX5_mayStand_28 ?_
      exact j_zret (pc := 29) hC (fun _ => 0) (by decide) rfl rfl dX5_mayStand_29
    · refine j_aload_n (pc := 14) hC 0 rfl dX5_mayStand_14 ?_
      refine j_get (pc := 15) hC flRX5_14 0 rfl rfl dX5_mayStand_15 ?_
      refine j_callV (pc := 18) hC csRX5_60 [] (mX7_isFull (jl X) (jD X) (jy X) (jv X) h_a_throwsTold h_a_throwsTold_cells (13 : Int32) v_a_throwsTold_rows 156 f_a_throwsTold_cells) [1, 2] rfl (by decide +kernel) 1 rfl ⟨_, _, rfl⟩ ⟨by decide, by decide, rfl, rfl, by decide, by decide⟩ rfl rfl (Nat.le_of_ble_eq_true rfl) dX5_mayStand_18 (jki0 (fun _ => rfl) (fun _ _ => rfl) (fun r1 => ?_))
      refine j_ifne (pc := 21) hC 28 (by decide) dX5_mayStand_21 ?_ ?_
      · refine j_iconst (pc := 28) hC ki_0 dX5_mayStand_28 ?_
        exact j_zret (pc := 29) hC (fun _ => 0) (by decide) rfl rfl dX5_mayStand_29
      · refine j_lv (pc := 24) [] rfl ?_
        exact jX5_mayStand_b24 hC h_a h_a_throwsTold h_a_told h_a_throwsTold_cells p1 v_a_itemsSeen v_a_at v_a_start v_a_token v_a_number v_a_throwsTold_rows f_a_throwsTold_cells ()
set_option maxHeartbeats 4000000 in
set_option maxRecDepth 100000 in
theorem mX5_mayStand (l : Launch) (D : va_G) (cy : Nat → ClassId) (ev : jE) (h_a h_a_throwsTold h_a_told h_a_throwsTold_cells : Nat) (p1 v_a_itemsSeen v_a_at v_a_start v_a_token v_a_number v_a_throwsTold_rows : Int32) (f_a_throwsTold_cells : Nat → Int32) : jM l yX5_mayStand cX5_mayStand 2 (some .boolean) rX5_mayStand [.ref h_a, .int p1] [(h_a, .inr (5, [.ref h_a_throwsTold, .ref h_a_told, .int v_a_itemsSeen, .int v_a_at, .int v_a_start, .int v_a_token, .int v_a_number])), (h_a_throwsTold, .inr (7, [.int (13 : Int32), .ref h_a_throwsTold_cells, .int v_a_throwsTold_rows])), (h_a_throwsTold_cells, .inl (cy 0, 156, .inl f_a_throwsTold_cells))] (fun (_ : Int32) (_ : Nat → Nat) => [(h_a, .inr (5, [.ref h_a_throwsTold, .ref h_a_told, .int v_a_itemsSeen, .int v_a_at, .int v_a_start, .int v_a_token, .int v_a_number])), (h_a_throwsTold, .inr (7, [.int (13 : Int32), .ref h_a_throwsTold_cells, .int v_a_throwsTold_rows])), (h_a_throwsTold_cells, .inl (cy 0, 156, .inl f_a_throwsTold_cells))]) (fun (r : Int32) => some (.int r)) (fX5_mayStand p1 v_a_itemsSeen v_a_throwsTold_rows) D cy ev := j_met RX5 (by decide +kernel) rfl (Nat.le_of_ble_eq_true rfl) (fun X hC _ hD hy hv => by subst hD; subst hy; subst hv; exact jX5_mayStand hC h_a h_a_throwsTold h_a_told h_a_throwsTold_cells p1 v_a_itemsSeen v_a_at v_a_start v_a_token v_a_number v_a_throwsTold_rows f_a_throwsTold_cells)
abbrev gX8_fits (X : jX) (p0 p1 : Int32) (pc : Nat) (lv : List (Nat × Value)) (st : List Value) (e : Option (Int32)) : Prop := jJ (ρ := Int32) X 2 0 0 (jQf X 0 0 (fun (r : Int32) => some (.int r)) (fun (_ : Int32) (_ : Nat → Nat) => [])) pc lv st [] (e)
set_option maxHeartbeats 4000000 in
set_option maxRecDepth 100000 in
theorem jX8_fits {X : jX} (hC : jC X cX8_fits 2 RX8 rX8_fits (some .boolean)) (p0 p1 : Int32) : gX8_fits X p0 p1 0 [(0, .int p0), (1, .int p1)] [] (fX8_fits p0 p1) := by
  unfold fX8_fits
  refine j_iload_n (pc := 0) hC 0 rfl dX8_fits_0 ?_
  refine j_iflt (pc := 1) hC 31 (by decide) dX8_fits_1 ?_ ?_
  · refine j_iconst (pc := 31) hC ki_0 dX8_fits_31 ?_
    exact j_zret (pc := 32) hC (fun _ => 0) (by decide) rfl rfl dX8_fits_32
  · refine j_iload_n (pc := 4) hC 0 rfl dX8_fits_4 ?_
    refine j_bipush (pc := 5) hC kb_13 dX8_fits_5 ?_
    refine j_icmpge (pc := 7) hC 31 (by decide) dX8_fits_7 ?_ ?_
    · refine j_iconst (pc := 31) hC ki_0 dX8_fits_31 ?_
      exact j_zret (pc := 32) hC (fun _ => 0) (by decide) rfl rfl dX8_fits_32
    · refine j_iload_n (pc := 10) hC 1 rfl dX8_fits_10 ?_
      refine j_gets (pc := 11) hC 0 rfl wm391 dX8_fits_11 ?_
      refine j_iload_n (pc := 14) hC 0 rfl dX8_fits_14 ?_
      refine j_tald (pc := 15) hC 0 rfl rfl dX8_fits_15 ?_
      refine j_gets (pc := 16) hC 1 rfl wm393 dX8_fits_16 ?_
      refine j_iload_n (pc := 19) hC 0 rfl dX8_fits_19 ?_
      refine j_tald (pc := 20) hC 1 rfl rfl dX8_fits_20 ?_
      refine j_callS (pc := 21) hC csRX8_75 [.int p1, .int ((jtab 0).getD p0.toNatClampNeg 0), .int ((jtab 1).getD p0.toNatClampNeg 0)] (mX8_within (jl X) (jD X) (jy X) (jv X) p1 ((jtab 0).getD p0.toNatClampNeg 0) ((jtab 1).getD p0.toNatClampNeg 0)) [] rfl (by decide +kernel) ⟨by decide, by decide, rfl, rfl, by decide, by decide⟩ rfl rfl (Nat.le_of_ble_eq_true rfl) dX8_fits_21 (jki0 (fun _ => rfl) (fun _ _ => rfl) (fun r1 => ?_))
      refine j_ifeq (pc := 24) hC 31 (by decide) dX8_fits_24 ?_ ?_
      · refine j_iconst (pc := 31) hC ki_0 dX8_fits_31 ?_
        exact j_zret (pc := 32) hC (fun _ => 0) (by decide) rfl rfl dX8_fits_32
      · refine j_iconst (pc := 27) hC ki_1 dX8_fits_27 ?_
        refine j_goto (pc := 28) hC 32 (by decide) dX8_fits_28 ?_
        exact j_zret (pc := 32) hC (fun _ => 0) (by decide) rfl rfl dX8_fits_32
set_option maxHeartbeats 4000000 in
set_option maxRecDepth 100000 in
theorem mX8_fits (l : Launch) (D : va_G) (cy : Nat → ClassId) (ev : jE) (p0 p1 : Int32) : jM l yX8_fits cX8_fits 2 (some .boolean) rX8_fits [.int p0, .int p1] [] (fun (_ : Int32) (_ : Nat → Nat) => []) (fun (r : Int32) => some (.int r)) (fX8_fits p0 p1) D cy ev := j_met RX8 (by decide +kernel) rfl (Nat.le_of_ble_eq_true rfl) (fun X hC _ hD hy hv => by subst hD; subst hy; subst hv; exact jX8_fits hC p0 p1)
abbrev gX5_readNumbers (X : jX) (h_a h_a_throwsTold h_a_told h_b1 h_b1_cells : Nat) (p2 v_a_itemsSeen v_a_at v_a_start v_a_token v_a_number v_b1_width v_b1_rows : Int32) (f_a_told : Nat → Int32) (n_b1_cells : Nat) (f_b1_cells : Nat → Int32) (pc : Nat) (lv : List (Nat × Value)) (st : List Value) (w0 : Int32) (w1 : Int32) (w2 : Int32) (w3 : Int32) (w4 : Nat → Int32) (e : Option (Int32 × Int32 × Int32 × Int32 × Int32 × (Nat → Int32))) : Prop := jJ (ρ := Int32 × Int32 × Int32 × Int32 × Int32 × (Nat → Int32)) X 4 0 0 (jQf X 0 0 (fun (r : Int32 × Int32 × Int32 × Int32 × Int32 × (Nat → Int32)) => some (.int r.1)) (fun (r : Int32 × Int32 × Int32 × Int32 × Int32 × (Nat → Int32)) (_ : Nat → Nat) => [(h_a, .inr (5, [.ref h_a_throwsTold, .ref h_a_told, .int v_a_itemsSeen, .int r.2.1, .int r.2.2.1, .int r.2.2.2.1, .int r.2.2.2.2.1])), (h_b1, .inr (7, [.int v_b1_width, .ref h_b1_cells, .int v_b1_rows])), (h_a_told, .inl (jy X 0, 13, .inl r.2.2.2.2.2)), (h_b1_cells, .inl (jy X 0, n_b1_cells, .inl f_b1_cells))])) pc lv st [(h_a, .inr (5, [.ref h_a_throwsTold, .ref h_a_told, .int v_a_itemsSeen, .int w0, .int w1, .int w2, .int w3])), (h_b1, .inr (7, [.int v_b1_width, .ref h_b1_cells, .int v_b1_rows])), (h_a_told, .inl (jy X 0, 13, .inl w4)), (h_b1_cells, .inl (jy X 0, n_b1_cells, .inl f_b1_cells))] (e)
set_option maxHeartbeats 4000000 in
set_option maxRecDepth 100000 in
theorem jX5_readNumbers_b77 {X : jX} (hC : jC X cX5_readNumbers 4 RX5 rX5_readNumbers (some .boolean)) (u : Nat) (h_a h_a_throwsTold h_a_told h_b1 h_b1_cells : Nat) (p2 v_a_itemsSeen v_a_at v_a_start v_a_token v_a_number v_b1_width v_b1_rows : Int32) (f_a_told : Nat → Int32) (n_b1_cells : Nat) (f_b1_cells : Nat → Int32) (rec22 : (Int32 × Int32 × Int32 × Int32 × Int32 × (Nat → Int32)) → Option (Int32 × Int32 × Int32 × Int32 × Int32 × (Nat → Int32))) (hrec22 : ∀ p : Int32 × Int32 × Int32 × Int32 × Int32 × (Nat → Int32), gX5_readNumbers X h_a h_a_throwsTold h_a_told h_b1 h_b1_cells p2 v_a_itemsSeen v_a_at v_a_start v_a_token v_a_number v_b1_width v_b1_rows f_a_told n_b1_cells f_b1_cells 22 [(0, .ref h_a), (1, .ref h_b1), (2, .int p2), (3, .int p.1)] [] p.2.1 p.2.2.1 p.2.2.2.1 p.2.2.2.2.1 p.2.2.2.2.2 (rec22 p)) (p : Int32 × Int32 × Int32 × Int32 × Int32 × (Nat → Int32)) : gX5_readNumbers X h_a h_a_throwsTold h_a_told h_b1 h_b1_cells p2 v_a_itemsSeen v_a_at v_a_start v_a_token v_a_number v_b1_width v_b1_rows f_a_told n_b1_cells f_b1_cells 77 [(0, .ref h_a), (1, .ref h_b1), (2, .int p2), (3, .int p.1)] [] p.2.1 p.2.2.1 p.2.2.2.1 p.2.2.2.2.1 p.2.2.2.2.2 (fX5_readNumbers_b77 u p2 v_a_at v_a_start v_a_token v_a_number v_b1_width v_b1_rows f_a_told n_b1_cells f_b1_cells rec22 p) := by
  unfold fX5_readNumbers_b77
  refine j_aload_n (pc := 77) hC 0 rfl dX5_readNumbers_77 ?_
  refine j_get (pc := 78) hC flRX5_20 0 rfl rfl dX5_readNumbers_78 ?_
  refine j_iload_n (pc := 81) hC 3 rfl dX5_readNumbers_81 ?_
  refine j_aload_n (pc := 82) hC 0 rfl dX5_readNumbers_82 ?_
  refine j_get (pc := 83) hC flRX5_67 0 rfl rfl dX5_readNumbers_83 ?_
  refine j_iast (pc := 86) hC 2 rfl dX5_readNumbers_86 (fun g5 => (rfl : @Eq va_W _ [(h_a, .inr (5, [.ref h_a_throwsTold, .ref h_a_told, .int v_a_itemsSeen, .int p.2.1, .int p.2.2.1, .int p.2.2.2.1, .int p.2.2.2.2.1])), (h_b1, .inr (7, [.int v_b1_width, .ref h_b1_cells, .int v_b1_rows])), (h_a_told, .inl (jy X 0, 13, .inl g5)), (h_b1_cells, .inl (jy X 0, n_b1_cells, .inl f_b1_cells))])) (fun g5 => ?_)
  refine j_iinc (pc := 87) hC 3 rfl ki_1 (fun x6 => (rfl : @Eq (List (Nat × Value)) _ [(3, .int x6), (0, .ref h_a), (1, .ref h_b1), (2, .int p2)])) (by decide) dX5_readNumbers_87 (fun x6 => ?_)
  refine j_goto (pc := 90) hC 22 (by decide) dX5_readNumbers_90 ?_
  refine j_lv (pc := 22) [1, 2, 3, 0] rfl ?_
  exact hrec22 (x6, p.2.1, p.2.2.1, p.2.2.2.1, p.2.2.2.2.1, g5)
set_option maxHeartbeats 4000000 in
set_option maxRecDepth 100000 in
theorem jX5_readNumbers_b22_step {X : jX} (hC : jC X cX5_readNumbers 4 RX5 rX5_readNumbers (some .boolean)) (u : Nat) (h_a h_a_throwsTold h_a_told h_b1 h_b1_cells : Nat) (p2 v_a_itemsSeen v_a_at v_a_start v_a_token v_a_number v_b1_width v_b1_rows : Int32) (f_a_told : Nat → Int32) (n_b1_cells : Nat) (f_b1_cells : Nat → Int32) (rec22 : (Int32 × Int32 × Int32 × Int32 × Int32 × (Nat → Int32)) → Option (Int32 × Int32 × Int32 × Int32 × Int32 × (Nat → Int32))) (hrec22 : ∀ p : Int32 × Int32 × Int32 × Int32 × Int32 × (Nat → Int32), gX5_readNumbers X h_a h_a_throwsTold h_a_told h_b1 h_b1_cells p2 v_a_itemsSeen v_a_at v_a_start v_a_token v_a_number v_b1_width v_b1_rows f_a_told n_b1_cells f_b1_cells 22 [(0, .ref h_a), (1, .ref h_b1), (2, .int p2), (3, .int p.1)] [] p.2.1 p.2.2.1 p.2.2.2.1 p.2.2.2.2.1 p.2.2.2.2.2 (rec22 p)) (p : Int32 × Int32 × Int32 × Int32 × Int32 × (Nat → Int32)) : gX5_readNumbers X h_a h_a_throwsTold h_a_told h_b1 h_b1_cells p2 v_a_itemsSeen v_a_at v_a_start v_a_token v_a_number v_b1_width v_b1_rows f_a_told n_b1_cells f_b1_cells 22 [(0, .ref h_a), (1, .ref h_b1), (2, .int p2), (3, .int p.1)] [] p.2.1 p.2.2.1 p.2.2.2.1 p.2.2.2.2.1 p.2.2.2.2.2 (fX5_readNumbers_b22 u p2 v_a_at v_a_start v_a_token v_a_number v_b1_width v_b1_rows f_a_told n_b1_cells f_b1_cells rec22 p) := by
  unfold fX5_readNumbers_b22
  refine j_iload_n (pc := 22) hC 3 rfl dX5_readNumbers_22 ?_
  refine j_gets (pc := 23) hC 4 rfl wm823 dX5_readNumbers_23 ?_
  refine j_iload_n (pc := 26) hC 2 rfl dX5_readNumbers_26 ?_
  refine j_iconst (pc := 27) hC ki_1 dX5_readNumbers_27 ?_
  refine j_iadd (pc := 28) hC dX5_readNumbers_28 ?_
  refine j_let (pc := 29) (fun x2 => ?_)
  refine j_tald (pc := 29) hC 4 rfl rfl dX5_readNumbers_29 ?_
  refine j_icmpge (pc := 30) hC 93 (by decide) dX5_readNumbers_30 ?_ ?_
  · refine j_iconst (pc := 93) hC ki_1 dX5_readNumbers_93 ?_
    exact j_zret (pc := 94) hC (fun _ => 0) (by decide) rfl rfl dX5_readNumbers_94
  · refine j_aload_n (pc := 33) hC 0 rfl dX5_readNumbers_33 ?_
    refine j_aload_n (pc := 34) hC 1 rfl dX5_readNumbers_34 ?_
    refine j_callV (pc := 35) hC csRX5_34 [.ref h_b1] (mX5_advance (jl X) (jD X) (jy X) (jv X) u h_a h_a_throwsTold h_a_told h_b1 h_b1_cells v_a_itemsSeen p.2.1 p.2.2.1 p.2.2.2.1 p.2.2.2.2.1 v_b1_width v_b1_rows n_b1_cells f_b1_cells) [0, 1, 3] rfl (by decide +kernel) 0 rfl ⟨_, _, rfl⟩ ⟨by decide, by decide, rfl, rfl, by decide, by decide⟩ rfl rfl (Nat.le_of_ble_eq_true rfl) dX5_readNumbers_35 (jkv (fun r3 _ => (rfl : @Eq va_W _ [(h_a, .inr (5, [.ref h_a_throwsTold, .ref h_a_told, .int v_a_itemsSeen, .int r3.1, .int r3.2.1, .int r3.2.2.1, .int r3.2.2.2])), (h_b1, .inr (7, [.int v_b1_width, .ref h_b1_cells, .int v_b1_rows])), (h_a_told, .inl (jy X 0, 13, .inl p.2.2.2.2.2)), (h_b1_cells, .inl (jy X 0, n_b1_cells, .inl f_b1_cells))])) (fun r3 => ?_))
    refine j_aload_n (pc := 38) hC 0 rfl dX5_readNumbers_38 ?_
    refine j_get (pc := 39) hC flRX5_38 0 rfl rfl dX5_readNumbers_39 ?_
    refine j_iconst (pc := 42) hC ki_2 dX5_readNumbers_42 ?_
    refine j_icmpne (pc := 43) hC 75 (by decide) dX5_readNumbers_43 ?_ ?_
    · refine j_iconst (pc := 75) hC ki_0 dX5_readNumbers_75 ?_
      exact j_zret (pc := 76) hC (fun _ => 0) (by decide) rfl rfl dX5_readNumbers_76
    · refine j_iload_n (pc := 46) hC 3 rfl dX5_readNumbers_46 ?_
      refine j_aload_n (pc := 47) hC 0 rfl dX5_readNumbers_47 ?_
      refine j_get (pc := 48) hC flRX5_67 0 rfl rfl dX5_readNumbers_48 ?_
      refine j_callN (pc := 51) hC csRX5_70 [.int p.1, .int r3.2.2.2] (mX8_fits (jl X) (jD X) (jy X) (jv X) p.1 r3.2.2.2) [] rfl (by decide +kernel) ⟨by decide, by decide, rfl, rfl, by decide, by decide⟩ rfl rfl (Nat.le_of_ble_eq_true rfl) dX5_readNumbers_51 (jki0 (fun _ => rfl) (fun _ _ => rfl) (fun r4 => ?_))
      refine j_ifeq (pc := 54) hC 75 (by decide) dX5_readNumbers_54 ?_ ?_
      · refine j_iconst (pc := 75) hC ki_0 dX5_readNumbers_75 ?_
        exact j_zret (pc := 76) hC (fun _ => 0) (by decide) rfl rfl dX5_readNumbers_76
      · refine j_iload_n (pc := 57) hC 3 rfl dX5_readNumbers_57 ?_
        refine j_iconst (pc := 58) hC ki_5 dX5_readNumbers_58 ?_
        refine j_icmpne (pc := 59) hC 77 (by decide) dX5_readNumbers_59 ?_ ?_
        · exact jX5_readNumbers_b77 hC u h_a h_a_throwsTold h_a_told h_b1 h_b1_cells p2 v_a_itemsSeen v_a_at v_a_start v_a_token v_a_number v_b1_width v_b1_rows f_a_told n_b1_cells f_b1_cells rec22 hrec22 (p.1, r3.1, r3.2.1, r3.2.2.1, r3.2.2.2, p.2.2.2.2.2)
        · refine j_aload_n (pc := 62) hC 0 rfl dX5_readNumbers_62 ?_
          refine j_get (pc := 63) hC flRX5_67 0 rfl rfl dX5_readNumbers_63 ?_
          refine j_aload_n (pc := 66) hC 0 rfl dX5_readNumbers_66 ?_
          refine j_get (pc := 67) hC flRX5_20 0 rfl rfl dX5_readNumbers_67 ?_
          refine j_iconst (pc := 70) hC ki_3 dX5_readNumbers_70 ?_
          refine j_iald (pc := 71) hC 2 rfl dX5_readNumbers_71 ?_
          refine j_icmple (pc := 72) hC 77 (by decide) dX5_readNumbers_72 ?_ ?_
          · exact jX5_readNumbers_b77 hC u h_a h_a_throwsTold h_a_told h_b1 h_b1_cells p2 v_a_itemsSeen v_a_at v_a_start v_a_token v_a_number v_b1_width v_b1_rows f_a_told n_b1_cells f_b1_cells rec22 hrec22 (p.1, r3.1, r3.2.1, r3.2.2.1, r3.2.2.2, p.2.2.2.2.2)
          · refine j_iconst (pc := 75) hC ki_0 dX5_readNumbers_75 ?_
            exact j_zret (pc := 76) hC (fun _ => 0) (by decide) rfl rfl dX5_readNumbers_76
set_option maxHeartbeats 4000000 in
set_option maxRecDepth 100000 in
theorem jX5_readNumbers_b22 {X : jX} (hC : jC X cX5_readNumbers 4 RX5 rX5_readNumbers (some .boolean)) (u : Nat) (h_a h_a_throwsTold h_a_told h_b1 h_b1_cells : Nat) (p2 v_a_itemsSeen v_a_at v_a_start v_a_token v_a_number v_b1_width v_b1_rows : Int32) (f_a_told : Nat → Int32) (n_b1_cells : Nat) (f_b1_cells : Nat → Int32) (p : Int32 × Int32 × Int32 × Int32 × Int32 × (Nat → Int32)) : gX5_readNumbers X h_a h_a_throwsTold h_a_told h_b1 h_b1_cells p2 v_a_itemsSeen v_a_at v_a_start v_a_token v_a_number v_b1_width v_b1_rows f_a_told n_b1_cells f_b1_cells 22 [(0, .ref h_a), (1, .ref h_b1), (2, .int p2), (3, .int p.1)] [] p.2.1 p.2.2.1 p.2.2.2.1 p.2.2.2.2.1 p.2.2.2.2.2 (jfix (fX5_readNumbers_b22 u p2 v_a_at v_a_start v_a_token v_a_number v_b1_width v_b1_rows f_a_told n_b1_cells f_b1_cells) u p) :=
  j_fix (fun rec22 hrec22 p => jX5_readNumbers_b22_step hC u h_a h_a_throwsTold h_a_told h_b1 h_b1_cells p2 v_a_itemsSeen v_a_at v_a_start v_a_token v_a_number v_b1_width v_b1_rows f_a_told n_b1_cells f_b1_cells rec22 hrec22 p) u p
set_option maxHeartbeats 4000000 in
set_option maxRecDepth 100000 in
theorem jX5_readNumbers {X : jX} (hC : jC X cX5_readNumbers 4 RX5 rX5_readNumbers (some .boolean)) (u : Nat) (h_a h_a_throwsTold h_a_told h_b1 h_b1_cells : Nat) (p2 v_a_itemsSeen v_a_at v_a_start v_a_token v_a_number v_b1_width v_b1_rows : Int32) (f_a_told : Nat → Int32) (n_b1_cells : Nat) (f_b1_cells : Nat → Int32) : gX5_readNumbers X h_a h_a_throwsTold h_a_told h_b1 h_b1_cells p2 v_a_itemsSeen v_a_at v_a_start v_a_token v_a_number v_b1_width v_b1_rows f_a_told n_b1_cells f_b1_cells 0 [(0, .ref h_a), (1, .ref h_b1), (2, .int p2)] [] v_a_at v_a_start v_a_token v_a_number f_a_told (fX5_readNumbers u p2 v_a_at v_a_start v_a_token v_a_number v_b1_width v_b1_rows f_a_told n_b1_cells f_b1_cells) := by
  unfold fX5_readNumbers
  refine j_iload_n (pc := 0) hC 2 rfl dX5_readNumbers_0 ?_
  refine j_iflt (pc := 1) hC 14 (by decide) dX5_readNumbers_1 ?_ ?_
  · refine j_iconst (pc := 14) hC ki_0 dX5_readNumbers_14 ?_
    exact j_zret (pc := 15) hC (fun _ => 0) (by decide) rfl rfl dX5_readNumbers_15
  · refine j_iload_n (pc := 4) hC 2 rfl dX5_readNumbers_4 ?_
    refine j_iconst (pc := 5) hC ki_1 dX5_readNumbers_5 ?_
    refine j_iadd (pc := 6) hC dX5_readNumbers_6 ?_
    refine j_gets (pc := 7) hC 4 rfl wm823 dX5_readNumbers_7 ?_
    refine j_tlen (pc := 10) hC 4 rfl (v := (5 : Int32)) rfl dX5_readNumbers_10 ?_
    refine j_icmplt (pc := 11) hC 16 (by decide) dX5_readNumbers_11 ?_ ?_
    · refine j_gets (pc := 16) hC 4 rfl wm823 dX5_readNumbers_16 ?_
      refine j_iload_n (pc := 19) hC 2 rfl dX5_readNumbers_19 ?_
      refine j_tald (pc := 20) hC 4 rfl rfl dX5_readNumbers_20 ?_
      refine j_let (pc := 21) (fun x1 => ?_)
      refine j_istore_n (pc := 21) hC (lv' := [(3, .int x1), (0, .ref h_a), (1, .ref h_b1), (2, .int p2)]) rfl (by decide) dX5_readNumbers_21 ?_
      refine j_lv (pc := 22) [1, 2, 3, 0] rfl ?_
      exact jX5_readNumbers_b22 hC u h_a h_a_throwsTold h_a_told h_b1 h_b1_cells p2 v_a_itemsSeen v_a_at v_a_start v_a_token v_a_number v_b1_width v_b1_rows f_a_told n_b1_cells f_b1_cells (x1, v_a_at, v_a_start, v_a_token, v_a_number, f_a_told)
    · refine j_iconst (pc := 14) hC ki_0 dX5_readNumbers_14 ?_
      exact j_zret (pc := 15) hC (fun _ => 0) (by decide) rfl rfl dX5_readNumbers_15
set_option maxHeartbeats 4000000 in
set_option maxRecDepth 100000 in
theorem mX5_readNumbers (l : Launch) (D : va_G) (cy : Nat → ClassId) (ev : jE) (u : Nat) (h_a h_a_throwsTold h_a_told h_b1 h_b1_cells : Nat) (p2 v_a_itemsSeen v_a_at v_a_start v_a_token v_a_number v_b1_width v_b1_rows : Int32) (f_a_told : Nat → Int32) (n_b1_cells : Nat) (f_b1_cells : Nat → Int32) : jM l yX5_readNumbers cX5_readNumbers 4 (some .boolean) rX5_readNumbers [.ref h_a, .ref h_b1, .int p2] [(h_a, .inr (5, [.ref h_a_throwsTold, .ref h_a_told, .int v_a_itemsSeen, .int v_a_at, .int v_a_start, .int v_a_token, .int v_a_number])), (h_b1, .inr (7, [.int v_b1_width, .ref h_b1_cells, .int v_b1_rows])), (h_a_told, .inl (cy 0, 13, .inl f_a_told)), (h_b1_cells, .inl (cy 0, n_b1_cells, .inl f_b1_cells))] (fun (r : Int32 × Int32 × Int32 × Int32 × Int32 × (Nat → Int32)) (_ : Nat → Nat) => [(h_a, .inr (5, [.ref h_a_throwsTold, .ref h_a_told, .int v_a_itemsSeen, .int r.2.1, .int r.2.2.1, .int r.2.2.2.1, .int r.2.2.2.2.1])), (h_b1, .inr (7, [.int v_b1_width, .ref h_b1_cells, .int v_b1_rows])), (h_a_told, .inl (cy 0, 13, .inl r.2.2.2.2.2)), (h_b1_cells, .inl (cy 0, n_b1_cells, .inl f_b1_cells))]) (fun (r : Int32 × Int32 × Int32 × Int32 × Int32 × (Nat → Int32)) => some (.int r.1)) (fX5_readNumbers u p2 v_a_at v_a_start v_a_token v_a_number v_b1_width v_b1_rows f_a_told n_b1_cells f_b1_cells) D cy ev := j_met RX5 (by decide +kernel) rfl (Nat.le_of_ble_eq_true rfl) (fun X hC _ hD hy hv => by subst hD; subst hy; subst hv; exact jX5_readNumbers hC u h_a h_a_throwsTold h_a_told h_b1 h_b1_cells p2 v_a_itemsSeen v_a_at v_a_start v_a_token v_a_number v_b1_width v_b1_rows f_a_told n_b1_cells f_b1_cells)
abbrev gX7_put (X : jX) (h_a h_a_cells : Nat) (p1 p2 p3 v_a_width v_a_rows : Int32) (n_a_cells : Nat) (f_a_cells : Nat → Int32) (pc : Nat) (lv : List (Nat × Value)) (st : List Value) (w0 : Nat → Int32) (e : Option (Int32 × (Nat → Int32))) : Prop := jJ (ρ := Int32 × (Nat → Int32)) X 6 0 0 (jQf X 0 0 (fun (r : Int32 × (Nat → Int32)) => some (.int r.1)) (fun (r : Int32 × (Nat → Int32)) (_ : Nat → Nat) => [(h_a, .inr (7, [.int v_a_width, .ref h_a_cells, .int v_a_rows])), (h_a_cells, .inl (jy X 0, n_a_cells, .inl r.2))])) pc lv st [(h_a, .inr (7, [.int v_a_width, .ref h_a_cells, .int v_a_rows])), (h_a_cells, .inl (jy X 0, n_a_cells, .inl w0))] (e)
set_option maxHeartbeats 4000000 in
set_option maxRecDepth 100000 in
theorem jX7_put {X : jX} (hC : jC X cX7_put 6 RX7 rX7_put (some .int)) (h_a h_a_cells : Nat) (p1 p2 p3 v_a_width v_a_rows : Int32) (n_a_cells : Nat) (f_a_cells : Nat → Int32) : gX7_put X h_a h_a_cells p1 p2 p3 v_a_width v_a_rows n_a_cells f_a_cells 0 [(0, .ref h_a), (1, .int p1), (2, .int p2), (3, .int p3)] [] f_a_cells (fX7_put p1 p2 p3 v_a_width v_a_rows n_a_cells f_a_cells) := by
  unfold fX7_put
  refine j_aload_n (pc := 0) hC 0 rfl dX7_put_0 ?_
  refine j_iload_n (pc := 1) hC 1 rfl dX7_put_1 ?_
  refine j_iload_n (pc := 2) hC 2 rfl dX7_put_2 ?_
  refine j_callV (pc := 3) hC csRX7_26 [.int p1, .int p2] (mX7_indexOf (jl X) (jD X) (jy X) (jv X) h_a h_a_cells p1 p2 v_a_width v_a_rows n_a_cells f_a_cells) [0, 1] rfl (by decide +kernel) 0 rfl ⟨_, _, rfl⟩ ⟨by decide, by decide, rfl, rfl, by decide, by decide⟩ rfl rfl (Nat.le_of_ble_eq_true rfl) dX7_put_3 (jki0 (fun _ => rfl) (fun _ _ => rfl) (fun r1 => ?_))
  refine j_istore (pc := 6) hC (lv' := [(4, .int r1), (0, .ref h_a), (1, .int p1), (2, .int p2), (3, .int p3)]) rfl (by decide) dX7_put_6 ?_
  refine j_iload (pc := 8) hC 0 rfl dX7_put_8 ?_
  refine j_ifge (pc := 10) hC 15 (by decide) dX7_put_10 ?_ ?_
  · refine j_aload_n (pc := 15) hC 1 rfl dX7_put_15 ?_
    refine j_get (pc := 16) hC flRX7_15 0 rfl rfl dX7_put_16 ?_
    refine j_iload (pc := 19) hC 0 rfl dX7_put_19 ?_
    refine j_iald (pc := 21) hC 1 rfl dX7_put_21 ?_
    refine j_let (pc := 22) (fun x2 => ?_)
    refine j_istore (pc := 22) hC (lv' := [(5, .int x2), (4, .int r1), (0, .ref h_a), (1, .int p1), (2, .int p2), (3, .int p3)]) rfl (by decide) dX7_put_22 ?_
    refine j_aload_n (pc := 24) hC 2 rfl dX7_put_24 ?_
    refine j_get (pc := 25) hC flRX7_15 0 rfl rfl dX7_put_25 ?_
    refine j_iload (pc := 28) hC 1 rfl dX7_put_28 ?_
    refine j_iload_n (pc := 30) hC 5 rfl dX7_put_30 ?_
    refine j_iast (pc := 31) hC 1 rfl dX7_put_31 (fun g3 => (rfl : @Eq va_W _ [(h_a, .inr (7, [.int v_a_width, .ref h_a_cells, .int v_a_rows])), (h_a_cells, .inl (jy X 0, n_a_cells, .inl g3))])) (fun g3 => ?_)
    refine j_iload (pc := 32) hC 0 rfl dX7_put_32 ?_
    exact j_iret (pc := 34) hC (fun _ => 0) rfl rfl dX7_put_34
  · refine j_iconst (pc := 13) hC ki_0 dX7_put_13 ?_
    exact j_iret (pc := 14) hC (fun _ => 0) rfl rfl dX7_put_14
set_option maxHeartbeats 4000000 in
set_option maxRecDepth 100000 in
theorem mX7_put (l : Launch) (D : va_G) (cy : Nat → ClassId) (ev : jE) (h_a h_a_cells : Nat) (p1 p2 p3 v_a_width v_a_rows : Int32) (n_a_cells : Nat) (f_a_cells : Nat → Int32) : jM l yX7_put cX7_put 6 (some .int) rX7_put [.ref h_a, .int p1, .int p2, .int p3] [(h_a, .inr (7, [.int v_a_width, .ref h_a_cells, .int v_a_rows])), (h_a_cells, .inl (cy 0, n_a_cells, .inl f_a_cells))] (fun (r : Int32 × (Nat → Int32)) (_ : Nat → Nat) => [(h_a, .inr (7, [.int v_a_width, .ref h_a_cells, .int v_a_rows])), (h_a_cells, .inl (cy 0, n_a_cells, .inl r.2))]) (fun (r : Int32 × (Nat → Int32)) => some (.int r.1)) (fX7_put p1 p2 p3 v_a_width v_a_rows n_a_cells f_a_cells) D cy ev := j_met RX7 (by decide +kernel) rfl (Nat.le_of_ble_eq_true rfl) (fun X hC _ hD hy hv => by subst hD; subst hy; subst hv; exact jX7_put hC h_a h_a_cells p1 p2 p3 v_a_width v_a_rows n_a_cells f_a_cells)
abbrev gX7_appendRow (X : jX) (h_a h_a_cells h_b1 : Nat) (v_a_width v_a_rows : Int32) (n_b1 : Nat) (f_b1 : Nat → Int32) (n_a_cells : Nat) (f_a_cells : Nat → Int32) (pc : Nat) (lv : List (Nat × Value)) (st : List Value) (w0 : Int32) (w1 : Nat → Int32) (e : Option (Int32 × (Nat → Int32))) : Prop := jJ (ρ := Int32 × (Nat → Int32)) X 4 0 0 (jQf X 0 0 (fun (_ : Int32 × (Nat → Int32)) => none) (fun (r : Int32 × (Nat → Int32)) (_ : Nat → Nat) => [(h_a, .inr (7, [.int v_a_width, .ref h_a_cells, .int r.1])), (h_b1, .inl (jy X 0, n_b1, .inl f_b1)), (h_a_cells, .inl (jy X 0, n_a_cells, .inl r.2))])) pc lv st [(h_a, .inr (7, [.int v_a_width, .ref h_a_cells, .int w0])), (h_b1, .inl (jy X 0, n_b1, .inl f_b1)), (h_a_cells, .inl (jy X 0, n_a_cells, .inl w1))] (e)
set_option maxHeartbeats 4000000 in
set_option maxRecDepth 100000 in
theorem jX7_appendRow_b17_step {X : jX} (hC : jC X cX7_appendRow 4 RX7 rX7_appendRow none) (u : Nat) (h_a h_a_cells h_b1 : Nat) (v_a_width v_a_rows : Int32) (n_b1 : Nat) (f_b1 : Nat → Int32) (n_a_cells : Nat) (f_a_cells : Nat → Int32) (rec17 : (Int32 × Int32 × Int32 × (Nat → Int32)) → Option (Int32 × (Nat → Int32))) (hrec17 : ∀ p : Int32 × Int32 × Int32 × (Nat → Int32), gX7_appendRow X h_a h_a_cells h_b1 v_a_width v_a_rows n_b1 f_b1 n_a_cells f_a_cells 17 [(0, .ref h_a), (1, .ref h_b1), (2, .int p.1), (3, .int p.2.1)] [] p.2.2.1 p.2.2.2 (rec17 p)) (p : Int32 × Int32 × Int32 × (Nat → Int32)) : gX7_appendRow X h_a h_a_cells h_b1 v_a_width v_a_rows n_b1 f_b1 n_a_cells f_a_cells 17 [(0, .ref h_a), (1, .ref h_b1), (2, .int p.1), (3, .int p.2.1)] [] p.2.2.1 p.2.2.2 (fX7_appendRow_b17 u v_a_width v_a_rows n_b1 f_b1 n_a_cells f_a_cells rec17 p) := by
  unfold fX7_appendRow_b17
  refine j_iload_n (pc := 17) hC 3 rfl dX7_appendRow_17 ?_
  refine j_aload_n (pc := 18) hC 0 rfl dX7_appendRow_18 ?_
  refine j_get (pc := 19) hC flRX7_9 0 rfl rfl dX7_appendRow_19 ?_
  refine j_icmpge (pc := 22) hC 47 (by decide) dX7_appendRow_22 ?_ ?_
  · exact j_vret (pc := 47) hC (fun _ => 0) rfl rfl dX7_appendRow_47
  · refine j_iload_n (pc := 25) hC 3 rfl dX7_appendRow_25 ?_
    refine j_aload_n (pc := 26) hC 1 rfl dX7_appendRow_26 ?_
    refine j_alen (pc := 27) hC 1 0 rfl rfl (v := (Int32.ofNat n_b1)) rfl dX7_appendRow_27 ?_
    refine j_icmpge (pc := 28) hC 47 (by decide) dX7_appendRow_28 ?_ ?_
    · exact j_vret (pc := 47) hC (fun _ => 0) rfl rfl dX7_appendRow_47
    · refine j_aload_n (pc := 31) hC 0 rfl dX7_appendRow_31 ?_
      refine j_iload_n (pc := 32) hC 2 rfl dX7_appendRow_32 ?_
      refine j_iload_n (pc := 33) hC 3 rfl dX7_appendRow_33 ?_
      refine j_aload_n (pc := 34) hC 1 rfl dX7_appendRow_34 ?_
      refine j_iload_n (pc := 35) hC 3 rfl dX7_appendRow_35 ?_
      refine j_iald (pc := 36) hC 1 rfl dX7_appendRow_36 ?_
      refine j_callV (pc := 37) hC csRX7_22 [.int p.1, .int p.2.1, .int (f_b1 p.2.1.toNatClampNeg)] (mX7_put (jl X) (jD X) (jy X) (jv X) h_a h_a_cells p.1 p.2.1 (f_b1 p.2.1.toNatClampNeg) v_a_width p.2.2.1 n_a_cells p.2.2.2) [0, 2] rfl (by decide +kernel) 0 rfl ⟨_, _, rfl⟩ ⟨by decide, by decide, rfl, rfl, by decide, by decide⟩ rfl rfl (Nat.le_of_ble_eq_true rfl) dX7_appendRow_37 (jki (fun _ => rfl) (fun r2 _ => (rfl : @Eq va_W _ [(h_a, .inr (7, [.int v_a_width, .ref h_a_cells, .int p.2.2.1])), (h_b1, .inl (jy X 0, n_b1, .inl f_b1)), (h_a_cells, .inl (jy X 0, n_a_cells, .inl r2.2))])) (fun r2 => ?_))
      refine j_pop (pc := 40) hC rfl dX7_appendRow_40 ?_
      refine j_iinc (pc := 41) hC 3 rfl ki_1 (fun x3 => (rfl : @Eq (List (Nat × Value)) _ [(3, .int x3), (0, .ref h_a), (1, .ref h_b1), (2, .int p.1)])) (by decide) dX7_appendRow_41 (fun x3 => ?_)
      refine j_goto (pc := 44) hC 17 (by decide) dX7_appendRow_44 ?_
      refine j_lv (pc := 17) [1, 2, 3, 0] rfl ?_
      exact hrec17 (p.1, x3, p.2.2.1, r2.2)
set_option maxHeartbeats 4000000 in
set_option maxRecDepth 100000 in
theorem jX7_appendRow_b17 {X : jX} (hC : jC X cX7_appendRow 4 RX7 rX7_appendRow none) (u : Nat) (h_a h_a_cells h_b1 : Nat) (v_a_width v_a_rows : Int32) (n_b1 : Nat) (f_b1 : Nat → Int32) (n_a_cells : Nat) (f_a_cells : Nat → Int32) (p : Int32 × Int32 × Int32 × (Nat → Int32)) : gX7_appendRow X h_a h_a_cells h_b1 v_a_width v_a_rows n_b1 f_b1 n_a_cells f_a_cells 17 [(0, .ref h_a), (1, .ref h_b1), (2, .int p.1), (3, .int p.2.1)] [] p.2.2.1 p.2.2.2 (jfix (fX7_appendRow_b17 u v_a_width v_a_rows n_b1 f_b1 n_a_cells f_a_cells) u p) :=
  j_fix (fun rec17 hrec17 p => jX7_appendRow_b17_step hC u h_a h_a_cells h_b1 v_a_width v_a_rows n_b1 f_b1 n_a_cells f_a_cells rec17 hrec17 p) u p
set_option maxHeartbeats 4000000 in
set_option maxRecDepth 100000 in
theorem jX7_appendRow {X : jX} (hC : jC X cX7_appendRow 4 RX7 rX7_appendRow none) (u : Nat) (h_a h_a_cells h_b1 : Nat) (v_a_width v_a_rows : Int32) (n_b1 : Nat) (f_b1 : Nat → Int32) (n_a_cells : Nat) (f_a_cells : Nat → Int32) : gX7_appendRow X h_a h_a_cells h_b1 v_a_width v_a_rows n_b1 f_b1 n_a_cells f_a_cells 0 [(0, .ref h_a), (1, .ref h_b1)] [] v_a_rows f_a_cells (fX7_appendRow u v_a_width v_a_rows n_b1 f_b1 n_a_cells f_a_cells) := by
  unfold fX7_appendRow
  refine j_aload_n (pc := 0) hC 0 rfl dX7_appendRow_0 ?_
  refine j_get (pc := 1) hC flRX7_19 0 rfl rfl dX7_appendRow_1 ?_
  refine j_istore_n (pc := 4) hC (lv' := [(2, .int v_a_rows), (0, .ref h_a), (1, .ref h_b1)]) rfl (by decide) dX7_appendRow_4 ?_
  refine j_aload_n (pc := 5) hC 1 rfl dX7_appendRow_5 ?_
  refine j_dup (pc := 6) hC rfl dX7_appendRow_6 ?_
  refine j_get (pc := 7) hC flRX7_19 0 rfl rfl dX7_appendRow_7 ?_
  refine j_iconst (pc := 10) hC ki_1 dX7_appendRow_10 ?_
  refine j_iadd (pc := 11) hC dX7_appendRow_11 ?_
  refine j_let (pc := 12) (fun x1 => ?_)
  refine j_put (pc := 12) hC fpRX7_19 0 rfl rfl rfl (Nat.le_of_ble_eq_true rfl) dX7_appendRow_12 (ws' := [(h_a, .inr (7, [.int v_a_width, .ref h_a_cells, .int x1])), (h_b1, .inl (jy X 0, n_b1, .inl f_b1)), (h_a_cells, .inl (jy X 0, n_a_cells, .inl f_a_cells))]) rfl ?_
  refine j_iconst (pc := 15) hC ki_0 dX7_appendRow_15 ?_
  refine j_istore_n (pc := 16) hC (lv' := [(3, .int (0 : Int32)), (2, .int v_a_rows), (0, .ref h_a), (1, .ref h_b1)]) rfl (by decide) dX7_appendRow_16 ?_
  refine j_lv (pc := 17) [2, 3, 1, 0] rfl ?_
  exact jX7_appendRow_b17 hC u h_a h_a_cells h_b1 v_a_width v_a_rows n_b1 f_b1 n_a_cells f_a_cells (v_a_rows, (0 : Int32), x1, f_a_cells)
set_option maxHeartbeats 4000000 in
set_option maxRecDepth 100000 in
theorem mX7_appendRow (l : Launch) (D : va_G) (cy : Nat → ClassId) (ev : jE) (u : Nat) (h_a h_a_cells h_b1 : Nat) (v_a_width v_a_rows : Int32) (n_b1 : Nat) (f_b1 : Nat → Int32) (n_a_cells : Nat) (f_a_cells : Nat → Int32) : jM l yX7_appendRow cX7_appendRow 4 none rX7_appendRow [.ref h_a, .ref h_b1] [(h_a, .inr (7, [.int v_a_width, .ref h_a_cells, .int v_a_rows])), (h_b1, .inl (cy 0, n_b1, .inl f_b1)), (h_a_cells, .inl (cy 0, n_a_cells, .inl f_a_cells))] (fun (r : Int32 × (Nat → Int32)) (_ : Nat → Nat) => [(h_a, .inr (7, [.int v_a_width, .ref h_a_cells, .int r.1])), (h_b1, .inl (cy 0, n_b1, .inl f_b1)), (h_a_cells, .inl (cy 0, n_a_cells, .inl r.2))]) (fun (_ : Int32 × (Nat → Int32)) => none) (fX7_appendRow u v_a_width v_a_rows n_b1 f_b1 n_a_cells f_a_cells) D cy ev := j_met RX7 (by decide +kernel) rfl (Nat.le_of_ble_eq_true rfl) (fun X hC _ hD hy hv => by subst hD; subst hy; subst hv; exact jX7_appendRow hC u h_a h_a_cells h_b1 v_a_width v_a_rows n_b1 f_b1 n_a_cells f_a_cells)
abbrev gX5_close (X : jX) (h_a h_a_throwsTold h_a_told h_a_throwsTold_cells : Nat) (p1 v_a_itemsSeen v_a_at v_a_start v_a_token v_a_number v_a_throwsTold_rows : Int32) (f_a_told f_a_throwsTold_cells : Nat → Int32) (pc : Nat) (lv : List (Nat × Value)) (st : List Value) (w0 : Int32) (w1 : Int32) (w2 : Nat → Int32) (e : Option (Int32 × Int32 × (Nat → Int32))) : Prop := jJ (ρ := Int32 × Int32 × (Nat → Int32)) X 2 0 0 (jQf X 0 0 (fun (_ : Int32 × Int32 × (Nat → Int32)) => none) (fun (r : Int32 × Int32 × (Nat → Int32)) (_ : Nat → Nat) => [(h_a, .inr (5, [.ref h_a_throwsTold, .ref h_a_told, .int r.1, .int v_a_at, .int v_a_start, .int v_a_token, .int v_a_number])), (h_a_throwsTold, .inr (7, [.int (13 : Int32), .ref h_a_throwsTold_cells, .int r.2.1])), (h_a_told, .inl (jy X 0, 13, .inl f_a_told)), (h_a_throwsTold_cells, .inl (jy X 0, 156, .inl r.2.2))])) pc lv st [(h_a, .inr (5, [.ref h_a_throwsTold, .ref h_a_told, .int w0, .int v_a_at, .int v_a_start, .int v_a_token, .int v_a_number])), (h_a_throwsTold, .inr (7, [.int (13 : Int32), .ref h_a_throwsTold_cells, .int w1])), (h_a_told, .inl (jy X 0, 13, .inl f_a_told)), (h_a_throwsTold_cells, .inl (jy X 0, 156, .inl w2))] (e)
set_option maxHeartbeats 4000000 in
set_option maxRecDepth 100000 in
theorem jX5_close {X : jX} (hC : jC X cX5_close 2 RX5 rX5_close none) (u : Nat) (h_a h_a_throwsTold h_a_told h_a_throwsTold_cells : Nat) (p1 v_a_itemsSeen v_a_at v_a_start v_a_token v_a_number v_a_throwsTold_rows : Int32) (f_a_told f_a_throwsTold_cells : Nat → Int32) : gX5_close X h_a h_a_throwsTold h_a_told h_a_throwsTold_cells p1 v_a_itemsSeen v_a_at v_a_start v_a_token v_a_number v_a_throwsTold_rows f_a_told f_a_throwsTold_cells 0 [(0, .ref h_a), (1, .int p1)] [] v_a_itemsSeen v_a_throwsTold_rows f_a_throwsTold_cells (fX5_close u p1 v_a_itemsSeen v_a_throwsTold_rows f_a_told f_a_throwsTold_cells) := by
  unfold fX5_close
  refine j_iload_n (pc := 0) hC 1 rfl dX5_close_0 ?_
  refine j_iconst (pc := 1) hC ki_3 dX5_close_1 ?_
  refine j_icmpne (pc := 2) hC 19 (by decide) dX5_close_2 ?_ ?_
  · refine j_aload_n (pc := 19) hC 0 rfl dX5_close_19 ?_
    refine j_dup (pc := 20) hC rfl dX5_close_20 ?_
    refine j_get (pc := 21) hC flRX5_28 0 rfl rfl dX5_close_21 ?_
    refine j_iconst (pc := 24) hC ki_1 dX5_close_24 ?_
    refine j_iload_n (pc := 25) hC 1 rfl dX5_close_25 ?_
    refine j_ishl (pc := 26) hC dX5_close_26 ?_
    refine j_ior (pc := 27) hC dX5_close_27 ?_
    refine j_let (pc := 28) (fun x1 => ?_)
    refine j_put (pc := 28) hC fpRX5_28 0 rfl rfl rfl (Nat.le_of_ble_eq_true rfl) dX5_close_28 (ws' := [(h_a, .inr (5, [.ref h_a_throwsTold, .ref h_a_told, .int x1, .int v_a_at, .int v_a_start, .int v_a_token, .int v_a_number])), (h_a_throwsTold, .inr (7, [.int (13 : Int32), .ref h_a_throwsTold_cells, .int v_a_throwsTold_rows])), (h_a_told, .inl (jy X 0, 13, .inl f_a_told)), (h_a_throwsTold_cells, .inl (jy X 0, 156, .inl f_a_throwsTold_cells))]) rfl ?_
    exact j_vret (pc := 31) hC (fun _ => 0) rfl rfl dX5_close_31
  · refine j_aload_n (pc := 5) hC 0 rfl dX5_close_5 ?_
    refine j_get (pc := 6) hC flRX5_14 0 rfl rfl dX5_close_6 ?_
    refine j_aload_n (pc := 9) hC 0 rfl dX5_close_9 ?_
    refine j_get (pc := 10) hC flRX5_20 0 rfl rfl dX5_close_10 ?_
    refine j_callV (pc := 13) hC csRX5_74 [.ref h_a_told] (mX7_appendRow (jl X) (jD X) (jy X) (jv X) u h_a_throwsTold h_a_throwsTold_cells h_a_told (13 : Int32) v_a_throwsTold_rows 13 f_a_told 156 f_a_throwsTold_cells) [1, 2, 3] rfl (by decide +kernel) 1 rfl ⟨_, _, rfl⟩ ⟨by decide, by decide, rfl, rfl, by decide, by decide⟩ rfl rfl (Nat.le_of_ble_eq_true rfl) dX5_close_13 (jkv (fun r2 _ => (rfl : @Eq va_W _ [(h_a, .inr (5, [.ref h_a_throwsTold, .ref h_a_told, .int v_a_itemsSeen, .int v_a_at, .int v_a_start, .int v_a_token, .int v_a_number])), (h_a_throwsTold, .inr (7, [.int (13 : Int32), .ref h_a_throwsTold_cells, .int r2.1])), (h_a_told, .inl (jy X 0, 13, .inl f_a_told)), (h_a_throwsTold_cells, .inl (jy X 0, 156, .inl r2.2))])) (fun r2 => ?_))
    refine j_goto (pc := 16) hC 31 (by decide) dX5_close_16 ?_
    exact j_vret (pc := 31) hC (fun _ => 0) rfl rfl dX5_close_31
set_option maxHeartbeats 4000000 in
set_option maxRecDepth 100000 in
theorem mX5_close (l : Launch) (D : va_G) (cy : Nat → ClassId) (ev : jE) (u : Nat) (h_a h_a_throwsTold h_a_told h_a_throwsTold_cells : Nat) (p1 v_a_itemsSeen v_a_at v_a_start v_a_token v_a_number v_a_throwsTold_rows : Int32) (f_a_told f_a_throwsTold_cells : Nat → Int32) : jM l yX5_close cX5_close 2 none rX5_close [.ref h_a, .int p1] [(h_a, .inr (5, [.ref h_a_throwsTold, .ref h_a_told, .int v_a_itemsSeen, .int v_a_at, .int v_a_start, .int v_a_token, .int v_a_number])), (h_a_throwsTold, .inr (7, [.int (13 : Int32), .ref h_a_throwsTold_cells, .int v_a_throwsTold_rows])), (h_a_told, .inl (cy 0, 13, .inl f_a_told)), (h_a_throwsTold_cells, .inl (cy 0, 156, .inl f_a_throwsTold_cells))] (fun (r : Int32 × Int32 × (Nat → Int32)) (_ : Nat → Nat) => [(h_a, .inr (5, [.ref h_a_throwsTold, .ref h_a_told, .int r.1, .int v_a_at, .int v_a_start, .int v_a_token, .int v_a_number])), (h_a_throwsTold, .inr (7, [.int (13 : Int32), .ref h_a_throwsTold_cells, .int r.2.1])), (h_a_told, .inl (cy 0, 13, .inl f_a_told)), (h_a_throwsTold_cells, .inl (cy 0, 156, .inl r.2.2))]) (fun (_ : Int32 × Int32 × (Nat → Int32)) => none) (fX5_close u p1 v_a_itemsSeen v_a_throwsTold_rows f_a_told f_a_throwsTold_cells) D cy ev := j_met RX5 (by decide +kernel) rfl (Nat.le_of_ble_eq_true rfl) (fun X hC _ hD hy hv => by subst hD; subst hy; subst hv; exact jX5_close hC u h_a h_a_throwsTold h_a_told h_a_throwsTold_cells p1 v_a_itemsSeen v_a_at v_a_start v_a_token v_a_number v_a_throwsTold_rows f_a_told f_a_throwsTold_cells)
abbrev gX5_read (X : jX) (h_a h_a_throwsTold h_a_told h_b1 h_b1_cells h_a_throwsTold_cells : Nat) (v_a_itemsSeen v_a_at v_a_start v_a_token v_a_number v_b1_width v_b1_rows v_a_throwsTold_rows : Int32) (f_a_told : Nat → Int32) (n_b1_cells : Nat) (f_b1_cells f_a_throwsTold_cells : Nat → Int32) (pc : Nat) (lv : List (Nat × Value)) (st : List Value) (w0 : Int32) (w1 : Int32) (w2 : Int32) (w3 : Int32) (w4 : Int32) (w5 : Int32) (w6 : Nat → Int32) (w7 : Nat → Int32) (e : Option (Int32 × Int32 × Int32 × Int32 × Int32 × Int32 × Int32 × (Nat → Int32) × (Nat → Int32))) : Prop := jJ (ρ := Int32 × Int32 × Int32 × Int32 × Int32 × Int32 × Int32 × (Nat → Int32) × (Nat → Int32)) X 4 0 0 (jQf X 0 0 (fun (r : Int32 × Int32 × Int32 × Int32 × Int32 × Int32 × Int32 × (Nat → Int32) × (Nat → Int32)) => some (.int r.1)) (fun (r : Int32 × Int32 × Int32 × Int32 × Int32 × Int32 × Int32 × (Nat → Int32) × (Nat → Int32)) (_ : Nat → Nat) => [(h_a, .inr (5, [.ref h_a_throwsTold, .ref h_a_told, .int r.2.1, .int r.2.2.1, .int r.2.2.2.1, .int r.2.2.2.2.1, .int r.2.2.2.2.2.1])), (h_b1, .inr (7, [.int v_b1_width, .ref h_b1_cells, .int v_b1_rows])), (h_a_throwsTold, .inr (7, [.int (13 : Int32), .ref h_a_throwsTold_cells, .int r.2.2.2.2.2.2.1])), (h_a_told, .inl (jy X 0, 13, .inl r.2.2.2.2.2.2.2.1)), (h_b1_cells, .inl (jy X 0, n_b1_cells, .inl f_b1_cells)), (h_a_throwsTold_cells, .inl (jy X 0, 156, .inl r.2.2.2.2.2.2.2.2))])) pc lv st [(h_a, .inr (5, [.ref h_a_throwsTold, .ref h_a_told, .int w0, .int w1, .int w2, .int w3, .int w4])), (h_b1, .inr (7, [.int v_b1_width, .ref h_b1_cells, .int v_b1_rows])), (h_a_throwsTold, .inr (7, [.int (13 : Int32), .ref h_a_throwsTold_cells, .int w5])), (h_a_told, .inl (jy X 0, 13, .inl w6)), (h_b1_cells, .inl (jy X 0, n_b1_cells, .inl f_b1_cells)), (h_a_throwsTold_cells, .inl (jy X 0, 156, .inl w7))] (e)
set_option maxHeartbeats 4000000 in
set_option maxRecDepth 100000 in
theorem jX5_read_b20_step {X : jX} (hC : jC X cX5_read 4 RX5 rX5_read (some .int)) (u : Nat) (h_a h_a_throwsTold h_a_told h_b1 h_b1_cells h_a_throwsTold_cells : Nat) (v_a_itemsSeen v_a_at v_a_start v_a_token v_a_number v_b1_width v_b1_rows v_a_throwsTold_rows : Int32) (f_a_told : Nat → Int32) (n_b1_cells : Nat) (f_b1_cells f_a_throwsTold_cells : Nat → Int32) (rec20 : (Int32 × Int32 × Int32 × Int32 × Int32 × Int32 × Int32 × (Nat → Int32) × (Nat → Int32)) → Option (Int32 × Int32 × Int32 × Int32 × Int32 × Int32 × Int32 × (Nat → Int32) × (Nat → Int32))) (hrec20 : ∀ p : Int32 × Int32 × Int32 × Int32 × Int32 × Int32 × Int32 × (Nat → Int32) × (Nat → Int32), gX5_read X h_a h_a_throwsTold h_a_told h_b1 h_b1_cells h_a_throwsTold_cells v_a_itemsSeen v_a_at v_a_start v_a_token v_a_number v_b1_width v_b1_rows v_a_throwsTold_rows f_a_told n_b1_cells f_b1_cells f_a_throwsTold_cells 20 [(0, .ref h_a), (1, .ref h_b1), (2, .int p.1)] [] p.2.1 p.2.2.1 p.2.2.2.1 p.2.2.2.2.1 p.2.2.2.2.2.1 p.2.2.2.2.2.2.1 p.2.2.2.2.2.2.2.1 p.2.2.2.2.2.2.2.2 (rec20 p)) (p : Int32 × Int32 × Int32 × Int32 × Int32 × Int32 × Int32 × (Nat → Int32) × (Nat → Int32)) : gX5_read X h_a h_a_throwsTold h_a_told h_b1 h_b1_cells h_a_throwsTold_cells v_a_itemsSeen v_a_at v_a_start v_a_token v_a_number v_b1_width v_b1_rows v_a_throwsTold_rows f_a_told n_b1_cells f_b1_cells f_a_throwsTold_cells 20 [(0, .ref h_a), (1, .ref h_b1), (2, .int p.1)] [] p.2.1 p.2.2.1 p.2.2.2.1 p.2.2.2.2.1 p.2.2.2.2.2.1 p.2.2.2.2.2.2.1 p.2.2.2.2.2.2.2.1 p.2.2.2.2.2.2.2.2 (fX5_read_b20 u v_a_itemsSeen v_a_at v_a_start v_a_token v_a_number v_b1_width v_b1_rows v_a_throwsTold_rows f_a_told n_b1_cells f_b1_cells f_a_throwsTold_cells rec20 p) := by
  unfold fX5_read_b20
  refine j_iload_n (pc := 20) hC 2 rfl dX5_read_20 ?_
  refine j_aload_n (pc := 21) hC 1 rfl dX5_read_21 ?_
  refine j_get (pc := 22) hC flRX5_24 1 rfl rfl dX5_read_22 ?_
  refine j_icmpgt (pc := 25) hC 104 (by decide) dX5_read_25 ?_ ?_
  · refine j_iconst (pc := 104) hC ki_m1 dX5_read_104 ?_
    exact j_iret (pc := 105) hC (fun _ => 0) rfl rfl dX5_read_105
  · refine j_aload_n (pc := 28) hC 0 rfl dX5_read_28 ?_
    refine j_aload_n (pc := 29) hC 1 rfl dX5_read_29 ?_
    refine j_callV (pc := 30) hC csRX5_34 [.ref h_b1] (mX5_advance (jl X) (jD X) (jy X) (jv X) u h_a h_a_throwsTold h_a_told h_b1 h_b1_cells p.2.1 p.2.2.1 p.2.2.2.1 p.2.2.2.2.1 p.2.2.2.2.2.1 v_b1_width v_b1_rows n_b1_cells f_b1_cells) [0, 1, 4] rfl (by decide +kernel) 0 rfl ⟨_, _, rfl⟩ ⟨by decide, by decide, rfl, rfl, by decide, by decide⟩ rfl rfl (Nat.le_of_ble_eq_true rfl) dX5_read_30 (jkv (fun r1 _ => (rfl : @Eq va_W _ [(h_a, .inr (5, [.ref h_a_throwsTold, .ref h_a_told, .int p.2.1, .int r1.1, .int r1.2.1, .int r1.2.2.1, .int r1.2.2.2])), (h_b1, .inr (7, [.int v_b1_width, .ref h_b1_cells, .int v_b1_rows])), (h_a_throwsTold, .inr (7, [.int (13 : Int32), .ref h_a_throwsTold_cells, .int p.2.2.2.2.2.2.1])), (h_a_told, .inl (jy X 0, 13, .inl p.2.2.2.2.2.2.2.1)), (h_b1_cells, .inl (jy X 0, n_b1_cells, .inl f_b1_cells)), (h_a_throwsTold_cells, .inl (jy X 0, 156, .inl p.2.2.2.2.2.2.2.2))])) (fun r1 => ?_))
    refine j_aload_n (pc := 33) hC 0 rfl dX5_read_33 ?_
    refine j_get (pc := 34) hC flRX5_38 0 rfl rfl dX5_read_34 ?_
    refine j_ifne (pc := 37) hC 42 (by decide) dX5_read_37 ?_ ?_
    · refine j_aload_n (pc := 42) hC 0 rfl dX5_read_42 ?_
      refine j_aload_n (pc := 43) hC 1 rfl dX5_read_43 ?_
      refine j_callV (pc := 44) hC csRX5_41 [.ref h_b1] (mX5_itemNamed (jl X) (jD X) (jy X) (jv X) u h_a h_a_throwsTold h_a_told h_b1 h_b1_cells p.2.1 r1.1 r1.2.1 r1.2.2.1 r1.2.2.2 v_b1_width v_b1_rows n_b1_cells f_b1_cells) [0, 1, 4] rfl (by decide +kernel) 0 rfl ⟨_, _, rfl⟩ ⟨by decide, by decide, rfl, rfl, by decide, by decide⟩ rfl rfl (Nat.le_of_ble_eq_true rfl) dX5_read_44 (jki0 (fun _ => rfl) (fun _ _ => rfl) (fun r2 => ?_))
      refine j_istore_n (pc := 47) hC (lv' := [(3, .int r2), (0, .ref h_a), (1, .ref h_b1), (2, .int p.1)]) rfl (by decide) dX5_read_47 ?_
      refine j_iload_n (pc := 48) hC 0 rfl dX5_read_48 ?_
      refine j_iconst (pc := 49) hC ki_m1 dX5_read_49 ?_
      refine j_icmpeq (pc := 50) hC 70 (by decide) dX5_read_50 ?_ ?_
      · refine j_aload_n (pc := 70) hC 1 rfl dX5_read_70 ?_
        refine j_get (pc := 71) hC flRX5_53 0 rfl rfl dX5_read_71 ?_
        exact j_iret (pc := 74) hC (fun _ => 0) rfl rfl dX5_read_74
      · refine j_aload_n (pc := 53) hC 1 rfl dX5_read_53 ?_
        refine j_iload_n (pc := 54) hC 0 rfl dX5_read_54 ?_
        refine j_callV (pc := 55) hC csRX5_45 [.int r2] (mX5_mayStand (jl X) (jD X) (jy X) (jv X) h_a h_a_throwsTold h_a_told h_a_throwsTold_cells r2 p.2.1 r1.1 r1.2.1 r1.2.2.1 r1.2.2.2 p.2.2.2.2.2.2.1 p.2.2.2.2.2.2.2.2) [0, 2, 5] rfl (by decide +kernel) 0 rfl ⟨_, _, rfl⟩ ⟨by decide, by decide, rfl, rfl, by decide, by decide⟩ rfl rfl (Nat.le_of_ble_eq_true rfl) dX5_read_55 (jki0 (fun _ => rfl) (fun _ _ => rfl) (fun r3 => ?_))
        refine j_ifeq (pc := 58) hC 70 (by decide) dX5_read_58 ?_ ?_
        · refine j_aload_n (pc := 70) hC 1 rfl dX5_read_70 ?_
          refine j_get (pc := 71) hC flRX5_53 0 rfl rfl dX5_read_71 ?_
          exact j_iret (pc := 74) hC (fun _ => 0) rfl rfl dX5_read_74
        · refine j_aload_n (pc := 61) hC 1 rfl dX5_read_61 ?_
          refine j_aload_n (pc := 62) hC 2 rfl dX5_read_62 ?_
          refine j_iload_n (pc := 63) hC 0 rfl dX5_read_63 ?_
          refine j_callV (pc := 64) hC csRX5_49 [.ref h_b1, .int r2] (mX5_readNumbers (jl X) (jD X) (jy X) (jv X) u h_a h_a_throwsTold h_a_told h_b1 h_b1_cells r2 p.2.1 r1.1 r1.2.1 r1.2.2.1 r1.2.2.2 v_b1_width v_b1_rows p.2.2.2.2.2.2.2.1 n_b1_cells f_b1_cells) [0, 1, 3, 4] rfl (by decide +kernel) 0 rfl ⟨_, _, rfl⟩ ⟨by decide, by decide, rfl, rfl, by decide, by decide⟩ rfl rfl (Nat.le_of_ble_eq_true rfl) dX5_read_64 (jki (fun _ => rfl) (fun r4 _ => (rfl : @Eq va_W _ [(h_a, .inr (5, [.ref h_a_throwsTold, .ref h_a_told, .int p.2.1, .int r4.2.1, .int r4.2.2.1, .int r4.2.2.2.1, .int r4.2.2.2.2.1])), (h_b1, .inr (7, [.int v_b1_width, .ref h_b1_cells, .int v_b1_rows])), (h_a_throwsTold, .inr (7, [.int (13 : Int32), .ref h_a_throwsTold_cells, .int p.2.2.2.2.2.2.1])), (h_a_told, .inl (jy X 0, 13, .inl r4.2.2.2.2.2)), (h_b1_cells, .inl (jy X 0, n_b1_cells, .inl f_b1_cells)), (h_a_throwsTold_cells, .inl (jy X 0, 156, .inl p.2.2.2.2.2.2.2.2))])) (fun r4 => ?_))
          refine j_ifne (pc := 67) hC 75 (by decide) dX5_read_67 ?_ ?_
          · refine j_aload_n (pc := 75) hC 1 rfl dX5_read_75 ?_
            refine j_aload_n (pc := 76) hC 2 rfl dX5_read_76 ?_
            refine j_callV (pc := 77) hC csRX5_34 [.ref h_b1] (mX5_advance (jl X) (jD X) (jy X) (jv X) u h_a h_a_throwsTold h_a_told h_b1 h_b1_cells p.2.1 r4.2.1 r4.2.2.1 r4.2.2.2.1 r4.2.2.2.2.1 v_b1_width v_b1_rows n_b1_cells f_b1_cells) [0, 1, 4] rfl (by decide +kernel) 0 rfl ⟨_, _, rfl⟩ ⟨by decide, by decide, rfl, rfl, by decide, by decide⟩ rfl rfl (Nat.le_of_ble_eq_true rfl) dX5_read_77 (jkv (fun r5 _ => (rfl : @Eq va_W _ [(h_a, .inr (5, [.ref h_a_throwsTold, .ref h_a_told, .int p.2.1, .int r5.1, .int r5.2.1, .int r5.2.2.1, .int r5.2.2.2])), (h_b1, .inr (7, [.int v_b1_width, .ref h_b1_cells, .int v_b1_rows])), (h_a_throwsTold, .inr (7, [.int (13 : Int32), .ref h_a_throwsTold_cells, .int p.2.2.2.2.2.2.1])), (h_a_told, .inl (jy X 0, 13, .inl r4.2.2.2.2.2)), (h_b1_cells, .inl (jy X 0, n_b1_cells, .inl f_b1_cells)), (h_a_throwsTold_cells, .inl (jy X 0, 156, .inl p.2.2.2.2.2.2.2.2))])) (fun r5 => ?_))
            refine j_aload_n (pc := 80) hC 1 rfl dX5_read_80 ?_
            refine j_get (pc := 81) hC flRX5_38 0 rfl rfl dX5_read_81 ?_
            refine j_iconst (pc := 84) hC ki_3 dX5_read_84 ?_
            refine j_icmpeq (pc := 85) hC 93 (by decide) dX5_read_85 ?_ ?_
            · refine j_aload_n (pc := 93) hC 1 rfl dX5_read_93 ?_
              refine j_iload_n (pc := 94) hC 0 rfl dX5_read_94 ?_
              refine j_callV (pc := 95) hC csRX5_56 [.int r2] (mX5_close (jl X) (jD X) (jy X) (jv X) u h_a h_a_throwsTold h_a_told h_a_throwsTold_cells r2 p.2.1 r5.1 r5.2.1 r5.2.2.1 r5.2.2.2 p.2.2.2.2.2.2.1 r4.2.2.2.2.2 p.2.2.2.2.2.2.2.2) [0, 2, 3, 5] rfl (by decide +kernel) 0 rfl ⟨_, _, rfl⟩ ⟨by decide, by decide, rfl, rfl, by decide, by decide⟩ rfl rfl (Nat.le_of_ble_eq_true rfl) dX5_read_95 (jkv (fun r6 _ => (rfl : @Eq va_W _ [(h_a, .inr (5, [.ref h_a_throwsTold, .ref h_a_told, .int r6.1, .int r5.1, .int r5.2.1, .int r5.2.2.1, .int r5.2.2.2])), (h_b1, .inr (7, [.int v_b1_width, .ref h_b1_cells, .int v_b1_rows])), (h_a_throwsTold, .inr (7, [.int (13 : Int32), .ref h_a_throwsTold_cells, .int r6.2.1])), (h_a_told, .inl (jy X 0, 13, .inl r4.2.2.2.2.2)), (h_b1_cells, .inl (jy X 0, n_b1_cells, .inl f_b1_cells)), (h_a_throwsTold_cells, .inl (jy X 0, 156, .inl r6.2.2))])) (fun r6 => ?_))
              refine j_iinc (pc := 98) hC 3 rfl ki_1 (fun x7 => (rfl : @Eq (List (Nat × Value)) _ [(2, .int x7), (3, .int r2), (0, .ref h_a), (1, .ref h_b1)])) (by decide) dX5_read_98 (fun x7 => ?_)
              refine j_goto (pc := 101) hC 20 (by decide) dX5_read_101 ?_
              refine j_lv (pc := 20) [2, 3, 0] rfl ?_
              exact hrec20 (x7, r6.1, r5.1, r5.2.1, r5.2.2.1, r5.2.2.2, r6.2.1, r4.2.2.2.2.2, r6.2.2)
            · refine j_aload_n (pc := 88) hC 1 rfl dX5_read_88 ?_
              refine j_get (pc := 89) hC flRX5_53 0 rfl rfl dX5_read_89 ?_
              exact j_iret (pc := 92) hC (fun _ => 0) rfl rfl dX5_read_92
          · refine j_aload_n (pc := 70) hC 1 rfl dX5_read_70 ?_
            refine j_get (pc := 71) hC flRX5_53 0 rfl rfl dX5_read_71 ?_
            exact j_iret (pc := 74) hC (fun _ => 0) rfl rfl dX5_read_74
    · refine j_iconst (pc := 40) hC ki_m1 dX5_read_40 ?_
      exact j_iret (pc := 41) hC (fun _ => 0) rfl rfl dX5_read_41
set_option maxHeartbeats 4000000 in
set_option maxRecDepth 100000 in
theorem jX5_read_b20 {X : jX} (hC : jC X cX5_read 4 RX5 rX5_read (some .int)) (u : Nat) (h_a h_a_throwsTold h_a_told h_b1 h_b1_cells h_a_throwsTold_cells : Nat) (v_a_itemsSeen v_a_at v_a_start v_a_token v_a_number v_b1_width v_b1_rows v_a_throwsTold_rows : Int32) (f_a_told : Nat → Int32) (n_b1_cells : Nat) (f_b1_cells f_a_throwsTold_cells : Nat → Int32) (p : Int32 × Int32 × Int32 × Int32 × Int32 × Int32 × Int32 × (Nat → Int32) × (Nat → Int32)) : gX5_read X h_a h_a_throwsTold h_a_told h_b1 h_b1_cells h_a_throwsTold_cells v_a_itemsSeen v_a_at v_a_start v_a_token v_a_number v_b1_width v_b1_rows v_a_throwsTold_rows f_a_told n_b1_cells f_b1_cells f_a_throwsTold_cells 20 [(0, .ref h_a), (1, .ref h_b1), (2, .int p.1)] [] p.2.1 p.2.2.1 p.2.2.2.1 p.2.2.2.2.1 p.2.2.2.2.2.1 p.2.2.2.2.2.2.1 p.2.2.2.2.2.2.2.1 p.2.2.2.2.2.2.2.2 (jfix (fX5_read_b20 u v_a_itemsSeen v_a_at v_a_start v_a_token v_a_number v_b1_width v_b1_rows v_a_throwsTold_rows f_a_told n_b1_cells f_b1_cells f_a_throwsTold_cells) u p) :=
  j_fix (fun rec20 hrec20 p => jX5_read_b20_step hC u h_a h_a_throwsTold h_a_told h_b1 h_b1_cells h_a_throwsTold_cells v_a_itemsSeen v_a_at v_a_start v_a_token v_a_number v_b1_width v_b1_rows v_a_throwsTold_rows f_a_told n_b1_cells f_b1_cells f_a_throwsTold_cells rec20 hrec20 p) u p
set_option maxHeartbeats 4000000 in
set_option maxRecDepth 100000 in
theorem jX5_read {X : jX} (hC : jC X cX5_read 4 RX5 rX5_read (some .int)) (u : Nat) (h_a h_a_throwsTold h_a_told h_b1 h_b1_cells h_a_throwsTold_cells : Nat) (v_a_itemsSeen v_a_at v_a_start v_a_token v_a_number v_b1_width v_b1_rows v_a_throwsTold_rows : Int32) (f_a_told : Nat → Int32) (n_b1_cells : Nat) (f_b1_cells f_a_throwsTold_cells : Nat → Int32) : gX5_read X h_a h_a_throwsTold h_a_told h_b1 h_b1_cells h_a_throwsTold_cells v_a_itemsSeen v_a_at v_a_start v_a_token v_a_number v_b1_width v_b1_rows v_a_throwsTold_rows f_a_told n_b1_cells f_b1_cells f_a_throwsTold_cells 0 [(0, .ref h_a), (1, .ref h_b1)] [] v_a_itemsSeen v_a_at v_a_start v_a_token v_a_number v_a_throwsTold_rows f_a_told f_a_throwsTold_cells (fX5_read u v_a_itemsSeen v_a_at v_a_start v_a_token v_a_number v_b1_width v_b1_rows v_a_throwsTold_rows f_a_told n_b1_cells f_b1_cells f_a_throwsTold_cells) := by
  unfold fX5_read
  refine j_aload_n (pc := 0) hC 0 rfl dX5_read_0 ?_
  refine j_get (pc := 1) hC flRX5_14 0 rfl rfl dX5_read_1 ?_
  refine j_iconst (pc := 4) hC ki_0 dX5_read_4 ?_
  refine j_put (pc := 5) hC fpRX5_24 2 rfl rfl rfl (Nat.le_of_ble_eq_true rfl) dX5_read_5 (ws' := [(h_a, .inr (5, [.ref h_a_throwsTold, .ref h_a_told, .int v_a_itemsSeen, .int v_a_at, .int v_a_start, .int v_a_token, .int v_a_number])), (h_b1, .inr (7, [.int v_b1_width, .ref h_b1_cells, .int v_b1_rows])), (h_a_throwsTold, .inr (7, [.int (13 : Int32), .ref h_a_throwsTold_cells, .int (0 : Int32)])), (h_a_told, .inl (jy X 0, 13, .inl f_a_told)), (h_b1_cells, .inl (jy X 0, n_b1_cells, .inl f_b1_cells)), (h_a_throwsTold_cells, .inl (jy X 0, 156, .inl f_a_throwsTold_cells))]) rfl ?_
  refine j_aload_n (pc := 8) hC 0 rfl dX5_read_8 ?_
  refine j_iconst (pc := 9) hC ki_0 dX5_read_9 ?_
  refine j_put (pc := 10) hC fpRX5_28 0 rfl rfl rfl (Nat.le_of_ble_eq_true rfl) dX5_read_10 (ws' := [(h_a, .inr (5, [.ref h_a_throwsTold, .ref h_a_told, .int (0 : Int32), .int v_a_at, .int v_a_start, .int v_a_token, .int v_a_number])), (h_b1, .inr (7, [.int v_b1_width, .ref h_b1_cells, .int v_b1_rows])), (h_a_throwsTold, .inr (7, [.int (13 : Int32), .ref h_a_throwsTold_cells, .int (0 : Int32)])), (h_a_told, .inl (jy X 0, 13, .inl f_a_told)), (h_b1_cells, .inl (jy X 0, n_b1_cells, .inl f_b1_cells)), (h_a_throwsTold_cells, .inl (jy X 0, 156, .inl f_a_throwsTold_cells))]) rfl ?_
  refine j_aload_n (pc := 13) hC 0 rfl dX5_read_13 ?_
  refine j_iconst (pc := 14) hC ki_0 dX5_read_14 ?_
  refine j_put (pc := 15) hC fpRX5_31 0 rfl rfl rfl (Nat.le_of_ble_eq_true rfl) dX5_read_15 (ws' := [(h_a, .inr (5, [.ref h_a_throwsTold, .ref h_a_told, .int (0 : Int32), .int (0 : Int32), .int v_a_start, .int v_a_token, .int v_a_number])), (h_b1, .inr (7, [.int v_b1_width, .ref h_b1_cells, .int v_b1_rows])), (h_a_throwsTold, .inr (7, [.int (13 : Int32), .ref h_a_throwsTold_cells, .int (0 : Int32)])), (h_a_told, .inl (jy X 0, 13, .inl f_a_told)), (h_b1_cells, .inl (jy X 0, n_b1_cells, .inl f_b1_cells)), (h_a_throwsTold_cells, .inl (jy X 0, 156, .inl f_a_throwsTold_cells))]) rfl ?_
  refine j_iconst (pc := 18) hC ki_0 dX5_read_18 ?_
  refine j_istore_n (pc := 19) hC (lv' := [(2, .int (0 : Int32)), (0, .ref h_a), (1, .ref h_b1)]) rfl (by decide) dX5_read_19 ?_
  refine j_lv (pc := 20) [1, 2, 0] rfl ?_
  exact jX5_read_b20 hC u h_a h_a_throwsTold h_a_told h_b1 h_b1_cells h_a_throwsTold_cells v_a_itemsSeen v_a_at v_a_start v_a_token v_a_number v_b1_width v_b1_rows v_a_throwsTold_rows f_a_told n_b1_cells f_b1_cells f_a_throwsTold_cells ((0 : Int32), (0 : Int32), (0 : Int32), v_a_start, v_a_token, v_a_number, (0 : Int32), f_a_told, f_a_throwsTold_cells)
set_option maxHeartbeats 4000000 in
set_option maxRecDepth 100000 in
theorem mX5_read (l : Launch) (D : va_G) (cy : Nat → ClassId) (ev : jE) (u : Nat) (h_a h_a_throwsTold h_a_told h_b1 h_b1_cells h_a_throwsTold_cells : Nat) (v_a_itemsSeen v_a_at v_a_start v_a_token v_a_number v_b1_width v_b1_rows v_a_throwsTold_rows : Int32) (f_a_told : Nat → Int32) (n_b1_cells : Nat) (f_b1_cells f_a_throwsTold_cells : Nat → Int32) : jM l yX5_read cX5_read 4 (some .int) rX5_read [.ref h_a, .ref h_b1] [(h_a, .inr (5, [.ref h_a_throwsTold, .ref h_a_told, .int v_a_itemsSeen, .int v_a_at, .int v_a_start, .int v_a_token, .int v_a_number])), (h_b1, .inr (7, [.int v_b1_width, .ref h_b1_cells, .int v_b1_rows])), (h_a_throwsTold, .inr (7, [.int (13 : Int32), .ref h_a_throwsTold_cells, .int v_a_throwsTold_rows])), (h_a_told, .inl (cy 0, 13, .inl f_a_told)), (h_b1_cells, .inl (cy 0, n_b1_cells, .inl f_b1_cells)), (h_a_throwsTold_cells, .inl (cy 0, 156, .inl f_a_throwsTold_cells))] (fun (r : Int32 × Int32 × Int32 × Int32 × Int32 × Int32 × Int32 × (Nat → Int32) × (Nat → Int32)) (_ : Nat → Nat) => [(h_a, .inr (5, [.ref h_a_throwsTold, .ref h_a_told, .int r.2.1, .int r.2.2.1, .int r.2.2.2.1, .int r.2.2.2.2.1, .int r.2.2.2.2.2.1])), (h_b1, .inr (7, [.int v_b1_width, .ref h_b1_cells, .int v_b1_rows])), (h_a_throwsTold, .inr (7, [.int (13 : Int32), .ref h_a_throwsTold_cells, .int r.2.2.2.2.2.2.1])), (h_a_told, .inl (cy 0, 13, .inl r.2.2.2.2.2.2.2.1)), (h_b1_cells, .inl (cy 0, n_b1_cells, .inl f_b1_cells)), (h_a_throwsTold_cells, .inl (cy 0, 156, .inl r.2.2.2.2.2.2.2.2))]) (fun (r : Int32 × Int32 × Int32 × Int32 × Int32 × Int32 × Int32 × (Nat → Int32) × (Nat → Int32)) => some (.int r.1)) (fX5_read u v_a_itemsSeen v_a_at v_a_start v_a_token v_a_number v_b1_width v_b1_rows v_a_throwsTold_rows f_a_told n_b1_cells f_b1_cells f_a_throwsTold_cells) D cy ev := j_met RX5 (by decide +kernel) rfl (Nat.le_of_ble_eq_true rfl) (fun X hC _ hD hy hv => by subst hD; subst hy; subst hv; exact jX5_read hC u h_a h_a_throwsTold h_a_told h_b1 h_b1_cells h_a_throwsTold_cells v_a_itemsSeen v_a_at v_a_start v_a_token v_a_number v_b1_width v_b1_rows v_a_throwsTold_rows f_a_told n_b1_cells f_b1_cells f_a_throwsTold_cells)
abbrev gX7_copyFrom (X : jX) (h_a h_a_cells h_b1 h_b1_cells : Nat) (v_a_width v_a_rows v_b1_width v_b1_rows : Int32) (n_a_cells : Nat) (f_a_cells : Nat → Int32) (n_b1_cells : Nat) (f_b1_cells : Nat → Int32) (pc : Nat) (lv : List (Nat × Value)) (st : List Value) (w0 : Int32) (w1 : Nat → Int32) (e : Option (Int32 × (Nat → Int32))) : Prop := jJ (ρ := Int32 × (Nat → Int32)) X 2 0 0 (jQf X 0 0 (fun (_ : Int32 × (Nat → Int32)) => none) (fun (r : Int32 × (Nat → Int32)) (_ : Nat → Nat) => [(h_a, .inr (7, [.int v_a_width, .ref h_a_cells, .int r.1])), (h_b1, .inr (7, [.int v_b1_width, .ref h_b1_cells, .int v_b1_rows])), (h_a_cells, .inl (jy X 0, n_a_cells, .inl r.2)), (h_b1_cells, .inl (jy X 0, n_b1_cells, .inl f_b1_cells))])) pc lv st [(h_a, .inr (7, [.int v_a_width, .ref h_a_cells, .int w0])), (h_b1, .inr (7, [.int v_b1_width, .ref h_b1_cells, .int v_b1_rows])), (h_a_cells, .inl (jy X 0, n_a_cells, .inl w1)), (h_b1_cells, .inl (jy X 0, n_b1_cells, .inl f_b1_cells))] (e)
set_option maxHeartbeats 4000000 in
set_option maxRecDepth 100000 in
theorem jX7_copyFrom {X : jX} (hC : jC X cX7_copyFrom 2 RX7 rX7_copyFrom none) (h_a h_a_cells h_b1 h_b1_cells : Nat) (v_a_width v_a_rows v_b1_width v_b1_rows : Int32) (n_a_cells : Nat) (f_a_cells : Nat → Int32) (n_b1_cells : Nat) (f_b1_cells : Nat → Int32) : gX7_copyFrom X h_a h_a_cells h_b1 h_b1_cells v_a_width v_a_rows v_b1_width v_b1_rows n_a_cells f_a_cells n_b1_cells f_b1_cells 0 [(0, .ref h_a), (1, .ref h_b1)] [] v_a_rows f_a_cells (fX7_copyFrom v_a_rows v_b1_rows n_a_cells f_a_cells n_b1_cells f_b1_cells) := by
  unfold fX7_copyFrom
  refine j_aload_n (pc := 0) hC 1 rfl dX7_copyFrom_0 ?_
  refine j_get (pc := 1) hC flRX7_15 1 rfl rfl dX7_copyFrom_1 ?_
  refine j_iconst (pc := 4) hC ki_0 dX7_copyFrom_4 ?_
  refine j_aload_n (pc := 5) hC 0 rfl dX7_copyFrom_5 ?_
  refine j_get (pc := 6) hC flRX7_15 0 rfl rfl dX7_copyFrom_6 ?_
  refine j_iconst (pc := 9) hC ki_0 dX7_copyFrom_9 ?_
  refine j_aload_n (pc := 10) hC 0 rfl dX7_copyFrom_10 ?_
  refine j_get (pc := 11) hC flRX7_15 0 rfl rfl dX7_copyFrom_11 ?_
  refine j_alen (pc := 14) hC 2 0 rfl rfl (v := (Int32.ofNat n_a_cells)) rfl dX7_copyFrom_14 ?_
  refine j_aload_n (pc := 15) hC 1 rfl dX7_copyFrom_15 ?_
  refine j_get (pc := 16) hC flRX7_15 1 rfl rfl dX7_copyFrom_16 ?_
  refine j_alen (pc := 19) hC 3 0 rfl rfl (v := (Int32.ofNat n_b1_cells)) rfl dX7_copyFrom_19 ?_
  refine j_imin (pc := 20) hC wm860 wm471 wm84 wm472 (by decide) (Nat.le_of_ble_eq_true rfl) ⟨Nat.le_of_ble_eq_true rfl, Nat.le_of_ble_eq_true rfl⟩ dX7_copyFrom_20 ?_
  refine j_let (pc := 23) (fun x1 => ?_)
  refine j_copyi (pc := 23) hC wm861 wm553 wm552 wm85 3 2 rfl rfl (by decide) (Nat.le_of_ble_eq_true rfl) dX7_copyFrom_23 (fun g2 => (rfl : @Eq va_W _ [(h_a, .inr (7, [.int v_a_width, .ref h_a_cells, .int v_a_rows])), (h_b1, .inr (7, [.int v_b1_width, .ref h_b1_cells, .int v_b1_rows])), (h_a_cells, .inl (jy X 0, n_a_cells, .inl g2)), (h_b1_cells, .inl (jy X 0, n_b1_cells, .inl f_b1_cells))])) (fun g2 => ?_)
  refine j_aload_n (pc := 26) hC 0 rfl dX7_copyFrom_26 ?_
  refine j_aload_n (pc := 27) hC 1 rfl dX7_copyFrom_27 ?_
  refine j_get (pc := 28) hC flRX7_19 1 rfl rfl dX7_copyFrom_28 ?_
  refine j_put (pc := 31) hC fpRX7_19 0 rfl rfl rfl (Nat.le_of_ble_eq_true rfl) dX7_copyFrom_31 (ws' := [(h_a, .inr (7, [.int v_a_width, .ref h_a_cells, .int v_b1_rows])), (h_b1, .inr (7, [.int v_b1_width, .ref h_b1_cells, .int v_b1_rows])), (h_a_cells, .inl (jy X 0, n_a_cells, .inl g2)), (h_b1_cells, .inl (jy X 0, n_b1_cells, .inl f_b1_cells))]) rfl ?_
  exact j_vret (pc := 34) hC (fun _ => 0) rfl rfl dX7_copyFrom_34
set_option maxHeartbeats 4000000 in
set_option maxRecDepth 100000 in
theorem mX7_copyFrom (l : Launch) (D : va_G) (cy : Nat → ClassId) (ev : jE) (h_a h_a_cells h_b1 h_b1_cells : Nat) (v_a_width v_a_rows v_b1_width v_b1_rows : Int32) (n_a_cells : Nat) (f_a_cells : Nat → Int32) (n_b1_cells : Nat) (f_b1_cells : Nat → Int32) : jM l yX7_copyFrom cX7_copyFrom 2 none rX7_copyFrom [.ref h_a, .ref h_b1] [(h_a, .inr (7, [.int v_a_width, .ref h_a_cells, .int v_a_rows])), (h_b1, .inr (7, [.int v_b1_width, .ref h_b1_cells, .int v_b1_rows])), (h_a_cells, .inl (cy 0, n_a_cells, .inl f_a_cells)), (h_b1_cells, .inl (cy 0, n_b1_cells, .inl f_b1_cells))] (fun (r : Int32 × (Nat → Int32)) (_ : Nat → Nat) => [(h_a, .inr (7, [.int v_a_width, .ref h_a_cells, .int r.1])), (h_b1, .inr (7, [.int v_b1_width, .ref h_b1_cells, .int v_b1_rows])), (h_a_cells, .inl (cy 0, n_a_cells, .inl r.2)), (h_b1_cells, .inl (cy 0, n_b1_cells, .inl f_b1_cells))]) (fun (_ : Int32 × (Nat → Int32)) => none) (fX7_copyFrom v_a_rows v_b1_rows n_a_cells f_a_cells n_b1_cells f_b1_cells) D cy ev := j_met RX7 (by decide +kernel) rfl (Nat.le_of_ble_eq_true rfl) (fun X hC _ hD hy hv => by subst hD; subst hy; subst hv; exact jX7_copyFrom hC h_a h_a_cells h_b1 h_b1_cells v_a_width v_a_rows v_b1_width v_b1_rows n_a_cells f_a_cells n_b1_cells f_b1_cells)
