abbrev gX6_sortWeight (X : jX) (h_a h_a_arms h_a_hooks h_a_darts h_a_stories h_a_tries h_a_people h_a_praise h_a_thorns h_a_butts h_a_play h_a_sorts h_a_layers h_a_plan h_a_sorts_cells : Nat) (p1 p2 v_a_sorts_rows : Int32) (f_a_sorts_cells : Nat → Int32) (pc : Nat) (lv : List (Nat × Value)) (st : List Value) (e : Option (Int64)) : Prop := jJ (ρ := Int64) X 6 0 0 (jQf X 0 0 (fun (r : Int64) => some (.long r)) (fun (_ : Int64) (_ : Nat → Nat) => [(h_a, .inr (6, [.ref h_a_arms, .ref h_a_hooks, .ref h_a_darts, .ref h_a_stories, .ref h_a_tries, .ref h_a_people, .ref h_a_praise, .ref h_a_thorns, .ref h_a_butts, .ref h_a_play, .ref h_a_sorts, .ref h_a_layers, .ref h_a_plan])), (h_a_sorts, .inr (7, [.int (7 : Int32), .ref h_a_sorts_cells, .int v_a_sorts_rows])), (h_a_sorts_cells, .inl (jy X 0, 21, .inl f_a_sorts_cells))])) pc lv st [(h_a, .inr (6, [.ref h_a_arms, .ref h_a_hooks, .ref h_a_darts, .ref h_a_stories, .ref h_a_tries, .ref h_a_people, .ref h_a_praise, .ref h_a_thorns, .ref h_a_butts, .ref h_a_play, .ref h_a_sorts, .ref h_a_layers, .ref h_a_plan])), (h_a_sorts, .inr (7, [.int (7 : Int32), .ref h_a_sorts_cells, .int v_a_sorts_rows])), (h_a_sorts_cells, .inl (jy X 0, 21, .inl f_a_sorts_cells))] (e)
set_option maxHeartbeats 4000000 in
set_option maxRecDepth 100000 in
theorem jX6_sortWeight_b53 {X : jX} (hC : jC X cX6_sortWeight 6 RX6 rX6_sortWeight (some .long)) (u : Nat) (h_a h_a_arms h_a_hooks h_a_darts h_a_stories h_a_tries h_a_people h_a_praise h_a_thorns h_a_butts h_a_play h_a_sorts h_a_layers h_a_plan h_a_sorts_cells : Nat) (p1 p2 v_a_sorts_rows : Int32) (f_a_sorts_cells : Nat → Int32) (rec28 : (Int64 × Int32) → Option (Int64)) (hrec28 : ∀ p : Int64 × Int32, gX6_sortWeight X h_a h_a_arms h_a_hooks h_a_darts h_a_stories h_a_tries h_a_people h_a_praise h_a_thorns h_a_butts h_a_play h_a_sorts h_a_layers h_a_plan h_a_sorts_cells p1 p2 v_a_sorts_rows f_a_sorts_cells 28 [(0, .ref h_a), (1, .int p1), (3, .long p.1), (5, .int p.2)] [] (rec28 p)) (p : Int64 × Int32) : gX6_sortWeight X h_a h_a_arms h_a_hooks h_a_darts h_a_stories h_a_tries h_a_people h_a_praise h_a_thorns h_a_butts h_a_play h_a_sorts h_a_layers h_a_plan h_a_sorts_cells p1 p2 v_a_sorts_rows f_a_sorts_cells 53 [(0, .ref h_a), (1, .int p1), (3, .long p.1), (5, .int p.2)] [] (fX6_sortWeight_b53 u p1 p2 v_a_sorts_rows f_a_sorts_cells rec28 p) := by
  unfold fX6_sortWeight_b53
  refine j_iinc (pc := 53) hC 3 rfl ki_1 (fun x4 => (rfl : @Eq (List (Nat × Value)) _ [(5, .int x4), (0, .ref h_a), (1, .int p1), (3, .long p.1)])) (by decide) dX6_sortWeight_53 (fun x4 => ?_)
  refine j_goto (pc := 56) hC 28 (by decide) dX6_sortWeight_56 ?_
  refine j_lv (pc := 28) [1, 2, 3, 0] rfl ?_
  exact hrec28 (p.1, x4)
set_option maxHeartbeats 4000000 in
set_option maxRecDepth 100000 in
theorem jX6_sortWeight_b28_step {X : jX} (hC : jC X cX6_sortWeight 6 RX6 rX6_sortWeight (some .long)) (u : Nat) (h_a h_a_arms h_a_hooks h_a_darts h_a_stories h_a_tries h_a_people h_a_praise h_a_thorns h_a_butts h_a_play h_a_sorts h_a_layers h_a_plan h_a_sorts_cells : Nat) (p1 p2 v_a_sorts_rows : Int32) (f_a_sorts_cells : Nat → Int32) (rec28 : (Int64 × Int32) → Option (Int64)) (hrec28 : ∀ p : Int64 × Int32, gX6_sortWeight X h_a h_a_arms h_a_hooks h_a_darts h_a_stories h_a_tries h_a_people h_a_praise h_a_thorns h_a_butts h_a_play h_a_sorts h_a_layers h_a_plan h_a_sorts_cells p1 p2 v_a_sorts_rows f_a_sorts_cells 28 [(0, .ref h_a), (1, .int p1), (3, .long p.1), (5, .int p.2)] [] (rec28 p)) (p : Int64 × Int32) : gX6_sortWeight X h_a h_a_arms h_a_hooks h_a_darts h_a_stories h_a_tries h_a_people h_a_praise h_a_thorns h_a_butts h_a_play h_a_sorts h_a_layers h_a_plan h_a_sorts_cells p1 p2 v_a_sorts_rows f_a_sorts_cells 28 [(0, .ref h_a), (1, .int p1), (3, .long p.1), (5, .int p.2)] [] (fX6_sortWeight_b28 u p1 p2 v_a_sorts_rows f_a_sorts_cells rec28 p) := by
  unfold fX6_sortWeight_b28
  refine j_iload (pc := 28) hC 3 rfl dX6_sortWeight_28 ?_
  refine j_iconst (pc := 30) hC ki_3 dX6_sortWeight_30 ?_
  refine j_icmpge (pc := 31) hC 59 (by decide) dX6_sortWeight_31 ?_ ?_
  · refine j_lload_n (pc := 59) hC 2 rfl dX6_sortWeight_59 ?_
    exact j_lret (pc := 60) hC (fun _ => 0) rfl rfl dX6_sortWeight_60
  · refine j_iload (pc := 34) hC 3 rfl dX6_sortWeight_34 ?_
    refine j_iload_n (pc := 36) hC 1 rfl dX6_sortWeight_36 ?_
    refine j_icmpeq (pc := 37) hC 53 (by decide) dX6_sortWeight_37 ?_ ?_
    · exact jX6_sortWeight_b53 hC u h_a h_a_arms h_a_hooks h_a_darts h_a_stories h_a_tries h_a_people h_a_praise h_a_thorns h_a_butts h_a_play h_a_sorts h_a_layers h_a_plan h_a_sorts_cells p1 p2 v_a_sorts_rows f_a_sorts_cells rec28 hrec28 (p.1, p.2)
    · refine j_lload_n (pc := 40) hC 2 rfl dX6_sortWeight_40 ?_
      refine j_aload_n (pc := 41) hC 0 rfl dX6_sortWeight_41 ?_
      refine j_iload (pc := 42) hC 3 rfl dX6_sortWeight_42 ?_
      refine j_callV (pc := 44) hC csRX6_72 [.int p.2] (mX6_knownOf (jl X) (jD X) (jy X) (jv X) u h_a h_a_arms h_a_hooks h_a_darts h_a_stories h_a_tries h_a_people h_a_praise h_a_thorns h_a_butts h_a_play h_a_sorts h_a_layers h_a_plan h_a_sorts_cells p.2 v_a_sorts_rows f_a_sorts_cells) [0, 1, 2] rfl (by decide +kernel) 0 rfl ⟨_, _, rfl⟩ ⟨by decide, by decide, rfl, rfl, by decide, by decide⟩ rfl rfl (Nat.le_of_ble_eq_true rfl) dX6_sortWeight_44 (jki0 (fun _ => rfl) (fun _ _ => rfl) (fun r5 => ?_))
      refine j_bipush (pc := 47) hC kb_6 dX6_sortWeight_47 ?_
      refine j_iadd (pc := 49) hC dX6_sortWeight_49 ?_
      refine j_i2l (pc := 50) hC dX6_sortWeight_50 ?_
      refine j_lmul (pc := 51) hC dX6_sortWeight_51 ?_
      refine j_letl (pc := 52) (fun x6 => ?_)
      refine j_lstore_n (pc := 52) hC (lv' := [(3, .long x6), (0, .ref h_a), (1, .int p1), (5, .int p.2)]) rfl (by decide) dX6_sortWeight_52 ?_
      refine j_lv (pc := 53) [1, 2, 0, 3] rfl ?_
      exact jX6_sortWeight_b53 hC u h_a h_a_arms h_a_hooks h_a_darts h_a_stories h_a_tries h_a_people h_a_praise h_a_thorns h_a_butts h_a_play h_a_sorts h_a_layers h_a_plan h_a_sorts_cells p1 p2 v_a_sorts_rows f_a_sorts_cells rec28 hrec28 (x6, p.2)
set_option maxHeartbeats 4000000 in
set_option maxRecDepth 100000 in
theorem jX6_sortWeight_b28 {X : jX} (hC : jC X cX6_sortWeight 6 RX6 rX6_sortWeight (some .long)) (u : Nat) (h_a h_a_arms h_a_hooks h_a_darts h_a_stories h_a_tries h_a_people h_a_praise h_a_thorns h_a_butts h_a_play h_a_sorts h_a_layers h_a_plan h_a_sorts_cells : Nat) (p1 p2 v_a_sorts_rows : Int32) (f_a_sorts_cells : Nat → Int32) (p : Int64 × Int32) : gX6_sortWeight X h_a h_a_arms h_a_hooks h_a_darts h_a_stories h_a_tries h_a_people h_a_praise h_a_thorns h_a_butts h_a_play h_a_sorts h_a_layers h_a_plan h_a_sorts_cells p1 p2 v_a_sorts_rows f_a_sorts_cells 28 [(0, .ref h_a), (1, .int p1), (3, .long p.1), (5, .int p.2)] [] (jfix (fX6_sortWeight_b28 u p1 p2 v_a_sorts_rows f_a_sorts_cells) u p) :=
  j_fix (fun rec28 hrec28 p => jX6_sortWeight_b28_step hC u h_a h_a_arms h_a_hooks h_a_darts h_a_stories h_a_tries h_a_people h_a_praise h_a_thorns h_a_butts h_a_play h_a_sorts h_a_layers h_a_plan h_a_sorts_cells p1 p2 v_a_sorts_rows f_a_sorts_cells rec28 hrec28 p) u p
set_option maxHeartbeats 4000000 in
set_option maxRecDepth 100000 in
theorem jX6_sortWeight {X : jX} (hC : jC X cX6_sortWeight 6 RX6 rX6_sortWeight (some .long)) (u : Nat) (h_a h_a_arms h_a_hooks h_a_darts h_a_stories h_a_tries h_a_people h_a_praise h_a_thorns h_a_butts h_a_play h_a_sorts h_a_layers h_a_plan h_a_sorts_cells : Nat) (p1 p2 v_a_sorts_rows : Int32) (f_a_sorts_cells : Nat → Int32) : gX6_sortWeight X h_a h_a_arms h_a_hooks h_a_darts h_a_stories h_a_tries h_a_people h_a_praise h_a_thorns h_a_butts h_a_play h_a_sorts h_a_layers h_a_plan h_a_sorts_cells p1 p2 v_a_sorts_rows f_a_sorts_cells 0 [(0, .ref h_a), (1, .int p1), (2, .int p2)] [] (fX6_sortWeight u p1 p2 v_a_sorts_rows f_a_sorts_cells) := by
  unfold fX6_sortWeight
  refine j_aload_n (pc := 0) hC 0 rfl dX6_sortWeight_0 ?_
  refine j_get (pc := 1) hC flRX6_47 0 rfl rfl dX6_sortWeight_1 ?_
  refine j_iload_n (pc := 4) hC 1 rfl dX6_sortWeight_4 ?_
  refine j_iconst (pc := 5) hC ki_1 dX6_sortWeight_5 ?_
  refine j_iload_n (pc := 6) hC 2 rfl dX6_sortWeight_6 ?_
  refine j_iadd (pc := 7) hC dX6_sortWeight_7 ?_
  refine j_callV (pc := 8) hC csRX6_68 [.int p1, .int ((1 : Int32) + p2)] (mX7_cell (jl X) (jD X) (jy X) (jv X) h_a_sorts h_a_sorts_cells p1 ((1 : Int32) + p2) (7 : Int32) v_a_sorts_rows 21 f_a_sorts_cells) [1, 2] rfl (by decide +kernel) 1 rfl ⟨_, _, rfl⟩ ⟨by decide, by decide, rfl, rfl, by decide, by decide⟩ rfl rfl (Nat.le_of_ble_eq_true rfl) dX6_sortWeight_8 (jki0 (fun _ => rfl) (fun _ _ => rfl) (fun r1 => ?_))
  refine j_iconst (pc := 11) hC ki_1 dX6_sortWeight_11 ?_
  refine j_iadd (pc := 12) hC dX6_sortWeight_12 ?_
  refine j_aload_n (pc := 13) hC 0 rfl dX6_sortWeight_13 ?_
  refine j_get (pc := 14) hC flRX6_47 0 rfl rfl dX6_sortWeight_14 ?_
  refine j_iload_n (pc := 17) hC 1 rfl dX6_sortWeight_17 ?_
  refine j_iconst (pc := 18) hC ki_0 dX6_sortWeight_18 ?_
  refine j_callV (pc := 19) hC csRX6_68 [.int p1, .int (0 : Int32)] (mX7_cell (jl X) (jD X) (jy X) (jv X) h_a_sorts h_a_sorts_cells p1 (0 : Int32) (7 : Int32) v_a_sorts_rows 21 f_a_sorts_cells) [1, 2] rfl (by decide +kernel) 1 rfl ⟨_, _, rfl⟩ ⟨by decide, by decide, rfl, rfl, by decide, by decide⟩ rfl rfl (Nat.le_of_ble_eq_true rfl) dX6_sortWeight_19 (jki0 (fun _ => rfl) (fun _ _ => rfl) (fun r2 => ?_))
  refine j_imul (pc := 22) hC dX6_sortWeight_22 ?_
  refine j_i2l (pc := 23) hC dX6_sortWeight_23 ?_
  refine j_letl (pc := 24) (fun x3 => ?_)
  refine j_lstore_n (pc := 24) hC (lv' := [(3, .long x3), (0, .ref h_a), (1, .int p1), (2, .int p2)]) rfl (by decide) dX6_sortWeight_24 ?_
  refine j_iconst (pc := 25) hC ki_0 dX6_sortWeight_25 ?_
  refine j_istore (pc := 26) hC (lv' := [(5, .int (0 : Int32)), (3, .long x3), (0, .ref h_a), (1, .int p1), (2, .int p2)]) rfl (by decide) dX6_sortWeight_26 ?_
  refine j_lv (pc := 28) [2, 3, 1, 0] rfl ?_
  exact jX6_sortWeight_b28 hC u h_a h_a_arms h_a_hooks h_a_darts h_a_stories h_a_tries h_a_people h_a_praise h_a_thorns h_a_butts h_a_play h_a_sorts h_a_layers h_a_plan h_a_sorts_cells p1 p2 v_a_sorts_rows f_a_sorts_cells (x3, (0 : Int32))
set_option maxHeartbeats 4000000 in
set_option maxRecDepth 100000 in
theorem mX6_sortWeight (l : Launch) (D : va_G) (cy : Nat → ClassId) (ev : jE) (u : Nat) (h_a h_a_arms h_a_hooks h_a_darts h_a_stories h_a_tries h_a_people h_a_praise h_a_thorns h_a_butts h_a_play h_a_sorts h_a_layers h_a_plan h_a_sorts_cells : Nat) (p1 p2 v_a_sorts_rows : Int32) (f_a_sorts_cells : Nat → Int32) : jM l yX6_sortWeight cX6_sortWeight 6 (some .long) rX6_sortWeight [.ref h_a, .int p1, .int p2] [(h_a, .inr (6, [.ref h_a_arms, .ref h_a_hooks, .ref h_a_darts, .ref h_a_stories, .ref h_a_tries, .ref h_a_people, .ref h_a_praise, .ref h_a_thorns, .ref h_a_butts, .ref h_a_play, .ref h_a_sorts, .ref h_a_layers, .ref h_a_plan])), (h_a_sorts, .inr (7, [.int (7 : Int32), .ref h_a_sorts_cells, .int v_a_sorts_rows])), (h_a_sorts_cells, .inl (cy 0, 21, .inl f_a_sorts_cells))] (fun (_ : Int64) (_ : Nat → Nat) => [(h_a, .inr (6, [.ref h_a_arms, .ref h_a_hooks, .ref h_a_darts, .ref h_a_stories, .ref h_a_tries, .ref h_a_people, .ref h_a_praise, .ref h_a_thorns, .ref h_a_butts, .ref h_a_play, .ref h_a_sorts, .ref h_a_layers, .ref h_a_plan])), (h_a_sorts, .inr (7, [.int (7 : Int32), .ref h_a_sorts_cells, .int v_a_sorts_rows])), (h_a_sorts_cells, .inl (cy 0, 21, .inl f_a_sorts_cells))]) (fun (r : Int64) => some (.long r)) (fX6_sortWeight u p1 p2 v_a_sorts_rows f_a_sorts_cells) D cy ev := j_met RX6 (by decide +kernel) rfl (Nat.le_of_ble_eq_true rfl) (fun X hC _ hD hy hv => by subst hD; subst hy; subst hv; exact jX6_sortWeight hC u h_a h_a_arms h_a_hooks h_a_darts h_a_stories h_a_tries h_a_people h_a_praise h_a_thorns h_a_butts h_a_play h_a_sorts h_a_layers h_a_plan h_a_sorts_cells p1 p2 v_a_sorts_rows f_a_sorts_cells)
abbrev gX6_misfits (X : jX) (h_a h_a_arms h_a_hooks h_a_darts h_a_stories h_a_tries h_a_people h_a_praise h_a_thorns h_a_butts h_a_play h_a_sorts h_a_layers h_a_plan h_a_layers_cells : Nat) (p1 v_a_layers_rows : Int32) (f_a_layers_cells : Nat → Int32) (pc : Nat) (lv : List (Nat × Value)) (st : List Value) (e : Option (Int32)) : Prop := jJ (ρ := Int32) X 4 0 0 (jQf X 0 0 (fun (r : Int32) => some (.int r)) (fun (_ : Int32) (_ : Nat → Nat) => [(h_a, .inr (6, [.ref h_a_arms, .ref h_a_hooks, .ref h_a_darts, .ref h_a_stories, .ref h_a_tries, .ref h_a_people, .ref h_a_praise, .ref h_a_thorns, .ref h_a_butts, .ref h_a_play, .ref h_a_sorts, .ref h_a_layers, .ref h_a_plan])), (h_a_layers, .inr (7, [.int (2 : Int32), .ref h_a_layers_cells, .int v_a_layers_rows])), (h_a_layers_cells, .inl (jy X 0, 16, .inl f_a_layers_cells))])) pc lv st [(h_a, .inr (6, [.ref h_a_arms, .ref h_a_hooks, .ref h_a_darts, .ref h_a_stories, .ref h_a_tries, .ref h_a_people, .ref h_a_praise, .ref h_a_thorns, .ref h_a_butts, .ref h_a_play, .ref h_a_sorts, .ref h_a_layers, .ref h_a_plan])), (h_a_layers, .inr (7, [.int (2 : Int32), .ref h_a_layers_cells, .int v_a_layers_rows])), (h_a_layers_cells, .inl (jy X 0, 16, .inl f_a_layers_cells))] (e)
set_option maxHeartbeats 4000000 in
set_option maxRecDepth 100000 in
theorem jX6_misfits_b26 {X : jX} (hC : jC X cX6_misfits 4 RX6 rX6_misfits (some .int)) (u : Nat) (h_a h_a_arms h_a_hooks h_a_darts h_a_stories h_a_tries h_a_people h_a_praise h_a_thorns h_a_butts h_a_play h_a_sorts h_a_layers h_a_plan h_a_layers_cells : Nat) (p1 v_a_layers_rows : Int32) (f_a_layers_cells : Nat → Int32) (rec4 : (Int32 × Int32) → Option (Int32)) (hrec4 : ∀ p : Int32 × Int32, gX6_misfits X h_a h_a_arms h_a_hooks h_a_darts h_a_stories h_a_tries h_a_people h_a_praise h_a_thorns h_a_butts h_a_play h_a_sorts h_a_layers h_a_plan h_a_layers_cells p1 v_a_layers_rows f_a_layers_cells 4 [(0, .ref h_a), (1, .int p1), (2, .int p.1), (3, .int p.2)] [] (rec4 p)) (p : Int32 × Int32 × Int32 × Int32) : gX6_misfits X h_a h_a_arms h_a_hooks h_a_darts h_a_stories h_a_tries h_a_people h_a_praise h_a_thorns h_a_butts h_a_play h_a_sorts h_a_layers h_a_plan h_a_layers_cells p1 v_a_layers_rows f_a_layers_cells 26 [(0, .ref h_a), (1, .int p1), (3, .int p.1)] [.int p.2.2.2, .int p.2.2.1, .ref h_a_layers, .int p.2.1] (fX6_misfits_b26 u p1 v_a_layers_rows f_a_layers_cells rec4 p) := by
  unfold fX6_misfits_b26
  refine j_callV (pc := 26) hC csRX6_68 [.int p.2.2.1, .int p.2.2.2] (mX7_cell (jl X) (jD X) (jy X) (jv X) h_a_layers h_a_layers_cells p.2.2.1 p.2.2.2 (2 : Int32) v_a_layers_rows 16 f_a_layers_cells) [1, 2] rfl (by decide +kernel) 1 rfl ⟨_, _, rfl⟩ ⟨by decide, by decide, rfl, rfl, by decide, by decide⟩ rfl rfl (Nat.le_of_ble_eq_true rfl) dX6_misfits_26 (jki0 (fun _ => rfl) (fun _ _ => rfl) (fun r1 => ?_))
  refine j_iadd (pc := 29) hC dX6_misfits_29 ?_
  refine j_let (pc := 30) (fun x2 => ?_)
  refine j_istore_n (pc := 30) hC (lv' := [(2, .int x2), (0, .ref h_a), (1, .int p1), (3, .int p.1)]) rfl (by decide) dX6_misfits_30 ?_
  refine j_iinc (pc := 31) hC 3 rfl ki_1 (fun x3 => (rfl : @Eq (List (Nat × Value)) _ [(3, .int x3), (2, .int x2), (0, .ref h_a), (1, .int p1)])) (by decide) dX6_misfits_31 (fun x3 => ?_)
  refine j_goto (pc := 34) hC 4 (by decide) dX6_misfits_34 ?_
  refine j_lv (pc := 4) [2, 3, 1, 0] rfl ?_
  exact hrec4 (x2, x3)
set_option maxHeartbeats 4000000 in
set_option maxRecDepth 100000 in
theorem jX6_misfits_b4_step {X : jX} (hC : jC X cX6_misfits 4 RX6 rX6_misfits (some .int)) (u : Nat) (h_a h_a_arms h_a_hooks h_a_darts h_a_stories h_a_tries h_a_people h_a_praise h_a_thorns h_a_butts h_a_play h_a_sorts h_a_layers h_a_plan h_a_layers_cells : Nat) (p1 v_a_layers_rows : Int32) (f_a_layers_cells : Nat → Int32) (rec4 : (Int32 × Int32) → Option (Int32)) (hrec4 : ∀ p : Int32 × Int32, gX6_misfits X h_a h_a_arms h_a_hooks h_a_darts h_a_stories h_a_tries h_a_people h_a_praise h_a_thorns h_a_butts h_a_play h_a_sorts h_a_layers h_a_plan h_a_layers_cells p1 v_a_layers_rows f_a_layers_cells 4 [(0, .ref h_a), (1, .int p1), (2, .int p.1), (3, .int p.2)] [] (rec4 p)) (p : Int32 × Int32) : gX6_misfits X h_a h_a_arms h_a_hooks h_a_darts h_a_stories h_a_tries h_a_people h_a_praise h_a_thorns h_a_butts h_a_play h_a_sorts h_a_layers h_a_plan h_a_layers_cells p1 v_a_layers_rows f_a_layers_cells 4 [(0, .ref h_a), (1, .int p1), (2, .int p.1), (3, .int p.2)] [] (fX6_misfits_b4 u p1 v_a_layers_rows f_a_layers_cells rec4 p) := by
  unfold fX6_misfits_b4
  refine j_iload_n (pc := 4) hC 3 rfl dX6_misfits_4 ?_
  refine j_bipush (pc := 5) hC kb_8 dX6_misfits_5 ?_
  refine j_icmpge (pc := 7) hC 37 (by decide) dX6_misfits_7 ?_ ?_
  · refine j_iload_n (pc := 37) hC 2 rfl dX6_misfits_37 ?_
    exact j_iret (pc := 38) hC (fun _ => 0) rfl rfl dX6_misfits_38
  · refine j_iload_n (pc := 10) hC 2 rfl dX6_misfits_10 ?_
    refine j_aload_n (pc := 11) hC 0 rfl dX6_misfits_11 ?_
    refine j_get (pc := 12) hC flRX6_50 0 rfl rfl dX6_misfits_12 ?_
    refine j_iload_n (pc := 15) hC 3 rfl dX6_misfits_15 ?_
    refine j_iload_n (pc := 16) hC 3 rfl dX6_misfits_16 ?_
    refine j_iload_n (pc := 17) hC 1 rfl dX6_misfits_17 ?_
    refine j_icmpge (pc := 18) hC 25 (by decide) dX6_misfits_18 ?_ ?_
    · refine j_iconst (pc := 25) hC ki_1 dX6_misfits_25 ?_
      refine j_lv (pc := 26) [0, 1, 3] rfl ?_
      exact jX6_misfits_b26 hC u h_a h_a_arms h_a_hooks h_a_darts h_a_stories h_a_tries h_a_people h_a_praise h_a_thorns h_a_butts h_a_play h_a_sorts h_a_layers h_a_plan h_a_layers_cells p1 v_a_layers_rows f_a_layers_cells rec4 hrec4 (p.2, p.1, p.2, (1 : Int32))
    · refine j_iconst (pc := 21) hC ki_0 dX6_misfits_21 ?_
      refine j_goto (pc := 22) hC 26 (by decide) dX6_misfits_22 ?_
      refine j_lv (pc := 26) [0, 1, 3] rfl ?_
      exact jX6_misfits_b26 hC u h_a h_a_arms h_a_hooks h_a_darts h_a_stories h_a_tries h_a_people h_a_praise h_a_thorns h_a_butts h_a_play h_a_sorts h_a_layers h_a_plan h_a_layers_cells p1 v_a_layers_rows f_a_layers_cells rec4 hrec4 (p.2, p.1, p.2, (0 : Int32))
set_option maxHeartbeats 4000000 in
set_option maxRecDepth 100000 in
theorem jX6_misfits_b4 {X : jX} (hC : jC X cX6_misfits 4 RX6 rX6_misfits (some .int)) (u : Nat) (h_a h_a_arms h_a_hooks h_a_darts h_a_stories h_a_tries h_a_people h_a_praise h_a_thorns h_a_butts h_a_play h_a_sorts h_a_layers h_a_plan h_a_layers_cells : Nat) (p1 v_a_layers_rows : Int32) (f_a_layers_cells : Nat → Int32) (p : Int32 × Int32) : gX6_misfits X h_a h_a_arms h_a_hooks h_a_darts h_a_stories h_a_tries h_a_people h_a_praise h_a_thorns h_a_butts h_a_play h_a_sorts h_a_layers h_a_plan h_a_layers_cells p1 v_a_layers_rows f_a_layers_cells 4 [(0, .ref h_a), (1, .int p1), (2, .int p.1), (3, .int p.2)] [] (jfix (fX6_misfits_b4 u p1 v_a_layers_rows f_a_layers_cells) u p) :=
  j_fix (fun rec4 hrec4 p => jX6_misfits_b4_step hC u h_a h_a_arms h_a_hooks h_a_darts h_a_stories h_a_tries h_a_people h_a_praise h_a_thorns h_a_butts h_a_play h_a_sorts h_a_layers h_a_plan h_a_layers_cells p1 v_a_layers_rows f_a_layers_cells rec4 hrec4 p) u p
set_option maxHeartbeats 4000000 in
set_option maxRecDepth 100000 in
theorem jX6_misfits {X : jX} (hC : jC X cX6_misfits 4 RX6 rX6_misfits (some .int)) (u : Nat) (h_a h_a_arms h_a_hooks h_a_darts h_a_stories h_a_tries h_a_people h_a_praise h_a_thorns h_a_butts h_a_play h_a_sorts h_a_layers h_a_plan h_a_layers_cells : Nat) (p1 v_a_layers_rows : Int32) (f_a_layers_cells : Nat → Int32) : gX6_misfits X h_a h_a_arms h_a_hooks h_a_darts h_a_stories h_a_tries h_a_people h_a_praise h_a_thorns h_a_butts h_a_play h_a_sorts h_a_layers h_a_plan h_a_layers_cells p1 v_a_layers_rows f_a_layers_cells 0 [(0, .ref h_a), (1, .int p1)] [] (fX6_misfits u p1 v_a_layers_rows f_a_layers_cells) := by
  unfold fX6_misfits
  refine j_iconst (pc := 0) hC ki_0 dX6_misfits_0 ?_
  refine j_istore_n (pc := 1) hC (lv' := [(2, .int (0 : Int32)), (0, .ref h_a), (1, .int p1)]) rfl (by decide) dX6_misfits_1 ?_
  refine j_iconst (pc := 2) hC ki_0 dX6_misfits_2 ?_
  refine j_istore_n (pc := 3) hC (lv' := [(3, .int (0 : Int32)), (2, .int (0 : Int32)), (0, .ref h_a), (1, .int p1)]) rfl (by decide) dX6_misfits_3 ?_
  refine j_lv (pc := 4) [2, 3, 1, 0] rfl ?_
  exact jX6_misfits_b4 hC u h_a h_a_arms h_a_hooks h_a_darts h_a_stories h_a_tries h_a_people h_a_praise h_a_thorns h_a_butts h_a_play h_a_sorts h_a_layers h_a_plan h_a_layers_cells p1 v_a_layers_rows f_a_layers_cells ((0 : Int32), (0 : Int32))
set_option maxHeartbeats 4000000 in
set_option maxRecDepth 100000 in
theorem mX6_misfits (l : Launch) (D : va_G) (cy : Nat → ClassId) (ev : jE) (u : Nat) (h_a h_a_arms h_a_hooks h_a_darts h_a_stories h_a_tries h_a_people h_a_praise h_a_thorns h_a_butts h_a_play h_a_sorts h_a_layers h_a_plan h_a_layers_cells : Nat) (p1 v_a_layers_rows : Int32) (f_a_layers_cells : Nat → Int32) : jM l yX6_misfits cX6_misfits 4 (some .int) rX6_misfits [.ref h_a, .int p1] [(h_a, .inr (6, [.ref h_a_arms, .ref h_a_hooks, .ref h_a_darts, .ref h_a_stories, .ref h_a_tries, .ref h_a_people, .ref h_a_praise, .ref h_a_thorns, .ref h_a_butts, .ref h_a_play, .ref h_a_sorts, .ref h_a_layers, .ref h_a_plan])), (h_a_layers, .inr (7, [.int (2 : Int32), .ref h_a_layers_cells, .int v_a_layers_rows])), (h_a_layers_cells, .inl (cy 0, 16, .inl f_a_layers_cells))] (fun (_ : Int32) (_ : Nat → Nat) => [(h_a, .inr (6, [.ref h_a_arms, .ref h_a_hooks, .ref h_a_darts, .ref h_a_stories, .ref h_a_tries, .ref h_a_people, .ref h_a_praise, .ref h_a_thorns, .ref h_a_butts, .ref h_a_play, .ref h_a_sorts, .ref h_a_layers, .ref h_a_plan])), (h_a_layers, .inr (7, [.int (2 : Int32), .ref h_a_layers_cells, .int v_a_layers_rows])), (h_a_layers_cells, .inl (cy 0, 16, .inl f_a_layers_cells))]) (fun (r : Int32) => some (.int r)) (fX6_misfits u p1 v_a_layers_rows f_a_layers_cells) D cy ev := j_met RX6 (by decide +kernel) rfl (Nat.le_of_ble_eq_true rfl) (fun X hC _ hD hy hv => by subst hD; subst hy; subst hv; exact jX6_misfits hC u h_a h_a_arms h_a_hooks h_a_darts h_a_stories h_a_tries h_a_people h_a_praise h_a_thorns h_a_butts h_a_play h_a_sorts h_a_layers h_a_plan h_a_layers_cells p1 v_a_layers_rows f_a_layers_cells)
abbrev gX7_append (X : jX) (h_a h_a_cells : Nat) (p1 p2 p3 p4 v_a_width v_a_rows : Int32) (n_a_cells : Nat) (f_a_cells : Nat → Int32) (pc : Nat) (lv : List (Nat × Value)) (st : List Value) (w0 : Int32) (w1 : Nat → Int32) (e : Option (Int32 × Int32 × (Nat → Int32))) : Prop := jJ (ρ := Int32 × Int32 × (Nat → Int32)) X 6 0 0 (jQf X 0 0 (fun (r : Int32 × Int32 × (Nat → Int32)) => some (.int r.1)) (fun (r : Int32 × Int32 × (Nat → Int32)) (_ : Nat → Nat) => [(h_a, .inr (7, [.int v_a_width, .ref h_a_cells, .int r.2.1])), (h_a_cells, .inl (jy X 0, n_a_cells, .inl r.2.2))])) pc lv st [(h_a, .inr (7, [.int v_a_width, .ref h_a_cells, .int w0])), (h_a_cells, .inl (jy X 0, n_a_cells, .inl w1))] (e)
set_option maxHeartbeats 4000000 in
set_option maxRecDepth 100000 in
theorem jX7_append {X : jX} (hC : jC X cX7_append 6 RX7 rX7_append (some .int)) (h_a h_a_cells : Nat) (p1 p2 p3 p4 v_a_width v_a_rows : Int32) (n_a_cells : Nat) (f_a_cells : Nat → Int32) : gX7_append X h_a h_a_cells p1 p2 p3 p4 v_a_width v_a_rows n_a_cells f_a_cells 0 [(0, .ref h_a), (1, .int p1), (2, .int p2), (3, .int p3), (4, .int p4)] [] v_a_rows f_a_cells (fX7_append p1 p2 p3 p4 v_a_width v_a_rows n_a_cells f_a_cells) := by
  unfold fX7_append
  refine j_aload_n (pc := 0) hC 0 rfl dX7_append_0 ?_
  refine j_get (pc := 1) hC flRX7_19 0 rfl rfl dX7_append_1 ?_
  refine j_istore (pc := 4) hC (lv' := [(5, .int v_a_rows), (0, .ref h_a), (1, .int p1), (2, .int p2), (3, .int p3), (4, .int p4)]) rfl (by decide) dX7_append_4 ?_
  refine j_aload_n (pc := 6) hC 1 rfl dX7_append_6 ?_
  refine j_dup (pc := 7) hC rfl dX7_append_7 ?_
  refine j_get (pc := 8) hC flRX7_19 0 rfl rfl dX7_append_8 ?_
  refine j_iconst (pc := 11) hC ki_1 dX7_append_11 ?_
  refine j_iadd (pc := 12) hC dX7_append_12 ?_
  refine j_let (pc := 13) (fun x1 => ?_)
  refine j_put (pc := 13) hC fpRX7_19 0 rfl rfl rfl (Nat.le_of_ble_eq_true rfl) dX7_append_13 (ws' := [(h_a, .inr (7, [.int v_a_width, .ref h_a_cells, .int x1])), (h_a_cells, .inl (jy X 0, n_a_cells, .inl f_a_cells))]) rfl ?_
  refine j_aload_n (pc := 16) hC 1 rfl dX7_append_16 ?_
  refine j_iload (pc := 17) hC 0 rfl dX7_append_17 ?_
  refine j_iconst (pc := 19) hC ki_0 dX7_append_19 ?_
  refine j_iload_n (pc := 20) hC 2 rfl dX7_append_20 ?_
  refine j_callV (pc := 21) hC csRX7_22 [.int v_a_rows, .int (0 : Int32), .int p1] (mX7_put (jl X) (jD X) (jy X) (jv X) h_a h_a_cells v_a_rows (0 : Int32) p1 v_a_width x1 n_a_cells f_a_cells) [0, 1] rfl (by decide +kernel) 0 rfl ⟨_, _, rfl⟩ ⟨by decide, by decide, rfl, rfl, by decide, by decide⟩ rfl rfl (Nat.le_of_ble_eq_true rfl) dX7_append_21 (jki (fun _ => rfl) (fun r2 _ => (rfl : @Eq va_W _ [(h_a, .inr (7, [.int v_a_width, .ref h_a_cells, .int x1])), (h_a_cells, .inl (jy X 0, n_a_cells, .inl r2.2))])) (fun r2 => ?_))
  refine j_pop (pc := 24) hC rfl dX7_append_24 ?_
  refine j_aload_n (pc := 25) hC 1 rfl dX7_append_25 ?_
  refine j_iload (pc := 26) hC 0 rfl dX7_append_26 ?_
  refine j_iconst (pc := 28) hC ki_1 dX7_append_28 ?_
  refine j_iload_n (pc := 29) hC 3 rfl dX7_append_29 ?_
  refine j_callV (pc := 30) hC csRX7_22 [.int v_a_rows, .int (1 : Int32), .int p2] (mX7_put (jl X) (jD X) (jy X) (jv X) h_a h_a_cells v_a_rows (1 : Int32) p2 v_a_width x1 n_a_cells r2.2) [0, 1] rfl (by decide +kernel) 0 rfl ⟨_, _, rfl⟩ ⟨by decide, by decide, rfl, rfl, by decide, by decide⟩ rfl rfl (Nat.le_of_ble_eq_true rfl) dX7_append_30 (jki (fun _ => rfl) (fun r3 _ => (rfl : @Eq va_W _ [(h_a, .inr (7, [.int v_a_width, .ref h_a_cells, .int x1])), (h_a_cells, .inl (jy X 0, n_a_cells, .inl r3.2))])) (fun r3 => ?_))
  refine j_pop (pc := 33) hC rfl dX7_append_33 ?_
  refine j_aload_n (pc := 34) hC 1 rfl dX7_append_34 ?_
  refine j_iload (pc := 35) hC 0 rfl dX7_append_35 ?_
  refine j_iconst (pc := 37) hC ki_2 dX7_append_37 ?_
  refine j_iload_n (pc := 38) hC 4 rfl dX7_append_38 ?_
  refine j_callV (pc := 39) hC csRX7_22 [.int v_a_rows, .int (2 : Int32), .int p3] (mX7_put (jl X) (jD X) (jy X) (jv X) h_a h_a_cells v_a_rows (2 : Int32) p3 v_a_width x1 n_a_cells r3.2) [0, 1] rfl (by decide +kernel) 0 rfl ⟨_, _, rfl⟩ ⟨by decide, by decide, rfl, rfl, by decide, by decide⟩ rfl rfl (Nat.le_of_ble_eq_true rfl) dX7_append_39 (jki (fun _ => rfl) (fun r4 _ => (rfl : @Eq va_W _ [(h_a, .inr (7, [.int v_a_width, .ref h_a_cells, .int x1])), (h_a_cells, .inl (jy X 0, n_a_cells, .inl r4.2))])) (fun r4 => ?_))
  refine j_pop (pc := 42) hC rfl dX7_append_42 ?_
  refine j_aload_n (pc := 43) hC 1 rfl dX7_append_43 ?_
  refine j_iload (pc := 44) hC 0 rfl dX7_append_44 ?_
  refine j_iconst (pc := 46) hC ki_3 dX7_append_46 ?_
  refine j_iload (pc := 47) hC 5 rfl dX7_append_47 ?_
  refine j_callV (pc := 49) hC csRX7_22 [.int v_a_rows, .int (3 : Int32), .int p4] (mX7_put (jl X) (jD X) (jy X) (jv X) h_a h_a_cells v_a_rows (3 : Int32) p4 v_a_width x1 n_a_cells r4.2) [0, 1] rfl (by decide +kernel) 0 rfl ⟨_, _, rfl⟩ ⟨by decide, by decide, rfl, rfl, by decide, by decide⟩ rfl rfl (Nat.le_of_ble_eq_true rfl) dX7_append_49 (jki (fun _ => rfl) (fun r5 _ => (rfl : @Eq va_W _ [(h_a, .inr (7, [.int v_a_width, .ref h_a_cells, .int x1])), (h_a_cells, .inl (jy X 0, n_a_cells, .inl r5.2))])) (fun r5 => ?_))
  refine j_pop (pc := 52) hC rfl dX7_append_52 ?_
  refine j_iload (pc := 53) hC 0 rfl dX7_append_53 ?_
  exact j_iret (pc := 55) hC (fun _ => 0) rfl rfl dX7_append_55
set_option maxHeartbeats 4000000 in
set_option maxRecDepth 100000 in
theorem mX7_append (l : Launch) (D : va_G) (cy : Nat → ClassId) (ev : jE) (h_a h_a_cells : Nat) (p1 p2 p3 p4 v_a_width v_a_rows : Int32) (n_a_cells : Nat) (f_a_cells : Nat → Int32) : jM l yX7_append cX7_append 6 (some .int) rX7_append [.ref h_a, .int p1, .int p2, .int p3, .int p4] [(h_a, .inr (7, [.int v_a_width, .ref h_a_cells, .int v_a_rows])), (h_a_cells, .inl (cy 0, n_a_cells, .inl f_a_cells))] (fun (r : Int32 × Int32 × (Nat → Int32)) (_ : Nat → Nat) => [(h_a, .inr (7, [.int v_a_width, .ref h_a_cells, .int r.2.1])), (h_a_cells, .inl (cy 0, n_a_cells, .inl r.2.2))]) (fun (r : Int32 × Int32 × (Nat → Int32)) => some (.int r.1)) (fX7_append p1 p2 p3 p4 v_a_width v_a_rows n_a_cells f_a_cells) D cy ev := j_met RX7 (by decide +kernel) rfl (Nat.le_of_ble_eq_true rfl) (fun X hC _ hD hy hv => by subst hD; subst hy; subst hv; exact jX7_append hC h_a h_a_cells p1 p2 p3 p4 v_a_width v_a_rows n_a_cells f_a_cells)
abbrev gX7_copyRow (X : jX) (h_a h_a_cells h_b2 : Nat) (p1 p3 v_a_width v_a_rows : Int32) (n_b2 : Nat) (f_b2 : Nat → Int32) (n_a_cells : Nat) (f_a_cells : Nat → Int32) (pc : Nat) (lv : List (Nat × Value)) (st : List Value) (w0 : Nat → Int32) (e : Option ((Nat → Int32))) : Prop := jJ (ρ := (Nat → Int32)) X 5 0 0 (jQf X 0 0 (fun (_ : (Nat → Int32)) => none) (fun (r : (Nat → Int32)) (_ : Nat → Nat) => [(h_a, .inr (7, [.int v_a_width, .ref h_a_cells, .int v_a_rows])), (h_b2, .inl (jy X 0, n_b2, .inl r)), (h_a_cells, .inl (jy X 0, n_a_cells, .inl f_a_cells))])) pc lv st [(h_a, .inr (7, [.int v_a_width, .ref h_a_cells, .int v_a_rows])), (h_b2, .inl (jy X 0, n_b2, .inl w0)), (h_a_cells, .inl (jy X 0, n_a_cells, .inl f_a_cells))] (e)
set_option maxHeartbeats 4000000 in
set_option maxRecDepth 100000 in
theorem jX7_copyRow_b3_step {X : jX} (hC : jC X cX7_copyRow 5 RX7 rX7_copyRow none) (u : Nat) (h_a h_a_cells h_b2 : Nat) (p1 p3 v_a_width v_a_rows : Int32) (n_b2 : Nat) (f_b2 : Nat → Int32) (n_a_cells : Nat) (f_a_cells : Nat → Int32) (rec3 : (Int32 × (Nat → Int32)) → Option ((Nat → Int32))) (hrec3 : ∀ p : Int32 × (Nat → Int32), gX7_copyRow X h_a h_a_cells h_b2 p1 p3 v_a_width v_a_rows n_b2 f_b2 n_a_cells f_a_cells 3 [(0, .ref h_a), (1, .int p1), (2, .ref h_b2), (3, .int p3), (4, .int p.1)] [] p.2 (rec3 p)) (p : Int32 × (Nat → Int32)) : gX7_copyRow X h_a h_a_cells h_b2 p1 p3 v_a_width v_a_rows n_b2 f_b2 n_a_cells f_a_cells 3 [(0, .ref h_a), (1, .int p1), (2, .ref h_b2), (3, .int p3), (4, .int p.1)] [] p.2 (fX7_copyRow_b3 u p1 p3 v_a_width v_a_rows n_b2 f_b2 n_a_cells f_a_cells rec3 p) := by
  unfold fX7_copyRow_b3
  refine j_iload (pc := 3) hC 4 rfl dX7_copyRow_3 ?_
  refine j_aload_n (pc := 5) hC 0 rfl dX7_copyRow_5 ?_
  refine j_get (pc := 6) hC flRX7_9 0 rfl rfl dX7_copyRow_6 ?_
  refine j_icmpge (pc := 9) hC 40 (by decide) dX7_copyRow_9 ?_ ?_
  · exact j_vret (pc := 40) hC (fun _ => 0) rfl rfl dX7_copyRow_40
  · refine j_iload_n (pc := 12) hC 3 rfl dX7_copyRow_12 ?_
    refine j_iload (pc := 13) hC 4 rfl dX7_copyRow_13 ?_
    refine j_iadd (pc := 15) hC dX7_copyRow_15 ?_
    refine j_aload_n (pc := 16) hC 2 rfl dX7_copyRow_16 ?_
    refine j_alen (pc := 17) hC 1 0 rfl rfl (v := (Int32.ofNat n_b2)) rfl dX7_copyRow_17 ?_
    refine j_icmpge (pc := 18) hC 40 (by decide) dX7_copyRow_18 ?_ ?_
    · exact j_vret (pc := 40) hC (fun _ => 0) rfl rfl dX7_copyRow_40
    · refine j_aload_n (pc := 21) hC 2 rfl dX7_copyRow_21 ?_
      refine j_iload_n (pc := 22) hC 3 rfl dX7_copyRow_22 ?_
      refine j_iload (pc := 23) hC 4 rfl dX7_copyRow_23 ?_
      refine j_iadd (pc := 25) hC dX7_copyRow_25 ?_
      refine j_aload_n (pc := 26) hC 0 rfl dX7_copyRow_26 ?_
      refine j_iload_n (pc := 27) hC 1 rfl dX7_copyRow_27 ?_
      refine j_iload (pc := 28) hC 4 rfl dX7_copyRow_28 ?_
      refine j_callV (pc := 30) hC csRX7_30 [.int p1, .int p.1] (mX7_cell (jl X) (jD X) (jy X) (jv X) h_a h_a_cells p1 p.1 v_a_width v_a_rows n_a_cells f_a_cells) [0, 2] rfl (by decide +kernel) 0 rfl ⟨_, _, rfl⟩ ⟨by decide, by decide, rfl, rfl, by decide, by decide⟩ rfl rfl (Nat.le_of_ble_eq_true rfl) dX7_copyRow_30 (jki0 (fun _ => rfl) (fun _ _ => rfl) (fun r1 => ?_))
      refine j_iast (pc := 33) hC 1 rfl dX7_copyRow_33 (fun g2 => (rfl : @Eq va_W _ [(h_a, .inr (7, [.int v_a_width, .ref h_a_cells, .int v_a_rows])), (h_b2, .inl (jy X 0, n_b2, .inl g2)), (h_a_cells, .inl (jy X 0, n_a_cells, .inl f_a_cells))])) (fun g2 => ?_)
      refine j_iinc (pc := 34) hC 4 rfl ki_1 (fun x3 => (rfl : @Eq (List (Nat × Value)) _ [(4, .int x3), (0, .ref h_a), (1, .int p1), (2, .ref h_b2), (3, .int p3)])) (by decide) dX7_copyRow_34 (fun x3 => ?_)
      refine j_goto (pc := 37) hC 3 (by decide) dX7_copyRow_37 ?_
      refine j_lv (pc := 3) [1, 2, 3, 4, 0] rfl ?_
      exact hrec3 (x3, g2)
set_option maxHeartbeats 4000000 in
set_option maxRecDepth 100000 in
theorem jX7_copyRow_b3 {X : jX} (hC : jC X cX7_copyRow 5 RX7 rX7_copyRow none) (u : Nat) (h_a h_a_cells h_b2 : Nat) (p1 p3 v_a_width v_a_rows : Int32) (n_b2 : Nat) (f_b2 : Nat → Int32) (n_a_cells : Nat) (f_a_cells : Nat → Int32) (p : Int32 × (Nat → Int32)) : gX7_copyRow X h_a h_a_cells h_b2 p1 p3 v_a_width v_a_rows n_b2 f_b2 n_a_cells f_a_cells 3 [(0, .ref h_a), (1, .int p1), (2, .ref h_b2), (3, .int p3), (4, .int p.1)] [] p.2 (jfix (fX7_copyRow_b3 u p1 p3 v_a_width v_a_rows n_b2 f_b2 n_a_cells f_a_cells) u p) :=
  j_fix (fun rec3 hrec3 p => jX7_copyRow_b3_step hC u h_a h_a_cells h_b2 p1 p3 v_a_width v_a_rows n_b2 f_b2 n_a_cells f_a_cells rec3 hrec3 p) u p
set_option maxHeartbeats 4000000 in
set_option maxRecDepth 100000 in
theorem jX7_copyRow {X : jX} (hC : jC X cX7_copyRow 5 RX7 rX7_copyRow none) (u : Nat) (h_a h_a_cells h_b2 : Nat) (p1 p3 v_a_width v_a_rows : Int32) (n_b2 : Nat) (f_b2 : Nat → Int32) (n_a_cells : Nat) (f_a_cells : Nat → Int32) : gX7_copyRow X h_a h_a_cells h_b2 p1 p3 v_a_width v_a_rows n_b2 f_b2 n_a_cells f_a_cells 0 [(0, .ref h_a), (1, .int p1), (2, .ref h_b2), (3, .int p3)] [] f_b2 (fX7_copyRow u p1 p3 v_a_width v_a_rows n_b2 f_b2 n_a_cells f_a_cells) := by
  unfold fX7_copyRow
  refine j_iconst (pc := 0) hC ki_0 dX7_copyRow_0 ?_
  refine j_istore (pc := 1) hC (lv' := [(4, .int (0 : Int32)), (0, .ref h_a), (1, .int p1), (2, .ref h_b2), (3, .int p3)]) rfl (by decide) dX7_copyRow_1 ?_
  refine j_lv (pc := 3) [1, 2, 3, 4, 0] rfl ?_
  exact jX7_copyRow_b3 hC u h_a h_a_cells h_b2 p1 p3 v_a_width v_a_rows n_b2 f_b2 n_a_cells f_a_cells ((0 : Int32), f_b2)
set_option maxHeartbeats 4000000 in
set_option maxRecDepth 100000 in
theorem mX7_copyRow (l : Launch) (D : va_G) (cy : Nat → ClassId) (ev : jE) (u : Nat) (h_a h_a_cells h_b2 : Nat) (p1 p3 v_a_width v_a_rows : Int32) (n_b2 : Nat) (f_b2 : Nat → Int32) (n_a_cells : Nat) (f_a_cells : Nat → Int32) : jM l yX7_copyRow cX7_copyRow 5 none rX7_copyRow [.ref h_a, .int p1, .ref h_b2, .int p3] [(h_a, .inr (7, [.int v_a_width, .ref h_a_cells, .int v_a_rows])), (h_b2, .inl (cy 0, n_b2, .inl f_b2)), (h_a_cells, .inl (cy 0, n_a_cells, .inl f_a_cells))] (fun (r : (Nat → Int32)) (_ : Nat → Nat) => [(h_a, .inr (7, [.int v_a_width, .ref h_a_cells, .int v_a_rows])), (h_b2, .inl (cy 0, n_b2, .inl r)), (h_a_cells, .inl (cy 0, n_a_cells, .inl f_a_cells))]) (fun (_ : (Nat → Int32)) => none) (fX7_copyRow u p1 p3 v_a_width v_a_rows n_b2 f_b2 n_a_cells f_a_cells) D cy ev := j_met RX7 (by decide +kernel) rfl (Nat.le_of_ble_eq_true rfl) (fun X hC _ hD hy hv => by subst hD; subst hy; subst hv; exact jX7_copyRow hC u h_a h_a_cells h_b2 p1 p3 v_a_width v_a_rows n_b2 f_b2 n_a_cells f_a_cells)
