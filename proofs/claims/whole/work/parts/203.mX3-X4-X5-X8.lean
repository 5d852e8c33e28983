abbrev gX3_isAbove (X : jX) (h_a h_a_limbs h_b1 h_b1_limbs : Nat) (v_a_size v_b1_size : Int32) (f_a_limbs f_b1_limbs : Nat → Int32) (pc : Nat) (lv : List (Nat × Value)) (st : List Value) (e : Option (Int32)) : Prop := jJ (ρ := Int32) X 3 0 0 (jQf X 0 0 (fun (r : Int32) => some (.int r)) (fun (_ : Int32) (_ : Nat → Nat) => [(h_a, .inr (3, [.ref h_a_limbs, .int v_a_size])), (h_b1, .inr (3, [.ref h_b1_limbs, .int v_b1_size])), (h_a_limbs, .inl (jy X 0, 6, .inl f_a_limbs)), (h_b1_limbs, .inl (jy X 0, 6, .inl f_b1_limbs))])) pc lv st [(h_a, .inr (3, [.ref h_a_limbs, .int v_a_size])), (h_b1, .inr (3, [.ref h_b1_limbs, .int v_b1_size])), (h_a_limbs, .inl (jy X 0, 6, .inl f_a_limbs)), (h_b1_limbs, .inl (jy X 0, 6, .inl f_b1_limbs))] (e)
set_option maxHeartbeats 4000000 in
set_option maxRecDepth 100000 in
theorem jX3_isAbove_b14_step {X : jX} (hC : jC X cX3_isAbove 3 RX3 rX3_isAbove (some .boolean)) (u : Nat) (h_a h_a_limbs h_b1 h_b1_limbs : Nat) (v_a_size v_b1_size : Int32) (f_a_limbs f_b1_limbs : Nat → Int32) (rec14 : Int32 → Option (Int32)) (hrec14 : ∀ p : Int32, gX3_isAbove X h_a h_a_limbs h_b1 h_b1_limbs v_a_size v_b1_size f_a_limbs f_b1_limbs 14 [(0, .ref h_a), (1, .ref h_b1), (2, .int p)] [] (rec14 p)) (p : Int32) : gX3_isAbove X h_a h_a_limbs h_b1 h_b1_limbs v_a_size v_b1_size f_a_limbs f_b1_limbs 14 [(0, .ref h_a), (1, .ref h_b1), (2, .int p)] [] (fX3_isAbove_b14 u v_a_size v_b1_size f_a_limbs f_b1_limbs rec14 p) := by
  unfold fX3_isAbove_b14
  refine j_iload_n (pc := 14) hC 2 rfl dX3_isAbove_14 ?_
  refine j_iflt (pc := 15) hC 56 (by decide) dX3_isAbove_15 ?_ ?_
  · refine j_iconst (pc := 56) hC ki_0 dX3_isAbove_56 ?_
    exact j_zret (pc := 57) hC (fun _ => 0) (by decide) rfl rfl dX3_isAbove_57
  · refine j_aload_n (pc := 18) hC 0 rfl dX3_isAbove_18 ?_
    refine j_iload_n (pc := 19) hC 2 rfl dX3_isAbove_19 ?_
    refine j_callV (pc := 20) hC csRX3_38 [.int p] (mX3_digit (jl X) (jD X) (jy X) (jv X) h_a h_a_limbs p v_a_size f_a_limbs) [0, 2] rfl (by decide +kernel) 0 rfl ⟨_, _, rfl⟩ ⟨by decide, by decide, rfl, rfl, by decide, by decide⟩ rfl rfl (Nat.le_of_ble_eq_true rfl) dX3_isAbove_20 (jki0 (fun _ => rfl) (fun _ _ => rfl) (fun r3 => ?_))
    refine j_aload_n (pc := 23) hC 1 rfl dX3_isAbove_23 ?_
    refine j_iload_n (pc := 24) hC 2 rfl dX3_isAbove_24 ?_
    refine j_callV (pc := 25) hC csRX3_38 [.int p] (mX3_digit (jl X) (jD X) (jy X) (jv X) h_b1 h_b1_limbs p v_b1_size f_b1_limbs) [1, 3] rfl (by decide +kernel) 1 rfl ⟨_, _, rfl⟩ ⟨by decide, by decide, rfl, rfl, by decide, by decide⟩ rfl rfl (Nat.le_of_ble_eq_true rfl) dX3_isAbove_25 (jki0 (fun _ => rfl) (fun _ _ => rfl) (fun r4 => ?_))
    refine j_icmpeq (pc := 28) hC 50 (by decide) dX3_isAbove_28 ?_ ?_
    · refine j_iinc (pc := 50) hC 2 rfl ki_m1 (fun x5 => (rfl : @Eq (List (Nat × Value)) _ [(2, .int x5), (0, .ref h_a), (1, .ref h_b1)])) (by decide) dX3_isAbove_50 (fun x5 => ?_)
      refine j_goto (pc := 53) hC 14 (by decide) dX3_isAbove_53 ?_
      refine j_lv (pc := 14) [1, 2, 0] rfl ?_
      exact hrec14 x5
    · refine j_aload_n (pc := 31) hC 0 rfl dX3_isAbove_31 ?_
      refine j_iload_n (pc := 32) hC 2 rfl dX3_isAbove_32 ?_
      refine j_callV (pc := 33) hC csRX3_38 [.int p] (mX3_digit (jl X) (jD X) (jy X) (jv X) h_a h_a_limbs p v_a_size f_a_limbs) [0, 2] rfl (by decide +kernel) 0 rfl ⟨_, _, rfl⟩ ⟨by decide, by decide, rfl, rfl, by decide, by decide⟩ rfl rfl (Nat.le_of_ble_eq_true rfl) dX3_isAbove_33 (jki0 (fun _ => rfl) (fun _ _ => rfl) (fun r6 => ?_))
      refine j_aload_n (pc := 36) hC 1 rfl dX3_isAbove_36 ?_
      refine j_iload_n (pc := 37) hC 2 rfl dX3_isAbove_37 ?_
      refine j_callV (pc := 38) hC csRX3_38 [.int p] (mX3_digit (jl X) (jD X) (jy X) (jv X) h_b1 h_b1_limbs p v_b1_size f_b1_limbs) [1, 3] rfl (by decide +kernel) 1 rfl ⟨_, _, rfl⟩ ⟨by decide, by decide, rfl, rfl, by decide, by decide⟩ rfl rfl (Nat.le_of_ble_eq_true rfl) dX3_isAbove_38 (jki0 (fun _ => rfl) (fun _ _ => rfl) (fun r7 => ?_))
      refine j_icmple (pc := 41) hC 48 (by decide) dX3_isAbove_41 ?_ ?_
      · refine j_iconst (pc := 48) hC ki_0 dX3_isAbove_48 ?_
        exact j_zret (pc := 49) hC (fun _ => 0) (by decide) rfl rfl dX3_isAbove_49
      · refine j_iconst (pc := 44) hC ki_1 dX3_isAbove_44 ?_
        refine j_goto (pc := 45) hC 49 (by decide) dX3_isAbove_45 ?_
        exact j_zret (pc := 49) hC (fun _ => 0) (by decide) rfl rfl dX3_isAbove_49
set_option maxHeartbeats 4000000 in
set_option maxRecDepth 100000 in
theorem jX3_isAbove_b14 {X : jX} (hC : jC X cX3_isAbove 3 RX3 rX3_isAbove (some .boolean)) (u : Nat) (h_a h_a_limbs h_b1 h_b1_limbs : Nat) (v_a_size v_b1_size : Int32) (f_a_limbs f_b1_limbs : Nat → Int32) (p : Int32) : gX3_isAbove X h_a h_a_limbs h_b1 h_b1_limbs v_a_size v_b1_size f_a_limbs f_b1_limbs 14 [(0, .ref h_a), (1, .ref h_b1), (2, .int p)] [] (jfix (fX3_isAbove_b14 u v_a_size v_b1_size f_a_limbs f_b1_limbs) u p) :=
  j_fix (fun rec14 hrec14 p => jX3_isAbove_b14_step hC u h_a h_a_limbs h_b1 h_b1_limbs v_a_size v_b1_size f_a_limbs f_b1_limbs rec14 hrec14 p) u p
set_option maxHeartbeats 4000000 in
set_option maxRecDepth 100000 in
theorem jX3_isAbove {X : jX} (hC : jC X cX3_isAbove 3 RX3 rX3_isAbove (some .boolean)) (u : Nat) (h_a h_a_limbs h_b1 h_b1_limbs : Nat) (v_a_size v_b1_size : Int32) (f_a_limbs f_b1_limbs : Nat → Int32) : gX3_isAbove X h_a h_a_limbs h_b1 h_b1_limbs v_a_size v_b1_size f_a_limbs f_b1_limbs 0 [(0, .ref h_a), (1, .ref h_b1)] [] (fX3_isAbove u v_a_size v_b1_size f_a_limbs f_b1_limbs) := by
  unfold fX3_isAbove
  refine j_aload_n (pc := 0) hC 0 rfl dX3_isAbove_0 ?_
  refine j_get (pc := 1) hC flRX3_13 0 rfl rfl dX3_isAbove_1 ?_
  refine j_aload_n (pc := 4) hC 1 rfl dX3_isAbove_4 ?_
  refine j_get (pc := 5) hC flRX3_13 1 rfl rfl dX3_isAbove_5 ?_
  refine j_imax (pc := 8) hC wm542 wm468 wm84 wm469 (by decide) (Nat.le_of_ble_eq_true rfl) ⟨Nat.le_of_ble_eq_true rfl, Nat.le_of_ble_eq_true rfl⟩ dX3_isAbove_8 ?_
  refine j_let (pc := 11) (fun x1 => ?_)
  refine j_iconst (pc := 11) hC ki_1 dX3_isAbove_11 ?_
  refine j_isub (pc := 12) hC dX3_isAbove_12 ?_
  refine j_let (pc := 13) (fun x2 => ?_)
  refine j_istore_n (pc := 13) hC (lv' := [(2, .int x2), (0, .ref h_a), (1, .ref h_b1)]) rfl (by decide) dX3_isAbove_13 ?_
  refine j_lv (pc := 14) [1, 2, 0] rfl ?_
  exact jX3_isAbove_b14 hC u h_a h_a_limbs h_b1 h_b1_limbs v_a_size v_b1_size f_a_limbs f_b1_limbs x2
set_option maxHeartbeats 4000000 in
set_option maxRecDepth 100000 in
theorem mX3_isAbove (l : Launch) (D : va_G) (cy : Nat → ClassId) (ev : jE) (u : Nat) (h_a h_a_limbs h_b1 h_b1_limbs : Nat) (v_a_size v_b1_size : Int32) (f_a_limbs f_b1_limbs : Nat → Int32) : jM l yX3_isAbove cX3_isAbove 3 (some .boolean) rX3_isAbove [.ref h_a, .ref h_b1] [(h_a, .inr (3, [.ref h_a_limbs, .int v_a_size])), (h_b1, .inr (3, [.ref h_b1_limbs, .int v_b1_size])), (h_a_limbs, .inl (cy 0, 6, .inl f_a_limbs)), (h_b1_limbs, .inl (cy 0, 6, .inl f_b1_limbs))] (fun (_ : Int32) (_ : Nat → Nat) => [(h_a, .inr (3, [.ref h_a_limbs, .int v_a_size])), (h_b1, .inr (3, [.ref h_b1_limbs, .int v_b1_size])), (h_a_limbs, .inl (cy 0, 6, .inl f_a_limbs)), (h_b1_limbs, .inl (cy 0, 6, .inl f_b1_limbs))]) (fun (r : Int32) => some (.int r)) (fX3_isAbove u v_a_size v_b1_size f_a_limbs f_b1_limbs) D cy ev := j_met RX3 (by decide +kernel) rfl (Nat.le_of_ble_eq_true rfl) (fun X hC _ hD hy hv => by subst hD; subst hy; subst hv; exact jX3_isAbove hC u h_a h_a_limbs h_b1 h_b1_limbs v_a_size v_b1_size f_a_limbs f_b1_limbs)
abbrev gX4_weigh (X : jX) (h_a h_a_one h_a_all h_a_most h_b1 h_b1_arms h_b1_hooks h_b1_darts h_b1_stories h_b1_tries h_b1_people h_b1_praise h_b1_thorns h_b1_butts h_b1_play h_b1_sorts h_b1_layers h_b1_plan h_a_one_limbs h_b1_stories_cells h_b1_tries_cells : Nat) (p2 v_a_heaviest v_a_one_size v_b1_stories_rows v_b1_tries_rows : Int32) (f_a_one_limbs f_b1_stories_cells f_b1_tries_cells : Nat → Int32) (pc : Nat) (lv : List (Nat × Value)) (st : List Value) (w0 : Int32) (w1 : Nat → Int32) (e : Option (Int32 × (Nat → Int32))) : Prop := jJ (ρ := Int32 × (Nat → Int32)) X 7 0 0 (jQf X 0 0 (fun (_ : Int32 × (Nat → Int32)) => none) (fun (r : Int32 × (Nat → Int32)) (_ : Nat → Nat) => [(h_a, .inr (4, [.ref h_a_one, .ref h_a_all, .ref h_a_most, .int v_a_heaviest])), (h_b1, .inr (6, [.ref h_b1_arms, .ref h_b1_hooks, .ref h_b1_darts, .ref h_b1_stories, .ref h_b1_tries, .ref h_b1_people, .ref h_b1_praise, .ref h_b1_thorns, .ref h_b1_butts, .ref h_b1_play, .ref h_b1_sorts, .ref h_b1_layers, .ref h_b1_plan])), (h_a_one, .inr (3, [.ref h_a_one_limbs, .int r.1])), (h_b1_stories, .inr (7, [.int (2 : Int32), .ref h_b1_stories_cells, .int v_b1_stories_rows])), (h_b1_tries, .inr (7, [.int (2 : Int32), .ref h_b1_tries_cells, .int v_b1_tries_rows])), (h_a_one_limbs, .inl (jy X 0, 6, .inl r.2)), (h_b1_stories_cells, .inl (jy X 0, 8, .inl f_b1_stories_cells)), (h_b1_tries_cells, .inl (jy X 0, 2, .inl f_b1_tries_cells))])) pc lv st [(h_a, .inr (4, [.ref h_a_one, .ref h_a_all, .ref h_a_most, .int v_a_heaviest])), (h_b1, .inr (6, [.ref h_b1_arms, .ref h_b1_hooks, .ref h_b1_darts, .ref h_b1_stories, .ref h_b1_tries, .ref h_b1_people, .ref h_b1_praise, .ref h_b1_thorns, .ref h_b1_butts, .ref h_b1_play, .ref h_b1_sorts, .ref h_b1_layers, .ref h_b1_plan])), (h_a_one, .inr (3, [.ref h_a_one_limbs, .int w0])), (h_b1_stories, .inr (7, [.int (2 : Int32), .ref h_b1_stories_cells, .int v_b1_stories_rows])), (h_b1_tries, .inr (7, [.int (2 : Int32), .ref h_b1_tries_cells, .int v_b1_tries_rows])), (h_a_one_limbs, .inl (jy X 0, 6, .inl w1)), (h_b1_stories_cells, .inl (jy X 0, 8, .inl f_b1_stories_cells)), (h_b1_tries_cells, .inl (jy X 0, 2, .inl f_b1_tries_cells))] (e)
set_option maxHeartbeats 4000000 in
set_option maxRecDepth 100000 in
theorem jX4_weigh_b78 {X : jX} (hC : jC X cX4_weigh 7 RX4 rX4_weigh none) (u : Nat) (h_a h_a_one h_a_all h_a_most h_b1 h_b1_arms h_b1_hooks h_b1_darts h_b1_stories h_b1_tries h_b1_people h_b1_praise h_b1_thorns h_b1_butts h_b1_play h_b1_sorts h_b1_layers h_b1_plan h_a_one_limbs h_b1_stories_cells h_b1_tries_cells : Nat) (p2 v_a_heaviest v_a_one_size v_b1_stories_rows v_b1_tries_rows : Int32) (f_a_one_limbs f_b1_stories_cells f_b1_tries_cells : Nat → Int32) (rec52 : (Int32 × Int32 × Int32 × Int32 × Int32 × (Nat → Int32)) → Option (Int32 × (Nat → Int32))) (hrec52 : ∀ p : Int32 × Int32 × Int32 × Int32 × Int32 × (Nat → Int32), gX4_weigh X h_a h_a_one h_a_all h_a_most h_b1 h_b1_arms h_b1_hooks h_b1_darts h_b1_stories h_b1_tries h_b1_people h_b1_praise h_b1_thorns h_b1_butts h_b1_play h_b1_sorts h_b1_layers h_b1_plan h_a_one_limbs h_b1_stories_cells h_b1_tries_cells p2 v_a_heaviest v_a_one_size v_b1_stories_rows v_b1_tries_rows f_a_one_limbs f_b1_stories_cells f_b1_tries_cells 52 [(0, .ref h_a), (3, .int p.1), (4, .int p.2.1), (5, .int p.2.2.1), (6, .int p.2.2.2.1)] [] p.2.2.2.2.1 p.2.2.2.2.2 (rec52 p)) (p : Int32 × Int32 × Int32 × Int32 × Int32 × Int32 × (Nat → Int32)) : gX4_weigh X h_a h_a_one h_a_all h_a_most h_b1 h_b1_arms h_b1_hooks h_b1_darts h_b1_stories h_b1_tries h_b1_people h_b1_praise h_b1_thorns h_b1_butts h_b1_play h_b1_sorts h_b1_layers h_b1_plan h_a_one_limbs h_b1_stories_cells h_b1_tries_cells p2 v_a_heaviest v_a_one_size v_b1_stories_rows v_b1_tries_rows f_a_one_limbs f_b1_stories_cells f_b1_tries_cells 78 [(0, .ref h_a), (3, .int p.1), (4, .int p.2.1), (5, .int p.2.2.1), (6, .int p.2.2.2.1)] [.int p.2.2.2.2.1, .ref h_a_one] p.2.2.2.2.2.1 p.2.2.2.2.2.2 (fX4_weigh_b78 u p2 v_a_one_size v_b1_stories_rows v_b1_tries_rows f_a_one_limbs f_b1_stories_cells f_b1_tries_cells rec52 p) := by
  unfold fX4_weigh_b78
  refine j_callV (pc := 78) hC csRX4_43 [.int p.2.2.2.2.1] (mX3_multiply (jl X) (jD X) (jy X) (jv X) u h_a_one h_a_one_limbs p.2.2.2.2.1 p.2.2.2.2.2.1 p.2.2.2.2.2.2) [2, 5] rfl (by decide +kernel) 2 rfl ⟨_, _, rfl⟩ ⟨by decide, by decide, rfl, rfl, by decide, by decide⟩ rfl rfl (Nat.le_of_ble_eq_true rfl) dX4_weigh_78 (jkv (fun r6 _ => (rfl : @Eq va_W _ [(h_a, .inr (4, [.ref h_a_one, .ref h_a_all, .ref h_a_most, .int v_a_heaviest])), (h_b1, .inr (6, [.ref h_b1_arms, .ref h_b1_hooks, .ref h_b1_darts, .ref h_b1_stories, .ref h_b1_tries, .ref h_b1_people, .ref h_b1_praise, .ref h_b1_thorns, .ref h_b1_butts, .ref h_b1_play, .ref h_b1_sorts, .ref h_b1_layers, .ref h_b1_plan])), (h_a_one, .inr (3, [.ref h_a_one_limbs, .int r6.1])), (h_b1_stories, .inr (7, [.int (2 : Int32), .ref h_b1_stories_cells, .int v_b1_stories_rows])), (h_b1_tries, .inr (7, [.int (2 : Int32), .ref h_b1_tries_cells, .int v_b1_tries_rows])), (h_a_one_limbs, .inl (jy X 0, 6, .inl r6.2)), (h_b1_stories_cells, .inl (jy X 0, 8, .inl f_b1_stories_cells)), (h_b1_tries_cells, .inl (jy X 0, 2, .inl f_b1_tries_cells))])) (fun r6 => ?_))
  refine j_iinc (pc := 81) hC 4 rfl ki_1 (fun x7 => (rfl : @Eq (List (Nat × Value)) _ [(6, .int x7), (0, .ref h_a), (3, .int p.1), (4, .int p.2.1), (5, .int p.2.2.1)])) (by decide) dX4_weigh_81 (fun x7 => ?_)
  refine j_goto (pc := 84) hC 52 (by decide) dX4_weigh_84 ?_
  refine j_lv (pc := 52) [1, 2, 3, 4, 0] rfl ?_
  exact hrec52 (p.1, p.2.1, p.2.2.1, x7, r6.1, r6.2)
set_option maxHeartbeats 4000000 in
set_option maxRecDepth 100000 in
theorem jX4_weigh_b52_step {X : jX} (hC : jC X cX4_weigh 7 RX4 rX4_weigh none) (u : Nat) (h_a h_a_one h_a_all h_a_most h_b1 h_b1_arms h_b1_hooks h_b1_darts h_b1_stories h_b1_tries h_b1_people h_b1_praise h_b1_thorns h_b1_butts h_b1_play h_b1_sorts h_b1_layers h_b1_plan h_a_one_limbs h_b1_stories_cells h_b1_tries_cells : Nat) (p2 v_a_heaviest v_a_one_size v_b1_stories_rows v_b1_tries_rows : Int32) (f_a_one_limbs f_b1_stories_cells f_b1_tries_cells : Nat → Int32) (rec52 : (Int32 × Int32 × Int32 × Int32 × Int32 × (Nat → Int32)) → Option (Int32 × (Nat → Int32))) (hrec52 : ∀ p : Int32 × Int32 × Int32 × Int32 × Int32 × (Nat → Int32), gX4_weigh X h_a h_a_one h_a_all h_a_most h_b1 h_b1_arms h_b1_hooks h_b1_darts h_b1_stories h_b1_tries h_b1_people h_b1_praise h_b1_thorns h_b1_butts h_b1_play h_b1_sorts h_b1_layers h_b1_plan h_a_one_limbs h_b1_stories_cells h_b1_tries_cells p2 v_a_heaviest v_a_one_size v_b1_stories_rows v_b1_tries_rows f_a_one_limbs f_b1_stories_cells f_b1_tries_cells 52 [(0, .ref h_a), (3, .int p.1), (4, .int p.2.1), (5, .int p.2.2.1), (6, .int p.2.2.2.1)] [] p.2.2.2.2.1 p.2.2.2.2.2 (rec52 p)) (p : Int32 × Int32 × Int32 × Int32 × Int32 × (Nat → Int32)) : gX4_weigh X h_a h_a_one h_a_all h_a_most h_b1 h_b1_arms h_b1_hooks h_b1_darts h_b1_stories h_b1_tries h_b1_people h_b1_praise h_b1_thorns h_b1_butts h_b1_play h_b1_sorts h_b1_layers h_b1_plan h_a_one_limbs h_b1_stories_cells h_b1_tries_cells p2 v_a_heaviest v_a_one_size v_b1_stories_rows v_b1_tries_rows f_a_one_limbs f_b1_stories_cells f_b1_tries_cells 52 [(0, .ref h_a), (3, .int p.1), (4, .int p.2.1), (5, .int p.2.2.1), (6, .int p.2.2.2.1)] [] p.2.2.2.2.1 p.2.2.2.2.2 (fX4_weigh_b52 u p2 v_a_one_size v_b1_stories_rows v_b1_tries_rows f_a_one_limbs f_b1_stories_cells f_b1_tries_cells rec52 p) := by
  unfold fX4_weigh_b52
  refine j_iload (pc := 52) hC 4 rfl dX4_weigh_52 ?_
  refine j_iload (pc := 54) hC 2 rfl dX4_weigh_54 ?_
  refine j_icmpge (pc := 56) hC 87 (by decide) dX4_weigh_56 ?_ ?_
  · exact j_vret (pc := 87) hC (fun _ => 0) rfl rfl dX4_weigh_87
  · refine j_aload_n (pc := 59) hC 0 rfl dX4_weigh_59 ?_
    refine j_get (pc := 60) hC flRX4_12 0 rfl rfl dX4_weigh_60 ?_
    refine j_iload (pc := 63) hC 4 rfl dX4_weigh_63 ?_
    refine j_iload (pc := 65) hC 3 rfl dX4_weigh_65 ?_
    refine j_icmpge (pc := 67) hC 74 (by decide) dX4_weigh_67 ?_ ?_
    · refine j_bipush (pc := 74) hC kb_20 dX4_weigh_74 ?_
      refine j_iload_n (pc := 76) hC 1 rfl dX4_weigh_76 ?_
      refine j_isub (pc := 77) hC dX4_weigh_77 ?_
      exact jX4_weigh_b78 hC u h_a h_a_one h_a_all h_a_most h_b1 h_b1_arms h_b1_hooks h_b1_darts h_b1_stories h_b1_tries h_b1_people h_b1_praise h_b1_thorns h_b1_butts h_b1_play h_b1_sorts h_b1_layers h_b1_plan h_a_one_limbs h_b1_stories_cells h_b1_tries_cells p2 v_a_heaviest v_a_one_size v_b1_stories_rows v_b1_tries_rows f_a_one_limbs f_b1_stories_cells f_b1_tries_cells rec52 hrec52 (p.1, p.2.1, p.2.2.1, p.2.2.2.1, ((20 : Int32) - p.1), p.2.2.2.2.1, p.2.2.2.2.2)
    · refine j_iload_n (pc := 70) hC 1 rfl dX4_weigh_70 ?_
      refine j_goto (pc := 71) hC 78 (by decide) dX4_weigh_71 ?_
      exact jX4_weigh_b78 hC u h_a h_a_one h_a_all h_a_most h_b1 h_b1_arms h_b1_hooks h_b1_darts h_b1_stories h_b1_tries h_b1_people h_b1_praise h_b1_thorns h_b1_butts h_b1_play h_b1_sorts h_b1_layers h_b1_plan h_a_one_limbs h_b1_stories_cells h_b1_tries_cells p2 v_a_heaviest v_a_one_size v_b1_stories_rows v_b1_tries_rows f_a_one_limbs f_b1_stories_cells f_b1_tries_cells rec52 hrec52 (p.1, p.2.1, p.2.2.1, p.2.2.2.1, p.1, p.2.2.2.2.1, p.2.2.2.2.2)
set_option maxHeartbeats 4000000 in
set_option maxRecDepth 100000 in
theorem jX4_weigh_b52 {X : jX} (hC : jC X cX4_weigh 7 RX4 rX4_weigh none) (u : Nat) (h_a h_a_one h_a_all h_a_most h_b1 h_b1_arms h_b1_hooks h_b1_darts h_b1_stories h_b1_tries h_b1_people h_b1_praise h_b1_thorns h_b1_butts h_b1_play h_b1_sorts h_b1_layers h_b1_plan h_a_one_limbs h_b1_stories_cells h_b1_tries_cells : Nat) (p2 v_a_heaviest v_a_one_size v_b1_stories_rows v_b1_tries_rows : Int32) (f_a_one_limbs f_b1_stories_cells f_b1_tries_cells : Nat → Int32) (p : Int32 × Int32 × Int32 × Int32 × Int32 × (Nat → Int32)) : gX4_weigh X h_a h_a_one h_a_all h_a_most h_b1 h_b1_arms h_b1_hooks h_b1_darts h_b1_stories h_b1_tries h_b1_people h_b1_praise h_b1_thorns h_b1_butts h_b1_play h_b1_sorts h_b1_layers h_b1_plan h_a_one_limbs h_b1_stories_cells h_b1_tries_cells p2 v_a_heaviest v_a_one_size v_b1_stories_rows v_b1_tries_rows f_a_one_limbs f_b1_stories_cells f_b1_tries_cells 52 [(0, .ref h_a), (3, .int p.1), (4, .int p.2.1), (5, .int p.2.2.1), (6, .int p.2.2.2.1)] [] p.2.2.2.2.1 p.2.2.2.2.2 (jfix (fX4_weigh_b52 u p2 v_a_one_size v_b1_stories_rows v_b1_tries_rows f_a_one_limbs f_b1_stories_cells f_b1_tries_cells) u p) :=
  j_fix (fun rec52 hrec52 p => jX4_weigh_b52_step hC u h_a h_a_one h_a_all h_a_most h_b1 h_b1_arms h_b1_hooks h_b1_darts h_b1_stories h_b1_tries h_b1_people h_b1_praise h_b1_thorns h_b1_butts h_b1_play h_b1_sorts h_b1_layers h_b1_plan h_a_one_limbs h_b1_stories_cells h_b1_tries_cells p2 v_a_heaviest v_a_one_size v_b1_stories_rows v_b1_tries_rows f_a_one_limbs f_b1_stories_cells f_b1_tries_cells rec52 hrec52 p) u p
set_option maxHeartbeats 4000000 in
set_option maxRecDepth 100000 in
theorem jX4_weigh {X : jX} (hC : jC X cX4_weigh 7 RX4 rX4_weigh none) (u : Nat) (h_a h_a_one h_a_all h_a_most h_b1 h_b1_arms h_b1_hooks h_b1_darts h_b1_stories h_b1_tries h_b1_people h_b1_praise h_b1_thorns h_b1_butts h_b1_play h_b1_sorts h_b1_layers h_b1_plan h_a_one_limbs h_b1_stories_cells h_b1_tries_cells : Nat) (p2 v_a_heaviest v_a_one_size v_b1_stories_rows v_b1_tries_rows : Int32) (f_a_one_limbs f_b1_stories_cells f_b1_tries_cells : Nat → Int32) : gX4_weigh X h_a h_a_one h_a_all h_a_most h_b1 h_b1_arms h_b1_hooks h_b1_darts h_b1_stories h_b1_tries h_b1_people h_b1_praise h_b1_thorns h_b1_butts h_b1_play h_b1_sorts h_b1_layers h_b1_plan h_a_one_limbs h_b1_stories_cells h_b1_tries_cells p2 v_a_heaviest v_a_one_size v_b1_stories_rows v_b1_tries_rows f_a_one_limbs f_b1_stories_cells f_b1_tries_cells 0 [(0, .ref h_a), (1, .ref h_b1), (2, .int p2)] [] v_a_one_size f_a_one_limbs (fX4_weigh u p2 v_a_one_size v_b1_stories_rows v_b1_tries_rows f_a_one_limbs f_b1_stories_cells f_b1_tries_cells) := by
  unfold fX4_weigh
  refine j_aload_n (pc := 0) hC 1 rfl dX4_weigh_0 ?_
  refine j_get (pc := 1) hC flRX4_24 1 rfl rfl dX4_weigh_1 ?_
  refine j_iload_n (pc := 4) hC 2 rfl dX4_weigh_4 ?_
  refine j_iconst (pc := 5) hC ki_0 dX4_weigh_5 ?_
  refine j_callV (pc := 6) hC csRX4_30 [.int p2, .int (0 : Int32)] (mX7_cell (jl X) (jD X) (jy X) (jv X) h_b1_stories h_b1_stories_cells p2 (0 : Int32) (2 : Int32) v_b1_stories_rows 8 f_b1_stories_cells) [3, 6] rfl (by decide +kernel) 3 rfl ⟨_, _, rfl⟩ ⟨by decide, by decide, rfl, rfl, by decide, by decide⟩ rfl rfl (Nat.le_of_ble_eq_true rfl) dX4_weigh_6 (jki0 (fun _ => rfl) (fun _ _ => rfl) (fun r1 => ?_))
  refine j_istore_n (pc := 9) hC (lv' := [(3, .int r1), (0, .ref h_a), (1, .ref h_b1), (2, .int p2)]) rfl (by decide) dX4_weigh_9 ?_
  refine j_aload_n (pc := 10) hC 2 rfl dX4_weigh_10 ?_
  refine j_get (pc := 11) hC flRX4_36 1 rfl rfl dX4_weigh_11 ?_
  refine j_iconst (pc := 14) hC ki_0 dX4_weigh_14 ?_
  refine j_iconst (pc := 15) hC ki_0 dX4_weigh_15 ?_
  refine j_callV (pc := 16) hC csRX4_30 [.int (0 : Int32), .int (0 : Int32)] (mX7_cell (jl X) (jD X) (jy X) (jv X) h_b1_tries h_b1_tries_cells (0 : Int32) (0 : Int32) (2 : Int32) v_b1_tries_rows 2 f_b1_tries_cells) [4, 7] rfl (by decide +kernel) 4 rfl ⟨_, _, rfl⟩ ⟨by decide, by decide, rfl, rfl, by decide, by decide⟩ rfl rfl (Nat.le_of_ble_eq_true rfl) dX4_weigh_16 (jki0 (fun _ => rfl) (fun _ _ => rfl) (fun r2 => ?_))
  refine j_istore (pc := 19) hC (lv' := [(4, .int r2), (3, .int r1), (0, .ref h_a), (1, .ref h_b1), (2, .int p2)]) rfl (by decide) dX4_weigh_19 ?_
  refine j_aload_n (pc := 21) hC 3 rfl dX4_weigh_21 ?_
  refine j_get (pc := 22) hC flRX4_36 1 rfl rfl dX4_weigh_22 ?_
  refine j_iconst (pc := 25) hC ki_0 dX4_weigh_25 ?_
  refine j_iconst (pc := 26) hC ki_1 dX4_weigh_26 ?_
  refine j_callV (pc := 27) hC csRX4_30 [.int (0 : Int32), .int (1 : Int32)] (mX7_cell (jl X) (jD X) (jy X) (jv X) h_b1_tries h_b1_tries_cells (0 : Int32) (1 : Int32) (2 : Int32) v_b1_tries_rows 2 f_b1_tries_cells) [4, 7] rfl (by decide +kernel) 4 rfl ⟨_, _, rfl⟩ ⟨by decide, by decide, rfl, rfl, by decide, by decide⟩ rfl rfl (Nat.le_of_ble_eq_true rfl) dX4_weigh_27 (jki0 (fun _ => rfl) (fun _ _ => rfl) (fun r3 => ?_))
  refine j_istore (pc := 30) hC (lv' := [(5, .int r3), (4, .int r2), (3, .int r1), (0, .ref h_a), (1, .ref h_b1), (2, .int p2)]) rfl (by decide) dX4_weigh_30 ?_
  refine j_aload_n (pc := 32) hC 3 rfl dX4_weigh_32 ?_
  refine j_get (pc := 33) hC flRX4_12 0 rfl rfl dX4_weigh_33 ?_
  refine j_aload_n (pc := 36) hC 4 rfl dX4_weigh_36 ?_
  refine j_get (pc := 37) hC flRX4_24 1 rfl rfl dX4_weigh_37 ?_
  refine j_iload_n (pc := 40) hC 5 rfl dX4_weigh_40 ?_
  refine j_iconst (pc := 41) hC ki_1 dX4_weigh_41 ?_
  refine j_callV (pc := 42) hC csRX4_30 [.int p2, .int (1 : Int32)] (mX7_cell (jl X) (jD X) (jy X) (jv X) h_b1_stories h_b1_stories_cells p2 (1 : Int32) (2 : Int32) v_b1_stories_rows 8 f_b1_stories_cells) [3, 6] rfl (by decide +kernel) 3 rfl ⟨_, _, rfl⟩ ⟨by decide, by decide, rfl, rfl, by decide, by decide⟩ rfl rfl (Nat.le_of_ble_eq_true rfl) dX4_weigh_42 (jki0 (fun _ => rfl) (fun _ _ => rfl) (fun r4 => ?_))
  refine j_i2l (pc := 45) hC dX4_weigh_45 ?_
  refine j_callV (pc := 46) hC csRX4_39 [.long (r4.toInt64)] (mX3_set (jl X) (jD X) (jy X) (jv X) u h_a_one h_a_one_limbs (r4.toInt64) v_a_one_size f_a_one_limbs) [2, 5] rfl (by decide +kernel) 2 rfl ⟨_, _, rfl⟩ ⟨by decide, by decide, rfl, rfl, by decide, by decide⟩ rfl rfl (Nat.le_of_ble_eq_true rfl) dX4_weigh_46 (jkv (fun r5 _ => (rfl : @Eq va_W _ [(h_a, .inr (4, [.ref h_a_one, .ref h_a_all, .ref h_a_most, .int v_a_heaviest])), (h_b1, .inr (6, [.ref h_b1_arms, .ref h_b1_hooks, .ref h_b1_darts, .ref h_b1_stories, .ref h_b1_tries, .ref h_b1_people, .ref h_b1_praise, .ref h_b1_thorns, .ref h_b1_butts, .ref h_b1_play, .ref h_b1_sorts, .ref h_b1_layers, .ref h_b1_plan])), (h_a_one, .inr (3, [.ref h_a_one_limbs, .int r5.1])), (h_b1_stories, .inr (7, [.int (2 : Int32), .ref h_b1_stories_cells, .int v_b1_stories_rows])), (h_b1_tries, .inr (7, [.int (2 : Int32), .ref h_b1_tries_cells, .int v_b1_tries_rows])), (h_a_one_limbs, .inl (jy X 0, 6, .inl r5.2)), (h_b1_stories_cells, .inl (jy X 0, 8, .inl f_b1_stories_cells)), (h_b1_tries_cells, .inl (jy X 0, 2, .inl f_b1_tries_cells))])) (fun r5 => ?_))
  refine j_iconst (pc := 49) hC ki_0 dX4_weigh_49 ?_
  refine j_istore (pc := 50) hC (lv' := [(6, .int (0 : Int32)), (5, .int r3), (4, .int r2), (3, .int r1), (0, .ref h_a), (1, .ref h_b1), (2, .int p2)]) rfl (by decide) dX4_weigh_50 ?_
  refine j_lv (pc := 52) [4, 3, 2, 1, 0] rfl ?_
  exact jX4_weigh_b52 hC u h_a h_a_one h_a_all h_a_most h_b1 h_b1_arms h_b1_hooks h_b1_darts h_b1_stories h_b1_tries h_b1_people h_b1_praise h_b1_thorns h_b1_butts h_b1_play h_b1_sorts h_b1_layers h_b1_plan h_a_one_limbs h_b1_stories_cells h_b1_tries_cells p2 v_a_heaviest v_a_one_size v_b1_stories_rows v_b1_tries_rows f_a_one_limbs f_b1_stories_cells f_b1_tries_cells (r1, r2, r3, (0 : Int32), r5.1, r5.2)
set_option maxHeartbeats 4000000 in
set_option maxRecDepth 100000 in
theorem mX4_weigh (l : Launch) (D : va_G) (cy : Nat → ClassId) (ev : jE) (u : Nat) (h_a h_a_one h_a_all h_a_most h_b1 h_b1_arms h_b1_hooks h_b1_darts h_b1_stories h_b1_tries h_b1_people h_b1_praise h_b1_thorns h_b1_butts h_b1_play h_b1_sorts h_b1_layers h_b1_plan h_a_one_limbs h_b1_stories_cells h_b1_tries_cells : Nat) (p2 v_a_heaviest v_a_one_size v_b1_stories_rows v_b1_tries_rows : Int32) (f_a_one_limbs f_b1_stories_cells f_b1_tries_cells : Nat → Int32) : jM l yX4_weigh cX4_weigh 7 none rX4_weigh [.ref h_a, .ref h_b1, .int p2] [(h_a, .inr (4, [.ref h_a_one, .ref h_a_all, .ref h_a_most, .int v_a_heaviest])), (h_b1, .inr (6, [.ref h_b1_arms, .ref h_b1_hooks, .ref h_b1_darts, .ref h_b1_stories, .ref h_b1_tries, .ref h_b1_people, .ref h_b1_praise, .ref h_b1_thorns, .ref h_b1_butts, .ref h_b1_play, .ref h_b1_sorts, .ref h_b1_layers, .ref h_b1_plan])), (h_a_one, .inr (3, [.ref h_a_one_limbs, .int v_a_one_size])), (h_b1_stories, .inr (7, [.int (2 : Int32), .ref h_b1_stories_cells, .int v_b1_stories_rows])), (h_b1_tries, .inr (7, [.int (2 : Int32), .ref h_b1_tries_cells, .int v_b1_tries_rows])), (h_a_one_limbs, .inl (cy 0, 6, .inl f_a_one_limbs)), (h_b1_stories_cells, .inl (cy 0, 8, .inl f_b1_stories_cells)), (h_b1_tries_cells, .inl (cy 0, 2, .inl f_b1_tries_cells))] (fun (r : Int32 × (Nat → Int32)) (_ : Nat → Nat) => [(h_a, .inr (4, [.ref h_a_one, .ref h_a_all, .ref h_a_most, .int v_a_heaviest])), (h_b1, .inr (6, [.ref h_b1_arms, .ref h_b1_hooks, .ref h_b1_darts, .ref h_b1_stories, .ref h_b1_tries, .ref h_b1_people, .ref h_b1_praise, .ref h_b1_thorns, .ref h_b1_butts, .ref h_b1_play, .ref h_b1_sorts, .ref h_b1_layers, .ref h_b1_plan])), (h_a_one, .inr (3, [.ref h_a_one_limbs, .int r.1])), (h_b1_stories, .inr (7, [.int (2 : Int32), .ref h_b1_stories_cells, .int v_b1_stories_rows])), (h_b1_tries, .inr (7, [.int (2 : Int32), .ref h_b1_tries_cells, .int v_b1_tries_rows])), (h_a_one_limbs, .inl (cy 0, 6, .inl r.2)), (h_b1_stories_cells, .inl (cy 0, 8, .inl f_b1_stories_cells)), (h_b1_tries_cells, .inl (cy 0, 2, .inl f_b1_tries_cells))]) (fun (_ : Int32 × (Nat → Int32)) => none) (fX4_weigh u p2 v_a_one_size v_b1_stories_rows v_b1_tries_rows f_a_one_limbs f_b1_stories_cells f_b1_tries_cells) D cy ev := j_met RX4 (by decide +kernel) rfl (Nat.le_of_ble_eq_true rfl) (fun X hC _ hD hy hv => by subst hD; subst hy; subst hv; exact jX4_weigh hC u h_a h_a_one h_a_all h_a_most h_b1 h_b1_arms h_b1_hooks h_b1_darts h_b1_stories h_b1_tries h_b1_people h_b1_praise h_b1_thorns h_b1_butts h_b1_play h_b1_sorts h_b1_layers h_b1_plan h_a_one_limbs h_b1_stories_cells h_b1_tries_cells p2 v_a_heaviest v_a_one_size v_b1_stories_rows v_b1_tries_rows f_a_one_limbs f_b1_stories_cells f_b1_tries_cells)
abbrev gX4_weighAll (X : jX) (h_a h_a_one h_a_all h_a_most h_b1 h_b1_arms h_b1_hooks h_b1_darts h_b1_stories h_b1_tries h_b1_people h_b1_praise h_b1_thorns h_b1_butts h_b1_play h_b1_sorts h_b1_layers h_b1_plan h_a_all_limbs h_a_most_limbs h_a_one_limbs h_b1_stories_cells h_b1_tries_cells : Nat) (v_a_heaviest v_a_all_size v_a_most_size v_a_one_size v_b1_stories_rows v_b1_tries_rows : Int32) (f_a_all_limbs f_a_most_limbs f_a_one_limbs f_b1_stories_cells f_b1_tries_cells : Nat → Int32) (pc : Nat) (lv : List (Nat × Value)) (st : List Value) (w0 : Int32) (w1 : Int32) (w2 : Int32) (w3 : Int32) (w4 : Nat → Int32) (w5 : Nat → Int32) (w6 : Nat → Int32) (e : Option (Int32 × Int32 × Int32 × Int32 × Int32 × (Nat → Int32) × (Nat → Int32) × (Nat → Int32))) : Prop := jJ (ρ := Int32 × Int32 × Int32 × Int32 × Int32 × (Nat → Int32) × (Nat → Int32) × (Nat → Int32)) X 3 0 0 (jQf X 0 0 (fun (r : Int32 × Int32 × Int32 × Int32 × Int32 × (Nat → Int32) × (Nat → Int32) × (Nat → Int32)) => some (.int r.1)) (fun (r : Int32 × Int32 × Int32 × Int32 × Int32 × (Nat → Int32) × (Nat → Int32) × (Nat → Int32)) (_ : Nat → Nat) => [(h_a, .inr (4, [.ref h_a_one, .ref h_a_all, .ref h_a_most, .int r.2.1])), (h_b1, .inr (6, [.ref h_b1_arms, .ref h_b1_hooks, .ref h_b1_darts, .ref h_b1_stories, .ref h_b1_tries, .ref h_b1_people, .ref h_b1_praise, .ref h_b1_thorns, .ref h_b1_butts, .ref h_b1_play, .ref h_b1_sorts, .ref h_b1_layers, .ref h_b1_plan])), (h_a_all, .inr (3, [.ref h_a_all_limbs, .int r.2.2.1])), (h_a_most, .inr (3, [.ref h_a_most_limbs, .int r.2.2.2.1])), (h_a_one, .inr (3, [.ref h_a_one_limbs, .int r.2.2.2.2.1])), (h_b1_stories, .inr (7, [.int (2 : Int32), .ref h_b1_stories_cells, .int v_b1_stories_rows])), (h_b1_tries, .inr (7, [.int (2 : Int32), .ref h_b1_tries_cells, .int v_b1_tries_rows])), (h_a_all_limbs, .inl (jy X 0, 6, .inl r.2.2.2.2.2.1)), (h_a_most_limbs, .inl (jy X 0, 6, .inl r.2.2.2.2.2.2.1)), (h_a_one_limbs, .inl (jy X 0, 6, .inl r.2.2.2.2.2.2.2)), (h_b1_stories_cells, .inl (jy X 0, 8, .inl f_b1_stories_cells)), (h_b1_tries_cells, .inl (jy X 0, 2, .inl f_b1_tries_cells))])) pc lv st [(h_a, .inr (4, [.ref h_a_one, .ref h_a_all, .ref h_a_most, .int w0])), (h_b1, .inr (6, [.ref h_b1_arms, .ref h_b1_hooks, .ref h_b1_darts, .ref h_b1_stories, .ref h_b1_tries, .ref h_b1_people, .ref h_b1_praise, .ref h_b1_thorns, .ref h_b1_butts, .ref h_b1_play, .ref h_b1_sorts, .ref h_b1_layers, .ref h_b1_plan])), (h_a_all, .inr (3, [.ref h_a_all_limbs, .int w1])), (h_a_most, .inr (3, [.ref h_a_most_limbs, .int w2])), (h_a_one, .inr (3, [.ref h_a_one_limbs, .int w3])), (h_b1_stories, .inr (7, [.int (2 : Int32), .ref h_b1_stories_cells, .int v_b1_stories_rows])), (h_b1_tries, .inr (7, [.int (2 : Int32), .ref h_b1_tries_cells, .int v_b1_tries_rows])), (h_a_all_limbs, .inl (jy X 0, 6, .inl w4)), (h_a_most_limbs, .inl (jy X 0, 6, .inl w5)), (h_a_one_limbs, .inl (jy X 0, 6, .inl w6)), (h_b1_stories_cells, .inl (jy X 0, 8, .inl f_b1_stories_cells)), (h_b1_tries_cells, .inl (jy X 0, 2, .inl f_b1_tries_cells))] (e)
set_option maxHeartbeats 4000000 in
set_option maxRecDepth 100000 in
theorem jX4_weighAll_b75 {X : jX} (hC : jC X cX4_weighAll 3 RX4 rX4_weighAll (some .boolean)) (u : Nat) (h_a h_a_one h_a_all h_a_most h_b1 h_b1_arms h_b1_hooks h_b1_darts h_b1_stories h_b1_tries h_b1_people h_b1_praise h_b1_thorns h_b1_butts h_b1_play h_b1_sorts h_b1_layers h_b1_plan h_a_all_limbs h_a_most_limbs h_a_one_limbs h_b1_stories_cells h_b1_tries_cells : Nat) (v_a_heaviest v_a_all_size v_a_most_size v_a_one_size v_b1_stories_rows v_b1_tries_rows : Int32) (f_a_all_limbs f_a_most_limbs f_a_one_limbs f_b1_stories_cells f_b1_tries_cells : Nat → Int32) (rec23 : (Int32 × Int32 × Int32 × Int32 × Int32 × (Nat → Int32) × (Nat → Int32) × (Nat → Int32)) → Option (Int32 × Int32 × Int32 × Int32 × Int32 × (Nat → Int32) × (Nat → Int32) × (Nat → Int32))) (hrec23 : ∀ p : Int32 × Int32 × Int32 × Int32 × Int32 × (Nat → Int32) × (Nat → Int32) × (Nat → Int32), gX4_weighAll X h_a h_a_one h_a_all h_a_most h_b1 h_b1_arms h_b1_hooks h_b1_darts h_b1_stories h_b1_tries h_b1_people h_b1_praise h_b1_thorns h_b1_butts h_b1_play h_b1_sorts h_b1_layers h_b1_plan h_a_all_limbs h_a_most_limbs h_a_one_limbs h_b1_stories_cells h_b1_tries_cells v_a_heaviest v_a_all_size v_a_most_size v_a_one_size v_b1_stories_rows v_b1_tries_rows f_a_all_limbs f_a_most_limbs f_a_one_limbs f_b1_stories_cells f_b1_tries_cells 23 [(0, .ref h_a), (1, .ref h_b1), (2, .int p.1)] [] p.2.1 p.2.2.1 p.2.2.2.1 p.2.2.2.2.1 p.2.2.2.2.2.1 p.2.2.2.2.2.2.1 p.2.2.2.2.2.2.2 (rec23 p)) (p : Int32 × Int32 × Int32 × Int32 × Int32 × (Nat → Int32) × (Nat → Int32) × (Nat → Int32)) : gX4_weighAll X h_a h_a_one h_a_all h_a_most h_b1 h_b1_arms h_b1_hooks h_b1_darts h_b1_stories h_b1_tries h_b1_people h_b1_praise h_b1_thorns h_b1_butts h_b1_play h_b1_sorts h_b1_layers h_b1_plan h_a_all_limbs h_a_most_limbs h_a_one_limbs h_b1_stories_cells h_b1_tries_cells v_a_heaviest v_a_all_size v_a_most_size v_a_one_size v_b1_stories_rows v_b1_tries_rows f_a_all_limbs f_a_most_limbs f_a_one_limbs f_b1_stories_cells f_b1_tries_cells 75 [(0, .ref h_a), (1, .ref h_b1), (2, .int p.1)] [] p.2.1 p.2.2.1 p.2.2.2.1 p.2.2.2.2.1 p.2.2.2.2.2.1 p.2.2.2.2.2.2.1 p.2.2.2.2.2.2.2 (fX4_weighAll_b75 u v_a_heaviest v_a_all_size v_a_most_size v_a_one_size v_b1_stories_rows v_b1_tries_rows f_a_all_limbs f_a_most_limbs f_a_one_limbs f_b1_stories_cells f_b1_tries_cells rec23 p) := by
  unfold fX4_weighAll_b75
  refine j_iinc (pc := 75) hC 2 rfl ki_1 (fun x6 => (rfl : @Eq (List (Nat × Value)) _ [(2, .int x6), (0, .ref h_a), (1, .ref h_b1)])) (by decide) dX4_weighAll_75 (fun x6 => ?_)
  refine j_goto (pc := 78) hC 23 (by decide) dX4_weighAll_78 ?_
  refine j_lv (pc := 23) [1, 2, 0] rfl ?_
  exact hrec23 (x6, p.2.1, p.2.2.1, p.2.2.2.1, p.2.2.2.2.1, p.2.2.2.2.2.1, p.2.2.2.2.2.2.1, p.2.2.2.2.2.2.2)
set_option maxHeartbeats 4000000 in
set_option maxRecDepth 100000 in
theorem jX4_weighAll_b23_step {X : jX} (hC : jC X cX4_weighAll 3 RX4 rX4_weighAll (some .boolean)) (u : Nat) (h_a h_a_one h_a_all h_a_most h_b1 h_b1_arms h_b1_hooks h_b1_darts h_b1_stories h_b1_tries h_b1_people h_b1_praise h_b1_thorns h_b1_butts h_b1_play h_b1_sorts h_b1_layers h_b1_plan h_a_all_limbs h_a_most_limbs h_a_one_limbs h_b1_stories_cells h_b1_tries_cells : Nat) (v_a_heaviest v_a_all_size v_a_most_size v_a_one_size v_b1_stories_rows v_b1_tries_rows : Int32) (f_a_all_limbs f_a_most_limbs f_a_one_limbs f_b1_stories_cells f_b1_tries_cells : Nat → Int32) (rec23 : (Int32 × Int32 × Int32 × Int32 × Int32 × (Nat → Int32) × (Nat → Int32) × (Nat → Int32)) → Option (Int32 × Int32 × Int32 × Int32 × Int32 × (Nat → Int32) × (Nat → Int32) × (Nat → Int32))) (hrec23 : ∀ p : Int32 × Int32 × Int32 × Int32 × Int32 × (Nat → Int32) × (Nat → Int32) × (Nat → Int32), gX4_weighAll X h_a h_a_one h_a_all h_a_most h_b1 h_b1_arms h_b1_hooks h_b1_darts h_b1_stories h_b1_tries h_b1_people h_b1_praise h_b1_thorns h_b1_butts h_b1_play h_b1_sorts h_b1_layers h_b1_plan h_a_all_limbs h_a_most_limbs h_a_one_limbs h_b1_stories_cells h_b1_tries_cells v_a_heaviest v_a_all_size v_a_most_size v_a_one_size v_b1_stories_rows v_b1_tries_rows f_a_all_limbs f_a_most_limbs f_a_one_limbs f_b1_stories_cells f_b1_tries_cells 23 [(0, .ref h_a), (1, .ref h_b1), (2, .int p.1)] [] p.2.1 p.2.2.1 p.2.2.2.1 p.2.2.2.2.1 p.2.2.2.2.2.1 p.2.2.2.2.2.2.1 p.2.2.2.2.2.2.2 (rec23 p)) (p : Int32 × Int32 × Int32 × Int32 × Int32 × (Nat → Int32) × (Nat → Int32) × (Nat → Int32)) : gX4_weighAll X h_a h_a_one h_a_all h_a_most h_b1 h_b1_arms h_b1_hooks h_b1_darts h_b1_stories h_b1_tries h_b1_people h_b1_praise h_b1_thorns h_b1_butts h_b1_play h_b1_sorts h_b1_layers h_b1_plan h_a_all_limbs h_a_most_limbs h_a_one_limbs h_b1_stories_cells h_b1_tries_cells v_a_heaviest v_a_all_size v_a_most_size v_a_one_size v_b1_stories_rows v_b1_tries_rows f_a_all_limbs f_a_most_limbs f_a_one_limbs f_b1_stories_cells f_b1_tries_cells 23 [(0, .ref h_a), (1, .ref h_b1), (2, .int p.1)] [] p.2.1 p.2.2.1 p.2.2.2.1 p.2.2.2.2.1 p.2.2.2.2.2.1 p.2.2.2.2.2.2.1 p.2.2.2.2.2.2.2 (fX4_weighAll_b23 u v_a_heaviest v_a_all_size v_a_most_size v_a_one_size v_b1_stories_rows v_b1_tries_rows f_a_all_limbs f_a_most_limbs f_a_one_limbs f_b1_stories_cells f_b1_tries_cells rec23 p) := by
  unfold fX4_weighAll_b23
  refine j_iload_n (pc := 23) hC 2 rfl dX4_weighAll_23 ?_
  refine j_iconst (pc := 24) hC ki_4 dX4_weighAll_24 ?_
  refine j_icmpge (pc := 25) hC 81 (by decide) dX4_weighAll_25 ?_ ?_
  · refine j_aload_n (pc := 81) hC 0 rfl dX4_weighAll_81 ?_
    refine j_get (pc := 82) hC flRX4_18 0 rfl rfl dX4_weighAll_82 ?_
    refine j_get (pc := 85) hC flRX4_66 2 rfl rfl dX4_weighAll_85 ?_
    refine j_ifle (pc := 88) hC 95 (by decide) dX4_weighAll_88 ?_ ?_
    · refine j_iconst (pc := 95) hC ki_0 dX4_weighAll_95 ?_
      exact j_zret (pc := 96) hC (fun _ => 0) (by decide) rfl rfl dX4_weighAll_96
    · refine j_iconst (pc := 91) hC ki_1 dX4_weighAll_91 ?_
      refine j_goto (pc := 92) hC 96 (by decide) dX4_weighAll_92 ?_
      exact j_zret (pc := 96) hC (fun _ => 0) (by decide) rfl rfl dX4_weighAll_96
  · refine j_aload_n (pc := 28) hC 0 rfl dX4_weighAll_28 ?_
    refine j_aload_n (pc := 29) hC 1 rfl dX4_weighAll_29 ?_
    refine j_iload_n (pc := 30) hC 2 rfl dX4_weighAll_30 ?_
    refine j_callV (pc := 31) hC csRX4_51 [.ref h_b1, .int p.1] (mX4_weigh (jl X) (jD X) (jy X) (jv X) u h_a h_a_one h_a_all h_a_most h_b1 h_b1_arms h_b1_hooks h_b1_darts h_b1_stories h_b1_tries h_b1_people h_b1_praise h_b1_thorns h_b1_butts h_b1_play h_b1_sorts h_b1_layers h_b1_plan h_a_one_limbs h_b1_stories_cells h_b1_tries_cells p.1 p.2.1 p.2.2.2.2.1 v_b1_stories_rows v_b1_tries_rows p.2.2.2.2.2.2.2 f_b1_stories_cells f_b1_tries_cells) [0, 1, 4, 5, 6, 9, 10, 11] rfl (by decide +kernel) 0 rfl ⟨_, _, rfl⟩ ⟨by decide, by decide, rfl, rfl, by decide, by decide⟩ rfl rfl (Nat.le_of_ble_eq_true rfl) dX4_weighAll_31 (jkv (fun r3 _ => (rfl : @Eq va_W _ [(h_a, .inr (4, [.ref h_a_one, .ref h_a_all, .ref h_a_most, .int p.2.1])), (h_b1, .inr (6, [.ref h_b1_arms, .ref h_b1_hooks, .ref h_b1_darts, .ref h_b1_stories, .ref h_b1_tries, .ref h_b1_people, .ref h_b1_praise, .ref h_b1_thorns, .ref h_b1_butts, .ref h_b1_play, .ref h_b1_sorts, .ref h_b1_layers, .ref h_b1_plan])), (h_a_all, .inr (3, [.ref h_a_all_limbs, .int p.2.2.1])), (h_a_most, .inr (3, [.ref h_a_most_limbs, .int p.2.2.2.1])), (h_a_one, .inr (3, [.ref h_a_one_limbs, .int r3.1])), (h_b1_stories, .inr (7, [.int (2 : Int32), .ref h_b1_stories_cells, .int v_b1_stories_rows])), (h_b1_tries, .inr (7, [.int (2 : Int32), .ref h_b1_tries_cells, .int v_b1_tries_rows])), (h_a_all_limbs, .inl (jy X 0, 6, .inl p.2.2.2.2.2.1)), (h_a_most_limbs, .inl (jy X 0, 6, .inl p.2.2.2.2.2.2.1)), (h_a_one_limbs, .inl (jy X 0, 6, .inl r3.2)), (h_b1_stories_cells, .inl (jy X 0, 8, .inl f_b1_stories_cells)), (h_b1_tries_cells, .inl (jy X 0, 2, .inl f_b1_tries_cells))])) (fun r3 => ?_))
    refine j_aload_n (pc := 34) hC 0 rfl dX4_weighAll_34 ?_
    refine j_get (pc := 35) hC flRX4_18 0 rfl rfl dX4_weighAll_35 ?_
    refine j_aload_n (pc := 38) hC 0 rfl dX4_weighAll_38 ?_
    refine j_get (pc := 39) hC flRX4_12 0 rfl rfl dX4_weighAll_39 ?_
    refine j_callV (pc := 42) hC csRX4_55 [.ref h_a_one] (mX3_add (jl X) (jD X) (jy X) (jv X) u h_a_all h_a_all_limbs h_a_one h_a_one_limbs p.2.2.1 r3.1 p.2.2.2.2.2.1 r3.2) [2, 4, 7, 9] rfl (by decide +kernel) 2 rfl ⟨_, _, rfl⟩ ⟨by decide, by decide, rfl, rfl, by decide, by decide⟩ rfl rfl (Nat.le_of_ble_eq_true rfl) dX4_weighAll_42 (jkv (fun r4 _ => (rfl : @Eq va_W _ [(h_a, .inr (4, [.ref h_a_one, .ref h_a_all, .ref h_a_most, .int p.2.1])), (h_b1, .inr (6, [.ref h_b1_arms, .ref h_b1_hooks, .ref h_b1_darts, .ref h_b1_stories, .ref h_b1_tries, .ref h_b1_people, .ref h_b1_praise, .ref h_b1_thorns, .ref h_b1_butts, .ref h_b1_play, .ref h_b1_sorts, .ref h_b1_layers, .ref h_b1_plan])), (h_a_all, .inr (3, [.ref h_a_all_limbs, .int r4.1])), (h_a_most, .inr (3, [.ref h_a_most_limbs, .int p.2.2.2.1])), (h_a_one, .inr (3, [.ref h_a_one_limbs, .int r3.1])), (h_b1_stories, .inr (7, [.int (2 : Int32), .ref h_b1_stories_cells, .int v_b1_stories_rows])), (h_b1_tries, .inr (7, [.int (2 : Int32), .ref h_b1_tries_cells, .int v_b1_tries_rows])), (h_a_all_limbs, .inl (jy X 0, 6, .inl r4.2)), (h_a_most_limbs, .inl (jy X 0, 6, .inl p.2.2.2.2.2.2.1)), (h_a_one_limbs, .inl (jy X 0, 6, .inl r3.2)), (h_b1_stories_cells, .inl (jy X 0, 8, .inl f_b1_stories_cells)), (h_b1_tries_cells, .inl (jy X 0, 2, .inl f_b1_tries_cells))])) (fun r4 => ?_))
    refine j_aload_n (pc := 45) hC 0 rfl dX4_weighAll_45 ?_
    refine j_get (pc := 46) hC flRX4_12 0 rfl rfl dX4_weighAll_46 ?_
    refine j_aload_n (pc := 49) hC 0 rfl dX4_weighAll_49 ?_
    refine j_get (pc := 50) hC flRX4_21 0 rfl rfl dX4_weighAll_50 ?_
    refine j_callV (pc := 53) hC csRX4_59 [.ref h_a_most] (mX3_isAbove (jl X) (jD X) (jy X) (jv X) u h_a_one h_a_one_limbs h_a_most h_a_most_limbs r3.1 p.2.2.2.1 r3.2 p.2.2.2.2.2.2.1) [4, 3, 9, 8] rfl (by decide +kernel) 4 rfl ⟨_, _, rfl⟩ ⟨by decide, by decide, rfl, rfl, by decide, by decide⟩ rfl rfl (Nat.le_of_ble_eq_true rfl) dX4_weighAll_53 (jki0 (fun _ => rfl) (fun _ _ => rfl) (fun r5 => ?_))
    refine j_ifeq (pc := 56) hC 75 (by decide) dX4_weighAll_56 ?_ ?_
    · exact jX4_weighAll_b75 hC u h_a h_a_one h_a_all h_a_most h_b1 h_b1_arms h_b1_hooks h_b1_darts h_b1_stories h_b1_tries h_b1_people h_b1_praise h_b1_thorns h_b1_butts h_b1_play h_b1_sorts h_b1_layers h_b1_plan h_a_all_limbs h_a_most_limbs h_a_one_limbs h_b1_stories_cells h_b1_tries_cells v_a_heaviest v_a_all_size v_a_most_size v_a_one_size v_b1_stories_rows v_b1_tries_rows f_a_all_limbs f_a_most_limbs f_a_one_limbs f_b1_stories_cells f_b1_tries_cells rec23 hrec23 (p.1, p.2.1, r4.1, p.2.2.2.1, r3.1, r4.2, p.2.2.2.2.2.2.1, r3.2)
    · refine j_aload_n (pc := 59) hC 0 rfl dX4_weighAll_59 ?_
      refine j_get (pc := 60) hC flRX4_21 0 rfl rfl dX4_weighAll_60 ?_
      refine j_aload_n (pc := 63) hC 0 rfl dX4_weighAll_63 ?_
      refine j_get (pc := 64) hC flRX4_12 0 rfl rfl dX4_weighAll_64 ?_
      refine j_callV (pc := 67) hC csRX4_63 [.ref h_a_one] (mX3_copyFrom (jl X) (jD X) (jy X) (jv X) h_a_most h_a_most_limbs h_a_one h_a_one_limbs p.2.2.2.1 r3.1 p.2.2.2.2.2.2.1 r3.2) [3, 4, 8, 9] rfl (by decide +kernel) 3 rfl ⟨_, _, rfl⟩ ⟨by decide, by decide, rfl, rfl, by decide, by decide⟩ rfl rfl (Nat.le_of_ble_eq_true rfl) dX4_weighAll_67 (jkv (fun r7 _ => (rfl : @Eq va_W _ [(h_a, .inr (4, [.ref h_a_one, .ref h_a_all, .ref h_a_most, .int p.2.1])), (h_b1, .inr (6, [.ref h_b1_arms, .ref h_b1_hooks, .ref h_b1_darts, .ref h_b1_stories, .ref h_b1_tries, .ref h_b1_people, .ref h_b1_praise, .ref h_b1_thorns, .ref h_b1_butts, .ref h_b1_play, .ref h_b1_sorts, .ref h_b1_layers, .ref h_b1_plan])), (h_a_all, .inr (3, [.ref h_a_all_limbs, .int r4.1])), (h_a_most, .inr (3, [.ref h_a_most_limbs, .int r7.1])), (h_a_one, .inr (3, [.ref h_a_one_limbs, .int r3.1])), (h_b1_stories, .inr (7, [.int (2 : Int32), .ref h_b1_stories_cells, .int v_b1_stories_rows])), (h_b1_tries, .inr (7, [.int (2 : Int32), .ref h_b1_tries_cells, .int v_b1_tries_rows])), (h_a_all_limbs, .inl (jy X 0, 6, .inl r4.2)), (h_a_most_limbs, .inl (jy X 0, 6, .inl r7.2)), (h_a_one_limbs, .inl (jy X 0, 6, .inl r3.2)), (h_b1_stories_cells, .inl (jy X 0, 8, .inl f_b1_stories_cells)), (h_b1_tries_cells, .inl (jy X 0, 2, .inl f_b1_tries_cells))])) (fun r7 => ?_))
      refine j_aload_n (pc := 70) hC 0 rfl dX4_weighAll_70 ?_
      refine j_iload_n (pc := 71) hC 2 rfl dX4_weighAll_71 ?_
      refine j_put (pc := 72) hC fpRX4_47 0 rfl rfl rfl (Nat.le_of_ble_eq_true rfl) dX4_weighAll_72 (ws' := [(h_a, .inr (4, [.ref h_a_one, .ref h_a_all, .ref h_a_most, .int p.1])), (h_b1, .inr (6, [.ref h_b1_arms, .ref h_b1_hooks, .ref h_b1_darts, .ref h_b1_stories, .ref h_b1_tries, .ref h_b1_people, .ref h_b1_praise, .ref h_b1_thorns, .ref h_b1_butts, .ref h_b1_play, .ref h_b1_sorts, .ref h_b1_layers, .ref h_b1_plan])), (h_a_all, .inr (3, [.ref h_a_all_limbs, .int r4.1])), (h_a_most, .inr (3, [.ref h_a_most_limbs, .int r7.1])), (h_a_one, .inr (3, [.ref h_a_one_limbs, .int r3.1])), (h_b1_stories, .inr (7, [.int (2 : Int32), .ref h_b1_stories_cells, .int v_b1_stories_rows])), (h_b1_tries, .inr (7, [.int (2 : Int32), .ref h_b1_tries_cells, .int v_b1_tries_rows])), (h_a_all_limbs, .inl (jy X 0, 6, .inl r4.2)), (h_a_most_limbs, .inl (jy X 0, 6, .inl r7.2)), (h_a_one_limbs, .inl (jy X 0, 6, .inl r3.2)), (h_b1_stories_cells, .inl (jy X 0, 8, .inl f_b1_stories_cells)), (h_b1_tries_cells, .inl (jy X 0, 2, .inl f_b1_tries_cells))]) rfl ?_
      exact jX4_weighAll_b75 hC u h_a h_a_one h_a_all h_a_most h_b1 h_b1_arms h_b1_hooks h_b1_darts h_b1_stories h_b1_tries h_b1_people h_b1_praise h_b1_thorns h_b1_butts h_b1_play h_b1_sorts h_b1_layers h_b1_plan h_a_all_limbs h_a_most_limbs h_a_one_limbs h_b1_stories_cells h_b1_tries_cells v_a_heaviest v_a_all_size v_a_most_size v_a_one_size v_b1_stories_rows v_b1_tries_rows f_a_all_limbs f_a_most_limbs f_a_one_limbs f_b1_stories_cells f_b1_tries_cells rec23 hrec23 (p.1, p.1, r4.1, r7.1, r3.1, r4.2, r7.2, r3.2)
set_option maxHeartbeats 4000000 in
set_option maxRecDepth 100000 in
theorem jX4_weighAll_b23 {X : jX} (hC : jC X cX4_weighAll 3 RX4 rX4_weighAll (some .boolean)) (u : Nat) (h_a h_a_one h_a_all h_a_most h_b1 h_b1_arms h_b1_hooks h_b1_darts h_b1_stories h_b1_tries h_b1_people h_b1_praise h_b1_thorns h_b1_butts h_b1_play h_b1_sorts h_b1_layers h_b1_plan h_a_all_limbs h_a_most_limbs h_a_one_limbs h_b1_stories_cells h_b1_tries_cells : Nat) (v_a_heaviest v_a_all_size v_a_most_size v_a_one_size v_b1_stories_rows v_b1_tries_rows : Int32) (f_a_all_limbs f_a_most_limbs f_a_one_limbs f_b1_stories_cells f_b1_tries_cells : Nat → Int32) (p : Int32 × Int32 × Int32 × Int32 × Int32 × (Nat → Int32) × (Nat → Int32) × (Nat → Int32)) : gX4_weighAll X h_a h_a_one h_a_all h_a_most h_b1 h_b1_arms h_b1_hooks h_b1_darts h_b1_stories h_b1_tries h_b1_people h_b1_praise h_b1_thorns h_b1_butts h_b1_play h_b1_sorts h_b1_layers h_b1_plan h_a_all_limbs h_a_most_limbs h_a_one_limbs h_b1_stories_cells h_b1_tries_cells v_a_heaviest v_a_all_size v_a_most_size v_a_one_size v_b1_stories_rows v_b1_tries_rows f_a_all_limbs f_a_most_limbs f_a_one_limbs f_b1_stories_cells f_b1_tries_cells 23 [(0, .ref h_a), (1, .ref h_b1), (2, .int p.1)] [] p.2.1 p.2.2.1 p.2.2.2.1 p.2.2.2.2.1 p.2.2.2.2.2.1 p.2.2.2.2.2.2.1 p.2.2.2.2.2.2.2 (jfix (fX4_weighAll_b23 u v_a_heaviest v_a_all_size v_a_most_size v_a_one_size v_b1_stories_rows v_b1_tries_rows f_a_all_limbs f_a_most_limbs f_a_one_limbs f_b1_stories_cells f_b1_tries_cells) u p) :=
  j_fix (fun rec23 hrec23 p => jX4_weighAll_b23_step hC u h_a h_a_one h_a_all h_a_most h_b1 h_b1_arms h_b1_hooks h_b1_darts h_b1_stories h_b1_tries h_b1_people h_b1_praise h_b1_thorns h_b1_butts h_b1_play h_b1_sorts h_b1_layers h_b1_plan h_a_all_limbs h_a_most_limbs h_a_one_limbs h_b1_stories_cells h_b1_tries_cells v_a_heaviest v_a_all_size v_a_most_size v_a_one_size v_b1_stories_rows v_b1_tries_rows f_a_all_limbs f_a_most_limbs f_a_one_limbs f_b1_stories_cells f_b1_tries_cells rec23 hrec23 p) u p
set_option maxHeartbeats 4000000 in
set_option maxRecDepth 100000 in
theorem jX4_weighAll {X : jX} (hC : jC X cX4_weighAll 3 RX4 rX4_weighAll (some .boolean)) (u : Nat) (h_a h_a_one h_a_all h_a_most h_b1 h_b1_arms h_b1_hooks h_b1_darts h_b1_stories h_b1_tries h_b1_people h_b1_praise h_b1_thorns h_b1_butts h_b1_play h_b1_sorts h_b1_layers h_b1_plan h_a_all_limbs h_a_most_limbs h_a_one_limbs h_b1_stories_cells h_b1_tries_cells : Nat) (v_a_heaviest v_a_all_size v_a_most_size v_a_one_size v_b1_stories_rows v_b1_tries_rows : Int32) (f_a_all_limbs f_a_most_limbs f_a_one_limbs f_b1_stories_cells f_b1_tries_cells : Nat → Int32) : gX4_weighAll X h_a h_a_one h_a_all h_a_most h_b1 h_b1_arms h_b1_hooks h_b1_darts h_b1_stories h_b1_tries h_b1_people h_b1_praise h_b1_thorns h_b1_butts h_b1_play h_b1_sorts h_b1_layers h_b1_plan h_a_all_limbs h_a_most_limbs h_a_one_limbs h_b1_stories_cells h_b1_tries_cells v_a_heaviest v_a_all_size v_a_most_size v_a_one_size v_b1_stories_rows v_b1_tries_rows f_a_all_limbs f_a_most_limbs f_a_one_limbs f_b1_stories_cells f_b1_tries_cells 0 [(0, .ref h_a), (1, .ref h_b1)] [] v_a_heaviest v_a_all_size v_a_most_size v_a_one_size f_a_all_limbs f_a_most_limbs f_a_one_limbs (fX4_weighAll u v_a_heaviest v_a_all_size v_a_most_size v_a_one_size v_b1_stories_rows v_b1_tries_rows f_a_all_limbs f_a_most_limbs f_a_one_limbs f_b1_stories_cells f_b1_tries_cells) := by
  unfold fX4_weighAll
  refine j_aload_n (pc := 0) hC 0 rfl dX4_weighAll_0 ?_
  refine j_get (pc := 1) hC flRX4_18 0 rfl rfl dX4_weighAll_1 ?_
  refine j_lconst (pc := 4) hC (v := (0 : Int64)) rfl dX4_weighAll_4 ?_
  refine j_callV (pc := 5) hC csRX4_39 [.long (0 : Int64)] (mX3_set (jl X) (jD X) (jy X) (jv X) u h_a_all h_a_all_limbs (0 : Int64) v_a_all_size f_a_all_limbs) [2, 7] rfl (by decide +kernel) 2 rfl ⟨_, _, rfl⟩ ⟨by decide, by decide, rfl, rfl, by decide, by decide⟩ rfl rfl (Nat.le_of_ble_eq_true rfl) dX4_weighAll_5 (jkv (fun r1 _ => (rfl : @Eq va_W _ [(h_a, .inr (4, [.ref h_a_one, .ref h_a_all, .ref h_a_most, .int v_a_heaviest])), (h_b1, .inr (6, [.ref h_b1_arms, .ref h_b1_hooks, .ref h_b1_darts, .ref h_b1_stories, .ref h_b1_tries, .ref h_b1_people, .ref h_b1_praise, .ref h_b1_thorns, .ref h_b1_butts, .ref h_b1_play, .ref h_b1_sorts, .ref h_b1_layers, .ref h_b1_plan])), (h_a_all, .inr (3, [.ref h_a_all_limbs, .int r1.1])), (h_a_most, .inr (3, [.ref h_a_most_limbs, .int v_a_most_size])), (h_a_one, .inr (3, [.ref h_a_one_limbs, .int v_a_one_size])), (h_b1_stories, .inr (7, [.int (2 : Int32), .ref h_b1_stories_cells, .int v_b1_stories_rows])), (h_b1_tries, .inr (7, [.int (2 : Int32), .ref h_b1_tries_cells, .int v_b1_tries_rows])), (h_a_all_limbs, .inl (jy X 0, 6, .inl r1.2)), (h_a_most_limbs, .inl (jy X 0, 6, .inl f_a_most_limbs)), (h_a_one_limbs, .inl (jy X 0, 6, .inl f_a_one_limbs)), (h_b1_stories_cells, .inl (jy X 0, 8, .inl f_b1_stories_cells)), (h_b1_tries_cells, .inl (jy X 0, 2, .inl f_b1_tries_cells))])) (fun r1 => ?_))
  refine j_aload_n (pc := 8) hC 0 rfl dX4_weighAll_8 ?_
  refine j_get (pc := 9) hC flRX4_21 0 rfl rfl dX4_weighAll_9 ?_
  refine j_lconst (pc := 12) hC (v := (0 : Int64)) rfl dX4_weighAll_12 ?_
  refine j_callV (pc := 13) hC csRX4_39 [.long (0 : Int64)] (mX3_set (jl X) (jD X) (jy X) (jv X) u h_a_most h_a_most_limbs (0 : Int64) v_a_most_size f_a_most_limbs) [3, 8] rfl (by decide +kernel) 3 rfl ⟨_, _, rfl⟩ ⟨by decide, by decide, rfl, rfl, by decide, by decide⟩ rfl rfl (Nat.le_of_ble_eq_true rfl) dX4_weighAll_13 (jkv (fun r2 _ => (rfl : @Eq va_W _ [(h_a, .inr (4, [.ref h_a_one, .ref h_a_all, .ref h_a_most, .int v_a_heaviest])), (h_b1, .inr (6, [.ref h_b1_arms, .ref h_b1_hooks, .ref h_b1_darts, .ref h_b1_stories, .ref h_b1_tries, .ref h_b1_people, .ref h_b1_praise, .ref h_b1_thorns, .ref h_b1_butts, .ref h_b1_play, .ref h_b1_sorts, .ref h_b1_layers, .ref h_b1_plan])), (h_a_all, .inr (3, [.ref h_a_all_limbs, .int r1.1])), (h_a_most, .inr (3, [.ref h_a_most_limbs, .int r2.1])), (h_a_one, .inr (3, [.ref h_a_one_limbs, .int v_a_one_size])), (h_b1_stories, .inr (7, [.int (2 : Int32), .ref h_b1_stories_cells, .int v_b1_stories_rows])), (h_b1_tries, .inr (7, [.int (2 : Int32), .ref h_b1_tries_cells, .int v_b1_tries_rows])), (h_a_all_limbs, .inl (jy X 0, 6, .inl r1.2)), (h_a_most_limbs, .inl (jy X 0, 6, .inl r2.2)), (h_a_one_limbs, .inl (jy X 0, 6, .inl f_a_one_limbs)), (h_b1_stories_cells, .inl (jy X 0, 8, .inl f_b1_stories_cells)), (h_b1_tries_cells, .inl (jy X 0, 2, .inl f_b1_tries_cells))])) (fun r2 => ?_))
  refine j_aload_n (pc := 16) hC 0 rfl dX4_weighAll_16 ?_
  refine j_iconst (pc := 17) hC ki_0 dX4_weighAll_17 ?_
  refine j_put (pc := 18) hC fpRX4_47 0 rfl rfl rfl (Nat.le_of_ble_eq_true rfl) dX4_weighAll_18 (ws' := [(h_a, .inr (4, [.ref h_a_one, .ref h_a_all, .ref h_a_most, .int (0 : Int32)])), (h_b1, .inr (6, [.ref h_b1_arms, .ref h_b1_hooks, .ref h_b1_darts, .ref h_b1_stories, .ref h_b1_tries, .ref h_b1_people, .ref h_b1_praise, .ref h_b1_thorns, .ref h_b1_butts, .ref h_b1_play, .ref h_b1_sorts, .ref h_b1_layers, .ref h_b1_plan])), (h_a_all, .inr (3, [.ref h_a_all_limbs, .int r1.1])), (h_a_most, .inr (3, [.ref h_a_most_limbs, .int r2.1])), (h_a_one, .inr (3, [.ref h_a_one_limbs, .int v_a_one_size])), (h_b1_stories, .inr (7, [.int (2 : Int32), .ref h_b1_stories_cells, .int v_b1_stories_rows])), (h_b1_tries, .inr (7, [.int (2 : Int32), .ref h_b1_tries_cells, .int v_b1_tries_rows])), (h_a_all_limbs, .inl (jy X 0, 6, .inl r1.2)), (h_a_most_limbs, .inl (jy X 0, 6, .inl r2.2)), (h_a_one_limbs, .inl (jy X 0, 6, .inl f_a_one_limbs)), (h_b1_stories_cells, .inl (jy X 0, 8, .inl f_b1_stories_cells)), (h_b1_tries_cells, .inl (jy X 0, 2, .inl f_b1_tries_cells))]) rfl ?_
  refine j_iconst (pc := 21) hC ki_0 dX4_weighAll_21 ?_
  refine j_istore_n (pc := 22) hC (lv' := [(2, .int (0 : Int32)), (0, .ref h_a), (1, .ref h_b1)]) rfl (by decide) dX4_weighAll_22 ?_
  refine j_lv (pc := 23) [1, 2, 0] rfl ?_
  exact jX4_weighAll_b23 hC u h_a h_a_one h_a_all h_a_most h_b1 h_b1_arms h_b1_hooks h_b1_darts h_b1_stories h_b1_tries h_b1_people h_b1_praise h_b1_thorns h_b1_butts h_b1_play h_b1_sorts h_b1_layers h_b1_plan h_a_all_limbs h_a_most_limbs h_a_one_limbs h_b1_stories_cells h_b1_tries_cells v_a_heaviest v_a_all_size v_a_most_size v_a_one_size v_b1_stories_rows v_b1_tries_rows f_a_all_limbs f_a_most_limbs f_a_one_limbs f_b1_stories_cells f_b1_tries_cells ((0 : Int32), (0 : Int32), r1.1, r2.1, v_a_one_size, r1.2, r2.2, f_a_one_limbs)
set_option maxHeartbeats 4000000 in
set_option maxRecDepth 100000 in
theorem mX4_weighAll (l : Launch) (D : va_G) (cy : Nat → ClassId) (ev : jE) (u : Nat) (h_a h_a_one h_a_all h_a_most h_b1 h_b1_arms h_b1_hooks h_b1_darts h_b1_stories h_b1_tries h_b1_people h_b1_praise h_b1_thorns h_b1_butts h_b1_play h_b1_sorts h_b1_layers h_b1_plan h_a_all_limbs h_a_most_limbs h_a_one_limbs h_b1_stories_cells h_b1_tries_cells : Nat) (v_a_heaviest v_a_all_size v_a_most_size v_a_one_size v_b1_stories_rows v_b1_tries_rows : Int32) (f_a_all_limbs f_a_most_limbs f_a_one_limbs f_b1_stories_cells f_b1_tries_cells : Nat → Int32) : jM l yX4_weighAll cX4_weighAll 3 (some .boolean) rX4_weighAll [.ref h_a, .ref h_b1] [(h_a, .inr (4, [.ref h_a_one, .ref h_a_all, .ref h_a_most, .int v_a_heaviest])), (h_b1, .inr (6, [.ref h_b1_arms, .ref h_b1_hooks, .ref h_b1_darts, .ref h_b1_stories, .ref h_b1_tries, .ref h_b1_people, .ref h_b1_praise, .ref h_b1_thorns, .ref h_b1_butts, .ref h_b1_play, .ref h_b1_sorts, .ref h_b1_layers, .ref h_b1_plan])), (h_a_all, .inr (3, [.ref h_a_all_limbs, .int v_a_all_size])), (h_a_most, .inr (3, [.ref h_a_most_limbs, .int v_a_most_size])), (h_a_one, .inr (3, [.ref h_a_one_limbs, .int v_a_one_size])), (h_b1_stories, .inr (7, [.int (2 : Int32), .ref h_b1_stories_cells, .int v_b1_stories_rows])), (h_b1_tries, .inr (7, [.int (2 : Int32), .ref h_b1_tries_cells, .int v_b1_tries_rows])), (h_a_all_limbs, .inl (cy 0, 6, .inl f_a_all_limbs)), (h_a_most_limbs, .inl (cy 0, 6, .inl f_a_most_limbs)), (h_a_one_limbs, .inl (cy 0, 6, .inl f_a_one_limbs)), (h_b1_stories_cells, .inl (cy 0, 8, .inl f_b1_stories_cells)), (h_b1_tries_cells, .inl (cy 0, 2, .inl f_b1_tries_cells))] (fun (r : Int32 × Int32 × Int32 × Int32 × Int32 × (Nat → Int32) × (Nat → Int32) × (Nat → Int32)) (_ : Nat → Nat) => [(h_a, .inr (4, [.ref h_a_one, .ref h_a_all, .ref h_a_most, .int r.2.1])), (h_b1, .inr (6, [.ref h_b1_arms, .ref h_b1_hooks, .ref h_b1_darts, .ref h_b1_stories, .ref h_b1_tries, .ref h_b1_people, .ref h_b1_praise, .ref h_b1_thorns, .ref h_b1_butts, .ref h_b1_play, .ref h_b1_sorts, .ref h_b1_layers, .ref h_b1_plan])), (h_a_all, .inr (3, [.ref h_a_all_limbs, .int r.2.2.1])), (h_a_most, .inr (3, [.ref h_a_most_limbs, .int r.2.2.2.1])), (h_a_one, .inr (3, [.ref h_a_one_limbs, .int r.2.2.2.2.1])), (h_b1_stories, .inr (7, [.int (2 : Int32), .ref h_b1_stories_cells, .int v_b1_stories_rows])), (h_b1_tries, .inr (7, [.int (2 : Int32), .ref h_b1_tries_cells, .int v_b1_tries_rows])), (h_a_all_limbs, .inl (cy 0, 6, .inl r.2.2.2.2.2.1)), (h_a_most_limbs, .inl (cy 0, 6, .inl r.2.2.2.2.2.2.1)), (h_a_one_limbs, .inl (cy 0, 6, .inl r.2.2.2.2.2.2.2)), (h_b1_stories_cells, .inl (cy 0, 8, .inl f_b1_stories_cells)), (h_b1_tries_cells, .inl (cy 0, 2, .inl f_b1_tries_cells))]) (fun (r : Int32 × Int32 × Int32 × Int32 × Int32 × (Nat → Int32) × (Nat → Int32) × (Nat → Int32)) => some (.int r.1)) (fX4_weighAll u v_a_heaviest v_a_all_size v_a_most_size v_a_one_size v_b1_stories_rows v_b1_tries_rows f_a_all_limbs f_a_most_limbs f_a_one_limbs f_b1_stories_cells f_b1_tries_cells) D cy ev := j_met RX4 (by decide +kernel) rfl (Nat.le_of_ble_eq_true rfl) (fun X hC _ hD hy hv => by subst hD; subst hy; subst hv; exact jX4_weighAll hC u h_a h_a_one h_a_all h_a_most h_b1 h_b1_arms h_b1_hooks h_b1_darts h_b1_stories h_b1_tries h_b1_people h_b1_praise h_b1_thorns h_b1_butts h_b1_play h_b1_sorts h_b1_layers h_b1_plan h_a_all_limbs h_a_most_limbs h_a_one_limbs h_b1_stories_cells h_b1_tries_cells v_a_heaviest v_a_all_size v_a_most_size v_a_one_size v_b1_stories_rows v_b1_tries_rows f_a_all_limbs f_a_most_limbs f_a_one_limbs f_b1_stories_cells f_b1_tries_cells)
abbrev gX8_within (X : jX) (p0 p1 p2 : Int32) (pc : Nat) (lv : List (Nat × Value)) (st : List Value) (e : Option (Int32)) : Prop := jJ (ρ := Int32) X 3 0 0 (jQf X 0 0 (fun (r : Int32) => some (.int r)) (fun (_ : Int32) (_ : Nat → Nat) => [])) pc lv st [] (e)
set_option maxHeartbeats 4000000 in
set_option maxRecDepth 100000 in
theorem jX8_within {X : jX} (hC : jC X cX8_within 3 RX8 rX8_within (some .boolean)) (p0 p1 p2 : Int32) : gX8_within X p0 p1 p2 0 [(0, .int p0), (1, .int p1), (2, .int p2)] [] (fX8_within p0 p1 p2) := by
  unfold fX8_within
  refine j_iload_n (pc := 0) hC 0 rfl dX8_within_0 ?_
  refine j_iload_n (pc := 1) hC 1 rfl dX8_within_1 ?_
  refine j_icmplt (pc := 2) hC 14 (by decide) dX8_within_2 ?_ ?_
  · refine j_iconst (pc := 14) hC ki_0 dX8_within_14 ?_
    exact j_zret (pc := 15) hC (fun _ => 0) (by decide) rfl rfl dX8_within_15
  · refine j_iload_n (pc := 5) hC 0 rfl dX8_within_5 ?_
    refine j_iload_n (pc := 6) hC 2 rfl dX8_within_6 ?_
    refine j_icmpgt (pc := 7) hC 14 (by decide) dX8_within_7 ?_ ?_
    · refine j_iconst (pc := 14) hC ki_0 dX8_within_14 ?_
      exact j_zret (pc := 15) hC (fun _ => 0) (by decide) rfl rfl dX8_within_15
    · refine j_iconst (pc := 10) hC ki_1 dX8_within_10 ?_
      refine j_goto (pc := 11) hC 15 (by decide) dX8_within_11 ?_
      exact j_zret (pc := 15) hC (fun _ => 0) (by decide) rfl rfl dX8_within_15
set_option maxHeartbeats 4000000 in
set_option maxRecDepth 100000 in
theorem mX8_within (l : Launch) (D : va_G) (cy : Nat → ClassId) (ev : jE) (p0 p1 p2 : Int32) : jM l yX8_within cX8_within 3 (some .boolean) rX8_within [.int p0, .int p1, .int p2] [] (fun (_ : Int32) (_ : Nat → Nat) => []) (fun (r : Int32) => some (.int r)) (fX8_within p0 p1 p2) D cy ev := j_met RX8 (by decide +kernel) rfl (Nat.le_of_ble_eq_true rfl) (fun X hC _ hD hy hv => by subst hD; subst hy; subst hv; exact jX8_within hC p0 p1 p2)
abbrev gX5_isLetter (X : jX) (p0 : Int32) (pc : Nat) (lv : List (Nat × Value)) (st : List Value) (e : Option (Int32)) : Prop := jJ (ρ := Int32) X 1 0 0 (jQf X 0 0 (fun (r : Int32) => some (.int r)) (fun (_ : Int32) (_ : Nat → Nat) => [])) pc lv st [] (e)
set_option maxHeartbeats 4000000 in
set_option maxRecDepth 100000 in
theorem jX5_isLetter {X : jX} (hC : jC X cX5_isLetter 1 RX5 rX5_isLetter (some .boolean)) (p0 : Int32) : gX5_isLetter X p0 0 [(0, .int p0)] [] (fX5_isLetter p0) := by
  unfold fX5_isLetter
  refine j_iload_n (pc := 0) hC 0 rfl dX5_isLetter_0 ?_
  refine j_bipush (pc := 1) hC kb_97 dX5_isLetter_1 ?_
  refine j_bipush (pc := 3) hC kb_122 dX5_isLetter_3 ?_
  refine j_callN (pc := 5) hC csRX5_116 [.int p0, .int (97 : Int32), .int (122 : Int32)] (mX8_within (jl X) (jD X) (jy X) (jv X) p0 (97 : Int32) (122 : Int32)) [] rfl (by decide +kernel) ⟨by decide, by decide, rfl, rfl, by decide, by decide⟩ rfl rfl (Nat.le_of_ble_eq_true rfl) dX5_isLetter_5 (jki0 (fun _ => rfl) (fun _ _ => rfl) (fun r1 => ?_))
  refine j_z (pc := 8) (fun z2 => ?_)
  exact j_zret (pc := 8) hC (fun _ => 0) z2 rfl rfl dX5_isLetter_8
set_option maxHeartbeats 4000000 in
set_option maxRecDepth 100000 in
theorem mX5_isLetter (l : Launch) (D : va_G) (cy : Nat → ClassId) (ev : jE) (p0 : Int32) : jM l yX5_isLetter cX5_isLetter 1 (some .boolean) rX5_isLetter [.int p0] [] (fun (_ : Int32) (_ : Nat → Nat) => []) (fun (r : Int32) => some (.int r)) (fX5_isLetter p0) D cy ev := j_met RX5 (by decide +kernel) rfl (Nat.le_of_ble_eq_true rfl) (fun X hC _ hD hy hv => by subst hD; subst hy; subst hv; exact jX5_isLetter hC p0)
abbrev gX5_readLetters (X : jX) (h_a h_a_throwsTold h_a_told h_b1 h_b1_cells : Nat) (v_a_itemsSeen v_a_at v_a_start v_a_token v_a_number v_b1_width v_b1_rows : Int32) (n_b1_cells : Nat) (f_b1_cells : Nat → Int32) (pc : Nat) (lv : List (Nat × Value)) (st : List Value) (w0 : Int32) (w1 : Int32) (e : Option (Int32 × Int32)) : Prop := jJ (ρ := Int32 × Int32) X 2 0 0 (jQf X 0 0 (fun (_ : Int32 × Int32) => none) (fun (r : Int32 × Int32) (_ : Nat → Nat) => [(h_a, .inr (5, [.ref h_a_throwsTold, .ref h_a_told, .int v_a_itemsSeen, .int r.1, .int v_a_start, .int r.2, .int v_a_number])), (h_b1, .inr (7, [.int v_b1_width, .ref h_b1_cells, .int v_b1_rows])), (h_b1_cells, .inl (jy X 0, n_b1_cells, .inl f_b1_cells))])) pc lv st [(h_a, .inr (5, [.ref h_a_throwsTold, .ref h_a_told, .int v_a_itemsSeen, .int w0, .int v_a_start, .int w1, .int v_a_number])), (h_b1, .inr (7, [.int v_b1_width, .ref h_b1_cells, .int v_b1_rows])), (h_b1_cells, .inl (jy X 0, n_b1_cells, .inl f_b1_cells))] (e)
set_option maxHeartbeats 4000000 in
set_option maxRecDepth 100000 in
theorem jX5_readLetters_b39 {X : jX} (hC : jC X cX5_readLetters 2 RX5 rX5_readLetters none) (u : Nat) (h_a h_a_throwsTold h_a_told h_b1 h_b1_cells : Nat) (v_a_itemsSeen v_a_at v_a_start v_a_token v_a_number v_b1_width v_b1_rows : Int32) (n_b1_cells : Nat) (f_b1_cells : Nat → Int32) (p : Int32 × Int32) : gX5_readLetters X h_a h_a_throwsTold h_a_told h_b1 h_b1_cells v_a_itemsSeen v_a_at v_a_start v_a_token v_a_number v_b1_width v_b1_rows n_b1_cells f_b1_cells 39 [(0, .ref h_a)] [] p.1 p.2 (fX5_readLetters_b39 u v_a_at v_a_token v_b1_width v_b1_rows n_b1_cells f_b1_cells p) := by
  unfold fX5_readLetters_b39
  refine j_aload_n (pc := 39) hC 0 rfl dX5_readLetters_39 ?_
  refine j_iconst (pc := 40) hC ki_1 dX5_readLetters_40 ?_
  refine j_put (pc := 41) hC fpRX5_38 0 rfl rfl rfl (Nat.le_of_ble_eq_true rfl) dX5_readLetters_41 (ws' := [(h_a, .inr (5, [.ref h_a_throwsTold, .ref h_a_told, .int v_a_itemsSeen, .int p.1, .int v_a_start, .int (1 : Int32), .int v_a_number])), (h_b1, .inr (7, [.int v_b1_width, .ref h_b1_cells, .int v_b1_rows])), (h_b1_cells, .inl (jy X 0, n_b1_cells, .inl f_b1_cells))]) rfl ?_
  exact j_vret (pc := 44) hC (fun _ => 0) rfl rfl dX5_readLetters_44
set_option maxHeartbeats 4000000 in
set_option maxRecDepth 100000 in
theorem jX5_readLetters_b0_step {X : jX} (hC : jC X cX5_readLetters 2 RX5 rX5_readLetters none) (u : Nat) (h_a h_a_throwsTold h_a_told h_b1 h_b1_cells : Nat) (v_a_itemsSeen v_a_at v_a_start v_a_token v_a_number v_b1_width v_b1_rows : Int32) (n_b1_cells : Nat) (f_b1_cells : Nat → Int32) (rec0 : (Int32 × Int32) → Option (Int32 × Int32)) (hrec0 : ∀ p : Int32 × Int32, gX5_readLetters X h_a h_a_throwsTold h_a_told h_b1 h_b1_cells v_a_itemsSeen v_a_at v_a_start v_a_token v_a_number v_b1_width v_b1_rows n_b1_cells f_b1_cells 0 [(0, .ref h_a), (1, .ref h_b1)] [] p.1 p.2 (rec0 p)) (p : Int32 × Int32) : gX5_readLetters X h_a h_a_throwsTold h_a_told h_b1 h_b1_cells v_a_itemsSeen v_a_at v_a_start v_a_token v_a_number v_b1_width v_b1_rows n_b1_cells f_b1_cells 0 [(0, .ref h_a), (1, .ref h_b1)] [] p.1 p.2 (fX5_readLetters_b0 u v_a_at v_a_token v_b1_width v_b1_rows n_b1_cells f_b1_cells rec0 p) := by
  unfold fX5_readLetters_b0
  refine j_aload_n (pc := 0) hC 0 rfl dX5_readLetters_0 ?_
  refine j_get (pc := 1) hC flRX5_31 0 rfl rfl dX5_readLetters_1 ?_
  refine j_aload_n (pc := 4) hC 1 rfl dX5_readLetters_4 ?_
  refine j_get (pc := 5) hC flRX5_24 1 rfl rfl dX5_readLetters_5 ?_
  refine j_icmpge (pc := 8) hC 39 (by decide) dX5_readLetters_8 ?_ ?_
  · refine j_lv (pc := 39) [0] rfl ?_
    exact jX5_readLetters_b39 hC u h_a h_a_throwsTold h_a_told h_b1 h_b1_cells v_a_itemsSeen v_a_at v_a_start v_a_token v_a_number v_b1_width v_b1_rows n_b1_cells f_b1_cells (p.1, p.2)
  · refine j_aload_n (pc := 11) hC 1 rfl dX5_readLetters_11 ?_
    refine j_aload_n (pc := 12) hC 0 rfl dX5_readLetters_12 ?_
    refine j_get (pc := 13) hC flRX5_31 0 rfl rfl dX5_readLetters_13 ?_
    refine j_iconst (pc := 16) hC ki_0 dX5_readLetters_16 ?_
    refine j_callV (pc := 17) hC csRX5_96 [.int p.1, .int (0 : Int32)] (mX7_cell (jl X) (jD X) (jy X) (jv X) h_b1 h_b1_cells p.1 (0 : Int32) v_b1_width v_b1_rows n_b1_cells f_b1_cells) [1, 2] rfl (by decide +kernel) 1 rfl ⟨_, _, rfl⟩ ⟨by decide, by decide, rfl, rfl, by decide, by decide⟩ rfl rfl (Nat.le_of_ble_eq_true rfl) dX5_readLetters_17 (jki0 (fun _ => rfl) (fun _ _ => rfl) (fun r1 => ?_))
    refine j_callS (pc := 20) hC csRX5_104 [.int r1] (mX5_isLetter (jl X) (jD X) (jy X) (jv X) r1) [] rfl (by decide +kernel) ⟨by decide, by decide, rfl, rfl, by decide, by decide⟩ rfl rfl (Nat.le_of_ble_eq_true rfl) dX5_readLetters_20 (jki0 (fun _ => rfl) (fun _ _ => rfl) (fun r2 => ?_))
    refine j_ifeq (pc := 23) hC 39 (by decide) dX5_readLetters_23 ?_ ?_
    · refine j_lv (pc := 39) [0] rfl ?_
      exact jX5_readLetters_b39 hC u h_a h_a_throwsTold h_a_told h_b1 h_b1_cells v_a_itemsSeen v_a_at v_a_start v_a_token v_a_number v_b1_width v_b1_rows n_b1_cells f_b1_cells (p.1, p.2)
    · refine j_aload_n (pc := 26) hC 0 rfl dX5_readLetters_26 ?_
      refine j_dup (pc := 27) hC rfl dX5_readLetters_27 ?_
      refine j_get (pc := 28) hC flRX5_31 0 rfl rfl dX5_readLetters_28 ?_
      refine j_iconst (pc := 31) hC ki_1 dX5_readLetters_31 ?_
      refine j_iadd (pc := 32) hC dX5_readLetters_32 ?_
      refine j_let (pc := 33) (fun x3 => ?_)
      refine j_put (pc := 33) hC fpRX5_31 0 rfl rfl rfl (Nat.le_of_ble_eq_true rfl) dX5_readLetters_33 (ws' := [(h_a, .inr (5, [.ref h_a_throwsTold, .ref h_a_told, .int v_a_itemsSeen, .int x3, .int v_a_start, .int p.2, .int v_a_number])), (h_b1, .inr (7, [.int v_b1_width, .ref h_b1_cells, .int v_b1_rows])), (h_b1_cells, .inl (jy X 0, n_b1_cells, .inl f_b1_cells))]) rfl ?_
      refine j_goto (pc := 36) hC 0 (by decide) dX5_readLetters_36 ?_
      exact hrec0 (x3, p.2)
set_option maxHeartbeats 4000000 in
set_option maxRecDepth 100000 in
theorem jX5_readLetters_b0 {X : jX} (hC : jC X cX5_readLetters 2 RX5 rX5_readLetters none) (u : Nat) (h_a h_a_throwsTold h_a_told h_b1 h_b1_cells : Nat) (v_a_itemsSeen v_a_at v_a_start v_a_token v_a_number v_b1_width v_b1_rows : Int32) (n_b1_cells : Nat) (f_b1_cells : Nat → Int32) (p : Int32 × Int32) : gX5_readLetters X h_a h_a_throwsTold h_a_told h_b1 h_b1_cells v_a_itemsSeen v_a_at v_a_start v_a_token v_a_number v_b1_width v_b1_rows n_b1_cells f_b1_cells 0 [(0, .ref h_a), (1, .ref h_b1)] [] p.1 p.2 (jfix (fX5_readLetters_b0 u v_a_at v_a_token v_b1_width v_b1_rows n_b1_cells f_b1_cells) u p) :=
  j_fix (fun rec0 hrec0 p => jX5_readLetters_b0_step hC u h_a h_a_throwsTold h_a_told h_b1 h_b1_cells v_a_itemsSeen v_a_at v_a_start v_a_token v_a_number v_b1_width v_b1_rows n_b1_cells f_b1_cells rec0 hrec0 p) u p
set_option maxHeartbeats 4000000 in
set_option maxRecDepth 100000 in
theorem jX5_readLetters {X : jX} (hC : jC X cX5_readLetters 2 RX5 rX5_readLetters none) (u : Nat) (h_a h_a_throwsTold h_a_told h_b1 h_b1_cells : Nat) (v_a_itemsSeen v_a_at v_a_start v_a_token v_a_number v_b1_width v_b1_rows : Int32) (n_b1_cells : Nat) (f_b1_cells : Nat → Int32) : gX5_readLetters X h_a h_a_throwsTold h_a_told h_b1 h_b1_cells v_a_itemsSeen v_a_at v_a_start v_a_token v_a_number v_b1_width v_b1_rows n_b1_cells f_b1_cells 0 [(0, .ref h_a), (1, .ref h_b1)] [] v_a_at v_a_token (fX5_readLetters u v_a_at v_a_token v_b1_width v_b1_rows n_b1_cells f_b1_cells) := by
  unfold fX5_readLetters
  exact jX5_readLetters_b0 hC u h_a h_a_throwsTold h_a_told h_b1 h_b1_cells v_a_itemsSeen v_a_at v_a_start v_a_token v_a_number v_b1_width v_b1_rows n_b1_cells f_b1_cells (v_a_at, v_a_token)
set_option maxHeartbeats 4000000 in
set_option maxRecDepth 100000 in
theorem mX5_readLetters (l : Launch) (D : va_G) (cy : Nat → ClassId) (ev : jE) (u : Nat) (h_a h_a_throwsTold h_a_told h_b1 h_b1_cells : Nat) (v_a_itemsSeen v_a_at v_a_start v_a_token v_a_number v_b1_width v_b1_rows : Int32) (n_b1_cells : Nat) (f_b1_cells : Nat → Int32) : jM l yX5_readLetters cX5_readLetters 2 none rX5_readLetters [.ref h_a, .ref h_b1] [(h_a, .inr (5, [.ref h_a_throwsTold, .ref h_a_told, .int v_a_itemsSeen, .int v_a_at, .int v_a_start, .int v_a_token, .int v_a_number])), (h_b1, .inr (7, [.int v_b1_width, .ref h_b1_cells, .int v_b1_rows])), (h_b1_cells, .inl (cy 0, n_b1_cells, .inl f_b1_cells))] (fun (r : Int32 × Int32) (_ : Nat → Nat) => [(h_a, .inr (5, [.ref h_a_throwsTold, .ref h_a_told, .int v_a_itemsSeen, .int r.1, .int v_a_start, .int r.2, .int v_a_number])), (h_b1, .inr (7, [.int v_b1_width, .ref h_b1_cells, .int v_b1_rows])), (h_b1_cells, .inl (cy 0, n_b1_cells, .inl f_b1_cells))]) (fun (_ : Int32 × Int32) => none) (fX5_readLetters u v_a_at v_a_token v_b1_width v_b1_rows n_b1_cells f_b1_cells) D cy ev := j_met RX5 (by decide +kernel) rfl (Nat.le_of_ble_eq_true rfl) (fun X hC _ hD hy hv => by subst hD; subst hy; subst hv; exact jX5_readLetters hC u h_a h_a_throwsTold h_a_told h_b1 h_b1_cells v_a_itemsSeen v_a_at v_a_start v_a_token v_a_number v_b1_width v_b1_rows n_b1_cells f_b1_cells)
abbrev gX5_isFigure (X : jX) (p0 : Int32) (pc : Nat) (lv : List (Nat × Value)) (st : List Value) (e : Option (Int32)) : Prop := jJ (ρ := Int32) X 1 0 0 (jQf X 0 0 (fun (r : Int32) => some (.int r)) (fun (_ : Int32) (_ : Nat → Nat) => [])) pc lv st [] (e)
set_option maxHeartbeats 4000000 in
set_option maxRecDepth 100000 in
theorem jX5_isFigure {X : jX} (hC : jC X cX5_isFigure 1 RX5 rX5_isFigure (some .boolean)) (p0 : Int32) : gX5_isFigure X p0 0 [(0, .int p0)] [] (fX5_isFigure p0) := by
  unfold fX5_isFigure
  refine j_iload_n (pc := 0) hC 0 rfl dX5_isFigure_0 ?_
  refine j_bipush (pc := 1) hC kb_48 dX5_isFigure_1 ?_
  refine j_bipush (pc := 3) hC kb_57 dX5_isFigure_3 ?_
  refine j_callN (pc := 5) hC csRX5_116 [.int p0, .int (48 : Int32), .int (57 : Int32)] (mX8_within (jl X) (jD X) (jy X) (jv X) p0 (48 : Int32) (57 : Int32)) [] rfl (by decide +kernel) ⟨by decide, by decide, rfl, rfl, by decide, by decide⟩ rfl rfl (Nat.le_of_ble_eq_true rfl) dX5_isFigure_5 (jki0 (fun _ => rfl) (fun _ _ => rfl) (fun r1 => ?_))
  refine j_z (pc := 8) (fun z2 => ?_)
  exact j_zret (pc := 8) hC (fun _ => 0) z2 rfl rfl dX5_isFigure_8
set_option maxHeartbeats 4000000 in
set_option maxRecDepth 100000 in
theorem mX5_isFigure (l : Launch) (D : va_G) (cy : Nat → ClassId) (ev : jE) (p0 : Int32) : jM l yX5_isFigure cX5_isFigure 1 (some .boolean) rX5_isFigure [.int p0] [] (fun (_ : Int32) (_ : Nat → Nat) => []) (fun (r : Int32) => some (.int r)) (fX5_isFigure p0) D cy ev := j_met RX5 (by decide +kernel) rfl (Nat.le_of_ble_eq_true rfl) (fun X hC _ hD hy hv => by subst hD; subst hy; subst hv; exact jX5_isFigure hC p0)
abbrev gX5_readFigures (X : jX) (h_a h_a_throwsTold h_a_told h_b1 h_b1_cells : Nat) (v_a_itemsSeen v_a_at v_a_start v_a_token v_a_number v_b1_width v_b1_rows : Int32) (n_b1_cells : Nat) (f_b1_cells : Nat → Int32) (pc : Nat) (lv : List (Nat × Value)) (st : List Value) (w0 : Int32) (w1 : Int32) (w2 : Int32) (e : Option (Int32 × Int32 × Int32)) : Prop := jJ (ρ := Int32 × Int32 × Int32) X 2 0 0 (jQf X 0 0 (fun (_ : Int32 × Int32 × Int32) => none) (fun (r : Int32 × Int32 × Int32) (_ : Nat → Nat) => [(h_a, .inr (5, [.ref h_a_throwsTold, .ref h_a_told, .int v_a_itemsSeen, .int r.1, .int v_a_start, .int r.2.1, .int r.2.2])), (h_b1, .inr (7, [.int v_b1_width, .ref h_b1_cells, .int v_b1_rows])), (h_b1_cells, .inl (jy X 0, n_b1_cells, .inl f_b1_cells))])) pc lv st [(h_a, .inr (5, [.ref h_a_throwsTold, .ref h_a_told, .int v_a_itemsSeen, .int w0, .int v_a_start, .int w1, .int w2])), (h_b1, .inr (7, [.int v_b1_width, .ref h_b1_cells, .int v_b1_rows])), (h_b1_cells, .inl (jy X 0, n_b1_cells, .inl f_b1_cells))] (e)
set_option maxHeartbeats 4000000 in
set_option maxRecDepth 100000 in
theorem jX5_readFigures_b81 {X : jX} (hC : jC X cX5_readFigures 2 RX5 rX5_readFigures none) (u : Nat) (h_a h_a_throwsTold h_a_told h_b1 h_b1_cells : Nat) (v_a_itemsSeen v_a_at v_a_start v_a_token v_a_number v_b1_width v_b1_rows : Int32) (n_b1_cells : Nat) (f_b1_cells : Nat → Int32) (p : Int32 × Int32 × Int32) : gX5_readFigures X h_a h_a_throwsTold h_a_told h_b1 h_b1_cells v_a_itemsSeen v_a_at v_a_start v_a_token v_a_number v_b1_width v_b1_rows n_b1_cells f_b1_cells 81 [(0, .ref h_a)] [] p.1 p.2.1 p.2.2 (fX5_readFigures_b81 u v_a_at v_a_start v_a_token v_a_number v_b1_width v_b1_rows n_b1_cells f_b1_cells p) := by
  unfold fX5_readFigures_b81
  refine j_aload_n (pc := 81) hC 0 rfl dX5_readFigures_81 ?_
  refine j_aload_n (pc := 82) hC 0 rfl dX5_readFigures_82 ?_
  refine j_get (pc := 83) hC flRX5_31 0 rfl rfl dX5_readFigures_83 ?_
  refine j_aload_n (pc := 86) hC 0 rfl dX5_readFigures_86 ?_
  refine j_get (pc := 87) hC flRX5_53 0 rfl rfl dX5_readFigures_87 ?_
  refine j_isub (pc := 90) hC dX5_readFigures_90 ?_
  refine j_iconst (pc := 91) hC ki_3 dX5_readFigures_91 ?_
  refine j_icmpgt (pc := 92) hC 99 (by decide) dX5_readFigures_92 ?_ ?_
  · refine j_iconst (pc := 99) hC ki_4 dX5_readFigures_99 ?_
    refine j_put (pc := 100) hC fpRX5_38 0 rfl rfl rfl (Nat.le_of_ble_eq_true rfl) dX5_readFigures_100 (ws' := [(h_a, .inr (5, [.ref h_a_throwsTold, .ref h_a_told, .int v_a_itemsSeen, .int p.1, .int v_a_start, .int (4 : Int32), .int p.2.2])), (h_b1, .inr (7, [.int v_b1_width, .ref h_b1_cells, .int v_b1_rows])), (h_b1_cells, .inl (jy X 0, n_b1_cells, .inl f_b1_cells))]) rfl ?_
    exact j_vret (pc := 103) hC (fun _ => 0) rfl rfl dX5_readFigures_103
  · refine j_iconst (pc := 95) hC ki_2 dX5_readFigures_95 ?_
    refine j_goto (pc := 96) hC 100 (by decide) dX5_readFigures_96 ?_
    refine j_put (pc := 100) hC fpRX5_38 0 rfl rfl rfl (Nat.le_of_ble_eq_true rfl) dX5_readFigures_100 (ws' := [(h_a, .inr (5, [.ref h_a_throwsTold, .ref h_a_told, .int v_a_itemsSeen, .int p.1, .int v_a_start, .int (2 : Int32), .int p.2.2])), (h_b1, .inr (7, [.int v_b1_width, .ref h_b1_cells, .int v_b1_rows])), (h_b1_cells, .inl (jy X 0, n_b1_cells, .inl f_b1_cells))]) rfl ?_
    exact j_vret (pc := 103) hC (fun _ => 0) rfl rfl dX5_readFigures_103
set_option maxHeartbeats 4000000 in
set_option maxRecDepth 100000 in
theorem jX5_readFigures_b68 {X : jX} (hC : jC X cX5_readFigures 2 RX5 rX5_readFigures none) (u : Nat) (h_a h_a_throwsTold h_a_told h_b1 h_b1_cells : Nat) (v_a_itemsSeen v_a_at v_a_start v_a_token v_a_number v_b1_width v_b1_rows : Int32) (n_b1_cells : Nat) (f_b1_cells : Nat → Int32) (rec5 : (Int32 × Int32 × Int32) → Option (Int32 × Int32 × Int32)) (hrec5 : ∀ p : Int32 × Int32 × Int32, gX5_readFigures X h_a h_a_throwsTold h_a_told h_b1 h_b1_cells v_a_itemsSeen v_a_at v_a_start v_a_token v_a_number v_b1_width v_b1_rows n_b1_cells f_b1_cells 5 [(0, .ref h_a), (1, .ref h_b1)] [] p.1 p.2.1 p.2.2 (rec5 p)) (p : Int32 × Int32 × Int32) : gX5_readFigures X h_a h_a_throwsTold h_a_told h_b1 h_b1_cells v_a_itemsSeen v_a_at v_a_start v_a_token v_a_number v_b1_width v_b1_rows n_b1_cells f_b1_cells 68 [(0, .ref h_a), (1, .ref h_b1)] [] p.1 p.2.1 p.2.2 (fX5_readFigures_b68 u v_a_at v_a_start v_a_token v_a_number v_b1_width v_b1_rows n_b1_cells f_b1_cells rec5 p) := by
  unfold fX5_readFigures_b68
  refine j_aload_n (pc := 68) hC 0 rfl dX5_readFigures_68 ?_
  refine j_dup (pc := 69) hC rfl dX5_readFigures_69 ?_
  refine j_get (pc := 70) hC flRX5_31 0 rfl rfl dX5_readFigures_70 ?_
  refine j_iconst (pc := 73) hC ki_1 dX5_readFigures_73 ?_
  refine j_iadd (pc := 74) hC dX5_readFigures_74 ?_
  refine j_let (pc := 75) (fun x3 => ?_)
  refine j_put (pc := 75) hC fpRX5_31 0 rfl rfl rfl (Nat.le_of_ble_eq_true rfl) dX5_readFigures_75 (ws' := [(h_a, .inr (5, [.ref h_a_throwsTold, .ref h_a_told, .int v_a_itemsSeen, .int x3, .int v_a_start, .int p.2.1, .int p.2.2])), (h_b1, .inr (7, [.int v_b1_width, .ref h_b1_cells, .int v_b1_rows])), (h_b1_cells, .inl (jy X 0, n_b1_cells, .inl f_b1_cells))]) rfl ?_
  refine j_goto (pc := 78) hC 5 (by decide) dX5_readFigures_78 ?_
  exact hrec5 (x3, p.2.1, p.2.2)
set_option maxHeartbeats 4000000 in
set_option maxRecDepth 100000 in
theorem jX5_readFigures_b5_step {X : jX} (hC : jC X cX5_readFigures 2 RX5 rX5_readFigures none) (u : Nat) (h_a h_a_throwsTold h_a_told h_b1 h_b1_cells : Nat) (v_a_itemsSeen v_a_at v_a_start v_a_token v_a_number v_b1_width v_b1_rows : Int32) (n_b1_cells : Nat) (f_b1_cells : Nat → Int32) (rec5 : (Int32 × Int32 × Int32) → Option (Int32 × Int32 × Int32)) (hrec5 : ∀ p : Int32 × Int32 × Int32, gX5_readFigures X h_a h_a_throwsTold h_a_told h_b1 h_b1_cells v_a_itemsSeen v_a_at v_a_start v_a_token v_a_number v_b1_width v_b1_rows n_b1_cells f_b1_cells 5 [(0, .ref h_a), (1, .ref h_b1)] [] p.1 p.2.1 p.2.2 (rec5 p)) (p : Int32 × Int32 × Int32) : gX5_readFigures X h_a h_a_throwsTold h_a_told h_b1 h_b1_cells v_a_itemsSeen v_a_at v_a_start v_a_token v_a_number v_b1_width v_b1_rows n_b1_cells f_b1_cells 5 [(0, .ref h_a), (1, .ref h_b1)] [] p.1 p.2.1 p.2.2 (fX5_readFigures_b5 u v_a_at v_a_start v_a_token v_a_number v_b1_width v_b1_rows n_b1_cells f_b1_cells rec5 p) := by
  unfold fX5_readFigures_b5
  refine j_aload_n (pc := 5) hC 0 rfl dX5_readFigures_5 ?_
  refine j_get (pc := 6) hC flRX5_31 0 rfl rfl dX5_readFigures_6 ?_
  refine j_aload_n (pc := 9) hC 1 rfl dX5_readFigures_9 ?_
  refine j_get (pc := 10) hC flRX5_24 1 rfl rfl dX5_readFigures_10 ?_
  refine j_icmpge (pc := 13) hC 81 (by decide) dX5_readFigures_13 ?_ ?_
  · refine j_lv (pc := 81) [0] rfl ?_
    exact jX5_readFigures_b81 hC u h_a h_a_throwsTold h_a_told h_b1 h_b1_cells v_a_itemsSeen v_a_at v_a_start v_a_token v_a_number v_b1_width v_b1_rows n_b1_cells f_b1_cells (p.1, p.2.1, p.2.2)
  · refine j_aload_n (pc := 16) hC 1 rfl dX5_readFigures_16 ?_
    refine j_aload_n (pc := 17) hC 0 rfl dX5_readFigures_17 ?_
    refine j_get (pc := 18) hC flRX5_31 0 rfl rfl dX5_readFigures_18 ?_
    refine j_iconst (pc := 21) hC ki_0 dX5_readFigures_21 ?_
    refine j_callV (pc := 22) hC csRX5_96 [.int p.1, .int (0 : Int32)] (mX7_cell (jl X) (jD X) (jy X) (jv X) h_b1 h_b1_cells p.1 (0 : Int32) v_b1_width v_b1_rows n_b1_cells f_b1_cells) [1, 2] rfl (by decide +kernel) 1 rfl ⟨_, _, rfl⟩ ⟨by decide, by decide, rfl, rfl, by decide, by decide⟩ rfl rfl (Nat.le_of_ble_eq_true rfl) dX5_readFigures_22 (jki0 (fun _ => rfl) (fun _ _ => rfl) (fun r1 => ?_))
    refine j_callS (pc := 25) hC csRX5_110 [.int r1] (mX5_isFigure (jl X) (jD X) (jy X) (jv X) r1) [] rfl (by decide +kernel) ⟨by decide, by decide, rfl, rfl, by decide, by decide⟩ rfl rfl (Nat.le_of_ble_eq_true rfl) dX5_readFigures_25 (jki0 (fun _ => rfl) (fun _ _ => rfl) (fun r2 => ?_))
    refine j_ifeq (pc := 28) hC 81 (by decide) dX5_readFigures_28 ?_ ?_
    · refine j_lv (pc := 81) [0] rfl ?_
      exact jX5_readFigures_b81 hC u h_a h_a_throwsTold h_a_told h_b1 h_b1_cells v_a_itemsSeen v_a_at v_a_start v_a_token v_a_number v_b1_width v_b1_rows n_b1_cells f_b1_cells (p.1, p.2.1, p.2.2)
    · refine j_aload_n (pc := 31) hC 0 rfl dX5_readFigures_31 ?_
      refine j_get (pc := 32) hC flRX5_31 0 rfl rfl dX5_readFigures_32 ?_
      refine j_aload_n (pc := 35) hC 0 rfl dX5_readFigures_35 ?_
      refine j_get (pc := 36) hC flRX5_53 0 rfl rfl dX5_readFigures_36 ?_
      refine j_isub (pc := 39) hC dX5_readFigures_39 ?_
      refine j_iconst (pc := 40) hC ki_3 dX5_readFigures_40 ?_
      refine j_icmpge (pc := 41) hC 68 (by decide) dX5_readFigures_41 ?_ ?_
      · exact jX5_readFigures_b68 hC u h_a h_a_throwsTold h_a_told h_b1 h_b1_cells v_a_itemsSeen v_a_at v_a_start v_a_token v_a_number v_b1_width v_b1_rows n_b1_cells f_b1_cells rec5 hrec5 (p.1, p.2.1, p.2.2)
      · refine j_aload_n (pc := 44) hC 0 rfl dX5_readFigures_44 ?_
        refine j_bipush (pc := 45) hC kb_10 dX5_readFigures_45 ?_
        refine j_aload_n (pc := 47) hC 0 rfl dX5_readFigures_47 ?_
        refine j_get (pc := 48) hC flRX5_67 0 rfl rfl dX5_readFigures_48 ?_
        refine j_imul (pc := 51) hC dX5_readFigures_51 ?_
        refine j_aload_n (pc := 52) hC 1 rfl dX5_readFigures_52 ?_
        refine j_aload_n (pc := 53) hC 0 rfl dX5_readFigures_53 ?_
        refine j_get (pc := 54) hC flRX5_31 0 rfl rfl dX5_readFigures_54 ?_
        refine j_iconst (pc := 57) hC ki_0 dX5_readFigures_57 ?_
        refine j_callV (pc := 58) hC csRX5_96 [.int p.1, .int (0 : Int32)] (mX7_cell (jl X) (jD X) (jy X) (jv X) h_b1 h_b1_cells p.1 (0 : Int32) v_b1_width v_b1_rows n_b1_cells f_b1_cells) [1, 2] rfl (by decide +kernel) 1 rfl ⟨_, _, rfl⟩ ⟨by decide, by decide, rfl, rfl, by decide, by decide⟩ rfl rfl (Nat.le_of_ble_eq_true rfl) dX5_readFigures_58 (jki0 (fun _ => rfl) (fun _ _ => rfl) (fun r4 => ?_))
        refine j_iadd (pc := 61) hC dX5_readFigures_61 ?_
        refine j_bipush (pc := 62) hC kb_48 dX5_readFigures_62 ?_
        refine j_isub (pc := 64) hC dX5_readFigures_64 ?_
        refine j_let (pc := 65) (fun x5 => ?_)
        refine j_put (pc := 65) hC fpRX5_67 0 rfl rfl rfl (Nat.le_of_ble_eq_true rfl) dX5_readFigures_65 (ws' := [(h_a, .inr (5, [.ref h_a_throwsTold, .ref h_a_told, .int v_a_itemsSeen, .int p.1, .int v_a_start, .int p.2.1, .int x5])), (h_b1, .inr (7, [.int v_b1_width, .ref h_b1_cells, .int v_b1_rows])), (h_b1_cells, .inl (jy X 0, n_b1_cells, .inl f_b1_cells))]) rfl ?_
        exact jX5_readFigures_b68 hC u h_a h_a_throwsTold h_a_told h_b1 h_b1_cells v_a_itemsSeen v_a_at v_a_start v_a_token v_a_number v_b1_width v_b1_rows n_b1_cells f_b1_cells rec5 hrec5 (p.1, p.2.1, x5)
set_option maxHeartbeats 4000000 in
set_option maxRecDepth 100000 in
theorem jX5_readFigures_b5 {X : jX} (hC : jC X cX5_readFigures 2 RX5 rX5_readFigures none) (u : Nat) (h_a h_a_throwsTold h_a_told h_b1 h_b1_cells : Nat) (v_a_itemsSeen v_a_at v_a_start v_a_token v_a_number v_b1_width v_b1_rows : Int32) (n_b1_cells : Nat) (f_b1_cells : Nat → Int32) (p : Int32 × Int32 × Int32) : gX5_readFigures X h_a h_a_throwsTold h_a_told h_b1 h_b1_cells v_a_itemsSeen v_a_at v_a_start v_a_token v_a_number v_b1_width v_b1_rows n_b1_cells f_b1_cells 5 [(0, .ref h_a), (1, .ref h_b1)] [] p.1 p.2.1 p.2.2 (jfix (fX5_readFigures_b5 u v_a_at v_a_start v_a_token v_a_number v_b1_width v_b1_rows n_b1_cells f_b1_cells) u p) :=
  j_fix (fun rec5 hrec5 p => jX5_readFigures_b5_step hC u h_a h_a_throwsTold h_a_told h_b1 h_b1_cells v_a_itemsSeen v_a_at v_a_start v_a_token v_a_number v_b1_width v_b1_rows n_b1_cells f_b1_cells rec5 hrec5 p) u p
set_option maxHeartbeats 4000000 in
set_option maxRecDepth 100000 in
theorem jX5_readFigures {X : jX} (hC : jC X cX5_readFigures 2 RX5 rX5_readFigures none) (u : Nat) (h_a h_a_throwsTold h_a_told h_b1 h_b1_cells : Nat) (v_a_itemsSeen v_a_at v_a_start v_a_token v_a_number v_b1_width v_b1_rows : Int32) (n_b1_cells : Nat) (f_b1_cells : Nat → Int32) : gX5_readFigures X h_a h_a_throwsTold h_a_told h_b1 h_b1_cells v_a_itemsSeen v_a_at v_a_start v_a_token v_a_number v_b1_width v_b1_rows n_b1_cells f_b1_cells 0 [(0, .ref h_a), (1, .ref h_b1)] [] v_a_at v_a_token v_a_number (fX5_readFigures u v_a_at v_a_start v_a_token v_a_number v_b1_width v_b1_rows n_b1_cells f_b1_cells) := by
  unfold fX5_readFigures
  refine j_aload_n (pc := 0) hC 0 rfl dX5_readFigures_0 ?_
  refine j_iconst (pc := 1) hC ki_0 dX5_readFigures_1 ?_
  refine j_put (pc := 2) hC fpRX5_67 0 rfl rfl rfl (Nat.le_of_ble_eq_true rfl) dX5_readFigures_2 (ws' := [(h_a, .inr (5, [.ref h_a_throwsTold, .ref h_a_told, .int v_a_itemsSeen, .int v_a_at, .int v_a_start, .int v_a_token, .int (0 : Int32)])), (h_b1, .inr (7, [.int v_b1_width, .ref h_b1_cells, .int v_b1_rows])), (h_b1_cells, .inl (jy X 0, n_b1_cells, .inl f_b1_cells))]) rfl ?_
  exact jX5_readFigures_b5 hC u h_a h_a_throwsTold h_a_told h_b1 h_b1_cells v_a_itemsSeen v_a_at v_a_start v_a_token v_a_number v_b1_width v_b1_rows n_b1_cells f_b1_cells (v_a_at, v_a_token, (0 : Int32))
set_option maxHeartbeats 4000000 in
set_option maxRecDepth 100000 in
theorem mX5_readFigures (l : Launch) (D : va_G) (cy : Nat → ClassId) (ev : jE) (u : Nat) (h_a h_a_throwsTold h_a_told h_b1 h_b1_cells : Nat) (v_a_itemsSeen v_a_at v_a_start v_a_token v_a_number v_b1_width v_b1_rows : Int32) (n_b1_cells : Nat) (f_b1_cells : Nat → Int32) : jM l yX5_readFigures cX5_readFigures 2 none rX5_readFigures [.ref h_a, .ref h_b1] [(h_a, .inr (5, [.ref h_a_throwsTold, .ref h_a_told, .int v_a_itemsSeen, .int v_a_at, .int v_a_start, .int v_a_token, .int v_a_number])), (h_b1, .inr (7, [.int v_b1_width, .ref h_b1_cells, .int v_b1_rows])), (h_b1_cells, .inl (cy 0, n_b1_cells, .inl f_b1_cells))] (fun (r : Int32 × Int32 × Int32) (_ : Nat → Nat) => [(h_a, .inr (5, [.ref h_a_throwsTold, .ref h_a_told, .int v_a_itemsSeen, .int r.1, .int v_a_start, .int r.2.1, .int r.2.2])), (h_b1, .inr (7, [.int v_b1_width, .ref h_b1_cells, .int v_b1_rows])), (h_b1_cells, .inl (cy 0, n_b1_cells, .inl f_b1_cells))]) (fun (_ : Int32 × Int32 × Int32) => none) (fX5_readFigures u v_a_at v_a_start v_a_token v_a_number v_b1_width v_b1_rows n_b1_cells f_b1_cells) D cy ev := j_met RX5 (by decide +kernel) rfl (Nat.le_of_ble_eq_true rfl) (fun X hC _ hD hy hv => by subst hD; subst hy; subst hv; exact jX5_readFigures hC u h_a h_a_throwsTold h_a_told h_b1 h_b1_cells v_a_itemsSeen v_a_at v_a_start v_a_token v_a_number v_b1_width v_b1_rows n_b1_cells f_b1_cells)
abbrev gX5_advance (X : jX) (h_a h_a_throwsTold h_a_told h_b1 h_b1_cells : Nat) (v_a_itemsSeen v_a_at v_a_start v_a_token v_a_number v_b1_width v_b1_rows : Int32) (n_b1_cells : Nat) (f_b1_cells : Nat → Int32) (pc : Nat) (lv : List (Nat × Value)) (st : List Value) (w0 : Int32) (w1 : Int32) (w2 : Int32) (w3 : Int32) (e : Option (Int32 × Int32 × Int32 × Int32)) : Prop := jJ (ρ := Int32 × Int32 × Int32 × Int32) X 2 0 0 (jQf X 0 0 (fun (_ : Int32 × Int32 × Int32 × Int32) => none) (fun (r : Int32 × Int32 × Int32 × Int32) (_ : Nat → Nat) => [(h_a, .inr (5, [.ref h_a_throwsTold, .ref h_a_told, .int v_a_itemsSeen, .int r.1, .int r.2.1, .int r.2.2.1, .int r.2.2.2])), (h_b1, .inr (7, [.int v_b1_width, .ref h_b1_cells, .int v_b1_rows])), (h_b1_cells, .inl (jy X 0, n_b1_cells, .inl f_b1_cells))])) pc lv st [(h_a, .inr (5, [.ref h_a_throwsTold, .ref h_a_told, .int v_a_itemsSeen, .int w0, .int w1, .int w2, .int w3])), (h_b1, .inr (7, [.int v_b1_width, .ref h_b1_cells, .int v_b1_rows])), (h_b1_cells, .inl (jy X 0, n_b1_cells, .inl f_b1_cells))] (e)
set_option maxHeartbeats 4000000 in
set_option maxRecDepth 100000 in
theorem jX5_advance_b131 {X : jX} (hC : jC X cX5_advance 2 RX5 rX5_advance none) (u : Nat) (h_a h_a_throwsTold h_a_told h_b1 h_b1_cells : Nat) (v_a_itemsSeen v_a_at v_a_start v_a_token v_a_number v_b1_width v_b1_rows : Int32) (n_b1_cells : Nat) (f_b1_cells : Nat → Int32) (p : Int32 × Int32 × Int32 × Int32 × Int32) : gX5_advance X h_a h_a_throwsTold h_a_told h_b1 h_b1_cells v_a_itemsSeen v_a_at v_a_start v_a_token v_a_number v_b1_width v_b1_rows n_b1_cells f_b1_cells 131 [(0, .ref h_a)] [.int p.1, .ref h_a] p.2.1 p.2.2.1 p.2.2.2.1 p.2.2.2.2 (fX5_advance_b131 u v_a_at v_a_start v_a_token v_a_number v_b1_width v_b1_rows n_b1_cells f_b1_cells p) := by
  unfold fX5_advance_b131
  refine j_put (pc := 131) hC fpRX5_38 0 rfl rfl rfl (Nat.le_of_ble_eq_true rfl) dX5_advance_131 (ws' := [(h_a, .inr (5, [.ref h_a_throwsTold, .ref h_a_told, .int v_a_itemsSeen, .int p.2.1, .int p.2.2.1, .int p.1, .int p.2.2.2.2])), (h_b1, .inr (7, [.int v_b1_width, .ref h_b1_cells, .int v_b1_rows])), (h_b1_cells, .inl (jy X 0, n_b1_cells, .inl f_b1_cells))]) rfl ?_
  refine j_aload_n (pc := 134) hC 0 rfl dX5_advance_134 ?_
  refine j_dup (pc := 135) hC rfl dX5_advance_135 ?_
  refine j_get (pc := 136) hC flRX5_31 0 rfl rfl dX5_advance_136 ?_
  refine j_iconst (pc := 139) hC ki_1 dX5_advance_139 ?_
  refine j_iadd (pc := 140) hC dX5_advance_140 ?_
  refine j_let (pc := 141) (fun x6 => ?_)
  refine j_put (pc := 141) hC fpRX5_31 0 rfl rfl rfl (Nat.le_of_ble_eq_true rfl) dX5_advance_141 (ws' := [(h_a, .inr (5, [.ref h_a_throwsTold, .ref h_a_told, .int v_a_itemsSeen, .int x6, .int p.2.2.1, .int p.1, .int p.2.2.2.2])), (h_b1, .inr (7, [.int v_b1_width, .ref h_b1_cells, .int v_b1_rows])), (h_b1_cells, .inl (jy X 0, n_b1_cells, .inl f_b1_cells))]) rfl ?_
  exact j_vret (pc := 144) hC (fun _ => 0) rfl rfl dX5_advance_144
set_option maxHeartbeats 4000000 in
set_option maxRecDepth 100000 in
theorem jX5_advance_b38 {X : jX} (hC : jC X cX5_advance 2 RX5 rX5_advance none) (u : Nat) (h_a h_a_throwsTold h_a_told h_b1 h_b1_cells : Nat) (v_a_itemsSeen v_a_at v_a_start v_a_token v_a_number v_b1_width v_b1_rows : Int32) (n_b1_cells : Nat) (f_b1_cells : Nat → Int32) (p : Int32 × Int32 × Int32 × Int32) : gX5_advance X h_a h_a_throwsTold h_a_told h_b1 h_b1_cells v_a_itemsSeen v_a_at v_a_start v_a_token v_a_number v_b1_width v_b1_rows n_b1_cells f_b1_cells 38 [(0, .ref h_a), (1, .ref h_b1)] [] p.1 p.2.1 p.2.2.1 p.2.2.2 (fX5_advance_b38 u v_a_at v_a_start v_a_token v_a_number v_b1_width v_b1_rows n_b1_cells f_b1_cells p) := by
  unfold fX5_advance_b38
  refine j_aload_n (pc := 38) hC 0 rfl dX5_advance_38 ?_
  refine j_aload_n (pc := 39) hC 0 rfl dX5_advance_39 ?_
  refine j_get (pc := 40) hC flRX5_31 0 rfl rfl dX5_advance_40 ?_
  refine j_put (pc := 43) hC fpRX5_53 0 rfl rfl rfl (Nat.le_of_ble_eq_true rfl) dX5_advance_43 (ws' := [(h_a, .inr (5, [.ref h_a_throwsTold, .ref h_a_told, .int v_a_itemsSeen, .int p.1, .int p.1, .int p.2.2.1, .int p.2.2.2])), (h_b1, .inr (7, [.int v_b1_width, .ref h_b1_cells, .int v_b1_rows])), (h_b1_cells, .inl (jy X 0, n_b1_cells, .inl f_b1_cells))]) rfl ?_
  refine j_aload_n (pc := 46) hC 0 rfl dX5_advance_46 ?_
  refine j_get (pc := 47) hC flRX5_31 0 rfl rfl dX5_advance_47 ?_
  refine j_aload_n (pc := 50) hC 1 rfl dX5_advance_50 ?_
  refine j_get (pc := 51) hC flRX5_24 1 rfl rfl dX5_advance_51 ?_
  refine j_icmplt (pc := 54) hC 65 (by decide) dX5_advance_54 ?_ ?_
  · refine j_aload_n (pc := 65) hC 1 rfl dX5_advance_65 ?_
    refine j_aload_n (pc := 66) hC 0 rfl dX5_advance_66 ?_
    refine j_get (pc := 67) hC flRX5_31 0 rfl rfl dX5_advance_67 ?_
    refine j_iconst (pc := 70) hC ki_0 dX5_advance_70 ?_
    refine j_callV (pc := 71) hC csRX5_96 [.int p.1, .int (0 : Int32)] (mX7_cell (jl X) (jD X) (jy X) (jv X) h_b1 h_b1_cells p.1 (0 : Int32) v_b1_width v_b1_rows n_b1_cells f_b1_cells) [1, 2] rfl (by decide +kernel) 1 rfl ⟨_, _, rfl⟩ ⟨by decide, by decide, rfl, rfl, by decide, by decide⟩ rfl rfl (Nat.le_of_ble_eq_true rfl) dX5_advance_71 (jki0 (fun _ => rfl) (fun _ _ => rfl) (fun r1 => ?_))
    refine j_callS (pc := 74) hC csRX5_104 [.int r1] (mX5_isLetter (jl X) (jD X) (jy X) (jv X) r1) [] rfl (by decide +kernel) ⟨by decide, by decide, rfl, rfl, by decide, by decide⟩ rfl rfl (Nat.le_of_ble_eq_true rfl) dX5_advance_74 (jki0 (fun _ => rfl) (fun _ _ => rfl) (fun r2 => ?_))
    refine j_ifeq (pc := 77) hC 88 (by decide) dX5_advance_77 ?_ ?_
    · refine j_aload_n (pc := 88) hC 1 rfl dX5_advance_88 ?_
      refine j_aload_n (pc := 89) hC 0 rfl dX5_advance_89 ?_
      refine j_get (pc := 90) hC flRX5_31 0 rfl rfl dX5_advance_90 ?_
      refine j_iconst (pc := 93) hC ki_0 dX5_advance_93 ?_
      refine j_callV (pc := 94) hC csRX5_96 [.int p.1, .int (0 : Int32)] (mX7_cell (jl X) (jD X) (jy X) (jv X) h_b1 h_b1_cells p.1 (0 : Int32) v_b1_width v_b1_rows n_b1_cells f_b1_cells) [1, 2] rfl (by decide +kernel) 1 rfl ⟨_, _, rfl⟩ ⟨by decide, by decide, rfl, rfl, by decide, by decide⟩ rfl rfl (Nat.le_of_ble_eq_true rfl) dX5_advance_94 (jki0 (fun _ => rfl) (fun _ _ => rfl) (fun r3 => ?_))
      refine j_callS (pc := 97) hC csRX5_110 [.int r3] (mX5_isFigure (jl X) (jD X) (jy X) (jv X) r3) [] rfl (by decide +kernel) ⟨by decide, by decide, rfl, rfl, by decide, by decide⟩ rfl rfl (Nat.le_of_ble_eq_true rfl) dX5_advance_97 (jki0 (fun _ => rfl) (fun _ _ => rfl) (fun r4 => ?_))
      refine j_ifeq (pc := 100) hC 111 (by decide) dX5_advance_100 ?_ ?_
      · refine j_aload_n (pc := 111) hC 0 rfl dX5_advance_111 ?_
        refine j_aload_n (pc := 112) hC 1 rfl dX5_advance_112 ?_
        refine j_aload_n (pc := 113) hC 0 rfl dX5_advance_113 ?_
        refine j_get (pc := 114) hC flRX5_31 0 rfl rfl dX5_advance_114 ?_
        refine j_iconst (pc := 117) hC ki_0 dX5_advance_117 ?_
        refine j_callV (pc := 118) hC csRX5_96 [.int p.1, .int (0 : Int32)] (mX7_cell (jl X) (jD X) (jy X) (jv X) h_b1 h_b1_cells p.1 (0 : Int32) v_b1_width v_b1_rows n_b1_cells f_b1_cells) [1, 2] rfl (by decide +kernel) 1 rfl ⟨_, _, rfl⟩ ⟨by decide, by decide, rfl, rfl, by decide, by decide⟩ rfl rfl (Nat.le_of_ble_eq_true rfl) dX5_advance_118 (jki0 (fun _ => rfl) (fun _ _ => rfl) (fun r5 => ?_))
        refine j_bipush (pc := 121) hC kb_59 dX5_advance_121 ?_
        refine j_icmpne (pc := 123) hC 130 (by decide) dX5_advance_123 ?_ ?_
        · refine j_iconst (pc := 130) hC ki_4 dX5_advance_130 ?_
          refine j_lv (pc := 131) [0] rfl ?_
          exact jX5_advance_b131 hC u h_a h_a_throwsTold h_a_told h_b1 h_b1_cells v_a_itemsSeen v_a_at v_a_start v_a_token v_a_number v_b1_width v_b1_rows n_b1_cells f_b1_cells ((4 : Int32), p.1, p.1, p.2.2.1, p.2.2.2)
        · refine j_iconst (pc := 126) hC ki_3 dX5_advance_126 ?_
          refine j_goto (pc := 127) hC 131 (by decide) dX5_advance_127 ?_
          refine j_lv (pc := 131) [0] rfl ?_
          exact jX5_advance_b131 hC u h_a h_a_throwsTold h_a_told h_b1 h_b1_cells v_a_itemsSeen v_a_at v_a_start v_a_token v_a_number v_b1_width v_b1_rows n_b1_cells f_b1_cells ((3 : Int32), p.1, p.1, p.2.2.1, p.2.2.2)
      · refine j_aload_n (pc := 103) hC 0 rfl dX5_advance_103 ?_
        refine j_aload_n (pc := 104) hC 1 rfl dX5_advance_104 ?_
        refine j_callV (pc := 105) hC csRX5_113 [.ref h_b1] (mX5_readFigures (jl X) (jD X) (jy X) (jv X) u h_a h_a_throwsTold h_a_told h_b1 h_b1_cells v_a_itemsSeen p.1 p.1 p.2.2.1 p.2.2.2 v_b1_width v_b1_rows n_b1_cells f_b1_cells) [0, 1, 2] rfl (by decide +kernel) 0 rfl ⟨_, _, rfl⟩ ⟨by decide, by decide, rfl, rfl, by decide, by decide⟩ rfl rfl (Nat.le_of_ble_eq_true rfl) dX5_advance_105 (jkv (fun r7 _ => (rfl : @Eq va_W _ [(h_a, .inr (5, [.ref h_a_throwsTold, .ref h_a_told, .int v_a_itemsSeen, .int r7.1, .int p.1, .int r7.2.1, .int r7.2.2])), (h_b1, .inr (7, [.int v_b1_width, .ref h_b1_cells, .int v_b1_rows])), (h_b1_cells, .inl (jy X 0, n_b1_cells, .inl f_b1_cells))])) (fun r7 => ?_))
        refine j_goto (pc := 108) hC 144 (by decide) dX5_advance_108 ?_
        exact j_vret (pc := 144) hC (fun _ => 0) rfl rfl dX5_advance_144
    · refine j_aload_n (pc := 80) hC 0 rfl dX5_advance_80 ?_
      refine j_aload_n (pc := 81) hC 1 rfl dX5_advance_81 ?_
      refine j_callV (pc := 82) hC csRX5_107 [.ref h_b1] (mX5_readLetters (jl X) (jD X) (jy X) (jv X) u h_a h_a_throwsTold h_a_told h_b1 h_b1_cells v_a_itemsSeen p.1 p.1 p.2.2.1 p.2.2.2 v_b1_width v_b1_rows n_b1_cells f_b1_cells) [0, 1, 2] rfl (by decide +kernel) 0 rfl ⟨_, _, rfl⟩ ⟨by decide, by decide, rfl, rfl, by decide, by decide⟩ rfl rfl (Nat.le_of_ble_eq_true rfl) dX5_advance_82 (jkv (fun r8 _ => (rfl : @Eq va_W _ [(h_a, .inr (5, [.ref h_a_throwsTold, .ref h_a_told, .int v_a_itemsSeen, .int r8.1, .int p.1, .int r8.2, .int p.2.2.2])), (h_b1, .inr (7, [.int v_b1_width, .ref h_b1_cells, .int v_b1_rows])), (h_b1_cells, .inl (jy X 0, n_b1_cells, .inl f_b1_cells))])) (fun r8 => ?_))
      refine j_goto (pc := 85) hC 144 (by decide) dX5_advance_85 ?_
      exact j_vret (pc := 144) hC (fun _ => 0) rfl rfl dX5_advance_144
  · refine j_aload_n (pc := 57) hC 0 rfl dX5_advance_57 ?_
    refine j_iconst (pc := 58) hC ki_0 dX5_advance_58 ?_
    refine j_put (pc := 59) hC fpRX5_38 0 rfl rfl rfl (Nat.le_of_ble_eq_true rfl) dX5_advance_59 (ws' := [(h_a, .inr (5, [.ref h_a_throwsTold, .ref h_a_told, .int v_a_itemsSeen, .int p.1, .int p.1, .int (0 : Int32), .int p.2.2.2])), (h_b1, .inr (7, [.int v_b1_width, .ref h_b1_cells, .int v_b1_rows])), (h_b1_cells, .inl (jy X 0, n_b1_cells, .inl f_b1_cells))]) rfl ?_
    refine j_goto (pc := 62) hC 144 (by decide) dX5_advance_62 ?_
    exact j_vret (pc := 144) hC (fun _ => 0) rfl rfl dX5_advance_144
set_option maxHeartbeats 4000000 in
set_option maxRecDepth 100000 in
theorem jX5_advance_b0_step {X : jX} (hC : jC X cX5_advance 2 RX5 rX5_advance none) (u : Nat) (h_a h_a_throwsTold h_a_told h_b1 h_b1_cells : Nat) (v_a_itemsSeen v_a_at v_a_start v_a_token v_a_number v_b1_width v_b1_rows : Int32) (n_b1_cells : Nat) (f_b1_cells : Nat → Int32) (rec0 : (Int32 × Int32 × Int32 × Int32) → Option (Int32 × Int32 × Int32 × Int32)) (hrec0 : ∀ p : Int32 × Int32 × Int32 × Int32, gX5_advance X h_a h_a_throwsTold h_a_told h_b1 h_b1_cells v_a_itemsSeen v_a_at v_a_start v_a_token v_a_number v_b1_width v_b1_rows n_b1_cells f_b1_cells 0 [(0, .ref h_a), (1, .ref h_b1)] [] p.1 p.2.1 p.2.2.1 p.2.2.2 (rec0 p)) (p : Int32 × Int32 × Int32 × Int32) : gX5_advance X h_a h_a_throwsTold h_a_told h_b1 h_b1_cells v_a_itemsSeen v_a_at v_a_start v_a_token v_a_number v_b1_width v_b1_rows n_b1_cells f_b1_cells 0 [(0, .ref h_a), (1, .ref h_b1)] [] p.1 p.2.1 p.2.2.1 p.2.2.2 (fX5_advance_b0 u v_a_at v_a_start v_a_token v_a_number v_b1_width v_b1_rows n_b1_cells f_b1_cells rec0 p) := by
  unfold fX5_advance_b0
  refine j_aload_n (pc := 0) hC 0 rfl dX5_advance_0 ?_
  refine j_get (pc := 1) hC flRX5_31 0 rfl rfl dX5_advance_1 ?_
  refine j_aload_n (pc := 4) hC 1 rfl dX5_advance_4 ?_
  refine j_get (pc := 5) hC flRX5_24 1 rfl rfl dX5_advance_5 ?_
  refine j_icmpge (pc := 8) hC 38 (by decide) dX5_advance_8 ?_ ?_
  · exact jX5_advance_b38 hC u h_a h_a_throwsTold h_a_told h_b1 h_b1_cells v_a_itemsSeen v_a_at v_a_start v_a_token v_a_number v_b1_width v_b1_rows n_b1_cells f_b1_cells (p.1, p.2.1, p.2.2.1, p.2.2.2)
  · refine j_aload_n (pc := 11) hC 1 rfl dX5_advance_11 ?_
    refine j_aload_n (pc := 12) hC 0 rfl dX5_advance_12 ?_
    refine j_get (pc := 13) hC flRX5_31 0 rfl rfl dX5_advance_13 ?_
    refine j_iconst (pc := 16) hC ki_0 dX5_advance_16 ?_
    refine j_callV (pc := 17) hC csRX5_96 [.int p.1, .int (0 : Int32)] (mX7_cell (jl X) (jD X) (jy X) (jv X) h_b1 h_b1_cells p.1 (0 : Int32) v_b1_width v_b1_rows n_b1_cells f_b1_cells) [1, 2] rfl (by decide +kernel) 1 rfl ⟨_, _, rfl⟩ ⟨by decide, by decide, rfl, rfl, by decide, by decide⟩ rfl rfl (Nat.le_of_ble_eq_true rfl) dX5_advance_17 (jki0 (fun _ => rfl) (fun _ _ => rfl) (fun r9 => ?_))
    refine j_bipush (pc := 20) hC kb_32 dX5_advance_20 ?_
    refine j_icmpne (pc := 22) hC 38 (by decide) dX5_advance_22 ?_ ?_
    · exact jX5_advance_b38 hC u h_a h_a_throwsTold h_a_told h_b1 h_b1_cells v_a_itemsSeen v_a_at v_a_start v_a_token v_a_number v_b1_width v_b1_rows n_b1_cells f_b1_cells (p.1, p.2.1, p.2.2.1, p.2.2.2)
    · refine j_aload_n (pc := 25) hC 0 rfl dX5_advance_25 ?_
      refine j_dup (pc := 26) hC rfl dX5_advance_26 ?_
      refine j_get (pc := 27) hC flRX5_31 0 rfl rfl dX5_advance_27 ?_
      refine j_iconst (pc := 30) hC ki_1 dX5_advance_30 ?_
      refine j_iadd (pc := 31) hC dX5_advance_31 ?_
      refine j_let (pc := 32) (fun x10 => ?_)
      refine j_put (pc := 32) hC fpRX5_31 0 rfl rfl rfl (Nat.le_of_ble_eq_true rfl) dX5_advance_32 (ws' := [(h_a, .inr (5, [.ref h_a_throwsTold, .ref h_a_told, .int v_a_itemsSeen, .int x10, .int p.2.1, .int p.2.2.1, .int p.2.2.2])), (h_b1, .inr (7, [.int v_b1_width, .ref h_b1_cells, .int v_b1_rows])), (h_b1_cells, .inl (jy X 0, n_b1_cells, .inl f_b1_cells))]) rfl ?_
      refine j_goto (pc := 35) hC 0 (by decide) dX5_advance_35 ?_
      exact hrec0 (x10, p.2.1, p.2.2.1, p.2.2.2)
set_option maxHeartbeats 4000000 in
set_option maxRecDepth 100000 in
theorem jX5_advance_b0 {X : jX} (hC : jC X cX5_advance 2 RX5 rX5_advance none) (u : Nat) (h_a h_a_throwsTold h_a_told h_b1 h_b1_cells : Nat) (v_a_itemsSeen v_a_at v_a_start v_a_token v_a_number v_b1_width v_b1_rows : Int32) (n_b1_cells : Nat) (f_b1_cells : Nat → Int32) (p : Int32 × Int32 × Int32 × Int32) : gX5_advance X h_a h_a_throwsTold h_a_told h_b1 h_b1_cells v_a_itemsSeen v_a_at v_a_start v_a_token v_a_number v_b1_width v_b1_rows n_b1_cells f_b1_cells 0 [(0, .ref h_a), (1, .ref h_b1)] [] p.1 p.2.1 p.2.2.1 p.2.2.2 (jfix (fX5_advance_b0 u v_a_at v_a_start v_a_token v_a_number v_b1_width v_b1_rows n_b1_cells f_b1_cells) u p) :=
  j_fix (fun rec0 hrec0 p => jX5_advance_b0_step hC u h_a h_a_throwsTold h_a_told h_b1 h_b1_cells v_a_itemsSeen v_a_at v_a_start v_a_token v_a_number v_b1_width v_b1_rows n_b1_cells f_b1_cells rec0 hrec0 p) u p
set_option maxHeartbeats 4000000 in
set_option maxRecDepth 100000 in
theorem jX5_advance {X : jX} (hC : jC X cX5_advance 2 RX5 rX5_advance none) (u : Nat) (h_a h_a_throwsTold h_a_told h_b1 h_b1_cells : Nat) (v_a_itemsSeen v_a_at v_a_start v_a_token v_a_number v_b1_width v_b1_rows : Int32) (n_b1_cells : Nat) (f_b1_cells : Nat → Int32) : gX5_advance X h_a h_a_throwsTold h_a_told h_b1 h_b1_cells v_a_itemsSeen v_a_at v_a_start v_a_token v_a_number v_b1_width v_b1_rows n_b1_cells f_b1_cells 0 [(0, .ref h_a), (1, .ref h_b1)] [] v_a_at v_a_start v_a_token v_a_number (fX5_advance u v_a_at v_a_start v_a_token v_a_number v_b1_width v_b1_rows n_b1_cells f_b1_cells) := by
  unfold fX5_advance
  exact jX5_advance_b0 hC u h_a h_a_throwsTold h_a_told h_b1 h_b1_cells v_a_itemsSeen v_a_at v_a_start v_a_token v_a_number v_b1_width v_b1_rows n_b1_cells f_b1_cells (v_a_at, v_a_start, v_a_token, v_a_number)
set_option maxHeartbeats 4000000 in
set_option maxRecDepth 100000 in
theorem mX5_advance (l : Launch) (D : va_G) (cy : Nat → ClassId) (ev : jE) (u : Nat) (h_a h_a_throwsTold h_a_told h_b1 h_b1_cells : Nat) (v_a_itemsSeen v_a_at v_a_start v_a_token v_a_number v_b1_width v_b1_rows : Int32) (n_b1_cells : Nat) (f_b1_cells : Nat → Int32) : jM l yX5_advance cX5_advance 2 none rX5_advance [.ref h_a, .ref h_b1] [(h_a, .inr (5, [.ref h_a_throwsTold, .ref h_a_told, .int v_a_itemsSeen, .int v_a_at, .int v_a_start, .int v_a_token, .int v_a_number])), (h_b1, .inr (7, [.int v_b1_width, .ref h_b1_cells, .int v_b1_rows])), (h_b1_cells, .inl (cy 0, n_b1_cells, .inl f_b1_cells))] (fun (r : Int32 × Int32 × Int32 × Int32) (_ : Nat → Nat) => [(h_a, .inr (5, [.ref h_a_throwsTold, .ref h_a_told, .int v_a_itemsSeen, .int r.1, .int r.2.1, .int r.2.2.1, .int r.2.2.2])), (h_b1, .inr (7, [.int v_b1_width, .ref h_b1_cells, .int v_b1_rows])), (h_b1_cells, .inl (cy 0, n_b1_cells, .inl f_b1_cells))]) (fun (_ : Int32 × Int32 × Int32 × Int32) => none) (fX5_advance u v_a_at v_a_start v_a_token v_a_number v_b1_width v_b1_rows n_b1_cells f_b1_cells) D cy ev := j_met RX5 (by decide +kernel) rfl (Nat.le_of_ble_eq_true rfl) (fun X hC _ hD hy hv => by subst hD; subst hy; subst hv; exact jX5_advance hC u h_a h_a_throwsTold h_a_told h_b1 h_b1_cells v_a_itemsSeen v_a_at v_a_start v_a_token v_a_number v_b1_width v_b1_rows n_b1_cells f_b1_cells)
abbrev gX5_isWord (X : jX) (h_a h_a_throwsTold h_a_told h_b1 h_b1_cells : Nat) (p2 : Nat) (v_a_itemsSeen v_a_at v_a_start v_a_token v_a_number v_b1_width v_b1_rows : Int32) (n_b1_cells : Nat) (f_b1_cells : Nat → Int32) (pc : Nat) (lv : List (Nat × Value)) (st : List Value) (e : Option (Int32)) : Prop := jJ (ρ := Int32) X 4 0 0 (jQf X 0 0 (fun (r : Int32) => some (.int r)) (fun (_ : Int32) (_ : Nat → Nat) => [(h_a, .inr (5, [.ref h_a_throwsTold, .ref h_a_told, .int v_a_itemsSeen, .int v_a_at, .int v_a_start, .int v_a_token, .int v_a_number])), (h_b1, .inr (7, [.int v_b1_width, .ref h_b1_cells, .int v_b1_rows])), (h_b1_cells, .inl (jy X 0, n_b1_cells, .inl f_b1_cells))])) pc lv st [(h_a, .inr (5, [.ref h_a_throwsTold, .ref h_a_told, .int v_a_itemsSeen, .int v_a_at, .int v_a_start, .int v_a_token, .int v_a_number])), (h_b1, .inr (7, [.int v_b1_width, .ref h_b1_cells, .int v_b1_rows])), (h_b1_cells, .inl (jy X 0, n_b1_cells, .inl f_b1_cells))] (e)
set_option maxHeartbeats 4000000 in
set_option maxRecDepth 100000 in
theorem jX5_isWord_b20_step {X : jX} (hC : jC X cX5_isWord 4 RX5 rX5_isWord (some .boolean)) (u : Nat) (h_a h_a_throwsTold h_a_told h_b1 h_b1_cells : Nat) (p2 : Nat) (v_a_itemsSeen v_a_at v_a_start v_a_token v_a_number v_b1_width v_b1_rows : Int32) (n_b1_cells : Nat) (f_b1_cells : Nat → Int32) (hs2 : p2 < 4) (rec20 : Int32 → Option (Int32)) (hrec20 : ∀ p : Int32, gX5_isWord X h_a h_a_throwsTold h_a_told h_b1 h_b1_cells p2 v_a_itemsSeen v_a_at v_a_start v_a_token v_a_number v_b1_width v_b1_rows n_b1_cells f_b1_cells 20 [(0, .ref h_a), (1, .ref h_b1), (2, .ref ((jv X).2.1 p2)), (3, .int p)] [] (rec20 p)) (p : Int32) : gX5_isWord X h_a h_a_throwsTold h_a_told h_b1 h_b1_cells p2 v_a_itemsSeen v_a_at v_a_start v_a_token v_a_number v_b1_width v_b1_rows n_b1_cells f_b1_cells 20 [(0, .ref h_a), (1, .ref h_b1), (2, .ref ((jv X).2.1 p2)), (3, .int p)] [] (fX5_isWord_b20 u p2 v_a_at v_a_start v_b1_width v_b1_rows n_b1_cells f_b1_cells rec20 p) := by
  unfold fX5_isWord_b20
  refine j_iload_n (pc := 20) hC 3 rfl dX5_isWord_20 ?_
  refine j_aload_n (pc := 21) hC 2 rfl dX5_isWord_21 ?_
  refine j_callVs (pc := 22) hC hs2 csRX5_90 [] (mJ0_length (jl X) (jD X) (jy X) (jv X) p2 hs2) ⟨by decide, by decide, rfl, rfl, by decide, by decide⟩ rfl rfl (Nat.le_of_ble_eq_true rfl) dX5_isWord_22 (jki0 (fun _ => rfl) (fun _ _ => rfl) (fun r2 => ?_))
  refine j_icmpge (pc := 25) hC 55 (by decide) dX5_isWord_25 ?_ ?_
  · refine j_iconst (pc := 55) hC ki_1 dX5_isWord_55 ?_
    exact j_zret (pc := 56) hC (fun _ => 0) (by decide) rfl rfl dX5_isWord_56
  · refine j_aload_n (pc := 28) hC 1 rfl dX5_isWord_28 ?_
    refine j_aload_n (pc := 29) hC 0 rfl dX5_isWord_29 ?_
    refine j_get (pc := 30) hC flRX5_53 0 rfl rfl dX5_isWord_30 ?_
    refine j_iload_n (pc := 33) hC 3 rfl dX5_isWord_33 ?_
    refine j_iadd (pc := 34) hC dX5_isWord_34 ?_
    refine j_iconst (pc := 35) hC ki_0 dX5_isWord_35 ?_
    refine j_callV (pc := 36) hC csRX5_96 [.int (v_a_start + p), .int (0 : Int32)] (mX7_cell (jl X) (jD X) (jy X) (jv X) h_b1 h_b1_cells (v_a_start + p) (0 : Int32) v_b1_width v_b1_rows n_b1_cells f_b1_cells) [1, 2] rfl (by decide +kernel) 1 rfl ⟨_, _, rfl⟩ ⟨by decide, by decide, rfl, rfl, by decide, by decide⟩ rfl rfl (Nat.le_of_ble_eq_true rfl) dX5_isWord_36 (jki0 (fun _ => rfl) (fun _ _ => rfl) (fun r3 => ?_))
    refine j_aload_n (pc := 39) hC 2 rfl dX5_isWord_39 ?_
    refine j_iload_n (pc := 40) hC 3 rfl dX5_isWord_40 ?_
    refine j_callVs (pc := 41) hC hs2 csRX5_100 [.int p] (mJ0_charAt (jl X) (jD X) (jy X) (jv X) p2 hs2 p) ⟨by decide, by decide, rfl, rfl, by decide, by decide⟩ rfl rfl (Nat.le_of_ble_eq_true rfl) dX5_isWord_41 (jki0 (fun _ => rfl) (fun _ _ => rfl) (fun r4 => ?_))
    refine j_icmpeq (pc := 44) hC 49 (by decide) dX5_isWord_44 ?_ ?_
    · refine j_iinc (pc := 49) hC 3 rfl ki_1 (fun x5 => (rfl : @Eq (List (Nat × Value)) _ [(3, .int x5), (0, .ref h_a), (1, .ref h_b1), (2, .ref ((jv X).2.1 p2))])) (by decide) dX5_isWord_49 (fun x5 => ?_)
      refine j_goto (pc := 52) hC 20 (by decide) dX5_isWord_52 ?_
      refine j_lv (pc := 20) [1, 2, 3, 0] rfl ?_
      exact hrec20 x5
    · refine j_iconst (pc := 47) hC ki_0 dX5_isWord_47 ?_
      exact j_zret (pc := 48) hC (fun _ => 0) (by decide) rfl rfl dX5_isWord_48
set_option maxHeartbeats 4000000 in
set_option maxRecDepth 100000 in
theorem jX5_isWord_b20 {X : jX} (hC : jC X cX5_isWord 4 RX5 rX5_isWord (some .boolean)) (u : Nat) (h_a h_a_throwsTold h_a_told h_b1 h_b1_cells : Nat) (p2 : Nat) (v_a_itemsSeen v_a_at v_a_start v_a_token v_a_number v_b1_width v_b1_rows : Int32) (n_b1_cells : Nat) (f_b1_cells : Nat → Int32) (hs2 : p2 < 4) (p : Int32) : gX5_isWord X h_a h_a_throwsTold h_a_told h_b1 h_b1_cells p2 v_a_itemsSeen v_a_at v_a_start v_a_token v_a_number v_b1_width v_b1_rows n_b1_cells f_b1_cells 20 [(0, .ref h_a), (1, .ref h_b1), (2, .ref ((jv X).2.1 p2)), (3, .int p)] [] (jfix (fX5_isWord_b20 u p2 v_a_at v_a_start v_b1_width v_b1_rows n_b1_cells f_b1_cells) u p) :=
  j_fix (fun rec20 hrec20 p => jX5_isWord_b20_step hC u h_a h_a_throwsTold h_a_told h_b1 h_b1_cells p2 v_a_itemsSeen v_a_at v_a_start v_a_token v_a_number v_b1_width v_b1_rows n_b1_cells f_b1_cells hs2 rec20 hrec20 p) u p
set_option maxHeartbeats 4000000 in
set_option maxRecDepth 100000 in
theorem jX5_isWord {X : jX} (hC : jC X cX5_isWord 4 RX5 rX5_isWord (some .boolean)) (u : Nat) (h_a h_a_throwsTold h_a_told h_b1 h_b1_cells : Nat) (p2 : Nat) (v_a_itemsSeen v_a_at v_a_start v_a_token v_a_number v_b1_width v_b1_rows : Int32) (n_b1_cells : Nat) (f_b1_cells : Nat → Int32) (hs2 : p2 < 4) : gX5_isWord X h_a h_a_throwsTold h_a_told h_b1 h_b1_cells p2 v_a_itemsSeen v_a_at v_a_start v_a_token v_a_number v_b1_width v_b1_rows n_b1_cells f_b1_cells 0 [(0, .ref h_a), (1, .ref h_b1), (2, .ref ((jv X).2.1 p2))] [] (fX5_isWord u p2 v_a_at v_a_start v_b1_width v_b1_rows n_b1_cells f_b1_cells) := by
  unfold fX5_isWord
  refine j_aload_n (pc := 0) hC 0 rfl dX5_isWord_0 ?_
  refine j_get (pc := 1) hC flRX5_31 0 rfl rfl dX5_isWord_1 ?_
  refine j_aload_n (pc := 4) hC 0 rfl dX5_isWord_4 ?_
  refine j_get (pc := 5) hC flRX5_53 0 rfl rfl dX5_isWord_5 ?_
  refine j_isub (pc := 8) hC dX5_isWord_8 ?_
  refine j_aload_n (pc := 9) hC 2 rfl dX5_isWord_9 ?_
  refine j_callVs (pc := 10) hC hs2 csRX5_90 [] (mJ0_length (jl X) (jD X) (jy X) (jv X) p2 hs2) ⟨by decide, by decide, rfl, rfl, by decide, by decide⟩ rfl rfl (Nat.le_of_ble_eq_true rfl) dX5_isWord_10 (jki0 (fun _ => rfl) (fun _ _ => rfl) (fun r1 => ?_))
  refine j_icmpeq (pc := 13) hC 18 (by decide) dX5_isWord_13 ?_ ?_
  · refine j_iconst (pc := 18) hC ki_0 dX5_isWord_18 ?_
    refine j_istore_n (pc := 19) hC (lv' := [(3, .int (0 : Int32)), (0, .ref h_a), (1, .ref h_b1), (2, .ref ((jv X).2.1 p2))]) rfl (by decide) dX5_isWord_19 ?_
    refine j_lv (pc := 20) [1, 2, 3, 0] rfl ?_
    exact jX5_isWord_b20 hC u h_a h_a_throwsTold h_a_told h_b1 h_b1_cells p2 v_a_itemsSeen v_a_at v_a_start v_a_token v_a_number v_b1_width v_b1_rows n_b1_cells f_b1_cells hs2 (0 : Int32)
  · refine j_iconst (pc := 16) hC ki_0 dX5_isWord_16 ?_
    exact j_zret (pc := 17) hC (fun _ => 0) (by decide) rfl rfl dX5_isWord_17
set_option maxHeartbeats 4000000 in
set_option maxRecDepth 100000 in
theorem mX5_isWord (l : Launch) (D : va_G) (cy : Nat → ClassId) (ev : jE) (u : Nat) (h_a h_a_throwsTold h_a_told h_b1 h_b1_cells : Nat) (p2 : Nat) (v_a_itemsSeen v_a_at v_a_start v_a_token v_a_number v_b1_width v_b1_rows : Int32) (n_b1_cells : Nat) (f_b1_cells : Nat → Int32) (hs2 : p2 < 4) : jM l yX5_isWord cX5_isWord 4 (some .boolean) rX5_isWord [.ref h_a, .ref h_b1, .ref (ev.2.1 p2)] [(h_a, .inr (5, [.ref h_a_throwsTold, .ref h_a_told, .int v_a_itemsSeen, .int v_a_at, .int v_a_start, .int v_a_token, .int v_a_number])), (h_b1, .inr (7, [.int v_b1_width, .ref h_b1_cells, .int v_b1_rows])), (h_b1_cells, .inl (cy 0, n_b1_cells, .inl f_b1_cells))] (fun (_ : Int32) (_ : Nat → Nat) => [(h_a, .inr (5, [.ref h_a_throwsTold, .ref h_a_told, .int v_a_itemsSeen, .int v_a_at, .int v_a_start, .int v_a_token, .int v_a_number])), (h_b1, .inr (7, [.int v_b1_width, .ref h_b1_cells, .int v_b1_rows])), (h_b1_cells, .inl (cy 0, n_b1_cells, .inl f_b1_cells))]) (fun (r : Int32) => some (.int r)) (fX5_isWord u p2 v_a_at v_a_start v_b1_width v_b1_rows n_b1_cells f_b1_cells) D cy ev := j_met RX5 (by decide +kernel) rfl (Nat.le_of_ble_eq_true rfl) (fun X hC _ hD hy hv => by subst hD; subst hy; subst hv; exact jX5_isWord hC u h_a h_a_throwsTold h_a_told h_b1 h_b1_cells p2 v_a_itemsSeen v_a_at v_a_start v_a_token v_a_number v_b1_width v_b1_rows n_b1_cells f_b1_cells hs2)
abbrev gX5_itemNamed (X : jX) (h_a h_a_throwsTold h_a_told h_b1 h_b1_cells : Nat) (v_a_itemsSeen v_a_at v_a_start v_a_token v_a_number v_b1_width v_b1_rows : Int32) (n_b1_cells : Nat) (f_b1_cells : Nat → Int32) (pc : Nat) (lv : List (Nat × Value)) (st : List Value) (e : Option (Int32)) : Prop := jJ (ρ := Int32) X 2 0 0 (jQf X 0 0 (fun (r : Int32) => some (.int r)) (fun (_ : Int32) (_ : Nat → Nat) => [(h_a, .inr (5, [.ref h_a_throwsTold, .ref h_a_told, .int v_a_itemsSeen, .int v_a_at, .int v_a_start, .int v_a_token, .int v_a_number])), (h_b1, .inr (7, [.int v_b1_width, .ref h_b1_cells, .int v_b1_rows])), (h_b1_cells, .inl (jy X 0, n_b1_cells, .inl f_b1_cells))])) pc lv st [(h_a, .inr (5, [.ref h_a_throwsTold, .ref h_a_told, .int v_a_itemsSeen, .int v_a_at, .int v_a_start, .int v_a_token, .int v_a_number])), (h_b1, .inr (7, [.int v_b1_width, .ref h_b1_cells, .int v_b1_rows])), (h_b1_cells, .inl (jy X 0, n_b1_cells, .inl f_b1_cells))] (e)
set_option maxHeartbeats 4000000 in
set_option maxRecDepth 100000 in
theorem jX5_itemNamed {X : jX} (hC : jC X cX5_itemNamed 2 RX5 rX5_itemNamed (some .int)) (u : Nat) (h_a h_a_throwsTold h_a_told h_b1 h_b1_cells : Nat) (v_a_itemsSeen v_a_at v_a_start v_a_token v_a_number v_b1_width v_b1_rows : Int32) (n_b1_cells : Nat) (f_b1_cells : Nat → Int32) : gX5_itemNamed X h_a h_a_throwsTold h_a_told h_b1 h_b1_cells v_a_itemsSeen v_a_at v_a_start v_a_token v_a_number v_b1_width v_b1_rows n_b1_cells f_b1_cells 0 [(0, .ref h_a), (1, .ref h_b1)] [] (fX5_itemNamed u v_a_at v_a_start v_a_token v_b1_width v_b1_rows n_b1_cells f_b1_cells) := by
  unfold fX5_itemNamed
  refine j_aload_n (pc := 0) hC 0 rfl dX5_itemNamed_0 ?_
  refine j_get (pc := 1) hC flRX5_38 0 rfl rfl dX5_itemNamed_1 ?_
  refine j_iconst (pc := 4) hC ki_1 dX5_itemNamed_4 ?_
  refine j_icmpeq (pc := 5) hC 10 (by decide) dX5_itemNamed_5 ?_ ?_
  · refine j_aload_n (pc := 10) hC 0 rfl dX5_itemNamed_10 ?_
    refine j_aload_n (pc := 11) hC 1 rfl dX5_itemNamed_11 ?_
    refine j_ldcS (pc := 12) hC 0 rfl dX5_itemNamed_12 ?_
    refine j_callV (pc := 14) hC csRX5_80 [.ref h_b1, .ref ((jv X).2.1 0)] (mX5_isWord (jl X) (jD X) (jy X) (jv X) u h_a h_a_throwsTold h_a_told h_b1 h_b1_cells 0 v_a_itemsSeen v_a_at v_a_start v_a_token v_a_number v_b1_width v_b1_rows n_b1_cells f_b1_cells (by decide)) [0, 1, 2] rfl (by decide +kernel) 0 rfl ⟨_, _, rfl⟩ ⟨by decide, by decide, rfl, rfl, by decide, by decide⟩ rfl rfl (Nat.le_of_ble_eq_true rfl) dX5_itemNamed_14 (jki0 (fun _ => rfl) (fun _ _ => rfl) (fun r1 => ?_))
    refine j_ifeq (pc := 17) hC 22 (by decide) dX5_itemNamed_17 ?_ ?_
    · refine j_aload_n (pc := 22) hC 0 rfl dX5_itemNamed_22 ?_
      refine j_aload_n (pc := 23) hC 1 rfl dX5_itemNamed_23 ?_
      refine j_ldcS (pc := 24) hC 1 rfl dX5_itemNamed_24 ?_
      refine j_callV (pc := 26) hC csRX5_80 [.ref h_b1, .ref ((jv X).2.1 1)] (mX5_isWord (jl X) (jD X) (jy X) (jv X) u h_a h_a_throwsTold h_a_told h_b1 h_b1_cells 1 v_a_itemsSeen v_a_at v_a_start v_a_token v_a_number v_b1_width v_b1_rows n_b1_cells f_b1_cells (by decide)) [0, 1, 2] rfl (by decide +kernel) 0 rfl ⟨_, _, rfl⟩ ⟨by decide, by decide, rfl, rfl, by decide, by decide⟩ rfl rfl (Nat.le_of_ble_eq_true rfl) dX5_itemNamed_26 (jki0 (fun _ => rfl) (fun _ _ => rfl) (fun r2 => ?_))
      refine j_ifeq (pc := 29) hC 34 (by decide) dX5_itemNamed_29 ?_ ?_
      · refine j_aload_n (pc := 34) hC 0 rfl dX5_itemNamed_34 ?_
        refine j_aload_n (pc := 35) hC 1 rfl dX5_itemNamed_35 ?_
        refine j_ldcS (pc := 36) hC 2 rfl dX5_itemNamed_36 ?_
        refine j_callV (pc := 38) hC csRX5_80 [.ref h_b1, .ref ((jv X).2.1 2)] (mX5_isWord (jl X) (jD X) (jy X) (jv X) u h_a h_a_throwsTold h_a_told h_b1 h_b1_cells 2 v_a_itemsSeen v_a_at v_a_start v_a_token v_a_number v_b1_width v_b1_rows n_b1_cells f_b1_cells (by decide)) [0, 1, 2] rfl (by decide +kernel) 0 rfl ⟨_, _, rfl⟩ ⟨by decide, by decide, rfl, rfl, by decide, by decide⟩ rfl rfl (Nat.le_of_ble_eq_true rfl) dX5_itemNamed_38 (jki0 (fun _ => rfl) (fun _ _ => rfl) (fun r3 => ?_))
        refine j_ifeq (pc := 41) hC 46 (by decide) dX5_itemNamed_41 ?_ ?_
        · refine j_aload_n (pc := 46) hC 0 rfl dX5_itemNamed_46 ?_
          refine j_aload_n (pc := 47) hC 1 rfl dX5_itemNamed_47 ?_
          refine j_ldcS (pc := 48) hC 3 rfl dX5_itemNamed_48 ?_
          refine j_callV (pc := 50) hC csRX5_80 [.ref h_b1, .ref ((jv X).2.1 3)] (mX5_isWord (jl X) (jD X) (jy X) (jv X) u h_a h_a_throwsTold h_a_told h_b1 h_b1_cells 3 v_a_itemsSeen v_a_at v_a_start v_a_token v_a_number v_b1_width v_b1_rows n_b1_cells f_b1_cells (by decide)) [0, 1, 2] rfl (by decide +kernel) 0 rfl ⟨_, _, rfl⟩ ⟨by decide, by decide, rfl, rfl, by decide, by decide⟩ rfl rfl (Nat.le_of_ble_eq_true rfl) dX5_itemNamed_50 (jki0 (fun _ => rfl) (fun _ _ => rfl) (fun r4 => ?_))
          refine j_ifeq (pc := 53) hC 60 (by decide) dX5_itemNamed_53 ?_ ?_
          · refine j_iconst (pc := 60) hC ki_m1 dX5_itemNamed_60 ?_
            exact j_iret (pc := 61) hC (fun _ => 0) rfl rfl dX5_itemNamed_61
          · refine j_iconst (pc := 56) hC ki_3 dX5_itemNamed_56 ?_
            refine j_goto (pc := 57) hC 61 (by decide) dX5_itemNamed_57 ?_
            exact j_iret (pc := 61) hC (fun _ => 0) rfl rfl dX5_itemNamed_61
        · refine j_iconst (pc := 44) hC ki_2 dX5_itemNamed_44 ?_
          exact j_iret (pc := 45) hC (fun _ => 0) rfl rfl dX5_itemNamed_45
      · refine j_iconst (pc := 32) hC ki_1 dX5_itemNamed_32 ?_
        exact j_iret (pc := 33) hC (fun _ => 0) rfl rfl dX5_itemNamed_33
    · refine j_iconst (pc := 20) hC ki_0 dX5_itemNamed_20 ?_
      exact j_iret (pc := 21) hC (fun _ => 0) rfl rfl dX5_itemNamed_21
  · refine j_iconst (pc := 8) hC ki_m1 dX5_itemNamed_8 ?_
    exact j_iret (pc := 9) hC (fun _ => 0) rfl rfl dX5_itemNamed_9
set_option maxHeartbeats 4000000 in
set_option maxRecDepth 100000 in
theorem mX5_itemNamed (l : Launch) (D : va_G) (cy : Nat → ClassId) (ev : jE) (u : Nat) (h_a h_a_throwsTold h_a_told h_b1 h_b1_cells : Nat) (v_a_itemsSeen v_a_at v_a_start v_a_token v_a_number v_b1_width v_b1_rows : Int32) (n_b1_cells : Nat) (f_b1_cells : Nat → Int32) : jM l yX5_itemNamed cX5_itemNamed 2 (some .int) rX5_itemNamed [.ref h_a, .ref h_b1] [(h_a, .inr (5, [.ref h_a_throwsTold, .ref h_a_told, .int v_a_itemsSeen, .int v_a_at, .int v_a_start, .int v_a_token, .int v_a_number])), (h_b1, .inr (7, [.int v_b1_width, .ref h_b1_cells, .int v_b1_rows])), (h_b1_cells, .inl (cy 0, n_b1_cells, .inl f_b1_cells))] (fun (_ : Int32) (_ : Nat → Nat) => [(h_a, .inr (5, [.ref h_a_throwsTold, .ref h_a_told, .int v_a_itemsSeen, .int v_a_at, .int v_a_start, .int v_a_token, .int v_a_number])), (h_b1, .inr (7, [.int v_b1_width, .ref h_b1_cells, .int v_b1_rows])), (h_b1_cells, .inl (cy 0, n_b1_cells, .inl f_b1_cells))]) (fun (r : Int32) => some (.int r)) (fX5_itemNamed u v_a_at v_a_start v_a_token v_b1_width v_b1_rows n_b1_cells f_b1_cells) D cy ev := j_met RX5 (by decide +kernel) rfl (Nat.le_of_ble_eq_true rfl) (fun X hC _ hD hy hv => by subst hD; subst hy; subst hv; exact jX5_itemNamed hC u h_a h_a_throwsTold h_a_told h_b1 h_b1_cells v_a_itemsSeen v_a_at v_a_start v_a_token v_a_number v_b1_width v_b1_rows n_b1_cells f_b1_cells)
