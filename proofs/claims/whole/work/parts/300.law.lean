/-! the law: rows over a world that has a part behind which nobody touches -/
def jB (X : jX) (b L : Nat) (xs : Nat → Int32) : Prop := va_X b L xs (js X) (js X).heap ∧ b < (js X).heap.size ∧ ¬ jA X b
def jc1 (x y : Nat × va_E) : Prop := x = y ∨ ∃ (a : Nat) (cA : ClassId) (n : Nat) (f g : Nat → Int32), x = (a, .inl (cA, n, .inl f)) ∧ y = (a, .inl (cA, n, .inl g)) ∧ ∀ k : Nat, k < n → f k = g k
def jcong : va_W → va_W → Prop
  | [], [] => True
  | x :: xs, y :: ys => jc1 x y ∧ jcong xs ys
  | _, _ => False
theorem jc1_fst {x y : Nat × va_E} (h : jc1 x y) : x.1 = y.1 := by
  rcases h with rfl | ⟨a, cA, n, f, g, rfl, rfl, -⟩ <;> rfl
theorem jc1_at {D : va_G} {cl : List vw_C} {H : Heap} {x y : Nat × va_E} (h : jc1 x y) (hx : va_at D cl x H) : va_at D cl y H := by
  rcases h with rfl | ⟨a, cA, n, f, g, rfl, rfl, hfg⟩
  · exact hx
  · have e : vp_cell cA (n, .inl f) = vp_cell cA (n, .inl g) := by
      rw [vp_cell_i, vp_cell_i]
      unfold arrV
      congr 2
      funext j
      show Value.int (f j.val) = Value.int (g j.val)
      rw [hfg j.val j.isLt]
    exact Eq.trans (show H[a]? = some (vp_cell cA (n, .inl f)) from hx) (congrArg some e)
theorem jcong_len : ∀ {a b : va_W}, jcong a b → a.length = b.length
  | [], [], _ => rfl
  | _ :: xs, _ :: ys, h => by rw [List.length_cons, List.length_cons, jcong_len h.2]
  | [], _ :: _, h => h.elim
  | _ :: _, [], h => h.elim
theorem jcong_at : ∀ {a b : va_W}, jcong a b → ∀ (k : Nat) (q : Nat × va_E), b[k]? = some q → ∃ p, a[k]? = some p ∧ jc1 p q
  | [], [], _, k, q, hq => by simp at hq
  | x :: xs, y :: ys, h, 0, q, hq => by
    rw [List.getElem?_cons_zero] at hq ⊢
    exact ⟨x, rfl, Option.some.inj hq ▸ h.1⟩
  | x :: xs, y :: ys, h, k + 1, q, hq => by
    rw [List.getElem?_cons_succ] at hq ⊢
    exact jcong_at h.2 k q hq
  | [], _ :: _, h, _, _, _ => h.elim
  | _ :: _, [], h, _, _, _ => h.elim
theorem jcong_app {a b wt : va_W} (h : jcong a b) (k : Nat) (q : Nat × va_E) (hq : (b ++ wt)[k]? = some q) : ∃ p, (a ++ wt)[k]? = some p ∧ jc1 p q := by
  have hl := jcong_len h
  by_cases hk : k < b.length
  · rw [List.getElem?_append_left hk] at hq
    rw [List.getElem?_append_left (by omega)]
    exact jcong_at h k q hq
  · rw [List.getElem?_append_right (by omega)] at hq
    rw [List.getElem?_append_right (by omega), hl]
    exact ⟨q, hq, Or.inl rfl⟩
section JLAW
variable {ρ ρ' : Type} {X : jX} {cc : ByteArray} {nL k n k' n' : Nat} {own : String} {rm : Room} {ret : Option FieldType} {Qf : ρ → State → Prop} {pc : Nat} {lv : List (Nat × Value)} {st st2 stk : List Value} {ws wa wt wc : va_W} {e : Option ρ} {idx : Nat} {a : Nat}
theorem j_cong {wb : va_W} (h : jcong wa wb) (K : jJ X nL k n Qf pc lv st (wb ++ wt) e) : jJ X nL k n Qf pc lv st (wa ++ wt) e := fun r hr H locs ls hP hD hS hl => by
  refine K r hr H locs ls (fun k q hq => ?_) ⟨fun i j p q hi hj hpq => ?_, fun k q hq => ?_⟩ hS hl
  · obtain ⟨p, h1, h2⟩ := jcong_app h k q hq
    exact jc1_at h2 (hP k p h1)
  · obtain ⟨p', h1, h2⟩ := jcong_app h i p hi
    obtain ⟨q', h3, h4⟩ := jcong_app h j q hj
    exact hD.1 i j p' q' h1 h3 ((jc1_fst h2).trans (hpq.trans (jc1_fst h4).symm))
  · obtain ⟨p, h1, h2⟩ := jcong_app h k q hq
    rw [← jc1_fst h2]
    exact hD.2 k p h1
theorem j_sld (hC : jC X cc nL own rm ret) {b L : Nat} {xs : Nat → Int32} (hB : jB X b L xs) {i : Int32} (hin : vp_in i L) (d : decode cc pc = .ok (.iaload, 1)) (K : jJ X nL k n Qf (pc + 1) lv (.int (xs i.toNatClampNeg) :: st) ws e) : jJ X nL k n Qf pc lv (.int i :: .ref b :: st) ws e := fun r hr H locs ls hP hD hS hl => va_sld hC.ex hC.co hB.1 hB.2.1 hB.2.2 hS hin d (K r hr H locs ls hP hD hS hl)
theorem j_slen0 (hC : jC X cc nL own rm ret) {b L : Nat} {xs : Nat → Int32} (hB : jB X b L xs) (d : decode cc pc = .ok (.arraylength, 1)) (K : jJ X nL k n Qf (pc + 1) lv (.int (Int32.ofNat L) :: st) ws e) : jJ X nL k n Qf pc lv (.ref b :: st) ws e := fun r hr H locs ls hP hD hS hl => va_slen hC.ex hC.co hB.1 hB.2.1 hB.2.2 hS d (K r hr H locs ls hP hD hS hl)
theorem j_icmpeqT (hC : jC X cc nL own rm ret) {x y : Int32} {off : Int} (tgt : Nat) (h : x = y) (ht : (pc : Int) + off = (tgt : Int)) (d : decode cc pc = .ok (.if_icmp .eq off, 3)) (K : jJ X nL k n Qf tgt lv st ws e) : jJ X nL k n Qf pc lv (.int y :: .int x :: st) ws e := fun r hr H locs ls hP hD hS hl => lv_icmp_eq hC.ex hC.co d ht (fun _ => K r hr H locs ls hP hD hS hl) (fun c => absurd h c)
theorem j_ifeqT (hC : jC X cc nL own rm ret) {x : Int32} {off : Int} (tgt : Nat) (h : x = 0) (ht : (pc : Int) + off = (tgt : Int)) (d : decode cc pc = .ok (.ifCond .eq off, 3)) (K : jJ X nL k n Qf tgt lv st ws e) : jJ X nL k n Qf pc lv (.int x :: st) ws e := fun r hr H locs ls hP hD hS hl => lv_if_eq hC.ex hC.co d ht (fun _ => K r hr H locs ls hP hD hS hl) (fun c => absurd h c)
theorem j_icmpgtC (hC : jC X cc nL own rm ret) {x y : Int32} {off : Int} (tgt : Nat) (ht : (pc : Int) + off = (tgt : Int)) (d : decode cc pc = .ok (.if_icmp .gt off, 3)) (kt : y < x → jJ X nL k n Qf tgt lv st ws e) (kf : ¬ y < x → jJ X nL k n Qf (pc + 3) lv st ws e) : jJ X nL k n Qf pc lv (.int y :: .int x :: st) ws e := fun r hr H locs ls hP hD hS hl => lv_icmp_gt hC.ex hC.co d ht (fun c => kt c r hr H locs ls hP hD hS hl) (fun c => kf c r hr H locs ls hP hD hS hl)
theorem j_swcC (hC : jC X cc nL own rm ret) {x : Int32} {off dflt lo hi : Int} {offs : Array Int} {len : Nat} (c : Int32) (tgt : Nat) (h1 : ¬ c.toInt < lo) (h2 : ¬ hi < c.toInt) (ho : offs[(c.toInt - lo).toNat]? = some off) (ht : (pc : Int) + off = (tgt : Int)) (d : decode cc pc = .ok (.tableswitch dflt lo hi offs, len)) (kt : jJ X nL k n Qf tgt lv st ws e) (kf : ¬ x = c → jJ X nL k n Qf pc lv (.int x :: st) ws e) : jJ X nL k n Qf pc lv (.int x :: st) ws e := by
  intro r hr H locs ls hP hD hS hl
  by_cases q : x = c
  · subst q
    exact lv_tableIn hC.ex hC.co d h1 h2 ho ht (kt r hr H locs ls hP hD hS hl)
  · exact kf q r hr H locs ls hP hD hS hl
theorem j_bool (hC : jC X cc nL own rm ret) {x : Int32} {off off2 : Int} (t t1 : Nat) (h1 : (pc : Int) + off = (t : Int)) (h2 : ((pc + 3 + 1 : Nat) : Int) + off2 = ((t + 1 : Nat) : Int)) (e0 : Int32.ofInt 0 = 0) (e1 : Int32.ofInt 1 = 1) (d1 : decode cc pc = .ok (.ifCond .eq off, 3)) (d2 : decode cc (pc + 3) = .ok (.iconst 1, 1)) (d3 : decode cc (pc + 3 + 1) = .ok (.goto off2, 3)) (d4 : decode cc t = .ok (.iconst 0, 1)) (K : jJ X nL k n Qf (t + 1) lv (.int (if x = 0 then 0 else 1) :: st) ws e) : jJ X nL k n Qf pc lv (.int x :: st) ws e := fun r hr H locs ls hP hD hS hl => by
  have KK := K r hr H locs ls hP hD hS hl
  refine lv_if_eq hC.ex hC.co d1 h1 (fun c => ?_) (fun c => ?_)
  · rw [if_pos c] at KK
    exact lv_iconst hC.ex hC.co d4 e0 KK
  · rw [if_neg c] at KK
    exact lv_iconst hC.ex hC.co d2 e1 (lv_goto hC.ex hC.co d3 h2 KK)
theorem j_callVt {C : String} {y : MethodName} {b : ByteArray} {mL na0 : Nat} {ret' : Option FieldType} {rm' : Room} {ci : Nat} {fs : List Value} {wn : ρ' → (Nat → Nat) → va_W} {rv : ρ' → Option Value} {e' : Option ρ'} {wa' : (Nat → Nat) → va_W} {r0 : ρ'}
    (hC : jC X cc nL own rm ret) (V : jV own idx C y b mL ret' na0) (As : List Value) (hM : jM (jl X) y b mL ret' rm' (.ref a :: As) wc wn rv e' (jD X) (jy X) (jv X)) (is : List Nat) (hw : is.map (fun i => wa[i]?) = wc.map some) (hnd : va_nd is = true) (q0 : Nat) (he : wa[q0]? = some (a, .inr (ci, fs))) (hci : ∃ T N, vwCl[ci]? = some (C, T, N)) (hr : jroom rm rm' mL k n k' n') (h0 : e' = some r0) (hst : stk = As.reverse ++ .ref a :: st) (hna : As.length = na0) (hcat : (st.map fun v => v.category).sum ≤ 8) (d : decode cc pc = .ok (.invokevirtual idx, 3)) (hst2 : (rv r0).toList ++ st = st2) (hup : ∀ na, jup wa is (wn r0 na) = wa' na)
    (K : ∀ na : Nat → Nat, jJ X nL k' n' Qf (pc + 3) lv st2 (wa' na ++ wt) e) : jJ X nL k n Qf pc lv stk (wa ++ wt) e := by
  obtain ⟨r1, r2, r3, r4, r5, r6⟩ := hr
  subst r3; subst r4; subst hst2
  intro r hr H locs ls hP hD hS hl
  have hPa : va_P (jD X) vwCl wa H := fun k q hk => hP k q (by rw [List.getElem?_append_left (List.getElem?_eq_some_iff.mp hk).1]; exact hk)
  have hDa : va_D (jA X) wa := ⟨fun i j p q hi hj hpq => hD.1 i j p q (by rw [List.getElem?_append_left (List.getElem?_eq_some_iff.mp hi).1]; exact hi) (by rw [List.getElem?_append_left (List.getElem?_eq_some_iff.mp hj).1]; exact hj) hpq, fun k q hk => hD.2 k q (by rw [List.getElem?_append_left (List.getElem?_eq_some_iff.mp hk).1]; exact hk)⟩
  have hF : ∀ q, va_A wc H.size q → jA X q := va_free hDa hS hC.A is hw
  obtain ⟨T0, N0, hci⟩ := hci
  obtain ⟨v1, v2, v3, v4, v5, v6⟩ := V
  have hR := hC.R
  have run : va_Run (jp X) (jl X) (je X) (jR X) (js X) (jm X) (ja X) (jb X) (jt X) (jc X) H locs k n rm'.cells rm'.slots (F0 (jm X) pc ls stk) st (jQ (rv r0) (wn r0) (jD X) (jy X) (va_A wc H.size) (Value.ref a :: As).toArray) (va_A wc H.size) := va_runV hC.fix (hM r0 h0 H.size) (cwV na0 hC.ts (jG_V v1 v2 v3 v4 v5) rfl rfl rfl v6 ⟨by rw [hR]; exact r1, by rw [hR]; exact r2⟩) ⟨jPc_blind, va_recv hC.K hPa hci he, jpre hC hPa hDa hS is hw hnd hF⟩ rfl hna hl.1 hst (lv_room hcat) d ⟨by rw [hR]; exact r5, by rw [hR]; exact r6⟩
  intro T hT Y
  obtain ⟨v, st₀, t, T', L, g0, Y', hL, e1, e2, ⟨⟨na, hv, hp, hkk, hd⟩, hz, hkeep⟩, stp⟩ := run T hT Y
  have hv : v = rv r0 := by cases hv; rfl
  subst hv
  rw [g0] at hz hkeep
  have hkp : ∀ q : Nat, q < H.size → ¬ va_A wc H.size q → T'.heap[q]? = H[q]? := fun q x y => by rw [e1]; exact hkeep q x y
  obtain ⟨hPj, hDj⟩ := jup_join hPa hDa is hw hkp hF (by rw [e1]; exact hp) hd
  have apart : ∀ (j : Nat) (q : Nat × va_E), wt[j]? = some q → q.1 < H.size ∧ ¬ va_A wc H.size q.1 := by
    intro j q hq
    have hq' : (wa ++ wt)[wa.length + j]? = some q := by
      rw [List.getElem?_append_right (by omega), Nat.add_sub_cancel_left]; exact hq
    refine ⟨(hP _ q hq').lt, fun h => ?_⟩
    rcases h with ⟨k2, ee, h⟩ | h
    · have h1 : (is.map (fun i => wa[i]?))[k2]? = some (some (q.1, ee)) := by rw [hw, List.getElem?_map, h]; rfl
      rw [List.getElem?_map] at h1
      cases hi : is[k2]? with
      | none => rw [hi] at h1; cases h1
      | some i =>
        rw [hi] at h1
        have h2 : wa[i]? = some (q.1, ee) := Option.some.inj h1
        have hil := (List.getElem?_eq_some_iff.mp h2).1
        have := hD.1 i (wa.length + j) (q.1, ee) q (by rw [List.getElem?_append_left hil]; exact h2) hq' rfl
        omega
    · have := (hP _ q hq').lt
      omega
  have hPt : va_P (jD X) vwCl wt T'.heap := fun j q hq => by
    obtain ⟨a1, a2⟩ := apart j q hq
    have hq' : (wa ++ wt)[wa.length + j]? = some q := by
      rw [List.getElem?_append_right (by omega), Nat.add_sub_cancel_left]; exact hq
    exact (hP _ q hq').kept (hkp q.1 a1 a2)
  have hDt : va_D (jA X) wt := ⟨fun i j p q hi hj hpq => by
      have := hD.1 (wa.length + i) (wa.length + j) p q (by rw [List.getElem?_append_right (by omega), Nat.add_sub_cancel_left]; exact hi) (by rw [List.getElem?_append_right (by omega), Nat.add_sub_cancel_left]; exact hj) hpq
      omega, fun j q hq => hD.2 (wa.length + j) q (by rw [List.getElem?_append_right (by omega), Nat.add_sub_cancel_left]; exact hq)⟩
  have hx : ∀ (i j : Nat) (p q : Nat × va_E), (jup wa is (wn r0 na))[i]? = some p → wt[j]? = some q → p.1 ≠ q.1 := by
    intro i j p q hi hj hpq
    obtain ⟨-, b2⟩ := apart j q hj
    rcases jup_at is (wn r0 na) wa i p hi with ⟨j1, a1, -⟩ | ⟨-, a1⟩
    · exact b2 (hpq ▸ hd.2 j1 p a1)
    · have hil := (List.getElem?_eq_some_iff.mp a1).1
      have := hD.1 i (wa.length + j) p q (by rw [List.getElem?_append_left hil]; exact a1) (by rw [List.getElem?_append_right (by omega), Nat.add_sub_cancel_left]; exact hj) hpq
      omega
  have hS' : va_S (jA X) (js X).heap T'.heap (locs ++ L) := by
    refine ⟨Nat.le_trans hS.1 (by rw [e1]; exact hz), fun q g1 g2 => ?_, fun q hq => ?_⟩
    · rw [hkp q (Nat.lt_of_lt_of_le g1 hS.1) (fun z => g2 (hF q z))]
      exact hS.2.1 q g1 g2
    · rcases List.mem_append.mp hq with h | h
      · exact hS.2.2 q h
      · exact hF _ (hL q h)
  obtain ⟨t2, a1, b1⟩ := K na r hr T'.heap (locs ++ L) ls (by rw [← hup na]; exact hPj.app hPt) (by rw [← hup na]; exact hDj.app hDt hx) hS' hl T' rfl Y'
  exact ⟨t2, stp t2 a1, b1⟩
end JLAW
theorem jroom_law {rm' : Room} {mL k n : Nat} (hk : k ≤ 600000 ∧ n ≤ 7302250) (h1 : rm'.frames + 1 ≤ room_1.frames) (h2 : 8 + (mL + 11) + rm'.locals ≤ room_1.locals) (h3 : rm'.cells = 0) (h4 : rm'.slots = 0) : jroom room_1 rm' mL k n k n := ⟨h1, h2, by rw [h3]; rfl, by rw [h4]; rfl, hk.1, hk.2⟩
theorem lg_cmp_self (x : Int64) : lg_cmp x x = 0 := by simp [lg_cmp]
abbrev lwB (cy : Nat → ClassId) (h : Nat → Nat) (N K Z rf : Nat → Int32) (sg : Int32) (Lm : Nat → Int64) (S cal cbl : Nat → Int32) (fim : Nat → Option Nat) (xlaunch_length xlaunch_weight xlaunch_place xlaunch_stiff xlaunch_angle xlaunch_pushes xlaunch_pace xlaunch_bend xlaunch_off xlaunch_range xlaunch_rise xlaunch_rounds xlaunch_heightThere : Int32) (xlaunch_told : Nat → Int32) (xreader_itemsSeen xreader_at xreader_start xreader_token xreader_number xreader_throwsTold_rows : Int32) (xreader_throwsTold_cells xreader_told : Nat → Int32) (xfinds_cut xfinds_areTwoKinds : Int32) (xfinds_sorted xfinds_ways : Nat → Int32) (xweights_heaviest xweights_one_size : Int32) (xweights_one_limbs : Nat → Int32) (xweights_all_size : Int32) (xweights_all_limbs : Nat → Int32) (xweights_most_size : Int32) (xweights_most_limbs : Nat → Int32) (yreach ystrength ylag ylength yweight yplace ymass ystiff ytip ytail ypace ybend yoff yrise yrounds yx yy yvx yvy ytokenAt ytokenLong ytoken ynumber yread yhasArm yhasHook yhasDart ythrowMany yisGone : Int32) (yways yranges : Nat → Int32) : va_W := [((h 0), .inr (8, [.ref (h 1), .ref (h 28), .ref (h 29), .ref (h 31), .ref (h 35), .ref (h 38), .ref (h 45), .ref (h 50)])), ((h 1), .inr (6, [.ref (h 2), .ref (h 4), .ref (h 6), .ref (h 8), .ref (h 10), .ref (h 12), .ref (h 14), .ref (h 16), .ref (h 18), .ref (h 20), .ref (h 22), .ref (h 24), .ref (h 26)])), ((h 2), .inr (7, [.int (3 : Int32), .ref (h 3), .int (N 392)])), ((h 3), .inl (cy 0, 12, .inl (cw 0 N))), ((h 4), .inr (7, [.int (3 : Int32), .ref (h 5), .int (N 393)])), ((h 5), .inl (cy 0, 12, .inl (cw 12 N))), ((h 6), .inr (7, [.int (4 : Int32), .ref (h 7), .int (N 394)])), ((h 7), .inl (cy 0, 16, .inl (cw 24 N))), ((h 8), .inr (7, [.int (2 : Int32), .ref (h 9), .int (4 : Int32)])), ((h 9), .inl (cy 0, 8, .inl (cw 40 N))), ((h 10), .inr (7, [.int (2 : Int32), .ref (h 11), .int (1 : Int32)])), ((h 11), .inl (cy 0, 2, .inl (cw 48 N))), ((h 12), .inr (7, [.int (3 : Int32), .ref (h 13), .int (N 395)])), ((h 13), .inl (cy 0, 48, .inl (cw 50 N))), ((h 14), .inr (7, [.int (1 : Int32), .ref (h 15), .int (1 : Int32)])), ((h 15), .inl (cy 0, 1, .inl (cw 98 N))), ((h 16), .inr (7, [.int (4 : Int32), .ref (h 17), .int (N 396)])), ((h 17), .inl (cy 0, 48, .inl (cw 99 N))), ((h 18), .inr (7, [.int (1 : Int32), .ref (h 19), .int (N 397)])), ((h 19), .inl (cy 0, 6, .inl (cw 147 N))), ((h 20), .inr (7, [.int (1 : Int32), .ref (h 21), .int (1 : Int32)])), ((h 21), .inl (cy 0, 1, .inl (cw 153 N))), ((h 22), .inr (7, [.int (7 : Int32), .ref (h 23), .int (3 : Int32)])), ((h 23), .inl (cy 0, 21, .inl (cw 154 N))), ((h 24), .inr (7, [.int (2 : Int32), .ref (h 25), .int (8 : Int32)])), ((h 25), .inl (cy 0, 16, .inl (cw 175 N))), ((h 26), .inr (7, [.int (1 : Int32), .ref (h 27), .int (N 191)])), ((h 27), .inl (cy 0, 200, .inl (cw 192 N))), ((h 28), .inl (cy 3, 2, .inr (.inr (.inr (.inr fim))))), ((h 29), .inr (2, [.ref (h 30), .int xlaunch_length, .int xlaunch_weight, .int xlaunch_place, .int xlaunch_stiff, .int xlaunch_angle, .int xlaunch_pushes, .int xlaunch_pace, .int xlaunch_bend, .int xlaunch_off, .int xlaunch_range, .int xlaunch_rise, .int xlaunch_rounds, .int xlaunch_heightThere])), ((h 30), .inl (cy 0, 13, .inl xlaunch_told)), ((h 31), .inr (5, [.ref (h 32), .ref (h 34), .int xreader_itemsSeen, .int xreader_at, .int xreader_start, .int xreader_token, .int xreader_number])), ((h 32), .inr (7, [.int (13 : Int32), .ref (h 33), .int xreader_throwsTold_rows])), ((h 33), .inl (cy 0, 156, .inl xreader_throwsTold_cells)), ((h 34), .inl (cy 0, 13, .inl xreader_told)), ((h 35), .inr (0, [.ref (h 36), .ref (h 37), .int xfinds_cut, .int xfinds_areTwoKinds])), ((h 36), .inl (cy 0, 12, .inl xfinds_sorted)), ((h 37), .inl (cy 0, 64, .inl xfinds_ways)), ((h 38), .inr (4, [.ref (h 39), .ref (h 41), .ref (h 43), .int xweights_heaviest])), ((h 39), .inr (3, [.ref (h 40), .int xweights_one_size])), ((h 40), .inl (cy 0, 6, .inl xweights_one_limbs)), ((h 41), .inr (3, [.ref (h 42), .int xweights_all_size])), ((h 42), .inl (cy 0, 6, .inl xweights_all_limbs)), ((h 43), .inr (3, [.ref (h 44), .int xweights_most_size])), ((h 44), .inl (cy 0, 6, .inl xweights_most_limbs)), ((h 45), .inr (1, [.int sg, .ref (h 46), .ref (h 48)])), ((h 46), .inr (3, [.ref (h 47), .int (S 0)])), ((h 47), .inl (cy 0, 6, .inl cal)), ((h 48), .inr (3, [.ref (h 49), .int (S 1)])), ((h 49), .inl (cy 0, 6, .inl cbl)), ((h 50), .inl (cy 0, 3, .inl rf)), ((h 51), .inr (9, [.ref (h 52), .ref (h 53), .ref (h 54), .ref (h 55), .ref (h 56), .ref (h 57), .int sg, .int yreach, .int ystrength, .int ylag, .int ylength, .int yweight, .int yplace, .int ymass, .int ystiff, .int ytip, .int ytail, .int ypace, .int ybend, .int yoff, .int yrise, .int yrounds, .int yx, .int yy, .int yvx, .int yvy, .ref (h 58), .int ytokenAt, .int ytokenLong, .int ytoken, .int ynumber, .int yread, .int yhasArm, .int yhasHook, .int yhasDart, .int ythrowMany, .ref (h 59), .int yisGone])), ((h 52), .inl (cy 0, 398, .inl N)), ((h 53), .inl (cy 0, 796, .inl K)), ((h 54), .inl (cy 2, 2, .inl Z)), ((h 55), .inl (cy 0, 3, .inl rf)), ((h 56), .inl (cy 1, 640, .inr (.inl Lm))), ((h 57), .inl (cy 0, 10, .inl S)), ((h 58), .inl (cy 0, 64, .inl yways)), ((h 59), .inl (cy 0, 12, .inl yranges))]
abbrev lwG (cy : Nat → ClassId) (h : Nat → Nat) (N K Z rf : Nat → Int32) (sg : Int32) (Lm : Nat → Int64) (S cal cbl : Nat → Int32) (fim : Nat → Option Nat) (xlaunch_length xlaunch_weight xlaunch_place xlaunch_stiff xlaunch_angle xlaunch_pushes xlaunch_pace xlaunch_bend xlaunch_off xlaunch_range xlaunch_rise xlaunch_rounds xlaunch_heightThere : Int32) (xlaunch_told : Nat → Int32) (xreader_itemsSeen xreader_at xreader_start xreader_token xreader_number xreader_throwsTold_rows : Int32) (xreader_throwsTold_cells xreader_told : Nat → Int32) (xfinds_cut xfinds_areTwoKinds : Int32) (xfinds_sorted xfinds_ways : Nat → Int32) (xweights_heaviest xweights_one_size : Int32) (xweights_one_limbs : Nat → Int32) (xweights_all_size : Int32) (xweights_all_limbs : Nat → Int32) (xweights_most_size : Int32) (xweights_most_limbs : Nat → Int32) (yreach ystrength ylag ylength yweight yplace ymass ystiff ytip ytail ypace ybend yoff yrise yrounds yx yy yvx yvy ytokenAt ytokenLong ytoken ynumber yread yhasArm yhasHook yhasDart ythrowMany yisGone : Int32) (yways yranges : Nat → Int32) (r0 r1 r2 r3 r4 r5 r6 r7 r8 r9 r10 r11 r12 : Int32) (c0 c1 c2 c3 c4 c5 c6 c7 c8 c9 c10 c11 c12 crf : Nat → Int32) (csg casz cbsz : Int32) : va_W := [((h 0), .inr (8, [.ref (h 1), .ref (h 28), .ref (h 29), .ref (h 31), .ref (h 35), .ref (h 38), .ref (h 45), .ref (h 50)])), ((h 1), .inr (6, [.ref (h 2), .ref (h 4), .ref (h 6), .ref (h 8), .ref (h 10), .ref (h 12), .ref (h 14), .ref (h 16), .ref (h 18), .ref (h 20), .ref (h 22), .ref (h 24), .ref (h 26)])), ((h 2), .inr (7, [.int (3 : Int32), .ref (h 3), .int r0])), ((h 3), .inl (cy 0, 12, .inl c0)), ((h 4), .inr (7, [.int (3 : Int32), .ref (h 5), .int r1])), ((h 5), .inl (cy 0, 12, .inl c1)), ((h 6), .inr (7, [.int (4 : Int32), .ref (h 7), .int r2])), ((h 7), .inl (cy 0, 16, .inl c2)), ((h 8), .inr (7, [.int (2 : Int32), .ref (h 9), .int r3])), ((h 9), .inl (cy 0, 8, .inl c3)), ((h 10), .inr (7, [.int (2 : Int32), .ref (h 11), .int r4])), ((h 11), .inl (cy 0, 2, .inl c4)), ((h 12), .inr (7, [.int (3 : Int32), .ref (h 13), .int r5])), ((h 13), .inl (cy 0, 48, .inl c5)), ((h 14), .inr (7, [.int (1 : Int32), .ref (h 15), .int r6])), ((h 15), .inl (cy 0, 1, .inl c6)), ((h 16), .inr (7, [.int (4 : Int32), .ref (h 17), .int r7])), ((h 17), .inl (cy 0, 48, .inl c7)), ((h 18), .inr (7, [.int (1 : Int32), .ref (h 19), .int r8])), ((h 19), .inl (cy 0, 6, .inl c8)), ((h 20), .inr (7, [.int (1 : Int32), .ref (h 21), .int r9])), ((h 21), .inl (cy 0, 1, .inl c9)), ((h 22), .inr (7, [.int (7 : Int32), .ref (h 23), .int r10])), ((h 23), .inl (cy 0, 21, .inl c10)), ((h 24), .inr (7, [.int (2 : Int32), .ref (h 25), .int r11])), ((h 25), .inl (cy 0, 16, .inl c11)), ((h 26), .inr (7, [.int (1 : Int32), .ref (h 27), .int r12])), ((h 27), .inl (cy 0, 200, .inl c12)), ((h 28), .inl (cy 3, 2, .inr (.inr (.inr (.inr fim))))), ((h 29), .inr (2, [.ref (h 30), .int xlaunch_length, .int xlaunch_weight, .int xlaunch_place, .int xlaunch_stiff, .int xlaunch_angle, .int xlaunch_pushes, .int xlaunch_pace, .int xlaunch_bend, .int xlaunch_off, .int xlaunch_range, .int xlaunch_rise, .int xlaunch_rounds, .int xlaunch_heightThere])), ((h 30), .inl (cy 0, 13, .inl xlaunch_told)), ((h 31), .inr (5, [.ref (h 32), .ref (h 34), .int xreader_itemsSeen, .int xreader_at, .int xreader_start, .int xreader_token, .int xreader_number])), ((h 32), .inr (7, [.int (13 : Int32), .ref (h 33), .int xreader_throwsTold_rows])), ((h 33), .inl (cy 0, 156, .inl xreader_throwsTold_cells)), ((h 34), .inl (cy 0, 13, .inl xreader_told)), ((h 35), .inr (0, [.ref (h 36), .ref (h 37), .int xfinds_cut, .int xfinds_areTwoKinds])), ((h 36), .inl (cy 0, 12, .inl xfinds_sorted)), ((h 37), .inl (cy 0, 64, .inl xfinds_ways)), ((h 38), .inr (4, [.ref (h 39), .ref (h 41), .ref (h 43), .int xweights_heaviest])), ((h 39), .inr (3, [.ref (h 40), .int xweights_one_size])), ((h 40), .inl (cy 0, 6, .inl xweights_one_limbs)), ((h 41), .inr (3, [.ref (h 42), .int xweights_all_size])), ((h 42), .inl (cy 0, 6, .inl xweights_all_limbs)), ((h 43), .inr (3, [.ref (h 44), .int xweights_most_size])), ((h 44), .inl (cy 0, 6, .inl xweights_most_limbs)), ((h 45), .inr (1, [.int csg, .ref (h 46), .ref (h 48)])), ((h 46), .inr (3, [.ref (h 47), .int casz])), ((h 47), .inl (cy 0, 6, .inl cal)), ((h 48), .inr (3, [.ref (h 49), .int cbsz])), ((h 49), .inl (cy 0, 6, .inl cbl)), ((h 50), .inl (cy 0, 3, .inl crf)), ((h 51), .inr (9, [.ref (h 52), .ref (h 53), .ref (h 54), .ref (h 55), .ref (h 56), .ref (h 57), .int sg, .int yreach, .int ystrength, .int ylag, .int ylength, .int yweight, .int yplace, .int ymass, .int ystiff, .int ytip, .int ytail, .int ypace, .int ybend, .int yoff, .int yrise, .int yrounds, .int yx, .int yy, .int yvx, .int yvy, .ref (h 58), .int ytokenAt, .int ytokenLong, .int ytoken, .int ynumber, .int yread, .int yhasArm, .int yhasHook, .int yhasDart, .int ythrowMany, .ref (h 59), .int yisGone])), ((h 52), .inl (cy 0, 398, .inl N)), ((h 53), .inl (cy 0, 796, .inl K)), ((h 54), .inl (cy 2, 2, .inl Z)), ((h 55), .inl (cy 0, 3, .inl rf)), ((h 56), .inl (cy 1, 640, .inr (.inl Lm))), ((h 57), .inl (cy 0, 10, .inl S)), ((h 58), .inl (cy 0, 64, .inl yways)), ((h 59), .inl (cy 0, 12, .inl yranges))]
def lawNext (X : jX) (k n : Nat) (Qf : Unit → State → Prop) (b : Nat) (i : Int32) (h : Nat → Nat) (K Z : Nat → Int32) (fim : Nat → Option Nat) (wt : va_W) : Prop := ∀ (N rf : Nat → Int32) (sg : Int32) (Lm : Nat → Int64) (S cal cbl : Nat → Int32) (xlaunch_length xlaunch_weight xlaunch_place xlaunch_stiff xlaunch_angle xlaunch_pushes xlaunch_pace xlaunch_bend xlaunch_off xlaunch_range xlaunch_rise xlaunch_rounds xlaunch_heightThere : Int32) (xlaunch_told : Nat → Int32) (xreader_itemsSeen xreader_at xreader_start xreader_token xreader_number xreader_throwsTold_rows : Int32) (xreader_throwsTold_cells xreader_told : Nat → Int32) (xfinds_cut xfinds_areTwoKinds : Int32) (xfinds_sorted xfinds_ways : Nat → Int32) (xweights_heaviest xweights_one_size : Int32) (xweights_one_limbs : Nat → Int32) (xweights_all_size : Int32) (xweights_all_limbs : Nat → Int32) (xweights_most_size : Int32) (xweights_most_limbs : Nat → Int32) (yreach ystrength ylag ylength yweight yplace ymass ystiff ytip ytail ypace ybend yoff yrise yrounds yx yy yvx yvy ytokenAt ytokenLong ytoken ynumber yread yhasArm yhasHook yhasDart ythrowMany yisGone : Int32) (yways yranges : Nat → Int32), RelC N K Z rf sg Lm S cal cbl → jJ X 4 k n Qf 1584 [(0, .ref b), (1, .ref (h 0)), (2, .ref (h 51)), (3, .int i)] [] (lwB (jy X) h N K Z rf sg Lm S cal cbl fim xlaunch_length xlaunch_weight xlaunch_place xlaunch_stiff xlaunch_angle xlaunch_pushes xlaunch_pace xlaunch_bend xlaunch_off xlaunch_range xlaunch_rise xlaunch_rounds xlaunch_heightThere xlaunch_told xreader_itemsSeen xreader_at xreader_start xreader_token xreader_number xreader_throwsTold_rows xreader_throwsTold_cells xreader_told xfinds_cut xfinds_areTwoKinds xfinds_sorted xfinds_ways xweights_heaviest xweights_one_size xweights_one_limbs xweights_all_size xweights_all_limbs xweights_most_size xweights_most_limbs yreach ystrength ylag ylength yweight yplace ymass ystiff ytip ytail ypace ybend yoff yrise yrounds yx yy yvx yvy ytokenAt ytokenLong ytoken ynumber yread yhasArm yhasHook yhasDart ythrowMany yisGone yways yranges ++ wt) (some ())
set_option maxRecDepth 100000 in
set_option maxHeartbeats 4000000 in
theorem law_fin {X : jX} {k n b : Nat} {Qf : Unit → State → Prop} {i : Int32} {h : Nat → Nat} {wt : va_W} {N K Z rf : Nat → Int32} {sg : Int32} {Lm : Nat → Int64} {S cal cbl : Nat → Int32} {fim : Nat → Option Nat} {xlaunch_length xlaunch_weight xlaunch_place xlaunch_stiff xlaunch_angle xlaunch_pushes xlaunch_pace xlaunch_bend xlaunch_off xlaunch_range xlaunch_rise xlaunch_rounds xlaunch_heightThere : Int32} {xlaunch_told : Nat → Int32} {xreader_itemsSeen xreader_at xreader_start xreader_token xreader_number xreader_throwsTold_rows : Int32} {xreader_throwsTold_cells xreader_told : Nat → Int32} {xfinds_cut xfinds_areTwoKinds : Int32} {xfinds_sorted xfinds_ways : Nat → Int32} {xweights_heaviest xweights_one_size : Int32} {xweights_one_limbs : Nat → Int32} {xweights_all_size : Int32} {xweights_all_limbs : Nat → Int32} {xweights_most_size : Int32} {xweights_most_limbs : Nat → Int32} {yreach ystrength ylag ylength yweight yplace ymass ystiff ytip ytail ypace ybend yoff yrise yrounds yx yy yvx yvy ytokenAt ytokenLong ytoken ynumber yread yhasArm yhasHook yhasDart ythrowMany yisGone : Int32} {yways yranges : Nat → Int32} {r0 r1 r2 r3 r4 r5 r6 r7 r8 r9 r10 r11 r12 : Int32} {c0 c1 c2 c3 c4 c5 c6 c7 c8 c9 c10 c11 c12 crf : Nat → Int32} {csg casz cbsz : Int32} (hA : RelAll N K Z rf sg Lm S r0 r1 r2 r3 r4 r5 r6 r7 r8 r9 r10 r11 r12 c0 c1 c2 c3 c4 c5 c6 c7 c8 c9 c10 c11 c12 crf csg casz cbsz cal cbl) (next : lawNext X k n Qf b i h K Z fim wt) : jJ X 4 k n Qf 1584 [(0, .ref b), (1, .ref (h 0)), (2, .ref (h 51)), (3, .int i)] [] (lwG (jy X) h N K Z rf sg Lm S cal cbl fim xlaunch_length xlaunch_weight xlaunch_place xlaunch_stiff xlaunch_angle xlaunch_pushes xlaunch_pace xlaunch_bend xlaunch_off xlaunch_range xlaunch_rise xlaunch_rounds xlaunch_heightThere xlaunch_told xreader_itemsSeen xreader_at xreader_start xreader_token xreader_number xreader_throwsTold_rows xreader_throwsTold_cells xreader_told xfinds_cut xfinds_areTwoKinds xfinds_sorted xfinds_ways xweights_heaviest xweights_one_size xweights_one_limbs xweights_all_size xweights_all_limbs xweights_most_size xweights_most_limbs yreach ystrength ylag ylength yweight yplace ymass ystiff ytip ytail ypace ybend yoff yrise yrounds yx yy yvx yvy ytokenAt ytokenLong ytoken ynumber yread yhasArm yhasHook yhasDart ythrowMany yisGone yways yranges r0 r1 r2 r3 r4 r5 r6 r7 r8 r9 r10 r11 r12 c0 c1 c2 c3 c4 c5 c6 c7 c8 c9 c10 c11 c12 crf csg casz cbsz ++ wt) (some ()) := by
  obtain ⟨a1, a2, ⟨⟨rfl, rfl, rfl, rfl, rfl, rfl, rfl, rfl, rfl, rfl, rfl, rfl, rfl⟩, g0, g1, g2, g3, g4, g5, g6, g7, g8, g9, g10, g11, g12⟩, gr, rfl, rfl, rfl, a3⟩ := hA
  refine j_cong (wb := lwB (jy X) h N K Z rf csg Lm S cal cbl fim xlaunch_length xlaunch_weight xlaunch_place xlaunch_stiff xlaunch_angle xlaunch_pushes xlaunch_pace xlaunch_bend xlaunch_off xlaunch_range xlaunch_rise xlaunch_rounds xlaunch_heightThere xlaunch_told xreader_itemsSeen xreader_at xreader_start xreader_token xreader_number xreader_throwsTold_rows xreader_throwsTold_cells xreader_told xfinds_cut xfinds_areTwoKinds xfinds_sorted xfinds_ways xweights_heaviest xweights_one_size xweights_one_limbs xweights_all_size xweights_all_limbs xweights_most_size xweights_most_limbs yreach ystrength ylag ylength yweight yplace ymass ystiff ytip ytail ypace ybend yoff yrise yrounds yx yy yvx yvy ytokenAt ytokenLong ytoken ynumber yread yhasArm yhasHook yhasDart ythrowMany yisGone yways yranges) ⟨Or.inl rfl, Or.inl rfl, Or.inl rfl, Or.inr ⟨_, _, _, _, _, rfl, rfl, g0⟩, Or.inl rfl, Or.inr ⟨_, _, _, _, _, rfl, rfl, g1⟩, Or.inl rfl, Or.inr ⟨_, _, _, _, _, rfl, rfl, g2⟩, Or.inl rfl, Or.inr ⟨_, _, _, _, _, rfl, rfl, g3⟩, Or.inl rfl, Or.inr ⟨_, _, _, _, _, rfl, rfl, g4⟩, Or.inl rfl, Or.inr ⟨_, _, _, _, _, rfl, rfl, g5⟩, Or.inl rfl, Or.inr ⟨_, _, _, _, _, rfl, rfl, g6⟩, Or.inl rfl, Or.inr ⟨_, _, _, _, _, rfl, rfl, g7⟩, Or.inl rfl, Or.inr ⟨_, _, _, _, _, rfl, rfl, g8⟩, Or.inl rfl, Or.inr ⟨_, _, _, _, _, rfl, rfl, g9⟩, Or.inl rfl, Or.inr ⟨_, _, _, _, _, rfl, rfl, g10⟩, Or.inl rfl, Or.inr ⟨_, _, _, _, _, rfl, rfl, g11⟩, Or.inl rfl, Or.inr ⟨_, _, _, _, _, rfl, rfl, g12⟩, Or.inl rfl, Or.inl rfl, Or.inl rfl, Or.inl rfl, Or.inl rfl, Or.inl rfl, Or.inl rfl, Or.inl rfl, Or.inl rfl, Or.inl rfl, Or.inl rfl, Or.inl rfl, Or.inl rfl, Or.inl rfl, Or.inl rfl, Or.inl rfl, Or.inl rfl, Or.inl rfl, Or.inl rfl, Or.inl rfl, Or.inl rfl, Or.inl rfl, Or.inr ⟨_, _, _, _, _, rfl, rfl, gr⟩, Or.inl rfl, Or.inl rfl, Or.inl rfl, Or.inl rfl, Or.inl rfl, Or.inl rfl, Or.inl rfl, Or.inl rfl, Or.inl rfl, trivial⟩ (next N rf csg Lm S cal cbl xlaunch_length xlaunch_weight xlaunch_place xlaunch_stiff xlaunch_angle xlaunch_pushes xlaunch_pace xlaunch_bend xlaunch_off xlaunch_range xlaunch_rise xlaunch_rounds xlaunch_heightThere xlaunch_told xreader_itemsSeen xreader_at xreader_start xreader_token xreader_number xreader_throwsTold_rows xreader_throwsTold_cells xreader_told xfinds_cut xfinds_areTwoKinds xfinds_sorted xfinds_ways xweights_heaviest xweights_one_size xweights_one_limbs xweights_all_size xweights_all_limbs xweights_most_size xweights_most_limbs yreach ystrength ylag ylength yweight yplace ymass ystiff ytip ytail ypace ybend yoff yrise yrounds yx yy yvx yvy ytokenAt ytokenLong ytoken ynumber yread yhasArm yhasHook yhasDart ythrowMany yisGone yways yranges ⟨a1, a2, ⟨⟨rfl, rfl, rfl, rfl, rfl, rfl, rfl, rfl, rfl, rfl, rfl, rfl, rfl⟩, fun _ _ => rfl, fun _ _ => rfl, fun _ _ => rfl, fun _ _ => rfl, fun _ _ => rfl, fun _ _ => rfl, fun _ _ => rfl, fun _ _ => rfl, fun _ _ => rfl, fun _ _ => rfl, fun _ _ => rfl, fun _ _ => rfl, fun _ _ => rfl⟩, fun _ _ => rfl, rfl, rfl, rfl, a3⟩)
theorem csRL_13 : jV RL 13 RX8 yX8_arm cX8_arm 4 (some .int) 3 := ⟨wm384, wm385, wm386, wm74, wm387, by decide +kernel⟩
theorem csRL_17 : jV RL 17 RX9 yX9_arm cX9_arm 4 (some .int) 3 := ⟨wm1030, wm1031, wm1032, wm83, wm1033, by decide +kernel⟩
theorem csRL_18 : jV RL 18 RX8 yX8_hook cX8_hook 4 (some .int) 3 := ⟨wm426, wm427, wm428, wm74, wm429, by decide +kernel⟩
theorem csRL_21 : jV RL 21 RX9 yX9_hook cX9_hook 4 (some .int) 3 := ⟨wm1060, wm1061, wm1062, wm83, wm1063, by decide +kernel⟩
theorem csRL_22 : jV RL 22 RX8 yX8_dart cX8_dart 5 (some .int) 4 := ⟨wm430, wm431, wm432, wm74, wm433, by decide +kernel⟩
theorem csRL_26 : jV RL 26 RX9 yX9_dart cX9_dart 6 (some .int) 4 := ⟨wm1067, wm1068, wm1069, wm83, wm1070, by decide +kernel⟩
theorem csRL_27 : jV RL 27 RX8 yX8_fling cX8_fling 8 (some .int) 7 := ⟨wm434, wm435, wm436, wm74, wm437, by decide +kernel⟩
theorem csRL_31 : jV RL 31 RX9 yX9_fling cX9_fling 8 (some .int) 7 := ⟨wm1076, wm1077, wm1078, wm83, wm1079, by decide +kernel⟩
theorem csRL_32 : jV RL 32 RX8 yX8_strikes cX8_strikes 7 (some .int) 5 := ⟨wm485, wm486, wm487, wm74, wm488, by decide +kernel⟩
theorem csRL_36 : jV RL 36 RX9 yX9_strikes cX9_strikes 7 (some .int) 5 := ⟨wm1123, wm1124, wm1125, wm83, wm1126, by decide +kernel⟩
theorem csRL_37 : jV RL 37 RX8 yX8_length cX8_length 9 (some .int) 4 := ⟨wm489, wm490, wm491, wm74, wm492, by decide +kernel⟩
theorem csRL_40 : jV RL 40 RX9 yX9_length cX9_length 9 (some .int) 4 := ⟨wm1129, wm1130, wm1131, wm83, wm1132, by decide +kernel⟩
theorem csRL_41 : jV RL 41 RX8 yX8_straight cX8_straight 7 (some .int) 4 := ⟨wm494, wm495, wm496, wm74, wm497, by decide +kernel⟩
theorem csRL_44 : jV RL 44 RX9 yX9_straight cX9_straight 7 (some .int) 4 := ⟨wm1133, wm1134, wm1135, wm83, wm1136, by decide +kernel⟩
theorem csRL_45 : jV RL 45 RX8 yX8_contest cX8_contest 10 (some .int) 6 := ⟨wm499, wm500, wm501, wm74, wm502, by decide +kernel⟩
theorem csRL_49 : jV RL 49 RX9 yX9_contest cX9_contest 10 (some .int) 6 := ⟨wm1137, wm1138, wm1139, wm83, wm1140, by decide +kernel⟩
theorem csRL_50 : jV RL 50 RX8 yX8_story cX8_story 4 (some .int) 3 := ⟨wm503, wm504, wm505, wm74, wm506, by decide +kernel⟩
theorem csRL_53 : jV RL 53 RX9 yX9_story cX9_story 6 (some .int) 3 := ⟨wm1141, wm1142, wm1143, wm83, wm1144, by decide +kernel⟩
theorem csRL_54 : jV RL 54 RX8 yX8_tries cX8_tries 3 (some .int) 2 := ⟨wm508, wm509, wm510, wm74, wm511, by decide +kernel⟩
theorem csRL_58 : jV RL 58 RX9 yX9_tries cX9_tries 3 (some .int) 2 := ⟨wm1148, wm1149, wm1150, wm83, wm1151, by decide +kernel⟩
theorem csRL_59 : jV RL 59 RX8 yX8_odds cX8_odds 2 (some .int) 1 := ⟨wm512, wm513, wm514, wm74, wm515, by decide +kernel⟩
theorem csRL_63 : jV RL 63 RX9 yX9_odds cX9_odds 3 (some .int) 1 := ⟨wm1153, wm1154, wm1155, wm83, wm1156, by decide +kernel⟩
theorem csRL_64 : jV RL 64 RX8 yX8_parts cX8_parts 1 (some .int) 0 := ⟨wm592, wm593, wm594, wm74, wm595, by decide +kernel⟩
theorem csRL_68 : jV RL 68 RX9 yX9_parts cX9_parts 3 (some .int) 0 := ⟨wm1213, wm1214, wm1215, wm83, wm1216, by decide +kernel⟩
theorem csRL_69 : jV RL 69 RX8 yX8_person cX8_person 4 (some .int) 3 := ⟨wm596, wm597, wm598, wm74, wm599, by decide +kernel⟩
theorem csRL_73 : jV RL 73 RX9 yX9_person cX9_person 4 (some .int) 3 := ⟨wm1217, wm1218, wm1219, wm83, wm1220, by decide +kernel⟩
theorem csRL_74 : jV RL 74 RX8 yX8_praise cX8_praise 2 (some .int) 1 := ⟨wm600, wm601, wm602, wm74, wm603, by decide +kernel⟩
theorem csRL_77 : jV RL 77 RX9 yX9_praise cX9_praise 3 (some .int) 1 := ⟨wm1222, wm1223, wm1224, wm83, wm1225, by decide +kernel⟩
theorem csRL_78 : jV RL 78 RX8 yX8_pairs cX8_pairs 5 (some .int) 0 := ⟨wm604, wm605, wm606, wm74, wm607, by decide +kernel⟩
theorem csRL_81 : jV RL 81 RX9 yX9_pairs cX9_pairs 5 (some .int) 0 := ⟨wm1227, wm1228, wm1229, wm83, wm1230, by decide +kernel⟩
theorem csRL_82 : jV RL 82 RX8 yX8_span cX8_span 9 (some .int) 2 := ⟨wm618, wm619, wm620, wm74, wm621, by decide +kernel⟩
theorem csRL_85 : jV RL 85 RX9 yX9_span cX9_span 9 (some .int) 2 := ⟨wm1243, wm1244, wm1245, wm83, wm1246, by decide +kernel⟩
theorem csRL_86 : jV RL 86 RX8 yX8_thorn cX8_thorn 5 (some .int) 4 := ⟨wm623, wm624, wm625, wm74, wm626, by decide +kernel⟩
theorem csRL_89 : jV RL 89 RX9 yX9_thorn cX9_thorn 7 (some .int) 4 := ⟨wm1247, wm1248, wm1249, wm83, wm1250, by decide +kernel⟩
theorem csRL_90 : jV RL 90 RX8 yX8_kinds cX8_kinds 2 (some .int) 1 := ⟨wm627, wm628, wm629, wm74, wm630, by decide +kernel⟩
theorem csRL_93 : jV RL 93 RX9 yX9_kinds cX9_kinds 6 (some .int) 1 := ⟨wm1251, wm1252, wm1253, wm83, wm1254, by decide +kernel⟩
theorem csRL_94 : jV RL 94 RX8 yX8_land cX8_land 5 (some .int) 1 := ⟨wm648, wm649, wm650, wm74, wm651, by decide +kernel⟩
theorem csRL_97 : jV RL 97 RX9 yX9_land cX9_land 6 (some .int) 1 := ⟨wm1271, wm1272, wm1273, wm83, wm1274, by decide +kernel⟩
theorem csRL_98 : jV RL 98 RX8 yX8_butt cX8_butt 2 (some .int) 1 := ⟨wm652, wm653, wm654, wm74, wm655, by decide +kernel⟩
theorem csRL_101 : jV RL 101 RX9 yX9_butt cX9_butt 3 (some .int) 1 := ⟨wm1275, wm1276, wm1277, wm83, wm1278, by decide +kernel⟩
theorem csRL_102 : jV RL 102 RX8 yX8_play cX8_play 2 (some .int) 1 := ⟨wm656, wm657, wm658, wm74, wm659, by decide +kernel⟩
theorem csRL_105 : jV RL 105 RX9 yX9_play cX9_play 3 (some .int) 1 := ⟨wm1279, wm1280, wm1281, wm83, wm1282, by decide +kernel⟩
theorem csRL_106 : jV RL 106 RX8 yX8_which cX8_which 6 (some .int) 2 := ⟨wm660, wm661, wm662, wm74, wm663, by decide +kernel⟩
theorem csRL_109 : jV RL 109 RX9 yX9_which cX9_which 4 (some .int) 2 := ⟨wm1283, wm1284, wm1285, wm83, wm1286, by decide +kernel⟩
theorem csRL_110 : jV RL 110 RX8 yX8_hands cX8_hands 7 (some .int) 3 := ⟨wm682, wm683, wm684, wm74, wm685, by decide +kernel⟩
theorem csRL_113 : jV RL 113 RX9 yX9_hands cX9_hands 7 (some .int) 3 := ⟨wm1295, wm1296, wm1297, wm83, wm1298, by decide +kernel⟩
theorem csRL_114 : jV RL 114 RX8 yX8_known cX8_known 4 (some .int) 3 := ⟨wm686, wm687, wm688, wm74, wm689, by decide +kernel⟩
theorem csRL_117 : jV RL 117 RX9 yX9_known cX9_known 6 (some .int) 3 := ⟨wm1300, wm1301, wm1302, wm83, wm1303, by decide +kernel⟩
theorem csRL_118 : jV RL 118 RX8 yX8_prior cX8_prior 3 (some .int) 2 := ⟨wm690, wm691, wm692, wm74, wm693, by decide +kernel⟩
theorem csRL_121 : jV RL 121 RX9 yX9_prior cX9_prior 4 (some .int) 2 := ⟨wm1310, wm1311, wm1312, wm83, wm1313, by decide +kernel⟩
theorem csRL_122 : jV RL 122 RX8 yX8_tip cX8_tip 6 (some .int) 2 := ⟨wm694, wm695, wm696, wm74, wm697, by decide +kernel⟩
theorem csRL_125 : jV RL 125 RX9 yX9_tip cX9_tip 5 (some .int) 2 := ⟨wm1314, wm1315, wm1316, wm83, wm1317, by decide +kernel⟩
theorem csRL_126 : jV RL 126 RX8 yX8_layer cX8_layer 4 (some .int) 3 := ⟨wm706, wm707, wm708, wm74, wm709, by decide +kernel⟩
theorem csRL_129 : jV RL 129 RX9 yX9_layer cX9_layer 6 (some .int) 3 := ⟨wm1326, wm1327, wm1328, wm83, wm1329, by decide +kernel⟩
theorem csRL_130 : jV RL 130 RX8 yX8_came cX8_came 7 (some .int) 1 := ⟨wm710, wm711, wm712, wm74, wm713, by decide +kernel⟩
theorem csRL_133 : jV RL 133 RX9 yX9_came cX9_came 8 (some .int) 1 := ⟨wm1331, wm1332, wm1333, wm83, wm1334, by decide +kernel⟩
theorem csRL_136 : jV RL 136 RX8 yX8_type cX8_type 5 (some .int) 2 := ⟨wm718, wm719, wm720, wm74, wm721, by decide +kernel⟩
theorem csRL_140 : jV RL 140 RX9 yX9_type cX9_type 5 (some .int) 2 := ⟨wm1335, wm1336, wm1337, wm83, wm1338, by decide +kernel⟩
theorem csRL_141 : jV RL 141 RX8 yX8_clear cX8_clear 2 (some .int) 0 := ⟨wm722, wm723, wm724, wm74, wm725, by decide +kernel⟩
theorem csRL_144 : jV RL 144 RX9 yX9_clear cX9_clear 2 (some .int) 0 := ⟨wm1345, wm1346, wm1347, wm83, wm1348, by decide +kernel⟩
theorem csRL_145 : jV RL 145 RX8 yX8_fault cX8_fault 1 (some .int) 0 := ⟨wm726, wm727, wm728, wm74, wm729, by decide +kernel⟩
theorem csRL_148 : jV RL 148 RX9 yX9_fault cX9_fault 1 (some .int) 0 := ⟨wm1349, wm1350, wm1351, wm83, wm1352, by decide +kernel⟩
theorem csRL_149 : jV RL 149 RX8 yX8_plan cX8_plan 2 (some .int) 1 := ⟨wm835, wm836, wm837, wm74, wm838, by decide +kernel⟩
theorem csRL_152 : jV RL 152 RX9 yX9_plan cX9_plan 2 (some .int) 1 := ⟨wm1407, wm1408, wm1409, wm83, wm1410, by decide +kernel⟩
theorem csRL_153 : jV RL 153 RX8 yX8_sign cX8_sign 2 (some .int) 1 := ⟨wm839, wm840, wm841, wm74, wm842, by decide +kernel⟩
theorem csRL_156 : jV RL 156 RX9 yX9_sign cX9_sign 2 (some .int) 1 := ⟨wm1411, wm1412, wm1413, wm83, wm1414, by decide +kernel⟩
theorem csRL_157 : jV RL 157 RX8 yX8_limb cX8_limb 4 (some .int) 2 := ⟨wm843, wm844, wm845, wm74, wm846, by decide +kernel⟩
theorem csRL_160 : jV RL 160 RX9 yX9_limb cX9_limb 3 (some .int) 2 := ⟨wm1415, wm1416, wm1417, wm83, wm1418, by decide +kernel⟩
theorem csRL_169 : jV RL 169 RX8 yX8_status cX8_status 2 (some .int) 1 := ⟨wm866, wm867, wm868, wm74, wm869, by decide +kernel⟩
theorem csRL_172 : jV RL 172 RX9 yX9_status cX9_status 2 (some .int) 1 := ⟨wm1427, wm1428, wm1429, wm83, wm1430, by decide +kernel⟩
theorem csRL_173 : jV RL 173 RX8 yX8_count cX8_count 2 (some .int) 1 := ⟨wm870, wm871, wm872, wm74, wm873, by decide +kernel⟩
theorem csRL_176 : jV RL 176 RX9 yX9_count cX9_count 2 (some .int) 1 := ⟨wm1431, wm1432, wm1433, wm83, wm1434, by decide +kernel⟩
theorem csRL_177 : jV RL 177 RX8 yX8_digest cX8_digest 4 (some .long) 0 := ⟨wm878, wm879, wm880, wm74, wm881, by decide +kernel⟩
theorem csRL_181 : jV RL 181 RX9 yX9_digest cX9_digest 5 (some .long) 0 := ⟨wm1439, wm1440, wm1441, wm83, wm1442, by decide +kernel⟩
