section JV0
variable {ρ : Type} {X : jX} {nL k n : Nat} {Qf : ρ → State → Prop} {pc : Nat} {lv : List (Nat × Value)} {st : List Value} {ws : va_W}
theorem j_v {e : Option ρ} (e' : Option ρ) (h : e' = e) (K : jJ X nL k n Qf pc lv st ws e') : jJ X nL k n Qf pc lv st ws e := h ▸ K
theorem j_if {A B : Option ρ} (c : Prop) {i : Decidable c} (kt : c → jJ X nL k n Qf pc lv st ws A) (kf : ¬ c → jJ X nL k n Qf pc lv st ws B) : jJ X nL k n Qf pc lv st ws (@ite _ c i A B) := by
  by_cases h : c
  · rw [if_pos h]; exact kt h
  · rw [if_neg h]; exact kf h
end JV0
/-! texts that are constants -/
def jlen (i : Nat) : Int32 := Int32.ofNat (jLen.getD i 0)
def jchr (i : Nat) (x : Int32) : Int32 := ((((jByt.getD i []).getD x.toNatClampNeg 0) &&& 255).toUInt32 % 65536).toInt32
def fJ3_checkIndex (x n : Int32) : Option Int32 := if x < 0 then none else (if x < n then some x else none)
def fJ0_checkIndex (x n : Int32) : Option Unit := ob (fJ3_checkIndex x n) (fun _ => some ())
def fJ0_charAt (i : Nat) (x : Int32) : Option Int32 := ob (fJ0_checkIndex x (jlen i)) (fun _ => jg x (jLen.getD i 0) (some (jchr i x)))
def rJ0a : Room := { frames := 0, cells := 0, slots := 0, locals := 0 }
def rJ0b : Room := { frames := 1, cells := 0, slots := 0, locals := 40 }
def rJ0c : Room := { frames := 2, cells := 0, slots := 0, locals := 70 }
def rJ0d : Room := { frames := 3, cells := 0, slots := 0, locals := 100 }
theorem cs_coder : jV RJ0 335 RJ0 yJ0_coder_7d493 cJ0_coder_7d493 1 (some .byte) 0 := ⟨wm767, wm768, wm769, wm88, wm770, by decide +kernel⟩
theorem cs_isLatin1 : jV RJ0 492 RJ0 yJ0_isLatin1_aae02 cJ0_isLatin1_aae02 1 (some .boolean) 0 := ⟨wm777, wm778, wm779, wm88, wm780, by decide +kernel⟩
theorem cs_l1charAt : jSt RJ0 495 yJ1_charAt_3b067 cJ1_charAt_3b067 2 (some .char) 2 := ⟨wm781, wm782, wm89, wm783, by decide +kernel⟩
theorem cs_chk : jSt RJ1 9 yJ0_checkIndex_df160 cJ0_checkIndex_df160 2 none 2 := ⟨wm784, wm785, wm88, wm786, by decide +kernel⟩
theorem cs_pre : jSt RJ0 1059 yJ3_checkIndex_8e157 cJ3_checkIndex_8e157 3 (some .int) 3 := ⟨wm789, wm790, wm90, wm791, by decide +kernel⟩
theorem csRX5_90 : jV RX5 90 RJ0 yJ0_length_8abf5 cJ0_length_8abf5 1 (some .int) 0 := ⟨wm763, wm764, wm765, wm88, wm766, by decide +kernel⟩
theorem csRX5_100 : jV RX5 100 RJ0 yJ0_charAt_5068e cJ0_charAt_5068e 2 (some .char) 1 := ⟨wm773, wm774, wm775, wm88, wm776, by decide +kernel⟩
section JSTR
variable {ρ ρ' : Type} {X : jX} {cc : ByteArray} {nL k n : Nat} {own : String} {rm : Room} {ret : Option FieldType} {Qf : ρ → State → Prop} {pc : Nat} {lv : List (Nat × Value)} {st : List Value} {ws : va_W} {e : Option ρ} {idx : Nat} {i : Nat}
theorem j_sval (hC : jC X cc nL own rm ret) (hi : i < 4) (w : Cond.fieldLink own idx "java/lang/String" "value" "[B" ∈ jG) (d : decode cc pc = .ok (.getfield idx, 3)) (K : jJ X nL k n Qf (pc + 3) lv (.ref ((jv X).2.2 i) :: st) ws e) : jJ X nL k n Qf pc lv (.ref ((jv X).2.1 i) :: st) ws e := fun r hr H locs ls hP hD hS hl => vk_getf hC.ex hC.co (hC.S.2.1.1 i hi).2.2.1 hS hC.ow (hC.ts _ w) (fun _ z => z) d (K r hr H locs ls hP hD hS hl)
theorem j_scod (hC : jC X cc nL own rm ret) (hi : i < 4) (w : Cond.fieldLink own idx "java/lang/String" "coder" "B" ∈ jG) (d : decode cc pc = .ok (.getfield idx, 3)) (K : jJ X nL k n Qf (pc + 3) lv (.int 0 :: st) ws e) : jJ X nL k n Qf pc lv (.ref ((jv X).2.1 i) :: st) ws e := fun r hr H locs ls hP hD hS hl => vk_getf hC.ex hC.co (hC.S.2.1.1 i hi).2.1 hS hC.ow (hC.ts _ w) (fun _ z => z) d (K r hr H locs ls hP hD hS hl)
theorem j_slen (hC : jC X cc nL own rm ret) (hi : i < 4) (d : decode cc pc = .ok (.arraylength, 1)) (K : jJ X nL k n Qf (pc + 1) lv (.int (jlen i) :: st) ws e) : jJ X nL k n Qf pc lv (.ref ((jv X).2.2 i) :: st) ws e := fun r hr H locs ls hP hD hS hl => va_tlen hC.ex hC.co (hC.S.2.1.1 i hi).2.2.2 hS rfl d (K r hr H locs ls hP hD hS hl)
theorem j_sald (hC : jC X cc nL own rm ret) (hi : i < 4) {x : Int32} (d : decode cc pc = .ok (.baload, 1)) (K : jJ X nL k n Qf (pc + 1) lv (.int ((jByt.getD i []).getD x.toNatClampNeg 0) :: st) ws e) : jJ X nL k n Qf pc lv (.int x :: .ref ((jv X).2.2 i) :: st) ws (jg x (jLen.getD i 0) e) := fun r hr H locs ls hP hD hS hl => va_tb hC.ex hC.co (hC.S.2.1.1 i hi).2.2.2 hS (jg_some hr).1 rfl d (K r (jg_some hr).2 H locs ls hP hD hS hl)
theorem j_scs (hC : jC X cc nL own rm ret) (w : Cond.fieldLink own idx "java/lang/String" "COMPACT_STRINGS" "Z" ∈ jG) (d : decode cc pc = .ok (.getstatic idx, 3)) (K : jJ X nL k n Qf (pc + 3) lv (.int 1 :: st) ws e) : jJ X nL k n Qf pc lv st ws e := fun r hr H locs ls hP hD hS hl => va_gets hC.ex hC.co hC.S.2.2.2.1 hS hC.ow (hC.ts _ w) (fun _ z => z) d (K r hr H locs ls hP hD hS hl)
theorem j_sfmt (hC : jC X cc nL own rm ret) (w : Cond.fieldLink own idx "jdk/internal/util/Preconditions" "SIOOBE_FORMATTER" "Ljava/util/function/BiFunction;" ∈ jG) (d : decode cc pc = .ok (.getstatic idx, 3)) (K0 : jJ X nL k n Qf (pc + 3) lv (.null :: st) ws e) (K : ∀ t : Nat, jJ X nL k n Qf (pc + 3) lv (.ref t :: st) ws e) : jJ X nL k n Qf pc lv st ws e := fun r hr H locs ls hP hD hS hl => by
  rcases hC.S.2.2.2.2.1 with h | ⟨t, h⟩
  · exact va_gets hC.ex hC.co h hS hC.ow (hC.ts _ w) (fun _ z => z) d (K0 r hr H locs ls hP hD hS hl)
  · exact va_gets hC.ex hC.co h hS hC.ow (hC.ts _ w) (fun _ z => z) d (K t r hr H locs ls hP hD hS hl)
theorem j_ldcS (hC : jC X cc nL RX5 rm ret) (i : Nat) {tx : String} (hq : jStr[i]? = some (idx, tx)) (d : decode cc pc = .ok (.ldc idx, 2)) (K : jJ X nL k n Qf (pc + 2) lv (.ref ((jv X).2.1 i) :: st) ws e) : jJ X nL k n Qf pc lv st ws e := fun r hr H locs ls hP hD hS hl => va_ldcS hC.ex hC.co hC.ow (hC.S.2.2.1 i _ hq) d (K r hr H locs ls hP hD hS hl)
theorem j_bret {ty : FieldType} {rv : ρ → Option Value} {wn : ρ → (Nat → Nat) → va_W} (hC : jC X cc nL own rm (some ty)) {r : ρ} {v : Int32} (na : Nat → Nat) (hn : narrow ty (.int v) = .int v) (hv : rv r = some (.int v)) (hw : wn r na = ws) (d : decode cc pc = .ok (.ireturn, 1)) : jJ X nL k n (jQf X k n rv wn) pc lv [.int v] ws (some r) := by
  intro r' hr H locs ls hP hD hS hl
  cases hr
  exact W.zret hC.ex hC.co hC.re hn (fun t ht hW => ⟨⟨na, by rw [hv], by rw [hw, ht]; exact hP, va_K.moved hW.alike hC.K, by rw [hw]; exact hD⟩, hS.F ht⟩) hS.2.2 d hC.lk
theorem j_callVs {wn : ρ' → (Nat → Nat) → va_W} {rv : ρ' → Option Value} {e' : Option ρ'} {f : ρ' → Option ρ} {y : MethodName} {b : ByteArray} {mL na0 k' n' : Nat} {ret' : Option FieldType} {rm' : Room} {stk : List Value} (hC : jC X cc nL own rm ret) (hi : i < 4) (V : jV own idx RJ0 y b mL ret' na0) (As : List Value) (hM : jM (jl X) y b mL ret' rm' (.ref ((jv X).2.1 i) :: As) [] wn rv e' (jD X) (jy X) (jv X)) (hr : jroom rm rm' mL k n k' n') (hst : stk = As.reverse ++ .ref ((jv X).2.1 i) :: st) (hna : As.length = na0) (hcat : (st.map fun v => v.category).sum ≤ 8) (d : decode cc pc = .ok (.invokevirtual idx, 3))
    (K : ∀ (r' : ρ') (na : Nat → Nat), jJ X nL k' n' Qf (pc + 3) lv ((rv r').toList ++ st) (jup ws [] (wn r' na)) (f r')) : jJ X nL k n Qf pc lv stk ws (ob e' f) := by
  obtain ⟨r1, r2, r3, r4, r5, r6⟩ := hr
  subst r3; subst r4
  refine j_callG hC [] (wc := []) rfl (Value.ref ((jv X).2.1 i) :: As).toArray (fun r' h1 H locs ls hP hD hS hl hF => ?_) K
  obtain ⟨v1, v2, v3, v4, v5, v6⟩ := V
  have hR := hC.R
  exact va_runV hC.fix (hM r' h1 H.size) (cwV na0 hC.ts (jG_V v1 v2 v3 v4 v5) rfl rfl rfl v6 ⟨by rw [hR]; exact r1, by rw [hR]; exact r2⟩) ⟨jPc_blind, vk_recv hC.S.2.1 hi hS, jpre hC hP hD hS [] rfl rfl hF⟩ rfl hna hl.1 hst (lv_room hcat) d ⟨by rw [hR]; exact r5, by rw [hR]; exact r6⟩
end JSTR
theorem mJ3_checkIndexN (l : Launch) (D : va_G) (cy : Nat → ClassId) (ev : jE) (p0 p1 : Int32) : jM l yJ3_checkIndex_8e157 cJ3_checkIndex_8e157 3 (some .int) rJ0a [.int p0, .int p1, .null] [] (fun (_ : Int32) _ => []) (fun (r : Int32) => some (.int r)) (fJ3_checkIndex p0 p1) D cy ev := j_met RJ3 (by decide +kernel) rfl (Nat.le_of_ble_eq_true rfl) (fun X hC _ hD hy hv => by
  unfold fJ3_checkIndex
  refine j_iload_n (pc := 0) (lv := [(0, .int p0), (1, .int p1), (2, .null)]) hC 0 rfl dJ3_checkIndex_8e157_0 ?_
  refine j_iflt (pc := 1) hC 9 (by decide) dJ3_checkIndex_8e157_1 j_none ?_
  refine j_iload_n (pc := 4) hC 0 rfl dJ3_checkIndex_8e157_4 ?_
  refine j_iload_n (pc := 5) hC 1 rfl dJ3_checkIndex_8e157_5 ?_
  refine j_icmplt (pc := 6) hC 16 (by decide) dJ3_checkIndex_8e157_6 ?_ j_none
  refine j_iload_n (pc := 16) hC 0 rfl dJ3_checkIndex_8e157_16 ?_
  exact j_iret (pc := 17) hC (fun _ => 0) rfl rfl dJ3_checkIndex_8e157_17)
theorem mJ3_checkIndexR (l : Launch) (D : va_G) (cy : Nat → ClassId) (ev : jE) (t : Nat) (p0 p1 : Int32) : jM l yJ3_checkIndex_8e157 cJ3_checkIndex_8e157 3 (some .int) rJ0a [.int p0, .int p1, .ref t] [] (fun (_ : Int32) _ => []) (fun (r : Int32) => some (.int r)) (fJ3_checkIndex p0 p1) D cy ev := j_met RJ3 (by decide +kernel) rfl (Nat.le_of_ble_eq_true rfl) (fun X hC _ hD hy hv => by
  unfold fJ3_checkIndex
  refine j_iload_n (pc := 0) (lv := [(0, .int p0), (1, .int p1), (2, .ref t)]) hC 0 rfl dJ3_checkIndex_8e157_0 ?_
  refine j_iflt (pc := 1) hC 9 (by decide) dJ3_checkIndex_8e157_1 j_none ?_
  refine j_iload_n (pc := 4) hC 0 rfl dJ3_checkIndex_8e157_4 ?_
  refine j_iload_n (pc := 5) hC 1 rfl dJ3_checkIndex_8e157_5 ?_
  refine j_icmplt (pc := 6) hC 16 (by decide) dJ3_checkIndex_8e157_6 ?_ j_none
  refine j_iload_n (pc := 16) hC 0 rfl dJ3_checkIndex_8e157_16 ?_
  exact j_iret (pc := 17) hC (fun _ => 0) rfl rfl dJ3_checkIndex_8e157_17)
theorem mJ0_checkIndex (l : Launch) (D : va_G) (cy : Nat → ClassId) (ev : jE) (p0 p1 : Int32) : jM l yJ0_checkIndex_df160 cJ0_checkIndex_df160 2 none rJ0b [.int p0, .int p1] [] (fun (_ : Unit) _ => []) (fun (_ : Unit) => none) (fJ0_checkIndex p0 p1) D cy ev := j_met RJ0 (by decide +kernel) rfl (Nat.le_of_ble_eq_true rfl) (fun X hC _ hD hy hv => by
  unfold fJ0_checkIndex
  refine j_iload_n (pc := 0) (lv := [(0, .int p0), (1, .int p1)]) hC 0 rfl dJ0_checkIndex_df160_0 ?_
  refine j_iload_n (pc := 1) hC 1 rfl dJ0_checkIndex_df160_1 ?_
  refine j_sfmt (pc := 2) hC wm787 dJ0_checkIndex_df160_2 ?_ (fun t => ?_)
  · refine j_callS (pc := 5) hC cs_pre [.int p0, .int p1, .null] (mJ3_checkIndexN (jl X) (jD X) (jy X) (jv X) p0 p1) [] rfl (by decide +kernel) ⟨by decide, by decide, rfl, rfl, by decide, by decide⟩ rfl rfl (Nat.le_of_ble_eq_true rfl) dJ0_checkIndex_df160_5 (jki0 (fun _ => rfl) (fun _ _ => rfl) (fun r1 => ?_))
    refine j_pop (pc := 8) hC rfl dJ0_checkIndex_df160_8 ?_
    exact j_vret (pc := 9) hC (fun _ => 0) rfl rfl dJ0_checkIndex_df160_9
  · refine j_callS (pc := 5) hC cs_pre [.int p0, .int p1, .ref t] (mJ3_checkIndexR (jl X) (jD X) (jy X) (jv X) t p0 p1) [] rfl (by decide +kernel) ⟨by decide, by decide, rfl, rfl, by decide, by decide⟩ rfl rfl (Nat.le_of_ble_eq_true rfl) dJ0_checkIndex_df160_5 (jki0 (fun _ => rfl) (fun _ _ => rfl) (fun r1 => ?_))
    refine j_pop (pc := 8) hC rfl dJ0_checkIndex_df160_8 ?_
    exact j_vret (pc := 9) hC (fun _ => 0) rfl rfl dJ0_checkIndex_df160_9)
theorem mJ0_coder (l : Launch) (D : va_G) (cy : Nat → ClassId) (ev : jE) (i : Nat) (hi : i < 4) : jM l yJ0_coder_7d493 cJ0_coder_7d493 1 (some .byte) rJ0a [.ref (ev.2.1 i)] [] (fun (_ : Int32) _ => []) (fun (r : Int32) => some (.int r)) (some 0) D cy ev := j_met RJ0 (by decide +kernel) rfl (Nat.le_of_ble_eq_true rfl) (fun X hC _ hD hy hv => by
  subst hv
  refine j_scs (pc := 0) (lv := [(0, .ref ((jv X).2.1 i))]) hC wm771 dJ0_coder_7d493_0 ?_
  refine j_v (if (1 : Int32) = 0 then none else some 0) (by rw [if_neg (by decide)]) ?_
  refine j_ifeq (pc := 3) hC 13 (by decide) dJ0_coder_7d493_3 j_none ?_
  refine j_aload_n (pc := 6) hC 0 rfl dJ0_coder_7d493_6 ?_
  refine j_scod (pc := 7) hC hi wm1451 dJ0_coder_7d493_7 ?_
  refine j_goto (pc := 10) hC 14 (by decide) dJ0_coder_7d493_10 ?_
  exact j_bret (pc := 14) hC (fun _ => 0) (by decide) rfl rfl dJ0_coder_7d493_14)
theorem mJ0_isLatin1 (l : Launch) (D : va_G) (cy : Nat → ClassId) (ev : jE) (i : Nat) (hi : i < 4) : jM l yJ0_isLatin1_aae02 cJ0_isLatin1_aae02 1 (some .boolean) rJ0a [.ref (ev.2.1 i)] [] (fun (_ : Int32) _ => []) (fun (r : Int32) => some (.int r)) (some 1) D cy ev := j_met RJ0 (by decide +kernel) rfl (Nat.le_of_ble_eq_true rfl) (fun X hC _ hD hy hv => by
  subst hv
  refine j_scs (pc := 0) (lv := [(0, .ref ((jv X).2.1 i))]) hC wm771 dJ0_isLatin1_aae02_0 ?_
  refine j_v (if (1 : Int32) = 0 then none else if (0 : Int32) = 0 then some 1 else none) (by rw [if_neg (by decide), if_pos rfl]) ?_
  refine j_ifeq (pc := 3) hC 17 (by decide) dJ0_isLatin1_aae02_3 j_none ?_
  refine j_aload_n (pc := 6) hC 0 rfl dJ0_isLatin1_aae02_6 ?_
  refine j_scod (pc := 7) hC hi wm1451 dJ0_isLatin1_aae02_7 ?_
  refine j_ifne (pc := 10) hC 17 (by decide) dJ0_isLatin1_aae02_10 j_none ?_
  refine j_iconst (pc := 13) hC ki_1 dJ0_isLatin1_aae02_13 ?_
  refine j_goto (pc := 14) hC 18 (by decide) dJ0_isLatin1_aae02_14 ?_
  exact j_bret (pc := 18) hC (fun _ => 0) (by decide) rfl rfl dJ0_isLatin1_aae02_18)
theorem mJ0_length (l : Launch) (D : va_G) (cy : Nat → ClassId) (ev : jE) (i : Nat) (hi : i < 4) : jM l yJ0_length_8abf5 cJ0_length_8abf5 1 (some .int) rJ0b [.ref (ev.2.1 i)] [] (fun (_ : Int32) _ => []) (fun (r : Int32) => some (.int r)) (some (jlen i)) D cy ev := j_met RJ0 (by decide +kernel) rfl (Nat.le_of_ble_eq_true rfl) (fun X hC _ hD hy hv => by
  subst hv; subst hD; subst hy
  refine j_v (ob (some (0 : Int32)) (fun r => some (jlen i >>> (r &&& 31)))) (by show some (jlen i >>> ((0 : Int32) &&& 31)) = _; rw [sb_shr0]) ?_
  refine j_aload_n (pc := 0) (lv := [(0, .ref ((jv X).2.1 i))]) hC 0 rfl dJ0_length_8abf5_0 ?_
  refine j_sval (pc := 1) hC hi wm1450 dJ0_length_8abf5_1 ?_
  refine j_slen (pc := 4) hC hi dJ0_length_8abf5_4 ?_
  refine j_aload_n (pc := 5) hC 0 rfl dJ0_length_8abf5_5 ?_
  refine j_callVs (pc := 6) hC hi cs_coder [] (mJ0_coder (jl X) (jD X) (jy X) (jv X) i hi) ⟨by decide, by decide, rfl, rfl, by decide, by decide⟩ rfl rfl (Nat.le_of_ble_eq_true rfl) dJ0_length_8abf5_6 (jki0 (fun _ => rfl) (fun _ _ => rfl) (fun r1 => ?_))
  refine j_ishr (pc := 9) hC dJ0_length_8abf5_9 ?_
  exact j_iret (pc := 10) hC (fun _ => 0) rfl rfl dJ0_length_8abf5_10)
theorem mJ1_charAt (l : Launch) (D : va_G) (cy : Nat → ClassId) (ev : jE) (i : Nat) (hi : i < 4) (p1 : Int32) : jM l yJ1_charAt_3b067 cJ1_charAt_3b067 2 (some .char) rJ0c [.ref (ev.2.2 i), .int p1] [] (fun (_ : Int32) _ => []) (fun (r : Int32) => some (.int r)) (fJ0_charAt i p1) D cy ev := j_met RJ1 (by decide +kernel) rfl (Nat.le_of_ble_eq_true rfl) (fun X hC _ hD hy hv => by
  subst hv; subst hD; subst hy
  unfold fJ0_charAt
  refine j_iload_n (pc := 0) (lv := [(0, .ref ((jv X).2.2 i)), (1, .int p1)]) hC 1 rfl dJ1_charAt_3b067_0 ?_
  refine j_aload_n (pc := 1) hC 0 rfl dJ1_charAt_3b067_1 ?_
  refine j_slen (pc := 2) hC hi dJ1_charAt_3b067_2 ?_
  refine j_callS (pc := 3) hC cs_chk [.int p1, .int (jlen i)] (mJ0_checkIndex (jl X) (jD X) (jy X) (jv X) p1 (jlen i)) [] rfl (by decide +kernel) ⟨by decide, by decide, rfl, rfl, by decide, by decide⟩ rfl rfl (Nat.le_of_ble_eq_true rfl) dJ1_charAt_3b067_3 (jkv (fun r1 _ => (rfl : @Eq va_W _ [])) (fun r1 => ?_))
  refine j_aload_n (pc := 6) hC 0 rfl dJ1_charAt_3b067_6 ?_
  refine j_iload_n (pc := 7) hC 1 rfl dJ1_charAt_3b067_7 ?_
  refine j_sald (pc := 8) hC hi dJ1_charAt_3b067_8 ?_
  refine j_sipush (pc := 9) hC (v := 255) (by decide) dJ1_charAt_3b067_9 ?_
  refine j_iand (pc := 12) hC dJ1_charAt_3b067_12 ?_
  refine j_i2c (pc := 13) hC dJ1_charAt_3b067_13 ?_
  exact j_bret (pc := 14) hC (fun _ => 0) (pk_nc _) rfl rfl dJ1_charAt_3b067_14)
theorem jchr_nc (i : Nat) (x : Int32) : narrow .char (.int (jchr i x)) = .int (jchr i x) := pk_nc _
theorem fJ0_charAt_r {i : Nat} {x r : Int32} (h : fJ0_charAt i x = some r) : narrow .char (.int r) = .int r := by
  unfold fJ0_charAt at h
  obtain ⟨_, _, h⟩ := ob_some h
  have h2 := (jg_some h).2
  cases h2
  exact pk_nc _
def fJ0_charAtZ (i : Nat) (x : Int32) : Option Int32 := ob (fJ0_charAt i x) (fun r => if narrow .char (.int r) = .int r then some r else none)
theorem fJ0_charAtZ_eq (i : Nat) (x : Int32) : fJ0_charAt i x = fJ0_charAtZ i x := by
  unfold fJ0_charAtZ
  cases h : fJ0_charAt i x with
  | none => rfl
  | some r =>
    show some r = if _ then _ else _
    rw [if_pos (fJ0_charAt_r h)]
theorem mJ0_charAt (l : Launch) (D : va_G) (cy : Nat → ClassId) (ev : jE) (i : Nat) (hi : i < 4) (p1 : Int32) : jM l yJ0_charAt_5068e cJ0_charAt_5068e 2 (some .char) rJ0d [.ref (ev.2.1 i), .int p1] [] (fun (_ : Int32) _ => []) (fun (r : Int32) => some (.int r)) (fJ0_charAt i p1) D cy ev := j_met RJ0 (by decide +kernel) rfl (Nat.le_of_ble_eq_true rfl) (fun X hC _ hD hy hv => by
  subst hv; subst hD; subst hy
  refine j_v (ob (some (1 : Int32)) (fun r => if r = 0 then none else fJ0_charAtZ i p1)) (by show (if (1 : Int32) = 0 then none else fJ0_charAtZ i p1) = _; rw [if_neg (by decide), fJ0_charAtZ_eq]) ?_
  refine j_aload_n (pc := 0) (lv := [(0, .ref ((jv X).2.1 i)), (1, .int p1)]) hC 0 rfl dJ0_charAt_5068e_0 ?_
  refine j_callVs (pc := 1) hC hi cs_isLatin1 [] (mJ0_isLatin1 (jl X) (jD X) (jy X) (jv X) i hi) ⟨by decide, by decide, rfl, rfl, by decide, by decide⟩ rfl rfl (Nat.le_of_ble_eq_true rfl) dJ0_charAt_5068e_1 (jki0 (fun _ => rfl) (fun _ _ => rfl) (fun r1 => ?_))
  refine j_ifeq (pc := 4) hC 16 (by decide) dJ0_charAt_5068e_4 j_none ?_
  unfold fJ0_charAtZ
  refine j_aload_n (pc := 7) hC 0 rfl dJ0_charAt_5068e_7 ?_
  refine j_sval (pc := 8) hC hi wm1450 dJ0_charAt_5068e_8 ?_
  refine j_iload_n (pc := 11) hC 1 rfl dJ0_charAt_5068e_11 ?_
  refine j_callS (pc := 12) hC cs_l1charAt [.ref ((jv X).2.2 i), .int p1] (mJ1_charAt (jl X) (jD X) (jy X) (jv X) i hi p1) [] rfl (by decide +kernel) ⟨by decide, by decide, rfl, rfl, by decide, by decide⟩ rfl rfl (Nat.le_of_ble_eq_true rfl) dJ0_charAt_5068e_12 (jki0 (fun _ => rfl) (fun _ _ => rfl) (fun r2 => ?_))
  refine j_if _ (fun c => ?_) (fun _ => j_none)
  exact j_bret (pc := 15) hC (fun _ => 0) c rfl rfl dJ0_charAt_5068e_15)
