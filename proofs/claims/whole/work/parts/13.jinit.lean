/-! rows for cells that are made, and for branches that are known -/
theorem va_upS {α : Type} (f : Nat → α) (k : Nat) (v : α) : va_up f k v k = v := if_pos rfl
section JNEW
variable {ρ ρ' : Type} {X : jX} {cc : ByteArray} {nL k n k' n' : Nat} {own : String} {rm : Room} {ret : Option FieldType} {Qf : ρ → State → Prop} {pc : Nat} {lv : List (Nat × Value)} {st : List Value} {ws : va_W} {e : Option ρ} {idx : Nat} {a : Nat}
theorem j_num {v v' : Int32} (h : v = v') (K : jJ X nL k n Qf pc lv (.int v' :: st) ws e) : jJ X nL k n Qf pc lv (.int v :: st) ws e := h ▸ K
theorem j_iinc0 (hC : jC X cc nL own rm ret) (q : Nat) {i : Nat} {z : Int} {x c v : Int32} {lv' : List (Nat × Value)} (hx : lv[q]? = some (i, .int x)) (hc : Int32.ofInt z = c) (hv : x + c = v) (hl : (i, Value.int v) :: lv.filter (fun q => !(q.1 == i) && !(q.1 + 1 == i && q.2.category == 2)) = lv') (hn : i < nL) (d : decode cc pc = .ok (.iinc i z, 3)) (K : jJ X nL k n Qf (pc + 3) lv' st ws e) : jJ X nL k n Qf pc lv st ws e := fun r hr H locs ls hP hD hS h => lv_iinc (v := v) hC.ex hC.co d h hx (by rw [hc, hv]) hn hl (fun ls' h' => K r hr H locs ls' hP hD hS h')
theorem j_icmpgeT (hC : jC X cc nL own rm ret) {x y : Int32} {off : Int} (tgt : Nat) (h : y ≤ x) (ht : (pc : Int) + off = (tgt : Int)) (d : decode cc pc = .ok (.if_icmp .ge off, 3)) (K : jJ X nL k n Qf tgt lv st ws e) : jJ X nL k n Qf pc lv (.int y :: .int x :: st) ws e := fun r hr H locs ls hP hD hS hl => lv_icmp_ge hC.ex hC.co d ht (fun _ => K r hr H locs ls hP hD hS hl) (fun c => absurd h c)
theorem j_icmpgeF (hC : jC X cc nL own rm ret) {x y : Int32} {off : Int} (h : ¬ y ≤ x) (d : decode cc pc = .ok (.if_icmp .ge off, 3)) (K : jJ X nL k n Qf (pc + 3) lv st ws e) (tgt : Nat := ((pc : Int) + off).toNat) (ht : (pc : Int) + off = (tgt : Int) := by decide) : jJ X nL k n Qf pc lv (.int y :: .int x :: st) ws e := fun r hr H locs ls hP hD hS hl => lv_icmp_ge hC.ex hC.co d ht (fun c => absurd c h) (fun _ => K r hr H locs ls hP hD hS hl)
theorem j_nnR (hC : jC X cc nL own rm ret) {off : Int} (tgt : Nat) (ht : (pc : Int) + off = (tgt : Int)) (d : decode cc pc = .ok (.ifnonnull off, 3)) (K : jJ X nL k n Qf tgt lv st ws e) : jJ X nL k n Qf pc lv (.ref a :: st) ws e := fun r hr H locs ls hP hD hS hl => lv_ifnonnull hC.ex hC.co d ht (K r hr H locs ls hP hD hS hl)
theorem j_nnN (hC : jC X cc nL own rm ret) {off : Int} (d : decode cc pc = .ok (.ifnonnull off, 3)) (K : jJ X nL k n Qf (pc + 3) lv st ws e) : jJ X nL k n Qf pc lv (.null :: st) ws e := fun r hr H locs ls hP hD hS hl => lv_ifnonnullN hC.ex hC.co d (K r hr H locs ls hP hD hS hl)
theorem j_new (hC : jC X cc nL own rm ret) {C : String} {T : u_T} {N ci : Nat} {fs : List Value} (hci : vwCl[ci]? = some (C, T, N)) (hin : ∀ w ∈ u_ws C T N, w ∈ jG) (t0 : Nat → FieldType) (hty : ∀ k, k < N → parseFieldDescriptor (T k).2.2.1 = some (t0 k)) (w1 : Cond.classLink own idx C ∈ jG) (w2 : Cond.instantiable C N ∈ jG) (w3 : Cond.initialized C ∈ jG) (hfs : ∀ j, j < N → defaultValue (t0 j) = vp_V fs j) (hk : k + 1 = k' ∧ n + N = n' ∧ k' ≤ rm.cells ∧ n' ≤ rm.slots) (d : decode cc pc = .ok (.new idx, 3)) (K : ∀ q : Nat, jJ X nL k' n' Qf (pc + 3) lv (.ref q :: st) (ws ++ [(q, .inr (ci, fs))]) e) : jJ X nL k n Qf pc lv st ws e := fun r hr H locs ls hP hD hS hl => by
  have hR := hC.R
  obtain ⟨h1, h2, h3, h4⟩ := hk
  subst h1; subst h2
  exact va_new hC.ex hC.co hC.ts hin t0 hty hC.ow (hC.ts _ w1) (hC.ts _ w2) (hC.ts _ w3) hC.K hP hD hS hC.A hci hfs (by rw [hR]; exact h3) (by rw [hR]; exact h4) d (fun q H1 hP1 hD1 hS1 => K q r hr H1 locs ls hP1 hD1 hS1 hl)
theorem j_newa (hC : jC X cc nL own rm ret) {at0 : ArrayType} {N : Nat} {a0 : vp_A} {z : Int32} (t0 : Nat) (ht : (jT (jy X))[t0]? = some (jy X t0, newarray.typeOf at0)) (w : Cond.arrayClass (newarray.typeOf at0) ∈ jG) (ha : ∀ cA : ClassId, vp_cell cA a0 = arrV cA N (fun _ => defaultValue (newarray.typeOf at0))) (hz : ¬ z < 0) (hN : z.toNatClampNeg = N) (hb : N * componentBytes (newarray.typeOf at0) ≤ 536870912) (hk : k + 1 = k' ∧ n + N = n' ∧ k' ≤ rm.cells ∧ n' ≤ rm.slots) (d : decode cc pc = .ok (.newarray at0, 2)) (K : ∀ q : Nat, jJ X nL k' n' Qf (pc + 2) lv (.ref q :: st) (ws ++ [(q, .inl (jy X t0, a0))]) e) : jJ X nL k n Qf pc lv (.int z :: st) ws e := fun r hr H locs ls hP hD hS hl => by
  have hR := hC.R
  obtain ⟨h1, h2, h3, h4⟩ := hk
  subst h1; subst h2
  refine va_newa (atype := at0) hC.ex hC.co (hC.ts _ w) rfl hC.K hP hD hS hC.A ha hz hN hb (by rw [hR]; exact h3) (by rw [hR]; exact h4) d (fun q cA H1 hK1 hP1 hD1 hS1 => ?_)
  have e1 : va_RA (js X) cA (newarray.typeOf at0) := (hK1.2 (jT (jy X)).length (cA, newarray.typeOf at0) (by rw [List.getElem?_append_right (Nat.le_refl _), Nat.sub_self]; rfl)).2
  have e2 : va_RA (js X) (jy X t0) (newarray.typeOf at0) := (hC.K.2 t0 _ ht).2
  have e3 : cA = jy X t0 := by
    cases at0 <;> exact Option.some.inj (Eq.trans (Eq.symm e1) e2)
  subst e3
  exact K q r hr H1 locs ls hP1 hD1 hS1 hl
theorem j_newq (hC : jC X cc nL own rm ret) {N : Nat} {z : Int32} (w : Cond.classLink own idx "ThrowHook$State" ∈ jG) (hz : ¬ z < 0) (hN : z.toNatClampNeg = N) (hb : N * 4 ≤ 536870912) (hk : k + 1 = k' ∧ n + N = n' ∧ k' ≤ rm.cells ∧ n' ≤ rm.slots) (d : decode cc pc = .ok (.anewarray idx, 3)) (K : ∀ q : Nat, jJ X nL k' n' Qf (pc + 3) lv (.ref q :: st) (ws ++ [(q, .inl (jy X 3, N, .inr (.inr (.inr (.inr (fun _ => none))))))]) e) : jJ X nL k n Qf pc lv (.int z :: st) ws e := fun r hr H locs ls hP hD hS hl => by
  have hR := hC.R
  obtain ⟨h1, h2, h3, h4⟩ := hk
  subst h1; subst h2
  refine va_newq hC.ex hC.co hC.ow (hC.ts _ w) hC.S.2.2.2.2.2.2 hC.K hP hD hS hC.A hz hN hb (by rw [hR]; exact h3) (by rw [hR]; exact h4) d (fun q cA H1 hK1 hP1 hD1 hS1 => ?_)
  obtain ⟨kA, comp, a1, a2, a3, a4⟩ : va_RA (js X) cA (.object "ThrowHook$State") := (hK1.2 (jT (jy X)).length (cA, .object "ThrowHook$State") (by rw [List.getElem?_append_right (Nat.le_refl _), Nat.sub_self]; rfl)).2
  obtain ⟨kB, comb, b1, b2, b3, b4⟩ : va_RA (js X) (jy X 3) (.object "ThrowHook$State") := (hC.K.2 3 _ rfl).2
  have e3 : cA = jy X 3 := Option.some.inj (a4.symm.trans b4)
  subst e3
  exact K q r hr H1 locs ls hP1 hD1 hS1 hl
theorem j_iast0 (hC : jC X cc nL own rm ret) (q0 : Nat) {N j : Nat} {f : Nat → Int32} {i z : Int32} (he : ws[q0]? = some (a, .inl (jy X 0, N, .inl f))) (hj : i.toNatClampNeg = j) (hin : ¬ i < 0 ∧ j < N) (d : decode cc pc = .ok (.iastore, 1)) {ws' : va_W} (hw : ws.set q0 (a, .inl (jy X 0, N, .inl (upd f j z))) = ws') (K : jJ X nL k n Qf (pc + 1) lv st ws' e) : jJ X nL k n Qf pc lv (.int z :: .int i :: .ref a :: st) ws e := fun r hr H locs ls hP hD hS hl => by
  subst hj
  exact va_iast hC.ex hC.co hC.K hP hD hS q0 0 he rfl (fun q => by rcases q with q | q; exact hin.1 q; omega) d (fun H1 locs1 hP1 hD1 hS1 => K r hr H1 locs1 ls (hw ▸ hP1) (hw ▸ hD1) hS1 hl)
theorem j_aldq (hC : jC X cc nL own rm ret) (q0 : Nat) {N : Nat} {f : Nat → Option Nat} {i : Int32} {v : Value} (he : ws[q0]? = some (a, .inl (jy X 3, N, .inr (.inr (.inr (.inr f)))))) (hv : va_rf (f i.toNatClampNeg) = v) (d : decode cc pc = .ok (.aaload, 1)) (K : jJ X nL k n Qf (pc + 1) lv (v :: st) ws e) : jJ X nL k n Qf pc lv (.int i :: .ref a :: st) ws (jg i N e) := fun r hr H locs ls hP hD hS hl => va_aldq hC.ex hC.co hC.K hP q0 3 he rfl (jg_some hr).1 d (by rw [hv]; exact K r (jg_some hr).2 H locs ls hP hD hS hl)
theorem j_astq (hC : jC X cc nL own rm ret) (q0 qk : Nat) {N v ci : Nat} {f : Nat → Option Nat} {i : Int32} {vs : List Value} {T : u_T} {M : Nat} (he : ws[q0]? = some (a, .inl (jy X 3, N, .inr (.inr (.inr (.inr f)))))) (hk : ws[qk]? = some (v, .inr (ci, vs))) (hc : vwCl[ci]? = some ("ThrowHook$State", T, M)) (d : decode cc pc = .ok (.aastore, 1)) {ws' : va_W} (hw : ws.set q0 (a, .inl (jy X 3, N, .inr (.inr (.inr (.inr (va_up f i.toNatClampNeg (some v))))))) = ws') (K : jJ X nL k n Qf (pc + 1) lv st ws' e) : jJ X nL k n Qf pc lv (.ref v :: .int i :: .ref a :: st) ws (jg i N e) := fun r hr H locs ls hP hD hS hl => va_astq (r := ("ThrowHook$State", T, M)) hC.ex hC.co hC.K hP hD hS q0 3 qk ci he rfl hk hc (jg_some hr).1 d (fun H1 locs1 hP1 hD1 hS1 => K r (jg_some hr).2 H1 locs1 ls (hw ▸ hP1) (hw ▸ hD1) hS1 hl)
variable {is : List Nat} {f : ρ' → Option ρ} {wn : ρ' → (Nat → Nat) → va_W}
theorem jkvn {w : ρ' → (Nat → Nat) → va_W} (hup : ∀ r na, jup ws is (wn r na) = w r na) (K : ∀ r na, jJ X nL k n Qf pc lv st (w r na) (f r)) (r : ρ') (na : Nat → Nat) : jJ X nL k n Qf pc lv (((fun _ => none) r : Option Value).toList ++ st) (jup ws is (wn r na)) (f r) := by
  rw [hup]; exact K r na
end JNEW
