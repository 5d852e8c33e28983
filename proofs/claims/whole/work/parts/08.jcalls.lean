/-! calls: the callee's cells are taken out by their places, and put back there; what it made comes behind -/
def jlook (k : Nat) : List Nat → va_W → Option (Nat × va_E)
  | i :: is, x :: w => match Nat.beq k i with
    | true => some x
    | false => jlook k is w
  | _, _ => none
def jupd (is : List Nat) (w : va_W) : Nat → va_W → va_W
  | _, [] => []
  | k, c :: ws => (match jlook k is w with
    | some x => x
    | none => c) :: jupd is w (k + 1) ws
def jrest : List Nat → va_W → va_W
  | [], w => w
  | _ :: is, _ :: w => jrest is w
  | _ :: _, [] => []
def jup (ws : va_W) (is : List Nat) (w : va_W) : va_W := match Nat.ble is.length w.length with
  | true => jupd is w 0 ws ++ jrest is w
  | false => []
/-- the place k of the whole is the place j of the new -/
def jphi (n : Nat) (is : List Nat) (j k : Nat) : Prop := is[j]? = some k ∨ (is.length ≤ j ∧ k = n + (j - is.length))
theorem jlook_some : ∀ (is : List Nat) (w : va_W) (k : Nat) (q : Nat × va_E), jlook k is w = some q → ∃ j : Nat, w[j]? = some q ∧ is[j]? = some k
  | [], w, k, q, h => by cases w <;> cases h
  | _ :: _, [], k, q, h => by cases h
  | i :: is, x :: w, k, q, h => by
    unfold jlook at h
    cases hb : Nat.beq k i with
    | true =>
      rw [hb] at h
      cases h
      exact ⟨0, rfl, by rw [Nat.eq_of_beq_eq_true hb]; rfl⟩
    | false =>
      rw [hb] at h
      obtain ⟨j, h1, h2⟩ := jlook_some is w k q h
      exact ⟨j + 1, by rw [List.getElem?_cons_succ]; exact h1, by rw [List.getElem?_cons_succ]; exact h2⟩
theorem jlook_none : ∀ (is : List Nat) (w : va_W) (k : Nat), jlook k is w = none → is.length ≤ w.length → k ∉ is
  | [], _, _, _, _ => List.not_mem_nil
  | _ :: _, [], _, _, hl => by simp at hl
  | i :: is, x :: w, k, h, hl => by
    unfold jlook at h
    cases hb : Nat.beq k i with
    | true => rw [hb] at h; cases h
    | false =>
      rw [hb] at h
      intro hm
      rcases List.mem_cons.mp hm with e | e
      · rw [e, Nat.beq_refl] at hb; cases hb
      · exact jlook_none is w k h (by simpa using hl) e
theorem jupd_len (is : List Nat) (w : va_W) : ∀ (ws : va_W) (k0 : Nat), (jupd is w k0 ws).length = ws.length
  | [], _ => rfl
  | _ :: ws, k0 => by unfold jupd; rw [List.length_cons, List.length_cons, jupd_len is w ws (k0 + 1)]
theorem jupd_at (is : List Nat) (w : va_W) : ∀ (ws : va_W) (k0 k : Nat) (q : Nat × va_E), (jupd is w k0 ws)[k]? = some q → jlook (k0 + k) is w = some q ∨ (jlook (k0 + k) is w = none ∧ ws[k]? = some q)
  | [], k0, k, q, h => by simp [jupd] at h
  | c :: ws, k0, k, q, h => by
    unfold jupd at h
    cases k with
    | zero =>
      rw [List.getElem?_cons_zero] at h
      cases hl : jlook k0 is w with
      | some x => rw [hl] at h; exact Or.inl h
      | none => rw [hl] at h; exact Or.inr ⟨rfl, h⟩
    | succ k =>
      rw [List.getElem?_cons_succ] at h
      have e : k0 + 1 + k = k0 + (k + 1) := by omega
      rcases jupd_at is w ws (k0 + 1) k q h with h1 | ⟨h1, h2⟩
      · exact Or.inl (e ▸ h1)
      · exact Or.inr ⟨e ▸ h1, by rw [List.getElem?_cons_succ]; exact h2⟩
theorem jrest_at : ∀ (is : List Nat) (w : va_W) (k : Nat) (q : Nat × va_E), (jrest is w)[k]? = some q → w[is.length + k]? = some q
  | [], w, k, q, h => by rw [List.length_nil, Nat.zero_add]; cases w <;> exact h
  | _ :: _, [], k, q, h => by simp [jrest] at h
  | i :: is, x :: w, k, q, h => by
    have h1 := jrest_at is w k q h
    rw [List.length_cons, show is.length + 1 + k = is.length + k + 1 by omega, List.getElem?_cons_succ]
    exact h1
theorem jup_at (is : List Nat) (w ws : va_W) (k : Nat) (q : Nat × va_E) (h : (jup ws is w)[k]? = some q) : (∃ j : Nat, w[j]? = some q ∧ jphi ws.length is j k) ∨ (k ∉ is ∧ ws[k]? = some q) := by
  unfold jup at h
  cases hbl : Nat.ble is.length w.length with
  | false => rw [hbl] at h; simp at h
  | true =>
  rw [hbl] at h
  have hle : is.length ≤ w.length := Nat.le_of_ble_eq_true hbl
  have h : (jupd is w 0 ws ++ jrest is w)[k]? = some q := h
  by_cases hl : k < ws.length
  · rw [List.getElem?_append_left (by rw [jupd_len]; exact hl)] at h
    rcases jupd_at is w ws 0 k q h with h1 | ⟨h1, h2⟩
    · rw [Nat.zero_add] at h1
      obtain ⟨j, a, b⟩ := jlook_some is w k q h1
      exact Or.inl ⟨j, a, Or.inl b⟩
    · rw [Nat.zero_add] at h1
      exact Or.inr ⟨jlook_none is w k h1 hle, h2⟩
  · rw [List.getElem?_append_right (by rw [jupd_len]; omega), jupd_len] at h
    exact Or.inl ⟨is.length + (k - ws.length), jrest_at is w _ q h, Or.inr ⟨by omega, by omega⟩⟩
theorem jphi_fun {n : Nat} {is : List Nat} {j k1 k2 : Nat} (h1 : jphi n is j k1) (h2 : jphi n is j k2) : k1 = k2 := by
  rcases h1 with h1 | ⟨a1, b1⟩ <;> rcases h2 with h2 | ⟨a2, b2⟩
  · exact Option.some.inj (h1.symm.trans h2)
  · have := (List.getElem?_eq_some_iff.mp h1).1; omega
  · have := (List.getElem?_eq_some_iff.mp h2).1; omega
  · omega
theorem jup_same (is : List Nat) (w ws : va_W) (h : is.map (fun i => ws[i]?) = w.map some) : jup ws is w = ws := by
  have hlen : is.length = w.length := by
    have := congrArg List.length h
    simpa using this
  have hat : ∀ (j k : Nat) (q : Nat × va_E), w[j]? = some q → is[j]? = some k → ws[k]? = some q := by
    intro j k q h1 h2
    have h3 : (is.map (fun i => ws[i]?))[j]? = some (some q) := by rw [h, List.getElem?_map, h1]; rfl
    rw [List.getElem?_map, h2] at h3
    exact Option.some.inj h3
  have hr : jrest is w = [] := by
    cases hc : jrest is w with
    | nil => rfl
    | cons x l =>
      have h1 := jrest_at is w 0 x (by rw [hc]; rfl)
      have := (List.getElem?_eq_some_iff.mp h1).1
      omega
  have hd : jupd is w 0 ws = ws := by
    apply List.ext_getElem?
    intro k
    by_cases hl : k < ws.length
    · have hl2 : k < (jupd is w 0 ws).length := by rw [jupd_len]; exact hl
      have hq := List.getElem?_eq_getElem hl2
      rcases jupd_at is w ws 0 k _ hq with h1 | ⟨h1, h2⟩
      · rw [Nat.zero_add] at h1
        obtain ⟨j, a, b⟩ := jlook_some is w k _ h1
        rw [hq, hat j k _ a b]
      · rw [hq, h2]
    · rw [List.getElem?_eq_none (by rw [jupd_len]; omega), List.getElem?_eq_none (by omega)]
  have hb : Nat.ble is.length w.length = true := by rw [hlen]; exact Nat.ble_self_eq_true w.length
  unfold jup
  rw [hb]
  show jupd is w 0 ws ++ jrest is w = ws
  rw [hr, hd, List.append_nil]
theorem jup_join {A : Nat → Prop} {D : va_G} {ws wc w1 : va_W} {H H1 : Heap} (hP : va_P D vwCl ws H) (hD : va_D A ws) (is : List Nat) (hC : is.map (fun i => ws[i]?) = wc.map some) (hk : ∀ q : Nat, q < H.size → ¬ va_A wc H.size q → H1[q]? = H[q]?) (hF : ∀ q, va_A wc H.size q → A q) (hP1 : va_P D vwCl w1 H1) (hD1 : va_D (va_A wc H.size) w1) : va_P D vwCl (jup ws is w1) H1 ∧ va_D A (jup ws is w1) := by
  have apart : ∀ (k : Nat) (q : Nat × va_E), k ∉ is → ws[k]? = some q → q.1 < H.size ∧ ¬ va_A wc H.size q.1 := by
    intro k q hki hq
    have hl := (hP k q hq).lt
    refine ⟨hl, fun h => ?_⟩
    rcases h with ⟨k2, e, h⟩ | h
    · have h1 : (is.map (fun i => ws[i]?))[k2]? = some (some (q.1, e)) := by rw [hC, List.getElem?_map, h]; rfl
      rw [List.getElem?_map] at h1
      cases hi : is[k2]? with
      | none => rw [hi] at h1; cases h1
      | some i =>
        rw [hi] at h1
        have h2 : ws[i]? = some (q.1, e) := Option.some.inj h1
        have hij := hD.1 k i q (q.1, e) hq h2 rfl
        subst hij
        exact hki (List.mem_of_getElem? hi)
    · omega
  refine ⟨fun k q hq => ?_, fun i j x y hx hy hxy => ?_, fun k q hq => ?_⟩
  · rcases jup_at is w1 ws k q hq with ⟨j, h1, -⟩ | ⟨h1, h2⟩
    · exact hP1 j q h1
    · obtain ⟨g1, g2⟩ := apart k q h1 h2
      exact (hP k q h2).kept (hk q.1 g1 g2)
  · rcases jup_at is w1 ws i x hx with ⟨j1, a1, b1⟩ | ⟨a1, b1⟩ <;> rcases jup_at is w1 ws j y hy with ⟨j2, a2, b2⟩ | ⟨a2, b2⟩
    · have e1 := hD1.1 j1 j2 x y a1 a2 hxy
      exact jphi_fun b1 (e1 ▸ b2)
    · exact absurd (hxy ▸ hD1.2 j1 x a1) (apart j y a2 b2).2
    · exact absurd (hxy.symm ▸ hD1.2 j2 y a2) (apart i x a1 b1).2
    · exact hD.1 i j x y b1 b2 hxy
  · rcases jup_at is w1 ws k q hq with ⟨j, h1, -⟩ | ⟨-, h2⟩
    · exact hF q.1 (hD1.2 j q h1)
    · exact hD.2 k q h2
section JCALL
variable {ρ ρ' : Type} {X : jX} {cc : ByteArray} {nL k n : Nat} {own : String} {rm : Room} {ret : Option FieldType} {Qf : ρ → State → Prop} {pc : Nat} {lv : List (Nat × Value)} {st stk : List Value} {ws wc : va_W} {e' : Option ρ'} {f : ρ' → Option ρ} {wn : ρ' → (Nat → Nat) → va_W} {rv : ρ' → Option Value}
theorem j_callG {mc ms : Nat} (hC : jC X cc nL own rm ret) (is : List Nat) (hw : is.map (fun i => ws[i]?) = wc.map some) (av : Array Value)
    (run : ∀ r' : ρ', e' = some r' → ∀ (H : Heap) (locs : List Loc) (ls : Array Slot), va_P (jD X) vwCl ws H → va_D (jA X) ws → va_S (jA X) (js X).heap H locs → lv_has ls nL lv → (∀ q, va_A wc H.size q → jA X q) → va_Run (jp X) (jl X) (je X) (jR X) (js X) (jm X) (ja X) (jb X) (jt X) (jc X) H locs k n mc ms (F0 (jm X) pc ls stk) st (jQ (rv r') (wn r') (jD X) (jy X) (va_A wc H.size) av) (va_A wc H.size))
    (K : ∀ (r' : ρ') (na : Nat → Nat), jJ X nL (k + mc) (n + ms) Qf (pc + 3) lv ((rv r').toList ++ st) (jup ws is (wn r' na)) (f r')) : jJ X nL k n Qf pc lv stk ws (ob e' f) := by
  intro r hr H locs ls hP hD hS hl
  obtain ⟨r', h1, h2⟩ := ob_some hr
  have hF : ∀ q, va_A wc H.size q → jA X q := va_free hD hS hC.A is hw
  intro T hT Y
  obtain ⟨v, st₀, t, T', L, h0, Y', hL, e1, e2, ⟨⟨na, hv, hp, hkk, hd⟩, hz, hkeep⟩, stp⟩ := run r' h1 H locs ls hP hD hS hl hF T hT Y
  have hv : v = rv r' := by cases hv; rfl
  subst hv
  rw [h0] at hz hkeep
  have hkp : ∀ q : Nat, q < H.size → ¬ va_A wc H.size q → T'.heap[q]? = H[q]? := fun q a b => by rw [e1]; exact hkeep q a b
  obtain ⟨hPj, hDj⟩ := jup_join hP hD is hw hkp hF (by rw [e1]; exact hp) hd
  have hS' : va_S (jA X) (js X).heap T'.heap (locs ++ L) := by
    refine ⟨Nat.le_trans hS.1 (by rw [e1]; exact hz), fun q g1 g2 => ?_, fun q hq => ?_⟩
    · rw [hkp q (Nat.lt_of_lt_of_le g1 hS.1) (fun z => g2 (hF q z))]
      exact hS.2.1 q g1 g2
    · rcases List.mem_append.mp hq with h | h
      · exact hS.2.2 q h
      · exact hF _ (hL q h)
  obtain ⟨t2, a1, b1⟩ := K r' na r h2 T'.heap (locs ++ L) ls hPj hDj hS' hl T' rfl Y'
  exact ⟨t2, stp t2 a1, b1⟩
/-- what a call by name needs of the tables -/
def jV (own : String) (idx : Nat) (C : String) (y : MethodName) (b : ByteArray) (mL : Nat) (ret : Option FieldType) (na : Nat) : Prop := Cond.methodLink own idx y ∈ jG ∧ Cond.instanceMethod y ∈ jG ∧ Cond.selects C y y ∈ jG ∧ Cond.initialized C ∈ jG ∧ Cond.code y b mL ret ∈ jG ∧ (y.cls = C ∧ y.cls ≠ "java/lang/invoke/MethodHandle" ∧ y.cls ≠ "java/lang/invoke/VarHandle" ∧ (parseMethodDescriptor y.desc).map (fun d => d.parameters.length) = some na)
def jSt (own : String) (idx : Nat) (y : MethodName) (b : ByteArray) (mL : Nat) (ret : Option FieldType) (na : Nat) : Prop := Cond.methodLink own idx y ∈ jG ∧ Cond.static y ∈ jG ∧ Cond.initialized y.cls ∈ jG ∧ Cond.code y b mL ret ∈ jG ∧ (y.cls ≠ "java/lang/invoke/MethodHandle" ∧ y.cls ≠ "java/lang/invoke/VarHandle" ∧ (parseMethodDescriptor y.desc).map (fun d => d.parameters.length) = some na)
def jSn (own : String) (idx : Nat) (y : MethodName) (b : ByteArray) (mL : Nat) (ret : Option FieldType) (na : Nat) : Prop := (∃ i : Nat, jNest[i]? = some (own, idx, y, RX8)) ∧ Cond.static y ∈ jG ∧ Cond.initialized y.cls ∈ jG ∧ Cond.code y b mL ret ∈ jG ∧ (y.cls ≠ "java/lang/invoke/MethodHandle" ∧ y.cls ≠ "java/lang/invoke/VarHandle" ∧ (parseMethodDescriptor y.desc).map (fun d => d.parameters.length) = some na)
def jI (own : String) (idx : Nat) (y : MethodName) (b : ByteArray) (mL : Nat) (na : Nat) : Prop := Cond.methodLink own idx y ∈ jG ∧ Cond.instanceMethod y ∈ jG ∧ Cond.initialized y.cls ∈ jG ∧ Cond.code y b mL none ∈ jG ∧ y.name = "<init>" ∧ (y.cls ≠ "java/lang/invoke/MethodHandle" ∧ y.cls ≠ "java/lang/invoke/VarHandle" ∧ (parseMethodDescriptor y.desc).map (fun d => d.parameters.length) = some na)
def jIn (own : String) (idx : Nat) (y : MethodName) (b : ByteArray) (mL : Nat) (na : Nat) : Prop := (∃ i : Nat, jNest[i]? = some (own, idx, y, RX8)) ∧ Cond.instanceMethod y ∈ jG ∧ Cond.initialized y.cls ∈ jG ∧ Cond.code y b mL none ∈ jG ∧ y.name = "<init>" ∧ (y.cls ≠ "java/lang/invoke/MethodHandle" ∧ y.cls ≠ "java/lang/invoke/VarHandle" ∧ (parseMethodDescriptor y.desc).map (fun d => d.parameters.length) = some na)
/-- the room of a callee in its caller's -/
def jroom (rm rm' : Room) (mL k n k' n' : Nat) : Prop := rm'.frames + 1 ≤ rm.frames ∧ 8 + (mL + 11) + rm'.locals ≤ rm.locals ∧ k + rm'.cells = k' ∧ n + rm'.slots = n' ∧ k' ≤ rm.cells ∧ n' ≤ rm.slots
variable {C : String} {y : MethodName} {b : ByteArray} {mL idx na0 k' n' : Nat} {ret' : Option FieldType} {rm' : Room} {a : Nat} {ci : Nat} {fs : List Value}
theorem jpre {H : Heap} {locs : List Loc} {av : List Value} (hC : jC X cc nL own rm ret) (hP : va_P (jD X) vwCl ws H) (hD : va_D (jA X) ws) (hS : va_S (jA X) (js X).heap H locs) (is : List Nat) (hw : is.map (fun i => ws[i]?) = wc.map some) (hn : va_nd is = true) (hF : ∀ q, va_A wc H.size q → jA X q) : ∀ U : State, U.heap = H → (js X).WarmedH U.vm → jPc av wc (jD X) (jy X) (jv X) H.size av.toArray U := by
  intro U hU hW
  have hPc : va_P (jD X) vwCl wc H := by
    intro k q hk
    have h1 : (is.map (fun i => ws[i]?))[k]? = some (some q) := by rw [hw, List.getElem?_map, hk]; rfl
    rw [List.getElem?_map] at h1
    cases hi : is[k]? with
    | none => rw [hi] at h1; cases h1
    | some i => rw [hi] at h1; exact hP i q (Option.some.inj h1)
  exact ⟨rfl, by rw [hU], by rw [hU]; exact hPc, va_K.moved hW.alike hC.K, (hD.sub is hn hw).weaken (fun _ _ _ _ => trivial), jS.go hC.S hS hF hU hW⟩
theorem j_callV (hC : jC X cc nL own rm ret) (V : jV own idx C y b mL ret' na0) (As : List Value) (hM : jM (jl X) y b mL ret' rm' (.ref a :: As) wc wn rv e' (jD X) (jy X) (jv X)) (is : List Nat) (hw : is.map (fun i => ws[i]?) = wc.map some) (hnd : va_nd is = true) (q0 : Nat) (he : ws[q0]? = some (a, .inr (ci, fs))) (hci : ∃ T N, vwCl[ci]? = some (C, T, N)) (hr : jroom rm rm' mL k n k' n') (hst : stk = As.reverse ++ .ref a :: st) (hna : As.length = na0) (hcat : (st.map fun v => v.category).sum ≤ 8) (d : decode cc pc = .ok (.invokevirtual idx, 3))
    (K : ∀ (r' : ρ') (na : Nat → Nat), jJ X nL k' n' Qf (pc + 3) lv ((rv r').toList ++ st) (jup ws is (wn r' na)) (f r')) : jJ X nL k n Qf pc lv stk ws (ob e' f) := by
  obtain ⟨r1, r2, r3, r4, r5, r6⟩ := hr
  subst r3; subst r4
  refine j_callG hC is hw (Value.ref a :: As).toArray (fun r' h1 H locs ls hP hD hS hl hF => ?_) K
  obtain ⟨T, N, hci⟩ := hci
  obtain ⟨v1, v2, v3, v4, v5, v6⟩ := V
  have hR := hC.R
  exact va_runV hC.fix (hM r' h1 H.size) (cwV na0 hC.ts (jG_V v1 v2 v3 v4 v5) rfl rfl rfl v6 ⟨by rw [hR]; exact r1, by rw [hR]; exact r2⟩) ⟨jPc_blind, va_recv hC.K hP hci he, jpre hC hP hD hS is hw hnd hF⟩ rfl hna hl.1 hst (lv_room hcat) d ⟨by rw [hR]; exact r5, by rw [hR]; exact r6⟩
theorem j_callS (hC : jC X cc nL own rm ret) (V : jSt own idx y b mL ret' na0) (As : List Value) (hM : jM (jl X) y b mL ret' rm' As wc wn rv e' (jD X) (jy X) (jv X)) (is : List Nat) (hw : is.map (fun i => ws[i]?) = wc.map some) (hnd : va_nd is = true) (hr : jroom rm rm' mL k n k' n') (hst : stk = As.reverse ++ st) (hna : As.length = na0) (hcat : (st.map fun v => v.category).sum ≤ 8) (d : decode cc pc = .ok (.invokestatic idx, 3))
    (K : ∀ (r' : ρ') (na : Nat → Nat), jJ X nL k' n' Qf (pc + 3) lv ((rv r').toList ++ st) (jup ws is (wn r' na)) (f r')) : jJ X nL k n Qf pc lv stk ws (ob e' f) := by
  obtain ⟨r1, r2, r3, r4, r5, r6⟩ := hr
  subst r3; subst r4
  refine j_callG hC is hw As.toArray (fun r' h1 H locs ls hP hD hS hl hF => ?_) K
  obtain ⟨v1, v2, v4, v5, v6⟩ := V
  have hR := hC.R
  exact va_runS hC.fix (hM r' h1 H.size) (va_cwS na0 hC.ts (jG_S v1 v2 v4 v5) rfl rfl rfl v6 ⟨by rw [hR]; exact r1, by rw [hR]; exact r2⟩) ⟨jPc_blind, jpre hC hP hD hS is hw hnd hF⟩ rfl hna hl.1 hst (lv_room hcat) d ⟨by rw [hR]; exact r5, by rw [hR]; exact r6⟩
theorem j_callN (hC : jC X cc nL own rm ret) (V : jSn own idx y b mL ret' na0) (As : List Value) (hM : jM (jl X) y b mL ret' rm' As wc wn rv e' (jD X) (jy X) (jv X)) (is : List Nat) (hw : is.map (fun i => ws[i]?) = wc.map some) (hnd : va_nd is = true) (hr : jroom rm rm' mL k n k' n') (hst : stk = As.reverse ++ st) (hna : As.length = na0) (hcat : (st.map fun v => v.category).sum ≤ 8) (d : decode cc pc = .ok (.invokestatic idx, 3))
    (K : ∀ (r' : ρ') (na : Nat → Nat), jJ X nL k' n' Qf (pc + 3) lv ((rv r').toList ++ st) (jup ws is (wn r' na)) (f r')) : jJ X nL k n Qf pc lv stk ws (ob e' f) := by
  obtain ⟨r1, r2, r3, r4, r5, r6⟩ := hr
  subst r3; subst r4
  refine j_callG hC is hw As.toArray (fun r' h1 H locs ls hP hD hS hl hF => ?_) K
  obtain ⟨⟨i, v1⟩, v2, v4, v5, v6⟩ := V
  have hR := hC.R
  exact va_runSN hC.fix (hM r' h1 H.size) ⟨va_cnB (host := RX8) na0 hC.ts (jG_c v5) rfl rfl rfl (hC.S.2.2.2.2.2.1 i _ v1) (hC.ts _ v4) v6 ⟨by rw [hR]; exact r1, by rw [hR]; exact r2⟩, hC.ts _ v2, trivial⟩ ⟨jPc_blind, jpre hC hP hD hS is hw hnd hF⟩ rfl hna hl.1 hst (lv_room hcat) d ⟨by rw [hR]; exact r5, by rw [hR]; exact r6⟩
theorem j_callI (hC : jC X cc nL own rm ret) (V : jI own idx y b mL na0) (As : List Value) (hM : jM (jl X) y b mL none rm' (.ref a :: As) wc wn rv e' (jD X) (jy X) (jv X)) (is : List Nat) (hw : is.map (fun i => ws[i]?) = wc.map some) (hnd : va_nd is = true) (hr : jroom rm rm' mL k n k' n') (hst : stk = As.reverse ++ .ref a :: st) (hna : As.length = na0) (hcat : (st.map fun v => v.category).sum ≤ 8) (d : decode cc pc = .ok (.invokespecial idx, 3))
    (K : ∀ (r' : ρ') (na : Nat → Nat), jJ X nL k' n' Qf (pc + 3) lv ((rv r').toList ++ st) (jup ws is (wn r' na)) (f r')) : jJ X nL k n Qf pc lv stk ws (ob e' f) := by
  obtain ⟨r1, r2, r3, r4, r5, r6⟩ := hr
  subst r3; subst r4
  refine j_callG hC is hw (Value.ref a :: As).toArray (fun r' h1 H locs ls hP hD hS hl hF => ?_) K
  obtain ⟨v1, v2, v4, v5, v7, v6⟩ := V
  have hR := hC.R
  exact va_runI hC.fix (hM r' h1 H.size) (cwI na0 hC.ts (jG_c v5) rfl rfl rfl (hC.ts _ v4) (hC.ts _ v1) (hC.ts _ v2) v7 v6 ⟨by rw [hR]; exact r1, by rw [hR]; exact r2⟩) ⟨jPc_blind, jpre hC hP hD hS is hw hnd hF⟩ rfl hna hl.1 hst (lv_room hcat) d ⟨by rw [hR]; exact r5, by rw [hR]; exact r6⟩
theorem j_callJ (hC : jC X cc nL own rm ret) (V : jIn own idx y b mL na0) (As : List Value) (hM : jM (jl X) y b mL none rm' (.ref a :: As) wc wn rv e' (jD X) (jy X) (jv X)) (is : List Nat) (hw : is.map (fun i => ws[i]?) = wc.map some) (hnd : va_nd is = true) (hr : jroom rm rm' mL k n k' n') (hst : stk = As.reverse ++ .ref a :: st) (hna : As.length = na0) (hcat : (st.map fun v => v.category).sum ≤ 8) (d : decode cc pc = .ok (.invokespecial idx, 3))
    (K : ∀ (r' : ρ') (na : Nat → Nat), jJ X nL k' n' Qf (pc + 3) lv ((rv r').toList ++ st) (jup ws is (wn r' na)) (f r')) : jJ X nL k n Qf pc lv stk ws (ob e' f) := by
  obtain ⟨r1, r2, r3, r4, r5, r6⟩ := hr
  subst r3; subst r4
  refine j_callG hC is hw (Value.ref a :: As).toArray (fun r' h1 H locs ls hP hD hS hl hF => ?_) K
  obtain ⟨⟨i, v1⟩, v2, v4, v5, v7, v6⟩ := V
  have hR := hC.R
  exact va_runIN hC.fix (hM r' h1 H.size) ⟨va_cnB (host := RX8) na0 hC.ts (jG_c v5) rfl rfl rfl (hC.S.2.2.2.2.2.1 i _ v1) (hC.ts _ v4) v6 ⟨by rw [hR]; exact r1, by rw [hR]; exact r2⟩, v7, hC.ts _ v2⟩ ⟨jPc_blind, jpre hC hP hD hS is hw hnd hF⟩ rfl hna hl.1 hst (lv_room hcat) d ⟨by rw [hR]; exact r5, by rw [hR]; exact r6⟩
/-! the JDK's own -/
theorem j_oinit (hC : jC X cc nL own rm ret) {e : Option ρ} (w1 : Cond.methodLink own idx objectInit ∈ jG) (w2 : Cond.instanceMethod objectInit ∈ jG) (w3 : Cond.code objectInit ⟨#[0xb1]⟩ 1 none ∈ jG) (hf : 1 ≤ rm.frames) (hlo : (st.map fun v => v.category).sum + 12 ≤ rm.locals) (d : decode cc pc = .ok (.invokespecial idx, 3)) (K : jJ X nL k n Qf (pc + 3) lv st ws e) : jJ X nL k n Qf pc lv (.ref a :: st) ws e := fun r hr H locs ls hP hD hS hl => by
  have hR := hC.R
  have hml := hC.ml
  exact W.objInit hC.ex hC.co hC.ow (hC.ts _ w1) (hC.ts _ w2) (hC.ts _ w3) rfl (by rw [hml]; exact hl.1) rfl d (by rw [hR]; exact hf) (by rw [hR]; show 2 * 0 + _ + 12 ≤ _; omega) (K r hr H locs ls hP hD hS hl)
theorem j_imax (hC : jC X cc nL own rm ret) {e : Option ρ} {x y : Int32} (w1 : Cond.methodLink own idx Lib.Math.max.name ∈ jG) (w2 : Cond.static Lib.Math.max.name ∈ jG) (w3 : Cond.initialized "java/lang/Math" ∈ jG) (w4 : Cond.code Lib.Math.max.name Lib.Math.max.code 2 (some .int) ∈ jG) (hf : 1 ≤ rm.frames) (hlo : (st.map fun v => v.category).sum + 13 ≤ rm.locals) (hk : k ≤ rm.cells ∧ n ≤ rm.slots) (d : decode cc pc = .ok (.invokestatic idx, 3)) (K : jJ X nL k n Qf (pc + 3) lv (.int (if x < y then y else x) :: st) ws e) : jJ X nL k n Qf pc lv (.int y :: .int x :: st) ws e := fun r hr H locs ls hP hD hS hl => by
  have hR := hC.R
  have hml := hC.ml
  exact va_mmax hC.ex hC.co (by rw [hml]; exact hl.1.symm) hC.ow (hC.ts _ w1) (hC.ts _ w2) (hC.ts _ w3) (hC.ts _ w4) (by rw [hR]; exact hf) (by rw [hR]; exact hlo) (by rw [hR]; exact hk.1) (by rw [hR]; exact hk.2) d (K r hr H locs ls hP hD hS hl)
theorem j_imin (hC : jC X cc nL own rm ret) {e : Option ρ} {x y : Int32} (w1 : Cond.methodLink own idx Lib.Math.min.name ∈ jG) (w2 : Cond.static Lib.Math.min.name ∈ jG) (w3 : Cond.initialized "java/lang/Math" ∈ jG) (w4 : Cond.code Lib.Math.min.name Lib.Math.min.code 2 (some .int) ∈ jG) (hf : 1 ≤ rm.frames) (hlo : (st.map fun v => v.category).sum + 13 ≤ rm.locals) (hk : k ≤ rm.cells ∧ n ≤ rm.slots) (d : decode cc pc = .ok (.invokestatic idx, 3)) (K : jJ X nL k n Qf (pc + 3) lv (.int (if y < x then y else x) :: st) ws e) : jJ X nL k n Qf pc lv (.int y :: .int x :: st) ws e := fun r hr H locs ls hP hD hS hl => by
  have hR := hC.R
  have hml := hC.ml
  exact va_mmin hC.ex hC.co (by rw [hml]; exact hl.1.symm) hC.ow (hC.ts _ w1) (hC.ts _ w2) (hC.ts _ w3) (hC.ts _ w4) (by rw [hR]; exact hf) (by rw [hR]; exact hlo) (by rw [hR]; exact hk.1) (by rw [hR]; exact hk.2) d (K r hr H locs ls hP hD hS hl)
theorem j_iabs (hC : jC X cc nL own rm ret) {e : Option ρ} {x : Int32} (w1 : Cond.methodLink own idx Lib.Math.abs.name ∈ jG) (w2 : Cond.static Lib.Math.abs.name ∈ jG) (w3 : Cond.initialized "java/lang/Math" ∈ jG) (w4 : Cond.code Lib.Math.abs.name Lib.Math.abs.code 1 (some .int) ∈ jG) (hf : 1 ≤ rm.frames) (hlo : (st.map fun v => v.category).sum + 13 ≤ rm.locals) (hk : k ≤ rm.cells ∧ n ≤ rm.slots) (d : decode cc pc = .ok (.invokestatic idx, 3)) (K : jJ X nL k n Qf (pc + 3) lv (.int (if 0 ≤ x then x else 0 - x) :: st) ws e) : jJ X nL k n Qf pc lv (.int x :: st) ws e := fun r hr H locs ls hP hD hS hl => by
  have hR := hC.R
  have hml := hC.ml
  exact va_mabs hC.ex hC.co (by rw [hml]; exact hl.1.symm) hC.ow (hC.ts _ w1) (hC.ts _ w2) (hC.ts _ w3) (hC.ts _ w4) (by rw [hR]; exact hf) (by rw [hR]; exact hlo) (by rw [hR]; exact hk.1) (by rw [hR]; exact hk.2) d (K r hr H locs ls hP hD hS hl)
theorem j_copyi (hC : jC X cc nL own rm ret) (w1 : Cond.methodLink own idx arraycopyName ∈ jG) (w2 : Cond.native arraycopyName ∈ jG) (w3 : Cond.static arraycopyName ∈ jG) (w4 : Cond.initialized "java/lang/System" ∈ jG) (q0 q1 : Nat) {a0 n0 n1 : Nat} {sp dp z : Int32} {g0 g1 : Nat → Int32} {h : (Nat → Int32) → Option ρ} (he0 : ws[q0]? = some (a0, .inl (jy X 0, n0, .inl g0))) (he1 : ws[q1]? = some (a, .inl (jy X 0, n1, .inl g1))) (hf : 1 ≤ rm.frames) (hlo : (st.map fun v => v.category).sum + (nativeFrameWords "java/lang/System" "arraycopy" 5 + 11) ≤ rm.locals) (d : decode cc pc = .ok (.invokestatic idx, 3)) {ws' : (Nat → Int32) → va_W} (hw : ∀ f, ws.set q1 (a, .inl (jy X 0, n1, .inl f)) = ws' f) (K : ∀ f, jJ X nL k n Qf (pc + 3) lv st (ws' f) (h f)) : jJ X nL k n Qf pc lv (.int z :: .int dp :: .ref a :: .int sp :: .ref a0 :: st) ws (if 0 ≤ sp ∧ 0 ≤ dp ∧ 0 ≤ z ∧ sp.toNatClampNeg + z.toNatClampNeg ≤ n0 ∧ dp.toNatClampNeg + z.toNatClampNeg ≤ n1 then blet (va_cpy g0 g1 sp.toNatClampNeg dp.toNatClampNeg z.toNatClampNeg) h else none) := fun r hr H locs ls hP hD hS hl => by
  have hR := hC.R
  have hml := hC.ml
  by_cases c : 0 ≤ sp ∧ 0 ≤ dp ∧ 0 ≤ z ∧ sp.toNatClampNeg + z.toNatClampNeg ≤ n0 ∧ dp.toNatClampNeg + z.toNatClampNeg ≤ n1
  · rw [if_pos c] at hr
    obtain ⟨c1, c2, c3, c4, c5⟩ := c
    exact va_copyi hC.ex hC.co (by rw [hml]; exact hl.1.symm) hC.ow (hC.ts _ w1) (hC.ts _ w2) (hC.ts _ w3) (hC.ts _ w4) hC.K hP hD hS q0 q1 0 0 he0 he1 rfl rfl rfl (Int32.not_lt.mpr c1) (Int32.not_lt.mpr c2) (Int32.not_lt.mpr c3) c4 c5 (fun _ _ => rfl) (by rw [hR]; exact hf) (by rw [hR]; exact hlo) d (fun H1 locs1 hP1 hD1 hS1 => K _ r hr H1 locs1 ls (hw _ ▸ hP1) (hw _ ▸ hD1) hS1 hl)
  · rw [if_neg c] at hr
    cases hr
end JCALL
