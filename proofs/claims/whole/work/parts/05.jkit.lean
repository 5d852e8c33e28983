/-! the words that are kept by a call, as one list for every method -/
def jG : List Cond := lw_tbl.filter goodWord
theorem jG_good : GoodIn jG jG := fun _ h => ⟨h, good_of_word (List.mem_filter.mp h).2⟩
theorem jG_tbl {w : Cond} (h : w ∈ jG) : w ∈ lw_tbl := (List.mem_filter.mp h).1
theorem jG_at {w : Cond} (i : Nat) (h : lw_tbl[i]? = some w) (g : goodWord w = true) : w ∈ jG := List.mem_filter.mpr ⟨List.mem_of_getElem? h, g⟩
theorem jG_of {ws : List Cond} (ps : List Nat) (hp : ws = ps.filterMap (fun i => lw_tbl[i]?)) (h : ws.all goodWord = true) : ∀ w ∈ ws, w ∈ jG := by
  intro w hw
  have h1 := List.all_eq_true.mp h w hw
  rw [hp] at hw
  obtain ⟨i, -, hi⟩ := List.mem_filterMap.mp hw
  exact List.mem_filter.mpr ⟨List.mem_of_getElem? hi, h1⟩
theorem jG_sub {ws : List Cond} (h : ∀ w ∈ ws, w ∈ jG) : GoodIn jG ws := fun w hw => jG_good w (h w hw)
theorem jG_c {y : MethodName} {b : ByteArray} {mL : Nat} {ret : Option FieldType} (h5 : Cond.code y b mL ret ∈ jG) : GoodIn jG (Cond.code y b mL ret :: jG) := by
  refine jG_sub fun w hw => ?_
  rcases List.mem_cons.mp hw with rfl | h
  · exact h5
  · exact h
theorem jG_V {own C : String} {idx : Nat} {y : MethodName} {b : ByteArray} {mL : Nat} {ret : Option FieldType} (h1 : Cond.methodLink own idx y ∈ jG) (h2 : Cond.instanceMethod y ∈ jG) (h3 : Cond.selects C y y ∈ jG) (h4 : Cond.initialized C ∈ jG) (h5 : Cond.code y b mL ret ∈ jG) : GoodIn jG (wsV own idx C y (Cond.code y b mL ret :: jG)) := by
  refine jG_sub fun w hw => ?_
  unfold wsV at hw
  rcases List.mem_append.mp hw with h | h
  · simp only [List.mem_cons, List.not_mem_nil, or_false] at h
    rcases h with rfl | rfl | rfl | rfl <;> assumption
  · rcases List.mem_cons.mp h with rfl | h
    · exact h5
    · exact h
theorem jG_S {own : String} {idx : Nat} {y : MethodName} {b : ByteArray} {mL : Nat} {ret : Option FieldType} (h1 : Cond.methodLink own idx y ∈ jG) (h2 : Cond.static y ∈ jG) (h4 : Cond.initialized y.cls ∈ jG) (h5 : Cond.code y b mL ret ∈ jG) : GoodIn jG (va_wsS own idx y (Cond.code y b mL ret :: jG)) := by
  refine jG_sub fun w hw => ?_
  unfold va_wsS at hw
  rcases List.mem_append.mp hw with h | h
  · simp only [List.mem_cons, List.not_mem_nil, or_false] at h
    rcases h with rfl | rfl | rfl <;> assumption
  · rcases List.mem_cons.mp h with rfl | h
    · exact h5
    · exact h
/-! what stands outside every world: static tables, String constants, the JDK's statics, links between nest mates -/
abbrev jE : Type := (Nat → Nat) × (Nat → Nat) × (Nat → Nat)
def jTab : List (String × String × List Int32) := [("ThrowHook", "LEAST", [20, 1, 0, 0, 0, 0, 20, 1, 0, 0, 0, 0, 0]), ("ThrowHook", "MOST", [90, 99, 9, 99, 99, 99, 300, 99, 60, 9, 6, 19, 6]), ("ThrowHook$Launch", "ALONG", [100, 98, 94, 87, 77, 64, 50]), ("ThrowHook$Launch", "UPWARD", [0, 17, 34, 50, 64, 77, 87]), ("ThrowHook$PlanReader", "SLOT", [0, 3, 6, 10, 13]), ("ThrowHook$Fraction", "PRIMES", [2, 3, 5, 7, 11, 13, 17, 19])]
def jtab (i : Nat) : List Int32 := (jTab.getD i ("", "", [])).2.2
def jStr : List (Nat × String) := [(78, "arm"), (84, "hook"), (86, "dart"), (88, "throw")]
def jLen : List Nat := [3, 4, 4, 5]
def jByt : List (List Int32) := [[97, 114, 109], [104, 111, 111, 107], [100, 97, 114, 116], [116, 104, 114, 111, 119]]
def jNest : List (String × Nat × MethodName × String) := [(RX8, 9, yX6_init, RX8), (RX8, 22, yX2_init, RX8), (RX8, 29, yX5_init, RX8), (RX8, 36, yX0_init, RX8), (RX8, 43, yX4_init, RX8), (RX4, 11, yX3_init, RX8), (RX1, 9, yX3_init, RX8), (RX2, 46, yX8_divided, RX8), (RX5, 116, yX8_within, RX8), (RX5, 70, yX8_fits, RX8), (RX7, 44, yX8_mixed, RX8), (RX1, 69, yX8_mixed, RX8)]
def jS (ev : jE) (A : Nat → Prop) (U : State) (H : Heap) : Prop :=
  (∀ (i : Nat) (q : String × String × List Int32), jTab[i]? = some q → va_Z q.1 q.2.1 "[I" (.ref (ev.1 i)) A U H ∧ va_T .int (ev.1 i) q.2.2.length (fun j => .int (q.2.2.getD j 0)) A U H) ∧
  vk_S 4 jLen jByt ev.2.1 ev.2.2 A U H ∧
  (∀ (i : Nat) (q : Nat × String), jStr[i]? = some q → vk_R RX5 q.1 q.2 (ev.2.1 i) U) ∧
  va_Z "java/lang/String" "COMPACT_STRINGS" "Z" (.int 1) A U H ∧
  va_Zq "jdk/internal/util/Preconditions" "SIOOBE_FORMATTER" "Ljava/util/function/BiFunction;" A U H ∧
  (∀ (i : Nat) (q : String × Nat × MethodName × String), jNest[i]? = some q → va_Nw (.methodLinkNest q.1 q.2.1 q.2.2.1 q.2.2.2) U) ∧
  va_AO "ThrowHook$State" U
theorem jS.call {ev : jE} {A : Nat → Prop} {a : Array Value} {U : State} {g : JFrame} {mk : MethodId} (h : jS ev A U U.heap) : jS ev A (U.calling g mk a) (U.calling g mk a).heap := by
  obtain ⟨h1, h2, h3, h4, h5, h6, h7⟩ := h
  have hv : U.vm.Alike (U.calling g mk a).vm := Vm.Alike.refl U.vm
  refine ⟨fun i q hq => ⟨va_Z.moved hv (h1 i q hq).1, va_T.moved hv (h1 i q hq).2⟩, vk_S.moved hv h2, fun i q hq => vk_R.same rfl (h3 i q hq), va_Z.moved hv h4, va_Zq.moved hv h5, fun i q hq => va_Nw.same rfl rfl (h6 i q hq), va_AO.moved hv h7⟩
theorem jS.go {ev : jE} {A B : Nat → Prop} {s U : State} {H : Heap} {locs : List Loc} (h : jS ev A s s.heap) (hS : va_S A s.heap H locs) (hAB : ∀ q, B q → A q) (hU : U.heap = H) (hW : s.WarmedH U.vm) : jS ev B U U.heap := by
  obtain ⟨h1, h2, h3, h4, h5, h6, h7⟩ := h
  have hv : s.vm.Alike U.vm := hW.alike
  have hk : ∀ a : Nat, a < s.heap.size → ¬ A a → U.heap[a]? = s.heap[a]? := fun a x y => by rw [hU]; exact hS.2.1 a x y
  exact ⟨fun i q hq => ⟨(va_Z.moved hv ((h1 i q hq).1.kept hk)).narrow hAB, (va_T.moved hv ((h1 i q hq).2.kept hk)).narrow hAB⟩, (vk_S.moved hv (h2.kept hk)).narrow hAB, fun i q hq => vk_R.warm hW (h3 i q hq), (va_Z.moved hv (h4.kept hk)).narrow hAB, (va_Zq.moved hv (h5.kept hk)).narrow hAB, fun i q hq => va_Nw.warmM hW (h6 i q hq), va_AO.moved hv h7⟩
theorem jS.narrow {ev : jE} {A B : Nat → Prop} {U : State} {H : Heap} (h : jS ev A U H) (hAB : ∀ q, B q → A q) : jS ev B U H := by
  obtain ⟨h1, h2, h3, h4, h5, h6, h7⟩ := h
  exact ⟨fun i q hq => ⟨(h1 i q hq).1.narrow hAB, (h1 i q hq).2.narrow hAB⟩, h2.narrow hAB, h3, h4.narrow hAB, h5.narrow hAB, h6, h7⟩
/-! the place where a method runs -/
abbrev jX : Type := Program × Launch × Env × Room × State × MethodId × Array Value × List Frame × Method × Code × va_G × (Nat → ClassId) × jE × (Nat → Prop)
abbrev jp (X : jX) : Program := X.1
abbrev jl (X : jX) : Launch := X.2.1
abbrev je (X : jX) : Env := X.2.2.1
abbrev jR (X : jX) : Room := X.2.2.2.1
abbrev js (X : jX) : State := X.2.2.2.2.1
abbrev jm (X : jX) : MethodId := X.2.2.2.2.2.1
abbrev ja (X : jX) : Array Value := X.2.2.2.2.2.2.1
abbrev jb (X : jX) : List Frame := X.2.2.2.2.2.2.2.1
abbrev jt (X : jX) : Method := X.2.2.2.2.2.2.2.2.1
abbrev jc (X : jX) : Code := X.2.2.2.2.2.2.2.2.2.1
abbrev jD (X : jX) : va_G := X.2.2.2.2.2.2.2.2.2.2.1
abbrev jy (X : jX) : Nat → ClassId := X.2.2.2.2.2.2.2.2.2.2.2.1
abbrev jv (X : jX) : jE := X.2.2.2.2.2.2.2.2.2.2.2.2.1
abbrev jA (X : jX) : Nat → Prop := X.2.2.2.2.2.2.2.2.2.2.2.2.2
def jT (cy : Nat → ClassId) : List (ClassId × FieldType) := [(cy 0, .int), (cy 1, .long), (cy 2, .boolean), (cy 3, .object "ThrowHook$State")]
def jC (X : jX) (cc : ByteArray) (nL : Nat) (own : String) (rm : Room) (ret : Option FieldType) : Prop :=
  (jp X).tables.exec = Jvm.exec ∧ (jc X).code = cc ∧ (jc X).maxLocals = nL ∧ (js X).vm.findClass own = some (jm X).cls ∧ (∀ w ∈ jG, w.before (ja X) (js X) = true) ∧ va_K (jD X) vwCl (jT (jy X)) (js X) ∧ (∀ q : Nat, (js X).heap.size ≤ q → jA X q) ∧ jS (jv X) (jA X) (js X) (js X).heap ∧ jR X = rm ∧ (jt X).locks = false ∧ (jt X).sig.returnType = ret
section JC
variable {X : jX} {cc : ByteArray} {nL : Nat} {own : String} {rm : Room} {ret : Option FieldType}
theorem jC.ex (h : jC X cc nL own rm ret) : (jp X).tables.exec = Jvm.exec := h.1
theorem jC.co (h : jC X cc nL own rm ret) : (jc X).code = cc := h.2.1
theorem jC.ml (h : jC X cc nL own rm ret) : (jc X).maxLocals = nL := h.2.2.1
theorem jC.ow (h : jC X cc nL own rm ret) : (js X).vm.findClass own = some (jm X).cls := h.2.2.2.1
theorem jC.ts (h : jC X cc nL own rm ret) : ∀ w ∈ jG, w.before (ja X) (js X) = true := h.2.2.2.2.1
theorem jC.K (h : jC X cc nL own rm ret) : va_K (jD X) vwCl (jT (jy X)) (js X) := h.2.2.2.2.2.1
theorem jC.A (h : jC X cc nL own rm ret) : ∀ q : Nat, (js X).heap.size ≤ q → jA X q := h.2.2.2.2.2.2.1
theorem jC.S (h : jC X cc nL own rm ret) : jS (jv X) (jA X) (js X) (js X).heap := h.2.2.2.2.2.2.2.1
theorem jC.R (h : jC X cc nL own rm ret) : jR X = rm := h.2.2.2.2.2.2.2.2.1
theorem jC.lk (h : jC X cc nL own rm ret) : (jt X).locks = false := h.2.2.2.2.2.2.2.2.2.1
theorem jC.re (h : jC X cc nL own rm ret) : (jt X).sig.returnType = ret := h.2.2.2.2.2.2.2.2.2.2
theorem jC.fix (h : jC X cc nL own rm ret) : CallFix (jp X) (jm X) (jc X) cc nL (js X) (ja X) jG own := ⟨h.ex, h.co, h.ml, h.ow, h.ts⟩
end JC
/-! the judgement: where the residual program e answers r, the machine comes to Qf r -/
def jJ {ρ : Type} (X : jX) (nL k n : Nat) (Qf : ρ → State → Prop) (pc : Nat) (lv : List (Nat × Value)) (st : List Value) (ws : va_W) (e : Option ρ) : Prop :=
  ∀ r : ρ, e = some r → ∀ (H : Heap) (locs : List Loc) (ls : Array Slot), va_P (jD X) vwCl ws H → va_D (jA X) ws → va_S (jA X) (js X).heap H locs → lv_has ls nL lv → W (jp X) (jl X) (je X) (jR X) (js X) (jm X) (ja X) (jb X) (jt X) (jc X) H locs k n (Qf r) (F0 (jm X) pc ls st)
def blet {α β : Type} (v : α) (k : α → β) : β := k v
def ob {α β : Type} (e : Option α) (k : α → Option β) : Option β := match e with
  | none => none
  | some x => k x
def jg {ρ : Type} (i : Int32) (n : Nat) (e : Option ρ) : Option ρ := if 0 ≤ i ∧ i.toNatClampNeg < n then e else none
def jz {ρ : Type} (v : Int32) (e : Option ρ) : Option ρ := if v &&& 1 = v then e else none
def jfix {α ρ : Type} (g : (α → Option ρ) → α → Option ρ) : Nat → α → Option ρ
  | 0, _ => none
  | n + 1, p => g (jfix g n) p
theorem ob_some {α β : Type} {e : Option α} {k : α → Option β} {r : β} (h : ob e k = some r) : ∃ x, e = some x ∧ k x = some r := by
  cases e with
  | none => exact absurd h (by simp [ob])
  | some x => exact ⟨x, rfl, h⟩
theorem jg_some {ρ : Type} {i : Int32} {n : Nat} {e : Option ρ} {r : ρ} (h : jg i n e = some r) : vp_in i n ∧ e = some r := by
  unfold jg at h
  split at h
  · rename_i c
    refine ⟨fun q => ?_, h⟩
    rcases q with q | q
    · exact absurd c.1 (Int32.not_le.mpr q)
    · omega
  · cases h
theorem jz_some {ρ : Type} {v : Int32} {e : Option ρ} {r : ρ} (h : jz v e = some r) : v &&& 1 = v ∧ e = some r := by
  unfold jz at h
  split at h
  · rename_i c
    exact ⟨c, h⟩
  · cases h
/-! a contract: what the method answers, and the world that it leaves; na: the addresses of cells that it made -/
def jQ (v : Option Value) (wn : (Nat → Nat) → va_W) (D : va_G) (cy : Nat → ClassId) (A : Nat → Prop) : Array Value → State → Outcome → State → Prop := fun _ st oc t => (∃ na : Nat → Nat, oc = .returned v ∧ va_P D vwCl (wn na) t.heap ∧ va_K D vwCl (jT cy) t ∧ va_D A (wn na)) ∧ va_F A st t
def jPc (av : List Value) (ws : va_W) (D : va_G) (cy : Nat → ClassId) (ev : jE) (sz : Nat) : Array Value → State → Prop := va_Pc av (fun U => U.heap.size = sz ∧ va_P D vwCl ws U.heap ∧ va_K D vwCl (jT cy) U ∧ va_D (fun _ => True) ws ∧ jS ev (va_A ws sz) U U.heap)
def jM {ρ : Type} (l : Launch) (y : MethodName) (cc : ByteArray) (nL : Nat) (ret : Option FieldType) (rm : Room) (av : List Value) (ws : va_W) (wn : ρ → (Nat → Nat) → va_W) (rv : ρ → Option Value) (e : Option ρ) (D : va_G) (cy : Nat → ClassId) (ev : jE) : Prop :=
  ∀ r : ρ, e = some r → ∀ sz : Nat, Met l y (Cond.code y cc nL ret :: jG) rm (jPc av ws D cy ev sz) (jQ (rv r) (wn r) D cy (va_A ws sz)) rm.cells rm.slots (va_A ws sz)
def jQf {ρ : Type} (X : jX) (mc ms : Nat) (rv : ρ → Option Value) (wn : ρ → (Nat → Nat) → va_W) (r : ρ) : State → Prop := MQ (jb X) (jQ (rv r) (wn r) (jD X) (jy X) (jA X)) (ja X) (js X) mc ms (jA X)
theorem jPc_blind {av : List Value} {ws : va_W} {D : va_G} {cy : Nat → ClassId} {ev : jE} {sz : Nat} : FrameBlind (jPc av ws D cy ev sz) := by
  intro a U g mk q
  obtain ⟨q0, q1, qP, qK, qD, qS⟩ := q
  exact ⟨q0, q1, qP, va_K.moved (u := U) (U := U.calling g mk a) (Vm.Alike.refl U.vm) qK, qD, qS.call⟩
theorem j_met {ρ : Type} {l : Launch} {y : MethodName} {cc : ByteArray} {nL : Nat} {ret : Option FieldType} {rm : Room} {av : List Value} {ws : va_W} {wn : ρ → (Nat → Nat) → va_W} {rv : ρ → Option Value} {e : Option ρ} {D : va_G} {cy : Nat → ClassId} {ev : jE} (own : String) (hy : plainName y.cls = true) (hown : y.cls = own) (hav : (lg_sl av).length ≤ nL)
    (body : ∀ X : jX, jC X cc nL own rm ret → (jt X).name = y.name → jD X = D → jy X = cy → jv X = ev → jJ X nL 0 0 (jQf X rm.cells rm.slots rv wn) 0 (lv_args 0 av) [] ws e) : jM l y cc nL ret rm av ws wn rv e D cy ev := by
  intro r hr sz
  refine Met.ofW (cc := cc) (maxL := nL) (ret := ret) hy rfl ?_
  intro p e' s m args below meth c s₁ B hml hv
  obtain ⟨rfl, hsz, hP, hK, hD0, hS0⟩ := hv
  have hts := atoms_spec (ws := Cond.code y cc nL ret :: jG) B.pre
  have hown' : s.vm.findClass own = some m.cls := by rw [← hown]; exact findClass_of_methodNamed B.named
  have hin : meth.name = y.name := (name_of_methodNamed B.named B.method).1
  subst hsz
  have hD := hD0.self (sz := s.heap.size)
  have hl := lv_entry av (n := nL) hav
  rw [lg_entry_eq]
  exact body (p, l, e', rm, s, m, av.toArray, below, meth, c, D, cy, ev, va_A ws s.heap.size) ⟨B.exec, B.bytes, hml, hown', fun w hw => hts w (List.mem_cons_of_mem _ hw), hK, fun q h => Or.inr h, hS0, rfl, B.notSynchronized, B.returns⟩ hin rfl rfl rfl r hr s.heap [] _ hP hD va_S.rf hl
