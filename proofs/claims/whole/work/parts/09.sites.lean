section JK
variable {ρ ρ' : Type} {X : jX} {nL k n : Nat} {Qf : ρ → State → Prop} {pc : Nat} {lv : List (Nat × Value)} {st : List Value} {ws : va_W} {is : List Nat} {f : ρ' → Option ρ} {wn : ρ' → (Nat → Nat) → va_W} {rv : ρ' → Option Value}
theorem jki {ri : ρ' → Int32} {w : ρ' → va_W} (hrv : ∀ r, rv r = some (.int (ri r))) (hup : ∀ r na, jup ws is (wn r na) = w r) (K : ∀ r, jJ X nL k n Qf pc lv (.int (ri r) :: st) (w r) (f r)) (r : ρ') (na : Nat → Nat) : jJ X nL k n Qf pc lv ((rv r).toList ++ st) (jup ws is (wn r na)) (f r) := by
  rw [hrv, hup]; exact K r
theorem jkl {ri : ρ' → Int64} {w : ρ' → va_W} (hrv : ∀ r, rv r = some (.long (ri r))) (hup : ∀ r na, jup ws is (wn r na) = w r) (K : ∀ r, jJ X nL k n Qf pc lv (.long (ri r) :: st) (w r) (f r)) (r : ρ') (na : Nat → Nat) : jJ X nL k n Qf pc lv ((rv r).toList ++ st) (jup ws is (wn r na)) (f r) := by
  rw [hrv, hup]; exact K r
theorem jkv {w : ρ' → va_W} (hup : ∀ r na, jup ws is (wn r na) = w r) (K : ∀ r, jJ X nL k n Qf pc lv st (w r) (f r)) (r : ρ') (na : Nat → Nat) : jJ X nL k n Qf pc lv (((fun _ => none) r : Option Value).toList ++ st) (jup ws is (wn r na)) (f r) := by
  rw [hup]; exact K r
theorem jki0 {ri : ρ' → Int32} (hrv : ∀ r, rv r = some (.int (ri r))) (hup : ∀ r na, is.map (fun i => ws[i]?) = (wn r na).map some) (K : ∀ r, jJ X nL k n Qf pc lv (.int (ri r) :: st) ws (f r)) (r : ρ') (na : Nat → Nat) : jJ X nL k n Qf pc lv ((rv r).toList ++ st) (jup ws is (wn r na)) (f r) := by
  rw [hrv, jup_same is _ ws (hup r na)]; exact K r
theorem jkl0 {ri : ρ' → Int64} (hrv : ∀ r, rv r = some (.long (ri r))) (hup : ∀ r na, is.map (fun i => ws[i]?) = (wn r na).map some) (K : ∀ r, jJ X nL k n Qf pc lv (.long (ri r) :: st) ws (f r)) (r : ρ') (na : Nat → Nat) : jJ X nL k n Qf pc lv ((rv r).toList ++ st) (jup ws is (wn r na)) (f r) := by
  rw [hrv, jup_same is _ ws (hup r na)]; exact K r
end JK
theorem jz_fit {v : Int32} (h : v &&& 1 = v) : fits .boolean (.int v) = true := by
  obtain ⟨j, hj, e⟩ := pk_andE v (m := 1) 1 (by decide)
  rw [h] at e
  have hj2 : j = 0 ∨ j = 1 := by omega
  rcases hj2 with rfl | rfl <;> (rw [e]; decide)
section JL
variable {ρ : Type} {X : jX} {cc : ByteArray} {nL k n : Nat} {own : String} {rm : Room} {ret : Option FieldType} {Qf : ρ → State → Prop} {pc : Nat} {lv : List (Nat × Value)} {st : List Value} {ws : va_W} {e : Option ρ} {idx : Nat}
theorem j_labs (hC : jC X cc nL own rm ret) {x : Int64} (w1 : Cond.methodLink own idx Lib.MathLoose.abs_long.x ∈ jG) (w2 : Cond.static Lib.MathLoose.abs_long.x ∈ jG) (w3 : Cond.initialized "java/lang/Math" ∈ jG) (w4 : Cond.code Lib.MathLoose.abs_long.x Lib.MathLoose.abs_long.code 2 (some .long) ∈ jG) (hf : 1 ≤ rm.frames) (hlo : (st.map fun v => v.category).sum + 13 ≤ rm.locals) (hk : k ≤ rm.cells ∧ n ≤ rm.slots) (d : decode cc pc = .ok (.invokestatic idx, 3)) (K : jJ X nL k n Qf (pc + 3) lv (.long (if 0 < x then x else -x) :: st) ws e) : jJ X nL k n Qf pc lv (.long x :: st) ws e := fun r hr H locs ls hP hD hS hl => by
  have hR := hC.R
  have hml := hC.ml
  exact va_mabs_long hC.ex hC.co (by rw [hml]; exact hl.1.symm) hC.ow (hC.ts _ w1) (hC.ts _ w2) (hC.ts _ w3) (hC.ts _ w4) (by rw [hR]; exact hf) (by rw [hR]; exact hlo) (by rw [hR]; exact hk.1) (by rw [hR]; exact hk.2) d (K r hr H locs ls hP hD hS hl)
end JL
theorem kb_m100 : (Int8.ofInt (-100)).toInt32 = (-100 : Int32) := by decide +kernel
theorem kb_m99 : (Int8.ofInt (-99)).toInt32 = (-99 : Int32) := by decide +kernel
theorem kb_m20 : (Int8.ofInt (-20)).toInt32 = (-20 : Int32) := by decide +kernel
theorem kb_m10 : (Int8.ofInt (-10)).toInt32 = (-10 : Int32) := by decide +kernel
theorem kb_m5 : (Int8.ofInt (-5)).toInt32 = (-5 : Int32) := by decide +kernel
theorem kb_m4 : (Int8.ofInt (-4)).toInt32 = (-4 : Int32) := by decide +kernel
theorem kb_m3 : (Int8.ofInt (-3)).toInt32 = (-3 : Int32) := by decide +kernel
theorem kb_m2 : (Int8.ofInt (-2)).toInt32 = (-2 : Int32) := by decide +kernel
theorem kb_6 : (Int8.ofInt (6)).toInt32 = (6 : Int32) := by decide +kernel
theorem kb_7 : (Int8.ofInt (7)).toInt32 = (7 : Int32) := by decide +kernel
theorem kb_8 : (Int8.ofInt (8)).toInt32 = (8 : Int32) := by decide +kernel
theorem kb_9 : (Int8.ofInt (9)).toInt32 = (9 : Int32) := by decide +kernel
theorem kb_10 : (Int8.ofInt (10)).toInt32 = (10 : Int32) := by decide +kernel
theorem kb_11 : (Int8.ofInt (11)).toInt32 = (11 : Int32) := by decide +kernel
theorem kb_12 : (Int8.ofInt (12)).toInt32 = (12 : Int32) := by decide +kernel
theorem kb_13 : (Int8.ofInt (13)).toInt32 = (13 : Int32) := by decide +kernel
theorem kb_16 : (Int8.ofInt (16)).toInt32 = (16 : Int32) := by decide +kernel
theorem kb_17 : (Int8.ofInt (17)).toInt32 = (17 : Int32) := by decide +kernel
theorem kb_19 : (Int8.ofInt (19)).toInt32 = (19 : Int32) := by decide +kernel
theorem kb_20 : (Int8.ofInt (20)).toInt32 = (20 : Int32) := by decide +kernel
theorem kb_21 : (Int8.ofInt (21)).toInt32 = (21 : Int32) := by decide +kernel
theorem kb_24 : (Int8.ofInt (24)).toInt32 = (24 : Int32) := by decide +kernel
theorem kb_29 : (Int8.ofInt (29)).toInt32 = (29 : Int32) := by decide +kernel
theorem kb_30 : (Int8.ofInt (30)).toInt32 = (30 : Int32) := by decide +kernel
theorem kb_32 : (Int8.ofInt (32)).toInt32 = (32 : Int32) := by decide +kernel
theorem kb_34 : (Int8.ofInt (34)).toInt32 = (34 : Int32) := by decide +kernel
theorem kb_40 : (Int8.ofInt (40)).toInt32 = (40 : Int32) := by decide +kernel
theorem kb_48 : (Int8.ofInt (48)).toInt32 = (48 : Int32) := by decide +kernel
theorem kb_49 : (Int8.ofInt (49)).toInt32 = (49 : Int32) := by decide +kernel
theorem kb_50 : (Int8.ofInt (50)).toInt32 = (50 : Int32) := by decide +kernel
theorem kb_57 : (Int8.ofInt (57)).toInt32 = (57 : Int32) := by decide +kernel
theorem kb_59 : (Int8.ofInt (59)).toInt32 = (59 : Int32) := by decide +kernel
theorem kb_60 : (Int8.ofInt (60)).toInt32 = (60 : Int32) := by decide +kernel
theorem kb_63 : (Int8.ofInt (63)).toInt32 = (63 : Int32) := by decide +kernel
theorem kb_64 : (Int8.ofInt (64)).toInt32 = (64 : Int32) := by decide +kernel
theorem kb_77 : (Int8.ofInt (77)).toInt32 = (77 : Int32) := by decide +kernel
theorem kb_87 : (Int8.ofInt (87)).toInt32 = (87 : Int32) := by decide +kernel
theorem kb_90 : (Int8.ofInt (90)).toInt32 = (90 : Int32) := by decide +kernel
theorem kb_94 : (Int8.ofInt (94)).toInt32 = (94 : Int32) := by decide +kernel
theorem kb_97 : (Int8.ofInt (97)).toInt32 = (97 : Int32) := by decide +kernel
theorem kb_98 : (Int8.ofInt (98)).toInt32 = (98 : Int32) := by decide +kernel
theorem kb_99 : (Int8.ofInt (99)).toInt32 = (99 : Int32) := by decide +kernel
theorem kb_100 : (Int8.ofInt (100)).toInt32 = (100 : Int32) := by decide +kernel
theorem kb_104 : (Int8.ofInt (104)).toInt32 = (104 : Int32) := by decide +kernel
theorem kb_107 : (Int8.ofInt (107)).toInt32 = (107 : Int32) := by decide +kernel
theorem kb_109 : (Int8.ofInt (109)).toInt32 = (109 : Int32) := by decide +kernel
theorem kb_111 : (Int8.ofInt (111)).toInt32 = (111 : Int32) := by decide +kernel
theorem kb_114 : (Int8.ofInt (114)).toInt32 = (114 : Int32) := by decide +kernel
theorem kb_116 : (Int8.ofInt (116)).toInt32 = (116 : Int32) := by decide +kernel
theorem kb_119 : (Int8.ofInt (119)).toInt32 = (119 : Int32) := by decide +kernel
theorem kb_122 : (Int8.ofInt (122)).toInt32 = (122 : Int32) := by decide +kernel
theorem ki_m10 : Int32.ofInt (-10) = (-10 : Int32) := by decide +kernel
theorem ki_m1 : Int32.ofInt (-1) = (-1 : Int32) := by decide +kernel
theorem ki_0 : Int32.ofInt (0) = (0 : Int32) := by decide +kernel
theorem ki_1 : Int32.ofInt (1) = (1 : Int32) := by decide +kernel
theorem ki_2 : Int32.ofInt (2) = (2 : Int32) := by decide +kernel
theorem ki_3 : Int32.ofInt (3) = (3 : Int32) := by decide +kernel
theorem ki_4 : Int32.ofInt (4) = (4 : Int32) := by decide +kernel
theorem ki_5 : Int32.ofInt (5) = (5 : Int32) := by decide +kernel
theorem ks_m2000 : (Int16.ofInt (-2000)).toInt32 = (-2000 : Int32) := by decide +kernel
theorem ks_m1000 : (Int16.ofInt (-1000)).toInt32 = (-1000 : Int32) := by decide +kernel
theorem ks_147 : (Int16.ofInt (147)).toInt32 = (147 : Int32) := by decide +kernel
theorem ks_150 : (Int16.ofInt (150)).toInt32 = (150 : Int32) := by decide +kernel
theorem ks_153 : (Int16.ofInt (153)).toInt32 = (153 : Int32) := by decide +kernel
theorem ks_154 : (Int16.ofInt (154)).toInt32 = (154 : Int32) := by decide +kernel
theorem ks_175 : (Int16.ofInt (175)).toInt32 = (175 : Int32) := by decide +kernel
theorem ks_180 : (Int16.ofInt (180)).toInt32 = (180 : Int32) := by decide +kernel
theorem ks_191 : (Int16.ofInt (191)).toInt32 = (191 : Int32) := by decide +kernel
theorem ks_192 : (Int16.ofInt (192)).toInt32 = (192 : Int32) := by decide +kernel
theorem ks_200 : (Int16.ofInt (200)).toInt32 = (200 : Int32) := by decide +kernel
theorem ks_255 : (Int16.ofInt (255)).toInt32 = (255 : Int32) := by decide +kernel
theorem ks_300 : (Int16.ofInt (300)).toInt32 = (300 : Int32) := by decide +kernel
theorem ks_392 : (Int16.ofInt (392)).toInt32 = (392 : Int32) := by decide +kernel
theorem ks_394 : (Int16.ofInt (394)).toInt32 = (394 : Int32) := by decide +kernel
theorem ks_397 : (Int16.ofInt (397)).toInt32 = (397 : Int32) := by decide +kernel
theorem ks_398 : (Int16.ofInt (398)).toInt32 = (398 : Int32) := by decide +kernel
theorem ks_512 : (Int16.ofInt (512)).toInt32 = (512 : Int32) := by decide +kernel
theorem ks_576 : (Int16.ofInt (576)).toInt32 = (576 : Int32) := by decide +kernel
theorem ks_999 : (Int16.ofInt (999)).toInt32 = (999 : Int32) := by decide +kernel
theorem ks_1000 : (Int16.ofInt (1000)).toInt32 = (1000 : Int32) := by decide +kernel
theorem ks_20000 : (Int16.ofInt (20000)).toInt32 = (20000 : Int32) := by decide +kernel
theorem sw_0_4 {x : Int32} (h0 : ¬ x = 0) (h1 : ¬ x = 1) (h2 : ¬ x = 2) (h3 : ¬ x = 3) (h4 : ¬ x = 4) : x.toInt < 0 ∨ 4 < x.toInt := by
  rcases Int.lt_or_le x.toInt 0 with q | q
  · exact Or.inl q
  rcases Int.lt_or_le 4 x.toInt with q2 | q2
  · exact Or.inr q2
  exfalso
  have key : x.toInt = 0 ∨ x.toInt = 1 ∨ x.toInt = 2 ∨ x.toInt = 3 ∨ x.toInt = 4 := by omega
  rcases key with e | e | e | e | e
  · exact h0 (Int32.toInt_inj.mp (e.trans (by decide)))
  · exact h1 (Int32.toInt_inj.mp (e.trans (by decide)))
  · exact h2 (Int32.toInt_inj.mp (e.trans (by decide)))
  · exact h3 (Int32.toInt_inj.mp (e.trans (by decide)))
  · exact h4 (Int32.toInt_inj.mp (e.trans (by decide)))
theorem sw_0_5 {x : Int32} (h0 : ¬ x = 0) (h1 : ¬ x = 1) (h2 : ¬ x = 2) (h3 : ¬ x = 3) (h4 : ¬ x = 4) (h5 : ¬ x = 5) : x.toInt < 0 ∨ 5 < x.toInt := by
  rcases Int.lt_or_le x.toInt 0 with q | q
  · exact Or.inl q
  rcases Int.lt_or_le 5 x.toInt with q2 | q2
  · exact Or.inr q2
  exfalso
  have key : x.toInt = 0 ∨ x.toInt = 1 ∨ x.toInt = 2 ∨ x.toInt = 3 ∨ x.toInt = 4 ∨ x.toInt = 5 := by omega
  rcases key with e | e | e | e | e | e
  · exact h0 (Int32.toInt_inj.mp (e.trans (by decide)))
  · exact h1 (Int32.toInt_inj.mp (e.trans (by decide)))
  · exact h2 (Int32.toInt_inj.mp (e.trans (by decide)))
  · exact h3 (Int32.toInt_inj.mp (e.trans (by decide)))
  · exact h4 (Int32.toInt_inj.mp (e.trans (by decide)))
  · exact h5 (Int32.toInt_inj.mp (e.trans (by decide)))
theorem sw_1_6 {x : Int32} (h1 : ¬ x = 1) (h2 : ¬ x = 2) (h3 : ¬ x = 3) (h4 : ¬ x = 4) (h5 : ¬ x = 5) (h6 : ¬ x = 6) : x.toInt < 1 ∨ 6 < x.toInt := by
  rcases Int.lt_or_le x.toInt 1 with q | q
  · exact Or.inl q
  rcases Int.lt_or_le 6 x.toInt with q2 | q2
  · exact Or.inr q2
  exfalso
  have key : x.toInt = 1 ∨ x.toInt = 2 ∨ x.toInt = 3 ∨ x.toInt = 4 ∨ x.toInt = 5 ∨ x.toInt = 6 := by omega
  rcases key with e | e | e | e | e | e
  · exact h1 (Int32.toInt_inj.mp (e.trans (by decide)))
  · exact h2 (Int32.toInt_inj.mp (e.trans (by decide)))
  · exact h3 (Int32.toInt_inj.mp (e.trans (by decide)))
  · exact h4 (Int32.toInt_inj.mp (e.trans (by decide)))
  · exact h5 (Int32.toInt_inj.mp (e.trans (by decide)))
  · exact h6 (Int32.toInt_inj.mp (e.trans (by decide)))
theorem csRX8_59 : jSt RX8 59 yX8_fits cX8_fits 2 (some .boolean) 2 := ⟨wm388, wm389, wm74, wm390, by decide +kernel⟩
theorem csRX8_63 : jV RX8 63 RX8 yX8_bad cX8_bad 2 (some .int) 1 := ⟨wm398, wm400, wm1, wm74, wm401, by decide +kernel⟩
theorem csRX8_71 : jV RX8 71 RX8 yX8_added cX8_added 6 (some .int) 5 := ⟨wm402, wm404, wm2, wm74, wm405, by decide +kernel⟩
theorem csRX8_75 : jSt RX8 75 yX8_within cX8_within 3 (some .boolean) 3 := ⟨wm395, wm396, wm74, wm397, by decide +kernel⟩
theorem csRX8_85 : jV RX8 85 RX8 yX8_ready cX8_ready 5 (some .boolean) 4 := ⟨wm438, wm440, wm5, wm74, wm441, by decide +kernel⟩
theorem csRX8_93 : jV RX8 93 RX2 yX2_fly cX2_fly 8 none 1 := ⟨wm455, wm456, wm457, wm77, wm458, by decide +kernel⟩
theorem csRX8_97 : jV RX8 97 RX2 yX2_outcome cX2_outcome 2 (some .int) 1 := ⟨wm481, wm482, wm483, wm77, wm484, by decide +kernel⟩
theorem csRX8_122 : jV RX8 122 RX2 yX2_leave cX2_leave 6 none 0 := ⟨wm498, wm460, wm461, wm77, wm462, by decide +kernel⟩
theorem csRX8_128 : jV RX8 128 RX7 yX7_put cX7_put 6 (some .int) 3 := ⟨wm507, wm419, wm420, wm76, wm421, by decide +kernel⟩
theorem csRX8_137 : jV RX8 137 RX4 yX4_weighAll cX4_weighAll 3 (some .boolean) 1 := ⟨wm516, wm517, wm518, wm80, wm519, by decide +kernel⟩
theorem csRX8_141 : jV RX8 141 RX8 yX8_no cX8_no 2 (some .int) 1 := ⟨wm554, wm556, wm8, wm74, wm557, by decide +kernel⟩
theorem csRX8_144 : jV RX8 144 RX4 yX4_weigh cX4_weigh 7 none 2 := ⟨wm558, wm522, wm523, wm80, wm524, by decide +kernel⟩
theorem csRX8_155 : jV RX8 155 RX1 yX1_share cX1_share 8 none 2 := ⟨wm559, wm560, wm561, wm82, wm562, by decide +kernel⟩
theorem csRX8_171 : jV RX8 171 RX7 yX7_cell cX7_cell 4 (some .int) 2 := ⟨wm608, wm451, wm452, wm76, wm453, by decide +kernel⟩
theorem csRX8_174 : jV RX8 174 RX6 yX6_putRight cX6_putRight 2 (some .int) 1 := ⟨wm609, wm610, wm611, wm75, wm612, by decide +kernel⟩
theorem csRX8_177 : jSt RX8 177 yJ6_compare_7cf53 cJ6_compare_7cf53 2 (some .int) 2 := ⟨wm614, wm615, wm87, wm616, by decide +kernel⟩
theorem csRX8_182 : jV RX8 182 RX1 yX1_set cX1_set 7 none 2 := ⟨wm617, wm564, wm565, wm82, wm566, by decide +kernel⟩
theorem csRX8_192 : jV RX8 192 RX0 yX0_divide cX0_divide 6 none 1 := ⟨wm631, wm632, wm633, wm79, wm634, by decide +kernel⟩
theorem csRX8_209 : jV RX8 209 RX7 yX7_has cX7_has 2 (some .boolean) 1 := ⟨wm442, wm443, wm444, wm76, wm445, by decide +kernel⟩
theorem csRX8_213 : jV RX8 213 RX0 yX0_matches cX0_matches 7 (some .int) 3 := ⟨wm664, wm665, wm666, wm79, wm667, by decide +kernel⟩
theorem csRX8_220 : jV RX8 220 RX6 yX6_sortWeight cX6_sortWeight 6 (some .long) 2 := ⟨wm698, wm699, wm700, wm75, wm701, by decide +kernel⟩
theorem csRX8_227 : jV RX8 227 RX6 yX6_misfits cX6_misfits 4 (some .int) 1 := ⟨wm714, wm715, wm716, wm75, wm717, by decide +kernel⟩
theorem csRX8_233 : jV RX8 233 RX8 yX8_full cX8_full 1 (some .int) 0 := ⟨wm410, wm412, wm3, wm74, wm413, by decide +kernel⟩
theorem csRX8_237 : jV RX8 237 RX7 yX7_append cX7_append 6 (some .int) 4 := ⟨wm414, wm415, wm416, wm76, wm417, by decide +kernel⟩
theorem csRX8_241 : jV RX8 241 RX5 yX5_read cX5_read 4 (some .int) 1 := ⟨wm730, wm731, wm732, wm78, wm733, by decide +kernel⟩
theorem csRX8_248 : jV RX8 248 RX7 yX7_copyRow cX7_copyRow 5 none 3 := ⟨wm446, wm447, wm448, wm76, wm449, by decide +kernel⟩
theorem csRX8_266 : jV RX8 266 RX3 yX3_digit cX3_digit 2 (some .int) 1 := ⟨wm847, wm535, wm536, wm81, wm537, by decide +kernel⟩
theorem csRX8_273 : jV RX8 273 RX6 yX6_rowsOf cX6_rowsOf 2 (some .int) 1 := ⟨wm874, wm875, wm876, wm75, wm877, by decide +kernel⟩
theorem csRX8_278 : jSt RX8 278 yX8_mixed cX8_mixed 4 (some .long) 2 := ⟨wm883, wm884, wm74, wm885, by decide +kernel⟩
theorem csRX8_282 : jV RX8 282 RX6 yX6_mixedInto cX6_mixedInto 9 (some .long) 1 := ⟨wm887, wm888, wm889, wm75, wm890, by decide +kernel⟩
theorem csRX8_286 : jV RX8 286 RX1 yX1_mixedInto cX1_mixedInto 6 (some .long) 1 := ⟨wm896, wm897, wm898, wm82, wm899, by decide +kernel⟩
theorem csRX8_287 : jV RX8 287 RX7 yX7_isFull cX7_isFull 1 (some .boolean) 0 := ⟨wm406, wm407, wm408, wm76, wm409, by decide +kernel⟩
theorem csRX0_30 : jV RX0 30 RX0 yX0_sort cX0_sort 6 none 2 := ⟨wm636, wm638, wm10, wm79, wm639, by decide +kernel⟩
theorem csRX0_37 : jV RX0 37 RX0 yX0_spread cX0_spread 6 (some .int) 2 := ⟨wm641, wm643, wm11, wm79, wm644, by decide +kernel⟩
theorem csRX0_44 : jV RX0 44 RX7 yX7_cell cX7_cell 4 (some .int) 2 := ⟨wm640, wm451, wm452, wm76, wm453, by decide +kernel⟩
theorem csRX0_51 : jSt RX0 51 yJ6_bitCount_0f7a4 cJ6_bitCount_0f7a4 1 (some .int) 1 := ⟨wm668, wm669, wm87, wm670, by decide +kernel⟩
theorem csRX0_62 : jV RX0 62 RX0 yX0_grow cX0_grow 8 none 4 := ⟨wm674, wm676, wm12, wm79, wm677, by decide +kernel⟩
theorem csRX0_66 : jSt RX0 66 yX0_goTogether cX0_goTogether 4 (some .boolean) 3 := ⟨wm678, wm679, wm79, wm680, by decide +kernel⟩
theorem csRX0_70 : jV RX0 70 RX7 yX7_has cX7_has 2 (some .boolean) 1 := ⟨wm681, wm443, wm444, wm76, wm445, by decide +kernel⟩
theorem csRX1_19 : jV RX1 19 RX3 yX3_set cX3_set 3 none 1 := ⟨wm337, wm338, wm339, wm81, wm340, by decide +kernel⟩
theorem csRX1_29 : jSt RX1 29 yX1_commonDivisor cX1_commonDivisor 11 (some .long) 2 := ⟨wm570, wm571, wm82, wm572, by decide +kernel⟩
theorem csRX1_33 : jSt RX1 33 yJ13_compare_74951 cJ13_compare_74951 4 (some .int) 2 := ⟨wm573, wm574, wm86, wm575, by decide +kernel⟩
theorem csRX1_46 : jV RX1 46 RX1 yX1_set cX1_set 7 none 2 := ⟨wm563, wm564, wm565, wm82, wm566, by decide +kernel⟩
theorem csRX1_49 : jV RX1 49 RX3 yX3_copyFrom cX3_copyFrom 2 none 1 := ⟨wm576, wm548, wm549, wm81, wm550, by decide +kernel⟩
theorem csRX1_57 : jV RX1 57 RX1 yX1_areDividedBy cX1_areDividedBy 2 (some .boolean) 1 := ⟨wm579, wm581, wm9, wm82, wm582, by decide +kernel⟩
theorem csRX1_61 : jV RX1 61 RX3 yX3_divide cX3_divide 5 none 1 := ⟨wm587, wm588, wm589, wm81, wm590, by decide +kernel⟩
theorem csRX1_65 : jV RX1 65 RX3 yX3_remainder cX3_remainder 5 (some .int) 1 := ⟨wm583, wm584, wm585, wm81, wm586, by decide +kernel⟩
theorem csRX1_69 : jSn RX1 69 yX8_mixed cX8_mixed 4 (some .long) 2 := ⟨⟨11, rfl⟩, wm884, wm74, wm885, by decide +kernel⟩
theorem csRX1_74 : jV RX1 74 RX3 yX3_digit cX3_digit 2 (some .int) 1 := ⟨wm901, wm535, wm536, wm81, wm537, by decide +kernel⟩
theorem csRX2_43 : jV RX2 43 RX2 yX2_shape cX2_shape 2 none 0 := ⟨wm463, wm465, wm6, wm77, wm466, by decide +kernel⟩
theorem csRX2_46 : jSn RX2 46 yX8_divided cX8_divided 2 (some .int) 2 := ⟨⟨7, rfl⟩, wm474, wm74, wm475, by decide +kernel⟩
theorem csRX2_58 : jV RX2 58 RX2 yX2_leave cX2_leave 6 none 0 := ⟨wm459, wm460, wm461, wm77, wm462, by decide +kernel⟩
theorem csRX3_17 : jV RX3 17 RX3 yX3_pushUp cX3_pushUp 5 none 1 := ⟨wm341, wm343, wm0, wm81, wm344, by decide +kernel⟩
theorem csRX3_29 : jV RX3 29 RX3 yX3_dropZeros cX3_dropZeros 1 none 0 := ⟨wm530, wm532, wm7, wm81, wm533, by decide +kernel⟩
theorem csRX3_38 : jV RX3 38 RX3 yX3_digit cX3_digit 2 (some .int) 1 := ⟨wm534, wm535, wm536, wm81, wm537, by decide +kernel⟩
theorem csRX4_30 : jV RX4 30 RX7 yX7_cell cX7_cell 4 (some .int) 2 := ⟨wm525, wm451, wm452, wm76, wm453, by decide +kernel⟩
theorem csRX4_39 : jV RX4 39 RX3 yX3_set cX3_set 3 none 1 := ⟨wm520, wm338, wm339, wm81, wm340, by decide +kernel⟩
theorem csRX4_43 : jV RX4 43 RX3 yX3_multiply cX3_multiply 5 none 1 := ⟨wm526, wm527, wm528, wm81, wm529, by decide +kernel⟩
theorem csRX4_51 : jV RX4 51 RX4 yX4_weigh cX4_weigh 7 none 2 := ⟨wm521, wm522, wm523, wm80, wm524, by decide +kernel⟩
theorem csRX4_55 : jV RX4 55 RX3 yX3_add cX3_add 6 none 1 := ⟨wm538, wm539, wm540, wm81, wm541, by decide +kernel⟩
theorem csRX4_59 : jV RX4 59 RX3 yX3_isAbove cX3_isAbove 3 (some .boolean) 1 := ⟨wm543, wm544, wm545, wm81, wm546, by decide +kernel⟩
theorem csRX4_63 : jV RX4 63 RX3 yX3_copyFrom cX3_copyFrom 2 none 1 := ⟨wm547, wm548, wm549, wm81, wm550, by decide +kernel⟩
theorem csRX5_34 : jV RX5 34 RX5 yX5_advance cX5_advance 2 none 1 := ⟨wm734, wm736, wm14, wm78, wm737, by decide +kernel⟩
theorem csRX5_41 : jV RX5 41 RX5 yX5_itemNamed cX5_itemNamed 2 (some .int) 1 := ⟨wm754, wm756, wm17, wm78, wm757, by decide +kernel⟩
theorem csRX5_45 : jV RX5 45 RX5 yX5_mayStand cX5_mayStand 2 (some .boolean) 1 := ⟨wm814, wm816, wm19, wm78, wm817, by decide +kernel⟩
theorem csRX5_49 : jV RX5 49 RX5 yX5_readNumbers cX5_readNumbers 4 (some .boolean) 2 := ⟨wm819, wm821, wm20, wm78, wm822, by decide +kernel⟩
theorem csRX5_56 : jV RX5 56 RX5 yX5_close cX5_close 2 none 1 := ⟨wm826, wm828, wm21, wm78, wm829, by decide +kernel⟩
theorem csRX5_60 : jV RX5 60 RX7 yX7_isFull cX7_isFull 1 (some .boolean) 0 := ⟨wm818, wm407, wm408, wm76, wm409, by decide +kernel⟩
theorem csRX5_70 : jSn RX5 70 yX8_fits cX8_fits 2 (some .boolean) 2 := ⟨⟨9, rfl⟩, wm389, wm74, wm390, by decide +kernel⟩
theorem csRX5_74 : jV RX5 74 RX7 yX7_appendRow cX7_appendRow 4 none 1 := ⟨wm830, wm831, wm832, wm76, wm833, by decide +kernel⟩
theorem csRX5_80 : jV RX5 80 RX5 yX5_isWord cX5_isWord 4 (some .boolean) 2 := ⟨wm759, wm761, wm18, wm78, wm762, by decide +kernel⟩
theorem csRX5_96 : jV RX5 96 RX7 yX7_cell cX7_cell 4 (some .int) 2 := ⟨wm738, wm451, wm452, wm76, wm453, by decide +kernel⟩
theorem csRX5_104 : jSt RX5 104 yX5_isLetter cX5_isLetter 1 (some .boolean) 1 := ⟨wm739, wm740, wm78, wm741, by decide +kernel⟩
theorem csRX5_107 : jV RX5 107 RX5 yX5_readLetters cX5_readLetters 2 none 1 := ⟨wm743, wm745, wm15, wm78, wm746, by decide +kernel⟩
theorem csRX5_110 : jSt RX5 110 yX5_isFigure cX5_isFigure 1 (some .boolean) 1 := ⟨wm747, wm748, wm78, wm749, by decide +kernel⟩
theorem csRX5_113 : jV RX5 113 RX5 yX5_readFigures cX5_readFigures 2 none 1 := ⟨wm750, wm752, wm16, wm78, wm753, by decide +kernel⟩
theorem csRX5_116 : jSn RX5 116 yX8_within cX8_within 3 (some .boolean) 3 := ⟨⟨8, rfl⟩, wm396, wm74, wm397, by decide +kernel⟩
theorem csRX6_56 : jV RX6 56 RX7 yX7_copyFrom cX7_copyFrom 2 none 1 := ⟨wm856, wm857, wm858, wm76, wm859, by decide +kernel⟩
theorem csRX6_64 : jV RX6 64 RX7 yX7_mixedInto cX7_mixedInto 7 (some .long) 1 := ⟨wm891, wm892, wm893, wm76, wm894, by decide +kernel⟩
theorem csRX6_68 : jV RX6 68 RX7 yX7_cell cX7_cell 4 (some .int) 2 := ⟨wm613, wm451, wm452, wm76, wm453, by decide +kernel⟩
theorem csRX6_72 : jV RX6 72 RX6 yX6_knownOf cX6_knownOf 4 (some .int) 1 := ⟨wm702, wm704, wm13, wm75, wm705, by decide +kernel⟩
theorem csRX7_22 : jV RX7 22 RX7 yX7_put cX7_put 6 (some .int) 3 := ⟨wm418, wm419, wm420, wm76, wm421, by decide +kernel⟩
theorem csRX7_26 : jV RX7 26 RX7 yX7_indexOf cX7_indexOf 5 (some .int) 2 := ⟨wm422, wm424, wm4, wm76, wm425, by decide +kernel⟩
theorem csRX7_30 : jV RX7 30 RX7 yX7_cell cX7_cell 4 (some .int) 2 := ⟨wm450, wm451, wm452, wm76, wm453, by decide +kernel⟩
theorem csRX7_44 : jSn RX7 44 yX8_mixed cX8_mixed 4 (some .long) 2 := ⟨⟨10, rfl⟩, wm884, wm74, wm885, by decide +kernel⟩
theorem csRX9_36 : jV RX9 36 RX9 yX9_set cX9_set 6 none 2 := ⟨wm908, wm910, wm22, wm83, wm911, by decide +kernel⟩
theorem csRX9_42 : jV RX9 42 RX9 yX9_trim cX9_trim 2 none 1 := ⟨wm1165, wm1167, wm36, wm83, wm1168, by decide +kernel⟩
theorem csRX9_48 : jV RX9 48 RX9 yX9_copy cX9_copy 4 none 2 := ⟨wm1185, wm1187, wm41, wm83, wm1188, by decide +kernel⟩
theorem csRX9_52 : jV RX9 52 RX9 yX9_isEven cX9_isEven 2 (some .boolean) 1 := ⟨wm1189, wm1191, wm42, wm83, wm1192, by decide +kernel⟩
theorem csRX9_56 : jV RX9 56 RX9 yX9_halve cX9_halve 7 none 1 := ⟨wm1193, wm1195, wm43, wm83, wm1196, by decide +kernel⟩
theorem csRX9_59 : jV RX9 59 RX9 yX9_compare cX9_compare 6 (some .int) 2 := ⟨wm1197, wm1199, wm44, wm83, wm1200, by decide +kernel⟩
theorem csRX9_63 : jV RX9 63 RX9 yX9_take cX9_take 8 none 2 := ⟨wm1201, wm1203, wm45, wm83, wm1204, by decide +kernel⟩
theorem csRX9_66 : jV RX9 66 RX9 yX9_times cX9_times 9 none 2 := ⟨wm1161, wm1163, wm35, wm83, wm1164, by decide +kernel⟩
theorem csRX9_69 : jV RX9 69 RX9 yX9_addOne cX9_addOne 1 none 0 := ⟨wm1209, wm1211, wm47, wm83, wm1212, by decide +kernel⟩
theorem csRX9_76 : jV RX9 76 RX9 yX9_findDivisor cX9_findDivisor 5 none 2 := ⟨wm1181, wm1183, wm40, wm83, wm1184, by decide +kernel⟩
theorem csRX9_79 : jV RX9 79 RX9 yX9_divide cX9_divide 7 none 1 := ⟨wm1205, wm1207, wm46, wm83, wm1208, by decide +kernel⟩
theorem csRX9_82 : jV RX9 82 RX9 yX9_tell cX9_tell 4 none 3 := ⟨wm1177, wm1179, wm39, wm83, wm1180, by decide +kernel⟩
theorem csRX9_90 : jSt RX9 90 yX9_in cX9_in 6 (some .boolean) 3 := ⟨wm1039, wm1040, wm83, wm1041, by decide +kernel⟩
theorem csRX9_102 : jV RX9 102 RX9 yX9_many cX9_many 2 (some .int) 1 := ⟨wm1048, wm1050, wm24, wm83, wm1051, by decide +kernel⟩
theorem csRX9_106 : jSt RX9 106 yX9_isArm cX9_isArm 3 (some .boolean) 3 := ⟨wm1034, wm1035, wm83, wm1036, by decide +kernel⟩
theorem csRX9_110 : jV RX9 110 RX9 yX9_bad cX9_bad 2 (some .int) 1 := ⟨wm1044, wm1046, wm23, wm83, wm1047, by decide +kernel⟩
theorem csRX9_113 : jV RX9 113 RX9 yX9_full cX9_full 1 (some .int) 0 := ⟨wm1052, wm1054, wm25, wm83, wm1055, by decide +kernel⟩
theorem csRX9_117 : jV RX9 117 RX9 yX9_notes cX9_notes 7 (some .int) 5 := ⟨wm1056, wm1058, wm26, wm83, wm1059, by decide +kernel⟩
theorem csRX9_121 : jSt RX9 121 yX9_isHook cX9_isHook 3 (some .boolean) 3 := ⟨wm1064, wm1065, wm83, wm1066, by decide +kernel⟩
theorem csRX9_124 : jSt RX9 124 yX9_isDart cX9_isDart 4 (some .boolean) 4 := ⟨wm1071, wm1072, wm83, wm1073, by decide +kernel⟩
theorem csRX9_167 : jSt RX9 167 yX9_forward cX9_forward 1 (some .int) 1 := ⟨wm1108, wm1109, wm83, wm1110, by decide +kernel⟩
theorem csRX9_175 : jSt RX9 175 yX9_upward cX9_upward 1 (some .int) 1 := ⟨wm1112, wm1113, wm83, wm1114, by decide +kernel⟩
theorem csRX9_199 : jV RX9 199 RX9 yX9_leave cX9_leave 2 none 1 := ⟨wm1104, wm1106, wm32, wm83, wm1107, by decide +kernel⟩
theorem csRX9_202 : jV RX9 202 RX9 yX9_goOn cX9_goOn 5 none 0 := ⟨wm1115, wm1117, wm33, wm83, wm1118, by decide +kernel⟩
theorem csRX9_205 : jV RX9 205 RX9 yX9_push cX9_push 12 none 2 := ⟨wm1096, wm1098, wm30, wm83, wm1099, by decide +kernel⟩
theorem csRX9_208 : jV RX9 208 RX9 yX9_fly cX9_fly 2 none 1 := ⟨wm1100, wm1102, wm31, wm83, wm1103, by decide +kernel⟩
theorem csRX9_215 : jV RX9 215 RX9 yX9_isThrow cX9_isThrow 5 (some .boolean) 4 := ⟨wm1082, wm1084, wm27, wm83, wm1085, by decide +kernel⟩
theorem csRX9_221 : jV RX9 221 RX9 yX9_take_ cX9_take_ 4 none 3 := ⟨wm1088, wm1090, wm28, wm83, wm1091, by decide +kernel⟩
theorem csRX9_224 : jV RX9 224 RX9 yX9_flingBy cX9_flingBy 4 none 3 := ⟨wm1092, wm1094, wm29, wm83, wm1095, by decide +kernel⟩
theorem csRX9_231 : jSt RX9 231 yX9_isStory cX9_isStory 1 (some .boolean) 1 := ⟨wm1145, wm1146, wm83, wm1147, by decide +kernel⟩
theorem csRX9_236 : jV RX9 236 RX9 yX9_weigh cX9_weigh 5 none 2 := ⟨wm1157, wm1159, wm34, wm83, wm1160, by decide +kernel⟩
theorem csRX9_239 : jV RX9 239 RX9 yX9_add cX9_add 9 none 2 := ⟨wm1169, wm1171, wm37, wm83, wm1172, by decide +kernel⟩
theorem csRX9_242 : jV RX9 242 RX9 yX9_no cX9_no 2 (some .int) 1 := ⟨wm1173, wm1175, wm38, wm83, wm1176, by decide +kernel⟩
theorem csRX9_249 : jV RX9 249 RX9 yX9_groupOf cX9_groupOf 2 (some .int) 1 := ⟨wm1231, wm1233, wm48, wm83, wm1234, by decide +kernel⟩
theorem csRX9_252 : jV RX9 252 RX9 yX9_rightOf cX9_rightOf 2 (some .int) 1 := ⟨wm1235, wm1237, wm49, wm83, wm1238, by decide +kernel⟩
theorem csRX9_255 : jV RX9 255 RX9 yX9_tells cX9_tells 5 (some .int) 2 := ⟨wm1239, wm1241, wm50, wm83, wm1242, by decide +kernel⟩
theorem csRX9_259 : jV RX9 259 RX9 yX9_longOf cX9_longOf 2 (some .int) 1 := ⟨wm1263, wm1265, wm53, wm83, wm1266, by decide +kernel⟩
theorem csRX9_262 : jV RX9 262 RX9 yX9_isPart cX9_isPart 4 (some .boolean) 3 := ⟨wm1259, wm1261, wm52, wm83, wm1262, by decide +kernel⟩
theorem csRX9_265 : jV RX9 265 RX9 yX9_partOf cX9_partOf 5 (some .int) 2 := ⟨wm1255, wm1257, wm51, wm83, wm1258, by decide +kernel⟩
theorem csRX9_268 : jV RX9 268 RX9 yX9_spreadOf cX9_spreadOf 8 (some .int) 2 := ⟨wm1267, wm1269, wm54, wm83, wm1270, by decide +kernel⟩
theorem csRX9_271 : jV RX9 271 RX9 yX9_goesWith cX9_goesWith 4 (some .boolean) 2 := ⟨wm1291, wm1293, wm56, wm83, wm1294, by decide +kernel⟩
theorem csRX9_275 : jV RX9 275 RX9 yX9_rowsBy cX9_rowsBy 7 (some .int) 2 := ⟨wm1287, wm1289, wm55, wm83, wm1290, by decide +kernel⟩
theorem csRX9_280 : jSt RX9 280 yX9_isSort cX9_isSort 1 (some .boolean) 1 := ⟨wm1304, wm1305, wm83, wm1306, by decide +kernel⟩
theorem csRX9_283 : jSt RX9 283 yX9_isBand cX9_isBand 1 (some .boolean) 1 := ⟨wm1307, wm1308, wm83, wm1309, by decide +kernel⟩
theorem csRX9_286 : jV RX9 286 RX9 yX9_belowOf cX9_belowOf 4 (some .int) 1 := ⟨wm1322, wm1324, wm58, wm83, wm1325, by decide +kernel⟩
theorem csRX9_289 : jV RX9 289 RX9 yX9_weightOf cX9_weightOf 6 (some .long) 2 := ⟨wm1318, wm1320, wm57, wm83, wm1321, by decide +kernel⟩
theorem csRX9_297 : jV RX9 297 RX9 yX9_textLong cX9_textLong 1 (some .int) 0 := ⟨wm1340, wm1342, wm59, wm83, wm1343, by decide +kernel⟩
theorem csRX9_313 : jV RX9 313 RX9 yX9_byteAt cX9_byteAt 2 (some .int) 1 := ⟨wm1361, wm1363, wm62, wm83, wm1364, by decide +kernel⟩
theorem csRX9_325 : jSt RX9 325 yX9_isSmall cX9_isSmall 1 (some .boolean) 1 := ⟨wm1365, wm1366, wm83, wm1367, by decide +kernel⟩
theorem csRX9_328 : jSt RX9 328 yX9_isFigure cX9_isFigure 1 (some .boolean) 1 := ⟨wm1370, wm1371, wm83, wm1372, by decide +kernel⟩
theorem csRX9_334 : jV RX9 334 RX9 yX9_look cX9_look 5 none 1 := ⟨wm1357, wm1359, wm61, wm83, wm1360, by decide +kernel⟩
theorem csRX9_337 : jV RX9 337 RX9 yX9_takes cX9_takes 3 (some .boolean) 2 := ⟨wm1387, wm1389, wm66, wm83, wm1390, by decide +kernel⟩
theorem csRX9_344 : jV RX9 344 RX9 yX9_stops cX9_stops 1 (some .boolean) 0 := ⟨wm1391, wm1393, wm67, wm83, wm1394, by decide +kernel⟩
theorem csRX9_360 : jV RX9 360 RX9 yX9_isWord cX9_isWord 9 (some .boolean) 5 := ⟨wm1379, wm1381, wm64, wm83, wm1382, by decide +kernel⟩
theorem csRX9_364 : jV RX9 364 RX9 yX9_readThrow cX9_readThrow 3 (some .boolean) 0 := ⟨wm1383, wm1385, wm65, wm83, wm1386, by decide +kernel⟩
theorem csRX9_367 : jV RX9 367 RX9 yX9_readArm cX9_readArm 1 (some .boolean) 0 := ⟨wm1395, wm1397, wm68, wm83, wm1398, by decide +kernel⟩
theorem csRX9_370 : jV RX9 370 RX9 yX9_readHook cX9_readHook 1 (some .boolean) 0 := ⟨wm1399, wm1401, wm69, wm83, wm1402, by decide +kernel⟩
theorem csRX9_373 : jV RX9 373 RX9 yX9_readDart cX9_readDart 1 (some .boolean) 0 := ⟨wm1403, wm1405, wm70, wm83, wm1406, by decide +kernel⟩
theorem csRX9_376 : jV RX9 376 RX9 yX9_readItem cX9_readItem 4 (some .boolean) 0 := ⟨wm1375, wm1377, wm63, wm83, wm1378, by decide +kernel⟩
theorem csRX9_379 : jV RX9 379 RX9 yX9_reads cX9_reads 3 (some .boolean) 1 := ⟨wm1353, wm1355, wm60, wm83, wm1356, by decide +kernel⟩
theorem csRX9_383 : jV RX9 383 RX9 yX9_counted cX9_counted 2 (some .int) 1 := ⟨wm1435, wm1437, wm71, wm83, wm1438, by decide +kernel⟩
theorem csRX9_390 : jV RX9 390 RX9 yX9_sums cX9_sums 8 (some .long) 3 := ⟨wm1445, wm1447, wm72, wm83, wm1448, by decide +kernel⟩
def rX7_indexOf : Room := { frames := 0, cells := 0, slots := 0, locals := 0 }
def rX7_cell : Room := { frames := 1, cells := 0, slots := 0, locals := 24 }
def rX0_sort : Room := { frames := 2, cells := 0, slots := 0, locals := 47 }
def rX0_spread : Room := { frames := 1, cells := 0, slots := 0, locals := 21 }
def rX0_divide : Room := { frames := 3, cells := 0, slots := 0, locals := 72 }
def rJ6_bitCount_0f7a4 : Room := { frames := 0, cells := 0, slots := 0, locals := 0 }
def rX7_has : Room := { frames := 0, cells := 0, slots := 0, locals := 0 }
def rX0_goTogether : Room := { frames := 2, cells := 0, slots := 0, locals := 47 }
def rX0_grow : Room := { frames := 3, cells := 0, slots := 0, locals := 70 }
def rX0_matches : Room := { frames := 4, cells := 0, slots := 0, locals := 97 }
def rX3_pushUp : Room := { frames := 0, cells := 0, slots := 0, locals := 0 }
def rX3_set : Room := { frames := 1, cells := 0, slots := 0, locals := 24 }
def rX1_commonDivisor : Room := { frames := 0, cells := 0, slots := 0, locals := 0 }
def rJ13_compare_74951 : Room := { frames := 0, cells := 0, slots := 0, locals := 0 }
def rX1_set : Room := { frames := 2, cells := 0, slots := 0, locals := 46 }
def rX3_copyFrom : Room := { frames := 1, cells := 0, slots := 0, locals := 60 }
def rX3_digit : Room := { frames := 0, cells := 0, slots := 0, locals := 0 }
def rX3_remainder : Room := { frames := 1, cells := 0, slots := 0, locals := 21 }
def rX1_areDividedBy : Room := { frames := 2, cells := 0, slots := 0, locals := 45 }
def rX3_dropZeros : Room := { frames := 1, cells := 0, slots := 0, locals := 21 }
def rX3_divide : Room := { frames := 2, cells := 0, slots := 0, locals := 41 }
def rX1_share : Room := { frames := 3, cells := 0, slots := 0, locals := 81 }
def rX8_mixed : Room := { frames := 0, cells := 0, slots := 0, locals := 0 }
def rX1_mixedInto : Room := { frames := 1, cells := 0, slots := 0, locals := 23 }
def rX2_shape : Room := { frames := 1, cells := 0, slots := 0, locals := 21 }
def rX8_divided : Room := { frames := 0, cells := 0, slots := 0, locals := 0 }
def rX2_leave : Room := { frames := 2, cells := 0, slots := 0, locals := 42 }
def rX2_fly : Room := { frames := 3, cells := 0, slots := 0, locals := 67 }
def rX2_outcome : Room := { frames := 0, cells := 0, slots := 0, locals := 0 }
def rX3_multiply : Room := { frames := 2, cells := 0, slots := 0, locals := 41 }
def rX3_add : Room := { frames := 1, cells := 0, slots := 0, locals := 24 }
def rX3_isAbove : Room := { frames := 1, cells := 0, slots := 0, locals := 21 }
def rX4_weigh : Room := { frames := 3, cells := 0, slots := 0, locals := 65 }
def rX4_weighAll : Room := { frames := 4, cells := 0, slots := 0, locals := 91 }
def rX8_within : Room := { frames := 0, cells := 0, slots := 0, locals := 0 }
def rX5_isLetter : Room := { frames := 1, cells := 0, slots := 0, locals := 22 }
def rX5_readLetters : Room := { frames := 2, cells := 0, slots := 0, locals := 47 }
def rX5_isFigure : Room := { frames := 1, cells := 0, slots := 0, locals := 22 }
def rX5_readFigures : Room := { frames := 2, cells := 0, slots := 0, locals := 47 }
def rX5_advance : Room := { frames := 3, cells := 0, slots := 0, locals := 68 }
def rX5_isWord : Room := { frames := 4, cells := 0, slots := 0, locals := 121 }
def rX5_itemNamed : Room := { frames := 5, cells := 0, slots := 0, locals := 144 }
def rX7_isFull : Room := { frames := 0, cells := 0, slots := 0, locals := 0 }
def rX5_mayStand : Room := { frames := 1, cells := 0, slots := 0, locals := 20 }
def rX8_fits : Room := { frames := 1, cells := 0, slots := 0, locals := 22 }
def rX5_readNumbers : Room := { frames := 4, cells := 0, slots := 0, locals := 89 }
def rX7_put : Room := { frames := 1, cells := 0, slots := 0, locals := 24 }
def rX7_appendRow : Room := { frames := 2, cells := 0, slots := 0, locals := 49 }
def rX5_close : Room := { frames := 3, cells := 0, slots := 0, locals := 72 }
def rX5_read : Room := { frames := 6, cells := 0, slots := 0, locals := 165 }
def rX7_copyFrom : Room := { frames := 1, cells := 0, slots := 0, locals := 60 }
def rX6_copyFrom : Room := { frames := 2, cells := 0, slots := 0, locals := 81 }
def rX6_rowsOf : Room := { frames := 0, cells := 0, slots := 0, locals := 0 }
def rX7_mixedInto : Room := { frames := 2, cells := 0, slots := 0, locals := 47 }
def rX6_mixedInto : Room := { frames := 3, cells := 0, slots := 0, locals := 73 }
def rX6_putRight : Room := { frames := 2, cells := 0, slots := 0, locals := 47 }
def rX6_knownOf : Room := { frames := 2, cells := 0, slots := 0, locals := 47 }
def rX6_sortWeight : Room := { frames := 3, cells := 0, slots := 0, locals := 70 }
def rX6_misfits : Room := { frames := 2, cells := 0, slots := 0, locals := 47 }
def rX7_append : Room := { frames := 2, cells := 0, slots := 0, locals := 49 }
def rX7_copyRow : Room := { frames := 2, cells := 0, slots := 0, locals := 47 }
def rX8_bad : Room := { frames := 0, cells := 0, slots := 0, locals := 0 }
def rX8_full : Room := { frames := 0, cells := 0, slots := 0, locals := 0 }
def rX8_added : Room := { frames := 3, cells := 0, slots := 0, locals := 74 }
def rX8_arm : Room := { frames := 4, cells := 0, slots := 0, locals := 99 }
def rX8_hook : Room := { frames := 4, cells := 0, slots := 0, locals := 99 }
def rX8_dart : Room := { frames := 4, cells := 0, slots := 0, locals := 99 }
def rX8_ready : Room := { frames := 3, cells := 0, slots := 0, locals := 71 }
def rX8_fling : Room := { frames := 4, cells := 0, slots := 0, locals := 95 }
def rX8_strikes : Room := { frames := 4, cells := 0, slots := 0, locals := 95 }
def rX8_length : Room := { frames := 4, cells := 0, slots := 0, locals := 95 }
def rX8_straight : Room := { frames := 4, cells := 0, slots := 0, locals := 95 }
def rX8_contest : Room := { frames := 4, cells := 0, slots := 0, locals := 95 }
def rX8_story : Room := { frames := 2, cells := 0, slots := 0, locals := 49 }
def rX8_tries : Room := { frames := 2, cells := 0, slots := 0, locals := 49 }
def rX8_no : Room := { frames := 0, cells := 0, slots := 0, locals := 0 }
def rX8_odds : Room := { frames := 5, cells := 0, slots := 0, locals := 113 }
def rX8_parts : Room := { frames := 5, cells := 0, slots := 0, locals := 113 }
def rX8_person : Room := { frames := 4, cells := 0, slots := 0, locals := 99 }
def rX8_praise : Room := { frames := 2, cells := 0, slots := 0, locals := 49 }
def rJ6_compare_7cf53 : Room := { frames := 0, cells := 0, slots := 0, locals := 0 }
def rX8_pairs : Room := { frames := 3, cells := 0, slots := 0, locals := 72 }
def rX8_span : Room := { frames := 3, cells := 0, slots := 0, locals := 72 }
def rX8_thorn : Room := { frames := 4, cells := 0, slots := 0, locals := 99 }
def rX8_kinds : Room := { frames := 4, cells := 0, slots := 0, locals := 97 }
def rX8_land : Room := { frames := 3, cells := 0, slots := 0, locals := 72 }
def rX8_butt : Room := { frames := 4, cells := 0, slots := 0, locals := 99 }
def rX8_play : Room := { frames := 2, cells := 0, slots := 0, locals := 49 }
def rX8_which : Room := { frames := 5, cells := 0, slots := 0, locals := 123 }
def rX8_hands : Room := { frames := 3, cells := 0, slots := 0, locals := 72 }
def rX8_known : Room := { frames := 2, cells := 0, slots := 0, locals := 49 }
def rX8_prior : Room := { frames := 2, cells := 0, slots := 0, locals := 49 }
def rX8_tip : Room := { frames := 4, cells := 0, slots := 0, locals := 95 }
def rX8_layer : Room := { frames := 2, cells := 0, slots := 0, locals := 49 }
def rX8_came : Room := { frames := 3, cells := 0, slots := 0, locals := 70 }
def rX8_type : Room := { frames := 3, cells := 0, slots := 0, locals := 74 }
def rX8_clear : Room := { frames := 0, cells := 0, slots := 0, locals := 0 }
def rX8_fault : Room := { frames := 7, cells := 0, slots := 0, locals := 188 }
def rX8_plan : Room := { frames := 7, cells := 0, slots := 0, locals := 188 }
def rX8_sign : Room := { frames := 1, cells := 0, slots := 0, locals := 22 }
def rX8_limb : Room := { frames := 1, cells := 0, slots := 0, locals := 22 }
def rX8_status : Room := { frames := 1, cells := 0, slots := 0, locals := 22 }
def rX8_count : Room := { frames := 1, cells := 0, slots := 0, locals := 22 }
def rX8_digest : Room := { frames := 4, cells := 0, slots := 0, locals := 101 }
def rX9_set : Room := { frames := 0, cells := 0, slots := 0, locals := 0 }
def rX9_in : Room := { frames := 0, cells := 0, slots := 0, locals := 0 }
def rX9_bad : Room := { frames := 0, cells := 0, slots := 0, locals := 0 }
def rX9_no : Room := { frames := 0, cells := 0, slots := 0, locals := 0 }
def rX9_full : Room := { frames := 0, cells := 0, slots := 0, locals := 0 }
def rX9_copy : Room := { frames := 0, cells := 0, slots := 0, locals := 0 }
def rX9_trim : Room := { frames := 0, cells := 0, slots := 0, locals := 0 }
def rX9_times : Room := { frames := 1, cells := 0, slots := 0, locals := 21 }
def rX9_compare : Room := { frames := 0, cells := 0, slots := 0, locals := 0 }
def rX9_add : Room := { frames := 1, cells := 0, slots := 0, locals := 21 }
def rX9_take : Room := { frames := 1, cells := 0, slots := 0, locals := 21 }
def rX9_halve : Room := { frames := 1, cells := 0, slots := 0, locals := 21 }
def rX9_isEven : Room := { frames := 0, cells := 0, slots := 0, locals := 0 }
def rX9_findDivisor : Room := { frames := 2, cells := 0, slots := 0, locals := 49 }
def rX9_addOne : Room := { frames := 1, cells := 0, slots := 0, locals := 25 }
def rX9_divide : Room := { frames := 2, cells := 0, slots := 0, locals := 49 }
def rX9_tell : Room := { frames := 3, cells := 0, slots := 0, locals := 75 }
def rX9_tells : Room := { frames := 4, cells := 0, slots := 0, locals := 98 }
def rX9_many : Room := { frames := 0, cells := 0, slots := 0, locals := 0 }
def rX9_isArm : Room := { frames := 1, cells := 0, slots := 0, locals := 25 }
def rX9_isHook : Room := { frames := 1, cells := 0, slots := 0, locals := 25 }
def rX9_isDart : Room := { frames := 1, cells := 0, slots := 0, locals := 25 }
def rX9_notes : Room := { frames := 1, cells := 0, slots := 0, locals := 21 }
def rX9_arm : Room := { frames := 2, cells := 0, slots := 0, locals := 47 }
def rX9_hook : Room := { frames := 2, cells := 0, slots := 0, locals := 47 }
def rX9_dart : Room := { frames := 2, cells := 0, slots := 0, locals := 48 }
def rX9_take_ : Room := { frames := 0, cells := 0, slots := 0, locals := 0 }
def rX9_push : Room := { frames := 0, cells := 0, slots := 0, locals := 0 }
def rX9_forward : Room := { frames := 0, cells := 0, slots := 0, locals := 0 }
def rX9_upward : Room := { frames := 0, cells := 0, slots := 0, locals := 0 }
def rX9_leave : Room := { frames := 1, cells := 0, slots := 0, locals := 20 }
def rX9_goOn : Room := { frames := 0, cells := 0, slots := 0, locals := 0 }
def rX9_fly : Room := { frames := 2, cells := 0, slots := 0, locals := 41 }
def rX9_flingBy : Room := { frames := 3, cells := 0, slots := 0, locals := 62 }
def rX9_isThrow : Room := { frames := 1, cells := 0, slots := 0, locals := 25 }
def rX9_fling : Room := { frames := 4, cells := 0, slots := 0, locals := 85 }
def rX9_strikes : Room := { frames := 2, cells := 0, slots := 0, locals := 49 }
def rX9_length : Room := { frames := 4, cells := 0, slots := 0, locals := 85 }
def rX9_straight : Room := { frames := 2, cells := 0, slots := 0, locals := 49 }
def rX9_contest : Room := { frames := 4, cells := 0, slots := 0, locals := 85 }
def rX9_isStory : Room := { frames := 1, cells := 0, slots := 0, locals := 25 }
def rX9_story : Room := { frames := 2, cells := 0, slots := 0, locals := 45 }
def rX9_tries : Room := { frames := 1, cells := 0, slots := 0, locals := 25 }
def rX9_weigh : Room := { frames := 2, cells := 0, slots := 0, locals := 49 }
def rX9_odds : Room := { frames := 4, cells := 0, slots := 0, locals := 98 }
def rX9_parts : Room := { frames := 3, cells := 0, slots := 0, locals := 73 }
def rX9_person : Room := { frames := 2, cells := 0, slots := 0, locals := 47 }
def rX9_praise : Room := { frames := 1, cells := 0, slots := 0, locals := 25 }
def rX9_groupOf : Room := { frames := 0, cells := 0, slots := 0, locals := 0 }
def rX9_rightOf : Room := { frames := 0, cells := 0, slots := 0, locals := 0 }
def rX9_pairs : Room := { frames := 5, cells := 0, slots := 0, locals := 122 }
def rX9_span : Room := { frames := 5, cells := 0, slots := 0, locals := 122 }
def rX9_thorn : Room := { frames := 2, cells := 0, slots := 0, locals := 47 }
def rX9_longOf : Room := { frames := 0, cells := 0, slots := 0, locals := 0 }
def rX9_isPart : Room := { frames := 1, cells := 0, slots := 0, locals := 21 }
def rX9_partOf : Room := { frames := 2, cells := 0, slots := 0, locals := 44 }
def rX9_spreadOf : Room := { frames := 3, cells := 0, slots := 0, locals := 68 }
def rX9_kinds : Room := { frames := 4, cells := 0, slots := 0, locals := 95 }
def rX9_land : Room := { frames := 5, cells := 0, slots := 0, locals := 122 }
def rX9_butt : Room := { frames := 1, cells := 0, slots := 0, locals := 25 }
def rX9_play : Room := { frames := 1, cells := 0, slots := 0, locals := 25 }
def rX9_goesWith : Room := { frames := 1, cells := 0, slots := 0, locals := 21 }
def rX9_rowsBy : Room := { frames := 2, cells := 0, slots := 0, locals := 44 }
def rX9_which : Room := { frames := 5, cells := 0, slots := 0, locals := 122 }
def rX9_hands : Room := { frames := 5, cells := 0, slots := 0, locals := 122 }
def rX9_isSort : Room := { frames := 1, cells := 0, slots := 0, locals := 25 }
def rX9_isBand : Room := { frames := 1, cells := 0, slots := 0, locals := 25 }
def rX9_known : Room := { frames := 2, cells := 0, slots := 0, locals := 45 }
def rX9_prior : Room := { frames := 2, cells := 0, slots := 0, locals := 45 }
def rX9_belowOf : Room := { frames := 0, cells := 0, slots := 0, locals := 0 }
def rX9_weightOf : Room := { frames := 1, cells := 0, slots := 0, locals := 23 }
def rX9_tip : Room := { frames := 5, cells := 0, slots := 0, locals := 122 }
def rX9_layer : Room := { frames := 1, cells := 0, slots := 0, locals := 25 }
def rX9_came : Room := { frames := 1, cells := 0, slots := 0, locals := 25 }
def rX9_textLong : Room := { frames := 0, cells := 0, slots := 0, locals := 0 }
def rX9_byteAt : Room := { frames := 0, cells := 0, slots := 0, locals := 0 }
def rX9_type : Room := { frames := 1, cells := 0, slots := 0, locals := 25 }
def rX9_clear : Room := { frames := 1, cells := 0, slots := 0, locals := 20 }
def rX9_isSmall : Room := { frames := 1, cells := 0, slots := 0, locals := 25 }
def rX9_isFigure : Room := { frames := 1, cells := 0, slots := 0, locals := 25 }
def rX9_look : Room := { frames := 2, cells := 0, slots := 0, locals := 45 }
def rX9_isWord : Room := { frames := 1, cells := 0, slots := 0, locals := 21 }
def rX9_takes : Room := { frames := 3, cells := 0, slots := 0, locals := 69 }
def rX9_stops : Room := { frames := 3, cells := 0, slots := 0, locals := 69 }
def rX9_readArm : Room := { frames := 4, cells := 0, slots := 0, locals := 91 }
def rX9_readHook : Room := { frames := 4, cells := 0, slots := 0, locals := 91 }
def rX9_readDart : Room := { frames := 4, cells := 0, slots := 0, locals := 91 }
def rX9_readThrow : Room := { frames := 4, cells := 0, slots := 0, locals := 91 }
def rX9_readItem : Room := { frames := 5, cells := 0, slots := 0, locals := 113 }
def rX9_reads : Room := { frames := 6, cells := 0, slots := 0, locals := 136 }
def rX9_fault : Room := { frames := 7, cells := 0, slots := 0, locals := 158 }
def rX9_plan : Room := { frames := 7, cells := 0, slots := 0, locals := 158 }
def rX9_sign : Room := { frames := 1, cells := 0, slots := 0, locals := 21 }
def rX9_limb : Room := { frames := 1, cells := 0, slots := 0, locals := 25 }
def rX9_image : Room := { frames := 1, cells := 0, slots := 0, locals := 25 }
def rX9_from : Room := { frames := 1, cells := 0, slots := 0, locals := 25 }
def rX9_status : Room := { frames := 1, cells := 0, slots := 0, locals := 25 }
def rX9_counted : Room := { frames := 1, cells := 0, slots := 0, locals := 21 }
def rX9_count : Room := { frames := 2, cells := 0, slots := 0, locals := 42 }
def rX9_sums : Room := { frames := 0, cells := 0, slots := 0, locals := 0 }
def rX9_digest : Room := { frames := 2, cells := 0, slots := 0, locals := 42 }
