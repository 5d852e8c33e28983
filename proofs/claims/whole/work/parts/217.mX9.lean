abbrev gX9_push (X : jX) (h_a h_a_now h_a_kept h_a_isKept h_a_refused h_a_limbs h_a_sizes h_a_ways h_a_ranges : Nat) (p1 p2 v_a_sign v_a_reach v_a_strength v_a_lag v_a_length v_a_weight v_a_place v_a_mass v_a_stiff v_a_tip v_a_tail v_a_pace v_a_bend v_a_off v_a_rise v_a_rounds v_a_x v_a_y v_a_vx v_a_vy v_a_tokenAt v_a_tokenLong v_a_token v_a_number v_a_read v_a_hasArm v_a_hasHook v_a_hasDart v_a_throwMany v_a_isGone : Int32) (pc : Nat) (lv : List (Nat × Value)) (st : List Value) (w0 : Int32) (w1 : Int32) (w2 : Int32) (e : Option (Int32 × Int32 × Int32)) : Prop := jJ (ρ := Int32 × Int32 × Int32) X 12 0 0 (jQf X 0 0 (fun (_ : Int32 × Int32 × Int32) => none) (fun (r : Int32 × Int32 × Int32) (_ : Nat → Nat) => [(h_a, .inr (9, [.ref h_a_now, .ref h_a_kept, .ref h_a_isKept, .ref h_a_refused, .ref h_a_limbs, .ref h_a_sizes, .int v_a_sign, .int v_a_reach, .int v_a_strength, .int v_a_lag, .int v_a_length, .int v_a_weight, .int v_a_place, .int v_a_mass, .int v_a_stiff, .int v_a_tip, .int v_a_tail, .int r.1, .int r.2.1, .int r.2.2, .int v_a_rise, .int v_a_rounds, .int v_a_x, .int v_a_y, .int v_a_vx, .int v_a_vy, .ref h_a_ways, .int v_a_tokenAt, .int v_a_tokenLong, .int v_a_token, .int v_a_number, .int v_a_read, .int v_a_hasArm, .int v_a_hasHook, .int v_a_hasDart, .int v_a_throwMany, .ref h_a_ranges, .int v_a_isGone]))])) pc lv st [(h_a, .inr (9, [.ref h_a_now, .ref h_a_kept, .ref h_a_isKept, .ref h_a_refused, .ref h_a_limbs, .ref h_a_sizes, .int v_a_sign, .int v_a_reach, .int v_a_strength, .int v_a_lag, .int v_a_length, .int v_a_weight, .int v_a_place, .int v_a_mass, .int v_a_stiff, .int v_a_tip, .int v_a_tail, .int w0, .int w1, .int w2, .int v_a_rise, .int v_a_rounds, .int v_a_x, .int v_a_y, .int v_a_vx, .int v_a_vy, .ref h_a_ways, .int v_a_tokenAt, .int v_a_tokenLong, .int v_a_token, .int v_a_number, .int v_a_read, .int v_a_hasArm, .int v_a_hasHook, .int v_a_hasDart, .int v_a_throwMany, .ref h_a_ranges, .int v_a_isGone]))] (e)
set_option maxHeartbeats 4000000 in
set_option maxRecDepth 100000 in
theorem jX9_push_b199 {X : jX} (hC : jC X cX9_push 12 RX9 rX9_push none) (u : Nat) (h_a h_a_now h_a_kept h_a_isKept h_a_refused h_a_limbs h_a_sizes h_a_ways h_a_ranges : Nat) (p1 p2 v_a_sign v_a_reach v_a_strength v_a_lag v_a_length v_a_weight v_a_place v_a_mass v_a_stiff v_a_tip v_a_tail v_a_pace v_a_bend v_a_off v_a_rise v_a_rounds v_a_x v_a_y v_a_vx v_a_vy v_a_tokenAt v_a_tokenLong v_a_token v_a_number v_a_read v_a_hasArm v_a_hasHook v_a_hasDart v_a_throwMany v_a_isGone : Int32) (rec185 : (Int32 × Int32 × Int32 × Int32 × Int32 × Int32 × Int32 × Int32 × Int32 × Int32) → Option (Int32 × Int32 × Int32)) (hrec185 : ∀ p : Int32 × Int32 × Int32 × Int32 × Int32 × Int32 × Int32 × Int32 × Int32 × Int32, gX9_push X h_a h_a_now h_a_kept h_a_isKept h_a_refused h_a_limbs h_a_sizes h_a_ways h_a_ranges p1 p2 v_a_sign v_a_reach v_a_strength v_a_lag v_a_length v_a_weight v_a_place v_a_mass v_a_stiff v_a_tip v_a_tail v_a_pace v_a_bend v_a_off v_a_rise v_a_rounds v_a_x v_a_y v_a_vx v_a_vy v_a_tokenAt v_a_tokenLong v_a_token v_a_number v_a_read v_a_hasArm v_a_hasHook v_a_hasDart v_a_throwMany v_a_isGone 185 [(0, .ref h_a), (3, .int p.1), (6, .int p.2.1), (7, .int p.2.2.1), (8, .int p.2.2.2.1), (9, .int p.2.2.2.2.1), (10, .int p.2.2.2.2.2.1), (11, .int p.2.2.2.2.2.2.1)] [] p.2.2.2.2.2.2.2.1 p.2.2.2.2.2.2.2.2.1 p.2.2.2.2.2.2.2.2.2 (rec185 p)) (p : Int32 × Int32 × Int32 × Int32 × Int32 × Int32 × Int32 × Int32 × Int32 × Int32 × Int32 × Int32) : gX9_push X h_a h_a_now h_a_kept h_a_isKept h_a_refused h_a_limbs h_a_sizes h_a_ways h_a_ranges p1 p2 v_a_sign v_a_reach v_a_strength v_a_lag v_a_length v_a_weight v_a_place v_a_mass v_a_stiff v_a_tip v_a_tail v_a_pace v_a_bend v_a_off v_a_rise v_a_rounds v_a_x v_a_y v_a_vx v_a_vy v_a_tokenAt v_a_tokenLong v_a_token v_a_number v_a_read v_a_hasArm v_a_hasHook v_a_hasDart v_a_throwMany v_a_isGone 199 [(0, .ref h_a), (3, .int p.1), (6, .int p.2.1), (7, .int p.2.2.1), (8, .int p.2.2.2.1), (9, .int p.2.2.2.2.1), (10, .int p.2.2.2.2.2.1), (11, .int p.2.2.2.2.2.2.1)] [.int p.2.2.2.2.2.2.2.2.1, .int p.2.2.2.2.2.2.2.1] p.2.2.2.2.2.2.2.2.2.1 p.2.2.2.2.2.2.2.2.2.2.1 p.2.2.2.2.2.2.2.2.2.2.2 (fX9_push_b199 u p1 p2 v_a_reach v_a_strength v_a_lag v_a_length v_a_weight v_a_place v_a_mass v_a_stiff v_a_tip v_a_pace v_a_bend v_a_off rec185 p) := by
  unfold fX9_push_b199
  refine j_icmpge (pc := 199) hC 271 (by decide) dX9_push_199 ?_ ?_
  · refine j_aload_n (pc := 271) hC 0 rfl dX9_push_271 ?_
    refine j_iload (pc := 272) hC 6 rfl dX9_push_272 ?_
    refine j_aload_n (pc := 274) hC 0 rfl dX9_push_274 ?_
    refine j_get (pc := 275) hC flRX9_158 0 rfl rfl dX9_push_275 ?_
    refine j_iload (pc := 278) hC 2 rfl dX9_push_278 ?_
    refine j_imul (pc := 280) hC dX9_push_280 ?_
    refine j_bipush (pc := 281) hC kb_50 dX9_push_281 ?_
    refine j_idivc (pc := 283) hC (by decide) dX9_push_283 ?_
    refine j_iadd (pc := 284) hC dX9_push_284 ?_
    refine j_let (pc := 285) (fun x3 => ?_)
    refine j_put (pc := 285) hC fpRX9_161 0 rfl rfl rfl (Nat.le_of_ble_eq_true rfl) dX9_push_285 (ws' := [(h_a, .inr (9, [.ref h_a_now, .ref h_a_kept, .ref h_a_isKept, .ref h_a_refused, .ref h_a_limbs, .ref h_a_sizes, .int v_a_sign, .int v_a_reach, .int v_a_strength, .int v_a_lag, .int v_a_length, .int v_a_weight, .int v_a_place, .int v_a_mass, .int v_a_stiff, .int v_a_tip, .int v_a_tail, .int x3, .int p.2.2.2.2.2.2.2.2.2.2.1, .int p.2.2.2.2.2.2.2.2.2.2.2, .int v_a_rise, .int v_a_rounds, .int v_a_x, .int v_a_y, .int v_a_vx, .int v_a_vy, .ref h_a_ways, .int v_a_tokenAt, .int v_a_tokenLong, .int v_a_token, .int v_a_number, .int v_a_read, .int v_a_hasArm, .int v_a_hasHook, .int v_a_hasDart, .int v_a_throwMany, .ref h_a_ranges, .int v_a_isGone]))]) rfl ?_
    refine j_aload_n (pc := 288) hC 0 rfl dX9_push_288 ?_
    refine j_aload_n (pc := 289) hC 0 rfl dX9_push_289 ?_
    refine j_get (pc := 290) hC flRX9_158 0 rfl rfl dX9_push_290 ?_
    refine j_bipush (pc := 293) hC kb_10 dX9_push_293 ?_
    refine j_icmpge (pc := 295) hC 308 (by decide) dX9_push_295 ?_ ?_
    · refine j_aload_n (pc := 308) hC 0 rfl dX9_push_308 ?_
      refine j_get (pc := 309) hC flRX9_158 0 rfl rfl dX9_push_309 ?_
      refine j_bipush (pc := 312) hC kb_30 dX9_push_312 ?_
      refine j_icmple (pc := 314) hC 327 (by decide) dX9_push_314 ?_ ?_
      · refine j_iconst (pc := 327) hC ki_0 dX9_push_327 ?_
        refine j_put (pc := 328) hC fpRX9_164 0 rfl rfl rfl (Nat.le_of_ble_eq_true rfl) dX9_push_328 (ws' := [(h_a, .inr (9, [.ref h_a_now, .ref h_a_kept, .ref h_a_isKept, .ref h_a_refused, .ref h_a_limbs, .ref h_a_sizes, .int v_a_sign, .int v_a_reach, .int v_a_strength, .int v_a_lag, .int v_a_length, .int v_a_weight, .int v_a_place, .int v_a_mass, .int v_a_stiff, .int v_a_tip, .int v_a_tail, .int x3, .int p.2.2.2.2.2.2.2.2.2.2.1, .int (0 : Int32), .int v_a_rise, .int v_a_rounds, .int v_a_x, .int v_a_y, .int v_a_vx, .int v_a_vy, .ref h_a_ways, .int v_a_tokenAt, .int v_a_tokenLong, .int v_a_token, .int v_a_number, .int v_a_read, .int v_a_hasArm, .int v_a_hasHook, .int v_a_hasDart, .int v_a_throwMany, .ref h_a_ranges, .int v_a_isGone]))]) rfl ?_
        exact j_vret (pc := 331) hC (fun _ => 0) rfl rfl dX9_push_331
      · refine j_aload_n (pc := 317) hC 0 rfl dX9_push_317 ?_
        refine j_get (pc := 318) hC flRX9_158 0 rfl rfl dX9_push_318 ?_
        refine j_bipush (pc := 321) hC kb_30 dX9_push_321 ?_
        refine j_isub (pc := 323) hC dX9_push_323 ?_
        refine j_goto (pc := 324) hC 328 (by decide) dX9_push_324 ?_
        refine j_let (pc := 328) (fun x4 => ?_)
        refine j_put (pc := 328) hC fpRX9_164 0 rfl rfl rfl (Nat.le_of_ble_eq_true rfl) dX9_push_328 (ws' := [(h_a, .inr (9, [.ref h_a_now, .ref h_a_kept, .ref h_a_isKept, .ref h_a_refused, .ref h_a_limbs, .ref h_a_sizes, .int v_a_sign, .int v_a_reach, .int v_a_strength, .int v_a_lag, .int v_a_length, .int v_a_weight, .int v_a_place, .int v_a_mass, .int v_a_stiff, .int v_a_tip, .int v_a_tail, .int x3, .int p.2.2.2.2.2.2.2.2.2.2.1, .int x4, .int v_a_rise, .int v_a_rounds, .int v_a_x, .int v_a_y, .int v_a_vx, .int v_a_vy, .ref h_a_ways, .int v_a_tokenAt, .int v_a_tokenLong, .int v_a_token, .int v_a_number, .int v_a_read, .int v_a_hasArm, .int v_a_hasHook, .int v_a_hasDart, .int v_a_throwMany, .ref h_a_ranges, .int v_a_isGone]))]) rfl ?_
        exact j_vret (pc := 331) hC (fun _ => 0) rfl rfl dX9_push_331
    · refine j_bipush (pc := 298) hC kb_10 dX9_push_298 ?_
      refine j_aload_n (pc := 300) hC 0 rfl dX9_push_300 ?_
      refine j_get (pc := 301) hC flRX9_158 0 rfl rfl dX9_push_301 ?_
      refine j_isub (pc := 304) hC dX9_push_304 ?_
      refine j_goto (pc := 305) hC 328 (by decide) dX9_push_305 ?_
      refine j_let (pc := 328) (fun x5 => ?_)
      refine j_put (pc := 328) hC fpRX9_164 0 rfl rfl rfl (Nat.le_of_ble_eq_true rfl) dX9_push_328 (ws' := [(h_a, .inr (9, [.ref h_a_now, .ref h_a_kept, .ref h_a_isKept, .ref h_a_refused, .ref h_a_limbs, .ref h_a_sizes, .int v_a_sign, .int v_a_reach, .int v_a_strength, .int v_a_lag, .int v_a_length, .int v_a_weight, .int v_a_place, .int v_a_mass, .int v_a_stiff, .int v_a_tip, .int v_a_tail, .int x3, .int p.2.2.2.2.2.2.2.2.2.2.1, .int x5, .int v_a_rise, .int v_a_rounds, .int v_a_x, .int v_a_y, .int v_a_vx, .int v_a_vy, .ref h_a_ways, .int v_a_tokenAt, .int v_a_tokenLong, .int v_a_token, .int v_a_number, .int v_a_read, .int v_a_hasArm, .int v_a_hasHook, .int v_a_hasDart, .int v_a_throwMany, .ref h_a_ranges, .int v_a_isGone]))]) rfl ?_
      exact j_vret (pc := 331) hC (fun _ => 0) rfl rfl dX9_push_331
  · refine j_iload (pc := 202) hC 5 rfl dX9_push_202 ?_
    refine j_bipush (pc := 204) hC kb_60 dX9_push_204 ?_
    refine j_aload_n (pc := 206) hC 0 rfl dX9_push_206 ?_
    refine j_get (pc := 207) hC flRX9_131 0 rfl rfl dX9_push_207 ?_
    refine j_imul (pc := 210) hC dX9_push_210 ?_
    refine j_iload (pc := 211) hC 3 rfl dX9_push_211 ?_
    refine j_idiv (pc := 213) hC dX9_push_213 ?_
    refine j_iadd (pc := 214) hC dX9_push_214 ?_
    refine j_let (pc := 215) (fun x6 => ?_)
    refine j_istore (pc := 215) hC (lv' := [(9, .int x6), (0, .ref h_a), (3, .int p.1), (6, .int p.2.1), (7, .int p.2.2.1), (8, .int p.2.2.2.1), (10, .int p.2.2.2.2.2.1), (11, .int p.2.2.2.2.2.2.1)]) rfl (by decide) dX9_push_215 ?_
    refine j_iload (pc := 217) hC 0 rfl dX9_push_217 ?_
    refine j_aload_n (pc := 219) hC 1 rfl dX9_push_219 ?_
    refine j_get (pc := 220) hC flRX9_128 0 rfl rfl dX9_push_220 ?_
    refine j_iload_n (pc := 223) hC 2 rfl dX9_push_223 ?_
    refine j_iadd (pc := 224) hC dX9_push_224 ?_
    refine j_imul (pc := 225) hC dX9_push_225 ?_
    refine j_aload_n (pc := 226) hC 1 rfl dX9_push_226 ?_
    refine j_get (pc := 227) hC flRX9_128 0 rfl rfl dX9_push_227 ?_
    refine j_idiv (pc := 230) hC dX9_push_230 ?_
    refine j_let (pc := 231) (fun x7 => ?_)
    refine j_istore (pc := 231) hC (lv' := [(10, .int x7), (9, .int x6), (0, .ref h_a), (3, .int p.1), (6, .int p.2.1), (7, .int p.2.2.1), (8, .int p.2.2.2.1), (11, .int p.2.2.2.2.2.2.1)]) rfl (by decide) dX9_push_231 ?_
    refine j_aload_n (pc := 233) hC 2 rfl dX9_push_233 ?_
    refine j_dup (pc := 234) hC rfl dX9_push_234 ?_
    refine j_get (pc := 235) hC flRX9_158 0 rfl rfl dX9_push_235 ?_
    refine j_iload (pc := 238) hC 0 rfl dX9_push_238 ?_
    refine j_bipush (pc := 240) hC kb_10 dX9_push_240 ?_
    refine j_aload_n (pc := 242) hC 2 rfl dX9_push_242 ?_
    refine j_get (pc := 243) hC flRX9_152 0 rfl rfl dX9_push_243 ?_
    refine j_iadd (pc := 246) hC dX9_push_246 ?_
    refine j_imul (pc := 247) hC dX9_push_247 ?_
    refine j_bipush (pc := 248) hC kb_10 dX9_push_248 ?_
    refine j_iload (pc := 250) hC 4 rfl dX9_push_250 ?_
    refine j_imul (pc := 252) hC dX9_push_252 ?_
    refine j_idiv (pc := 253) hC dX9_push_253 ?_
    refine j_aload_n (pc := 254) hC 2 rfl dX9_push_254 ?_
    refine j_get (pc := 255) hC flRX9_158 0 rfl rfl dX9_push_255 ?_
    refine j_isub (pc := 258) hC dX9_push_258 ?_
    refine j_iconst (pc := 259) hC ki_3 dX9_push_259 ?_
    refine j_idivc (pc := 260) hC (by decide) dX9_push_260 ?_
    refine j_iadd (pc := 261) hC dX9_push_261 ?_
    refine j_let (pc := 262) (fun x8 => ?_)
    refine j_put (pc := 262) hC fpRX9_158 0 rfl rfl rfl (Nat.le_of_ble_eq_true rfl) dX9_push_262 (ws' := [(h_a, .inr (9, [.ref h_a_now, .ref h_a_kept, .ref h_a_isKept, .ref h_a_refused, .ref h_a_limbs, .ref h_a_sizes, .int v_a_sign, .int v_a_reach, .int v_a_strength, .int v_a_lag, .int v_a_length, .int v_a_weight, .int v_a_place, .int v_a_mass, .int v_a_stiff, .int v_a_tip, .int v_a_tail, .int p.2.2.2.2.2.2.2.2.2.1, .int x8, .int p.2.2.2.2.2.2.2.2.2.2.2, .int v_a_rise, .int v_a_rounds, .int v_a_x, .int v_a_y, .int v_a_vx, .int v_a_vy, .ref h_a_ways, .int v_a_tokenAt, .int v_a_tokenLong, .int v_a_token, .int v_a_number, .int v_a_read, .int v_a_hasArm, .int v_a_hasHook, .int v_a_hasDart, .int v_a_throwMany, .ref h_a_ranges, .int v_a_isGone]))]) rfl ?_
    refine j_iinc (pc := 265) hC 7 rfl ki_1 (fun x9 => (rfl : @Eq (List (Nat × Value)) _ [(11, .int x9), (10, .int x7), (9, .int x6), (0, .ref h_a), (3, .int p.1), (6, .int p.2.1), (7, .int p.2.2.1), (8, .int p.2.2.2.1)])) (by decide) dX9_push_265 (fun x9 => ?_)
    refine j_goto (pc := 268) hC 185 (by decide) dX9_push_268 ?_
    refine j_lv (pc := 185) [3, 4, 5, 6, 7, 2, 1, 0] rfl ?_
    exact hrec185 (p.1, p.2.1, p.2.2.1, p.2.2.2.1, x6, x7, x9, p.2.2.2.2.2.2.2.2.2.1, x8, p.2.2.2.2.2.2.2.2.2.2.2)
set_option maxHeartbeats 4000000 in
set_option maxRecDepth 100000 in
theorem jX9_push_b185_step {X : jX} (hC : jC X cX9_push 12 RX9 rX9_push none) (u : Nat) (h_a h_a_now h_a_kept h_a_isKept h_a_refused h_a_limbs h_a_sizes h_a_ways h_a_ranges : Nat) (p1 p2 v_a_sign v_a_reach v_a_strength v_a_lag v_a_length v_a_weight v_a_place v_a_mass v_a_stiff v_a_tip v_a_tail v_a_pace v_a_bend v_a_off v_a_rise v_a_rounds v_a_x v_a_y v_a_vx v_a_vy v_a_tokenAt v_a_tokenLong v_a_token v_a_number v_a_read v_a_hasArm v_a_hasHook v_a_hasDart v_a_throwMany v_a_isGone : Int32) (rec185 : (Int32 × Int32 × Int32 × Int32 × Int32 × Int32 × Int32 × Int32 × Int32 × Int32) → Option (Int32 × Int32 × Int32)) (hrec185 : ∀ p : Int32 × Int32 × Int32 × Int32 × Int32 × Int32 × Int32 × Int32 × Int32 × Int32, gX9_push X h_a h_a_now h_a_kept h_a_isKept h_a_refused h_a_limbs h_a_sizes h_a_ways h_a_ranges p1 p2 v_a_sign v_a_reach v_a_strength v_a_lag v_a_length v_a_weight v_a_place v_a_mass v_a_stiff v_a_tip v_a_tail v_a_pace v_a_bend v_a_off v_a_rise v_a_rounds v_a_x v_a_y v_a_vx v_a_vy v_a_tokenAt v_a_tokenLong v_a_token v_a_number v_a_read v_a_hasArm v_a_hasHook v_a_hasDart v_a_throwMany v_a_isGone 185 [(0, .ref h_a), (3, .int p.1), (6, .int p.2.1), (7, .int p.2.2.1), (8, .int p.2.2.2.1), (9, .int p.2.2.2.2.1), (10, .int p.2.2.2.2.2.1), (11, .int p.2.2.2.2.2.2.1)] [] p.2.2.2.2.2.2.2.1 p.2.2.2.2.2.2.2.2.1 p.2.2.2.2.2.2.2.2.2 (rec185 p)) (p : Int32 × Int32 × Int32 × Int32 × Int32 × Int32 × Int32 × Int32 × Int32 × Int32) : gX9_push X h_a h_a_now h_a_kept h_a_isKept h_a_refused h_a_limbs h_a_sizes h_a_ways h_a_ranges p1 p2 v_a_sign v_a_reach v_a_strength v_a_lag v_a_length v_a_weight v_a_place v_a_mass v_a_stiff v_a_tip v_a_tail v_a_pace v_a_bend v_a_off v_a_rise v_a_rounds v_a_x v_a_y v_a_vx v_a_vy v_a_tokenAt v_a_tokenLong v_a_token v_a_number v_a_read v_a_hasArm v_a_hasHook v_a_hasDart v_a_throwMany v_a_isGone 185 [(0, .ref h_a), (3, .int p.1), (6, .int p.2.1), (7, .int p.2.2.1), (8, .int p.2.2.2.1), (9, .int p.2.2.2.2.1), (10, .int p.2.2.2.2.2.1), (11, .int p.2.2.2.2.2.2.1)] [] p.2.2.2.2.2.2.2.1 p.2.2.2.2.2.2.2.2.1 p.2.2.2.2.2.2.2.2.2 (fX9_push_b185 u p1 p2 v_a_reach v_a_strength v_a_lag v_a_length v_a_weight v_a_place v_a_mass v_a_stiff v_a_tip v_a_pace v_a_bend v_a_off rec185 p) := by
  unfold fX9_push_b185
  refine j_iload (pc := 185) hC 7 rfl dX9_push_185 ?_
  refine j_iload (pc := 187) hC 4 rfl dX9_push_187 ?_
  refine j_iconst (pc := 189) hC ki_1 dX9_push_189 ?_
  refine j_icmpge (pc := 190) hC 197 (by decide) dX9_push_190 ?_ ?_
  · refine j_iload (pc := 197) hC 4 rfl dX9_push_197 ?_
    exact jX9_push_b199 hC u h_a h_a_now h_a_kept h_a_isKept h_a_refused h_a_limbs h_a_sizes h_a_ways h_a_ranges p1 p2 v_a_sign v_a_reach v_a_strength v_a_lag v_a_length v_a_weight v_a_place v_a_mass v_a_stiff v_a_tip v_a_tail v_a_pace v_a_bend v_a_off v_a_rise v_a_rounds v_a_x v_a_y v_a_vx v_a_vy v_a_tokenAt v_a_tokenLong v_a_token v_a_number v_a_read v_a_hasArm v_a_hasHook v_a_hasDart v_a_throwMany v_a_isGone rec185 hrec185 (p.1, p.2.1, p.2.2.1, p.2.2.2.1, p.2.2.2.2.1, p.2.2.2.2.2.1, p.2.2.2.2.2.2.1, p.2.2.2.2.2.2.1, p.2.2.2.1, p.2.2.2.2.2.2.2.1, p.2.2.2.2.2.2.2.2.1, p.2.2.2.2.2.2.2.2.2)
  · refine j_iconst (pc := 193) hC ki_1 dX9_push_193 ?_
    refine j_goto (pc := 194) hC 199 (by decide) dX9_push_194 ?_
    exact jX9_push_b199 hC u h_a h_a_now h_a_kept h_a_isKept h_a_refused h_a_limbs h_a_sizes h_a_ways h_a_ranges p1 p2 v_a_sign v_a_reach v_a_strength v_a_lag v_a_length v_a_weight v_a_place v_a_mass v_a_stiff v_a_tip v_a_tail v_a_pace v_a_bend v_a_off v_a_rise v_a_rounds v_a_x v_a_y v_a_vx v_a_vy v_a_tokenAt v_a_tokenLong v_a_token v_a_number v_a_read v_a_hasArm v_a_hasHook v_a_hasDart v_a_throwMany v_a_isGone rec185 hrec185 (p.1, p.2.1, p.2.2.1, p.2.2.2.1, p.2.2.2.2.1, p.2.2.2.2.2.1, p.2.2.2.2.2.2.1, p.2.2.2.2.2.2.1, (1 : Int32), p.2.2.2.2.2.2.2.1, p.2.2.2.2.2.2.2.2.1, p.2.2.2.2.2.2.2.2.2)
set_option maxHeartbeats 4000000 in
set_option maxRecDepth 100000 in
theorem jX9_push_b185 {X : jX} (hC : jC X cX9_push 12 RX9 rX9_push none) (u : Nat) (h_a h_a_now h_a_kept h_a_isKept h_a_refused h_a_limbs h_a_sizes h_a_ways h_a_ranges : Nat) (p1 p2 v_a_sign v_a_reach v_a_strength v_a_lag v_a_length v_a_weight v_a_place v_a_mass v_a_stiff v_a_tip v_a_tail v_a_pace v_a_bend v_a_off v_a_rise v_a_rounds v_a_x v_a_y v_a_vx v_a_vy v_a_tokenAt v_a_tokenLong v_a_token v_a_number v_a_read v_a_hasArm v_a_hasHook v_a_hasDart v_a_throwMany v_a_isGone : Int32) (p : Int32 × Int32 × Int32 × Int32 × Int32 × Int32 × Int32 × Int32 × Int32 × Int32) : gX9_push X h_a h_a_now h_a_kept h_a_isKept h_a_refused h_a_limbs h_a_sizes h_a_ways h_a_ranges p1 p2 v_a_sign v_a_reach v_a_strength v_a_lag v_a_length v_a_weight v_a_place v_a_mass v_a_stiff v_a_tip v_a_tail v_a_pace v_a_bend v_a_off v_a_rise v_a_rounds v_a_x v_a_y v_a_vx v_a_vy v_a_tokenAt v_a_tokenLong v_a_token v_a_number v_a_read v_a_hasArm v_a_hasHook v_a_hasDart v_a_throwMany v_a_isGone 185 [(0, .ref h_a), (3, .int p.1), (6, .int p.2.1), (7, .int p.2.2.1), (8, .int p.2.2.2.1), (9, .int p.2.2.2.2.1), (10, .int p.2.2.2.2.2.1), (11, .int p.2.2.2.2.2.2.1)] [] p.2.2.2.2.2.2.2.1 p.2.2.2.2.2.2.2.2.1 p.2.2.2.2.2.2.2.2.2 (jfix (fX9_push_b185 u p1 p2 v_a_reach v_a_strength v_a_lag v_a_length v_a_weight v_a_place v_a_mass v_a_stiff v_a_tip v_a_pace v_a_bend v_a_off) u p) :=
  j_fix (fun rec185 hrec185 p => jX9_push_b185_step hC u h_a h_a_now h_a_kept h_a_isKept h_a_refused h_a_limbs h_a_sizes h_a_ways h_a_ranges p1 p2 v_a_sign v_a_reach v_a_strength v_a_lag v_a_length v_a_weight v_a_place v_a_mass v_a_stiff v_a_tip v_a_tail v_a_pace v_a_bend v_a_off v_a_rise v_a_rounds v_a_x v_a_y v_a_vx v_a_vy v_a_tokenAt v_a_tokenLong v_a_token v_a_number v_a_read v_a_hasArm v_a_hasHook v_a_hasDart v_a_throwMany v_a_isGone rec185 hrec185 p) u p
set_option maxHeartbeats 4000000 in
set_option maxRecDepth 100000 in
theorem jX9_push_b168 {X : jX} (hC : jC X cX9_push 12 RX9 rX9_push none) (u : Nat) (h_a h_a_now h_a_kept h_a_isKept h_a_refused h_a_limbs h_a_sizes h_a_ways h_a_ranges : Nat) (p1 p2 v_a_sign v_a_reach v_a_strength v_a_lag v_a_length v_a_weight v_a_place v_a_mass v_a_stiff v_a_tip v_a_tail v_a_pace v_a_bend v_a_off v_a_rise v_a_rounds v_a_x v_a_y v_a_vx v_a_vy v_a_tokenAt v_a_tokenLong v_a_token v_a_number v_a_read v_a_hasArm v_a_hasHook v_a_hasDart v_a_throwMany v_a_isGone : Int32) (p : Int32 × Int32 × Int32 × Int32 × Int32 × Int32 × Int32 × Int32) : gX9_push X h_a h_a_now h_a_kept h_a_isKept h_a_refused h_a_limbs h_a_sizes h_a_ways h_a_ranges p1 p2 v_a_sign v_a_reach v_a_strength v_a_lag v_a_length v_a_weight v_a_place v_a_mass v_a_stiff v_a_tip v_a_tail v_a_pace v_a_bend v_a_off v_a_rise v_a_rounds v_a_x v_a_y v_a_vx v_a_vy v_a_tokenAt v_a_tokenLong v_a_token v_a_number v_a_read v_a_hasArm v_a_hasHook v_a_hasDart v_a_throwMany v_a_isGone 168 [(0, .ref h_a), (3, .int p.1), (6, .int p.2.1), (7, .int p.2.2.1)] [.int p.2.2.2.2.1, .int p.2.2.2.1] p.2.2.2.2.2.1 p.2.2.2.2.2.2.1 p.2.2.2.2.2.2.2 (fX9_push_b168 u p1 p2 v_a_reach v_a_strength v_a_lag v_a_length v_a_weight v_a_place v_a_mass v_a_stiff v_a_tip v_a_pace v_a_bend v_a_off p) := by
  unfold fX9_push_b168
  refine j_isub (pc := 168) hC dX9_push_168 ?_
  refine j_let (pc := 169) (fun x2 => ?_)
  refine j_istore (pc := 169) hC (lv' := [(8, .int x2), (0, .ref h_a), (3, .int p.1), (6, .int p.2.1), (7, .int p.2.2.1)]) rfl (by decide) dX9_push_169 ?_
  refine j_iconst (pc := 171) hC ki_0 dX9_push_171 ?_
  refine j_istore (pc := 172) hC (lv' := [(9, .int (0 : Int32)), (8, .int x2), (0, .ref h_a), (3, .int p.1), (6, .int p.2.1), (7, .int p.2.2.1)]) rfl (by decide) dX9_push_172 ?_
  refine j_iconst (pc := 174) hC ki_0 dX9_push_174 ?_
  refine j_istore (pc := 175) hC (lv' := [(10, .int (0 : Int32)), (9, .int (0 : Int32)), (8, .int x2), (0, .ref h_a), (3, .int p.1), (6, .int p.2.1), (7, .int p.2.2.1)]) rfl (by decide) dX9_push_175 ?_
  refine j_aload_n (pc := 177) hC 3 rfl dX9_push_177 ?_
  refine j_iconst (pc := 178) hC ki_0 dX9_push_178 ?_
  refine j_put (pc := 179) hC fpRX9_158 0 rfl rfl rfl (Nat.le_of_ble_eq_true rfl) dX9_push_179 (ws' := [(h_a, .inr (9, [.ref h_a_now, .ref h_a_kept, .ref h_a_isKept, .ref h_a_refused, .ref h_a_limbs, .ref h_a_sizes, .int v_a_sign, .int v_a_reach, .int v_a_strength, .int v_a_lag, .int v_a_length, .int v_a_weight, .int v_a_place, .int v_a_mass, .int v_a_stiff, .int v_a_tip, .int v_a_tail, .int p.2.2.2.2.2.1, .int (0 : Int32), .int p.2.2.2.2.2.2.2, .int v_a_rise, .int v_a_rounds, .int v_a_x, .int v_a_y, .int v_a_vx, .int v_a_vy, .ref h_a_ways, .int v_a_tokenAt, .int v_a_tokenLong, .int v_a_token, .int v_a_number, .int v_a_read, .int v_a_hasArm, .int v_a_hasHook, .int v_a_hasDart, .int v_a_throwMany, .ref h_a_ranges, .int v_a_isGone]))]) rfl ?_
  refine j_iconst (pc := 182) hC ki_0 dX9_push_182 ?_
  refine j_istore (pc := 183) hC (lv' := [(11, .int (0 : Int32)), (10, .int (0 : Int32)), (9, .int (0 : Int32)), (8, .int x2), (0, .ref h_a), (3, .int p.1), (6, .int p.2.1), (7, .int p.2.2.1)]) rfl (by decide) dX9_push_183 ?_
  refine j_lv (pc := 185) [4, 5, 6, 7, 3, 2, 1, 0] rfl ?_
  exact jX9_push_b185 hC u h_a h_a_now h_a_kept h_a_isKept h_a_refused h_a_limbs h_a_sizes h_a_ways h_a_ranges p1 p2 v_a_sign v_a_reach v_a_strength v_a_lag v_a_length v_a_weight v_a_place v_a_mass v_a_stiff v_a_tip v_a_tail v_a_pace v_a_bend v_a_off v_a_rise v_a_rounds v_a_x v_a_y v_a_vx v_a_vy v_a_tokenAt v_a_tokenLong v_a_token v_a_number v_a_read v_a_hasArm v_a_hasHook v_a_hasDart v_a_throwMany v_a_isGone (p.1, p.2.1, p.2.2.1, x2, (0 : Int32), (0 : Int32), (0 : Int32), p.2.2.2.2.2.1, (0 : Int32), p.2.2.2.2.2.2.2)
set_option maxHeartbeats 4000000 in
set_option maxRecDepth 100000 in
theorem jX9_push_b163 {X : jX} (hC : jC X cX9_push 12 RX9 rX9_push none) (u : Nat) (h_a h_a_now h_a_kept h_a_isKept h_a_refused h_a_limbs h_a_sizes h_a_ways h_a_ranges : Nat) (p1 p2 v_a_sign v_a_reach v_a_strength v_a_lag v_a_length v_a_weight v_a_place v_a_mass v_a_stiff v_a_tip v_a_tail v_a_pace v_a_bend v_a_off v_a_rise v_a_rounds v_a_x v_a_y v_a_vx v_a_vy v_a_tokenAt v_a_tokenLong v_a_token v_a_number v_a_read v_a_hasArm v_a_hasHook v_a_hasDart v_a_throwMany v_a_isGone : Int32) (p : Int32 × Int32 × Int32 × Int32 × Int32 × Int32 × Int32) : gX9_push X h_a h_a_now h_a_kept h_a_isKept h_a_refused h_a_limbs h_a_sizes h_a_ways h_a_ranges p1 p2 v_a_sign v_a_reach v_a_strength v_a_lag v_a_length v_a_weight v_a_place v_a_mass v_a_stiff v_a_tip v_a_tail v_a_pace v_a_bend v_a_off v_a_rise v_a_rounds v_a_x v_a_y v_a_vx v_a_vy v_a_tokenAt v_a_tokenLong v_a_token v_a_number v_a_read v_a_hasArm v_a_hasHook v_a_hasDart v_a_throwMany v_a_isGone 163 [(0, .ref h_a), (2, .int p2), (3, .int p.1), (6, .int p.2.1), (7, .int p.2.2.1)] [.int p.2.2.2.1] p.2.2.2.2.1 p.2.2.2.2.2.1 p.2.2.2.2.2.2 (fX9_push_b163 u p1 p2 v_a_reach v_a_strength v_a_lag v_a_length v_a_weight v_a_place v_a_mass v_a_stiff v_a_tip v_a_pace v_a_bend v_a_off p) := by
  unfold fX9_push_b163
  refine j_iload_n (pc := 163) hC 1 rfl dX9_push_163 ?_
  refine j_goto (pc := 164) hC 168 (by decide) dX9_push_164 ?_
  refine j_lv (pc := 168) [0, 2, 3, 4] rfl ?_
  exact jX9_push_b168 hC u h_a h_a_now h_a_kept h_a_isKept h_a_refused h_a_limbs h_a_sizes h_a_ways h_a_ranges p1 p2 v_a_sign v_a_reach v_a_strength v_a_lag v_a_length v_a_weight v_a_place v_a_mass v_a_stiff v_a_tip v_a_tail v_a_pace v_a_bend v_a_off v_a_rise v_a_rounds v_a_x v_a_y v_a_vx v_a_vy v_a_tokenAt v_a_tokenLong v_a_token v_a_number v_a_read v_a_hasArm v_a_hasHook v_a_hasDart v_a_throwMany v_a_isGone (p.1, p.2.1, p.2.2.1, p.2.2.2.1, p2, p.2.2.2.2.1, p.2.2.2.2.2.1, p.2.2.2.2.2.2)
set_option maxHeartbeats 4000000 in
set_option maxRecDepth 100000 in
theorem jX9_push_b121 {X : jX} (hC : jC X cX9_push 12 RX9 rX9_push none) (u : Nat) (h_a h_a_now h_a_kept h_a_isKept h_a_refused h_a_limbs h_a_sizes h_a_ways h_a_ranges : Nat) (p1 p2 v_a_sign v_a_reach v_a_strength v_a_lag v_a_length v_a_weight v_a_place v_a_mass v_a_stiff v_a_tip v_a_tail v_a_pace v_a_bend v_a_off v_a_rise v_a_rounds v_a_x v_a_y v_a_vx v_a_vy v_a_tokenAt v_a_tokenLong v_a_token v_a_number v_a_read v_a_hasArm v_a_hasHook v_a_hasDart v_a_throwMany v_a_isGone : Int32) (p : Int32 × Int32 × Int32 × Int32 × Int32 × Int32 × Int32) : gX9_push X h_a h_a_now h_a_kept h_a_isKept h_a_refused h_a_limbs h_a_sizes h_a_ways h_a_ranges p1 p2 v_a_sign v_a_reach v_a_strength v_a_lag v_a_length v_a_weight v_a_place v_a_mass v_a_stiff v_a_tip v_a_tail v_a_pace v_a_bend v_a_off v_a_rise v_a_rounds v_a_x v_a_y v_a_vx v_a_vy v_a_tokenAt v_a_tokenLong v_a_token v_a_number v_a_read v_a_hasArm v_a_hasHook v_a_hasDart v_a_throwMany v_a_isGone 121 [(0, .ref h_a), (1, .int p1), (2, .int p2), (3, .int p.1), (4, .int p.2.1), (5, .int p.2.2.1)] [.int p.2.2.2.1] p.2.2.2.2.1 p.2.2.2.2.2.1 p.2.2.2.2.2.2 (fX9_push_b121 u p1 p2 v_a_reach v_a_strength v_a_lag v_a_length v_a_weight v_a_place v_a_mass v_a_stiff v_a_tip v_a_pace v_a_bend v_a_off p) := by
  unfold fX9_push_b121
  refine j_istore (pc := 121) hC (lv' := [(6, .int p.2.2.2.1), (0, .ref h_a), (1, .int p1), (2, .int p2), (3, .int p.1), (4, .int p.2.1), (5, .int p.2.2.1)]) rfl (by decide) dX9_push_121 ?_
  refine j_aload_n (pc := 123) hC 1 rfl dX9_push_123 ?_
  refine j_get (pc := 124) hC flRX9_146 0 rfl rfl dX9_push_124 ?_
  refine j_aload_n (pc := 127) hC 1 rfl dX9_push_127 ?_
  refine j_get (pc := 128) hC flRX9_152 0 rfl rfl dX9_push_128 ?_
  refine j_iadd (pc := 131) hC dX9_push_131 ?_
  refine j_iload_n (pc := 132) hC 4 rfl dX9_push_132 ?_
  refine j_iadd (pc := 133) hC dX9_push_133 ?_
  refine j_iload (pc := 134) hC 5 rfl dX9_push_134 ?_
  refine j_iload (pc := 136) hC 6 rfl dX9_push_136 ?_
  refine j_imul (pc := 138) hC dX9_push_138 ?_
  refine j_iload_n (pc := 139) hC 4 rfl dX9_push_139 ?_
  refine j_iconst (pc := 140) hC ki_1 dX9_push_140 ?_
  refine j_iadd (pc := 141) hC dX9_push_141 ?_
  refine j_idiv (pc := 142) hC dX9_push_142 ?_
  refine j_iadd (pc := 143) hC dX9_push_143 ?_
  refine j_let (pc := 144) (fun x1 => ?_)
  refine j_istore (pc := 144) hC (lv' := [(7, .int x1), (6, .int p.2.2.2.1), (0, .ref h_a), (1, .int p1), (2, .int p2), (3, .int p.1), (4, .int p.2.1), (5, .int p.2.2.1)]) rfl (by decide) dX9_push_144 ?_
  refine j_bipush (pc := 146) hC kb_10 dX9_push_146 ?_
  refine j_aload_n (pc := 148) hC 2 rfl dX9_push_148 ?_
  refine j_get (pc := 149) hC flRX9_134 0 rfl rfl dX9_push_149 ?_
  refine j_iadd (pc := 152) hC dX9_push_152 ?_
  refine j_iload_n (pc := 153) hC 3 rfl dX9_push_153 ?_
  refine j_iconst (pc := 154) hC ki_1 dX9_push_154 ?_
  refine j_icmpeq (pc := 155) hC 163 (by decide) dX9_push_155 ?_ ?_
  · refine j_lv (pc := 163) [2, 4, 5, 1, 0] rfl ?_
    exact jX9_push_b163 hC u h_a h_a_now h_a_kept h_a_isKept h_a_refused h_a_limbs h_a_sizes h_a_ways h_a_ranges p1 p2 v_a_sign v_a_reach v_a_strength v_a_lag v_a_length v_a_weight v_a_place v_a_mass v_a_stiff v_a_tip v_a_tail v_a_pace v_a_bend v_a_off v_a_rise v_a_rounds v_a_x v_a_y v_a_vx v_a_vy v_a_tokenAt v_a_tokenLong v_a_token v_a_number v_a_read v_a_hasArm v_a_hasHook v_a_hasDart v_a_throwMany v_a_isGone (p.1, p.2.2.2.1, x1, ((10 : Int32) + v_a_lag), p.2.2.2.2.1, p.2.2.2.2.2.1, p.2.2.2.2.2.2)
  · refine j_iload_n (pc := 158) hC 3 rfl dX9_push_158 ?_
    refine j_iconst (pc := 159) hC ki_5 dX9_push_159 ?_
    refine j_icmpne (pc := 160) hC 167 (by decide) dX9_push_160 ?_ ?_
    · refine j_iconst (pc := 167) hC ki_0 dX9_push_167 ?_
      refine j_lv (pc := 168) [2, 5, 1, 0] rfl ?_
      exact jX9_push_b168 hC u h_a h_a_now h_a_kept h_a_isKept h_a_refused h_a_limbs h_a_sizes h_a_ways h_a_ranges p1 p2 v_a_sign v_a_reach v_a_strength v_a_lag v_a_length v_a_weight v_a_place v_a_mass v_a_stiff v_a_tip v_a_tail v_a_pace v_a_bend v_a_off v_a_rise v_a_rounds v_a_x v_a_y v_a_vx v_a_vy v_a_tokenAt v_a_tokenLong v_a_token v_a_number v_a_read v_a_hasArm v_a_hasHook v_a_hasDart v_a_throwMany v_a_isGone (p.1, p.2.2.2.1, x1, ((10 : Int32) + v_a_lag), (0 : Int32), p.2.2.2.2.1, p.2.2.2.2.2.1, p.2.2.2.2.2.2)
    · refine j_lv (pc := 163) [2, 4, 5, 1, 0] rfl ?_
      exact jX9_push_b163 hC u h_a h_a_now h_a_kept h_a_isKept h_a_refused h_a_limbs h_a_sizes h_a_ways h_a_ranges p1 p2 v_a_sign v_a_reach v_a_strength v_a_lag v_a_length v_a_weight v_a_place v_a_mass v_a_stiff v_a_tip v_a_tail v_a_pace v_a_bend v_a_off v_a_rise v_a_rounds v_a_x v_a_y v_a_vx v_a_vy v_a_tokenAt v_a_tokenLong v_a_token v_a_number v_a_read v_a_hasArm v_a_hasHook v_a_hasDart v_a_throwMany v_a_isGone (p.1, p.2.2.2.1, x1, ((10 : Int32) + v_a_lag), p.2.2.2.2.1, p.2.2.2.2.2.1, p.2.2.2.2.2.2)
set_option maxHeartbeats 4000000 in
set_option maxRecDepth 100000 in
theorem jX9_push_b57 {X : jX} (hC : jC X cX9_push 12 RX9 rX9_push none) (u : Nat) (h_a h_a_now h_a_kept h_a_isKept h_a_refused h_a_limbs h_a_sizes h_a_ways h_a_ranges : Nat) (p1 p2 v_a_sign v_a_reach v_a_strength v_a_lag v_a_length v_a_weight v_a_place v_a_mass v_a_stiff v_a_tip v_a_tail v_a_pace v_a_bend v_a_off v_a_rise v_a_rounds v_a_x v_a_y v_a_vx v_a_vy v_a_tokenAt v_a_tokenLong v_a_token v_a_number v_a_read v_a_hasArm v_a_hasHook v_a_hasDart v_a_throwMany v_a_isGone : Int32) (p : Int32 × Int32 × Int32 × Int32 × Int32 × Int32) : gX9_push X h_a h_a_now h_a_kept h_a_isKept h_a_refused h_a_limbs h_a_sizes h_a_ways h_a_ranges p1 p2 v_a_sign v_a_reach v_a_strength v_a_lag v_a_length v_a_weight v_a_place v_a_mass v_a_stiff v_a_tip v_a_tail v_a_pace v_a_bend v_a_off v_a_rise v_a_rounds v_a_x v_a_y v_a_vx v_a_vy v_a_tokenAt v_a_tokenLong v_a_token v_a_number v_a_read v_a_hasArm v_a_hasHook v_a_hasDart v_a_throwMany v_a_isGone 57 [(0, .ref h_a), (1, .int p1), (2, .int p2), (3, .int p.1), (4, .int p.2.1)] [.int p.2.2.1] p.2.2.2.1 p.2.2.2.2.1 p.2.2.2.2.2 (fX9_push_b57 u p1 p2 v_a_reach v_a_strength v_a_lag v_a_length v_a_weight v_a_place v_a_mass v_a_stiff v_a_tip v_a_pace v_a_bend v_a_off p) := by
  unfold fX9_push_b57
  refine j_istore (pc := 57) hC (lv' := [(5, .int p.2.2.1), (0, .ref h_a), (1, .int p1), (2, .int p2), (3, .int p.1), (4, .int p.2.1)]) rfl (by decide) dX9_push_57 ?_
  refine j_iload_n (pc := 59) hC 2 rfl dX9_push_59 ?_
  refine j_iconst (pc := 60) hC ki_2 dX9_push_60 ?_
  refine j_icmpne (pc := 61) hC 87 (by decide) dX9_push_61 ?_ ?_
  · refine j_iload_n (pc := 87) hC 2 rfl dX9_push_87 ?_
    refine j_iconst (pc := 88) hC ki_3 dX9_push_88 ?_
    refine j_icmpne (pc := 89) hC 117 (by decide) dX9_push_89 ?_ ?_
    · refine j_aload_n (pc := 117) hC 1 rfl dX9_push_117 ?_
      refine j_get (pc := 118) hC flRX9_149 0 rfl rfl dX9_push_118 ?_
      refine j_lv (pc := 121) [1, 2, 3, 4, 5, 0] rfl ?_
      exact jX9_push_b121 hC u h_a h_a_now h_a_kept h_a_isKept h_a_refused h_a_limbs h_a_sizes h_a_ways h_a_ranges p1 p2 v_a_sign v_a_reach v_a_strength v_a_lag v_a_length v_a_weight v_a_place v_a_mass v_a_stiff v_a_tip v_a_tail v_a_pace v_a_bend v_a_off v_a_rise v_a_rounds v_a_x v_a_y v_a_vx v_a_vy v_a_tokenAt v_a_tokenLong v_a_token v_a_number v_a_read v_a_hasArm v_a_hasHook v_a_hasDart v_a_throwMany v_a_isGone (p.1, p.2.1, p.2.2.1, v_a_stiff, p.2.2.2.1, p.2.2.2.2.1, p.2.2.2.2.2)
    · refine j_iconst (pc := 92) hC ki_2 dX9_push_92 ?_
      refine j_aload_n (pc := 93) hC 1 rfl dX9_push_93 ?_
      refine j_get (pc := 94) hC flRX9_149 0 rfl rfl dX9_push_94 ?_
      refine j_imul (pc := 97) hC dX9_push_97 ?_
      refine j_bipush (pc := 98) hC kb_99 dX9_push_98 ?_
      refine j_icmple (pc := 100) hC 108 (by decide) dX9_push_100 ?_ ?_
      · refine j_iconst (pc := 108) hC ki_2 dX9_push_108 ?_
        refine j_aload_n (pc := 109) hC 1 rfl dX9_push_109 ?_
        refine j_get (pc := 110) hC flRX9_149 0 rfl rfl dX9_push_110 ?_
        refine j_imul (pc := 113) hC dX9_push_113 ?_
        refine j_goto (pc := 114) hC 121 (by decide) dX9_push_114 ?_
        refine j_lv (pc := 121) [1, 2, 3, 4, 5, 0] rfl ?_
        exact jX9_push_b121 hC u h_a h_a_now h_a_kept h_a_isKept h_a_refused h_a_limbs h_a_sizes h_a_ways h_a_ranges p1 p2 v_a_sign v_a_reach v_a_strength v_a_lag v_a_length v_a_weight v_a_place v_a_mass v_a_stiff v_a_tip v_a_tail v_a_pace v_a_bend v_a_off v_a_rise v_a_rounds v_a_x v_a_y v_a_vx v_a_vy v_a_tokenAt v_a_tokenLong v_a_token v_a_number v_a_read v_a_hasArm v_a_hasHook v_a_hasDart v_a_throwMany v_a_isGone (p.1, p.2.1, p.2.2.1, ((2 : Int32) * v_a_stiff), p.2.2.2.1, p.2.2.2.2.1, p.2.2.2.2.2)
      · refine j_bipush (pc := 103) hC kb_99 dX9_push_103 ?_
        refine j_goto (pc := 105) hC 121 (by decide) dX9_push_105 ?_
        refine j_lv (pc := 121) [1, 2, 3, 4, 5, 0] rfl ?_
        exact jX9_push_b121 hC u h_a h_a_now h_a_kept h_a_isKept h_a_refused h_a_limbs h_a_sizes h_a_ways h_a_ranges p1 p2 v_a_sign v_a_reach v_a_strength v_a_lag v_a_length v_a_weight v_a_place v_a_mass v_a_stiff v_a_tip v_a_tail v_a_pace v_a_bend v_a_off v_a_rise v_a_rounds v_a_x v_a_y v_a_vx v_a_vy v_a_tokenAt v_a_tokenLong v_a_token v_a_number v_a_read v_a_hasArm v_a_hasHook v_a_hasDart v_a_throwMany v_a_isGone (p.1, p.2.1, p.2.2.1, (99 : Int32), p.2.2.2.1, p.2.2.2.2.1, p.2.2.2.2.2)
  · refine j_aload_n (pc := 64) hC 1 rfl dX9_push_64 ?_
    refine j_get (pc := 65) hC flRX9_149 0 rfl rfl dX9_push_65 ?_
    refine j_iconst (pc := 68) hC ki_2 dX9_push_68 ?_
    refine j_idivc (pc := 69) hC (by decide) dX9_push_69 ?_
    refine j_iconst (pc := 70) hC ki_1 dX9_push_70 ?_
    refine j_icmpge (pc := 71) hC 78 (by decide) dX9_push_71 ?_ ?_
    · refine j_aload_n (pc := 78) hC 1 rfl dX9_push_78 ?_
      refine j_get (pc := 79) hC flRX9_149 0 rfl rfl dX9_push_79 ?_
      refine j_iconst (pc := 82) hC ki_2 dX9_push_82 ?_
      refine j_idivc (pc := 83) hC (by decide) dX9_push_83 ?_
      refine j_goto (pc := 84) hC 121 (by decide) dX9_push_84 ?_
      refine j_lv (pc := 121) [1, 2, 3, 4, 5, 0] rfl ?_
      exact jX9_push_b121 hC u h_a h_a_now h_a_kept h_a_isKept h_a_refused h_a_limbs h_a_sizes h_a_ways h_a_ranges p1 p2 v_a_sign v_a_reach v_a_strength v_a_lag v_a_length v_a_weight v_a_place v_a_mass v_a_stiff v_a_tip v_a_tail v_a_pace v_a_bend v_a_off v_a_rise v_a_rounds v_a_x v_a_y v_a_vx v_a_vy v_a_tokenAt v_a_tokenLong v_a_token v_a_number v_a_read v_a_hasArm v_a_hasHook v_a_hasDart v_a_throwMany v_a_isGone (p.1, p.2.1, p.2.2.1, (v_a_stiff / (2 : Int32)), p.2.2.2.1, p.2.2.2.2.1, p.2.2.2.2.2)
    · refine j_iconst (pc := 74) hC ki_1 dX9_push_74 ?_
      refine j_goto (pc := 75) hC 121 (by decide) dX9_push_75 ?_
      refine j_lv (pc := 121) [1, 2, 3, 4, 5, 0] rfl ?_
      exact jX9_push_b121 hC u h_a h_a_now h_a_kept h_a_isKept h_a_refused h_a_limbs h_a_sizes h_a_ways h_a_ranges p1 p2 v_a_sign v_a_reach v_a_strength v_a_lag v_a_length v_a_weight v_a_place v_a_mass v_a_stiff v_a_tip v_a_tail v_a_pace v_a_bend v_a_off v_a_rise v_a_rounds v_a_x v_a_y v_a_vx v_a_vy v_a_tokenAt v_a_tokenLong v_a_token v_a_number v_a_read v_a_hasArm v_a_hasHook v_a_hasDart v_a_throwMany v_a_isGone (p.1, p.2.1, p.2.2.1, (1 : Int32), p.2.2.2.1, p.2.2.2.2.1, p.2.2.2.2.2)
set_option maxHeartbeats 4000000 in
set_option maxRecDepth 100000 in
theorem jX9_push_b42 {X : jX} (hC : jC X cX9_push 12 RX9 rX9_push none) (u : Nat) (h_a h_a_now h_a_kept h_a_isKept h_a_refused h_a_limbs h_a_sizes h_a_ways h_a_ranges : Nat) (p1 p2 v_a_sign v_a_reach v_a_strength v_a_lag v_a_length v_a_weight v_a_place v_a_mass v_a_stiff v_a_tip v_a_tail v_a_pace v_a_bend v_a_off v_a_rise v_a_rounds v_a_x v_a_y v_a_vx v_a_vy v_a_tokenAt v_a_tokenLong v_a_token v_a_number v_a_read v_a_hasArm v_a_hasHook v_a_hasDart v_a_throwMany v_a_isGone : Int32) (p : Int32 × Int32 × Int32 × Int32 × Int32) : gX9_push X h_a h_a_now h_a_kept h_a_isKept h_a_refused h_a_limbs h_a_sizes h_a_ways h_a_ranges p1 p2 v_a_sign v_a_reach v_a_strength v_a_lag v_a_length v_a_weight v_a_place v_a_mass v_a_stiff v_a_tip v_a_tail v_a_pace v_a_bend v_a_off v_a_rise v_a_rounds v_a_x v_a_y v_a_vx v_a_vy v_a_tokenAt v_a_tokenLong v_a_token v_a_number v_a_read v_a_hasArm v_a_hasHook v_a_hasDart v_a_throwMany v_a_isGone 42 [(0, .ref h_a), (1, .int p1), (2, .int p2), (3, .int p.1)] [.int p.2.1] p.2.2.1 p.2.2.2.1 p.2.2.2.2 (fX9_push_b42 u p1 p2 v_a_reach v_a_strength v_a_lag v_a_length v_a_weight v_a_place v_a_mass v_a_stiff v_a_tip v_a_pace v_a_bend v_a_off p) := by
  unfold fX9_push_b42
  refine j_istore (pc := 42) hC (lv' := [(4, .int p.2.1), (0, .ref h_a), (1, .int p1), (2, .int p2), (3, .int p.1)]) rfl (by decide) dX9_push_42 ?_
  refine j_iload_n (pc := 44) hC 2 rfl dX9_push_44 ?_
  refine j_iconst (pc := 45) hC ki_5 dX9_push_45 ?_
  refine j_icmpne (pc := 46) hC 53 (by decide) dX9_push_46 ?_ ?_
  · refine j_aload_n (pc := 53) hC 1 rfl dX9_push_53 ?_
    refine j_get (pc := 54) hC flRX9_143 0 rfl rfl dX9_push_54 ?_
    refine j_lv (pc := 57) [1, 2, 3, 4, 0] rfl ?_
    exact jX9_push_b57 hC u h_a h_a_now h_a_kept h_a_isKept h_a_refused h_a_limbs h_a_sizes h_a_ways h_a_ranges p1 p2 v_a_sign v_a_reach v_a_strength v_a_lag v_a_length v_a_weight v_a_place v_a_mass v_a_stiff v_a_tip v_a_tail v_a_pace v_a_bend v_a_off v_a_rise v_a_rounds v_a_x v_a_y v_a_vx v_a_vy v_a_tokenAt v_a_tokenLong v_a_token v_a_number v_a_read v_a_hasArm v_a_hasHook v_a_hasDart v_a_throwMany v_a_isGone (p.1, p.2.1, v_a_place, p.2.2.1, p.2.2.2.1, p.2.2.2.2)
  · refine j_iconst (pc := 49) hC ki_0 dX9_push_49 ?_
    refine j_goto (pc := 50) hC 57 (by decide) dX9_push_50 ?_
    refine j_lv (pc := 57) [1, 2, 3, 4, 0] rfl ?_
    exact jX9_push_b57 hC u h_a h_a_now h_a_kept h_a_isKept h_a_refused h_a_limbs h_a_sizes h_a_ways h_a_ranges p1 p2 v_a_sign v_a_reach v_a_strength v_a_lag v_a_length v_a_weight v_a_place v_a_mass v_a_stiff v_a_tip v_a_tail v_a_pace v_a_bend v_a_off v_a_rise v_a_rounds v_a_x v_a_y v_a_vx v_a_vy v_a_tokenAt v_a_tokenLong v_a_token v_a_number v_a_read v_a_hasArm v_a_hasHook v_a_hasDart v_a_throwMany v_a_isGone (p.1, p.2.1, (0 : Int32), p.2.2.1, p.2.2.2.1, p.2.2.2.2)
set_option maxHeartbeats 4000000 in
set_option maxRecDepth 100000 in
theorem jX9_push_b13 {X : jX} (hC : jC X cX9_push 12 RX9 rX9_push none) (u : Nat) (h_a h_a_now h_a_kept h_a_isKept h_a_refused h_a_limbs h_a_sizes h_a_ways h_a_ranges : Nat) (p1 p2 v_a_sign v_a_reach v_a_strength v_a_lag v_a_length v_a_weight v_a_place v_a_mass v_a_stiff v_a_tip v_a_tail v_a_pace v_a_bend v_a_off v_a_rise v_a_rounds v_a_x v_a_y v_a_vx v_a_vy v_a_tokenAt v_a_tokenLong v_a_token v_a_number v_a_read v_a_hasArm v_a_hasHook v_a_hasDart v_a_throwMany v_a_isGone : Int32) (p : Int32 × Int32 × Int32 × Int32) : gX9_push X h_a h_a_now h_a_kept h_a_isKept h_a_refused h_a_limbs h_a_sizes h_a_ways h_a_ranges p1 p2 v_a_sign v_a_reach v_a_strength v_a_lag v_a_length v_a_weight v_a_place v_a_mass v_a_stiff v_a_tip v_a_tail v_a_pace v_a_bend v_a_off v_a_rise v_a_rounds v_a_x v_a_y v_a_vx v_a_vy v_a_tokenAt v_a_tokenLong v_a_token v_a_number v_a_read v_a_hasArm v_a_hasHook v_a_hasDart v_a_throwMany v_a_isGone 13 [(0, .ref h_a), (1, .int p1), (2, .int p2)] [.int p.1] p.2.1 p.2.2.1 p.2.2.2 (fX9_push_b13 u p1 p2 v_a_reach v_a_strength v_a_lag v_a_length v_a_weight v_a_place v_a_mass v_a_stiff v_a_tip v_a_pace v_a_bend v_a_off p) := by
  unfold fX9_push_b13
  refine j_istore_n (pc := 13) hC (lv' := [(3, .int p.1), (0, .ref h_a), (1, .int p1), (2, .int p2)]) rfl (by decide) dX9_push_13 ?_
  refine j_iload_n (pc := 14) hC 2 rfl dX9_push_14 ?_
  refine j_iconst (pc := 15) hC ki_5 dX9_push_15 ?_
  refine j_icmpne (pc := 16) hC 23 (by decide) dX9_push_16 ?_ ?_
  · refine j_iload_n (pc := 23) hC 2 rfl dX9_push_23 ?_
    refine j_bipush (pc := 24) hC kb_6 dX9_push_24 ?_
    refine j_icmpne (pc := 26) hC 38 (by decide) dX9_push_26 ?_ ?_
    · refine j_aload_n (pc := 38) hC 1 rfl dX9_push_38 ?_
      refine j_get (pc := 39) hC flRX9_140 0 rfl rfl dX9_push_39 ?_
      refine j_lv (pc := 42) [1, 2, 3, 0] rfl ?_
      exact jX9_push_b42 hC u h_a h_a_now h_a_kept h_a_isKept h_a_refused h_a_limbs h_a_sizes h_a_ways h_a_ranges p1 p2 v_a_sign v_a_reach v_a_strength v_a_lag v_a_length v_a_weight v_a_place v_a_mass v_a_stiff v_a_tip v_a_tail v_a_pace v_a_bend v_a_off v_a_rise v_a_rounds v_a_x v_a_y v_a_vx v_a_vy v_a_tokenAt v_a_tokenLong v_a_token v_a_number v_a_read v_a_hasArm v_a_hasHook v_a_hasDart v_a_throwMany v_a_isGone (p.1, v_a_weight, p.2.1, p.2.2.1, p.2.2.2)
    · refine j_aload_n (pc := 29) hC 1 rfl dX9_push_29 ?_
      refine j_get (pc := 30) hC flRX9_140 0 rfl rfl dX9_push_30 ?_
      refine j_iload_n (pc := 33) hC 3 rfl dX9_push_33 ?_
      refine j_iadd (pc := 34) hC dX9_push_34 ?_
      refine j_goto (pc := 35) hC 42 (by decide) dX9_push_35 ?_
      refine j_lv (pc := 42) [1, 2, 3, 0] rfl ?_
      exact jX9_push_b42 hC u h_a h_a_now h_a_kept h_a_isKept h_a_refused h_a_limbs h_a_sizes h_a_ways h_a_ranges p1 p2 v_a_sign v_a_reach v_a_strength v_a_lag v_a_length v_a_weight v_a_place v_a_mass v_a_stiff v_a_tip v_a_tail v_a_pace v_a_bend v_a_off v_a_rise v_a_rounds v_a_x v_a_y v_a_vx v_a_vy v_a_tokenAt v_a_tokenLong v_a_token v_a_number v_a_read v_a_hasArm v_a_hasHook v_a_hasDart v_a_throwMany v_a_isGone (p.1, (v_a_weight + p2), p.2.1, p.2.2.1, p.2.2.2)
  · refine j_iconst (pc := 19) hC ki_0 dX9_push_19 ?_
    refine j_goto (pc := 20) hC 42 (by decide) dX9_push_20 ?_
    refine j_lv (pc := 42) [1, 2, 3, 0] rfl ?_
    exact jX9_push_b42 hC u h_a h_a_now h_a_kept h_a_isKept h_a_refused h_a_limbs h_a_sizes h_a_ways h_a_ranges p1 p2 v_a_sign v_a_reach v_a_strength v_a_lag v_a_length v_a_weight v_a_place v_a_mass v_a_stiff v_a_tip v_a_tail v_a_pace v_a_bend v_a_off v_a_rise v_a_rounds v_a_x v_a_y v_a_vx v_a_vy v_a_tokenAt v_a_tokenLong v_a_token v_a_number v_a_read v_a_hasArm v_a_hasHook v_a_hasDart v_a_throwMany v_a_isGone (p.1, (0 : Int32), p.2.1, p.2.2.1, p.2.2.2)
set_option maxHeartbeats 4000000 in
set_option maxRecDepth 100000 in
theorem jX9_push {X : jX} (hC : jC X cX9_push 12 RX9 rX9_push none) (u : Nat) (h_a h_a_now h_a_kept h_a_isKept h_a_refused h_a_limbs h_a_sizes h_a_ways h_a_ranges : Nat) (p1 p2 v_a_sign v_a_reach v_a_strength v_a_lag v_a_length v_a_weight v_a_place v_a_mass v_a_stiff v_a_tip v_a_tail v_a_pace v_a_bend v_a_off v_a_rise v_a_rounds v_a_x v_a_y v_a_vx v_a_vy v_a_tokenAt v_a_tokenLong v_a_token v_a_number v_a_read v_a_hasArm v_a_hasHook v_a_hasDart v_a_throwMany v_a_isGone : Int32) : gX9_push X h_a h_a_now h_a_kept h_a_isKept h_a_refused h_a_limbs h_a_sizes h_a_ways h_a_ranges p1 p2 v_a_sign v_a_reach v_a_strength v_a_lag v_a_length v_a_weight v_a_place v_a_mass v_a_stiff v_a_tip v_a_tail v_a_pace v_a_bend v_a_off v_a_rise v_a_rounds v_a_x v_a_y v_a_vx v_a_vy v_a_tokenAt v_a_tokenLong v_a_token v_a_number v_a_read v_a_hasArm v_a_hasHook v_a_hasDart v_a_throwMany v_a_isGone 0 [(0, .ref h_a), (1, .int p1), (2, .int p2)] [] v_a_pace v_a_bend v_a_off (fX9_push u p1 p2 v_a_reach v_a_strength v_a_lag v_a_length v_a_weight v_a_place v_a_mass v_a_stiff v_a_tip v_a_pace v_a_bend v_a_off) := by
  unfold fX9_push
  refine j_iload_n (pc := 0) hC 1 rfl dX9_push_0 ?_
  refine j_iconst (pc := 1) hC ki_5 dX9_push_1 ?_
  refine j_icmpne (pc := 2) hC 9 (by decide) dX9_push_2 ?_ ?_
  · refine j_aload_n (pc := 9) hC 0 rfl dX9_push_9 ?_
    refine j_get (pc := 10) hC flRX9_137 0 rfl rfl dX9_push_10 ?_
    exact jX9_push_b13 hC u h_a h_a_now h_a_kept h_a_isKept h_a_refused h_a_limbs h_a_sizes h_a_ways h_a_ranges p1 p2 v_a_sign v_a_reach v_a_strength v_a_lag v_a_length v_a_weight v_a_place v_a_mass v_a_stiff v_a_tip v_a_tail v_a_pace v_a_bend v_a_off v_a_rise v_a_rounds v_a_x v_a_y v_a_vx v_a_vy v_a_tokenAt v_a_tokenLong v_a_token v_a_number v_a_read v_a_hasArm v_a_hasHook v_a_hasDart v_a_throwMany v_a_isGone (v_a_length, v_a_pace, v_a_bend, v_a_off)
  · refine j_iconst (pc := 5) hC ki_0 dX9_push_5 ?_
    refine j_goto (pc := 6) hC 13 (by decide) dX9_push_6 ?_
    exact jX9_push_b13 hC u h_a h_a_now h_a_kept h_a_isKept h_a_refused h_a_limbs h_a_sizes h_a_ways h_a_ranges p1 p2 v_a_sign v_a_reach v_a_strength v_a_lag v_a_length v_a_weight v_a_place v_a_mass v_a_stiff v_a_tip v_a_tail v_a_pace v_a_bend v_a_off v_a_rise v_a_rounds v_a_x v_a_y v_a_vx v_a_vy v_a_tokenAt v_a_tokenLong v_a_token v_a_number v_a_read v_a_hasArm v_a_hasHook v_a_hasDart v_a_throwMany v_a_isGone ((0 : Int32), v_a_pace, v_a_bend, v_a_off)
set_option maxHeartbeats 4000000 in
set_option maxRecDepth 100000 in
theorem mX9_push (l : Launch) (D : va_G) (cy : Nat → ClassId) (ev : jE) (u : Nat) (h_a h_a_now h_a_kept h_a_isKept h_a_refused h_a_limbs h_a_sizes h_a_ways h_a_ranges : Nat) (p1 p2 v_a_sign v_a_reach v_a_strength v_a_lag v_a_length v_a_weight v_a_place v_a_mass v_a_stiff v_a_tip v_a_tail v_a_pace v_a_bend v_a_off v_a_rise v_a_rounds v_a_x v_a_y v_a_vx v_a_vy v_a_tokenAt v_a_tokenLong v_a_token v_a_number v_a_read v_a_hasArm v_a_hasHook v_a_hasDart v_a_throwMany v_a_isGone : Int32) : jM l yX9_push cX9_push 12 none rX9_push [.ref h_a, .int p1, .int p2] [(h_a, .inr (9, [.ref h_a_now, .ref h_a_kept, .ref h_a_isKept, .ref h_a_refused, .ref h_a_limbs, .ref h_a_sizes, .int v_a_sign, .int v_a_reach, .int v_a_strength, .int v_a_lag, .int v_a_length, .int v_a_weight, .int v_a_place, .int v_a_mass, .int v_a_stiff, .int v_a_tip, .int v_a_tail, .int v_a_pace, .int v_a_bend, .int v_a_off, .int v_a_rise, .int v_a_rounds, .int v_a_x, .int v_a_y, .int v_a_vx, .int v_a_vy, .ref h_a_ways, .int v_a_tokenAt, .int v_a_tokenLong, .int v_a_token, .int v_a_number, .int v_a_read, .int v_a_hasArm, .int v_a_hasHook, .int v_a_hasDart, .int v_a_throwMany, .ref h_a_ranges, .int v_a_isGone]))] (fun (r : Int32 × Int32 × Int32) (_ : Nat → Nat) => [(h_a, .inr (9, [.ref h_a_now, .ref h_a_kept, .ref h_a_isKept, .ref h_a_refused, .ref h_a_limbs, .ref h_a_sizes, .int v_a_sign, .int v_a_reach, .int v_a_strength, .int v_a_lag, .int v_a_length, .int v_a_weight, .int v_a_place, .int v_a_mass, .int v_a_stiff, .int v_a_tip, .int v_a_tail, .int r.1, .int r.2.1, .int r.2.2, .int v_a_rise, .int v_a_rounds, .int v_a_x, .int v_a_y, .int v_a_vx, .int v_a_vy, .ref h_a_ways, .int v_a_tokenAt, .int v_a_tokenLong, .int v_a_token, .int v_a_number, .int v_a_read, .int v_a_hasArm, .int v_a_hasHook, .int v_a_hasDart, .int v_a_throwMany, .ref h_a_ranges, .int v_a_isGone]))]) (fun (_ : Int32 × Int32 × Int32) => none) (fX9_push u p1 p2 v_a_reach v_a_strength v_a_lag v_a_length v_a_weight v_a_place v_a_mass v_a_stiff v_a_tip v_a_pace v_a_bend v_a_off) D cy ev := j_met RX9 (by decide +kernel) rfl (Nat.le_of_ble_eq_true rfl) (fun X hC _ hD hy hv => by subst hD; subst hy; subst hv; exact jX9_push hC u h_a h_a_now h_a_kept h_a_isKept h_a_refused h_a_limbs h_a_sizes h_a_ways h_a_ranges p1 p2 v_a_sign v_a_reach v_a_strength v_a_lag v_a_length v_a_weight v_a_place v_a_mass v_a_stiff v_a_tip v_a_tail v_a_pace v_a_bend v_a_off v_a_rise v_a_rounds v_a_x v_a_y v_a_vx v_a_vy v_a_tokenAt v_a_tokenLong v_a_token v_a_number v_a_read v_a_hasArm v_a_hasHook v_a_hasDart v_a_throwMany v_a_isGone)
abbrev gX9_forward (X : jX) (p0 : Int32) (pc : Nat) (lv : List (Nat × Value)) (st : List Value) (e : Option (Int32)) : Prop := jJ (ρ := Int32) X 1 0 0 (jQf X 0 0 (fun (r : Int32) => some (.int r)) (fun (_ : Int32) (_ : Nat → Nat) => [])) pc lv st [] (e)
set_option maxHeartbeats 4000000 in
set_option maxRecDepth 100000 in
theorem jX9_forward {X : jX} (hC : jC X cX9_forward 1 RX9 rX9_forward (some .int)) (p0 : Int32) : gX9_forward X p0 0 [(0, .int p0)] [] (fX9_forward p0) := by
  unfold fX9_forward
  refine j_iload_n (pc := 0) hC 0 rfl dX9_forward_0 ?_
  refine j_ifne (pc := 1) hC 9 (by decide) dX9_forward_1 ?_ ?_
  · refine j_iload_n (pc := 9) hC 0 rfl dX9_forward_9 ?_
    refine j_iconst (pc := 10) hC ki_1 dX9_forward_10 ?_
    refine j_icmpne (pc := 11) hC 19 (by decide) dX9_forward_11 ?_ ?_
    · refine j_iload_n (pc := 19) hC 0 rfl dX9_forward_19 ?_
      refine j_iconst (pc := 20) hC ki_2 dX9_forward_20 ?_
      refine j_icmpne (pc := 21) hC 29 (by decide) dX9_forward_21 ?_ ?_
      · refine j_iload_n (pc := 29) hC 0 rfl dX9_forward_29 ?_
        refine j_iconst (pc := 30) hC ki_3 dX9_forward_30 ?_
        refine j_icmpne (pc := 31) hC 39 (by decide) dX9_forward_31 ?_ ?_
        · refine j_iload_n (pc := 39) hC 0 rfl dX9_forward_39 ?_
          refine j_iconst (pc := 40) hC ki_4 dX9_forward_40 ?_
          refine j_icmpne (pc := 41) hC 49 (by decide) dX9_forward_41 ?_ ?_
          · refine j_iload_n (pc := 49) hC 0 rfl dX9_forward_49 ?_
            refine j_iconst (pc := 50) hC ki_5 dX9_forward_50 ?_
            refine j_icmpne (pc := 51) hC 59 (by decide) dX9_forward_51 ?_ ?_
            · refine j_bipush (pc := 59) hC kb_50 dX9_forward_59 ?_
              exact j_iret (pc := 61) hC (fun _ => 0) rfl rfl dX9_forward_61
            · refine j_bipush (pc := 54) hC kb_64 dX9_forward_54 ?_
              refine j_goto (pc := 56) hC 61 (by decide) dX9_forward_56 ?_
              exact j_iret (pc := 61) hC (fun _ => 0) rfl rfl dX9_forward_61
          · refine j_bipush (pc := 44) hC kb_77 dX9_forward_44 ?_
            refine j_goto (pc := 46) hC 61 (by decide) dX9_forward_46 ?_
            exact j_iret (pc := 61) hC (fun _ => 0) rfl rfl dX9_forward_61
        · refine j_bipush (pc := 34) hC kb_87 dX9_forward_34 ?_
          refine j_goto (pc := 36) hC 61 (by decide) dX9_forward_36 ?_
          exact j_iret (pc := 61) hC (fun _ => 0) rfl rfl dX9_forward_61
      · refine j_bipush (pc := 24) hC kb_94 dX9_forward_24 ?_
        refine j_goto (pc := 26) hC 61 (by decide) dX9_forward_26 ?_
        exact j_iret (pc := 61) hC (fun _ => 0) rfl rfl dX9_forward_61
    · refine j_bipush (pc := 14) hC kb_98 dX9_forward_14 ?_
      refine j_goto (pc := 16) hC 61 (by decide) dX9_forward_16 ?_
      exact j_iret (pc := 61) hC (fun _ => 0) rfl rfl dX9_forward_61
  · refine j_bipush (pc := 4) hC kb_100 dX9_forward_4 ?_
    refine j_goto (pc := 6) hC 61 (by decide) dX9_forward_6 ?_
    exact j_iret (pc := 61) hC (fun _ => 0) rfl rfl dX9_forward_61
set_option maxHeartbeats 4000000 in
set_option maxRecDepth 100000 in
theorem mX9_forward (l : Launch) (D : va_G) (cy : Nat → ClassId) (ev : jE) (p0 : Int32) : jM l yX9_forward cX9_forward 1 (some .int) rX9_forward [.int p0] [] (fun (_ : Int32) (_ : Nat → Nat) => []) (fun (r : Int32) => some (.int r)) (fX9_forward p0) D cy ev := j_met RX9 (by decide +kernel) rfl (Nat.le_of_ble_eq_true rfl) (fun X hC _ hD hy hv => by subst hD; subst hy; subst hv; exact jX9_forward hC p0)
abbrev gX9_upward (X : jX) (p0 : Int32) (pc : Nat) (lv : List (Nat × Value)) (st : List Value) (e : Option (Int32)) : Prop := jJ (ρ := Int32) X 1 0 0 (jQf X 0 0 (fun (r : Int32) => some (.int r)) (fun (_ : Int32) (_ : Nat → Nat) => [])) pc lv st [] (e)
set_option maxHeartbeats 4000000 in
set_option maxRecDepth 100000 in
theorem jX9_upward {X : jX} (hC : jC X cX9_upward 1 RX9 rX9_upward (some .int)) (p0 : Int32) : gX9_upward X p0 0 [(0, .int p0)] [] (fX9_upward p0) := by
  unfold fX9_upward
  refine j_iload_n (pc := 0) hC 0 rfl dX9_upward_0 ?_
  refine j_ifne (pc := 1) hC 8 (by decide) dX9_upward_1 ?_ ?_
  · refine j_iload_n (pc := 8) hC 0 rfl dX9_upward_8 ?_
    refine j_iconst (pc := 9) hC ki_1 dX9_upward_9 ?_
    refine j_icmpne (pc := 10) hC 18 (by decide) dX9_upward_10 ?_ ?_
    · refine j_iload_n (pc := 18) hC 0 rfl dX9_upward_18 ?_
      refine j_iconst (pc := 19) hC ki_2 dX9_upward_19 ?_
      refine j_icmpne (pc := 20) hC 28 (by decide) dX9_upward_20 ?_ ?_
      · refine j_iload_n (pc := 28) hC 0 rfl dX9_upward_28 ?_
        refine j_iconst (pc := 29) hC ki_3 dX9_upward_29 ?_
        refine j_icmpne (pc := 30) hC 38 (by decide) dX9_upward_30 ?_ ?_
        · refine j_iload_n (pc := 38) hC 0 rfl dX9_upward_38 ?_
          refine j_iconst (pc := 39) hC ki_4 dX9_upward_39 ?_
          refine j_icmpne (pc := 40) hC 48 (by decide) dX9_upward_40 ?_ ?_
          · refine j_iload_n (pc := 48) hC 0 rfl dX9_upward_48 ?_
            refine j_iconst (pc := 49) hC ki_5 dX9_upward_49 ?_
            refine j_icmpne (pc := 50) hC 58 (by decide) dX9_upward_50 ?_ ?_
            · refine j_bipush (pc := 58) hC kb_87 dX9_upward_58 ?_
              exact j_iret (pc := 60) hC (fun _ => 0) rfl rfl dX9_upward_60
            · refine j_bipush (pc := 53) hC kb_77 dX9_upward_53 ?_
              refine j_goto (pc := 55) hC 60 (by decide) dX9_upward_55 ?_
              exact j_iret (pc := 60) hC (fun _ => 0) rfl rfl dX9_upward_60
          · refine j_bipush (pc := 43) hC kb_64 dX9_upward_43 ?_
            refine j_goto (pc := 45) hC 60 (by decide) dX9_upward_45 ?_
            exact j_iret (pc := 60) hC (fun _ => 0) rfl rfl dX9_upward_60
        · refine j_bipush (pc := 33) hC kb_50 dX9_upward_33 ?_
          refine j_goto (pc := 35) hC 60 (by decide) dX9_upward_35 ?_
          exact j_iret (pc := 60) hC (fun _ => 0) rfl rfl dX9_upward_60
      · refine j_bipush (pc := 23) hC kb_34 dX9_upward_23 ?_
        refine j_goto (pc := 25) hC 60 (by decide) dX9_upward_25 ?_
        exact j_iret (pc := 60) hC (fun _ => 0) rfl rfl dX9_upward_60
    · refine j_bipush (pc := 13) hC kb_17 dX9_upward_13 ?_
      refine j_goto (pc := 15) hC 60 (by decide) dX9_upward_15 ?_
      exact j_iret (pc := 60) hC (fun _ => 0) rfl rfl dX9_upward_60
  · refine j_iconst (pc := 4) hC ki_0 dX9_upward_4 ?_
    refine j_goto (pc := 5) hC 60 (by decide) dX9_upward_5 ?_
    exact j_iret (pc := 60) hC (fun _ => 0) rfl rfl dX9_upward_60
set_option maxHeartbeats 4000000 in
set_option maxRecDepth 100000 in
theorem mX9_upward (l : Launch) (D : va_G) (cy : Nat → ClassId) (ev : jE) (p0 : Int32) : jM l yX9_upward cX9_upward 1 (some .int) rX9_upward [.int p0] [] (fun (_ : Int32) (_ : Nat → Nat) => []) (fun (r : Int32) => some (.int r)) (fX9_upward p0) D cy ev := j_met RX9 (by decide +kernel) rfl (Nat.le_of_ble_eq_true rfl) (fun X hC _ hD hy hv => by subst hD; subst hy; subst hv; exact jX9_upward hC p0)
abbrev gX9_leave (X : jX) (h_a h_a_now h_a_kept h_a_isKept h_a_refused h_a_limbs h_a_sizes h_a_ways h_a_ranges : Nat) (p1 v_a_sign v_a_reach v_a_strength v_a_lag v_a_length v_a_weight v_a_place v_a_mass v_a_stiff v_a_tip v_a_tail v_a_pace v_a_bend v_a_off v_a_rise v_a_rounds v_a_x v_a_y v_a_vx v_a_vy v_a_tokenAt v_a_tokenLong v_a_token v_a_number v_a_read v_a_hasArm v_a_hasHook v_a_hasDart v_a_throwMany v_a_isGone : Int32) (pc : Nat) (lv : List (Nat × Value)) (st : List Value) (w0 : Int32) (w1 : Int32) (w2 : Int32) (w3 : Int32) (w4 : Int32) (w5 : Int32) (e : Option (Int32 × Int32 × Int32 × Int32 × Int32 × Int32)) : Prop := jJ (ρ := Int32 × Int32 × Int32 × Int32 × Int32 × Int32) X 2 0 0 (jQf X 0 0 (fun (_ : Int32 × Int32 × Int32 × Int32 × Int32 × Int32) => none) (fun (r : Int32 × Int32 × Int32 × Int32 × Int32 × Int32) (_ : Nat → Nat) => [(h_a, .inr (9, [.ref h_a_now, .ref h_a_kept, .ref h_a_isKept, .ref h_a_refused, .ref h_a_limbs, .ref h_a_sizes, .int v_a_sign, .int v_a_reach, .int v_a_strength, .int v_a_lag, .int v_a_length, .int v_a_weight, .int v_a_place, .int v_a_mass, .int v_a_stiff, .int v_a_tip, .int v_a_tail, .int v_a_pace, .int v_a_bend, .int v_a_off, .int r.1, .int r.2.1, .int r.2.2.1, .int r.2.2.2.1, .int r.2.2.2.2.1, .int r.2.2.2.2.2, .ref h_a_ways, .int v_a_tokenAt, .int v_a_tokenLong, .int v_a_token, .int v_a_number, .int v_a_read, .int v_a_hasArm, .int v_a_hasHook, .int v_a_hasDart, .int v_a_throwMany, .ref h_a_ranges, .int v_a_isGone]))])) pc lv st [(h_a, .inr (9, [.ref h_a_now, .ref h_a_kept, .ref h_a_isKept, .ref h_a_refused, .ref h_a_limbs, .ref h_a_sizes, .int v_a_sign, .int v_a_reach, .int v_a_strength, .int v_a_lag, .int v_a_length, .int v_a_weight, .int v_a_place, .int v_a_mass, .int v_a_stiff, .int v_a_tip, .int v_a_tail, .int v_a_pace, .int v_a_bend, .int v_a_off, .int w0, .int w1, .int w2, .int w3, .int w4, .int w5, .ref h_a_ways, .int v_a_tokenAt, .int v_a_tokenLong, .int v_a_token, .int v_a_number, .int v_a_read, .int v_a_hasArm, .int v_a_hasHook, .int v_a_hasDart, .int v_a_throwMany, .ref h_a_ranges, .int v_a_isGone]))] (e)
set_option maxHeartbeats 4000000 in
set_option maxRecDepth 100000 in
theorem jX9_leave {X : jX} (hC : jC X cX9_leave 2 RX9 rX9_leave none) (h_a h_a_now h_a_kept h_a_isKept h_a_refused h_a_limbs h_a_sizes h_a_ways h_a_ranges : Nat) (p1 v_a_sign v_a_reach v_a_strength v_a_lag v_a_length v_a_weight v_a_place v_a_mass v_a_stiff v_a_tip v_a_tail v_a_pace v_a_bend v_a_off v_a_rise v_a_rounds v_a_x v_a_y v_a_vx v_a_vy v_a_tokenAt v_a_tokenLong v_a_token v_a_number v_a_read v_a_hasArm v_a_hasHook v_a_hasDart v_a_throwMany v_a_isGone : Int32) : gX9_leave X h_a h_a_now h_a_kept h_a_isKept h_a_refused h_a_limbs h_a_sizes h_a_ways h_a_ranges p1 v_a_sign v_a_reach v_a_strength v_a_lag v_a_length v_a_weight v_a_place v_a_mass v_a_stiff v_a_tip v_a_tail v_a_pace v_a_bend v_a_off v_a_rise v_a_rounds v_a_x v_a_y v_a_vx v_a_vy v_a_tokenAt v_a_tokenLong v_a_token v_a_number v_a_read v_a_hasArm v_a_hasHook v_a_hasDart v_a_throwMany v_a_isGone 0 [(0, .ref h_a), (1, .int p1)] [] v_a_rise v_a_rounds v_a_x v_a_y v_a_vx v_a_vy (fX9_leave p1 v_a_pace v_a_rise v_a_rounds v_a_x v_a_y v_a_vx v_a_vy) := by
  unfold fX9_leave
  refine j_aload_n (pc := 0) hC 0 rfl dX9_leave_0 ?_
  refine j_aload_n (pc := 1) hC 0 rfl dX9_leave_1 ?_
  refine j_get (pc := 2) hC flRX9_161 0 rfl rfl dX9_leave_2 ?_
  refine j_i2l (pc := 5) hC dX9_leave_5 ?_
  refine j_iload_n (pc := 6) hC 1 rfl dX9_leave_6 ?_
  refine j_callS (pc := 7) hC csRX9_167 [.int p1] (mX9_forward (jl X) (jD X) (jy X) (jv X) p1) [] rfl (by decide +kernel) ⟨by decide, by decide, rfl, rfl, by decide, by decide⟩ rfl rfl (Nat.le_of_ble_eq_true rfl) dX9_leave_7 (jki0 (fun _ => rfl) (fun _ _ => rfl) (fun r1 => ?_))
  refine j_i2l (pc := 10) hC dX9_leave_10 ?_
  refine j_lmul (pc := 11) hC dX9_leave_11 ?_
  refine j_ldc2 (pc := 12) hC wm1111 dX9_leave_12 ?_
  refine j_ldivc (pc := 15) hC (by decide) dX9_leave_15 ?_
  refine j_l2i (pc := 16) hC dX9_leave_16 ?_
  refine j_let (pc := 17) (fun x2 => ?_)
  refine j_put (pc := 17) hC fpRX9_172 0 rfl rfl rfl (Nat.le_of_ble_eq_true rfl) dX9_leave_17 (ws' := [(h_a, .inr (9, [.ref h_a_now, .ref h_a_kept, .ref h_a_isKept, .ref h_a_refused, .ref h_a_limbs, .ref h_a_sizes, .int v_a_sign, .int v_a_reach, .int v_a_strength, .int v_a_lag, .int v_a_length, .int v_a_weight, .int v_a_place, .int v_a_mass, .int v_a_stiff, .int v_a_tip, .int v_a_tail, .int v_a_pace, .int v_a_bend, .int v_a_off, .int v_a_rise, .int v_a_rounds, .int v_a_x, .int v_a_y, .int x2, .int v_a_vy, .ref h_a_ways, .int v_a_tokenAt, .int v_a_tokenLong, .int v_a_token, .int v_a_number, .int v_a_read, .int v_a_hasArm, .int v_a_hasHook, .int v_a_hasDart, .int v_a_throwMany, .ref h_a_ranges, .int v_a_isGone]))]) rfl ?_
  refine j_aload_n (pc := 20) hC 0 rfl dX9_leave_20 ?_
  refine j_aload_n (pc := 21) hC 0 rfl dX9_leave_21 ?_
  refine j_get (pc := 22) hC flRX9_161 0 rfl rfl dX9_leave_22 ?_
  refine j_i2l (pc := 25) hC dX9_leave_25 ?_
  refine j_iload_n (pc := 26) hC 1 rfl dX9_leave_26 ?_
  refine j_callS (pc := 27) hC csRX9_175 [.int p1] (mX9_upward (jl X) (jD X) (jy X) (jv X) p1) [] rfl (by decide +kernel) ⟨by decide, by decide, rfl, rfl, by decide, by decide⟩ rfl rfl (Nat.le_of_ble_eq_true rfl) dX9_leave_27 (jki0 (fun _ => rfl) (fun _ _ => rfl) (fun r3 => ?_))
  refine j_i2l (pc := 30) hC dX9_leave_30 ?_
  refine j_lmul (pc := 31) hC dX9_leave_31 ?_
  refine j_ldc2 (pc := 32) hC wm1111 dX9_leave_32 ?_
  refine j_ldivc (pc := 35) hC (by decide) dX9_leave_35 ?_
  refine j_l2i (pc := 36) hC dX9_leave_36 ?_
  refine j_let (pc := 37) (fun x4 => ?_)
  refine j_put (pc := 37) hC fpRX9_178 0 rfl rfl rfl (Nat.le_of_ble_eq_true rfl) dX9_leave_37 (ws' := [(h_a, .inr (9, [.ref h_a_now, .ref h_a_kept, .ref h_a_isKept, .ref h_a_refused, .ref h_a_limbs, .ref h_a_sizes, .int v_a_sign, .int v_a_reach, .int v_a_strength, .int v_a_lag, .int v_a_length, .int v_a_weight, .int v_a_place, .int v_a_mass, .int v_a_stiff, .int v_a_tip, .int v_a_tail, .int v_a_pace, .int v_a_bend, .int v_a_off, .int v_a_rise, .int v_a_rounds, .int v_a_x, .int v_a_y, .int x2, .int x4, .ref h_a_ways, .int v_a_tokenAt, .int v_a_tokenLong, .int v_a_token, .int v_a_number, .int v_a_read, .int v_a_hasArm, .int v_a_hasHook, .int v_a_hasDart, .int v_a_throwMany, .ref h_a_ranges, .int v_a_isGone]))]) rfl ?_
  refine j_aload_n (pc := 40) hC 0 rfl dX9_leave_40 ?_
  refine j_iconst (pc := 41) hC ki_0 dX9_leave_41 ?_
  refine j_put (pc := 42) hC fpRX9_181 0 rfl rfl rfl (Nat.le_of_ble_eq_true rfl) dX9_leave_42 (ws' := [(h_a, .inr (9, [.ref h_a_now, .ref h_a_kept, .ref h_a_isKept, .ref h_a_refused, .ref h_a_limbs, .ref h_a_sizes, .int v_a_sign, .int v_a_reach, .int v_a_strength, .int v_a_lag, .int v_a_length, .int v_a_weight, .int v_a_place, .int v_a_mass, .int v_a_stiff, .int v_a_tip, .int v_a_tail, .int v_a_pace, .int v_a_bend, .int v_a_off, .int v_a_rise, .int v_a_rounds, .int (0 : Int32), .int v_a_y, .int x2, .int x4, .ref h_a_ways, .int v_a_tokenAt, .int v_a_tokenLong, .int v_a_token, .int v_a_number, .int v_a_read, .int v_a_hasArm, .int v_a_hasHook, .int v_a_hasDart, .int v_a_throwMany, .ref h_a_ranges, .int v_a_isGone]))]) rfl ?_
  refine j_aload_n (pc := 45) hC 0 rfl dX9_leave_45 ?_
  refine j_sipush (pc := 46) hC ks_150 dX9_leave_46 ?_
  refine j_put (pc := 49) hC fpRX9_184 0 rfl rfl rfl (Nat.le_of_ble_eq_true rfl) dX9_leave_49 (ws' := [(h_a, .inr (9, [.ref h_a_now, .ref h_a_kept, .ref h_a_isKept, .ref h_a_refused, .ref h_a_limbs, .ref h_a_sizes, .int v_a_sign, .int v_a_reach, .int v_a_strength, .int v_a_lag, .int v_a_length, .int v_a_weight, .int v_a_place, .int v_a_mass, .int v_a_stiff, .int v_a_tip, .int v_a_tail, .int v_a_pace, .int v_a_bend, .int v_a_off, .int v_a_rise, .int v_a_rounds, .int (0 : Int32), .int (150 : Int32), .int x2, .int x4, .ref h_a_ways, .int v_a_tokenAt, .int v_a_tokenLong, .int v_a_token, .int v_a_number, .int v_a_read, .int v_a_hasArm, .int v_a_hasHook, .int v_a_hasDart, .int v_a_throwMany, .ref h_a_ranges, .int v_a_isGone]))]) rfl ?_
  refine j_aload_n (pc := 52) hC 0 rfl dX9_leave_52 ?_
  refine j_sipush (pc := 53) hC ks_150 dX9_leave_53 ?_
  refine j_put (pc := 56) hC fpRX9_187 0 rfl rfl rfl (Nat.le_of_ble_eq_true rfl) dX9_leave_56 (ws' := [(h_a, .inr (9, [.ref h_a_now, .ref h_a_kept, .ref h_a_isKept, .ref h_a_refused, .ref h_a_limbs, .ref h_a_sizes, .int v_a_sign, .int v_a_reach, .int v_a_strength, .int v_a_lag, .int v_a_length, .int v_a_weight, .int v_a_place, .int v_a_mass, .int v_a_stiff, .int v_a_tip, .int v_a_tail, .int v_a_pace, .int v_a_bend, .int v_a_off, .int (150 : Int32), .int v_a_rounds, .int (0 : Int32), .int (150 : Int32), .int x2, .int x4, .ref h_a_ways, .int v_a_tokenAt, .int v_a_tokenLong, .int v_a_token, .int v_a_number, .int v_a_read, .int v_a_hasArm, .int v_a_hasHook, .int v_a_hasDart, .int v_a_throwMany, .ref h_a_ranges, .int v_a_isGone]))]) rfl ?_
  refine j_aload_n (pc := 59) hC 0 rfl dX9_leave_59 ?_
  refine j_iconst (pc := 60) hC ki_0 dX9_leave_60 ?_
  refine j_put (pc := 61) hC fpRX9_190 0 rfl rfl rfl (Nat.le_of_ble_eq_true rfl) dX9_leave_61 (ws' := [(h_a, .inr (9, [.ref h_a_now, .ref h_a_kept, .ref h_a_isKept, .ref h_a_refused, .ref h_a_limbs, .ref h_a_sizes, .int v_a_sign, .int v_a_reach, .int v_a_strength, .int v_a_lag, .int v_a_length, .int v_a_weight, .int v_a_place, .int v_a_mass, .int v_a_stiff, .int v_a_tip, .int v_a_tail, .int v_a_pace, .int v_a_bend, .int v_a_off, .int (150 : Int32), .int (0 : Int32), .int (0 : Int32), .int (150 : Int32), .int x2, .int x4, .ref h_a_ways, .int v_a_tokenAt, .int v_a_tokenLong, .int v_a_token, .int v_a_number, .int v_a_read, .int v_a_hasArm, .int v_a_hasHook, .int v_a_hasDart, .int v_a_throwMany, .ref h_a_ranges, .int v_a_isGone]))]) rfl ?_
  exact j_vret (pc := 64) hC (fun _ => 0) rfl rfl dX9_leave_64
set_option maxHeartbeats 4000000 in
set_option maxRecDepth 100000 in
theorem mX9_leave (l : Launch) (D : va_G) (cy : Nat → ClassId) (ev : jE) (h_a h_a_now h_a_kept h_a_isKept h_a_refused h_a_limbs h_a_sizes h_a_ways h_a_ranges : Nat) (p1 v_a_sign v_a_reach v_a_strength v_a_lag v_a_length v_a_weight v_a_place v_a_mass v_a_stiff v_a_tip v_a_tail v_a_pace v_a_bend v_a_off v_a_rise v_a_rounds v_a_x v_a_y v_a_vx v_a_vy v_a_tokenAt v_a_tokenLong v_a_token v_a_number v_a_read v_a_hasArm v_a_hasHook v_a_hasDart v_a_throwMany v_a_isGone : Int32) : jM l yX9_leave cX9_leave 2 none rX9_leave [.ref h_a, .int p1] [(h_a, .inr (9, [.ref h_a_now, .ref h_a_kept, .ref h_a_isKept, .ref h_a_refused, .ref h_a_limbs, .ref h_a_sizes, .int v_a_sign, .int v_a_reach, .int v_a_strength, .int v_a_lag, .int v_a_length, .int v_a_weight, .int v_a_place, .int v_a_mass, .int v_a_stiff, .int v_a_tip, .int v_a_tail, .int v_a_pace, .int v_a_bend, .int v_a_off, .int v_a_rise, .int v_a_rounds, .int v_a_x, .int v_a_y, .int v_a_vx, .int v_a_vy, .ref h_a_ways, .int v_a_tokenAt, .int v_a_tokenLong, .int v_a_token, .int v_a_number, .int v_a_read, .int v_a_hasArm, .int v_a_hasHook, .int v_a_hasDart, .int v_a_throwMany, .ref h_a_ranges, .int v_a_isGone]))] (fun (r : Int32 × Int32 × Int32 × Int32 × Int32 × Int32) (_ : Nat → Nat) => [(h_a, .inr (9, [.ref h_a_now, .ref h_a_kept, .ref h_a_isKept, .ref h_a_refused, .ref h_a_limbs, .ref h_a_sizes, .int v_a_sign, .int v_a_reach, .int v_a_strength, .int v_a_lag, .int v_a_length, .int v_a_weight, .int v_a_place, .int v_a_mass, .int v_a_stiff, .int v_a_tip, .int v_a_tail, .int v_a_pace, .int v_a_bend, .int v_a_off, .int r.1, .int r.2.1, .int r.2.2.1, .int r.2.2.2.1, .int r.2.2.2.2.1, .int r.2.2.2.2.2, .ref h_a_ways, .int v_a_tokenAt, .int v_a_tokenLong, .int v_a_token, .int v_a_number, .int v_a_read, .int v_a_hasArm, .int v_a_hasHook, .int v_a_hasDart, .int v_a_throwMany, .ref h_a_ranges, .int v_a_isGone]))]) (fun (_ : Int32 × Int32 × Int32 × Int32 × Int32 × Int32) => none) (fX9_leave p1 v_a_pace v_a_rise v_a_rounds v_a_x v_a_y v_a_vx v_a_vy) D cy ev := j_met RX9 (by decide +kernel) rfl (Nat.le_of_ble_eq_true rfl) (fun X hC _ hD hy hv => by subst hD; subst hy; subst hv; exact jX9_leave hC h_a h_a_now h_a_kept h_a_isKept h_a_refused h_a_limbs h_a_sizes h_a_ways h_a_ranges p1 v_a_sign v_a_reach v_a_strength v_a_lag v_a_length v_a_weight v_a_place v_a_mass v_a_stiff v_a_tip v_a_tail v_a_pace v_a_bend v_a_off v_a_rise v_a_rounds v_a_x v_a_y v_a_vx v_a_vy v_a_tokenAt v_a_tokenLong v_a_token v_a_number v_a_read v_a_hasArm v_a_hasHook v_a_hasDart v_a_throwMany v_a_isGone)
abbrev gX9_goOn (X : jX) (h_a h_a_now h_a_kept h_a_isKept h_a_refused h_a_limbs h_a_sizes h_a_ways h_a_ranges : Nat) (v_a_sign v_a_reach v_a_strength v_a_lag v_a_length v_a_weight v_a_place v_a_mass v_a_stiff v_a_tip v_a_tail v_a_pace v_a_bend v_a_off v_a_rise v_a_rounds v_a_x v_a_y v_a_vx v_a_vy v_a_tokenAt v_a_tokenLong v_a_token v_a_number v_a_read v_a_hasArm v_a_hasHook v_a_hasDart v_a_throwMany v_a_isGone : Int32) (pc : Nat) (lv : List (Nat × Value)) (st : List Value) (w0 : Int32) (w1 : Int32) (w2 : Int32) (w3 : Int32) (w4 : Int32) (w5 : Int32) (e : Option (Int32 × Int32 × Int32 × Int32 × Int32 × Int32)) : Prop := jJ (ρ := Int32 × Int32 × Int32 × Int32 × Int32 × Int32) X 5 0 0 (jQf X 0 0 (fun (_ : Int32 × Int32 × Int32 × Int32 × Int32 × Int32) => none) (fun (r : Int32 × Int32 × Int32 × Int32 × Int32 × Int32) (_ : Nat → Nat) => [(h_a, .inr (9, [.ref h_a_now, .ref h_a_kept, .ref h_a_isKept, .ref h_a_refused, .ref h_a_limbs, .ref h_a_sizes, .int v_a_sign, .int v_a_reach, .int v_a_strength, .int v_a_lag, .int v_a_length, .int v_a_weight, .int v_a_place, .int v_a_mass, .int v_a_stiff, .int v_a_tip, .int v_a_tail, .int v_a_pace, .int v_a_bend, .int v_a_off, .int r.1, .int r.2.1, .int r.2.2.1, .int r.2.2.2.1, .int r.2.2.2.2.1, .int r.2.2.2.2.2, .ref h_a_ways, .int v_a_tokenAt, .int v_a_tokenLong, .int v_a_token, .int v_a_number, .int v_a_read, .int v_a_hasArm, .int v_a_hasHook, .int v_a_hasDart, .int v_a_throwMany, .ref h_a_ranges, .int v_a_isGone]))])) pc lv st [(h_a, .inr (9, [.ref h_a_now, .ref h_a_kept, .ref h_a_isKept, .ref h_a_refused, .ref h_a_limbs, .ref h_a_sizes, .int v_a_sign, .int v_a_reach, .int v_a_strength, .int v_a_lag, .int v_a_length, .int v_a_weight, .int v_a_place, .int v_a_mass, .int v_a_stiff, .int v_a_tip, .int v_a_tail, .int v_a_pace, .int v_a_bend, .int v_a_off, .int w0, .int w1, .int w2, .int w3, .int w4, .int w5, .ref h_a_ways, .int v_a_tokenAt, .int v_a_tokenLong, .int v_a_token, .int v_a_number, .int v_a_read, .int v_a_hasArm, .int v_a_hasHook, .int v_a_hasDart, .int v_a_throwMany, .ref h_a_ranges, .int v_a_isGone]))] (e)
set_option maxHeartbeats 4000000 in
set_option maxRecDepth 100000 in
theorem jX9_goOn_b137 {X : jX} (hC : jC X cX9_goOn 5 RX9 rX9_goOn none) (h_a h_a_now h_a_kept h_a_isKept h_a_refused h_a_limbs h_a_sizes h_a_ways h_a_ranges : Nat) (v_a_sign v_a_reach v_a_strength v_a_lag v_a_length v_a_weight v_a_place v_a_mass v_a_stiff v_a_tip v_a_tail v_a_pace v_a_bend v_a_off v_a_rise v_a_rounds v_a_x v_a_y v_a_vx v_a_vy v_a_tokenAt v_a_tokenLong v_a_token v_a_number v_a_read v_a_hasArm v_a_hasHook v_a_hasDart v_a_throwMany v_a_isGone : Int32) (p : Int32 × Int32 × Int32 × Int32 × Int32 × Int32 × Int32) : gX9_goOn X h_a h_a_now h_a_kept h_a_isKept h_a_refused h_a_limbs h_a_sizes h_a_ways h_a_ranges v_a_sign v_a_reach v_a_strength v_a_lag v_a_length v_a_weight v_a_place v_a_mass v_a_stiff v_a_tip v_a_tail v_a_pace v_a_bend v_a_off v_a_rise v_a_rounds v_a_x v_a_y v_a_vx v_a_vy v_a_tokenAt v_a_tokenLong v_a_token v_a_number v_a_read v_a_hasArm v_a_hasHook v_a_hasDart v_a_throwMany v_a_isGone 137 [(0, .ref h_a)] [.int p.1, .ref h_a] p.2.1 p.2.2.1 p.2.2.2.1 p.2.2.2.2.1 p.2.2.2.2.2.1 p.2.2.2.2.2.2 (fX9_goOn_b137 v_a_tail v_a_off v_a_rise v_a_rounds v_a_x v_a_y v_a_vx v_a_vy p) := by
  unfold fX9_goOn_b137
  refine j_put (pc := 137) hC fpRX9_187 0 rfl rfl rfl (Nat.le_of_ble_eq_true rfl) dX9_goOn_137 (ws' := [(h_a, .inr (9, [.ref h_a_now, .ref h_a_kept, .ref h_a_isKept, .ref h_a_refused, .ref h_a_limbs, .ref h_a_sizes, .int v_a_sign, .int v_a_reach, .int v_a_strength, .int v_a_lag, .int v_a_length, .int v_a_weight, .int v_a_place, .int v_a_mass, .int v_a_stiff, .int v_a_tip, .int v_a_tail, .int v_a_pace, .int v_a_bend, .int v_a_off, .int p.1, .int p.2.2.1, .int p.2.2.2.1, .int p.2.2.2.2.1, .int p.2.2.2.2.2.1, .int p.2.2.2.2.2.2, .ref h_a_ways, .int v_a_tokenAt, .int v_a_tokenLong, .int v_a_token, .int v_a_number, .int v_a_read, .int v_a_hasArm, .int v_a_hasHook, .int v_a_hasDart, .int v_a_throwMany, .ref h_a_ranges, .int v_a_isGone]))]) rfl ?_
  refine j_aload_n (pc := 140) hC 0 rfl dX9_goOn_140 ?_
  refine j_dup (pc := 141) hC rfl dX9_goOn_141 ?_
  refine j_get (pc := 142) hC flRX9_190 0 rfl rfl dX9_goOn_142 ?_
  refine j_iconst (pc := 145) hC ki_1 dX9_goOn_145 ?_
  refine j_iadd (pc := 146) hC dX9_goOn_146 ?_
  refine j_let (pc := 147) (fun x6 => ?_)
  refine j_put (pc := 147) hC fpRX9_190 0 rfl rfl rfl (Nat.le_of_ble_eq_true rfl) dX9_goOn_147 (ws' := [(h_a, .inr (9, [.ref h_a_now, .ref h_a_kept, .ref h_a_isKept, .ref h_a_refused, .ref h_a_limbs, .ref h_a_sizes, .int v_a_sign, .int v_a_reach, .int v_a_strength, .int v_a_lag, .int v_a_length, .int v_a_weight, .int v_a_place, .int v_a_mass, .int v_a_stiff, .int v_a_tip, .int v_a_tail, .int v_a_pace, .int v_a_bend, .int v_a_off, .int p.1, .int x6, .int p.2.2.2.1, .int p.2.2.2.2.1, .int p.2.2.2.2.2.1, .int p.2.2.2.2.2.2, .ref h_a_ways, .int v_a_tokenAt, .int v_a_tokenLong, .int v_a_token, .int v_a_number, .int v_a_read, .int v_a_hasArm, .int v_a_hasHook, .int v_a_hasDart, .int v_a_throwMany, .ref h_a_ranges, .int v_a_isGone]))]) rfl ?_
  exact j_vret (pc := 150) hC (fun _ => 0) rfl rfl dX9_goOn_150
set_option maxHeartbeats 4000000 in
set_option maxRecDepth 100000 in
theorem jX9_goOn_b74 {X : jX} (hC : jC X cX9_goOn 5 RX9 rX9_goOn none) (h_a h_a_now h_a_kept h_a_isKept h_a_refused h_a_limbs h_a_sizes h_a_ways h_a_ranges : Nat) (v_a_sign v_a_reach v_a_strength v_a_lag v_a_length v_a_weight v_a_place v_a_mass v_a_stiff v_a_tip v_a_tail v_a_pace v_a_bend v_a_off v_a_rise v_a_rounds v_a_x v_a_y v_a_vx v_a_vy v_a_tokenAt v_a_tokenLong v_a_token v_a_number v_a_read v_a_hasArm v_a_hasHook v_a_hasDart v_a_throwMany v_a_isGone : Int32) (p : Int32 × Int32 × Int32 × Int32 × Int32 × Int32 × Int32) : gX9_goOn X h_a h_a_now h_a_kept h_a_isKept h_a_refused h_a_limbs h_a_sizes h_a_ways h_a_ranges v_a_sign v_a_reach v_a_strength v_a_lag v_a_length v_a_weight v_a_place v_a_mass v_a_stiff v_a_tip v_a_tail v_a_pace v_a_bend v_a_off v_a_rise v_a_rounds v_a_x v_a_y v_a_vx v_a_vy v_a_tokenAt v_a_tokenLong v_a_token v_a_number v_a_read v_a_hasArm v_a_hasHook v_a_hasDart v_a_throwMany v_a_isGone 74 [(0, .ref h_a)] [.int p.1, .ref h_a] p.2.1 p.2.2.1 p.2.2.2.1 p.2.2.2.2.1 p.2.2.2.2.2.1 p.2.2.2.2.2.2 (fX9_goOn_b74 v_a_tail v_a_off v_a_rise v_a_rounds v_a_x v_a_y v_a_vx v_a_vy p) := by
  unfold fX9_goOn_b74
  refine j_put (pc := 74) hC fpRX9_172 0 rfl rfl rfl (Nat.le_of_ble_eq_true rfl) dX9_goOn_74 (ws' := [(h_a, .inr (9, [.ref h_a_now, .ref h_a_kept, .ref h_a_isKept, .ref h_a_refused, .ref h_a_limbs, .ref h_a_sizes, .int v_a_sign, .int v_a_reach, .int v_a_strength, .int v_a_lag, .int v_a_length, .int v_a_weight, .int v_a_place, .int v_a_mass, .int v_a_stiff, .int v_a_tip, .int v_a_tail, .int v_a_pace, .int v_a_bend, .int v_a_off, .int p.2.1, .int p.2.2.1, .int p.2.2.2.1, .int p.2.2.2.2.1, .int p.1, .int p.2.2.2.2.2.2, .ref h_a_ways, .int v_a_tokenAt, .int v_a_tokenLong, .int v_a_token, .int v_a_number, .int v_a_read, .int v_a_hasArm, .int v_a_hasHook, .int v_a_hasDart, .int v_a_throwMany, .ref h_a_ranges, .int v_a_isGone]))]) rfl ?_
  refine j_aload_n (pc := 77) hC 0 rfl dX9_goOn_77 ?_
  refine j_dup (pc := 78) hC rfl dX9_goOn_78 ?_
  refine j_get (pc := 79) hC flRX9_178 0 rfl rfl dX9_goOn_79 ?_
  refine j_bipush (pc := 82) hC kb_10 dX9_goOn_82 ?_
  refine j_isub (pc := 84) hC dX9_goOn_84 ?_
  refine j_let (pc := 85) (fun x3 => ?_)
  refine j_put (pc := 85) hC fpRX9_178 0 rfl rfl rfl (Nat.le_of_ble_eq_true rfl) dX9_goOn_85 (ws' := [(h_a, .inr (9, [.ref h_a_now, .ref h_a_kept, .ref h_a_isKept, .ref h_a_refused, .ref h_a_limbs, .ref h_a_sizes, .int v_a_sign, .int v_a_reach, .int v_a_strength, .int v_a_lag, .int v_a_length, .int v_a_weight, .int v_a_place, .int v_a_mass, .int v_a_stiff, .int v_a_tip, .int v_a_tail, .int v_a_pace, .int v_a_bend, .int v_a_off, .int p.2.1, .int p.2.2.1, .int p.2.2.2.1, .int p.2.2.2.2.1, .int p.1, .int x3, .ref h_a_ways, .int v_a_tokenAt, .int v_a_tokenLong, .int v_a_token, .int v_a_number, .int v_a_read, .int v_a_hasArm, .int v_a_hasHook, .int v_a_hasDart, .int v_a_throwMany, .ref h_a_ranges, .int v_a_isGone]))]) rfl ?_
  refine j_aload_n (pc := 88) hC 0 rfl dX9_goOn_88 ?_
  refine j_dup (pc := 89) hC rfl dX9_goOn_89 ?_
  refine j_get (pc := 90) hC flRX9_181 0 rfl rfl dX9_goOn_90 ?_
  refine j_aload_n (pc := 93) hC 0 rfl dX9_goOn_93 ?_
  refine j_get (pc := 94) hC flRX9_172 0 rfl rfl dX9_goOn_94 ?_
  refine j_iadd (pc := 97) hC dX9_goOn_97 ?_
  refine j_let (pc := 98) (fun x4 => ?_)
  refine j_put (pc := 98) hC fpRX9_181 0 rfl rfl rfl (Nat.le_of_ble_eq_true rfl) dX9_goOn_98 (ws' := [(h_a, .inr (9, [.ref h_a_now, .ref h_a_kept, .ref h_a_isKept, .ref h_a_refused, .ref h_a_limbs, .ref h_a_sizes, .int v_a_sign, .int v_a_reach, .int v_a_strength, .int v_a_lag, .int v_a_length, .int v_a_weight, .int v_a_place, .int v_a_mass, .int v_a_stiff, .int v_a_tip, .int v_a_tail, .int v_a_pace, .int v_a_bend, .int v_a_off, .int p.2.1, .int p.2.2.1, .int x4, .int p.2.2.2.2.1, .int p.1, .int x3, .ref h_a_ways, .int v_a_tokenAt, .int v_a_tokenLong, .int v_a_token, .int v_a_number, .int v_a_read, .int v_a_hasArm, .int v_a_hasHook, .int v_a_hasDart, .int v_a_throwMany, .ref h_a_ranges, .int v_a_isGone]))]) rfl ?_
  refine j_aload_n (pc := 101) hC 0 rfl dX9_goOn_101 ?_
  refine j_dup (pc := 102) hC rfl dX9_goOn_102 ?_
  refine j_get (pc := 103) hC flRX9_184 0 rfl rfl dX9_goOn_103 ?_
  refine j_aload_n (pc := 106) hC 0 rfl dX9_goOn_106 ?_
  refine j_get (pc := 107) hC flRX9_178 0 rfl rfl dX9_goOn_107 ?_
  refine j_iadd (pc := 110) hC dX9_goOn_110 ?_
  refine j_let (pc := 111) (fun x5 => ?_)
  refine j_put (pc := 111) hC fpRX9_184 0 rfl rfl rfl (Nat.le_of_ble_eq_true rfl) dX9_goOn_111 (ws' := [(h_a, .inr (9, [.ref h_a_now, .ref h_a_kept, .ref h_a_isKept, .ref h_a_refused, .ref h_a_limbs, .ref h_a_sizes, .int v_a_sign, .int v_a_reach, .int v_a_strength, .int v_a_lag, .int v_a_length, .int v_a_weight, .int v_a_place, .int v_a_mass, .int v_a_stiff, .int v_a_tip, .int v_a_tail, .int v_a_pace, .int v_a_bend, .int v_a_off, .int p.2.1, .int p.2.2.1, .int x4, .int x5, .int p.1, .int x3, .ref h_a_ways, .int v_a_tokenAt, .int v_a_tokenLong, .int v_a_token, .int v_a_number, .int v_a_read, .int v_a_hasArm, .int v_a_hasHook, .int v_a_hasDart, .int v_a_throwMany, .ref h_a_ranges, .int v_a_isGone]))]) rfl ?_
  refine j_aload_n (pc := 114) hC 0 rfl dX9_goOn_114 ?_
  refine j_aload_n (pc := 115) hC 0 rfl dX9_goOn_115 ?_
  refine j_get (pc := 116) hC flRX9_184 0 rfl rfl dX9_goOn_116 ?_
  refine j_aload_n (pc := 119) hC 0 rfl dX9_goOn_119 ?_
  refine j_get (pc := 120) hC flRX9_187 0 rfl rfl dX9_goOn_120 ?_
  refine j_icmple (pc := 123) hC 133 (by decide) dX9_goOn_123 ?_ ?_
  · refine j_aload_n (pc := 133) hC 0 rfl dX9_goOn_133 ?_
    refine j_get (pc := 134) hC flRX9_187 0 rfl rfl dX9_goOn_134 ?_
    exact jX9_goOn_b137 hC h_a h_a_now h_a_kept h_a_isKept h_a_refused h_a_limbs h_a_sizes h_a_ways h_a_ranges v_a_sign v_a_reach v_a_strength v_a_lag v_a_length v_a_weight v_a_place v_a_mass v_a_stiff v_a_tip v_a_tail v_a_pace v_a_bend v_a_off v_a_rise v_a_rounds v_a_x v_a_y v_a_vx v_a_vy v_a_tokenAt v_a_tokenLong v_a_token v_a_number v_a_read v_a_hasArm v_a_hasHook v_a_hasDart v_a_throwMany v_a_isGone (p.2.1, p.2.1, p.2.2.1, x4, x5, p.1, x3)
  · refine j_aload_n (pc := 126) hC 0 rfl dX9_goOn_126 ?_
    refine j_get (pc := 127) hC flRX9_184 0 rfl rfl dX9_goOn_127 ?_
    refine j_goto (pc := 130) hC 137 (by decide) dX9_goOn_130 ?_
    exact jX9_goOn_b137 hC h_a h_a_now h_a_kept h_a_isKept h_a_refused h_a_limbs h_a_sizes h_a_ways h_a_ranges v_a_sign v_a_reach v_a_strength v_a_lag v_a_length v_a_weight v_a_place v_a_mass v_a_stiff v_a_tip v_a_tail v_a_pace v_a_bend v_a_off v_a_rise v_a_rounds v_a_x v_a_y v_a_vx v_a_vy v_a_tokenAt v_a_tokenLong v_a_token v_a_number v_a_read v_a_hasArm v_a_hasHook v_a_hasDart v_a_throwMany v_a_isGone (x5, p.2.1, p.2.2.1, x4, x5, p.1, x3)
set_option maxHeartbeats 4000000 in
set_option maxRecDepth 100000 in
theorem jX9_goOn_b37 {X : jX} (hC : jC X cX9_goOn 5 RX9 rX9_goOn none) (h_a h_a_now h_a_kept h_a_isKept h_a_refused h_a_limbs h_a_sizes h_a_ways h_a_ranges : Nat) (v_a_sign v_a_reach v_a_strength v_a_lag v_a_length v_a_weight v_a_place v_a_mass v_a_stiff v_a_tip v_a_tail v_a_pace v_a_bend v_a_off v_a_rise v_a_rounds v_a_x v_a_y v_a_vx v_a_vy v_a_tokenAt v_a_tokenLong v_a_token v_a_number v_a_read v_a_hasArm v_a_hasHook v_a_hasDart v_a_throwMany v_a_isGone : Int32) (p : Int64 × Int64 × Int32 × Int32 × Int32 × Int32 × Int32 × Int32) : gX9_goOn X h_a h_a_now h_a_kept h_a_isKept h_a_refused h_a_limbs h_a_sizes h_a_ways h_a_ranges v_a_sign v_a_reach v_a_strength v_a_lag v_a_length v_a_weight v_a_place v_a_mass v_a_stiff v_a_tip v_a_tail v_a_pace v_a_bend v_a_off v_a_rise v_a_rounds v_a_x v_a_y v_a_vx v_a_vy v_a_tokenAt v_a_tokenLong v_a_token v_a_number v_a_read v_a_hasArm v_a_hasHook v_a_hasDart v_a_throwMany v_a_isGone 37 [(0, .ref h_a)] [.long p.2.1, .long p.1] p.2.2.1 p.2.2.2.1 p.2.2.2.2.1 p.2.2.2.2.2.1 p.2.2.2.2.2.2.1 p.2.2.2.2.2.2.2 (fX9_goOn_b37 v_a_tail v_a_off v_a_rise v_a_rounds v_a_x v_a_y v_a_vx v_a_vy p) := by
  unfold fX9_goOn_b37
  refine j_ladd (pc := 37) hC dX9_goOn_37 ?_
  refine j_letl (pc := 38) (fun x1 => ?_)
  refine j_lstore_n (pc := 38) hC (lv' := [(1, .long x1), (0, .ref h_a)]) rfl (by decide) dX9_goOn_38 ?_
  refine j_aload_n (pc := 39) hC 1 rfl dX9_goOn_39 ?_
  refine j_get (pc := 40) hC flRX9_172 0 rfl rfl dX9_goOn_40 ?_
  refine j_i2l (pc := 43) hC dX9_goOn_43 ?_
  refine j_lload_n (pc := 44) hC 0 rfl dX9_goOn_44 ?_
  refine j_lmul (pc := 45) hC dX9_goOn_45 ?_
  refine j_ldc2 (pc := 46) hC wm1122 dX9_goOn_46 ?_
  refine j_ldivc (pc := 49) hC (by decide) dX9_goOn_49 ?_
  refine j_letl (pc := 50) (fun x2 => ?_)
  refine j_lstore_n (pc := 50) hC (lv' := [(3, .long x2), (1, .long x1), (0, .ref h_a)]) rfl (by decide) dX9_goOn_50 ?_
  refine j_aload_n (pc := 51) hC 2 rfl dX9_goOn_51 ?_
  refine j_lload_n (pc := 52) hC 0 rfl dX9_goOn_52 ?_
  refine j_aload_n (pc := 53) hC 2 rfl dX9_goOn_53 ?_
  refine j_get (pc := 54) hC flRX9_172 0 rfl rfl dX9_goOn_54 ?_
  refine j_i2l (pc := 57) hC dX9_goOn_57 ?_
  refine j_lcmp (pc := 58) hC dX9_goOn_58 ?_
  refine j_ifle (pc := 59) hC 66 (by decide) dX9_goOn_59 ?_ ?_
  · refine j_aload_n (pc := 66) hC 2 rfl dX9_goOn_66 ?_
    refine j_get (pc := 67) hC flRX9_172 0 rfl rfl dX9_goOn_67 ?_
    refine j_i2l (pc := 70) hC dX9_goOn_70 ?_
    refine j_lload_n (pc := 71) hC 0 rfl dX9_goOn_71 ?_
    refine j_lsub (pc := 72) hC dX9_goOn_72 ?_
    refine j_l2i (pc := 73) hC dX9_goOn_73 ?_
    refine j_lv (pc := 74) [2] rfl ?_
    exact jX9_goOn_b74 hC h_a h_a_now h_a_kept h_a_isKept h_a_refused h_a_limbs h_a_sizes h_a_ways h_a_ranges v_a_sign v_a_reach v_a_strength v_a_lag v_a_length v_a_weight v_a_place v_a_mass v_a_stiff v_a_tip v_a_tail v_a_pace v_a_bend v_a_off v_a_rise v_a_rounds v_a_x v_a_y v_a_vx v_a_vy v_a_tokenAt v_a_tokenLong v_a_token v_a_number v_a_read v_a_hasArm v_a_hasHook v_a_hasDart v_a_throwMany v_a_isGone ((((p.2.2.2.2.2.2.1.toInt64) - x2).toInt32), p.2.2.1, p.2.2.2.1, p.2.2.2.2.1, p.2.2.2.2.2.1, p.2.2.2.2.2.2.1, p.2.2.2.2.2.2.2)
  · refine j_iconst (pc := 62) hC ki_0 dX9_goOn_62 ?_
    refine j_goto (pc := 63) hC 74 (by decide) dX9_goOn_63 ?_
    refine j_lv (pc := 74) [2] rfl ?_
    exact jX9_goOn_b74 hC h_a h_a_now h_a_kept h_a_isKept h_a_refused h_a_limbs h_a_sizes h_a_ways h_a_ranges v_a_sign v_a_reach v_a_strength v_a_lag v_a_length v_a_weight v_a_place v_a_mass v_a_stiff v_a_tip v_a_tail v_a_pace v_a_bend v_a_off v_a_rise v_a_rounds v_a_x v_a_y v_a_vx v_a_vy v_a_tokenAt v_a_tokenLong v_a_token v_a_number v_a_read v_a_hasArm v_a_hasHook v_a_hasDart v_a_throwMany v_a_isGone ((0 : Int32), p.2.2.1, p.2.2.2.1, p.2.2.2.2.1, p.2.2.2.2.2.1, p.2.2.2.2.2.2.1, p.2.2.2.2.2.2.2)
set_option maxHeartbeats 4000000 in
set_option maxRecDepth 100000 in
theorem jX9_goOn {X : jX} (hC : jC X cX9_goOn 5 RX9 rX9_goOn none) (h_a h_a_now h_a_kept h_a_isKept h_a_refused h_a_limbs h_a_sizes h_a_ways h_a_ranges : Nat) (v_a_sign v_a_reach v_a_strength v_a_lag v_a_length v_a_weight v_a_place v_a_mass v_a_stiff v_a_tip v_a_tail v_a_pace v_a_bend v_a_off v_a_rise v_a_rounds v_a_x v_a_y v_a_vx v_a_vy v_a_tokenAt v_a_tokenLong v_a_token v_a_number v_a_read v_a_hasArm v_a_hasHook v_a_hasDart v_a_throwMany v_a_isGone : Int32) : gX9_goOn X h_a h_a_now h_a_kept h_a_isKept h_a_refused h_a_limbs h_a_sizes h_a_ways h_a_ranges v_a_sign v_a_reach v_a_strength v_a_lag v_a_length v_a_weight v_a_place v_a_mass v_a_stiff v_a_tip v_a_tail v_a_pace v_a_bend v_a_off v_a_rise v_a_rounds v_a_x v_a_y v_a_vx v_a_vy v_a_tokenAt v_a_tokenLong v_a_token v_a_number v_a_read v_a_hasArm v_a_hasHook v_a_hasDart v_a_throwMany v_a_isGone 0 [(0, .ref h_a)] [] v_a_rise v_a_rounds v_a_x v_a_y v_a_vx v_a_vy (fX9_goOn v_a_tail v_a_off v_a_rise v_a_rounds v_a_x v_a_y v_a_vx v_a_vy) := by
  unfold fX9_goOn
  refine j_ldc2 (pc := 0) hC wm1119 dX9_goOn_0 ?_
  refine j_aload_n (pc := 3) hC 0 rfl dX9_goOn_3 ?_
  refine j_get (pc := 4) hC flRX9_155 0 rfl rfl dX9_goOn_4 ?_
  refine j_ifne (pc := 7) hC 22 (by decide) dX9_goOn_7 ?_ ?_
  · refine j_ldc2 (pc := 22) hC wm1121 dX9_goOn_22 ?_
    refine j_aload_n (pc := 25) hC 0 rfl dX9_goOn_25 ?_
    refine j_get (pc := 26) hC flRX9_155 0 rfl rfl dX9_goOn_26 ?_
    refine j_i2l (pc := 29) hC dX9_goOn_29 ?_
    refine j_lmul (pc := 30) hC dX9_goOn_30 ?_
    refine j_aload_n (pc := 31) hC 0 rfl dX9_goOn_31 ?_
    refine j_get (pc := 32) hC flRX9_164 0 rfl rfl dX9_goOn_32 ?_
    refine j_i2l (pc := 35) hC dX9_goOn_35 ?_
    refine j_ladd (pc := 36) hC dX9_goOn_36 ?_
    exact jX9_goOn_b37 hC h_a h_a_now h_a_kept h_a_isKept h_a_refused h_a_limbs h_a_sizes h_a_ways h_a_ranges v_a_sign v_a_reach v_a_strength v_a_lag v_a_length v_a_weight v_a_place v_a_mass v_a_stiff v_a_tip v_a_tail v_a_pace v_a_bend v_a_off v_a_rise v_a_rounds v_a_x v_a_y v_a_vx v_a_vy v_a_tokenAt v_a_tokenLong v_a_token v_a_number v_a_read v_a_hasArm v_a_hasHook v_a_hasDart v_a_throwMany v_a_isGone ((4 : Int64), (((2 : Int64) * (v_a_tail.toInt64)) + (v_a_off.toInt64)), v_a_rise, v_a_rounds, v_a_x, v_a_y, v_a_vx, v_a_vy)
  · refine j_ldc2 (pc := 10) hC wm1120 dX9_goOn_10 ?_
    refine j_aload_n (pc := 13) hC 0 rfl dX9_goOn_13 ?_
    refine j_get (pc := 14) hC flRX9_164 0 rfl rfl dX9_goOn_14 ?_
    refine j_i2l (pc := 17) hC dX9_goOn_17 ?_
    refine j_lmul (pc := 18) hC dX9_goOn_18 ?_
    refine j_goto (pc := 19) hC 37 (by decide) dX9_goOn_19 ?_
    exact jX9_goOn_b37 hC h_a h_a_now h_a_kept h_a_isKept h_a_refused h_a_limbs h_a_sizes h_a_ways h_a_ranges v_a_sign v_a_reach v_a_strength v_a_lag v_a_length v_a_weight v_a_place v_a_mass v_a_stiff v_a_tip v_a_tail v_a_pace v_a_bend v_a_off v_a_rise v_a_rounds v_a_x v_a_y v_a_vx v_a_vy v_a_tokenAt v_a_tokenLong v_a_token v_a_number v_a_read v_a_hasArm v_a_hasHook v_a_hasDart v_a_throwMany v_a_isGone ((4 : Int64), ((3 : Int64) * (v_a_off.toInt64)), v_a_rise, v_a_rounds, v_a_x, v_a_y, v_a_vx, v_a_vy)
set_option maxHeartbeats 4000000 in
set_option maxRecDepth 100000 in
theorem mX9_goOn (l : Launch) (D : va_G) (cy : Nat → ClassId) (ev : jE) (h_a h_a_now h_a_kept h_a_isKept h_a_refused h_a_limbs h_a_sizes h_a_ways h_a_ranges : Nat) (v_a_sign v_a_reach v_a_strength v_a_lag v_a_length v_a_weight v_a_place v_a_mass v_a_stiff v_a_tip v_a_tail v_a_pace v_a_bend v_a_off v_a_rise v_a_rounds v_a_x v_a_y v_a_vx v_a_vy v_a_tokenAt v_a_tokenLong v_a_token v_a_number v_a_read v_a_hasArm v_a_hasHook v_a_hasDart v_a_throwMany v_a_isGone : Int32) : jM l yX9_goOn cX9_goOn 5 none rX9_goOn [.ref h_a] [(h_a, .inr (9, [.ref h_a_now, .ref h_a_kept, .ref h_a_isKept, .ref h_a_refused, .ref h_a_limbs, .ref h_a_sizes, .int v_a_sign, .int v_a_reach, .int v_a_strength, .int v_a_lag, .int v_a_length, .int v_a_weight, .int v_a_place, .int v_a_mass, .int v_a_stiff, .int v_a_tip, .int v_a_tail, .int v_a_pace, .int v_a_bend, .int v_a_off, .int v_a_rise, .int v_a_rounds, .int v_a_x, .int v_a_y, .int v_a_vx, .int v_a_vy, .ref h_a_ways, .int v_a_tokenAt, .int v_a_tokenLong, .int v_a_token, .int v_a_number, .int v_a_read, .int v_a_hasArm, .int v_a_hasHook, .int v_a_hasDart, .int v_a_throwMany, .ref h_a_ranges, .int v_a_isGone]))] (fun (r : Int32 × Int32 × Int32 × Int32 × Int32 × Int32) (_ : Nat → Nat) => [(h_a, .inr (9, [.ref h_a_now, .ref h_a_kept, .ref h_a_isKept, .ref h_a_refused, .ref h_a_limbs, .ref h_a_sizes, .int v_a_sign, .int v_a_reach, .int v_a_strength, .int v_a_lag, .int v_a_length, .int v_a_weight, .int v_a_place, .int v_a_mass, .int v_a_stiff, .int v_a_tip, .int v_a_tail, .int v_a_pace, .int v_a_bend, .int v_a_off, .int r.1, .int r.2.1, .int r.2.2.1, .int r.2.2.2.1, .int r.2.2.2.2.1, .int r.2.2.2.2.2, .ref h_a_ways, .int v_a_tokenAt, .int v_a_tokenLong, .int v_a_token, .int v_a_number, .int v_a_read, .int v_a_hasArm, .int v_a_hasHook, .int v_a_hasDart, .int v_a_throwMany, .ref h_a_ranges, .int v_a_isGone]))]) (fun (_ : Int32 × Int32 × Int32 × Int32 × Int32 × Int32) => none) (fX9_goOn v_a_tail v_a_off v_a_rise v_a_rounds v_a_x v_a_y v_a_vx v_a_vy) D cy ev := j_met RX9 (by decide +kernel) rfl (Nat.le_of_ble_eq_true rfl) (fun X hC _ hD hy hv => by subst hD; subst hy; subst hv; exact jX9_goOn hC h_a h_a_now h_a_kept h_a_isKept h_a_refused h_a_limbs h_a_sizes h_a_ways h_a_ranges v_a_sign v_a_reach v_a_strength v_a_lag v_a_length v_a_weight v_a_place v_a_mass v_a_stiff v_a_tip v_a_tail v_a_pace v_a_bend v_a_off v_a_rise v_a_rounds v_a_x v_a_y v_a_vx v_a_vy v_a_tokenAt v_a_tokenLong v_a_token v_a_number v_a_read v_a_hasArm v_a_hasHook v_a_hasDart v_a_throwMany v_a_isGone)
abbrev gX9_fly (X : jX) (h_a h_a_now h_a_kept h_a_isKept h_a_refused h_a_limbs h_a_sizes h_a_ways h_a_ranges : Nat) (p1 v_a_sign v_a_reach v_a_strength v_a_lag v_a_length v_a_weight v_a_place v_a_mass v_a_stiff v_a_tip v_a_tail v_a_pace v_a_bend v_a_off v_a_rise v_a_rounds v_a_x v_a_y v_a_vx v_a_vy v_a_tokenAt v_a_tokenLong v_a_token v_a_number v_a_read v_a_hasArm v_a_hasHook v_a_hasDart v_a_throwMany v_a_isGone : Int32) (pc : Nat) (lv : List (Nat × Value)) (st : List Value) (w0 : Int32) (w1 : Int32) (w2 : Int32) (w3 : Int32) (w4 : Int32) (w5 : Int32) (e : Option (Int32 × Int32 × Int32 × Int32 × Int32 × Int32)) : Prop := jJ (ρ := Int32 × Int32 × Int32 × Int32 × Int32 × Int32) X 2 0 0 (jQf X 0 0 (fun (_ : Int32 × Int32 × Int32 × Int32 × Int32 × Int32) => none) (fun (r : Int32 × Int32 × Int32 × Int32 × Int32 × Int32) (_ : Nat → Nat) => [(h_a, .inr (9, [.ref h_a_now, .ref h_a_kept, .ref h_a_isKept, .ref h_a_refused, .ref h_a_limbs, .ref h_a_sizes, .int v_a_sign, .int v_a_reach, .int v_a_strength, .int v_a_lag, .int v_a_length, .int v_a_weight, .int v_a_place, .int v_a_mass, .int v_a_stiff, .int v_a_tip, .int v_a_tail, .int v_a_pace, .int v_a_bend, .int v_a_off, .int r.1, .int r.2.1, .int r.2.2.1, .int r.2.2.2.1, .int r.2.2.2.2.1, .int r.2.2.2.2.2, .ref h_a_ways, .int v_a_tokenAt, .int v_a_tokenLong, .int v_a_token, .int v_a_number, .int v_a_read, .int v_a_hasArm, .int v_a_hasHook, .int v_a_hasDart, .int v_a_throwMany, .ref h_a_ranges, .int v_a_isGone]))])) pc lv st [(h_a, .inr (9, [.ref h_a_now, .ref h_a_kept, .ref h_a_isKept, .ref h_a_refused, .ref h_a_limbs, .ref h_a_sizes, .int v_a_sign, .int v_a_reach, .int v_a_strength, .int v_a_lag, .int v_a_length, .int v_a_weight, .int v_a_place, .int v_a_mass, .int v_a_stiff, .int v_a_tip, .int v_a_tail, .int v_a_pace, .int v_a_bend, .int v_a_off, .int w0, .int w1, .int w2, .int w3, .int w4, .int w5, .ref h_a_ways, .int v_a_tokenAt, .int v_a_tokenLong, .int v_a_token, .int v_a_number, .int v_a_read, .int v_a_hasArm, .int v_a_hasHook, .int v_a_hasDart, .int v_a_throwMany, .ref h_a_ranges, .int v_a_isGone]))] (e)
set_option maxHeartbeats 4000000 in
set_option maxRecDepth 100000 in
theorem jX9_fly_b5_step {X : jX} (hC : jC X cX9_fly 2 RX9 rX9_fly none) (u : Nat) (h_a h_a_now h_a_kept h_a_isKept h_a_refused h_a_limbs h_a_sizes h_a_ways h_a_ranges : Nat) (p1 v_a_sign v_a_reach v_a_strength v_a_lag v_a_length v_a_weight v_a_place v_a_mass v_a_stiff v_a_tip v_a_tail v_a_pace v_a_bend v_a_off v_a_rise v_a_rounds v_a_x v_a_y v_a_vx v_a_vy v_a_tokenAt v_a_tokenLong v_a_token v_a_number v_a_read v_a_hasArm v_a_hasHook v_a_hasDart v_a_throwMany v_a_isGone : Int32) (rec5 : (Int32 × Int32 × Int32 × Int32 × Int32 × Int32) → Option (Int32 × Int32 × Int32 × Int32 × Int32 × Int32)) (hrec5 : ∀ p : Int32 × Int32 × Int32 × Int32 × Int32 × Int32, gX9_fly X h_a h_a_now h_a_kept h_a_isKept h_a_refused h_a_limbs h_a_sizes h_a_ways h_a_ranges p1 v_a_sign v_a_reach v_a_strength v_a_lag v_a_length v_a_weight v_a_place v_a_mass v_a_stiff v_a_tip v_a_tail v_a_pace v_a_bend v_a_off v_a_rise v_a_rounds v_a_x v_a_y v_a_vx v_a_vy v_a_tokenAt v_a_tokenLong v_a_token v_a_number v_a_read v_a_hasArm v_a_hasHook v_a_hasDart v_a_throwMany v_a_isGone 5 [(0, .ref h_a)] [] p.1 p.2.1 p.2.2.1 p.2.2.2.1 p.2.2.2.2.1 p.2.2.2.2.2 (rec5 p)) (p : Int32 × Int32 × Int32 × Int32 × Int32 × Int32) : gX9_fly X h_a h_a_now h_a_kept h_a_isKept h_a_refused h_a_limbs h_a_sizes h_a_ways h_a_ranges p1 v_a_sign v_a_reach v_a_strength v_a_lag v_a_length v_a_weight v_a_place v_a_mass v_a_stiff v_a_tip v_a_tail v_a_pace v_a_bend v_a_off v_a_rise v_a_rounds v_a_x v_a_y v_a_vx v_a_vy v_a_tokenAt v_a_tokenLong v_a_token v_a_number v_a_read v_a_hasArm v_a_hasHook v_a_hasDart v_a_throwMany v_a_isGone 5 [(0, .ref h_a)] [] p.1 p.2.1 p.2.2.1 p.2.2.2.1 p.2.2.2.2.1 p.2.2.2.2.2 (fX9_fly_b5 u p1 v_a_tail v_a_pace v_a_off v_a_rise v_a_rounds v_a_x v_a_y v_a_vx v_a_vy rec5 p) := by
  unfold fX9_fly_b5
  refine j_aload_n (pc := 5) hC 0 rfl dX9_fly_5 ?_
  refine j_get (pc := 6) hC flRX9_184 0 rfl rfl dX9_fly_6 ?_
  refine j_ifle (pc := 9) hC 19 (by decide) dX9_fly_9 ?_ ?_
  · exact j_vret (pc := 19) hC (fun _ => 0) rfl rfl dX9_fly_19
  · refine j_aload_n (pc := 12) hC 0 rfl dX9_fly_12 ?_
    refine j_callV (pc := 13) hC csRX9_202 [] (mX9_goOn (jl X) (jD X) (jy X) (jv X) h_a h_a_now h_a_kept h_a_isKept h_a_refused h_a_limbs h_a_sizes h_a_ways h_a_ranges v_a_sign v_a_reach v_a_strength v_a_lag v_a_length v_a_weight v_a_place v_a_mass v_a_stiff v_a_tip v_a_tail v_a_pace v_a_bend v_a_off p.1 p.2.1 p.2.2.1 p.2.2.2.1 p.2.2.2.2.1 p.2.2.2.2.2 v_a_tokenAt v_a_tokenLong v_a_token v_a_number v_a_read v_a_hasArm v_a_hasHook v_a_hasDart v_a_throwMany v_a_isGone) [0] rfl (by decide +kernel) 0 rfl ⟨_, _, rfl⟩ ⟨by decide, by decide, rfl, rfl, by decide, by decide⟩ rfl rfl (Nat.le_of_ble_eq_true rfl) dX9_fly_13 (jkv (fun r2 _ => (rfl : @Eq va_W _ [(h_a, .inr (9, [.ref h_a_now, .ref h_a_kept, .ref h_a_isKept, .ref h_a_refused, .ref h_a_limbs, .ref h_a_sizes, .int v_a_sign, .int v_a_reach, .int v_a_strength, .int v_a_lag, .int v_a_length, .int v_a_weight, .int v_a_place, .int v_a_mass, .int v_a_stiff, .int v_a_tip, .int v_a_tail, .int v_a_pace, .int v_a_bend, .int v_a_off, .int r2.1, .int r2.2.1, .int r2.2.2.1, .int r2.2.2.2.1, .int r2.2.2.2.2.1, .int r2.2.2.2.2.2, .ref h_a_ways, .int v_a_tokenAt, .int v_a_tokenLong, .int v_a_token, .int v_a_number, .int v_a_read, .int v_a_hasArm, .int v_a_hasHook, .int v_a_hasDart, .int v_a_throwMany, .ref h_a_ranges, .int v_a_isGone]))])) (fun r2 => ?_))
    refine j_goto (pc := 16) hC 5 (by decide) dX9_fly_16 ?_
    exact hrec5 (r2.1, r2.2.1, r2.2.2.1, r2.2.2.2.1, r2.2.2.2.2.1, r2.2.2.2.2.2)
set_option maxHeartbeats 4000000 in
set_option maxRecDepth 100000 in
theorem jX9_fly_b5 {X : jX} (hC : jC X cX9_fly 2 RX9 rX9_fly none) (u : Nat) (h_a h_a_now h_a_kept h_a_isKept h_a_refused h_a_limbs h_a_sizes h_a_ways h_a_ranges : Nat) (p1 v_a_sign v_a_reach v_a_strength v_a_lag v_a_length v_a_weight v_a_place v_a_mass v_a_stiff v_a_tip v_a_tail v_a_pace v_a_bend v_a_off v_a_rise v_a_rounds v_a_x v_a_y v_a_vx v_a_vy v_a_tokenAt v_a_tokenLong v_a_token v_a_number v_a_read v_a_hasArm v_a_hasHook v_a_hasDart v_a_throwMany v_a_isGone : Int32) (p : Int32 × Int32 × Int32 × Int32 × Int32 × Int32) : gX9_fly X h_a h_a_now h_a_kept h_a_isKept h_a_refused h_a_limbs h_a_sizes h_a_ways h_a_ranges p1 v_a_sign v_a_reach v_a_strength v_a_lag v_a_length v_a_weight v_a_place v_a_mass v_a_stiff v_a_tip v_a_tail v_a_pace v_a_bend v_a_off v_a_rise v_a_rounds v_a_x v_a_y v_a_vx v_a_vy v_a_tokenAt v_a_tokenLong v_a_token v_a_number v_a_read v_a_hasArm v_a_hasHook v_a_hasDart v_a_throwMany v_a_isGone 5 [(0, .ref h_a)] [] p.1 p.2.1 p.2.2.1 p.2.2.2.1 p.2.2.2.2.1 p.2.2.2.2.2 (jfix (fX9_fly_b5 u p1 v_a_tail v_a_pace v_a_off v_a_rise v_a_rounds v_a_x v_a_y v_a_vx v_a_vy) u p) :=
  j_fix (fun rec5 hrec5 p => jX9_fly_b5_step hC u h_a h_a_now h_a_kept h_a_isKept h_a_refused h_a_limbs h_a_sizes h_a_ways h_a_ranges p1 v_a_sign v_a_reach v_a_strength v_a_lag v_a_length v_a_weight v_a_place v_a_mass v_a_stiff v_a_tip v_a_tail v_a_pace v_a_bend v_a_off v_a_rise v_a_rounds v_a_x v_a_y v_a_vx v_a_vy v_a_tokenAt v_a_tokenLong v_a_token v_a_number v_a_read v_a_hasArm v_a_hasHook v_a_hasDart v_a_throwMany v_a_isGone rec5 hrec5 p) u p
set_option maxHeartbeats 4000000 in
set_option maxRecDepth 100000 in
theorem jX9_fly {X : jX} (hC : jC X cX9_fly 2 RX9 rX9_fly none) (u : Nat) (h_a h_a_now h_a_kept h_a_isKept h_a_refused h_a_limbs h_a_sizes h_a_ways h_a_ranges : Nat) (p1 v_a_sign v_a_reach v_a_strength v_a_lag v_a_length v_a_weight v_a_place v_a_mass v_a_stiff v_a_tip v_a_tail v_a_pace v_a_bend v_a_off v_a_rise v_a_rounds v_a_x v_a_y v_a_vx v_a_vy v_a_tokenAt v_a_tokenLong v_a_token v_a_number v_a_read v_a_hasArm v_a_hasHook v_a_hasDart v_a_throwMany v_a_isGone : Int32) : gX9_fly X h_a h_a_now h_a_kept h_a_isKept h_a_refused h_a_limbs h_a_sizes h_a_ways h_a_ranges p1 v_a_sign v_a_reach v_a_strength v_a_lag v_a_length v_a_weight v_a_place v_a_mass v_a_stiff v_a_tip v_a_tail v_a_pace v_a_bend v_a_off v_a_rise v_a_rounds v_a_x v_a_y v_a_vx v_a_vy v_a_tokenAt v_a_tokenLong v_a_token v_a_number v_a_read v_a_hasArm v_a_hasHook v_a_hasDart v_a_throwMany v_a_isGone 0 [(0, .ref h_a), (1, .int p1)] [] v_a_rise v_a_rounds v_a_x v_a_y v_a_vx v_a_vy (fX9_fly u p1 v_a_tail v_a_pace v_a_off v_a_rise v_a_rounds v_a_x v_a_y v_a_vx v_a_vy) := by
  unfold fX9_fly
  refine j_aload_n (pc := 0) hC 0 rfl dX9_fly_0 ?_
  refine j_iload_n (pc := 1) hC 1 rfl dX9_fly_1 ?_
  refine j_callV (pc := 2) hC csRX9_199 [.int p1] (mX9_leave (jl X) (jD X) (jy X) (jv X) h_a h_a_now h_a_kept h_a_isKept h_a_refused h_a_limbs h_a_sizes h_a_ways h_a_ranges p1 v_a_sign v_a_reach v_a_strength v_a_lag v_a_length v_a_weight v_a_place v_a_mass v_a_stiff v_a_tip v_a_tail v_a_pace v_a_bend v_a_off v_a_rise v_a_rounds v_a_x v_a_y v_a_vx v_a_vy v_a_tokenAt v_a_tokenLong v_a_token v_a_number v_a_read v_a_hasArm v_a_hasHook v_a_hasDart v_a_throwMany v_a_isGone) [0] rfl (by decide +kernel) 0 rfl ⟨_, _, rfl⟩ ⟨by decide, by decide, rfl, rfl, by decide, by decide⟩ rfl rfl (Nat.le_of_ble_eq_true rfl) dX9_fly_2 (jkv (fun r1 _ => (rfl : @Eq va_W _ [(h_a, .inr (9, [.ref h_a_now, .ref h_a_kept, .ref h_a_isKept, .ref h_a_refused, .ref h_a_limbs, .ref h_a_sizes, .int v_a_sign, .int v_a_reach, .int v_a_strength, .int v_a_lag, .int v_a_length, .int v_a_weight, .int v_a_place, .int v_a_mass, .int v_a_stiff, .int v_a_tip, .int v_a_tail, .int v_a_pace, .int v_a_bend, .int v_a_off, .int r1.1, .int r1.2.1, .int r1.2.2.1, .int r1.2.2.2.1, .int r1.2.2.2.2.1, .int r1.2.2.2.2.2, .ref h_a_ways, .int v_a_tokenAt, .int v_a_tokenLong, .int v_a_token, .int v_a_number, .int v_a_read, .int v_a_hasArm, .int v_a_hasHook, .int v_a_hasDart, .int v_a_throwMany, .ref h_a_ranges, .int v_a_isGone]))])) (fun r1 => ?_))
  refine j_lv (pc := 5) [0] rfl ?_
  exact jX9_fly_b5 hC u h_a h_a_now h_a_kept h_a_isKept h_a_refused h_a_limbs h_a_sizes h_a_ways h_a_ranges p1 v_a_sign v_a_reach v_a_strength v_a_lag v_a_length v_a_weight v_a_place v_a_mass v_a_stiff v_a_tip v_a_tail v_a_pace v_a_bend v_a_off v_a_rise v_a_rounds v_a_x v_a_y v_a_vx v_a_vy v_a_tokenAt v_a_tokenLong v_a_token v_a_number v_a_read v_a_hasArm v_a_hasHook v_a_hasDart v_a_throwMany v_a_isGone (r1.1, r1.2.1, r1.2.2.1, r1.2.2.2.1, r1.2.2.2.2.1, r1.2.2.2.2.2)
set_option maxHeartbeats 4000000 in
set_option maxRecDepth 100000 in
theorem mX9_fly (l : Launch) (D : va_G) (cy : Nat → ClassId) (ev : jE) (u : Nat) (h_a h_a_now h_a_kept h_a_isKept h_a_refused h_a_limbs h_a_sizes h_a_ways h_a_ranges : Nat) (p1 v_a_sign v_a_reach v_a_strength v_a_lag v_a_length v_a_weight v_a_place v_a_mass v_a_stiff v_a_tip v_a_tail v_a_pace v_a_bend v_a_off v_a_rise v_a_rounds v_a_x v_a_y v_a_vx v_a_vy v_a_tokenAt v_a_tokenLong v_a_token v_a_number v_a_read v_a_hasArm v_a_hasHook v_a_hasDart v_a_throwMany v_a_isGone : Int32) : jM l yX9_fly cX9_fly 2 none rX9_fly [.ref h_a, .int p1] [(h_a, .inr (9, [.ref h_a_now, .ref h_a_kept, .ref h_a_isKept, .ref h_a_refused, .ref h_a_limbs, .ref h_a_sizes, .int v_a_sign, .int v_a_reach, .int v_a_strength, .int v_a_lag, .int v_a_length, .int v_a_weight, .int v_a_place, .int v_a_mass, .int v_a_stiff, .int v_a_tip, .int v_a_tail, .int v_a_pace, .int v_a_bend, .int v_a_off, .int v_a_rise, .int v_a_rounds, .int v_a_x, .int v_a_y, .int v_a_vx, .int v_a_vy, .ref h_a_ways, .int v_a_tokenAt, .int v_a_tokenLong, .int v_a_token, .int v_a_number, .int v_a_read, .int v_a_hasArm, .int v_a_hasHook, .int v_a_hasDart, .int v_a_throwMany, .ref h_a_ranges, .int v_a_isGone]))] (fun (r : Int32 × Int32 × Int32 × Int32 × Int32 × Int32) (_ : Nat → Nat) => [(h_a, .inr (9, [.ref h_a_now, .ref h_a_kept, .ref h_a_isKept, .ref h_a_refused, .ref h_a_limbs, .ref h_a_sizes, .int v_a_sign, .int v_a_reach, .int v_a_strength, .int v_a_lag, .int v_a_length, .int v_a_weight, .int v_a_place, .int v_a_mass, .int v_a_stiff, .int v_a_tip, .int v_a_tail, .int v_a_pace, .int v_a_bend, .int v_a_off, .int r.1, .int r.2.1, .int r.2.2.1, .int r.2.2.2.1, .int r.2.2.2.2.1, .int r.2.2.2.2.2, .ref h_a_ways, .int v_a_tokenAt, .int v_a_tokenLong, .int v_a_token, .int v_a_number, .int v_a_read, .int v_a_hasArm, .int v_a_hasHook, .int v_a_hasDart, .int v_a_throwMany, .ref h_a_ranges, .int v_a_isGone]))]) (fun (_ : Int32 × Int32 × Int32 × Int32 × Int32 × Int32) => none) (fX9_fly u p1 v_a_tail v_a_pace v_a_off v_a_rise v_a_rounds v_a_x v_a_y v_a_vx v_a_vy) D cy ev := j_met RX9 (by decide +kernel) rfl (Nat.le_of_ble_eq_true rfl) (fun X hC _ hD hy hv => by subst hD; subst hy; subst hv; exact jX9_fly hC u h_a h_a_now h_a_kept h_a_isKept h_a_refused h_a_limbs h_a_sizes h_a_ways h_a_ranges p1 v_a_sign v_a_reach v_a_strength v_a_lag v_a_length v_a_weight v_a_place v_a_mass v_a_stiff v_a_tip v_a_tail v_a_pace v_a_bend v_a_off v_a_rise v_a_rounds v_a_x v_a_y v_a_vx v_a_vy v_a_tokenAt v_a_tokenLong v_a_token v_a_number v_a_read v_a_hasArm v_a_hasHook v_a_hasDart v_a_throwMany v_a_isGone)
abbrev gX9_flingBy (X : jX) (h_a h_a_now h_a_kept h_a_isKept h_a_refused h_a_limbs h_a_sizes h_a_ways h_a_ranges : Nat) (p1 p2 p3 v_a_sign v_a_reach v_a_strength v_a_lag v_a_length v_a_weight v_a_place v_a_mass v_a_stiff v_a_tip v_a_tail v_a_pace v_a_bend v_a_off v_a_rise v_a_rounds v_a_x v_a_y v_a_vx v_a_vy v_a_tokenAt v_a_tokenLong v_a_token v_a_number v_a_read v_a_hasArm v_a_hasHook v_a_hasDart v_a_throwMany v_a_isGone : Int32) (pc : Nat) (lv : List (Nat × Value)) (st : List Value) (w0 : Int32) (w1 : Int32) (w2 : Int32) (w3 : Int32) (w4 : Int32) (w5 : Int32) (w6 : Int32) (w7 : Int32) (w8 : Int32) (e : Option (Int32 × Int32 × Int32 × Int32 × Int32 × Int32 × Int32 × Int32 × Int32)) : Prop := jJ (ρ := Int32 × Int32 × Int32 × Int32 × Int32 × Int32 × Int32 × Int32 × Int32) X 4 0 0 (jQf X 0 0 (fun (_ : Int32 × Int32 × Int32 × Int32 × Int32 × Int32 × Int32 × Int32 × Int32) => none) (fun (r : Int32 × Int32 × Int32 × Int32 × Int32 × Int32 × Int32 × Int32 × Int32) (_ : Nat → Nat) => [(h_a, .inr (9, [.ref h_a_now, .ref h_a_kept, .ref h_a_isKept, .ref h_a_refused, .ref h_a_limbs, .ref h_a_sizes, .int v_a_sign, .int v_a_reach, .int v_a_strength, .int v_a_lag, .int v_a_length, .int v_a_weight, .int v_a_place, .int v_a_mass, .int v_a_stiff, .int v_a_tip, .int v_a_tail, .int r.1, .int r.2.1, .int r.2.2.1, .int r.2.2.2.1, .int r.2.2.2.2.1, .int r.2.2.2.2.2.1, .int r.2.2.2.2.2.2.1, .int r.2.2.2.2.2.2.2.1, .int r.2.2.2.2.2.2.2.2, .ref h_a_ways, .int v_a_tokenAt, .int v_a_tokenLong, .int v_a_token, .int v_a_number, .int v_a_read, .int v_a_hasArm, .int v_a_hasHook, .int v_a_hasDart, .int v_a_throwMany, .ref h_a_ranges, .int v_a_isGone]))])) pc lv st [(h_a, .inr (9, [.ref h_a_now, .ref h_a_kept, .ref h_a_isKept, .ref h_a_refused, .ref h_a_limbs, .ref h_a_sizes, .int v_a_sign, .int v_a_reach, .int v_a_strength, .int v_a_lag, .int v_a_length, .int v_a_weight, .int v_a_place, .int v_a_mass, .int v_a_stiff, .int v_a_tip, .int v_a_tail, .int w0, .int w1, .int w2, .int w3, .int w4, .int w5, .int w6, .int w7, .int w8, .ref h_a_ways, .int v_a_tokenAt, .int v_a_tokenLong, .int v_a_token, .int v_a_number, .int v_a_read, .int v_a_hasArm, .int v_a_hasHook, .int v_a_hasDart, .int v_a_throwMany, .ref h_a_ranges, .int v_a_isGone]))] (e)
set_option maxHeartbeats 4000000 in
set_option maxRecDepth 100000 in
theorem jX9_flingBy_b25 {X : jX} (hC : jC X cX9_flingBy 4 RX9 rX9_flingBy none) (u : Nat) (h_a h_a_now h_a_kept h_a_isKept h_a_refused h_a_limbs h_a_sizes h_a_ways h_a_ranges : Nat) (p1 p2 p3 v_a_sign v_a_reach v_a_strength v_a_lag v_a_length v_a_weight v_a_place v_a_mass v_a_stiff v_a_tip v_a_tail v_a_pace v_a_bend v_a_off v_a_rise v_a_rounds v_a_x v_a_y v_a_vx v_a_vy v_a_tokenAt v_a_tokenLong v_a_token v_a_number v_a_read v_a_hasArm v_a_hasHook v_a_hasDart v_a_throwMany v_a_isGone : Int32) (p : Int32 × Int32 × Int32 × Int32 × Int32 × Int32 × Int32 × Int32 × Int32 × Int32) : gX9_flingBy X h_a h_a_now h_a_kept h_a_isKept h_a_refused h_a_limbs h_a_sizes h_a_ways h_a_ranges p1 p2 p3 v_a_sign v_a_reach v_a_strength v_a_lag v_a_length v_a_weight v_a_place v_a_mass v_a_stiff v_a_tip v_a_tail v_a_pace v_a_bend v_a_off v_a_rise v_a_rounds v_a_x v_a_y v_a_vx v_a_vy v_a_tokenAt v_a_tokenLong v_a_token v_a_number v_a_read v_a_hasArm v_a_hasHook v_a_hasDart v_a_throwMany v_a_isGone 25 [] [.int p.1, .ref h_a] p.2.1 p.2.2.1 p.2.2.2.1 p.2.2.2.2.1 p.2.2.2.2.2.1 p.2.2.2.2.2.2.1 p.2.2.2.2.2.2.2.1 p.2.2.2.2.2.2.2.2.1 p.2.2.2.2.2.2.2.2.2 (fX9_flingBy_b25 u p1 p2 p3 v_a_reach v_a_strength v_a_lag v_a_length v_a_weight v_a_place v_a_mass v_a_stiff v_a_tip v_a_tail v_a_pace v_a_bend v_a_off v_a_rise v_a_rounds v_a_x v_a_y v_a_vx v_a_vy p) := by
  unfold fX9_flingBy_b25
  refine j_callV (pc := 25) hC csRX9_208 [.int p.1] (mX9_fly (jl X) (jD X) (jy X) (jv X) u h_a h_a_now h_a_kept h_a_isKept h_a_refused h_a_limbs h_a_sizes h_a_ways h_a_ranges p.1 v_a_sign v_a_reach v_a_strength v_a_lag v_a_length v_a_weight v_a_place v_a_mass v_a_stiff v_a_tip v_a_tail p.2.1 p.2.2.1 p.2.2.2.1 p.2.2.2.2.1 p.2.2.2.2.2.1 p.2.2.2.2.2.2.1 p.2.2.2.2.2.2.2.1 p.2.2.2.2.2.2.2.2.1 p.2.2.2.2.2.2.2.2.2 v_a_tokenAt v_a_tokenLong v_a_token v_a_number v_a_read v_a_hasArm v_a_hasHook v_a_hasDart v_a_throwMany v_a_isGone) [0] rfl (by decide +kernel) 0 rfl ⟨_, _, rfl⟩ ⟨by decide, by decide, rfl, rfl, by decide, by decide⟩ rfl rfl (Nat.le_of_ble_eq_true rfl) dX9_flingBy_25 (jkv (fun r2 _ => (rfl : @Eq va_W _ [(h_a, .inr (9, [.ref h_a_now, .ref h_a_kept, .ref h_a_isKept, .ref h_a_refused, .ref h_a_limbs, .ref h_a_sizes, .int v_a_sign, .int v_a_reach, .int v_a_strength, .int v_a_lag, .int v_a_length, .int v_a_weight, .int v_a_place, .int v_a_mass, .int v_a_stiff, .int v_a_tip, .int v_a_tail, .int p.2.1, .int p.2.2.1, .int p.2.2.2.1, .int r2.1, .int r2.2.1, .int r2.2.2.1, .int r2.2.2.2.1, .int r2.2.2.2.2.1, .int r2.2.2.2.2.2, .ref h_a_ways, .int v_a_tokenAt, .int v_a_tokenLong, .int v_a_token, .int v_a_number, .int v_a_read, .int v_a_hasArm, .int v_a_hasHook, .int v_a_hasDart, .int v_a_throwMany, .ref h_a_ranges, .int v_a_isGone]))])) (fun r2 => ?_))
  exact j_vret (pc := 28) hC (fun _ => 0) rfl rfl dX9_flingBy_28
set_option maxHeartbeats 4000000 in
set_option maxRecDepth 100000 in
theorem jX9_flingBy_b24 {X : jX} (hC : jC X cX9_flingBy 4 RX9 rX9_flingBy none) (u : Nat) (h_a h_a_now h_a_kept h_a_isKept h_a_refused h_a_limbs h_a_sizes h_a_ways h_a_ranges : Nat) (p1 p2 p3 v_a_sign v_a_reach v_a_strength v_a_lag v_a_length v_a_weight v_a_place v_a_mass v_a_stiff v_a_tip v_a_tail v_a_pace v_a_bend v_a_off v_a_rise v_a_rounds v_a_x v_a_y v_a_vx v_a_vy v_a_tokenAt v_a_tokenLong v_a_token v_a_number v_a_read v_a_hasArm v_a_hasHook v_a_hasDart v_a_throwMany v_a_isGone : Int32) (p : Int32 × Int32 × Int32 × Int32 × Int32 × Int32 × Int32 × Int32 × Int32) : gX9_flingBy X h_a h_a_now h_a_kept h_a_isKept h_a_refused h_a_limbs h_a_sizes h_a_ways h_a_ranges p1 p2 p3 v_a_sign v_a_reach v_a_strength v_a_lag v_a_length v_a_weight v_a_place v_a_mass v_a_stiff v_a_tip v_a_tail v_a_pace v_a_bend v_a_off v_a_rise v_a_rounds v_a_x v_a_y v_a_vx v_a_vy v_a_tokenAt v_a_tokenLong v_a_token v_a_number v_a_read v_a_hasArm v_a_hasHook v_a_hasDart v_a_throwMany v_a_isGone 24 [(3, .int p3)] [.ref h_a] p.1 p.2.1 p.2.2.1 p.2.2.2.1 p.2.2.2.2.1 p.2.2.2.2.2.1 p.2.2.2.2.2.2.1 p.2.2.2.2.2.2.2.1 p.2.2.2.2.2.2.2.2 (fX9_flingBy_b24 u p1 p2 p3 v_a_reach v_a_strength v_a_lag v_a_length v_a_weight v_a_place v_a_mass v_a_stiff v_a_tip v_a_tail v_a_pace v_a_bend v_a_off v_a_rise v_a_rounds v_a_x v_a_y v_a_vx v_a_vy p) := by
  unfold fX9_flingBy_b24
  refine j_iload_n (pc := 24) hC 0 rfl dX9_flingBy_24 ?_
  refine j_lv (pc := 25) [] rfl ?_
  exact jX9_flingBy_b25 hC u h_a h_a_now h_a_kept h_a_isKept h_a_refused h_a_limbs h_a_sizes h_a_ways h_a_ranges p1 p2 p3 v_a_sign v_a_reach v_a_strength v_a_lag v_a_length v_a_weight v_a_place v_a_mass v_a_stiff v_a_tip v_a_tail v_a_pace v_a_bend v_a_off v_a_rise v_a_rounds v_a_x v_a_y v_a_vx v_a_vy v_a_tokenAt v_a_tokenLong v_a_token v_a_number v_a_read v_a_hasArm v_a_hasHook v_a_hasDart v_a_throwMany v_a_isGone (p3, p.1, p.2.1, p.2.2.1, p.2.2.2.1, p.2.2.2.2.1, p.2.2.2.2.2.1, p.2.2.2.2.2.2.1, p.2.2.2.2.2.2.2.1, p.2.2.2.2.2.2.2.2)
set_option maxHeartbeats 4000000 in
set_option maxRecDepth 100000 in
theorem jX9_flingBy {X : jX} (hC : jC X cX9_flingBy 4 RX9 rX9_flingBy none) (u : Nat) (h_a h_a_now h_a_kept h_a_isKept h_a_refused h_a_limbs h_a_sizes h_a_ways h_a_ranges : Nat) (p1 p2 p3 v_a_sign v_a_reach v_a_strength v_a_lag v_a_length v_a_weight v_a_place v_a_mass v_a_stiff v_a_tip v_a_tail v_a_pace v_a_bend v_a_off v_a_rise v_a_rounds v_a_x v_a_y v_a_vx v_a_vy v_a_tokenAt v_a_tokenLong v_a_token v_a_number v_a_read v_a_hasArm v_a_hasHook v_a_hasDart v_a_throwMany v_a_isGone : Int32) : gX9_flingBy X h_a h_a_now h_a_kept h_a_isKept h_a_refused h_a_limbs h_a_sizes h_a_ways h_a_ranges p1 p2 p3 v_a_sign v_a_reach v_a_strength v_a_lag v_a_length v_a_weight v_a_place v_a_mass v_a_stiff v_a_tip v_a_tail v_a_pace v_a_bend v_a_off v_a_rise v_a_rounds v_a_x v_a_y v_a_vx v_a_vy v_a_tokenAt v_a_tokenLong v_a_token v_a_number v_a_read v_a_hasArm v_a_hasHook v_a_hasDart v_a_throwMany v_a_isGone 0 [(0, .ref h_a), (1, .int p1), (2, .int p2), (3, .int p3)] [] v_a_pace v_a_bend v_a_off v_a_rise v_a_rounds v_a_x v_a_y v_a_vx v_a_vy (fX9_flingBy u p1 p2 p3 v_a_reach v_a_strength v_a_lag v_a_length v_a_weight v_a_place v_a_mass v_a_stiff v_a_tip v_a_tail v_a_pace v_a_bend v_a_off v_a_rise v_a_rounds v_a_x v_a_y v_a_vx v_a_vy) := by
  unfold fX9_flingBy
  refine j_aload_n (pc := 0) hC 0 rfl dX9_flingBy_0 ?_
  refine j_iload_n (pc := 1) hC 1 rfl dX9_flingBy_1 ?_
  refine j_iload_n (pc := 2) hC 2 rfl dX9_flingBy_2 ?_
  refine j_callV (pc := 3) hC csRX9_205 [.int p1, .int p2] (mX9_push (jl X) (jD X) (jy X) (jv X) u h_a h_a_now h_a_kept h_a_isKept h_a_refused h_a_limbs h_a_sizes h_a_ways h_a_ranges p1 p2 v_a_sign v_a_reach v_a_strength v_a_lag v_a_length v_a_weight v_a_place v_a_mass v_a_stiff v_a_tip v_a_tail v_a_pace v_a_bend v_a_off v_a_rise v_a_rounds v_a_x v_a_y v_a_vx v_a_vy v_a_tokenAt v_a_tokenLong v_a_token v_a_number v_a_read v_a_hasArm v_a_hasHook v_a_hasDart v_a_throwMany v_a_isGone) [0] rfl (by decide +kernel) 0 rfl ⟨_, _, rfl⟩ ⟨by decide, by decide, rfl, rfl, by decide, by decide⟩ rfl rfl (Nat.le_of_ble_eq_true rfl) dX9_flingBy_3 (jkv (fun r1 _ => (rfl : @Eq va_W _ [(h_a, .inr (9, [.ref h_a_now, .ref h_a_kept, .ref h_a_isKept, .ref h_a_refused, .ref h_a_limbs, .ref h_a_sizes, .int v_a_sign, .int v_a_reach, .int v_a_strength, .int v_a_lag, .int v_a_length, .int v_a_weight, .int v_a_place, .int v_a_mass, .int v_a_stiff, .int v_a_tip, .int v_a_tail, .int r1.1, .int r1.2.1, .int r1.2.2, .int v_a_rise, .int v_a_rounds, .int v_a_x, .int v_a_y, .int v_a_vx, .int v_a_vy, .ref h_a_ways, .int v_a_tokenAt, .int v_a_tokenLong, .int v_a_token, .int v_a_number, .int v_a_read, .int v_a_hasArm, .int v_a_hasHook, .int v_a_hasDart, .int v_a_throwMany, .ref h_a_ranges, .int v_a_isGone]))])) (fun r1 => ?_))
  refine j_aload_n (pc := 6) hC 0 rfl dX9_flingBy_6 ?_
  refine j_iload_n (pc := 7) hC 1 rfl dX9_flingBy_7 ?_
  refine j_iconst (pc := 8) hC ki_4 dX9_flingBy_8 ?_
  refine j_icmpne (pc := 9) hC 24 (by decide) dX9_flingBy_9 ?_ ?_
  · refine j_lv (pc := 24) [3] rfl ?_
    exact jX9_flingBy_b24 hC u h_a h_a_now h_a_kept h_a_isKept h_a_refused h_a_limbs h_a_sizes h_a_ways h_a_ranges p1 p2 p3 v_a_sign v_a_reach v_a_strength v_a_lag v_a_length v_a_weight v_a_place v_a_mass v_a_stiff v_a_tip v_a_tail v_a_pace v_a_bend v_a_off v_a_rise v_a_rounds v_a_x v_a_y v_a_vx v_a_vy v_a_tokenAt v_a_tokenLong v_a_token v_a_number v_a_read v_a_hasArm v_a_hasHook v_a_hasDart v_a_throwMany v_a_isGone (r1.1, r1.2.1, r1.2.2, v_a_rise, v_a_rounds, v_a_x, v_a_y, v_a_vx, v_a_vy)
  · refine j_iload_n (pc := 12) hC 3 rfl dX9_flingBy_12 ?_
    refine j_bipush (pc := 13) hC kb_6 dX9_flingBy_13 ?_
    refine j_icmpge (pc := 15) hC 24 (by decide) dX9_flingBy_15 ?_ ?_
    · refine j_lv (pc := 24) [3] rfl ?_
      exact jX9_flingBy_b24 hC u h_a h_a_now h_a_kept h_a_isKept h_a_refused h_a_limbs h_a_sizes h_a_ways h_a_ranges p1 p2 p3 v_a_sign v_a_reach v_a_strength v_a_lag v_a_length v_a_weight v_a_place v_a_mass v_a_stiff v_a_tip v_a_tail v_a_pace v_a_bend v_a_off v_a_rise v_a_rounds v_a_x v_a_y v_a_vx v_a_vy v_a_tokenAt v_a_tokenLong v_a_token v_a_number v_a_read v_a_hasArm v_a_hasHook v_a_hasDart v_a_throwMany v_a_isGone (r1.1, r1.2.1, r1.2.2, v_a_rise, v_a_rounds, v_a_x, v_a_y, v_a_vx, v_a_vy)
    · refine j_iload_n (pc := 18) hC 3 rfl dX9_flingBy_18 ?_
      refine j_iconst (pc := 19) hC ki_1 dX9_flingBy_19 ?_
      refine j_iadd (pc := 20) hC dX9_flingBy_20 ?_
      refine j_goto (pc := 21) hC 25 (by decide) dX9_flingBy_21 ?_
      refine j_lv (pc := 25) [] rfl ?_
      exact jX9_flingBy_b25 hC u h_a h_a_now h_a_kept h_a_isKept h_a_refused h_a_limbs h_a_sizes h_a_ways h_a_ranges p1 p2 p3 v_a_sign v_a_reach v_a_strength v_a_lag v_a_length v_a_weight v_a_place v_a_mass v_a_stiff v_a_tip v_a_tail v_a_pace v_a_bend v_a_off v_a_rise v_a_rounds v_a_x v_a_y v_a_vx v_a_vy v_a_tokenAt v_a_tokenLong v_a_token v_a_number v_a_read v_a_hasArm v_a_hasHook v_a_hasDart v_a_throwMany v_a_isGone ((p3 + (1 : Int32)), r1.1, r1.2.1, r1.2.2, v_a_rise, v_a_rounds, v_a_x, v_a_y, v_a_vx, v_a_vy)
set_option maxHeartbeats 4000000 in
set_option maxRecDepth 100000 in
theorem mX9_flingBy (l : Launch) (D : va_G) (cy : Nat → ClassId) (ev : jE) (u : Nat) (h_a h_a_now h_a_kept h_a_isKept h_a_refused h_a_limbs h_a_sizes h_a_ways h_a_ranges : Nat) (p1 p2 p3 v_a_sign v_a_reach v_a_strength v_a_lag v_a_length v_a_weight v_a_place v_a_mass v_a_stiff v_a_tip v_a_tail v_a_pace v_a_bend v_a_off v_a_rise v_a_rounds v_a_x v_a_y v_a_vx v_a_vy v_a_tokenAt v_a_tokenLong v_a_token v_a_number v_a_read v_a_hasArm v_a_hasHook v_a_hasDart v_a_throwMany v_a_isGone : Int32) : jM l yX9_flingBy cX9_flingBy 4 none rX9_flingBy [.ref h_a, .int p1, .int p2, .int p3] [(h_a, .inr (9, [.ref h_a_now, .ref h_a_kept, .ref h_a_isKept, .ref h_a_refused, .ref h_a_limbs, .ref h_a_sizes, .int v_a_sign, .int v_a_reach, .int v_a_strength, .int v_a_lag, .int v_a_length, .int v_a_weight, .int v_a_place, .int v_a_mass, .int v_a_stiff, .int v_a_tip, .int v_a_tail, .int v_a_pace, .int v_a_bend, .int v_a_off, .int v_a_rise, .int v_a_rounds, .int v_a_x, .int v_a_y, .int v_a_vx, .int v_a_vy, .ref h_a_ways, .int v_a_tokenAt, .int v_a_tokenLong, .int v_a_token, .int v_a_number, .int v_a_read, .int v_a_hasArm, .int v_a_hasHook, .int v_a_hasDart, .int v_a_throwMany, .ref h_a_ranges, .int v_a_isGone]))] (fun (r : Int32 × Int32 × Int32 × Int32 × Int32 × Int32 × Int32 × Int32 × Int32) (_ : Nat → Nat) => [(h_a, .inr (9, [.ref h_a_now, .ref h_a_kept, .ref h_a_isKept, .ref h_a_refused, .ref h_a_limbs, .ref h_a_sizes, .int v_a_sign, .int v_a_reach, .int v_a_strength, .int v_a_lag, .int v_a_length, .int v_a_weight, .int v_a_place, .int v_a_mass, .int v_a_stiff, .int v_a_tip, .int v_a_tail, .int r.1, .int r.2.1, .int r.2.2.1, .int r.2.2.2.1, .int r.2.2.2.2.1, .int r.2.2.2.2.2.1, .int r.2.2.2.2.2.2.1, .int r.2.2.2.2.2.2.2.1, .int r.2.2.2.2.2.2.2.2, .ref h_a_ways, .int v_a_tokenAt, .int v_a_tokenLong, .int v_a_token, .int v_a_number, .int v_a_read, .int v_a_hasArm, .int v_a_hasHook, .int v_a_hasDart, .int v_a_throwMany, .ref h_a_ranges, .int v_a_isGone]))]) (fun (_ : Int32 × Int32 × Int32 × Int32 × Int32 × Int32 × Int32 × Int32 × Int32) => none) (fX9_flingBy u p1 p2 p3 v_a_reach v_a_strength v_a_lag v_a_length v_a_weight v_a_place v_a_mass v_a_stiff v_a_tip v_a_tail v_a_pace v_a_bend v_a_off v_a_rise v_a_rounds v_a_x v_a_y v_a_vx v_a_vy) D cy ev := j_met RX9 (by decide +kernel) rfl (Nat.le_of_ble_eq_true rfl) (fun X hC _ hD hy hv => by subst hD; subst hy; subst hv; exact jX9_flingBy hC u h_a h_a_now h_a_kept h_a_isKept h_a_refused h_a_limbs h_a_sizes h_a_ways h_a_ranges p1 p2 p3 v_a_sign v_a_reach v_a_strength v_a_lag v_a_length v_a_weight v_a_place v_a_mass v_a_stiff v_a_tip v_a_tail v_a_pace v_a_bend v_a_off v_a_rise v_a_rounds v_a_x v_a_y v_a_vx v_a_vy v_a_tokenAt v_a_tokenLong v_a_token v_a_number v_a_read v_a_hasArm v_a_hasHook v_a_hasDart v_a_throwMany v_a_isGone)
abbrev gX9_isThrow (X : jX) (h_a h_a_now h_a_kept h_a_isKept h_a_refused h_a_limbs h_a_sizes h_a_ways h_a_ranges : Nat) (p1 p2 p3 p4 v_a_sign v_a_reach v_a_strength v_a_lag v_a_length v_a_weight v_a_place v_a_mass v_a_stiff v_a_tip v_a_tail v_a_pace v_a_bend v_a_off v_a_rise v_a_rounds v_a_x v_a_y v_a_vx v_a_vy v_a_tokenAt v_a_tokenLong v_a_token v_a_number v_a_read v_a_hasArm v_a_hasHook v_a_hasDart v_a_throwMany v_a_isGone : Int32) (f_a_now : Nat → Int32) (pc : Nat) (lv : List (Nat × Value)) (st : List Value) (e : Option (Int32)) : Prop := jJ (ρ := Int32) X 5 0 0 (jQf X 0 0 (fun (r : Int32) => some (.int r)) (fun (_ : Int32) (_ : Nat → Nat) => [(h_a, .inr (9, [.ref h_a_now, .ref h_a_kept, .ref h_a_isKept, .ref h_a_refused, .ref h_a_limbs, .ref h_a_sizes, .int v_a_sign, .int v_a_reach, .int v_a_strength, .int v_a_lag, .int v_a_length, .int v_a_weight, .int v_a_place, .int v_a_mass, .int v_a_stiff, .int v_a_tip, .int v_a_tail, .int v_a_pace, .int v_a_bend, .int v_a_off, .int v_a_rise, .int v_a_rounds, .int v_a_x, .int v_a_y, .int v_a_vx, .int v_a_vy, .ref h_a_ways, .int v_a_tokenAt, .int v_a_tokenLong, .int v_a_token, .int v_a_number, .int v_a_read, .int v_a_hasArm, .int v_a_hasHook, .int v_a_hasDart, .int v_a_throwMany, .ref h_a_ranges, .int v_a_isGone])), (h_a_now, .inl (jy X 0, 398, .inl f_a_now))])) pc lv st [(h_a, .inr (9, [.ref h_a_now, .ref h_a_kept, .ref h_a_isKept, .ref h_a_refused, .ref h_a_limbs, .ref h_a_sizes, .int v_a_sign, .int v_a_reach, .int v_a_strength, .int v_a_lag, .int v_a_length, .int v_a_weight, .int v_a_place, .int v_a_mass, .int v_a_stiff, .int v_a_tip, .int v_a_tail, .int v_a_pace, .int v_a_bend, .int v_a_off, .int v_a_rise, .int v_a_rounds, .int v_a_x, .int v_a_y, .int v_a_vx, .int v_a_vy, .ref h_a_ways, .int v_a_tokenAt, .int v_a_tokenLong, .int v_a_token, .int v_a_number, .int v_a_read, .int v_a_hasArm, .int v_a_hasHook, .int v_a_hasDart, .int v_a_throwMany, .ref h_a_ranges, .int v_a_isGone])), (h_a_now, .inl (jy X 0, 398, .inl f_a_now))] (e)
set_option maxHeartbeats 4000000 in
set_option maxRecDepth 100000 in
theorem jX9_isThrow {X : jX} (hC : jC X cX9_isThrow 5 RX9 rX9_isThrow (some .boolean)) (h_a h_a_now h_a_kept h_a_isKept h_a_refused h_a_limbs h_a_sizes h_a_ways h_a_ranges : Nat) (p1 p2 p3 p4 v_a_sign v_a_reach v_a_strength v_a_lag v_a_length v_a_weight v_a_place v_a_mass v_a_stiff v_a_tip v_a_tail v_a_pace v_a_bend v_a_off v_a_rise v_a_rounds v_a_x v_a_y v_a_vx v_a_vy v_a_tokenAt v_a_tokenLong v_a_token v_a_number v_a_read v_a_hasArm v_a_hasHook v_a_hasDart v_a_throwMany v_a_isGone : Int32) (f_a_now : Nat → Int32) : gX9_isThrow X h_a h_a_now h_a_kept h_a_isKept h_a_refused h_a_limbs h_a_sizes h_a_ways h_a_ranges p1 p2 p3 p4 v_a_sign v_a_reach v_a_strength v_a_lag v_a_length v_a_weight v_a_place v_a_mass v_a_stiff v_a_tip v_a_tail v_a_pace v_a_bend v_a_off v_a_rise v_a_rounds v_a_x v_a_y v_a_vx v_a_vy v_a_tokenAt v_a_tokenLong v_a_token v_a_number v_a_read v_a_hasArm v_a_hasHook v_a_hasDart v_a_throwMany v_a_isGone f_a_now 0 [(0, .ref h_a), (1, .int p1), (2, .int p2), (3, .int p3), (4, .int p4)] [] (fX9_isThrow p1 p2 p3 p4 f_a_now) := by
  unfold fX9_isThrow
  refine j_iload_n (pc := 0) hC 1 rfl dX9_isThrow_0 ?_
  refine j_i2l (pc := 1) hC dX9_isThrow_1 ?_
  refine j_lconst (pc := 2) hC (v := (0 : Int64)) rfl dX9_isThrow_2 ?_
  refine j_aload_n (pc := 3) hC 0 rfl dX9_isThrow_3 ?_
  refine j_iconst (pc := 4) hC ki_0 dX9_isThrow_4 ?_
  refine j_callV (pc := 5) hC csRX9_102 [.int (0 : Int32)] (mX9_many (jl X) (jD X) (jy X) (jv X) h_a h_a_now h_a_kept h_a_isKept h_a_refused h_a_limbs h_a_sizes h_a_ways h_a_ranges (0 : Int32) v_a_sign v_a_reach v_a_strength v_a_lag v_a_length v_a_weight v_a_place v_a_mass v_a_stiff v_a_tip v_a_tail v_a_pace v_a_bend v_a_off v_a_rise v_a_rounds v_a_x v_a_y v_a_vx v_a_vy v_a_tokenAt v_a_tokenLong v_a_token v_a_number v_a_read v_a_hasArm v_a_hasHook v_a_hasDart v_a_throwMany v_a_isGone f_a_now) [0, 1] rfl (by decide +kernel) 0 rfl ⟨_, _, rfl⟩ ⟨by decide, by decide, rfl, rfl, by decide, by decide⟩ rfl rfl (Nat.le_of_ble_eq_true rfl) dX9_isThrow_5 (jki0 (fun _ => rfl) (fun _ _ => rfl) (fun r1 => ?_))
  refine j_iconst (pc := 8) hC ki_1 dX9_isThrow_8 ?_
  refine j_isub (pc := 9) hC dX9_isThrow_9 ?_
  refine j_i2l (pc := 10) hC dX9_isThrow_10 ?_
  refine j_callS (pc := 11) hC csRX9_90 [.long (p1.toInt64), .long (0 : Int64), .long ((r1 - (1 : Int32)).toInt64)] (mX9_in (jl X) (jD X) (jy X) (jv X) (p1.toInt64) (0 : Int64) ((r1 - (1 : Int32)).toInt64)) [] rfl (by decide +kernel) ⟨by decide, by decide, rfl, rfl, by decide, by decide⟩ rfl rfl (Nat.le_of_ble_eq_true rfl) dX9_isThrow_11 (jki0 (fun _ => rfl) (fun _ _ => rfl) (fun r2 => ?_))
  refine j_ifeq (pc := 14) hC 68 (by decide) dX9_isThrow_14 ?_ ?_
  · refine j_iconst (pc := 68) hC ki_0 dX9_isThrow_68 ?_
    exact j_zret (pc := 69) hC (fun _ => 0) (by decide) rfl rfl dX9_isThrow_69
  · refine j_iload_n (pc := 17) hC 2 rfl dX9_isThrow_17 ?_
    refine j_i2l (pc := 18) hC dX9_isThrow_18 ?_
    refine j_lconst (pc := 19) hC (v := (0 : Int64)) rfl dX9_isThrow_19 ?_
    refine j_aload_n (pc := 20) hC 0 rfl dX9_isThrow_20 ?_
    refine j_iconst (pc := 21) hC ki_1 dX9_isThrow_21 ?_
    refine j_callV (pc := 22) hC csRX9_102 [.int (1 : Int32)] (mX9_many (jl X) (jD X) (jy X) (jv X) h_a h_a_now h_a_kept h_a_isKept h_a_refused h_a_limbs h_a_sizes h_a_ways h_a_ranges (1 : Int32) v_a_sign v_a_reach v_a_strength v_a_lag v_a_length v_a_weight v_a_place v_a_mass v_a_stiff v_a_tip v_a_tail v_a_pace v_a_bend v_a_off v_a_rise v_a_rounds v_a_x v_a_y v_a_vx v_a_vy v_a_tokenAt v_a_tokenLong v_a_token v_a_number v_a_read v_a_hasArm v_a_hasHook v_a_hasDart v_a_throwMany v_a_isGone f_a_now) [0, 1] rfl (by decide +kernel) 0 rfl ⟨_, _, rfl⟩ ⟨by decide, by decide, rfl, rfl, by decide, by decide⟩ rfl rfl (Nat.le_of_ble_eq_true rfl) dX9_isThrow_22 (jki0 (fun _ => rfl) (fun _ _ => rfl) (fun r3 => ?_))
    refine j_iconst (pc := 25) hC ki_1 dX9_isThrow_25 ?_
    refine j_isub (pc := 26) hC dX9_isThrow_26 ?_
    refine j_i2l (pc := 27) hC dX9_isThrow_27 ?_
    refine j_callS (pc := 28) hC csRX9_90 [.long (p2.toInt64), .long (0 : Int64), .long ((r3 - (1 : Int32)).toInt64)] (mX9_in (jl X) (jD X) (jy X) (jv X) (p2.toInt64) (0 : Int64) ((r3 - (1 : Int32)).toInt64)) [] rfl (by decide +kernel) ⟨by decide, by decide, rfl, rfl, by decide, by decide⟩ rfl rfl (Nat.le_of_ble_eq_true rfl) dX9_isThrow_28 (jki0 (fun _ => rfl) (fun _ _ => rfl) (fun r4 => ?_))
    refine j_ifeq (pc := 31) hC 68 (by decide) dX9_isThrow_31 ?_ ?_
    · refine j_iconst (pc := 68) hC ki_0 dX9_isThrow_68 ?_
      exact j_zret (pc := 69) hC (fun _ => 0) (by decide) rfl rfl dX9_isThrow_69
    · refine j_iload_n (pc := 34) hC 3 rfl dX9_isThrow_34 ?_
      refine j_i2l (pc := 35) hC dX9_isThrow_35 ?_
      refine j_lconst (pc := 36) hC (v := (0 : Int64)) rfl dX9_isThrow_36 ?_
      refine j_aload_n (pc := 37) hC 0 rfl dX9_isThrow_37 ?_
      refine j_iconst (pc := 38) hC ki_2 dX9_isThrow_38 ?_
      refine j_callV (pc := 39) hC csRX9_102 [.int (2 : Int32)] (mX9_many (jl X) (jD X) (jy X) (jv X) h_a h_a_now h_a_kept h_a_isKept h_a_refused h_a_limbs h_a_sizes h_a_ways h_a_ranges (2 : Int32) v_a_sign v_a_reach v_a_strength v_a_lag v_a_length v_a_weight v_a_place v_a_mass v_a_stiff v_a_tip v_a_tail v_a_pace v_a_bend v_a_off v_a_rise v_a_rounds v_a_x v_a_y v_a_vx v_a_vy v_a_tokenAt v_a_tokenLong v_a_token v_a_number v_a_read v_a_hasArm v_a_hasHook v_a_hasDart v_a_throwMany v_a_isGone f_a_now) [0, 1] rfl (by decide +kernel) 0 rfl ⟨_, _, rfl⟩ ⟨by decide, by decide, rfl, rfl, by decide, by decide⟩ rfl rfl (Nat.le_of_ble_eq_true rfl) dX9_isThrow_39 (jki0 (fun _ => rfl) (fun _ _ => rfl) (fun r5 => ?_))
      refine j_iconst (pc := 42) hC ki_1 dX9_isThrow_42 ?_
      refine j_isub (pc := 43) hC dX9_isThrow_43 ?_
      refine j_i2l (pc := 44) hC dX9_isThrow_44 ?_
      refine j_callS (pc := 45) hC csRX9_90 [.long (p3.toInt64), .long (0 : Int64), .long ((r5 - (1 : Int32)).toInt64)] (mX9_in (jl X) (jD X) (jy X) (jv X) (p3.toInt64) (0 : Int64) ((r5 - (1 : Int32)).toInt64)) [] rfl (by decide +kernel) ⟨by decide, by decide, rfl, rfl, by decide, by decide⟩ rfl rfl (Nat.le_of_ble_eq_true rfl) dX9_isThrow_45 (jki0 (fun _ => rfl) (fun _ _ => rfl) (fun r6 => ?_))
      refine j_ifeq (pc := 48) hC 68 (by decide) dX9_isThrow_48 ?_ ?_
      · refine j_iconst (pc := 68) hC ki_0 dX9_isThrow_68 ?_
        exact j_zret (pc := 69) hC (fun _ => 0) (by decide) rfl rfl dX9_isThrow_69
      · refine j_iload (pc := 51) hC 4 rfl dX9_isThrow_51 ?_
        refine j_i2l (pc := 53) hC dX9_isThrow_53 ?_
        refine j_lconst (pc := 54) hC (v := (0 : Int64)) rfl dX9_isThrow_54 ?_
        refine j_ldc2 (pc := 55) hC wm1080 dX9_isThrow_55 ?_
        refine j_callS (pc := 58) hC csRX9_90 [.long (p4.toInt64), .long (0 : Int64), .long (6 : Int64)] (mX9_in (jl X) (jD X) (jy X) (jv X) (p4.toInt64) (0 : Int64) (6 : Int64)) [] rfl (by decide +kernel) ⟨by decide, by decide, rfl, rfl, by decide, by decide⟩ rfl rfl (Nat.le_of_ble_eq_true rfl) dX9_isThrow_58 (jki0 (fun _ => rfl) (fun _ _ => rfl) (fun r7 => ?_))
        refine j_ifeq (pc := 61) hC 68 (by decide) dX9_isThrow_61 ?_ ?_
        · refine j_iconst (pc := 68) hC ki_0 dX9_isThrow_68 ?_
          exact j_zret (pc := 69) hC (fun _ => 0) (by decide) rfl rfl dX9_isThrow_69
        · refine j_iconst (pc := 64) hC ki_1 dX9_isThrow_64 ?_
          refine j_goto (pc := 65) hC 69 (by decide) dX9_isThrow_65 ?_
          exact j_zret (pc := 69) hC (fun _ => 0) (by decide) rfl rfl dX9_isThrow_69
set_option maxHeartbeats 4000000 in
set_option maxRecDepth 100000 in
theorem mX9_isThrow (l : Launch) (D : va_G) (cy : Nat → ClassId) (ev : jE) (h_a h_a_now h_a_kept h_a_isKept h_a_refused h_a_limbs h_a_sizes h_a_ways h_a_ranges : Nat) (p1 p2 p3 p4 v_a_sign v_a_reach v_a_strength v_a_lag v_a_length v_a_weight v_a_place v_a_mass v_a_stiff v_a_tip v_a_tail v_a_pace v_a_bend v_a_off v_a_rise v_a_rounds v_a_x v_a_y v_a_vx v_a_vy v_a_tokenAt v_a_tokenLong v_a_token v_a_number v_a_read v_a_hasArm v_a_hasHook v_a_hasDart v_a_throwMany v_a_isGone : Int32) (f_a_now : Nat → Int32) : jM l yX9_isThrow cX9_isThrow 5 (some .boolean) rX9_isThrow [.ref h_a, .int p1, .int p2, .int p3, .int p4] [(h_a, .inr (9, [.ref h_a_now, .ref h_a_kept, .ref h_a_isKept, .ref h_a_refused, .ref h_a_limbs, .ref h_a_sizes, .int v_a_sign, .int v_a_reach, .int v_a_strength, .int v_a_lag, .int v_a_length, .int v_a_weight, .int v_a_place, .int v_a_mass, .int v_a_stiff, .int v_a_tip, .int v_a_tail, .int v_a_pace, .int v_a_bend, .int v_a_off, .int v_a_rise, .int v_a_rounds, .int v_a_x, .int v_a_y, .int v_a_vx, .int v_a_vy, .ref h_a_ways, .int v_a_tokenAt, .int v_a_tokenLong, .int v_a_token, .int v_a_number, .int v_a_read, .int v_a_hasArm, .int v_a_hasHook, .int v_a_hasDart, .int v_a_throwMany, .ref h_a_ranges, .int v_a_isGone])), (h_a_now, .inl (cy 0, 398, .inl f_a_now))] (fun (_ : Int32) (_ : Nat → Nat) => [(h_a, .inr (9, [.ref h_a_now, .ref h_a_kept, .ref h_a_isKept, .ref h_a_refused, .ref h_a_limbs, .ref h_a_sizes, .int v_a_sign, .int v_a_reach, .int v_a_strength, .int v_a_lag, .int v_a_length, .int v_a_weight, .int v_a_place, .int v_a_mass, .int v_a_stiff, .int v_a_tip, .int v_a_tail, .int v_a_pace, .int v_a_bend, .int v_a_off, .int v_a_rise, .int v_a_rounds, .int v_a_x, .int v_a_y, .int v_a_vx, .int v_a_vy, .ref h_a_ways, .int v_a_tokenAt, .int v_a_tokenLong, .int v_a_token, .int v_a_number, .int v_a_read, .int v_a_hasArm, .int v_a_hasHook, .int v_a_hasDart, .int v_a_throwMany, .ref h_a_ranges, .int v_a_isGone])), (h_a_now, .inl (cy 0, 398, .inl f_a_now))]) (fun (r : Int32) => some (.int r)) (fX9_isThrow p1 p2 p3 p4 f_a_now) D cy ev := j_met RX9 (by decide +kernel) rfl (Nat.le_of_ble_eq_true rfl) (fun X hC _ hD hy hv => by subst hD; subst hy; subst hv; exact jX9_isThrow hC h_a h_a_now h_a_kept h_a_isKept h_a_refused h_a_limbs h_a_sizes h_a_ways h_a_ranges p1 p2 p3 p4 v_a_sign v_a_reach v_a_strength v_a_lag v_a_length v_a_weight v_a_place v_a_mass v_a_stiff v_a_tip v_a_tail v_a_pace v_a_bend v_a_off v_a_rise v_a_rounds v_a_x v_a_y v_a_vx v_a_vy v_a_tokenAt v_a_tokenLong v_a_token v_a_number v_a_read v_a_hasArm v_a_hasHook v_a_hasDart v_a_throwMany v_a_isGone f_a_now)
