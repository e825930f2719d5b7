/-! the arms of the law (printed by wip/whole/gen_law.py) -/
theorem lA_feed_N {p : Program} {l : Launch} {e : Env} {s : State} {m : MethodId} {args : Array Value} {below : List Frame} {meth : Method} {c : Code} {G0 : Heap} {Y : State → Prop} {D : va_G} {dA : Nat → ClassId} {base t0 u0 : Nat} {Q : State → Prop} {pF : Nat → List Value → xH → Option (Option Value × xH)} (C : lwC p l s m args c G0 Y D dA base pF) {lv : xL} {b xa ma ao i L : Nat} {xs : Nat → Int32} (hG : lwG lv b xa ma ao i) (hi : i + 6 ≤ L) (hL : L ≤ 3074) {h h1 h2 h3 : xH} {v : Int32} (hS : lwS h b L xs) (hS1 : lwS h1 b L xs) (hX : xMetW l G0 Y D dA base 31 yL_feed cL_feed 8 [(0, 16, 19, 13)] [.ref xa, .int (xs (i + 1)), .int (xs (i + 2)), .int (xs (i + 3)), .int (xs (i + 4)), .int (xs (i + 5)), .ref ao] h (0 : Int32) h1) (hb1 : ((xMn 278).cls = (xCl ((h1.1 ma).1 - 1)).1 ∧ 0 < (h1.1 ma).1 ∧ (h1.1 ma).1 ≤ 17)) (hb2 : ((xMn 373).cls = (xCl ((h2.1 ma).1 - 1)).1 ∧ 0 < (h2.1 ma).1 ∧ (h2.1 ma).1 ≤ 17)) (hM : xCo pF 31 278 (.ref ma :: [.int (xs (i + 1)), .int (xs (i + 2)), .int (xs (i + 3)), .int (xs (i + 4)), .int (xs (i + 5))]) h1 (some (.int v)) h2) (hT : xCo pF 31 373 [.ref ma] h2 (some (.int (0 : Int32))) h3) (ho : (h3.1 ao).1 = 21 ∧ (h3.1 ao).2.1 = 1 ∧ (h3.1 ao).2.2 0 = .long (v.toInt64)) (q0 : lwR base t0 u0 h) (q1 : lwR base t0 u0 h1) (q3 : lwR base t0 u0 h3)
    (kk : ∀ lv', lwG lv' b xa ma ao i → lwW p l e s m args below meth c G0 D dA base t0 u0 Q 2147 lv' [] h3) : lwW p l e s m args below meth c G0 D dA base t0 u0 Q 192 lv [] h := by
  refine lwQ1 C kAo_feed (f := (192, lv, [], h)) (g := (224, lv, ([.ref xa, .int (xs (i + 1)), .int (xs (i + 2)), .int (xs (i + 3)), .int (xs (i + 4)), .int (xs (i + 5)), .ref ao]).reverse, h)) ?_ q0 q0 ?_
  · refine eQ_aload_n la_feed_192 hG.2.1 ?_
    refine eQ_sc (n := 1) hG hS (by omega) hL (by decide) la_feed_193 la_feed_194 la_feed_196 la_feed_197 la_feed_198 ?_
    refine eQ_sc (n := 2) hG hS (by omega) hL (by decide) la_feed_199 la_feed_200 la_feed_202 la_feed_203 la_feed_204 ?_
    refine eQ_sc (n := 3) hG hS (by omega) hL (by decide) la_feed_205 la_feed_206 la_feed_208 la_feed_209 la_feed_210 ?_
    refine eQ_sc (n := 4) hG hS (by omega) hL (by decide) la_feed_211 la_feed_212 la_feed_214 la_feed_215 la_feed_216 ?_
    refine eQ_sc (n := 5) hG hS (by omega) hL (by decide) la_feed_217 la_feed_218 la_feed_220 la_feed_221 la_feed_222 ?_
    refine eQ_aload_n la_feed_223 hG.2.2.2.1 ?_
    exact xQ_r
  refine lw_wr C hX wc_feed wt_feed (by decide) rfl wl_feed (n := 7) (by decide +kernel) rfl (kAo_feed (224, (.invokestatic 115, 3)) (x_look rfl)) rfl q0 q1 ?_
  have hG2 : lwG (xs1 6 (.int v) (xs1 5 (.int (0 : Int32)) lv)) b xa ma ao i := (lwG_s (lwG_s hG (by decide)) (by decide))
  have g5 : xg (xs1 6 (.int v) (xs1 5 (.int (0 : Int32)) lv)) 5 = some (.int (0 : Int32)) := (xs1_keep.2 5 _ (by decide) (fun _ => rfl) xs1_keep.1)
  have g6 : xg (xs1 6 (.int v) (xs1 5 (.int (0 : Int32)) lv)) 6 = some (.int v) := xs1_keep.1
  refine lwQ1 C kAo_feed (f := (227, lv, [.int (0 : Int32)], h1)) (g := (2147, xs1 6 (.int v) (xs1 5 (.int (0 : Int32)) lv), [], h3)) ?_ q1 q3 (kk _ hG2)
  refine eQ_istore (lv' := xs1 5 (.int (0 : Int32)) lv) la_feed_227 (by decide) rfl ?_
  refine eQ_aload_n la_feed_229 (lwG_s hG (by decide)).2.2.1 ?_
  refine eQ_sc (n := 1) (lwG_s hG (by decide)) hS1 (by omega) hL (by decide) la_feed_230 la_feed_231 la_feed_233 la_feed_234 la_feed_235 ?_
  refine eQ_sc (n := 2) (lwG_s hG (by decide)) hS1 (by omega) hL (by decide) la_feed_236 la_feed_237 la_feed_239 la_feed_240 la_feed_241 ?_
  refine eQ_sc (n := 3) (lwG_s hG (by decide)) hS1 (by omega) hL (by decide) la_feed_242 la_feed_243 la_feed_245 la_feed_246 la_feed_247 ?_
  refine eQ_sc (n := 4) (lwG_s hG (by decide)) hS1 (by omega) hL (by decide) la_feed_248 la_feed_249 la_feed_251 la_feed_252 la_feed_253 ?_
  refine eQ_sc (n := 5) (lwG_s hG (by decide)) hS1 (by omega) hL (by decide) la_feed_254 la_feed_255 la_feed_257 la_feed_258 la_feed_259 ?_
  refine eQ_virt (b := ma) (as := [.int (xs (i + 1)), .int (xs (i + 2)), .int (xs (i + 3)), .int (xs (i + 4)), .int (xs (i + 5))]) (n := 5) (r := (some (.int v))) la_feed_260 (by decide +kernel) (by decide +kernel) rfl rfl (Nat.le_of_ble_eq_true rfl) (by decide +kernel) hb1 hM ?_
  refine eQ_istore (lv' := xs1 6 (.int v) (xs1 5 (.int (0 : Int32)) lv)) la_feed_263 (by decide) rfl ?_
  refine eQ_aload_n la_feed_265 hG2.2.2.1 ?_
  refine eQ_virt (b := ma) (as := []) (n := 0) (r := some (.int (0 : Int32))) la_feed_266 (by decide +kernel) (by decide +kernel) rfl rfl (Nat.le_of_ble_eq_true rfl) (by decide +kernel) hb2 hT ?_
  refine eQ_iload la_feed_269 g5 ?_
  refine eQ_icmp (t := 276) la_feed_271 (by decide) (fun _ => ?_) (fun q => absurd (l_eq _) q)
  refine eQ_iload la_feed_276 g5 ?_
  refine eQ_if (t := 293) la_feed_278 (by decide) (fun q => absurd q (by decide)) (fun _ => ?_)
  refine eQ_aload_n la_feed_281 hG2.2.2.2.1 ?_
  refine eQ_iconst (v := 0) la_feed_282 (by decide) ?_
  refine eQ_lald (j := 0) (x := v.toInt64) la_feed_283 ho.1 (by rw [ho.2.1]; decide) (by decide) ho.2.2 ?_
  refine eQ_iload la_feed_284 g6 ?_
  refine eQ_i2l la_feed_286 ?_
  refine eQ_lcmp la_feed_287 ?_
  rw [lg_cmp_self]
  refine eQ_if (t := 293) la_feed_288 (by decide) (fun _ => ?_) (fun q => absurd (by decide) q)
  refine eQ_goto (t := 2147) la_feed_293 (by decide) ?_
  exact xQ_r
theorem lA_feed_T {p : Program} {l : Launch} {e : Env} {s : State} {m : MethodId} {args : Array Value} {below : List Frame} {meth : Method} {c : Code} {G0 : Heap} {Y : State → Prop} {D : va_G} {dA : Nat → ClassId} {base t0 u0 : Nat} {Q : State → Prop} {pF : Nat → List Value → xH → Option (Option Value × xH)} (C : lwC p l s m args c G0 Y D dA base pF) {lv : xL} {b xa ma ao i L : Nat} {xs : Nat → Int32} (hG : lwG lv b xa ma ao i) (hi : i + 6 ≤ L) (hL : L ≤ 3074) {h h1 h2 h3 : xH} {r : Int32} {v : Int32} (hS : lwS h b L xs) (hS1 : lwS h1 b L xs) (hX : xMetW l G0 Y D dA base 31 yL_feed cL_feed 8 [(0, 16, 19, 13)] [.ref xa, .int (xs (i + 1)), .int (xs (i + 2)), .int (xs (i + 3)), .int (xs (i + 4)), .int (xs (i + 5)), .ref ao] h r h1) (hb1 : ((xMn 278).cls = (xCl ((h1.1 ma).1 - 1)).1 ∧ 0 < (h1.1 ma).1 ∧ (h1.1 ma).1 ≤ 17)) (hb2 : ((xMn 373).cls = (xCl ((h2.1 ma).1 - 1)).1 ∧ 0 < (h2.1 ma).1 ∧ (h2.1 ma).1 ≤ 17)) (hM : xCo pF 31 278 (.ref ma :: [.int (xs (i + 1)), .int (xs (i + 2)), .int (xs (i + 3)), .int (xs (i + 4)), .int (xs (i + 5))]) h1 (some (.int v)) h2) (hT : xCo pF 31 373 [.ref ma] h2 (some (.int r)) h3) (hr : xc0 .ne r = true) (q0 : lwR base t0 u0 h) (q1 : lwR base t0 u0 h1) (q3 : lwR base t0 u0 h3)
    (kk : ∀ lv', lwG lv' b xa ma ao i → lwW p l e s m args below meth c G0 D dA base t0 u0 Q 2147 lv' [] h3) : lwW p l e s m args below meth c G0 D dA base t0 u0 Q 192 lv [] h := by
  refine lwQ1 C kAo_feed (f := (192, lv, [], h)) (g := (224, lv, ([.ref xa, .int (xs (i + 1)), .int (xs (i + 2)), .int (xs (i + 3)), .int (xs (i + 4)), .int (xs (i + 5)), .ref ao]).reverse, h)) ?_ q0 q0 ?_
  · refine eQ_aload_n la_feed_192 hG.2.1 ?_
    refine eQ_sc (n := 1) hG hS (by omega) hL (by decide) la_feed_193 la_feed_194 la_feed_196 la_feed_197 la_feed_198 ?_
    refine eQ_sc (n := 2) hG hS (by omega) hL (by decide) la_feed_199 la_feed_200 la_feed_202 la_feed_203 la_feed_204 ?_
    refine eQ_sc (n := 3) hG hS (by omega) hL (by decide) la_feed_205 la_feed_206 la_feed_208 la_feed_209 la_feed_210 ?_
    refine eQ_sc (n := 4) hG hS (by omega) hL (by decide) la_feed_211 la_feed_212 la_feed_214 la_feed_215 la_feed_216 ?_
    refine eQ_sc (n := 5) hG hS (by omega) hL (by decide) la_feed_217 la_feed_218 la_feed_220 la_feed_221 la_feed_222 ?_
    refine eQ_aload_n la_feed_223 hG.2.2.2.1 ?_
    exact xQ_r
  refine lw_wr C hX wc_feed wt_feed (by decide) rfl wl_feed (n := 7) (by decide +kernel) rfl (kAo_feed (224, (.invokestatic 115, 3)) (x_look rfl)) rfl q0 q1 ?_
  have hG2 : lwG (xs1 6 (.int v) (xs1 5 (.int r) lv)) b xa ma ao i := (lwG_s (lwG_s hG (by decide)) (by decide))
  have g5 : xg (xs1 6 (.int v) (xs1 5 (.int r) lv)) 5 = some (.int r) := (xs1_keep.2 5 _ (by decide) (fun _ => rfl) xs1_keep.1)
  have g6 : xg (xs1 6 (.int v) (xs1 5 (.int r) lv)) 6 = some (.int v) := xs1_keep.1
  refine lwQ1 C kAo_feed (f := (227, lv, [.int r], h1)) (g := (2147, xs1 6 (.int v) (xs1 5 (.int r) lv), [], h3)) ?_ q1 q3 (kk _ hG2)
  refine eQ_istore (lv' := xs1 5 (.int r) lv) la_feed_227 (by decide) rfl ?_
  refine eQ_aload_n la_feed_229 (lwG_s hG (by decide)).2.2.1 ?_
  refine eQ_sc (n := 1) (lwG_s hG (by decide)) hS1 (by omega) hL (by decide) la_feed_230 la_feed_231 la_feed_233 la_feed_234 la_feed_235 ?_
  refine eQ_sc (n := 2) (lwG_s hG (by decide)) hS1 (by omega) hL (by decide) la_feed_236 la_feed_237 la_feed_239 la_feed_240 la_feed_241 ?_
  refine eQ_sc (n := 3) (lwG_s hG (by decide)) hS1 (by omega) hL (by decide) la_feed_242 la_feed_243 la_feed_245 la_feed_246 la_feed_247 ?_
  refine eQ_sc (n := 4) (lwG_s hG (by decide)) hS1 (by omega) hL (by decide) la_feed_248 la_feed_249 la_feed_251 la_feed_252 la_feed_253 ?_
  refine eQ_sc (n := 5) (lwG_s hG (by decide)) hS1 (by omega) hL (by decide) la_feed_254 la_feed_255 la_feed_257 la_feed_258 la_feed_259 ?_
  refine eQ_virt (b := ma) (as := [.int (xs (i + 1)), .int (xs (i + 2)), .int (xs (i + 3)), .int (xs (i + 4)), .int (xs (i + 5))]) (n := 5) (r := (some (.int v))) la_feed_260 (by decide +kernel) (by decide +kernel) rfl rfl (Nat.le_of_ble_eq_true rfl) (by decide +kernel) hb1 hM ?_
  refine eQ_istore (lv' := xs1 6 (.int v) (xs1 5 (.int r) lv)) la_feed_263 (by decide) rfl ?_
  refine eQ_aload_n la_feed_265 hG2.2.2.1 ?_
  refine eQ_virt (b := ma) (as := []) (n := 0) (r := some (.int r)) la_feed_266 (by decide +kernel) (by decide +kernel) rfl rfl (Nat.le_of_ble_eq_true rfl) (by decide +kernel) hb2 hT ?_
  refine eQ_iload la_feed_269 g5 ?_
  refine eQ_icmp (t := 276) la_feed_271 (by decide) (fun _ => ?_) (fun q => absurd (l_eq _) q)
  refine eQ_iload la_feed_276 g5 ?_
  refine eQ_if (t := 293) la_feed_278 (by decide) (fun _ => ?_) (fun q => absurd hr q)
  refine eQ_goto (t := 2147) la_feed_293 (by decide) ?_
  exact xQ_r
theorem lA_end_N {p : Program} {l : Launch} {e : Env} {s : State} {m : MethodId} {args : Array Value} {below : List Frame} {meth : Method} {c : Code} {G0 : Heap} {Y : State → Prop} {D : va_G} {dA : Nat → ClassId} {base t0 u0 : Nat} {Q : State → Prop} {pF : Nat → List Value → xH → Option (Option Value × xH)} (C : lwC p l s m args c G0 Y D dA base pF) {lv : xL} {b xa ma ao i L : Nat} {xs : Nat → Int32} (hG : lwG lv b xa ma ao i) (hi : i + 6 ≤ L) (hL : L ≤ 3074) {h h1 h2 h3 : xH} {v : Int32} (hS : lwS h b L xs) (hS1 : lwS h1 b L xs) (hX : xMetW l G0 Y D dA base 31 yL_end cL_end 4 [(0, 9, 12, 19), (0, 9, 15, 13)] [.ref xa, .int (xs (i + 1)), .ref ao] h (0 : Int32) h1) (hb1 : ((xMn 276).cls = (xCl ((h1.1 ma).1 - 1)).1 ∧ 0 < (h1.1 ma).1 ∧ (h1.1 ma).1 ≤ 17)) (hb2 : ((xMn 373).cls = (xCl ((h2.1 ma).1 - 1)).1 ∧ 0 < (h2.1 ma).1 ∧ (h2.1 ma).1 ≤ 17)) (hM : xCo pF 31 276 (.ref ma :: [.int (xs (i + 1))]) h1 (some (.int v)) h2) (hT : xCo pF 31 373 [.ref ma] h2 (some (.int (0 : Int32))) h3) (ho : (h3.1 ao).1 = 21 ∧ (h3.1 ao).2.1 = 1 ∧ (h3.1 ao).2.2 0 = .long (v.toInt64)) (q0 : lwR base t0 u0 h) (q1 : lwR base t0 u0 h1) (q3 : lwR base t0 u0 h3)
    (kk : ∀ lv', lwG lv' b xa ma ao i → lwW p l e s m args below meth c G0 D dA base t0 u0 Q 2147 lv' [] h3) : lwW p l e s m args below meth c G0 D dA base t0 u0 Q 296 lv [] h := by
  refine lwQ1 C kAo_end (f := (296, lv, [], h)) (g := (304, lv, ([.ref xa, .int (xs (i + 1)), .ref ao]).reverse, h)) ?_ q0 q0 ?_
  · refine eQ_aload_n la_end_296 hG.2.1 ?_
    refine eQ_sc (n := 1) hG hS (by omega) hL (by decide) la_end_297 la_end_298 la_end_300 la_end_301 la_end_302 ?_
    refine eQ_aload_n la_end_303 hG.2.2.2.1 ?_
    exact xQ_r
  refine lw_wr C hX wc_end wt_end (by decide) rfl wl_end (n := 3) (by decide +kernel) rfl (kAo_end (304, (.invokestatic 123, 3)) (x_look rfl)) rfl q0 q1 ?_
  have hG2 : lwG (xs1 6 (.int v) (xs1 5 (.int (0 : Int32)) lv)) b xa ma ao i := (lwG_s (lwG_s hG (by decide)) (by decide))
  have g5 : xg (xs1 6 (.int v) (xs1 5 (.int (0 : Int32)) lv)) 5 = some (.int (0 : Int32)) := (xs1_keep.2 5 _ (by decide) (fun _ => rfl) xs1_keep.1)
  have g6 : xg (xs1 6 (.int v) (xs1 5 (.int (0 : Int32)) lv)) 6 = some (.int v) := xs1_keep.1
  refine lwQ1 C kAo_end (f := (307, lv, [.int (0 : Int32)], h1)) (g := (2147, xs1 6 (.int v) (xs1 5 (.int (0 : Int32)) lv), [], h3)) ?_ q1 q3 (kk _ hG2)
  refine eQ_istore (lv' := xs1 5 (.int (0 : Int32)) lv) la_end_307 (by decide) rfl ?_
  refine eQ_aload_n la_end_309 (lwG_s hG (by decide)).2.2.1 ?_
  refine eQ_sc (n := 1) (lwG_s hG (by decide)) hS1 (by omega) hL (by decide) la_end_310 la_end_311 la_end_313 la_end_314 la_end_315 ?_
  refine eQ_virt (b := ma) (as := [.int (xs (i + 1))]) (n := 1) (r := (some (.int v))) la_end_316 (by decide +kernel) (by decide +kernel) rfl rfl (Nat.le_of_ble_eq_true rfl) (by decide +kernel) hb1 hM ?_
  refine eQ_istore (lv' := xs1 6 (.int v) (xs1 5 (.int (0 : Int32)) lv)) la_end_319 (by decide) rfl ?_
  refine eQ_aload_n la_end_321 hG2.2.2.1 ?_
  refine eQ_virt (b := ma) (as := []) (n := 0) (r := some (.int (0 : Int32))) la_end_322 (by decide +kernel) (by decide +kernel) rfl rfl (Nat.le_of_ble_eq_true rfl) (by decide +kernel) hb2 hT ?_
  refine eQ_iload la_end_325 g5 ?_
  refine eQ_icmp (t := 332) la_end_327 (by decide) (fun _ => ?_) (fun q => absurd (l_eq _) q)
  refine eQ_iload la_end_332 g5 ?_
  refine eQ_if (t := 349) la_end_334 (by decide) (fun q => absurd q (by decide)) (fun _ => ?_)
  refine eQ_aload_n la_end_337 hG2.2.2.2.1 ?_
  refine eQ_iconst (v := 0) la_end_338 (by decide) ?_
  refine eQ_lald (j := 0) (x := v.toInt64) la_end_339 ho.1 (by rw [ho.2.1]; decide) (by decide) ho.2.2 ?_
  refine eQ_iload la_end_340 g6 ?_
  refine eQ_i2l la_end_342 ?_
  refine eQ_lcmp la_end_343 ?_
  rw [lg_cmp_self]
  refine eQ_if (t := 349) la_end_344 (by decide) (fun _ => ?_) (fun q => absurd (by decide) q)
  refine eQ_goto (t := 2147) la_end_349 (by decide) ?_
  exact xQ_r
theorem lA_end_T {p : Program} {l : Launch} {e : Env} {s : State} {m : MethodId} {args : Array Value} {below : List Frame} {meth : Method} {c : Code} {G0 : Heap} {Y : State → Prop} {D : va_G} {dA : Nat → ClassId} {base t0 u0 : Nat} {Q : State → Prop} {pF : Nat → List Value → xH → Option (Option Value × xH)} (C : lwC p l s m args c G0 Y D dA base pF) {lv : xL} {b xa ma ao i L : Nat} {xs : Nat → Int32} (hG : lwG lv b xa ma ao i) (hi : i + 6 ≤ L) (hL : L ≤ 3074) {h h1 h2 h3 : xH} {r : Int32} {v : Int32} (hS : lwS h b L xs) (hS1 : lwS h1 b L xs) (hX : xMetW l G0 Y D dA base 31 yL_end cL_end 4 [(0, 9, 12, 19), (0, 9, 15, 13)] [.ref xa, .int (xs (i + 1)), .ref ao] h r h1) (hb1 : ((xMn 276).cls = (xCl ((h1.1 ma).1 - 1)).1 ∧ 0 < (h1.1 ma).1 ∧ (h1.1 ma).1 ≤ 17)) (hb2 : ((xMn 373).cls = (xCl ((h2.1 ma).1 - 1)).1 ∧ 0 < (h2.1 ma).1 ∧ (h2.1 ma).1 ≤ 17)) (hM : xCo pF 31 276 (.ref ma :: [.int (xs (i + 1))]) h1 (some (.int v)) h2) (hT : xCo pF 31 373 [.ref ma] h2 (some (.int r)) h3) (hr : xc0 .ne r = true) (q0 : lwR base t0 u0 h) (q1 : lwR base t0 u0 h1) (q3 : lwR base t0 u0 h3)
    (kk : ∀ lv', lwG lv' b xa ma ao i → lwW p l e s m args below meth c G0 D dA base t0 u0 Q 2147 lv' [] h3) : lwW p l e s m args below meth c G0 D dA base t0 u0 Q 296 lv [] h := by
  refine lwQ1 C kAo_end (f := (296, lv, [], h)) (g := (304, lv, ([.ref xa, .int (xs (i + 1)), .ref ao]).reverse, h)) ?_ q0 q0 ?_
  · refine eQ_aload_n la_end_296 hG.2.1 ?_
    refine eQ_sc (n := 1) hG hS (by omega) hL (by decide) la_end_297 la_end_298 la_end_300 la_end_301 la_end_302 ?_
    refine eQ_aload_n la_end_303 hG.2.2.2.1 ?_
    exact xQ_r
  refine lw_wr C hX wc_end wt_end (by decide) rfl wl_end (n := 3) (by decide +kernel) rfl (kAo_end (304, (.invokestatic 123, 3)) (x_look rfl)) rfl q0 q1 ?_
  have hG2 : lwG (xs1 6 (.int v) (xs1 5 (.int r) lv)) b xa ma ao i := (lwG_s (lwG_s hG (by decide)) (by decide))
  have g5 : xg (xs1 6 (.int v) (xs1 5 (.int r) lv)) 5 = some (.int r) := (xs1_keep.2 5 _ (by decide) (fun _ => rfl) xs1_keep.1)
  have g6 : xg (xs1 6 (.int v) (xs1 5 (.int r) lv)) 6 = some (.int v) := xs1_keep.1
  refine lwQ1 C kAo_end (f := (307, lv, [.int r], h1)) (g := (2147, xs1 6 (.int v) (xs1 5 (.int r) lv), [], h3)) ?_ q1 q3 (kk _ hG2)
  refine eQ_istore (lv' := xs1 5 (.int r) lv) la_end_307 (by decide) rfl ?_
  refine eQ_aload_n la_end_309 (lwG_s hG (by decide)).2.2.1 ?_
  refine eQ_sc (n := 1) (lwG_s hG (by decide)) hS1 (by omega) hL (by decide) la_end_310 la_end_311 la_end_313 la_end_314 la_end_315 ?_
  refine eQ_virt (b := ma) (as := [.int (xs (i + 1))]) (n := 1) (r := (some (.int v))) la_end_316 (by decide +kernel) (by decide +kernel) rfl rfl (Nat.le_of_ble_eq_true rfl) (by decide +kernel) hb1 hM ?_
  refine eQ_istore (lv' := xs1 6 (.int v) (xs1 5 (.int r) lv)) la_end_319 (by decide) rfl ?_
  refine eQ_aload_n la_end_321 hG2.2.2.1 ?_
  refine eQ_virt (b := ma) (as := []) (n := 0) (r := some (.int r)) la_end_322 (by decide +kernel) (by decide +kernel) rfl rfl (Nat.le_of_ble_eq_true rfl) (by decide +kernel) hb2 hT ?_
  refine eQ_iload la_end_325 g5 ?_
  refine eQ_icmp (t := 332) la_end_327 (by decide) (fun _ => ?_) (fun q => absurd (l_eq _) q)
  refine eQ_iload la_end_332 g5 ?_
  refine eQ_if (t := 349) la_end_334 (by decide) (fun _ => ?_) (fun q => absurd hr q)
  refine eQ_goto (t := 2147) la_end_349 (by decide) ?_
  exact xQ_r
theorem lA_ask_N {p : Program} {l : Launch} {e : Env} {s : State} {m : MethodId} {args : Array Value} {below : List Frame} {meth : Method} {c : Code} {G0 : Heap} {Y : State → Prop} {D : va_G} {dA : Nat → ClassId} {base t0 u0 : Nat} {Q : State → Prop} {pF : Nat → List Value → xH → Option (Option Value × xH)} (C : lwC p l s m args c G0 Y D dA base pF) {lv : xL} {b xa ma ao i L : Nat} {xs : Nat → Int32} (hG : lwG lv b xa ma ao i) (hi : i + 6 ≤ L) (hL : L ≤ 3074) {h h1 h2 h3 : xH} {v : Int32} (hS : lwS h b L xs) (hS1 : lwS h1 b L xs) (hX : xMetW l G0 Y D dA base 31 yL_ask cL_ask 7 [(0, 14, 17, 25), (0, 14, 21, 19), (0, 14, 25, 13)] [.ref xa, .int (xs (i + 1)), .int (xs (i + 2)), .int (xs (i + 3)), .int (xs (i + 4)), .ref ao] h (0 : Int32) h1) (hb1 : ((xMn 248).cls = (xCl ((h1.1 ma).1 - 1)).1 ∧ 0 < (h1.1 ma).1 ∧ (h1.1 ma).1 ≤ 17)) (hb2 : ((xMn 373).cls = (xCl ((h2.1 ma).1 - 1)).1 ∧ 0 < (h2.1 ma).1 ∧ (h2.1 ma).1 ≤ 17)) (hM : xCo pF 31 248 (.ref ma :: [.int (xs (i + 1)), .int (xs (i + 2)), .int (xs (i + 3)), .int (xs (i + 4))]) h1 (some (.int v)) h2) (hT : xCo pF 31 373 [.ref ma] h2 (some (.int (0 : Int32))) h3) (ho : (h3.1 ao).1 = 21 ∧ (h3.1 ao).2.1 = 1 ∧ (h3.1 ao).2.2 0 = .long (v.toInt64)) (q0 : lwR base t0 u0 h) (q1 : lwR base t0 u0 h1) (q3 : lwR base t0 u0 h3)
    (kk : ∀ lv', lwG lv' b xa ma ao i → lwW p l e s m args below meth c G0 D dA base t0 u0 Q 2147 lv' [] h3) : lwW p l e s m args below meth c G0 D dA base t0 u0 Q 352 lv [] h := by
  refine lwQ1 C kAo_ask (f := (352, lv, [], h)) (g := (378, lv, ([.ref xa, .int (xs (i + 1)), .int (xs (i + 2)), .int (xs (i + 3)), .int (xs (i + 4)), .ref ao]).reverse, h)) ?_ q0 q0 ?_
  · refine eQ_aload_n la_ask_352 hG.2.1 ?_
    refine eQ_sc (n := 1) hG hS (by omega) hL (by decide) la_ask_353 la_ask_354 la_ask_356 la_ask_357 la_ask_358 ?_
    refine eQ_sc (n := 2) hG hS (by omega) hL (by decide) la_ask_359 la_ask_360 la_ask_362 la_ask_363 la_ask_364 ?_
    refine eQ_sc (n := 3) hG hS (by omega) hL (by decide) la_ask_365 la_ask_366 la_ask_368 la_ask_369 la_ask_370 ?_
    refine eQ_sc (n := 4) hG hS (by omega) hL (by decide) la_ask_371 la_ask_372 la_ask_374 la_ask_375 la_ask_376 ?_
    refine eQ_aload_n la_ask_377 hG.2.2.2.1 ?_
    exact xQ_r
  refine lw_wr C hX wc_ask wt_ask (by decide) rfl wl_ask (n := 6) (by decide +kernel) rfl (kAo_ask (378, (.invokestatic 127, 3)) (x_look rfl)) rfl q0 q1 ?_
  have hG2 : lwG (xs1 6 (.int v) (xs1 5 (.int (0 : Int32)) lv)) b xa ma ao i := (lwG_s (lwG_s hG (by decide)) (by decide))
  have g5 : xg (xs1 6 (.int v) (xs1 5 (.int (0 : Int32)) lv)) 5 = some (.int (0 : Int32)) := (xs1_keep.2 5 _ (by decide) (fun _ => rfl) xs1_keep.1)
  have g6 : xg (xs1 6 (.int v) (xs1 5 (.int (0 : Int32)) lv)) 6 = some (.int v) := xs1_keep.1
  refine lwQ1 C kAo_ask (f := (381, lv, [.int (0 : Int32)], h1)) (g := (2147, xs1 6 (.int v) (xs1 5 (.int (0 : Int32)) lv), [], h3)) ?_ q1 q3 (kk _ hG2)
  refine eQ_istore (lv' := xs1 5 (.int (0 : Int32)) lv) la_ask_381 (by decide) rfl ?_
  refine eQ_aload_n la_ask_383 (lwG_s hG (by decide)).2.2.1 ?_
  refine eQ_sc (n := 1) (lwG_s hG (by decide)) hS1 (by omega) hL (by decide) la_ask_384 la_ask_385 la_ask_387 la_ask_388 la_ask_389 ?_
  refine eQ_sc (n := 2) (lwG_s hG (by decide)) hS1 (by omega) hL (by decide) la_ask_390 la_ask_391 la_ask_393 la_ask_394 la_ask_395 ?_
  refine eQ_sc (n := 3) (lwG_s hG (by decide)) hS1 (by omega) hL (by decide) la_ask_396 la_ask_397 la_ask_399 la_ask_400 la_ask_401 ?_
  refine eQ_sc (n := 4) (lwG_s hG (by decide)) hS1 (by omega) hL (by decide) la_ask_402 la_ask_403 la_ask_405 la_ask_406 la_ask_407 ?_
  refine eQ_virt (b := ma) (as := [.int (xs (i + 1)), .int (xs (i + 2)), .int (xs (i + 3)), .int (xs (i + 4))]) (n := 4) (r := (some (.int v))) la_ask_408 (by decide +kernel) (by decide +kernel) rfl rfl (Nat.le_of_ble_eq_true rfl) (by decide +kernel) hb1 hM ?_
  refine eQ_istore (lv' := xs1 6 (.int v) (xs1 5 (.int (0 : Int32)) lv)) la_ask_411 (by decide) rfl ?_
  refine eQ_aload_n la_ask_413 hG2.2.2.1 ?_
  refine eQ_virt (b := ma) (as := []) (n := 0) (r := some (.int (0 : Int32))) la_ask_414 (by decide +kernel) (by decide +kernel) rfl rfl (Nat.le_of_ble_eq_true rfl) (by decide +kernel) hb2 hT ?_
  refine eQ_iload la_ask_417 g5 ?_
  refine eQ_icmp (t := 424) la_ask_419 (by decide) (fun _ => ?_) (fun q => absurd (l_eq _) q)
  refine eQ_iload la_ask_424 g5 ?_
  refine eQ_if (t := 441) la_ask_426 (by decide) (fun q => absurd q (by decide)) (fun _ => ?_)
  refine eQ_aload_n la_ask_429 hG2.2.2.2.1 ?_
  refine eQ_iconst (v := 0) la_ask_430 (by decide) ?_
  refine eQ_lald (j := 0) (x := v.toInt64) la_ask_431 ho.1 (by rw [ho.2.1]; decide) (by decide) ho.2.2 ?_
  refine eQ_iload la_ask_432 g6 ?_
  refine eQ_i2l la_ask_434 ?_
  refine eQ_lcmp la_ask_435 ?_
  rw [lg_cmp_self]
  refine eQ_if (t := 441) la_ask_436 (by decide) (fun _ => ?_) (fun q => absurd (by decide) q)
  refine eQ_goto (t := 2147) la_ask_441 (by decide) ?_
  exact xQ_r
theorem lA_ask_T {p : Program} {l : Launch} {e : Env} {s : State} {m : MethodId} {args : Array Value} {below : List Frame} {meth : Method} {c : Code} {G0 : Heap} {Y : State → Prop} {D : va_G} {dA : Nat → ClassId} {base t0 u0 : Nat} {Q : State → Prop} {pF : Nat → List Value → xH → Option (Option Value × xH)} (C : lwC p l s m args c G0 Y D dA base pF) {lv : xL} {b xa ma ao i L : Nat} {xs : Nat → Int32} (hG : lwG lv b xa ma ao i) (hi : i + 6 ≤ L) (hL : L ≤ 3074) {h h1 h2 h3 : xH} {r : Int32} {v : Int32} (hS : lwS h b L xs) (hS1 : lwS h1 b L xs) (hX : xMetW l G0 Y D dA base 31 yL_ask cL_ask 7 [(0, 14, 17, 25), (0, 14, 21, 19), (0, 14, 25, 13)] [.ref xa, .int (xs (i + 1)), .int (xs (i + 2)), .int (xs (i + 3)), .int (xs (i + 4)), .ref ao] h r h1) (hb1 : ((xMn 248).cls = (xCl ((h1.1 ma).1 - 1)).1 ∧ 0 < (h1.1 ma).1 ∧ (h1.1 ma).1 ≤ 17)) (hb2 : ((xMn 373).cls = (xCl ((h2.1 ma).1 - 1)).1 ∧ 0 < (h2.1 ma).1 ∧ (h2.1 ma).1 ≤ 17)) (hM : xCo pF 31 248 (.ref ma :: [.int (xs (i + 1)), .int (xs (i + 2)), .int (xs (i + 3)), .int (xs (i + 4))]) h1 (some (.int v)) h2) (hT : xCo pF 31 373 [.ref ma] h2 (some (.int r)) h3) (hr : xc0 .ne r = true) (q0 : lwR base t0 u0 h) (q1 : lwR base t0 u0 h1) (q3 : lwR base t0 u0 h3)
    (kk : ∀ lv', lwG lv' b xa ma ao i → lwW p l e s m args below meth c G0 D dA base t0 u0 Q 2147 lv' [] h3) : lwW p l e s m args below meth c G0 D dA base t0 u0 Q 352 lv [] h := by
  refine lwQ1 C kAo_ask (f := (352, lv, [], h)) (g := (378, lv, ([.ref xa, .int (xs (i + 1)), .int (xs (i + 2)), .int (xs (i + 3)), .int (xs (i + 4)), .ref ao]).reverse, h)) ?_ q0 q0 ?_
  · refine eQ_aload_n la_ask_352 hG.2.1 ?_
    refine eQ_sc (n := 1) hG hS (by omega) hL (by decide) la_ask_353 la_ask_354 la_ask_356 la_ask_357 la_ask_358 ?_
    refine eQ_sc (n := 2) hG hS (by omega) hL (by decide) la_ask_359 la_ask_360 la_ask_362 la_ask_363 la_ask_364 ?_
    refine eQ_sc (n := 3) hG hS (by omega) hL (by decide) la_ask_365 la_ask_366 la_ask_368 la_ask_369 la_ask_370 ?_
    refine eQ_sc (n := 4) hG hS (by omega) hL (by decide) la_ask_371 la_ask_372 la_ask_374 la_ask_375 la_ask_376 ?_
    refine eQ_aload_n la_ask_377 hG.2.2.2.1 ?_
    exact xQ_r
  refine lw_wr C hX wc_ask wt_ask (by decide) rfl wl_ask (n := 6) (by decide +kernel) rfl (kAo_ask (378, (.invokestatic 127, 3)) (x_look rfl)) rfl q0 q1 ?_
  have hG2 : lwG (xs1 6 (.int v) (xs1 5 (.int r) lv)) b xa ma ao i := (lwG_s (lwG_s hG (by decide)) (by decide))
  have g5 : xg (xs1 6 (.int v) (xs1 5 (.int r) lv)) 5 = some (.int r) := (xs1_keep.2 5 _ (by decide) (fun _ => rfl) xs1_keep.1)
  have g6 : xg (xs1 6 (.int v) (xs1 5 (.int r) lv)) 6 = some (.int v) := xs1_keep.1
  refine lwQ1 C kAo_ask (f := (381, lv, [.int r], h1)) (g := (2147, xs1 6 (.int v) (xs1 5 (.int r) lv), [], h3)) ?_ q1 q3 (kk _ hG2)
  refine eQ_istore (lv' := xs1 5 (.int r) lv) la_ask_381 (by decide) rfl ?_
  refine eQ_aload_n la_ask_383 (lwG_s hG (by decide)).2.2.1 ?_
  refine eQ_sc (n := 1) (lwG_s hG (by decide)) hS1 (by omega) hL (by decide) la_ask_384 la_ask_385 la_ask_387 la_ask_388 la_ask_389 ?_
  refine eQ_sc (n := 2) (lwG_s hG (by decide)) hS1 (by omega) hL (by decide) la_ask_390 la_ask_391 la_ask_393 la_ask_394 la_ask_395 ?_
  refine eQ_sc (n := 3) (lwG_s hG (by decide)) hS1 (by omega) hL (by decide) la_ask_396 la_ask_397 la_ask_399 la_ask_400 la_ask_401 ?_
  refine eQ_sc (n := 4) (lwG_s hG (by decide)) hS1 (by omega) hL (by decide) la_ask_402 la_ask_403 la_ask_405 la_ask_406 la_ask_407 ?_
  refine eQ_virt (b := ma) (as := [.int (xs (i + 1)), .int (xs (i + 2)), .int (xs (i + 3)), .int (xs (i + 4))]) (n := 4) (r := (some (.int v))) la_ask_408 (by decide +kernel) (by decide +kernel) rfl rfl (Nat.le_of_ble_eq_true rfl) (by decide +kernel) hb1 hM ?_
  refine eQ_istore (lv' := xs1 6 (.int v) (xs1 5 (.int r) lv)) la_ask_411 (by decide) rfl ?_
  refine eQ_aload_n la_ask_413 hG2.2.2.1 ?_
  refine eQ_virt (b := ma) (as := []) (n := 0) (r := some (.int r)) la_ask_414 (by decide +kernel) (by decide +kernel) rfl rfl (Nat.le_of_ble_eq_true rfl) (by decide +kernel) hb2 hT ?_
  refine eQ_iload la_ask_417 g5 ?_
  refine eQ_icmp (t := 424) la_ask_419 (by decide) (fun _ => ?_) (fun q => absurd (l_eq _) q)
  refine eQ_iload la_ask_424 g5 ?_
  refine eQ_if (t := 441) la_ask_426 (by decide) (fun _ => ?_) (fun q => absurd hr q)
  refine eQ_goto (t := 2147) la_ask_441 (by decide) ?_
  exact xQ_r
theorem lA_giveUp_N {p : Program} {l : Launch} {e : Env} {s : State} {m : MethodId} {args : Array Value} {below : List Frame} {meth : Method} {c : Code} {G0 : Heap} {Y : State → Prop} {D : va_G} {dA : Nat → ClassId} {base t0 u0 : Nat} {Q : State → Prop} {pF : Nat → List Value → xH → Option (Option Value × xH)} (C : lwC p l s m args c G0 Y D dA base pF) {lv : xL} {b xa ma ao i L : Nat} {xs : Nat → Int32} (hG : lwG lv b xa ma ao i) (hi : i + 6 ≤ L) (hL : L ≤ 3074) {h h1 h2 h3 : xH} {v : Int32} (hS : lwS h b L xs) (hS1 : lwS h1 b L xs) (hX : xMetW l G0 Y D dA base 31 yL_giveUp cL_giveUp 4 [(0, 16, 19, 25)] [.ref xa, .int (xs (i + 1)), .ref ao] h (0 : Int32) h1) (hb1 : ((xMn 288).cls = (xCl ((h1.1 ma).1 - 1)).1 ∧ 0 < (h1.1 ma).1 ∧ (h1.1 ma).1 ≤ 17)) (hb2 : ((xMn 373).cls = (xCl ((h2.1 ma).1 - 1)).1 ∧ 0 < (h2.1 ma).1 ∧ (h2.1 ma).1 ≤ 17)) (hM : xCo pF 31 288 (.ref ma :: [.int (xs (i + 1))]) h1 (some (.int v)) h2) (hT : xCo pF 31 373 [.ref ma] h2 (some (.int (0 : Int32))) h3) (ho : (h3.1 ao).1 = 21 ∧ (h3.1 ao).2.1 = 1 ∧ (h3.1 ao).2.2 0 = .long (if v = 0 then 0 else 1)) (q0 : lwR base t0 u0 h) (q1 : lwR base t0 u0 h1) (q3 : lwR base t0 u0 h3)
    (kk : ∀ lv', lwG lv' b xa ma ao i → lwW p l e s m args below meth c G0 D dA base t0 u0 Q 2147 lv' [] h3) : lwW p l e s m args below meth c G0 D dA base t0 u0 Q 444 lv [] h := by
  refine lwQ1 C kAo_giveUp (f := (444, lv, [], h)) (g := (452, lv, ([.ref xa, .int (xs (i + 1)), .ref ao]).reverse, h)) ?_ q0 q0 ?_
  · refine eQ_aload_n la_giveUp_444 hG.2.1 ?_
    refine eQ_sc (n := 1) hG hS (by omega) hL (by decide) la_giveUp_445 la_giveUp_446 la_giveUp_448 la_giveUp_449 la_giveUp_450 ?_
    refine eQ_aload_n la_giveUp_451 hG.2.2.2.1 ?_
    exact xQ_r
  refine lw_wr C hX wc_giveUp wt_giveUp (by decide) rfl wl_giveUp (n := 3) (by decide +kernel) rfl (kAo_giveUp (452, (.invokestatic 131, 3)) (x_look rfl)) rfl q0 q1 ?_
  have hG2 : lwG (xs1 6 (.int v) (xs1 5 (.int (0 : Int32)) lv)) b xa ma ao i := (lwG_s (lwG_s hG (by decide)) (by decide))
  have g5 : xg (xs1 6 (.int v) (xs1 5 (.int (0 : Int32)) lv)) 5 = some (.int (0 : Int32)) := (xs1_keep.2 5 _ (by decide) (fun _ => rfl) xs1_keep.1)
  have g6 : xg (xs1 6 (.int v) (xs1 5 (.int (0 : Int32)) lv)) 6 = some (.int v) := xs1_keep.1
  refine lwQ1 C kAo_giveUp (f := (455, lv, [.int (0 : Int32)], h1)) (g := (2147, xs1 6 (.int v) (xs1 5 (.int (0 : Int32)) lv), [], h3)) ?_ q1 q3 (kk _ hG2)
  refine eQ_istore (lv' := xs1 5 (.int (0 : Int32)) lv) la_giveUp_455 (by decide) rfl ?_
  refine eQ_aload_n la_giveUp_457 (lwG_s hG (by decide)).2.2.1 ?_
  refine eQ_sc (n := 1) (lwG_s hG (by decide)) hS1 (by omega) hL (by decide) la_giveUp_458 la_giveUp_459 la_giveUp_461 la_giveUp_462 la_giveUp_463 ?_
  refine eQ_virt (b := ma) (as := [.int (xs (i + 1))]) (n := 1) (r := (some (.int v))) la_giveUp_464 (by decide +kernel) (by decide +kernel) rfl rfl (Nat.le_of_ble_eq_true rfl) (by decide +kernel) hb1 hM ?_
  refine eQ_istore (lv' := xs1 6 (.int v) (xs1 5 (.int (0 : Int32)) lv)) la_giveUp_467 (by decide) rfl ?_
  refine eQ_aload_n la_giveUp_469 hG2.2.2.1 ?_
  refine eQ_virt (b := ma) (as := []) (n := 0) (r := some (.int (0 : Int32))) la_giveUp_470 (by decide +kernel) (by decide +kernel) rfl rfl (Nat.le_of_ble_eq_true rfl) (by decide +kernel) hb2 hT ?_
  refine eQ_iload la_giveUp_473 g5 ?_
  refine eQ_icmp (t := 480) la_giveUp_475 (by decide) (fun _ => ?_) (fun q => absurd (l_eq _) q)
  refine eQ_iload la_giveUp_480 g5 ?_
  refine eQ_if (t := 504) la_giveUp_482 (by decide) (fun q => absurd q (by decide)) (fun _ => ?_)
  refine eQ_aload_n la_giveUp_485 hG2.2.2.2.1 ?_
  refine eQ_iconst (v := 0) la_giveUp_486 (by decide) ?_
  refine eQ_lald (j := 0) (x := if v = 0 then 0 else 1) la_giveUp_487 ho.1 (by rw [ho.2.1]; decide) (by decide) ho.2.2 ?_
  refine eQ_iload la_giveUp_488 g6 ?_
  refine eQ_if (t := 497) la_giveUp_490 (by decide) (fun q => ?_) (fun q => ?_)
  · have e0 : v = 0 := of_decide_eq_true q
    rw [if_pos e0]
    refine eQ_lconst (v := 0) la_giveUp_497 (by decide) ?_
    refine eQ_lcmp la_giveUp_498 ?_
    rw [lg_cmp_self]
    refine eQ_if (t := 504) la_giveUp_499 (by decide) (fun _ => ?_) (fun q => absurd (by decide) q)
    refine eQ_goto (t := 2147) la_giveUp_504 (by decide) ?_
    exact xQ_r
  · have e0 : ¬ v = 0 := fun e => q (decide_eq_true e)
    rw [if_neg e0]
    refine eQ_lconst (v := 1) la_giveUp_493 (by decide) ?_
    refine eQ_goto (t := 498) la_giveUp_494 (by decide) ?_
    refine eQ_lcmp la_giveUp_498 ?_
    rw [lg_cmp_self]
    refine eQ_if (t := 504) la_giveUp_499 (by decide) (fun _ => ?_) (fun q => absurd (by decide) q)
    refine eQ_goto (t := 2147) la_giveUp_504 (by decide) ?_
    exact xQ_r
theorem lA_giveUp_T {p : Program} {l : Launch} {e : Env} {s : State} {m : MethodId} {args : Array Value} {below : List Frame} {meth : Method} {c : Code} {G0 : Heap} {Y : State → Prop} {D : va_G} {dA : Nat → ClassId} {base t0 u0 : Nat} {Q : State → Prop} {pF : Nat → List Value → xH → Option (Option Value × xH)} (C : lwC p l s m args c G0 Y D dA base pF) {lv : xL} {b xa ma ao i L : Nat} {xs : Nat → Int32} (hG : lwG lv b xa ma ao i) (hi : i + 6 ≤ L) (hL : L ≤ 3074) {h h1 h2 h3 : xH} {r : Int32} {v : Int32} (hS : lwS h b L xs) (hS1 : lwS h1 b L xs) (hX : xMetW l G0 Y D dA base 31 yL_giveUp cL_giveUp 4 [(0, 16, 19, 25)] [.ref xa, .int (xs (i + 1)), .ref ao] h r h1) (hb1 : ((xMn 288).cls = (xCl ((h1.1 ma).1 - 1)).1 ∧ 0 < (h1.1 ma).1 ∧ (h1.1 ma).1 ≤ 17)) (hb2 : ((xMn 373).cls = (xCl ((h2.1 ma).1 - 1)).1 ∧ 0 < (h2.1 ma).1 ∧ (h2.1 ma).1 ≤ 17)) (hM : xCo pF 31 288 (.ref ma :: [.int (xs (i + 1))]) h1 (some (.int v)) h2) (hT : xCo pF 31 373 [.ref ma] h2 (some (.int r)) h3) (hr : xc0 .ne r = true) (q0 : lwR base t0 u0 h) (q1 : lwR base t0 u0 h1) (q3 : lwR base t0 u0 h3)
    (kk : ∀ lv', lwG lv' b xa ma ao i → lwW p l e s m args below meth c G0 D dA base t0 u0 Q 2147 lv' [] h3) : lwW p l e s m args below meth c G0 D dA base t0 u0 Q 444 lv [] h := by
  refine lwQ1 C kAo_giveUp (f := (444, lv, [], h)) (g := (452, lv, ([.ref xa, .int (xs (i + 1)), .ref ao]).reverse, h)) ?_ q0 q0 ?_
  · refine eQ_aload_n la_giveUp_444 hG.2.1 ?_
    refine eQ_sc (n := 1) hG hS (by omega) hL (by decide) la_giveUp_445 la_giveUp_446 la_giveUp_448 la_giveUp_449 la_giveUp_450 ?_
    refine eQ_aload_n la_giveUp_451 hG.2.2.2.1 ?_
    exact xQ_r
  refine lw_wr C hX wc_giveUp wt_giveUp (by decide) rfl wl_giveUp (n := 3) (by decide +kernel) rfl (kAo_giveUp (452, (.invokestatic 131, 3)) (x_look rfl)) rfl q0 q1 ?_
  have hG2 : lwG (xs1 6 (.int v) (xs1 5 (.int r) lv)) b xa ma ao i := (lwG_s (lwG_s hG (by decide)) (by decide))
  have g5 : xg (xs1 6 (.int v) (xs1 5 (.int r) lv)) 5 = some (.int r) := (xs1_keep.2 5 _ (by decide) (fun _ => rfl) xs1_keep.1)
  have g6 : xg (xs1 6 (.int v) (xs1 5 (.int r) lv)) 6 = some (.int v) := xs1_keep.1
  refine lwQ1 C kAo_giveUp (f := (455, lv, [.int r], h1)) (g := (2147, xs1 6 (.int v) (xs1 5 (.int r) lv), [], h3)) ?_ q1 q3 (kk _ hG2)
  refine eQ_istore (lv' := xs1 5 (.int r) lv) la_giveUp_455 (by decide) rfl ?_
  refine eQ_aload_n la_giveUp_457 (lwG_s hG (by decide)).2.2.1 ?_
  refine eQ_sc (n := 1) (lwG_s hG (by decide)) hS1 (by omega) hL (by decide) la_giveUp_458 la_giveUp_459 la_giveUp_461 la_giveUp_462 la_giveUp_463 ?_
  refine eQ_virt (b := ma) (as := [.int (xs (i + 1))]) (n := 1) (r := (some (.int v))) la_giveUp_464 (by decide +kernel) (by decide +kernel) rfl rfl (Nat.le_of_ble_eq_true rfl) (by decide +kernel) hb1 hM ?_
  refine eQ_istore (lv' := xs1 6 (.int v) (xs1 5 (.int r) lv)) la_giveUp_467 (by decide) rfl ?_
  refine eQ_aload_n la_giveUp_469 hG2.2.2.1 ?_
  refine eQ_virt (b := ma) (as := []) (n := 0) (r := some (.int r)) la_giveUp_470 (by decide +kernel) (by decide +kernel) rfl rfl (Nat.le_of_ble_eq_true rfl) (by decide +kernel) hb2 hT ?_
  refine eQ_iload la_giveUp_473 g5 ?_
  refine eQ_icmp (t := 480) la_giveUp_475 (by decide) (fun _ => ?_) (fun q => absurd (l_eq _) q)
  refine eQ_iload la_giveUp_480 g5 ?_
  refine eQ_if (t := 504) la_giveUp_482 (by decide) (fun _ => ?_) (fun q => absurd hr q)
  refine eQ_goto (t := 2147) la_giveUp_504 (by decide) ?_
  exact xQ_r
theorem lA_run_N {p : Program} {l : Launch} {e : Env} {s : State} {m : MethodId} {args : Array Value} {below : List Frame} {meth : Method} {c : Code} {G0 : Heap} {Y : State → Prop} {D : va_G} {dA : Nat → ClassId} {base t0 u0 : Nat} {Q : State → Prop} {pF : Nat → List Value → xH → Option (Option Value × xH)} (C : lwC p l s m args c G0 Y D dA base pF) {lv : xL} {b xa ma ao i L : Nat} {xs : Nat → Int32} (hG : lwG lv b xa ma ao i) (hi : i + 6 ≤ L) (hL : L ≤ 3074) {h h1 h2 h3 : xH} {v : Int32} (hS : lwS h b L xs) (hS1 : lwS h1 b L xs) (hX : xMetW l G0 Y D dA base 31 yL_run cL_run 4 [(0, 9, 12, 19)] [.ref xa, .int (xs (i + 1)), .ref ao] h (0 : Int32) h1) (hb1 : ((xMn 352).cls = (xCl ((h1.1 ma).1 - 1)).1 ∧ 0 < (h1.1 ma).1 ∧ (h1.1 ma).1 ≤ 17)) (hb2 : ((xMn 373).cls = (xCl ((h2.1 ma).1 - 1)).1 ∧ 0 < (h2.1 ma).1 ∧ (h2.1 ma).1 ≤ 17)) (hM : xCo pF 31 352 (.ref ma :: [.int (xs (i + 1))]) h1 (some (.int v)) h2) (hT : xCo pF 31 373 [.ref ma] h2 (some (.int (0 : Int32))) h3) (ho : (h3.1 ao).1 = 21 ∧ (h3.1 ao).2.1 = 1 ∧ (h3.1 ao).2.2 0 = .long (v.toInt64)) (q0 : lwR base t0 u0 h) (q1 : lwR base t0 u0 h1) (q3 : lwR base t0 u0 h3)
    (kk : ∀ lv', lwG lv' b xa ma ao i → lwW p l e s m args below meth c G0 D dA base t0 u0 Q 2147 lv' [] h3) : lwW p l e s m args below meth c G0 D dA base t0 u0 Q 507 lv [] h := by
  refine lwQ1 C kAo_run (f := (507, lv, [], h)) (g := (515, lv, ([.ref xa, .int (xs (i + 1)), .ref ao]).reverse, h)) ?_ q0 q0 ?_
  · refine eQ_aload_n la_run_507 hG.2.1 ?_
    refine eQ_sc (n := 1) hG hS (by omega) hL (by decide) la_run_508 la_run_509 la_run_511 la_run_512 la_run_513 ?_
    refine eQ_aload_n la_run_514 hG.2.2.2.1 ?_
    exact xQ_r
  refine lw_wr C hX wc_run wt_run (by decide) rfl wl_run (n := 3) (by decide +kernel) rfl (kAo_run (515, (.invokestatic 134, 3)) (x_look rfl)) rfl q0 q1 ?_
  have hG2 : lwG (xs1 6 (.int v) (xs1 5 (.int (0 : Int32)) lv)) b xa ma ao i := (lwG_s (lwG_s hG (by decide)) (by decide))
  have g5 : xg (xs1 6 (.int v) (xs1 5 (.int (0 : Int32)) lv)) 5 = some (.int (0 : Int32)) := (xs1_keep.2 5 _ (by decide) (fun _ => rfl) xs1_keep.1)
  have g6 : xg (xs1 6 (.int v) (xs1 5 (.int (0 : Int32)) lv)) 6 = some (.int v) := xs1_keep.1
  refine lwQ1 C kAo_run (f := (518, lv, [.int (0 : Int32)], h1)) (g := (2147, xs1 6 (.int v) (xs1 5 (.int (0 : Int32)) lv), [], h3)) ?_ q1 q3 (kk _ hG2)
  refine eQ_istore (lv' := xs1 5 (.int (0 : Int32)) lv) la_run_518 (by decide) rfl ?_
  refine eQ_aload_n la_run_520 (lwG_s hG (by decide)).2.2.1 ?_
  refine eQ_sc (n := 1) (lwG_s hG (by decide)) hS1 (by omega) hL (by decide) la_run_521 la_run_522 la_run_524 la_run_525 la_run_526 ?_
  refine eQ_virt (b := ma) (as := [.int (xs (i + 1))]) (n := 1) (r := (some (.int v))) la_run_527 (by decide +kernel) (by decide +kernel) rfl rfl (Nat.le_of_ble_eq_true rfl) (by decide +kernel) hb1 hM ?_
  refine eQ_istore (lv' := xs1 6 (.int v) (xs1 5 (.int (0 : Int32)) lv)) la_run_530 (by decide) rfl ?_
  refine eQ_aload_n la_run_532 hG2.2.2.1 ?_
  refine eQ_virt (b := ma) (as := []) (n := 0) (r := some (.int (0 : Int32))) la_run_533 (by decide +kernel) (by decide +kernel) rfl rfl (Nat.le_of_ble_eq_true rfl) (by decide +kernel) hb2 hT ?_
  refine eQ_iload la_run_536 g5 ?_
  refine eQ_icmp (t := 543) la_run_538 (by decide) (fun _ => ?_) (fun q => absurd (l_eq _) q)
  refine eQ_iload la_run_543 g5 ?_
  refine eQ_if (t := 560) la_run_545 (by decide) (fun q => absurd q (by decide)) (fun _ => ?_)
  refine eQ_aload_n la_run_548 hG2.2.2.2.1 ?_
  refine eQ_iconst (v := 0) la_run_549 (by decide) ?_
  refine eQ_lald (j := 0) (x := v.toInt64) la_run_550 ho.1 (by rw [ho.2.1]; decide) (by decide) ho.2.2 ?_
  refine eQ_iload la_run_551 g6 ?_
  refine eQ_i2l la_run_553 ?_
  refine eQ_lcmp la_run_554 ?_
  rw [lg_cmp_self]
  refine eQ_if (t := 560) la_run_555 (by decide) (fun _ => ?_) (fun q => absurd (by decide) q)
  refine eQ_goto (t := 2147) la_run_560 (by decide) ?_
  exact xQ_r
theorem lA_run_T {p : Program} {l : Launch} {e : Env} {s : State} {m : MethodId} {args : Array Value} {below : List Frame} {meth : Method} {c : Code} {G0 : Heap} {Y : State → Prop} {D : va_G} {dA : Nat → ClassId} {base t0 u0 : Nat} {Q : State → Prop} {pF : Nat → List Value → xH → Option (Option Value × xH)} (C : lwC p l s m args c G0 Y D dA base pF) {lv : xL} {b xa ma ao i L : Nat} {xs : Nat → Int32} (hG : lwG lv b xa ma ao i) (hi : i + 6 ≤ L) (hL : L ≤ 3074) {h h1 h2 h3 : xH} {r : Int32} {v : Int32} (hS : lwS h b L xs) (hS1 : lwS h1 b L xs) (hX : xMetW l G0 Y D dA base 31 yL_run cL_run 4 [(0, 9, 12, 19)] [.ref xa, .int (xs (i + 1)), .ref ao] h r h1) (hb1 : ((xMn 352).cls = (xCl ((h1.1 ma).1 - 1)).1 ∧ 0 < (h1.1 ma).1 ∧ (h1.1 ma).1 ≤ 17)) (hb2 : ((xMn 373).cls = (xCl ((h2.1 ma).1 - 1)).1 ∧ 0 < (h2.1 ma).1 ∧ (h2.1 ma).1 ≤ 17)) (hM : xCo pF 31 352 (.ref ma :: [.int (xs (i + 1))]) h1 (some (.int v)) h2) (hT : xCo pF 31 373 [.ref ma] h2 (some (.int r)) h3) (hr : xc0 .ne r = true) (q0 : lwR base t0 u0 h) (q1 : lwR base t0 u0 h1) (q3 : lwR base t0 u0 h3)
    (kk : ∀ lv', lwG lv' b xa ma ao i → lwW p l e s m args below meth c G0 D dA base t0 u0 Q 2147 lv' [] h3) : lwW p l e s m args below meth c G0 D dA base t0 u0 Q 507 lv [] h := by
  refine lwQ1 C kAo_run (f := (507, lv, [], h)) (g := (515, lv, ([.ref xa, .int (xs (i + 1)), .ref ao]).reverse, h)) ?_ q0 q0 ?_
  · refine eQ_aload_n la_run_507 hG.2.1 ?_
    refine eQ_sc (n := 1) hG hS (by omega) hL (by decide) la_run_508 la_run_509 la_run_511 la_run_512 la_run_513 ?_
    refine eQ_aload_n la_run_514 hG.2.2.2.1 ?_
    exact xQ_r
  refine lw_wr C hX wc_run wt_run (by decide) rfl wl_run (n := 3) (by decide +kernel) rfl (kAo_run (515, (.invokestatic 134, 3)) (x_look rfl)) rfl q0 q1 ?_
  have hG2 : lwG (xs1 6 (.int v) (xs1 5 (.int r) lv)) b xa ma ao i := (lwG_s (lwG_s hG (by decide)) (by decide))
  have g5 : xg (xs1 6 (.int v) (xs1 5 (.int r) lv)) 5 = some (.int r) := (xs1_keep.2 5 _ (by decide) (fun _ => rfl) xs1_keep.1)
  have g6 : xg (xs1 6 (.int v) (xs1 5 (.int r) lv)) 6 = some (.int v) := xs1_keep.1
  refine lwQ1 C kAo_run (f := (518, lv, [.int r], h1)) (g := (2147, xs1 6 (.int v) (xs1 5 (.int r) lv), [], h3)) ?_ q1 q3 (kk _ hG2)
  refine eQ_istore (lv' := xs1 5 (.int r) lv) la_run_518 (by decide) rfl ?_
  refine eQ_aload_n la_run_520 (lwG_s hG (by decide)).2.2.1 ?_
  refine eQ_sc (n := 1) (lwG_s hG (by decide)) hS1 (by omega) hL (by decide) la_run_521 la_run_522 la_run_524 la_run_525 la_run_526 ?_
  refine eQ_virt (b := ma) (as := [.int (xs (i + 1))]) (n := 1) (r := (some (.int v))) la_run_527 (by decide +kernel) (by decide +kernel) rfl rfl (Nat.le_of_ble_eq_true rfl) (by decide +kernel) hb1 hM ?_
  refine eQ_istore (lv' := xs1 6 (.int v) (xs1 5 (.int r) lv)) la_run_530 (by decide) rfl ?_
  refine eQ_aload_n la_run_532 hG2.2.2.1 ?_
  refine eQ_virt (b := ma) (as := []) (n := 0) (r := some (.int r)) la_run_533 (by decide +kernel) (by decide +kernel) rfl rfl (Nat.le_of_ble_eq_true rfl) (by decide +kernel) hb2 hT ?_
  refine eQ_iload la_run_536 g5 ?_
  refine eQ_icmp (t := 543) la_run_538 (by decide) (fun _ => ?_) (fun q => absurd (l_eq _) q)
  refine eQ_iload la_run_543 g5 ?_
  refine eQ_if (t := 560) la_run_545 (by decide) (fun _ => ?_) (fun q => absurd hr q)
  refine eQ_goto (t := 2147) la_run_560 (by decide) ?_
  exact xQ_r
theorem lA_step_N {p : Program} {l : Launch} {e : Env} {s : State} {m : MethodId} {args : Array Value} {below : List Frame} {meth : Method} {c : Code} {G0 : Heap} {Y : State → Prop} {D : va_G} {dA : Nat → ClassId} {base t0 u0 : Nat} {Q : State → Prop} {pF : Nat → List Value → xH → Option (Option Value × xH)} (C : lwC p l s m args c G0 Y D dA base pF) {lv : xL} {b xa ma ao i L : Nat} {xs : Nat → Int32} (hG : lwG lv b xa ma ao i) (hi : i + 6 ≤ L) (hL : L ≤ 3074) {h h1 h3 : xH} {v : Int32} (hS : lwS h b L xs) (hS1 : lwS h1 b L xs) (hb0 : ((xMn 237).cls = (xCl ((h.1 xa).1 - 1)).1 ∧ 0 < (h.1 xa).1 ∧ (h.1 xa).1 ≤ 17)) (hb1 : ((xMn 362).cls = (xCl ((h1.1 ma).1 - 1)).1 ∧ 0 < (h1.1 ma).1 ∧ (h1.1 ma).1 ≤ 17)) (hX : xCo pF 31 237 (.ref xa :: []) h (some (.int v)) h1) (hM : xCo pF 31 362 (.ref ma :: []) h1 (some (.int v)) h3) (q0 : lwR base t0 u0 h) (q3 : lwR base t0 u0 h3)
    (kk : ∀ lv', lwG lv' b xa ma ao i → lwW p l e s m args below meth c G0 D dA base t0 u0 Q 2147 lv' [] h3) : lwW p l e s m args below meth c G0 D dA base t0 u0 Q 563 lv [] h := by
  refine lwQ1 C kAo_step (f := (563, lv, [], h)) (g := (2147, lv, [], h3)) ?_ q0 q3 (kk _ hG)
  refine eQ_aload_n la_step_563 hG.2.1 ?_
  refine eQ_virt (b := xa) (as := []) (n := 0) (r := some (.int v)) la_step_564 (by decide +kernel) (by decide +kernel) rfl rfl (Nat.le_of_ble_eq_true rfl) (by decide +kernel) hb0 hX ?_
  refine eQ_aload_n la_step_567 hG.2.2.1 ?_
  refine eQ_virt (b := ma) (as := []) (n := 0) (r := some (.int v)) la_step_568 (by decide +kernel) (by decide +kernel) rfl rfl (Nat.le_of_ble_eq_true rfl) (by decide +kernel) hb1 hM ?_
  refine eQ_icmp (t := 2147) la_step_571 (by decide) (fun _ => ?_) (fun q => absurd (l_eq _) q)
  exact xQ_r
theorem lA_delay_N {p : Program} {l : Launch} {e : Env} {s : State} {m : MethodId} {args : Array Value} {below : List Frame} {meth : Method} {c : Code} {G0 : Heap} {Y : State → Prop} {D : va_G} {dA : Nat → ClassId} {base t0 u0 : Nat} {Q : State → Prop} {pF : Nat → List Value → xH → Option (Option Value × xH)} (C : lwC p l s m args c G0 Y D dA base pF) {lv : xL} {b xa ma ao i L : Nat} {xs : Nat → Int32} (hG : lwG lv b xa ma ao i) (hi : i + 6 ≤ L) (hL : L ≤ 3074) {h h1 h2 h3 : xH} {v : Int32} (hS : lwS h b L xs) (hS1 : lwS h1 b L xs) (hX : xMetW l G0 Y D dA base 31 yL_delay cL_delay 6 [(0, 12, 15, 25), (0, 12, 19, 19)] [.ref xa, .int (xs (i + 1)), .int (xs (i + 2)), .int (xs (i + 3)), .ref ao] h (0 : Int32) h1) (hb1 : ((xMn 270).cls = (xCl ((h1.1 ma).1 - 1)).1 ∧ 0 < (h1.1 ma).1 ∧ (h1.1 ma).1 ≤ 17)) (hb2 : ((xMn 373).cls = (xCl ((h2.1 ma).1 - 1)).1 ∧ 0 < (h2.1 ma).1 ∧ (h2.1 ma).1 ≤ 17)) (hM : xCo pF 31 270 (.ref ma :: [.int (xs (i + 1)), .int (xs (i + 2)), .int (xs (i + 3))]) h1 (some (.int v)) h2) (hT : xCo pF 31 373 [.ref ma] h2 (some (.int (0 : Int32))) h3) (ho : (h3.1 ao).1 = 21 ∧ (h3.1 ao).2.1 = 1 ∧ (h3.1 ao).2.2 0 = .long (v.toInt64)) (q0 : lwR base t0 u0 h) (q1 : lwR base t0 u0 h1) (q3 : lwR base t0 u0 h3)
    (kk : ∀ lv', lwG lv' b xa ma ao i → lwW p l e s m args below meth c G0 D dA base t0 u0 Q 2147 lv' [] h3) : lwW p l e s m args below meth c G0 D dA base t0 u0 Q 576 lv [] h := by
  refine lwQ1 C kAo_delay (f := (576, lv, [], h)) (g := (596, lv, ([.ref xa, .int (xs (i + 1)), .int (xs (i + 2)), .int (xs (i + 3)), .ref ao]).reverse, h)) ?_ q0 q0 ?_
  · refine eQ_aload_n la_delay_576 hG.2.1 ?_
    refine eQ_sc (n := 1) hG hS (by omega) hL (by decide) la_delay_577 la_delay_578 la_delay_580 la_delay_581 la_delay_582 ?_
    refine eQ_sc (n := 2) hG hS (by omega) hL (by decide) la_delay_583 la_delay_584 la_delay_586 la_delay_587 la_delay_588 ?_
    refine eQ_sc (n := 3) hG hS (by omega) hL (by decide) la_delay_589 la_delay_590 la_delay_592 la_delay_593 la_delay_594 ?_
    refine eQ_aload_n la_delay_595 hG.2.2.2.1 ?_
    exact xQ_r
  refine lw_wr C hX wc_delay wt_delay (by decide) rfl wl_delay (n := 5) (by decide +kernel) rfl (kAo_delay (596, (.invokestatic 141, 3)) (x_look rfl)) rfl q0 q1 ?_
  have hG2 : lwG (xs1 6 (.int v) (xs1 5 (.int (0 : Int32)) lv)) b xa ma ao i := (lwG_s (lwG_s hG (by decide)) (by decide))
  have g5 : xg (xs1 6 (.int v) (xs1 5 (.int (0 : Int32)) lv)) 5 = some (.int (0 : Int32)) := (xs1_keep.2 5 _ (by decide) (fun _ => rfl) xs1_keep.1)
  have g6 : xg (xs1 6 (.int v) (xs1 5 (.int (0 : Int32)) lv)) 6 = some (.int v) := xs1_keep.1
  refine lwQ1 C kAo_delay (f := (599, lv, [.int (0 : Int32)], h1)) (g := (2147, xs1 6 (.int v) (xs1 5 (.int (0 : Int32)) lv), [], h3)) ?_ q1 q3 (kk _ hG2)
  refine eQ_istore (lv' := xs1 5 (.int (0 : Int32)) lv) la_delay_599 (by decide) rfl ?_
  refine eQ_aload_n la_delay_601 (lwG_s hG (by decide)).2.2.1 ?_
  refine eQ_sc (n := 1) (lwG_s hG (by decide)) hS1 (by omega) hL (by decide) la_delay_602 la_delay_603 la_delay_605 la_delay_606 la_delay_607 ?_
  refine eQ_sc (n := 2) (lwG_s hG (by decide)) hS1 (by omega) hL (by decide) la_delay_608 la_delay_609 la_delay_611 la_delay_612 la_delay_613 ?_
  refine eQ_sc (n := 3) (lwG_s hG (by decide)) hS1 (by omega) hL (by decide) la_delay_614 la_delay_615 la_delay_617 la_delay_618 la_delay_619 ?_
  refine eQ_virt (b := ma) (as := [.int (xs (i + 1)), .int (xs (i + 2)), .int (xs (i + 3))]) (n := 3) (r := (some (.int v))) la_delay_620 (by decide +kernel) (by decide +kernel) rfl rfl (Nat.le_of_ble_eq_true rfl) (by decide +kernel) hb1 hM ?_
  refine eQ_istore (lv' := xs1 6 (.int v) (xs1 5 (.int (0 : Int32)) lv)) la_delay_623 (by decide) rfl ?_
  refine eQ_aload_n la_delay_625 hG2.2.2.1 ?_
  refine eQ_virt (b := ma) (as := []) (n := 0) (r := some (.int (0 : Int32))) la_delay_626 (by decide +kernel) (by decide +kernel) rfl rfl (Nat.le_of_ble_eq_true rfl) (by decide +kernel) hb2 hT ?_
  refine eQ_iload la_delay_629 g5 ?_
  refine eQ_icmp (t := 636) la_delay_631 (by decide) (fun _ => ?_) (fun q => absurd (l_eq _) q)
  refine eQ_iload la_delay_636 g5 ?_
  refine eQ_if (t := 653) la_delay_638 (by decide) (fun q => absurd q (by decide)) (fun _ => ?_)
  refine eQ_aload_n la_delay_641 hG2.2.2.2.1 ?_
  refine eQ_iconst (v := 0) la_delay_642 (by decide) ?_
  refine eQ_lald (j := 0) (x := v.toInt64) la_delay_643 ho.1 (by rw [ho.2.1]; decide) (by decide) ho.2.2 ?_
  refine eQ_iload la_delay_644 g6 ?_
  refine eQ_i2l la_delay_646 ?_
  refine eQ_lcmp la_delay_647 ?_
  rw [lg_cmp_self]
  refine eQ_if (t := 653) la_delay_648 (by decide) (fun _ => ?_) (fun q => absurd (by decide) q)
  refine eQ_goto (t := 2147) la_delay_653 (by decide) ?_
  exact xQ_r
theorem lA_delay_T {p : Program} {l : Launch} {e : Env} {s : State} {m : MethodId} {args : Array Value} {below : List Frame} {meth : Method} {c : Code} {G0 : Heap} {Y : State → Prop} {D : va_G} {dA : Nat → ClassId} {base t0 u0 : Nat} {Q : State → Prop} {pF : Nat → List Value → xH → Option (Option Value × xH)} (C : lwC p l s m args c G0 Y D dA base pF) {lv : xL} {b xa ma ao i L : Nat} {xs : Nat → Int32} (hG : lwG lv b xa ma ao i) (hi : i + 6 ≤ L) (hL : L ≤ 3074) {h h1 h2 h3 : xH} {r : Int32} {v : Int32} (hS : lwS h b L xs) (hS1 : lwS h1 b L xs) (hX : xMetW l G0 Y D dA base 31 yL_delay cL_delay 6 [(0, 12, 15, 25), (0, 12, 19, 19)] [.ref xa, .int (xs (i + 1)), .int (xs (i + 2)), .int (xs (i + 3)), .ref ao] h r h1) (hb1 : ((xMn 270).cls = (xCl ((h1.1 ma).1 - 1)).1 ∧ 0 < (h1.1 ma).1 ∧ (h1.1 ma).1 ≤ 17)) (hb2 : ((xMn 373).cls = (xCl ((h2.1 ma).1 - 1)).1 ∧ 0 < (h2.1 ma).1 ∧ (h2.1 ma).1 ≤ 17)) (hM : xCo pF 31 270 (.ref ma :: [.int (xs (i + 1)), .int (xs (i + 2)), .int (xs (i + 3))]) h1 (some (.int v)) h2) (hT : xCo pF 31 373 [.ref ma] h2 (some (.int r)) h3) (hr : xc0 .ne r = true) (q0 : lwR base t0 u0 h) (q1 : lwR base t0 u0 h1) (q3 : lwR base t0 u0 h3)
    (kk : ∀ lv', lwG lv' b xa ma ao i → lwW p l e s m args below meth c G0 D dA base t0 u0 Q 2147 lv' [] h3) : lwW p l e s m args below meth c G0 D dA base t0 u0 Q 576 lv [] h := by
  refine lwQ1 C kAo_delay (f := (576, lv, [], h)) (g := (596, lv, ([.ref xa, .int (xs (i + 1)), .int (xs (i + 2)), .int (xs (i + 3)), .ref ao]).reverse, h)) ?_ q0 q0 ?_
  · refine eQ_aload_n la_delay_576 hG.2.1 ?_
    refine eQ_sc (n := 1) hG hS (by omega) hL (by decide) la_delay_577 la_delay_578 la_delay_580 la_delay_581 la_delay_582 ?_
    refine eQ_sc (n := 2) hG hS (by omega) hL (by decide) la_delay_583 la_delay_584 la_delay_586 la_delay_587 la_delay_588 ?_
    refine eQ_sc (n := 3) hG hS (by omega) hL (by decide) la_delay_589 la_delay_590 la_delay_592 la_delay_593 la_delay_594 ?_
    refine eQ_aload_n la_delay_595 hG.2.2.2.1 ?_
    exact xQ_r
  refine lw_wr C hX wc_delay wt_delay (by decide) rfl wl_delay (n := 5) (by decide +kernel) rfl (kAo_delay (596, (.invokestatic 141, 3)) (x_look rfl)) rfl q0 q1 ?_
  have hG2 : lwG (xs1 6 (.int v) (xs1 5 (.int r) lv)) b xa ma ao i := (lwG_s (lwG_s hG (by decide)) (by decide))
  have g5 : xg (xs1 6 (.int v) (xs1 5 (.int r) lv)) 5 = some (.int r) := (xs1_keep.2 5 _ (by decide) (fun _ => rfl) xs1_keep.1)
  have g6 : xg (xs1 6 (.int v) (xs1 5 (.int r) lv)) 6 = some (.int v) := xs1_keep.1
  refine lwQ1 C kAo_delay (f := (599, lv, [.int r], h1)) (g := (2147, xs1 6 (.int v) (xs1 5 (.int r) lv), [], h3)) ?_ q1 q3 (kk _ hG2)
  refine eQ_istore (lv' := xs1 5 (.int r) lv) la_delay_599 (by decide) rfl ?_
  refine eQ_aload_n la_delay_601 (lwG_s hG (by decide)).2.2.1 ?_
  refine eQ_sc (n := 1) (lwG_s hG (by decide)) hS1 (by omega) hL (by decide) la_delay_602 la_delay_603 la_delay_605 la_delay_606 la_delay_607 ?_
  refine eQ_sc (n := 2) (lwG_s hG (by decide)) hS1 (by omega) hL (by decide) la_delay_608 la_delay_609 la_delay_611 la_delay_612 la_delay_613 ?_
  refine eQ_sc (n := 3) (lwG_s hG (by decide)) hS1 (by omega) hL (by decide) la_delay_614 la_delay_615 la_delay_617 la_delay_618 la_delay_619 ?_
  refine eQ_virt (b := ma) (as := [.int (xs (i + 1)), .int (xs (i + 2)), .int (xs (i + 3))]) (n := 3) (r := (some (.int v))) la_delay_620 (by decide +kernel) (by decide +kernel) rfl rfl (Nat.le_of_ble_eq_true rfl) (by decide +kernel) hb1 hM ?_
  refine eQ_istore (lv' := xs1 6 (.int v) (xs1 5 (.int r) lv)) la_delay_623 (by decide) rfl ?_
  refine eQ_aload_n la_delay_625 hG2.2.2.1 ?_
  refine eQ_virt (b := ma) (as := []) (n := 0) (r := some (.int r)) la_delay_626 (by decide +kernel) (by decide +kernel) rfl rfl (Nat.le_of_ble_eq_true rfl) (by decide +kernel) hb2 hT ?_
  refine eQ_iload la_delay_629 g5 ?_
  refine eQ_icmp (t := 636) la_delay_631 (by decide) (fun _ => ?_) (fun q => absurd (l_eq _) q)
  refine eQ_iload la_delay_636 g5 ?_
  refine eQ_if (t := 653) la_delay_638 (by decide) (fun _ => ?_) (fun q => absurd hr q)
  refine eQ_goto (t := 2147) la_delay_653 (by decide) ?_
  exact xQ_r
theorem lA_part_N {p : Program} {l : Launch} {e : Env} {s : State} {m : MethodId} {args : Array Value} {below : List Frame} {meth : Method} {c : Code} {G0 : Heap} {Y : State → Prop} {D : va_G} {dA : Nat → ClassId} {base t0 u0 : Nat} {Q : State → Prop} {pF : Nat → List Value → xH → Option (Option Value × xH)} (C : lwC p l s m args c G0 Y D dA base pF) {lv : xL} {b xa ma ao i L : Nat} {xs : Nat → Int32} (hG : lwG lv b xa ma ao i) (hi : i + 6 ≤ L) (hL : L ≤ 3074) {h h1 h2 h3 : xH} {v : Int32} (hS : lwS h b L xs) (hS1 : lwS h1 b L xs) (hX : xMetW l G0 Y D dA base 31 yL_part cL_part 4 [(0, 9, 12, 19)] [.ref xa, .int (xs (i + 1)), .ref ao] h (0 : Int32) h1) (hb1 : ((xMn 336).cls = (xCl ((h1.1 ma).1 - 1)).1 ∧ 0 < (h1.1 ma).1 ∧ (h1.1 ma).1 ≤ 17)) (hb2 : ((xMn 373).cls = (xCl ((h2.1 ma).1 - 1)).1 ∧ 0 < (h2.1 ma).1 ∧ (h2.1 ma).1 ≤ 17)) (hM : xCo pF 31 336 (.ref ma :: [.int (xs (i + 1))]) h1 (some (.int v)) h2) (hT : xCo pF 31 373 [.ref ma] h2 (some (.int (0 : Int32))) h3) (ho : (h3.1 ao).1 = 21 ∧ (h3.1 ao).2.1 = 1 ∧ (h3.1 ao).2.2 0 = .long (v.toInt64)) (q0 : lwR base t0 u0 h) (q1 : lwR base t0 u0 h1) (q3 : lwR base t0 u0 h3)
    (kk : ∀ lv', lwG lv' b xa ma ao i → lwW p l e s m args below meth c G0 D dA base t0 u0 Q 2147 lv' [] h3) : lwW p l e s m args below meth c G0 D dA base t0 u0 Q 656 lv [] h := by
  refine lwQ1 C kAo_part (f := (656, lv, [], h)) (g := (664, lv, ([.ref xa, .int (xs (i + 1)), .ref ao]).reverse, h)) ?_ q0 q0 ?_
  · refine eQ_aload_n la_part_656 hG.2.1 ?_
    refine eQ_sc (n := 1) hG hS (by omega) hL (by decide) la_part_657 la_part_658 la_part_660 la_part_661 la_part_662 ?_
    refine eQ_aload_n la_part_663 hG.2.2.2.1 ?_
    exact xQ_r
  refine lw_wr C hX wc_part wt_part (by decide) rfl wl_part (n := 3) (by decide +kernel) rfl (kAo_part (664, (.invokestatic 145, 3)) (x_look rfl)) rfl q0 q1 ?_
  have hG2 : lwG (xs1 6 (.int v) (xs1 5 (.int (0 : Int32)) lv)) b xa ma ao i := (lwG_s (lwG_s hG (by decide)) (by decide))
  have g5 : xg (xs1 6 (.int v) (xs1 5 (.int (0 : Int32)) lv)) 5 = some (.int (0 : Int32)) := (xs1_keep.2 5 _ (by decide) (fun _ => rfl) xs1_keep.1)
  have g6 : xg (xs1 6 (.int v) (xs1 5 (.int (0 : Int32)) lv)) 6 = some (.int v) := xs1_keep.1
  refine lwQ1 C kAo_part (f := (667, lv, [.int (0 : Int32)], h1)) (g := (2147, xs1 6 (.int v) (xs1 5 (.int (0 : Int32)) lv), [], h3)) ?_ q1 q3 (kk _ hG2)
  refine eQ_istore (lv' := xs1 5 (.int (0 : Int32)) lv) la_part_667 (by decide) rfl ?_
  refine eQ_aload_n la_part_669 (lwG_s hG (by decide)).2.2.1 ?_
  refine eQ_sc (n := 1) (lwG_s hG (by decide)) hS1 (by omega) hL (by decide) la_part_670 la_part_671 la_part_673 la_part_674 la_part_675 ?_
  refine eQ_virt (b := ma) (as := [.int (xs (i + 1))]) (n := 1) (r := (some (.int v))) la_part_676 (by decide +kernel) (by decide +kernel) rfl rfl (Nat.le_of_ble_eq_true rfl) (by decide +kernel) hb1 hM ?_
  refine eQ_istore (lv' := xs1 6 (.int v) (xs1 5 (.int (0 : Int32)) lv)) la_part_679 (by decide) rfl ?_
  refine eQ_aload_n la_part_681 hG2.2.2.1 ?_
  refine eQ_virt (b := ma) (as := []) (n := 0) (r := some (.int (0 : Int32))) la_part_682 (by decide +kernel) (by decide +kernel) rfl rfl (Nat.le_of_ble_eq_true rfl) (by decide +kernel) hb2 hT ?_
  refine eQ_iload la_part_685 g5 ?_
  refine eQ_icmp (t := 692) la_part_687 (by decide) (fun _ => ?_) (fun q => absurd (l_eq _) q)
  refine eQ_iload la_part_692 g5 ?_
  refine eQ_if (t := 709) la_part_694 (by decide) (fun q => absurd q (by decide)) (fun _ => ?_)
  refine eQ_aload_n la_part_697 hG2.2.2.2.1 ?_
  refine eQ_iconst (v := 0) la_part_698 (by decide) ?_
  refine eQ_lald (j := 0) (x := v.toInt64) la_part_699 ho.1 (by rw [ho.2.1]; decide) (by decide) ho.2.2 ?_
  refine eQ_iload la_part_700 g6 ?_
  refine eQ_i2l la_part_702 ?_
  refine eQ_lcmp la_part_703 ?_
  rw [lg_cmp_self]
  refine eQ_if (t := 709) la_part_704 (by decide) (fun _ => ?_) (fun q => absurd (by decide) q)
  refine eQ_goto (t := 2147) la_part_709 (by decide) ?_
  exact xQ_r
theorem lA_part_T {p : Program} {l : Launch} {e : Env} {s : State} {m : MethodId} {args : Array Value} {below : List Frame} {meth : Method} {c : Code} {G0 : Heap} {Y : State → Prop} {D : va_G} {dA : Nat → ClassId} {base t0 u0 : Nat} {Q : State → Prop} {pF : Nat → List Value → xH → Option (Option Value × xH)} (C : lwC p l s m args c G0 Y D dA base pF) {lv : xL} {b xa ma ao i L : Nat} {xs : Nat → Int32} (hG : lwG lv b xa ma ao i) (hi : i + 6 ≤ L) (hL : L ≤ 3074) {h h1 h2 h3 : xH} {r : Int32} {v : Int32} (hS : lwS h b L xs) (hS1 : lwS h1 b L xs) (hX : xMetW l G0 Y D dA base 31 yL_part cL_part 4 [(0, 9, 12, 19)] [.ref xa, .int (xs (i + 1)), .ref ao] h r h1) (hb1 : ((xMn 336).cls = (xCl ((h1.1 ma).1 - 1)).1 ∧ 0 < (h1.1 ma).1 ∧ (h1.1 ma).1 ≤ 17)) (hb2 : ((xMn 373).cls = (xCl ((h2.1 ma).1 - 1)).1 ∧ 0 < (h2.1 ma).1 ∧ (h2.1 ma).1 ≤ 17)) (hM : xCo pF 31 336 (.ref ma :: [.int (xs (i + 1))]) h1 (some (.int v)) h2) (hT : xCo pF 31 373 [.ref ma] h2 (some (.int r)) h3) (hr : xc0 .ne r = true) (q0 : lwR base t0 u0 h) (q1 : lwR base t0 u0 h1) (q3 : lwR base t0 u0 h3)
    (kk : ∀ lv', lwG lv' b xa ma ao i → lwW p l e s m args below meth c G0 D dA base t0 u0 Q 2147 lv' [] h3) : lwW p l e s m args below meth c G0 D dA base t0 u0 Q 656 lv [] h := by
  refine lwQ1 C kAo_part (f := (656, lv, [], h)) (g := (664, lv, ([.ref xa, .int (xs (i + 1)), .ref ao]).reverse, h)) ?_ q0 q0 ?_
  · refine eQ_aload_n la_part_656 hG.2.1 ?_
    refine eQ_sc (n := 1) hG hS (by omega) hL (by decide) la_part_657 la_part_658 la_part_660 la_part_661 la_part_662 ?_
    refine eQ_aload_n la_part_663 hG.2.2.2.1 ?_
    exact xQ_r
  refine lw_wr C hX wc_part wt_part (by decide) rfl wl_part (n := 3) (by decide +kernel) rfl (kAo_part (664, (.invokestatic 145, 3)) (x_look rfl)) rfl q0 q1 ?_
  have hG2 : lwG (xs1 6 (.int v) (xs1 5 (.int r) lv)) b xa ma ao i := (lwG_s (lwG_s hG (by decide)) (by decide))
  have g5 : xg (xs1 6 (.int v) (xs1 5 (.int r) lv)) 5 = some (.int r) := (xs1_keep.2 5 _ (by decide) (fun _ => rfl) xs1_keep.1)
  have g6 : xg (xs1 6 (.int v) (xs1 5 (.int r) lv)) 6 = some (.int v) := xs1_keep.1
  refine lwQ1 C kAo_part (f := (667, lv, [.int r], h1)) (g := (2147, xs1 6 (.int v) (xs1 5 (.int r) lv), [], h3)) ?_ q1 q3 (kk _ hG2)
  refine eQ_istore (lv' := xs1 5 (.int r) lv) la_part_667 (by decide) rfl ?_
  refine eQ_aload_n la_part_669 (lwG_s hG (by decide)).2.2.1 ?_
  refine eQ_sc (n := 1) (lwG_s hG (by decide)) hS1 (by omega) hL (by decide) la_part_670 la_part_671 la_part_673 la_part_674 la_part_675 ?_
  refine eQ_virt (b := ma) (as := [.int (xs (i + 1))]) (n := 1) (r := (some (.int v))) la_part_676 (by decide +kernel) (by decide +kernel) rfl rfl (Nat.le_of_ble_eq_true rfl) (by decide +kernel) hb1 hM ?_
  refine eQ_istore (lv' := xs1 6 (.int v) (xs1 5 (.int r) lv)) la_part_679 (by decide) rfl ?_
  refine eQ_aload_n la_part_681 hG2.2.2.1 ?_
  refine eQ_virt (b := ma) (as := []) (n := 0) (r := some (.int r)) la_part_682 (by decide +kernel) (by decide +kernel) rfl rfl (Nat.le_of_ble_eq_true rfl) (by decide +kernel) hb2 hT ?_
  refine eQ_iload la_part_685 g5 ?_
  refine eQ_icmp (t := 692) la_part_687 (by decide) (fun _ => ?_) (fun q => absurd (l_eq _) q)
  refine eQ_iload la_part_692 g5 ?_
  refine eQ_if (t := 709) la_part_694 (by decide) (fun _ => ?_) (fun q => absurd hr q)
  refine eQ_goto (t := 2147) la_part_709 (by decide) ?_
  exact xQ_r
theorem lA_noise_N {p : Program} {l : Launch} {e : Env} {s : State} {m : MethodId} {args : Array Value} {below : List Frame} {meth : Method} {c : Code} {G0 : Heap} {Y : State → Prop} {D : va_G} {dA : Nat → ClassId} {base t0 u0 : Nat} {Q : State → Prop} {pF : Nat → List Value → xH → Option (Option Value × xH)} (C : lwC p l s m args c G0 Y D dA base pF) {lv : xL} {b xa ma ao i L : Nat} {xs : Nat → Int32} (hG : lwG lv b xa ma ao i) (hi : i + 6 ≤ L) (hL : L ≤ 3074) {h h1 h2 h3 : xH} (hS : lwS h b L xs) (hS1 : lwS h1 b L xs) (hX : xMetW l G0 Y D dA base 31 yL_noise cL_noise 7 [(0, 9, 12, 19)] [.ref xa, .int (xs (i + 1)), .int (xs (i + 2)), .int (xs (i + 3)), .long ((((((xs (i + 4))).toInt64) <<< (((32 : Int32)).toInt64 &&& 63))) ||| (((((xs (i + 5))).toInt64) &&& ((4294967295 : Int64)))))] h (0 : Int32) h1) (hb1 : ((xMn 328).cls = (xCl ((h1.1 ma).1 - 1)).1 ∧ 0 < (h1.1 ma).1 ∧ (h1.1 ma).1 ≤ 17)) (hb2 : ((xMn 373).cls = (xCl ((h2.1 ma).1 - 1)).1 ∧ 0 < (h2.1 ma).1 ∧ (h2.1 ma).1 ≤ 17)) (hM : xCo pF 31 328 (.ref ma :: [.int (xs (i + 1)), .int (xs (i + 2)), .int (xs (i + 3)), .long ((((((xs (i + 4))).toInt64) <<< (((32 : Int32)).toInt64 &&& 63))) ||| (((((xs (i + 5))).toInt64) &&& ((4294967295 : Int64)))))]) h1 none h2) (hT : xCo pF 31 373 [.ref ma] h2 (some (.int (0 : Int32))) h3) (q0 : lwR base t0 u0 h) (q1 : lwR base t0 u0 h1) (q3 : lwR base t0 u0 h3)
    (kk : ∀ lv', lwG lv' b xa ma ao i → lwW p l e s m args below meth c G0 D dA base t0 u0 Q 2147 lv' [] h3) : lwW p l e s m args below meth c G0 D dA base t0 u0 Q 712 lv [] h := by
  refine lwQ1 C kAo_noise (f := (712, lv, [], h)) (g := (753, lv, ([.ref xa, .int (xs (i + 1)), .int (xs (i + 2)), .int (xs (i + 3)), .long ((((((xs (i + 4))).toInt64) <<< (((32 : Int32)).toInt64 &&& 63))) ||| (((((xs (i + 5))).toInt64) &&& ((4294967295 : Int64)))))]).reverse, h)) ?_ q0 q0 ?_
  · refine eQ_aload_n la_noise_712 hG.2.1 ?_
    refine eQ_sc (n := 1) hG hS (by omega) hL (by decide) la_noise_713 la_noise_714 la_noise_716 la_noise_717 la_noise_718 ?_
    refine eQ_sc (n := 2) hG hS (by omega) hL (by decide) la_noise_719 la_noise_720 la_noise_722 la_noise_723 la_noise_724 ?_
    refine eQ_sc (n := 3) hG hS (by omega) hL (by decide) la_noise_725 la_noise_726 la_noise_728 la_noise_729 la_noise_730 ?_
    refine eQ_sc (n := 4) hG hS (by omega) hL (by decide) la_noise_731 la_noise_732 la_noise_734 la_noise_735 la_noise_736 ?_
    refine eQ_i2l la_noise_737 ?_
    refine eQ_bipush (v := 32) la_noise_738 (by decide) ?_
    refine eQ_lshl la_noise_740 ?_
    refine eQ_sc (n := 5) hG hS (by omega) hL (by decide) la_noise_741 la_noise_742 la_noise_744 la_noise_745 la_noise_746 ?_
    refine eQ_i2l la_noise_747 ?_
    refine eQ_ldc2_w (v := 4294967295) la_noise_748 (by decide +kernel) ?_
    refine eQ_land la_noise_751 ?_
    refine eQ_lor la_noise_752 ?_
    exact xQ_r
  refine lw_wr C hX wc_noise wt_noise (by decide) rfl wl_noise (n := 5) (by decide +kernel) rfl (kAo_noise (753, (.invokestatic 150, 3)) (x_look rfl)) rfl q0 q1 ?_
  have hG2 : lwG (xs1 5 (.int (0 : Int32)) lv) b xa ma ao i := (lwG_s hG (by decide))
  have g5 : xg (xs1 5 (.int (0 : Int32)) lv) 5 = some (.int (0 : Int32)) := xs1_keep.1
  refine lwQ1 C kAo_noise (f := (756, lv, [.int (0 : Int32)], h1)) (g := (2147, xs1 5 (.int (0 : Int32)) lv, [], h3)) ?_ q1 q3 (kk _ hG2)
  refine eQ_istore (lv' := xs1 5 (.int (0 : Int32)) lv) la_noise_756 (by decide) rfl ?_
  refine eQ_aload_n la_noise_758 (lwG_s hG (by decide)).2.2.1 ?_
  refine eQ_sc (n := 1) (lwG_s hG (by decide)) hS1 (by omega) hL (by decide) la_noise_759 la_noise_760 la_noise_762 la_noise_763 la_noise_764 ?_
  refine eQ_sc (n := 2) (lwG_s hG (by decide)) hS1 (by omega) hL (by decide) la_noise_765 la_noise_766 la_noise_768 la_noise_769 la_noise_770 ?_
  refine eQ_sc (n := 3) (lwG_s hG (by decide)) hS1 (by omega) hL (by decide) la_noise_771 la_noise_772 la_noise_774 la_noise_775 la_noise_776 ?_
  refine eQ_sc (n := 4) (lwG_s hG (by decide)) hS1 (by omega) hL (by decide) la_noise_777 la_noise_778 la_noise_780 la_noise_781 la_noise_782 ?_
  refine eQ_i2l la_noise_783 ?_
  refine eQ_bipush (v := 32) la_noise_784 (by decide) ?_
  refine eQ_lshl la_noise_786 ?_
  refine eQ_sc (n := 5) (lwG_s hG (by decide)) hS1 (by omega) hL (by decide) la_noise_787 la_noise_788 la_noise_790 la_noise_791 la_noise_792 ?_
  refine eQ_i2l la_noise_793 ?_
  refine eQ_ldc2_w (v := 4294967295) la_noise_794 (by decide +kernel) ?_
  refine eQ_land la_noise_797 ?_
  refine eQ_lor la_noise_798 ?_
  refine eQ_virt (b := ma) (as := [.int (xs (i + 1)), .int (xs (i + 2)), .int (xs (i + 3)), .long ((((((xs (i + 4))).toInt64) <<< (((32 : Int32)).toInt64 &&& 63))) ||| (((((xs (i + 5))).toInt64) &&& ((4294967295 : Int64)))))]) (n := 4) (r := none) la_noise_799 (by decide +kernel) (by decide +kernel) rfl rfl (Nat.le_of_ble_eq_true rfl) (by decide +kernel) hb1 hM ?_
  refine eQ_aload_n la_noise_802 hG2.2.2.1 ?_
  refine eQ_virt (b := ma) (as := []) (n := 0) (r := some (.int (0 : Int32))) la_noise_803 (by decide +kernel) (by decide +kernel) rfl rfl (Nat.le_of_ble_eq_true rfl) (by decide +kernel) hb2 hT ?_
  refine eQ_iload la_noise_806 g5 ?_
  refine eQ_icmp (t := 813) la_noise_808 (by decide) (fun _ => ?_) (fun q => absurd (l_eq _) q)
  refine eQ_goto (t := 2147) la_noise_813 (by decide) ?_
  exact xQ_r
theorem lA_noise_T {p : Program} {l : Launch} {e : Env} {s : State} {m : MethodId} {args : Array Value} {below : List Frame} {meth : Method} {c : Code} {G0 : Heap} {Y : State → Prop} {D : va_G} {dA : Nat → ClassId} {base t0 u0 : Nat} {Q : State → Prop} {pF : Nat → List Value → xH → Option (Option Value × xH)} (C : lwC p l s m args c G0 Y D dA base pF) {lv : xL} {b xa ma ao i L : Nat} {xs : Nat → Int32} (hG : lwG lv b xa ma ao i) (hi : i + 6 ≤ L) (hL : L ≤ 3074) {h h1 h2 h3 : xH} {r : Int32} (hS : lwS h b L xs) (hS1 : lwS h1 b L xs) (hX : xMetW l G0 Y D dA base 31 yL_noise cL_noise 7 [(0, 9, 12, 19)] [.ref xa, .int (xs (i + 1)), .int (xs (i + 2)), .int (xs (i + 3)), .long ((((((xs (i + 4))).toInt64) <<< (((32 : Int32)).toInt64 &&& 63))) ||| (((((xs (i + 5))).toInt64) &&& ((4294967295 : Int64)))))] h r h1) (hb1 : ((xMn 328).cls = (xCl ((h1.1 ma).1 - 1)).1 ∧ 0 < (h1.1 ma).1 ∧ (h1.1 ma).1 ≤ 17)) (hb2 : ((xMn 373).cls = (xCl ((h2.1 ma).1 - 1)).1 ∧ 0 < (h2.1 ma).1 ∧ (h2.1 ma).1 ≤ 17)) (hM : xCo pF 31 328 (.ref ma :: [.int (xs (i + 1)), .int (xs (i + 2)), .int (xs (i + 3)), .long ((((((xs (i + 4))).toInt64) <<< (((32 : Int32)).toInt64 &&& 63))) ||| (((((xs (i + 5))).toInt64) &&& ((4294967295 : Int64)))))]) h1 none h2) (hT : xCo pF 31 373 [.ref ma] h2 (some (.int r)) h3) (q0 : lwR base t0 u0 h) (q1 : lwR base t0 u0 h1) (q3 : lwR base t0 u0 h3)
    (kk : ∀ lv', lwG lv' b xa ma ao i → lwW p l e s m args below meth c G0 D dA base t0 u0 Q 2147 lv' [] h3) : lwW p l e s m args below meth c G0 D dA base t0 u0 Q 712 lv [] h := by
  refine lwQ1 C kAo_noise (f := (712, lv, [], h)) (g := (753, lv, ([.ref xa, .int (xs (i + 1)), .int (xs (i + 2)), .int (xs (i + 3)), .long ((((((xs (i + 4))).toInt64) <<< (((32 : Int32)).toInt64 &&& 63))) ||| (((((xs (i + 5))).toInt64) &&& ((4294967295 : Int64)))))]).reverse, h)) ?_ q0 q0 ?_
  · refine eQ_aload_n la_noise_712 hG.2.1 ?_
    refine eQ_sc (n := 1) hG hS (by omega) hL (by decide) la_noise_713 la_noise_714 la_noise_716 la_noise_717 la_noise_718 ?_
    refine eQ_sc (n := 2) hG hS (by omega) hL (by decide) la_noise_719 la_noise_720 la_noise_722 la_noise_723 la_noise_724 ?_
    refine eQ_sc (n := 3) hG hS (by omega) hL (by decide) la_noise_725 la_noise_726 la_noise_728 la_noise_729 la_noise_730 ?_
    refine eQ_sc (n := 4) hG hS (by omega) hL (by decide) la_noise_731 la_noise_732 la_noise_734 la_noise_735 la_noise_736 ?_
    refine eQ_i2l la_noise_737 ?_
    refine eQ_bipush (v := 32) la_noise_738 (by decide) ?_
    refine eQ_lshl la_noise_740 ?_
    refine eQ_sc (n := 5) hG hS (by omega) hL (by decide) la_noise_741 la_noise_742 la_noise_744 la_noise_745 la_noise_746 ?_
    refine eQ_i2l la_noise_747 ?_
    refine eQ_ldc2_w (v := 4294967295) la_noise_748 (by decide +kernel) ?_
    refine eQ_land la_noise_751 ?_
    refine eQ_lor la_noise_752 ?_
    exact xQ_r
  refine lw_wr C hX wc_noise wt_noise (by decide) rfl wl_noise (n := 5) (by decide +kernel) rfl (kAo_noise (753, (.invokestatic 150, 3)) (x_look rfl)) rfl q0 q1 ?_
  have hG2 : lwG (xs1 5 (.int r) lv) b xa ma ao i := (lwG_s hG (by decide))
  have g5 : xg (xs1 5 (.int r) lv) 5 = some (.int r) := xs1_keep.1
  refine lwQ1 C kAo_noise (f := (756, lv, [.int r], h1)) (g := (2147, xs1 5 (.int r) lv, [], h3)) ?_ q1 q3 (kk _ hG2)
  refine eQ_istore (lv' := xs1 5 (.int r) lv) la_noise_756 (by decide) rfl ?_
  refine eQ_aload_n la_noise_758 (lwG_s hG (by decide)).2.2.1 ?_
  refine eQ_sc (n := 1) (lwG_s hG (by decide)) hS1 (by omega) hL (by decide) la_noise_759 la_noise_760 la_noise_762 la_noise_763 la_noise_764 ?_
  refine eQ_sc (n := 2) (lwG_s hG (by decide)) hS1 (by omega) hL (by decide) la_noise_765 la_noise_766 la_noise_768 la_noise_769 la_noise_770 ?_
  refine eQ_sc (n := 3) (lwG_s hG (by decide)) hS1 (by omega) hL (by decide) la_noise_771 la_noise_772 la_noise_774 la_noise_775 la_noise_776 ?_
  refine eQ_sc (n := 4) (lwG_s hG (by decide)) hS1 (by omega) hL (by decide) la_noise_777 la_noise_778 la_noise_780 la_noise_781 la_noise_782 ?_
  refine eQ_i2l la_noise_783 ?_
  refine eQ_bipush (v := 32) la_noise_784 (by decide) ?_
  refine eQ_lshl la_noise_786 ?_
  refine eQ_sc (n := 5) (lwG_s hG (by decide)) hS1 (by omega) hL (by decide) la_noise_787 la_noise_788 la_noise_790 la_noise_791 la_noise_792 ?_
  refine eQ_i2l la_noise_793 ?_
  refine eQ_ldc2_w (v := 4294967295) la_noise_794 (by decide +kernel) ?_
  refine eQ_land la_noise_797 ?_
  refine eQ_lor la_noise_798 ?_
  refine eQ_virt (b := ma) (as := [.int (xs (i + 1)), .int (xs (i + 2)), .int (xs (i + 3)), .long ((((((xs (i + 4))).toInt64) <<< (((32 : Int32)).toInt64 &&& 63))) ||| (((((xs (i + 5))).toInt64) &&& ((4294967295 : Int64)))))]) (n := 4) (r := none) la_noise_799 (by decide +kernel) (by decide +kernel) rfl rfl (Nat.le_of_ble_eq_true rfl) (by decide +kernel) hb1 hM ?_
  refine eQ_aload_n la_noise_802 hG2.2.2.1 ?_
  refine eQ_virt (b := ma) (as := []) (n := 0) (r := some (.int r)) la_noise_803 (by decide +kernel) (by decide +kernel) rfl rfl (Nat.le_of_ble_eq_true rfl) (by decide +kernel) hb2 hT ?_
  refine eQ_iload la_noise_806 g5 ?_
  refine eQ_icmp (t := 813) la_noise_808 (by decide) (fun _ => ?_) (fun q => absurd (l_eq _) q)
  refine eQ_goto (t := 2147) la_noise_813 (by decide) ?_
  exact xQ_r
theorem lA_meddle_N {p : Program} {l : Launch} {e : Env} {s : State} {m : MethodId} {args : Array Value} {below : List Frame} {meth : Method} {c : Code} {G0 : Heap} {Y : State → Prop} {D : va_G} {dA : Nat → ClassId} {base t0 u0 : Nat} {Q : State → Prop} {pF : Nat → List Value → xH → Option (Option Value × xH)} (C : lwC p l s m args c G0 Y D dA base pF) {lv : xL} {b xa ma ao i L : Nat} {xs : Nat → Int32} (hG : lwG lv b xa ma ao i) (hi : i + 6 ≤ L) (hL : L ≤ 3074) {h h1 h2 h3 : xH} {v : Int32} (hS : lwS h b L xs) (hS1 : lwS h1 b L xs) (hX : xMetW l G0 Y D dA base 31 yL_meddle cL_meddle 6 [(0, 19, 22, 19)] [.ref xa, .int (xs (i + 1)), .int (xs (i + 2)), .int (xs (i + 3)), .ref ao] h (0 : Int32) h1) (hb1 : ((xMn 324).cls = (xCl ((h1.1 ma).1 - 1)).1 ∧ 0 < (h1.1 ma).1 ∧ (h1.1 ma).1 ≤ 17)) (hb2 : ((xMn 373).cls = (xCl ((h2.1 ma).1 - 1)).1 ∧ 0 < (h2.1 ma).1 ∧ (h2.1 ma).1 ≤ 17)) (hM : xCo pF 31 324 (.ref ma :: [.int (xs (i + 1)), .int (xs (i + 2)), .int (xs (i + 3))]) h1 (some (.int v)) h2) (hT : xCo pF 31 373 [.ref ma] h2 (some (.int (0 : Int32))) h3) (ho : (h3.1 ao).1 = 21 ∧ (h3.1 ao).2.1 = 1 ∧ (h3.1 ao).2.2 0 = .long (if v = 0 then 0 else 1)) (q0 : lwR base t0 u0 h) (q1 : lwR base t0 u0 h1) (q3 : lwR base t0 u0 h3)
    (kk : ∀ lv', lwG lv' b xa ma ao i → lwW p l e s m args below meth c G0 D dA base t0 u0 Q 2147 lv' [] h3) : lwW p l e s m args below meth c G0 D dA base t0 u0 Q 816 lv [] h := by
  refine lwQ1 C kAo_meddle (f := (816, lv, [], h)) (g := (836, lv, ([.ref xa, .int (xs (i + 1)), .int (xs (i + 2)), .int (xs (i + 3)), .ref ao]).reverse, h)) ?_ q0 q0 ?_
  · refine eQ_aload_n la_meddle_816 hG.2.1 ?_
    refine eQ_sc (n := 1) hG hS (by omega) hL (by decide) la_meddle_817 la_meddle_818 la_meddle_820 la_meddle_821 la_meddle_822 ?_
    refine eQ_sc (n := 2) hG hS (by omega) hL (by decide) la_meddle_823 la_meddle_824 la_meddle_826 la_meddle_827 la_meddle_828 ?_
    refine eQ_sc (n := 3) hG hS (by omega) hL (by decide) la_meddle_829 la_meddle_830 la_meddle_832 la_meddle_833 la_meddle_834 ?_
    refine eQ_aload_n la_meddle_835 hG.2.2.2.1 ?_
    exact xQ_r
  refine lw_wr C hX wc_meddle wt_meddle (by decide) rfl wl_meddle (n := 5) (by decide +kernel) rfl (kAo_meddle (836, (.invokestatic 154, 3)) (x_look rfl)) rfl q0 q1 ?_
  have hG2 : lwG (xs1 6 (.int v) (xs1 5 (.int (0 : Int32)) lv)) b xa ma ao i := (lwG_s (lwG_s hG (by decide)) (by decide))
  have g5 : xg (xs1 6 (.int v) (xs1 5 (.int (0 : Int32)) lv)) 5 = some (.int (0 : Int32)) := (xs1_keep.2 5 _ (by decide) (fun _ => rfl) xs1_keep.1)
  have g6 : xg (xs1 6 (.int v) (xs1 5 (.int (0 : Int32)) lv)) 6 = some (.int v) := xs1_keep.1
  refine lwQ1 C kAo_meddle (f := (839, lv, [.int (0 : Int32)], h1)) (g := (2147, xs1 6 (.int v) (xs1 5 (.int (0 : Int32)) lv), [], h3)) ?_ q1 q3 (kk _ hG2)
  refine eQ_istore (lv' := xs1 5 (.int (0 : Int32)) lv) la_meddle_839 (by decide) rfl ?_
  refine eQ_aload_n la_meddle_841 (lwG_s hG (by decide)).2.2.1 ?_
  refine eQ_sc (n := 1) (lwG_s hG (by decide)) hS1 (by omega) hL (by decide) la_meddle_842 la_meddle_843 la_meddle_845 la_meddle_846 la_meddle_847 ?_
  refine eQ_sc (n := 2) (lwG_s hG (by decide)) hS1 (by omega) hL (by decide) la_meddle_848 la_meddle_849 la_meddle_851 la_meddle_852 la_meddle_853 ?_
  refine eQ_sc (n := 3) (lwG_s hG (by decide)) hS1 (by omega) hL (by decide) la_meddle_854 la_meddle_855 la_meddle_857 la_meddle_858 la_meddle_859 ?_
  refine eQ_virt (b := ma) (as := [.int (xs (i + 1)), .int (xs (i + 2)), .int (xs (i + 3))]) (n := 3) (r := (some (.int v))) la_meddle_860 (by decide +kernel) (by decide +kernel) rfl rfl (Nat.le_of_ble_eq_true rfl) (by decide +kernel) hb1 hM ?_
  refine eQ_istore (lv' := xs1 6 (.int v) (xs1 5 (.int (0 : Int32)) lv)) la_meddle_863 (by decide) rfl ?_
  refine eQ_aload_n la_meddle_865 hG2.2.2.1 ?_
  refine eQ_virt (b := ma) (as := []) (n := 0) (r := some (.int (0 : Int32))) la_meddle_866 (by decide +kernel) (by decide +kernel) rfl rfl (Nat.le_of_ble_eq_true rfl) (by decide +kernel) hb2 hT ?_
  refine eQ_iload la_meddle_869 g5 ?_
  refine eQ_icmp (t := 876) la_meddle_871 (by decide) (fun _ => ?_) (fun q => absurd (l_eq _) q)
  refine eQ_iload la_meddle_876 g5 ?_
  refine eQ_if (t := 900) la_meddle_878 (by decide) (fun q => absurd q (by decide)) (fun _ => ?_)
  refine eQ_aload_n la_meddle_881 hG2.2.2.2.1 ?_
  refine eQ_iconst (v := 0) la_meddle_882 (by decide) ?_
  refine eQ_lald (j := 0) (x := if v = 0 then 0 else 1) la_meddle_883 ho.1 (by rw [ho.2.1]; decide) (by decide) ho.2.2 ?_
  refine eQ_iload la_meddle_884 g6 ?_
  refine eQ_if (t := 893) la_meddle_886 (by decide) (fun q => ?_) (fun q => ?_)
  · have e0 : v = 0 := of_decide_eq_true q
    rw [if_pos e0]
    refine eQ_lconst (v := 0) la_meddle_893 (by decide) ?_
    refine eQ_lcmp la_meddle_894 ?_
    rw [lg_cmp_self]
    refine eQ_if (t := 900) la_meddle_895 (by decide) (fun _ => ?_) (fun q => absurd (by decide) q)
    refine eQ_goto (t := 2147) la_meddle_900 (by decide) ?_
    exact xQ_r
  · have e0 : ¬ v = 0 := fun e => q (decide_eq_true e)
    rw [if_neg e0]
    refine eQ_lconst (v := 1) la_meddle_889 (by decide) ?_
    refine eQ_goto (t := 894) la_meddle_890 (by decide) ?_
    refine eQ_lcmp la_meddle_894 ?_
    rw [lg_cmp_self]
    refine eQ_if (t := 900) la_meddle_895 (by decide) (fun _ => ?_) (fun q => absurd (by decide) q)
    refine eQ_goto (t := 2147) la_meddle_900 (by decide) ?_
    exact xQ_r
theorem lA_meddle_T {p : Program} {l : Launch} {e : Env} {s : State} {m : MethodId} {args : Array Value} {below : List Frame} {meth : Method} {c : Code} {G0 : Heap} {Y : State → Prop} {D : va_G} {dA : Nat → ClassId} {base t0 u0 : Nat} {Q : State → Prop} {pF : Nat → List Value → xH → Option (Option Value × xH)} (C : lwC p l s m args c G0 Y D dA base pF) {lv : xL} {b xa ma ao i L : Nat} {xs : Nat → Int32} (hG : lwG lv b xa ma ao i) (hi : i + 6 ≤ L) (hL : L ≤ 3074) {h h1 h2 h3 : xH} {r : Int32} {v : Int32} (hS : lwS h b L xs) (hS1 : lwS h1 b L xs) (hX : xMetW l G0 Y D dA base 31 yL_meddle cL_meddle 6 [(0, 19, 22, 19)] [.ref xa, .int (xs (i + 1)), .int (xs (i + 2)), .int (xs (i + 3)), .ref ao] h r h1) (hb1 : ((xMn 324).cls = (xCl ((h1.1 ma).1 - 1)).1 ∧ 0 < (h1.1 ma).1 ∧ (h1.1 ma).1 ≤ 17)) (hb2 : ((xMn 373).cls = (xCl ((h2.1 ma).1 - 1)).1 ∧ 0 < (h2.1 ma).1 ∧ (h2.1 ma).1 ≤ 17)) (hM : xCo pF 31 324 (.ref ma :: [.int (xs (i + 1)), .int (xs (i + 2)), .int (xs (i + 3))]) h1 (some (.int v)) h2) (hT : xCo pF 31 373 [.ref ma] h2 (some (.int r)) h3) (hr : xc0 .ne r = true) (q0 : lwR base t0 u0 h) (q1 : lwR base t0 u0 h1) (q3 : lwR base t0 u0 h3)
    (kk : ∀ lv', lwG lv' b xa ma ao i → lwW p l e s m args below meth c G0 D dA base t0 u0 Q 2147 lv' [] h3) : lwW p l e s m args below meth c G0 D dA base t0 u0 Q 816 lv [] h := by
  refine lwQ1 C kAo_meddle (f := (816, lv, [], h)) (g := (836, lv, ([.ref xa, .int (xs (i + 1)), .int (xs (i + 2)), .int (xs (i + 3)), .ref ao]).reverse, h)) ?_ q0 q0 ?_
  · refine eQ_aload_n la_meddle_816 hG.2.1 ?_
    refine eQ_sc (n := 1) hG hS (by omega) hL (by decide) la_meddle_817 la_meddle_818 la_meddle_820 la_meddle_821 la_meddle_822 ?_
    refine eQ_sc (n := 2) hG hS (by omega) hL (by decide) la_meddle_823 la_meddle_824 la_meddle_826 la_meddle_827 la_meddle_828 ?_
    refine eQ_sc (n := 3) hG hS (by omega) hL (by decide) la_meddle_829 la_meddle_830 la_meddle_832 la_meddle_833 la_meddle_834 ?_
    refine eQ_aload_n la_meddle_835 hG.2.2.2.1 ?_
    exact xQ_r
  refine lw_wr C hX wc_meddle wt_meddle (by decide) rfl wl_meddle (n := 5) (by decide +kernel) rfl (kAo_meddle (836, (.invokestatic 154, 3)) (x_look rfl)) rfl q0 q1 ?_
  have hG2 : lwG (xs1 6 (.int v) (xs1 5 (.int r) lv)) b xa ma ao i := (lwG_s (lwG_s hG (by decide)) (by decide))
  have g5 : xg (xs1 6 (.int v) (xs1 5 (.int r) lv)) 5 = some (.int r) := (xs1_keep.2 5 _ (by decide) (fun _ => rfl) xs1_keep.1)
  have g6 : xg (xs1 6 (.int v) (xs1 5 (.int r) lv)) 6 = some (.int v) := xs1_keep.1
  refine lwQ1 C kAo_meddle (f := (839, lv, [.int r], h1)) (g := (2147, xs1 6 (.int v) (xs1 5 (.int r) lv), [], h3)) ?_ q1 q3 (kk _ hG2)
  refine eQ_istore (lv' := xs1 5 (.int r) lv) la_meddle_839 (by decide) rfl ?_
  refine eQ_aload_n la_meddle_841 (lwG_s hG (by decide)).2.2.1 ?_
  refine eQ_sc (n := 1) (lwG_s hG (by decide)) hS1 (by omega) hL (by decide) la_meddle_842 la_meddle_843 la_meddle_845 la_meddle_846 la_meddle_847 ?_
  refine eQ_sc (n := 2) (lwG_s hG (by decide)) hS1 (by omega) hL (by decide) la_meddle_848 la_meddle_849 la_meddle_851 la_meddle_852 la_meddle_853 ?_
  refine eQ_sc (n := 3) (lwG_s hG (by decide)) hS1 (by omega) hL (by decide) la_meddle_854 la_meddle_855 la_meddle_857 la_meddle_858 la_meddle_859 ?_
  refine eQ_virt (b := ma) (as := [.int (xs (i + 1)), .int (xs (i + 2)), .int (xs (i + 3))]) (n := 3) (r := (some (.int v))) la_meddle_860 (by decide +kernel) (by decide +kernel) rfl rfl (Nat.le_of_ble_eq_true rfl) (by decide +kernel) hb1 hM ?_
  refine eQ_istore (lv' := xs1 6 (.int v) (xs1 5 (.int r) lv)) la_meddle_863 (by decide) rfl ?_
  refine eQ_aload_n la_meddle_865 hG2.2.2.1 ?_
  refine eQ_virt (b := ma) (as := []) (n := 0) (r := some (.int r)) la_meddle_866 (by decide +kernel) (by decide +kernel) rfl rfl (Nat.le_of_ble_eq_true rfl) (by decide +kernel) hb2 hT ?_
  refine eQ_iload la_meddle_869 g5 ?_
  refine eQ_icmp (t := 876) la_meddle_871 (by decide) (fun _ => ?_) (fun q => absurd (l_eq _) q)
  refine eQ_iload la_meddle_876 g5 ?_
  refine eQ_if (t := 900) la_meddle_878 (by decide) (fun _ => ?_) (fun q => absurd hr q)
  refine eQ_goto (t := 2147) la_meddle_900 (by decide) ?_
  exact xQ_r
theorem lA_latency_N {p : Program} {l : Launch} {e : Env} {s : State} {m : MethodId} {args : Array Value} {below : List Frame} {meth : Method} {c : Code} {G0 : Heap} {Y : State → Prop} {D : va_G} {dA : Nat → ClassId} {base t0 u0 : Nat} {Q : State → Prop} {pF : Nat → List Value → xH → Option (Option Value × xH)} (C : lwC p l s m args c G0 Y D dA base pF) {lv : xL} {b xa ma ao i L : Nat} {xs : Nat → Int32} (hG : lwG lv b xa ma ao i) (hi : i + 6 ≤ L) (hL : L ≤ 3074) {h h1 h2 h3 : xH} {v : Int32} (hS : lwS h b L xs) (hS1 : lwS h1 b L xs) (hX : xMetW l G0 Y D dA base 31 yL_latency cL_latency 5 [(0, 10, 13, 25), (0, 10, 17, 19)] [.ref xa, .int (xs (i + 1)), .int (xs (i + 2)), .ref ao] h (0 : Int32) h1) (hb1 : ((xMn 311).cls = (xCl ((h1.1 ma).1 - 1)).1 ∧ 0 < (h1.1 ma).1 ∧ (h1.1 ma).1 ≤ 17)) (hb2 : ((xMn 373).cls = (xCl ((h2.1 ma).1 - 1)).1 ∧ 0 < (h2.1 ma).1 ∧ (h2.1 ma).1 ≤ 17)) (hM : xCo pF 31 311 (.ref ma :: [.int (xs (i + 1)), .int (xs (i + 2))]) h1 (some (.int v)) h2) (hT : xCo pF 31 373 [.ref ma] h2 (some (.int (0 : Int32))) h3) (ho : (h3.1 ao).1 = 21 ∧ (h3.1 ao).2.1 = 1 ∧ (h3.1 ao).2.2 0 = .long (v.toInt64)) (q0 : lwR base t0 u0 h) (q1 : lwR base t0 u0 h1) (q3 : lwR base t0 u0 h3)
    (kk : ∀ lv', lwG lv' b xa ma ao i → lwW p l e s m args below meth c G0 D dA base t0 u0 Q 2147 lv' [] h3) : lwW p l e s m args below meth c G0 D dA base t0 u0 Q 903 lv [] h := by
  refine lwQ1 C kAo_latency (f := (903, lv, [], h)) (g := (917, lv, ([.ref xa, .int (xs (i + 1)), .int (xs (i + 2)), .ref ao]).reverse, h)) ?_ q0 q0 ?_
  · refine eQ_aload_n la_latency_903 hG.2.1 ?_
    refine eQ_sc (n := 1) hG hS (by omega) hL (by decide) la_latency_904 la_latency_905 la_latency_907 la_latency_908 la_latency_909 ?_
    refine eQ_sc (n := 2) hG hS (by omega) hL (by decide) la_latency_910 la_latency_911 la_latency_913 la_latency_914 la_latency_915 ?_
    refine eQ_aload_n la_latency_916 hG.2.2.2.1 ?_
    exact xQ_r
  refine lw_wr C hX wc_latency wt_latency (by decide) rfl wl_latency (n := 4) (by decide +kernel) rfl (kAo_latency (917, (.invokestatic 157, 3)) (x_look rfl)) rfl q0 q1 ?_
  have hG2 : lwG (xs1 6 (.int v) (xs1 5 (.int (0 : Int32)) lv)) b xa ma ao i := (lwG_s (lwG_s hG (by decide)) (by decide))
  have g5 : xg (xs1 6 (.int v) (xs1 5 (.int (0 : Int32)) lv)) 5 = some (.int (0 : Int32)) := (xs1_keep.2 5 _ (by decide) (fun _ => rfl) xs1_keep.1)
  have g6 : xg (xs1 6 (.int v) (xs1 5 (.int (0 : Int32)) lv)) 6 = some (.int v) := xs1_keep.1
  refine lwQ1 C kAo_latency (f := (920, lv, [.int (0 : Int32)], h1)) (g := (2147, xs1 6 (.int v) (xs1 5 (.int (0 : Int32)) lv), [], h3)) ?_ q1 q3 (kk _ hG2)
  refine eQ_istore (lv' := xs1 5 (.int (0 : Int32)) lv) la_latency_920 (by decide) rfl ?_
  refine eQ_aload_n la_latency_922 (lwG_s hG (by decide)).2.2.1 ?_
  refine eQ_sc (n := 1) (lwG_s hG (by decide)) hS1 (by omega) hL (by decide) la_latency_923 la_latency_924 la_latency_926 la_latency_927 la_latency_928 ?_
  refine eQ_sc (n := 2) (lwG_s hG (by decide)) hS1 (by omega) hL (by decide) la_latency_929 la_latency_930 la_latency_932 la_latency_933 la_latency_934 ?_
  refine eQ_virt (b := ma) (as := [.int (xs (i + 1)), .int (xs (i + 2))]) (n := 2) (r := (some (.int v))) la_latency_935 (by decide +kernel) (by decide +kernel) rfl rfl (Nat.le_of_ble_eq_true rfl) (by decide +kernel) hb1 hM ?_
  refine eQ_istore (lv' := xs1 6 (.int v) (xs1 5 (.int (0 : Int32)) lv)) la_latency_938 (by decide) rfl ?_
  refine eQ_aload_n la_latency_940 hG2.2.2.1 ?_
  refine eQ_virt (b := ma) (as := []) (n := 0) (r := some (.int (0 : Int32))) la_latency_941 (by decide +kernel) (by decide +kernel) rfl rfl (Nat.le_of_ble_eq_true rfl) (by decide +kernel) hb2 hT ?_
  refine eQ_iload la_latency_944 g5 ?_
  refine eQ_icmp (t := 951) la_latency_946 (by decide) (fun _ => ?_) (fun q => absurd (l_eq _) q)
  refine eQ_iload la_latency_951 g5 ?_
  refine eQ_if (t := 968) la_latency_953 (by decide) (fun q => absurd q (by decide)) (fun _ => ?_)
  refine eQ_aload_n la_latency_956 hG2.2.2.2.1 ?_
  refine eQ_iconst (v := 0) la_latency_957 (by decide) ?_
  refine eQ_lald (j := 0) (x := v.toInt64) la_latency_958 ho.1 (by rw [ho.2.1]; decide) (by decide) ho.2.2 ?_
  refine eQ_iload la_latency_959 g6 ?_
  refine eQ_i2l la_latency_961 ?_
  refine eQ_lcmp la_latency_962 ?_
  rw [lg_cmp_self]
  refine eQ_if (t := 968) la_latency_963 (by decide) (fun _ => ?_) (fun q => absurd (by decide) q)
  refine eQ_goto (t := 2147) la_latency_968 (by decide) ?_
  exact xQ_r
theorem lA_latency_T {p : Program} {l : Launch} {e : Env} {s : State} {m : MethodId} {args : Array Value} {below : List Frame} {meth : Method} {c : Code} {G0 : Heap} {Y : State → Prop} {D : va_G} {dA : Nat → ClassId} {base t0 u0 : Nat} {Q : State → Prop} {pF : Nat → List Value → xH → Option (Option Value × xH)} (C : lwC p l s m args c G0 Y D dA base pF) {lv : xL} {b xa ma ao i L : Nat} {xs : Nat → Int32} (hG : lwG lv b xa ma ao i) (hi : i + 6 ≤ L) (hL : L ≤ 3074) {h h1 h2 h3 : xH} {r : Int32} {v : Int32} (hS : lwS h b L xs) (hS1 : lwS h1 b L xs) (hX : xMetW l G0 Y D dA base 31 yL_latency cL_latency 5 [(0, 10, 13, 25), (0, 10, 17, 19)] [.ref xa, .int (xs (i + 1)), .int (xs (i + 2)), .ref ao] h r h1) (hb1 : ((xMn 311).cls = (xCl ((h1.1 ma).1 - 1)).1 ∧ 0 < (h1.1 ma).1 ∧ (h1.1 ma).1 ≤ 17)) (hb2 : ((xMn 373).cls = (xCl ((h2.1 ma).1 - 1)).1 ∧ 0 < (h2.1 ma).1 ∧ (h2.1 ma).1 ≤ 17)) (hM : xCo pF 31 311 (.ref ma :: [.int (xs (i + 1)), .int (xs (i + 2))]) h1 (some (.int v)) h2) (hT : xCo pF 31 373 [.ref ma] h2 (some (.int r)) h3) (hr : xc0 .ne r = true) (q0 : lwR base t0 u0 h) (q1 : lwR base t0 u0 h1) (q3 : lwR base t0 u0 h3)
    (kk : ∀ lv', lwG lv' b xa ma ao i → lwW p l e s m args below meth c G0 D dA base t0 u0 Q 2147 lv' [] h3) : lwW p l e s m args below meth c G0 D dA base t0 u0 Q 903 lv [] h := by
  refine lwQ1 C kAo_latency (f := (903, lv, [], h)) (g := (917, lv, ([.ref xa, .int (xs (i + 1)), .int (xs (i + 2)), .ref ao]).reverse, h)) ?_ q0 q0 ?_
  · refine eQ_aload_n la_latency_903 hG.2.1 ?_
    refine eQ_sc (n := 1) hG hS (by omega) hL (by decide) la_latency_904 la_latency_905 la_latency_907 la_latency_908 la_latency_909 ?_
    refine eQ_sc (n := 2) hG hS (by omega) hL (by decide) la_latency_910 la_latency_911 la_latency_913 la_latency_914 la_latency_915 ?_
    refine eQ_aload_n la_latency_916 hG.2.2.2.1 ?_
    exact xQ_r
  refine lw_wr C hX wc_latency wt_latency (by decide) rfl wl_latency (n := 4) (by decide +kernel) rfl (kAo_latency (917, (.invokestatic 157, 3)) (x_look rfl)) rfl q0 q1 ?_
  have hG2 : lwG (xs1 6 (.int v) (xs1 5 (.int r) lv)) b xa ma ao i := (lwG_s (lwG_s hG (by decide)) (by decide))
  have g5 : xg (xs1 6 (.int v) (xs1 5 (.int r) lv)) 5 = some (.int r) := (xs1_keep.2 5 _ (by decide) (fun _ => rfl) xs1_keep.1)
  have g6 : xg (xs1 6 (.int v) (xs1 5 (.int r) lv)) 6 = some (.int v) := xs1_keep.1
  refine lwQ1 C kAo_latency (f := (920, lv, [.int r], h1)) (g := (2147, xs1 6 (.int v) (xs1 5 (.int r) lv), [], h3)) ?_ q1 q3 (kk _ hG2)
  refine eQ_istore (lv' := xs1 5 (.int r) lv) la_latency_920 (by decide) rfl ?_
  refine eQ_aload_n la_latency_922 (lwG_s hG (by decide)).2.2.1 ?_
  refine eQ_sc (n := 1) (lwG_s hG (by decide)) hS1 (by omega) hL (by decide) la_latency_923 la_latency_924 la_latency_926 la_latency_927 la_latency_928 ?_
  refine eQ_sc (n := 2) (lwG_s hG (by decide)) hS1 (by omega) hL (by decide) la_latency_929 la_latency_930 la_latency_932 la_latency_933 la_latency_934 ?_
  refine eQ_virt (b := ma) (as := [.int (xs (i + 1)), .int (xs (i + 2))]) (n := 2) (r := (some (.int v))) la_latency_935 (by decide +kernel) (by decide +kernel) rfl rfl (Nat.le_of_ble_eq_true rfl) (by decide +kernel) hb1 hM ?_
  refine eQ_istore (lv' := xs1 6 (.int v) (xs1 5 (.int r) lv)) la_latency_938 (by decide) rfl ?_
  refine eQ_aload_n la_latency_940 hG2.2.2.1 ?_
  refine eQ_virt (b := ma) (as := []) (n := 0) (r := some (.int r)) la_latency_941 (by decide +kernel) (by decide +kernel) rfl rfl (Nat.le_of_ble_eq_true rfl) (by decide +kernel) hb2 hT ?_
  refine eQ_iload la_latency_944 g5 ?_
  refine eQ_icmp (t := 951) la_latency_946 (by decide) (fun _ => ?_) (fun q => absurd (l_eq _) q)
  refine eQ_iload la_latency_951 g5 ?_
  refine eQ_if (t := 968) la_latency_953 (by decide) (fun _ => ?_) (fun q => absurd hr q)
  refine eQ_goto (t := 2147) la_latency_968 (by decide) ?_
  exact xQ_r
theorem lA_crash_N {p : Program} {l : Launch} {e : Env} {s : State} {m : MethodId} {args : Array Value} {below : List Frame} {meth : Method} {c : Code} {G0 : Heap} {Y : State → Prop} {D : va_G} {dA : Nat → ClassId} {base t0 u0 : Nat} {Q : State → Prop} {pF : Nat → List Value → xH → Option (Option Value × xH)} (C : lwC p l s m args c G0 Y D dA base pF) {lv : xL} {b xa ma ao i L : Nat} {xs : Nat → Int32} (hG : lwG lv b xa ma ao i) (hi : i + 6 ≤ L) (hL : L ≤ 3074) {h h1 h2 h3 : xH} {v : Int32} (hS : lwS h b L xs) (hS1 : lwS h1 b L xs) (hX : xMetW l G0 Y D dA base 31 yL_crash cL_crash 6 [(0, 18, 21, 25)] [.ref xa, .int (xs (i + 1)), .long ((((((xs (i + 2))).toInt64) <<< (((32 : Int32)).toInt64 &&& 63))) ||| (((((xs (i + 3))).toInt64) &&& ((4294967295 : Int64))))), .ref ao] h (0 : Int32) h1) (hb1 : ((xMn 266).cls = (xCl ((h1.1 ma).1 - 1)).1 ∧ 0 < (h1.1 ma).1 ∧ (h1.1 ma).1 ≤ 17)) (hb2 : ((xMn 373).cls = (xCl ((h2.1 ma).1 - 1)).1 ∧ 0 < (h2.1 ma).1 ∧ (h2.1 ma).1 ≤ 17)) (hM : xCo pF 31 266 (.ref ma :: [.int (xs (i + 1)), .long ((((((xs (i + 2))).toInt64) <<< (((32 : Int32)).toInt64 &&& 63))) ||| (((((xs (i + 3))).toInt64) &&& ((4294967295 : Int64)))))]) h1 (some (.int v)) h2) (hT : xCo pF 31 373 [.ref ma] h2 (some (.int (0 : Int32))) h3) (ho : (h3.1 ao).1 = 21 ∧ (h3.1 ao).2.1 = 1 ∧ (h3.1 ao).2.2 0 = .long (if v = 0 then 0 else 1)) (q0 : lwR base t0 u0 h) (q1 : lwR base t0 u0 h1) (q3 : lwR base t0 u0 h3)
    (kk : ∀ lv', lwG lv' b xa ma ao i → lwW p l e s m args below meth c G0 D dA base t0 u0 Q 2147 lv' [] h3) : lwW p l e s m args below meth c G0 D dA base t0 u0 Q 971 lv [] h := by
  refine lwQ1 C kAo_crash (f := (971, lv, [], h)) (g := (1001, lv, ([.ref xa, .int (xs (i + 1)), .long ((((((xs (i + 2))).toInt64) <<< (((32 : Int32)).toInt64 &&& 63))) ||| (((((xs (i + 3))).toInt64) &&& ((4294967295 : Int64))))), .ref ao]).reverse, h)) ?_ q0 q0 ?_
  · refine eQ_aload_n la_crash_971 hG.2.1 ?_
    refine eQ_sc (n := 1) hG hS (by omega) hL (by decide) la_crash_972 la_crash_973 la_crash_975 la_crash_976 la_crash_977 ?_
    refine eQ_sc (n := 2) hG hS (by omega) hL (by decide) la_crash_978 la_crash_979 la_crash_981 la_crash_982 la_crash_983 ?_
    refine eQ_i2l la_crash_984 ?_
    refine eQ_bipush (v := 32) la_crash_985 (by decide) ?_
    refine eQ_lshl la_crash_987 ?_
    refine eQ_sc (n := 3) hG hS (by omega) hL (by decide) la_crash_988 la_crash_989 la_crash_991 la_crash_992 la_crash_993 ?_
    refine eQ_i2l la_crash_994 ?_
    refine eQ_ldc2_w (v := 4294967295) la_crash_995 (by decide +kernel) ?_
    refine eQ_land la_crash_998 ?_
    refine eQ_lor la_crash_999 ?_
    refine eQ_aload_n la_crash_1000 hG.2.2.2.1 ?_
    exact xQ_r
  refine lw_wr C hX wc_crash wt_crash (by decide) rfl wl_crash (n := 4) (by decide +kernel) rfl (kAo_crash (1001, (.invokestatic 161, 3)) (x_look rfl)) rfl q0 q1 ?_
  have hG2 : lwG (xs1 6 (.int v) (xs1 5 (.int (0 : Int32)) lv)) b xa ma ao i := (lwG_s (lwG_s hG (by decide)) (by decide))
  have g5 : xg (xs1 6 (.int v) (xs1 5 (.int (0 : Int32)) lv)) 5 = some (.int (0 : Int32)) := (xs1_keep.2 5 _ (by decide) (fun _ => rfl) xs1_keep.1)
  have g6 : xg (xs1 6 (.int v) (xs1 5 (.int (0 : Int32)) lv)) 6 = some (.int v) := xs1_keep.1
  refine lwQ1 C kAo_crash (f := (1004, lv, [.int (0 : Int32)], h1)) (g := (2147, xs1 6 (.int v) (xs1 5 (.int (0 : Int32)) lv), [], h3)) ?_ q1 q3 (kk _ hG2)
  refine eQ_istore (lv' := xs1 5 (.int (0 : Int32)) lv) la_crash_1004 (by decide) rfl ?_
  refine eQ_aload_n la_crash_1006 (lwG_s hG (by decide)).2.2.1 ?_
  refine eQ_sc (n := 1) (lwG_s hG (by decide)) hS1 (by omega) hL (by decide) la_crash_1007 la_crash_1008 la_crash_1010 la_crash_1011 la_crash_1012 ?_
  refine eQ_sc (n := 2) (lwG_s hG (by decide)) hS1 (by omega) hL (by decide) la_crash_1013 la_crash_1014 la_crash_1016 la_crash_1017 la_crash_1018 ?_
  refine eQ_i2l la_crash_1019 ?_
  refine eQ_bipush (v := 32) la_crash_1020 (by decide) ?_
  refine eQ_lshl la_crash_1022 ?_
  refine eQ_sc (n := 3) (lwG_s hG (by decide)) hS1 (by omega) hL (by decide) la_crash_1023 la_crash_1024 la_crash_1026 la_crash_1027 la_crash_1028 ?_
  refine eQ_i2l la_crash_1029 ?_
  refine eQ_ldc2_w (v := 4294967295) la_crash_1030 (by decide +kernel) ?_
  refine eQ_land la_crash_1033 ?_
  refine eQ_lor la_crash_1034 ?_
  refine eQ_virt (b := ma) (as := [.int (xs (i + 1)), .long ((((((xs (i + 2))).toInt64) <<< (((32 : Int32)).toInt64 &&& 63))) ||| (((((xs (i + 3))).toInt64) &&& ((4294967295 : Int64)))))]) (n := 2) (r := (some (.int v))) la_crash_1035 (by decide +kernel) (by decide +kernel) rfl rfl (Nat.le_of_ble_eq_true rfl) (by decide +kernel) hb1 hM ?_
  refine eQ_istore (lv' := xs1 6 (.int v) (xs1 5 (.int (0 : Int32)) lv)) la_crash_1038 (by decide) rfl ?_
  refine eQ_aload_n la_crash_1040 hG2.2.2.1 ?_
  refine eQ_virt (b := ma) (as := []) (n := 0) (r := some (.int (0 : Int32))) la_crash_1041 (by decide +kernel) (by decide +kernel) rfl rfl (Nat.le_of_ble_eq_true rfl) (by decide +kernel) hb2 hT ?_
  refine eQ_iload la_crash_1044 g5 ?_
  refine eQ_icmp (t := 1051) la_crash_1046 (by decide) (fun _ => ?_) (fun q => absurd (l_eq _) q)
  refine eQ_iload la_crash_1051 g5 ?_
  refine eQ_if (t := 1075) la_crash_1053 (by decide) (fun q => absurd q (by decide)) (fun _ => ?_)
  refine eQ_aload_n la_crash_1056 hG2.2.2.2.1 ?_
  refine eQ_iconst (v := 0) la_crash_1057 (by decide) ?_
  refine eQ_lald (j := 0) (x := if v = 0 then 0 else 1) la_crash_1058 ho.1 (by rw [ho.2.1]; decide) (by decide) ho.2.2 ?_
  refine eQ_iload la_crash_1059 g6 ?_
  refine eQ_if (t := 1068) la_crash_1061 (by decide) (fun q => ?_) (fun q => ?_)
  · have e0 : v = 0 := of_decide_eq_true q
    rw [if_pos e0]
    refine eQ_lconst (v := 0) la_crash_1068 (by decide) ?_
    refine eQ_lcmp la_crash_1069 ?_
    rw [lg_cmp_self]
    refine eQ_if (t := 1075) la_crash_1070 (by decide) (fun _ => ?_) (fun q => absurd (by decide) q)
    refine eQ_goto (t := 2147) la_crash_1075 (by decide) ?_
    exact xQ_r
  · have e0 : ¬ v = 0 := fun e => q (decide_eq_true e)
    rw [if_neg e0]
    refine eQ_lconst (v := 1) la_crash_1064 (by decide) ?_
    refine eQ_goto (t := 1069) la_crash_1065 (by decide) ?_
    refine eQ_lcmp la_crash_1069 ?_
    rw [lg_cmp_self]
    refine eQ_if (t := 1075) la_crash_1070 (by decide) (fun _ => ?_) (fun q => absurd (by decide) q)
    refine eQ_goto (t := 2147) la_crash_1075 (by decide) ?_
    exact xQ_r
theorem lA_crash_T {p : Program} {l : Launch} {e : Env} {s : State} {m : MethodId} {args : Array Value} {below : List Frame} {meth : Method} {c : Code} {G0 : Heap} {Y : State → Prop} {D : va_G} {dA : Nat → ClassId} {base t0 u0 : Nat} {Q : State → Prop} {pF : Nat → List Value → xH → Option (Option Value × xH)} (C : lwC p l s m args c G0 Y D dA base pF) {lv : xL} {b xa ma ao i L : Nat} {xs : Nat → Int32} (hG : lwG lv b xa ma ao i) (hi : i + 6 ≤ L) (hL : L ≤ 3074) {h h1 h2 h3 : xH} {r : Int32} {v : Int32} (hS : lwS h b L xs) (hS1 : lwS h1 b L xs) (hX : xMetW l G0 Y D dA base 31 yL_crash cL_crash 6 [(0, 18, 21, 25)] [.ref xa, .int (xs (i + 1)), .long ((((((xs (i + 2))).toInt64) <<< (((32 : Int32)).toInt64 &&& 63))) ||| (((((xs (i + 3))).toInt64) &&& ((4294967295 : Int64))))), .ref ao] h r h1) (hb1 : ((xMn 266).cls = (xCl ((h1.1 ma).1 - 1)).1 ∧ 0 < (h1.1 ma).1 ∧ (h1.1 ma).1 ≤ 17)) (hb2 : ((xMn 373).cls = (xCl ((h2.1 ma).1 - 1)).1 ∧ 0 < (h2.1 ma).1 ∧ (h2.1 ma).1 ≤ 17)) (hM : xCo pF 31 266 (.ref ma :: [.int (xs (i + 1)), .long ((((((xs (i + 2))).toInt64) <<< (((32 : Int32)).toInt64 &&& 63))) ||| (((((xs (i + 3))).toInt64) &&& ((4294967295 : Int64)))))]) h1 (some (.int v)) h2) (hT : xCo pF 31 373 [.ref ma] h2 (some (.int r)) h3) (hr : xc0 .ne r = true) (q0 : lwR base t0 u0 h) (q1 : lwR base t0 u0 h1) (q3 : lwR base t0 u0 h3)
    (kk : ∀ lv', lwG lv' b xa ma ao i → lwW p l e s m args below meth c G0 D dA base t0 u0 Q 2147 lv' [] h3) : lwW p l e s m args below meth c G0 D dA base t0 u0 Q 971 lv [] h := by
  refine lwQ1 C kAo_crash (f := (971, lv, [], h)) (g := (1001, lv, ([.ref xa, .int (xs (i + 1)), .long ((((((xs (i + 2))).toInt64) <<< (((32 : Int32)).toInt64 &&& 63))) ||| (((((xs (i + 3))).toInt64) &&& ((4294967295 : Int64))))), .ref ao]).reverse, h)) ?_ q0 q0 ?_
  · refine eQ_aload_n la_crash_971 hG.2.1 ?_
    refine eQ_sc (n := 1) hG hS (by omega) hL (by decide) la_crash_972 la_crash_973 la_crash_975 la_crash_976 la_crash_977 ?_
    refine eQ_sc (n := 2) hG hS (by omega) hL (by decide) la_crash_978 la_crash_979 la_crash_981 la_crash_982 la_crash_983 ?_
    refine eQ_i2l la_crash_984 ?_
    refine eQ_bipush (v := 32) la_crash_985 (by decide) ?_
    refine eQ_lshl la_crash_987 ?_
    refine eQ_sc (n := 3) hG hS (by omega) hL (by decide) la_crash_988 la_crash_989 la_crash_991 la_crash_992 la_crash_993 ?_
    refine eQ_i2l la_crash_994 ?_
    refine eQ_ldc2_w (v := 4294967295) la_crash_995 (by decide +kernel) ?_
    refine eQ_land la_crash_998 ?_
    refine eQ_lor la_crash_999 ?_
    refine eQ_aload_n la_crash_1000 hG.2.2.2.1 ?_
    exact xQ_r
  refine lw_wr C hX wc_crash wt_crash (by decide) rfl wl_crash (n := 4) (by decide +kernel) rfl (kAo_crash (1001, (.invokestatic 161, 3)) (x_look rfl)) rfl q0 q1 ?_
  have hG2 : lwG (xs1 6 (.int v) (xs1 5 (.int r) lv)) b xa ma ao i := (lwG_s (lwG_s hG (by decide)) (by decide))
  have g5 : xg (xs1 6 (.int v) (xs1 5 (.int r) lv)) 5 = some (.int r) := (xs1_keep.2 5 _ (by decide) (fun _ => rfl) xs1_keep.1)
  have g6 : xg (xs1 6 (.int v) (xs1 5 (.int r) lv)) 6 = some (.int v) := xs1_keep.1
  refine lwQ1 C kAo_crash (f := (1004, lv, [.int r], h1)) (g := (2147, xs1 6 (.int v) (xs1 5 (.int r) lv), [], h3)) ?_ q1 q3 (kk _ hG2)
  refine eQ_istore (lv' := xs1 5 (.int r) lv) la_crash_1004 (by decide) rfl ?_
  refine eQ_aload_n la_crash_1006 (lwG_s hG (by decide)).2.2.1 ?_
  refine eQ_sc (n := 1) (lwG_s hG (by decide)) hS1 (by omega) hL (by decide) la_crash_1007 la_crash_1008 la_crash_1010 la_crash_1011 la_crash_1012 ?_
  refine eQ_sc (n := 2) (lwG_s hG (by decide)) hS1 (by omega) hL (by decide) la_crash_1013 la_crash_1014 la_crash_1016 la_crash_1017 la_crash_1018 ?_
  refine eQ_i2l la_crash_1019 ?_
  refine eQ_bipush (v := 32) la_crash_1020 (by decide) ?_
  refine eQ_lshl la_crash_1022 ?_
  refine eQ_sc (n := 3) (lwG_s hG (by decide)) hS1 (by omega) hL (by decide) la_crash_1023 la_crash_1024 la_crash_1026 la_crash_1027 la_crash_1028 ?_
  refine eQ_i2l la_crash_1029 ?_
  refine eQ_ldc2_w (v := 4294967295) la_crash_1030 (by decide +kernel) ?_
  refine eQ_land la_crash_1033 ?_
  refine eQ_lor la_crash_1034 ?_
  refine eQ_virt (b := ma) (as := [.int (xs (i + 1)), .long ((((((xs (i + 2))).toInt64) <<< (((32 : Int32)).toInt64 &&& 63))) ||| (((((xs (i + 3))).toInt64) &&& ((4294967295 : Int64)))))]) (n := 2) (r := (some (.int v))) la_crash_1035 (by decide +kernel) (by decide +kernel) rfl rfl (Nat.le_of_ble_eq_true rfl) (by decide +kernel) hb1 hM ?_
  refine eQ_istore (lv' := xs1 6 (.int v) (xs1 5 (.int r) lv)) la_crash_1038 (by decide) rfl ?_
  refine eQ_aload_n la_crash_1040 hG2.2.2.1 ?_
  refine eQ_virt (b := ma) (as := []) (n := 0) (r := some (.int r)) la_crash_1041 (by decide +kernel) (by decide +kernel) rfl rfl (Nat.le_of_ble_eq_true rfl) (by decide +kernel) hb2 hT ?_
  refine eQ_iload la_crash_1044 g5 ?_
  refine eQ_icmp (t := 1051) la_crash_1046 (by decide) (fun _ => ?_) (fun q => absurd (l_eq _) q)
  refine eQ_iload la_crash_1051 g5 ?_
  refine eQ_if (t := 1075) la_crash_1053 (by decide) (fun _ => ?_) (fun q => absurd hr q)
  refine eQ_goto (t := 2147) la_crash_1075 (by decide) ?_
  exact xQ_r
theorem lA_stop_N {p : Program} {l : Launch} {e : Env} {s : State} {m : MethodId} {args : Array Value} {below : List Frame} {meth : Method} {c : Code} {G0 : Heap} {Y : State → Prop} {D : va_G} {dA : Nat → ClassId} {base t0 u0 : Nat} {Q : State → Prop} {pF : Nat → List Value → xH → Option (Option Value × xH)} (C : lwC p l s m args c G0 Y D dA base pF) {lv : xL} {b xa ma ao i L : Nat} {xs : Nat → Int32} (hG : lwG lv b xa ma ao i) (hi : i + 6 ≤ L) (hL : L ≤ 3074) {h h1 h2 h3 : xH} {v : Int32} (hS : lwS h b L xs) (hS1 : lwS h1 b L xs) (hX : xMetW l G0 Y D dA base 31 yL_stop cL_stop 4 [(0, 16, 19, 25)] [.ref xa, .int (xs (i + 1)), .ref ao] h (0 : Int32) h1) (hb1 : ((xMn 364).cls = (xCl ((h1.1 ma).1 - 1)).1 ∧ 0 < (h1.1 ma).1 ∧ (h1.1 ma).1 ≤ 17)) (hb2 : ((xMn 373).cls = (xCl ((h2.1 ma).1 - 1)).1 ∧ 0 < (h2.1 ma).1 ∧ (h2.1 ma).1 ≤ 17)) (hM : xCo pF 31 364 (.ref ma :: [.int (xs (i + 1))]) h1 (some (.int v)) h2) (hT : xCo pF 31 373 [.ref ma] h2 (some (.int (0 : Int32))) h3) (ho : (h3.1 ao).1 = 21 ∧ (h3.1 ao).2.1 = 1 ∧ (h3.1 ao).2.2 0 = .long (if v = 0 then 0 else 1)) (q0 : lwR base t0 u0 h) (q1 : lwR base t0 u0 h1) (q3 : lwR base t0 u0 h3)
    (kk : ∀ lv', lwG lv' b xa ma ao i → lwW p l e s m args below meth c G0 D dA base t0 u0 Q 2147 lv' [] h3) : lwW p l e s m args below meth c G0 D dA base t0 u0 Q 1078 lv [] h := by
  refine lwQ1 C kAo_stop (f := (1078, lv, [], h)) (g := (1086, lv, ([.ref xa, .int (xs (i + 1)), .ref ao]).reverse, h)) ?_ q0 q0 ?_
  · refine eQ_aload_n la_stop_1078 hG.2.1 ?_
    refine eQ_sc (n := 1) hG hS (by omega) hL (by decide) la_stop_1079 la_stop_1080 la_stop_1082 la_stop_1083 la_stop_1084 ?_
    refine eQ_aload_n la_stop_1085 hG.2.2.2.1 ?_
    exact xQ_r
  refine lw_wr C hX wc_stop wt_stop (by decide) rfl wl_stop (n := 3) (by decide +kernel) rfl (kAo_stop (1086, (.invokestatic 165, 3)) (x_look rfl)) rfl q0 q1 ?_
  have hG2 : lwG (xs1 6 (.int v) (xs1 5 (.int (0 : Int32)) lv)) b xa ma ao i := (lwG_s (lwG_s hG (by decide)) (by decide))
  have g5 : xg (xs1 6 (.int v) (xs1 5 (.int (0 : Int32)) lv)) 5 = some (.int (0 : Int32)) := (xs1_keep.2 5 _ (by decide) (fun _ => rfl) xs1_keep.1)
  have g6 : xg (xs1 6 (.int v) (xs1 5 (.int (0 : Int32)) lv)) 6 = some (.int v) := xs1_keep.1
  refine lwQ1 C kAo_stop (f := (1089, lv, [.int (0 : Int32)], h1)) (g := (2147, xs1 6 (.int v) (xs1 5 (.int (0 : Int32)) lv), [], h3)) ?_ q1 q3 (kk _ hG2)
  refine eQ_istore (lv' := xs1 5 (.int (0 : Int32)) lv) la_stop_1089 (by decide) rfl ?_
  refine eQ_aload_n la_stop_1091 (lwG_s hG (by decide)).2.2.1 ?_
  refine eQ_sc (n := 1) (lwG_s hG (by decide)) hS1 (by omega) hL (by decide) la_stop_1092 la_stop_1093 la_stop_1095 la_stop_1096 la_stop_1097 ?_
  refine eQ_virt (b := ma) (as := [.int (xs (i + 1))]) (n := 1) (r := (some (.int v))) la_stop_1098 (by decide +kernel) (by decide +kernel) rfl rfl (Nat.le_of_ble_eq_true rfl) (by decide +kernel) hb1 hM ?_
  refine eQ_istore (lv' := xs1 6 (.int v) (xs1 5 (.int (0 : Int32)) lv)) la_stop_1101 (by decide) rfl ?_
  refine eQ_aload_n la_stop_1103 hG2.2.2.1 ?_
  refine eQ_virt (b := ma) (as := []) (n := 0) (r := some (.int (0 : Int32))) la_stop_1104 (by decide +kernel) (by decide +kernel) rfl rfl (Nat.le_of_ble_eq_true rfl) (by decide +kernel) hb2 hT ?_
  refine eQ_iload la_stop_1107 g5 ?_
  refine eQ_icmp (t := 1114) la_stop_1109 (by decide) (fun _ => ?_) (fun q => absurd (l_eq _) q)
  refine eQ_iload la_stop_1114 g5 ?_
  refine eQ_if (t := 1138) la_stop_1116 (by decide) (fun q => absurd q (by decide)) (fun _ => ?_)
  refine eQ_aload_n la_stop_1119 hG2.2.2.2.1 ?_
  refine eQ_iconst (v := 0) la_stop_1120 (by decide) ?_
  refine eQ_lald (j := 0) (x := if v = 0 then 0 else 1) la_stop_1121 ho.1 (by rw [ho.2.1]; decide) (by decide) ho.2.2 ?_
  refine eQ_iload la_stop_1122 g6 ?_
  refine eQ_if (t := 1131) la_stop_1124 (by decide) (fun q => ?_) (fun q => ?_)
  · have e0 : v = 0 := of_decide_eq_true q
    rw [if_pos e0]
    refine eQ_lconst (v := 0) la_stop_1131 (by decide) ?_
    refine eQ_lcmp la_stop_1132 ?_
    rw [lg_cmp_self]
    refine eQ_if (t := 1138) la_stop_1133 (by decide) (fun _ => ?_) (fun q => absurd (by decide) q)
    refine eQ_goto (t := 2147) la_stop_1138 (by decide) ?_
    exact xQ_r
  · have e0 : ¬ v = 0 := fun e => q (decide_eq_true e)
    rw [if_neg e0]
    refine eQ_lconst (v := 1) la_stop_1127 (by decide) ?_
    refine eQ_goto (t := 1132) la_stop_1128 (by decide) ?_
    refine eQ_lcmp la_stop_1132 ?_
    rw [lg_cmp_self]
    refine eQ_if (t := 1138) la_stop_1133 (by decide) (fun _ => ?_) (fun q => absurd (by decide) q)
    refine eQ_goto (t := 2147) la_stop_1138 (by decide) ?_
    exact xQ_r
theorem lA_stop_T {p : Program} {l : Launch} {e : Env} {s : State} {m : MethodId} {args : Array Value} {below : List Frame} {meth : Method} {c : Code} {G0 : Heap} {Y : State → Prop} {D : va_G} {dA : Nat → ClassId} {base t0 u0 : Nat} {Q : State → Prop} {pF : Nat → List Value → xH → Option (Option Value × xH)} (C : lwC p l s m args c G0 Y D dA base pF) {lv : xL} {b xa ma ao i L : Nat} {xs : Nat → Int32} (hG : lwG lv b xa ma ao i) (hi : i + 6 ≤ L) (hL : L ≤ 3074) {h h1 h2 h3 : xH} {r : Int32} {v : Int32} (hS : lwS h b L xs) (hS1 : lwS h1 b L xs) (hX : xMetW l G0 Y D dA base 31 yL_stop cL_stop 4 [(0, 16, 19, 25)] [.ref xa, .int (xs (i + 1)), .ref ao] h r h1) (hb1 : ((xMn 364).cls = (xCl ((h1.1 ma).1 - 1)).1 ∧ 0 < (h1.1 ma).1 ∧ (h1.1 ma).1 ≤ 17)) (hb2 : ((xMn 373).cls = (xCl ((h2.1 ma).1 - 1)).1 ∧ 0 < (h2.1 ma).1 ∧ (h2.1 ma).1 ≤ 17)) (hM : xCo pF 31 364 (.ref ma :: [.int (xs (i + 1))]) h1 (some (.int v)) h2) (hT : xCo pF 31 373 [.ref ma] h2 (some (.int r)) h3) (hr : xc0 .ne r = true) (q0 : lwR base t0 u0 h) (q1 : lwR base t0 u0 h1) (q3 : lwR base t0 u0 h3)
    (kk : ∀ lv', lwG lv' b xa ma ao i → lwW p l e s m args below meth c G0 D dA base t0 u0 Q 2147 lv' [] h3) : lwW p l e s m args below meth c G0 D dA base t0 u0 Q 1078 lv [] h := by
  refine lwQ1 C kAo_stop (f := (1078, lv, [], h)) (g := (1086, lv, ([.ref xa, .int (xs (i + 1)), .ref ao]).reverse, h)) ?_ q0 q0 ?_
  · refine eQ_aload_n la_stop_1078 hG.2.1 ?_
    refine eQ_sc (n := 1) hG hS (by omega) hL (by decide) la_stop_1079 la_stop_1080 la_stop_1082 la_stop_1083 la_stop_1084 ?_
    refine eQ_aload_n la_stop_1085 hG.2.2.2.1 ?_
    exact xQ_r
  refine lw_wr C hX wc_stop wt_stop (by decide) rfl wl_stop (n := 3) (by decide +kernel) rfl (kAo_stop (1086, (.invokestatic 165, 3)) (x_look rfl)) rfl q0 q1 ?_
  have hG2 : lwG (xs1 6 (.int v) (xs1 5 (.int r) lv)) b xa ma ao i := (lwG_s (lwG_s hG (by decide)) (by decide))
  have g5 : xg (xs1 6 (.int v) (xs1 5 (.int r) lv)) 5 = some (.int r) := (xs1_keep.2 5 _ (by decide) (fun _ => rfl) xs1_keep.1)
  have g6 : xg (xs1 6 (.int v) (xs1 5 (.int r) lv)) 6 = some (.int v) := xs1_keep.1
  refine lwQ1 C kAo_stop (f := (1089, lv, [.int r], h1)) (g := (2147, xs1 6 (.int v) (xs1 5 (.int r) lv), [], h3)) ?_ q1 q3 (kk _ hG2)
  refine eQ_istore (lv' := xs1 5 (.int r) lv) la_stop_1089 (by decide) rfl ?_
  refine eQ_aload_n la_stop_1091 (lwG_s hG (by decide)).2.2.1 ?_
  refine eQ_sc (n := 1) (lwG_s hG (by decide)) hS1 (by omega) hL (by decide) la_stop_1092 la_stop_1093 la_stop_1095 la_stop_1096 la_stop_1097 ?_
  refine eQ_virt (b := ma) (as := [.int (xs (i + 1))]) (n := 1) (r := (some (.int v))) la_stop_1098 (by decide +kernel) (by decide +kernel) rfl rfl (Nat.le_of_ble_eq_true rfl) (by decide +kernel) hb1 hM ?_
  refine eQ_istore (lv' := xs1 6 (.int v) (xs1 5 (.int r) lv)) la_stop_1101 (by decide) rfl ?_
  refine eQ_aload_n la_stop_1103 hG2.2.2.1 ?_
  refine eQ_virt (b := ma) (as := []) (n := 0) (r := some (.int r)) la_stop_1104 (by decide +kernel) (by decide +kernel) rfl rfl (Nat.le_of_ble_eq_true rfl) (by decide +kernel) hb2 hT ?_
  refine eQ_iload la_stop_1107 g5 ?_
  refine eQ_icmp (t := 1114) la_stop_1109 (by decide) (fun _ => ?_) (fun q => absurd (l_eq _) q)
  refine eQ_iload la_stop_1114 g5 ?_
  refine eQ_if (t := 1138) la_stop_1116 (by decide) (fun _ => ?_) (fun q => absurd hr q)
  refine eQ_goto (t := 2147) la_stop_1138 (by decide) ?_
  exact xQ_r
theorem lA_start_N {p : Program} {l : Launch} {e : Env} {s : State} {m : MethodId} {args : Array Value} {below : List Frame} {meth : Method} {c : Code} {G0 : Heap} {Y : State → Prop} {D : va_G} {dA : Nat → ClassId} {base t0 u0 : Nat} {Q : State → Prop} {pF : Nat → List Value → xH → Option (Option Value × xH)} (C : lwC p l s m args c G0 Y D dA base pF) {lv : xL} {b xa ma ao i L : Nat} {xs : Nat → Int32} (hG : lwG lv b xa ma ao i) (hi : i + 6 ≤ L) (hL : L ≤ 3074) {h h1 h2 h3 : xH} {v : Int32} (hS : lwS h b L xs) (hS1 : lwS h1 b L xs) (hX : xMetW l G0 Y D dA base 31 yL_start cL_start 4 [(0, 16, 19, 25)] [.ref xa, .int (xs (i + 1)), .ref ao] h (0 : Int32) h1) (hb1 : ((xMn 361).cls = (xCl ((h1.1 ma).1 - 1)).1 ∧ 0 < (h1.1 ma).1 ∧ (h1.1 ma).1 ≤ 17)) (hb2 : ((xMn 373).cls = (xCl ((h2.1 ma).1 - 1)).1 ∧ 0 < (h2.1 ma).1 ∧ (h2.1 ma).1 ≤ 17)) (hM : xCo pF 31 361 (.ref ma :: [.int (xs (i + 1))]) h1 (some (.int v)) h2) (hT : xCo pF 31 373 [.ref ma] h2 (some (.int (0 : Int32))) h3) (ho : (h3.1 ao).1 = 21 ∧ (h3.1 ao).2.1 = 1 ∧ (h3.1 ao).2.2 0 = .long (if v = 0 then 0 else 1)) (q0 : lwR base t0 u0 h) (q1 : lwR base t0 u0 h1) (q3 : lwR base t0 u0 h3)
    (kk : ∀ lv', lwG lv' b xa ma ao i → lwW p l e s m args below meth c G0 D dA base t0 u0 Q 2147 lv' [] h3) : lwW p l e s m args below meth c G0 D dA base t0 u0 Q 1141 lv [] h := by
  refine lwQ1 C kAo_start (f := (1141, lv, [], h)) (g := (1149, lv, ([.ref xa, .int (xs (i + 1)), .ref ao]).reverse, h)) ?_ q0 q0 ?_
  · refine eQ_aload_n la_start_1141 hG.2.1 ?_
    refine eQ_sc (n := 1) hG hS (by omega) hL (by decide) la_start_1142 la_start_1143 la_start_1145 la_start_1146 la_start_1147 ?_
    refine eQ_aload_n la_start_1148 hG.2.2.2.1 ?_
    exact xQ_r
  refine lw_wr C hX wc_start wt_start (by decide) rfl wl_start (n := 3) (by decide +kernel) rfl (kAo_start (1149, (.invokestatic 168, 3)) (x_look rfl)) rfl q0 q1 ?_
  have hG2 : lwG (xs1 6 (.int v) (xs1 5 (.int (0 : Int32)) lv)) b xa ma ao i := (lwG_s (lwG_s hG (by decide)) (by decide))
  have g5 : xg (xs1 6 (.int v) (xs1 5 (.int (0 : Int32)) lv)) 5 = some (.int (0 : Int32)) := (xs1_keep.2 5 _ (by decide) (fun _ => rfl) xs1_keep.1)
  have g6 : xg (xs1 6 (.int v) (xs1 5 (.int (0 : Int32)) lv)) 6 = some (.int v) := xs1_keep.1
  refine lwQ1 C kAo_start (f := (1152, lv, [.int (0 : Int32)], h1)) (g := (2147, xs1 6 (.int v) (xs1 5 (.int (0 : Int32)) lv), [], h3)) ?_ q1 q3 (kk _ hG2)
  refine eQ_istore (lv' := xs1 5 (.int (0 : Int32)) lv) la_start_1152 (by decide) rfl ?_
  refine eQ_aload_n la_start_1154 (lwG_s hG (by decide)).2.2.1 ?_
  refine eQ_sc (n := 1) (lwG_s hG (by decide)) hS1 (by omega) hL (by decide) la_start_1155 la_start_1156 la_start_1158 la_start_1159 la_start_1160 ?_
  refine eQ_virt (b := ma) (as := [.int (xs (i + 1))]) (n := 1) (r := (some (.int v))) la_start_1161 (by decide +kernel) (by decide +kernel) rfl rfl (Nat.le_of_ble_eq_true rfl) (by decide +kernel) hb1 hM ?_
  refine eQ_istore (lv' := xs1 6 (.int v) (xs1 5 (.int (0 : Int32)) lv)) la_start_1164 (by decide) rfl ?_
  refine eQ_aload_n la_start_1166 hG2.2.2.1 ?_
  refine eQ_virt (b := ma) (as := []) (n := 0) (r := some (.int (0 : Int32))) la_start_1167 (by decide +kernel) (by decide +kernel) rfl rfl (Nat.le_of_ble_eq_true rfl) (by decide +kernel) hb2 hT ?_
  refine eQ_iload la_start_1170 g5 ?_
  refine eQ_icmp (t := 1177) la_start_1172 (by decide) (fun _ => ?_) (fun q => absurd (l_eq _) q)
  refine eQ_iload la_start_1177 g5 ?_
  refine eQ_if (t := 1201) la_start_1179 (by decide) (fun q => absurd q (by decide)) (fun _ => ?_)
  refine eQ_aload_n la_start_1182 hG2.2.2.2.1 ?_
  refine eQ_iconst (v := 0) la_start_1183 (by decide) ?_
  refine eQ_lald (j := 0) (x := if v = 0 then 0 else 1) la_start_1184 ho.1 (by rw [ho.2.1]; decide) (by decide) ho.2.2 ?_
  refine eQ_iload la_start_1185 g6 ?_
  refine eQ_if (t := 1194) la_start_1187 (by decide) (fun q => ?_) (fun q => ?_)
  · have e0 : v = 0 := of_decide_eq_true q
    rw [if_pos e0]
    refine eQ_lconst (v := 0) la_start_1194 (by decide) ?_
    refine eQ_lcmp la_start_1195 ?_
    rw [lg_cmp_self]
    refine eQ_if (t := 1201) la_start_1196 (by decide) (fun _ => ?_) (fun q => absurd (by decide) q)
    refine eQ_goto (t := 2147) la_start_1201 (by decide) ?_
    exact xQ_r
  · have e0 : ¬ v = 0 := fun e => q (decide_eq_true e)
    rw [if_neg e0]
    refine eQ_lconst (v := 1) la_start_1190 (by decide) ?_
    refine eQ_goto (t := 1195) la_start_1191 (by decide) ?_
    refine eQ_lcmp la_start_1195 ?_
    rw [lg_cmp_self]
    refine eQ_if (t := 1201) la_start_1196 (by decide) (fun _ => ?_) (fun q => absurd (by decide) q)
    refine eQ_goto (t := 2147) la_start_1201 (by decide) ?_
    exact xQ_r
theorem lA_start_T {p : Program} {l : Launch} {e : Env} {s : State} {m : MethodId} {args : Array Value} {below : List Frame} {meth : Method} {c : Code} {G0 : Heap} {Y : State → Prop} {D : va_G} {dA : Nat → ClassId} {base t0 u0 : Nat} {Q : State → Prop} {pF : Nat → List Value → xH → Option (Option Value × xH)} (C : lwC p l s m args c G0 Y D dA base pF) {lv : xL} {b xa ma ao i L : Nat} {xs : Nat → Int32} (hG : lwG lv b xa ma ao i) (hi : i + 6 ≤ L) (hL : L ≤ 3074) {h h1 h2 h3 : xH} {r : Int32} {v : Int32} (hS : lwS h b L xs) (hS1 : lwS h1 b L xs) (hX : xMetW l G0 Y D dA base 31 yL_start cL_start 4 [(0, 16, 19, 25)] [.ref xa, .int (xs (i + 1)), .ref ao] h r h1) (hb1 : ((xMn 361).cls = (xCl ((h1.1 ma).1 - 1)).1 ∧ 0 < (h1.1 ma).1 ∧ (h1.1 ma).1 ≤ 17)) (hb2 : ((xMn 373).cls = (xCl ((h2.1 ma).1 - 1)).1 ∧ 0 < (h2.1 ma).1 ∧ (h2.1 ma).1 ≤ 17)) (hM : xCo pF 31 361 (.ref ma :: [.int (xs (i + 1))]) h1 (some (.int v)) h2) (hT : xCo pF 31 373 [.ref ma] h2 (some (.int r)) h3) (hr : xc0 .ne r = true) (q0 : lwR base t0 u0 h) (q1 : lwR base t0 u0 h1) (q3 : lwR base t0 u0 h3)
    (kk : ∀ lv', lwG lv' b xa ma ao i → lwW p l e s m args below meth c G0 D dA base t0 u0 Q 2147 lv' [] h3) : lwW p l e s m args below meth c G0 D dA base t0 u0 Q 1141 lv [] h := by
  refine lwQ1 C kAo_start (f := (1141, lv, [], h)) (g := (1149, lv, ([.ref xa, .int (xs (i + 1)), .ref ao]).reverse, h)) ?_ q0 q0 ?_
  · refine eQ_aload_n la_start_1141 hG.2.1 ?_
    refine eQ_sc (n := 1) hG hS (by omega) hL (by decide) la_start_1142 la_start_1143 la_start_1145 la_start_1146 la_start_1147 ?_
    refine eQ_aload_n la_start_1148 hG.2.2.2.1 ?_
    exact xQ_r
  refine lw_wr C hX wc_start wt_start (by decide) rfl wl_start (n := 3) (by decide +kernel) rfl (kAo_start (1149, (.invokestatic 168, 3)) (x_look rfl)) rfl q0 q1 ?_
  have hG2 : lwG (xs1 6 (.int v) (xs1 5 (.int r) lv)) b xa ma ao i := (lwG_s (lwG_s hG (by decide)) (by decide))
  have g5 : xg (xs1 6 (.int v) (xs1 5 (.int r) lv)) 5 = some (.int r) := (xs1_keep.2 5 _ (by decide) (fun _ => rfl) xs1_keep.1)
  have g6 : xg (xs1 6 (.int v) (xs1 5 (.int r) lv)) 6 = some (.int v) := xs1_keep.1
  refine lwQ1 C kAo_start (f := (1152, lv, [.int r], h1)) (g := (2147, xs1 6 (.int v) (xs1 5 (.int r) lv), [], h3)) ?_ q1 q3 (kk _ hG2)
  refine eQ_istore (lv' := xs1 5 (.int r) lv) la_start_1152 (by decide) rfl ?_
  refine eQ_aload_n la_start_1154 (lwG_s hG (by decide)).2.2.1 ?_
  refine eQ_sc (n := 1) (lwG_s hG (by decide)) hS1 (by omega) hL (by decide) la_start_1155 la_start_1156 la_start_1158 la_start_1159 la_start_1160 ?_
  refine eQ_virt (b := ma) (as := [.int (xs (i + 1))]) (n := 1) (r := (some (.int v))) la_start_1161 (by decide +kernel) (by decide +kernel) rfl rfl (Nat.le_of_ble_eq_true rfl) (by decide +kernel) hb1 hM ?_
  refine eQ_istore (lv' := xs1 6 (.int v) (xs1 5 (.int r) lv)) la_start_1164 (by decide) rfl ?_
  refine eQ_aload_n la_start_1166 hG2.2.2.1 ?_
  refine eQ_virt (b := ma) (as := []) (n := 0) (r := some (.int r)) la_start_1167 (by decide +kernel) (by decide +kernel) rfl rfl (Nat.le_of_ble_eq_true rfl) (by decide +kernel) hb2 hT ?_
  refine eQ_iload la_start_1170 g5 ?_
  refine eQ_icmp (t := 1177) la_start_1172 (by decide) (fun _ => ?_) (fun q => absurd (l_eq _) q)
  refine eQ_iload la_start_1177 g5 ?_
  refine eQ_if (t := 1201) la_start_1179 (by decide) (fun _ => ?_) (fun q => absurd hr q)
  refine eQ_goto (t := 2147) la_start_1201 (by decide) ?_
  exact xQ_r
theorem lA_members_N {p : Program} {l : Launch} {e : Env} {s : State} {m : MethodId} {args : Array Value} {below : List Frame} {meth : Method} {c : Code} {G0 : Heap} {Y : State → Prop} {D : va_G} {dA : Nat → ClassId} {base t0 u0 : Nat} {Q : State → Prop} {pF : Nat → List Value → xH → Option (Option Value × xH)} (C : lwC p l s m args c G0 Y D dA base pF) {lv : xL} {b xa ma ao i L : Nat} {xs : Nat → Int32} (hG : lwG lv b xa ma ao i) (hi : i + 6 ≤ L) (hL : L ≤ 3074) {h h1 h2 h3 : xH} {v : Int32} (hS : lwS h b L xs) (hS1 : lwS h1 b L xs) (hX : xMetW l G0 Y D dA base 31 yL_members cL_members 5 [(0, 17, 20, 25)] [.ref xa, .int (xs (i + 1)), .int (xs (i + 2)), .ref ao] h (0 : Int32) h1) (hb1 : ((xMn 325).cls = (xCl ((h1.1 ma).1 - 1)).1 ∧ 0 < (h1.1 ma).1 ∧ (h1.1 ma).1 ≤ 17)) (hb2 : ((xMn 373).cls = (xCl ((h2.1 ma).1 - 1)).1 ∧ 0 < (h2.1 ma).1 ∧ (h2.1 ma).1 ≤ 17)) (hM : xCo pF 31 325 (.ref ma :: [.int (xs (i + 1)), .int (xs (i + 2))]) h1 (some (.int v)) h2) (hT : xCo pF 31 373 [.ref ma] h2 (some (.int (0 : Int32))) h3) (ho : (h3.1 ao).1 = 21 ∧ (h3.1 ao).2.1 = 1 ∧ (h3.1 ao).2.2 0 = .long (if v = 0 then 0 else 1)) (q0 : lwR base t0 u0 h) (q1 : lwR base t0 u0 h1) (q3 : lwR base t0 u0 h3)
    (kk : ∀ lv', lwG lv' b xa ma ao i → lwW p l e s m args below meth c G0 D dA base t0 u0 Q 2147 lv' [] h3) : lwW p l e s m args below meth c G0 D dA base t0 u0 Q 1204 lv [] h := by
  refine lwQ1 C kAo_members (f := (1204, lv, [], h)) (g := (1218, lv, ([.ref xa, .int (xs (i + 1)), .int (xs (i + 2)), .ref ao]).reverse, h)) ?_ q0 q0 ?_
  · refine eQ_aload_n la_members_1204 hG.2.1 ?_
    refine eQ_sc (n := 1) hG hS (by omega) hL (by decide) la_members_1205 la_members_1206 la_members_1208 la_members_1209 la_members_1210 ?_
    refine eQ_sc (n := 2) hG hS (by omega) hL (by decide) la_members_1211 la_members_1212 la_members_1214 la_members_1215 la_members_1216 ?_
    refine eQ_aload_n la_members_1217 hG.2.2.2.1 ?_
    exact xQ_r
  refine lw_wr C hX wc_members wt_members (by decide) rfl wl_members (n := 4) (by decide +kernel) rfl (kAo_members (1218, (.invokestatic 171, 3)) (x_look rfl)) rfl q0 q1 ?_
  have hG2 : lwG (xs1 6 (.int v) (xs1 5 (.int (0 : Int32)) lv)) b xa ma ao i := (lwG_s (lwG_s hG (by decide)) (by decide))
  have g5 : xg (xs1 6 (.int v) (xs1 5 (.int (0 : Int32)) lv)) 5 = some (.int (0 : Int32)) := (xs1_keep.2 5 _ (by decide) (fun _ => rfl) xs1_keep.1)
  have g6 : xg (xs1 6 (.int v) (xs1 5 (.int (0 : Int32)) lv)) 6 = some (.int v) := xs1_keep.1
  refine lwQ1 C kAo_members (f := (1221, lv, [.int (0 : Int32)], h1)) (g := (2147, xs1 6 (.int v) (xs1 5 (.int (0 : Int32)) lv), [], h3)) ?_ q1 q3 (kk _ hG2)
  refine eQ_istore (lv' := xs1 5 (.int (0 : Int32)) lv) la_members_1221 (by decide) rfl ?_
  refine eQ_aload_n la_members_1223 (lwG_s hG (by decide)).2.2.1 ?_
  refine eQ_sc (n := 1) (lwG_s hG (by decide)) hS1 (by omega) hL (by decide) la_members_1224 la_members_1225 la_members_1227 la_members_1228 la_members_1229 ?_
  refine eQ_sc (n := 2) (lwG_s hG (by decide)) hS1 (by omega) hL (by decide) la_members_1230 la_members_1231 la_members_1233 la_members_1234 la_members_1235 ?_
  refine eQ_virt (b := ma) (as := [.int (xs (i + 1)), .int (xs (i + 2))]) (n := 2) (r := (some (.int v))) la_members_1236 (by decide +kernel) (by decide +kernel) rfl rfl (Nat.le_of_ble_eq_true rfl) (by decide +kernel) hb1 hM ?_
  refine eQ_istore (lv' := xs1 6 (.int v) (xs1 5 (.int (0 : Int32)) lv)) la_members_1239 (by decide) rfl ?_
  refine eQ_aload_n la_members_1241 hG2.2.2.1 ?_
  refine eQ_virt (b := ma) (as := []) (n := 0) (r := some (.int (0 : Int32))) la_members_1242 (by decide +kernel) (by decide +kernel) rfl rfl (Nat.le_of_ble_eq_true rfl) (by decide +kernel) hb2 hT ?_
  refine eQ_iload la_members_1245 g5 ?_
  refine eQ_icmp (t := 1252) la_members_1247 (by decide) (fun _ => ?_) (fun q => absurd (l_eq _) q)
  refine eQ_iload la_members_1252 g5 ?_
  refine eQ_if (t := 1276) la_members_1254 (by decide) (fun q => absurd q (by decide)) (fun _ => ?_)
  refine eQ_aload_n la_members_1257 hG2.2.2.2.1 ?_
  refine eQ_iconst (v := 0) la_members_1258 (by decide) ?_
  refine eQ_lald (j := 0) (x := if v = 0 then 0 else 1) la_members_1259 ho.1 (by rw [ho.2.1]; decide) (by decide) ho.2.2 ?_
  refine eQ_iload la_members_1260 g6 ?_
  refine eQ_if (t := 1269) la_members_1262 (by decide) (fun q => ?_) (fun q => ?_)
  · have e0 : v = 0 := of_decide_eq_true q
    rw [if_pos e0]
    refine eQ_lconst (v := 0) la_members_1269 (by decide) ?_
    refine eQ_lcmp la_members_1270 ?_
    rw [lg_cmp_self]
    refine eQ_if (t := 1276) la_members_1271 (by decide) (fun _ => ?_) (fun q => absurd (by decide) q)
    refine eQ_goto (t := 2147) la_members_1276 (by decide) ?_
    exact xQ_r
  · have e0 : ¬ v = 0 := fun e => q (decide_eq_true e)
    rw [if_neg e0]
    refine eQ_lconst (v := 1) la_members_1265 (by decide) ?_
    refine eQ_goto (t := 1270) la_members_1266 (by decide) ?_
    refine eQ_lcmp la_members_1270 ?_
    rw [lg_cmp_self]
    refine eQ_if (t := 1276) la_members_1271 (by decide) (fun _ => ?_) (fun q => absurd (by decide) q)
    refine eQ_goto (t := 2147) la_members_1276 (by decide) ?_
    exact xQ_r
theorem lA_members_T {p : Program} {l : Launch} {e : Env} {s : State} {m : MethodId} {args : Array Value} {below : List Frame} {meth : Method} {c : Code} {G0 : Heap} {Y : State → Prop} {D : va_G} {dA : Nat → ClassId} {base t0 u0 : Nat} {Q : State → Prop} {pF : Nat → List Value → xH → Option (Option Value × xH)} (C : lwC p l s m args c G0 Y D dA base pF) {lv : xL} {b xa ma ao i L : Nat} {xs : Nat → Int32} (hG : lwG lv b xa ma ao i) (hi : i + 6 ≤ L) (hL : L ≤ 3074) {h h1 h2 h3 : xH} {r : Int32} {v : Int32} (hS : lwS h b L xs) (hS1 : lwS h1 b L xs) (hX : xMetW l G0 Y D dA base 31 yL_members cL_members 5 [(0, 17, 20, 25)] [.ref xa, .int (xs (i + 1)), .int (xs (i + 2)), .ref ao] h r h1) (hb1 : ((xMn 325).cls = (xCl ((h1.1 ma).1 - 1)).1 ∧ 0 < (h1.1 ma).1 ∧ (h1.1 ma).1 ≤ 17)) (hb2 : ((xMn 373).cls = (xCl ((h2.1 ma).1 - 1)).1 ∧ 0 < (h2.1 ma).1 ∧ (h2.1 ma).1 ≤ 17)) (hM : xCo pF 31 325 (.ref ma :: [.int (xs (i + 1)), .int (xs (i + 2))]) h1 (some (.int v)) h2) (hT : xCo pF 31 373 [.ref ma] h2 (some (.int r)) h3) (hr : xc0 .ne r = true) (q0 : lwR base t0 u0 h) (q1 : lwR base t0 u0 h1) (q3 : lwR base t0 u0 h3)
    (kk : ∀ lv', lwG lv' b xa ma ao i → lwW p l e s m args below meth c G0 D dA base t0 u0 Q 2147 lv' [] h3) : lwW p l e s m args below meth c G0 D dA base t0 u0 Q 1204 lv [] h := by
  refine lwQ1 C kAo_members (f := (1204, lv, [], h)) (g := (1218, lv, ([.ref xa, .int (xs (i + 1)), .int (xs (i + 2)), .ref ao]).reverse, h)) ?_ q0 q0 ?_
  · refine eQ_aload_n la_members_1204 hG.2.1 ?_
    refine eQ_sc (n := 1) hG hS (by omega) hL (by decide) la_members_1205 la_members_1206 la_members_1208 la_members_1209 la_members_1210 ?_
    refine eQ_sc (n := 2) hG hS (by omega) hL (by decide) la_members_1211 la_members_1212 la_members_1214 la_members_1215 la_members_1216 ?_
    refine eQ_aload_n la_members_1217 hG.2.2.2.1 ?_
    exact xQ_r
  refine lw_wr C hX wc_members wt_members (by decide) rfl wl_members (n := 4) (by decide +kernel) rfl (kAo_members (1218, (.invokestatic 171, 3)) (x_look rfl)) rfl q0 q1 ?_
  have hG2 : lwG (xs1 6 (.int v) (xs1 5 (.int r) lv)) b xa ma ao i := (lwG_s (lwG_s hG (by decide)) (by decide))
  have g5 : xg (xs1 6 (.int v) (xs1 5 (.int r) lv)) 5 = some (.int r) := (xs1_keep.2 5 _ (by decide) (fun _ => rfl) xs1_keep.1)
  have g6 : xg (xs1 6 (.int v) (xs1 5 (.int r) lv)) 6 = some (.int v) := xs1_keep.1
  refine lwQ1 C kAo_members (f := (1221, lv, [.int r], h1)) (g := (2147, xs1 6 (.int v) (xs1 5 (.int r) lv), [], h3)) ?_ q1 q3 (kk _ hG2)
  refine eQ_istore (lv' := xs1 5 (.int r) lv) la_members_1221 (by decide) rfl ?_
  refine eQ_aload_n la_members_1223 (lwG_s hG (by decide)).2.2.1 ?_
  refine eQ_sc (n := 1) (lwG_s hG (by decide)) hS1 (by omega) hL (by decide) la_members_1224 la_members_1225 la_members_1227 la_members_1228 la_members_1229 ?_
  refine eQ_sc (n := 2) (lwG_s hG (by decide)) hS1 (by omega) hL (by decide) la_members_1230 la_members_1231 la_members_1233 la_members_1234 la_members_1235 ?_
  refine eQ_virt (b := ma) (as := [.int (xs (i + 1)), .int (xs (i + 2))]) (n := 2) (r := (some (.int v))) la_members_1236 (by decide +kernel) (by decide +kernel) rfl rfl (Nat.le_of_ble_eq_true rfl) (by decide +kernel) hb1 hM ?_
  refine eQ_istore (lv' := xs1 6 (.int v) (xs1 5 (.int r) lv)) la_members_1239 (by decide) rfl ?_
  refine eQ_aload_n la_members_1241 hG2.2.2.1 ?_
  refine eQ_virt (b := ma) (as := []) (n := 0) (r := some (.int r)) la_members_1242 (by decide +kernel) (by decide +kernel) rfl rfl (Nat.le_of_ble_eq_true rfl) (by decide +kernel) hb2 hT ?_
  refine eQ_iload la_members_1245 g5 ?_
  refine eQ_icmp (t := 1252) la_members_1247 (by decide) (fun _ => ?_) (fun q => absurd (l_eq _) q)
  refine eQ_iload la_members_1252 g5 ?_
  refine eQ_if (t := 1276) la_members_1254 (by decide) (fun _ => ?_) (fun q => absurd hr q)
  refine eQ_goto (t := 2147) la_members_1276 (by decide) ?_
  exact xQ_r
theorem lA_learners_N {p : Program} {l : Launch} {e : Env} {s : State} {m : MethodId} {args : Array Value} {below : List Frame} {meth : Method} {c : Code} {G0 : Heap} {Y : State → Prop} {D : va_G} {dA : Nat → ClassId} {base t0 u0 : Nat} {Q : State → Prop} {pF : Nat → List Value → xH → Option (Option Value × xH)} (C : lwC p l s m args c G0 Y D dA base pF) {lv : xL} {b xa ma ao i L : Nat} {xs : Nat → Int32} (hG : lwG lv b xa ma ao i) (hi : i + 6 ≤ L) (hL : L ≤ 3074) {h h1 h2 h3 : xH} {v : Int32} (hS : lwS h b L xs) (hS1 : lwS h1 b L xs) (hX : xMetW l G0 Y D dA base 31 yL_learners cL_learners 5 [(0, 17, 20, 25)] [.ref xa, .int (xs (i + 1)), .int (xs (i + 2)), .ref ao] h (0 : Int32) h1) (hb1 : ((xMn 320).cls = (xCl ((h1.1 ma).1 - 1)).1 ∧ 0 < (h1.1 ma).1 ∧ (h1.1 ma).1 ≤ 17)) (hb2 : ((xMn 373).cls = (xCl ((h2.1 ma).1 - 1)).1 ∧ 0 < (h2.1 ma).1 ∧ (h2.1 ma).1 ≤ 17)) (hM : xCo pF 31 320 (.ref ma :: [.int (xs (i + 1)), .int (xs (i + 2))]) h1 (some (.int v)) h2) (hT : xCo pF 31 373 [.ref ma] h2 (some (.int (0 : Int32))) h3) (ho : (h3.1 ao).1 = 21 ∧ (h3.1 ao).2.1 = 1 ∧ (h3.1 ao).2.2 0 = .long (if v = 0 then 0 else 1)) (q0 : lwR base t0 u0 h) (q1 : lwR base t0 u0 h1) (q3 : lwR base t0 u0 h3)
    (kk : ∀ lv', lwG lv' b xa ma ao i → lwW p l e s m args below meth c G0 D dA base t0 u0 Q 2147 lv' [] h3) : lwW p l e s m args below meth c G0 D dA base t0 u0 Q 1279 lv [] h := by
  refine lwQ1 C kAo_learners (f := (1279, lv, [], h)) (g := (1293, lv, ([.ref xa, .int (xs (i + 1)), .int (xs (i + 2)), .ref ao]).reverse, h)) ?_ q0 q0 ?_
  · refine eQ_aload_n la_learners_1279 hG.2.1 ?_
    refine eQ_sc (n := 1) hG hS (by omega) hL (by decide) la_learners_1280 la_learners_1281 la_learners_1283 la_learners_1284 la_learners_1285 ?_
    refine eQ_sc (n := 2) hG hS (by omega) hL (by decide) la_learners_1286 la_learners_1287 la_learners_1289 la_learners_1290 la_learners_1291 ?_
    refine eQ_aload_n la_learners_1292 hG.2.2.2.1 ?_
    exact xQ_r
  refine lw_wr C hX wc_learners wt_learners (by decide) rfl wl_learners (n := 4) (by decide +kernel) rfl (kAo_learners (1293, (.invokestatic 174, 3)) (x_look rfl)) rfl q0 q1 ?_
  have hG2 : lwG (xs1 6 (.int v) (xs1 5 (.int (0 : Int32)) lv)) b xa ma ao i := (lwG_s (lwG_s hG (by decide)) (by decide))
  have g5 : xg (xs1 6 (.int v) (xs1 5 (.int (0 : Int32)) lv)) 5 = some (.int (0 : Int32)) := (xs1_keep.2 5 _ (by decide) (fun _ => rfl) xs1_keep.1)
  have g6 : xg (xs1 6 (.int v) (xs1 5 (.int (0 : Int32)) lv)) 6 = some (.int v) := xs1_keep.1
  refine lwQ1 C kAo_learners (f := (1296, lv, [.int (0 : Int32)], h1)) (g := (2147, xs1 6 (.int v) (xs1 5 (.int (0 : Int32)) lv), [], h3)) ?_ q1 q3 (kk _ hG2)
  refine eQ_istore (lv' := xs1 5 (.int (0 : Int32)) lv) la_learners_1296 (by decide) rfl ?_
  refine eQ_aload_n la_learners_1298 (lwG_s hG (by decide)).2.2.1 ?_
  refine eQ_sc (n := 1) (lwG_s hG (by decide)) hS1 (by omega) hL (by decide) la_learners_1299 la_learners_1300 la_learners_1302 la_learners_1303 la_learners_1304 ?_
  refine eQ_sc (n := 2) (lwG_s hG (by decide)) hS1 (by omega) hL (by decide) la_learners_1305 la_learners_1306 la_learners_1308 la_learners_1309 la_learners_1310 ?_
  refine eQ_virt (b := ma) (as := [.int (xs (i + 1)), .int (xs (i + 2))]) (n := 2) (r := (some (.int v))) la_learners_1311 (by decide +kernel) (by decide +kernel) rfl rfl (Nat.le_of_ble_eq_true rfl) (by decide +kernel) hb1 hM ?_
  refine eQ_istore (lv' := xs1 6 (.int v) (xs1 5 (.int (0 : Int32)) lv)) la_learners_1314 (by decide) rfl ?_
  refine eQ_aload_n la_learners_1316 hG2.2.2.1 ?_
  refine eQ_virt (b := ma) (as := []) (n := 0) (r := some (.int (0 : Int32))) la_learners_1317 (by decide +kernel) (by decide +kernel) rfl rfl (Nat.le_of_ble_eq_true rfl) (by decide +kernel) hb2 hT ?_
  refine eQ_iload la_learners_1320 g5 ?_
  refine eQ_icmp (t := 1327) la_learners_1322 (by decide) (fun _ => ?_) (fun q => absurd (l_eq _) q)
  refine eQ_iload la_learners_1327 g5 ?_
  refine eQ_if (t := 1351) la_learners_1329 (by decide) (fun q => absurd q (by decide)) (fun _ => ?_)
  refine eQ_aload_n la_learners_1332 hG2.2.2.2.1 ?_
  refine eQ_iconst (v := 0) la_learners_1333 (by decide) ?_
  refine eQ_lald (j := 0) (x := if v = 0 then 0 else 1) la_learners_1334 ho.1 (by rw [ho.2.1]; decide) (by decide) ho.2.2 ?_
  refine eQ_iload la_learners_1335 g6 ?_
  refine eQ_if (t := 1344) la_learners_1337 (by decide) (fun q => ?_) (fun q => ?_)
  · have e0 : v = 0 := of_decide_eq_true q
    rw [if_pos e0]
    refine eQ_lconst (v := 0) la_learners_1344 (by decide) ?_
    refine eQ_lcmp la_learners_1345 ?_
    rw [lg_cmp_self]
    refine eQ_if (t := 1351) la_learners_1346 (by decide) (fun _ => ?_) (fun q => absurd (by decide) q)
    refine eQ_goto (t := 2147) la_learners_1351 (by decide) ?_
    exact xQ_r
  · have e0 : ¬ v = 0 := fun e => q (decide_eq_true e)
    rw [if_neg e0]
    refine eQ_lconst (v := 1) la_learners_1340 (by decide) ?_
    refine eQ_goto (t := 1345) la_learners_1341 (by decide) ?_
    refine eQ_lcmp la_learners_1345 ?_
    rw [lg_cmp_self]
    refine eQ_if (t := 1351) la_learners_1346 (by decide) (fun _ => ?_) (fun q => absurd (by decide) q)
    refine eQ_goto (t := 2147) la_learners_1351 (by decide) ?_
    exact xQ_r
theorem lA_learners_T {p : Program} {l : Launch} {e : Env} {s : State} {m : MethodId} {args : Array Value} {below : List Frame} {meth : Method} {c : Code} {G0 : Heap} {Y : State → Prop} {D : va_G} {dA : Nat → ClassId} {base t0 u0 : Nat} {Q : State → Prop} {pF : Nat → List Value → xH → Option (Option Value × xH)} (C : lwC p l s m args c G0 Y D dA base pF) {lv : xL} {b xa ma ao i L : Nat} {xs : Nat → Int32} (hG : lwG lv b xa ma ao i) (hi : i + 6 ≤ L) (hL : L ≤ 3074) {h h1 h2 h3 : xH} {r : Int32} {v : Int32} (hS : lwS h b L xs) (hS1 : lwS h1 b L xs) (hX : xMetW l G0 Y D dA base 31 yL_learners cL_learners 5 [(0, 17, 20, 25)] [.ref xa, .int (xs (i + 1)), .int (xs (i + 2)), .ref ao] h r h1) (hb1 : ((xMn 320).cls = (xCl ((h1.1 ma).1 - 1)).1 ∧ 0 < (h1.1 ma).1 ∧ (h1.1 ma).1 ≤ 17)) (hb2 : ((xMn 373).cls = (xCl ((h2.1 ma).1 - 1)).1 ∧ 0 < (h2.1 ma).1 ∧ (h2.1 ma).1 ≤ 17)) (hM : xCo pF 31 320 (.ref ma :: [.int (xs (i + 1)), .int (xs (i + 2))]) h1 (some (.int v)) h2) (hT : xCo pF 31 373 [.ref ma] h2 (some (.int r)) h3) (hr : xc0 .ne r = true) (q0 : lwR base t0 u0 h) (q1 : lwR base t0 u0 h1) (q3 : lwR base t0 u0 h3)
    (kk : ∀ lv', lwG lv' b xa ma ao i → lwW p l e s m args below meth c G0 D dA base t0 u0 Q 2147 lv' [] h3) : lwW p l e s m args below meth c G0 D dA base t0 u0 Q 1279 lv [] h := by
  refine lwQ1 C kAo_learners (f := (1279, lv, [], h)) (g := (1293, lv, ([.ref xa, .int (xs (i + 1)), .int (xs (i + 2)), .ref ao]).reverse, h)) ?_ q0 q0 ?_
  · refine eQ_aload_n la_learners_1279 hG.2.1 ?_
    refine eQ_sc (n := 1) hG hS (by omega) hL (by decide) la_learners_1280 la_learners_1281 la_learners_1283 la_learners_1284 la_learners_1285 ?_
    refine eQ_sc (n := 2) hG hS (by omega) hL (by decide) la_learners_1286 la_learners_1287 la_learners_1289 la_learners_1290 la_learners_1291 ?_
    refine eQ_aload_n la_learners_1292 hG.2.2.2.1 ?_
    exact xQ_r
  refine lw_wr C hX wc_learners wt_learners (by decide) rfl wl_learners (n := 4) (by decide +kernel) rfl (kAo_learners (1293, (.invokestatic 174, 3)) (x_look rfl)) rfl q0 q1 ?_
  have hG2 : lwG (xs1 6 (.int v) (xs1 5 (.int r) lv)) b xa ma ao i := (lwG_s (lwG_s hG (by decide)) (by decide))
  have g5 : xg (xs1 6 (.int v) (xs1 5 (.int r) lv)) 5 = some (.int r) := (xs1_keep.2 5 _ (by decide) (fun _ => rfl) xs1_keep.1)
  have g6 : xg (xs1 6 (.int v) (xs1 5 (.int r) lv)) 6 = some (.int v) := xs1_keep.1
  refine lwQ1 C kAo_learners (f := (1296, lv, [.int r], h1)) (g := (2147, xs1 6 (.int v) (xs1 5 (.int r) lv), [], h3)) ?_ q1 q3 (kk _ hG2)
  refine eQ_istore (lv' := xs1 5 (.int r) lv) la_learners_1296 (by decide) rfl ?_
  refine eQ_aload_n la_learners_1298 (lwG_s hG (by decide)).2.2.1 ?_
  refine eQ_sc (n := 1) (lwG_s hG (by decide)) hS1 (by omega) hL (by decide) la_learners_1299 la_learners_1300 la_learners_1302 la_learners_1303 la_learners_1304 ?_
  refine eQ_sc (n := 2) (lwG_s hG (by decide)) hS1 (by omega) hL (by decide) la_learners_1305 la_learners_1306 la_learners_1308 la_learners_1309 la_learners_1310 ?_
  refine eQ_virt (b := ma) (as := [.int (xs (i + 1)), .int (xs (i + 2))]) (n := 2) (r := (some (.int v))) la_learners_1311 (by decide +kernel) (by decide +kernel) rfl rfl (Nat.le_of_ble_eq_true rfl) (by decide +kernel) hb1 hM ?_
  refine eQ_istore (lv' := xs1 6 (.int v) (xs1 5 (.int r) lv)) la_learners_1314 (by decide) rfl ?_
  refine eQ_aload_n la_learners_1316 hG2.2.2.1 ?_
  refine eQ_virt (b := ma) (as := []) (n := 0) (r := some (.int r)) la_learners_1317 (by decide +kernel) (by decide +kernel) rfl rfl (Nat.le_of_ble_eq_true rfl) (by decide +kernel) hb2 hT ?_
  refine eQ_iload la_learners_1320 g5 ?_
  refine eQ_icmp (t := 1327) la_learners_1322 (by decide) (fun _ => ?_) (fun q => absurd (l_eq _) q)
  refine eQ_iload la_learners_1327 g5 ?_
  refine eQ_if (t := 1351) la_learners_1329 (by decide) (fun _ => ?_) (fun q => absurd hr q)
  refine eQ_goto (t := 2147) la_learners_1351 (by decide) ?_
  exact xQ_r
theorem lA_hand_N {p : Program} {l : Launch} {e : Env} {s : State} {m : MethodId} {args : Array Value} {below : List Frame} {meth : Method} {c : Code} {G0 : Heap} {Y : State → Prop} {D : va_G} {dA : Nat → ClassId} {base t0 u0 : Nat} {Q : State → Prop} {pF : Nat → List Value → xH → Option (Option Value × xH)} (C : lwC p l s m args c G0 Y D dA base pF) {lv : xL} {b xa ma ao i L : Nat} {xs : Nat → Int32} (hG : lwG lv b xa ma ao i) (hi : i + 6 ≤ L) (hL : L ≤ 3074) {h h1 h2 h3 : xH} {v : Int32} (hS : lwS h b L xs) (hS1 : lwS h1 b L xs) (hX : xMetW l G0 Y D dA base 31 yL_hand cL_hand 5 [(0, 17, 20, 25)] [.ref xa, .int (xs (i + 1)), .int (xs (i + 2)), .ref ao] h (0 : Int32) h1) (hb1 : ((xMn 289).cls = (xCl ((h1.1 ma).1 - 1)).1 ∧ 0 < (h1.1 ma).1 ∧ (h1.1 ma).1 ≤ 17)) (hb2 : ((xMn 373).cls = (xCl ((h2.1 ma).1 - 1)).1 ∧ 0 < (h2.1 ma).1 ∧ (h2.1 ma).1 ≤ 17)) (hM : xCo pF 31 289 (.ref ma :: [.int (xs (i + 1)), .int (xs (i + 2))]) h1 (some (.int v)) h2) (hT : xCo pF 31 373 [.ref ma] h2 (some (.int (0 : Int32))) h3) (ho : (h3.1 ao).1 = 21 ∧ (h3.1 ao).2.1 = 1 ∧ (h3.1 ao).2.2 0 = .long (if v = 0 then 0 else 1)) (q0 : lwR base t0 u0 h) (q1 : lwR base t0 u0 h1) (q3 : lwR base t0 u0 h3)
    (kk : ∀ lv', lwG lv' b xa ma ao i → lwW p l e s m args below meth c G0 D dA base t0 u0 Q 2147 lv' [] h3) : lwW p l e s m args below meth c G0 D dA base t0 u0 Q 1354 lv [] h := by
  refine lwQ1 C kAo_hand (f := (1354, lv, [], h)) (g := (1368, lv, ([.ref xa, .int (xs (i + 1)), .int (xs (i + 2)), .ref ao]).reverse, h)) ?_ q0 q0 ?_
  · refine eQ_aload_n la_hand_1354 hG.2.1 ?_
    refine eQ_sc (n := 1) hG hS (by omega) hL (by decide) la_hand_1355 la_hand_1356 la_hand_1358 la_hand_1359 la_hand_1360 ?_
    refine eQ_sc (n := 2) hG hS (by omega) hL (by decide) la_hand_1361 la_hand_1362 la_hand_1364 la_hand_1365 la_hand_1366 ?_
    refine eQ_aload_n la_hand_1367 hG.2.2.2.1 ?_
    exact xQ_r
  refine lw_wr C hX wc_hand wt_hand (by decide) rfl wl_hand (n := 4) (by decide +kernel) rfl (kAo_hand (1368, (.invokestatic 177, 3)) (x_look rfl)) rfl q0 q1 ?_
  have hG2 : lwG (xs1 6 (.int v) (xs1 5 (.int (0 : Int32)) lv)) b xa ma ao i := (lwG_s (lwG_s hG (by decide)) (by decide))
  have g5 : xg (xs1 6 (.int v) (xs1 5 (.int (0 : Int32)) lv)) 5 = some (.int (0 : Int32)) := (xs1_keep.2 5 _ (by decide) (fun _ => rfl) xs1_keep.1)
  have g6 : xg (xs1 6 (.int v) (xs1 5 (.int (0 : Int32)) lv)) 6 = some (.int v) := xs1_keep.1
  refine lwQ1 C kAo_hand (f := (1371, lv, [.int (0 : Int32)], h1)) (g := (2147, xs1 6 (.int v) (xs1 5 (.int (0 : Int32)) lv), [], h3)) ?_ q1 q3 (kk _ hG2)
  refine eQ_istore (lv' := xs1 5 (.int (0 : Int32)) lv) la_hand_1371 (by decide) rfl ?_
  refine eQ_aload_n la_hand_1373 (lwG_s hG (by decide)).2.2.1 ?_
  refine eQ_sc (n := 1) (lwG_s hG (by decide)) hS1 (by omega) hL (by decide) la_hand_1374 la_hand_1375 la_hand_1377 la_hand_1378 la_hand_1379 ?_
  refine eQ_sc (n := 2) (lwG_s hG (by decide)) hS1 (by omega) hL (by decide) la_hand_1380 la_hand_1381 la_hand_1383 la_hand_1384 la_hand_1385 ?_
  refine eQ_virt (b := ma) (as := [.int (xs (i + 1)), .int (xs (i + 2))]) (n := 2) (r := (some (.int v))) la_hand_1386 (by decide +kernel) (by decide +kernel) rfl rfl (Nat.le_of_ble_eq_true rfl) (by decide +kernel) hb1 hM ?_
  refine eQ_istore (lv' := xs1 6 (.int v) (xs1 5 (.int (0 : Int32)) lv)) la_hand_1389 (by decide) rfl ?_
  refine eQ_aload_n la_hand_1391 hG2.2.2.1 ?_
  refine eQ_virt (b := ma) (as := []) (n := 0) (r := some (.int (0 : Int32))) la_hand_1392 (by decide +kernel) (by decide +kernel) rfl rfl (Nat.le_of_ble_eq_true rfl) (by decide +kernel) hb2 hT ?_
  refine eQ_iload la_hand_1395 g5 ?_
  refine eQ_icmp (t := 1402) la_hand_1397 (by decide) (fun _ => ?_) (fun q => absurd (l_eq _) q)
  refine eQ_iload la_hand_1402 g5 ?_
  refine eQ_if (t := 1426) la_hand_1404 (by decide) (fun q => absurd q (by decide)) (fun _ => ?_)
  refine eQ_aload_n la_hand_1407 hG2.2.2.2.1 ?_
  refine eQ_iconst (v := 0) la_hand_1408 (by decide) ?_
  refine eQ_lald (j := 0) (x := if v = 0 then 0 else 1) la_hand_1409 ho.1 (by rw [ho.2.1]; decide) (by decide) ho.2.2 ?_
  refine eQ_iload la_hand_1410 g6 ?_
  refine eQ_if (t := 1419) la_hand_1412 (by decide) (fun q => ?_) (fun q => ?_)
  · have e0 : v = 0 := of_decide_eq_true q
    rw [if_pos e0]
    refine eQ_lconst (v := 0) la_hand_1419 (by decide) ?_
    refine eQ_lcmp la_hand_1420 ?_
    rw [lg_cmp_self]
    refine eQ_if (t := 1426) la_hand_1421 (by decide) (fun _ => ?_) (fun q => absurd (by decide) q)
    refine eQ_goto (t := 2147) la_hand_1426 (by decide) ?_
    exact xQ_r
  · have e0 : ¬ v = 0 := fun e => q (decide_eq_true e)
    rw [if_neg e0]
    refine eQ_lconst (v := 1) la_hand_1415 (by decide) ?_
    refine eQ_goto (t := 1420) la_hand_1416 (by decide) ?_
    refine eQ_lcmp la_hand_1420 ?_
    rw [lg_cmp_self]
    refine eQ_if (t := 1426) la_hand_1421 (by decide) (fun _ => ?_) (fun q => absurd (by decide) q)
    refine eQ_goto (t := 2147) la_hand_1426 (by decide) ?_
    exact xQ_r
theorem lA_hand_T {p : Program} {l : Launch} {e : Env} {s : State} {m : MethodId} {args : Array Value} {below : List Frame} {meth : Method} {c : Code} {G0 : Heap} {Y : State → Prop} {D : va_G} {dA : Nat → ClassId} {base t0 u0 : Nat} {Q : State → Prop} {pF : Nat → List Value → xH → Option (Option Value × xH)} (C : lwC p l s m args c G0 Y D dA base pF) {lv : xL} {b xa ma ao i L : Nat} {xs : Nat → Int32} (hG : lwG lv b xa ma ao i) (hi : i + 6 ≤ L) (hL : L ≤ 3074) {h h1 h2 h3 : xH} {r : Int32} {v : Int32} (hS : lwS h b L xs) (hS1 : lwS h1 b L xs) (hX : xMetW l G0 Y D dA base 31 yL_hand cL_hand 5 [(0, 17, 20, 25)] [.ref xa, .int (xs (i + 1)), .int (xs (i + 2)), .ref ao] h r h1) (hb1 : ((xMn 289).cls = (xCl ((h1.1 ma).1 - 1)).1 ∧ 0 < (h1.1 ma).1 ∧ (h1.1 ma).1 ≤ 17)) (hb2 : ((xMn 373).cls = (xCl ((h2.1 ma).1 - 1)).1 ∧ 0 < (h2.1 ma).1 ∧ (h2.1 ma).1 ≤ 17)) (hM : xCo pF 31 289 (.ref ma :: [.int (xs (i + 1)), .int (xs (i + 2))]) h1 (some (.int v)) h2) (hT : xCo pF 31 373 [.ref ma] h2 (some (.int r)) h3) (hr : xc0 .ne r = true) (q0 : lwR base t0 u0 h) (q1 : lwR base t0 u0 h1) (q3 : lwR base t0 u0 h3)
    (kk : ∀ lv', lwG lv' b xa ma ao i → lwW p l e s m args below meth c G0 D dA base t0 u0 Q 2147 lv' [] h3) : lwW p l e s m args below meth c G0 D dA base t0 u0 Q 1354 lv [] h := by
  refine lwQ1 C kAo_hand (f := (1354, lv, [], h)) (g := (1368, lv, ([.ref xa, .int (xs (i + 1)), .int (xs (i + 2)), .ref ao]).reverse, h)) ?_ q0 q0 ?_
  · refine eQ_aload_n la_hand_1354 hG.2.1 ?_
    refine eQ_sc (n := 1) hG hS (by omega) hL (by decide) la_hand_1355 la_hand_1356 la_hand_1358 la_hand_1359 la_hand_1360 ?_
    refine eQ_sc (n := 2) hG hS (by omega) hL (by decide) la_hand_1361 la_hand_1362 la_hand_1364 la_hand_1365 la_hand_1366 ?_
    refine eQ_aload_n la_hand_1367 hG.2.2.2.1 ?_
    exact xQ_r
  refine lw_wr C hX wc_hand wt_hand (by decide) rfl wl_hand (n := 4) (by decide +kernel) rfl (kAo_hand (1368, (.invokestatic 177, 3)) (x_look rfl)) rfl q0 q1 ?_
  have hG2 : lwG (xs1 6 (.int v) (xs1 5 (.int r) lv)) b xa ma ao i := (lwG_s (lwG_s hG (by decide)) (by decide))
  have g5 : xg (xs1 6 (.int v) (xs1 5 (.int r) lv)) 5 = some (.int r) := (xs1_keep.2 5 _ (by decide) (fun _ => rfl) xs1_keep.1)
  have g6 : xg (xs1 6 (.int v) (xs1 5 (.int r) lv)) 6 = some (.int v) := xs1_keep.1
  refine lwQ1 C kAo_hand (f := (1371, lv, [.int r], h1)) (g := (2147, xs1 6 (.int v) (xs1 5 (.int r) lv), [], h3)) ?_ q1 q3 (kk _ hG2)
  refine eQ_istore (lv' := xs1 5 (.int r) lv) la_hand_1371 (by decide) rfl ?_
  refine eQ_aload_n la_hand_1373 (lwG_s hG (by decide)).2.2.1 ?_
  refine eQ_sc (n := 1) (lwG_s hG (by decide)) hS1 (by omega) hL (by decide) la_hand_1374 la_hand_1375 la_hand_1377 la_hand_1378 la_hand_1379 ?_
  refine eQ_sc (n := 2) (lwG_s hG (by decide)) hS1 (by omega) hL (by decide) la_hand_1380 la_hand_1381 la_hand_1383 la_hand_1384 la_hand_1385 ?_
  refine eQ_virt (b := ma) (as := [.int (xs (i + 1)), .int (xs (i + 2))]) (n := 2) (r := (some (.int v))) la_hand_1386 (by decide +kernel) (by decide +kernel) rfl rfl (Nat.le_of_ble_eq_true rfl) (by decide +kernel) hb1 hM ?_
  refine eQ_istore (lv' := xs1 6 (.int v) (xs1 5 (.int r) lv)) la_hand_1389 (by decide) rfl ?_
  refine eQ_aload_n la_hand_1391 hG2.2.2.1 ?_
  refine eQ_virt (b := ma) (as := []) (n := 0) (r := some (.int r)) la_hand_1392 (by decide +kernel) (by decide +kernel) rfl rfl (Nat.le_of_ble_eq_true rfl) (by decide +kernel) hb2 hT ?_
  refine eQ_iload la_hand_1395 g5 ?_
  refine eQ_icmp (t := 1402) la_hand_1397 (by decide) (fun _ => ?_) (fun q => absurd (l_eq _) q)
  refine eQ_iload la_hand_1402 g5 ?_
  refine eQ_if (t := 1426) la_hand_1404 (by decide) (fun _ => ?_) (fun q => absurd hr q)
  refine eQ_goto (t := 2147) la_hand_1426 (by decide) ?_
  exact xQ_r
theorem lA_now_N {p : Program} {l : Launch} {e : Env} {s : State} {m : MethodId} {args : Array Value} {below : List Frame} {meth : Method} {c : Code} {G0 : Heap} {Y : State → Prop} {D : va_G} {dA : Nat → ClassId} {base t0 u0 : Nat} {Q : State → Prop} {pF : Nat → List Value → xH → Option (Option Value × xH)} (C : lwC p l s m args c G0 Y D dA base pF) {lv : xL} {b xa ma ao i L : Nat} {xs : Nat → Int32} (hG : lwG lv b xa ma ao i) (hi : i + 6 ≤ L) (hL : L ≤ 3074) {h h1 h3 : xH} {v : Int32} (hS : lwS h b L xs) (hS1 : lwS h1 b L xs) (hb0 : ((xMn 231).cls = (xCl ((h.1 xa).1 - 1)).1 ∧ 0 < (h.1 xa).1 ∧ (h.1 xa).1 ≤ 17)) (hb1 : ((xMn 329).cls = (xCl ((h1.1 ma).1 - 1)).1 ∧ 0 < (h1.1 ma).1 ∧ (h1.1 ma).1 ≤ 17)) (hX : xCo pF 31 231 (.ref xa :: []) h (some (.int v)) h1) (hM : xCo pF 31 329 (.ref ma :: []) h1 (some (.int v)) h3) (q0 : lwR base t0 u0 h) (q3 : lwR base t0 u0 h3)
    (kk : ∀ lv', lwG lv' b xa ma ao i → lwW p l e s m args below meth c G0 D dA base t0 u0 Q 2147 lv' [] h3) : lwW p l e s m args below meth c G0 D dA base t0 u0 Q 1429 lv [] h := by
  refine lwQ1 C kAo_now (f := (1429, lv, [], h)) (g := (2147, lv, [], h3)) ?_ q0 q3 (kk _ hG)
  refine eQ_aload_n la_now_1429 hG.2.1 ?_
  refine eQ_virt (b := xa) (as := []) (n := 0) (r := some (.int v)) la_now_1430 (by decide +kernel) (by decide +kernel) rfl rfl (Nat.le_of_ble_eq_true rfl) (by decide +kernel) hb0 hX ?_
  refine eQ_aload_n la_now_1433 hG.2.2.1 ?_
  refine eQ_virt (b := ma) (as := []) (n := 0) (r := some (.int v)) la_now_1434 (by decide +kernel) (by decide +kernel) rfl rfl (Nat.le_of_ble_eq_true rfl) (by decide +kernel) hb1 hM ?_
  refine eQ_icmp (t := 2147) la_now_1437 (by decide) (fun _ => ?_) (fun q => absurd (l_eq _) q)
  exact xQ_r
theorem lA_server_N {p : Program} {l : Launch} {e : Env} {s : State} {m : MethodId} {args : Array Value} {below : List Frame} {meth : Method} {c : Code} {G0 : Heap} {Y : State → Prop} {D : va_G} {dA : Nat → ClassId} {base t0 u0 : Nat} {Q : State → Prop} {pF : Nat → List Value → xH → Option (Option Value × xH)} (C : lwC p l s m args c G0 Y D dA base pF) {lv : xL} {b xa ma ao i L : Nat} {xs : Nat → Int32} (hG : lwG lv b xa ma ao i) (hi : i + 6 ≤ L) (hL : L ≤ 3074) {h h1 h2 h3 : xH} {v : Int32} (hS : lwS h b L xs) (hS1 : lwS h1 b L xs) (hX : xMetW l G0 Y D dA base 31 yL_server cL_server 5 [(0, 10, 13, 25)] [.ref xa, .int (xs (i + 1)), .int (xs (i + 2)), .ref ao] h (0 : Int32) h1) (hb1 : ((xMn 357).cls = (xCl ((h1.1 ma).1 - 1)).1 ∧ 0 < (h1.1 ma).1 ∧ (h1.1 ma).1 ≤ 17)) (hb2 : ((xMn 373).cls = (xCl ((h2.1 ma).1 - 1)).1 ∧ 0 < (h2.1 ma).1 ∧ (h2.1 ma).1 ≤ 17)) (hM : xCo pF 31 357 (.ref ma :: [.int (xs (i + 1)), .int (xs (i + 2))]) h1 (some (.int v)) h2) (hT : xCo pF 31 373 [.ref ma] h2 (some (.int (0 : Int32))) h3) (ho : (h3.1 ao).1 = 21 ∧ (h3.1 ao).2.1 = 1 ∧ (h3.1 ao).2.2 0 = .long (v.toInt64)) (q0 : lwR base t0 u0 h) (q1 : lwR base t0 u0 h1) (q3 : lwR base t0 u0 h3)
    (kk : ∀ lv', lwG lv' b xa ma ao i → lwW p l e s m args below meth c G0 D dA base t0 u0 Q 2147 lv' [] h3) : lwW p l e s m args below meth c G0 D dA base t0 u0 Q 1442 lv [] h := by
  refine lwQ1 C kAo_server (f := (1442, lv, [], h)) (g := (1456, lv, ([.ref xa, .int (xs (i + 1)), .int (xs (i + 2)), .ref ao]).reverse, h)) ?_ q0 q0 ?_
  · refine eQ_aload_n la_server_1442 hG.2.1 ?_
    refine eQ_sc (n := 1) hG hS (by omega) hL (by decide) la_server_1443 la_server_1444 la_server_1446 la_server_1447 la_server_1448 ?_
    refine eQ_sc (n := 2) hG hS (by omega) hL (by decide) la_server_1449 la_server_1450 la_server_1452 la_server_1453 la_server_1454 ?_
    refine eQ_aload_n la_server_1455 hG.2.2.2.1 ?_
    exact xQ_r
  refine lw_wr C hX wc_server wt_server (by decide) rfl wl_server (n := 4) (by decide +kernel) rfl (kAo_server (1456, (.invokestatic 184, 3)) (x_look rfl)) rfl q0 q1 ?_
  have hG2 : lwG (xs1 6 (.int v) (xs1 5 (.int (0 : Int32)) lv)) b xa ma ao i := (lwG_s (lwG_s hG (by decide)) (by decide))
  have g5 : xg (xs1 6 (.int v) (xs1 5 (.int (0 : Int32)) lv)) 5 = some (.int (0 : Int32)) := (xs1_keep.2 5 _ (by decide) (fun _ => rfl) xs1_keep.1)
  have g6 : xg (xs1 6 (.int v) (xs1 5 (.int (0 : Int32)) lv)) 6 = some (.int v) := xs1_keep.1
  refine lwQ1 C kAo_server (f := (1459, lv, [.int (0 : Int32)], h1)) (g := (2147, xs1 6 (.int v) (xs1 5 (.int (0 : Int32)) lv), [], h3)) ?_ q1 q3 (kk _ hG2)
  refine eQ_istore (lv' := xs1 5 (.int (0 : Int32)) lv) la_server_1459 (by decide) rfl ?_
  refine eQ_aload_n la_server_1461 (lwG_s hG (by decide)).2.2.1 ?_
  refine eQ_sc (n := 1) (lwG_s hG (by decide)) hS1 (by omega) hL (by decide) la_server_1462 la_server_1463 la_server_1465 la_server_1466 la_server_1467 ?_
  refine eQ_sc (n := 2) (lwG_s hG (by decide)) hS1 (by omega) hL (by decide) la_server_1468 la_server_1469 la_server_1471 la_server_1472 la_server_1473 ?_
  refine eQ_virt (b := ma) (as := [.int (xs (i + 1)), .int (xs (i + 2))]) (n := 2) (r := (some (.int v))) la_server_1474 (by decide +kernel) (by decide +kernel) rfl rfl (Nat.le_of_ble_eq_true rfl) (by decide +kernel) hb1 hM ?_
  refine eQ_istore (lv' := xs1 6 (.int v) (xs1 5 (.int (0 : Int32)) lv)) la_server_1477 (by decide) rfl ?_
  refine eQ_aload_n la_server_1479 hG2.2.2.1 ?_
  refine eQ_virt (b := ma) (as := []) (n := 0) (r := some (.int (0 : Int32))) la_server_1480 (by decide +kernel) (by decide +kernel) rfl rfl (Nat.le_of_ble_eq_true rfl) (by decide +kernel) hb2 hT ?_
  refine eQ_iload la_server_1483 g5 ?_
  refine eQ_icmp (t := 1490) la_server_1485 (by decide) (fun _ => ?_) (fun q => absurd (l_eq _) q)
  refine eQ_iload la_server_1490 g5 ?_
  refine eQ_if (t := 1507) la_server_1492 (by decide) (fun q => absurd q (by decide)) (fun _ => ?_)
  refine eQ_aload_n la_server_1495 hG2.2.2.2.1 ?_
  refine eQ_iconst (v := 0) la_server_1496 (by decide) ?_
  refine eQ_lald (j := 0) (x := v.toInt64) la_server_1497 ho.1 (by rw [ho.2.1]; decide) (by decide) ho.2.2 ?_
  refine eQ_iload la_server_1498 g6 ?_
  refine eQ_i2l la_server_1500 ?_
  refine eQ_lcmp la_server_1501 ?_
  rw [lg_cmp_self]
  refine eQ_if (t := 1507) la_server_1502 (by decide) (fun _ => ?_) (fun q => absurd (by decide) q)
  refine eQ_goto (t := 2147) la_server_1507 (by decide) ?_
  exact xQ_r
theorem lA_server_T {p : Program} {l : Launch} {e : Env} {s : State} {m : MethodId} {args : Array Value} {below : List Frame} {meth : Method} {c : Code} {G0 : Heap} {Y : State → Prop} {D : va_G} {dA : Nat → ClassId} {base t0 u0 : Nat} {Q : State → Prop} {pF : Nat → List Value → xH → Option (Option Value × xH)} (C : lwC p l s m args c G0 Y D dA base pF) {lv : xL} {b xa ma ao i L : Nat} {xs : Nat → Int32} (hG : lwG lv b xa ma ao i) (hi : i + 6 ≤ L) (hL : L ≤ 3074) {h h1 h2 h3 : xH} {r : Int32} {v : Int32} (hS : lwS h b L xs) (hS1 : lwS h1 b L xs) (hX : xMetW l G0 Y D dA base 31 yL_server cL_server 5 [(0, 10, 13, 25)] [.ref xa, .int (xs (i + 1)), .int (xs (i + 2)), .ref ao] h r h1) (hb1 : ((xMn 357).cls = (xCl ((h1.1 ma).1 - 1)).1 ∧ 0 < (h1.1 ma).1 ∧ (h1.1 ma).1 ≤ 17)) (hb2 : ((xMn 373).cls = (xCl ((h2.1 ma).1 - 1)).1 ∧ 0 < (h2.1 ma).1 ∧ (h2.1 ma).1 ≤ 17)) (hM : xCo pF 31 357 (.ref ma :: [.int (xs (i + 1)), .int (xs (i + 2))]) h1 (some (.int v)) h2) (hT : xCo pF 31 373 [.ref ma] h2 (some (.int r)) h3) (hr : xc0 .ne r = true) (q0 : lwR base t0 u0 h) (q1 : lwR base t0 u0 h1) (q3 : lwR base t0 u0 h3)
    (kk : ∀ lv', lwG lv' b xa ma ao i → lwW p l e s m args below meth c G0 D dA base t0 u0 Q 2147 lv' [] h3) : lwW p l e s m args below meth c G0 D dA base t0 u0 Q 1442 lv [] h := by
  refine lwQ1 C kAo_server (f := (1442, lv, [], h)) (g := (1456, lv, ([.ref xa, .int (xs (i + 1)), .int (xs (i + 2)), .ref ao]).reverse, h)) ?_ q0 q0 ?_
  · refine eQ_aload_n la_server_1442 hG.2.1 ?_
    refine eQ_sc (n := 1) hG hS (by omega) hL (by decide) la_server_1443 la_server_1444 la_server_1446 la_server_1447 la_server_1448 ?_
    refine eQ_sc (n := 2) hG hS (by omega) hL (by decide) la_server_1449 la_server_1450 la_server_1452 la_server_1453 la_server_1454 ?_
    refine eQ_aload_n la_server_1455 hG.2.2.2.1 ?_
    exact xQ_r
  refine lw_wr C hX wc_server wt_server (by decide) rfl wl_server (n := 4) (by decide +kernel) rfl (kAo_server (1456, (.invokestatic 184, 3)) (x_look rfl)) rfl q0 q1 ?_
  have hG2 : lwG (xs1 6 (.int v) (xs1 5 (.int r) lv)) b xa ma ao i := (lwG_s (lwG_s hG (by decide)) (by decide))
  have g5 : xg (xs1 6 (.int v) (xs1 5 (.int r) lv)) 5 = some (.int r) := (xs1_keep.2 5 _ (by decide) (fun _ => rfl) xs1_keep.1)
  have g6 : xg (xs1 6 (.int v) (xs1 5 (.int r) lv)) 6 = some (.int v) := xs1_keep.1
  refine lwQ1 C kAo_server (f := (1459, lv, [.int r], h1)) (g := (2147, xs1 6 (.int v) (xs1 5 (.int r) lv), [], h3)) ?_ q1 q3 (kk _ hG2)
  refine eQ_istore (lv' := xs1 5 (.int r) lv) la_server_1459 (by decide) rfl ?_
  refine eQ_aload_n la_server_1461 (lwG_s hG (by decide)).2.2.1 ?_
  refine eQ_sc (n := 1) (lwG_s hG (by decide)) hS1 (by omega) hL (by decide) la_server_1462 la_server_1463 la_server_1465 la_server_1466 la_server_1467 ?_
  refine eQ_sc (n := 2) (lwG_s hG (by decide)) hS1 (by omega) hL (by decide) la_server_1468 la_server_1469 la_server_1471 la_server_1472 la_server_1473 ?_
  refine eQ_virt (b := ma) (as := [.int (xs (i + 1)), .int (xs (i + 2))]) (n := 2) (r := (some (.int v))) la_server_1474 (by decide +kernel) (by decide +kernel) rfl rfl (Nat.le_of_ble_eq_true rfl) (by decide +kernel) hb1 hM ?_
  refine eQ_istore (lv' := xs1 6 (.int v) (xs1 5 (.int r) lv)) la_server_1477 (by decide) rfl ?_
  refine eQ_aload_n la_server_1479 hG2.2.2.1 ?_
  refine eQ_virt (b := ma) (as := []) (n := 0) (r := some (.int r)) la_server_1480 (by decide +kernel) (by decide +kernel) rfl rfl (Nat.le_of_ble_eq_true rfl) (by decide +kernel) hb2 hT ?_
  refine eQ_iload la_server_1483 g5 ?_
  refine eQ_icmp (t := 1490) la_server_1485 (by decide) (fun _ => ?_) (fun q => absurd (l_eq _) q)
  refine eQ_iload la_server_1490 g5 ?_
  refine eQ_if (t := 1507) la_server_1492 (by decide) (fun _ => ?_) (fun q => absurd hr q)
  refine eQ_goto (t := 2147) la_server_1507 (by decide) ?_
  exact xQ_r
theorem lA_entry_N {p : Program} {l : Launch} {e : Env} {s : State} {m : MethodId} {args : Array Value} {below : List Frame} {meth : Method} {c : Code} {G0 : Heap} {Y : State → Prop} {D : va_G} {dA : Nat → ClassId} {base t0 u0 : Nat} {Q : State → Prop} {pF : Nat → List Value → xH → Option (Option Value × xH)} (C : lwC p l s m args c G0 Y D dA base pF) {lv : xL} {b xa ma ao i L : Nat} {xs : Nat → Int32} (hG : lwG lv b xa ma ao i) (hi : i + 6 ≤ L) (hL : L ≤ 3074) {h h1 h2 h3 : xH} {v : Int32} (hS : lwS h b L xs) (hS1 : lwS h1 b L xs) (hX : xMetW l G0 Y D dA base 31 yL_entry cL_entry 6 [(0, 12, 15, 25)] [.ref xa, .int (xs (i + 1)), .int (xs (i + 2)), .int (xs (i + 3)), .ref ao] h (0 : Int32) h1) (hb1 : ((xMn 277).cls = (xCl ((h1.1 ma).1 - 1)).1 ∧ 0 < (h1.1 ma).1 ∧ (h1.1 ma).1 ≤ 17)) (hb2 : ((xMn 373).cls = (xCl ((h2.1 ma).1 - 1)).1 ∧ 0 < (h2.1 ma).1 ∧ (h2.1 ma).1 ≤ 17)) (hM : xCo pF 31 277 (.ref ma :: [.int (xs (i + 1)), .int (xs (i + 2)), .int (xs (i + 3))]) h1 (some (.int v)) h2) (hT : xCo pF 31 373 [.ref ma] h2 (some (.int (0 : Int32))) h3) (ho : (h3.1 ao).1 = 21 ∧ (h3.1 ao).2.1 = 1 ∧ (h3.1 ao).2.2 0 = .long (v.toInt64)) (q0 : lwR base t0 u0 h) (q1 : lwR base t0 u0 h1) (q3 : lwR base t0 u0 h3)
    (kk : ∀ lv', lwG lv' b xa ma ao i → lwW p l e s m args below meth c G0 D dA base t0 u0 Q 2147 lv' [] h3) : lwW p l e s m args below meth c G0 D dA base t0 u0 Q 1510 lv [] h := by
  refine lwQ1 C kAo_entry (f := (1510, lv, [], h)) (g := (1530, lv, ([.ref xa, .int (xs (i + 1)), .int (xs (i + 2)), .int (xs (i + 3)), .ref ao]).reverse, h)) ?_ q0 q0 ?_
  · refine eQ_aload_n la_entry_1510 hG.2.1 ?_
    refine eQ_sc (n := 1) hG hS (by omega) hL (by decide) la_entry_1511 la_entry_1512 la_entry_1514 la_entry_1515 la_entry_1516 ?_
    refine eQ_sc (n := 2) hG hS (by omega) hL (by decide) la_entry_1517 la_entry_1518 la_entry_1520 la_entry_1521 la_entry_1522 ?_
    refine eQ_sc (n := 3) hG hS (by omega) hL (by decide) la_entry_1523 la_entry_1524 la_entry_1526 la_entry_1527 la_entry_1528 ?_
    refine eQ_aload_n la_entry_1529 hG.2.2.2.1 ?_
    exact xQ_r
  refine lw_wr C hX wc_entry wt_entry (by decide) rfl wl_entry (n := 5) (by decide +kernel) rfl (kAo_entry (1530, (.invokestatic 187, 3)) (x_look rfl)) rfl q0 q1 ?_
  have hG2 : lwG (xs1 6 (.int v) (xs1 5 (.int (0 : Int32)) lv)) b xa ma ao i := (lwG_s (lwG_s hG (by decide)) (by decide))
  have g5 : xg (xs1 6 (.int v) (xs1 5 (.int (0 : Int32)) lv)) 5 = some (.int (0 : Int32)) := (xs1_keep.2 5 _ (by decide) (fun _ => rfl) xs1_keep.1)
  have g6 : xg (xs1 6 (.int v) (xs1 5 (.int (0 : Int32)) lv)) 6 = some (.int v) := xs1_keep.1
  refine lwQ1 C kAo_entry (f := (1533, lv, [.int (0 : Int32)], h1)) (g := (2147, xs1 6 (.int v) (xs1 5 (.int (0 : Int32)) lv), [], h3)) ?_ q1 q3 (kk _ hG2)
  refine eQ_istore (lv' := xs1 5 (.int (0 : Int32)) lv) la_entry_1533 (by decide) rfl ?_
  refine eQ_aload_n la_entry_1535 (lwG_s hG (by decide)).2.2.1 ?_
  refine eQ_sc (n := 1) (lwG_s hG (by decide)) hS1 (by omega) hL (by decide) la_entry_1536 la_entry_1537 la_entry_1539 la_entry_1540 la_entry_1541 ?_
  refine eQ_sc (n := 2) (lwG_s hG (by decide)) hS1 (by omega) hL (by decide) la_entry_1542 la_entry_1543 la_entry_1545 la_entry_1546 la_entry_1547 ?_
  refine eQ_sc (n := 3) (lwG_s hG (by decide)) hS1 (by omega) hL (by decide) la_entry_1548 la_entry_1549 la_entry_1551 la_entry_1552 la_entry_1553 ?_
  refine eQ_virt (b := ma) (as := [.int (xs (i + 1)), .int (xs (i + 2)), .int (xs (i + 3))]) (n := 3) (r := (some (.int v))) la_entry_1554 (by decide +kernel) (by decide +kernel) rfl rfl (Nat.le_of_ble_eq_true rfl) (by decide +kernel) hb1 hM ?_
  refine eQ_istore (lv' := xs1 6 (.int v) (xs1 5 (.int (0 : Int32)) lv)) la_entry_1557 (by decide) rfl ?_
  refine eQ_aload_n la_entry_1559 hG2.2.2.1 ?_
  refine eQ_virt (b := ma) (as := []) (n := 0) (r := some (.int (0 : Int32))) la_entry_1560 (by decide +kernel) (by decide +kernel) rfl rfl (Nat.le_of_ble_eq_true rfl) (by decide +kernel) hb2 hT ?_
  refine eQ_iload la_entry_1563 g5 ?_
  refine eQ_icmp (t := 1570) la_entry_1565 (by decide) (fun _ => ?_) (fun q => absurd (l_eq _) q)
  refine eQ_iload la_entry_1570 g5 ?_
  refine eQ_if (t := 1587) la_entry_1572 (by decide) (fun q => absurd q (by decide)) (fun _ => ?_)
  refine eQ_aload_n la_entry_1575 hG2.2.2.2.1 ?_
  refine eQ_iconst (v := 0) la_entry_1576 (by decide) ?_
  refine eQ_lald (j := 0) (x := v.toInt64) la_entry_1577 ho.1 (by rw [ho.2.1]; decide) (by decide) ho.2.2 ?_
  refine eQ_iload la_entry_1578 g6 ?_
  refine eQ_i2l la_entry_1580 ?_
  refine eQ_lcmp la_entry_1581 ?_
  rw [lg_cmp_self]
  refine eQ_if (t := 1587) la_entry_1582 (by decide) (fun _ => ?_) (fun q => absurd (by decide) q)
  refine eQ_goto (t := 2147) la_entry_1587 (by decide) ?_
  exact xQ_r
theorem lA_entry_T {p : Program} {l : Launch} {e : Env} {s : State} {m : MethodId} {args : Array Value} {below : List Frame} {meth : Method} {c : Code} {G0 : Heap} {Y : State → Prop} {D : va_G} {dA : Nat → ClassId} {base t0 u0 : Nat} {Q : State → Prop} {pF : Nat → List Value → xH → Option (Option Value × xH)} (C : lwC p l s m args c G0 Y D dA base pF) {lv : xL} {b xa ma ao i L : Nat} {xs : Nat → Int32} (hG : lwG lv b xa ma ao i) (hi : i + 6 ≤ L) (hL : L ≤ 3074) {h h1 h2 h3 : xH} {r : Int32} {v : Int32} (hS : lwS h b L xs) (hS1 : lwS h1 b L xs) (hX : xMetW l G0 Y D dA base 31 yL_entry cL_entry 6 [(0, 12, 15, 25)] [.ref xa, .int (xs (i + 1)), .int (xs (i + 2)), .int (xs (i + 3)), .ref ao] h r h1) (hb1 : ((xMn 277).cls = (xCl ((h1.1 ma).1 - 1)).1 ∧ 0 < (h1.1 ma).1 ∧ (h1.1 ma).1 ≤ 17)) (hb2 : ((xMn 373).cls = (xCl ((h2.1 ma).1 - 1)).1 ∧ 0 < (h2.1 ma).1 ∧ (h2.1 ma).1 ≤ 17)) (hM : xCo pF 31 277 (.ref ma :: [.int (xs (i + 1)), .int (xs (i + 2)), .int (xs (i + 3))]) h1 (some (.int v)) h2) (hT : xCo pF 31 373 [.ref ma] h2 (some (.int r)) h3) (hr : xc0 .ne r = true) (q0 : lwR base t0 u0 h) (q1 : lwR base t0 u0 h1) (q3 : lwR base t0 u0 h3)
    (kk : ∀ lv', lwG lv' b xa ma ao i → lwW p l e s m args below meth c G0 D dA base t0 u0 Q 2147 lv' [] h3) : lwW p l e s m args below meth c G0 D dA base t0 u0 Q 1510 lv [] h := by
  refine lwQ1 C kAo_entry (f := (1510, lv, [], h)) (g := (1530, lv, ([.ref xa, .int (xs (i + 1)), .int (xs (i + 2)), .int (xs (i + 3)), .ref ao]).reverse, h)) ?_ q0 q0 ?_
  · refine eQ_aload_n la_entry_1510 hG.2.1 ?_
    refine eQ_sc (n := 1) hG hS (by omega) hL (by decide) la_entry_1511 la_entry_1512 la_entry_1514 la_entry_1515 la_entry_1516 ?_
    refine eQ_sc (n := 2) hG hS (by omega) hL (by decide) la_entry_1517 la_entry_1518 la_entry_1520 la_entry_1521 la_entry_1522 ?_
    refine eQ_sc (n := 3) hG hS (by omega) hL (by decide) la_entry_1523 la_entry_1524 la_entry_1526 la_entry_1527 la_entry_1528 ?_
    refine eQ_aload_n la_entry_1529 hG.2.2.2.1 ?_
    exact xQ_r
  refine lw_wr C hX wc_entry wt_entry (by decide) rfl wl_entry (n := 5) (by decide +kernel) rfl (kAo_entry (1530, (.invokestatic 187, 3)) (x_look rfl)) rfl q0 q1 ?_
  have hG2 : lwG (xs1 6 (.int v) (xs1 5 (.int r) lv)) b xa ma ao i := (lwG_s (lwG_s hG (by decide)) (by decide))
  have g5 : xg (xs1 6 (.int v) (xs1 5 (.int r) lv)) 5 = some (.int r) := (xs1_keep.2 5 _ (by decide) (fun _ => rfl) xs1_keep.1)
  have g6 : xg (xs1 6 (.int v) (xs1 5 (.int r) lv)) 6 = some (.int v) := xs1_keep.1
  refine lwQ1 C kAo_entry (f := (1533, lv, [.int r], h1)) (g := (2147, xs1 6 (.int v) (xs1 5 (.int r) lv), [], h3)) ?_ q1 q3 (kk _ hG2)
  refine eQ_istore (lv' := xs1 5 (.int r) lv) la_entry_1533 (by decide) rfl ?_
  refine eQ_aload_n la_entry_1535 (lwG_s hG (by decide)).2.2.1 ?_
  refine eQ_sc (n := 1) (lwG_s hG (by decide)) hS1 (by omega) hL (by decide) la_entry_1536 la_entry_1537 la_entry_1539 la_entry_1540 la_entry_1541 ?_
  refine eQ_sc (n := 2) (lwG_s hG (by decide)) hS1 (by omega) hL (by decide) la_entry_1542 la_entry_1543 la_entry_1545 la_entry_1546 la_entry_1547 ?_
  refine eQ_sc (n := 3) (lwG_s hG (by decide)) hS1 (by omega) hL (by decide) la_entry_1548 la_entry_1549 la_entry_1551 la_entry_1552 la_entry_1553 ?_
  refine eQ_virt (b := ma) (as := [.int (xs (i + 1)), .int (xs (i + 2)), .int (xs (i + 3))]) (n := 3) (r := (some (.int v))) la_entry_1554 (by decide +kernel) (by decide +kernel) rfl rfl (Nat.le_of_ble_eq_true rfl) (by decide +kernel) hb1 hM ?_
  refine eQ_istore (lv' := xs1 6 (.int v) (xs1 5 (.int r) lv)) la_entry_1557 (by decide) rfl ?_
  refine eQ_aload_n la_entry_1559 hG2.2.2.1 ?_
  refine eQ_virt (b := ma) (as := []) (n := 0) (r := some (.int r)) la_entry_1560 (by decide +kernel) (by decide +kernel) rfl rfl (Nat.le_of_ble_eq_true rfl) (by decide +kernel) hb2 hT ?_
  refine eQ_iload la_entry_1563 g5 ?_
  refine eQ_icmp (t := 1570) la_entry_1565 (by decide) (fun _ => ?_) (fun q => absurd (l_eq _) q)
  refine eQ_iload la_entry_1570 g5 ?_
  refine eQ_if (t := 1587) la_entry_1572 (by decide) (fun _ => ?_) (fun q => absurd hr q)
  refine eQ_goto (t := 2147) la_entry_1587 (by decide) ?_
  exact xQ_r
theorem lA_file_N {p : Program} {l : Launch} {e : Env} {s : State} {m : MethodId} {args : Array Value} {below : List Frame} {meth : Method} {c : Code} {G0 : Heap} {Y : State → Prop} {D : va_G} {dA : Nat → ClassId} {base t0 u0 : Nat} {Q : State → Prop} {pF : Nat → List Value → xH → Option (Option Value × xH)} (C : lwC p l s m args c G0 Y D dA base pF) {lv : xL} {b xa ma ao i L : Nat} {xs : Nat → Int32} (hG : lwG lv b xa ma ao i) (hi : i + 6 ≤ L) (hL : L ≤ 3074) {h h1 h2 h3 : xH} {v : Int32} (hS : lwS h b L xs) (hS1 : lwS h1 b L xs) (hX : xMetW l G0 Y D dA base 31 yL_file cL_file 6 [(0, 12, 15, 25)] [.ref xa, .int (xs (i + 1)), .int (xs (i + 2)), .int (xs (i + 3)), .ref ao] h (0 : Int32) h1) (hb1 : ((xMn 279).cls = (xCl ((h1.1 ma).1 - 1)).1 ∧ 0 < (h1.1 ma).1 ∧ (h1.1 ma).1 ≤ 17)) (hb2 : ((xMn 373).cls = (xCl ((h2.1 ma).1 - 1)).1 ∧ 0 < (h2.1 ma).1 ∧ (h2.1 ma).1 ≤ 17)) (hM : xCo pF 31 279 (.ref ma :: [.int (xs (i + 1)), .int (xs (i + 2)), .int (xs (i + 3))]) h1 (some (.int v)) h2) (hT : xCo pF 31 373 [.ref ma] h2 (some (.int (0 : Int32))) h3) (ho : (h3.1 ao).1 = 21 ∧ (h3.1 ao).2.1 = 1 ∧ (h3.1 ao).2.2 0 = .long (v.toInt64)) (q0 : lwR base t0 u0 h) (q1 : lwR base t0 u0 h1) (q3 : lwR base t0 u0 h3)
    (kk : ∀ lv', lwG lv' b xa ma ao i → lwW p l e s m args below meth c G0 D dA base t0 u0 Q 2147 lv' [] h3) : lwW p l e s m args below meth c G0 D dA base t0 u0 Q 1590 lv [] h := by
  refine lwQ1 C kAo_file (f := (1590, lv, [], h)) (g := (1610, lv, ([.ref xa, .int (xs (i + 1)), .int (xs (i + 2)), .int (xs (i + 3)), .ref ao]).reverse, h)) ?_ q0 q0 ?_
  · refine eQ_aload_n la_file_1590 hG.2.1 ?_
    refine eQ_sc (n := 1) hG hS (by omega) hL (by decide) la_file_1591 la_file_1592 la_file_1594 la_file_1595 la_file_1596 ?_
    refine eQ_sc (n := 2) hG hS (by omega) hL (by decide) la_file_1597 la_file_1598 la_file_1600 la_file_1601 la_file_1602 ?_
    refine eQ_sc (n := 3) hG hS (by omega) hL (by decide) la_file_1603 la_file_1604 la_file_1606 la_file_1607 la_file_1608 ?_
    refine eQ_aload_n la_file_1609 hG.2.2.2.1 ?_
    exact xQ_r
  refine lw_wr C hX wc_file wt_file (by decide) rfl wl_file (n := 5) (by decide +kernel) rfl (kAo_file (1610, (.invokestatic 190, 3)) (x_look rfl)) rfl q0 q1 ?_
  have hG2 : lwG (xs1 6 (.int v) (xs1 5 (.int (0 : Int32)) lv)) b xa ma ao i := (lwG_s (lwG_s hG (by decide)) (by decide))
  have g5 : xg (xs1 6 (.int v) (xs1 5 (.int (0 : Int32)) lv)) 5 = some (.int (0 : Int32)) := (xs1_keep.2 5 _ (by decide) (fun _ => rfl) xs1_keep.1)
  have g6 : xg (xs1 6 (.int v) (xs1 5 (.int (0 : Int32)) lv)) 6 = some (.int v) := xs1_keep.1
  refine lwQ1 C kAo_file (f := (1613, lv, [.int (0 : Int32)], h1)) (g := (2147, xs1 6 (.int v) (xs1 5 (.int (0 : Int32)) lv), [], h3)) ?_ q1 q3 (kk _ hG2)
  refine eQ_istore (lv' := xs1 5 (.int (0 : Int32)) lv) la_file_1613 (by decide) rfl ?_
  refine eQ_aload_n la_file_1615 (lwG_s hG (by decide)).2.2.1 ?_
  refine eQ_sc (n := 1) (lwG_s hG (by decide)) hS1 (by omega) hL (by decide) la_file_1616 la_file_1617 la_file_1619 la_file_1620 la_file_1621 ?_
  refine eQ_sc (n := 2) (lwG_s hG (by decide)) hS1 (by omega) hL (by decide) la_file_1622 la_file_1623 la_file_1625 la_file_1626 la_file_1627 ?_
  refine eQ_sc (n := 3) (lwG_s hG (by decide)) hS1 (by omega) hL (by decide) la_file_1628 la_file_1629 la_file_1631 la_file_1632 la_file_1633 ?_
  refine eQ_virt (b := ma) (as := [.int (xs (i + 1)), .int (xs (i + 2)), .int (xs (i + 3))]) (n := 3) (r := (some (.int v))) la_file_1634 (by decide +kernel) (by decide +kernel) rfl rfl (Nat.le_of_ble_eq_true rfl) (by decide +kernel) hb1 hM ?_
  refine eQ_istore (lv' := xs1 6 (.int v) (xs1 5 (.int (0 : Int32)) lv)) la_file_1637 (by decide) rfl ?_
  refine eQ_aload_n la_file_1639 hG2.2.2.1 ?_
  refine eQ_virt (b := ma) (as := []) (n := 0) (r := some (.int (0 : Int32))) la_file_1640 (by decide +kernel) (by decide +kernel) rfl rfl (Nat.le_of_ble_eq_true rfl) (by decide +kernel) hb2 hT ?_
  refine eQ_iload la_file_1643 g5 ?_
  refine eQ_icmp (t := 1650) la_file_1645 (by decide) (fun _ => ?_) (fun q => absurd (l_eq _) q)
  refine eQ_iload la_file_1650 g5 ?_
  refine eQ_if (t := 1667) la_file_1652 (by decide) (fun q => absurd q (by decide)) (fun _ => ?_)
  refine eQ_aload_n la_file_1655 hG2.2.2.2.1 ?_
  refine eQ_iconst (v := 0) la_file_1656 (by decide) ?_
  refine eQ_lald (j := 0) (x := v.toInt64) la_file_1657 ho.1 (by rw [ho.2.1]; decide) (by decide) ho.2.2 ?_
  refine eQ_iload la_file_1658 g6 ?_
  refine eQ_i2l la_file_1660 ?_
  refine eQ_lcmp la_file_1661 ?_
  rw [lg_cmp_self]
  refine eQ_if (t := 1667) la_file_1662 (by decide) (fun _ => ?_) (fun q => absurd (by decide) q)
  refine eQ_goto (t := 2147) la_file_1667 (by decide) ?_
  exact xQ_r
theorem lA_file_T {p : Program} {l : Launch} {e : Env} {s : State} {m : MethodId} {args : Array Value} {below : List Frame} {meth : Method} {c : Code} {G0 : Heap} {Y : State → Prop} {D : va_G} {dA : Nat → ClassId} {base t0 u0 : Nat} {Q : State → Prop} {pF : Nat → List Value → xH → Option (Option Value × xH)} (C : lwC p l s m args c G0 Y D dA base pF) {lv : xL} {b xa ma ao i L : Nat} {xs : Nat → Int32} (hG : lwG lv b xa ma ao i) (hi : i + 6 ≤ L) (hL : L ≤ 3074) {h h1 h2 h3 : xH} {r : Int32} {v : Int32} (hS : lwS h b L xs) (hS1 : lwS h1 b L xs) (hX : xMetW l G0 Y D dA base 31 yL_file cL_file 6 [(0, 12, 15, 25)] [.ref xa, .int (xs (i + 1)), .int (xs (i + 2)), .int (xs (i + 3)), .ref ao] h r h1) (hb1 : ((xMn 279).cls = (xCl ((h1.1 ma).1 - 1)).1 ∧ 0 < (h1.1 ma).1 ∧ (h1.1 ma).1 ≤ 17)) (hb2 : ((xMn 373).cls = (xCl ((h2.1 ma).1 - 1)).1 ∧ 0 < (h2.1 ma).1 ∧ (h2.1 ma).1 ≤ 17)) (hM : xCo pF 31 279 (.ref ma :: [.int (xs (i + 1)), .int (xs (i + 2)), .int (xs (i + 3))]) h1 (some (.int v)) h2) (hT : xCo pF 31 373 [.ref ma] h2 (some (.int r)) h3) (hr : xc0 .ne r = true) (q0 : lwR base t0 u0 h) (q1 : lwR base t0 u0 h1) (q3 : lwR base t0 u0 h3)
    (kk : ∀ lv', lwG lv' b xa ma ao i → lwW p l e s m args below meth c G0 D dA base t0 u0 Q 2147 lv' [] h3) : lwW p l e s m args below meth c G0 D dA base t0 u0 Q 1590 lv [] h := by
  refine lwQ1 C kAo_file (f := (1590, lv, [], h)) (g := (1610, lv, ([.ref xa, .int (xs (i + 1)), .int (xs (i + 2)), .int (xs (i + 3)), .ref ao]).reverse, h)) ?_ q0 q0 ?_
  · refine eQ_aload_n la_file_1590 hG.2.1 ?_
    refine eQ_sc (n := 1) hG hS (by omega) hL (by decide) la_file_1591 la_file_1592 la_file_1594 la_file_1595 la_file_1596 ?_
    refine eQ_sc (n := 2) hG hS (by omega) hL (by decide) la_file_1597 la_file_1598 la_file_1600 la_file_1601 la_file_1602 ?_
    refine eQ_sc (n := 3) hG hS (by omega) hL (by decide) la_file_1603 la_file_1604 la_file_1606 la_file_1607 la_file_1608 ?_
    refine eQ_aload_n la_file_1609 hG.2.2.2.1 ?_
    exact xQ_r
  refine lw_wr C hX wc_file wt_file (by decide) rfl wl_file (n := 5) (by decide +kernel) rfl (kAo_file (1610, (.invokestatic 190, 3)) (x_look rfl)) rfl q0 q1 ?_
  have hG2 : lwG (xs1 6 (.int v) (xs1 5 (.int r) lv)) b xa ma ao i := (lwG_s (lwG_s hG (by decide)) (by decide))
  have g5 : xg (xs1 6 (.int v) (xs1 5 (.int r) lv)) 5 = some (.int r) := (xs1_keep.2 5 _ (by decide) (fun _ => rfl) xs1_keep.1)
  have g6 : xg (xs1 6 (.int v) (xs1 5 (.int r) lv)) 6 = some (.int v) := xs1_keep.1
  refine lwQ1 C kAo_file (f := (1613, lv, [.int r], h1)) (g := (2147, xs1 6 (.int v) (xs1 5 (.int r) lv), [], h3)) ?_ q1 q3 (kk _ hG2)
  refine eQ_istore (lv' := xs1 5 (.int r) lv) la_file_1613 (by decide) rfl ?_
  refine eQ_aload_n la_file_1615 (lwG_s hG (by decide)).2.2.1 ?_
  refine eQ_sc (n := 1) (lwG_s hG (by decide)) hS1 (by omega) hL (by decide) la_file_1616 la_file_1617 la_file_1619 la_file_1620 la_file_1621 ?_
  refine eQ_sc (n := 2) (lwG_s hG (by decide)) hS1 (by omega) hL (by decide) la_file_1622 la_file_1623 la_file_1625 la_file_1626 la_file_1627 ?_
  refine eQ_sc (n := 3) (lwG_s hG (by decide)) hS1 (by omega) hL (by decide) la_file_1628 la_file_1629 la_file_1631 la_file_1632 la_file_1633 ?_
  refine eQ_virt (b := ma) (as := [.int (xs (i + 1)), .int (xs (i + 2)), .int (xs (i + 3))]) (n := 3) (r := (some (.int v))) la_file_1634 (by decide +kernel) (by decide +kernel) rfl rfl (Nat.le_of_ble_eq_true rfl) (by decide +kernel) hb1 hM ?_
  refine eQ_istore (lv' := xs1 6 (.int v) (xs1 5 (.int r) lv)) la_file_1637 (by decide) rfl ?_
  refine eQ_aload_n la_file_1639 hG2.2.2.1 ?_
  refine eQ_virt (b := ma) (as := []) (n := 0) (r := some (.int r)) la_file_1640 (by decide +kernel) (by decide +kernel) rfl rfl (Nat.le_of_ble_eq_true rfl) (by decide +kernel) hb2 hT ?_
  refine eQ_iload la_file_1643 g5 ?_
  refine eQ_icmp (t := 1650) la_file_1645 (by decide) (fun _ => ?_) (fun q => absurd (l_eq _) q)
  refine eQ_iload la_file_1650 g5 ?_
  refine eQ_if (t := 1667) la_file_1652 (by decide) (fun _ => ?_) (fun q => absurd hr q)
  refine eQ_goto (t := 2147) la_file_1667 (by decide) ?_
  exact xQ_r
theorem lA_key_N {p : Program} {l : Launch} {e : Env} {s : State} {m : MethodId} {args : Array Value} {below : List Frame} {meth : Method} {c : Code} {G0 : Heap} {Y : State → Prop} {D : va_G} {dA : Nat → ClassId} {base t0 u0 : Nat} {Q : State → Prop} {pF : Nat → List Value → xH → Option (Option Value × xH)} (C : lwC p l s m args c G0 Y D dA base pF) {lv : xL} {b xa ma ao i L : Nat} {xs : Nat → Int32} (hG : lwG lv b xa ma ao i) (hi : i + 6 ≤ L) (hL : L ≤ 3074) {h h1 h2 h3 : xH} {v : Int32} (hS : lwS h b L xs) (hS1 : lwS h1 b L xs) (hX : xMetW l G0 Y D dA base 31 yL_key cL_key 5 [(0, 10, 13, 25)] [.ref xa, .int (xs (i + 1)), .int (xs (i + 2)), .ref ao] h (0 : Int32) h1) (hb1 : ((xMn 308).cls = (xCl ((h1.1 ma).1 - 1)).1 ∧ 0 < (h1.1 ma).1 ∧ (h1.1 ma).1 ≤ 17)) (hb2 : ((xMn 373).cls = (xCl ((h2.1 ma).1 - 1)).1 ∧ 0 < (h2.1 ma).1 ∧ (h2.1 ma).1 ≤ 17)) (hM : xCo pF 31 308 (.ref ma :: [.int (xs (i + 1)), .int (xs (i + 2))]) h1 (some (.int v)) h2) (hT : xCo pF 31 373 [.ref ma] h2 (some (.int (0 : Int32))) h3) (ho : (h3.1 ao).1 = 21 ∧ (h3.1 ao).2.1 = 1 ∧ (h3.1 ao).2.2 0 = .long (v.toInt64)) (q0 : lwR base t0 u0 h) (q1 : lwR base t0 u0 h1) (q3 : lwR base t0 u0 h3)
    (kk : ∀ lv', lwG lv' b xa ma ao i → lwW p l e s m args below meth c G0 D dA base t0 u0 Q 2147 lv' [] h3) : lwW p l e s m args below meth c G0 D dA base t0 u0 Q 1670 lv [] h := by
  refine lwQ1 C kAo_key (f := (1670, lv, [], h)) (g := (1684, lv, ([.ref xa, .int (xs (i + 1)), .int (xs (i + 2)), .ref ao]).reverse, h)) ?_ q0 q0 ?_
  · refine eQ_aload_n la_key_1670 hG.2.1 ?_
    refine eQ_sc (n := 1) hG hS (by omega) hL (by decide) la_key_1671 la_key_1672 la_key_1674 la_key_1675 la_key_1676 ?_
    refine eQ_sc (n := 2) hG hS (by omega) hL (by decide) la_key_1677 la_key_1678 la_key_1680 la_key_1681 la_key_1682 ?_
    refine eQ_aload_n la_key_1683 hG.2.2.2.1 ?_
    exact xQ_r
  refine lw_wr C hX wc_key wt_key (by decide) rfl wl_key (n := 4) (by decide +kernel) rfl (kAo_key (1684, (.invokestatic 193, 3)) (x_look rfl)) rfl q0 q1 ?_
  have hG2 : lwG (xs1 6 (.int v) (xs1 5 (.int (0 : Int32)) lv)) b xa ma ao i := (lwG_s (lwG_s hG (by decide)) (by decide))
  have g5 : xg (xs1 6 (.int v) (xs1 5 (.int (0 : Int32)) lv)) 5 = some (.int (0 : Int32)) := (xs1_keep.2 5 _ (by decide) (fun _ => rfl) xs1_keep.1)
  have g6 : xg (xs1 6 (.int v) (xs1 5 (.int (0 : Int32)) lv)) 6 = some (.int v) := xs1_keep.1
  refine lwQ1 C kAo_key (f := (1687, lv, [.int (0 : Int32)], h1)) (g := (2147, xs1 6 (.int v) (xs1 5 (.int (0 : Int32)) lv), [], h3)) ?_ q1 q3 (kk _ hG2)
  refine eQ_istore (lv' := xs1 5 (.int (0 : Int32)) lv) la_key_1687 (by decide) rfl ?_
  refine eQ_aload_n la_key_1689 (lwG_s hG (by decide)).2.2.1 ?_
  refine eQ_sc (n := 1) (lwG_s hG (by decide)) hS1 (by omega) hL (by decide) la_key_1690 la_key_1691 la_key_1693 la_key_1694 la_key_1695 ?_
  refine eQ_sc (n := 2) (lwG_s hG (by decide)) hS1 (by omega) hL (by decide) la_key_1696 la_key_1697 la_key_1699 la_key_1700 la_key_1701 ?_
  refine eQ_virt (b := ma) (as := [.int (xs (i + 1)), .int (xs (i + 2))]) (n := 2) (r := (some (.int v))) la_key_1702 (by decide +kernel) (by decide +kernel) rfl rfl (Nat.le_of_ble_eq_true rfl) (by decide +kernel) hb1 hM ?_
  refine eQ_istore (lv' := xs1 6 (.int v) (xs1 5 (.int (0 : Int32)) lv)) la_key_1705 (by decide) rfl ?_
  refine eQ_aload_n la_key_1707 hG2.2.2.1 ?_
  refine eQ_virt (b := ma) (as := []) (n := 0) (r := some (.int (0 : Int32))) la_key_1708 (by decide +kernel) (by decide +kernel) rfl rfl (Nat.le_of_ble_eq_true rfl) (by decide +kernel) hb2 hT ?_
  refine eQ_iload la_key_1711 g5 ?_
  refine eQ_icmp (t := 1718) la_key_1713 (by decide) (fun _ => ?_) (fun q => absurd (l_eq _) q)
  refine eQ_iload la_key_1718 g5 ?_
  refine eQ_if (t := 1735) la_key_1720 (by decide) (fun q => absurd q (by decide)) (fun _ => ?_)
  refine eQ_aload_n la_key_1723 hG2.2.2.2.1 ?_
  refine eQ_iconst (v := 0) la_key_1724 (by decide) ?_
  refine eQ_lald (j := 0) (x := v.toInt64) la_key_1725 ho.1 (by rw [ho.2.1]; decide) (by decide) ho.2.2 ?_
  refine eQ_iload la_key_1726 g6 ?_
  refine eQ_i2l la_key_1728 ?_
  refine eQ_lcmp la_key_1729 ?_
  rw [lg_cmp_self]
  refine eQ_if (t := 1735) la_key_1730 (by decide) (fun _ => ?_) (fun q => absurd (by decide) q)
  refine eQ_goto (t := 2147) la_key_1735 (by decide) ?_
  exact xQ_r
theorem lA_key_T {p : Program} {l : Launch} {e : Env} {s : State} {m : MethodId} {args : Array Value} {below : List Frame} {meth : Method} {c : Code} {G0 : Heap} {Y : State → Prop} {D : va_G} {dA : Nat → ClassId} {base t0 u0 : Nat} {Q : State → Prop} {pF : Nat → List Value → xH → Option (Option Value × xH)} (C : lwC p l s m args c G0 Y D dA base pF) {lv : xL} {b xa ma ao i L : Nat} {xs : Nat → Int32} (hG : lwG lv b xa ma ao i) (hi : i + 6 ≤ L) (hL : L ≤ 3074) {h h1 h2 h3 : xH} {r : Int32} {v : Int32} (hS : lwS h b L xs) (hS1 : lwS h1 b L xs) (hX : xMetW l G0 Y D dA base 31 yL_key cL_key 5 [(0, 10, 13, 25)] [.ref xa, .int (xs (i + 1)), .int (xs (i + 2)), .ref ao] h r h1) (hb1 : ((xMn 308).cls = (xCl ((h1.1 ma).1 - 1)).1 ∧ 0 < (h1.1 ma).1 ∧ (h1.1 ma).1 ≤ 17)) (hb2 : ((xMn 373).cls = (xCl ((h2.1 ma).1 - 1)).1 ∧ 0 < (h2.1 ma).1 ∧ (h2.1 ma).1 ≤ 17)) (hM : xCo pF 31 308 (.ref ma :: [.int (xs (i + 1)), .int (xs (i + 2))]) h1 (some (.int v)) h2) (hT : xCo pF 31 373 [.ref ma] h2 (some (.int r)) h3) (hr : xc0 .ne r = true) (q0 : lwR base t0 u0 h) (q1 : lwR base t0 u0 h1) (q3 : lwR base t0 u0 h3)
    (kk : ∀ lv', lwG lv' b xa ma ao i → lwW p l e s m args below meth c G0 D dA base t0 u0 Q 2147 lv' [] h3) : lwW p l e s m args below meth c G0 D dA base t0 u0 Q 1670 lv [] h := by
  refine lwQ1 C kAo_key (f := (1670, lv, [], h)) (g := (1684, lv, ([.ref xa, .int (xs (i + 1)), .int (xs (i + 2)), .ref ao]).reverse, h)) ?_ q0 q0 ?_
  · refine eQ_aload_n la_key_1670 hG.2.1 ?_
    refine eQ_sc (n := 1) hG hS (by omega) hL (by decide) la_key_1671 la_key_1672 la_key_1674 la_key_1675 la_key_1676 ?_
    refine eQ_sc (n := 2) hG hS (by omega) hL (by decide) la_key_1677 la_key_1678 la_key_1680 la_key_1681 la_key_1682 ?_
    refine eQ_aload_n la_key_1683 hG.2.2.2.1 ?_
    exact xQ_r
  refine lw_wr C hX wc_key wt_key (by decide) rfl wl_key (n := 4) (by decide +kernel) rfl (kAo_key (1684, (.invokestatic 193, 3)) (x_look rfl)) rfl q0 q1 ?_
  have hG2 : lwG (xs1 6 (.int v) (xs1 5 (.int r) lv)) b xa ma ao i := (lwG_s (lwG_s hG (by decide)) (by decide))
  have g5 : xg (xs1 6 (.int v) (xs1 5 (.int r) lv)) 5 = some (.int r) := (xs1_keep.2 5 _ (by decide) (fun _ => rfl) xs1_keep.1)
  have g6 : xg (xs1 6 (.int v) (xs1 5 (.int r) lv)) 6 = some (.int v) := xs1_keep.1
  refine lwQ1 C kAo_key (f := (1687, lv, [.int r], h1)) (g := (2147, xs1 6 (.int v) (xs1 5 (.int r) lv), [], h3)) ?_ q1 q3 (kk _ hG2)
  refine eQ_istore (lv' := xs1 5 (.int r) lv) la_key_1687 (by decide) rfl ?_
  refine eQ_aload_n la_key_1689 (lwG_s hG (by decide)).2.2.1 ?_
  refine eQ_sc (n := 1) (lwG_s hG (by decide)) hS1 (by omega) hL (by decide) la_key_1690 la_key_1691 la_key_1693 la_key_1694 la_key_1695 ?_
  refine eQ_sc (n := 2) (lwG_s hG (by decide)) hS1 (by omega) hL (by decide) la_key_1696 la_key_1697 la_key_1699 la_key_1700 la_key_1701 ?_
  refine eQ_virt (b := ma) (as := [.int (xs (i + 1)), .int (xs (i + 2))]) (n := 2) (r := (some (.int v))) la_key_1702 (by decide +kernel) (by decide +kernel) rfl rfl (Nat.le_of_ble_eq_true rfl) (by decide +kernel) hb1 hM ?_
  refine eQ_istore (lv' := xs1 6 (.int v) (xs1 5 (.int r) lv)) la_key_1705 (by decide) rfl ?_
  refine eQ_aload_n la_key_1707 hG2.2.2.1 ?_
  refine eQ_virt (b := ma) (as := []) (n := 0) (r := some (.int r)) la_key_1708 (by decide +kernel) (by decide +kernel) rfl rfl (Nat.le_of_ble_eq_true rfl) (by decide +kernel) hb2 hT ?_
  refine eQ_iload la_key_1711 g5 ?_
  refine eQ_icmp (t := 1718) la_key_1713 (by decide) (fun _ => ?_) (fun q => absurd (l_eq _) q)
  refine eQ_iload la_key_1718 g5 ?_
  refine eQ_if (t := 1735) la_key_1720 (by decide) (fun _ => ?_) (fun q => absurd hr q)
  refine eQ_goto (t := 2147) la_key_1735 (by decide) ?_
  exact xQ_r
theorem lA_value_N {p : Program} {l : Launch} {e : Env} {s : State} {m : MethodId} {args : Array Value} {below : List Frame} {meth : Method} {c : Code} {G0 : Heap} {Y : State → Prop} {D : va_G} {dA : Nat → ClassId} {base t0 u0 : Nat} {Q : State → Prop} {pF : Nat → List Value → xH → Option (Option Value × xH)} (C : lwC p l s m args c G0 Y D dA base pF) {lv : xL} {b xa ma ao i L : Nat} {xs : Nat → Int32} (hG : lwG lv b xa ma ao i) (hi : i + 6 ≤ L) (hL : L ≤ 3074) {h h1 h2 h3 : xH} {v : Int32} (hS : lwS h b L xs) (hS1 : lwS h1 b L xs) (hX : xMetW l G0 Y D dA base 31 yL_value cL_value 5 [(0, 10, 13, 25)] [.ref xa, .int (xs (i + 1)), .int (xs (i + 2)), .ref ao] h (0 : Int32) h1) (hb1 : ((xMn 378).cls = (xCl ((h1.1 ma).1 - 1)).1 ∧ 0 < (h1.1 ma).1 ∧ (h1.1 ma).1 ≤ 17)) (hb2 : ((xMn 373).cls = (xCl ((h2.1 ma).1 - 1)).1 ∧ 0 < (h2.1 ma).1 ∧ (h2.1 ma).1 ≤ 17)) (hM : xCo pF 31 378 (.ref ma :: [.int (xs (i + 1)), .int (xs (i + 2))]) h1 (some (.int v)) h2) (hT : xCo pF 31 373 [.ref ma] h2 (some (.int (0 : Int32))) h3) (ho : (h3.1 ao).1 = 21 ∧ (h3.1 ao).2.1 = 1 ∧ (h3.1 ao).2.2 0 = .long (v.toInt64)) (q0 : lwR base t0 u0 h) (q1 : lwR base t0 u0 h1) (q3 : lwR base t0 u0 h3)
    (kk : ∀ lv', lwG lv' b xa ma ao i → lwW p l e s m args below meth c G0 D dA base t0 u0 Q 2147 lv' [] h3) : lwW p l e s m args below meth c G0 D dA base t0 u0 Q 1738 lv [] h := by
  refine lwQ1 C kAo_value (f := (1738, lv, [], h)) (g := (1752, lv, ([.ref xa, .int (xs (i + 1)), .int (xs (i + 2)), .ref ao]).reverse, h)) ?_ q0 q0 ?_
  · refine eQ_aload_n la_value_1738 hG.2.1 ?_
    refine eQ_sc (n := 1) hG hS (by omega) hL (by decide) la_value_1739 la_value_1740 la_value_1742 la_value_1743 la_value_1744 ?_
    refine eQ_sc (n := 2) hG hS (by omega) hL (by decide) la_value_1745 la_value_1746 la_value_1748 la_value_1749 la_value_1750 ?_
    refine eQ_aload_n la_value_1751 hG.2.2.2.1 ?_
    exact xQ_r
  refine lw_wr C hX wc_value wt_value (by decide) rfl wl_value (n := 4) (by decide +kernel) rfl (kAo_value (1752, (.invokestatic 196, 3)) (x_look rfl)) rfl q0 q1 ?_
  have hG2 : lwG (xs1 6 (.int v) (xs1 5 (.int (0 : Int32)) lv)) b xa ma ao i := (lwG_s (lwG_s hG (by decide)) (by decide))
  have g5 : xg (xs1 6 (.int v) (xs1 5 (.int (0 : Int32)) lv)) 5 = some (.int (0 : Int32)) := (xs1_keep.2 5 _ (by decide) (fun _ => rfl) xs1_keep.1)
  have g6 : xg (xs1 6 (.int v) (xs1 5 (.int (0 : Int32)) lv)) 6 = some (.int v) := xs1_keep.1
  refine lwQ1 C kAo_value (f := (1755, lv, [.int (0 : Int32)], h1)) (g := (2147, xs1 6 (.int v) (xs1 5 (.int (0 : Int32)) lv), [], h3)) ?_ q1 q3 (kk _ hG2)
  refine eQ_istore (lv' := xs1 5 (.int (0 : Int32)) lv) la_value_1755 (by decide) rfl ?_
  refine eQ_aload_n la_value_1757 (lwG_s hG (by decide)).2.2.1 ?_
  refine eQ_sc (n := 1) (lwG_s hG (by decide)) hS1 (by omega) hL (by decide) la_value_1758 la_value_1759 la_value_1761 la_value_1762 la_value_1763 ?_
  refine eQ_sc (n := 2) (lwG_s hG (by decide)) hS1 (by omega) hL (by decide) la_value_1764 la_value_1765 la_value_1767 la_value_1768 la_value_1769 ?_
  refine eQ_virt (b := ma) (as := [.int (xs (i + 1)), .int (xs (i + 2))]) (n := 2) (r := (some (.int v))) la_value_1770 (by decide +kernel) (by decide +kernel) rfl rfl (Nat.le_of_ble_eq_true rfl) (by decide +kernel) hb1 hM ?_
  refine eQ_istore (lv' := xs1 6 (.int v) (xs1 5 (.int (0 : Int32)) lv)) la_value_1773 (by decide) rfl ?_
  refine eQ_aload_n la_value_1775 hG2.2.2.1 ?_
  refine eQ_virt (b := ma) (as := []) (n := 0) (r := some (.int (0 : Int32))) la_value_1776 (by decide +kernel) (by decide +kernel) rfl rfl (Nat.le_of_ble_eq_true rfl) (by decide +kernel) hb2 hT ?_
  refine eQ_iload la_value_1779 g5 ?_
  refine eQ_icmp (t := 1786) la_value_1781 (by decide) (fun _ => ?_) (fun q => absurd (l_eq _) q)
  refine eQ_iload la_value_1786 g5 ?_
  refine eQ_if (t := 1803) la_value_1788 (by decide) (fun q => absurd q (by decide)) (fun _ => ?_)
  refine eQ_aload_n la_value_1791 hG2.2.2.2.1 ?_
  refine eQ_iconst (v := 0) la_value_1792 (by decide) ?_
  refine eQ_lald (j := 0) (x := v.toInt64) la_value_1793 ho.1 (by rw [ho.2.1]; decide) (by decide) ho.2.2 ?_
  refine eQ_iload la_value_1794 g6 ?_
  refine eQ_i2l la_value_1796 ?_
  refine eQ_lcmp la_value_1797 ?_
  rw [lg_cmp_self]
  refine eQ_if (t := 1803) la_value_1798 (by decide) (fun _ => ?_) (fun q => absurd (by decide) q)
  refine eQ_goto (t := 2147) la_value_1803 (by decide) ?_
  exact xQ_r
theorem lA_value_T {p : Program} {l : Launch} {e : Env} {s : State} {m : MethodId} {args : Array Value} {below : List Frame} {meth : Method} {c : Code} {G0 : Heap} {Y : State → Prop} {D : va_G} {dA : Nat → ClassId} {base t0 u0 : Nat} {Q : State → Prop} {pF : Nat → List Value → xH → Option (Option Value × xH)} (C : lwC p l s m args c G0 Y D dA base pF) {lv : xL} {b xa ma ao i L : Nat} {xs : Nat → Int32} (hG : lwG lv b xa ma ao i) (hi : i + 6 ≤ L) (hL : L ≤ 3074) {h h1 h2 h3 : xH} {r : Int32} {v : Int32} (hS : lwS h b L xs) (hS1 : lwS h1 b L xs) (hX : xMetW l G0 Y D dA base 31 yL_value cL_value 5 [(0, 10, 13, 25)] [.ref xa, .int (xs (i + 1)), .int (xs (i + 2)), .ref ao] h r h1) (hb1 : ((xMn 378).cls = (xCl ((h1.1 ma).1 - 1)).1 ∧ 0 < (h1.1 ma).1 ∧ (h1.1 ma).1 ≤ 17)) (hb2 : ((xMn 373).cls = (xCl ((h2.1 ma).1 - 1)).1 ∧ 0 < (h2.1 ma).1 ∧ (h2.1 ma).1 ≤ 17)) (hM : xCo pF 31 378 (.ref ma :: [.int (xs (i + 1)), .int (xs (i + 2))]) h1 (some (.int v)) h2) (hT : xCo pF 31 373 [.ref ma] h2 (some (.int r)) h3) (hr : xc0 .ne r = true) (q0 : lwR base t0 u0 h) (q1 : lwR base t0 u0 h1) (q3 : lwR base t0 u0 h3)
    (kk : ∀ lv', lwG lv' b xa ma ao i → lwW p l e s m args below meth c G0 D dA base t0 u0 Q 2147 lv' [] h3) : lwW p l e s m args below meth c G0 D dA base t0 u0 Q 1738 lv [] h := by
  refine lwQ1 C kAo_value (f := (1738, lv, [], h)) (g := (1752, lv, ([.ref xa, .int (xs (i + 1)), .int (xs (i + 2)), .ref ao]).reverse, h)) ?_ q0 q0 ?_
  · refine eQ_aload_n la_value_1738 hG.2.1 ?_
    refine eQ_sc (n := 1) hG hS (by omega) hL (by decide) la_value_1739 la_value_1740 la_value_1742 la_value_1743 la_value_1744 ?_
    refine eQ_sc (n := 2) hG hS (by omega) hL (by decide) la_value_1745 la_value_1746 la_value_1748 la_value_1749 la_value_1750 ?_
    refine eQ_aload_n la_value_1751 hG.2.2.2.1 ?_
    exact xQ_r
  refine lw_wr C hX wc_value wt_value (by decide) rfl wl_value (n := 4) (by decide +kernel) rfl (kAo_value (1752, (.invokestatic 196, 3)) (x_look rfl)) rfl q0 q1 ?_
  have hG2 : lwG (xs1 6 (.int v) (xs1 5 (.int r) lv)) b xa ma ao i := (lwG_s (lwG_s hG (by decide)) (by decide))
  have g5 : xg (xs1 6 (.int v) (xs1 5 (.int r) lv)) 5 = some (.int r) := (xs1_keep.2 5 _ (by decide) (fun _ => rfl) xs1_keep.1)
  have g6 : xg (xs1 6 (.int v) (xs1 5 (.int r) lv)) 6 = some (.int v) := xs1_keep.1
  refine lwQ1 C kAo_value (f := (1755, lv, [.int r], h1)) (g := (2147, xs1 6 (.int v) (xs1 5 (.int r) lv), [], h3)) ?_ q1 q3 (kk _ hG2)
  refine eQ_istore (lv' := xs1 5 (.int r) lv) la_value_1755 (by decide) rfl ?_
  refine eQ_aload_n la_value_1757 (lwG_s hG (by decide)).2.2.1 ?_
  refine eQ_sc (n := 1) (lwG_s hG (by decide)) hS1 (by omega) hL (by decide) la_value_1758 la_value_1759 la_value_1761 la_value_1762 la_value_1763 ?_
  refine eQ_sc (n := 2) (lwG_s hG (by decide)) hS1 (by omega) hL (by decide) la_value_1764 la_value_1765 la_value_1767 la_value_1768 la_value_1769 ?_
  refine eQ_virt (b := ma) (as := [.int (xs (i + 1)), .int (xs (i + 2))]) (n := 2) (r := (some (.int v))) la_value_1770 (by decide +kernel) (by decide +kernel) rfl rfl (Nat.le_of_ble_eq_true rfl) (by decide +kernel) hb1 hM ?_
  refine eQ_istore (lv' := xs1 6 (.int v) (xs1 5 (.int r) lv)) la_value_1773 (by decide) rfl ?_
  refine eQ_aload_n la_value_1775 hG2.2.2.1 ?_
  refine eQ_virt (b := ma) (as := []) (n := 0) (r := some (.int r)) la_value_1776 (by decide +kernel) (by decide +kernel) rfl rfl (Nat.le_of_ble_eq_true rfl) (by decide +kernel) hb2 hT ?_
  refine eQ_iload la_value_1779 g5 ?_
  refine eQ_icmp (t := 1786) la_value_1781 (by decide) (fun _ => ?_) (fun q => absurd (l_eq _) q)
  refine eQ_iload la_value_1786 g5 ?_
  refine eQ_if (t := 1803) la_value_1788 (by decide) (fun _ => ?_) (fun q => absurd hr q)
  refine eQ_goto (t := 2147) la_value_1803 (by decide) ?_
  exact xQ_r
theorem lA_message_N {p : Program} {l : Launch} {e : Env} {s : State} {m : MethodId} {args : Array Value} {below : List Frame} {meth : Method} {c : Code} {G0 : Heap} {Y : State → Prop} {D : va_G} {dA : Nat → ClassId} {base t0 u0 : Nat} {Q : State → Prop} {pF : Nat → List Value → xH → Option (Option Value × xH)} (C : lwC p l s m args c G0 Y D dA base pF) {lv : xL} {b xa ma ao i L : Nat} {xs : Nat → Int32} (hG : lwG lv b xa ma ao i) (hi : i + 6 ≤ L) (hL : L ≤ 3074) {h h1 h2 h3 : xH} {v : Int32} (hS : lwS h b L xs) (hS1 : lwS h1 b L xs) (hX : xMetW l G0 Y D dA base 31 yL_message cL_message 5 [(0, 10, 13, 25)] [.ref xa, .int (xs (i + 1)), .int (xs (i + 2)), .ref ao] h (0 : Int32) h1) (hb1 : ((xMn 326).cls = (xCl ((h1.1 ma).1 - 1)).1 ∧ 0 < (h1.1 ma).1 ∧ (h1.1 ma).1 ≤ 17)) (hb2 : ((xMn 373).cls = (xCl ((h2.1 ma).1 - 1)).1 ∧ 0 < (h2.1 ma).1 ∧ (h2.1 ma).1 ≤ 17)) (hM : xCo pF 31 326 (.ref ma :: [.int (xs (i + 1)), .int (xs (i + 2))]) h1 (some (.int v)) h2) (hT : xCo pF 31 373 [.ref ma] h2 (some (.int (0 : Int32))) h3) (ho : (h3.1 ao).1 = 21 ∧ (h3.1 ao).2.1 = 1 ∧ (h3.1 ao).2.2 0 = .long (v.toInt64)) (q0 : lwR base t0 u0 h) (q1 : lwR base t0 u0 h1) (q3 : lwR base t0 u0 h3)
    (kk : ∀ lv', lwG lv' b xa ma ao i → lwW p l e s m args below meth c G0 D dA base t0 u0 Q 2147 lv' [] h3) : lwW p l e s m args below meth c G0 D dA base t0 u0 Q 1806 lv [] h := by
  refine lwQ1 C kAo_message (f := (1806, lv, [], h)) (g := (1820, lv, ([.ref xa, .int (xs (i + 1)), .int (xs (i + 2)), .ref ao]).reverse, h)) ?_ q0 q0 ?_
  · refine eQ_aload_n la_message_1806 hG.2.1 ?_
    refine eQ_sc (n := 1) hG hS (by omega) hL (by decide) la_message_1807 la_message_1808 la_message_1810 la_message_1811 la_message_1812 ?_
    refine eQ_sc (n := 2) hG hS (by omega) hL (by decide) la_message_1813 la_message_1814 la_message_1816 la_message_1817 la_message_1818 ?_
    refine eQ_aload_n la_message_1819 hG.2.2.2.1 ?_
    exact xQ_r
  refine lw_wr C hX wc_message wt_message (by decide) rfl wl_message (n := 4) (by decide +kernel) rfl (kAo_message (1820, (.invokestatic 199, 3)) (x_look rfl)) rfl q0 q1 ?_
  have hG2 : lwG (xs1 6 (.int v) (xs1 5 (.int (0 : Int32)) lv)) b xa ma ao i := (lwG_s (lwG_s hG (by decide)) (by decide))
  have g5 : xg (xs1 6 (.int v) (xs1 5 (.int (0 : Int32)) lv)) 5 = some (.int (0 : Int32)) := (xs1_keep.2 5 _ (by decide) (fun _ => rfl) xs1_keep.1)
  have g6 : xg (xs1 6 (.int v) (xs1 5 (.int (0 : Int32)) lv)) 6 = some (.int v) := xs1_keep.1
  refine lwQ1 C kAo_message (f := (1823, lv, [.int (0 : Int32)], h1)) (g := (2147, xs1 6 (.int v) (xs1 5 (.int (0 : Int32)) lv), [], h3)) ?_ q1 q3 (kk _ hG2)
  refine eQ_istore (lv' := xs1 5 (.int (0 : Int32)) lv) la_message_1823 (by decide) rfl ?_
  refine eQ_aload_n la_message_1825 (lwG_s hG (by decide)).2.2.1 ?_
  refine eQ_sc (n := 1) (lwG_s hG (by decide)) hS1 (by omega) hL (by decide) la_message_1826 la_message_1827 la_message_1829 la_message_1830 la_message_1831 ?_
  refine eQ_sc (n := 2) (lwG_s hG (by decide)) hS1 (by omega) hL (by decide) la_message_1832 la_message_1833 la_message_1835 la_message_1836 la_message_1837 ?_
  refine eQ_virt (b := ma) (as := [.int (xs (i + 1)), .int (xs (i + 2))]) (n := 2) (r := (some (.int v))) la_message_1838 (by decide +kernel) (by decide +kernel) rfl rfl (Nat.le_of_ble_eq_true rfl) (by decide +kernel) hb1 hM ?_
  refine eQ_istore (lv' := xs1 6 (.int v) (xs1 5 (.int (0 : Int32)) lv)) la_message_1841 (by decide) rfl ?_
  refine eQ_aload_n la_message_1843 hG2.2.2.1 ?_
  refine eQ_virt (b := ma) (as := []) (n := 0) (r := some (.int (0 : Int32))) la_message_1844 (by decide +kernel) (by decide +kernel) rfl rfl (Nat.le_of_ble_eq_true rfl) (by decide +kernel) hb2 hT ?_
  refine eQ_iload la_message_1847 g5 ?_
  refine eQ_icmp (t := 1854) la_message_1849 (by decide) (fun _ => ?_) (fun q => absurd (l_eq _) q)
  refine eQ_iload la_message_1854 g5 ?_
  refine eQ_if (t := 1871) la_message_1856 (by decide) (fun q => absurd q (by decide)) (fun _ => ?_)
  refine eQ_aload_n la_message_1859 hG2.2.2.2.1 ?_
  refine eQ_iconst (v := 0) la_message_1860 (by decide) ?_
  refine eQ_lald (j := 0) (x := v.toInt64) la_message_1861 ho.1 (by rw [ho.2.1]; decide) (by decide) ho.2.2 ?_
  refine eQ_iload la_message_1862 g6 ?_
  refine eQ_i2l la_message_1864 ?_
  refine eQ_lcmp la_message_1865 ?_
  rw [lg_cmp_self]
  refine eQ_if (t := 1871) la_message_1866 (by decide) (fun _ => ?_) (fun q => absurd (by decide) q)
  refine eQ_goto (t := 2147) la_message_1871 (by decide) ?_
  exact xQ_r
theorem lA_message_T {p : Program} {l : Launch} {e : Env} {s : State} {m : MethodId} {args : Array Value} {below : List Frame} {meth : Method} {c : Code} {G0 : Heap} {Y : State → Prop} {D : va_G} {dA : Nat → ClassId} {base t0 u0 : Nat} {Q : State → Prop} {pF : Nat → List Value → xH → Option (Option Value × xH)} (C : lwC p l s m args c G0 Y D dA base pF) {lv : xL} {b xa ma ao i L : Nat} {xs : Nat → Int32} (hG : lwG lv b xa ma ao i) (hi : i + 6 ≤ L) (hL : L ≤ 3074) {h h1 h2 h3 : xH} {r : Int32} {v : Int32} (hS : lwS h b L xs) (hS1 : lwS h1 b L xs) (hX : xMetW l G0 Y D dA base 31 yL_message cL_message 5 [(0, 10, 13, 25)] [.ref xa, .int (xs (i + 1)), .int (xs (i + 2)), .ref ao] h r h1) (hb1 : ((xMn 326).cls = (xCl ((h1.1 ma).1 - 1)).1 ∧ 0 < (h1.1 ma).1 ∧ (h1.1 ma).1 ≤ 17)) (hb2 : ((xMn 373).cls = (xCl ((h2.1 ma).1 - 1)).1 ∧ 0 < (h2.1 ma).1 ∧ (h2.1 ma).1 ≤ 17)) (hM : xCo pF 31 326 (.ref ma :: [.int (xs (i + 1)), .int (xs (i + 2))]) h1 (some (.int v)) h2) (hT : xCo pF 31 373 [.ref ma] h2 (some (.int r)) h3) (hr : xc0 .ne r = true) (q0 : lwR base t0 u0 h) (q1 : lwR base t0 u0 h1) (q3 : lwR base t0 u0 h3)
    (kk : ∀ lv', lwG lv' b xa ma ao i → lwW p l e s m args below meth c G0 D dA base t0 u0 Q 2147 lv' [] h3) : lwW p l e s m args below meth c G0 D dA base t0 u0 Q 1806 lv [] h := by
  refine lwQ1 C kAo_message (f := (1806, lv, [], h)) (g := (1820, lv, ([.ref xa, .int (xs (i + 1)), .int (xs (i + 2)), .ref ao]).reverse, h)) ?_ q0 q0 ?_
  · refine eQ_aload_n la_message_1806 hG.2.1 ?_
    refine eQ_sc (n := 1) hG hS (by omega) hL (by decide) la_message_1807 la_message_1808 la_message_1810 la_message_1811 la_message_1812 ?_
    refine eQ_sc (n := 2) hG hS (by omega) hL (by decide) la_message_1813 la_message_1814 la_message_1816 la_message_1817 la_message_1818 ?_
    refine eQ_aload_n la_message_1819 hG.2.2.2.1 ?_
    exact xQ_r
  refine lw_wr C hX wc_message wt_message (by decide) rfl wl_message (n := 4) (by decide +kernel) rfl (kAo_message (1820, (.invokestatic 199, 3)) (x_look rfl)) rfl q0 q1 ?_
  have hG2 : lwG (xs1 6 (.int v) (xs1 5 (.int r) lv)) b xa ma ao i := (lwG_s (lwG_s hG (by decide)) (by decide))
  have g5 : xg (xs1 6 (.int v) (xs1 5 (.int r) lv)) 5 = some (.int r) := (xs1_keep.2 5 _ (by decide) (fun _ => rfl) xs1_keep.1)
  have g6 : xg (xs1 6 (.int v) (xs1 5 (.int r) lv)) 6 = some (.int v) := xs1_keep.1
  refine lwQ1 C kAo_message (f := (1823, lv, [.int r], h1)) (g := (2147, xs1 6 (.int v) (xs1 5 (.int r) lv), [], h3)) ?_ q1 q3 (kk _ hG2)
  refine eQ_istore (lv' := xs1 5 (.int r) lv) la_message_1823 (by decide) rfl ?_
  refine eQ_aload_n la_message_1825 (lwG_s hG (by decide)).2.2.1 ?_
  refine eQ_sc (n := 1) (lwG_s hG (by decide)) hS1 (by omega) hL (by decide) la_message_1826 la_message_1827 la_message_1829 la_message_1830 la_message_1831 ?_
  refine eQ_sc (n := 2) (lwG_s hG (by decide)) hS1 (by omega) hL (by decide) la_message_1832 la_message_1833 la_message_1835 la_message_1836 la_message_1837 ?_
  refine eQ_virt (b := ma) (as := [.int (xs (i + 1)), .int (xs (i + 2))]) (n := 2) (r := (some (.int v))) la_message_1838 (by decide +kernel) (by decide +kernel) rfl rfl (Nat.le_of_ble_eq_true rfl) (by decide +kernel) hb1 hM ?_
  refine eQ_istore (lv' := xs1 6 (.int v) (xs1 5 (.int r) lv)) la_message_1841 (by decide) rfl ?_
  refine eQ_aload_n la_message_1843 hG2.2.2.1 ?_
  refine eQ_virt (b := ma) (as := []) (n := 0) (r := some (.int r)) la_message_1844 (by decide +kernel) (by decide +kernel) rfl rfl (Nat.le_of_ble_eq_true rfl) (by decide +kernel) hb2 hT ?_
  refine eQ_iload la_message_1847 g5 ?_
  refine eQ_icmp (t := 1854) la_message_1849 (by decide) (fun _ => ?_) (fun q => absurd (l_eq _) q)
  refine eQ_iload la_message_1854 g5 ?_
  refine eQ_if (t := 1871) la_message_1856 (by decide) (fun _ => ?_) (fun q => absurd hr q)
  refine eQ_goto (t := 2147) la_message_1871 (by decide) ?_
  exact xQ_r
theorem lA_client_N {p : Program} {l : Launch} {e : Env} {s : State} {m : MethodId} {args : Array Value} {below : List Frame} {meth : Method} {c : Code} {G0 : Heap} {Y : State → Prop} {D : va_G} {dA : Nat → ClassId} {base t0 u0 : Nat} {Q : State → Prop} {pF : Nat → List Value → xH → Option (Option Value × xH)} (C : lwC p l s m args c G0 Y D dA base pF) {lv : xL} {b xa ma ao i L : Nat} {xs : Nat → Int32} (hG : lwG lv b xa ma ao i) (hi : i + 6 ≤ L) (hL : L ≤ 3074) {h h1 h2 h3 : xH} {v : Int32} (hS : lwS h b L xs) (hS1 : lwS h1 b L xs) (hX : xMetW l G0 Y D dA base 31 yL_client cL_client 5 [(0, 10, 13, 25)] [.ref xa, .int (xs (i + 1)), .int (xs (i + 2)), .ref ao] h (0 : Int32) h1) (hb1 : ((xMn 256).cls = (xCl ((h1.1 ma).1 - 1)).1 ∧ 0 < (h1.1 ma).1 ∧ (h1.1 ma).1 ≤ 17)) (hb2 : ((xMn 373).cls = (xCl ((h2.1 ma).1 - 1)).1 ∧ 0 < (h2.1 ma).1 ∧ (h2.1 ma).1 ≤ 17)) (hM : xCo pF 31 256 (.ref ma :: [.int (xs (i + 1)), .int (xs (i + 2))]) h1 (some (.int v)) h2) (hT : xCo pF 31 373 [.ref ma] h2 (some (.int (0 : Int32))) h3) (ho : (h3.1 ao).1 = 21 ∧ (h3.1 ao).2.1 = 1 ∧ (h3.1 ao).2.2 0 = .long (v.toInt64)) (q0 : lwR base t0 u0 h) (q1 : lwR base t0 u0 h1) (q3 : lwR base t0 u0 h3)
    (kk : ∀ lv', lwG lv' b xa ma ao i → lwW p l e s m args below meth c G0 D dA base t0 u0 Q 2147 lv' [] h3) : lwW p l e s m args below meth c G0 D dA base t0 u0 Q 1874 lv [] h := by
  refine lwQ1 C kAo_client (f := (1874, lv, [], h)) (g := (1888, lv, ([.ref xa, .int (xs (i + 1)), .int (xs (i + 2)), .ref ao]).reverse, h)) ?_ q0 q0 ?_
  · refine eQ_aload_n la_client_1874 hG.2.1 ?_
    refine eQ_sc (n := 1) hG hS (by omega) hL (by decide) la_client_1875 la_client_1876 la_client_1878 la_client_1879 la_client_1880 ?_
    refine eQ_sc (n := 2) hG hS (by omega) hL (by decide) la_client_1881 la_client_1882 la_client_1884 la_client_1885 la_client_1886 ?_
    refine eQ_aload_n la_client_1887 hG.2.2.2.1 ?_
    exact xQ_r
  refine lw_wr C hX wc_client wt_client (by decide) rfl wl_client (n := 4) (by decide +kernel) rfl (kAo_client (1888, (.invokestatic 202, 3)) (x_look rfl)) rfl q0 q1 ?_
  have hG2 : lwG (xs1 6 (.int v) (xs1 5 (.int (0 : Int32)) lv)) b xa ma ao i := (lwG_s (lwG_s hG (by decide)) (by decide))
  have g5 : xg (xs1 6 (.int v) (xs1 5 (.int (0 : Int32)) lv)) 5 = some (.int (0 : Int32)) := (xs1_keep.2 5 _ (by decide) (fun _ => rfl) xs1_keep.1)
  have g6 : xg (xs1 6 (.int v) (xs1 5 (.int (0 : Int32)) lv)) 6 = some (.int v) := xs1_keep.1
  refine lwQ1 C kAo_client (f := (1891, lv, [.int (0 : Int32)], h1)) (g := (2147, xs1 6 (.int v) (xs1 5 (.int (0 : Int32)) lv), [], h3)) ?_ q1 q3 (kk _ hG2)
  refine eQ_istore (lv' := xs1 5 (.int (0 : Int32)) lv) la_client_1891 (by decide) rfl ?_
  refine eQ_aload_n la_client_1893 (lwG_s hG (by decide)).2.2.1 ?_
  refine eQ_sc (n := 1) (lwG_s hG (by decide)) hS1 (by omega) hL (by decide) la_client_1894 la_client_1895 la_client_1897 la_client_1898 la_client_1899 ?_
  refine eQ_sc (n := 2) (lwG_s hG (by decide)) hS1 (by omega) hL (by decide) la_client_1900 la_client_1901 la_client_1903 la_client_1904 la_client_1905 ?_
  refine eQ_virt (b := ma) (as := [.int (xs (i + 1)), .int (xs (i + 2))]) (n := 2) (r := (some (.int v))) la_client_1906 (by decide +kernel) (by decide +kernel) rfl rfl (Nat.le_of_ble_eq_true rfl) (by decide +kernel) hb1 hM ?_
  refine eQ_istore (lv' := xs1 6 (.int v) (xs1 5 (.int (0 : Int32)) lv)) la_client_1909 (by decide) rfl ?_
  refine eQ_aload_n la_client_1911 hG2.2.2.1 ?_
  refine eQ_virt (b := ma) (as := []) (n := 0) (r := some (.int (0 : Int32))) la_client_1912 (by decide +kernel) (by decide +kernel) rfl rfl (Nat.le_of_ble_eq_true rfl) (by decide +kernel) hb2 hT ?_
  refine eQ_iload la_client_1915 g5 ?_
  refine eQ_icmp (t := 1922) la_client_1917 (by decide) (fun _ => ?_) (fun q => absurd (l_eq _) q)
  refine eQ_iload la_client_1922 g5 ?_
  refine eQ_if (t := 1939) la_client_1924 (by decide) (fun q => absurd q (by decide)) (fun _ => ?_)
  refine eQ_aload_n la_client_1927 hG2.2.2.2.1 ?_
  refine eQ_iconst (v := 0) la_client_1928 (by decide) ?_
  refine eQ_lald (j := 0) (x := v.toInt64) la_client_1929 ho.1 (by rw [ho.2.1]; decide) (by decide) ho.2.2 ?_
  refine eQ_iload la_client_1930 g6 ?_
  refine eQ_i2l la_client_1932 ?_
  refine eQ_lcmp la_client_1933 ?_
  rw [lg_cmp_self]
  refine eQ_if (t := 1939) la_client_1934 (by decide) (fun _ => ?_) (fun q => absurd (by decide) q)
  refine eQ_goto (t := 2147) la_client_1939 (by decide) ?_
  exact xQ_r
theorem lA_client_T {p : Program} {l : Launch} {e : Env} {s : State} {m : MethodId} {args : Array Value} {below : List Frame} {meth : Method} {c : Code} {G0 : Heap} {Y : State → Prop} {D : va_G} {dA : Nat → ClassId} {base t0 u0 : Nat} {Q : State → Prop} {pF : Nat → List Value → xH → Option (Option Value × xH)} (C : lwC p l s m args c G0 Y D dA base pF) {lv : xL} {b xa ma ao i L : Nat} {xs : Nat → Int32} (hG : lwG lv b xa ma ao i) (hi : i + 6 ≤ L) (hL : L ≤ 3074) {h h1 h2 h3 : xH} {r : Int32} {v : Int32} (hS : lwS h b L xs) (hS1 : lwS h1 b L xs) (hX : xMetW l G0 Y D dA base 31 yL_client cL_client 5 [(0, 10, 13, 25)] [.ref xa, .int (xs (i + 1)), .int (xs (i + 2)), .ref ao] h r h1) (hb1 : ((xMn 256).cls = (xCl ((h1.1 ma).1 - 1)).1 ∧ 0 < (h1.1 ma).1 ∧ (h1.1 ma).1 ≤ 17)) (hb2 : ((xMn 373).cls = (xCl ((h2.1 ma).1 - 1)).1 ∧ 0 < (h2.1 ma).1 ∧ (h2.1 ma).1 ≤ 17)) (hM : xCo pF 31 256 (.ref ma :: [.int (xs (i + 1)), .int (xs (i + 2))]) h1 (some (.int v)) h2) (hT : xCo pF 31 373 [.ref ma] h2 (some (.int r)) h3) (hr : xc0 .ne r = true) (q0 : lwR base t0 u0 h) (q1 : lwR base t0 u0 h1) (q3 : lwR base t0 u0 h3)
    (kk : ∀ lv', lwG lv' b xa ma ao i → lwW p l e s m args below meth c G0 D dA base t0 u0 Q 2147 lv' [] h3) : lwW p l e s m args below meth c G0 D dA base t0 u0 Q 1874 lv [] h := by
  refine lwQ1 C kAo_client (f := (1874, lv, [], h)) (g := (1888, lv, ([.ref xa, .int (xs (i + 1)), .int (xs (i + 2)), .ref ao]).reverse, h)) ?_ q0 q0 ?_
  · refine eQ_aload_n la_client_1874 hG.2.1 ?_
    refine eQ_sc (n := 1) hG hS (by omega) hL (by decide) la_client_1875 la_client_1876 la_client_1878 la_client_1879 la_client_1880 ?_
    refine eQ_sc (n := 2) hG hS (by omega) hL (by decide) la_client_1881 la_client_1882 la_client_1884 la_client_1885 la_client_1886 ?_
    refine eQ_aload_n la_client_1887 hG.2.2.2.1 ?_
    exact xQ_r
  refine lw_wr C hX wc_client wt_client (by decide) rfl wl_client (n := 4) (by decide +kernel) rfl (kAo_client (1888, (.invokestatic 202, 3)) (x_look rfl)) rfl q0 q1 ?_
  have hG2 : lwG (xs1 6 (.int v) (xs1 5 (.int r) lv)) b xa ma ao i := (lwG_s (lwG_s hG (by decide)) (by decide))
  have g5 : xg (xs1 6 (.int v) (xs1 5 (.int r) lv)) 5 = some (.int r) := (xs1_keep.2 5 _ (by decide) (fun _ => rfl) xs1_keep.1)
  have g6 : xg (xs1 6 (.int v) (xs1 5 (.int r) lv)) 6 = some (.int v) := xs1_keep.1
  refine lwQ1 C kAo_client (f := (1891, lv, [.int r], h1)) (g := (2147, xs1 6 (.int v) (xs1 5 (.int r) lv), [], h3)) ?_ q1 q3 (kk _ hG2)
  refine eQ_istore (lv' := xs1 5 (.int r) lv) la_client_1891 (by decide) rfl ?_
  refine eQ_aload_n la_client_1893 (lwG_s hG (by decide)).2.2.1 ?_
  refine eQ_sc (n := 1) (lwG_s hG (by decide)) hS1 (by omega) hL (by decide) la_client_1894 la_client_1895 la_client_1897 la_client_1898 la_client_1899 ?_
  refine eQ_sc (n := 2) (lwG_s hG (by decide)) hS1 (by omega) hL (by decide) la_client_1900 la_client_1901 la_client_1903 la_client_1904 la_client_1905 ?_
  refine eQ_virt (b := ma) (as := [.int (xs (i + 1)), .int (xs (i + 2))]) (n := 2) (r := (some (.int v))) la_client_1906 (by decide +kernel) (by decide +kernel) rfl rfl (Nat.le_of_ble_eq_true rfl) (by decide +kernel) hb1 hM ?_
  refine eQ_istore (lv' := xs1 6 (.int v) (xs1 5 (.int r) lv)) la_client_1909 (by decide) rfl ?_
  refine eQ_aload_n la_client_1911 hG2.2.2.1 ?_
  refine eQ_virt (b := ma) (as := []) (n := 0) (r := some (.int r)) la_client_1912 (by decide +kernel) (by decide +kernel) rfl rfl (Nat.le_of_ble_eq_true rfl) (by decide +kernel) hb2 hT ?_
  refine eQ_iload la_client_1915 g5 ?_
  refine eQ_icmp (t := 1922) la_client_1917 (by decide) (fun _ => ?_) (fun q => absurd (l_eq _) q)
  refine eQ_iload la_client_1922 g5 ?_
  refine eQ_if (t := 1939) la_client_1924 (by decide) (fun _ => ?_) (fun q => absurd hr q)
  refine eQ_goto (t := 2147) la_client_1939 (by decide) ?_
  exact xQ_r
theorem lA_answer_N {p : Program} {l : Launch} {e : Env} {s : State} {m : MethodId} {args : Array Value} {below : List Frame} {meth : Method} {c : Code} {G0 : Heap} {Y : State → Prop} {D : va_G} {dA : Nat → ClassId} {base t0 u0 : Nat} {Q : State → Prop} {pF : Nat → List Value → xH → Option (Option Value × xH)} (C : lwC p l s m args c G0 Y D dA base pF) {lv : xL} {b xa ma ao i L : Nat} {xs : Nat → Int32} (hG : lwG lv b xa ma ao i) (hi : i + 6 ≤ L) (hL : L ≤ 3074) {h h1 h2 h3 : xH} {v : Int32} (hS : lwS h b L xs) (hS1 : lwS h1 b L xs) (hX : xMetW l G0 Y D dA base 31 yL_answer cL_answer 4 [(0, 9, 12, 25)] [.ref xa, .int (xs (i + 1)), .ref ao] h (0 : Int32) h1) (hb1 : ((xMn 242).cls = (xCl ((h1.1 ma).1 - 1)).1 ∧ 0 < (h1.1 ma).1 ∧ (h1.1 ma).1 ≤ 17)) (hb2 : ((xMn 373).cls = (xCl ((h2.1 ma).1 - 1)).1 ∧ 0 < (h2.1 ma).1 ∧ (h2.1 ma).1 ≤ 17)) (hM : xCo pF 31 242 (.ref ma :: [.int (xs (i + 1))]) h1 (some (.int v)) h2) (hT : xCo pF 31 373 [.ref ma] h2 (some (.int (0 : Int32))) h3) (ho : (h3.1 ao).1 = 21 ∧ (h3.1 ao).2.1 = 1 ∧ (h3.1 ao).2.2 0 = .long (v.toInt64)) (q0 : lwR base t0 u0 h) (q1 : lwR base t0 u0 h1) (q3 : lwR base t0 u0 h3)
    (kk : ∀ lv', lwG lv' b xa ma ao i → lwW p l e s m args below meth c G0 D dA base t0 u0 Q 2147 lv' [] h3) : lwW p l e s m args below meth c G0 D dA base t0 u0 Q 1942 lv [] h := by
  refine lwQ1 C kAo_answer (f := (1942, lv, [], h)) (g := (1950, lv, ([.ref xa, .int (xs (i + 1)), .ref ao]).reverse, h)) ?_ q0 q0 ?_
  · refine eQ_aload_n la_answer_1942 hG.2.1 ?_
    refine eQ_sc (n := 1) hG hS (by omega) hL (by decide) la_answer_1943 la_answer_1944 la_answer_1946 la_answer_1947 la_answer_1948 ?_
    refine eQ_aload_n la_answer_1949 hG.2.2.2.1 ?_
    exact xQ_r
  refine lw_wr C hX wc_answer wt_answer (by decide) rfl wl_answer (n := 3) (by decide +kernel) rfl (kAo_answer (1950, (.invokestatic 205, 3)) (x_look rfl)) rfl q0 q1 ?_
  have hG2 : lwG (xs1 6 (.int v) (xs1 5 (.int (0 : Int32)) lv)) b xa ma ao i := (lwG_s (lwG_s hG (by decide)) (by decide))
  have g5 : xg (xs1 6 (.int v) (xs1 5 (.int (0 : Int32)) lv)) 5 = some (.int (0 : Int32)) := (xs1_keep.2 5 _ (by decide) (fun _ => rfl) xs1_keep.1)
  have g6 : xg (xs1 6 (.int v) (xs1 5 (.int (0 : Int32)) lv)) 6 = some (.int v) := xs1_keep.1
  refine lwQ1 C kAo_answer (f := (1953, lv, [.int (0 : Int32)], h1)) (g := (2147, xs1 6 (.int v) (xs1 5 (.int (0 : Int32)) lv), [], h3)) ?_ q1 q3 (kk _ hG2)
  refine eQ_istore (lv' := xs1 5 (.int (0 : Int32)) lv) la_answer_1953 (by decide) rfl ?_
  refine eQ_aload_n la_answer_1955 (lwG_s hG (by decide)).2.2.1 ?_
  refine eQ_sc (n := 1) (lwG_s hG (by decide)) hS1 (by omega) hL (by decide) la_answer_1956 la_answer_1957 la_answer_1959 la_answer_1960 la_answer_1961 ?_
  refine eQ_virt (b := ma) (as := [.int (xs (i + 1))]) (n := 1) (r := (some (.int v))) la_answer_1962 (by decide +kernel) (by decide +kernel) rfl rfl (Nat.le_of_ble_eq_true rfl) (by decide +kernel) hb1 hM ?_
  refine eQ_istore (lv' := xs1 6 (.int v) (xs1 5 (.int (0 : Int32)) lv)) la_answer_1965 (by decide) rfl ?_
  refine eQ_aload_n la_answer_1967 hG2.2.2.1 ?_
  refine eQ_virt (b := ma) (as := []) (n := 0) (r := some (.int (0 : Int32))) la_answer_1968 (by decide +kernel) (by decide +kernel) rfl rfl (Nat.le_of_ble_eq_true rfl) (by decide +kernel) hb2 hT ?_
  refine eQ_iload la_answer_1971 g5 ?_
  refine eQ_icmp (t := 1978) la_answer_1973 (by decide) (fun _ => ?_) (fun q => absurd (l_eq _) q)
  refine eQ_iload la_answer_1978 g5 ?_
  refine eQ_if (t := 1995) la_answer_1980 (by decide) (fun q => absurd q (by decide)) (fun _ => ?_)
  refine eQ_aload_n la_answer_1983 hG2.2.2.2.1 ?_
  refine eQ_iconst (v := 0) la_answer_1984 (by decide) ?_
  refine eQ_lald (j := 0) (x := v.toInt64) la_answer_1985 ho.1 (by rw [ho.2.1]; decide) (by decide) ho.2.2 ?_
  refine eQ_iload la_answer_1986 g6 ?_
  refine eQ_i2l la_answer_1988 ?_
  refine eQ_lcmp la_answer_1989 ?_
  rw [lg_cmp_self]
  refine eQ_if (t := 1995) la_answer_1990 (by decide) (fun _ => ?_) (fun q => absurd (by decide) q)
  refine eQ_goto (t := 2147) la_answer_1995 (by decide) ?_
  exact xQ_r
theorem lA_answer_T {p : Program} {l : Launch} {e : Env} {s : State} {m : MethodId} {args : Array Value} {below : List Frame} {meth : Method} {c : Code} {G0 : Heap} {Y : State → Prop} {D : va_G} {dA : Nat → ClassId} {base t0 u0 : Nat} {Q : State → Prop} {pF : Nat → List Value → xH → Option (Option Value × xH)} (C : lwC p l s m args c G0 Y D dA base pF) {lv : xL} {b xa ma ao i L : Nat} {xs : Nat → Int32} (hG : lwG lv b xa ma ao i) (hi : i + 6 ≤ L) (hL : L ≤ 3074) {h h1 h2 h3 : xH} {r : Int32} {v : Int32} (hS : lwS h b L xs) (hS1 : lwS h1 b L xs) (hX : xMetW l G0 Y D dA base 31 yL_answer cL_answer 4 [(0, 9, 12, 25)] [.ref xa, .int (xs (i + 1)), .ref ao] h r h1) (hb1 : ((xMn 242).cls = (xCl ((h1.1 ma).1 - 1)).1 ∧ 0 < (h1.1 ma).1 ∧ (h1.1 ma).1 ≤ 17)) (hb2 : ((xMn 373).cls = (xCl ((h2.1 ma).1 - 1)).1 ∧ 0 < (h2.1 ma).1 ∧ (h2.1 ma).1 ≤ 17)) (hM : xCo pF 31 242 (.ref ma :: [.int (xs (i + 1))]) h1 (some (.int v)) h2) (hT : xCo pF 31 373 [.ref ma] h2 (some (.int r)) h3) (hr : xc0 .ne r = true) (q0 : lwR base t0 u0 h) (q1 : lwR base t0 u0 h1) (q3 : lwR base t0 u0 h3)
    (kk : ∀ lv', lwG lv' b xa ma ao i → lwW p l e s m args below meth c G0 D dA base t0 u0 Q 2147 lv' [] h3) : lwW p l e s m args below meth c G0 D dA base t0 u0 Q 1942 lv [] h := by
  refine lwQ1 C kAo_answer (f := (1942, lv, [], h)) (g := (1950, lv, ([.ref xa, .int (xs (i + 1)), .ref ao]).reverse, h)) ?_ q0 q0 ?_
  · refine eQ_aload_n la_answer_1942 hG.2.1 ?_
    refine eQ_sc (n := 1) hG hS (by omega) hL (by decide) la_answer_1943 la_answer_1944 la_answer_1946 la_answer_1947 la_answer_1948 ?_
    refine eQ_aload_n la_answer_1949 hG.2.2.2.1 ?_
    exact xQ_r
  refine lw_wr C hX wc_answer wt_answer (by decide) rfl wl_answer (n := 3) (by decide +kernel) rfl (kAo_answer (1950, (.invokestatic 205, 3)) (x_look rfl)) rfl q0 q1 ?_
  have hG2 : lwG (xs1 6 (.int v) (xs1 5 (.int r) lv)) b xa ma ao i := (lwG_s (lwG_s hG (by decide)) (by decide))
  have g5 : xg (xs1 6 (.int v) (xs1 5 (.int r) lv)) 5 = some (.int r) := (xs1_keep.2 5 _ (by decide) (fun _ => rfl) xs1_keep.1)
  have g6 : xg (xs1 6 (.int v) (xs1 5 (.int r) lv)) 6 = some (.int v) := xs1_keep.1
  refine lwQ1 C kAo_answer (f := (1953, lv, [.int r], h1)) (g := (2147, xs1 6 (.int v) (xs1 5 (.int r) lv), [], h3)) ?_ q1 q3 (kk _ hG2)
  refine eQ_istore (lv' := xs1 5 (.int r) lv) la_answer_1953 (by decide) rfl ?_
  refine eQ_aload_n la_answer_1955 (lwG_s hG (by decide)).2.2.1 ?_
  refine eQ_sc (n := 1) (lwG_s hG (by decide)) hS1 (by omega) hL (by decide) la_answer_1956 la_answer_1957 la_answer_1959 la_answer_1960 la_answer_1961 ?_
  refine eQ_virt (b := ma) (as := [.int (xs (i + 1))]) (n := 1) (r := (some (.int v))) la_answer_1962 (by decide +kernel) (by decide +kernel) rfl rfl (Nat.le_of_ble_eq_true rfl) (by decide +kernel) hb1 hM ?_
  refine eQ_istore (lv' := xs1 6 (.int v) (xs1 5 (.int r) lv)) la_answer_1965 (by decide) rfl ?_
  refine eQ_aload_n la_answer_1967 hG2.2.2.1 ?_
  refine eQ_virt (b := ma) (as := []) (n := 0) (r := some (.int r)) la_answer_1968 (by decide +kernel) (by decide +kernel) rfl rfl (Nat.le_of_ble_eq_true rfl) (by decide +kernel) hb2 hT ?_
  refine eQ_iload la_answer_1971 g5 ?_
  refine eQ_icmp (t := 1978) la_answer_1973 (by decide) (fun _ => ?_) (fun q => absurd (l_eq _) q)
  refine eQ_iload la_answer_1978 g5 ?_
  refine eQ_if (t := 1995) la_answer_1980 (by decide) (fun _ => ?_) (fun q => absurd hr q)
  refine eQ_goto (t := 2147) la_answer_1995 (by decide) ?_
  exact xQ_r
theorem lA_history_N {p : Program} {l : Launch} {e : Env} {s : State} {m : MethodId} {args : Array Value} {below : List Frame} {meth : Method} {c : Code} {G0 : Heap} {Y : State → Prop} {D : va_G} {dA : Nat → ClassId} {base t0 u0 : Nat} {Q : State → Prop} {pF : Nat → List Value → xH → Option (Option Value × xH)} (C : lwC p l s m args c G0 Y D dA base pF) {lv : xL} {b xa ma ao i L : Nat} {xs : Nat → Int32} (hG : lwG lv b xa ma ao i) (hi : i + 6 ≤ L) (hL : L ≤ 3074) {h h1 h2 h3 : xH} {v : Int32} (hS : lwS h b L xs) (hS1 : lwS h1 b L xs) (hX : xMetW l G0 Y D dA base 31 yL_history cL_history 5 [(0, 10, 13, 25)] [.ref xa, .int (xs (i + 1)), .int (xs (i + 2)), .ref ao] h (0 : Int32) h1) (hb1 : ((xMn 292).cls = (xCl ((h1.1 ma).1 - 1)).1 ∧ 0 < (h1.1 ma).1 ∧ (h1.1 ma).1 ≤ 17)) (hb2 : ((xMn 373).cls = (xCl ((h2.1 ma).1 - 1)).1 ∧ 0 < (h2.1 ma).1 ∧ (h2.1 ma).1 ≤ 17)) (hM : xCo pF 31 292 (.ref ma :: [.int (xs (i + 1)), .int (xs (i + 2))]) h1 (some (.int v)) h2) (hT : xCo pF 31 373 [.ref ma] h2 (some (.int (0 : Int32))) h3) (ho : (h3.1 ao).1 = 21 ∧ (h3.1 ao).2.1 = 1 ∧ (h3.1 ao).2.2 0 = .long (v.toInt64)) (q0 : lwR base t0 u0 h) (q1 : lwR base t0 u0 h1) (q3 : lwR base t0 u0 h3)
    (kk : ∀ lv', lwG lv' b xa ma ao i → lwW p l e s m args below meth c G0 D dA base t0 u0 Q 2147 lv' [] h3) : lwW p l e s m args below meth c G0 D dA base t0 u0 Q 1998 lv [] h := by
  refine lwQ1 C kAo_history (f := (1998, lv, [], h)) (g := (2012, lv, ([.ref xa, .int (xs (i + 1)), .int (xs (i + 2)), .ref ao]).reverse, h)) ?_ q0 q0 ?_
  · refine eQ_aload_n la_history_1998 hG.2.1 ?_
    refine eQ_sc (n := 1) hG hS (by omega) hL (by decide) la_history_1999 la_history_2000 la_history_2002 la_history_2003 la_history_2004 ?_
    refine eQ_sc (n := 2) hG hS (by omega) hL (by decide) la_history_2005 la_history_2006 la_history_2008 la_history_2009 la_history_2010 ?_
    refine eQ_aload_n la_history_2011 hG.2.2.2.1 ?_
    exact xQ_r
  refine lw_wr C hX wc_history wt_history (by decide) rfl wl_history (n := 4) (by decide +kernel) rfl (kAo_history (2012, (.invokestatic 208, 3)) (x_look rfl)) rfl q0 q1 ?_
  have hG2 : lwG (xs1 6 (.int v) (xs1 5 (.int (0 : Int32)) lv)) b xa ma ao i := (lwG_s (lwG_s hG (by decide)) (by decide))
  have g5 : xg (xs1 6 (.int v) (xs1 5 (.int (0 : Int32)) lv)) 5 = some (.int (0 : Int32)) := (xs1_keep.2 5 _ (by decide) (fun _ => rfl) xs1_keep.1)
  have g6 : xg (xs1 6 (.int v) (xs1 5 (.int (0 : Int32)) lv)) 6 = some (.int v) := xs1_keep.1
  refine lwQ1 C kAo_history (f := (2015, lv, [.int (0 : Int32)], h1)) (g := (2147, xs1 6 (.int v) (xs1 5 (.int (0 : Int32)) lv), [], h3)) ?_ q1 q3 (kk _ hG2)
  refine eQ_istore (lv' := xs1 5 (.int (0 : Int32)) lv) la_history_2015 (by decide) rfl ?_
  refine eQ_aload_n la_history_2017 (lwG_s hG (by decide)).2.2.1 ?_
  refine eQ_sc (n := 1) (lwG_s hG (by decide)) hS1 (by omega) hL (by decide) la_history_2018 la_history_2019 la_history_2021 la_history_2022 la_history_2023 ?_
  refine eQ_sc (n := 2) (lwG_s hG (by decide)) hS1 (by omega) hL (by decide) la_history_2024 la_history_2025 la_history_2027 la_history_2028 la_history_2029 ?_
  refine eQ_virt (b := ma) (as := [.int (xs (i + 1)), .int (xs (i + 2))]) (n := 2) (r := (some (.int v))) la_history_2030 (by decide +kernel) (by decide +kernel) rfl rfl (Nat.le_of_ble_eq_true rfl) (by decide +kernel) hb1 hM ?_
  refine eQ_istore (lv' := xs1 6 (.int v) (xs1 5 (.int (0 : Int32)) lv)) la_history_2033 (by decide) rfl ?_
  refine eQ_aload_n la_history_2035 hG2.2.2.1 ?_
  refine eQ_virt (b := ma) (as := []) (n := 0) (r := some (.int (0 : Int32))) la_history_2036 (by decide +kernel) (by decide +kernel) rfl rfl (Nat.le_of_ble_eq_true rfl) (by decide +kernel) hb2 hT ?_
  refine eQ_iload la_history_2039 g5 ?_
  refine eQ_icmp (t := 2046) la_history_2041 (by decide) (fun _ => ?_) (fun q => absurd (l_eq _) q)
  refine eQ_iload la_history_2046 g5 ?_
  refine eQ_if (t := 2063) la_history_2048 (by decide) (fun q => absurd q (by decide)) (fun _ => ?_)
  refine eQ_aload_n la_history_2051 hG2.2.2.2.1 ?_
  refine eQ_iconst (v := 0) la_history_2052 (by decide) ?_
  refine eQ_lald (j := 0) (x := v.toInt64) la_history_2053 ho.1 (by rw [ho.2.1]; decide) (by decide) ho.2.2 ?_
  refine eQ_iload la_history_2054 g6 ?_
  refine eQ_i2l la_history_2056 ?_
  refine eQ_lcmp la_history_2057 ?_
  rw [lg_cmp_self]
  refine eQ_if (t := 2063) la_history_2058 (by decide) (fun _ => ?_) (fun q => absurd (by decide) q)
  refine eQ_goto (t := 2147) la_history_2063 (by decide) ?_
  exact xQ_r
theorem lA_history_T {p : Program} {l : Launch} {e : Env} {s : State} {m : MethodId} {args : Array Value} {below : List Frame} {meth : Method} {c : Code} {G0 : Heap} {Y : State → Prop} {D : va_G} {dA : Nat → ClassId} {base t0 u0 : Nat} {Q : State → Prop} {pF : Nat → List Value → xH → Option (Option Value × xH)} (C : lwC p l s m args c G0 Y D dA base pF) {lv : xL} {b xa ma ao i L : Nat} {xs : Nat → Int32} (hG : lwG lv b xa ma ao i) (hi : i + 6 ≤ L) (hL : L ≤ 3074) {h h1 h2 h3 : xH} {r : Int32} {v : Int32} (hS : lwS h b L xs) (hS1 : lwS h1 b L xs) (hX : xMetW l G0 Y D dA base 31 yL_history cL_history 5 [(0, 10, 13, 25)] [.ref xa, .int (xs (i + 1)), .int (xs (i + 2)), .ref ao] h r h1) (hb1 : ((xMn 292).cls = (xCl ((h1.1 ma).1 - 1)).1 ∧ 0 < (h1.1 ma).1 ∧ (h1.1 ma).1 ≤ 17)) (hb2 : ((xMn 373).cls = (xCl ((h2.1 ma).1 - 1)).1 ∧ 0 < (h2.1 ma).1 ∧ (h2.1 ma).1 ≤ 17)) (hM : xCo pF 31 292 (.ref ma :: [.int (xs (i + 1)), .int (xs (i + 2))]) h1 (some (.int v)) h2) (hT : xCo pF 31 373 [.ref ma] h2 (some (.int r)) h3) (hr : xc0 .ne r = true) (q0 : lwR base t0 u0 h) (q1 : lwR base t0 u0 h1) (q3 : lwR base t0 u0 h3)
    (kk : ∀ lv', lwG lv' b xa ma ao i → lwW p l e s m args below meth c G0 D dA base t0 u0 Q 2147 lv' [] h3) : lwW p l e s m args below meth c G0 D dA base t0 u0 Q 1998 lv [] h := by
  refine lwQ1 C kAo_history (f := (1998, lv, [], h)) (g := (2012, lv, ([.ref xa, .int (xs (i + 1)), .int (xs (i + 2)), .ref ao]).reverse, h)) ?_ q0 q0 ?_
  · refine eQ_aload_n la_history_1998 hG.2.1 ?_
    refine eQ_sc (n := 1) hG hS (by omega) hL (by decide) la_history_1999 la_history_2000 la_history_2002 la_history_2003 la_history_2004 ?_
    refine eQ_sc (n := 2) hG hS (by omega) hL (by decide) la_history_2005 la_history_2006 la_history_2008 la_history_2009 la_history_2010 ?_
    refine eQ_aload_n la_history_2011 hG.2.2.2.1 ?_
    exact xQ_r
  refine lw_wr C hX wc_history wt_history (by decide) rfl wl_history (n := 4) (by decide +kernel) rfl (kAo_history (2012, (.invokestatic 208, 3)) (x_look rfl)) rfl q0 q1 ?_
  have hG2 : lwG (xs1 6 (.int v) (xs1 5 (.int r) lv)) b xa ma ao i := (lwG_s (lwG_s hG (by decide)) (by decide))
  have g5 : xg (xs1 6 (.int v) (xs1 5 (.int r) lv)) 5 = some (.int r) := (xs1_keep.2 5 _ (by decide) (fun _ => rfl) xs1_keep.1)
  have g6 : xg (xs1 6 (.int v) (xs1 5 (.int r) lv)) 6 = some (.int v) := xs1_keep.1
  refine lwQ1 C kAo_history (f := (2015, lv, [.int r], h1)) (g := (2147, xs1 6 (.int v) (xs1 5 (.int r) lv), [], h3)) ?_ q1 q3 (kk _ hG2)
  refine eQ_istore (lv' := xs1 5 (.int r) lv) la_history_2015 (by decide) rfl ?_
  refine eQ_aload_n la_history_2017 (lwG_s hG (by decide)).2.2.1 ?_
  refine eQ_sc (n := 1) (lwG_s hG (by decide)) hS1 (by omega) hL (by decide) la_history_2018 la_history_2019 la_history_2021 la_history_2022 la_history_2023 ?_
  refine eQ_sc (n := 2) (lwG_s hG (by decide)) hS1 (by omega) hL (by decide) la_history_2024 la_history_2025 la_history_2027 la_history_2028 la_history_2029 ?_
  refine eQ_virt (b := ma) (as := [.int (xs (i + 1)), .int (xs (i + 2))]) (n := 2) (r := (some (.int v))) la_history_2030 (by decide +kernel) (by decide +kernel) rfl rfl (Nat.le_of_ble_eq_true rfl) (by decide +kernel) hb1 hM ?_
  refine eQ_istore (lv' := xs1 6 (.int v) (xs1 5 (.int r) lv)) la_history_2033 (by decide) rfl ?_
  refine eQ_aload_n la_history_2035 hG2.2.2.1 ?_
  refine eQ_virt (b := ma) (as := []) (n := 0) (r := some (.int r)) la_history_2036 (by decide +kernel) (by decide +kernel) rfl rfl (Nat.le_of_ble_eq_true rfl) (by decide +kernel) hb2 hT ?_
  refine eQ_iload la_history_2039 g5 ?_
  refine eQ_icmp (t := 2046) la_history_2041 (by decide) (fun _ => ?_) (fun q => absurd (l_eq _) q)
  refine eQ_iload la_history_2046 g5 ?_
  refine eQ_if (t := 2063) la_history_2048 (by decide) (fun _ => ?_) (fun q => absurd hr q)
  refine eQ_goto (t := 2147) la_history_2063 (by decide) ?_
  exact xQ_r
theorem lA_byteAt_N {p : Program} {l : Launch} {e : Env} {s : State} {m : MethodId} {args : Array Value} {below : List Frame} {meth : Method} {c : Code} {G0 : Heap} {Y : State → Prop} {D : va_G} {dA : Nat → ClassId} {base t0 u0 : Nat} {Q : State → Prop} {pF : Nat → List Value → xH → Option (Option Value × xH)} (C : lwC p l s m args c G0 Y D dA base pF) {lv : xL} {b xa ma ao i L : Nat} {xs : Nat → Int32} (hG : lwG lv b xa ma ao i) (hi : i + 6 ≤ L) (hL : L ≤ 3074) {h h1 h2 h3 : xH} {v : Int32} (hS : lwS h b L xs) (hS1 : lwS h1 b L xs) (hX : xMetW l G0 Y D dA base 31 yL_byteAt cL_byteAt 4 [(0, 9, 12, 25)] [.ref xa, .int (xs (i + 1)), .ref ao] h (0 : Int32) h1) (hb1 : ((xMn 252).cls = (xCl ((h1.1 ma).1 - 1)).1 ∧ 0 < (h1.1 ma).1 ∧ (h1.1 ma).1 ≤ 17)) (hb2 : ((xMn 373).cls = (xCl ((h2.1 ma).1 - 1)).1 ∧ 0 < (h2.1 ma).1 ∧ (h2.1 ma).1 ≤ 17)) (hM : xCo pF 31 252 (.ref ma :: [.int (xs (i + 1))]) h1 (some (.int v)) h2) (hT : xCo pF 31 373 [.ref ma] h2 (some (.int (0 : Int32))) h3) (ho : (h3.1 ao).1 = 21 ∧ (h3.1 ao).2.1 = 1 ∧ (h3.1 ao).2.2 0 = .long (v.toInt64)) (q0 : lwR base t0 u0 h) (q1 : lwR base t0 u0 h1) (q3 : lwR base t0 u0 h3)
    (kk : ∀ lv', lwG lv' b xa ma ao i → lwW p l e s m args below meth c G0 D dA base t0 u0 Q 2147 lv' [] h3) : lwW p l e s m args below meth c G0 D dA base t0 u0 Q 2066 lv [] h := by
  refine lwQ1 C kAo_byteAt (f := (2066, lv, [], h)) (g := (2074, lv, ([.ref xa, .int (xs (i + 1)), .ref ao]).reverse, h)) ?_ q0 q0 ?_
  · refine eQ_aload_n la_byteAt_2066 hG.2.1 ?_
    refine eQ_sc (n := 1) hG hS (by omega) hL (by decide) la_byteAt_2067 la_byteAt_2068 la_byteAt_2070 la_byteAt_2071 la_byteAt_2072 ?_
    refine eQ_aload_n la_byteAt_2073 hG.2.2.2.1 ?_
    exact xQ_r
  refine lw_wr C hX wc_byteAt wt_byteAt (by decide) rfl wl_byteAt (n := 3) (by decide +kernel) rfl (kAo_byteAt (2074, (.invokestatic 211, 3)) (x_look rfl)) rfl q0 q1 ?_
  have hG2 : lwG (xs1 6 (.int v) (xs1 5 (.int (0 : Int32)) lv)) b xa ma ao i := (lwG_s (lwG_s hG (by decide)) (by decide))
  have g5 : xg (xs1 6 (.int v) (xs1 5 (.int (0 : Int32)) lv)) 5 = some (.int (0 : Int32)) := (xs1_keep.2 5 _ (by decide) (fun _ => rfl) xs1_keep.1)
  have g6 : xg (xs1 6 (.int v) (xs1 5 (.int (0 : Int32)) lv)) 6 = some (.int v) := xs1_keep.1
  refine lwQ1 C kAo_byteAt (f := (2077, lv, [.int (0 : Int32)], h1)) (g := (2147, xs1 6 (.int v) (xs1 5 (.int (0 : Int32)) lv), [], h3)) ?_ q1 q3 (kk _ hG2)
  refine eQ_istore (lv' := xs1 5 (.int (0 : Int32)) lv) la_byteAt_2077 (by decide) rfl ?_
  refine eQ_aload_n la_byteAt_2079 (lwG_s hG (by decide)).2.2.1 ?_
  refine eQ_sc (n := 1) (lwG_s hG (by decide)) hS1 (by omega) hL (by decide) la_byteAt_2080 la_byteAt_2081 la_byteAt_2083 la_byteAt_2084 la_byteAt_2085 ?_
  refine eQ_virt (b := ma) (as := [.int (xs (i + 1))]) (n := 1) (r := (some (.int v))) la_byteAt_2086 (by decide +kernel) (by decide +kernel) rfl rfl (Nat.le_of_ble_eq_true rfl) (by decide +kernel) hb1 hM ?_
  refine eQ_istore (lv' := xs1 6 (.int v) (xs1 5 (.int (0 : Int32)) lv)) la_byteAt_2089 (by decide) rfl ?_
  refine eQ_aload_n la_byteAt_2091 hG2.2.2.1 ?_
  refine eQ_virt (b := ma) (as := []) (n := 0) (r := some (.int (0 : Int32))) la_byteAt_2092 (by decide +kernel) (by decide +kernel) rfl rfl (Nat.le_of_ble_eq_true rfl) (by decide +kernel) hb2 hT ?_
  refine eQ_iload la_byteAt_2095 g5 ?_
  refine eQ_icmp (t := 2102) la_byteAt_2097 (by decide) (fun _ => ?_) (fun q => absurd (l_eq _) q)
  refine eQ_iload la_byteAt_2102 g5 ?_
  refine eQ_if (t := 2119) la_byteAt_2104 (by decide) (fun q => absurd q (by decide)) (fun _ => ?_)
  refine eQ_aload_n la_byteAt_2107 hG2.2.2.2.1 ?_
  refine eQ_iconst (v := 0) la_byteAt_2108 (by decide) ?_
  refine eQ_lald (j := 0) (x := v.toInt64) la_byteAt_2109 ho.1 (by rw [ho.2.1]; decide) (by decide) ho.2.2 ?_
  refine eQ_iload la_byteAt_2110 g6 ?_
  refine eQ_i2l la_byteAt_2112 ?_
  refine eQ_lcmp la_byteAt_2113 ?_
  rw [lg_cmp_self]
  refine eQ_if (t := 2119) la_byteAt_2114 (by decide) (fun _ => ?_) (fun q => absurd (by decide) q)
  refine eQ_goto (t := 2147) la_byteAt_2119 (by decide) ?_
  exact xQ_r
theorem lA_byteAt_T {p : Program} {l : Launch} {e : Env} {s : State} {m : MethodId} {args : Array Value} {below : List Frame} {meth : Method} {c : Code} {G0 : Heap} {Y : State → Prop} {D : va_G} {dA : Nat → ClassId} {base t0 u0 : Nat} {Q : State → Prop} {pF : Nat → List Value → xH → Option (Option Value × xH)} (C : lwC p l s m args c G0 Y D dA base pF) {lv : xL} {b xa ma ao i L : Nat} {xs : Nat → Int32} (hG : lwG lv b xa ma ao i) (hi : i + 6 ≤ L) (hL : L ≤ 3074) {h h1 h2 h3 : xH} {r : Int32} {v : Int32} (hS : lwS h b L xs) (hS1 : lwS h1 b L xs) (hX : xMetW l G0 Y D dA base 31 yL_byteAt cL_byteAt 4 [(0, 9, 12, 25)] [.ref xa, .int (xs (i + 1)), .ref ao] h r h1) (hb1 : ((xMn 252).cls = (xCl ((h1.1 ma).1 - 1)).1 ∧ 0 < (h1.1 ma).1 ∧ (h1.1 ma).1 ≤ 17)) (hb2 : ((xMn 373).cls = (xCl ((h2.1 ma).1 - 1)).1 ∧ 0 < (h2.1 ma).1 ∧ (h2.1 ma).1 ≤ 17)) (hM : xCo pF 31 252 (.ref ma :: [.int (xs (i + 1))]) h1 (some (.int v)) h2) (hT : xCo pF 31 373 [.ref ma] h2 (some (.int r)) h3) (hr : xc0 .ne r = true) (q0 : lwR base t0 u0 h) (q1 : lwR base t0 u0 h1) (q3 : lwR base t0 u0 h3)
    (kk : ∀ lv', lwG lv' b xa ma ao i → lwW p l e s m args below meth c G0 D dA base t0 u0 Q 2147 lv' [] h3) : lwW p l e s m args below meth c G0 D dA base t0 u0 Q 2066 lv [] h := by
  refine lwQ1 C kAo_byteAt (f := (2066, lv, [], h)) (g := (2074, lv, ([.ref xa, .int (xs (i + 1)), .ref ao]).reverse, h)) ?_ q0 q0 ?_
  · refine eQ_aload_n la_byteAt_2066 hG.2.1 ?_
    refine eQ_sc (n := 1) hG hS (by omega) hL (by decide) la_byteAt_2067 la_byteAt_2068 la_byteAt_2070 la_byteAt_2071 la_byteAt_2072 ?_
    refine eQ_aload_n la_byteAt_2073 hG.2.2.2.1 ?_
    exact xQ_r
  refine lw_wr C hX wc_byteAt wt_byteAt (by decide) rfl wl_byteAt (n := 3) (by decide +kernel) rfl (kAo_byteAt (2074, (.invokestatic 211, 3)) (x_look rfl)) rfl q0 q1 ?_
  have hG2 : lwG (xs1 6 (.int v) (xs1 5 (.int r) lv)) b xa ma ao i := (lwG_s (lwG_s hG (by decide)) (by decide))
  have g5 : xg (xs1 6 (.int v) (xs1 5 (.int r) lv)) 5 = some (.int r) := (xs1_keep.2 5 _ (by decide) (fun _ => rfl) xs1_keep.1)
  have g6 : xg (xs1 6 (.int v) (xs1 5 (.int r) lv)) 6 = some (.int v) := xs1_keep.1
  refine lwQ1 C kAo_byteAt (f := (2077, lv, [.int r], h1)) (g := (2147, xs1 6 (.int v) (xs1 5 (.int r) lv), [], h3)) ?_ q1 q3 (kk _ hG2)
  refine eQ_istore (lv' := xs1 5 (.int r) lv) la_byteAt_2077 (by decide) rfl ?_
  refine eQ_aload_n la_byteAt_2079 (lwG_s hG (by decide)).2.2.1 ?_
  refine eQ_sc (n := 1) (lwG_s hG (by decide)) hS1 (by omega) hL (by decide) la_byteAt_2080 la_byteAt_2081 la_byteAt_2083 la_byteAt_2084 la_byteAt_2085 ?_
  refine eQ_virt (b := ma) (as := [.int (xs (i + 1))]) (n := 1) (r := (some (.int v))) la_byteAt_2086 (by decide +kernel) (by decide +kernel) rfl rfl (Nat.le_of_ble_eq_true rfl) (by decide +kernel) hb1 hM ?_
  refine eQ_istore (lv' := xs1 6 (.int v) (xs1 5 (.int r) lv)) la_byteAt_2089 (by decide) rfl ?_
  refine eQ_aload_n la_byteAt_2091 hG2.2.2.1 ?_
  refine eQ_virt (b := ma) (as := []) (n := 0) (r := some (.int r)) la_byteAt_2092 (by decide +kernel) (by decide +kernel) rfl rfl (Nat.le_of_ble_eq_true rfl) (by decide +kernel) hb2 hT ?_
  refine eQ_iload la_byteAt_2095 g5 ?_
  refine eQ_icmp (t := 2102) la_byteAt_2097 (by decide) (fun _ => ?_) (fun q => absurd (l_eq _) q)
  refine eQ_iload la_byteAt_2102 g5 ?_
  refine eQ_if (t := 2119) la_byteAt_2104 (by decide) (fun _ => ?_) (fun q => absurd hr q)
  refine eQ_goto (t := 2147) la_byteAt_2119 (by decide) ?_
  exact xQ_r
theorem lA_count_N {p : Program} {l : Launch} {e : Env} {s : State} {m : MethodId} {args : Array Value} {below : List Frame} {meth : Method} {c : Code} {G0 : Heap} {Y : State → Prop} {D : va_G} {dA : Nat → ClassId} {base t0 u0 : Nat} {Q : State → Prop} {pF : Nat → List Value → xH → Option (Option Value × xH)} (C : lwC p l s m args c G0 Y D dA base pF) {lv : xL} {b xa ma ao i L : Nat} {xs : Nat → Int32} (hG : lwG lv b xa ma ao i) (hi : i + 6 ≤ L) (hL : L ≤ 3074) {h h1 h3 : xH} {v : Int32} (hS : lwS h b L xs) (hS1 : lwS h1 b L xs) (hb0 : ((xMn 208).cls = (xCl ((h.1 xa).1 - 1)).1 ∧ 0 < (h.1 xa).1 ∧ (h.1 xa).1 ≤ 17)) (hb1 : ((xMn 264).cls = (xCl ((h1.1 ma).1 - 1)).1 ∧ 0 < (h1.1 ma).1 ∧ (h1.1 ma).1 ≤ 17)) (hX : xCo pF 31 208 (.ref xa :: [.int (xs (i + 1))]) h (some (.int v)) h1) (hM : xCo pF 31 264 (.ref ma :: [.int (xs (i + 1))]) h1 (some (.int v)) h3) (q0 : lwR base t0 u0 h) (q3 : lwR base t0 u0 h3)
    (kk : ∀ lv', lwG lv' b xa ma ao i → lwW p l e s m args below meth c G0 D dA base t0 u0 Q 2147 lv' [] h3) : lwW p l e s m args below meth c G0 D dA base t0 u0 Q 2122 lv [] h := by
  refine lwQ1 C kAo_count (f := (2122, lv, [], h)) (g := (2147, lv, [], h3)) ?_ q0 q3 (kk _ hG)
  refine eQ_aload_n la_count_2122 hG.2.1 ?_
  refine eQ_sc (n := 1) hG hS (by omega) hL (by decide) la_count_2123 la_count_2124 la_count_2126 la_count_2127 la_count_2128 ?_
  refine eQ_virt (b := xa) (as := [.int (xs (i + 1))]) (n := 1) (r := some (.int v)) la_count_2129 (by decide +kernel) (by decide +kernel) rfl rfl (Nat.le_of_ble_eq_true rfl) (by decide +kernel) hb0 hX ?_
  refine eQ_aload_n la_count_2132 hG.2.2.1 ?_
  refine eQ_sc (n := 1) hG hS1 (by omega) hL (by decide) la_count_2133 la_count_2134 la_count_2136 la_count_2137 la_count_2138 ?_
  refine eQ_virt (b := ma) (as := [.int (xs (i + 1))]) (n := 1) (r := some (.int v)) la_count_2139 (by decide +kernel) (by decide +kernel) rfl rfl (Nat.le_of_ble_eq_true rfl) (by decide +kernel) hb1 hM ?_
  refine eQ_icmp (t := 2147) la_count_2142 (by decide) (fun _ => ?_) (fun q => absurd (l_eq _) q)
  exact xQ_r
