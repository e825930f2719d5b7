/-! the law's wrappers (printed by wip/whole/gen_wrap.py) -/
section WL
variable {pF : Nat → List Value → xH → Option (Option Value × xH)} {d : Nat} {k : xK} {o nL : Nat} {ini : Bool} {pc np : Nat} {lv : xL} {st : List Value} {h hh : xH} {ret : Option FieldType} {rr : Option Value}
/-- an array of longs is written -/
def xlst (h : xH) (a j : Nat) (v : Int64) : xH := (xset h.1 a ((h.1 a).1, (h.1 a).2.1, updV (h.1 a).2.2 j (.long v)), h.2)
theorem eE_last {a j : Nat} {i : Int32} {v : Int64} (hl : xAt k pc .lastore np) (ht : (h.1 a).1 = 21) (hi : ¬ (i < 0 ∨ (h.1 a).2.1 ≤ i.toNatClampNeg)) (hj : i.toNatClampNeg = j) (kk : xR pF d k o nL ini ret rr hh (np, lv, st, xlst h a j v)) : xR pF d k o nL ini ret rr hh (pc, lv, .long v :: .int i :: .ref a :: st, h) := by
  subst hj
  refine xE_m (h' := xlst h a i.toNatClampNeg v) hl rfl (fun len => by simp [xpure]) ?_ kk
  obtain ⟨len, -, h2, h3⟩ := hl
  obtain rfl : len = 1 := by simp only [xlen] at h2; omega
  subst h3
  simp [xmem, xast, ht, hi, xlst]
theorem eQ_last {gg : xF} {a j : Nat} {i : Int32} {v : Int64} (hl : xAt k pc .lastore np) (ht : (h.1 a).1 = 21) (hi : ¬ (i < 0 ∨ (h.1 a).2.1 ≤ i.toNatClampNeg)) (hj : i.toNatClampNeg = j) (kk : xQ pF d k o nL ini gg (np, lv, st, xlst h a j v)) : xQ pF d k o nL ini gg (pc, lv, .long v :: .int i :: .ref a :: st, h) := by
  subst hj
  refine xQ_m (h' := xlst h a i.toNatClampNeg v) hl rfl (fun len => by simp [xpure]) ?_ kk
  obtain ⟨len, -, h2, h3⟩ := hl
  obtain rfl : len = 1 := by simp only [xlen] at h2; omega
  subst h3
  simp [xmem, xast, ht, hi, xlst]
end WL
set_option maxRecDepth 100000 in
theorem wk_25 : Jvm.Cond.classLink "AgreedStoreLaw" 25 (zX 0) ∈ xALL := xALL_g (xin_t8 _ (x_sub (big := tables_1_8) (ws := [.classLink "AgreedStoreLaw" 25 "java/lang/IndexOutOfBoundsException"]) [230] rfl _ (List.mem_singleton.mpr rfl))) rfl
set_option maxRecDepth 100000 in
theorem wk_19 : Jvm.Cond.classLink "AgreedStoreLaw" 19 (zX 1) ∈ xALL := xALL_g (xin_t8 _ (x_sub (big := tables_1_8) (ws := [.classLink "AgreedStoreLaw" 19 "java/lang/IllegalArgumentException"]) [217] rfl _ (List.mem_singleton.mpr rfl))) rfl
set_option maxRecDepth 100000 in
theorem wk_13 : Jvm.Cond.classLink "AgreedStoreLaw" 13 (zX 2) ∈ xALL := xALL_g (xin_t8 _ (x_sub (big := tables_1_8) (ws := [.classLink "AgreedStoreLaw" 13 "java/lang/IllegalStateException"]) [184] rfl _ (List.mem_singleton.mpr rfl))) rfl
def kW_feed : xK := [(0, (.aload 6, 2)), (2, (.iconst 0, 1)), (3, (.aload_n 0, 1)), (4, (.iload_n 1, 1)), (5, (.iload_n 2, 1)), (6, (.iload_n 3, 1)), (7, (.iload 4, 2)), (9, (.iload 5, 2)), (11, (.invokevirtual 7, 3)), (14, (.i2l, 1)), (15, (.lastore, 1)), (16, (.goto 7, 3)), (19, (.astore 7, 2)), (21, (.iconst 1, 1)), (22, (.ireturn, 1)), (23, (.iconst 0, 1)), (24, (.ireturn, 1))]
theorem kWo_feed : xKok cL_feed kW_feed := by unfold xKok; decide +kernel
theorem lw_feed_0 : xAt kW_feed 0 (.aload 6) 2 := ⟨2, rfl, Or.inr rfl, rfl⟩
theorem lw_feed_2 : xAt kW_feed 2 (.iconst 0) 3 := ⟨1, rfl, Or.inr rfl, rfl⟩
theorem lw_feed_3 : xAt kW_feed 3 (.aload_n 0) 4 := ⟨1, rfl, Or.inr rfl, rfl⟩
theorem lw_feed_4 : xAt kW_feed 4 (.iload_n 1) 5 := ⟨1, rfl, Or.inr rfl, rfl⟩
theorem lw_feed_5 : xAt kW_feed 5 (.iload_n 2) 6 := ⟨1, rfl, Or.inr rfl, rfl⟩
theorem lw_feed_6 : xAt kW_feed 6 (.iload_n 3) 7 := ⟨1, rfl, Or.inr rfl, rfl⟩
theorem lw_feed_7 : xAt kW_feed 7 (.iload 4) 9 := ⟨2, rfl, Or.inr rfl, rfl⟩
theorem lw_feed_9 : xAt kW_feed 9 (.iload 5) 11 := ⟨2, rfl, Or.inr rfl, rfl⟩
theorem lw_feed_11 : xAt kW_feed 11 (.invokevirtual 7) 14 := ⟨3, rfl, Or.inr rfl, rfl⟩
theorem lw_feed_14 : xAt kW_feed 14 (.i2l) 15 := ⟨1, rfl, Or.inr rfl, rfl⟩
theorem lw_feed_15 : xAt kW_feed 15 (.lastore) 16 := ⟨1, rfl, Or.inr rfl, rfl⟩
theorem lw_feed_16 : xAt kW_feed 16 (.goto 7) 19 := ⟨3, rfl, Or.inr rfl, rfl⟩
theorem lw_feed_19 : xAt kW_feed 19 (.astore 7) 21 := ⟨2, rfl, Or.inr rfl, rfl⟩
theorem lw_feed_21 : xAt kW_feed 21 (.iconst 1) 22 := ⟨1, rfl, Or.inr rfl, rfl⟩
theorem lw_feed_22 : xAt kW_feed 22 (.ireturn) 23 := ⟨1, rfl, Or.inr rfl, rfl⟩
theorem lw_feed_23 : xAt kW_feed 23 (.iconst 0) 24 := ⟨1, rfl, Or.inr rfl, rfl⟩
theorem lw_feed_24 : xAt kW_feed 24 (.ireturn) 25 := ⟨1, rfl, Or.inr rfl, rfl⟩
set_option maxRecDepth 100000 in
theorem wc_feed : Jvm.Cond.codeWith yL_feed cL_feed 8 (some .int) [(0, 16, 19, 13)] ∈ xALL := xALL_g (xin_t8 _ (x_sub (big := tables_1_8) (ws := [.codeWith yL_feed cL_feed 8 (some .int) [(0, 16, 19, 13)]]) [183] rfl _ (List.mem_singleton.mpr rfl))) rfl
set_option maxRecDepth 100000 in
theorem wt_feed : Jvm.Cond.static yL_feed ∈ xALL := xALL_g (xin_t8 _ (x_sub (big := tables_1_8) (ws := [.static yL_feed]) [182] rfl _ (List.mem_singleton.mpr rfl))) rfl
set_option maxRecDepth 100000 in
theorem wl_feed : Jvm.Cond.methodLink "AgreedStoreLaw" 115 yL_feed ∈ xALL := xALL_g (xin_t8 _ (x_sub (big := tables_1_8) (ws := [.methodLink "AgreedStoreLaw" 115 yL_feed]) [181] rfl _ (List.mem_singleton.mpr rfl))) rfl
theorem wN_feed {l : Launch} {G0 : Heap} {Y : State → Prop} {D : va_G} {dA : Nat → ClassId} {base d : Nat} {pF : Nat → List Value → xH → Option (Option Value × xH)} (hpF : ∀ d y as h r h', 4 ≤ d → pF y as h = some (r, h') → xMet l G0 Y D dA base (d + 1) y as h r h') {b : Nat} {p1 : Int32} {p2 : Int32} {p3 : Int32} {p4 : Int32} {p5 : Int32} {ao : Nat} {h h' : xH} {v : Int32} (hao : (h'.1 ao).1 = 21 ∧ (h'.1 ao).2.1 = 1) (hbc : (xMn 213).cls = (xCl ((h.1 b).1 - 1)).1 ∧ 0 < (h.1 b).1 ∧ (h.1 b).1 ≤ 17) (hc : xCo pF d 213 [.ref b, .int p1, .int p2, .int p3, .int p4, .int p5] h (some (.int v)) h') : xMetW l G0 Y D dA base (d + 1) yL_feed cL_feed 8 [(0, 16, 19, 13)] [.ref b, .int p1, .int p2, .int p3, .int p4, .int p5, .ref ao] h 0 (xlst h' ao 0 v.toInt64) := by
  refine x_wrN hpF rfl (Nat.le_of_ble_eq_true rfl) kWo_feed ?_
  refine eE_aload lw_feed_0 (x := ao) rfl ?_
  refine eE_iconst (v := 0) lw_feed_2 (by decide) ?_
  refine eE_aload_n lw_feed_3 (x := b) rfl ?_
  refine eE_iload_n lw_feed_4 (x := p1) rfl ?_
  refine eE_iload_n lw_feed_5 (x := p2) rfl ?_
  refine eE_iload_n lw_feed_6 (x := p3) rfl ?_
  refine eE_iload lw_feed_7 (x := p4) rfl ?_
  refine eE_iload lw_feed_9 (x := p5) rfl ?_
  refine eE_virt (b := b) (as := [.int p1, .int p2, .int p3, .int p4, .int p5]) (n := 5) (r := (some (.int v))) lw_feed_11 (by decide +kernel) (by decide +kernel) rfl rfl (Nat.le_of_ble_eq_true rfl) (by decide +kernel) hbc hc ?_
  refine eE_i2l lw_feed_14 ?_
  refine eE_last (j := 0) lw_feed_15 hao.1 (by rw [hao.2]; decide) (by decide) ?_
  refine eE_goto (t := 23) lw_feed_16 (by decide) ?_
  refine eE_iconst (v := 0) lw_feed_23 (by decide) ?_
  exact eE_end lw_feed_24 rfl rfl rfl
theorem wT_feed_2 {l : Launch} {G0 : Heap} {Y : State → Prop} {D : va_G} {dA : Nat → ClassId} {base d : Nat} {pF : Nat → List Value → xH → Option (Option Value × xH)} (hpF : ∀ d y as h r h', 4 ≤ d → pF y as h = some (r, h') → xMet l G0 Y D dA base (d + 1) y as h r h') (hYz : ∀ U, Y U → zY G0 base U) {b : Nat} {p1 : Int32} {p2 : Int32} {p3 : Int32} {p4 : Int32} {p5 : Int32} {ao : Nat} {h h' : xH} (hbc : (xMn 213).cls = (xCl ((h.1 b).1 - 1)).1 ∧ 0 < (h.1 b).1 ∧ (h.1 b).1 ≤ 17) (hX : xMetX l G0 Y D dA base d 213 [.ref b, .int p1, .int p2, .int p3, .int p4, .int p5] h 2 h') : xMetW l G0 Y D dA base (d + 1) yL_feed cL_feed 8 [(0, 16, 19, 13)] [.ref b, .int p1, .int p2, .int p3, .int p4, .int p5, .ref ao] h 1 h' := by
  refine x_wrT hpF hYz rfl (Nat.le_of_ble_eq_true rfl) kWo_feed (pcc := 11) (idx := 7) (y := 213) (b := b) (as2 := [.int p1, .int p2, .int p3, .int p4, .int p5]) (rest := [.int 0, .ref ao]) (lv2 := lv_args 0 [.ref b, .int p1, .int p2, .int p3, .int p4, .int p5, .ref ao]) (h1 := h) ?_ rfl (by decide +kernel) ((by decide +kernel : xnargs 213 = 5).trans rfl) (Nat.le_of_ble_eq_true rfl) (by decide +kernel) hbc hX (by decide) [] [] { startPc := 0, endPc := 16, handlerPc := 19, catchType := 13 } rfl (fun z hz => by cases hz) (by decide +kernel) (by decide) wk_13 (fun q => ?_)
  · refine eQ_aload lw_feed_0 (x := ao) rfl ?_
    refine eQ_iconst (v := 0) lw_feed_2 (by decide) ?_
    refine eQ_aload_n lw_feed_3 (x := b) rfl ?_
    refine eQ_iload_n lw_feed_4 (x := p1) rfl ?_
    refine eQ_iload_n lw_feed_5 (x := p2) rfl ?_
    refine eQ_iload_n lw_feed_6 (x := p3) rfl ?_
    refine eQ_iload lw_feed_7 (x := p4) rfl ?_
    refine eQ_iload lw_feed_9 (x := p5) rfl ?_
    exact xQ_r
  · refine eE_astore lw_feed_19 (by decide) rfl ?_
    refine eE_iconst (v := 1) lw_feed_21 (by decide) ?_
    exact eE_end lw_feed_22 rfl rfl rfl
def kW_end : xK := [(0, (.aload_n 2, 1)), (1, (.iconst 0, 1)), (2, (.aload_n 0, 1)), (3, (.iload_n 1, 1)), (4, (.invokevirtual 15, 3)), (7, (.i2l, 1)), (8, (.lastore, 1)), (9, (.goto 9, 3)), (12, (.astore_n 3, 1)), (13, (.iconst 1, 1)), (14, (.ireturn, 1)), (15, (.astore_n 3, 1)), (16, (.iconst 2, 1)), (17, (.ireturn, 1)), (18, (.iconst 0, 1)), (19, (.ireturn, 1))]
theorem kWo_end : xKok cL_end kW_end := by unfold xKok; decide +kernel
theorem lw_end_0 : xAt kW_end 0 (.aload_n 2) 1 := ⟨1, rfl, Or.inr rfl, rfl⟩
theorem lw_end_1 : xAt kW_end 1 (.iconst 0) 2 := ⟨1, rfl, Or.inr rfl, rfl⟩
theorem lw_end_2 : xAt kW_end 2 (.aload_n 0) 3 := ⟨1, rfl, Or.inr rfl, rfl⟩
theorem lw_end_3 : xAt kW_end 3 (.iload_n 1) 4 := ⟨1, rfl, Or.inr rfl, rfl⟩
theorem lw_end_4 : xAt kW_end 4 (.invokevirtual 15) 7 := ⟨3, rfl, Or.inr rfl, rfl⟩
theorem lw_end_7 : xAt kW_end 7 (.i2l) 8 := ⟨1, rfl, Or.inr rfl, rfl⟩
theorem lw_end_8 : xAt kW_end 8 (.lastore) 9 := ⟨1, rfl, Or.inr rfl, rfl⟩
theorem lw_end_9 : xAt kW_end 9 (.goto 9) 12 := ⟨3, rfl, Or.inr rfl, rfl⟩
theorem lw_end_12 : xAt kW_end 12 (.astore_n 3) 13 := ⟨1, rfl, Or.inr rfl, rfl⟩
theorem lw_end_13 : xAt kW_end 13 (.iconst 1) 14 := ⟨1, rfl, Or.inr rfl, rfl⟩
theorem lw_end_14 : xAt kW_end 14 (.ireturn) 15 := ⟨1, rfl, Or.inr rfl, rfl⟩
theorem lw_end_15 : xAt kW_end 15 (.astore_n 3) 16 := ⟨1, rfl, Or.inr rfl, rfl⟩
theorem lw_end_16 : xAt kW_end 16 (.iconst 2) 17 := ⟨1, rfl, Or.inr rfl, rfl⟩
theorem lw_end_17 : xAt kW_end 17 (.ireturn) 18 := ⟨1, rfl, Or.inr rfl, rfl⟩
theorem lw_end_18 : xAt kW_end 18 (.iconst 0) 19 := ⟨1, rfl, Or.inr rfl, rfl⟩
theorem lw_end_19 : xAt kW_end 19 (.ireturn) 20 := ⟨1, rfl, Or.inr rfl, rfl⟩
set_option maxRecDepth 100000 in
theorem wc_end : Jvm.Cond.codeWith yL_end cL_end 4 (some .int) [(0, 9, 12, 19), (0, 9, 15, 13)] ∈ xALL := xALL_g (xin_t8 _ (x_sub (big := tables_1_8) (ws := [.codeWith yL_end cL_end 4 (some .int) [(0, 9, 12, 19), (0, 9, 15, 13)]]) [216] rfl _ (List.mem_singleton.mpr rfl))) rfl
set_option maxRecDepth 100000 in
theorem wt_end : Jvm.Cond.static yL_end ∈ xALL := xALL_g (xin_t8 _ (x_sub (big := tables_1_8) (ws := [.static yL_end]) [215] rfl _ (List.mem_singleton.mpr rfl))) rfl
set_option maxRecDepth 100000 in
theorem wl_end : Jvm.Cond.methodLink "AgreedStoreLaw" 123 yL_end ∈ xALL := xALL_g (xin_t8 _ (x_sub (big := tables_1_8) (ws := [.methodLink "AgreedStoreLaw" 123 yL_end]) [214] rfl _ (List.mem_singleton.mpr rfl))) rfl
theorem wN_end {l : Launch} {G0 : Heap} {Y : State → Prop} {D : va_G} {dA : Nat → ClassId} {base d : Nat} {pF : Nat → List Value → xH → Option (Option Value × xH)} (hpF : ∀ d y as h r h', 4 ≤ d → pF y as h = some (r, h') → xMet l G0 Y D dA base (d + 1) y as h r h') {b : Nat} {p1 : Int32} {ao : Nat} {h h' : xH} {v : Int32} (hao : (h'.1 ao).1 = 21 ∧ (h'.1 ao).2.1 = 1) (hbc : (xMn 211).cls = (xCl ((h.1 b).1 - 1)).1 ∧ 0 < (h.1 b).1 ∧ (h.1 b).1 ≤ 17) (hc : xCo pF d 211 [.ref b, .int p1] h (some (.int v)) h') : xMetW l G0 Y D dA base (d + 1) yL_end cL_end 4 [(0, 9, 12, 19), (0, 9, 15, 13)] [.ref b, .int p1, .ref ao] h 0 (xlst h' ao 0 v.toInt64) := by
  refine x_wrN hpF rfl (Nat.le_of_ble_eq_true rfl) kWo_end ?_
  refine eE_aload_n lw_end_0 (x := ao) rfl ?_
  refine eE_iconst (v := 0) lw_end_1 (by decide) ?_
  refine eE_aload_n lw_end_2 (x := b) rfl ?_
  refine eE_iload_n lw_end_3 (x := p1) rfl ?_
  refine eE_virt (b := b) (as := [.int p1]) (n := 1) (r := (some (.int v))) lw_end_4 (by decide +kernel) (by decide +kernel) rfl rfl (Nat.le_of_ble_eq_true rfl) (by decide +kernel) hbc hc ?_
  refine eE_i2l lw_end_7 ?_
  refine eE_last (j := 0) lw_end_8 hao.1 (by rw [hao.2]; decide) (by decide) ?_
  refine eE_goto (t := 18) lw_end_9 (by decide) ?_
  refine eE_iconst (v := 0) lw_end_18 (by decide) ?_
  exact eE_end lw_end_19 rfl rfl rfl
theorem wT_end_1 {l : Launch} {G0 : Heap} {Y : State → Prop} {D : va_G} {dA : Nat → ClassId} {base d : Nat} {pF : Nat → List Value → xH → Option (Option Value × xH)} (hpF : ∀ d y as h r h', 4 ≤ d → pF y as h = some (r, h') → xMet l G0 Y D dA base (d + 1) y as h r h') (hYz : ∀ U, Y U → zY G0 base U) {b : Nat} {p1 : Int32} {ao : Nat} {h h' : xH} (hbc : (xMn 211).cls = (xCl ((h.1 b).1 - 1)).1 ∧ 0 < (h.1 b).1 ∧ (h.1 b).1 ≤ 17) (hX : xMetX l G0 Y D dA base d 211 [.ref b, .int p1] h 1 h') : xMetW l G0 Y D dA base (d + 1) yL_end cL_end 4 [(0, 9, 12, 19), (0, 9, 15, 13)] [.ref b, .int p1, .ref ao] h 1 h' := by
  refine x_wrT hpF hYz rfl (Nat.le_of_ble_eq_true rfl) kWo_end (pcc := 4) (idx := 15) (y := 211) (b := b) (as2 := [.int p1]) (rest := [.int 0, .ref ao]) (lv2 := lv_args 0 [.ref b, .int p1, .ref ao]) (h1 := h) ?_ rfl (by decide +kernel) ((by decide +kernel : xnargs 211 = 1).trans rfl) (Nat.le_of_ble_eq_true rfl) (by decide +kernel) hbc hX (by decide) [] [{ startPc := 0, endPc := 9, handlerPc := 15, catchType := 13 }] { startPc := 0, endPc := 9, handlerPc := 12, catchType := 19 } rfl (fun z hz => by cases hz) (by decide +kernel) (by decide) wk_19 (fun q => ?_)
  · refine eQ_aload_n lw_end_0 (x := ao) rfl ?_
    refine eQ_iconst (v := 0) lw_end_1 (by decide) ?_
    refine eQ_aload_n lw_end_2 (x := b) rfl ?_
    refine eQ_iload_n lw_end_3 (x := p1) rfl ?_
    exact xQ_r
  · refine eE_astore_n lw_end_12 (by decide) rfl ?_
    refine eE_iconst (v := 1) lw_end_13 (by decide) ?_
    exact eE_end lw_end_14 rfl rfl rfl
theorem wT_end_2 {l : Launch} {G0 : Heap} {Y : State → Prop} {D : va_G} {dA : Nat → ClassId} {base d : Nat} {pF : Nat → List Value → xH → Option (Option Value × xH)} (hpF : ∀ d y as h r h', 4 ≤ d → pF y as h = some (r, h') → xMet l G0 Y D dA base (d + 1) y as h r h') (hYz : ∀ U, Y U → zY G0 base U) {b : Nat} {p1 : Int32} {ao : Nat} {h h' : xH} (hbc : (xMn 211).cls = (xCl ((h.1 b).1 - 1)).1 ∧ 0 < (h.1 b).1 ∧ (h.1 b).1 ≤ 17) (hX : xMetX l G0 Y D dA base d 211 [.ref b, .int p1] h 2 h') : xMetW l G0 Y D dA base (d + 1) yL_end cL_end 4 [(0, 9, 12, 19), (0, 9, 15, 13)] [.ref b, .int p1, .ref ao] h 2 h' := by
  refine x_wrT hpF hYz rfl (Nat.le_of_ble_eq_true rfl) kWo_end (pcc := 4) (idx := 15) (y := 211) (b := b) (as2 := [.int p1]) (rest := [.int 0, .ref ao]) (lv2 := lv_args 0 [.ref b, .int p1, .ref ao]) (h1 := h) ?_ rfl (by decide +kernel) ((by decide +kernel : xnargs 211 = 1).trans rfl) (Nat.le_of_ble_eq_true rfl) (by decide +kernel) hbc hX (by decide) [{ startPc := 0, endPc := 9, handlerPc := 12, catchType := 19 }] [] { startPc := 0, endPc := 9, handlerPc := 15, catchType := 13 } rfl (fun z hz => by
    simp only [List.mem_cons, List.not_mem_nil, or_false] at hz
    rcases hz with rfl
    · exact ⟨by decide, 1, by decide, by decide, wk_19⟩) (by decide +kernel) (by decide) wk_13 (fun q => ?_)
  · refine eQ_aload_n lw_end_0 (x := ao) rfl ?_
    refine eQ_iconst (v := 0) lw_end_1 (by decide) ?_
    refine eQ_aload_n lw_end_2 (x := b) rfl ?_
    refine eQ_iload_n lw_end_3 (x := p1) rfl ?_
    exact xQ_r
  · refine eE_astore_n lw_end_15 (by decide) rfl ?_
    refine eE_iconst (v := 2) lw_end_16 (by decide) ?_
    exact eE_end lw_end_17 rfl rfl rfl
def kW_ask : xK := [(0, (.aload 5, 2)), (2, (.iconst 0, 1)), (3, (.aload_n 0, 1)), (4, (.iload_n 1, 1)), (5, (.iload_n 2, 1)), (6, (.iload_n 3, 1)), (7, (.iload 4, 2)), (9, (.invokevirtual 21, 3)), (12, (.i2l, 1)), (13, (.lastore, 1)), (14, (.goto 15, 3)), (17, (.astore 6, 2)), (19, (.iconst 1, 1)), (20, (.ireturn, 1)), (21, (.astore 6, 2)), (23, (.iconst 2, 1)), (24, (.ireturn, 1)), (25, (.astore 6, 2)), (27, (.iconst 3, 1)), (28, (.ireturn, 1)), (29, (.iconst 0, 1)), (30, (.ireturn, 1))]
theorem kWo_ask : xKok cL_ask kW_ask := by unfold xKok; decide +kernel
theorem lw_ask_0 : xAt kW_ask 0 (.aload 5) 2 := ⟨2, rfl, Or.inr rfl, rfl⟩
theorem lw_ask_2 : xAt kW_ask 2 (.iconst 0) 3 := ⟨1, rfl, Or.inr rfl, rfl⟩
theorem lw_ask_3 : xAt kW_ask 3 (.aload_n 0) 4 := ⟨1, rfl, Or.inr rfl, rfl⟩
theorem lw_ask_4 : xAt kW_ask 4 (.iload_n 1) 5 := ⟨1, rfl, Or.inr rfl, rfl⟩
theorem lw_ask_5 : xAt kW_ask 5 (.iload_n 2) 6 := ⟨1, rfl, Or.inr rfl, rfl⟩
theorem lw_ask_6 : xAt kW_ask 6 (.iload_n 3) 7 := ⟨1, rfl, Or.inr rfl, rfl⟩
theorem lw_ask_7 : xAt kW_ask 7 (.iload 4) 9 := ⟨2, rfl, Or.inr rfl, rfl⟩
theorem lw_ask_9 : xAt kW_ask 9 (.invokevirtual 21) 12 := ⟨3, rfl, Or.inr rfl, rfl⟩
theorem lw_ask_12 : xAt kW_ask 12 (.i2l) 13 := ⟨1, rfl, Or.inr rfl, rfl⟩
theorem lw_ask_13 : xAt kW_ask 13 (.lastore) 14 := ⟨1, rfl, Or.inr rfl, rfl⟩
theorem lw_ask_14 : xAt kW_ask 14 (.goto 15) 17 := ⟨3, rfl, Or.inr rfl, rfl⟩
theorem lw_ask_17 : xAt kW_ask 17 (.astore 6) 19 := ⟨2, rfl, Or.inr rfl, rfl⟩
theorem lw_ask_19 : xAt kW_ask 19 (.iconst 1) 20 := ⟨1, rfl, Or.inr rfl, rfl⟩
theorem lw_ask_20 : xAt kW_ask 20 (.ireturn) 21 := ⟨1, rfl, Or.inr rfl, rfl⟩
theorem lw_ask_21 : xAt kW_ask 21 (.astore 6) 23 := ⟨2, rfl, Or.inr rfl, rfl⟩
theorem lw_ask_23 : xAt kW_ask 23 (.iconst 2) 24 := ⟨1, rfl, Or.inr rfl, rfl⟩
theorem lw_ask_24 : xAt kW_ask 24 (.ireturn) 25 := ⟨1, rfl, Or.inr rfl, rfl⟩
theorem lw_ask_25 : xAt kW_ask 25 (.astore 6) 27 := ⟨2, rfl, Or.inr rfl, rfl⟩
theorem lw_ask_27 : xAt kW_ask 27 (.iconst 3) 28 := ⟨1, rfl, Or.inr rfl, rfl⟩
theorem lw_ask_28 : xAt kW_ask 28 (.ireturn) 29 := ⟨1, rfl, Or.inr rfl, rfl⟩
theorem lw_ask_29 : xAt kW_ask 29 (.iconst 0) 30 := ⟨1, rfl, Or.inr rfl, rfl⟩
theorem lw_ask_30 : xAt kW_ask 30 (.ireturn) 31 := ⟨1, rfl, Or.inr rfl, rfl⟩
set_option maxRecDepth 100000 in
theorem wc_ask : Jvm.Cond.codeWith yL_ask cL_ask 7 (some .int) [(0, 14, 17, 25), (0, 14, 21, 19), (0, 14, 25, 13)] ∈ xALL := xALL_g (xin_t8 _ (x_sub (big := tables_1_8) (ws := [.codeWith yL_ask cL_ask 7 (some .int) [(0, 14, 17, 25), (0, 14, 21, 19), (0, 14, 25, 13)]]) [229] rfl _ (List.mem_singleton.mpr rfl))) rfl
set_option maxRecDepth 100000 in
theorem wt_ask : Jvm.Cond.static yL_ask ∈ xALL := xALL_g (xin_t8 _ (x_sub (big := tables_1_8) (ws := [.static yL_ask]) [228] rfl _ (List.mem_singleton.mpr rfl))) rfl
set_option maxRecDepth 100000 in
theorem wl_ask : Jvm.Cond.methodLink "AgreedStoreLaw" 127 yL_ask ∈ xALL := xALL_g (xin_t8 _ (x_sub (big := tables_1_8) (ws := [.methodLink "AgreedStoreLaw" 127 yL_ask]) [227] rfl _ (List.mem_singleton.mpr rfl))) rfl
theorem wN_ask {l : Launch} {G0 : Heap} {Y : State → Prop} {D : va_G} {dA : Nat → ClassId} {base d : Nat} {pF : Nat → List Value → xH → Option (Option Value × xH)} (hpF : ∀ d y as h r h', 4 ≤ d → pF y as h = some (r, h') → xMet l G0 Y D dA base (d + 1) y as h r h') {b : Nat} {p1 : Int32} {p2 : Int32} {p3 : Int32} {p4 : Int32} {ao : Nat} {h h' : xH} {v : Int32} (hao : (h'.1 ao).1 = 21 ∧ (h'.1 ao).2.1 = 1) (hbc : (xMn 204).cls = (xCl ((h.1 b).1 - 1)).1 ∧ 0 < (h.1 b).1 ∧ (h.1 b).1 ≤ 17) (hc : xCo pF d 204 [.ref b, .int p1, .int p2, .int p3, .int p4] h (some (.int v)) h') : xMetW l G0 Y D dA base (d + 1) yL_ask cL_ask 7 [(0, 14, 17, 25), (0, 14, 21, 19), (0, 14, 25, 13)] [.ref b, .int p1, .int p2, .int p3, .int p4, .ref ao] h 0 (xlst h' ao 0 v.toInt64) := by
  refine x_wrN hpF rfl (Nat.le_of_ble_eq_true rfl) kWo_ask ?_
  refine eE_aload lw_ask_0 (x := ao) rfl ?_
  refine eE_iconst (v := 0) lw_ask_2 (by decide) ?_
  refine eE_aload_n lw_ask_3 (x := b) rfl ?_
  refine eE_iload_n lw_ask_4 (x := p1) rfl ?_
  refine eE_iload_n lw_ask_5 (x := p2) rfl ?_
  refine eE_iload_n lw_ask_6 (x := p3) rfl ?_
  refine eE_iload lw_ask_7 (x := p4) rfl ?_
  refine eE_virt (b := b) (as := [.int p1, .int p2, .int p3, .int p4]) (n := 4) (r := (some (.int v))) lw_ask_9 (by decide +kernel) (by decide +kernel) rfl rfl (Nat.le_of_ble_eq_true rfl) (by decide +kernel) hbc hc ?_
  refine eE_i2l lw_ask_12 ?_
  refine eE_last (j := 0) lw_ask_13 hao.1 (by rw [hao.2]; decide) (by decide) ?_
  refine eE_goto (t := 29) lw_ask_14 (by decide) ?_
  refine eE_iconst (v := 0) lw_ask_29 (by decide) ?_
  exact eE_end lw_ask_30 rfl rfl rfl
theorem wT_ask_0 {l : Launch} {G0 : Heap} {Y : State → Prop} {D : va_G} {dA : Nat → ClassId} {base d : Nat} {pF : Nat → List Value → xH → Option (Option Value × xH)} (hpF : ∀ d y as h r h', 4 ≤ d → pF y as h = some (r, h') → xMet l G0 Y D dA base (d + 1) y as h r h') (hYz : ∀ U, Y U → zY G0 base U) {b : Nat} {p1 : Int32} {p2 : Int32} {p3 : Int32} {p4 : Int32} {ao : Nat} {h h' : xH} (hbc : (xMn 204).cls = (xCl ((h.1 b).1 - 1)).1 ∧ 0 < (h.1 b).1 ∧ (h.1 b).1 ≤ 17) (hX : xMetX l G0 Y D dA base d 204 [.ref b, .int p1, .int p2, .int p3, .int p4] h 0 h') : xMetW l G0 Y D dA base (d + 1) yL_ask cL_ask 7 [(0, 14, 17, 25), (0, 14, 21, 19), (0, 14, 25, 13)] [.ref b, .int p1, .int p2, .int p3, .int p4, .ref ao] h 1 h' := by
  refine x_wrT hpF hYz rfl (Nat.le_of_ble_eq_true rfl) kWo_ask (pcc := 9) (idx := 21) (y := 204) (b := b) (as2 := [.int p1, .int p2, .int p3, .int p4]) (rest := [.int 0, .ref ao]) (lv2 := lv_args 0 [.ref b, .int p1, .int p2, .int p3, .int p4, .ref ao]) (h1 := h) ?_ rfl (by decide +kernel) ((by decide +kernel : xnargs 204 = 4).trans rfl) (Nat.le_of_ble_eq_true rfl) (by decide +kernel) hbc hX (by decide) [] [{ startPc := 0, endPc := 14, handlerPc := 21, catchType := 19 }, { startPc := 0, endPc := 14, handlerPc := 25, catchType := 13 }] { startPc := 0, endPc := 14, handlerPc := 17, catchType := 25 } rfl (fun z hz => by cases hz) (by decide +kernel) (by decide) wk_25 (fun q => ?_)
  · refine eQ_aload lw_ask_0 (x := ao) rfl ?_
    refine eQ_iconst (v := 0) lw_ask_2 (by decide) ?_
    refine eQ_aload_n lw_ask_3 (x := b) rfl ?_
    refine eQ_iload_n lw_ask_4 (x := p1) rfl ?_
    refine eQ_iload_n lw_ask_5 (x := p2) rfl ?_
    refine eQ_iload_n lw_ask_6 (x := p3) rfl ?_
    refine eQ_iload lw_ask_7 (x := p4) rfl ?_
    exact xQ_r
  · refine eE_astore lw_ask_17 (by decide) rfl ?_
    refine eE_iconst (v := 1) lw_ask_19 (by decide) ?_
    exact eE_end lw_ask_20 rfl rfl rfl
theorem wT_ask_1 {l : Launch} {G0 : Heap} {Y : State → Prop} {D : va_G} {dA : Nat → ClassId} {base d : Nat} {pF : Nat → List Value → xH → Option (Option Value × xH)} (hpF : ∀ d y as h r h', 4 ≤ d → pF y as h = some (r, h') → xMet l G0 Y D dA base (d + 1) y as h r h') (hYz : ∀ U, Y U → zY G0 base U) {b : Nat} {p1 : Int32} {p2 : Int32} {p3 : Int32} {p4 : Int32} {ao : Nat} {h h' : xH} (hbc : (xMn 204).cls = (xCl ((h.1 b).1 - 1)).1 ∧ 0 < (h.1 b).1 ∧ (h.1 b).1 ≤ 17) (hX : xMetX l G0 Y D dA base d 204 [.ref b, .int p1, .int p2, .int p3, .int p4] h 1 h') : xMetW l G0 Y D dA base (d + 1) yL_ask cL_ask 7 [(0, 14, 17, 25), (0, 14, 21, 19), (0, 14, 25, 13)] [.ref b, .int p1, .int p2, .int p3, .int p4, .ref ao] h 2 h' := by
  refine x_wrT hpF hYz rfl (Nat.le_of_ble_eq_true rfl) kWo_ask (pcc := 9) (idx := 21) (y := 204) (b := b) (as2 := [.int p1, .int p2, .int p3, .int p4]) (rest := [.int 0, .ref ao]) (lv2 := lv_args 0 [.ref b, .int p1, .int p2, .int p3, .int p4, .ref ao]) (h1 := h) ?_ rfl (by decide +kernel) ((by decide +kernel : xnargs 204 = 4).trans rfl) (Nat.le_of_ble_eq_true rfl) (by decide +kernel) hbc hX (by decide) [{ startPc := 0, endPc := 14, handlerPc := 17, catchType := 25 }] [{ startPc := 0, endPc := 14, handlerPc := 25, catchType := 13 }] { startPc := 0, endPc := 14, handlerPc := 21, catchType := 19 } rfl (fun z hz => by
    simp only [List.mem_cons, List.not_mem_nil, or_false] at hz
    rcases hz with rfl
    · exact ⟨by decide, 0, by decide, by decide, wk_25⟩) (by decide +kernel) (by decide) wk_19 (fun q => ?_)
  · refine eQ_aload lw_ask_0 (x := ao) rfl ?_
    refine eQ_iconst (v := 0) lw_ask_2 (by decide) ?_
    refine eQ_aload_n lw_ask_3 (x := b) rfl ?_
    refine eQ_iload_n lw_ask_4 (x := p1) rfl ?_
    refine eQ_iload_n lw_ask_5 (x := p2) rfl ?_
    refine eQ_iload_n lw_ask_6 (x := p3) rfl ?_
    refine eQ_iload lw_ask_7 (x := p4) rfl ?_
    exact xQ_r
  · refine eE_astore lw_ask_21 (by decide) rfl ?_
    refine eE_iconst (v := 2) lw_ask_23 (by decide) ?_
    exact eE_end lw_ask_24 rfl rfl rfl
theorem wT_ask_2 {l : Launch} {G0 : Heap} {Y : State → Prop} {D : va_G} {dA : Nat → ClassId} {base d : Nat} {pF : Nat → List Value → xH → Option (Option Value × xH)} (hpF : ∀ d y as h r h', 4 ≤ d → pF y as h = some (r, h') → xMet l G0 Y D dA base (d + 1) y as h r h') (hYz : ∀ U, Y U → zY G0 base U) {b : Nat} {p1 : Int32} {p2 : Int32} {p3 : Int32} {p4 : Int32} {ao : Nat} {h h' : xH} (hbc : (xMn 204).cls = (xCl ((h.1 b).1 - 1)).1 ∧ 0 < (h.1 b).1 ∧ (h.1 b).1 ≤ 17) (hX : xMetX l G0 Y D dA base d 204 [.ref b, .int p1, .int p2, .int p3, .int p4] h 2 h') : xMetW l G0 Y D dA base (d + 1) yL_ask cL_ask 7 [(0, 14, 17, 25), (0, 14, 21, 19), (0, 14, 25, 13)] [.ref b, .int p1, .int p2, .int p3, .int p4, .ref ao] h 3 h' := by
  refine x_wrT hpF hYz rfl (Nat.le_of_ble_eq_true rfl) kWo_ask (pcc := 9) (idx := 21) (y := 204) (b := b) (as2 := [.int p1, .int p2, .int p3, .int p4]) (rest := [.int 0, .ref ao]) (lv2 := lv_args 0 [.ref b, .int p1, .int p2, .int p3, .int p4, .ref ao]) (h1 := h) ?_ rfl (by decide +kernel) ((by decide +kernel : xnargs 204 = 4).trans rfl) (Nat.le_of_ble_eq_true rfl) (by decide +kernel) hbc hX (by decide) [{ startPc := 0, endPc := 14, handlerPc := 17, catchType := 25 }, { startPc := 0, endPc := 14, handlerPc := 21, catchType := 19 }] [] { startPc := 0, endPc := 14, handlerPc := 25, catchType := 13 } rfl (fun z hz => by
    simp only [List.mem_cons, List.not_mem_nil, or_false] at hz
    rcases hz with rfl | rfl
    · exact ⟨by decide, 0, by decide, by decide, wk_25⟩
    · exact ⟨by decide, 1, by decide, by decide, wk_19⟩) (by decide +kernel) (by decide) wk_13 (fun q => ?_)
  · refine eQ_aload lw_ask_0 (x := ao) rfl ?_
    refine eQ_iconst (v := 0) lw_ask_2 (by decide) ?_
    refine eQ_aload_n lw_ask_3 (x := b) rfl ?_
    refine eQ_iload_n lw_ask_4 (x := p1) rfl ?_
    refine eQ_iload_n lw_ask_5 (x := p2) rfl ?_
    refine eQ_iload_n lw_ask_6 (x := p3) rfl ?_
    refine eQ_iload lw_ask_7 (x := p4) rfl ?_
    exact xQ_r
  · refine eE_astore lw_ask_25 (by decide) rfl ?_
    refine eE_iconst (v := 3) lw_ask_27 (by decide) ?_
    exact eE_end lw_ask_28 rfl rfl rfl
def kW_giveUp : xK := [(0, (.aload_n 2, 1)), (1, (.iconst 0, 1)), (2, (.aload_n 0, 1)), (3, (.iload_n 1, 1)), (4, (.invokevirtual 27, 3)), (7, (.ifCond .eq 7, 3)), (10, (.lconst 1, 1)), (11, (.goto 4, 3)), (14, (.lconst 0, 1)), (15, (.lastore, 1)), (16, (.goto 6, 3)), (19, (.astore_n 3, 1)), (20, (.iconst 1, 1)), (21, (.ireturn, 1)), (22, (.iconst 0, 1)), (23, (.ireturn, 1))]
theorem kWo_giveUp : xKok cL_giveUp kW_giveUp := by unfold xKok; decide +kernel
theorem lw_giveUp_0 : xAt kW_giveUp 0 (.aload_n 2) 1 := ⟨1, rfl, Or.inr rfl, rfl⟩
theorem lw_giveUp_1 : xAt kW_giveUp 1 (.iconst 0) 2 := ⟨1, rfl, Or.inr rfl, rfl⟩
theorem lw_giveUp_2 : xAt kW_giveUp 2 (.aload_n 0) 3 := ⟨1, rfl, Or.inr rfl, rfl⟩
theorem lw_giveUp_3 : xAt kW_giveUp 3 (.iload_n 1) 4 := ⟨1, rfl, Or.inr rfl, rfl⟩
theorem lw_giveUp_4 : xAt kW_giveUp 4 (.invokevirtual 27) 7 := ⟨3, rfl, Or.inr rfl, rfl⟩
theorem lw_giveUp_7 : xAt kW_giveUp 7 (.ifCond .eq 7) 10 := ⟨3, rfl, Or.inr rfl, rfl⟩
theorem lw_giveUp_10 : xAt kW_giveUp 10 (.lconst 1) 11 := ⟨1, rfl, Or.inr rfl, rfl⟩
theorem lw_giveUp_11 : xAt kW_giveUp 11 (.goto 4) 14 := ⟨3, rfl, Or.inr rfl, rfl⟩
theorem lw_giveUp_14 : xAt kW_giveUp 14 (.lconst 0) 15 := ⟨1, rfl, Or.inr rfl, rfl⟩
theorem lw_giveUp_15 : xAt kW_giveUp 15 (.lastore) 16 := ⟨1, rfl, Or.inr rfl, rfl⟩
theorem lw_giveUp_16 : xAt kW_giveUp 16 (.goto 6) 19 := ⟨3, rfl, Or.inr rfl, rfl⟩
theorem lw_giveUp_19 : xAt kW_giveUp 19 (.astore_n 3) 20 := ⟨1, rfl, Or.inr rfl, rfl⟩
theorem lw_giveUp_20 : xAt kW_giveUp 20 (.iconst 1) 21 := ⟨1, rfl, Or.inr rfl, rfl⟩
theorem lw_giveUp_21 : xAt kW_giveUp 21 (.ireturn) 22 := ⟨1, rfl, Or.inr rfl, rfl⟩
theorem lw_giveUp_22 : xAt kW_giveUp 22 (.iconst 0) 23 := ⟨1, rfl, Or.inr rfl, rfl⟩
theorem lw_giveUp_23 : xAt kW_giveUp 23 (.ireturn) 24 := ⟨1, rfl, Or.inr rfl, rfl⟩
set_option maxRecDepth 100000 in
theorem wc_giveUp : Jvm.Cond.codeWith yL_giveUp cL_giveUp 4 (some .int) [(0, 16, 19, 25)] ∈ xALL := xALL_g (xin_t9 _ (x_sub (big := tables_1_9) (ws := [.codeWith yL_giveUp cL_giveUp 4 (some .int) [(0, 16, 19, 25)]]) [24] rfl _ (List.mem_singleton.mpr rfl))) rfl
set_option maxRecDepth 100000 in
theorem wt_giveUp : Jvm.Cond.static yL_giveUp ∈ xALL := xALL_g (xin_t9 _ (x_sub (big := tables_1_9) (ws := [.static yL_giveUp]) [23] rfl _ (List.mem_singleton.mpr rfl))) rfl
set_option maxRecDepth 100000 in
theorem wl_giveUp : Jvm.Cond.methodLink "AgreedStoreLaw" 131 yL_giveUp ∈ xALL := xALL_g (xin_t9 _ (x_sub (big := tables_1_9) (ws := [.methodLink "AgreedStoreLaw" 131 yL_giveUp]) [22] rfl _ (List.mem_singleton.mpr rfl))) rfl
theorem wN_giveUp {l : Launch} {G0 : Heap} {Y : State → Prop} {D : va_G} {dA : Nat → ClassId} {base d : Nat} {pF : Nat → List Value → xH → Option (Option Value × xH)} (hpF : ∀ d y as h r h', 4 ≤ d → pF y as h = some (r, h') → xMet l G0 Y D dA base (d + 1) y as h r h') {b : Nat} {p1 : Int32} {ao : Nat} {h h' : xH} {v : Int32} (hao : (h'.1 ao).1 = 21 ∧ (h'.1 ao).2.1 = 1) (hbc : (xMn 215).cls = (xCl ((h.1 b).1 - 1)).1 ∧ 0 < (h.1 b).1 ∧ (h.1 b).1 ≤ 17) (hc : xCo pF d 215 [.ref b, .int p1] h (some (.int v)) h') : xMetW l G0 Y D dA base (d + 1) yL_giveUp cL_giveUp 4 [(0, 16, 19, 25)] [.ref b, .int p1, .ref ao] h 0 (xlst h' ao 0 (if v = 0 then 0 else 1)) := by
  refine x_wrN hpF rfl (Nat.le_of_ble_eq_true rfl) kWo_giveUp ?_
  refine eE_aload_n lw_giveUp_0 (x := ao) rfl ?_
  refine eE_iconst (v := 0) lw_giveUp_1 (by decide) ?_
  refine eE_aload_n lw_giveUp_2 (x := b) rfl ?_
  refine eE_iload_n lw_giveUp_3 (x := p1) rfl ?_
  refine eE_virt (b := b) (as := [.int p1]) (n := 1) (r := (some (.int v))) lw_giveUp_4 (by decide +kernel) (by decide +kernel) rfl rfl (Nat.le_of_ble_eq_true rfl) (by decide +kernel) hbc hc ?_
  refine eE_if (t := 14) lw_giveUp_7 (by decide) (fun q => ?_) (fun q => ?_)
  · have e0 : v = 0 := of_decide_eq_true q
    refine eE_lconst (v := 0) lw_giveUp_14 (by decide) ?_
    refine eE_last (j := 0) lw_giveUp_15 hao.1 (by rw [hao.2]; decide) (by decide) ?_
    refine eE_goto (t := 22) lw_giveUp_16 (by decide) ?_
    refine eE_iconst (v := 0) lw_giveUp_22 (by decide) ?_
    rw [if_pos e0]
    exact eE_end lw_giveUp_23 rfl rfl rfl
  · have e0 : ¬ v = 0 := fun e => q (decide_eq_true e)
    refine eE_lconst (v := 1) lw_giveUp_10 (by decide) ?_
    refine eE_goto (t := 15) lw_giveUp_11 (by decide) ?_
    refine eE_last (j := 0) lw_giveUp_15 hao.1 (by rw [hao.2]; decide) (by decide) ?_
    refine eE_goto (t := 22) lw_giveUp_16 (by decide) ?_
    refine eE_iconst (v := 0) lw_giveUp_22 (by decide) ?_
    rw [if_neg e0]
    exact eE_end lw_giveUp_23 rfl rfl rfl
theorem wT_giveUp_0 {l : Launch} {G0 : Heap} {Y : State → Prop} {D : va_G} {dA : Nat → ClassId} {base d : Nat} {pF : Nat → List Value → xH → Option (Option Value × xH)} (hpF : ∀ d y as h r h', 4 ≤ d → pF y as h = some (r, h') → xMet l G0 Y D dA base (d + 1) y as h r h') (hYz : ∀ U, Y U → zY G0 base U) {b : Nat} {p1 : Int32} {ao : Nat} {h h' : xH} (hbc : (xMn 215).cls = (xCl ((h.1 b).1 - 1)).1 ∧ 0 < (h.1 b).1 ∧ (h.1 b).1 ≤ 17) (hX : xMetX l G0 Y D dA base d 215 [.ref b, .int p1] h 0 h') : xMetW l G0 Y D dA base (d + 1) yL_giveUp cL_giveUp 4 [(0, 16, 19, 25)] [.ref b, .int p1, .ref ao] h 1 h' := by
  refine x_wrT hpF hYz rfl (Nat.le_of_ble_eq_true rfl) kWo_giveUp (pcc := 4) (idx := 27) (y := 215) (b := b) (as2 := [.int p1]) (rest := [.int 0, .ref ao]) (lv2 := lv_args 0 [.ref b, .int p1, .ref ao]) (h1 := h) ?_ rfl (by decide +kernel) ((by decide +kernel : xnargs 215 = 1).trans rfl) (Nat.le_of_ble_eq_true rfl) (by decide +kernel) hbc hX (by decide) [] [] { startPc := 0, endPc := 16, handlerPc := 19, catchType := 25 } rfl (fun z hz => by cases hz) (by decide +kernel) (by decide) wk_25 (fun q => ?_)
  · refine eQ_aload_n lw_giveUp_0 (x := ao) rfl ?_
    refine eQ_iconst (v := 0) lw_giveUp_1 (by decide) ?_
    refine eQ_aload_n lw_giveUp_2 (x := b) rfl ?_
    refine eQ_iload_n lw_giveUp_3 (x := p1) rfl ?_
    exact xQ_r
  · refine eE_astore_n lw_giveUp_19 (by decide) rfl ?_
    refine eE_iconst (v := 1) lw_giveUp_20 (by decide) ?_
    exact eE_end lw_giveUp_21 rfl rfl rfl
def kW_run : xK := [(0, (.aload_n 2, 1)), (1, (.iconst 0, 1)), (2, (.aload_n 0, 1)), (3, (.iload_n 1, 1)), (4, (.invokevirtual 31, 3)), (7, (.i2l, 1)), (8, (.lastore, 1)), (9, (.goto 6, 3)), (12, (.astore_n 3, 1)), (13, (.iconst 1, 1)), (14, (.ireturn, 1)), (15, (.iconst 0, 1)), (16, (.ireturn, 1))]
theorem kWo_run : xKok cL_run kW_run := by unfold xKok; decide +kernel
theorem lw_run_0 : xAt kW_run 0 (.aload_n 2) 1 := ⟨1, rfl, Or.inr rfl, rfl⟩
theorem lw_run_1 : xAt kW_run 1 (.iconst 0) 2 := ⟨1, rfl, Or.inr rfl, rfl⟩
theorem lw_run_2 : xAt kW_run 2 (.aload_n 0) 3 := ⟨1, rfl, Or.inr rfl, rfl⟩
theorem lw_run_3 : xAt kW_run 3 (.iload_n 1) 4 := ⟨1, rfl, Or.inr rfl, rfl⟩
theorem lw_run_4 : xAt kW_run 4 (.invokevirtual 31) 7 := ⟨3, rfl, Or.inr rfl, rfl⟩
theorem lw_run_7 : xAt kW_run 7 (.i2l) 8 := ⟨1, rfl, Or.inr rfl, rfl⟩
theorem lw_run_8 : xAt kW_run 8 (.lastore) 9 := ⟨1, rfl, Or.inr rfl, rfl⟩
theorem lw_run_9 : xAt kW_run 9 (.goto 6) 12 := ⟨3, rfl, Or.inr rfl, rfl⟩
theorem lw_run_12 : xAt kW_run 12 (.astore_n 3) 13 := ⟨1, rfl, Or.inr rfl, rfl⟩
theorem lw_run_13 : xAt kW_run 13 (.iconst 1) 14 := ⟨1, rfl, Or.inr rfl, rfl⟩
theorem lw_run_14 : xAt kW_run 14 (.ireturn) 15 := ⟨1, rfl, Or.inr rfl, rfl⟩
theorem lw_run_15 : xAt kW_run 15 (.iconst 0) 16 := ⟨1, rfl, Or.inr rfl, rfl⟩
theorem lw_run_16 : xAt kW_run 16 (.ireturn) 17 := ⟨1, rfl, Or.inr rfl, rfl⟩
set_option maxRecDepth 100000 in
theorem wc_run : Jvm.Cond.codeWith yL_run cL_run 4 (some .int) [(0, 9, 12, 19)] ∈ xALL := xALL_g (xin_t9 _ (x_sub (big := tables_1_9) (ws := [.codeWith yL_run cL_run 4 (some .int) [(0, 9, 12, 19)]]) [32] rfl _ (List.mem_singleton.mpr rfl))) rfl
set_option maxRecDepth 100000 in
theorem wt_run : Jvm.Cond.static yL_run ∈ xALL := xALL_g (xin_t9 _ (x_sub (big := tables_1_9) (ws := [.static yL_run]) [31] rfl _ (List.mem_singleton.mpr rfl))) rfl
set_option maxRecDepth 100000 in
theorem wl_run : Jvm.Cond.methodLink "AgreedStoreLaw" 134 yL_run ∈ xALL := xALL_g (xin_t9 _ (x_sub (big := tables_1_9) (ws := [.methodLink "AgreedStoreLaw" 134 yL_run]) [30] rfl _ (List.mem_singleton.mpr rfl))) rfl
theorem wN_run {l : Launch} {G0 : Heap} {Y : State → Prop} {D : va_G} {dA : Nat → ClassId} {base d : Nat} {pF : Nat → List Value → xH → Option (Option Value × xH)} (hpF : ∀ d y as h r h', 4 ≤ d → pF y as h = some (r, h') → xMet l G0 Y D dA base (d + 1) y as h r h') {b : Nat} {p1 : Int32} {ao : Nat} {h h' : xH} {v : Int32} (hao : (h'.1 ao).1 = 21 ∧ (h'.1 ao).2.1 = 1) (hbc : (xMn 234).cls = (xCl ((h.1 b).1 - 1)).1 ∧ 0 < (h.1 b).1 ∧ (h.1 b).1 ≤ 17) (hc : xCo pF d 234 [.ref b, .int p1] h (some (.int v)) h') : xMetW l G0 Y D dA base (d + 1) yL_run cL_run 4 [(0, 9, 12, 19)] [.ref b, .int p1, .ref ao] h 0 (xlst h' ao 0 v.toInt64) := by
  refine x_wrN hpF rfl (Nat.le_of_ble_eq_true rfl) kWo_run ?_
  refine eE_aload_n lw_run_0 (x := ao) rfl ?_
  refine eE_iconst (v := 0) lw_run_1 (by decide) ?_
  refine eE_aload_n lw_run_2 (x := b) rfl ?_
  refine eE_iload_n lw_run_3 (x := p1) rfl ?_
  refine eE_virt (b := b) (as := [.int p1]) (n := 1) (r := (some (.int v))) lw_run_4 (by decide +kernel) (by decide +kernel) rfl rfl (Nat.le_of_ble_eq_true rfl) (by decide +kernel) hbc hc ?_
  refine eE_i2l lw_run_7 ?_
  refine eE_last (j := 0) lw_run_8 hao.1 (by rw [hao.2]; decide) (by decide) ?_
  refine eE_goto (t := 15) lw_run_9 (by decide) ?_
  refine eE_iconst (v := 0) lw_run_15 (by decide) ?_
  exact eE_end lw_run_16 rfl rfl rfl
theorem wT_run_1 {l : Launch} {G0 : Heap} {Y : State → Prop} {D : va_G} {dA : Nat → ClassId} {base d : Nat} {pF : Nat → List Value → xH → Option (Option Value × xH)} (hpF : ∀ d y as h r h', 4 ≤ d → pF y as h = some (r, h') → xMet l G0 Y D dA base (d + 1) y as h r h') (hYz : ∀ U, Y U → zY G0 base U) {b : Nat} {p1 : Int32} {ao : Nat} {h h' : xH} (hbc : (xMn 234).cls = (xCl ((h.1 b).1 - 1)).1 ∧ 0 < (h.1 b).1 ∧ (h.1 b).1 ≤ 17) (hX : xMetX l G0 Y D dA base d 234 [.ref b, .int p1] h 1 h') : xMetW l G0 Y D dA base (d + 1) yL_run cL_run 4 [(0, 9, 12, 19)] [.ref b, .int p1, .ref ao] h 1 h' := by
  refine x_wrT hpF hYz rfl (Nat.le_of_ble_eq_true rfl) kWo_run (pcc := 4) (idx := 31) (y := 234) (b := b) (as2 := [.int p1]) (rest := [.int 0, .ref ao]) (lv2 := lv_args 0 [.ref b, .int p1, .ref ao]) (h1 := h) ?_ rfl (by decide +kernel) ((by decide +kernel : xnargs 234 = 1).trans rfl) (Nat.le_of_ble_eq_true rfl) (by decide +kernel) hbc hX (by decide) [] [] { startPc := 0, endPc := 9, handlerPc := 12, catchType := 19 } rfl (fun z hz => by cases hz) (by decide +kernel) (by decide) wk_19 (fun q => ?_)
  · refine eQ_aload_n lw_run_0 (x := ao) rfl ?_
    refine eQ_iconst (v := 0) lw_run_1 (by decide) ?_
    refine eQ_aload_n lw_run_2 (x := b) rfl ?_
    refine eQ_iload_n lw_run_3 (x := p1) rfl ?_
    exact xQ_r
  · refine eE_astore_n lw_run_12 (by decide) rfl ?_
    refine eE_iconst (v := 1) lw_run_13 (by decide) ?_
    exact eE_end lw_run_14 rfl rfl rfl
def kW_delay : xK := [(0, (.aload 4, 2)), (2, (.iconst 0, 1)), (3, (.aload_n 0, 1)), (4, (.iload_n 1, 1)), (5, (.iload_n 2, 1)), (6, (.iload_n 3, 1)), (7, (.invokevirtual 34, 3)), (10, (.i2l, 1)), (11, (.lastore, 1)), (12, (.goto 11, 3)), (15, (.astore 5, 2)), (17, (.iconst 1, 1)), (18, (.ireturn, 1)), (19, (.astore 5, 2)), (21, (.iconst 2, 1)), (22, (.ireturn, 1)), (23, (.iconst 0, 1)), (24, (.ireturn, 1))]
theorem kWo_delay : xKok cL_delay kW_delay := by unfold xKok; decide +kernel
theorem lw_delay_0 : xAt kW_delay 0 (.aload 4) 2 := ⟨2, rfl, Or.inr rfl, rfl⟩
theorem lw_delay_2 : xAt kW_delay 2 (.iconst 0) 3 := ⟨1, rfl, Or.inr rfl, rfl⟩
theorem lw_delay_3 : xAt kW_delay 3 (.aload_n 0) 4 := ⟨1, rfl, Or.inr rfl, rfl⟩
theorem lw_delay_4 : xAt kW_delay 4 (.iload_n 1) 5 := ⟨1, rfl, Or.inr rfl, rfl⟩
theorem lw_delay_5 : xAt kW_delay 5 (.iload_n 2) 6 := ⟨1, rfl, Or.inr rfl, rfl⟩
theorem lw_delay_6 : xAt kW_delay 6 (.iload_n 3) 7 := ⟨1, rfl, Or.inr rfl, rfl⟩
theorem lw_delay_7 : xAt kW_delay 7 (.invokevirtual 34) 10 := ⟨3, rfl, Or.inr rfl, rfl⟩
theorem lw_delay_10 : xAt kW_delay 10 (.i2l) 11 := ⟨1, rfl, Or.inr rfl, rfl⟩
theorem lw_delay_11 : xAt kW_delay 11 (.lastore) 12 := ⟨1, rfl, Or.inr rfl, rfl⟩
theorem lw_delay_12 : xAt kW_delay 12 (.goto 11) 15 := ⟨3, rfl, Or.inr rfl, rfl⟩
theorem lw_delay_15 : xAt kW_delay 15 (.astore 5) 17 := ⟨2, rfl, Or.inr rfl, rfl⟩
theorem lw_delay_17 : xAt kW_delay 17 (.iconst 1) 18 := ⟨1, rfl, Or.inr rfl, rfl⟩
theorem lw_delay_18 : xAt kW_delay 18 (.ireturn) 19 := ⟨1, rfl, Or.inr rfl, rfl⟩
theorem lw_delay_19 : xAt kW_delay 19 (.astore 5) 21 := ⟨2, rfl, Or.inr rfl, rfl⟩
theorem lw_delay_21 : xAt kW_delay 21 (.iconst 2) 22 := ⟨1, rfl, Or.inr rfl, rfl⟩
theorem lw_delay_22 : xAt kW_delay 22 (.ireturn) 23 := ⟨1, rfl, Or.inr rfl, rfl⟩
theorem lw_delay_23 : xAt kW_delay 23 (.iconst 0) 24 := ⟨1, rfl, Or.inr rfl, rfl⟩
theorem lw_delay_24 : xAt kW_delay 24 (.ireturn) 25 := ⟨1, rfl, Or.inr rfl, rfl⟩
set_option maxRecDepth 100000 in
theorem wc_delay : Jvm.Cond.codeWith yL_delay cL_delay 6 (some .int) [(0, 12, 15, 25), (0, 12, 19, 19)] ∈ xALL := xALL_g (xin_t9 _ (x_sub (big := tables_1_9) (ws := [.codeWith yL_delay cL_delay 6 (some .int) [(0, 12, 15, 25), (0, 12, 19, 19)]]) [40] rfl _ (List.mem_singleton.mpr rfl))) rfl
set_option maxRecDepth 100000 in
theorem wt_delay : Jvm.Cond.static yL_delay ∈ xALL := xALL_g (xin_t9 _ (x_sub (big := tables_1_9) (ws := [.static yL_delay]) [39] rfl _ (List.mem_singleton.mpr rfl))) rfl
set_option maxRecDepth 100000 in
theorem wl_delay : Jvm.Cond.methodLink "AgreedStoreLaw" 141 yL_delay ∈ xALL := xALL_g (xin_t9 _ (x_sub (big := tables_1_9) (ws := [.methodLink "AgreedStoreLaw" 141 yL_delay]) [38] rfl _ (List.mem_singleton.mpr rfl))) rfl
theorem wN_delay {l : Launch} {G0 : Heap} {Y : State → Prop} {D : va_G} {dA : Nat → ClassId} {base d : Nat} {pF : Nat → List Value → xH → Option (Option Value × xH)} (hpF : ∀ d y as h r h', 4 ≤ d → pF y as h = some (r, h') → xMet l G0 Y D dA base (d + 1) y as h r h') {b : Nat} {p1 : Int32} {p2 : Int32} {p3 : Int32} {ao : Nat} {h h' : xH} {v : Int32} (hao : (h'.1 ao).1 = 21 ∧ (h'.1 ao).2.1 = 1) (hbc : (xMn 210).cls = (xCl ((h.1 b).1 - 1)).1 ∧ 0 < (h.1 b).1 ∧ (h.1 b).1 ≤ 17) (hc : xCo pF d 210 [.ref b, .int p1, .int p2, .int p3] h (some (.int v)) h') : xMetW l G0 Y D dA base (d + 1) yL_delay cL_delay 6 [(0, 12, 15, 25), (0, 12, 19, 19)] [.ref b, .int p1, .int p2, .int p3, .ref ao] h 0 (xlst h' ao 0 v.toInt64) := by
  refine x_wrN hpF rfl (Nat.le_of_ble_eq_true rfl) kWo_delay ?_
  refine eE_aload lw_delay_0 (x := ao) rfl ?_
  refine eE_iconst (v := 0) lw_delay_2 (by decide) ?_
  refine eE_aload_n lw_delay_3 (x := b) rfl ?_
  refine eE_iload_n lw_delay_4 (x := p1) rfl ?_
  refine eE_iload_n lw_delay_5 (x := p2) rfl ?_
  refine eE_iload_n lw_delay_6 (x := p3) rfl ?_
  refine eE_virt (b := b) (as := [.int p1, .int p2, .int p3]) (n := 3) (r := (some (.int v))) lw_delay_7 (by decide +kernel) (by decide +kernel) rfl rfl (Nat.le_of_ble_eq_true rfl) (by decide +kernel) hbc hc ?_
  refine eE_i2l lw_delay_10 ?_
  refine eE_last (j := 0) lw_delay_11 hao.1 (by rw [hao.2]; decide) (by decide) ?_
  refine eE_goto (t := 23) lw_delay_12 (by decide) ?_
  refine eE_iconst (v := 0) lw_delay_23 (by decide) ?_
  exact eE_end lw_delay_24 rfl rfl rfl
theorem wT_delay_0 {l : Launch} {G0 : Heap} {Y : State → Prop} {D : va_G} {dA : Nat → ClassId} {base d : Nat} {pF : Nat → List Value → xH → Option (Option Value × xH)} (hpF : ∀ d y as h r h', 4 ≤ d → pF y as h = some (r, h') → xMet l G0 Y D dA base (d + 1) y as h r h') (hYz : ∀ U, Y U → zY G0 base U) {b : Nat} {p1 : Int32} {p2 : Int32} {p3 : Int32} {ao : Nat} {h h' : xH} (hbc : (xMn 210).cls = (xCl ((h.1 b).1 - 1)).1 ∧ 0 < (h.1 b).1 ∧ (h.1 b).1 ≤ 17) (hX : xMetX l G0 Y D dA base d 210 [.ref b, .int p1, .int p2, .int p3] h 0 h') : xMetW l G0 Y D dA base (d + 1) yL_delay cL_delay 6 [(0, 12, 15, 25), (0, 12, 19, 19)] [.ref b, .int p1, .int p2, .int p3, .ref ao] h 1 h' := by
  refine x_wrT hpF hYz rfl (Nat.le_of_ble_eq_true rfl) kWo_delay (pcc := 7) (idx := 34) (y := 210) (b := b) (as2 := [.int p1, .int p2, .int p3]) (rest := [.int 0, .ref ao]) (lv2 := lv_args 0 [.ref b, .int p1, .int p2, .int p3, .ref ao]) (h1 := h) ?_ rfl (by decide +kernel) ((by decide +kernel : xnargs 210 = 3).trans rfl) (Nat.le_of_ble_eq_true rfl) (by decide +kernel) hbc hX (by decide) [] [{ startPc := 0, endPc := 12, handlerPc := 19, catchType := 19 }] { startPc := 0, endPc := 12, handlerPc := 15, catchType := 25 } rfl (fun z hz => by cases hz) (by decide +kernel) (by decide) wk_25 (fun q => ?_)
  · refine eQ_aload lw_delay_0 (x := ao) rfl ?_
    refine eQ_iconst (v := 0) lw_delay_2 (by decide) ?_
    refine eQ_aload_n lw_delay_3 (x := b) rfl ?_
    refine eQ_iload_n lw_delay_4 (x := p1) rfl ?_
    refine eQ_iload_n lw_delay_5 (x := p2) rfl ?_
    refine eQ_iload_n lw_delay_6 (x := p3) rfl ?_
    exact xQ_r
  · refine eE_astore lw_delay_15 (by decide) rfl ?_
    refine eE_iconst (v := 1) lw_delay_17 (by decide) ?_
    exact eE_end lw_delay_18 rfl rfl rfl
theorem wT_delay_1 {l : Launch} {G0 : Heap} {Y : State → Prop} {D : va_G} {dA : Nat → ClassId} {base d : Nat} {pF : Nat → List Value → xH → Option (Option Value × xH)} (hpF : ∀ d y as h r h', 4 ≤ d → pF y as h = some (r, h') → xMet l G0 Y D dA base (d + 1) y as h r h') (hYz : ∀ U, Y U → zY G0 base U) {b : Nat} {p1 : Int32} {p2 : Int32} {p3 : Int32} {ao : Nat} {h h' : xH} (hbc : (xMn 210).cls = (xCl ((h.1 b).1 - 1)).1 ∧ 0 < (h.1 b).1 ∧ (h.1 b).1 ≤ 17) (hX : xMetX l G0 Y D dA base d 210 [.ref b, .int p1, .int p2, .int p3] h 1 h') : xMetW l G0 Y D dA base (d + 1) yL_delay cL_delay 6 [(0, 12, 15, 25), (0, 12, 19, 19)] [.ref b, .int p1, .int p2, .int p3, .ref ao] h 2 h' := by
  refine x_wrT hpF hYz rfl (Nat.le_of_ble_eq_true rfl) kWo_delay (pcc := 7) (idx := 34) (y := 210) (b := b) (as2 := [.int p1, .int p2, .int p3]) (rest := [.int 0, .ref ao]) (lv2 := lv_args 0 [.ref b, .int p1, .int p2, .int p3, .ref ao]) (h1 := h) ?_ rfl (by decide +kernel) ((by decide +kernel : xnargs 210 = 3).trans rfl) (Nat.le_of_ble_eq_true rfl) (by decide +kernel) hbc hX (by decide) [{ startPc := 0, endPc := 12, handlerPc := 15, catchType := 25 }] [] { startPc := 0, endPc := 12, handlerPc := 19, catchType := 19 } rfl (fun z hz => by
    simp only [List.mem_cons, List.not_mem_nil, or_false] at hz
    rcases hz with rfl
    · exact ⟨by decide, 0, by decide, by decide, wk_25⟩) (by decide +kernel) (by decide) wk_19 (fun q => ?_)
  · refine eQ_aload lw_delay_0 (x := ao) rfl ?_
    refine eQ_iconst (v := 0) lw_delay_2 (by decide) ?_
    refine eQ_aload_n lw_delay_3 (x := b) rfl ?_
    refine eQ_iload_n lw_delay_4 (x := p1) rfl ?_
    refine eQ_iload_n lw_delay_5 (x := p2) rfl ?_
    refine eQ_iload_n lw_delay_6 (x := p3) rfl ?_
    exact xQ_r
  · refine eE_astore lw_delay_19 (by decide) rfl ?_
    refine eE_iconst (v := 2) lw_delay_21 (by decide) ?_
    exact eE_end lw_delay_22 rfl rfl rfl
def kW_part : xK := [(0, (.aload_n 2, 1)), (1, (.iconst 0, 1)), (2, (.aload_n 0, 1)), (3, (.iload_n 1, 1)), (4, (.invokevirtual 38, 3)), (7, (.i2l, 1)), (8, (.lastore, 1)), (9, (.goto 6, 3)), (12, (.astore_n 3, 1)), (13, (.iconst 1, 1)), (14, (.ireturn, 1)), (15, (.iconst 0, 1)), (16, (.ireturn, 1))]
theorem kWo_part : xKok cL_part kW_part := by unfold xKok; decide +kernel
theorem lw_part_0 : xAt kW_part 0 (.aload_n 2) 1 := ⟨1, rfl, Or.inr rfl, rfl⟩
theorem lw_part_1 : xAt kW_part 1 (.iconst 0) 2 := ⟨1, rfl, Or.inr rfl, rfl⟩
theorem lw_part_2 : xAt kW_part 2 (.aload_n 0) 3 := ⟨1, rfl, Or.inr rfl, rfl⟩
theorem lw_part_3 : xAt kW_part 3 (.iload_n 1) 4 := ⟨1, rfl, Or.inr rfl, rfl⟩
theorem lw_part_4 : xAt kW_part 4 (.invokevirtual 38) 7 := ⟨3, rfl, Or.inr rfl, rfl⟩
theorem lw_part_7 : xAt kW_part 7 (.i2l) 8 := ⟨1, rfl, Or.inr rfl, rfl⟩
theorem lw_part_8 : xAt kW_part 8 (.lastore) 9 := ⟨1, rfl, Or.inr rfl, rfl⟩
theorem lw_part_9 : xAt kW_part 9 (.goto 6) 12 := ⟨3, rfl, Or.inr rfl, rfl⟩
theorem lw_part_12 : xAt kW_part 12 (.astore_n 3) 13 := ⟨1, rfl, Or.inr rfl, rfl⟩
theorem lw_part_13 : xAt kW_part 13 (.iconst 1) 14 := ⟨1, rfl, Or.inr rfl, rfl⟩
theorem lw_part_14 : xAt kW_part 14 (.ireturn) 15 := ⟨1, rfl, Or.inr rfl, rfl⟩
theorem lw_part_15 : xAt kW_part 15 (.iconst 0) 16 := ⟨1, rfl, Or.inr rfl, rfl⟩
theorem lw_part_16 : xAt kW_part 16 (.ireturn) 17 := ⟨1, rfl, Or.inr rfl, rfl⟩
set_option maxRecDepth 100000 in
theorem wc_part : Jvm.Cond.codeWith yL_part cL_part 4 (some .int) [(0, 9, 12, 19)] ∈ xALL := xALL_g (xin_t9 _ (x_sub (big := tables_1_9) (ws := [.codeWith yL_part cL_part 4 (some .int) [(0, 9, 12, 19)]]) [50] rfl _ (List.mem_singleton.mpr rfl))) rfl
set_option maxRecDepth 100000 in
theorem wt_part : Jvm.Cond.static yL_part ∈ xALL := xALL_g (xin_t9 _ (x_sub (big := tables_1_9) (ws := [.static yL_part]) [49] rfl _ (List.mem_singleton.mpr rfl))) rfl
set_option maxRecDepth 100000 in
theorem wl_part : Jvm.Cond.methodLink "AgreedStoreLaw" 145 yL_part ∈ xALL := xALL_g (xin_t9 _ (x_sub (big := tables_1_9) (ws := [.methodLink "AgreedStoreLaw" 145 yL_part]) [48] rfl _ (List.mem_singleton.mpr rfl))) rfl
theorem wN_part {l : Launch} {G0 : Heap} {Y : State → Prop} {D : va_G} {dA : Nat → ClassId} {base d : Nat} {pF : Nat → List Value → xH → Option (Option Value × xH)} (hpF : ∀ d y as h r h', 4 ≤ d → pF y as h = some (r, h') → xMet l G0 Y D dA base (d + 1) y as h r h') {b : Nat} {p1 : Int32} {ao : Nat} {h h' : xH} {v : Int32} (hao : (h'.1 ao).1 = 21 ∧ (h'.1 ao).2.1 = 1) (hbc : (xMn 232).cls = (xCl ((h.1 b).1 - 1)).1 ∧ 0 < (h.1 b).1 ∧ (h.1 b).1 ≤ 17) (hc : xCo pF d 232 [.ref b, .int p1] h (some (.int v)) h') : xMetW l G0 Y D dA base (d + 1) yL_part cL_part 4 [(0, 9, 12, 19)] [.ref b, .int p1, .ref ao] h 0 (xlst h' ao 0 v.toInt64) := by
  refine x_wrN hpF rfl (Nat.le_of_ble_eq_true rfl) kWo_part ?_
  refine eE_aload_n lw_part_0 (x := ao) rfl ?_
  refine eE_iconst (v := 0) lw_part_1 (by decide) ?_
  refine eE_aload_n lw_part_2 (x := b) rfl ?_
  refine eE_iload_n lw_part_3 (x := p1) rfl ?_
  refine eE_virt (b := b) (as := [.int p1]) (n := 1) (r := (some (.int v))) lw_part_4 (by decide +kernel) (by decide +kernel) rfl rfl (Nat.le_of_ble_eq_true rfl) (by decide +kernel) hbc hc ?_
  refine eE_i2l lw_part_7 ?_
  refine eE_last (j := 0) lw_part_8 hao.1 (by rw [hao.2]; decide) (by decide) ?_
  refine eE_goto (t := 15) lw_part_9 (by decide) ?_
  refine eE_iconst (v := 0) lw_part_15 (by decide) ?_
  exact eE_end lw_part_16 rfl rfl rfl
theorem wT_part_1 {l : Launch} {G0 : Heap} {Y : State → Prop} {D : va_G} {dA : Nat → ClassId} {base d : Nat} {pF : Nat → List Value → xH → Option (Option Value × xH)} (hpF : ∀ d y as h r h', 4 ≤ d → pF y as h = some (r, h') → xMet l G0 Y D dA base (d + 1) y as h r h') (hYz : ∀ U, Y U → zY G0 base U) {b : Nat} {p1 : Int32} {ao : Nat} {h h' : xH} (hbc : (xMn 232).cls = (xCl ((h.1 b).1 - 1)).1 ∧ 0 < (h.1 b).1 ∧ (h.1 b).1 ≤ 17) (hX : xMetX l G0 Y D dA base d 232 [.ref b, .int p1] h 1 h') : xMetW l G0 Y D dA base (d + 1) yL_part cL_part 4 [(0, 9, 12, 19)] [.ref b, .int p1, .ref ao] h 1 h' := by
  refine x_wrT hpF hYz rfl (Nat.le_of_ble_eq_true rfl) kWo_part (pcc := 4) (idx := 38) (y := 232) (b := b) (as2 := [.int p1]) (rest := [.int 0, .ref ao]) (lv2 := lv_args 0 [.ref b, .int p1, .ref ao]) (h1 := h) ?_ rfl (by decide +kernel) ((by decide +kernel : xnargs 232 = 1).trans rfl) (Nat.le_of_ble_eq_true rfl) (by decide +kernel) hbc hX (by decide) [] [] { startPc := 0, endPc := 9, handlerPc := 12, catchType := 19 } rfl (fun z hz => by cases hz) (by decide +kernel) (by decide) wk_19 (fun q => ?_)
  · refine eQ_aload_n lw_part_0 (x := ao) rfl ?_
    refine eQ_iconst (v := 0) lw_part_1 (by decide) ?_
    refine eQ_aload_n lw_part_2 (x := b) rfl ?_
    refine eQ_iload_n lw_part_3 (x := p1) rfl ?_
    exact xQ_r
  · refine eE_astore_n lw_part_12 (by decide) rfl ?_
    refine eE_iconst (v := 1) lw_part_13 (by decide) ?_
    exact eE_end lw_part_14 rfl rfl rfl
def kW_noise : xK := [(0, (.aload_n 0, 1)), (1, (.iload_n 1, 1)), (2, (.iload_n 2, 1)), (3, (.iload_n 3, 1)), (4, (.lload 4, 2)), (6, (.invokevirtual 41, 3)), (9, (.goto 7, 3)), (12, (.astore 6, 2)), (14, (.iconst 1, 1)), (15, (.ireturn, 1)), (16, (.iconst 0, 1)), (17, (.ireturn, 1))]
theorem kWo_noise : xKok cL_noise kW_noise := by unfold xKok; decide +kernel
theorem lw_noise_0 : xAt kW_noise 0 (.aload_n 0) 1 := ⟨1, rfl, Or.inr rfl, rfl⟩
theorem lw_noise_1 : xAt kW_noise 1 (.iload_n 1) 2 := ⟨1, rfl, Or.inr rfl, rfl⟩
theorem lw_noise_2 : xAt kW_noise 2 (.iload_n 2) 3 := ⟨1, rfl, Or.inr rfl, rfl⟩
theorem lw_noise_3 : xAt kW_noise 3 (.iload_n 3) 4 := ⟨1, rfl, Or.inr rfl, rfl⟩
theorem lw_noise_4 : xAt kW_noise 4 (.lload 4) 6 := ⟨2, rfl, Or.inr rfl, rfl⟩
theorem lw_noise_6 : xAt kW_noise 6 (.invokevirtual 41) 9 := ⟨3, rfl, Or.inr rfl, rfl⟩
theorem lw_noise_9 : xAt kW_noise 9 (.goto 7) 12 := ⟨3, rfl, Or.inr rfl, rfl⟩
theorem lw_noise_12 : xAt kW_noise 12 (.astore 6) 14 := ⟨2, rfl, Or.inr rfl, rfl⟩
theorem lw_noise_14 : xAt kW_noise 14 (.iconst 1) 15 := ⟨1, rfl, Or.inr rfl, rfl⟩
theorem lw_noise_15 : xAt kW_noise 15 (.ireturn) 16 := ⟨1, rfl, Or.inr rfl, rfl⟩
theorem lw_noise_16 : xAt kW_noise 16 (.iconst 0) 17 := ⟨1, rfl, Or.inr rfl, rfl⟩
theorem lw_noise_17 : xAt kW_noise 17 (.ireturn) 18 := ⟨1, rfl, Or.inr rfl, rfl⟩
set_option maxRecDepth 100000 in
theorem wc_noise : Jvm.Cond.codeWith yL_noise cL_noise 7 (some .int) [(0, 9, 12, 19)] ∈ xALL := xALL_g (xin_t9 _ (x_sub (big := tables_1_9) (ws := [.codeWith yL_noise cL_noise 7 (some .int) [(0, 9, 12, 19)]]) [58] rfl _ (List.mem_singleton.mpr rfl))) rfl
set_option maxRecDepth 100000 in
theorem wt_noise : Jvm.Cond.static yL_noise ∈ xALL := xALL_g (xin_t9 _ (x_sub (big := tables_1_9) (ws := [.static yL_noise]) [57] rfl _ (List.mem_singleton.mpr rfl))) rfl
set_option maxRecDepth 100000 in
theorem wl_noise : Jvm.Cond.methodLink "AgreedStoreLaw" 150 yL_noise ∈ xALL := xALL_g (xin_t9 _ (x_sub (big := tables_1_9) (ws := [.methodLink "AgreedStoreLaw" 150 yL_noise]) [56] rfl _ (List.mem_singleton.mpr rfl))) rfl
theorem wN_noise {l : Launch} {G0 : Heap} {Y : State → Prop} {D : va_G} {dA : Nat → ClassId} {base d : Nat} {pF : Nat → List Value → xH → Option (Option Value × xH)} (hpF : ∀ d y as h r h', 4 ≤ d → pF y as h = some (r, h') → xMet l G0 Y D dA base (d + 1) y as h r h') {b : Nat} {p1 : Int32} {p2 : Int32} {p3 : Int32} {p4 : Int64} {h h' : xH} (hbc : (xMn 230).cls = (xCl ((h.1 b).1 - 1)).1 ∧ 0 < (h.1 b).1 ∧ (h.1 b).1 ≤ 17) (hc : xCo pF d 230 [.ref b, .int p1, .int p2, .int p3, .long p4] h none h') : xMetW l G0 Y D dA base (d + 1) yL_noise cL_noise 7 [(0, 9, 12, 19)] [.ref b, .int p1, .int p2, .int p3, .long p4] h 0 h' := by
  refine x_wrN hpF rfl (Nat.le_of_ble_eq_true rfl) kWo_noise ?_
  refine eE_aload_n lw_noise_0 (x := b) rfl ?_
  refine eE_iload_n lw_noise_1 (x := p1) rfl ?_
  refine eE_iload_n lw_noise_2 (x := p2) rfl ?_
  refine eE_iload_n lw_noise_3 (x := p3) rfl ?_
  refine eE_lload lw_noise_4 (x := p4) rfl ?_
  refine eE_virt (b := b) (as := [.int p1, .int p2, .int p3, .long p4]) (n := 4) (r := none) lw_noise_6 (by decide +kernel) (by decide +kernel) rfl rfl (Nat.le_of_ble_eq_true rfl) (by decide +kernel) hbc hc ?_
  refine eE_goto (t := 16) lw_noise_9 (by decide) ?_
  refine eE_iconst (v := 0) lw_noise_16 (by decide) ?_
  exact eE_end lw_noise_17 rfl rfl rfl
theorem wT_noise_1 {l : Launch} {G0 : Heap} {Y : State → Prop} {D : va_G} {dA : Nat → ClassId} {base d : Nat} {pF : Nat → List Value → xH → Option (Option Value × xH)} (hpF : ∀ d y as h r h', 4 ≤ d → pF y as h = some (r, h') → xMet l G0 Y D dA base (d + 1) y as h r h') (hYz : ∀ U, Y U → zY G0 base U) {b : Nat} {p1 : Int32} {p2 : Int32} {p3 : Int32} {p4 : Int64} {h h' : xH} (hbc : (xMn 230).cls = (xCl ((h.1 b).1 - 1)).1 ∧ 0 < (h.1 b).1 ∧ (h.1 b).1 ≤ 17) (hX : xMetX l G0 Y D dA base d 230 [.ref b, .int p1, .int p2, .int p3, .long p4] h 1 h') : xMetW l G0 Y D dA base (d + 1) yL_noise cL_noise 7 [(0, 9, 12, 19)] [.ref b, .int p1, .int p2, .int p3, .long p4] h 1 h' := by
  refine x_wrT hpF hYz rfl (Nat.le_of_ble_eq_true rfl) kWo_noise (pcc := 6) (idx := 41) (y := 230) (b := b) (as2 := [.int p1, .int p2, .int p3, .long p4]) (rest := []) (lv2 := lv_args 0 [.ref b, .int p1, .int p2, .int p3, .long p4]) (h1 := h) ?_ rfl (by decide +kernel) ((by decide +kernel : xnargs 230 = 4).trans rfl) (Nat.le_of_ble_eq_true rfl) (by decide +kernel) hbc hX (by decide) [] [] { startPc := 0, endPc := 9, handlerPc := 12, catchType := 19 } rfl (fun z hz => by cases hz) (by decide +kernel) (by decide) wk_19 (fun q => ?_)
  · refine eQ_aload_n lw_noise_0 (x := b) rfl ?_
    refine eQ_iload_n lw_noise_1 (x := p1) rfl ?_
    refine eQ_iload_n lw_noise_2 (x := p2) rfl ?_
    refine eQ_iload_n lw_noise_3 (x := p3) rfl ?_
    refine eQ_lload lw_noise_4 (x := p4) rfl ?_
    exact xQ_r
  · refine eE_astore lw_noise_12 (by decide) rfl ?_
    refine eE_iconst (v := 1) lw_noise_14 (by decide) ?_
    exact eE_end lw_noise_15 rfl rfl rfl
def kW_meddle : xK := [(0, (.aload 4, 2)), (2, (.iconst 0, 1)), (3, (.aload_n 0, 1)), (4, (.iload_n 1, 1)), (5, (.iload_n 2, 1)), (6, (.iload_n 3, 1)), (7, (.invokevirtual 45, 3)), (10, (.ifCond .eq 7, 3)), (13, (.lconst 1, 1)), (14, (.goto 4, 3)), (17, (.lconst 0, 1)), (18, (.lastore, 1)), (19, (.goto 7, 3)), (22, (.astore 5, 2)), (24, (.iconst 1, 1)), (25, (.ireturn, 1)), (26, (.iconst 0, 1)), (27, (.ireturn, 1))]
theorem kWo_meddle : xKok cL_meddle kW_meddle := by unfold xKok; decide +kernel
theorem lw_meddle_0 : xAt kW_meddle 0 (.aload 4) 2 := ⟨2, rfl, Or.inr rfl, rfl⟩
theorem lw_meddle_2 : xAt kW_meddle 2 (.iconst 0) 3 := ⟨1, rfl, Or.inr rfl, rfl⟩
theorem lw_meddle_3 : xAt kW_meddle 3 (.aload_n 0) 4 := ⟨1, rfl, Or.inr rfl, rfl⟩
theorem lw_meddle_4 : xAt kW_meddle 4 (.iload_n 1) 5 := ⟨1, rfl, Or.inr rfl, rfl⟩
theorem lw_meddle_5 : xAt kW_meddle 5 (.iload_n 2) 6 := ⟨1, rfl, Or.inr rfl, rfl⟩
theorem lw_meddle_6 : xAt kW_meddle 6 (.iload_n 3) 7 := ⟨1, rfl, Or.inr rfl, rfl⟩
theorem lw_meddle_7 : xAt kW_meddle 7 (.invokevirtual 45) 10 := ⟨3, rfl, Or.inr rfl, rfl⟩
theorem lw_meddle_10 : xAt kW_meddle 10 (.ifCond .eq 7) 13 := ⟨3, rfl, Or.inr rfl, rfl⟩
theorem lw_meddle_13 : xAt kW_meddle 13 (.lconst 1) 14 := ⟨1, rfl, Or.inr rfl, rfl⟩
theorem lw_meddle_14 : xAt kW_meddle 14 (.goto 4) 17 := ⟨3, rfl, Or.inr rfl, rfl⟩
theorem lw_meddle_17 : xAt kW_meddle 17 (.lconst 0) 18 := ⟨1, rfl, Or.inr rfl, rfl⟩
theorem lw_meddle_18 : xAt kW_meddle 18 (.lastore) 19 := ⟨1, rfl, Or.inr rfl, rfl⟩
theorem lw_meddle_19 : xAt kW_meddle 19 (.goto 7) 22 := ⟨3, rfl, Or.inr rfl, rfl⟩
theorem lw_meddle_22 : xAt kW_meddle 22 (.astore 5) 24 := ⟨2, rfl, Or.inr rfl, rfl⟩
theorem lw_meddle_24 : xAt kW_meddle 24 (.iconst 1) 25 := ⟨1, rfl, Or.inr rfl, rfl⟩
theorem lw_meddle_25 : xAt kW_meddle 25 (.ireturn) 26 := ⟨1, rfl, Or.inr rfl, rfl⟩
theorem lw_meddle_26 : xAt kW_meddle 26 (.iconst 0) 27 := ⟨1, rfl, Or.inr rfl, rfl⟩
theorem lw_meddle_27 : xAt kW_meddle 27 (.ireturn) 28 := ⟨1, rfl, Or.inr rfl, rfl⟩
set_option maxRecDepth 100000 in
theorem wc_meddle : Jvm.Cond.codeWith yL_meddle cL_meddle 6 (some .int) [(0, 19, 22, 19)] ∈ xALL := xALL_g (xin_t9 _ (x_sub (big := tables_1_9) (ws := [.codeWith yL_meddle cL_meddle 6 (some .int) [(0, 19, 22, 19)]]) [65] rfl _ (List.mem_singleton.mpr rfl))) rfl
set_option maxRecDepth 100000 in
theorem wt_meddle : Jvm.Cond.static yL_meddle ∈ xALL := xALL_g (xin_t9 _ (x_sub (big := tables_1_9) (ws := [.static yL_meddle]) [64] rfl _ (List.mem_singleton.mpr rfl))) rfl
set_option maxRecDepth 100000 in
theorem wl_meddle : Jvm.Cond.methodLink "AgreedStoreLaw" 154 yL_meddle ∈ xALL := xALL_g (xin_t9 _ (x_sub (big := tables_1_9) (ws := [.methodLink "AgreedStoreLaw" 154 yL_meddle]) [63] rfl _ (List.mem_singleton.mpr rfl))) rfl
theorem wN_meddle {l : Launch} {G0 : Heap} {Y : State → Prop} {D : va_G} {dA : Nat → ClassId} {base d : Nat} {pF : Nat → List Value → xH → Option (Option Value × xH)} (hpF : ∀ d y as h r h', 4 ≤ d → pF y as h = some (r, h') → xMet l G0 Y D dA base (d + 1) y as h r h') {b : Nat} {p1 : Int32} {p2 : Int32} {p3 : Int32} {ao : Nat} {h h' : xH} {v : Int32} (hao : (h'.1 ao).1 = 21 ∧ (h'.1 ao).2.1 = 1) (hbc : (xMn 227).cls = (xCl ((h.1 b).1 - 1)).1 ∧ 0 < (h.1 b).1 ∧ (h.1 b).1 ≤ 17) (hc : xCo pF d 227 [.ref b, .int p1, .int p2, .int p3] h (some (.int v)) h') : xMetW l G0 Y D dA base (d + 1) yL_meddle cL_meddle 6 [(0, 19, 22, 19)] [.ref b, .int p1, .int p2, .int p3, .ref ao] h 0 (xlst h' ao 0 (if v = 0 then 0 else 1)) := by
  refine x_wrN hpF rfl (Nat.le_of_ble_eq_true rfl) kWo_meddle ?_
  refine eE_aload lw_meddle_0 (x := ao) rfl ?_
  refine eE_iconst (v := 0) lw_meddle_2 (by decide) ?_
  refine eE_aload_n lw_meddle_3 (x := b) rfl ?_
  refine eE_iload_n lw_meddle_4 (x := p1) rfl ?_
  refine eE_iload_n lw_meddle_5 (x := p2) rfl ?_
  refine eE_iload_n lw_meddle_6 (x := p3) rfl ?_
  refine eE_virt (b := b) (as := [.int p1, .int p2, .int p3]) (n := 3) (r := (some (.int v))) lw_meddle_7 (by decide +kernel) (by decide +kernel) rfl rfl (Nat.le_of_ble_eq_true rfl) (by decide +kernel) hbc hc ?_
  refine eE_if (t := 17) lw_meddle_10 (by decide) (fun q => ?_) (fun q => ?_)
  · have e0 : v = 0 := of_decide_eq_true q
    refine eE_lconst (v := 0) lw_meddle_17 (by decide) ?_
    refine eE_last (j := 0) lw_meddle_18 hao.1 (by rw [hao.2]; decide) (by decide) ?_
    refine eE_goto (t := 26) lw_meddle_19 (by decide) ?_
    refine eE_iconst (v := 0) lw_meddle_26 (by decide) ?_
    rw [if_pos e0]
    exact eE_end lw_meddle_27 rfl rfl rfl
  · have e0 : ¬ v = 0 := fun e => q (decide_eq_true e)
    refine eE_lconst (v := 1) lw_meddle_13 (by decide) ?_
    refine eE_goto (t := 18) lw_meddle_14 (by decide) ?_
    refine eE_last (j := 0) lw_meddle_18 hao.1 (by rw [hao.2]; decide) (by decide) ?_
    refine eE_goto (t := 26) lw_meddle_19 (by decide) ?_
    refine eE_iconst (v := 0) lw_meddle_26 (by decide) ?_
    rw [if_neg e0]
    exact eE_end lw_meddle_27 rfl rfl rfl
theorem wT_meddle_1 {l : Launch} {G0 : Heap} {Y : State → Prop} {D : va_G} {dA : Nat → ClassId} {base d : Nat} {pF : Nat → List Value → xH → Option (Option Value × xH)} (hpF : ∀ d y as h r h', 4 ≤ d → pF y as h = some (r, h') → xMet l G0 Y D dA base (d + 1) y as h r h') (hYz : ∀ U, Y U → zY G0 base U) {b : Nat} {p1 : Int32} {p2 : Int32} {p3 : Int32} {ao : Nat} {h h' : xH} (hbc : (xMn 227).cls = (xCl ((h.1 b).1 - 1)).1 ∧ 0 < (h.1 b).1 ∧ (h.1 b).1 ≤ 17) (hX : xMetX l G0 Y D dA base d 227 [.ref b, .int p1, .int p2, .int p3] h 1 h') : xMetW l G0 Y D dA base (d + 1) yL_meddle cL_meddle 6 [(0, 19, 22, 19)] [.ref b, .int p1, .int p2, .int p3, .ref ao] h 1 h' := by
  refine x_wrT hpF hYz rfl (Nat.le_of_ble_eq_true rfl) kWo_meddle (pcc := 7) (idx := 45) (y := 227) (b := b) (as2 := [.int p1, .int p2, .int p3]) (rest := [.int 0, .ref ao]) (lv2 := lv_args 0 [.ref b, .int p1, .int p2, .int p3, .ref ao]) (h1 := h) ?_ rfl (by decide +kernel) ((by decide +kernel : xnargs 227 = 3).trans rfl) (Nat.le_of_ble_eq_true rfl) (by decide +kernel) hbc hX (by decide) [] [] { startPc := 0, endPc := 19, handlerPc := 22, catchType := 19 } rfl (fun z hz => by cases hz) (by decide +kernel) (by decide) wk_19 (fun q => ?_)
  · refine eQ_aload lw_meddle_0 (x := ao) rfl ?_
    refine eQ_iconst (v := 0) lw_meddle_2 (by decide) ?_
    refine eQ_aload_n lw_meddle_3 (x := b) rfl ?_
    refine eQ_iload_n lw_meddle_4 (x := p1) rfl ?_
    refine eQ_iload_n lw_meddle_5 (x := p2) rfl ?_
    refine eQ_iload_n lw_meddle_6 (x := p3) rfl ?_
    exact xQ_r
  · refine eE_astore lw_meddle_22 (by decide) rfl ?_
    refine eE_iconst (v := 1) lw_meddle_24 (by decide) ?_
    exact eE_end lw_meddle_25 rfl rfl rfl
def kW_latency : xK := [(0, (.aload_n 3, 1)), (1, (.iconst 0, 1)), (2, (.aload_n 0, 1)), (3, (.iload_n 1, 1)), (4, (.iload_n 2, 1)), (5, (.invokevirtual 49, 3)), (8, (.i2l, 1)), (9, (.lastore, 1)), (10, (.goto 11, 3)), (13, (.astore 4, 2)), (15, (.iconst 1, 1)), (16, (.ireturn, 1)), (17, (.astore 4, 2)), (19, (.iconst 2, 1)), (20, (.ireturn, 1)), (21, (.iconst 0, 1)), (22, (.ireturn, 1))]
theorem kWo_latency : xKok cL_latency kW_latency := by unfold xKok; decide +kernel
theorem lw_latency_0 : xAt kW_latency 0 (.aload_n 3) 1 := ⟨1, rfl, Or.inr rfl, rfl⟩
theorem lw_latency_1 : xAt kW_latency 1 (.iconst 0) 2 := ⟨1, rfl, Or.inr rfl, rfl⟩
theorem lw_latency_2 : xAt kW_latency 2 (.aload_n 0) 3 := ⟨1, rfl, Or.inr rfl, rfl⟩
theorem lw_latency_3 : xAt kW_latency 3 (.iload_n 1) 4 := ⟨1, rfl, Or.inr rfl, rfl⟩
theorem lw_latency_4 : xAt kW_latency 4 (.iload_n 2) 5 := ⟨1, rfl, Or.inr rfl, rfl⟩
theorem lw_latency_5 : xAt kW_latency 5 (.invokevirtual 49) 8 := ⟨3, rfl, Or.inr rfl, rfl⟩
theorem lw_latency_8 : xAt kW_latency 8 (.i2l) 9 := ⟨1, rfl, Or.inr rfl, rfl⟩
theorem lw_latency_9 : xAt kW_latency 9 (.lastore) 10 := ⟨1, rfl, Or.inr rfl, rfl⟩
theorem lw_latency_10 : xAt kW_latency 10 (.goto 11) 13 := ⟨3, rfl, Or.inr rfl, rfl⟩
theorem lw_latency_13 : xAt kW_latency 13 (.astore 4) 15 := ⟨2, rfl, Or.inr rfl, rfl⟩
theorem lw_latency_15 : xAt kW_latency 15 (.iconst 1) 16 := ⟨1, rfl, Or.inr rfl, rfl⟩
theorem lw_latency_16 : xAt kW_latency 16 (.ireturn) 17 := ⟨1, rfl, Or.inr rfl, rfl⟩
theorem lw_latency_17 : xAt kW_latency 17 (.astore 4) 19 := ⟨2, rfl, Or.inr rfl, rfl⟩
theorem lw_latency_19 : xAt kW_latency 19 (.iconst 2) 20 := ⟨1, rfl, Or.inr rfl, rfl⟩
theorem lw_latency_20 : xAt kW_latency 20 (.ireturn) 21 := ⟨1, rfl, Or.inr rfl, rfl⟩
theorem lw_latency_21 : xAt kW_latency 21 (.iconst 0) 22 := ⟨1, rfl, Or.inr rfl, rfl⟩
theorem lw_latency_22 : xAt kW_latency 22 (.ireturn) 23 := ⟨1, rfl, Or.inr rfl, rfl⟩
set_option maxRecDepth 100000 in
theorem wc_latency : Jvm.Cond.codeWith yL_latency cL_latency 5 (some .int) [(0, 10, 13, 25), (0, 10, 17, 19)] ∈ xALL := xALL_g (xin_t9 _ (x_sub (big := tables_1_9) (ws := [.codeWith yL_latency cL_latency 5 (some .int) [(0, 10, 13, 25), (0, 10, 17, 19)]]) [90] rfl _ (List.mem_singleton.mpr rfl))) rfl
set_option maxRecDepth 100000 in
theorem wt_latency : Jvm.Cond.static yL_latency ∈ xALL := xALL_g (xin_t9 _ (x_sub (big := tables_1_9) (ws := [.static yL_latency]) [89] rfl _ (List.mem_singleton.mpr rfl))) rfl
set_option maxRecDepth 100000 in
theorem wl_latency : Jvm.Cond.methodLink "AgreedStoreLaw" 157 yL_latency ∈ xALL := xALL_g (xin_t9 _ (x_sub (big := tables_1_9) (ws := [.methodLink "AgreedStoreLaw" 157 yL_latency]) [88] rfl _ (List.mem_singleton.mpr rfl))) rfl
theorem wN_latency {l : Launch} {G0 : Heap} {Y : State → Prop} {D : va_G} {dA : Nat → ClassId} {base d : Nat} {pF : Nat → List Value → xH → Option (Option Value × xH)} (hpF : ∀ d y as h r h', 4 ≤ d → pF y as h = some (r, h') → xMet l G0 Y D dA base (d + 1) y as h r h') {b : Nat} {p1 : Int32} {p2 : Int32} {ao : Nat} {h h' : xH} {v : Int32} (hao : (h'.1 ao).1 = 21 ∧ (h'.1 ao).2.1 = 1) (hbc : (xMn 224).cls = (xCl ((h.1 b).1 - 1)).1 ∧ 0 < (h.1 b).1 ∧ (h.1 b).1 ≤ 17) (hc : xCo pF d 224 [.ref b, .int p1, .int p2] h (some (.int v)) h') : xMetW l G0 Y D dA base (d + 1) yL_latency cL_latency 5 [(0, 10, 13, 25), (0, 10, 17, 19)] [.ref b, .int p1, .int p2, .ref ao] h 0 (xlst h' ao 0 v.toInt64) := by
  refine x_wrN hpF rfl (Nat.le_of_ble_eq_true rfl) kWo_latency ?_
  refine eE_aload_n lw_latency_0 (x := ao) rfl ?_
  refine eE_iconst (v := 0) lw_latency_1 (by decide) ?_
  refine eE_aload_n lw_latency_2 (x := b) rfl ?_
  refine eE_iload_n lw_latency_3 (x := p1) rfl ?_
  refine eE_iload_n lw_latency_4 (x := p2) rfl ?_
  refine eE_virt (b := b) (as := [.int p1, .int p2]) (n := 2) (r := (some (.int v))) lw_latency_5 (by decide +kernel) (by decide +kernel) rfl rfl (Nat.le_of_ble_eq_true rfl) (by decide +kernel) hbc hc ?_
  refine eE_i2l lw_latency_8 ?_
  refine eE_last (j := 0) lw_latency_9 hao.1 (by rw [hao.2]; decide) (by decide) ?_
  refine eE_goto (t := 21) lw_latency_10 (by decide) ?_
  refine eE_iconst (v := 0) lw_latency_21 (by decide) ?_
  exact eE_end lw_latency_22 rfl rfl rfl
theorem wT_latency_0 {l : Launch} {G0 : Heap} {Y : State → Prop} {D : va_G} {dA : Nat → ClassId} {base d : Nat} {pF : Nat → List Value → xH → Option (Option Value × xH)} (hpF : ∀ d y as h r h', 4 ≤ d → pF y as h = some (r, h') → xMet l G0 Y D dA base (d + 1) y as h r h') (hYz : ∀ U, Y U → zY G0 base U) {b : Nat} {p1 : Int32} {p2 : Int32} {ao : Nat} {h h' : xH} (hbc : (xMn 224).cls = (xCl ((h.1 b).1 - 1)).1 ∧ 0 < (h.1 b).1 ∧ (h.1 b).1 ≤ 17) (hX : xMetX l G0 Y D dA base d 224 [.ref b, .int p1, .int p2] h 0 h') : xMetW l G0 Y D dA base (d + 1) yL_latency cL_latency 5 [(0, 10, 13, 25), (0, 10, 17, 19)] [.ref b, .int p1, .int p2, .ref ao] h 1 h' := by
  refine x_wrT hpF hYz rfl (Nat.le_of_ble_eq_true rfl) kWo_latency (pcc := 5) (idx := 49) (y := 224) (b := b) (as2 := [.int p1, .int p2]) (rest := [.int 0, .ref ao]) (lv2 := lv_args 0 [.ref b, .int p1, .int p2, .ref ao]) (h1 := h) ?_ rfl (by decide +kernel) ((by decide +kernel : xnargs 224 = 2).trans rfl) (Nat.le_of_ble_eq_true rfl) (by decide +kernel) hbc hX (by decide) [] [{ startPc := 0, endPc := 10, handlerPc := 17, catchType := 19 }] { startPc := 0, endPc := 10, handlerPc := 13, catchType := 25 } rfl (fun z hz => by cases hz) (by decide +kernel) (by decide) wk_25 (fun q => ?_)
  · refine eQ_aload_n lw_latency_0 (x := ao) rfl ?_
    refine eQ_iconst (v := 0) lw_latency_1 (by decide) ?_
    refine eQ_aload_n lw_latency_2 (x := b) rfl ?_
    refine eQ_iload_n lw_latency_3 (x := p1) rfl ?_
    refine eQ_iload_n lw_latency_4 (x := p2) rfl ?_
    exact xQ_r
  · refine eE_astore lw_latency_13 (by decide) rfl ?_
    refine eE_iconst (v := 1) lw_latency_15 (by decide) ?_
    exact eE_end lw_latency_16 rfl rfl rfl
theorem wT_latency_1 {l : Launch} {G0 : Heap} {Y : State → Prop} {D : va_G} {dA : Nat → ClassId} {base d : Nat} {pF : Nat → List Value → xH → Option (Option Value × xH)} (hpF : ∀ d y as h r h', 4 ≤ d → pF y as h = some (r, h') → xMet l G0 Y D dA base (d + 1) y as h r h') (hYz : ∀ U, Y U → zY G0 base U) {b : Nat} {p1 : Int32} {p2 : Int32} {ao : Nat} {h h' : xH} (hbc : (xMn 224).cls = (xCl ((h.1 b).1 - 1)).1 ∧ 0 < (h.1 b).1 ∧ (h.1 b).1 ≤ 17) (hX : xMetX l G0 Y D dA base d 224 [.ref b, .int p1, .int p2] h 1 h') : xMetW l G0 Y D dA base (d + 1) yL_latency cL_latency 5 [(0, 10, 13, 25), (0, 10, 17, 19)] [.ref b, .int p1, .int p2, .ref ao] h 2 h' := by
  refine x_wrT hpF hYz rfl (Nat.le_of_ble_eq_true rfl) kWo_latency (pcc := 5) (idx := 49) (y := 224) (b := b) (as2 := [.int p1, .int p2]) (rest := [.int 0, .ref ao]) (lv2 := lv_args 0 [.ref b, .int p1, .int p2, .ref ao]) (h1 := h) ?_ rfl (by decide +kernel) ((by decide +kernel : xnargs 224 = 2).trans rfl) (Nat.le_of_ble_eq_true rfl) (by decide +kernel) hbc hX (by decide) [{ startPc := 0, endPc := 10, handlerPc := 13, catchType := 25 }] [] { startPc := 0, endPc := 10, handlerPc := 17, catchType := 19 } rfl (fun z hz => by
    simp only [List.mem_cons, List.not_mem_nil, or_false] at hz
    rcases hz with rfl
    · exact ⟨by decide, 0, by decide, by decide, wk_25⟩) (by decide +kernel) (by decide) wk_19 (fun q => ?_)
  · refine eQ_aload_n lw_latency_0 (x := ao) rfl ?_
    refine eQ_iconst (v := 0) lw_latency_1 (by decide) ?_
    refine eQ_aload_n lw_latency_2 (x := b) rfl ?_
    refine eQ_iload_n lw_latency_3 (x := p1) rfl ?_
    refine eQ_iload_n lw_latency_4 (x := p2) rfl ?_
    exact xQ_r
  · refine eE_astore lw_latency_17 (by decide) rfl ?_
    refine eE_iconst (v := 2) lw_latency_19 (by decide) ?_
    exact eE_end lw_latency_20 rfl rfl rfl
def kW_crash : xK := [(0, (.aload 4, 2)), (2, (.iconst 0, 1)), (3, (.aload_n 0, 1)), (4, (.iload_n 1, 1)), (5, (.lload_n 2, 1)), (6, (.invokevirtual 53, 3)), (9, (.ifCond .eq 7, 3)), (12, (.lconst 1, 1)), (13, (.goto 4, 3)), (16, (.lconst 0, 1)), (17, (.lastore, 1)), (18, (.goto 7, 3)), (21, (.astore 5, 2)), (23, (.iconst 1, 1)), (24, (.ireturn, 1)), (25, (.iconst 0, 1)), (26, (.ireturn, 1))]
theorem kWo_crash : xKok cL_crash kW_crash := by unfold xKok; decide +kernel
theorem lw_crash_0 : xAt kW_crash 0 (.aload 4) 2 := ⟨2, rfl, Or.inr rfl, rfl⟩
theorem lw_crash_2 : xAt kW_crash 2 (.iconst 0) 3 := ⟨1, rfl, Or.inr rfl, rfl⟩
theorem lw_crash_3 : xAt kW_crash 3 (.aload_n 0) 4 := ⟨1, rfl, Or.inr rfl, rfl⟩
theorem lw_crash_4 : xAt kW_crash 4 (.iload_n 1) 5 := ⟨1, rfl, Or.inr rfl, rfl⟩
theorem lw_crash_5 : xAt kW_crash 5 (.lload_n 2) 6 := ⟨1, rfl, Or.inr rfl, rfl⟩
theorem lw_crash_6 : xAt kW_crash 6 (.invokevirtual 53) 9 := ⟨3, rfl, Or.inr rfl, rfl⟩
theorem lw_crash_9 : xAt kW_crash 9 (.ifCond .eq 7) 12 := ⟨3, rfl, Or.inr rfl, rfl⟩
theorem lw_crash_12 : xAt kW_crash 12 (.lconst 1) 13 := ⟨1, rfl, Or.inr rfl, rfl⟩
theorem lw_crash_13 : xAt kW_crash 13 (.goto 4) 16 := ⟨3, rfl, Or.inr rfl, rfl⟩
theorem lw_crash_16 : xAt kW_crash 16 (.lconst 0) 17 := ⟨1, rfl, Or.inr rfl, rfl⟩
theorem lw_crash_17 : xAt kW_crash 17 (.lastore) 18 := ⟨1, rfl, Or.inr rfl, rfl⟩
theorem lw_crash_18 : xAt kW_crash 18 (.goto 7) 21 := ⟨3, rfl, Or.inr rfl, rfl⟩
theorem lw_crash_21 : xAt kW_crash 21 (.astore 5) 23 := ⟨2, rfl, Or.inr rfl, rfl⟩
theorem lw_crash_23 : xAt kW_crash 23 (.iconst 1) 24 := ⟨1, rfl, Or.inr rfl, rfl⟩
theorem lw_crash_24 : xAt kW_crash 24 (.ireturn) 25 := ⟨1, rfl, Or.inr rfl, rfl⟩
theorem lw_crash_25 : xAt kW_crash 25 (.iconst 0) 26 := ⟨1, rfl, Or.inr rfl, rfl⟩
theorem lw_crash_26 : xAt kW_crash 26 (.ireturn) 27 := ⟨1, rfl, Or.inr rfl, rfl⟩
set_option maxRecDepth 100000 in
theorem wc_crash : Jvm.Cond.codeWith yL_crash cL_crash 6 (some .int) [(0, 18, 21, 25)] ∈ xALL := xALL_g (xin_t9 _ (x_sub (big := tables_1_9) (ws := [.codeWith yL_crash cL_crash 6 (some .int) [(0, 18, 21, 25)]]) [101] rfl _ (List.mem_singleton.mpr rfl))) rfl
set_option maxRecDepth 100000 in
theorem wt_crash : Jvm.Cond.static yL_crash ∈ xALL := xALL_g (xin_t9 _ (x_sub (big := tables_1_9) (ws := [.static yL_crash]) [100] rfl _ (List.mem_singleton.mpr rfl))) rfl
set_option maxRecDepth 100000 in
theorem wl_crash : Jvm.Cond.methodLink "AgreedStoreLaw" 161 yL_crash ∈ xALL := xALL_g (xin_t9 _ (x_sub (big := tables_1_9) (ws := [.methodLink "AgreedStoreLaw" 161 yL_crash]) [99] rfl _ (List.mem_singleton.mpr rfl))) rfl
theorem wN_crash {l : Launch} {G0 : Heap} {Y : State → Prop} {D : va_G} {dA : Nat → ClassId} {base d : Nat} {pF : Nat → List Value → xH → Option (Option Value × xH)} (hpF : ∀ d y as h r h', 4 ≤ d → pF y as h = some (r, h') → xMet l G0 Y D dA base (d + 1) y as h r h') {b : Nat} {p1 : Int32} {p2 : Int64} {ao : Nat} {h h' : xH} {v : Int32} (hao : (h'.1 ao).1 = 21 ∧ (h'.1 ao).2.1 = 1) (hbc : (xMn 209).cls = (xCl ((h.1 b).1 - 1)).1 ∧ 0 < (h.1 b).1 ∧ (h.1 b).1 ≤ 17) (hc : xCo pF d 209 [.ref b, .int p1, .long p2] h (some (.int v)) h') : xMetW l G0 Y D dA base (d + 1) yL_crash cL_crash 6 [(0, 18, 21, 25)] [.ref b, .int p1, .long p2, .ref ao] h 0 (xlst h' ao 0 (if v = 0 then 0 else 1)) := by
  refine x_wrN hpF rfl (Nat.le_of_ble_eq_true rfl) kWo_crash ?_
  refine eE_aload lw_crash_0 (x := ao) rfl ?_
  refine eE_iconst (v := 0) lw_crash_2 (by decide) ?_
  refine eE_aload_n lw_crash_3 (x := b) rfl ?_
  refine eE_iload_n lw_crash_4 (x := p1) rfl ?_
  refine eE_lload_n lw_crash_5 (x := p2) rfl ?_
  refine eE_virt (b := b) (as := [.int p1, .long p2]) (n := 2) (r := (some (.int v))) lw_crash_6 (by decide +kernel) (by decide +kernel) rfl rfl (Nat.le_of_ble_eq_true rfl) (by decide +kernel) hbc hc ?_
  refine eE_if (t := 16) lw_crash_9 (by decide) (fun q => ?_) (fun q => ?_)
  · have e0 : v = 0 := of_decide_eq_true q
    refine eE_lconst (v := 0) lw_crash_16 (by decide) ?_
    refine eE_last (j := 0) lw_crash_17 hao.1 (by rw [hao.2]; decide) (by decide) ?_
    refine eE_goto (t := 25) lw_crash_18 (by decide) ?_
    refine eE_iconst (v := 0) lw_crash_25 (by decide) ?_
    rw [if_pos e0]
    exact eE_end lw_crash_26 rfl rfl rfl
  · have e0 : ¬ v = 0 := fun e => q (decide_eq_true e)
    refine eE_lconst (v := 1) lw_crash_12 (by decide) ?_
    refine eE_goto (t := 17) lw_crash_13 (by decide) ?_
    refine eE_last (j := 0) lw_crash_17 hao.1 (by rw [hao.2]; decide) (by decide) ?_
    refine eE_goto (t := 25) lw_crash_18 (by decide) ?_
    refine eE_iconst (v := 0) lw_crash_25 (by decide) ?_
    rw [if_neg e0]
    exact eE_end lw_crash_26 rfl rfl rfl
theorem wT_crash_0 {l : Launch} {G0 : Heap} {Y : State → Prop} {D : va_G} {dA : Nat → ClassId} {base d : Nat} {pF : Nat → List Value → xH → Option (Option Value × xH)} (hpF : ∀ d y as h r h', 4 ≤ d → pF y as h = some (r, h') → xMet l G0 Y D dA base (d + 1) y as h r h') (hYz : ∀ U, Y U → zY G0 base U) {b : Nat} {p1 : Int32} {p2 : Int64} {ao : Nat} {h h' : xH} (hbc : (xMn 209).cls = (xCl ((h.1 b).1 - 1)).1 ∧ 0 < (h.1 b).1 ∧ (h.1 b).1 ≤ 17) (hX : xMetX l G0 Y D dA base d 209 [.ref b, .int p1, .long p2] h 0 h') : xMetW l G0 Y D dA base (d + 1) yL_crash cL_crash 6 [(0, 18, 21, 25)] [.ref b, .int p1, .long p2, .ref ao] h 1 h' := by
  refine x_wrT hpF hYz rfl (Nat.le_of_ble_eq_true rfl) kWo_crash (pcc := 6) (idx := 53) (y := 209) (b := b) (as2 := [.int p1, .long p2]) (rest := [.int 0, .ref ao]) (lv2 := lv_args 0 [.ref b, .int p1, .long p2, .ref ao]) (h1 := h) ?_ rfl (by decide +kernel) ((by decide +kernel : xnargs 209 = 2).trans rfl) (Nat.le_of_ble_eq_true rfl) (by decide +kernel) hbc hX (by decide) [] [] { startPc := 0, endPc := 18, handlerPc := 21, catchType := 25 } rfl (fun z hz => by cases hz) (by decide +kernel) (by decide) wk_25 (fun q => ?_)
  · refine eQ_aload lw_crash_0 (x := ao) rfl ?_
    refine eQ_iconst (v := 0) lw_crash_2 (by decide) ?_
    refine eQ_aload_n lw_crash_3 (x := b) rfl ?_
    refine eQ_iload_n lw_crash_4 (x := p1) rfl ?_
    refine eQ_lload_n lw_crash_5 (x := p2) rfl ?_
    exact xQ_r
  · refine eE_astore lw_crash_21 (by decide) rfl ?_
    refine eE_iconst (v := 1) lw_crash_23 (by decide) ?_
    exact eE_end lw_crash_24 rfl rfl rfl
def kW_stop : xK := [(0, (.aload_n 2, 1)), (1, (.iconst 0, 1)), (2, (.aload_n 0, 1)), (3, (.iload_n 1, 1)), (4, (.invokevirtual 57, 3)), (7, (.ifCond .eq 7, 3)), (10, (.lconst 1, 1)), (11, (.goto 4, 3)), (14, (.lconst 0, 1)), (15, (.lastore, 1)), (16, (.goto 6, 3)), (19, (.astore_n 3, 1)), (20, (.iconst 1, 1)), (21, (.ireturn, 1)), (22, (.iconst 0, 1)), (23, (.ireturn, 1))]
theorem kWo_stop : xKok cL_stop kW_stop := by unfold xKok; decide +kernel
theorem lw_stop_0 : xAt kW_stop 0 (.aload_n 2) 1 := ⟨1, rfl, Or.inr rfl, rfl⟩
theorem lw_stop_1 : xAt kW_stop 1 (.iconst 0) 2 := ⟨1, rfl, Or.inr rfl, rfl⟩
theorem lw_stop_2 : xAt kW_stop 2 (.aload_n 0) 3 := ⟨1, rfl, Or.inr rfl, rfl⟩
theorem lw_stop_3 : xAt kW_stop 3 (.iload_n 1) 4 := ⟨1, rfl, Or.inr rfl, rfl⟩
theorem lw_stop_4 : xAt kW_stop 4 (.invokevirtual 57) 7 := ⟨3, rfl, Or.inr rfl, rfl⟩
theorem lw_stop_7 : xAt kW_stop 7 (.ifCond .eq 7) 10 := ⟨3, rfl, Or.inr rfl, rfl⟩
theorem lw_stop_10 : xAt kW_stop 10 (.lconst 1) 11 := ⟨1, rfl, Or.inr rfl, rfl⟩
theorem lw_stop_11 : xAt kW_stop 11 (.goto 4) 14 := ⟨3, rfl, Or.inr rfl, rfl⟩
theorem lw_stop_14 : xAt kW_stop 14 (.lconst 0) 15 := ⟨1, rfl, Or.inr rfl, rfl⟩
theorem lw_stop_15 : xAt kW_stop 15 (.lastore) 16 := ⟨1, rfl, Or.inr rfl, rfl⟩
theorem lw_stop_16 : xAt kW_stop 16 (.goto 6) 19 := ⟨3, rfl, Or.inr rfl, rfl⟩
theorem lw_stop_19 : xAt kW_stop 19 (.astore_n 3) 20 := ⟨1, rfl, Or.inr rfl, rfl⟩
theorem lw_stop_20 : xAt kW_stop 20 (.iconst 1) 21 := ⟨1, rfl, Or.inr rfl, rfl⟩
theorem lw_stop_21 : xAt kW_stop 21 (.ireturn) 22 := ⟨1, rfl, Or.inr rfl, rfl⟩
theorem lw_stop_22 : xAt kW_stop 22 (.iconst 0) 23 := ⟨1, rfl, Or.inr rfl, rfl⟩
theorem lw_stop_23 : xAt kW_stop 23 (.ireturn) 24 := ⟨1, rfl, Or.inr rfl, rfl⟩
set_option maxRecDepth 100000 in
theorem wc_stop : Jvm.Cond.codeWith yL_stop cL_stop 4 (some .int) [(0, 16, 19, 25)] ∈ xALL := xALL_g (xin_t9 _ (x_sub (big := tables_1_9) (ws := [.codeWith yL_stop cL_stop 4 (some .int) [(0, 16, 19, 25)]]) [125] rfl _ (List.mem_singleton.mpr rfl))) rfl
set_option maxRecDepth 100000 in
theorem wt_stop : Jvm.Cond.static yL_stop ∈ xALL := xALL_g (xin_t9 _ (x_sub (big := tables_1_9) (ws := [.static yL_stop]) [124] rfl _ (List.mem_singleton.mpr rfl))) rfl
set_option maxRecDepth 100000 in
theorem wl_stop : Jvm.Cond.methodLink "AgreedStoreLaw" 165 yL_stop ∈ xALL := xALL_g (xin_t9 _ (x_sub (big := tables_1_9) (ws := [.methodLink "AgreedStoreLaw" 165 yL_stop]) [123] rfl _ (List.mem_singleton.mpr rfl))) rfl
theorem wN_stop {l : Launch} {G0 : Heap} {Y : State → Prop} {D : va_G} {dA : Nat → ClassId} {base d : Nat} {pF : Nat → List Value → xH → Option (Option Value × xH)} (hpF : ∀ d y as h r h', 4 ≤ d → pF y as h = some (r, h') → xMet l G0 Y D dA base (d + 1) y as h r h') {b : Nat} {p1 : Int32} {ao : Nat} {h h' : xH} {v : Int32} (hao : (h'.1 ao).1 = 21 ∧ (h'.1 ao).2.1 = 1) (hbc : (xMn 238).cls = (xCl ((h.1 b).1 - 1)).1 ∧ 0 < (h.1 b).1 ∧ (h.1 b).1 ≤ 17) (hc : xCo pF d 238 [.ref b, .int p1] h (some (.int v)) h') : xMetW l G0 Y D dA base (d + 1) yL_stop cL_stop 4 [(0, 16, 19, 25)] [.ref b, .int p1, .ref ao] h 0 (xlst h' ao 0 (if v = 0 then 0 else 1)) := by
  refine x_wrN hpF rfl (Nat.le_of_ble_eq_true rfl) kWo_stop ?_
  refine eE_aload_n lw_stop_0 (x := ao) rfl ?_
  refine eE_iconst (v := 0) lw_stop_1 (by decide) ?_
  refine eE_aload_n lw_stop_2 (x := b) rfl ?_
  refine eE_iload_n lw_stop_3 (x := p1) rfl ?_
  refine eE_virt (b := b) (as := [.int p1]) (n := 1) (r := (some (.int v))) lw_stop_4 (by decide +kernel) (by decide +kernel) rfl rfl (Nat.le_of_ble_eq_true rfl) (by decide +kernel) hbc hc ?_
  refine eE_if (t := 14) lw_stop_7 (by decide) (fun q => ?_) (fun q => ?_)
  · have e0 : v = 0 := of_decide_eq_true q
    refine eE_lconst (v := 0) lw_stop_14 (by decide) ?_
    refine eE_last (j := 0) lw_stop_15 hao.1 (by rw [hao.2]; decide) (by decide) ?_
    refine eE_goto (t := 22) lw_stop_16 (by decide) ?_
    refine eE_iconst (v := 0) lw_stop_22 (by decide) ?_
    rw [if_pos e0]
    exact eE_end lw_stop_23 rfl rfl rfl
  · have e0 : ¬ v = 0 := fun e => q (decide_eq_true e)
    refine eE_lconst (v := 1) lw_stop_10 (by decide) ?_
    refine eE_goto (t := 15) lw_stop_11 (by decide) ?_
    refine eE_last (j := 0) lw_stop_15 hao.1 (by rw [hao.2]; decide) (by decide) ?_
    refine eE_goto (t := 22) lw_stop_16 (by decide) ?_
    refine eE_iconst (v := 0) lw_stop_22 (by decide) ?_
    rw [if_neg e0]
    exact eE_end lw_stop_23 rfl rfl rfl
theorem wT_stop_0 {l : Launch} {G0 : Heap} {Y : State → Prop} {D : va_G} {dA : Nat → ClassId} {base d : Nat} {pF : Nat → List Value → xH → Option (Option Value × xH)} (hpF : ∀ d y as h r h', 4 ≤ d → pF y as h = some (r, h') → xMet l G0 Y D dA base (d + 1) y as h r h') (hYz : ∀ U, Y U → zY G0 base U) {b : Nat} {p1 : Int32} {ao : Nat} {h h' : xH} (hbc : (xMn 238).cls = (xCl ((h.1 b).1 - 1)).1 ∧ 0 < (h.1 b).1 ∧ (h.1 b).1 ≤ 17) (hX : xMetX l G0 Y D dA base d 238 [.ref b, .int p1] h 0 h') : xMetW l G0 Y D dA base (d + 1) yL_stop cL_stop 4 [(0, 16, 19, 25)] [.ref b, .int p1, .ref ao] h 1 h' := by
  refine x_wrT hpF hYz rfl (Nat.le_of_ble_eq_true rfl) kWo_stop (pcc := 4) (idx := 57) (y := 238) (b := b) (as2 := [.int p1]) (rest := [.int 0, .ref ao]) (lv2 := lv_args 0 [.ref b, .int p1, .ref ao]) (h1 := h) ?_ rfl (by decide +kernel) ((by decide +kernel : xnargs 238 = 1).trans rfl) (Nat.le_of_ble_eq_true rfl) (by decide +kernel) hbc hX (by decide) [] [] { startPc := 0, endPc := 16, handlerPc := 19, catchType := 25 } rfl (fun z hz => by cases hz) (by decide +kernel) (by decide) wk_25 (fun q => ?_)
  · refine eQ_aload_n lw_stop_0 (x := ao) rfl ?_
    refine eQ_iconst (v := 0) lw_stop_1 (by decide) ?_
    refine eQ_aload_n lw_stop_2 (x := b) rfl ?_
    refine eQ_iload_n lw_stop_3 (x := p1) rfl ?_
    exact xQ_r
  · refine eE_astore_n lw_stop_19 (by decide) rfl ?_
    refine eE_iconst (v := 1) lw_stop_20 (by decide) ?_
    exact eE_end lw_stop_21 rfl rfl rfl
def kW_start : xK := [(0, (.aload_n 2, 1)), (1, (.iconst 0, 1)), (2, (.aload_n 0, 1)), (3, (.iload_n 1, 1)), (4, (.invokevirtual 60, 3)), (7, (.ifCond .eq 7, 3)), (10, (.lconst 1, 1)), (11, (.goto 4, 3)), (14, (.lconst 0, 1)), (15, (.lastore, 1)), (16, (.goto 6, 3)), (19, (.astore_n 3, 1)), (20, (.iconst 1, 1)), (21, (.ireturn, 1)), (22, (.iconst 0, 1)), (23, (.ireturn, 1))]
theorem kWo_start : xKok cL_start kW_start := by unfold xKok; decide +kernel
theorem lw_start_0 : xAt kW_start 0 (.aload_n 2) 1 := ⟨1, rfl, Or.inr rfl, rfl⟩
theorem lw_start_1 : xAt kW_start 1 (.iconst 0) 2 := ⟨1, rfl, Or.inr rfl, rfl⟩
theorem lw_start_2 : xAt kW_start 2 (.aload_n 0) 3 := ⟨1, rfl, Or.inr rfl, rfl⟩
theorem lw_start_3 : xAt kW_start 3 (.iload_n 1) 4 := ⟨1, rfl, Or.inr rfl, rfl⟩
theorem lw_start_4 : xAt kW_start 4 (.invokevirtual 60) 7 := ⟨3, rfl, Or.inr rfl, rfl⟩
theorem lw_start_7 : xAt kW_start 7 (.ifCond .eq 7) 10 := ⟨3, rfl, Or.inr rfl, rfl⟩
theorem lw_start_10 : xAt kW_start 10 (.lconst 1) 11 := ⟨1, rfl, Or.inr rfl, rfl⟩
theorem lw_start_11 : xAt kW_start 11 (.goto 4) 14 := ⟨3, rfl, Or.inr rfl, rfl⟩
theorem lw_start_14 : xAt kW_start 14 (.lconst 0) 15 := ⟨1, rfl, Or.inr rfl, rfl⟩
theorem lw_start_15 : xAt kW_start 15 (.lastore) 16 := ⟨1, rfl, Or.inr rfl, rfl⟩
theorem lw_start_16 : xAt kW_start 16 (.goto 6) 19 := ⟨3, rfl, Or.inr rfl, rfl⟩
theorem lw_start_19 : xAt kW_start 19 (.astore_n 3) 20 := ⟨1, rfl, Or.inr rfl, rfl⟩
theorem lw_start_20 : xAt kW_start 20 (.iconst 1) 21 := ⟨1, rfl, Or.inr rfl, rfl⟩
theorem lw_start_21 : xAt kW_start 21 (.ireturn) 22 := ⟨1, rfl, Or.inr rfl, rfl⟩
theorem lw_start_22 : xAt kW_start 22 (.iconst 0) 23 := ⟨1, rfl, Or.inr rfl, rfl⟩
theorem lw_start_23 : xAt kW_start 23 (.ireturn) 24 := ⟨1, rfl, Or.inr rfl, rfl⟩
set_option maxRecDepth 100000 in
theorem wc_start : Jvm.Cond.codeWith yL_start cL_start 4 (some .int) [(0, 16, 19, 25)] ∈ xALL := xALL_g (xin_t9 _ (x_sub (big := tables_1_9) (ws := [.codeWith yL_start cL_start 4 (some .int) [(0, 16, 19, 25)]]) [136] rfl _ (List.mem_singleton.mpr rfl))) rfl
set_option maxRecDepth 100000 in
theorem wt_start : Jvm.Cond.static yL_start ∈ xALL := xALL_g (xin_t9 _ (x_sub (big := tables_1_9) (ws := [.static yL_start]) [135] rfl _ (List.mem_singleton.mpr rfl))) rfl
set_option maxRecDepth 100000 in
theorem wl_start : Jvm.Cond.methodLink "AgreedStoreLaw" 168 yL_start ∈ xALL := xALL_g (xin_t9 _ (x_sub (big := tables_1_9) (ws := [.methodLink "AgreedStoreLaw" 168 yL_start]) [134] rfl _ (List.mem_singleton.mpr rfl))) rfl
theorem wN_start {l : Launch} {G0 : Heap} {Y : State → Prop} {D : va_G} {dA : Nat → ClassId} {base d : Nat} {pF : Nat → List Value → xH → Option (Option Value × xH)} (hpF : ∀ d y as h r h', 4 ≤ d → pF y as h = some (r, h') → xMet l G0 Y D dA base (d + 1) y as h r h') {b : Nat} {p1 : Int32} {ao : Nat} {h h' : xH} {v : Int32} (hao : (h'.1 ao).1 = 21 ∧ (h'.1 ao).2.1 = 1) (hbc : (xMn 236).cls = (xCl ((h.1 b).1 - 1)).1 ∧ 0 < (h.1 b).1 ∧ (h.1 b).1 ≤ 17) (hc : xCo pF d 236 [.ref b, .int p1] h (some (.int v)) h') : xMetW l G0 Y D dA base (d + 1) yL_start cL_start 4 [(0, 16, 19, 25)] [.ref b, .int p1, .ref ao] h 0 (xlst h' ao 0 (if v = 0 then 0 else 1)) := by
  refine x_wrN hpF rfl (Nat.le_of_ble_eq_true rfl) kWo_start ?_
  refine eE_aload_n lw_start_0 (x := ao) rfl ?_
  refine eE_iconst (v := 0) lw_start_1 (by decide) ?_
  refine eE_aload_n lw_start_2 (x := b) rfl ?_
  refine eE_iload_n lw_start_3 (x := p1) rfl ?_
  refine eE_virt (b := b) (as := [.int p1]) (n := 1) (r := (some (.int v))) lw_start_4 (by decide +kernel) (by decide +kernel) rfl rfl (Nat.le_of_ble_eq_true rfl) (by decide +kernel) hbc hc ?_
  refine eE_if (t := 14) lw_start_7 (by decide) (fun q => ?_) (fun q => ?_)
  · have e0 : v = 0 := of_decide_eq_true q
    refine eE_lconst (v := 0) lw_start_14 (by decide) ?_
    refine eE_last (j := 0) lw_start_15 hao.1 (by rw [hao.2]; decide) (by decide) ?_
    refine eE_goto (t := 22) lw_start_16 (by decide) ?_
    refine eE_iconst (v := 0) lw_start_22 (by decide) ?_
    rw [if_pos e0]
    exact eE_end lw_start_23 rfl rfl rfl
  · have e0 : ¬ v = 0 := fun e => q (decide_eq_true e)
    refine eE_lconst (v := 1) lw_start_10 (by decide) ?_
    refine eE_goto (t := 15) lw_start_11 (by decide) ?_
    refine eE_last (j := 0) lw_start_15 hao.1 (by rw [hao.2]; decide) (by decide) ?_
    refine eE_goto (t := 22) lw_start_16 (by decide) ?_
    refine eE_iconst (v := 0) lw_start_22 (by decide) ?_
    rw [if_neg e0]
    exact eE_end lw_start_23 rfl rfl rfl
theorem wT_start_0 {l : Launch} {G0 : Heap} {Y : State → Prop} {D : va_G} {dA : Nat → ClassId} {base d : Nat} {pF : Nat → List Value → xH → Option (Option Value × xH)} (hpF : ∀ d y as h r h', 4 ≤ d → pF y as h = some (r, h') → xMet l G0 Y D dA base (d + 1) y as h r h') (hYz : ∀ U, Y U → zY G0 base U) {b : Nat} {p1 : Int32} {ao : Nat} {h h' : xH} (hbc : (xMn 236).cls = (xCl ((h.1 b).1 - 1)).1 ∧ 0 < (h.1 b).1 ∧ (h.1 b).1 ≤ 17) (hX : xMetX l G0 Y D dA base d 236 [.ref b, .int p1] h 0 h') : xMetW l G0 Y D dA base (d + 1) yL_start cL_start 4 [(0, 16, 19, 25)] [.ref b, .int p1, .ref ao] h 1 h' := by
  refine x_wrT hpF hYz rfl (Nat.le_of_ble_eq_true rfl) kWo_start (pcc := 4) (idx := 60) (y := 236) (b := b) (as2 := [.int p1]) (rest := [.int 0, .ref ao]) (lv2 := lv_args 0 [.ref b, .int p1, .ref ao]) (h1 := h) ?_ rfl (by decide +kernel) ((by decide +kernel : xnargs 236 = 1).trans rfl) (Nat.le_of_ble_eq_true rfl) (by decide +kernel) hbc hX (by decide) [] [] { startPc := 0, endPc := 16, handlerPc := 19, catchType := 25 } rfl (fun z hz => by cases hz) (by decide +kernel) (by decide) wk_25 (fun q => ?_)
  · refine eQ_aload_n lw_start_0 (x := ao) rfl ?_
    refine eQ_iconst (v := 0) lw_start_1 (by decide) ?_
    refine eQ_aload_n lw_start_2 (x := b) rfl ?_
    refine eQ_iload_n lw_start_3 (x := p1) rfl ?_
    exact xQ_r
  · refine eE_astore_n lw_start_19 (by decide) rfl ?_
    refine eE_iconst (v := 1) lw_start_20 (by decide) ?_
    exact eE_end lw_start_21 rfl rfl rfl
def kW_members : xK := [(0, (.aload_n 3, 1)), (1, (.iconst 0, 1)), (2, (.aload_n 0, 1)), (3, (.iload_n 1, 1)), (4, (.iload_n 2, 1)), (5, (.invokevirtual 63, 3)), (8, (.ifCond .eq 7, 3)), (11, (.lconst 1, 1)), (12, (.goto 4, 3)), (15, (.lconst 0, 1)), (16, (.lastore, 1)), (17, (.goto 7, 3)), (20, (.astore 4, 2)), (22, (.iconst 1, 1)), (23, (.ireturn, 1)), (24, (.iconst 0, 1)), (25, (.ireturn, 1))]
theorem kWo_members : xKok cL_members kW_members := by unfold xKok; decide +kernel
theorem lw_members_0 : xAt kW_members 0 (.aload_n 3) 1 := ⟨1, rfl, Or.inr rfl, rfl⟩
theorem lw_members_1 : xAt kW_members 1 (.iconst 0) 2 := ⟨1, rfl, Or.inr rfl, rfl⟩
theorem lw_members_2 : xAt kW_members 2 (.aload_n 0) 3 := ⟨1, rfl, Or.inr rfl, rfl⟩
theorem lw_members_3 : xAt kW_members 3 (.iload_n 1) 4 := ⟨1, rfl, Or.inr rfl, rfl⟩
theorem lw_members_4 : xAt kW_members 4 (.iload_n 2) 5 := ⟨1, rfl, Or.inr rfl, rfl⟩
theorem lw_members_5 : xAt kW_members 5 (.invokevirtual 63) 8 := ⟨3, rfl, Or.inr rfl, rfl⟩
theorem lw_members_8 : xAt kW_members 8 (.ifCond .eq 7) 11 := ⟨3, rfl, Or.inr rfl, rfl⟩
theorem lw_members_11 : xAt kW_members 11 (.lconst 1) 12 := ⟨1, rfl, Or.inr rfl, rfl⟩
theorem lw_members_12 : xAt kW_members 12 (.goto 4) 15 := ⟨3, rfl, Or.inr rfl, rfl⟩
theorem lw_members_15 : xAt kW_members 15 (.lconst 0) 16 := ⟨1, rfl, Or.inr rfl, rfl⟩
theorem lw_members_16 : xAt kW_members 16 (.lastore) 17 := ⟨1, rfl, Or.inr rfl, rfl⟩
theorem lw_members_17 : xAt kW_members 17 (.goto 7) 20 := ⟨3, rfl, Or.inr rfl, rfl⟩
theorem lw_members_20 : xAt kW_members 20 (.astore 4) 22 := ⟨2, rfl, Or.inr rfl, rfl⟩
theorem lw_members_22 : xAt kW_members 22 (.iconst 1) 23 := ⟨1, rfl, Or.inr rfl, rfl⟩
theorem lw_members_23 : xAt kW_members 23 (.ireturn) 24 := ⟨1, rfl, Or.inr rfl, rfl⟩
theorem lw_members_24 : xAt kW_members 24 (.iconst 0) 25 := ⟨1, rfl, Or.inr rfl, rfl⟩
theorem lw_members_25 : xAt kW_members 25 (.ireturn) 26 := ⟨1, rfl, Or.inr rfl, rfl⟩
set_option maxRecDepth 100000 in
theorem wc_members : Jvm.Cond.codeWith yL_members cL_members 5 (some .int) [(0, 17, 20, 25)] ∈ xALL := xALL_g (xin_t9 _ (x_sub (big := tables_1_9) (ws := [.codeWith yL_members cL_members 5 (some .int) [(0, 17, 20, 25)]]) [195] rfl _ (List.mem_singleton.mpr rfl))) rfl
set_option maxRecDepth 100000 in
theorem wt_members : Jvm.Cond.static yL_members ∈ xALL := xALL_g (xin_t9 _ (x_sub (big := tables_1_9) (ws := [.static yL_members]) [194] rfl _ (List.mem_singleton.mpr rfl))) rfl
set_option maxRecDepth 100000 in
theorem wl_members : Jvm.Cond.methodLink "AgreedStoreLaw" 171 yL_members ∈ xALL := xALL_g (xin_t9 _ (x_sub (big := tables_1_9) (ws := [.methodLink "AgreedStoreLaw" 171 yL_members]) [193] rfl _ (List.mem_singleton.mpr rfl))) rfl
theorem wN_members {l : Launch} {G0 : Heap} {Y : State → Prop} {D : va_G} {dA : Nat → ClassId} {base d : Nat} {pF : Nat → List Value → xH → Option (Option Value × xH)} (hpF : ∀ d y as h r h', 4 ≤ d → pF y as h = some (r, h') → xMet l G0 Y D dA base (d + 1) y as h r h') {b : Nat} {p1 : Int32} {p2 : Int32} {ao : Nat} {h h' : xH} {v : Int32} (hao : (h'.1 ao).1 = 21 ∧ (h'.1 ao).2.1 = 1) (hbc : (xMn 228).cls = (xCl ((h.1 b).1 - 1)).1 ∧ 0 < (h.1 b).1 ∧ (h.1 b).1 ≤ 17) (hc : xCo pF d 228 [.ref b, .int p1, .int p2] h (some (.int v)) h') : xMetW l G0 Y D dA base (d + 1) yL_members cL_members 5 [(0, 17, 20, 25)] [.ref b, .int p1, .int p2, .ref ao] h 0 (xlst h' ao 0 (if v = 0 then 0 else 1)) := by
  refine x_wrN hpF rfl (Nat.le_of_ble_eq_true rfl) kWo_members ?_
  refine eE_aload_n lw_members_0 (x := ao) rfl ?_
  refine eE_iconst (v := 0) lw_members_1 (by decide) ?_
  refine eE_aload_n lw_members_2 (x := b) rfl ?_
  refine eE_iload_n lw_members_3 (x := p1) rfl ?_
  refine eE_iload_n lw_members_4 (x := p2) rfl ?_
  refine eE_virt (b := b) (as := [.int p1, .int p2]) (n := 2) (r := (some (.int v))) lw_members_5 (by decide +kernel) (by decide +kernel) rfl rfl (Nat.le_of_ble_eq_true rfl) (by decide +kernel) hbc hc ?_
  refine eE_if (t := 15) lw_members_8 (by decide) (fun q => ?_) (fun q => ?_)
  · have e0 : v = 0 := of_decide_eq_true q
    refine eE_lconst (v := 0) lw_members_15 (by decide) ?_
    refine eE_last (j := 0) lw_members_16 hao.1 (by rw [hao.2]; decide) (by decide) ?_
    refine eE_goto (t := 24) lw_members_17 (by decide) ?_
    refine eE_iconst (v := 0) lw_members_24 (by decide) ?_
    rw [if_pos e0]
    exact eE_end lw_members_25 rfl rfl rfl
  · have e0 : ¬ v = 0 := fun e => q (decide_eq_true e)
    refine eE_lconst (v := 1) lw_members_11 (by decide) ?_
    refine eE_goto (t := 16) lw_members_12 (by decide) ?_
    refine eE_last (j := 0) lw_members_16 hao.1 (by rw [hao.2]; decide) (by decide) ?_
    refine eE_goto (t := 24) lw_members_17 (by decide) ?_
    refine eE_iconst (v := 0) lw_members_24 (by decide) ?_
    rw [if_neg e0]
    exact eE_end lw_members_25 rfl rfl rfl
theorem wT_members_0 {l : Launch} {G0 : Heap} {Y : State → Prop} {D : va_G} {dA : Nat → ClassId} {base d : Nat} {pF : Nat → List Value → xH → Option (Option Value × xH)} (hpF : ∀ d y as h r h', 4 ≤ d → pF y as h = some (r, h') → xMet l G0 Y D dA base (d + 1) y as h r h') (hYz : ∀ U, Y U → zY G0 base U) {b : Nat} {p1 : Int32} {p2 : Int32} {ao : Nat} {h h' : xH} (hbc : (xMn 228).cls = (xCl ((h.1 b).1 - 1)).1 ∧ 0 < (h.1 b).1 ∧ (h.1 b).1 ≤ 17) (hX : xMetX l G0 Y D dA base d 228 [.ref b, .int p1, .int p2] h 0 h') : xMetW l G0 Y D dA base (d + 1) yL_members cL_members 5 [(0, 17, 20, 25)] [.ref b, .int p1, .int p2, .ref ao] h 1 h' := by
  refine x_wrT hpF hYz rfl (Nat.le_of_ble_eq_true rfl) kWo_members (pcc := 5) (idx := 63) (y := 228) (b := b) (as2 := [.int p1, .int p2]) (rest := [.int 0, .ref ao]) (lv2 := lv_args 0 [.ref b, .int p1, .int p2, .ref ao]) (h1 := h) ?_ rfl (by decide +kernel) ((by decide +kernel : xnargs 228 = 2).trans rfl) (Nat.le_of_ble_eq_true rfl) (by decide +kernel) hbc hX (by decide) [] [] { startPc := 0, endPc := 17, handlerPc := 20, catchType := 25 } rfl (fun z hz => by cases hz) (by decide +kernel) (by decide) wk_25 (fun q => ?_)
  · refine eQ_aload_n lw_members_0 (x := ao) rfl ?_
    refine eQ_iconst (v := 0) lw_members_1 (by decide) ?_
    refine eQ_aload_n lw_members_2 (x := b) rfl ?_
    refine eQ_iload_n lw_members_3 (x := p1) rfl ?_
    refine eQ_iload_n lw_members_4 (x := p2) rfl ?_
    exact xQ_r
  · refine eE_astore lw_members_20 (by decide) rfl ?_
    refine eE_iconst (v := 1) lw_members_22 (by decide) ?_
    exact eE_end lw_members_23 rfl rfl rfl
def kW_learners : xK := [(0, (.aload_n 3, 1)), (1, (.iconst 0, 1)), (2, (.aload_n 0, 1)), (3, (.iload_n 1, 1)), (4, (.iload_n 2, 1)), (5, (.invokevirtual 67, 3)), (8, (.ifCond .eq 7, 3)), (11, (.lconst 1, 1)), (12, (.goto 4, 3)), (15, (.lconst 0, 1)), (16, (.lastore, 1)), (17, (.goto 7, 3)), (20, (.astore 4, 2)), (22, (.iconst 1, 1)), (23, (.ireturn, 1)), (24, (.iconst 0, 1)), (25, (.ireturn, 1))]
theorem kWo_learners : xKok cL_learners kW_learners := by unfold xKok; decide +kernel
theorem lw_learners_0 : xAt kW_learners 0 (.aload_n 3) 1 := ⟨1, rfl, Or.inr rfl, rfl⟩
theorem lw_learners_1 : xAt kW_learners 1 (.iconst 0) 2 := ⟨1, rfl, Or.inr rfl, rfl⟩
theorem lw_learners_2 : xAt kW_learners 2 (.aload_n 0) 3 := ⟨1, rfl, Or.inr rfl, rfl⟩
theorem lw_learners_3 : xAt kW_learners 3 (.iload_n 1) 4 := ⟨1, rfl, Or.inr rfl, rfl⟩
theorem lw_learners_4 : xAt kW_learners 4 (.iload_n 2) 5 := ⟨1, rfl, Or.inr rfl, rfl⟩
theorem lw_learners_5 : xAt kW_learners 5 (.invokevirtual 67) 8 := ⟨3, rfl, Or.inr rfl, rfl⟩
theorem lw_learners_8 : xAt kW_learners 8 (.ifCond .eq 7) 11 := ⟨3, rfl, Or.inr rfl, rfl⟩
theorem lw_learners_11 : xAt kW_learners 11 (.lconst 1) 12 := ⟨1, rfl, Or.inr rfl, rfl⟩
theorem lw_learners_12 : xAt kW_learners 12 (.goto 4) 15 := ⟨3, rfl, Or.inr rfl, rfl⟩
theorem lw_learners_15 : xAt kW_learners 15 (.lconst 0) 16 := ⟨1, rfl, Or.inr rfl, rfl⟩
theorem lw_learners_16 : xAt kW_learners 16 (.lastore) 17 := ⟨1, rfl, Or.inr rfl, rfl⟩
theorem lw_learners_17 : xAt kW_learners 17 (.goto 7) 20 := ⟨3, rfl, Or.inr rfl, rfl⟩
theorem lw_learners_20 : xAt kW_learners 20 (.astore 4) 22 := ⟨2, rfl, Or.inr rfl, rfl⟩
theorem lw_learners_22 : xAt kW_learners 22 (.iconst 1) 23 := ⟨1, rfl, Or.inr rfl, rfl⟩
theorem lw_learners_23 : xAt kW_learners 23 (.ireturn) 24 := ⟨1, rfl, Or.inr rfl, rfl⟩
theorem lw_learners_24 : xAt kW_learners 24 (.iconst 0) 25 := ⟨1, rfl, Or.inr rfl, rfl⟩
theorem lw_learners_25 : xAt kW_learners 25 (.ireturn) 26 := ⟨1, rfl, Or.inr rfl, rfl⟩
set_option maxRecDepth 100000 in
theorem wc_learners : Jvm.Cond.codeWith yL_learners cL_learners 5 (some .int) [(0, 17, 20, 25)] ∈ xALL := xALL_g (xin_t9 _ (x_sub (big := tables_1_9) (ws := [.codeWith yL_learners cL_learners 5 (some .int) [(0, 17, 20, 25)]]) [218] rfl _ (List.mem_singleton.mpr rfl))) rfl
set_option maxRecDepth 100000 in
theorem wt_learners : Jvm.Cond.static yL_learners ∈ xALL := xALL_g (xin_t9 _ (x_sub (big := tables_1_9) (ws := [.static yL_learners]) [217] rfl _ (List.mem_singleton.mpr rfl))) rfl
set_option maxRecDepth 100000 in
theorem wl_learners : Jvm.Cond.methodLink "AgreedStoreLaw" 174 yL_learners ∈ xALL := xALL_g (xin_t9 _ (x_sub (big := tables_1_9) (ws := [.methodLink "AgreedStoreLaw" 174 yL_learners]) [216] rfl _ (List.mem_singleton.mpr rfl))) rfl
theorem wN_learners {l : Launch} {G0 : Heap} {Y : State → Prop} {D : va_G} {dA : Nat → ClassId} {base d : Nat} {pF : Nat → List Value → xH → Option (Option Value × xH)} (hpF : ∀ d y as h r h', 4 ≤ d → pF y as h = some (r, h') → xMet l G0 Y D dA base (d + 1) y as h r h') {b : Nat} {p1 : Int32} {p2 : Int32} {ao : Nat} {h h' : xH} {v : Int32} (hao : (h'.1 ao).1 = 21 ∧ (h'.1 ao).2.1 = 1) (hbc : (xMn 225).cls = (xCl ((h.1 b).1 - 1)).1 ∧ 0 < (h.1 b).1 ∧ (h.1 b).1 ≤ 17) (hc : xCo pF d 225 [.ref b, .int p1, .int p2] h (some (.int v)) h') : xMetW l G0 Y D dA base (d + 1) yL_learners cL_learners 5 [(0, 17, 20, 25)] [.ref b, .int p1, .int p2, .ref ao] h 0 (xlst h' ao 0 (if v = 0 then 0 else 1)) := by
  refine x_wrN hpF rfl (Nat.le_of_ble_eq_true rfl) kWo_learners ?_
  refine eE_aload_n lw_learners_0 (x := ao) rfl ?_
  refine eE_iconst (v := 0) lw_learners_1 (by decide) ?_
  refine eE_aload_n lw_learners_2 (x := b) rfl ?_
  refine eE_iload_n lw_learners_3 (x := p1) rfl ?_
  refine eE_iload_n lw_learners_4 (x := p2) rfl ?_
  refine eE_virt (b := b) (as := [.int p1, .int p2]) (n := 2) (r := (some (.int v))) lw_learners_5 (by decide +kernel) (by decide +kernel) rfl rfl (Nat.le_of_ble_eq_true rfl) (by decide +kernel) hbc hc ?_
  refine eE_if (t := 15) lw_learners_8 (by decide) (fun q => ?_) (fun q => ?_)
  · have e0 : v = 0 := of_decide_eq_true q
    refine eE_lconst (v := 0) lw_learners_15 (by decide) ?_
    refine eE_last (j := 0) lw_learners_16 hao.1 (by rw [hao.2]; decide) (by decide) ?_
    refine eE_goto (t := 24) lw_learners_17 (by decide) ?_
    refine eE_iconst (v := 0) lw_learners_24 (by decide) ?_
    rw [if_pos e0]
    exact eE_end lw_learners_25 rfl rfl rfl
  · have e0 : ¬ v = 0 := fun e => q (decide_eq_true e)
    refine eE_lconst (v := 1) lw_learners_11 (by decide) ?_
    refine eE_goto (t := 16) lw_learners_12 (by decide) ?_
    refine eE_last (j := 0) lw_learners_16 hao.1 (by rw [hao.2]; decide) (by decide) ?_
    refine eE_goto (t := 24) lw_learners_17 (by decide) ?_
    refine eE_iconst (v := 0) lw_learners_24 (by decide) ?_
    rw [if_neg e0]
    exact eE_end lw_learners_25 rfl rfl rfl
theorem wT_learners_0 {l : Launch} {G0 : Heap} {Y : State → Prop} {D : va_G} {dA : Nat → ClassId} {base d : Nat} {pF : Nat → List Value → xH → Option (Option Value × xH)} (hpF : ∀ d y as h r h', 4 ≤ d → pF y as h = some (r, h') → xMet l G0 Y D dA base (d + 1) y as h r h') (hYz : ∀ U, Y U → zY G0 base U) {b : Nat} {p1 : Int32} {p2 : Int32} {ao : Nat} {h h' : xH} (hbc : (xMn 225).cls = (xCl ((h.1 b).1 - 1)).1 ∧ 0 < (h.1 b).1 ∧ (h.1 b).1 ≤ 17) (hX : xMetX l G0 Y D dA base d 225 [.ref b, .int p1, .int p2] h 0 h') : xMetW l G0 Y D dA base (d + 1) yL_learners cL_learners 5 [(0, 17, 20, 25)] [.ref b, .int p1, .int p2, .ref ao] h 1 h' := by
  refine x_wrT hpF hYz rfl (Nat.le_of_ble_eq_true rfl) kWo_learners (pcc := 5) (idx := 67) (y := 225) (b := b) (as2 := [.int p1, .int p2]) (rest := [.int 0, .ref ao]) (lv2 := lv_args 0 [.ref b, .int p1, .int p2, .ref ao]) (h1 := h) ?_ rfl (by decide +kernel) ((by decide +kernel : xnargs 225 = 2).trans rfl) (Nat.le_of_ble_eq_true rfl) (by decide +kernel) hbc hX (by decide) [] [] { startPc := 0, endPc := 17, handlerPc := 20, catchType := 25 } rfl (fun z hz => by cases hz) (by decide +kernel) (by decide) wk_25 (fun q => ?_)
  · refine eQ_aload_n lw_learners_0 (x := ao) rfl ?_
    refine eQ_iconst (v := 0) lw_learners_1 (by decide) ?_
    refine eQ_aload_n lw_learners_2 (x := b) rfl ?_
    refine eQ_iload_n lw_learners_3 (x := p1) rfl ?_
    refine eQ_iload_n lw_learners_4 (x := p2) rfl ?_
    exact xQ_r
  · refine eE_astore lw_learners_20 (by decide) rfl ?_
    refine eE_iconst (v := 1) lw_learners_22 (by decide) ?_
    exact eE_end lw_learners_23 rfl rfl rfl
def kW_hand : xK := [(0, (.aload_n 3, 1)), (1, (.iconst 0, 1)), (2, (.aload_n 0, 1)), (3, (.iload_n 1, 1)), (4, (.iload_n 2, 1)), (5, (.invokevirtual 70, 3)), (8, (.ifCond .eq 7, 3)), (11, (.lconst 1, 1)), (12, (.goto 4, 3)), (15, (.lconst 0, 1)), (16, (.lastore, 1)), (17, (.goto 7, 3)), (20, (.astore 4, 2)), (22, (.iconst 1, 1)), (23, (.ireturn, 1)), (24, (.iconst 0, 1)), (25, (.ireturn, 1))]
theorem kWo_hand : xKok cL_hand kW_hand := by unfold xKok; decide +kernel
theorem lw_hand_0 : xAt kW_hand 0 (.aload_n 3) 1 := ⟨1, rfl, Or.inr rfl, rfl⟩
theorem lw_hand_1 : xAt kW_hand 1 (.iconst 0) 2 := ⟨1, rfl, Or.inr rfl, rfl⟩
theorem lw_hand_2 : xAt kW_hand 2 (.aload_n 0) 3 := ⟨1, rfl, Or.inr rfl, rfl⟩
theorem lw_hand_3 : xAt kW_hand 3 (.iload_n 1) 4 := ⟨1, rfl, Or.inr rfl, rfl⟩
theorem lw_hand_4 : xAt kW_hand 4 (.iload_n 2) 5 := ⟨1, rfl, Or.inr rfl, rfl⟩
theorem lw_hand_5 : xAt kW_hand 5 (.invokevirtual 70) 8 := ⟨3, rfl, Or.inr rfl, rfl⟩
theorem lw_hand_8 : xAt kW_hand 8 (.ifCond .eq 7) 11 := ⟨3, rfl, Or.inr rfl, rfl⟩
theorem lw_hand_11 : xAt kW_hand 11 (.lconst 1) 12 := ⟨1, rfl, Or.inr rfl, rfl⟩
theorem lw_hand_12 : xAt kW_hand 12 (.goto 4) 15 := ⟨3, rfl, Or.inr rfl, rfl⟩
theorem lw_hand_15 : xAt kW_hand 15 (.lconst 0) 16 := ⟨1, rfl, Or.inr rfl, rfl⟩
theorem lw_hand_16 : xAt kW_hand 16 (.lastore) 17 := ⟨1, rfl, Or.inr rfl, rfl⟩
theorem lw_hand_17 : xAt kW_hand 17 (.goto 7) 20 := ⟨3, rfl, Or.inr rfl, rfl⟩
theorem lw_hand_20 : xAt kW_hand 20 (.astore 4) 22 := ⟨2, rfl, Or.inr rfl, rfl⟩
theorem lw_hand_22 : xAt kW_hand 22 (.iconst 1) 23 := ⟨1, rfl, Or.inr rfl, rfl⟩
theorem lw_hand_23 : xAt kW_hand 23 (.ireturn) 24 := ⟨1, rfl, Or.inr rfl, rfl⟩
theorem lw_hand_24 : xAt kW_hand 24 (.iconst 0) 25 := ⟨1, rfl, Or.inr rfl, rfl⟩
theorem lw_hand_25 : xAt kW_hand 25 (.ireturn) 26 := ⟨1, rfl, Or.inr rfl, rfl⟩
set_option maxRecDepth 100000 in
theorem wc_hand : Jvm.Cond.codeWith yL_hand cL_hand 5 (some .int) [(0, 17, 20, 25)] ∈ xALL := xALL_g (xin_t9 _ (x_sub (big := tables_1_9) (ws := [.codeWith yL_hand cL_hand 5 (some .int) [(0, 17, 20, 25)]]) [225] rfl _ (List.mem_singleton.mpr rfl))) rfl
set_option maxRecDepth 100000 in
theorem wt_hand : Jvm.Cond.static yL_hand ∈ xALL := xALL_g (xin_t9 _ (x_sub (big := tables_1_9) (ws := [.static yL_hand]) [224] rfl _ (List.mem_singleton.mpr rfl))) rfl
set_option maxRecDepth 100000 in
theorem wl_hand : Jvm.Cond.methodLink "AgreedStoreLaw" 177 yL_hand ∈ xALL := xALL_g (xin_t9 _ (x_sub (big := tables_1_9) (ws := [.methodLink "AgreedStoreLaw" 177 yL_hand]) [223] rfl _ (List.mem_singleton.mpr rfl))) rfl
theorem wN_hand {l : Launch} {G0 : Heap} {Y : State → Prop} {D : va_G} {dA : Nat → ClassId} {base d : Nat} {pF : Nat → List Value → xH → Option (Option Value × xH)} (hpF : ∀ d y as h r h', 4 ≤ d → pF y as h = some (r, h') → xMet l G0 Y D dA base (d + 1) y as h r h') {b : Nat} {p1 : Int32} {p2 : Int32} {ao : Nat} {h h' : xH} {v : Int32} (hao : (h'.1 ao).1 = 21 ∧ (h'.1 ao).2.1 = 1) (hbc : (xMn 216).cls = (xCl ((h.1 b).1 - 1)).1 ∧ 0 < (h.1 b).1 ∧ (h.1 b).1 ≤ 17) (hc : xCo pF d 216 [.ref b, .int p1, .int p2] h (some (.int v)) h') : xMetW l G0 Y D dA base (d + 1) yL_hand cL_hand 5 [(0, 17, 20, 25)] [.ref b, .int p1, .int p2, .ref ao] h 0 (xlst h' ao 0 (if v = 0 then 0 else 1)) := by
  refine x_wrN hpF rfl (Nat.le_of_ble_eq_true rfl) kWo_hand ?_
  refine eE_aload_n lw_hand_0 (x := ao) rfl ?_
  refine eE_iconst (v := 0) lw_hand_1 (by decide) ?_
  refine eE_aload_n lw_hand_2 (x := b) rfl ?_
  refine eE_iload_n lw_hand_3 (x := p1) rfl ?_
  refine eE_iload_n lw_hand_4 (x := p2) rfl ?_
  refine eE_virt (b := b) (as := [.int p1, .int p2]) (n := 2) (r := (some (.int v))) lw_hand_5 (by decide +kernel) (by decide +kernel) rfl rfl (Nat.le_of_ble_eq_true rfl) (by decide +kernel) hbc hc ?_
  refine eE_if (t := 15) lw_hand_8 (by decide) (fun q => ?_) (fun q => ?_)
  · have e0 : v = 0 := of_decide_eq_true q
    refine eE_lconst (v := 0) lw_hand_15 (by decide) ?_
    refine eE_last (j := 0) lw_hand_16 hao.1 (by rw [hao.2]; decide) (by decide) ?_
    refine eE_goto (t := 24) lw_hand_17 (by decide) ?_
    refine eE_iconst (v := 0) lw_hand_24 (by decide) ?_
    rw [if_pos e0]
    exact eE_end lw_hand_25 rfl rfl rfl
  · have e0 : ¬ v = 0 := fun e => q (decide_eq_true e)
    refine eE_lconst (v := 1) lw_hand_11 (by decide) ?_
    refine eE_goto (t := 16) lw_hand_12 (by decide) ?_
    refine eE_last (j := 0) lw_hand_16 hao.1 (by rw [hao.2]; decide) (by decide) ?_
    refine eE_goto (t := 24) lw_hand_17 (by decide) ?_
    refine eE_iconst (v := 0) lw_hand_24 (by decide) ?_
    rw [if_neg e0]
    exact eE_end lw_hand_25 rfl rfl rfl
theorem wT_hand_0 {l : Launch} {G0 : Heap} {Y : State → Prop} {D : va_G} {dA : Nat → ClassId} {base d : Nat} {pF : Nat → List Value → xH → Option (Option Value × xH)} (hpF : ∀ d y as h r h', 4 ≤ d → pF y as h = some (r, h') → xMet l G0 Y D dA base (d + 1) y as h r h') (hYz : ∀ U, Y U → zY G0 base U) {b : Nat} {p1 : Int32} {p2 : Int32} {ao : Nat} {h h' : xH} (hbc : (xMn 216).cls = (xCl ((h.1 b).1 - 1)).1 ∧ 0 < (h.1 b).1 ∧ (h.1 b).1 ≤ 17) (hX : xMetX l G0 Y D dA base d 216 [.ref b, .int p1, .int p2] h 0 h') : xMetW l G0 Y D dA base (d + 1) yL_hand cL_hand 5 [(0, 17, 20, 25)] [.ref b, .int p1, .int p2, .ref ao] h 1 h' := by
  refine x_wrT hpF hYz rfl (Nat.le_of_ble_eq_true rfl) kWo_hand (pcc := 5) (idx := 70) (y := 216) (b := b) (as2 := [.int p1, .int p2]) (rest := [.int 0, .ref ao]) (lv2 := lv_args 0 [.ref b, .int p1, .int p2, .ref ao]) (h1 := h) ?_ rfl (by decide +kernel) ((by decide +kernel : xnargs 216 = 2).trans rfl) (Nat.le_of_ble_eq_true rfl) (by decide +kernel) hbc hX (by decide) [] [] { startPc := 0, endPc := 17, handlerPc := 20, catchType := 25 } rfl (fun z hz => by cases hz) (by decide +kernel) (by decide) wk_25 (fun q => ?_)
  · refine eQ_aload_n lw_hand_0 (x := ao) rfl ?_
    refine eQ_iconst (v := 0) lw_hand_1 (by decide) ?_
    refine eQ_aload_n lw_hand_2 (x := b) rfl ?_
    refine eQ_iload_n lw_hand_3 (x := p1) rfl ?_
    refine eQ_iload_n lw_hand_4 (x := p2) rfl ?_
    exact xQ_r
  · refine eE_astore lw_hand_20 (by decide) rfl ?_
    refine eE_iconst (v := 1) lw_hand_22 (by decide) ?_
    exact eE_end lw_hand_23 rfl rfl rfl
def kW_server : xK := [(0, (.aload_n 3, 1)), (1, (.iconst 0, 1)), (2, (.aload_n 0, 1)), (3, (.iload_n 1, 1)), (4, (.iload_n 2, 1)), (5, (.invokevirtual 73, 3)), (8, (.i2l, 1)), (9, (.lastore, 1)), (10, (.goto 7, 3)), (13, (.astore 4, 2)), (15, (.iconst 1, 1)), (16, (.ireturn, 1)), (17, (.iconst 0, 1)), (18, (.ireturn, 1))]
theorem kWo_server : xKok cL_server kW_server := by unfold xKok; decide +kernel
theorem lw_server_0 : xAt kW_server 0 (.aload_n 3) 1 := ⟨1, rfl, Or.inr rfl, rfl⟩
theorem lw_server_1 : xAt kW_server 1 (.iconst 0) 2 := ⟨1, rfl, Or.inr rfl, rfl⟩
theorem lw_server_2 : xAt kW_server 2 (.aload_n 0) 3 := ⟨1, rfl, Or.inr rfl, rfl⟩
theorem lw_server_3 : xAt kW_server 3 (.iload_n 1) 4 := ⟨1, rfl, Or.inr rfl, rfl⟩
theorem lw_server_4 : xAt kW_server 4 (.iload_n 2) 5 := ⟨1, rfl, Or.inr rfl, rfl⟩
theorem lw_server_5 : xAt kW_server 5 (.invokevirtual 73) 8 := ⟨3, rfl, Or.inr rfl, rfl⟩
theorem lw_server_8 : xAt kW_server 8 (.i2l) 9 := ⟨1, rfl, Or.inr rfl, rfl⟩
theorem lw_server_9 : xAt kW_server 9 (.lastore) 10 := ⟨1, rfl, Or.inr rfl, rfl⟩
theorem lw_server_10 : xAt kW_server 10 (.goto 7) 13 := ⟨3, rfl, Or.inr rfl, rfl⟩
theorem lw_server_13 : xAt kW_server 13 (.astore 4) 15 := ⟨2, rfl, Or.inr rfl, rfl⟩
theorem lw_server_15 : xAt kW_server 15 (.iconst 1) 16 := ⟨1, rfl, Or.inr rfl, rfl⟩
theorem lw_server_16 : xAt kW_server 16 (.ireturn) 17 := ⟨1, rfl, Or.inr rfl, rfl⟩
theorem lw_server_17 : xAt kW_server 17 (.iconst 0) 18 := ⟨1, rfl, Or.inr rfl, rfl⟩
theorem lw_server_18 : xAt kW_server 18 (.ireturn) 19 := ⟨1, rfl, Or.inr rfl, rfl⟩
set_option maxRecDepth 100000 in
theorem wc_server : Jvm.Cond.codeWith yL_server cL_server 5 (some .int) [(0, 10, 13, 25)] ∈ xALL := xALL_g (xin_t9 _ (x_sub (big := tables_1_9) (ws := [.codeWith yL_server cL_server 5 (some .int) [(0, 10, 13, 25)]]) [238] rfl _ (List.mem_singleton.mpr rfl))) rfl
set_option maxRecDepth 100000 in
theorem wt_server : Jvm.Cond.static yL_server ∈ xALL := xALL_g (xin_t9 _ (x_sub (big := tables_1_9) (ws := [.static yL_server]) [237] rfl _ (List.mem_singleton.mpr rfl))) rfl
set_option maxRecDepth 100000 in
theorem wl_server : Jvm.Cond.methodLink "AgreedStoreLaw" 184 yL_server ∈ xALL := xALL_g (xin_t9 _ (x_sub (big := tables_1_9) (ws := [.methodLink "AgreedStoreLaw" 184 yL_server]) [236] rfl _ (List.mem_singleton.mpr rfl))) rfl
theorem wN_server {l : Launch} {G0 : Heap} {Y : State → Prop} {D : va_G} {dA : Nat → ClassId} {base d : Nat} {pF : Nat → List Value → xH → Option (Option Value × xH)} (hpF : ∀ d y as h r h', 4 ≤ d → pF y as h = some (r, h') → xMet l G0 Y D dA base (d + 1) y as h r h') {b : Nat} {p1 : Int32} {p2 : Int32} {ao : Nat} {h h' : xH} {v : Int32} (hao : (h'.1 ao).1 = 21 ∧ (h'.1 ao).2.1 = 1) (hbc : (xMn 235).cls = (xCl ((h.1 b).1 - 1)).1 ∧ 0 < (h.1 b).1 ∧ (h.1 b).1 ≤ 17) (hc : xCo pF d 235 [.ref b, .int p1, .int p2] h (some (.int v)) h') : xMetW l G0 Y D dA base (d + 1) yL_server cL_server 5 [(0, 10, 13, 25)] [.ref b, .int p1, .int p2, .ref ao] h 0 (xlst h' ao 0 v.toInt64) := by
  refine x_wrN hpF rfl (Nat.le_of_ble_eq_true rfl) kWo_server ?_
  refine eE_aload_n lw_server_0 (x := ao) rfl ?_
  refine eE_iconst (v := 0) lw_server_1 (by decide) ?_
  refine eE_aload_n lw_server_2 (x := b) rfl ?_
  refine eE_iload_n lw_server_3 (x := p1) rfl ?_
  refine eE_iload_n lw_server_4 (x := p2) rfl ?_
  refine eE_virt (b := b) (as := [.int p1, .int p2]) (n := 2) (r := (some (.int v))) lw_server_5 (by decide +kernel) (by decide +kernel) rfl rfl (Nat.le_of_ble_eq_true rfl) (by decide +kernel) hbc hc ?_
  refine eE_i2l lw_server_8 ?_
  refine eE_last (j := 0) lw_server_9 hao.1 (by rw [hao.2]; decide) (by decide) ?_
  refine eE_goto (t := 17) lw_server_10 (by decide) ?_
  refine eE_iconst (v := 0) lw_server_17 (by decide) ?_
  exact eE_end lw_server_18 rfl rfl rfl
theorem wT_server_0 {l : Launch} {G0 : Heap} {Y : State → Prop} {D : va_G} {dA : Nat → ClassId} {base d : Nat} {pF : Nat → List Value → xH → Option (Option Value × xH)} (hpF : ∀ d y as h r h', 4 ≤ d → pF y as h = some (r, h') → xMet l G0 Y D dA base (d + 1) y as h r h') (hYz : ∀ U, Y U → zY G0 base U) {b : Nat} {p1 : Int32} {p2 : Int32} {ao : Nat} {h h' : xH} (hbc : (xMn 235).cls = (xCl ((h.1 b).1 - 1)).1 ∧ 0 < (h.1 b).1 ∧ (h.1 b).1 ≤ 17) (hX : xMetX l G0 Y D dA base d 235 [.ref b, .int p1, .int p2] h 0 h') : xMetW l G0 Y D dA base (d + 1) yL_server cL_server 5 [(0, 10, 13, 25)] [.ref b, .int p1, .int p2, .ref ao] h 1 h' := by
  refine x_wrT hpF hYz rfl (Nat.le_of_ble_eq_true rfl) kWo_server (pcc := 5) (idx := 73) (y := 235) (b := b) (as2 := [.int p1, .int p2]) (rest := [.int 0, .ref ao]) (lv2 := lv_args 0 [.ref b, .int p1, .int p2, .ref ao]) (h1 := h) ?_ rfl (by decide +kernel) ((by decide +kernel : xnargs 235 = 2).trans rfl) (Nat.le_of_ble_eq_true rfl) (by decide +kernel) hbc hX (by decide) [] [] { startPc := 0, endPc := 10, handlerPc := 13, catchType := 25 } rfl (fun z hz => by cases hz) (by decide +kernel) (by decide) wk_25 (fun q => ?_)
  · refine eQ_aload_n lw_server_0 (x := ao) rfl ?_
    refine eQ_iconst (v := 0) lw_server_1 (by decide) ?_
    refine eQ_aload_n lw_server_2 (x := b) rfl ?_
    refine eQ_iload_n lw_server_3 (x := p1) rfl ?_
    refine eQ_iload_n lw_server_4 (x := p2) rfl ?_
    exact xQ_r
  · refine eE_astore lw_server_13 (by decide) rfl ?_
    refine eE_iconst (v := 1) lw_server_15 (by decide) ?_
    exact eE_end lw_server_16 rfl rfl rfl
def kW_entry : xK := [(0, (.aload 4, 2)), (2, (.iconst 0, 1)), (3, (.aload_n 0, 1)), (4, (.iload_n 1, 1)), (5, (.iload_n 2, 1)), (6, (.iload_n 3, 1)), (7, (.invokevirtual 76, 3)), (10, (.i2l, 1)), (11, (.lastore, 1)), (12, (.goto 7, 3)), (15, (.astore 5, 2)), (17, (.iconst 1, 1)), (18, (.ireturn, 1)), (19, (.iconst 0, 1)), (20, (.ireturn, 1))]
theorem kWo_entry : xKok cL_entry kW_entry := by unfold xKok; decide +kernel
theorem lw_entry_0 : xAt kW_entry 0 (.aload 4) 2 := ⟨2, rfl, Or.inr rfl, rfl⟩
theorem lw_entry_2 : xAt kW_entry 2 (.iconst 0) 3 := ⟨1, rfl, Or.inr rfl, rfl⟩
theorem lw_entry_3 : xAt kW_entry 3 (.aload_n 0) 4 := ⟨1, rfl, Or.inr rfl, rfl⟩
theorem lw_entry_4 : xAt kW_entry 4 (.iload_n 1) 5 := ⟨1, rfl, Or.inr rfl, rfl⟩
theorem lw_entry_5 : xAt kW_entry 5 (.iload_n 2) 6 := ⟨1, rfl, Or.inr rfl, rfl⟩
theorem lw_entry_6 : xAt kW_entry 6 (.iload_n 3) 7 := ⟨1, rfl, Or.inr rfl, rfl⟩
theorem lw_entry_7 : xAt kW_entry 7 (.invokevirtual 76) 10 := ⟨3, rfl, Or.inr rfl, rfl⟩
theorem lw_entry_10 : xAt kW_entry 10 (.i2l) 11 := ⟨1, rfl, Or.inr rfl, rfl⟩
theorem lw_entry_11 : xAt kW_entry 11 (.lastore) 12 := ⟨1, rfl, Or.inr rfl, rfl⟩
theorem lw_entry_12 : xAt kW_entry 12 (.goto 7) 15 := ⟨3, rfl, Or.inr rfl, rfl⟩
theorem lw_entry_15 : xAt kW_entry 15 (.astore 5) 17 := ⟨2, rfl, Or.inr rfl, rfl⟩
theorem lw_entry_17 : xAt kW_entry 17 (.iconst 1) 18 := ⟨1, rfl, Or.inr rfl, rfl⟩
theorem lw_entry_18 : xAt kW_entry 18 (.ireturn) 19 := ⟨1, rfl, Or.inr rfl, rfl⟩
theorem lw_entry_19 : xAt kW_entry 19 (.iconst 0) 20 := ⟨1, rfl, Or.inr rfl, rfl⟩
theorem lw_entry_20 : xAt kW_entry 20 (.ireturn) 21 := ⟨1, rfl, Or.inr rfl, rfl⟩
set_option maxRecDepth 100000 in
theorem wc_entry : Jvm.Cond.codeWith yL_entry cL_entry 6 (some .int) [(0, 12, 15, 25)] ∈ xALL := xALL_g (xin_t10 _ (x_sub (big := tables_1_10) (ws := [.codeWith yL_entry cL_entry 6 (some .int) [(0, 12, 15, 25)]]) [9] rfl _ (List.mem_singleton.mpr rfl))) rfl
set_option maxRecDepth 100000 in
theorem wt_entry : Jvm.Cond.static yL_entry ∈ xALL := xALL_g (xin_t10 _ (x_sub (big := tables_1_10) (ws := [.static yL_entry]) [8] rfl _ (List.mem_singleton.mpr rfl))) rfl
set_option maxRecDepth 100000 in
theorem wl_entry : Jvm.Cond.methodLink "AgreedStoreLaw" 187 yL_entry ∈ xALL := xALL_g (xin_t10 _ (x_sub (big := tables_1_10) (ws := [.methodLink "AgreedStoreLaw" 187 yL_entry]) [7] rfl _ (List.mem_singleton.mpr rfl))) rfl
theorem wN_entry {l : Launch} {G0 : Heap} {Y : State → Prop} {D : va_G} {dA : Nat → ClassId} {base d : Nat} {pF : Nat → List Value → xH → Option (Option Value × xH)} (hpF : ∀ d y as h r h', 4 ≤ d → pF y as h = some (r, h') → xMet l G0 Y D dA base (d + 1) y as h r h') {b : Nat} {p1 : Int32} {p2 : Int32} {p3 : Int32} {ao : Nat} {h h' : xH} {v : Int32} (hao : (h'.1 ao).1 = 21 ∧ (h'.1 ao).2.1 = 1) (hbc : (xMn 212).cls = (xCl ((h.1 b).1 - 1)).1 ∧ 0 < (h.1 b).1 ∧ (h.1 b).1 ≤ 17) (hc : xCo pF d 212 [.ref b, .int p1, .int p2, .int p3] h (some (.int v)) h') : xMetW l G0 Y D dA base (d + 1) yL_entry cL_entry 6 [(0, 12, 15, 25)] [.ref b, .int p1, .int p2, .int p3, .ref ao] h 0 (xlst h' ao 0 v.toInt64) := by
  refine x_wrN hpF rfl (Nat.le_of_ble_eq_true rfl) kWo_entry ?_
  refine eE_aload lw_entry_0 (x := ao) rfl ?_
  refine eE_iconst (v := 0) lw_entry_2 (by decide) ?_
  refine eE_aload_n lw_entry_3 (x := b) rfl ?_
  refine eE_iload_n lw_entry_4 (x := p1) rfl ?_
  refine eE_iload_n lw_entry_5 (x := p2) rfl ?_
  refine eE_iload_n lw_entry_6 (x := p3) rfl ?_
  refine eE_virt (b := b) (as := [.int p1, .int p2, .int p3]) (n := 3) (r := (some (.int v))) lw_entry_7 (by decide +kernel) (by decide +kernel) rfl rfl (Nat.le_of_ble_eq_true rfl) (by decide +kernel) hbc hc ?_
  refine eE_i2l lw_entry_10 ?_
  refine eE_last (j := 0) lw_entry_11 hao.1 (by rw [hao.2]; decide) (by decide) ?_
  refine eE_goto (t := 19) lw_entry_12 (by decide) ?_
  refine eE_iconst (v := 0) lw_entry_19 (by decide) ?_
  exact eE_end lw_entry_20 rfl rfl rfl
theorem wT_entry_0 {l : Launch} {G0 : Heap} {Y : State → Prop} {D : va_G} {dA : Nat → ClassId} {base d : Nat} {pF : Nat → List Value → xH → Option (Option Value × xH)} (hpF : ∀ d y as h r h', 4 ≤ d → pF y as h = some (r, h') → xMet l G0 Y D dA base (d + 1) y as h r h') (hYz : ∀ U, Y U → zY G0 base U) {b : Nat} {p1 : Int32} {p2 : Int32} {p3 : Int32} {ao : Nat} {h h' : xH} (hbc : (xMn 212).cls = (xCl ((h.1 b).1 - 1)).1 ∧ 0 < (h.1 b).1 ∧ (h.1 b).1 ≤ 17) (hX : xMetX l G0 Y D dA base d 212 [.ref b, .int p1, .int p2, .int p3] h 0 h') : xMetW l G0 Y D dA base (d + 1) yL_entry cL_entry 6 [(0, 12, 15, 25)] [.ref b, .int p1, .int p2, .int p3, .ref ao] h 1 h' := by
  refine x_wrT hpF hYz rfl (Nat.le_of_ble_eq_true rfl) kWo_entry (pcc := 7) (idx := 76) (y := 212) (b := b) (as2 := [.int p1, .int p2, .int p3]) (rest := [.int 0, .ref ao]) (lv2 := lv_args 0 [.ref b, .int p1, .int p2, .int p3, .ref ao]) (h1 := h) ?_ rfl (by decide +kernel) ((by decide +kernel : xnargs 212 = 3).trans rfl) (Nat.le_of_ble_eq_true rfl) (by decide +kernel) hbc hX (by decide) [] [] { startPc := 0, endPc := 12, handlerPc := 15, catchType := 25 } rfl (fun z hz => by cases hz) (by decide +kernel) (by decide) wk_25 (fun q => ?_)
  · refine eQ_aload lw_entry_0 (x := ao) rfl ?_
    refine eQ_iconst (v := 0) lw_entry_2 (by decide) ?_
    refine eQ_aload_n lw_entry_3 (x := b) rfl ?_
    refine eQ_iload_n lw_entry_4 (x := p1) rfl ?_
    refine eQ_iload_n lw_entry_5 (x := p2) rfl ?_
    refine eQ_iload_n lw_entry_6 (x := p3) rfl ?_
    exact xQ_r
  · refine eE_astore lw_entry_15 (by decide) rfl ?_
    refine eE_iconst (v := 1) lw_entry_17 (by decide) ?_
    exact eE_end lw_entry_18 rfl rfl rfl
def kW_file : xK := [(0, (.aload 4, 2)), (2, (.iconst 0, 1)), (3, (.aload_n 0, 1)), (4, (.iload_n 1, 1)), (5, (.iload_n 2, 1)), (6, (.iload_n 3, 1)), (7, (.invokevirtual 79, 3)), (10, (.i2l, 1)), (11, (.lastore, 1)), (12, (.goto 7, 3)), (15, (.astore 5, 2)), (17, (.iconst 1, 1)), (18, (.ireturn, 1)), (19, (.iconst 0, 1)), (20, (.ireturn, 1))]
theorem kWo_file : xKok cL_file kW_file := by unfold xKok; decide +kernel
theorem lw_file_0 : xAt kW_file 0 (.aload 4) 2 := ⟨2, rfl, Or.inr rfl, rfl⟩
theorem lw_file_2 : xAt kW_file 2 (.iconst 0) 3 := ⟨1, rfl, Or.inr rfl, rfl⟩
theorem lw_file_3 : xAt kW_file 3 (.aload_n 0) 4 := ⟨1, rfl, Or.inr rfl, rfl⟩
theorem lw_file_4 : xAt kW_file 4 (.iload_n 1) 5 := ⟨1, rfl, Or.inr rfl, rfl⟩
theorem lw_file_5 : xAt kW_file 5 (.iload_n 2) 6 := ⟨1, rfl, Or.inr rfl, rfl⟩
theorem lw_file_6 : xAt kW_file 6 (.iload_n 3) 7 := ⟨1, rfl, Or.inr rfl, rfl⟩
theorem lw_file_7 : xAt kW_file 7 (.invokevirtual 79) 10 := ⟨3, rfl, Or.inr rfl, rfl⟩
theorem lw_file_10 : xAt kW_file 10 (.i2l) 11 := ⟨1, rfl, Or.inr rfl, rfl⟩
theorem lw_file_11 : xAt kW_file 11 (.lastore) 12 := ⟨1, rfl, Or.inr rfl, rfl⟩
theorem lw_file_12 : xAt kW_file 12 (.goto 7) 15 := ⟨3, rfl, Or.inr rfl, rfl⟩
theorem lw_file_15 : xAt kW_file 15 (.astore 5) 17 := ⟨2, rfl, Or.inr rfl, rfl⟩
theorem lw_file_17 : xAt kW_file 17 (.iconst 1) 18 := ⟨1, rfl, Or.inr rfl, rfl⟩
theorem lw_file_18 : xAt kW_file 18 (.ireturn) 19 := ⟨1, rfl, Or.inr rfl, rfl⟩
theorem lw_file_19 : xAt kW_file 19 (.iconst 0) 20 := ⟨1, rfl, Or.inr rfl, rfl⟩
theorem lw_file_20 : xAt kW_file 20 (.ireturn) 21 := ⟨1, rfl, Or.inr rfl, rfl⟩
set_option maxRecDepth 100000 in
theorem wc_file : Jvm.Cond.codeWith yL_file cL_file 6 (some .int) [(0, 12, 15, 25)] ∈ xALL := xALL_g (xin_t10 _ (x_sub (big := tables_1_10) (ws := [.codeWith yL_file cL_file 6 (some .int) [(0, 12, 15, 25)]]) [18] rfl _ (List.mem_singleton.mpr rfl))) rfl
set_option maxRecDepth 100000 in
theorem wt_file : Jvm.Cond.static yL_file ∈ xALL := xALL_g (xin_t10 _ (x_sub (big := tables_1_10) (ws := [.static yL_file]) [17] rfl _ (List.mem_singleton.mpr rfl))) rfl
set_option maxRecDepth 100000 in
theorem wl_file : Jvm.Cond.methodLink "AgreedStoreLaw" 190 yL_file ∈ xALL := xALL_g (xin_t10 _ (x_sub (big := tables_1_10) (ws := [.methodLink "AgreedStoreLaw" 190 yL_file]) [16] rfl _ (List.mem_singleton.mpr rfl))) rfl
theorem wN_file {l : Launch} {G0 : Heap} {Y : State → Prop} {D : va_G} {dA : Nat → ClassId} {base d : Nat} {pF : Nat → List Value → xH → Option (Option Value × xH)} (hpF : ∀ d y as h r h', 4 ≤ d → pF y as h = some (r, h') → xMet l G0 Y D dA base (d + 1) y as h r h') {b : Nat} {p1 : Int32} {p2 : Int32} {p3 : Int32} {ao : Nat} {h h' : xH} {v : Int32} (hao : (h'.1 ao).1 = 21 ∧ (h'.1 ao).2.1 = 1) (hbc : (xMn 214).cls = (xCl ((h.1 b).1 - 1)).1 ∧ 0 < (h.1 b).1 ∧ (h.1 b).1 ≤ 17) (hc : xCo pF d 214 [.ref b, .int p1, .int p2, .int p3] h (some (.int v)) h') : xMetW l G0 Y D dA base (d + 1) yL_file cL_file 6 [(0, 12, 15, 25)] [.ref b, .int p1, .int p2, .int p3, .ref ao] h 0 (xlst h' ao 0 v.toInt64) := by
  refine x_wrN hpF rfl (Nat.le_of_ble_eq_true rfl) kWo_file ?_
  refine eE_aload lw_file_0 (x := ao) rfl ?_
  refine eE_iconst (v := 0) lw_file_2 (by decide) ?_
  refine eE_aload_n lw_file_3 (x := b) rfl ?_
  refine eE_iload_n lw_file_4 (x := p1) rfl ?_
  refine eE_iload_n lw_file_5 (x := p2) rfl ?_
  refine eE_iload_n lw_file_6 (x := p3) rfl ?_
  refine eE_virt (b := b) (as := [.int p1, .int p2, .int p3]) (n := 3) (r := (some (.int v))) lw_file_7 (by decide +kernel) (by decide +kernel) rfl rfl (Nat.le_of_ble_eq_true rfl) (by decide +kernel) hbc hc ?_
  refine eE_i2l lw_file_10 ?_
  refine eE_last (j := 0) lw_file_11 hao.1 (by rw [hao.2]; decide) (by decide) ?_
  refine eE_goto (t := 19) lw_file_12 (by decide) ?_
  refine eE_iconst (v := 0) lw_file_19 (by decide) ?_
  exact eE_end lw_file_20 rfl rfl rfl
theorem wT_file_0 {l : Launch} {G0 : Heap} {Y : State → Prop} {D : va_G} {dA : Nat → ClassId} {base d : Nat} {pF : Nat → List Value → xH → Option (Option Value × xH)} (hpF : ∀ d y as h r h', 4 ≤ d → pF y as h = some (r, h') → xMet l G0 Y D dA base (d + 1) y as h r h') (hYz : ∀ U, Y U → zY G0 base U) {b : Nat} {p1 : Int32} {p2 : Int32} {p3 : Int32} {ao : Nat} {h h' : xH} (hbc : (xMn 214).cls = (xCl ((h.1 b).1 - 1)).1 ∧ 0 < (h.1 b).1 ∧ (h.1 b).1 ≤ 17) (hX : xMetX l G0 Y D dA base d 214 [.ref b, .int p1, .int p2, .int p3] h 0 h') : xMetW l G0 Y D dA base (d + 1) yL_file cL_file 6 [(0, 12, 15, 25)] [.ref b, .int p1, .int p2, .int p3, .ref ao] h 1 h' := by
  refine x_wrT hpF hYz rfl (Nat.le_of_ble_eq_true rfl) kWo_file (pcc := 7) (idx := 79) (y := 214) (b := b) (as2 := [.int p1, .int p2, .int p3]) (rest := [.int 0, .ref ao]) (lv2 := lv_args 0 [.ref b, .int p1, .int p2, .int p3, .ref ao]) (h1 := h) ?_ rfl (by decide +kernel) ((by decide +kernel : xnargs 214 = 3).trans rfl) (Nat.le_of_ble_eq_true rfl) (by decide +kernel) hbc hX (by decide) [] [] { startPc := 0, endPc := 12, handlerPc := 15, catchType := 25 } rfl (fun z hz => by cases hz) (by decide +kernel) (by decide) wk_25 (fun q => ?_)
  · refine eQ_aload lw_file_0 (x := ao) rfl ?_
    refine eQ_iconst (v := 0) lw_file_2 (by decide) ?_
    refine eQ_aload_n lw_file_3 (x := b) rfl ?_
    refine eQ_iload_n lw_file_4 (x := p1) rfl ?_
    refine eQ_iload_n lw_file_5 (x := p2) rfl ?_
    refine eQ_iload_n lw_file_6 (x := p3) rfl ?_
    exact xQ_r
  · refine eE_astore lw_file_15 (by decide) rfl ?_
    refine eE_iconst (v := 1) lw_file_17 (by decide) ?_
    exact eE_end lw_file_18 rfl rfl rfl
def kW_key : xK := [(0, (.aload_n 3, 1)), (1, (.iconst 0, 1)), (2, (.aload_n 0, 1)), (3, (.iload_n 1, 1)), (4, (.iload_n 2, 1)), (5, (.invokevirtual 82, 3)), (8, (.i2l, 1)), (9, (.lastore, 1)), (10, (.goto 7, 3)), (13, (.astore 4, 2)), (15, (.iconst 1, 1)), (16, (.ireturn, 1)), (17, (.iconst 0, 1)), (18, (.ireturn, 1))]
theorem kWo_key : xKok cL_key kW_key := by unfold xKok; decide +kernel
theorem lw_key_0 : xAt kW_key 0 (.aload_n 3) 1 := ⟨1, rfl, Or.inr rfl, rfl⟩
theorem lw_key_1 : xAt kW_key 1 (.iconst 0) 2 := ⟨1, rfl, Or.inr rfl, rfl⟩
theorem lw_key_2 : xAt kW_key 2 (.aload_n 0) 3 := ⟨1, rfl, Or.inr rfl, rfl⟩
theorem lw_key_3 : xAt kW_key 3 (.iload_n 1) 4 := ⟨1, rfl, Or.inr rfl, rfl⟩
theorem lw_key_4 : xAt kW_key 4 (.iload_n 2) 5 := ⟨1, rfl, Or.inr rfl, rfl⟩
theorem lw_key_5 : xAt kW_key 5 (.invokevirtual 82) 8 := ⟨3, rfl, Or.inr rfl, rfl⟩
theorem lw_key_8 : xAt kW_key 8 (.i2l) 9 := ⟨1, rfl, Or.inr rfl, rfl⟩
theorem lw_key_9 : xAt kW_key 9 (.lastore) 10 := ⟨1, rfl, Or.inr rfl, rfl⟩
theorem lw_key_10 : xAt kW_key 10 (.goto 7) 13 := ⟨3, rfl, Or.inr rfl, rfl⟩
theorem lw_key_13 : xAt kW_key 13 (.astore 4) 15 := ⟨2, rfl, Or.inr rfl, rfl⟩
theorem lw_key_15 : xAt kW_key 15 (.iconst 1) 16 := ⟨1, rfl, Or.inr rfl, rfl⟩
theorem lw_key_16 : xAt kW_key 16 (.ireturn) 17 := ⟨1, rfl, Or.inr rfl, rfl⟩
theorem lw_key_17 : xAt kW_key 17 (.iconst 0) 18 := ⟨1, rfl, Or.inr rfl, rfl⟩
theorem lw_key_18 : xAt kW_key 18 (.ireturn) 19 := ⟨1, rfl, Or.inr rfl, rfl⟩
set_option maxRecDepth 100000 in
theorem wc_key : Jvm.Cond.codeWith yL_key cL_key 5 (some .int) [(0, 10, 13, 25)] ∈ xALL := xALL_g (xin_t10 _ (x_sub (big := tables_1_10) (ws := [.codeWith yL_key cL_key 5 (some .int) [(0, 10, 13, 25)]]) [29] rfl _ (List.mem_singleton.mpr rfl))) rfl
set_option maxRecDepth 100000 in
theorem wt_key : Jvm.Cond.static yL_key ∈ xALL := xALL_g (xin_t10 _ (x_sub (big := tables_1_10) (ws := [.static yL_key]) [28] rfl _ (List.mem_singleton.mpr rfl))) rfl
set_option maxRecDepth 100000 in
theorem wl_key : Jvm.Cond.methodLink "AgreedStoreLaw" 193 yL_key ∈ xALL := xALL_g (xin_t10 _ (x_sub (big := tables_1_10) (ws := [.methodLink "AgreedStoreLaw" 193 yL_key]) [27] rfl _ (List.mem_singleton.mpr rfl))) rfl
theorem wN_key {l : Launch} {G0 : Heap} {Y : State → Prop} {D : va_G} {dA : Nat → ClassId} {base d : Nat} {pF : Nat → List Value → xH → Option (Option Value × xH)} (hpF : ∀ d y as h r h', 4 ≤ d → pF y as h = some (r, h') → xMet l G0 Y D dA base (d + 1) y as h r h') {b : Nat} {p1 : Int32} {p2 : Int32} {ao : Nat} {h h' : xH} {v : Int32} (hao : (h'.1 ao).1 = 21 ∧ (h'.1 ao).2.1 = 1) (hbc : (xMn 223).cls = (xCl ((h.1 b).1 - 1)).1 ∧ 0 < (h.1 b).1 ∧ (h.1 b).1 ≤ 17) (hc : xCo pF d 223 [.ref b, .int p1, .int p2] h (some (.int v)) h') : xMetW l G0 Y D dA base (d + 1) yL_key cL_key 5 [(0, 10, 13, 25)] [.ref b, .int p1, .int p2, .ref ao] h 0 (xlst h' ao 0 v.toInt64) := by
  refine x_wrN hpF rfl (Nat.le_of_ble_eq_true rfl) kWo_key ?_
  refine eE_aload_n lw_key_0 (x := ao) rfl ?_
  refine eE_iconst (v := 0) lw_key_1 (by decide) ?_
  refine eE_aload_n lw_key_2 (x := b) rfl ?_
  refine eE_iload_n lw_key_3 (x := p1) rfl ?_
  refine eE_iload_n lw_key_4 (x := p2) rfl ?_
  refine eE_virt (b := b) (as := [.int p1, .int p2]) (n := 2) (r := (some (.int v))) lw_key_5 (by decide +kernel) (by decide +kernel) rfl rfl (Nat.le_of_ble_eq_true rfl) (by decide +kernel) hbc hc ?_
  refine eE_i2l lw_key_8 ?_
  refine eE_last (j := 0) lw_key_9 hao.1 (by rw [hao.2]; decide) (by decide) ?_
  refine eE_goto (t := 17) lw_key_10 (by decide) ?_
  refine eE_iconst (v := 0) lw_key_17 (by decide) ?_
  exact eE_end lw_key_18 rfl rfl rfl
theorem wT_key_0 {l : Launch} {G0 : Heap} {Y : State → Prop} {D : va_G} {dA : Nat → ClassId} {base d : Nat} {pF : Nat → List Value → xH → Option (Option Value × xH)} (hpF : ∀ d y as h r h', 4 ≤ d → pF y as h = some (r, h') → xMet l G0 Y D dA base (d + 1) y as h r h') (hYz : ∀ U, Y U → zY G0 base U) {b : Nat} {p1 : Int32} {p2 : Int32} {ao : Nat} {h h' : xH} (hbc : (xMn 223).cls = (xCl ((h.1 b).1 - 1)).1 ∧ 0 < (h.1 b).1 ∧ (h.1 b).1 ≤ 17) (hX : xMetX l G0 Y D dA base d 223 [.ref b, .int p1, .int p2] h 0 h') : xMetW l G0 Y D dA base (d + 1) yL_key cL_key 5 [(0, 10, 13, 25)] [.ref b, .int p1, .int p2, .ref ao] h 1 h' := by
  refine x_wrT hpF hYz rfl (Nat.le_of_ble_eq_true rfl) kWo_key (pcc := 5) (idx := 82) (y := 223) (b := b) (as2 := [.int p1, .int p2]) (rest := [.int 0, .ref ao]) (lv2 := lv_args 0 [.ref b, .int p1, .int p2, .ref ao]) (h1 := h) ?_ rfl (by decide +kernel) ((by decide +kernel : xnargs 223 = 2).trans rfl) (Nat.le_of_ble_eq_true rfl) (by decide +kernel) hbc hX (by decide) [] [] { startPc := 0, endPc := 10, handlerPc := 13, catchType := 25 } rfl (fun z hz => by cases hz) (by decide +kernel) (by decide) wk_25 (fun q => ?_)
  · refine eQ_aload_n lw_key_0 (x := ao) rfl ?_
    refine eQ_iconst (v := 0) lw_key_1 (by decide) ?_
    refine eQ_aload_n lw_key_2 (x := b) rfl ?_
    refine eQ_iload_n lw_key_3 (x := p1) rfl ?_
    refine eQ_iload_n lw_key_4 (x := p2) rfl ?_
    exact xQ_r
  · refine eE_astore lw_key_13 (by decide) rfl ?_
    refine eE_iconst (v := 1) lw_key_15 (by decide) ?_
    exact eE_end lw_key_16 rfl rfl rfl
def kW_value : xK := [(0, (.aload_n 3, 1)), (1, (.iconst 0, 1)), (2, (.aload_n 0, 1)), (3, (.iload_n 1, 1)), (4, (.iload_n 2, 1)), (5, (.invokevirtual 85, 3)), (8, (.i2l, 1)), (9, (.lastore, 1)), (10, (.goto 7, 3)), (13, (.astore 4, 2)), (15, (.iconst 1, 1)), (16, (.ireturn, 1)), (17, (.iconst 0, 1)), (18, (.ireturn, 1))]
theorem kWo_value : xKok cL_value kW_value := by unfold xKok; decide +kernel
theorem lw_value_0 : xAt kW_value 0 (.aload_n 3) 1 := ⟨1, rfl, Or.inr rfl, rfl⟩
theorem lw_value_1 : xAt kW_value 1 (.iconst 0) 2 := ⟨1, rfl, Or.inr rfl, rfl⟩
theorem lw_value_2 : xAt kW_value 2 (.aload_n 0) 3 := ⟨1, rfl, Or.inr rfl, rfl⟩
theorem lw_value_3 : xAt kW_value 3 (.iload_n 1) 4 := ⟨1, rfl, Or.inr rfl, rfl⟩
theorem lw_value_4 : xAt kW_value 4 (.iload_n 2) 5 := ⟨1, rfl, Or.inr rfl, rfl⟩
theorem lw_value_5 : xAt kW_value 5 (.invokevirtual 85) 8 := ⟨3, rfl, Or.inr rfl, rfl⟩
theorem lw_value_8 : xAt kW_value 8 (.i2l) 9 := ⟨1, rfl, Or.inr rfl, rfl⟩
theorem lw_value_9 : xAt kW_value 9 (.lastore) 10 := ⟨1, rfl, Or.inr rfl, rfl⟩
theorem lw_value_10 : xAt kW_value 10 (.goto 7) 13 := ⟨3, rfl, Or.inr rfl, rfl⟩
theorem lw_value_13 : xAt kW_value 13 (.astore 4) 15 := ⟨2, rfl, Or.inr rfl, rfl⟩
theorem lw_value_15 : xAt kW_value 15 (.iconst 1) 16 := ⟨1, rfl, Or.inr rfl, rfl⟩
theorem lw_value_16 : xAt kW_value 16 (.ireturn) 17 := ⟨1, rfl, Or.inr rfl, rfl⟩
theorem lw_value_17 : xAt kW_value 17 (.iconst 0) 18 := ⟨1, rfl, Or.inr rfl, rfl⟩
theorem lw_value_18 : xAt kW_value 18 (.ireturn) 19 := ⟨1, rfl, Or.inr rfl, rfl⟩
set_option maxRecDepth 100000 in
theorem wc_value : Jvm.Cond.codeWith yL_value cL_value 5 (some .int) [(0, 10, 13, 25)] ∈ xALL := xALL_g (xin_t10 _ (x_sub (big := tables_1_10) (ws := [.codeWith yL_value cL_value 5 (some .int) [(0, 10, 13, 25)]]) [44] rfl _ (List.mem_singleton.mpr rfl))) rfl
set_option maxRecDepth 100000 in
theorem wt_value : Jvm.Cond.static yL_value ∈ xALL := xALL_g (xin_t10 _ (x_sub (big := tables_1_10) (ws := [.static yL_value]) [43] rfl _ (List.mem_singleton.mpr rfl))) rfl
set_option maxRecDepth 100000 in
theorem wl_value : Jvm.Cond.methodLink "AgreedStoreLaw" 196 yL_value ∈ xALL := xALL_g (xin_t10 _ (x_sub (big := tables_1_10) (ws := [.methodLink "AgreedStoreLaw" 196 yL_value]) [42] rfl _ (List.mem_singleton.mpr rfl))) rfl
theorem wN_value {l : Launch} {G0 : Heap} {Y : State → Prop} {D : va_G} {dA : Nat → ClassId} {base d : Nat} {pF : Nat → List Value → xH → Option (Option Value × xH)} (hpF : ∀ d y as h r h', 4 ≤ d → pF y as h = some (r, h') → xMet l G0 Y D dA base (d + 1) y as h r h') {b : Nat} {p1 : Int32} {p2 : Int32} {ao : Nat} {h h' : xH} {v : Int32} (hao : (h'.1 ao).1 = 21 ∧ (h'.1 ao).2.1 = 1) (hbc : (xMn 239).cls = (xCl ((h.1 b).1 - 1)).1 ∧ 0 < (h.1 b).1 ∧ (h.1 b).1 ≤ 17) (hc : xCo pF d 239 [.ref b, .int p1, .int p2] h (some (.int v)) h') : xMetW l G0 Y D dA base (d + 1) yL_value cL_value 5 [(0, 10, 13, 25)] [.ref b, .int p1, .int p2, .ref ao] h 0 (xlst h' ao 0 v.toInt64) := by
  refine x_wrN hpF rfl (Nat.le_of_ble_eq_true rfl) kWo_value ?_
  refine eE_aload_n lw_value_0 (x := ao) rfl ?_
  refine eE_iconst (v := 0) lw_value_1 (by decide) ?_
  refine eE_aload_n lw_value_2 (x := b) rfl ?_
  refine eE_iload_n lw_value_3 (x := p1) rfl ?_
  refine eE_iload_n lw_value_4 (x := p2) rfl ?_
  refine eE_virt (b := b) (as := [.int p1, .int p2]) (n := 2) (r := (some (.int v))) lw_value_5 (by decide +kernel) (by decide +kernel) rfl rfl (Nat.le_of_ble_eq_true rfl) (by decide +kernel) hbc hc ?_
  refine eE_i2l lw_value_8 ?_
  refine eE_last (j := 0) lw_value_9 hao.1 (by rw [hao.2]; decide) (by decide) ?_
  refine eE_goto (t := 17) lw_value_10 (by decide) ?_
  refine eE_iconst (v := 0) lw_value_17 (by decide) ?_
  exact eE_end lw_value_18 rfl rfl rfl
theorem wT_value_0 {l : Launch} {G0 : Heap} {Y : State → Prop} {D : va_G} {dA : Nat → ClassId} {base d : Nat} {pF : Nat → List Value → xH → Option (Option Value × xH)} (hpF : ∀ d y as h r h', 4 ≤ d → pF y as h = some (r, h') → xMet l G0 Y D dA base (d + 1) y as h r h') (hYz : ∀ U, Y U → zY G0 base U) {b : Nat} {p1 : Int32} {p2 : Int32} {ao : Nat} {h h' : xH} (hbc : (xMn 239).cls = (xCl ((h.1 b).1 - 1)).1 ∧ 0 < (h.1 b).1 ∧ (h.1 b).1 ≤ 17) (hX : xMetX l G0 Y D dA base d 239 [.ref b, .int p1, .int p2] h 0 h') : xMetW l G0 Y D dA base (d + 1) yL_value cL_value 5 [(0, 10, 13, 25)] [.ref b, .int p1, .int p2, .ref ao] h 1 h' := by
  refine x_wrT hpF hYz rfl (Nat.le_of_ble_eq_true rfl) kWo_value (pcc := 5) (idx := 85) (y := 239) (b := b) (as2 := [.int p1, .int p2]) (rest := [.int 0, .ref ao]) (lv2 := lv_args 0 [.ref b, .int p1, .int p2, .ref ao]) (h1 := h) ?_ rfl (by decide +kernel) ((by decide +kernel : xnargs 239 = 2).trans rfl) (Nat.le_of_ble_eq_true rfl) (by decide +kernel) hbc hX (by decide) [] [] { startPc := 0, endPc := 10, handlerPc := 13, catchType := 25 } rfl (fun z hz => by cases hz) (by decide +kernel) (by decide) wk_25 (fun q => ?_)
  · refine eQ_aload_n lw_value_0 (x := ao) rfl ?_
    refine eQ_iconst (v := 0) lw_value_1 (by decide) ?_
    refine eQ_aload_n lw_value_2 (x := b) rfl ?_
    refine eQ_iload_n lw_value_3 (x := p1) rfl ?_
    refine eQ_iload_n lw_value_4 (x := p2) rfl ?_
    exact xQ_r
  · refine eE_astore lw_value_13 (by decide) rfl ?_
    refine eE_iconst (v := 1) lw_value_15 (by decide) ?_
    exact eE_end lw_value_16 rfl rfl rfl
def kW_message : xK := [(0, (.aload_n 3, 1)), (1, (.iconst 0, 1)), (2, (.aload_n 0, 1)), (3, (.iload_n 1, 1)), (4, (.iload_n 2, 1)), (5, (.invokevirtual 88, 3)), (8, (.i2l, 1)), (9, (.lastore, 1)), (10, (.goto 7, 3)), (13, (.astore 4, 2)), (15, (.iconst 1, 1)), (16, (.ireturn, 1)), (17, (.iconst 0, 1)), (18, (.ireturn, 1))]
theorem kWo_message : xKok cL_message kW_message := by unfold xKok; decide +kernel
theorem lw_message_0 : xAt kW_message 0 (.aload_n 3) 1 := ⟨1, rfl, Or.inr rfl, rfl⟩
theorem lw_message_1 : xAt kW_message 1 (.iconst 0) 2 := ⟨1, rfl, Or.inr rfl, rfl⟩
theorem lw_message_2 : xAt kW_message 2 (.aload_n 0) 3 := ⟨1, rfl, Or.inr rfl, rfl⟩
theorem lw_message_3 : xAt kW_message 3 (.iload_n 1) 4 := ⟨1, rfl, Or.inr rfl, rfl⟩
theorem lw_message_4 : xAt kW_message 4 (.iload_n 2) 5 := ⟨1, rfl, Or.inr rfl, rfl⟩
theorem lw_message_5 : xAt kW_message 5 (.invokevirtual 88) 8 := ⟨3, rfl, Or.inr rfl, rfl⟩
theorem lw_message_8 : xAt kW_message 8 (.i2l) 9 := ⟨1, rfl, Or.inr rfl, rfl⟩
theorem lw_message_9 : xAt kW_message 9 (.lastore) 10 := ⟨1, rfl, Or.inr rfl, rfl⟩
theorem lw_message_10 : xAt kW_message 10 (.goto 7) 13 := ⟨3, rfl, Or.inr rfl, rfl⟩
theorem lw_message_13 : xAt kW_message 13 (.astore 4) 15 := ⟨2, rfl, Or.inr rfl, rfl⟩
theorem lw_message_15 : xAt kW_message 15 (.iconst 1) 16 := ⟨1, rfl, Or.inr rfl, rfl⟩
theorem lw_message_16 : xAt kW_message 16 (.ireturn) 17 := ⟨1, rfl, Or.inr rfl, rfl⟩
theorem lw_message_17 : xAt kW_message 17 (.iconst 0) 18 := ⟨1, rfl, Or.inr rfl, rfl⟩
theorem lw_message_18 : xAt kW_message 18 (.ireturn) 19 := ⟨1, rfl, Or.inr rfl, rfl⟩
set_option maxRecDepth 100000 in
theorem wc_message : Jvm.Cond.codeWith yL_message cL_message 5 (some .int) [(0, 10, 13, 25)] ∈ xALL := xALL_g (xin_t10 _ (x_sub (big := tables_1_10) (ws := [.codeWith yL_message cL_message 5 (some .int) [(0, 10, 13, 25)]]) [55] rfl _ (List.mem_singleton.mpr rfl))) rfl
set_option maxRecDepth 100000 in
theorem wt_message : Jvm.Cond.static yL_message ∈ xALL := xALL_g (xin_t10 _ (x_sub (big := tables_1_10) (ws := [.static yL_message]) [54] rfl _ (List.mem_singleton.mpr rfl))) rfl
set_option maxRecDepth 100000 in
theorem wl_message : Jvm.Cond.methodLink "AgreedStoreLaw" 199 yL_message ∈ xALL := xALL_g (xin_t10 _ (x_sub (big := tables_1_10) (ws := [.methodLink "AgreedStoreLaw" 199 yL_message]) [53] rfl _ (List.mem_singleton.mpr rfl))) rfl
theorem wN_message {l : Launch} {G0 : Heap} {Y : State → Prop} {D : va_G} {dA : Nat → ClassId} {base d : Nat} {pF : Nat → List Value → xH → Option (Option Value × xH)} (hpF : ∀ d y as h r h', 4 ≤ d → pF y as h = some (r, h') → xMet l G0 Y D dA base (d + 1) y as h r h') {b : Nat} {p1 : Int32} {p2 : Int32} {ao : Nat} {h h' : xH} {v : Int32} (hao : (h'.1 ao).1 = 21 ∧ (h'.1 ao).2.1 = 1) (hbc : (xMn 229).cls = (xCl ((h.1 b).1 - 1)).1 ∧ 0 < (h.1 b).1 ∧ (h.1 b).1 ≤ 17) (hc : xCo pF d 229 [.ref b, .int p1, .int p2] h (some (.int v)) h') : xMetW l G0 Y D dA base (d + 1) yL_message cL_message 5 [(0, 10, 13, 25)] [.ref b, .int p1, .int p2, .ref ao] h 0 (xlst h' ao 0 v.toInt64) := by
  refine x_wrN hpF rfl (Nat.le_of_ble_eq_true rfl) kWo_message ?_
  refine eE_aload_n lw_message_0 (x := ao) rfl ?_
  refine eE_iconst (v := 0) lw_message_1 (by decide) ?_
  refine eE_aload_n lw_message_2 (x := b) rfl ?_
  refine eE_iload_n lw_message_3 (x := p1) rfl ?_
  refine eE_iload_n lw_message_4 (x := p2) rfl ?_
  refine eE_virt (b := b) (as := [.int p1, .int p2]) (n := 2) (r := (some (.int v))) lw_message_5 (by decide +kernel) (by decide +kernel) rfl rfl (Nat.le_of_ble_eq_true rfl) (by decide +kernel) hbc hc ?_
  refine eE_i2l lw_message_8 ?_
  refine eE_last (j := 0) lw_message_9 hao.1 (by rw [hao.2]; decide) (by decide) ?_
  refine eE_goto (t := 17) lw_message_10 (by decide) ?_
  refine eE_iconst (v := 0) lw_message_17 (by decide) ?_
  exact eE_end lw_message_18 rfl rfl rfl
theorem wT_message_0 {l : Launch} {G0 : Heap} {Y : State → Prop} {D : va_G} {dA : Nat → ClassId} {base d : Nat} {pF : Nat → List Value → xH → Option (Option Value × xH)} (hpF : ∀ d y as h r h', 4 ≤ d → pF y as h = some (r, h') → xMet l G0 Y D dA base (d + 1) y as h r h') (hYz : ∀ U, Y U → zY G0 base U) {b : Nat} {p1 : Int32} {p2 : Int32} {ao : Nat} {h h' : xH} (hbc : (xMn 229).cls = (xCl ((h.1 b).1 - 1)).1 ∧ 0 < (h.1 b).1 ∧ (h.1 b).1 ≤ 17) (hX : xMetX l G0 Y D dA base d 229 [.ref b, .int p1, .int p2] h 0 h') : xMetW l G0 Y D dA base (d + 1) yL_message cL_message 5 [(0, 10, 13, 25)] [.ref b, .int p1, .int p2, .ref ao] h 1 h' := by
  refine x_wrT hpF hYz rfl (Nat.le_of_ble_eq_true rfl) kWo_message (pcc := 5) (idx := 88) (y := 229) (b := b) (as2 := [.int p1, .int p2]) (rest := [.int 0, .ref ao]) (lv2 := lv_args 0 [.ref b, .int p1, .int p2, .ref ao]) (h1 := h) ?_ rfl (by decide +kernel) ((by decide +kernel : xnargs 229 = 2).trans rfl) (Nat.le_of_ble_eq_true rfl) (by decide +kernel) hbc hX (by decide) [] [] { startPc := 0, endPc := 10, handlerPc := 13, catchType := 25 } rfl (fun z hz => by cases hz) (by decide +kernel) (by decide) wk_25 (fun q => ?_)
  · refine eQ_aload_n lw_message_0 (x := ao) rfl ?_
    refine eQ_iconst (v := 0) lw_message_1 (by decide) ?_
    refine eQ_aload_n lw_message_2 (x := b) rfl ?_
    refine eQ_iload_n lw_message_3 (x := p1) rfl ?_
    refine eQ_iload_n lw_message_4 (x := p2) rfl ?_
    exact xQ_r
  · refine eE_astore lw_message_13 (by decide) rfl ?_
    refine eE_iconst (v := 1) lw_message_15 (by decide) ?_
    exact eE_end lw_message_16 rfl rfl rfl
def kW_client : xK := [(0, (.aload_n 3, 1)), (1, (.iconst 0, 1)), (2, (.aload_n 0, 1)), (3, (.iload_n 1, 1)), (4, (.iload_n 2, 1)), (5, (.invokevirtual 91, 3)), (8, (.i2l, 1)), (9, (.lastore, 1)), (10, (.goto 7, 3)), (13, (.astore 4, 2)), (15, (.iconst 1, 1)), (16, (.ireturn, 1)), (17, (.iconst 0, 1)), (18, (.ireturn, 1))]
theorem kWo_client : xKok cL_client kW_client := by unfold xKok; decide +kernel
theorem lw_client_0 : xAt kW_client 0 (.aload_n 3) 1 := ⟨1, rfl, Or.inr rfl, rfl⟩
theorem lw_client_1 : xAt kW_client 1 (.iconst 0) 2 := ⟨1, rfl, Or.inr rfl, rfl⟩
theorem lw_client_2 : xAt kW_client 2 (.aload_n 0) 3 := ⟨1, rfl, Or.inr rfl, rfl⟩
theorem lw_client_3 : xAt kW_client 3 (.iload_n 1) 4 := ⟨1, rfl, Or.inr rfl, rfl⟩
theorem lw_client_4 : xAt kW_client 4 (.iload_n 2) 5 := ⟨1, rfl, Or.inr rfl, rfl⟩
theorem lw_client_5 : xAt kW_client 5 (.invokevirtual 91) 8 := ⟨3, rfl, Or.inr rfl, rfl⟩
theorem lw_client_8 : xAt kW_client 8 (.i2l) 9 := ⟨1, rfl, Or.inr rfl, rfl⟩
theorem lw_client_9 : xAt kW_client 9 (.lastore) 10 := ⟨1, rfl, Or.inr rfl, rfl⟩
theorem lw_client_10 : xAt kW_client 10 (.goto 7) 13 := ⟨3, rfl, Or.inr rfl, rfl⟩
theorem lw_client_13 : xAt kW_client 13 (.astore 4) 15 := ⟨2, rfl, Or.inr rfl, rfl⟩
theorem lw_client_15 : xAt kW_client 15 (.iconst 1) 16 := ⟨1, rfl, Or.inr rfl, rfl⟩
theorem lw_client_16 : xAt kW_client 16 (.ireturn) 17 := ⟨1, rfl, Or.inr rfl, rfl⟩
theorem lw_client_17 : xAt kW_client 17 (.iconst 0) 18 := ⟨1, rfl, Or.inr rfl, rfl⟩
theorem lw_client_18 : xAt kW_client 18 (.ireturn) 19 := ⟨1, rfl, Or.inr rfl, rfl⟩
set_option maxRecDepth 100000 in
theorem wc_client : Jvm.Cond.codeWith yL_client cL_client 5 (some .int) [(0, 10, 13, 25)] ∈ xALL := xALL_g (xin_t10 _ (x_sub (big := tables_1_10) (ws := [.codeWith yL_client cL_client 5 (some .int) [(0, 10, 13, 25)]]) [64] rfl _ (List.mem_singleton.mpr rfl))) rfl
set_option maxRecDepth 100000 in
theorem wt_client : Jvm.Cond.static yL_client ∈ xALL := xALL_g (xin_t10 _ (x_sub (big := tables_1_10) (ws := [.static yL_client]) [63] rfl _ (List.mem_singleton.mpr rfl))) rfl
set_option maxRecDepth 100000 in
theorem wl_client : Jvm.Cond.methodLink "AgreedStoreLaw" 202 yL_client ∈ xALL := xALL_g (xin_t10 _ (x_sub (big := tables_1_10) (ws := [.methodLink "AgreedStoreLaw" 202 yL_client]) [62] rfl _ (List.mem_singleton.mpr rfl))) rfl
theorem wN_client {l : Launch} {G0 : Heap} {Y : State → Prop} {D : va_G} {dA : Nat → ClassId} {base d : Nat} {pF : Nat → List Value → xH → Option (Option Value × xH)} (hpF : ∀ d y as h r h', 4 ≤ d → pF y as h = some (r, h') → xMet l G0 Y D dA base (d + 1) y as h r h') {b : Nat} {p1 : Int32} {p2 : Int32} {ao : Nat} {h h' : xH} {v : Int32} (hao : (h'.1 ao).1 = 21 ∧ (h'.1 ao).2.1 = 1) (hbc : (xMn 207).cls = (xCl ((h.1 b).1 - 1)).1 ∧ 0 < (h.1 b).1 ∧ (h.1 b).1 ≤ 17) (hc : xCo pF d 207 [.ref b, .int p1, .int p2] h (some (.int v)) h') : xMetW l G0 Y D dA base (d + 1) yL_client cL_client 5 [(0, 10, 13, 25)] [.ref b, .int p1, .int p2, .ref ao] h 0 (xlst h' ao 0 v.toInt64) := by
  refine x_wrN hpF rfl (Nat.le_of_ble_eq_true rfl) kWo_client ?_
  refine eE_aload_n lw_client_0 (x := ao) rfl ?_
  refine eE_iconst (v := 0) lw_client_1 (by decide) ?_
  refine eE_aload_n lw_client_2 (x := b) rfl ?_
  refine eE_iload_n lw_client_3 (x := p1) rfl ?_
  refine eE_iload_n lw_client_4 (x := p2) rfl ?_
  refine eE_virt (b := b) (as := [.int p1, .int p2]) (n := 2) (r := (some (.int v))) lw_client_5 (by decide +kernel) (by decide +kernel) rfl rfl (Nat.le_of_ble_eq_true rfl) (by decide +kernel) hbc hc ?_
  refine eE_i2l lw_client_8 ?_
  refine eE_last (j := 0) lw_client_9 hao.1 (by rw [hao.2]; decide) (by decide) ?_
  refine eE_goto (t := 17) lw_client_10 (by decide) ?_
  refine eE_iconst (v := 0) lw_client_17 (by decide) ?_
  exact eE_end lw_client_18 rfl rfl rfl
theorem wT_client_0 {l : Launch} {G0 : Heap} {Y : State → Prop} {D : va_G} {dA : Nat → ClassId} {base d : Nat} {pF : Nat → List Value → xH → Option (Option Value × xH)} (hpF : ∀ d y as h r h', 4 ≤ d → pF y as h = some (r, h') → xMet l G0 Y D dA base (d + 1) y as h r h') (hYz : ∀ U, Y U → zY G0 base U) {b : Nat} {p1 : Int32} {p2 : Int32} {ao : Nat} {h h' : xH} (hbc : (xMn 207).cls = (xCl ((h.1 b).1 - 1)).1 ∧ 0 < (h.1 b).1 ∧ (h.1 b).1 ≤ 17) (hX : xMetX l G0 Y D dA base d 207 [.ref b, .int p1, .int p2] h 0 h') : xMetW l G0 Y D dA base (d + 1) yL_client cL_client 5 [(0, 10, 13, 25)] [.ref b, .int p1, .int p2, .ref ao] h 1 h' := by
  refine x_wrT hpF hYz rfl (Nat.le_of_ble_eq_true rfl) kWo_client (pcc := 5) (idx := 91) (y := 207) (b := b) (as2 := [.int p1, .int p2]) (rest := [.int 0, .ref ao]) (lv2 := lv_args 0 [.ref b, .int p1, .int p2, .ref ao]) (h1 := h) ?_ rfl (by decide +kernel) ((by decide +kernel : xnargs 207 = 2).trans rfl) (Nat.le_of_ble_eq_true rfl) (by decide +kernel) hbc hX (by decide) [] [] { startPc := 0, endPc := 10, handlerPc := 13, catchType := 25 } rfl (fun z hz => by cases hz) (by decide +kernel) (by decide) wk_25 (fun q => ?_)
  · refine eQ_aload_n lw_client_0 (x := ao) rfl ?_
    refine eQ_iconst (v := 0) lw_client_1 (by decide) ?_
    refine eQ_aload_n lw_client_2 (x := b) rfl ?_
    refine eQ_iload_n lw_client_3 (x := p1) rfl ?_
    refine eQ_iload_n lw_client_4 (x := p2) rfl ?_
    exact xQ_r
  · refine eE_astore lw_client_13 (by decide) rfl ?_
    refine eE_iconst (v := 1) lw_client_15 (by decide) ?_
    exact eE_end lw_client_16 rfl rfl rfl
def kW_answer : xK := [(0, (.aload_n 2, 1)), (1, (.iconst 0, 1)), (2, (.aload_n 0, 1)), (3, (.iload_n 1, 1)), (4, (.invokevirtual 94, 3)), (7, (.i2l, 1)), (8, (.lastore, 1)), (9, (.goto 6, 3)), (12, (.astore_n 3, 1)), (13, (.iconst 1, 1)), (14, (.ireturn, 1)), (15, (.iconst 0, 1)), (16, (.ireturn, 1))]
theorem kWo_answer : xKok cL_answer kW_answer := by unfold xKok; decide +kernel
theorem lw_answer_0 : xAt kW_answer 0 (.aload_n 2) 1 := ⟨1, rfl, Or.inr rfl, rfl⟩
theorem lw_answer_1 : xAt kW_answer 1 (.iconst 0) 2 := ⟨1, rfl, Or.inr rfl, rfl⟩
theorem lw_answer_2 : xAt kW_answer 2 (.aload_n 0) 3 := ⟨1, rfl, Or.inr rfl, rfl⟩
theorem lw_answer_3 : xAt kW_answer 3 (.iload_n 1) 4 := ⟨1, rfl, Or.inr rfl, rfl⟩
theorem lw_answer_4 : xAt kW_answer 4 (.invokevirtual 94) 7 := ⟨3, rfl, Or.inr rfl, rfl⟩
theorem lw_answer_7 : xAt kW_answer 7 (.i2l) 8 := ⟨1, rfl, Or.inr rfl, rfl⟩
theorem lw_answer_8 : xAt kW_answer 8 (.lastore) 9 := ⟨1, rfl, Or.inr rfl, rfl⟩
theorem lw_answer_9 : xAt kW_answer 9 (.goto 6) 12 := ⟨3, rfl, Or.inr rfl, rfl⟩
theorem lw_answer_12 : xAt kW_answer 12 (.astore_n 3) 13 := ⟨1, rfl, Or.inr rfl, rfl⟩
theorem lw_answer_13 : xAt kW_answer 13 (.iconst 1) 14 := ⟨1, rfl, Or.inr rfl, rfl⟩
theorem lw_answer_14 : xAt kW_answer 14 (.ireturn) 15 := ⟨1, rfl, Or.inr rfl, rfl⟩
theorem lw_answer_15 : xAt kW_answer 15 (.iconst 0) 16 := ⟨1, rfl, Or.inr rfl, rfl⟩
theorem lw_answer_16 : xAt kW_answer 16 (.ireturn) 17 := ⟨1, rfl, Or.inr rfl, rfl⟩
set_option maxRecDepth 100000 in
theorem wc_answer : Jvm.Cond.codeWith yL_answer cL_answer 4 (some .int) [(0, 9, 12, 25)] ∈ xALL := xALL_g (xin_t10 _ (x_sub (big := tables_1_10) (ws := [.codeWith yL_answer cL_answer 4 (some .int) [(0, 9, 12, 25)]]) [71] rfl _ (List.mem_singleton.mpr rfl))) rfl
set_option maxRecDepth 100000 in
theorem wt_answer : Jvm.Cond.static yL_answer ∈ xALL := xALL_g (xin_t10 _ (x_sub (big := tables_1_10) (ws := [.static yL_answer]) [70] rfl _ (List.mem_singleton.mpr rfl))) rfl
set_option maxRecDepth 100000 in
theorem wl_answer : Jvm.Cond.methodLink "AgreedStoreLaw" 205 yL_answer ∈ xALL := xALL_g (xin_t10 _ (x_sub (big := tables_1_10) (ws := [.methodLink "AgreedStoreLaw" 205 yL_answer]) [69] rfl _ (List.mem_singleton.mpr rfl))) rfl
theorem wN_answer {l : Launch} {G0 : Heap} {Y : State → Prop} {D : va_G} {dA : Nat → ClassId} {base d : Nat} {pF : Nat → List Value → xH → Option (Option Value × xH)} (hpF : ∀ d y as h r h', 4 ≤ d → pF y as h = some (r, h') → xMet l G0 Y D dA base (d + 1) y as h r h') {b : Nat} {p1 : Int32} {ao : Nat} {h h' : xH} {v : Int32} (hao : (h'.1 ao).1 = 21 ∧ (h'.1 ao).2.1 = 1) (hbc : (xMn 203).cls = (xCl ((h.1 b).1 - 1)).1 ∧ 0 < (h.1 b).1 ∧ (h.1 b).1 ≤ 17) (hc : xCo pF d 203 [.ref b, .int p1] h (some (.int v)) h') : xMetW l G0 Y D dA base (d + 1) yL_answer cL_answer 4 [(0, 9, 12, 25)] [.ref b, .int p1, .ref ao] h 0 (xlst h' ao 0 v.toInt64) := by
  refine x_wrN hpF rfl (Nat.le_of_ble_eq_true rfl) kWo_answer ?_
  refine eE_aload_n lw_answer_0 (x := ao) rfl ?_
  refine eE_iconst (v := 0) lw_answer_1 (by decide) ?_
  refine eE_aload_n lw_answer_2 (x := b) rfl ?_
  refine eE_iload_n lw_answer_3 (x := p1) rfl ?_
  refine eE_virt (b := b) (as := [.int p1]) (n := 1) (r := (some (.int v))) lw_answer_4 (by decide +kernel) (by decide +kernel) rfl rfl (Nat.le_of_ble_eq_true rfl) (by decide +kernel) hbc hc ?_
  refine eE_i2l lw_answer_7 ?_
  refine eE_last (j := 0) lw_answer_8 hao.1 (by rw [hao.2]; decide) (by decide) ?_
  refine eE_goto (t := 15) lw_answer_9 (by decide) ?_
  refine eE_iconst (v := 0) lw_answer_15 (by decide) ?_
  exact eE_end lw_answer_16 rfl rfl rfl
theorem wT_answer_0 {l : Launch} {G0 : Heap} {Y : State → Prop} {D : va_G} {dA : Nat → ClassId} {base d : Nat} {pF : Nat → List Value → xH → Option (Option Value × xH)} (hpF : ∀ d y as h r h', 4 ≤ d → pF y as h = some (r, h') → xMet l G0 Y D dA base (d + 1) y as h r h') (hYz : ∀ U, Y U → zY G0 base U) {b : Nat} {p1 : Int32} {ao : Nat} {h h' : xH} (hbc : (xMn 203).cls = (xCl ((h.1 b).1 - 1)).1 ∧ 0 < (h.1 b).1 ∧ (h.1 b).1 ≤ 17) (hX : xMetX l G0 Y D dA base d 203 [.ref b, .int p1] h 0 h') : xMetW l G0 Y D dA base (d + 1) yL_answer cL_answer 4 [(0, 9, 12, 25)] [.ref b, .int p1, .ref ao] h 1 h' := by
  refine x_wrT hpF hYz rfl (Nat.le_of_ble_eq_true rfl) kWo_answer (pcc := 4) (idx := 94) (y := 203) (b := b) (as2 := [.int p1]) (rest := [.int 0, .ref ao]) (lv2 := lv_args 0 [.ref b, .int p1, .ref ao]) (h1 := h) ?_ rfl (by decide +kernel) ((by decide +kernel : xnargs 203 = 1).trans rfl) (Nat.le_of_ble_eq_true rfl) (by decide +kernel) hbc hX (by decide) [] [] { startPc := 0, endPc := 9, handlerPc := 12, catchType := 25 } rfl (fun z hz => by cases hz) (by decide +kernel) (by decide) wk_25 (fun q => ?_)
  · refine eQ_aload_n lw_answer_0 (x := ao) rfl ?_
    refine eQ_iconst (v := 0) lw_answer_1 (by decide) ?_
    refine eQ_aload_n lw_answer_2 (x := b) rfl ?_
    refine eQ_iload_n lw_answer_3 (x := p1) rfl ?_
    exact xQ_r
  · refine eE_astore_n lw_answer_12 (by decide) rfl ?_
    refine eE_iconst (v := 1) lw_answer_13 (by decide) ?_
    exact eE_end lw_answer_14 rfl rfl rfl
def kW_history : xK := [(0, (.aload_n 3, 1)), (1, (.iconst 0, 1)), (2, (.aload_n 0, 1)), (3, (.iload_n 1, 1)), (4, (.iload_n 2, 1)), (5, (.invokevirtual 97, 3)), (8, (.i2l, 1)), (9, (.lastore, 1)), (10, (.goto 7, 3)), (13, (.astore 4, 2)), (15, (.iconst 1, 1)), (16, (.ireturn, 1)), (17, (.iconst 0, 1)), (18, (.ireturn, 1))]
theorem kWo_history : xKok cL_history kW_history := by unfold xKok; decide +kernel
theorem lw_history_0 : xAt kW_history 0 (.aload_n 3) 1 := ⟨1, rfl, Or.inr rfl, rfl⟩
theorem lw_history_1 : xAt kW_history 1 (.iconst 0) 2 := ⟨1, rfl, Or.inr rfl, rfl⟩
theorem lw_history_2 : xAt kW_history 2 (.aload_n 0) 3 := ⟨1, rfl, Or.inr rfl, rfl⟩
theorem lw_history_3 : xAt kW_history 3 (.iload_n 1) 4 := ⟨1, rfl, Or.inr rfl, rfl⟩
theorem lw_history_4 : xAt kW_history 4 (.iload_n 2) 5 := ⟨1, rfl, Or.inr rfl, rfl⟩
theorem lw_history_5 : xAt kW_history 5 (.invokevirtual 97) 8 := ⟨3, rfl, Or.inr rfl, rfl⟩
theorem lw_history_8 : xAt kW_history 8 (.i2l) 9 := ⟨1, rfl, Or.inr rfl, rfl⟩
theorem lw_history_9 : xAt kW_history 9 (.lastore) 10 := ⟨1, rfl, Or.inr rfl, rfl⟩
theorem lw_history_10 : xAt kW_history 10 (.goto 7) 13 := ⟨3, rfl, Or.inr rfl, rfl⟩
theorem lw_history_13 : xAt kW_history 13 (.astore 4) 15 := ⟨2, rfl, Or.inr rfl, rfl⟩
theorem lw_history_15 : xAt kW_history 15 (.iconst 1) 16 := ⟨1, rfl, Or.inr rfl, rfl⟩
theorem lw_history_16 : xAt kW_history 16 (.ireturn) 17 := ⟨1, rfl, Or.inr rfl, rfl⟩
theorem lw_history_17 : xAt kW_history 17 (.iconst 0) 18 := ⟨1, rfl, Or.inr rfl, rfl⟩
theorem lw_history_18 : xAt kW_history 18 (.ireturn) 19 := ⟨1, rfl, Or.inr rfl, rfl⟩
set_option maxRecDepth 100000 in
theorem wc_history : Jvm.Cond.codeWith yL_history cL_history 5 (some .int) [(0, 10, 13, 25)] ∈ xALL := xALL_g (xin_t10 _ (x_sub (big := tables_1_10) (ws := [.codeWith yL_history cL_history 5 (some .int) [(0, 10, 13, 25)]]) [79] rfl _ (List.mem_singleton.mpr rfl))) rfl
set_option maxRecDepth 100000 in
theorem wt_history : Jvm.Cond.static yL_history ∈ xALL := xALL_g (xin_t10 _ (x_sub (big := tables_1_10) (ws := [.static yL_history]) [78] rfl _ (List.mem_singleton.mpr rfl))) rfl
set_option maxRecDepth 100000 in
theorem wl_history : Jvm.Cond.methodLink "AgreedStoreLaw" 208 yL_history ∈ xALL := xALL_g (xin_t10 _ (x_sub (big := tables_1_10) (ws := [.methodLink "AgreedStoreLaw" 208 yL_history]) [77] rfl _ (List.mem_singleton.mpr rfl))) rfl
theorem wN_history {l : Launch} {G0 : Heap} {Y : State → Prop} {D : va_G} {dA : Nat → ClassId} {base d : Nat} {pF : Nat → List Value → xH → Option (Option Value × xH)} (hpF : ∀ d y as h r h', 4 ≤ d → pF y as h = some (r, h') → xMet l G0 Y D dA base (d + 1) y as h r h') {b : Nat} {p1 : Int32} {p2 : Int32} {ao : Nat} {h h' : xH} {v : Int32} (hao : (h'.1 ao).1 = 21 ∧ (h'.1 ao).2.1 = 1) (hbc : (xMn 218).cls = (xCl ((h.1 b).1 - 1)).1 ∧ 0 < (h.1 b).1 ∧ (h.1 b).1 ≤ 17) (hc : xCo pF d 218 [.ref b, .int p1, .int p2] h (some (.int v)) h') : xMetW l G0 Y D dA base (d + 1) yL_history cL_history 5 [(0, 10, 13, 25)] [.ref b, .int p1, .int p2, .ref ao] h 0 (xlst h' ao 0 v.toInt64) := by
  refine x_wrN hpF rfl (Nat.le_of_ble_eq_true rfl) kWo_history ?_
  refine eE_aload_n lw_history_0 (x := ao) rfl ?_
  refine eE_iconst (v := 0) lw_history_1 (by decide) ?_
  refine eE_aload_n lw_history_2 (x := b) rfl ?_
  refine eE_iload_n lw_history_3 (x := p1) rfl ?_
  refine eE_iload_n lw_history_4 (x := p2) rfl ?_
  refine eE_virt (b := b) (as := [.int p1, .int p2]) (n := 2) (r := (some (.int v))) lw_history_5 (by decide +kernel) (by decide +kernel) rfl rfl (Nat.le_of_ble_eq_true rfl) (by decide +kernel) hbc hc ?_
  refine eE_i2l lw_history_8 ?_
  refine eE_last (j := 0) lw_history_9 hao.1 (by rw [hao.2]; decide) (by decide) ?_
  refine eE_goto (t := 17) lw_history_10 (by decide) ?_
  refine eE_iconst (v := 0) lw_history_17 (by decide) ?_
  exact eE_end lw_history_18 rfl rfl rfl
theorem wT_history_0 {l : Launch} {G0 : Heap} {Y : State → Prop} {D : va_G} {dA : Nat → ClassId} {base d : Nat} {pF : Nat → List Value → xH → Option (Option Value × xH)} (hpF : ∀ d y as h r h', 4 ≤ d → pF y as h = some (r, h') → xMet l G0 Y D dA base (d + 1) y as h r h') (hYz : ∀ U, Y U → zY G0 base U) {b : Nat} {p1 : Int32} {p2 : Int32} {ao : Nat} {h h' : xH} (hbc : (xMn 218).cls = (xCl ((h.1 b).1 - 1)).1 ∧ 0 < (h.1 b).1 ∧ (h.1 b).1 ≤ 17) (hX : xMetX l G0 Y D dA base d 218 [.ref b, .int p1, .int p2] h 0 h') : xMetW l G0 Y D dA base (d + 1) yL_history cL_history 5 [(0, 10, 13, 25)] [.ref b, .int p1, .int p2, .ref ao] h 1 h' := by
  refine x_wrT hpF hYz rfl (Nat.le_of_ble_eq_true rfl) kWo_history (pcc := 5) (idx := 97) (y := 218) (b := b) (as2 := [.int p1, .int p2]) (rest := [.int 0, .ref ao]) (lv2 := lv_args 0 [.ref b, .int p1, .int p2, .ref ao]) (h1 := h) ?_ rfl (by decide +kernel) ((by decide +kernel : xnargs 218 = 2).trans rfl) (Nat.le_of_ble_eq_true rfl) (by decide +kernel) hbc hX (by decide) [] [] { startPc := 0, endPc := 10, handlerPc := 13, catchType := 25 } rfl (fun z hz => by cases hz) (by decide +kernel) (by decide) wk_25 (fun q => ?_)
  · refine eQ_aload_n lw_history_0 (x := ao) rfl ?_
    refine eQ_iconst (v := 0) lw_history_1 (by decide) ?_
    refine eQ_aload_n lw_history_2 (x := b) rfl ?_
    refine eQ_iload_n lw_history_3 (x := p1) rfl ?_
    refine eQ_iload_n lw_history_4 (x := p2) rfl ?_
    exact xQ_r
  · refine eE_astore lw_history_13 (by decide) rfl ?_
    refine eE_iconst (v := 1) lw_history_15 (by decide) ?_
    exact eE_end lw_history_16 rfl rfl rfl
def kW_byteAt : xK := [(0, (.aload_n 2, 1)), (1, (.iconst 0, 1)), (2, (.aload_n 0, 1)), (3, (.iload_n 1, 1)), (4, (.invokevirtual 100, 3)), (7, (.i2l, 1)), (8, (.lastore, 1)), (9, (.goto 6, 3)), (12, (.astore_n 3, 1)), (13, (.iconst 1, 1)), (14, (.ireturn, 1)), (15, (.iconst 0, 1)), (16, (.ireturn, 1))]
theorem kWo_byteAt : xKok cL_byteAt kW_byteAt := by unfold xKok; decide +kernel
theorem lw_byteAt_0 : xAt kW_byteAt 0 (.aload_n 2) 1 := ⟨1, rfl, Or.inr rfl, rfl⟩
theorem lw_byteAt_1 : xAt kW_byteAt 1 (.iconst 0) 2 := ⟨1, rfl, Or.inr rfl, rfl⟩
theorem lw_byteAt_2 : xAt kW_byteAt 2 (.aload_n 0) 3 := ⟨1, rfl, Or.inr rfl, rfl⟩
theorem lw_byteAt_3 : xAt kW_byteAt 3 (.iload_n 1) 4 := ⟨1, rfl, Or.inr rfl, rfl⟩
theorem lw_byteAt_4 : xAt kW_byteAt 4 (.invokevirtual 100) 7 := ⟨3, rfl, Or.inr rfl, rfl⟩
theorem lw_byteAt_7 : xAt kW_byteAt 7 (.i2l) 8 := ⟨1, rfl, Or.inr rfl, rfl⟩
theorem lw_byteAt_8 : xAt kW_byteAt 8 (.lastore) 9 := ⟨1, rfl, Or.inr rfl, rfl⟩
theorem lw_byteAt_9 : xAt kW_byteAt 9 (.goto 6) 12 := ⟨3, rfl, Or.inr rfl, rfl⟩
theorem lw_byteAt_12 : xAt kW_byteAt 12 (.astore_n 3) 13 := ⟨1, rfl, Or.inr rfl, rfl⟩
theorem lw_byteAt_13 : xAt kW_byteAt 13 (.iconst 1) 14 := ⟨1, rfl, Or.inr rfl, rfl⟩
theorem lw_byteAt_14 : xAt kW_byteAt 14 (.ireturn) 15 := ⟨1, rfl, Or.inr rfl, rfl⟩
theorem lw_byteAt_15 : xAt kW_byteAt 15 (.iconst 0) 16 := ⟨1, rfl, Or.inr rfl, rfl⟩
theorem lw_byteAt_16 : xAt kW_byteAt 16 (.ireturn) 17 := ⟨1, rfl, Or.inr rfl, rfl⟩
set_option maxRecDepth 100000 in
theorem wc_byteAt : Jvm.Cond.codeWith yL_byteAt cL_byteAt 4 (some .int) [(0, 9, 12, 25)] ∈ xALL := xALL_g (xin_t10 _ (x_sub (big := tables_1_10) (ws := [.codeWith yL_byteAt cL_byteAt 4 (some .int) [(0, 9, 12, 25)]]) [87] rfl _ (List.mem_singleton.mpr rfl))) rfl
set_option maxRecDepth 100000 in
theorem wt_byteAt : Jvm.Cond.static yL_byteAt ∈ xALL := xALL_g (xin_t10 _ (x_sub (big := tables_1_10) (ws := [.static yL_byteAt]) [86] rfl _ (List.mem_singleton.mpr rfl))) rfl
set_option maxRecDepth 100000 in
theorem wl_byteAt : Jvm.Cond.methodLink "AgreedStoreLaw" 211 yL_byteAt ∈ xALL := xALL_g (xin_t10 _ (x_sub (big := tables_1_10) (ws := [.methodLink "AgreedStoreLaw" 211 yL_byteAt]) [85] rfl _ (List.mem_singleton.mpr rfl))) rfl
theorem wN_byteAt {l : Launch} {G0 : Heap} {Y : State → Prop} {D : va_G} {dA : Nat → ClassId} {base d : Nat} {pF : Nat → List Value → xH → Option (Option Value × xH)} (hpF : ∀ d y as h r h', 4 ≤ d → pF y as h = some (r, h') → xMet l G0 Y D dA base (d + 1) y as h r h') {b : Nat} {p1 : Int32} {ao : Nat} {h h' : xH} {v : Int32} (hao : (h'.1 ao).1 = 21 ∧ (h'.1 ao).2.1 = 1) (hbc : (xMn 206).cls = (xCl ((h.1 b).1 - 1)).1 ∧ 0 < (h.1 b).1 ∧ (h.1 b).1 ≤ 17) (hc : xCo pF d 206 [.ref b, .int p1] h (some (.int v)) h') : xMetW l G0 Y D dA base (d + 1) yL_byteAt cL_byteAt 4 [(0, 9, 12, 25)] [.ref b, .int p1, .ref ao] h 0 (xlst h' ao 0 v.toInt64) := by
  refine x_wrN hpF rfl (Nat.le_of_ble_eq_true rfl) kWo_byteAt ?_
  refine eE_aload_n lw_byteAt_0 (x := ao) rfl ?_
  refine eE_iconst (v := 0) lw_byteAt_1 (by decide) ?_
  refine eE_aload_n lw_byteAt_2 (x := b) rfl ?_
  refine eE_iload_n lw_byteAt_3 (x := p1) rfl ?_
  refine eE_virt (b := b) (as := [.int p1]) (n := 1) (r := (some (.int v))) lw_byteAt_4 (by decide +kernel) (by decide +kernel) rfl rfl (Nat.le_of_ble_eq_true rfl) (by decide +kernel) hbc hc ?_
  refine eE_i2l lw_byteAt_7 ?_
  refine eE_last (j := 0) lw_byteAt_8 hao.1 (by rw [hao.2]; decide) (by decide) ?_
  refine eE_goto (t := 15) lw_byteAt_9 (by decide) ?_
  refine eE_iconst (v := 0) lw_byteAt_15 (by decide) ?_
  exact eE_end lw_byteAt_16 rfl rfl rfl
theorem wT_byteAt_0 {l : Launch} {G0 : Heap} {Y : State → Prop} {D : va_G} {dA : Nat → ClassId} {base d : Nat} {pF : Nat → List Value → xH → Option (Option Value × xH)} (hpF : ∀ d y as h r h', 4 ≤ d → pF y as h = some (r, h') → xMet l G0 Y D dA base (d + 1) y as h r h') (hYz : ∀ U, Y U → zY G0 base U) {b : Nat} {p1 : Int32} {ao : Nat} {h h' : xH} (hbc : (xMn 206).cls = (xCl ((h.1 b).1 - 1)).1 ∧ 0 < (h.1 b).1 ∧ (h.1 b).1 ≤ 17) (hX : xMetX l G0 Y D dA base d 206 [.ref b, .int p1] h 0 h') : xMetW l G0 Y D dA base (d + 1) yL_byteAt cL_byteAt 4 [(0, 9, 12, 25)] [.ref b, .int p1, .ref ao] h 1 h' := by
  refine x_wrT hpF hYz rfl (Nat.le_of_ble_eq_true rfl) kWo_byteAt (pcc := 4) (idx := 100) (y := 206) (b := b) (as2 := [.int p1]) (rest := [.int 0, .ref ao]) (lv2 := lv_args 0 [.ref b, .int p1, .ref ao]) (h1 := h) ?_ rfl (by decide +kernel) ((by decide +kernel : xnargs 206 = 1).trans rfl) (Nat.le_of_ble_eq_true rfl) (by decide +kernel) hbc hX (by decide) [] [] { startPc := 0, endPc := 9, handlerPc := 12, catchType := 25 } rfl (fun z hz => by cases hz) (by decide +kernel) (by decide) wk_25 (fun q => ?_)
  · refine eQ_aload_n lw_byteAt_0 (x := ao) rfl ?_
    refine eQ_iconst (v := 0) lw_byteAt_1 (by decide) ?_
    refine eQ_aload_n lw_byteAt_2 (x := b) rfl ?_
    refine eQ_iload_n lw_byteAt_3 (x := p1) rfl ?_
    exact xQ_r
  · refine eE_astore_n lw_byteAt_12 (by decide) rfl ?_
    refine eE_iconst (v := 1) lw_byteAt_13 (by decide) ?_
    exact eE_end lw_byteAt_14 rfl rfl rfl
