/-! the loop of the law (printed by wip/whole/gen_step.py) -/
def kH : xK := [(45, (.iload 4, 2)), (47, (.aload_n 0, 1)), (48, (.arraylength, 1)), (49, (.bipush 6, 2)), (51, (.isub, 1)), (52, (.if_icmp .gt 2101, 3)), (55, (.aload_n 0, 1)), (56, (.iload 4, 2)), (58, (.iaload, 1)), (59, (.bipush 31, 2)), (61, (.iand, 1)), (62, (.tableswitch 2085 0 28 #[130, 234, 290, 382, 445, 501, 514, 594, 650, 754, 841, 909, 1016, 1079, 1142, 1217, 1292, 1367, 1380, 1448, 1528, 1608, 1676, 1744, 1812, 1880, 1936, 2004, 2060], 130)), (2147, (.iinc 4 6, 3)), (2150, (.goto (-2105), 3)), (2153, (.iconst 1, 1)), (2154, (.ireturn, 1))]
theorem kHo : xKok cL_law kH := by unfold xKok; decide +kernel
theorem lh_45 : xAt kH 45 (.iload 4) 47 := ⟨2, rfl, Or.inr rfl, rfl⟩
theorem lh_47 : xAt kH 47 (.aload_n 0) 48 := ⟨1, rfl, Or.inr rfl, rfl⟩
theorem lh_48 : xAt kH 48 (.arraylength) 49 := ⟨1, rfl, Or.inr rfl, rfl⟩
theorem lh_49 : xAt kH 49 (.bipush 6) 51 := ⟨2, rfl, Or.inr rfl, rfl⟩
theorem lh_51 : xAt kH 51 (.isub) 52 := ⟨1, rfl, Or.inr rfl, rfl⟩
theorem lh_52 : xAt kH 52 (.if_icmp .gt 2101) 55 := ⟨3, rfl, Or.inr rfl, rfl⟩
theorem lh_55 : xAt kH 55 (.aload_n 0) 56 := ⟨1, rfl, Or.inr rfl, rfl⟩
theorem lh_56 : xAt kH 56 (.iload 4) 58 := ⟨2, rfl, Or.inr rfl, rfl⟩
theorem lh_58 : xAt kH 58 (.iaload) 59 := ⟨1, rfl, Or.inr rfl, rfl⟩
theorem lh_59 : xAt kH 59 (.bipush 31) 61 := ⟨2, rfl, Or.inr rfl, rfl⟩
theorem lh_61 : xAt kH 61 (.iand) 62 := ⟨1, rfl, Or.inr rfl, rfl⟩
theorem lh_62 : xAt kH 62 (.tableswitch 2085 0 28 #[130, 234, 290, 382, 445, 501, 514, 594, 650, 754, 841, 909, 1016, 1079, 1142, 1217, 1292, 1367, 1380, 1448, 1528, 1608, 1676, 1744, 1812, 1880, 1936, 2004, 2060]) 192 := ⟨130, rfl, Or.inl rfl, rfl⟩
theorem lh_2147 : xAt kH 2147 (.iinc 4 6) 2150 := ⟨3, rfl, Or.inr rfl, rfl⟩
theorem lh_2150 : xAt kH 2150 (.goto (-2105)) 2153 := ⟨3, rfl, Or.inr rfl, rfl⟩
theorem lh_2153 : xAt kH 2153 (.iconst 1) 2154 := ⟨1, rfl, Or.inr rfl, rfl⟩
theorem lh_2154 : xAt kH 2154 (.ireturn) 2155 := ⟨1, rfl, Or.inr rfl, rfl⟩
theorem l_ge6 {i L : Nat} (hi : i ≤ 4000) (hL : L ≤ 4000) : xc2 .gt (Int32.ofNat i) (Int32.ofNat L - 6) = true ↔ L < i + 6 := by
  have b : ∀ n : Nat, n ≤ 4000 → (Int32.ofNat n).toInt = n := fun n hn => by
    obtain ⟨n1, n2⟩ := y_ofn (n := n) (by omega)
    rw [x_ge0 n2, n1]
  have e : (Int32.ofNat L - 6).toInt = (L : Int) - 6 := by
    rw [Int32.toInt_sub, b L hL, show (6 : Int32).toInt = 6 from rfl]
    have : ((L : Int) - 6).bmod (2 ^ 32) = (L : Int) - 6 := by
      rw [Int.bmod_def]
      omega
    exact this
  show decide (Int32.ofNat L - 6 < Int32.ofNat i) = true ↔ _
  rw [decide_eq_true_iff, Int32.lt_iff_toInt_lt, e, b i hi]
  omega
theorem l_of : ∀ j : Nat, j < 29 → Int32.ofInt (0 + (j : Int)) = Int32.ofNat j := by decide
section LL
variable {pF : Nat → List Value → xH → Option (Option Value × xH)} {lv : xL} {b xa ma ao i L : Nat} {xs : Nat → Int32} {h : xH} {gg : xF}
theorem l_sw (hG : lwG lv b xa ma ao i) (hi : i + 6 ≤ L) (hL : L ≤ 3074) (hS : lwS h b L xs) (kk : True → xQ pF 31 kH 17 7 false gg (62, lv, [.int (xs (i + 0) &&& 31)], h)) : xQ pF 31 kH 17 7 false gg (55, lv, [], h) := by
  obtain ⟨n1, n2⟩ := y_ofn (n := i) (by omega)
  refine eQ_aload_n lh_55 hG.1 ?_
  refine eQ_iload lh_56 hG.2.2.2.2 ?_
  refine eQ_iald99 (j := i + 0) (x := xs (i + 0)) lh_58 hS.1 (fun z => z.elim n2 (fun z => by rw [n1, hS.2.1] at z; omega)) n1 (hS.2.2 _ (by omega)) ?_
  refine eQ_bipush (v := 31) lh_59 (by decide) ?_
  refine eQ_iand lh_61 ?_
  exact kk trivial
end LL
theorem lS_all {p : Program} {l : Launch} (hl : l.stackTraces = false) {e : Env} {s : State} {m : MethodId} {args : Array Value} {below : List Frame} {meth : Method} {cd : Code} {G0 : Heap} {Y : State → Prop} {D : va_G} {dA : Nat → ClassId} {base t0 u0 : Nat} {Q : State → Prop} {pF : Nat → List Value → xH → Option (Option Value × xH)} (C : lwC p l s m args cd G0 Y D dA base pF) (hYz : ∀ U, Y U → zY G0 base U) (hp0 : xNPc pF) (hp1 : xNP pF) (hF : lcF pF) {lv : xL} {B b aR ao eD i L : Nat} {xs : Nat → Int32} {x0 : Nat → Value} {σ : RS} {g : CG} {c : CS} {h : xH} (hLc : ∀ x0 σ, lcAll (lE B b L xs ao x0 aR σ eD) pF) (hp : lP b ao aR eD) (hG : lwG lv b B aR ao i) (hi : i + 6 ≤ L) (hL : L ≤ 3074) (hc : CRep (lE B b L xs ao x0 aR σ eD) g c h) (q0 : lwR base t0 u0 h) {c' : CS} {σ' : RS} (hs : fStep (fun j => xs (i + j)) c σ c' σ') (hb : (cT c').1 - t0 ≤ 600000 ∧ (cT c').2 - u0 ≤ 7200000)
    (kk : ∀ lv' g' x0' h', lwG lv' b B aR ao i → CRep (lE B b L xs ao x0' aR σ' eD) g' c' h' → lwR base t0 u0 h' → lwW p l e s m args below meth cd G0 D dA base t0 u0 Q 2147 lv' [] h') : lwW p l e s m args below meth cd G0 D dA base t0 u0 Q 55 lv [] h := by
  have hS := l_S hp hc
  rcases hs with ⟨e1, hs⟩ | ⟨e1, hs⟩ | ⟨e1, hs⟩ | ⟨e1, hs⟩ | ⟨e1, hs⟩ | ⟨e1, hs⟩ | ⟨e1, hs⟩ | ⟨e1, hs⟩ | ⟨e1, hs⟩ | ⟨e1, hs⟩ | ⟨e1, hs⟩ | ⟨e1, hs⟩ | ⟨e1, hs⟩ | ⟨e1, hs⟩ | ⟨e1, hs⟩ | ⟨e1, hs⟩ | ⟨e1, hs⟩ | ⟨e1, hs⟩ | ⟨e1, hs⟩ | ⟨e1, hs⟩ | ⟨e1, hs⟩ | ⟨e1, hs⟩ | ⟨e1, hs⟩ | ⟨e1, hs⟩ | ⟨e1, hs⟩ | ⟨e1, hs⟩ | ⟨e1, hs⟩ | ⟨e1, hs⟩ | ⟨e1, hs⟩ | ⟨hn, rfl, rfl⟩
  · refine lwQ1 C kHo (f := (55, lv, [], h)) (g := (192, lv, [], h)) (l_sw hG hi hL hS (fun q => ?_)) q0 q0 (lS_feed hl C hYz hp0 hp1 hF hLc hp hG hi hL hc q0 hs hb kk)
    rw [e1]
    exact eQ_tsw (t := 192) (off := 130) lh_62 (by decide) (by rfl) (by decide) xQ_r
  · refine lwQ1 C kHo (f := (55, lv, [], h)) (g := (296, lv, [], h)) (l_sw hG hi hL hS (fun q => ?_)) q0 q0 (lS_end hl C hYz hp0 hp1 hF hLc hp hG hi hL hc q0 hs hb kk)
    rw [e1]
    exact eQ_tsw (t := 296) (off := 234) lh_62 (by decide) (by rfl) (by decide) xQ_r
  · refine lwQ1 C kHo (f := (55, lv, [], h)) (g := (352, lv, [], h)) (l_sw hG hi hL hS (fun q => ?_)) q0 q0 (lS_ask hl C hYz hp0 hp1 hF hLc hp hG hi hL hc q0 hs hb kk)
    rw [e1]
    exact eQ_tsw (t := 352) (off := 290) lh_62 (by decide) (by rfl) (by decide) xQ_r
  · refine lwQ1 C kHo (f := (55, lv, [], h)) (g := (444, lv, [], h)) (l_sw hG hi hL hS (fun q => ?_)) q0 q0 (lS_giveUp hl C hYz hp0 hp1 hF hLc hp hG hi hL hc q0 hs hb kk)
    rw [e1]
    exact eQ_tsw (t := 444) (off := 382) lh_62 (by decide) (by rfl) (by decide) xQ_r
  · refine lwQ1 C kHo (f := (55, lv, [], h)) (g := (507, lv, [], h)) (l_sw hG hi hL hS (fun q => ?_)) q0 q0 (lS_run hl C hYz hp0 hp1 hF hLc hp hG hi hL hc q0 hs hb kk)
    rw [e1]
    exact eQ_tsw (t := 507) (off := 445) lh_62 (by decide) (by rfl) (by decide) xQ_r
  · refine lwQ1 C kHo (f := (55, lv, [], h)) (g := (563, lv, [], h)) (l_sw hG hi hL hS (fun q => ?_)) q0 q0 (lS_step hl C hYz hp0 hp1 hF hLc hp hG hi hL hc q0 hs hb kk)
    rw [e1]
    exact eQ_tsw (t := 563) (off := 501) lh_62 (by decide) (by rfl) (by decide) xQ_r
  · refine lwQ1 C kHo (f := (55, lv, [], h)) (g := (576, lv, [], h)) (l_sw hG hi hL hS (fun q => ?_)) q0 q0 (lS_delay hl C hYz hp0 hp1 hF hLc hp hG hi hL hc q0 hs hb kk)
    rw [e1]
    exact eQ_tsw (t := 576) (off := 514) lh_62 (by decide) (by rfl) (by decide) xQ_r
  · refine lwQ1 C kHo (f := (55, lv, [], h)) (g := (656, lv, [], h)) (l_sw hG hi hL hS (fun q => ?_)) q0 q0 (lS_part hl C hYz hp0 hp1 hF hLc hp hG hi hL hc q0 hs hb kk)
    rw [e1]
    exact eQ_tsw (t := 656) (off := 594) lh_62 (by decide) (by rfl) (by decide) xQ_r
  · refine lwQ1 C kHo (f := (55, lv, [], h)) (g := (712, lv, [], h)) (l_sw hG hi hL hS (fun q => ?_)) q0 q0 (lS_noise hl C hYz hp0 hp1 hF hLc hp hG hi hL hc q0 hs hb kk)
    rw [e1]
    exact eQ_tsw (t := 712) (off := 650) lh_62 (by decide) (by rfl) (by decide) xQ_r
  · refine lwQ1 C kHo (f := (55, lv, [], h)) (g := (816, lv, [], h)) (l_sw hG hi hL hS (fun q => ?_)) q0 q0 (lS_meddle hl C hYz hp0 hp1 hF hLc hp hG hi hL hc q0 hs hb kk)
    rw [e1]
    exact eQ_tsw (t := 816) (off := 754) lh_62 (by decide) (by rfl) (by decide) xQ_r
  · refine lwQ1 C kHo (f := (55, lv, [], h)) (g := (903, lv, [], h)) (l_sw hG hi hL hS (fun q => ?_)) q0 q0 (lS_latency hl C hYz hp0 hp1 hF hLc hp hG hi hL hc q0 hs hb kk)
    rw [e1]
    exact eQ_tsw (t := 903) (off := 841) lh_62 (by decide) (by rfl) (by decide) xQ_r
  · refine lwQ1 C kHo (f := (55, lv, [], h)) (g := (971, lv, [], h)) (l_sw hG hi hL hS (fun q => ?_)) q0 q0 (lS_crash hl C hYz hp0 hp1 hF hLc hp hG hi hL hc q0 hs hb kk)
    rw [e1]
    exact eQ_tsw (t := 971) (off := 909) lh_62 (by decide) (by rfl) (by decide) xQ_r
  · refine lwQ1 C kHo (f := (55, lv, [], h)) (g := (1078, lv, [], h)) (l_sw hG hi hL hS (fun q => ?_)) q0 q0 (lS_stop hl C hYz hp0 hp1 hF hLc hp hG hi hL hc q0 hs hb kk)
    rw [e1]
    exact eQ_tsw (t := 1078) (off := 1016) lh_62 (by decide) (by rfl) (by decide) xQ_r
  · refine lwQ1 C kHo (f := (55, lv, [], h)) (g := (1141, lv, [], h)) (l_sw hG hi hL hS (fun q => ?_)) q0 q0 (lS_start hl C hYz hp0 hp1 hF hLc hp hG hi hL hc q0 hs hb kk)
    rw [e1]
    exact eQ_tsw (t := 1141) (off := 1079) lh_62 (by decide) (by rfl) (by decide) xQ_r
  · refine lwQ1 C kHo (f := (55, lv, [], h)) (g := (1204, lv, [], h)) (l_sw hG hi hL hS (fun q => ?_)) q0 q0 (lS_members hl C hYz hp0 hp1 hF hLc hp hG hi hL hc q0 hs hb kk)
    rw [e1]
    exact eQ_tsw (t := 1204) (off := 1142) lh_62 (by decide) (by rfl) (by decide) xQ_r
  · refine lwQ1 C kHo (f := (55, lv, [], h)) (g := (1279, lv, [], h)) (l_sw hG hi hL hS (fun q => ?_)) q0 q0 (lS_learners hl C hYz hp0 hp1 hF hLc hp hG hi hL hc q0 hs hb kk)
    rw [e1]
    exact eQ_tsw (t := 1279) (off := 1217) lh_62 (by decide) (by rfl) (by decide) xQ_r
  · refine lwQ1 C kHo (f := (55, lv, [], h)) (g := (1354, lv, [], h)) (l_sw hG hi hL hS (fun q => ?_)) q0 q0 (lS_hand hl C hYz hp0 hp1 hF hLc hp hG hi hL hc q0 hs hb kk)
    rw [e1]
    exact eQ_tsw (t := 1354) (off := 1292) lh_62 (by decide) (by rfl) (by decide) xQ_r
  · refine lwQ1 C kHo (f := (55, lv, [], h)) (g := (1429, lv, [], h)) (l_sw hG hi hL hS (fun q => ?_)) q0 q0 (lS_now hl C hYz hp0 hp1 hF hLc hp hG hi hL hc q0 hs hb kk)
    rw [e1]
    exact eQ_tsw (t := 1429) (off := 1367) lh_62 (by decide) (by rfl) (by decide) xQ_r
  · refine lwQ1 C kHo (f := (55, lv, [], h)) (g := (1442, lv, [], h)) (l_sw hG hi hL hS (fun q => ?_)) q0 q0 (lS_server hl C hYz hp0 hp1 hF hLc hp hG hi hL hc q0 hs hb kk)
    rw [e1]
    exact eQ_tsw (t := 1442) (off := 1380) lh_62 (by decide) (by rfl) (by decide) xQ_r
  · refine lwQ1 C kHo (f := (55, lv, [], h)) (g := (1510, lv, [], h)) (l_sw hG hi hL hS (fun q => ?_)) q0 q0 (lS_entry hl C hYz hp0 hp1 hF hLc hp hG hi hL hc q0 hs hb kk)
    rw [e1]
    exact eQ_tsw (t := 1510) (off := 1448) lh_62 (by decide) (by rfl) (by decide) xQ_r
  · refine lwQ1 C kHo (f := (55, lv, [], h)) (g := (1590, lv, [], h)) (l_sw hG hi hL hS (fun q => ?_)) q0 q0 (lS_file hl C hYz hp0 hp1 hF hLc hp hG hi hL hc q0 hs hb kk)
    rw [e1]
    exact eQ_tsw (t := 1590) (off := 1528) lh_62 (by decide) (by rfl) (by decide) xQ_r
  · refine lwQ1 C kHo (f := (55, lv, [], h)) (g := (1670, lv, [], h)) (l_sw hG hi hL hS (fun q => ?_)) q0 q0 (lS_key hl C hYz hp0 hp1 hF hLc hp hG hi hL hc q0 hs hb kk)
    rw [e1]
    exact eQ_tsw (t := 1670) (off := 1608) lh_62 (by decide) (by rfl) (by decide) xQ_r
  · refine lwQ1 C kHo (f := (55, lv, [], h)) (g := (1738, lv, [], h)) (l_sw hG hi hL hS (fun q => ?_)) q0 q0 (lS_value hl C hYz hp0 hp1 hF hLc hp hG hi hL hc q0 hs hb kk)
    rw [e1]
    exact eQ_tsw (t := 1738) (off := 1676) lh_62 (by decide) (by rfl) (by decide) xQ_r
  · refine lwQ1 C kHo (f := (55, lv, [], h)) (g := (1806, lv, [], h)) (l_sw hG hi hL hS (fun q => ?_)) q0 q0 (lS_message hl C hYz hp0 hp1 hF hLc hp hG hi hL hc q0 hs hb kk)
    rw [e1]
    exact eQ_tsw (t := 1806) (off := 1744) lh_62 (by decide) (by rfl) (by decide) xQ_r
  · refine lwQ1 C kHo (f := (55, lv, [], h)) (g := (1874, lv, [], h)) (l_sw hG hi hL hS (fun q => ?_)) q0 q0 (lS_client hl C hYz hp0 hp1 hF hLc hp hG hi hL hc q0 hs hb kk)
    rw [e1]
    exact eQ_tsw (t := 1874) (off := 1812) lh_62 (by decide) (by rfl) (by decide) xQ_r
  · refine lwQ1 C kHo (f := (55, lv, [], h)) (g := (1942, lv, [], h)) (l_sw hG hi hL hS (fun q => ?_)) q0 q0 (lS_answer hl C hYz hp0 hp1 hF hLc hp hG hi hL hc q0 hs hb kk)
    rw [e1]
    exact eQ_tsw (t := 1942) (off := 1880) lh_62 (by decide) (by rfl) (by decide) xQ_r
  · refine lwQ1 C kHo (f := (55, lv, [], h)) (g := (1998, lv, [], h)) (l_sw hG hi hL hS (fun q => ?_)) q0 q0 (lS_history hl C hYz hp0 hp1 hF hLc hp hG hi hL hc q0 hs hb kk)
    rw [e1]
    exact eQ_tsw (t := 1998) (off := 1936) lh_62 (by decide) (by rfl) (by decide) xQ_r
  · refine lwQ1 C kHo (f := (55, lv, [], h)) (g := (2066, lv, [], h)) (l_sw hG hi hL hS (fun q => ?_)) q0 q0 (lS_byteAt hl C hYz hp0 hp1 hF hLc hp hG hi hL hc q0 hs hb kk)
    rw [e1]
    exact eQ_tsw (t := 2066) (off := 2004) lh_62 (by decide) (by rfl) (by decide) xQ_r
  · refine lwQ1 C kHo (f := (55, lv, [], h)) (g := (2122, lv, [], h)) (l_sw hG hi hL hS (fun q => ?_)) q0 q0 (lS_count hl C hYz hp0 hp1 hF hLc hp hG hi hL hc q0 hs hb kk)
    rw [e1]
    exact eQ_tsw (t := 2122) (off := 2060) lh_62 (by decide) (by rfl) (by decide) xQ_r
  · refine lwQ1 C kHo (f := (55, lv, [], h)) (g := (2147, lv, [], h)) (l_sw hG hi hL hS (fun q => ?_)) q0 q0 (kk lv g x0 h hG hc q0)
    exact eQ_tswD (t := 2147) lh_62 (xsw_out (n := 29) (fun j hj => by rw [l_of j hj]; exact hn j hj)) (by decide) xQ_r
theorem l_loop {p : Program} {l : Launch} (hl : l.stackTraces = false) {e : Env} {s : State} {m : MethodId} {args : Array Value} {below : List Frame} {meth : Method} {cd : Code} {G0 : Heap} {Y : State → Prop} {D : va_G} {dA : Nat → ClassId} {base t0 u0 : Nat} {Q : State → Prop} {pF : Nat → List Value → xH → Option (Option Value × xH)} (C : lwC p l s m args cd G0 Y D dA base pF) (hYz : ∀ U, Y U → zY G0 base U) (hp0 : xNPc pF) (hp1 : xNP pF) (hF : lcF pF) {B b aR ao eD L : Nat} {xs : Nat → Int32} (hLc : ∀ x0 σ, lcAll (lE B b L xs ao x0 aR σ eD) pF) (hp : lP b ao aR eD) (hL : L ≤ 3074) {J : Nat → CS → RS → Prop} (hJ : ∀ n c σ, n < 512 → J n c σ → ∃ c' σ', fStep (fun j => xs (2 + 6 * n + j)) c σ c' σ' ∧ J (n + 1) c' σ' ∧ (cT c').1 - t0 ≤ 600000 ∧ (cT c').2 - u0 ≤ 7200000)
    (hend : ∀ lv h, lwR base t0 u0 h → lwW p l e s m args below meth cd G0 D dA base t0 u0 Q 2154 lv [.int 1] h) : ∀ (k n : Nat), n + k = 512 → ∀ (lv : xL) (x0 : Nat → Value) (σ : RS) (g : CG) (c : CS) (h : xH), lwG lv b B aR ao (2 + 6 * n) → CRep (lE B b L xs ao x0 aR σ eD) g c h → lwR base t0 u0 h → J n c σ → lwW p l e s m args below meth cd G0 D dA base t0 u0 Q 45 lv [] h := by
  intro k
  induction k with
  | zero =>
    intro n hn lv x0 σ g c h hG hc q0 hj
    have hS := l_S hp hc
    refine lwQ1 C kHo (f := (45, lv, [], h)) (g := (2154, lv, [.int 1], h)) ?_ q0 q0 (hend lv h q0)
    refine eQ_iload lh_45 hG.2.2.2.2 ?_
    refine eQ_aload_n lh_47 hG.1 ?_
    refine eQ_alen lh_48 (by rw [hS.1]; decide) ?_
    rw [hS.2.1]
    refine eQ_bipush (v := 6) lh_49 (by decide) ?_
    refine eQ_isub lh_51 ?_
    refine eQ_icmp (t := 2153) lh_52 (by decide) (fun _ => ?_) (fun q => absurd ((l_ge6 (i := 2 + 6 * n) (L := L) (by omega) (by omega)).mpr (by omega)) q)
    refine eQ_iconst (v := 1) lh_2153 (by decide) ?_
    exact xQ_r
  | succ k ih =>
    intro n hn lv x0 σ g c h hG hc q0 hj
    have hS := l_S hp hc
    by_cases hq : L < 2 + 6 * n + 6
    · refine lwQ1 C kHo (f := (45, lv, [], h)) (g := (2154, lv, [.int 1], h)) ?_ q0 q0 (hend lv h q0)
      refine eQ_iload lh_45 hG.2.2.2.2 ?_
      refine eQ_aload_n lh_47 hG.1 ?_
      refine eQ_alen lh_48 (by rw [hS.1]; decide) ?_
      rw [hS.2.1]
      refine eQ_bipush (v := 6) lh_49 (by decide) ?_
      refine eQ_isub lh_51 ?_
      refine eQ_icmp (t := 2153) lh_52 (by decide) (fun _ => ?_) (fun q => absurd ((l_ge6 (i := 2 + 6 * n) (L := L) (by omega) (by omega)).mpr hq) q)
      refine eQ_iconst (v := 1) lh_2153 (by decide) ?_
      exact xQ_r
    · have hi : 2 + 6 * n + 6 ≤ L := by omega
      refine lwQ1 C kHo (f := (45, lv, [], h)) (g := (55, lv, [], h)) ?_ q0 q0 ?_
      · refine eQ_iload lh_45 hG.2.2.2.2 ?_
        refine eQ_aload_n lh_47 hG.1 ?_
        refine eQ_alen lh_48 (by rw [hS.1]; decide) ?_
        rw [hS.2.1]
        refine eQ_bipush (v := 6) lh_49 (by decide) ?_
        refine eQ_isub lh_51 ?_
        refine eQ_icmp (t := 2153) lh_52 (by decide) (fun q => absurd ((l_ge6 (i := 2 + 6 * n) (L := L) (by omega) (by omega)).mp q) hq) (fun _ => ?_)
        exact xQ_r
      · obtain ⟨c', σ', hs, hj', hb⟩ := hJ n c σ (by omega) hj
        refine lS_all hl C hYz hp0 hp1 hF hLc hp hG hi hL hc q0 hs hb (fun lv' g' x0' h' hG' hc' q1 => ?_)
        refine lwQ1 C kHo (f := (2147, lv', [], h')) (g := (45, xs1 4 (.int (Int32.ofNat (2 + 6 * (n + 1)))) lv', [], h')) ?_ q1 q1 (ih (n + 1) (by omega) _ _ _ _ _ _ ?_ hc' q1 hj')
        · refine eQ_iinc (v := Int32.ofNat (2 + 6 * (n + 1))) lh_2147 hG'.2.2.2.2 ?_ (by decide) rfl ?_
          · rw [show 2 + 6 * (n + 1) = 2 + 6 * n + 6 by omega]
            exact y_add (x := 2 + 6 * n) (y := 6)
          refine eQ_goto (t := 45) lh_2150 (by decide) ?_
          exact xQ_r
        · exact ⟨xs1_keep.2 0 _ (by decide) (fun _ => rfl) hG'.1, xs1_keep.2 1 _ (by decide) (fun _ => rfl) hG'.2.1, xs1_keep.2 2 _ (by decide) (fun _ => rfl) hG'.2.2.1, xs1_keep.2 3 _ (by decide) (fun _ => rfl) hG'.2.2.2.1, xs1_keep.1⟩
