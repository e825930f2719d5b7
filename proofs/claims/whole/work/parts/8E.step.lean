/-! a step of the law over both memories (printed by wip/whole/gen_step.py) -/
/-- a long out of two numbers -/
abbrev lJ (x y : Int32) : Int64 := (((((x).toInt64) <<< (((32 : Int32)).toInt64 &&& 63))) ||| ((((y).toInt64) &&& ((4294967295 : Int64)))))
theorem xCo_mono {l : Launch} {G0 : Heap} {Y : State → Prop} {D : va_G} {dA : Nat → ClassId} {base d y : Nat} {pF : Nat → List Value → xH → Option (Option Value × xH)} (hcF : ∀ {F : Nat} (y : Nat) (as : List Value) (h : xH) (r : Option Value) (h' : xH), xcall pF kkA moA F d y as h = some (r, h') → xMet l G0 Y D dA base d y as h r h') {as : List Value} {h h' : xH} {r : Option Value} (hc : xCo pF d y as h r h') : xMono h h' := by
  obtain ⟨N, hN⟩ := hc
  obtain ⟨_, _, _, _, _, h1, h2, _⟩ := hcF (F := N) y as h r h' (hN N (Nat.le_refl _))
  exact ⟨h1, h2⟩
section LB
variable {B b L : Nat} {xs : Nat → Int32} {ao : Nat} {x0 : Nat → Value} {aR : Nat} {σ : RS} {eD : Nat} {g : CG} {c : CS} {h : xH}
theorem l_bc (hp : lP b ao aR eD) (hc : CRep (lE B b L xs ao x0 aR σ eD) g c h) {y : Nat} (hy : (xMn y).cls = "AgreedStoreModel") : (xMn y).cls = (xCl ((h.1 aR).1 - 1)).1 ∧ 0 < (h.1 aR).1 ∧ (h.1 aR).1 ≤ 17 := by
  rw [l_ma hp hc, hy]
  exact ⟨rfl, by decide, by decide⟩
theorem l_R {base t0 u0 : Nat} {h1 : xH} (q0 : lwR base t0 u0 h) (m1 : h.2.1 ≤ h1.2.1) (m2 : h.2.2 ≤ h1.2.2) {E : CE} (hc : CRep E g c h1) (hb : (cT c).1 - t0 ≤ 600000 ∧ (cT c).2 - u0 ≤ 7200000) : lwR base t0 u0 h1 := by
  have e := hc.2.2.2.1
  obtain ⟨q1, q2, q3, -, -⟩ := q0
  rw [← e] at hb
  exact ⟨by omega, by omega, by omega, hb.1, hb.2⟩
end LB
def s_feed (c : CS) (σ : RS) (p1 : Int32) (p2 : Int32) (p3 : Int32) (p4 : Int32) (p5 : Int32) (c' : CS) (σ' : RS) : Prop :=
  (∃ (F Fm : Nat) (v : Int32) (σ1 : RS), k_Face_feed F c 0 p1 p2 p3 p4 p5 = some (v, c') ∧ m_feed Fm σ p1 p2 p3 p4 p5 = some (v, σ1) ∧ m_thrown σ1 = some (0, σ')) ∨
  (∃ (F Fm : Nat) (cf : CS) (v : Int32) (σ1 : RS), k_Face_feed_S F c 0 p1 p2 p3 p4 p5 = some cf ∧ c' = ctick cf ∧ m_feed Fm σ p1 p2 p3 p4 p5 = some (v, σ1) ∧ m_thrown σ1 = some (1, σ'))
theorem lS_feed {p : Program} {l : Launch} (hl : l.stackTraces = false) {e : Env} {s : State} {m : MethodId} {args : Array Value} {below : List Frame} {meth : Method} {cd : Code} {G0 : Heap} {Y : State → Prop} {D : va_G} {dA : Nat → ClassId} {base t0 u0 : Nat} {Q : State → Prop} {pF : Nat → List Value → xH → Option (Option Value × xH)} (C : lwC p l s m args cd G0 Y D dA base pF) (hYz : ∀ U, Y U → zY G0 base U) (hp0 : xNPc pF) (hp1 : xNP pF) (hF : lcF pF) {lv : xL} {B b aR ao eD i L : Nat} {xs : Nat → Int32} {x0 : Nat → Value} {σ : RS} {g : CG} {c : CS} {h : xH} (hLc : ∀ x0 σ, lcAll (lE B b L xs ao x0 aR σ eD) pF) (hp : lP b ao aR eD) (hG : lwG lv b B aR ao i) (hi : i + 6 ≤ L) (hL : L ≤ 3074) (hc : CRep (lE B b L xs ao x0 aR σ eD) g c h) (q0 : lwR base t0 u0 h) {c' : CS} {σ' : RS} (hs : s_feed c σ (xs (i + 1)) (xs (i + 2)) (xs (i + 3)) (xs (i + 4)) (xs (i + 5)) c' σ') (hb : (cT c').1 - t0 ≤ 600000 ∧ (cT c').2 - u0 ≤ 7200000)
    (kk : ∀ lv' g' x0' h', lwG lv' b B aR ao i → CRep (lE B b L xs ao x0' aR σ' eD) g' c' h' → lwR base t0 u0 h' → lwW p l e s m args below meth cd G0 D dA base t0 u0 Q 2147 lv' [] h') : lwW p l e s m args below meth cd G0 D dA base t0 u0 Q 192 lv [] h := by
  rcases hs with ⟨F, Fm, v, σ1, hk, hm, ht⟩ | ⟨F, Fm, cf, v, σ1, hk, hcc, hm, ht⟩
  · skip
    obtain ⟨g', h', c1, hX⟩ := fN_feed C.2.2.2.2.2.2 hp0 (hLc _ _) hF hc (lX_ao hp) hk
    have c2 := l_out hp c1 v.toInt64
    obtain ⟨hM, c3⟩ := l_call (σ' := σ1) hp c2 (m_feed_ok hp1 (d := 29) (F := Fm) hm)
    obtain ⟨hT, c4⟩ := l_call hp c3 (m_thrown_ok hp1 (d := 30) ht)
    have q1 := l_R q0 hX.1 hX.2.1 c2 hb
    exact lA_feed_N C hG hi hL (l_S hp hc) (l_S hp c2) hX (l_bc hp c2 rfl) (l_bc hp c3 rfl) hM hT ⟨by rw [l_ao hp c4], by rw [l_ao hp c4], by rw [l_ao hp c4]; rfl⟩ q0 q1 q1 (fun lv' hG' => kk lv' _ _ _ hG' c4 q1)
  · subst hcc
    obtain ⟨g', h', c2, -, hX⟩ := fT_feed_S hl C.2.2.2.2.2.2 hYz hp0 (hLc _ _) hF hc (ao := ao) hk
    obtain ⟨hM, c3⟩ := l_call (σ' := σ1) hp c2 (m_feed_ok hp1 (d := 29) (F := Fm) hm)
    obtain ⟨hT, c4⟩ := l_call hp c3 (m_thrown_ok hp1 (d := 30) ht)
    have q1 := l_R q0 hX.1 hX.2.1 c2 hb
    exact lA_feed_T C hG hi hL (l_S hp hc) (l_S hp c2) hX (l_bc hp c2 rfl) (l_bc hp c3 rfl) hM hT (by decide) q0 q1 q1 (fun lv' hG' => kk lv' _ _ _ hG' c4 q1)
def s_end (c : CS) (σ : RS) (p1 : Int32) (c' : CS) (σ' : RS) : Prop :=
  (∃ (F Fm : Nat) (v : Int32) (σ1 : RS), k_Face_end c 0 p1 = some (v, c') ∧ m_end σ p1 = some (v, σ1) ∧ m_thrown σ1 = some (0, σ')) ∨
  (∃ (F Fm : Nat) (cf : CS) (v : Int32) (σ1 : RS), k_Face_end_A c 0 p1 = some cf ∧ c' = ctick cf ∧ m_end σ p1 = some (v, σ1) ∧ m_thrown σ1 = some (1, σ')) ∨
  (∃ (F Fm : Nat) (cf : CS) (v : Int32) (σ1 : RS), k_Face_end_S c 0 p1 = some cf ∧ c' = ctick cf ∧ m_end σ p1 = some (v, σ1) ∧ m_thrown σ1 = some (2, σ'))
theorem lS_end {p : Program} {l : Launch} (hl : l.stackTraces = false) {e : Env} {s : State} {m : MethodId} {args : Array Value} {below : List Frame} {meth : Method} {cd : Code} {G0 : Heap} {Y : State → Prop} {D : va_G} {dA : Nat → ClassId} {base t0 u0 : Nat} {Q : State → Prop} {pF : Nat → List Value → xH → Option (Option Value × xH)} (C : lwC p l s m args cd G0 Y D dA base pF) (hYz : ∀ U, Y U → zY G0 base U) (hp0 : xNPc pF) (hp1 : xNP pF) (hF : lcF pF) {lv : xL} {B b aR ao eD i L : Nat} {xs : Nat → Int32} {x0 : Nat → Value} {σ : RS} {g : CG} {c : CS} {h : xH} (hLc : ∀ x0 σ, lcAll (lE B b L xs ao x0 aR σ eD) pF) (hp : lP b ao aR eD) (hG : lwG lv b B aR ao i) (hi : i + 6 ≤ L) (hL : L ≤ 3074) (hc : CRep (lE B b L xs ao x0 aR σ eD) g c h) (q0 : lwR base t0 u0 h) {c' : CS} {σ' : RS} (hs : s_end c σ (xs (i + 1)) c' σ') (hb : (cT c').1 - t0 ≤ 600000 ∧ (cT c').2 - u0 ≤ 7200000)
    (kk : ∀ lv' g' x0' h', lwG lv' b B aR ao i → CRep (lE B b L xs ao x0' aR σ' eD) g' c' h' → lwR base t0 u0 h' → lwW p l e s m args below meth cd G0 D dA base t0 u0 Q 2147 lv' [] h') : lwW p l e s m args below meth cd G0 D dA base t0 u0 Q 296 lv [] h := by
  rcases hs with ⟨F, Fm, v, σ1, hk, hm, ht⟩ | ⟨F, Fm, cf, v, σ1, hk, hcc, hm, ht⟩ | ⟨F, Fm, cf, v, σ1, hk, hcc, hm, ht⟩
  · skip
    obtain ⟨g', h', c1, hX⟩ := fN_end C.2.2.2.2.2.2 hp0 (hLc _ _) hF hc (lX_ao hp) hk
    have c2 := l_out hp c1 v.toInt64
    obtain ⟨hM, c3⟩ := l_call (σ' := σ1) hp c2 (m_end_ok hp1 (d := 29) hm)
    obtain ⟨hT, c4⟩ := l_call hp c3 (m_thrown_ok hp1 (d := 30) ht)
    have q1 := l_R q0 hX.1 hX.2.1 c2 hb
    exact lA_end_N C hG hi hL (l_S hp hc) (l_S hp c2) hX (l_bc hp c2 rfl) (l_bc hp c3 rfl) hM hT ⟨by rw [l_ao hp c4], by rw [l_ao hp c4], by rw [l_ao hp c4]; rfl⟩ q0 q1 q1 (fun lv' hG' => kk lv' _ _ _ hG' c4 q1)
  · subst hcc
    obtain ⟨g', h', c2, -, hX⟩ := fT_end_A hl C.2.2.2.2.2.2 hYz hp0 (hLc _ _) hF hc (ao := ao) hk
    obtain ⟨hM, c3⟩ := l_call (σ' := σ1) hp c2 (m_end_ok hp1 (d := 29) hm)
    obtain ⟨hT, c4⟩ := l_call hp c3 (m_thrown_ok hp1 (d := 30) ht)
    have q1 := l_R q0 hX.1 hX.2.1 c2 hb
    exact lA_end_T C hG hi hL (l_S hp hc) (l_S hp c2) hX (l_bc hp c2 rfl) (l_bc hp c3 rfl) hM hT (by decide) q0 q1 q1 (fun lv' hG' => kk lv' _ _ _ hG' c4 q1)
  · subst hcc
    obtain ⟨g', h', c2, -, hX⟩ := fT_end_S hl C.2.2.2.2.2.2 hYz hp0 (hLc _ _) hF hc (ao := ao) hk
    obtain ⟨hM, c3⟩ := l_call (σ' := σ1) hp c2 (m_end_ok hp1 (d := 29) hm)
    obtain ⟨hT, c4⟩ := l_call hp c3 (m_thrown_ok hp1 (d := 30) ht)
    have q1 := l_R q0 hX.1 hX.2.1 c2 hb
    exact lA_end_T C hG hi hL (l_S hp hc) (l_S hp c2) hX (l_bc hp c2 rfl) (l_bc hp c3 rfl) hM hT (by decide) q0 q1 q1 (fun lv' hG' => kk lv' _ _ _ hG' c4 q1)
def s_ask (c : CS) (σ : RS) (p1 : Int32) (p2 : Int32) (p3 : Int32) (p4 : Int32) (c' : CS) (σ' : RS) : Prop :=
  (∃ (F Fm : Nat) (v : Int32) (σ1 : RS), k_Face_ask F c 0 p1 p2 p3 p4 = some (v, c') ∧ m_ask Fm σ p1 p2 p3 p4 = some (v, σ1) ∧ m_thrown σ1 = some (0, σ')) ∨
  (∃ (F Fm : Nat) (cf : CS) (v : Int32) (σ1 : RS), k_Face_ask_A F c 0 p1 p2 p3 p4 = some cf ∧ c' = ctick cf ∧ m_ask Fm σ p1 p2 p3 p4 = some (v, σ1) ∧ m_thrown σ1 = some (2, σ')) ∨
  (∃ (F Fm : Nat) (cf : CS) (v : Int32) (σ1 : RS), k_Face_ask_S F c 0 p1 p2 p3 p4 = some cf ∧ c' = ctick cf ∧ m_ask Fm σ p1 p2 p3 p4 = some (v, σ1) ∧ m_thrown σ1 = some (3, σ')) ∨
  (∃ (F Fm : Nat) (v : Int32) (σ1 : RS), k_Face_asker_J (csI c 15 0 5 0 0) 0 p1 = some () ∧ c' = ctick (csI c 15 0 5 0 0) ∧ m_ask Fm σ p1 p2 p3 p4 = some (v, σ1) ∧ m_thrown σ1 = some (1, σ'))
theorem lS_ask {p : Program} {l : Launch} (hl : l.stackTraces = false) {e : Env} {s : State} {m : MethodId} {args : Array Value} {below : List Frame} {meth : Method} {cd : Code} {G0 : Heap} {Y : State → Prop} {D : va_G} {dA : Nat → ClassId} {base t0 u0 : Nat} {Q : State → Prop} {pF : Nat → List Value → xH → Option (Option Value × xH)} (C : lwC p l s m args cd G0 Y D dA base pF) (hYz : ∀ U, Y U → zY G0 base U) (hp0 : xNPc pF) (hp1 : xNP pF) (hF : lcF pF) {lv : xL} {B b aR ao eD i L : Nat} {xs : Nat → Int32} {x0 : Nat → Value} {σ : RS} {g : CG} {c : CS} {h : xH} (hLc : ∀ x0 σ, lcAll (lE B b L xs ao x0 aR σ eD) pF) (hp : lP b ao aR eD) (hG : lwG lv b B aR ao i) (hi : i + 6 ≤ L) (hL : L ≤ 3074) (hc : CRep (lE B b L xs ao x0 aR σ eD) g c h) (q0 : lwR base t0 u0 h) {c' : CS} {σ' : RS} (hs : s_ask c σ (xs (i + 1)) (xs (i + 2)) (xs (i + 3)) (xs (i + 4)) c' σ') (hb : (cT c').1 - t0 ≤ 600000 ∧ (cT c').2 - u0 ≤ 7200000)
    (kk : ∀ lv' g' x0' h', lwG lv' b B aR ao i → CRep (lE B b L xs ao x0' aR σ' eD) g' c' h' → lwR base t0 u0 h' → lwW p l e s m args below meth cd G0 D dA base t0 u0 Q 2147 lv' [] h') : lwW p l e s m args below meth cd G0 D dA base t0 u0 Q 352 lv [] h := by
  rcases hs with ⟨F, Fm, v, σ1, hk, hm, ht⟩ | ⟨F, Fm, cf, v, σ1, hk, hcc, hm, ht⟩ | ⟨F, Fm, cf, v, σ1, hk, hcc, hm, ht⟩ | ⟨F, Fm, v, σ1, hk, hcc, hm, ht⟩
  · skip
    obtain ⟨g', h', c1, hX⟩ := fN_ask C.2.2.2.2.2.2 hp0 (hLc _ _) hF hc (lX_ao hp) hk
    have c2 := l_out hp c1 v.toInt64
    obtain ⟨hM, c3⟩ := l_call (σ' := σ1) hp c2 (m_ask_ok hp1 (d := 26) (F := Fm) hm)
    obtain ⟨hT, c4⟩ := l_call hp c3 (m_thrown_ok hp1 (d := 30) ht)
    have q1 := l_R q0 hX.1 hX.2.1 c2 hb
    exact lA_ask_N C hG hi hL (l_S hp hc) (l_S hp c2) hX (l_bc hp c2 rfl) (l_bc hp c3 rfl) hM hT ⟨by rw [l_ao hp c4], by rw [l_ao hp c4], by rw [l_ao hp c4]; rfl⟩ q0 q1 q1 (fun lv' hG' => kk lv' _ _ _ hG' c4 q1)
  · subst hcc
    obtain ⟨g', h', c2, -, hX⟩ := fT_ask_A hl C.2.2.2.2.2.2 hYz hp0 (hLc _ _) hF hc (ao := ao) hk
    obtain ⟨hM, c3⟩ := l_call (σ' := σ1) hp c2 (m_ask_ok hp1 (d := 26) (F := Fm) hm)
    obtain ⟨hT, c4⟩ := l_call hp c3 (m_thrown_ok hp1 (d := 30) ht)
    have q1 := l_R q0 hX.1 hX.2.1 c2 hb
    exact lA_ask_T C hG hi hL (l_S hp hc) (l_S hp c2) hX (l_bc hp c2 rfl) (l_bc hp c3 rfl) hM hT (by decide) q0 q1 q1 (fun lv' hG' => kk lv' _ _ _ hG' c4 q1)
  · subst hcc
    obtain ⟨g', h', c2, -, hX⟩ := fT_ask_S hl C.2.2.2.2.2.2 hYz hp0 (hLc _ _) hF hc (ao := ao) hk
    obtain ⟨hM, c3⟩ := l_call (σ' := σ1) hp c2 (m_ask_ok hp1 (d := 26) (F := Fm) hm)
    obtain ⟨hT, c4⟩ := l_call hp c3 (m_thrown_ok hp1 (d := 30) ht)
    have q1 := l_R q0 hX.1 hX.2.1 c2 hb
    exact lA_ask_T C hG hi hL (l_S hp hc) (l_S hp c2) hX (l_bc hp c2 rfl) (l_bc hp c3 rfl) hM hT (by decide) q0 q1 q1 (fun lv' hG' => kk lv' _ _ _ hG' c4 q1)
  · subst hcc
    obtain ⟨g', h', c2, -, hX⟩ := fT_ask_C hl C.2.2.2.2.2.2 hYz hp0 (hLc _ _) hF hc (ao := ao) (p2 := xs (i + 2)) (p3 := xs (i + 3)) (p4 := xs (i + 4)) hk
    obtain ⟨hM, c3⟩ := l_call (σ' := σ1) hp c2 (m_ask_ok hp1 (d := 26) (F := Fm) hm)
    obtain ⟨hT, c4⟩ := l_call hp c3 (m_thrown_ok hp1 (d := 30) ht)
    have q1 := l_R q0 hX.1 hX.2.1 c2 hb
    exact lA_ask_T C hG hi hL (l_S hp hc) (l_S hp c2) hX (l_bc hp c2 rfl) (l_bc hp c3 rfl) hM hT (by decide) q0 q1 q1 (fun lv' hG' => kk lv' _ _ _ hG' c4 q1)
def s_giveUp (c : CS) (σ : RS) (p1 : Int32) (c' : CS) (σ' : RS) : Prop :=
  (∃ (F Fm : Nat) (v : Int32) (σ1 : RS), k_Face_giveUp c 0 p1 = some (v, c') ∧ m_giveUp σ p1 = some (v, σ1) ∧ m_thrown σ1 = some (0, σ')) ∨
  (∃ (F Fm : Nat) (v : Int32) (σ1 : RS), k_Face_asker_J c 0 p1 = some () ∧ c' = ctick c ∧ m_giveUp σ p1 = some (v, σ1) ∧ m_thrown σ1 = some (1, σ'))
theorem lS_giveUp {p : Program} {l : Launch} (hl : l.stackTraces = false) {e : Env} {s : State} {m : MethodId} {args : Array Value} {below : List Frame} {meth : Method} {cd : Code} {G0 : Heap} {Y : State → Prop} {D : va_G} {dA : Nat → ClassId} {base t0 u0 : Nat} {Q : State → Prop} {pF : Nat → List Value → xH → Option (Option Value × xH)} (C : lwC p l s m args cd G0 Y D dA base pF) (hYz : ∀ U, Y U → zY G0 base U) (hp0 : xNPc pF) (hp1 : xNP pF) (hF : lcF pF) {lv : xL} {B b aR ao eD i L : Nat} {xs : Nat → Int32} {x0 : Nat → Value} {σ : RS} {g : CG} {c : CS} {h : xH} (hLc : ∀ x0 σ, lcAll (lE B b L xs ao x0 aR σ eD) pF) (hp : lP b ao aR eD) (hG : lwG lv b B aR ao i) (hi : i + 6 ≤ L) (hL : L ≤ 3074) (hc : CRep (lE B b L xs ao x0 aR σ eD) g c h) (q0 : lwR base t0 u0 h) {c' : CS} {σ' : RS} (hs : s_giveUp c σ (xs (i + 1)) c' σ') (hb : (cT c').1 - t0 ≤ 600000 ∧ (cT c').2 - u0 ≤ 7200000)
    (kk : ∀ lv' g' x0' h', lwG lv' b B aR ao i → CRep (lE B b L xs ao x0' aR σ' eD) g' c' h' → lwR base t0 u0 h' → lwW p l e s m args below meth cd G0 D dA base t0 u0 Q 2147 lv' [] h') : lwW p l e s m args below meth cd G0 D dA base t0 u0 Q 444 lv [] h := by
  rcases hs with ⟨F, Fm, v, σ1, hk, hm, ht⟩ | ⟨F, Fm, v, σ1, hk, hcc, hm, ht⟩
  · skip
    obtain ⟨g', h', c1, hX⟩ := fN_giveUp C.2.2.2.2.2.2 hp0 (hLc _ _) hF hc (lX_ao hp) hk
    have c2 := l_out hp c1 (if v = 0 then 0 else 1)
    obtain ⟨hM, c3⟩ := l_call (σ' := σ1) hp c2 (m_giveUp_ok hp1 (d := 28) hm)
    obtain ⟨hT, c4⟩ := l_call hp c3 (m_thrown_ok hp1 (d := 30) ht)
    have q1 := l_R q0 hX.1 hX.2.1 c2 hb
    exact lA_giveUp_N C hG hi hL (l_S hp hc) (l_S hp c2) hX (l_bc hp c2 rfl) (l_bc hp c3 rfl) hM hT ⟨by rw [l_ao hp c4], by rw [l_ao hp c4], by rw [l_ao hp c4]; rfl⟩ q0 q1 q1 (fun lv' hG' => kk lv' _ _ _ hG' c4 q1)
  · subst hcc
    obtain ⟨g', h', c2, -, hX⟩ := fT_giveUp_C hl C.2.2.2.2.2.2 hYz hp0 (hLc _ _) hF hc (ao := ao) hk
    obtain ⟨hM, c3⟩ := l_call (σ' := σ1) hp c2 (m_giveUp_ok hp1 (d := 28) hm)
    obtain ⟨hT, c4⟩ := l_call hp c3 (m_thrown_ok hp1 (d := 30) ht)
    have q1 := l_R q0 hX.1 hX.2.1 c2 hb
    exact lA_giveUp_T C hG hi hL (l_S hp hc) (l_S hp c2) hX (l_bc hp c2 rfl) (l_bc hp c3 rfl) hM hT (by decide) q0 q1 q1 (fun lv' hG' => kk lv' _ _ _ hG' c4 q1)
def s_run (c : CS) (σ : RS) (p1 : Int32) (c' : CS) (σ' : RS) : Prop :=
  (∃ (F Fm : Nat) (v : Int32) (σ1 : RS), k_Face_run F c 0 p1 = some (v, c') ∧ m_run Fm σ p1 = some (v, σ1) ∧ m_thrown σ1 = some (0, σ')) ∨
  (∃ (F Fm : Nat) (cf : CS) (v : Int32) (σ1 : RS), k_Face_run_A F c 0 p1 = some cf ∧ c' = ctick cf ∧ m_run Fm σ p1 = some (v, σ1) ∧ m_thrown σ1 = some (1, σ'))
theorem lS_run {p : Program} {l : Launch} (hl : l.stackTraces = false) {e : Env} {s : State} {m : MethodId} {args : Array Value} {below : List Frame} {meth : Method} {cd : Code} {G0 : Heap} {Y : State → Prop} {D : va_G} {dA : Nat → ClassId} {base t0 u0 : Nat} {Q : State → Prop} {pF : Nat → List Value → xH → Option (Option Value × xH)} (C : lwC p l s m args cd G0 Y D dA base pF) (hYz : ∀ U, Y U → zY G0 base U) (hp0 : xNPc pF) (hp1 : xNP pF) (hF : lcF pF) {lv : xL} {B b aR ao eD i L : Nat} {xs : Nat → Int32} {x0 : Nat → Value} {σ : RS} {g : CG} {c : CS} {h : xH} (hLc : ∀ x0 σ, lcAll (lE B b L xs ao x0 aR σ eD) pF) (hp : lP b ao aR eD) (hG : lwG lv b B aR ao i) (hi : i + 6 ≤ L) (hL : L ≤ 3074) (hc : CRep (lE B b L xs ao x0 aR σ eD) g c h) (q0 : lwR base t0 u0 h) {c' : CS} {σ' : RS} (hs : s_run c σ (xs (i + 1)) c' σ') (hb : (cT c').1 - t0 ≤ 600000 ∧ (cT c').2 - u0 ≤ 7200000)
    (kk : ∀ lv' g' x0' h', lwG lv' b B aR ao i → CRep (lE B b L xs ao x0' aR σ' eD) g' c' h' → lwR base t0 u0 h' → lwW p l e s m args below meth cd G0 D dA base t0 u0 Q 2147 lv' [] h') : lwW p l e s m args below meth cd G0 D dA base t0 u0 Q 507 lv [] h := by
  rcases hs with ⟨F, Fm, v, σ1, hk, hm, ht⟩ | ⟨F, Fm, cf, v, σ1, hk, hcc, hm, ht⟩
  · skip
    obtain ⟨g', h', c1, hX⟩ := fN_run C.2.2.2.2.2.2 hp0 (hLc _ _) hF hc (lX_ao hp) hk
    have c2 := l_out hp c1 v.toInt64
    obtain ⟨hM, c3⟩ := l_call (σ' := σ1) hp c2 (m_run_ok hp1 (d := 18) (F := Fm) hm)
    obtain ⟨hT, c4⟩ := l_call hp c3 (m_thrown_ok hp1 (d := 30) ht)
    have q1 := l_R q0 hX.1 hX.2.1 c2 hb
    exact lA_run_N C hG hi hL (l_S hp hc) (l_S hp c2) hX (l_bc hp c2 rfl) (l_bc hp c3 rfl) hM hT ⟨by rw [l_ao hp c4], by rw [l_ao hp c4], by rw [l_ao hp c4]; rfl⟩ q0 q1 q1 (fun lv' hG' => kk lv' _ _ _ hG' c4 q1)
  · subst hcc
    obtain ⟨g', h', c2, -, hX⟩ := fT_run_A hl C.2.2.2.2.2.2 hYz hp0 (hLc _ _) hF hc (ao := ao) hk
    obtain ⟨hM, c3⟩ := l_call (σ' := σ1) hp c2 (m_run_ok hp1 (d := 18) (F := Fm) hm)
    obtain ⟨hT, c4⟩ := l_call hp c3 (m_thrown_ok hp1 (d := 30) ht)
    have q1 := l_R q0 hX.1 hX.2.1 c2 hb
    exact lA_run_T C hG hi hL (l_S hp hc) (l_S hp c2) hX (l_bc hp c2 rfl) (l_bc hp c3 rfl) hM hT (by decide) q0 q1 q1 (fun lv' hG' => kk lv' _ _ _ hG' c4 q1)
def s_step (c : CS) (σ : RS) (c' : CS) (σ' : RS) : Prop := ∃ (F Fm : Nat) (v : Int32), k_Face_step F c 0  = some (v, c') ∧ m_step Fm σ  = some (v, σ')
theorem lS_step {p : Program} {l : Launch} (hl : l.stackTraces = false) {e : Env} {s : State} {m : MethodId} {args : Array Value} {below : List Frame} {meth : Method} {cd : Code} {G0 : Heap} {Y : State → Prop} {D : va_G} {dA : Nat → ClassId} {base t0 u0 : Nat} {Q : State → Prop} {pF : Nat → List Value → xH → Option (Option Value × xH)} (C : lwC p l s m args cd G0 Y D dA base pF) (hYz : ∀ U, Y U → zY G0 base U) (hp0 : xNPc pF) (hp1 : xNP pF) (hF : lcF pF) {lv : xL} {B b aR ao eD i L : Nat} {xs : Nat → Int32} {x0 : Nat → Value} {σ : RS} {g : CG} {c : CS} {h : xH} (hLc : ∀ x0 σ, lcAll (lE B b L xs ao x0 aR σ eD) pF) (hp : lP b ao aR eD) (hG : lwG lv b B aR ao i) (hi : i + 6 ≤ L) (hL : L ≤ 3074) (hc : CRep (lE B b L xs ao x0 aR σ eD) g c h) (q0 : lwR base t0 u0 h) {c' : CS} {σ' : RS} (hs : s_step c σ c' σ') (hb : (cT c').1 - t0 ≤ 600000 ∧ (cT c').2 - u0 ≤ 7200000)
    (kk : ∀ lv' g' x0' h', lwG lv' b B aR ao i → CRep (lE B b L xs ao x0' aR σ' eD) g' c' h' → lwR base t0 u0 h' → lwW p l e s m args below meth cd G0 D dA base t0 u0 Q 2147 lv' [] h') : lwW p l e s m args below meth cd G0 D dA base t0 u0 Q 563 lv [] h := by
  obtain ⟨F, Fm, v, hk, hm⟩ := hs
  obtain ⟨g', h', c2, -, -, hX⟩ := k_Face_step_ok hp0 (hLc _ _) hF (d := 14) cob15 hk h hc
  obtain ⟨hM, c3⟩ := l_call (σ' := σ') hp c2 (m_step_ok hp1 (d := 18) (F := Fm) hm)
  have hmo := xCo_mono (fun {F} => x_all (F := F) C.2.2.2.2.2.2 kk_hk 31) hX
  have q1 := l_R q0 hmo.1 hmo.2 c2 hb
  exact lA_step_N C hG hi hL (l_S hp hc) (l_S hp c2) (c15_bc hc rfl) (l_bc hp c2 rfl) hX hM q0 q1 (fun lv' hG' => kk lv' _ _ _ hG' c3 q1)
def s_delay (c : CS) (σ : RS) (p1 : Int32) (p2 : Int32) (p3 : Int32) (c' : CS) (σ' : RS) : Prop :=
  (∃ (F Fm : Nat) (v : Int32) (σ1 : RS), k_Face_delay c 0 p1 p2 p3 = some (v, c') ∧ m_delay σ p1 p2 p3 = some (v, σ1) ∧ m_thrown σ1 = some (0, σ')) ∨
  (∃ (F Fm : Nat) (cf : CS) (v : Int32) (σ1 : RS), k_Face_delay_A c 0 p1 p2 p3 = some cf ∧ c' = ctick cf ∧ m_delay σ p1 p2 p3 = some (v, σ1) ∧ m_thrown σ1 = some (2, σ')) ∨
  (∃ (F Fm : Nat) (cf : CS) (v : Int32) (σ1 : RS), k_Face_delay_J c 0 p1 p2 p3 = some cf ∧ c' = ctick cf ∧ m_delay σ p1 p2 p3 = some (v, σ1) ∧ m_thrown σ1 = some (1, σ'))
theorem lS_delay {p : Program} {l : Launch} (hl : l.stackTraces = false) {e : Env} {s : State} {m : MethodId} {args : Array Value} {below : List Frame} {meth : Method} {cd : Code} {G0 : Heap} {Y : State → Prop} {D : va_G} {dA : Nat → ClassId} {base t0 u0 : Nat} {Q : State → Prop} {pF : Nat → List Value → xH → Option (Option Value × xH)} (C : lwC p l s m args cd G0 Y D dA base pF) (hYz : ∀ U, Y U → zY G0 base U) (hp0 : xNPc pF) (hp1 : xNP pF) (hF : lcF pF) {lv : xL} {B b aR ao eD i L : Nat} {xs : Nat → Int32} {x0 : Nat → Value} {σ : RS} {g : CG} {c : CS} {h : xH} (hLc : ∀ x0 σ, lcAll (lE B b L xs ao x0 aR σ eD) pF) (hp : lP b ao aR eD) (hG : lwG lv b B aR ao i) (hi : i + 6 ≤ L) (hL : L ≤ 3074) (hc : CRep (lE B b L xs ao x0 aR σ eD) g c h) (q0 : lwR base t0 u0 h) {c' : CS} {σ' : RS} (hs : s_delay c σ (xs (i + 1)) (xs (i + 2)) (xs (i + 3)) c' σ') (hb : (cT c').1 - t0 ≤ 600000 ∧ (cT c').2 - u0 ≤ 7200000)
    (kk : ∀ lv' g' x0' h', lwG lv' b B aR ao i → CRep (lE B b L xs ao x0' aR σ' eD) g' c' h' → lwR base t0 u0 h' → lwW p l e s m args below meth cd G0 D dA base t0 u0 Q 2147 lv' [] h') : lwW p l e s m args below meth cd G0 D dA base t0 u0 Q 576 lv [] h := by
  rcases hs with ⟨F, Fm, v, σ1, hk, hm, ht⟩ | ⟨F, Fm, cf, v, σ1, hk, hcc, hm, ht⟩ | ⟨F, Fm, cf, v, σ1, hk, hcc, hm, ht⟩
  · skip
    obtain ⟨g', h', c1, hX⟩ := fN_delay C.2.2.2.2.2.2 hp0 (hLc _ _) hF hc (lX_ao hp) hk
    have c2 := l_out hp c1 v.toInt64
    obtain ⟨hM, c3⟩ := l_call (σ' := σ1) hp c2 (m_delay_ok hp1 (d := 28) hm)
    obtain ⟨hT, c4⟩ := l_call hp c3 (m_thrown_ok hp1 (d := 30) ht)
    have q1 := l_R q0 hX.1 hX.2.1 c2 hb
    exact lA_delay_N C hG hi hL (l_S hp hc) (l_S hp c2) hX (l_bc hp c2 rfl) (l_bc hp c3 rfl) hM hT ⟨by rw [l_ao hp c4], by rw [l_ao hp c4], by rw [l_ao hp c4]; rfl⟩ q0 q1 q1 (fun lv' hG' => kk lv' _ _ _ hG' c4 q1)
  · subst hcc
    obtain ⟨g', h', c2, -, hX⟩ := fT_delay_A hl C.2.2.2.2.2.2 hYz hp0 (hLc _ _) hF hc (ao := ao) hk
    obtain ⟨hM, c3⟩ := l_call (σ' := σ1) hp c2 (m_delay_ok hp1 (d := 28) hm)
    obtain ⟨hT, c4⟩ := l_call hp c3 (m_thrown_ok hp1 (d := 30) ht)
    have q1 := l_R q0 hX.1 hX.2.1 c2 hb
    exact lA_delay_T C hG hi hL (l_S hp hc) (l_S hp c2) hX (l_bc hp c2 rfl) (l_bc hp c3 rfl) hM hT (by decide) q0 q1 q1 (fun lv' hG' => kk lv' _ _ _ hG' c4 q1)
  · subst hcc
    obtain ⟨g', h', c2, -, hX⟩ := fT_delay_J hl C.2.2.2.2.2.2 hYz hp0 (hLc _ _) hF hc (ao := ao) hk
    obtain ⟨hM, c3⟩ := l_call (σ' := σ1) hp c2 (m_delay_ok hp1 (d := 28) hm)
    obtain ⟨hT, c4⟩ := l_call hp c3 (m_thrown_ok hp1 (d := 30) ht)
    have q1 := l_R q0 hX.1 hX.2.1 c2 hb
    exact lA_delay_T C hG hi hL (l_S hp hc) (l_S hp c2) hX (l_bc hp c2 rfl) (l_bc hp c3 rfl) hM hT (by decide) q0 q1 q1 (fun lv' hG' => kk lv' _ _ _ hG' c4 q1)
def s_part (c : CS) (σ : RS) (p1 : Int32) (c' : CS) (σ' : RS) : Prop :=
  (∃ (F Fm : Nat) (v : Int32) (σ1 : RS), k_Face_part c 0 p1 = some (v, c') ∧ m_part σ p1 = some (v, σ1) ∧ m_thrown σ1 = some (0, σ')) ∨
  (∃ (F Fm : Nat) (cf : CS) (v : Int32) (σ1 : RS), k_Face_part_A c 0 p1 = some cf ∧ c' = ctick cf ∧ m_part σ p1 = some (v, σ1) ∧ m_thrown σ1 = some (1, σ'))
theorem lS_part {p : Program} {l : Launch} (hl : l.stackTraces = false) {e : Env} {s : State} {m : MethodId} {args : Array Value} {below : List Frame} {meth : Method} {cd : Code} {G0 : Heap} {Y : State → Prop} {D : va_G} {dA : Nat → ClassId} {base t0 u0 : Nat} {Q : State → Prop} {pF : Nat → List Value → xH → Option (Option Value × xH)} (C : lwC p l s m args cd G0 Y D dA base pF) (hYz : ∀ U, Y U → zY G0 base U) (hp0 : xNPc pF) (hp1 : xNP pF) (hF : lcF pF) {lv : xL} {B b aR ao eD i L : Nat} {xs : Nat → Int32} {x0 : Nat → Value} {σ : RS} {g : CG} {c : CS} {h : xH} (hLc : ∀ x0 σ, lcAll (lE B b L xs ao x0 aR σ eD) pF) (hp : lP b ao aR eD) (hG : lwG lv b B aR ao i) (hi : i + 6 ≤ L) (hL : L ≤ 3074) (hc : CRep (lE B b L xs ao x0 aR σ eD) g c h) (q0 : lwR base t0 u0 h) {c' : CS} {σ' : RS} (hs : s_part c σ (xs (i + 1)) c' σ') (hb : (cT c').1 - t0 ≤ 600000 ∧ (cT c').2 - u0 ≤ 7200000)
    (kk : ∀ lv' g' x0' h', lwG lv' b B aR ao i → CRep (lE B b L xs ao x0' aR σ' eD) g' c' h' → lwR base t0 u0 h' → lwW p l e s m args below meth cd G0 D dA base t0 u0 Q 2147 lv' [] h') : lwW p l e s m args below meth cd G0 D dA base t0 u0 Q 656 lv [] h := by
  rcases hs with ⟨F, Fm, v, σ1, hk, hm, ht⟩ | ⟨F, Fm, cf, v, σ1, hk, hcc, hm, ht⟩
  · skip
    obtain ⟨g', h', c1, hX⟩ := fN_part C.2.2.2.2.2.2 hp0 (hLc _ _) hF hc (lX_ao hp) hk
    have c2 := l_out hp c1 v.toInt64
    obtain ⟨hM, c3⟩ := l_call (σ' := σ1) hp c2 (m_part_ok hp1 (d := 29) hm)
    obtain ⟨hT, c4⟩ := l_call hp c3 (m_thrown_ok hp1 (d := 30) ht)
    have q1 := l_R q0 hX.1 hX.2.1 c2 hb
    exact lA_part_N C hG hi hL (l_S hp hc) (l_S hp c2) hX (l_bc hp c2 rfl) (l_bc hp c3 rfl) hM hT ⟨by rw [l_ao hp c4], by rw [l_ao hp c4], by rw [l_ao hp c4]; rfl⟩ q0 q1 q1 (fun lv' hG' => kk lv' _ _ _ hG' c4 q1)
  · subst hcc
    obtain ⟨g', h', c2, -, hX⟩ := fT_part_A hl C.2.2.2.2.2.2 hYz hp0 (hLc _ _) hF hc (ao := ao) hk
    obtain ⟨hM, c3⟩ := l_call (σ' := σ1) hp c2 (m_part_ok hp1 (d := 29) hm)
    obtain ⟨hT, c4⟩ := l_call hp c3 (m_thrown_ok hp1 (d := 30) ht)
    have q1 := l_R q0 hX.1 hX.2.1 c2 hb
    exact lA_part_T C hG hi hL (l_S hp hc) (l_S hp c2) hX (l_bc hp c2 rfl) (l_bc hp c3 rfl) hM hT (by decide) q0 q1 q1 (fun lv' hG' => kk lv' _ _ _ hG' c4 q1)
def s_noise (c : CS) (σ : RS) (p1 : Int32) (p2 : Int32) (p3 : Int32) (p4 : Int64) (c' : CS) (σ' : RS) : Prop :=
  (∃ (F Fm : Nat) (σ1 : RS), k_Face_noise c 0 p1 p2 p3 p4 = some c' ∧ m_noise σ p1 p2 p3 p4 = some σ1 ∧ m_thrown σ1 = some (0, σ')) ∨
  (∃ (F Fm : Nat) (cf : CS) (σ1 : RS), k_Face_noise_A c 0 p1 p2 p3 p4 = some cf ∧ c' = ctick cf ∧ m_noise σ p1 p2 p3 p4 = some σ1 ∧ m_thrown σ1 = some (1, σ'))
theorem lS_noise {p : Program} {l : Launch} (hl : l.stackTraces = false) {e : Env} {s : State} {m : MethodId} {args : Array Value} {below : List Frame} {meth : Method} {cd : Code} {G0 : Heap} {Y : State → Prop} {D : va_G} {dA : Nat → ClassId} {base t0 u0 : Nat} {Q : State → Prop} {pF : Nat → List Value → xH → Option (Option Value × xH)} (C : lwC p l s m args cd G0 Y D dA base pF) (hYz : ∀ U, Y U → zY G0 base U) (hp0 : xNPc pF) (hp1 : xNP pF) (hF : lcF pF) {lv : xL} {B b aR ao eD i L : Nat} {xs : Nat → Int32} {x0 : Nat → Value} {σ : RS} {g : CG} {c : CS} {h : xH} (hLc : ∀ x0 σ, lcAll (lE B b L xs ao x0 aR σ eD) pF) (hp : lP b ao aR eD) (hG : lwG lv b B aR ao i) (hi : i + 6 ≤ L) (hL : L ≤ 3074) (hc : CRep (lE B b L xs ao x0 aR σ eD) g c h) (q0 : lwR base t0 u0 h) {c' : CS} {σ' : RS} (hs : s_noise c σ (xs (i + 1)) (xs (i + 2)) (xs (i + 3)) (lJ (xs (i + 4)) (xs (i + 5))) c' σ') (hb : (cT c').1 - t0 ≤ 600000 ∧ (cT c').2 - u0 ≤ 7200000)
    (kk : ∀ lv' g' x0' h', lwG lv' b B aR ao i → CRep (lE B b L xs ao x0' aR σ' eD) g' c' h' → lwR base t0 u0 h' → lwW p l e s m args below meth cd G0 D dA base t0 u0 Q 2147 lv' [] h') : lwW p l e s m args below meth cd G0 D dA base t0 u0 Q 712 lv [] h := by
  rcases hs with ⟨F, Fm, σ1, hk, hm, ht⟩ | ⟨F, Fm, cf, σ1, hk, hcc, hm, ht⟩
  · skip
    obtain ⟨g', h', c1, hX⟩ := fN_noise C.2.2.2.2.2.2 hp0 (hLc _ _) hF hc hk
    have c2 := c1
    obtain ⟨hM, c3⟩ := l_call (σ' := σ1) hp c2 (m_noise_ok hp1 (d := 29) hm)
    obtain ⟨hT, c4⟩ := l_call hp c3 (m_thrown_ok hp1 (d := 30) ht)
    have q1 := l_R q0 hX.1 hX.2.1 c2 hb
    exact lA_noise_N C hG hi hL (l_S hp hc) (l_S hp c2) hX (l_bc hp c2 rfl) (l_bc hp c3 rfl) hM hT q0 q1 q1 (fun lv' hG' => kk lv' _ _ _ hG' c4 q1)
  · subst hcc
    obtain ⟨g', h', c2, -, hX⟩ := fT_noise_A hl C.2.2.2.2.2.2 hYz hp0 (hLc _ _) hF hc hk
    obtain ⟨hM, c3⟩ := l_call (σ' := σ1) hp c2 (m_noise_ok hp1 (d := 29) hm)
    obtain ⟨hT, c4⟩ := l_call hp c3 (m_thrown_ok hp1 (d := 30) ht)
    have q1 := l_R q0 hX.1 hX.2.1 c2 hb
    exact lA_noise_T C hG hi hL (l_S hp hc) (l_S hp c2) hX (l_bc hp c2 rfl) (l_bc hp c3 rfl) hM hT q0 q1 q1 (fun lv' hG' => kk lv' _ _ _ hG' c4 q1)
def s_meddle (c : CS) (σ : RS) (p1 : Int32) (p2 : Int32) (p3 : Int32) (c' : CS) (σ' : RS) : Prop :=
  (∃ (F Fm : Nat) (v : Int32) (σ1 : RS), k_Face_meddle F c 0 p1 p2 p3 = some (v, c') ∧ m_meddle Fm σ p1 p2 p3 = some (v, σ1) ∧ m_thrown σ1 = some (0, σ')) ∨
  (∃ (F Fm : Nat) (cf : CS) (v : Int32) (σ1 : RS), k_Face_meddle_A F c 0 p1 p2 p3 = some cf ∧ c' = ctick cf ∧ m_meddle Fm σ p1 p2 p3 = some (v, σ1) ∧ m_thrown σ1 = some (1, σ'))
theorem lS_meddle {p : Program} {l : Launch} (hl : l.stackTraces = false) {e : Env} {s : State} {m : MethodId} {args : Array Value} {below : List Frame} {meth : Method} {cd : Code} {G0 : Heap} {Y : State → Prop} {D : va_G} {dA : Nat → ClassId} {base t0 u0 : Nat} {Q : State → Prop} {pF : Nat → List Value → xH → Option (Option Value × xH)} (C : lwC p l s m args cd G0 Y D dA base pF) (hYz : ∀ U, Y U → zY G0 base U) (hp0 : xNPc pF) (hp1 : xNP pF) (hF : lcF pF) {lv : xL} {B b aR ao eD i L : Nat} {xs : Nat → Int32} {x0 : Nat → Value} {σ : RS} {g : CG} {c : CS} {h : xH} (hLc : ∀ x0 σ, lcAll (lE B b L xs ao x0 aR σ eD) pF) (hp : lP b ao aR eD) (hG : lwG lv b B aR ao i) (hi : i + 6 ≤ L) (hL : L ≤ 3074) (hc : CRep (lE B b L xs ao x0 aR σ eD) g c h) (q0 : lwR base t0 u0 h) {c' : CS} {σ' : RS} (hs : s_meddle c σ (xs (i + 1)) (xs (i + 2)) (xs (i + 3)) c' σ') (hb : (cT c').1 - t0 ≤ 600000 ∧ (cT c').2 - u0 ≤ 7200000)
    (kk : ∀ lv' g' x0' h', lwG lv' b B aR ao i → CRep (lE B b L xs ao x0' aR σ' eD) g' c' h' → lwR base t0 u0 h' → lwW p l e s m args below meth cd G0 D dA base t0 u0 Q 2147 lv' [] h') : lwW p l e s m args below meth cd G0 D dA base t0 u0 Q 816 lv [] h := by
  rcases hs with ⟨F, Fm, v, σ1, hk, hm, ht⟩ | ⟨F, Fm, cf, v, σ1, hk, hcc, hm, ht⟩
  · skip
    obtain ⟨g', h', c1, hX⟩ := fN_meddle C.2.2.2.2.2.2 hp0 (hLc _ _) hF hc (lX_ao hp) hk
    have c2 := l_out hp c1 (if v = 0 then 0 else 1)
    obtain ⟨hM, c3⟩ := l_call (σ' := σ1) hp c2 (m_meddle_ok hp1 (d := 28) (F := Fm) hm)
    obtain ⟨hT, c4⟩ := l_call hp c3 (m_thrown_ok hp1 (d := 30) ht)
    have q1 := l_R q0 hX.1 hX.2.1 c2 hb
    exact lA_meddle_N C hG hi hL (l_S hp hc) (l_S hp c2) hX (l_bc hp c2 rfl) (l_bc hp c3 rfl) hM hT ⟨by rw [l_ao hp c4], by rw [l_ao hp c4], by rw [l_ao hp c4]; rfl⟩ q0 q1 q1 (fun lv' hG' => kk lv' _ _ _ hG' c4 q1)
  · subst hcc
    obtain ⟨g', h', c2, -, hX⟩ := fT_meddle_A hl C.2.2.2.2.2.2 hYz hp0 (hLc _ _) hF hc (ao := ao) hk
    obtain ⟨hM, c3⟩ := l_call (σ' := σ1) hp c2 (m_meddle_ok hp1 (d := 28) (F := Fm) hm)
    obtain ⟨hT, c4⟩ := l_call hp c3 (m_thrown_ok hp1 (d := 30) ht)
    have q1 := l_R q0 hX.1 hX.2.1 c2 hb
    exact lA_meddle_T C hG hi hL (l_S hp hc) (l_S hp c2) hX (l_bc hp c2 rfl) (l_bc hp c3 rfl) hM hT (by decide) q0 q1 q1 (fun lv' hG' => kk lv' _ _ _ hG' c4 q1)
def s_latency (c : CS) (σ : RS) (p1 : Int32) (p2 : Int32) (c' : CS) (σ' : RS) : Prop :=
  (∃ (F Fm : Nat) (v : Int32) (σ1 : RS), k_Face_latency c 0 p1 p2 = some (v, c') ∧ m_latency σ p1 p2 = some (v, σ1) ∧ m_thrown σ1 = some (0, σ')) ∨
  (∃ (F Fm : Nat) (cf : CS) (v : Int32) (σ1 : RS), k_Face_latency_A c 0 p1 p2 = some cf ∧ c' = ctick cf ∧ m_latency σ p1 p2 = some (v, σ1) ∧ m_thrown σ1 = some (2, σ')) ∨
  (∃ (F Fm : Nat) (v : Int32) (σ1 : RS), k_Face_host_J c 0 p1 = some () ∧ c' = ctick c ∧ m_latency σ p1 p2 = some (v, σ1) ∧ m_thrown σ1 = some (1, σ'))
theorem lS_latency {p : Program} {l : Launch} (hl : l.stackTraces = false) {e : Env} {s : State} {m : MethodId} {args : Array Value} {below : List Frame} {meth : Method} {cd : Code} {G0 : Heap} {Y : State → Prop} {D : va_G} {dA : Nat → ClassId} {base t0 u0 : Nat} {Q : State → Prop} {pF : Nat → List Value → xH → Option (Option Value × xH)} (C : lwC p l s m args cd G0 Y D dA base pF) (hYz : ∀ U, Y U → zY G0 base U) (hp0 : xNPc pF) (hp1 : xNP pF) (hF : lcF pF) {lv : xL} {B b aR ao eD i L : Nat} {xs : Nat → Int32} {x0 : Nat → Value} {σ : RS} {g : CG} {c : CS} {h : xH} (hLc : ∀ x0 σ, lcAll (lE B b L xs ao x0 aR σ eD) pF) (hp : lP b ao aR eD) (hG : lwG lv b B aR ao i) (hi : i + 6 ≤ L) (hL : L ≤ 3074) (hc : CRep (lE B b L xs ao x0 aR σ eD) g c h) (q0 : lwR base t0 u0 h) {c' : CS} {σ' : RS} (hs : s_latency c σ (xs (i + 1)) (xs (i + 2)) c' σ') (hb : (cT c').1 - t0 ≤ 600000 ∧ (cT c').2 - u0 ≤ 7200000)
    (kk : ∀ lv' g' x0' h', lwG lv' b B aR ao i → CRep (lE B b L xs ao x0' aR σ' eD) g' c' h' → lwR base t0 u0 h' → lwW p l e s m args below meth cd G0 D dA base t0 u0 Q 2147 lv' [] h') : lwW p l e s m args below meth cd G0 D dA base t0 u0 Q 903 lv [] h := by
  rcases hs with ⟨F, Fm, v, σ1, hk, hm, ht⟩ | ⟨F, Fm, cf, v, σ1, hk, hcc, hm, ht⟩ | ⟨F, Fm, v, σ1, hk, hcc, hm, ht⟩
  · skip
    obtain ⟨g', h', c1, hX⟩ := fN_latency C.2.2.2.2.2.2 hp0 (hLc _ _) hF hc (lX_ao hp) hk
    have c2 := l_out hp c1 v.toInt64
    obtain ⟨hM, c3⟩ := l_call (σ' := σ1) hp c2 (m_latency_ok hp1 (d := 29) hm)
    obtain ⟨hT, c4⟩ := l_call hp c3 (m_thrown_ok hp1 (d := 30) ht)
    have q1 := l_R q0 hX.1 hX.2.1 c2 hb
    exact lA_latency_N C hG hi hL (l_S hp hc) (l_S hp c2) hX (l_bc hp c2 rfl) (l_bc hp c3 rfl) hM hT ⟨by rw [l_ao hp c4], by rw [l_ao hp c4], by rw [l_ao hp c4]; rfl⟩ q0 q1 q1 (fun lv' hG' => kk lv' _ _ _ hG' c4 q1)
  · subst hcc
    obtain ⟨g', h', c2, -, hX⟩ := fT_latency_A hl C.2.2.2.2.2.2 hYz hp0 (hLc _ _) hF hc (ao := ao) hk
    obtain ⟨hM, c3⟩ := l_call (σ' := σ1) hp c2 (m_latency_ok hp1 (d := 29) hm)
    obtain ⟨hT, c4⟩ := l_call hp c3 (m_thrown_ok hp1 (d := 30) ht)
    have q1 := l_R q0 hX.1 hX.2.1 c2 hb
    exact lA_latency_T C hG hi hL (l_S hp hc) (l_S hp c2) hX (l_bc hp c2 rfl) (l_bc hp c3 rfl) hM hT (by decide) q0 q1 q1 (fun lv' hG' => kk lv' _ _ _ hG' c4 q1)
  · subst hcc
    obtain ⟨g', h', c2, -, hX⟩ := fT_latency_C hl C.2.2.2.2.2.2 hYz hp0 (hLc _ _) hF hc (ao := ao) hk
    obtain ⟨hM, c3⟩ := l_call (σ' := σ1) hp c2 (m_latency_ok hp1 (d := 29) hm)
    obtain ⟨hT, c4⟩ := l_call hp c3 (m_thrown_ok hp1 (d := 30) ht)
    have q1 := l_R q0 hX.1 hX.2.1 c2 hb
    exact lA_latency_T C hG hi hL (l_S hp hc) (l_S hp c2) hX (l_bc hp c2 rfl) (l_bc hp c3 rfl) hM hT (by decide) q0 q1 q1 (fun lv' hG' => kk lv' _ _ _ hG' c4 q1)
def s_crash (c : CS) (σ : RS) (p1 : Int32) (p2 : Int64) (c' : CS) (σ' : RS) : Prop :=
  (∃ (F Fm : Nat) (v : Int32) (σ1 : RS), k_Face_crash F c 0 p1 p2 = some (v, c') ∧ m_crash Fm σ p1 p2 = some (v, σ1) ∧ m_thrown σ1 = some (0, σ')) ∨
  (∃ (F Fm : Nat) (v : Int32) (σ1 : RS), k_Face_host_J c 0 p1 = some () ∧ c' = ctick c ∧ m_crash Fm σ p1 p2 = some (v, σ1) ∧ m_thrown σ1 = some (1, σ'))
theorem lS_crash {p : Program} {l : Launch} (hl : l.stackTraces = false) {e : Env} {s : State} {m : MethodId} {args : Array Value} {below : List Frame} {meth : Method} {cd : Code} {G0 : Heap} {Y : State → Prop} {D : va_G} {dA : Nat → ClassId} {base t0 u0 : Nat} {Q : State → Prop} {pF : Nat → List Value → xH → Option (Option Value × xH)} (C : lwC p l s m args cd G0 Y D dA base pF) (hYz : ∀ U, Y U → zY G0 base U) (hp0 : xNPc pF) (hp1 : xNP pF) (hF : lcF pF) {lv : xL} {B b aR ao eD i L : Nat} {xs : Nat → Int32} {x0 : Nat → Value} {σ : RS} {g : CG} {c : CS} {h : xH} (hLc : ∀ x0 σ, lcAll (lE B b L xs ao x0 aR σ eD) pF) (hp : lP b ao aR eD) (hG : lwG lv b B aR ao i) (hi : i + 6 ≤ L) (hL : L ≤ 3074) (hc : CRep (lE B b L xs ao x0 aR σ eD) g c h) (q0 : lwR base t0 u0 h) {c' : CS} {σ' : RS} (hs : s_crash c σ (xs (i + 1)) (lJ (xs (i + 2)) (xs (i + 3))) c' σ') (hb : (cT c').1 - t0 ≤ 600000 ∧ (cT c').2 - u0 ≤ 7200000)
    (kk : ∀ lv' g' x0' h', lwG lv' b B aR ao i → CRep (lE B b L xs ao x0' aR σ' eD) g' c' h' → lwR base t0 u0 h' → lwW p l e s m args below meth cd G0 D dA base t0 u0 Q 2147 lv' [] h') : lwW p l e s m args below meth cd G0 D dA base t0 u0 Q 971 lv [] h := by
  rcases hs with ⟨F, Fm, v, σ1, hk, hm, ht⟩ | ⟨F, Fm, v, σ1, hk, hcc, hm, ht⟩
  · skip
    obtain ⟨g', h', c1, hX⟩ := fN_crash C.2.2.2.2.2.2 hp0 (hLc _ _) hF hc (lX_ao hp) hk
    have c2 := l_out hp c1 (if v = 0 then 0 else 1)
    obtain ⟨hM, c3⟩ := l_call (σ' := σ1) hp c2 (m_crash_ok hp1 (d := 27) (F := Fm) hm)
    obtain ⟨hT, c4⟩ := l_call hp c3 (m_thrown_ok hp1 (d := 30) ht)
    have q1 := l_R q0 hX.1 hX.2.1 c2 hb
    exact lA_crash_N C hG hi hL (l_S hp hc) (l_S hp c2) hX (l_bc hp c2 rfl) (l_bc hp c3 rfl) hM hT ⟨by rw [l_ao hp c4], by rw [l_ao hp c4], by rw [l_ao hp c4]; rfl⟩ q0 q1 q1 (fun lv' hG' => kk lv' _ _ _ hG' c4 q1)
  · subst hcc
    obtain ⟨g', h', c2, -, hX⟩ := fT_crash_C hl C.2.2.2.2.2.2 hYz hp0 (hLc _ _) hF hc (ao := ao) hk
    obtain ⟨hM, c3⟩ := l_call (σ' := σ1) hp c2 (m_crash_ok hp1 (d := 27) (F := Fm) hm)
    obtain ⟨hT, c4⟩ := l_call hp c3 (m_thrown_ok hp1 (d := 30) ht)
    have q1 := l_R q0 hX.1 hX.2.1 c2 hb
    exact lA_crash_T C hG hi hL (l_S hp hc) (l_S hp c2) hX (l_bc hp c2 rfl) (l_bc hp c3 rfl) hM hT (by decide) q0 q1 q1 (fun lv' hG' => kk lv' _ _ _ hG' c4 q1)
def s_stop (c : CS) (σ : RS) (p1 : Int32) (c' : CS) (σ' : RS) : Prop :=
  (∃ (F Fm : Nat) (v : Int32) (σ1 : RS), k_Face_stop F c 0 p1 = some (v, c') ∧ m_stop Fm σ p1 = some (v, σ1) ∧ m_thrown σ1 = some (0, σ')) ∨
  (∃ (F Fm : Nat) (v : Int32) (σ1 : RS), k_Face_host_J c 0 p1 = some () ∧ c' = ctick c ∧ m_stop Fm σ p1 = some (v, σ1) ∧ m_thrown σ1 = some (1, σ'))
theorem lS_stop {p : Program} {l : Launch} (hl : l.stackTraces = false) {e : Env} {s : State} {m : MethodId} {args : Array Value} {below : List Frame} {meth : Method} {cd : Code} {G0 : Heap} {Y : State → Prop} {D : va_G} {dA : Nat → ClassId} {base t0 u0 : Nat} {Q : State → Prop} {pF : Nat → List Value → xH → Option (Option Value × xH)} (C : lwC p l s m args cd G0 Y D dA base pF) (hYz : ∀ U, Y U → zY G0 base U) (hp0 : xNPc pF) (hp1 : xNP pF) (hF : lcF pF) {lv : xL} {B b aR ao eD i L : Nat} {xs : Nat → Int32} {x0 : Nat → Value} {σ : RS} {g : CG} {c : CS} {h : xH} (hLc : ∀ x0 σ, lcAll (lE B b L xs ao x0 aR σ eD) pF) (hp : lP b ao aR eD) (hG : lwG lv b B aR ao i) (hi : i + 6 ≤ L) (hL : L ≤ 3074) (hc : CRep (lE B b L xs ao x0 aR σ eD) g c h) (q0 : lwR base t0 u0 h) {c' : CS} {σ' : RS} (hs : s_stop c σ (xs (i + 1)) c' σ') (hb : (cT c').1 - t0 ≤ 600000 ∧ (cT c').2 - u0 ≤ 7200000)
    (kk : ∀ lv' g' x0' h', lwG lv' b B aR ao i → CRep (lE B b L xs ao x0' aR σ' eD) g' c' h' → lwR base t0 u0 h' → lwW p l e s m args below meth cd G0 D dA base t0 u0 Q 2147 lv' [] h') : lwW p l e s m args below meth cd G0 D dA base t0 u0 Q 1078 lv [] h := by
  rcases hs with ⟨F, Fm, v, σ1, hk, hm, ht⟩ | ⟨F, Fm, v, σ1, hk, hcc, hm, ht⟩
  · skip
    obtain ⟨g', h', c1, hX⟩ := fN_stop C.2.2.2.2.2.2 hp0 (hLc _ _) hF hc (lX_ao hp) hk
    have c2 := l_out hp c1 (if v = 0 then 0 else 1)
    obtain ⟨hM, c3⟩ := l_call (σ' := σ1) hp c2 (m_stop_ok hp1 (d := 27) (F := Fm) hm)
    obtain ⟨hT, c4⟩ := l_call hp c3 (m_thrown_ok hp1 (d := 30) ht)
    have q1 := l_R q0 hX.1 hX.2.1 c2 hb
    exact lA_stop_N C hG hi hL (l_S hp hc) (l_S hp c2) hX (l_bc hp c2 rfl) (l_bc hp c3 rfl) hM hT ⟨by rw [l_ao hp c4], by rw [l_ao hp c4], by rw [l_ao hp c4]; rfl⟩ q0 q1 q1 (fun lv' hG' => kk lv' _ _ _ hG' c4 q1)
  · subst hcc
    obtain ⟨g', h', c2, -, hX⟩ := fT_stop_C hl C.2.2.2.2.2.2 hYz hp0 (hLc _ _) hF hc (ao := ao) hk
    obtain ⟨hM, c3⟩ := l_call (σ' := σ1) hp c2 (m_stop_ok hp1 (d := 27) (F := Fm) hm)
    obtain ⟨hT, c4⟩ := l_call hp c3 (m_thrown_ok hp1 (d := 30) ht)
    have q1 := l_R q0 hX.1 hX.2.1 c2 hb
    exact lA_stop_T C hG hi hL (l_S hp hc) (l_S hp c2) hX (l_bc hp c2 rfl) (l_bc hp c3 rfl) hM hT (by decide) q0 q1 q1 (fun lv' hG' => kk lv' _ _ _ hG' c4 q1)
def s_start (c : CS) (σ : RS) (p1 : Int32) (c' : CS) (σ' : RS) : Prop :=
  (∃ (F Fm : Nat) (v : Int32) (σ1 : RS), k_Face_start F c 0 p1 = some (v, c') ∧ m_start Fm σ p1 = some (v, σ1) ∧ m_thrown σ1 = some (0, σ')) ∨
  (∃ (F Fm : Nat) (v : Int32) (σ1 : RS), k_Face_host_J c 0 p1 = some () ∧ c' = ctick c ∧ m_start Fm σ p1 = some (v, σ1) ∧ m_thrown σ1 = some (1, σ'))
theorem lS_start {p : Program} {l : Launch} (hl : l.stackTraces = false) {e : Env} {s : State} {m : MethodId} {args : Array Value} {below : List Frame} {meth : Method} {cd : Code} {G0 : Heap} {Y : State → Prop} {D : va_G} {dA : Nat → ClassId} {base t0 u0 : Nat} {Q : State → Prop} {pF : Nat → List Value → xH → Option (Option Value × xH)} (C : lwC p l s m args cd G0 Y D dA base pF) (hYz : ∀ U, Y U → zY G0 base U) (hp0 : xNPc pF) (hp1 : xNP pF) (hF : lcF pF) {lv : xL} {B b aR ao eD i L : Nat} {xs : Nat → Int32} {x0 : Nat → Value} {σ : RS} {g : CG} {c : CS} {h : xH} (hLc : ∀ x0 σ, lcAll (lE B b L xs ao x0 aR σ eD) pF) (hp : lP b ao aR eD) (hG : lwG lv b B aR ao i) (hi : i + 6 ≤ L) (hL : L ≤ 3074) (hc : CRep (lE B b L xs ao x0 aR σ eD) g c h) (q0 : lwR base t0 u0 h) {c' : CS} {σ' : RS} (hs : s_start c σ (xs (i + 1)) c' σ') (hb : (cT c').1 - t0 ≤ 600000 ∧ (cT c').2 - u0 ≤ 7200000)
    (kk : ∀ lv' g' x0' h', lwG lv' b B aR ao i → CRep (lE B b L xs ao x0' aR σ' eD) g' c' h' → lwR base t0 u0 h' → lwW p l e s m args below meth cd G0 D dA base t0 u0 Q 2147 lv' [] h') : lwW p l e s m args below meth cd G0 D dA base t0 u0 Q 1141 lv [] h := by
  rcases hs with ⟨F, Fm, v, σ1, hk, hm, ht⟩ | ⟨F, Fm, v, σ1, hk, hcc, hm, ht⟩
  · skip
    obtain ⟨g', h', c1, hX⟩ := fN_start C.2.2.2.2.2.2 hp0 (hLc _ _) hF hc (lX_ao hp) hk
    have c2 := l_out hp c1 (if v = 0 then 0 else 1)
    obtain ⟨hM, c3⟩ := l_call (σ' := σ1) hp c2 (m_start_ok hp1 (d := 25) (F := Fm) hm)
    obtain ⟨hT, c4⟩ := l_call hp c3 (m_thrown_ok hp1 (d := 30) ht)
    have q1 := l_R q0 hX.1 hX.2.1 c2 hb
    exact lA_start_N C hG hi hL (l_S hp hc) (l_S hp c2) hX (l_bc hp c2 rfl) (l_bc hp c3 rfl) hM hT ⟨by rw [l_ao hp c4], by rw [l_ao hp c4], by rw [l_ao hp c4]; rfl⟩ q0 q1 q1 (fun lv' hG' => kk lv' _ _ _ hG' c4 q1)
  · subst hcc
    obtain ⟨g', h', c2, -, hX⟩ := fT_start_C hl C.2.2.2.2.2.2 hYz hp0 (hLc _ _) hF hc (ao := ao) hk
    obtain ⟨hM, c3⟩ := l_call (σ' := σ1) hp c2 (m_start_ok hp1 (d := 25) (F := Fm) hm)
    obtain ⟨hT, c4⟩ := l_call hp c3 (m_thrown_ok hp1 (d := 30) ht)
    have q1 := l_R q0 hX.1 hX.2.1 c2 hb
    exact lA_start_T C hG hi hL (l_S hp hc) (l_S hp c2) hX (l_bc hp c2 rfl) (l_bc hp c3 rfl) hM hT (by decide) q0 q1 q1 (fun lv' hG' => kk lv' _ _ _ hG' c4 q1)
def s_members (c : CS) (σ : RS) (p1 : Int32) (p2 : Int32) (c' : CS) (σ' : RS) : Prop :=
  (∃ (F Fm : Nat) (v : Int32) (σ1 : RS), k_Face_members F c 0 p1 p2 = some (v, c') ∧ m_members Fm σ p1 p2 = some (v, σ1) ∧ m_thrown σ1 = some (0, σ')) ∨
  (∃ (F Fm : Nat) (v : Int32) (σ1 : RS), k_Face_host_J c 0 p1 = some () ∧ c' = ctick c ∧ m_members Fm σ p1 p2 = some (v, σ1) ∧ m_thrown σ1 = some (1, σ'))
theorem lS_members {p : Program} {l : Launch} (hl : l.stackTraces = false) {e : Env} {s : State} {m : MethodId} {args : Array Value} {below : List Frame} {meth : Method} {cd : Code} {G0 : Heap} {Y : State → Prop} {D : va_G} {dA : Nat → ClassId} {base t0 u0 : Nat} {Q : State → Prop} {pF : Nat → List Value → xH → Option (Option Value × xH)} (C : lwC p l s m args cd G0 Y D dA base pF) (hYz : ∀ U, Y U → zY G0 base U) (hp0 : xNPc pF) (hp1 : xNP pF) (hF : lcF pF) {lv : xL} {B b aR ao eD i L : Nat} {xs : Nat → Int32} {x0 : Nat → Value} {σ : RS} {g : CG} {c : CS} {h : xH} (hLc : ∀ x0 σ, lcAll (lE B b L xs ao x0 aR σ eD) pF) (hp : lP b ao aR eD) (hG : lwG lv b B aR ao i) (hi : i + 6 ≤ L) (hL : L ≤ 3074) (hc : CRep (lE B b L xs ao x0 aR σ eD) g c h) (q0 : lwR base t0 u0 h) {c' : CS} {σ' : RS} (hs : s_members c σ (xs (i + 1)) (xs (i + 2)) c' σ') (hb : (cT c').1 - t0 ≤ 600000 ∧ (cT c').2 - u0 ≤ 7200000)
    (kk : ∀ lv' g' x0' h', lwG lv' b B aR ao i → CRep (lE B b L xs ao x0' aR σ' eD) g' c' h' → lwR base t0 u0 h' → lwW p l e s m args below meth cd G0 D dA base t0 u0 Q 2147 lv' [] h') : lwW p l e s m args below meth cd G0 D dA base t0 u0 Q 1204 lv [] h := by
  rcases hs with ⟨F, Fm, v, σ1, hk, hm, ht⟩ | ⟨F, Fm, v, σ1, hk, hcc, hm, ht⟩
  · skip
    obtain ⟨g', h', c1, hX⟩ := fN_members C.2.2.2.2.2.2 hp0 (hLc _ _) hF hc (lX_ao hp) hk
    have c2 := l_out hp c1 (if v = 0 then 0 else 1)
    obtain ⟨hM, c3⟩ := l_call (σ' := σ1) hp c2 (m_members_ok hp1 (d := 24) (F := Fm) hm)
    obtain ⟨hT, c4⟩ := l_call hp c3 (m_thrown_ok hp1 (d := 30) ht)
    have q1 := l_R q0 hX.1 hX.2.1 c2 hb
    exact lA_members_N C hG hi hL (l_S hp hc) (l_S hp c2) hX (l_bc hp c2 rfl) (l_bc hp c3 rfl) hM hT ⟨by rw [l_ao hp c4], by rw [l_ao hp c4], by rw [l_ao hp c4]; rfl⟩ q0 q1 q1 (fun lv' hG' => kk lv' _ _ _ hG' c4 q1)
  · subst hcc
    obtain ⟨g', h', c2, -, hX⟩ := fT_members_C hl C.2.2.2.2.2.2 hYz hp0 (hLc _ _) hF hc (ao := ao) hk
    obtain ⟨hM, c3⟩ := l_call (σ' := σ1) hp c2 (m_members_ok hp1 (d := 24) (F := Fm) hm)
    obtain ⟨hT, c4⟩ := l_call hp c3 (m_thrown_ok hp1 (d := 30) ht)
    have q1 := l_R q0 hX.1 hX.2.1 c2 hb
    exact lA_members_T C hG hi hL (l_S hp hc) (l_S hp c2) hX (l_bc hp c2 rfl) (l_bc hp c3 rfl) hM hT (by decide) q0 q1 q1 (fun lv' hG' => kk lv' _ _ _ hG' c4 q1)
def s_learners (c : CS) (σ : RS) (p1 : Int32) (p2 : Int32) (c' : CS) (σ' : RS) : Prop :=
  (∃ (F Fm : Nat) (v : Int32) (σ1 : RS), k_Face_learners F c 0 p1 p2 = some (v, c') ∧ m_learners Fm σ p1 p2 = some (v, σ1) ∧ m_thrown σ1 = some (0, σ')) ∨
  (∃ (F Fm : Nat) (v : Int32) (σ1 : RS), k_Face_host_J c 0 p1 = some () ∧ c' = ctick c ∧ m_learners Fm σ p1 p2 = some (v, σ1) ∧ m_thrown σ1 = some (1, σ'))
theorem lS_learners {p : Program} {l : Launch} (hl : l.stackTraces = false) {e : Env} {s : State} {m : MethodId} {args : Array Value} {below : List Frame} {meth : Method} {cd : Code} {G0 : Heap} {Y : State → Prop} {D : va_G} {dA : Nat → ClassId} {base t0 u0 : Nat} {Q : State → Prop} {pF : Nat → List Value → xH → Option (Option Value × xH)} (C : lwC p l s m args cd G0 Y D dA base pF) (hYz : ∀ U, Y U → zY G0 base U) (hp0 : xNPc pF) (hp1 : xNP pF) (hF : lcF pF) {lv : xL} {B b aR ao eD i L : Nat} {xs : Nat → Int32} {x0 : Nat → Value} {σ : RS} {g : CG} {c : CS} {h : xH} (hLc : ∀ x0 σ, lcAll (lE B b L xs ao x0 aR σ eD) pF) (hp : lP b ao aR eD) (hG : lwG lv b B aR ao i) (hi : i + 6 ≤ L) (hL : L ≤ 3074) (hc : CRep (lE B b L xs ao x0 aR σ eD) g c h) (q0 : lwR base t0 u0 h) {c' : CS} {σ' : RS} (hs : s_learners c σ (xs (i + 1)) (xs (i + 2)) c' σ') (hb : (cT c').1 - t0 ≤ 600000 ∧ (cT c').2 - u0 ≤ 7200000)
    (kk : ∀ lv' g' x0' h', lwG lv' b B aR ao i → CRep (lE B b L xs ao x0' aR σ' eD) g' c' h' → lwR base t0 u0 h' → lwW p l e s m args below meth cd G0 D dA base t0 u0 Q 2147 lv' [] h') : lwW p l e s m args below meth cd G0 D dA base t0 u0 Q 1279 lv [] h := by
  rcases hs with ⟨F, Fm, v, σ1, hk, hm, ht⟩ | ⟨F, Fm, v, σ1, hk, hcc, hm, ht⟩
  · skip
    obtain ⟨g', h', c1, hX⟩ := fN_learners C.2.2.2.2.2.2 hp0 (hLc _ _) hF hc (lX_ao hp) hk
    have c2 := l_out hp c1 (if v = 0 then 0 else 1)
    obtain ⟨hM, c3⟩ := l_call (σ' := σ1) hp c2 (m_learners_ok hp1 (d := 24) (F := Fm) hm)
    obtain ⟨hT, c4⟩ := l_call hp c3 (m_thrown_ok hp1 (d := 30) ht)
    have q1 := l_R q0 hX.1 hX.2.1 c2 hb
    exact lA_learners_N C hG hi hL (l_S hp hc) (l_S hp c2) hX (l_bc hp c2 rfl) (l_bc hp c3 rfl) hM hT ⟨by rw [l_ao hp c4], by rw [l_ao hp c4], by rw [l_ao hp c4]; rfl⟩ q0 q1 q1 (fun lv' hG' => kk lv' _ _ _ hG' c4 q1)
  · subst hcc
    obtain ⟨g', h', c2, -, hX⟩ := fT_learners_C hl C.2.2.2.2.2.2 hYz hp0 (hLc _ _) hF hc (ao := ao) hk
    obtain ⟨hM, c3⟩ := l_call (σ' := σ1) hp c2 (m_learners_ok hp1 (d := 24) (F := Fm) hm)
    obtain ⟨hT, c4⟩ := l_call hp c3 (m_thrown_ok hp1 (d := 30) ht)
    have q1 := l_R q0 hX.1 hX.2.1 c2 hb
    exact lA_learners_T C hG hi hL (l_S hp hc) (l_S hp c2) hX (l_bc hp c2 rfl) (l_bc hp c3 rfl) hM hT (by decide) q0 q1 q1 (fun lv' hG' => kk lv' _ _ _ hG' c4 q1)
def s_hand (c : CS) (σ : RS) (p1 : Int32) (p2 : Int32) (c' : CS) (σ' : RS) : Prop :=
  (∃ (F Fm : Nat) (v : Int32) (σ1 : RS), k_Face_hand F c 0 p1 p2 = some (v, c') ∧ m_hand Fm σ p1 p2 = some (v, σ1) ∧ m_thrown σ1 = some (0, σ')) ∨
  (∃ (F Fm : Nat) (v : Int32) (σ1 : RS), k_Face_host_J c 0 p1 = some () ∧ c' = ctick c ∧ m_hand Fm σ p1 p2 = some (v, σ1) ∧ m_thrown σ1 = some (1, σ'))
theorem lS_hand {p : Program} {l : Launch} (hl : l.stackTraces = false) {e : Env} {s : State} {m : MethodId} {args : Array Value} {below : List Frame} {meth : Method} {cd : Code} {G0 : Heap} {Y : State → Prop} {D : va_G} {dA : Nat → ClassId} {base t0 u0 : Nat} {Q : State → Prop} {pF : Nat → List Value → xH → Option (Option Value × xH)} (C : lwC p l s m args cd G0 Y D dA base pF) (hYz : ∀ U, Y U → zY G0 base U) (hp0 : xNPc pF) (hp1 : xNP pF) (hF : lcF pF) {lv : xL} {B b aR ao eD i L : Nat} {xs : Nat → Int32} {x0 : Nat → Value} {σ : RS} {g : CG} {c : CS} {h : xH} (hLc : ∀ x0 σ, lcAll (lE B b L xs ao x0 aR σ eD) pF) (hp : lP b ao aR eD) (hG : lwG lv b B aR ao i) (hi : i + 6 ≤ L) (hL : L ≤ 3074) (hc : CRep (lE B b L xs ao x0 aR σ eD) g c h) (q0 : lwR base t0 u0 h) {c' : CS} {σ' : RS} (hs : s_hand c σ (xs (i + 1)) (xs (i + 2)) c' σ') (hb : (cT c').1 - t0 ≤ 600000 ∧ (cT c').2 - u0 ≤ 7200000)
    (kk : ∀ lv' g' x0' h', lwG lv' b B aR ao i → CRep (lE B b L xs ao x0' aR σ' eD) g' c' h' → lwR base t0 u0 h' → lwW p l e s m args below meth cd G0 D dA base t0 u0 Q 2147 lv' [] h') : lwW p l e s m args below meth cd G0 D dA base t0 u0 Q 1354 lv [] h := by
  rcases hs with ⟨F, Fm, v, σ1, hk, hm, ht⟩ | ⟨F, Fm, v, σ1, hk, hcc, hm, ht⟩
  · skip
    obtain ⟨g', h', c1, hX⟩ := fN_hand C.2.2.2.2.2.2 hp0 (hLc _ _) hF hc (lX_ao hp) hk
    have c2 := l_out hp c1 (if v = 0 then 0 else 1)
    obtain ⟨hM, c3⟩ := l_call (σ' := σ1) hp c2 (m_hand_ok hp1 (d := 25) (F := Fm) hm)
    obtain ⟨hT, c4⟩ := l_call hp c3 (m_thrown_ok hp1 (d := 30) ht)
    have q1 := l_R q0 hX.1 hX.2.1 c2 hb
    exact lA_hand_N C hG hi hL (l_S hp hc) (l_S hp c2) hX (l_bc hp c2 rfl) (l_bc hp c3 rfl) hM hT ⟨by rw [l_ao hp c4], by rw [l_ao hp c4], by rw [l_ao hp c4]; rfl⟩ q0 q1 q1 (fun lv' hG' => kk lv' _ _ _ hG' c4 q1)
  · subst hcc
    obtain ⟨g', h', c2, -, hX⟩ := fT_hand_C hl C.2.2.2.2.2.2 hYz hp0 (hLc _ _) hF hc (ao := ao) hk
    obtain ⟨hM, c3⟩ := l_call (σ' := σ1) hp c2 (m_hand_ok hp1 (d := 25) (F := Fm) hm)
    obtain ⟨hT, c4⟩ := l_call hp c3 (m_thrown_ok hp1 (d := 30) ht)
    have q1 := l_R q0 hX.1 hX.2.1 c2 hb
    exact lA_hand_T C hG hi hL (l_S hp hc) (l_S hp c2) hX (l_bc hp c2 rfl) (l_bc hp c3 rfl) hM hT (by decide) q0 q1 q1 (fun lv' hG' => kk lv' _ _ _ hG' c4 q1)
def s_now (c : CS) (σ : RS) (c' : CS) (σ' : RS) : Prop := ∃ (F Fm : Nat) (v : Int32), k_Face_now c 0  = some v ∧ c' = c ∧ m_now σ  = some (v, σ')
theorem lS_now {p : Program} {l : Launch} (hl : l.stackTraces = false) {e : Env} {s : State} {m : MethodId} {args : Array Value} {below : List Frame} {meth : Method} {cd : Code} {G0 : Heap} {Y : State → Prop} {D : va_G} {dA : Nat → ClassId} {base t0 u0 : Nat} {Q : State → Prop} {pF : Nat → List Value → xH → Option (Option Value × xH)} (C : lwC p l s m args cd G0 Y D dA base pF) (hYz : ∀ U, Y U → zY G0 base U) (hp0 : xNPc pF) (hp1 : xNP pF) (hF : lcF pF) {lv : xL} {B b aR ao eD i L : Nat} {xs : Nat → Int32} {x0 : Nat → Value} {σ : RS} {g : CG} {c : CS} {h : xH} (hLc : ∀ x0 σ, lcAll (lE B b L xs ao x0 aR σ eD) pF) (hp : lP b ao aR eD) (hG : lwG lv b B aR ao i) (hi : i + 6 ≤ L) (hL : L ≤ 3074) (hc : CRep (lE B b L xs ao x0 aR σ eD) g c h) (q0 : lwR base t0 u0 h) {c' : CS} {σ' : RS} (hs : s_now c σ c' σ') (hb : (cT c').1 - t0 ≤ 600000 ∧ (cT c').2 - u0 ≤ 7200000)
    (kk : ∀ lv' g' x0' h', lwG lv' b B aR ao i → CRep (lE B b L xs ao x0' aR σ' eD) g' c' h' → lwR base t0 u0 h' → lwW p l e s m args below meth cd G0 D dA base t0 u0 Q 2147 lv' [] h') : lwW p l e s m args below meth cd G0 D dA base t0 u0 Q 1429 lv [] h := by
  obtain ⟨F, Fm, v, hk, hcc, hm⟩ := hs
  subst hcc
  obtain ⟨g', h', c2, -, -, hX⟩ := k_Face_now_ok hp0 (hLc _ _) hF (d := 30) cob15 hk h hc
  obtain ⟨hM, c3⟩ := l_call (σ' := σ') hp c2 (m_now_ok hp1 (d := 30) hm)
  have hmo := xCo_mono (fun {F} => x_all (F := F) C.2.2.2.2.2.2 kk_hk 31) hX
  have q1 := l_R q0 hmo.1 hmo.2 c2 hb
  exact lA_now_N C hG hi hL (l_S hp hc) (l_S hp c2) (c15_bc hc rfl) (l_bc hp c2 rfl) hX hM q0 q1 (fun lv' hG' => kk lv' _ _ _ hG' c3 q1)
def s_server (c : CS) (σ : RS) (p1 : Int32) (p2 : Int32) (c' : CS) (σ' : RS) : Prop :=
  (∃ (F Fm : Nat) (v : Int32) (σ1 : RS), k_Face_server c 0 p1 p2 = some v ∧ c' = c ∧ m_server Fm σ p1 p2 = some (v, σ1) ∧ m_thrown σ1 = some (0, σ')) ∨
  (∃ (F Fm : Nat) (v : Int32) (σ1 : RS), k_Face_server_J c 0 p1 p2 = some () ∧ c' = ctick c ∧ m_server Fm σ p1 p2 = some (v, σ1) ∧ m_thrown σ1 = some (1, σ')) ∨
  (∃ (F Fm : Nat) (v : Int32) (σ1 : RS), k_Face_host_J c 0 p1 = some () ∧ c' = ctick c ∧ m_server Fm σ p1 p2 = some (v, σ1) ∧ m_thrown σ1 = some (1, σ'))
theorem lS_server {p : Program} {l : Launch} (hl : l.stackTraces = false) {e : Env} {s : State} {m : MethodId} {args : Array Value} {below : List Frame} {meth : Method} {cd : Code} {G0 : Heap} {Y : State → Prop} {D : va_G} {dA : Nat → ClassId} {base t0 u0 : Nat} {Q : State → Prop} {pF : Nat → List Value → xH → Option (Option Value × xH)} (C : lwC p l s m args cd G0 Y D dA base pF) (hYz : ∀ U, Y U → zY G0 base U) (hp0 : xNPc pF) (hp1 : xNP pF) (hF : lcF pF) {lv : xL} {B b aR ao eD i L : Nat} {xs : Nat → Int32} {x0 : Nat → Value} {σ : RS} {g : CG} {c : CS} {h : xH} (hLc : ∀ x0 σ, lcAll (lE B b L xs ao x0 aR σ eD) pF) (hp : lP b ao aR eD) (hG : lwG lv b B aR ao i) (hi : i + 6 ≤ L) (hL : L ≤ 3074) (hc : CRep (lE B b L xs ao x0 aR σ eD) g c h) (q0 : lwR base t0 u0 h) {c' : CS} {σ' : RS} (hs : s_server c σ (xs (i + 1)) (xs (i + 2)) c' σ') (hb : (cT c').1 - t0 ≤ 600000 ∧ (cT c').2 - u0 ≤ 7200000)
    (kk : ∀ lv' g' x0' h', lwG lv' b B aR ao i → CRep (lE B b L xs ao x0' aR σ' eD) g' c' h' → lwR base t0 u0 h' → lwW p l e s m args below meth cd G0 D dA base t0 u0 Q 2147 lv' [] h') : lwW p l e s m args below meth cd G0 D dA base t0 u0 Q 1442 lv [] h := by
  rcases hs with ⟨F, Fm, v, σ1, hk, hcc, hm, ht⟩ | ⟨F, Fm, v, σ1, hk, hcc, hm, ht⟩ | ⟨F, Fm, v, σ1, hk, hcc, hm, ht⟩
  · subst hcc
    obtain ⟨g', h', c1, hX⟩ := fN_server C.2.2.2.2.2.2 hp0 (hLc _ _) hF hc (lX_ao hp) hk
    have c2 := l_out hp c1 v.toInt64
    obtain ⟨hM, c3⟩ := l_call (σ' := σ1) hp c2 (m_server_ok hp1 (d := 29) (F := Fm) hm)
    obtain ⟨hT, c4⟩ := l_call hp c3 (m_thrown_ok hp1 (d := 30) ht)
    have q1 := l_R q0 hX.1 hX.2.1 c2 hb
    exact lA_server_N C hG hi hL (l_S hp hc) (l_S hp c2) hX (l_bc hp c2 rfl) (l_bc hp c3 rfl) hM hT ⟨by rw [l_ao hp c4], by rw [l_ao hp c4], by rw [l_ao hp c4]; rfl⟩ q0 q1 q1 (fun lv' hG' => kk lv' _ _ _ hG' c4 q1)
  · subst hcc
    obtain ⟨g', h', c2, -, hX⟩ := fT_server_J hl C.2.2.2.2.2.2 hYz hp0 (hLc _ _) hF hc (ao := ao) hk
    obtain ⟨hM, c3⟩ := l_call (σ' := σ1) hp c2 (m_server_ok hp1 (d := 29) (F := Fm) hm)
    obtain ⟨hT, c4⟩ := l_call hp c3 (m_thrown_ok hp1 (d := 30) ht)
    have q1 := l_R q0 hX.1 hX.2.1 c2 hb
    exact lA_server_T C hG hi hL (l_S hp hc) (l_S hp c2) hX (l_bc hp c2 rfl) (l_bc hp c3 rfl) hM hT (by decide) q0 q1 q1 (fun lv' hG' => kk lv' _ _ _ hG' c4 q1)
  · subst hcc
    obtain ⟨g', h', c2, -, hX⟩ := fT_server_C hl C.2.2.2.2.2.2 hYz hp0 (hLc _ _) hF hc (ao := ao) hk
    obtain ⟨hM, c3⟩ := l_call (σ' := σ1) hp c2 (m_server_ok hp1 (d := 29) (F := Fm) hm)
    obtain ⟨hT, c4⟩ := l_call hp c3 (m_thrown_ok hp1 (d := 30) ht)
    have q1 := l_R q0 hX.1 hX.2.1 c2 hb
    exact lA_server_T C hG hi hL (l_S hp hc) (l_S hp c2) hX (l_bc hp c2 rfl) (l_bc hp c3 rfl) hM hT (by decide) q0 q1 q1 (fun lv' hG' => kk lv' _ _ _ hG' c4 q1)
def s_entry (c : CS) (σ : RS) (p1 : Int32) (p2 : Int32) (p3 : Int32) (c' : CS) (σ' : RS) : Prop :=
  (∃ (F Fm : Nat) (v : Int32) (σ1 : RS), k_Face_entry c 0 p1 p2 p3 = some v ∧ c' = c ∧ m_entry σ p1 p2 p3 = some (v, σ1) ∧ m_thrown σ1 = some (0, σ')) ∨
  (∃ (F Fm : Nat) (v : Int32) (σ1 : RS), k_Face_entry_J c 0 p1 p2 p3 = some () ∧ c' = ctick c ∧ m_entry σ p1 p2 p3 = some (v, σ1) ∧ m_thrown σ1 = some (1, σ')) ∨
  (∃ (F Fm : Nat) (v : Int32) (σ1 : RS), k_Face_host_J c 0 p1 = some () ∧ c' = ctick c ∧ m_entry σ p1 p2 p3 = some (v, σ1) ∧ m_thrown σ1 = some (1, σ'))
theorem lS_entry {p : Program} {l : Launch} (hl : l.stackTraces = false) {e : Env} {s : State} {m : MethodId} {args : Array Value} {below : List Frame} {meth : Method} {cd : Code} {G0 : Heap} {Y : State → Prop} {D : va_G} {dA : Nat → ClassId} {base t0 u0 : Nat} {Q : State → Prop} {pF : Nat → List Value → xH → Option (Option Value × xH)} (C : lwC p l s m args cd G0 Y D dA base pF) (hYz : ∀ U, Y U → zY G0 base U) (hp0 : xNPc pF) (hp1 : xNP pF) (hF : lcF pF) {lv : xL} {B b aR ao eD i L : Nat} {xs : Nat → Int32} {x0 : Nat → Value} {σ : RS} {g : CG} {c : CS} {h : xH} (hLc : ∀ x0 σ, lcAll (lE B b L xs ao x0 aR σ eD) pF) (hp : lP b ao aR eD) (hG : lwG lv b B aR ao i) (hi : i + 6 ≤ L) (hL : L ≤ 3074) (hc : CRep (lE B b L xs ao x0 aR σ eD) g c h) (q0 : lwR base t0 u0 h) {c' : CS} {σ' : RS} (hs : s_entry c σ (xs (i + 1)) (xs (i + 2)) (xs (i + 3)) c' σ') (hb : (cT c').1 - t0 ≤ 600000 ∧ (cT c').2 - u0 ≤ 7200000)
    (kk : ∀ lv' g' x0' h', lwG lv' b B aR ao i → CRep (lE B b L xs ao x0' aR σ' eD) g' c' h' → lwR base t0 u0 h' → lwW p l e s m args below meth cd G0 D dA base t0 u0 Q 2147 lv' [] h') : lwW p l e s m args below meth cd G0 D dA base t0 u0 Q 1510 lv [] h := by
  rcases hs with ⟨F, Fm, v, σ1, hk, hcc, hm, ht⟩ | ⟨F, Fm, v, σ1, hk, hcc, hm, ht⟩ | ⟨F, Fm, v, σ1, hk, hcc, hm, ht⟩
  · subst hcc
    obtain ⟨g', h', c1, hX⟩ := fN_entry C.2.2.2.2.2.2 hp0 (hLc _ _) hF hc (lX_ao hp) hk
    have c2 := l_out hp c1 v.toInt64
    obtain ⟨hM, c3⟩ := l_call (σ' := σ1) hp c2 (m_entry_ok hp1 (d := 28) hm)
    obtain ⟨hT, c4⟩ := l_call hp c3 (m_thrown_ok hp1 (d := 30) ht)
    have q1 := l_R q0 hX.1 hX.2.1 c2 hb
    exact lA_entry_N C hG hi hL (l_S hp hc) (l_S hp c2) hX (l_bc hp c2 rfl) (l_bc hp c3 rfl) hM hT ⟨by rw [l_ao hp c4], by rw [l_ao hp c4], by rw [l_ao hp c4]; rfl⟩ q0 q1 q1 (fun lv' hG' => kk lv' _ _ _ hG' c4 q1)
  · subst hcc
    obtain ⟨g', h', c2, -, hX⟩ := fT_entry_J hl C.2.2.2.2.2.2 hYz hp0 (hLc _ _) hF hc (ao := ao) hk
    obtain ⟨hM, c3⟩ := l_call (σ' := σ1) hp c2 (m_entry_ok hp1 (d := 28) hm)
    obtain ⟨hT, c4⟩ := l_call hp c3 (m_thrown_ok hp1 (d := 30) ht)
    have q1 := l_R q0 hX.1 hX.2.1 c2 hb
    exact lA_entry_T C hG hi hL (l_S hp hc) (l_S hp c2) hX (l_bc hp c2 rfl) (l_bc hp c3 rfl) hM hT (by decide) q0 q1 q1 (fun lv' hG' => kk lv' _ _ _ hG' c4 q1)
  · subst hcc
    obtain ⟨g', h', c2, -, hX⟩ := fT_entry_C hl C.2.2.2.2.2.2 hYz hp0 (hLc _ _) hF hc (ao := ao) hk
    obtain ⟨hM, c3⟩ := l_call (σ' := σ1) hp c2 (m_entry_ok hp1 (d := 28) hm)
    obtain ⟨hT, c4⟩ := l_call hp c3 (m_thrown_ok hp1 (d := 30) ht)
    have q1 := l_R q0 hX.1 hX.2.1 c2 hb
    exact lA_entry_T C hG hi hL (l_S hp hc) (l_S hp c2) hX (l_bc hp c2 rfl) (l_bc hp c3 rfl) hM hT (by decide) q0 q1 q1 (fun lv' hG' => kk lv' _ _ _ hG' c4 q1)
def s_file (c : CS) (σ : RS) (p1 : Int32) (p2 : Int32) (p3 : Int32) (c' : CS) (σ' : RS) : Prop :=
  (∃ (F Fm : Nat) (v : Int32) (σ1 : RS), k_Face_file c 0 p1 p2 p3 = some v ∧ c' = c ∧ m_file σ p1 p2 p3 = some (v, σ1) ∧ m_thrown σ1 = some (0, σ')) ∨
  (∃ (F Fm : Nat) (v : Int32) (σ1 : RS), k_Face_file_J c 0 p1 p2 p3 = some () ∧ c' = ctick c ∧ m_file σ p1 p2 p3 = some (v, σ1) ∧ m_thrown σ1 = some (1, σ')) ∨
  (∃ (F Fm : Nat) (v : Int32) (σ1 : RS), k_Face_host_J c 0 p1 = some () ∧ c' = ctick c ∧ m_file σ p1 p2 p3 = some (v, σ1) ∧ m_thrown σ1 = some (1, σ'))
theorem lS_file {p : Program} {l : Launch} (hl : l.stackTraces = false) {e : Env} {s : State} {m : MethodId} {args : Array Value} {below : List Frame} {meth : Method} {cd : Code} {G0 : Heap} {Y : State → Prop} {D : va_G} {dA : Nat → ClassId} {base t0 u0 : Nat} {Q : State → Prop} {pF : Nat → List Value → xH → Option (Option Value × xH)} (C : lwC p l s m args cd G0 Y D dA base pF) (hYz : ∀ U, Y U → zY G0 base U) (hp0 : xNPc pF) (hp1 : xNP pF) (hF : lcF pF) {lv : xL} {B b aR ao eD i L : Nat} {xs : Nat → Int32} {x0 : Nat → Value} {σ : RS} {g : CG} {c : CS} {h : xH} (hLc : ∀ x0 σ, lcAll (lE B b L xs ao x0 aR σ eD) pF) (hp : lP b ao aR eD) (hG : lwG lv b B aR ao i) (hi : i + 6 ≤ L) (hL : L ≤ 3074) (hc : CRep (lE B b L xs ao x0 aR σ eD) g c h) (q0 : lwR base t0 u0 h) {c' : CS} {σ' : RS} (hs : s_file c σ (xs (i + 1)) (xs (i + 2)) (xs (i + 3)) c' σ') (hb : (cT c').1 - t0 ≤ 600000 ∧ (cT c').2 - u0 ≤ 7200000)
    (kk : ∀ lv' g' x0' h', lwG lv' b B aR ao i → CRep (lE B b L xs ao x0' aR σ' eD) g' c' h' → lwR base t0 u0 h' → lwW p l e s m args below meth cd G0 D dA base t0 u0 Q 2147 lv' [] h') : lwW p l e s m args below meth cd G0 D dA base t0 u0 Q 1590 lv [] h := by
  rcases hs with ⟨F, Fm, v, σ1, hk, hcc, hm, ht⟩ | ⟨F, Fm, v, σ1, hk, hcc, hm, ht⟩ | ⟨F, Fm, v, σ1, hk, hcc, hm, ht⟩
  · subst hcc
    obtain ⟨g', h', c1, hX⟩ := fN_file C.2.2.2.2.2.2 hp0 (hLc _ _) hF hc (lX_ao hp) hk
    have c2 := l_out hp c1 v.toInt64
    obtain ⟨hM, c3⟩ := l_call (σ' := σ1) hp c2 (m_file_ok hp1 (d := 29) hm)
    obtain ⟨hT, c4⟩ := l_call hp c3 (m_thrown_ok hp1 (d := 30) ht)
    have q1 := l_R q0 hX.1 hX.2.1 c2 hb
    exact lA_file_N C hG hi hL (l_S hp hc) (l_S hp c2) hX (l_bc hp c2 rfl) (l_bc hp c3 rfl) hM hT ⟨by rw [l_ao hp c4], by rw [l_ao hp c4], by rw [l_ao hp c4]; rfl⟩ q0 q1 q1 (fun lv' hG' => kk lv' _ _ _ hG' c4 q1)
  · subst hcc
    obtain ⟨g', h', c2, -, hX⟩ := fT_file_J hl C.2.2.2.2.2.2 hYz hp0 (hLc _ _) hF hc (ao := ao) hk
    obtain ⟨hM, c3⟩ := l_call (σ' := σ1) hp c2 (m_file_ok hp1 (d := 29) hm)
    obtain ⟨hT, c4⟩ := l_call hp c3 (m_thrown_ok hp1 (d := 30) ht)
    have q1 := l_R q0 hX.1 hX.2.1 c2 hb
    exact lA_file_T C hG hi hL (l_S hp hc) (l_S hp c2) hX (l_bc hp c2 rfl) (l_bc hp c3 rfl) hM hT (by decide) q0 q1 q1 (fun lv' hG' => kk lv' _ _ _ hG' c4 q1)
  · subst hcc
    obtain ⟨g', h', c2, -, hX⟩ := fT_file_C hl C.2.2.2.2.2.2 hYz hp0 (hLc _ _) hF hc (ao := ao) hk
    obtain ⟨hM, c3⟩ := l_call (σ' := σ1) hp c2 (m_file_ok hp1 (d := 29) hm)
    obtain ⟨hT, c4⟩ := l_call hp c3 (m_thrown_ok hp1 (d := 30) ht)
    have q1 := l_R q0 hX.1 hX.2.1 c2 hb
    exact lA_file_T C hG hi hL (l_S hp hc) (l_S hp c2) hX (l_bc hp c2 rfl) (l_bc hp c3 rfl) hM hT (by decide) q0 q1 q1 (fun lv' hG' => kk lv' _ _ _ hG' c4 q1)
def s_key (c : CS) (σ : RS) (p1 : Int32) (p2 : Int32) (c' : CS) (σ' : RS) : Prop :=
  (∃ (F Fm : Nat) (v : Int32) (σ1 : RS), k_Face_key c 0 p1 p2 = some (v, c') ∧ m_key Fm σ p1 p2 = some (v, σ1) ∧ m_thrown σ1 = some (0, σ')) ∨
  (∃ (F Fm : Nat) (v : Int32) (σ1 : RS), k_Face_machineWith_J c 0 p1 p2 = some () ∧ c' = ctick c ∧ m_key Fm σ p1 p2 = some (v, σ1) ∧ m_thrown σ1 = some (1, σ')) ∨
  (∃ (F Fm : Nat) (v : Int32) (σ1 : RS), k_Face_host_J c 0 p1 = some () ∧ c' = ctick c ∧ m_key Fm σ p1 p2 = some (v, σ1) ∧ m_thrown σ1 = some (1, σ'))
theorem lS_key {p : Program} {l : Launch} (hl : l.stackTraces = false) {e : Env} {s : State} {m : MethodId} {args : Array Value} {below : List Frame} {meth : Method} {cd : Code} {G0 : Heap} {Y : State → Prop} {D : va_G} {dA : Nat → ClassId} {base t0 u0 : Nat} {Q : State → Prop} {pF : Nat → List Value → xH → Option (Option Value × xH)} (C : lwC p l s m args cd G0 Y D dA base pF) (hYz : ∀ U, Y U → zY G0 base U) (hp0 : xNPc pF) (hp1 : xNP pF) (hF : lcF pF) {lv : xL} {B b aR ao eD i L : Nat} {xs : Nat → Int32} {x0 : Nat → Value} {σ : RS} {g : CG} {c : CS} {h : xH} (hLc : ∀ x0 σ, lcAll (lE B b L xs ao x0 aR σ eD) pF) (hp : lP b ao aR eD) (hG : lwG lv b B aR ao i) (hi : i + 6 ≤ L) (hL : L ≤ 3074) (hc : CRep (lE B b L xs ao x0 aR σ eD) g c h) (q0 : lwR base t0 u0 h) {c' : CS} {σ' : RS} (hs : s_key c σ (xs (i + 1)) (xs (i + 2)) c' σ') (hb : (cT c').1 - t0 ≤ 600000 ∧ (cT c').2 - u0 ≤ 7200000)
    (kk : ∀ lv' g' x0' h', lwG lv' b B aR ao i → CRep (lE B b L xs ao x0' aR σ' eD) g' c' h' → lwR base t0 u0 h' → lwW p l e s m args below meth cd G0 D dA base t0 u0 Q 2147 lv' [] h') : lwW p l e s m args below meth cd G0 D dA base t0 u0 Q 1670 lv [] h := by
  rcases hs with ⟨F, Fm, v, σ1, hk, hm, ht⟩ | ⟨F, Fm, v, σ1, hk, hcc, hm, ht⟩ | ⟨F, Fm, v, σ1, hk, hcc, hm, ht⟩
  · skip
    obtain ⟨g', h', c1, hX⟩ := fN_key C.2.2.2.2.2.2 hp0 (hLc _ _) hF hc (lX_ao hp) hk
    have c2 := l_out hp c1 v.toInt64
    obtain ⟨hM, c3⟩ := l_call (σ' := σ1) hp c2 (m_key_ok hp1 (d := 28) (F := Fm) hm)
    obtain ⟨hT, c4⟩ := l_call hp c3 (m_thrown_ok hp1 (d := 30) ht)
    have q1 := l_R q0 hX.1 hX.2.1 c2 hb
    exact lA_key_N C hG hi hL (l_S hp hc) (l_S hp c2) hX (l_bc hp c2 rfl) (l_bc hp c3 rfl) hM hT ⟨by rw [l_ao hp c4], by rw [l_ao hp c4], by rw [l_ao hp c4]; rfl⟩ q0 q1 q1 (fun lv' hG' => kk lv' _ _ _ hG' c4 q1)
  · subst hcc
    obtain ⟨g', h', c2, -, hX⟩ := fT_key_C1 hl C.2.2.2.2.2.2 hYz hp0 (hLc _ _) hF hc (ao := ao) hk
    obtain ⟨hM, c3⟩ := l_call (σ' := σ1) hp c2 (m_key_ok hp1 (d := 28) (F := Fm) hm)
    obtain ⟨hT, c4⟩ := l_call hp c3 (m_thrown_ok hp1 (d := 30) ht)
    have q1 := l_R q0 hX.1 hX.2.1 c2 hb
    exact lA_key_T C hG hi hL (l_S hp hc) (l_S hp c2) hX (l_bc hp c2 rfl) (l_bc hp c3 rfl) hM hT (by decide) q0 q1 q1 (fun lv' hG' => kk lv' _ _ _ hG' c4 q1)
  · subst hcc
    obtain ⟨g', h', c2, -, hX⟩ := fT_key_C2 hl C.2.2.2.2.2.2 hYz hp0 (hLc _ _) hF hc (ao := ao) hk
    obtain ⟨hM, c3⟩ := l_call (σ' := σ1) hp c2 (m_key_ok hp1 (d := 28) (F := Fm) hm)
    obtain ⟨hT, c4⟩ := l_call hp c3 (m_thrown_ok hp1 (d := 30) ht)
    have q1 := l_R q0 hX.1 hX.2.1 c2 hb
    exact lA_key_T C hG hi hL (l_S hp hc) (l_S hp c2) hX (l_bc hp c2 rfl) (l_bc hp c3 rfl) hM hT (by decide) q0 q1 q1 (fun lv' hG' => kk lv' _ _ _ hG' c4 q1)
def s_value (c : CS) (σ : RS) (p1 : Int32) (p2 : Int32) (c' : CS) (σ' : RS) : Prop :=
  (∃ (F Fm : Nat) (v : Int32) (σ1 : RS), k_Face_value c 0 p1 p2 = some (v, c') ∧ m_value Fm σ p1 p2 = some (v, σ1) ∧ m_thrown σ1 = some (0, σ')) ∨
  (∃ (F Fm : Nat) (v : Int32) (σ1 : RS), k_Face_machineWith_J c 0 p1 p2 = some () ∧ c' = ctick c ∧ m_value Fm σ p1 p2 = some (v, σ1) ∧ m_thrown σ1 = some (1, σ')) ∨
  (∃ (F Fm : Nat) (v : Int32) (σ1 : RS), k_Face_host_J c 0 p1 = some () ∧ c' = ctick c ∧ m_value Fm σ p1 p2 = some (v, σ1) ∧ m_thrown σ1 = some (1, σ'))
theorem lS_value {p : Program} {l : Launch} (hl : l.stackTraces = false) {e : Env} {s : State} {m : MethodId} {args : Array Value} {below : List Frame} {meth : Method} {cd : Code} {G0 : Heap} {Y : State → Prop} {D : va_G} {dA : Nat → ClassId} {base t0 u0 : Nat} {Q : State → Prop} {pF : Nat → List Value → xH → Option (Option Value × xH)} (C : lwC p l s m args cd G0 Y D dA base pF) (hYz : ∀ U, Y U → zY G0 base U) (hp0 : xNPc pF) (hp1 : xNP pF) (hF : lcF pF) {lv : xL} {B b aR ao eD i L : Nat} {xs : Nat → Int32} {x0 : Nat → Value} {σ : RS} {g : CG} {c : CS} {h : xH} (hLc : ∀ x0 σ, lcAll (lE B b L xs ao x0 aR σ eD) pF) (hp : lP b ao aR eD) (hG : lwG lv b B aR ao i) (hi : i + 6 ≤ L) (hL : L ≤ 3074) (hc : CRep (lE B b L xs ao x0 aR σ eD) g c h) (q0 : lwR base t0 u0 h) {c' : CS} {σ' : RS} (hs : s_value c σ (xs (i + 1)) (xs (i + 2)) c' σ') (hb : (cT c').1 - t0 ≤ 600000 ∧ (cT c').2 - u0 ≤ 7200000)
    (kk : ∀ lv' g' x0' h', lwG lv' b B aR ao i → CRep (lE B b L xs ao x0' aR σ' eD) g' c' h' → lwR base t0 u0 h' → lwW p l e s m args below meth cd G0 D dA base t0 u0 Q 2147 lv' [] h') : lwW p l e s m args below meth cd G0 D dA base t0 u0 Q 1738 lv [] h := by
  rcases hs with ⟨F, Fm, v, σ1, hk, hm, ht⟩ | ⟨F, Fm, v, σ1, hk, hcc, hm, ht⟩ | ⟨F, Fm, v, σ1, hk, hcc, hm, ht⟩
  · skip
    obtain ⟨g', h', c1, hX⟩ := fN_value C.2.2.2.2.2.2 hp0 (hLc _ _) hF hc (lX_ao hp) hk
    have c2 := l_out hp c1 v.toInt64
    obtain ⟨hM, c3⟩ := l_call (σ' := σ1) hp c2 (m_value_ok hp1 (d := 28) (F := Fm) hm)
    obtain ⟨hT, c4⟩ := l_call hp c3 (m_thrown_ok hp1 (d := 30) ht)
    have q1 := l_R q0 hX.1 hX.2.1 c2 hb
    exact lA_value_N C hG hi hL (l_S hp hc) (l_S hp c2) hX (l_bc hp c2 rfl) (l_bc hp c3 rfl) hM hT ⟨by rw [l_ao hp c4], by rw [l_ao hp c4], by rw [l_ao hp c4]; rfl⟩ q0 q1 q1 (fun lv' hG' => kk lv' _ _ _ hG' c4 q1)
  · subst hcc
    obtain ⟨g', h', c2, -, hX⟩ := fT_value_C1 hl C.2.2.2.2.2.2 hYz hp0 (hLc _ _) hF hc (ao := ao) hk
    obtain ⟨hM, c3⟩ := l_call (σ' := σ1) hp c2 (m_value_ok hp1 (d := 28) (F := Fm) hm)
    obtain ⟨hT, c4⟩ := l_call hp c3 (m_thrown_ok hp1 (d := 30) ht)
    have q1 := l_R q0 hX.1 hX.2.1 c2 hb
    exact lA_value_T C hG hi hL (l_S hp hc) (l_S hp c2) hX (l_bc hp c2 rfl) (l_bc hp c3 rfl) hM hT (by decide) q0 q1 q1 (fun lv' hG' => kk lv' _ _ _ hG' c4 q1)
  · subst hcc
    obtain ⟨g', h', c2, -, hX⟩ := fT_value_C2 hl C.2.2.2.2.2.2 hYz hp0 (hLc _ _) hF hc (ao := ao) hk
    obtain ⟨hM, c3⟩ := l_call (σ' := σ1) hp c2 (m_value_ok hp1 (d := 28) (F := Fm) hm)
    obtain ⟨hT, c4⟩ := l_call hp c3 (m_thrown_ok hp1 (d := 30) ht)
    have q1 := l_R q0 hX.1 hX.2.1 c2 hb
    exact lA_value_T C hG hi hL (l_S hp hc) (l_S hp c2) hX (l_bc hp c2 rfl) (l_bc hp c3 rfl) hM hT (by decide) q0 q1 q1 (fun lv' hG' => kk lv' _ _ _ hG' c4 q1)
def s_message (c : CS) (σ : RS) (p1 : Int32) (p2 : Int32) (c' : CS) (σ' : RS) : Prop :=
  (∃ (F Fm : Nat) (v : Int32) (σ1 : RS), k_Face_message c 0 p1 p2 = some v ∧ c' = c ∧ m_message Fm σ p1 p2 = some (v, σ1) ∧ m_thrown σ1 = some (0, σ')) ∨
  (∃ (F Fm : Nat) (v : Int32) (σ1 : RS), k_Face_message_J c 0 p1 p2 = some () ∧ c' = ctick c ∧ m_message Fm σ p1 p2 = some (v, σ1) ∧ m_thrown σ1 = some (1, σ'))
theorem lS_message {p : Program} {l : Launch} (hl : l.stackTraces = false) {e : Env} {s : State} {m : MethodId} {args : Array Value} {below : List Frame} {meth : Method} {cd : Code} {G0 : Heap} {Y : State → Prop} {D : va_G} {dA : Nat → ClassId} {base t0 u0 : Nat} {Q : State → Prop} {pF : Nat → List Value → xH → Option (Option Value × xH)} (C : lwC p l s m args cd G0 Y D dA base pF) (hYz : ∀ U, Y U → zY G0 base U) (hp0 : xNPc pF) (hp1 : xNP pF) (hF : lcF pF) {lv : xL} {B b aR ao eD i L : Nat} {xs : Nat → Int32} {x0 : Nat → Value} {σ : RS} {g : CG} {c : CS} {h : xH} (hLc : ∀ x0 σ, lcAll (lE B b L xs ao x0 aR σ eD) pF) (hp : lP b ao aR eD) (hG : lwG lv b B aR ao i) (hi : i + 6 ≤ L) (hL : L ≤ 3074) (hc : CRep (lE B b L xs ao x0 aR σ eD) g c h) (q0 : lwR base t0 u0 h) {c' : CS} {σ' : RS} (hs : s_message c σ (xs (i + 1)) (xs (i + 2)) c' σ') (hb : (cT c').1 - t0 ≤ 600000 ∧ (cT c').2 - u0 ≤ 7200000)
    (kk : ∀ lv' g' x0' h', lwG lv' b B aR ao i → CRep (lE B b L xs ao x0' aR σ' eD) g' c' h' → lwR base t0 u0 h' → lwW p l e s m args below meth cd G0 D dA base t0 u0 Q 2147 lv' [] h') : lwW p l e s m args below meth cd G0 D dA base t0 u0 Q 1806 lv [] h := by
  rcases hs with ⟨F, Fm, v, σ1, hk, hcc, hm, ht⟩ | ⟨F, Fm, v, σ1, hk, hcc, hm, ht⟩
  · subst hcc
    obtain ⟨g', h', c1, hX⟩ := fN_message C.2.2.2.2.2.2 hp0 (hLc _ _) hF hc (lX_ao hp) hk
    have c2 := l_out hp c1 v.toInt64
    obtain ⟨hM, c3⟩ := l_call (σ' := σ1) hp c2 (m_message_ok hp1 (d := 29) (F := Fm) hm)
    obtain ⟨hT, c4⟩ := l_call hp c3 (m_thrown_ok hp1 (d := 30) ht)
    have q1 := l_R q0 hX.1 hX.2.1 c2 hb
    exact lA_message_N C hG hi hL (l_S hp hc) (l_S hp c2) hX (l_bc hp c2 rfl) (l_bc hp c3 rfl) hM hT ⟨by rw [l_ao hp c4], by rw [l_ao hp c4], by rw [l_ao hp c4]; rfl⟩ q0 q1 q1 (fun lv' hG' => kk lv' _ _ _ hG' c4 q1)
  · subst hcc
    obtain ⟨g', h', c2, -, hX⟩ := fT_message_J hl C.2.2.2.2.2.2 hYz hp0 (hLc _ _) hF hc (ao := ao) hk
    obtain ⟨hM, c3⟩ := l_call (σ' := σ1) hp c2 (m_message_ok hp1 (d := 29) (F := Fm) hm)
    obtain ⟨hT, c4⟩ := l_call hp c3 (m_thrown_ok hp1 (d := 30) ht)
    have q1 := l_R q0 hX.1 hX.2.1 c2 hb
    exact lA_message_T C hG hi hL (l_S hp hc) (l_S hp c2) hX (l_bc hp c2 rfl) (l_bc hp c3 rfl) hM hT (by decide) q0 q1 q1 (fun lv' hG' => kk lv' _ _ _ hG' c4 q1)
def s_client (c : CS) (σ : RS) (p1 : Int32) (p2 : Int32) (c' : CS) (σ' : RS) : Prop :=
  (∃ (F Fm : Nat) (v : Int32) (σ1 : RS), k_Face_client c 0 p1 p2 = some v ∧ c' = c ∧ m_client σ p1 p2 = some (v, σ1) ∧ m_thrown σ1 = some (0, σ')) ∨
  (∃ (F Fm : Nat) (v : Int32) (σ1 : RS), k_Face_client_J c 0 p1 p2 = some () ∧ c' = ctick c ∧ m_client σ p1 p2 = some (v, σ1) ∧ m_thrown σ1 = some (1, σ')) ∨
  (∃ (F Fm : Nat) (v : Int32) (σ1 : RS), k_Face_asker_J c 0 p1 = some () ∧ c' = ctick c ∧ m_client σ p1 p2 = some (v, σ1) ∧ m_thrown σ1 = some (1, σ'))
theorem lS_client {p : Program} {l : Launch} (hl : l.stackTraces = false) {e : Env} {s : State} {m : MethodId} {args : Array Value} {below : List Frame} {meth : Method} {cd : Code} {G0 : Heap} {Y : State → Prop} {D : va_G} {dA : Nat → ClassId} {base t0 u0 : Nat} {Q : State → Prop} {pF : Nat → List Value → xH → Option (Option Value × xH)} (C : lwC p l s m args cd G0 Y D dA base pF) (hYz : ∀ U, Y U → zY G0 base U) (hp0 : xNPc pF) (hp1 : xNP pF) (hF : lcF pF) {lv : xL} {B b aR ao eD i L : Nat} {xs : Nat → Int32} {x0 : Nat → Value} {σ : RS} {g : CG} {c : CS} {h : xH} (hLc : ∀ x0 σ, lcAll (lE B b L xs ao x0 aR σ eD) pF) (hp : lP b ao aR eD) (hG : lwG lv b B aR ao i) (hi : i + 6 ≤ L) (hL : L ≤ 3074) (hc : CRep (lE B b L xs ao x0 aR σ eD) g c h) (q0 : lwR base t0 u0 h) {c' : CS} {σ' : RS} (hs : s_client c σ (xs (i + 1)) (xs (i + 2)) c' σ') (hb : (cT c').1 - t0 ≤ 600000 ∧ (cT c').2 - u0 ≤ 7200000)
    (kk : ∀ lv' g' x0' h', lwG lv' b B aR ao i → CRep (lE B b L xs ao x0' aR σ' eD) g' c' h' → lwR base t0 u0 h' → lwW p l e s m args below meth cd G0 D dA base t0 u0 Q 2147 lv' [] h') : lwW p l e s m args below meth cd G0 D dA base t0 u0 Q 1874 lv [] h := by
  rcases hs with ⟨F, Fm, v, σ1, hk, hcc, hm, ht⟩ | ⟨F, Fm, v, σ1, hk, hcc, hm, ht⟩ | ⟨F, Fm, v, σ1, hk, hcc, hm, ht⟩
  · subst hcc
    obtain ⟨g', h', c1, hX⟩ := fN_client C.2.2.2.2.2.2 hp0 (hLc _ _) hF hc (lX_ao hp) hk
    have c2 := l_out hp c1 v.toInt64
    obtain ⟨hM, c3⟩ := l_call (σ' := σ1) hp c2 (m_client_ok hp1 (d := 29) hm)
    obtain ⟨hT, c4⟩ := l_call hp c3 (m_thrown_ok hp1 (d := 30) ht)
    have q1 := l_R q0 hX.1 hX.2.1 c2 hb
    exact lA_client_N C hG hi hL (l_S hp hc) (l_S hp c2) hX (l_bc hp c2 rfl) (l_bc hp c3 rfl) hM hT ⟨by rw [l_ao hp c4], by rw [l_ao hp c4], by rw [l_ao hp c4]; rfl⟩ q0 q1 q1 (fun lv' hG' => kk lv' _ _ _ hG' c4 q1)
  · subst hcc
    obtain ⟨g', h', c2, -, hX⟩ := fT_client_J hl C.2.2.2.2.2.2 hYz hp0 (hLc _ _) hF hc (ao := ao) hk
    obtain ⟨hM, c3⟩ := l_call (σ' := σ1) hp c2 (m_client_ok hp1 (d := 29) hm)
    obtain ⟨hT, c4⟩ := l_call hp c3 (m_thrown_ok hp1 (d := 30) ht)
    have q1 := l_R q0 hX.1 hX.2.1 c2 hb
    exact lA_client_T C hG hi hL (l_S hp hc) (l_S hp c2) hX (l_bc hp c2 rfl) (l_bc hp c3 rfl) hM hT (by decide) q0 q1 q1 (fun lv' hG' => kk lv' _ _ _ hG' c4 q1)
  · subst hcc
    obtain ⟨g', h', c2, -, hX⟩ := fT_client_C hl C.2.2.2.2.2.2 hYz hp0 (hLc _ _) hF hc (ao := ao) hk
    obtain ⟨hM, c3⟩ := l_call (σ' := σ1) hp c2 (m_client_ok hp1 (d := 29) hm)
    obtain ⟨hT, c4⟩ := l_call hp c3 (m_thrown_ok hp1 (d := 30) ht)
    have q1 := l_R q0 hX.1 hX.2.1 c2 hb
    exact lA_client_T C hG hi hL (l_S hp hc) (l_S hp c2) hX (l_bc hp c2 rfl) (l_bc hp c3 rfl) hM hT (by decide) q0 q1 q1 (fun lv' hG' => kk lv' _ _ _ hG' c4 q1)
def s_answer (c : CS) (σ : RS) (p1 : Int32) (c' : CS) (σ' : RS) : Prop :=
  (∃ (F Fm : Nat) (v : Int32) (σ1 : RS), k_Face_answer c 0 p1 = some (v, c') ∧ m_answer Fm σ p1 = some (v, σ1) ∧ m_thrown σ1 = some (0, σ')) ∨
  (∃ (F Fm : Nat) (v : Int32) (σ1 : RS), k_Face_asker_J c 0 p1 = some () ∧ c' = ctick c ∧ m_answer Fm σ p1 = some (v, σ1) ∧ m_thrown σ1 = some (1, σ'))
theorem lS_answer {p : Program} {l : Launch} (hl : l.stackTraces = false) {e : Env} {s : State} {m : MethodId} {args : Array Value} {below : List Frame} {meth : Method} {cd : Code} {G0 : Heap} {Y : State → Prop} {D : va_G} {dA : Nat → ClassId} {base t0 u0 : Nat} {Q : State → Prop} {pF : Nat → List Value → xH → Option (Option Value × xH)} (C : lwC p l s m args cd G0 Y D dA base pF) (hYz : ∀ U, Y U → zY G0 base U) (hp0 : xNPc pF) (hp1 : xNP pF) (hF : lcF pF) {lv : xL} {B b aR ao eD i L : Nat} {xs : Nat → Int32} {x0 : Nat → Value} {σ : RS} {g : CG} {c : CS} {h : xH} (hLc : ∀ x0 σ, lcAll (lE B b L xs ao x0 aR σ eD) pF) (hp : lP b ao aR eD) (hG : lwG lv b B aR ao i) (hi : i + 6 ≤ L) (hL : L ≤ 3074) (hc : CRep (lE B b L xs ao x0 aR σ eD) g c h) (q0 : lwR base t0 u0 h) {c' : CS} {σ' : RS} (hs : s_answer c σ (xs (i + 1)) c' σ') (hb : (cT c').1 - t0 ≤ 600000 ∧ (cT c').2 - u0 ≤ 7200000)
    (kk : ∀ lv' g' x0' h', lwG lv' b B aR ao i → CRep (lE B b L xs ao x0' aR σ' eD) g' c' h' → lwR base t0 u0 h' → lwW p l e s m args below meth cd G0 D dA base t0 u0 Q 2147 lv' [] h') : lwW p l e s m args below meth cd G0 D dA base t0 u0 Q 1942 lv [] h := by
  rcases hs with ⟨F, Fm, v, σ1, hk, hm, ht⟩ | ⟨F, Fm, v, σ1, hk, hcc, hm, ht⟩
  · skip
    obtain ⟨g', h', c1, hX⟩ := fN_answer C.2.2.2.2.2.2 hp0 (hLc _ _) hF hc (lX_ao hp) hk
    have c2 := l_out hp c1 v.toInt64
    obtain ⟨hM, c3⟩ := l_call (σ' := σ1) hp c2 (m_answer_ok hp1 (d := 29) (F := Fm) hm)
    obtain ⟨hT, c4⟩ := l_call hp c3 (m_thrown_ok hp1 (d := 30) ht)
    have q1 := l_R q0 hX.1 hX.2.1 c2 hb
    exact lA_answer_N C hG hi hL (l_S hp hc) (l_S hp c2) hX (l_bc hp c2 rfl) (l_bc hp c3 rfl) hM hT ⟨by rw [l_ao hp c4], by rw [l_ao hp c4], by rw [l_ao hp c4]; rfl⟩ q0 q1 q1 (fun lv' hG' => kk lv' _ _ _ hG' c4 q1)
  · subst hcc
    obtain ⟨g', h', c2, -, hX⟩ := fT_answer_C hl C.2.2.2.2.2.2 hYz hp0 (hLc _ _) hF hc (ao := ao) hk
    obtain ⟨hM, c3⟩ := l_call (σ' := σ1) hp c2 (m_answer_ok hp1 (d := 29) (F := Fm) hm)
    obtain ⟨hT, c4⟩ := l_call hp c3 (m_thrown_ok hp1 (d := 30) ht)
    have q1 := l_R q0 hX.1 hX.2.1 c2 hb
    exact lA_answer_T C hG hi hL (l_S hp hc) (l_S hp c2) hX (l_bc hp c2 rfl) (l_bc hp c3 rfl) hM hT (by decide) q0 q1 q1 (fun lv' hG' => kk lv' _ _ _ hG' c4 q1)
def s_history (c : CS) (σ : RS) (p1 : Int32) (p2 : Int32) (c' : CS) (σ' : RS) : Prop :=
  (∃ (F Fm : Nat) (v : Int32) (σ1 : RS), k_Face_history c 0 p1 p2 = some v ∧ c' = c ∧ m_history σ p1 p2 = some (v, σ1) ∧ m_thrown σ1 = some (0, σ')) ∨
  (∃ (F Fm : Nat) (v : Int32) (σ1 : RS), k_Face_history_J c 0 p1 p2 = some () ∧ c' = ctick c ∧ m_history σ p1 p2 = some (v, σ1) ∧ m_thrown σ1 = some (1, σ'))
theorem lS_history {p : Program} {l : Launch} (hl : l.stackTraces = false) {e : Env} {s : State} {m : MethodId} {args : Array Value} {below : List Frame} {meth : Method} {cd : Code} {G0 : Heap} {Y : State → Prop} {D : va_G} {dA : Nat → ClassId} {base t0 u0 : Nat} {Q : State → Prop} {pF : Nat → List Value → xH → Option (Option Value × xH)} (C : lwC p l s m args cd G0 Y D dA base pF) (hYz : ∀ U, Y U → zY G0 base U) (hp0 : xNPc pF) (hp1 : xNP pF) (hF : lcF pF) {lv : xL} {B b aR ao eD i L : Nat} {xs : Nat → Int32} {x0 : Nat → Value} {σ : RS} {g : CG} {c : CS} {h : xH} (hLc : ∀ x0 σ, lcAll (lE B b L xs ao x0 aR σ eD) pF) (hp : lP b ao aR eD) (hG : lwG lv b B aR ao i) (hi : i + 6 ≤ L) (hL : L ≤ 3074) (hc : CRep (lE B b L xs ao x0 aR σ eD) g c h) (q0 : lwR base t0 u0 h) {c' : CS} {σ' : RS} (hs : s_history c σ (xs (i + 1)) (xs (i + 2)) c' σ') (hb : (cT c').1 - t0 ≤ 600000 ∧ (cT c').2 - u0 ≤ 7200000)
    (kk : ∀ lv' g' x0' h', lwG lv' b B aR ao i → CRep (lE B b L xs ao x0' aR σ' eD) g' c' h' → lwR base t0 u0 h' → lwW p l e s m args below meth cd G0 D dA base t0 u0 Q 2147 lv' [] h') : lwW p l e s m args below meth cd G0 D dA base t0 u0 Q 1998 lv [] h := by
  rcases hs with ⟨F, Fm, v, σ1, hk, hcc, hm, ht⟩ | ⟨F, Fm, v, σ1, hk, hcc, hm, ht⟩
  · subst hcc
    obtain ⟨g', h', c1, hX⟩ := fN_history C.2.2.2.2.2.2 hp0 (hLc _ _) hF hc (lX_ao hp) hk
    have c2 := l_out hp c1 v.toInt64
    obtain ⟨hM, c3⟩ := l_call (σ' := σ1) hp c2 (m_history_ok hp1 (d := 29) hm)
    obtain ⟨hT, c4⟩ := l_call hp c3 (m_thrown_ok hp1 (d := 30) ht)
    have q1 := l_R q0 hX.1 hX.2.1 c2 hb
    exact lA_history_N C hG hi hL (l_S hp hc) (l_S hp c2) hX (l_bc hp c2 rfl) (l_bc hp c3 rfl) hM hT ⟨by rw [l_ao hp c4], by rw [l_ao hp c4], by rw [l_ao hp c4]; rfl⟩ q0 q1 q1 (fun lv' hG' => kk lv' _ _ _ hG' c4 q1)
  · subst hcc
    obtain ⟨g', h', c2, -, hX⟩ := fT_history_J hl C.2.2.2.2.2.2 hYz hp0 (hLc _ _) hF hc (ao := ao) hk
    obtain ⟨hM, c3⟩ := l_call (σ' := σ1) hp c2 (m_history_ok hp1 (d := 29) hm)
    obtain ⟨hT, c4⟩ := l_call hp c3 (m_thrown_ok hp1 (d := 30) ht)
    have q1 := l_R q0 hX.1 hX.2.1 c2 hb
    exact lA_history_T C hG hi hL (l_S hp hc) (l_S hp c2) hX (l_bc hp c2 rfl) (l_bc hp c3 rfl) hM hT (by decide) q0 q1 q1 (fun lv' hG' => kk lv' _ _ _ hG' c4 q1)
def s_byteAt (c : CS) (σ : RS) (p1 : Int32) (c' : CS) (σ' : RS) : Prop :=
  (∃ (F Fm : Nat) (v : Int32) (σ1 : RS), k_Face_byteAt c 0 p1 = some v ∧ c' = c ∧ m_byteAt σ p1 = some (v, σ1) ∧ m_thrown σ1 = some (0, σ')) ∨
  (∃ (F Fm : Nat) (v : Int32) (σ1 : RS), k_Face_byteAt_J c 0 p1 = some () ∧ c' = ctick c ∧ m_byteAt σ p1 = some (v, σ1) ∧ m_thrown σ1 = some (1, σ'))
theorem lS_byteAt {p : Program} {l : Launch} (hl : l.stackTraces = false) {e : Env} {s : State} {m : MethodId} {args : Array Value} {below : List Frame} {meth : Method} {cd : Code} {G0 : Heap} {Y : State → Prop} {D : va_G} {dA : Nat → ClassId} {base t0 u0 : Nat} {Q : State → Prop} {pF : Nat → List Value → xH → Option (Option Value × xH)} (C : lwC p l s m args cd G0 Y D dA base pF) (hYz : ∀ U, Y U → zY G0 base U) (hp0 : xNPc pF) (hp1 : xNP pF) (hF : lcF pF) {lv : xL} {B b aR ao eD i L : Nat} {xs : Nat → Int32} {x0 : Nat → Value} {σ : RS} {g : CG} {c : CS} {h : xH} (hLc : ∀ x0 σ, lcAll (lE B b L xs ao x0 aR σ eD) pF) (hp : lP b ao aR eD) (hG : lwG lv b B aR ao i) (hi : i + 6 ≤ L) (hL : L ≤ 3074) (hc : CRep (lE B b L xs ao x0 aR σ eD) g c h) (q0 : lwR base t0 u0 h) {c' : CS} {σ' : RS} (hs : s_byteAt c σ (xs (i + 1)) c' σ') (hb : (cT c').1 - t0 ≤ 600000 ∧ (cT c').2 - u0 ≤ 7200000)
    (kk : ∀ lv' g' x0' h', lwG lv' b B aR ao i → CRep (lE B b L xs ao x0' aR σ' eD) g' c' h' → lwR base t0 u0 h' → lwW p l e s m args below meth cd G0 D dA base t0 u0 Q 2147 lv' [] h') : lwW p l e s m args below meth cd G0 D dA base t0 u0 Q 2066 lv [] h := by
  rcases hs with ⟨F, Fm, v, σ1, hk, hcc, hm, ht⟩ | ⟨F, Fm, v, σ1, hk, hcc, hm, ht⟩
  · subst hcc
    obtain ⟨g', h', c1, hX⟩ := fN_byteAt C.2.2.2.2.2.2 hp0 (hLc _ _) hF hc (lX_ao hp) hk
    have c2 := l_out hp c1 v.toInt64
    obtain ⟨hM, c3⟩ := l_call (σ' := σ1) hp c2 (m_byteAt_ok hp1 (d := 29) hm)
    obtain ⟨hT, c4⟩ := l_call hp c3 (m_thrown_ok hp1 (d := 30) ht)
    have q1 := l_R q0 hX.1 hX.2.1 c2 hb
    exact lA_byteAt_N C hG hi hL (l_S hp hc) (l_S hp c2) hX (l_bc hp c2 rfl) (l_bc hp c3 rfl) hM hT ⟨by rw [l_ao hp c4], by rw [l_ao hp c4], by rw [l_ao hp c4]; rfl⟩ q0 q1 q1 (fun lv' hG' => kk lv' _ _ _ hG' c4 q1)
  · subst hcc
    obtain ⟨g', h', c2, -, hX⟩ := fT_byteAt_J hl C.2.2.2.2.2.2 hYz hp0 (hLc _ _) hF hc (ao := ao) hk
    obtain ⟨hM, c3⟩ := l_call (σ' := σ1) hp c2 (m_byteAt_ok hp1 (d := 29) hm)
    obtain ⟨hT, c4⟩ := l_call hp c3 (m_thrown_ok hp1 (d := 30) ht)
    have q1 := l_R q0 hX.1 hX.2.1 c2 hb
    exact lA_byteAt_T C hG hi hL (l_S hp hc) (l_S hp c2) hX (l_bc hp c2 rfl) (l_bc hp c3 rfl) hM hT (by decide) q0 q1 q1 (fun lv' hG' => kk lv' _ _ _ hG' c4 q1)
def s_count (c : CS) (σ : RS) (p1 : Int32) (c' : CS) (σ' : RS) : Prop := ∃ (F Fm : Nat) (v : Int32), k_Face_count c 0 p1 = some v ∧ c' = c ∧ m_count σ p1 = some (v, σ')
theorem lS_count {p : Program} {l : Launch} (hl : l.stackTraces = false) {e : Env} {s : State} {m : MethodId} {args : Array Value} {below : List Frame} {meth : Method} {cd : Code} {G0 : Heap} {Y : State → Prop} {D : va_G} {dA : Nat → ClassId} {base t0 u0 : Nat} {Q : State → Prop} {pF : Nat → List Value → xH → Option (Option Value × xH)} (C : lwC p l s m args cd G0 Y D dA base pF) (hYz : ∀ U, Y U → zY G0 base U) (hp0 : xNPc pF) (hp1 : xNP pF) (hF : lcF pF) {lv : xL} {B b aR ao eD i L : Nat} {xs : Nat → Int32} {x0 : Nat → Value} {σ : RS} {g : CG} {c : CS} {h : xH} (hLc : ∀ x0 σ, lcAll (lE B b L xs ao x0 aR σ eD) pF) (hp : lP b ao aR eD) (hG : lwG lv b B aR ao i) (hi : i + 6 ≤ L) (hL : L ≤ 3074) (hc : CRep (lE B b L xs ao x0 aR σ eD) g c h) (q0 : lwR base t0 u0 h) {c' : CS} {σ' : RS} (hs : s_count c σ (xs (i + 1)) c' σ') (hb : (cT c').1 - t0 ≤ 600000 ∧ (cT c').2 - u0 ≤ 7200000)
    (kk : ∀ lv' g' x0' h', lwG lv' b B aR ao i → CRep (lE B b L xs ao x0' aR σ' eD) g' c' h' → lwR base t0 u0 h' → lwW p l e s m args below meth cd G0 D dA base t0 u0 Q 2147 lv' [] h') : lwW p l e s m args below meth cd G0 D dA base t0 u0 Q 2122 lv [] h := by
  obtain ⟨F, Fm, v, hk, hcc, hm⟩ := hs
  subst hcc
  obtain ⟨g', h', c2, -, -, hX⟩ := k_Face_count_ok hp0 (hLc _ _) hF (d := 21) cob15 hk h hc
  obtain ⟨hM, c3⟩ := l_call (σ' := σ') hp c2 (m_count_ok hp1 (d := 30) hm)
  have hmo := xCo_mono (fun {F} => x_all (F := F) C.2.2.2.2.2.2 kk_hk 31) hX
  have q1 := l_R q0 hmo.1 hmo.2 c2 hb
  exact lA_count_N C hG hi hL (l_S hp hc) (l_S hp c2) (c15_bc hc rfl) (l_bc hp c2 rfl) hX hM q0 q1 (fun lv' hG' => kk lv' _ _ _ hG' c3 q1)
/-- a step of the law: six numbers of the script -/
def fStep (a : Nat → Int32) (c : CS) (σ : RS) (c' : CS) (σ' : RS) : Prop :=
  (a 0 &&& 31 = (0 : Int32) ∧ s_feed c σ (a 1) (a 2) (a 3) (a 4) (a 5) c' σ') ∨
  (a 0 &&& 31 = (1 : Int32) ∧ s_end c σ (a 1) c' σ') ∨
  (a 0 &&& 31 = (2 : Int32) ∧ s_ask c σ (a 1) (a 2) (a 3) (a 4) c' σ') ∨
  (a 0 &&& 31 = (3 : Int32) ∧ s_giveUp c σ (a 1) c' σ') ∨
  (a 0 &&& 31 = (4 : Int32) ∧ s_run c σ (a 1) c' σ') ∨
  (a 0 &&& 31 = (5 : Int32) ∧ s_step c σ c' σ') ∨
  (a 0 &&& 31 = (6 : Int32) ∧ s_delay c σ (a 1) (a 2) (a 3) c' σ') ∨
  (a 0 &&& 31 = (7 : Int32) ∧ s_part c σ (a 1) c' σ') ∨
  (a 0 &&& 31 = (8 : Int32) ∧ s_noise c σ (a 1) (a 2) (a 3) (lJ (a 4) (a 5)) c' σ') ∨
  (a 0 &&& 31 = (9 : Int32) ∧ s_meddle c σ (a 1) (a 2) (a 3) c' σ') ∨
  (a 0 &&& 31 = (10 : Int32) ∧ s_latency c σ (a 1) (a 2) c' σ') ∨
  (a 0 &&& 31 = (11 : Int32) ∧ s_crash c σ (a 1) (lJ (a 2) (a 3)) c' σ') ∨
  (a 0 &&& 31 = (12 : Int32) ∧ s_stop c σ (a 1) c' σ') ∨
  (a 0 &&& 31 = (13 : Int32) ∧ s_start c σ (a 1) c' σ') ∨
  (a 0 &&& 31 = (14 : Int32) ∧ s_members c σ (a 1) (a 2) c' σ') ∨
  (a 0 &&& 31 = (15 : Int32) ∧ s_learners c σ (a 1) (a 2) c' σ') ∨
  (a 0 &&& 31 = (16 : Int32) ∧ s_hand c σ (a 1) (a 2) c' σ') ∨
  (a 0 &&& 31 = (17 : Int32) ∧ s_now c σ c' σ') ∨
  (a 0 &&& 31 = (18 : Int32) ∧ s_server c σ (a 1) (a 2) c' σ') ∨
  (a 0 &&& 31 = (19 : Int32) ∧ s_entry c σ (a 1) (a 2) (a 3) c' σ') ∨
  (a 0 &&& 31 = (20 : Int32) ∧ s_file c σ (a 1) (a 2) (a 3) c' σ') ∨
  (a 0 &&& 31 = (21 : Int32) ∧ s_key c σ (a 1) (a 2) c' σ') ∨
  (a 0 &&& 31 = (22 : Int32) ∧ s_value c σ (a 1) (a 2) c' σ') ∨
  (a 0 &&& 31 = (23 : Int32) ∧ s_message c σ (a 1) (a 2) c' σ') ∨
  (a 0 &&& 31 = (24 : Int32) ∧ s_client c σ (a 1) (a 2) c' σ') ∨
  (a 0 &&& 31 = (25 : Int32) ∧ s_answer c σ (a 1) c' σ') ∨
  (a 0 &&& 31 = (26 : Int32) ∧ s_history c σ (a 1) (a 2) c' σ') ∨
  (a 0 &&& 31 = (27 : Int32) ∧ s_byteAt c σ (a 1) c' σ') ∨
  (a 0 &&& 31 = (28 : Int32) ∧ s_count c σ (a 1) c' σ') ∨
  ((∀ j, j < 29 → a 0 &&& 31 ≠ Int32.ofNat j) ∧ c' = c ∧ σ' = σ)
