/-! methods that throw themselves, that call what throws; the law's wrappers -/
section ZM
variable {l : Launch} {G0 : Heap} {Y : State → Prop} {D : va_G} {dA : Nat → ClassId} {base d y ml n : Nat} {bytes : ByteArray} {ret : Option FieldType} {pF : Nat → List Value → xH → Option (Option Value × xH)}
theorem xR_mono {F : Nat} (hcF : ∀ y as h r h', xcall pF kkA moA F d y as h = some (r, h') → xMet l G0 Y D dA base d y as h r h') {k : xK} {o nL N : Nat} {ini : Bool} {f g : xF} (hrun : xrun (xcall pF kkA moA F d) k o nL ini N f = some g) : xMono f.2.2.2 g.2.2.2 :=
  xrun_mono (fun y as h r h' hq => by
    obtain ⟨_, _, _, _, _, h1, h2, _⟩ := hcF y as h r h' hq
    exact ⟨h1, h2⟩) _ _ _ hrun
theorem x_metT (hl : l.stackTraces = false) (hpF : ∀ d y as h r h', 4 ≤ d → pF y as h = some (r, h') → xMet l G0 Y D dA base (d + 1) y as h r h') (hYz : ∀ U, Y U → zY G0 base U)
    (hM : xM y = some (bytes, ml, ret, n)) (hcls : (xMn y).cls = "AgreedStore") {as : List Value} (hlen : (lg_sl as).length ≤ ml) {k : xK} (hk : ∀ q ∈ k, xend q.2.1 = false → decode bytes q.1 = .ok q.2) {E : Nat}
    (hE : ∀ pc, k.lookup pc = some (.return_, 1) → decode bytes pc = .ok (.new (zIK E).1, 3) ∧ decode bytes (pc + 3) = .ok (.dup, 1) ∧ decode bytes (pc + 4) = .ok (.invokespecial (zIK E).2, 3) ∧ decode bytes (pc + 7) = .ok (.athrow, 1))
    {h h' : xH} (hd : 5 ≤ d) (hr : xR pF d k 15 ml false none none h' (0, lv_args 0 as, [], h)) : xMetX l G0 Y D dA base (d + 1) y as h E (xth h') := by
  obtain ⟨pc, lv, st, i, len, hE1, hlk, hfin⟩ := hr
  obtain ⟨rfl, rfl, rfl⟩ : i = .return_ ∧ len = 1 ∧ st = [] := by
    unfold xfin at hfin
    split at hfin
    next h1 =>
      split at hfin <;> first | exact ⟨rfl, h1, rfl⟩ | (split at hfin <;> cases hfin) | cases hfin
    next => cases hfin
  obtain ⟨N, hN⟩ := hE1
  have hcF := x_all (F := N) hpF kk_hk d
  have hrun := hN N (Nat.le_refl _) N (Nat.le_refl _)
  have hm := xR_mono hcF hrun
  dsimp only at hm
  have hm1 := hm.1
  have hm2 := hm.2
  refine ⟨bytes, ml, ret, n, hM, by show h.2.1 ≤ h'.2.1 + 1; omega, by show h.2.2 ≤ h'.2.2 + 6; omega, vx_ofW (by rw [hcls]; decide) rfl ?_⟩
  intro p e s m args below meth c s₁ B hml htab hP
  obtain ⟨rfl, hbase, hR, hK⟩ := hP
  have hts : ∀ w ∈ xALL, w.before as.toArray s = true := fun w hw => atoms_spec (ws := Jvm.Cond.code (xMn y) bytes ml ret :: xALL) B.pre w (List.mem_cons_of_mem _ hw)
  have hown : s.vm.findClass "AgreedStore" = some m.cls := by rw [← hcls]; exact findClass_of_methodNamed B.named
  have hlocks := B.notSynchronized
  have hl0 := lv_entry as (n := ml) hlen
  rw [lg_entry_eq]
  generalize (lg_sl as ++ List.replicate (ml - (lg_sl as).length) Slot.unset).toArray = ls at hl0 ⊢
  have hrn := x_runE (meth := meth) (e := e) (R := (headSpec (Jvm.Cond.code (xMn y) bytes ml ret :: xALL) ({ frames := d + 1, cells := (xth h').2.1 - h.2.1, slots := (xth h').2.2 - h.2.2, locals := 60 * (d + 1) } : Jvm.Room)).room) (t0 := h.2.1) (u0 := h.2.2) (below := below) (Q := vx_MQ below (fun _ _ _ _ => False) (fun E' _ t => E' = zX E ∧ xRp G0 D dA base (xth h') t.heap) as.toArray s ((xth h').2.1 - h.2.1) ((xth h').2.2 - h.2.2) (fun q => base ≤ q)) (d := d) (o := 15)
    B.exec B.bytes hml hown hts hK (ini := false) (fun z => by cases z) (Nat.le_refl _) (Nat.le_refl _) hcF hk (pc, lv, [], h') (by show h'.2.1 - h.2.1 ≤ h'.2.1 + 1 - h.2.1; omega) (by show h'.2.2 - h.2.2 ≤ h'.2.2 + 6 - h.2.2; omega) ?_ _ _ hrun hbase (Nat.le_refl _) (Nat.le_refl _) ls s.heap [] hl0 hR (fun _ h => absurd h List.not_mem_nil)
  · simp only [Nat.sub_self] at hrn
    exact hrn
  · intro ls2 H2 locs2 hl2 hR2 hL2
    obtain ⟨d0, d3, d4, d7⟩ := hE pc hlk
    exact z_thr B.exec B.bytes hl hml hown hts (hYz _ hK.y) hR hbase hR2 hm1 hL2 hl2 htab hlocks d0 d3 d4 d7 (by show 6 ≤ d + 1; omega) (by show 100 ≤ 60 * (d + 1); omega)
      (by show h'.2.1 - h.2.1 + 1 = h'.2.1 + 1 - h.2.1; omega) (by show h'.2.2 - h.2.2 + 6 = h'.2.2 + 6 - h.2.2; omega) (Nat.le_refl _) (Nat.le_refl _)
/-- a run to a frame, walked -/
theorem x_toQ {p : Program} {e : Env} {R : Room} {s : State} {m : MethodId} {args : Array Value} {below : List Frame} {meth : Method} {c : Code} {Q : State → Prop} {cc : ByteArray} {nL t0 u0 : Nat} (hx : p.tables.exec = Jvm.exec) (hb : c.code = cc) (hml : c.maxLocals = nL) {o : Nat} (hown : s.vm.findClass (xOwn o) = some m.cls) (hts : ∀ w ∈ xALL, w.before args s = true) (hK : xKn Y D dA s)
    (hF1 : d + 1 ≤ R.frames) (hF2 : 60 * (d + 1) ≤ R.locals) (hpF : ∀ d y as h r h', 4 ≤ d → pF y as h = some (r, h') → xMet l G0 Y D dA base (d + 1) y as h r h') {k : xK} (hk : xKok cc k) {f g : xF} (hq : xQ pF d k o nL false g f) (hc1 : g.2.2.2.2.1 - t0 ≤ R.cells) (hc2 : g.2.2.2.2.2 - u0 ≤ R.slots)
    (hbase : base ≤ f.2.2.2.2.1) (ht : t0 ≤ f.2.2.2.2.1) (hu : u0 ≤ f.2.2.2.2.2) {ls : Array Slot} {H : Heap} {locs : List Loc} (hl : lv_has ls nL f.2.1) (hR : xRp G0 D dA base f.2.2.2 H) (hL : ∀ q ∈ locs, base ≤ q.base)
    (kk : xMono f.2.2.2 g.2.2.2 → ∀ (ls : Array Slot) (H : Heap) (locs : List Loc), lv_has ls nL g.2.1 → xRp G0 D dA base g.2.2.2 H → (∀ q ∈ locs, base ≤ q.base) → W p l e R s m args below meth c H locs (g.2.2.2.2.1 - t0) (g.2.2.2.2.2 - u0) Q (F0 m g.1 ls g.2.2.1)) :
    W p l e R s m args below meth c H locs (f.2.2.2.2.1 - t0) (f.2.2.2.2.2 - u0) Q (F0 m f.1 ls f.2.2.1) := by
  obtain ⟨N, q, hN⟩ := hq
  have hrun := hN N (Nat.le_refl _)
  have hcF := x_all (F := N) hpF kk_hk d
  have hm := xstp_mono (fun y as h r h' hq => by
    obtain ⟨_, _, _, _, _, h1, h2, _⟩ := hcF y as h r h' hq
    exact (⟨h1, h2⟩ : xMono h h')) _ _ _ hrun
  exact x_seg hx hb hml hown hts hK (fun z => by cases z) hF1 hF2 hcF hk g hc1 hc2 (kk hm) q f hrun hbase ht hu ls H locs hl hR hL
/-- a virtual call that throws -/
theorem x_thrC {p : Program} {e : Env} {R : Room} {s : State} {m : MethodId} {args : Array Value} {below : List Frame} {meth : Method} {c : Code} {Q : State → Prop} {cc : ByteArray} {nL t0 u0 pc : Nat} (hx : p.tables.exec = Jvm.exec) (hb : c.code = cc) (hml : c.maxLocals = nL) {o : Nat} (hown : s.vm.findClass (xOwn o) = some m.cls) (hts : ∀ w ∈ xALL, w.before args s = true) (hK : xKn Y D dA s) {h h' : xH} {H : Heap} {locs : List Loc} (hR : xRp G0 D dA base h H) (hbase : base ≤ h.2.1)
    (hF1 : d + 1 ≤ R.frames) (hF2 : 60 * (d + 1) ≤ R.locals) (ht : t0 ≤ h.2.1) (hu : u0 ≤ h.2.2) (hL : ∀ q ∈ locs, base ≤ q.base) {E idx b : Nat} {as : List Value} (hX : xMetX l G0 Y D dA base d y (.ref b :: as) h E h') (hy : xmR o idx = some y) (hd : decode cc pc = .ok (.invokevirtual idx, 3)) {ls : Array Slot} {lv : xL} {rest : List Value} (hl : lv_has ls nL lv) (hn : xnargs y = as.length) (hcat : xcat rest ≤ 8)
    (hw : xSe.contains y = true ∧ xIn.contains y = true) (hbc : (xMn y).cls = (xCl ((h.1 b).1 - 1)).1 ∧ 0 < (h.1 b).1 ∧ (h.1 b).1 ≤ 17) (hc1 : h'.2.1 - t0 ≤ R.cells) (hc2 : h'.2.2 - u0 ≤ R.slots)
    (kk : ∀ (q : Addr) (ce : Cell) (H' : Heap) (locs' : List Loc), xRp G0 D dA base h' H' → (∀ q ∈ locs', base ≤ q.base) → H'[q]? = some ce → ce.vm = .none → s.vm.findClass (zX E) = some ce.cls → vx_W p l e R s m args below meth c H' locs' (h'.2.1 - t0) (h'.2.2 - u0) Q (F0 m pc ls rest) q) :
    W p l e R s m args below meth c H locs (h.2.1 - t0) (h.2.2 - u0) Q (F0 m pc ls (as.reverse ++ .ref b :: rest)) := by
  obtain ⟨bytes, ml, ret, n, hM, hm1, hm2, hMet⟩ := hX
  have hna : xnargs y = n := by unfold xnargs; rw [hM]
  obtain ⟨-, cell, q1, q2, q3, q4⟩ := x_obj (a := b) (ci := (h.1 b).1 - 1) hR (by omega) (by omega)
  have hfc := (hK.1.1 ((h.1 b).1 - 1) _ (x_cl _ (by omega))).2.1
  have hr := vx_runV (p := p) (l := l) (e := e) (R := R) (below := below) (meth := meth) (locs := locs) (cells := h.2.1 - t0) (slots := h.2.2 - u0) (C := (xMn y).cls) (As := as) (rest := rest) (g := F0 m pc ls (as.reverse ++ .ref b :: rest)) (n := n) ⟨hx, hb, hml, hown, hts⟩ hMet ⟨x_callB hts hM hF1 hF2 (x_mR hy), hts _ (x_in hw.2), hts _ (x_se hw.1)⟩
    ⟨x_blind, ⟨cell, q1, by rw [q3]; rfl, by rw [hbc.1, q2]; exact hfc⟩, fun U hU hW => ⟨rfl, hbase, by rw [hU]; exact hR, hK.warm hW⟩⟩ rfl (by rw [← hna, hn]) hl.1 rfl (lv_room hcat) hd ⟨by omega, by omega⟩
  intro T hT X
  rcases hr T hT X with ⟨v, st₀, t, T', L, -, -, -, -, -, hF, -⟩ | ⟨q, st₀, t, T', L, E1, ce, h0, X', hL', e1, e2, ⟨rfl, hR'⟩, hce, hcv, hcl, st⟩
  · exact hF.elim
  · rw [show h.2.1 - t0 + (h'.2.1 - h.2.1) = h'.2.1 - t0 by omega, show h.2.2 - u0 + (h'.2.2 - h.2.2) = h'.2.2 - u0 by omega] at X'
    obtain ⟨t2, a1, b1⟩ := kk q ce t.heap (locs ++ L) hR' (fun q hq => (List.mem_append.mp hq).elim (hL q) (hL' q)) hce hcv hcl T' e1 X'
    exact ⟨t2, st.trans a1, b1⟩
/-- a method whose call of y2 throws, not caught -/
theorem x_metC (hpF : ∀ d y as h r h', 4 ≤ d → pF y as h = some (r, h') → xMet l G0 Y D dA base (d + 1) y as h r h')
    (hM : xM y = some (bytes, ml, ret, n)) (hcls : (xMn y).cls = "AgreedStore") {as : List Value} (hlen : (lg_sl as).length ≤ ml) {k : xK} (hk : xKok bytes k) {E y2 idx pcc b : Nat} {as2 rest : List Value} {lv2 : xL}
    {h h1 h' : xH} (hq : xQ pF d k 15 ml false (pcc, lv2, as2.reverse ++ .ref b :: rest, h1) (0, lv_args 0 as, [], h)) (hlk : k.lookup pcc = some (.invokevirtual idx, 3)) (hy : xmR 15 idx = some y2) (hn : xnargs y2 = as2.length) (hcat : xcat rest ≤ 8)
    (hw : xSe.contains y2 = true ∧ xIn.contains y2 = true) (hbc : (xMn y2).cls = (xCl ((h1.1 b).1 - 1)).1 ∧ 0 < (h1.1 b).1 ∧ (h1.1 b).1 ≤ 17) (hX : xMetX l G0 Y D dA base d y2 (.ref b :: as2) h1 E h') : xMetX l G0 Y D dA base (d + 1) y as h E h' := by
  have hX' := hX
  obtain ⟨-, -, -, -, -, hm1, hm2, -⟩ := hX'
  have hcF := fun F => x_all (F := F) hpF kk_hk d
  obtain ⟨N, q9, hN⟩ := id hq
  have hm := xstp_mono (fun y as h r h' hq => by
    obtain ⟨_, _, _, _, _, h1, h2, _⟩ := hcF N y as h r h' hq
    exact (⟨h1, h2⟩ : xMono h h')) _ _ _ (hN N (Nat.le_refl _))
  dsimp only at hm
  have hm3 := hm.1
  have hm4 := hm.2
  refine ⟨bytes, ml, ret, n, hM, by omega, by omega, vx_ofW (by rw [hcls]; decide) rfl ?_⟩
  intro p e s m args below meth c s₁ B hml htab hP
  obtain ⟨rfl, hbase, hR, hK⟩ := hP
  have hts : ∀ w ∈ xALL, w.before as.toArray s = true := fun w hw => atoms_spec (ws := Jvm.Cond.code (xMn y) bytes ml ret :: xALL) B.pre w (List.mem_cons_of_mem _ hw)
  have hown : s.vm.findClass (xOwn 15) = some m.cls := by show s.vm.findClass "AgreedStore" = _; rw [← hcls]; exact findClass_of_methodNamed B.named
  have hlocks := B.notSynchronized
  have hl0 := lv_entry as (n := ml) hlen
  rw [lg_entry_eq]
  generalize (lg_sl as ++ List.replicate (ml - (lg_sl as).length) Slot.unset).toArray = ls at hl0 ⊢
  have := x_toQ (meth := meth) (e := e) (R := (headSpec (Jvm.Cond.code (xMn y) bytes ml ret :: xALL) ({ frames := d + 1, cells := h'.2.1 - h.2.1, slots := h'.2.2 - h.2.2, locals := 60 * (d + 1) } : Jvm.Room)).room) (t0 := h.2.1) (u0 := h.2.2) (below := below) (Q := vx_MQ below (fun _ _ _ _ => False) (fun E' _ t => E' = zX E ∧ xRp G0 D dA base h' t.heap) as.toArray s (h'.2.1 - h.2.1) (h'.2.2 - h.2.2) (fun q => base ≤ q)) (d := d) (o := 15)
    B.exec B.bytes hml hown hts hK (Nat.le_refl _) (Nat.le_refl _) hpF hk hq (by show h1.2.1 - h.2.1 ≤ h'.2.1 - h.2.1; omega) (by show h1.2.2 - h.2.2 ≤ h'.2.2 - h.2.2; omega) hbase (Nat.le_refl _) (Nat.le_refl _) hl0 hR (locs := []) (fun _ h => absurd h List.not_mem_nil) ?_
  · simp only [Nat.sub_self] at this
    exact this
  · intro _ ls2 H2 locs2 hl2 hR2 hL2
    refine x_thrC (d := d) B.exec B.bytes hml hown hts hK hR2 (by show base ≤ h1.2.1; omega) (Nat.le_refl _) (Nat.le_refl _) hm3 hm4 hL2 hX hy (hk (pcc, (.invokevirtual idx, 3)) (x_look hlk)) hl2 hn hcat hw hbc (Nat.le_refl _) (Nat.le_refl _) ?_
    intro q ce H' locs' hR' hL' hce hcv hcl
    exact vx_out (fun x hx => (htab x hx).elim) hlocks hce hcv hcl (fun t ht _ => ⟨rfl, by rw [ht]; exact hR'⟩) hL' (Nat.le_refl _) (Nat.le_refl _)
/-- a wrapper's contract -/
def xMetW (l : Launch) (G0 : Heap) (Y : State → Prop) (D : va_G) (dA : Nat → ClassId) (base d : Nat) (w : MethodName) (bw : ByteArray) (mlw : Nat) (hh : List (Nat × Nat × Nat × Nat)) (as : List Value) (h : xH) (r : Int32) (h' : xH) : Prop :=
  h.2.1 ≤ h'.2.1 ∧ h.2.2 ≤ h'.2.2 ∧ vx_Met l w (Jvm.Cond.codeWith w bw mlw (some .int) hh :: xALL) ({ frames := d, cells := h'.2.1 - h.2.1, slots := h'.2.2 - h.2.2, locals := 60 * d })
      (fun a U => a = as.toArray ∧ base ≤ h.2.1 ∧ xRp G0 D dA base h U.heap ∧ xKn Y D dA U) (fun _ _ o t => o = .returned (some (.int r)) ∧ xRp G0 D dA base h' t.heap) (fun _ _ _ => False) (h'.2.1 - h.2.1) (h'.2.2 - h.2.2) (fun q => base ≤ q)
/-- no throw -/
theorem x_wrN (hpF : ∀ d y as h r h', 4 ≤ d → pF y as h = some (r, h') → xMet l G0 Y D dA base (d + 1) y as h r h') {w : MethodName} {bw : ByteArray} {mlw : Nat} {hh : List (Nat × Nat × Nat × Nat)} (hcls : w.cls = "AgreedStoreLaw") {as : List Value} (hlen : (lg_sl as).length ≤ mlw) {k : xK} (hk : xKok bw k) {r : Int32} {h h' : xH} (hr : xR pF d k 17 mlw false (some .int) (some (.int r)) h' (0, lv_args 0 as, [], h)) : xMetW l G0 Y D dA base (d + 1) w bw mlw hh as h r h' := by
  have hcF := fun F => x_all (F := F) hpF kk_hk d
  have hm : xMono h h' := by
    obtain ⟨pc, lv, st, i, len, ⟨N, hN⟩, -, -⟩ := hr
    exact xR_mono (hcF N) (hN N (Nat.le_refl _) N (Nat.le_refl _))
  refine ⟨hm.1, hm.2, vx_ofWH (by rw [hcls]; decide) rfl ?_⟩
  intro p e s m args below meth c s₁ B hml hP
  obtain ⟨rfl, hbase, hR, hK⟩ := hP
  have hts : ∀ w ∈ xALL, w.before as.toArray s = true := fun z hw => atoms_spec (ws := Jvm.Cond.codeWith w bw mlw (some .int) hh :: xALL) B.pre z (List.mem_cons_of_mem _ hw)
  have hown : s.vm.findClass (xOwn 17) = some m.cls := by show s.vm.findClass "AgreedStoreLaw" = _; rw [← hcls]; exact findClass_of_methodNamed B.named
  have hl0 := lv_entry as (n := mlw) hlen
  rw [lg_entry_eq]
  generalize (lg_sl as ++ List.replicate (mlw - (lg_sl as).length) Slot.unset).toArray = ls at hl0 ⊢
  refine vx_ret ?_
  have := x_rest (e := e) (below := below) (R := (headSpec (Jvm.Cond.codeWith w bw mlw (some .int) hh :: xALL) ({ frames := d + 1, cells := h'.2.1 - h.2.1, slots := h'.2.2 - h.2.2, locals := 60 * (d + 1) } : Jvm.Room)).room) (t0 := h.2.1) (u0 := h.2.2) (o := 17) B.exec B.bytes hml hown hts hK (ini := false) (fun z => by cases z) B.notSynchronized B.returns (Nat.le_refl _) (Nat.le_refl _) hpF hk (Nat.le_refl _) (Nat.le_refl _) rfl rfl hr hbase (Nat.le_refl _) (Nat.le_refl _) hl0 hR (locs := []) (fun _ h => absurd h List.not_mem_nil)
  simp only [Nat.sub_self] at this
  exact this
/-- a throw that is caught -/
theorem x_wrT (hpF : ∀ d y as h r h', 4 ≤ d → pF y as h = some (r, h') → xMet l G0 Y D dA base (d + 1) y as h r h') (hYz : ∀ U, Y U → zY G0 base U) {w : MethodName} {bw : ByteArray} {mlw : Nat} {hh : List (Nat × Nat × Nat × Nat)} (hcls : w.cls = "AgreedStoreLaw") {as : List Value} (hlen : (lg_sl as).length ≤ mlw) {k : xK} (hk : xKok bw k)
    {E idx pcc b : Nat} {as2 rest : List Value} {lv2 : xL} {r : Int32} {h h1 h' : xH} (hq : xQ pF d k 17 mlw false (pcc, lv2, as2.reverse ++ .ref b :: rest, h1) (0, lv_args 0 as, [], h)) (hlk : k.lookup pcc = some (.invokevirtual idx, 3)) (hy : xmR 17 idx = some y) (hn : xnargs y = as2.length) (hcat : xcat rest ≤ 8)
    (hw : xSe.contains y = true ∧ xIn.contains y = true) (hbc : (xMn y).cls = (xCl ((h1.1 b).1 - 1)).1 ∧ 0 < (h1.1 b).1 ∧ (h1.1 b).1 ≤ 17) (hX : xMetX l G0 Y D dA base d y (.ref b :: as2) h1 E h')
    (hE : E < 3) (pre suf : List ExceptionTableEntry) (x : ExceptionTableEntry) (hsp : tableOf hh = pre ++ x :: suf) (hpass : ∀ z ∈ pre, z.catchType ≠ 0 ∧ ∃ j, j < 3 ∧ E ≠ j ∧ Jvm.Cond.classLink "AgreedStoreLaw" z.catchType (zX j) ∈ xALL) (hcov : covers x pcc = true) (hx0 : x.catchType ≠ 0) (hxl : Jvm.Cond.classLink "AgreedStoreLaw" x.catchType (zX E) ∈ xALL)
    (hr : ∀ q, xR pF d k 17 mlw false (some .int) (some (.int r)) h' (x.handlerPc, lv2, [.ref q], h')) : xMetW l G0 Y D dA base (d + 1) w bw mlw hh as h r h' := by
  have hX' := hX
  obtain ⟨-, -, -, -, -, hm1, hm2, -⟩ := hX'
  have hcF := fun F => x_all (F := F) hpF kk_hk d
  obtain ⟨N, q9, hN⟩ := id hq
  have hm := xstp_mono (fun y as h r h' hq => by
    obtain ⟨_, _, _, _, _, h1, h2, _⟩ := hcF N y as h r h' hq
    exact (⟨h1, h2⟩ : xMono h h')) _ _ _ (hN N (Nat.le_refl _))
  dsimp only at hm
  have hm3 := hm.1
  have hm4 := hm.2
  refine ⟨by omega, by omega, vx_ofWH (by rw [hcls]; decide) rfl ?_⟩
  intro p e s m args below meth c s₁ B hml hP
  obtain ⟨rfl, hbase, hR, hK⟩ := hP
  have hts0 := atoms_spec (ws := Jvm.Cond.codeWith w bw mlw (some .int) hh :: xALL) B.pre
  have hts : ∀ w ∈ xALL, w.before as.toArray s = true := fun z hw => hts0 z (List.mem_cons_of_mem _ hw)
  have htb := vx_table (x := w) B (hts0 _ List.mem_cons_self)
  have hown : s.vm.findClass (xOwn 17) = some m.cls := by show s.vm.findClass "AgreedStoreLaw" = _; rw [← hcls]; exact findClass_of_methodNamed B.named
  have hl0 := lv_entry as (n := mlw) hlen
  rw [lg_entry_eq]
  generalize (lg_sl as ++ List.replicate (mlw - (lg_sl as).length) Slot.unset).toArray = ls at hl0 ⊢
  have hzY := hYz _ hK.y
  have := x_toQ (meth := meth) (e := e) (R := (headSpec (Jvm.Cond.codeWith w bw mlw (some .int) hh :: xALL) ({ frames := d + 1, cells := h'.2.1 - h.2.1, slots := h'.2.2 - h.2.2, locals := 60 * (d + 1) } : Jvm.Room)).room) (t0 := h.2.1) (u0 := h.2.2) (below := below) (Q := vx_MQ below (fun _ _ o t => o = .returned (some (.int r)) ∧ xRp G0 D dA base h' t.heap) (fun _ _ _ => False) as.toArray s (h'.2.1 - h.2.1) (h'.2.2 - h.2.2) (fun q => base ≤ q)) (d := d) (o := 17)
    B.exec B.bytes hml hown hts hK (Nat.le_refl _) (Nat.le_refl _) hpF hk hq (by show h1.2.1 - h.2.1 ≤ h'.2.1 - h.2.1; omega) (by show h1.2.2 - h.2.2 ≤ h'.2.2 - h.2.2; omega) hbase (Nat.le_refl _) (Nat.le_refl _) hl0 hR (locs := []) (fun _ h => absurd h List.not_mem_nil) ?_
  · simp only [Nat.sub_self] at this
    exact this
  · intro _ ls2 H2 locs2 hl2 hR2 hL2
    refine x_thrC (d := d) B.exec B.bytes hml hown hts hK hR2 (by show base ≤ h1.2.1; omega) (Nat.le_refl _) (Nat.le_refl _) hm3 hm4 hL2 hX hy (hk (pcc, (.invokevirtual idx, 3)) (x_look hlk)) hl2 hn hcat hw hbc (Nat.le_refl _) (Nat.le_refl _) ?_
    intro q ce H' locs' hR' hL' hce hcv hcl
    refine vx_catch (own := "AgreedStoreLaw") (name := zX E) hown pre x suf (htb.trans hsp) (fun z hz => ?_) hcov hx0 (hts _ hxl) (va_Nw.use rfl (hzY.2.2.1 _ (zcast E hE))) hce hcv hcl ?_
    · obtain ⟨z0, j, hj, hne, hlk⟩ := hpass z hz
      exact Or.inr ⟨z0, _, hts _ hlk, hzY.2.2.2 E j hE hj hne⟩
    · refine vx_ret ?_
      exact x_rest B.exec B.bytes hml hown hts hK (ini := false) (fun z => by cases z) B.notSynchronized B.returns (Nat.le_refl _) (Nat.le_refl _) hpF hk (Nat.le_refl _) (Nat.le_refl _) rfl rfl (hr q) (by show base ≤ h'.2.1; omega) (by show h.2.1 ≤ h'.2.1; omega) (by show h.2.2 ≤ h'.2.2; omega) hl2 hR' hL'
/-- the law calls a wrapper -/
theorem x_wrC {p : Program} {e : Env} {R : Room} {s : State} {m : MethodId} {args : Array Value} {below : List Frame} {meth : Method} {c : Code} {Q : State → Prop} {cc : ByteArray} {nL t0 u0 pc : Nat} (hx : p.tables.exec = Jvm.exec) (hb : c.code = cc) (hml : c.maxLocals = nL) (hown : s.vm.findClass "AgreedStoreLaw" = some m.cls) (hts : ∀ w ∈ xALL, w.before args s = true) (hK : xKn Y D dA s) {h h' : xH} {H : Heap} {locs : List Loc} (hR : xRp G0 D dA base h H) (hbase : base ≤ h.2.1)
    (hF1 : d + 1 ≤ R.frames) (hF2 : 60 * (d + 1) ≤ R.locals) (ht : t0 ≤ h.2.1) (hu : u0 ≤ h.2.2) (hL : ∀ q ∈ locs, base ≤ q.base) {w : MethodName} {bw : ByteArray} {mlw idx n : Nat} {hh : List (Nat × Nat × Nat × Nat)} {as : List Value} {r : Int32} (hX : xMetW l G0 Y D dA base d w bw mlw hh as h r h')
    (hcw : Jvm.Cond.codeWith w bw mlw (some .int) hh ∈ xALL) (hst : Jvm.Cond.static w ∈ xALL) (hml2 : mlw ≤ 41) (hcls : w.cls = "AgreedStoreLaw") (hlk : Jvm.Cond.methodLink "AgreedStoreLaw" idx w ∈ xALL) (hdesc : (parseMethodDescriptor w.desc).map (fun d => d.parameters.length) = some n) (hn : as.length = n) (hd : decode cc pc = .ok (.invokestatic idx, 3)) {ls : Array Slot} {lv : xL} {rest : List Value} (hl : lv_has ls nL lv) (hcat : xcat rest ≤ 8) (hc1 : h'.2.1 - t0 ≤ R.cells) (hc2 : h'.2.2 - u0 ≤ R.slots)
    (kk : ∀ (H' : Heap) (locs' : List Loc), xRp G0 D dA base h' H' → (∀ q ∈ locs', base ≤ q.base) → W p l e R s m args below meth c H' locs' (h'.2.1 - t0) (h'.2.2 - u0) Q (F0 m (pc + 3) ls (.int r :: rest))) :
    W p l e R s m args below meth c H locs (h.2.1 - t0) (h.2.2 - u0) Q (F0 m pc ls (as.reverse ++ rest)) := by
  obtain ⟨hm1, hm2, hMet⟩ := hX
  have cw : vx_CSW R s args "AgreedStoreLaw" idx w bw mlw (some .int) hh (Jvm.Cond.codeWith w bw mlw (some .int) hh :: xALL) ({ frames := d, cells := h'.2.1 - h.2.1, slots := h'.2.2 - h.2.2, locals := 60 * d }) (h'.2.1 - h.2.1) (h'.2.2 - h.2.2) n := by
    refine ⟨⟨rfl, rfl, hF1, ?_, x_pay hts hcw, List.mem_cons_self⟩, hts _ hcw, ?_, ?_, fun sig h => ?_, hts _ hlk, hts _ hst⟩
    · show 8 + (mlw + 11) + 60 * d ≤ R.locals
      omega
    · rw [hcls]; exact hts _ (x_ini (by decide +kernel))
    · rw [hcls]; decide
    · rw [h] at hdesc
      exact (Option.some.inj hdesc).symm
  have hr := vx_runSX (p := p) (l := l) (e := e) (R := R) (below := below) (meth := meth) (locs := locs) (cells := h.2.1 - t0) (slots := h.2.2 - u0) (As := as) (rest := rest) (g := F0 m pc ls (as.reverse ++ rest)) (own := "AgreedStoreLaw") ⟨hx, hb, hml, hown, hts⟩ hMet cw
    ⟨x_blind, fun U hU hW => ⟨rfl, hbase, by rw [hU]; exact hR, hK.warm hW⟩⟩ rfl hn hl.1 rfl (lv_room hcat) hd ⟨by omega, by omega⟩
  intro T hT X
  rcases hr T hT X with ⟨v, st₀, t, T', L, h0, X', hL', e1, e2, ⟨hv, hR'⟩, st⟩ | ⟨q, st₀, t, T', L, E1, ce, -, -, -, -, -, hF, -⟩
  · cases hv
    rw [show h.2.1 - t0 + (h'.2.1 - h.2.1) = h'.2.1 - t0 by omega, show h.2.2 - u0 + (h'.2.2 - h.2.2) = h'.2.2 - u0 by omega] at X'
    obtain ⟨t2, a1, b1⟩ := kk t.heap (locs ++ L) hR' (fun q hq => (List.mem_append.mp hq).elim (hL q) (hL' q)) T' e1 X'
    exact ⟨t2, st t2 a1, b1⟩
  · exact hF.elim
end ZM
