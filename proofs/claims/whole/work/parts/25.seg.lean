/-! pieces of a run (x_seg), a method's contract by its walk (x_metW), ends; what is known besides (yY): ArrayList's empty array, the class object of Object[] -/
/-- n steps, none of them a return -/
def xstp (cF : Nat → List Value → xH → Option (Option Value × xH)) (k : xK) (o nL : Nat) (ini : Bool) : Nat → xF → Option xF
  | 0, f => some f
  | n + 1, f => match k.lookup f.1 with
    | some (i, len) => if xend i = true then none else (match xop cF o nL ini i f.1 len f.2.1 f.2.2.1 f.2.2.2 with
      | some f' => xstp cF k o nL ini n f'
      | none => none)
    | none => none
theorem xstp_mono {cF : Nat → List Value → xH → Option (Option Value × xH)} (hcF : ∀ y as h r h', cF y as h = some (r, h') → xMono h h') {k : xK} {o nL : Nat} {ini : Bool} : ∀ (n : Nat) (f g : xF), xstp cF k o nL ini n f = some g → xMono f.2.2.2 g.2.2.2
  | 0, f, g, h => by cases h; exact ⟨Nat.le_refl _, Nat.le_refl _⟩
  | n + 1, f, g, h => by
    unfold xstp at h
    split at h
    · split at h
      · cases h
      · split at h
        next f' hf =>
          have h1 := xop_mono hcF hf
          have h2 := xstp_mono hcF n f' g h
          exact ⟨Nat.le_trans h1.1 h2.1, Nat.le_trans h1.2 h2.2⟩
        next => cases h
    · cases h
section XSEG
variable {p : Program} {l : Launch} {e : Env} {R : Room} {s : State} {m : MethodId} {args : Array Value} {below : List Frame} {meth : Method} {c : Code} {Q : State → Prop}
variable {cc : ByteArray} {nL : Nat} {G0 : Heap} {Y : State → Prop} {D : va_G} {dA : Nat → ClassId} {base d t0 u0 : Nat} {cF : Nat → List Value → xH → Option (Option Value × xH)}
theorem x_seg (hx : p.tables.exec = Jvm.exec) (hb : c.code = cc) (hml : c.maxLocals = nL) {o : Nat} (hown : s.vm.findClass (xOwn o) = some m.cls) (hts : ∀ w ∈ xALL, w.before args s = true) (hK : xKn Y D dA s) {ini : Bool} (hini : ini = true → meth.name = "<init>")
    (hF1 : d + 1 ≤ R.frames) (hF2 : 60 * (d + 1) ≤ R.locals) (hcF : ∀ y as h r h', cF y as h = some (r, h') → xMet l G0 Y D dA base d y as h r h') {k : xK} (hk : xKok cc k) (g : xF) (hc1 : g.2.2.2.2.1 - t0 ≤ R.cells) (hc2 : g.2.2.2.2.2 - u0 ≤ R.slots)
    (kk : ∀ (ls : Array Slot) (H : Heap) (locs : List Loc), lv_has ls nL g.2.1 → xRp G0 D dA base g.2.2.2 H → (∀ q ∈ locs, base ≤ q.base) → W p l e R s m args below meth c H locs (g.2.2.2.2.1 - t0) (g.2.2.2.2.2 - u0) Q (F0 m g.1 ls g.2.2.1)) :
    ∀ (n : Nat) (f : xF), xstp cF k o nL ini n f = some g → base ≤ f.2.2.2.2.1 → t0 ≤ f.2.2.2.2.1 → u0 ≤ f.2.2.2.2.2 → ∀ (ls : Array Slot) (H : Heap) (locs : List Loc), lv_has ls nL f.2.1 → xRp G0 D dA base f.2.2.2 H → (∀ q ∈ locs, base ≤ q.base) → W p l e R s m args below meth c H locs (f.2.2.2.2.1 - t0) (f.2.2.2.2.2 - u0) Q (F0 m f.1 ls f.2.2.1)
  | 0, f, h => by
    cases h
    intro _ _ _ ls H locs h1 h2 h3
    exact kk ls H locs h1 h2 h3
  | n + 1, (pc, lv, st, h), he => by
    intro hbase ht hu ls H locs hl hR hL
    have hmo : ∀ y as h r h', cF y as h = some (r, h') → xMono h h' := fun y as h r h' hq => by
      obtain ⟨_, _, _, _, _, h1, h2, _⟩ := hcF y as h r h' hq
      exact ⟨h1, h2⟩
    unfold xstp at he
    split at he
    next i len hlk =>
      have hmem : (pc, (i, len)) ∈ k := x_look hlk
      have hd : decode cc pc = .ok (i, len) := hk (pc, (i, len)) hmem
      split at he
      next => cases he
      next hend =>
        split at he
        next f hf =>
          obtain ⟨pc', lv', st', h'⟩ := f
          have hm1 := xop_mono hmo hf
          have hm2 := xstp_mono hmo n _ _ he
          dsimp only at hm1 hm2 hbase ht hu
          have ih := x_seg hx hb hml hown hts hK hini hF1 hF2 hcF hk g hc1 hc2 kk n _ he (by show base ≤ h'.2.1; omega) (by show t0 ≤ h'.2.1; omega) (by show u0 ≤ h'.2.2; omega)
          dsimp only at ih hf
          unfold xop at hf
          split at hf
          next hlen =>
            split at hf
            next pc2 lv2 st2 hp =>
              cases hf
              exact x_pure hx hb hown hts hK hR hd hlen hl hp (fun ls' hl' => ih ls' H locs hl' hR hL)
            next hp =>
              obtain ⟨-, e1⟩ := xmem_mono hmo hf
              subst e1
              exact x_mem hx hb hml hown hts hK hR hbase hini hF1 hF2 hcF ht hu hL hd hlen hl hf (by omega) (by omega) (fun H' locs' hR' hL' => ih ls H' locs' hl hR' hL')
          next => cases hf
        next => cases he
    next => cases he
end XSEG
/-- a method's contract by a walk of it -/
theorem x_metW {l : Launch} {G0 : Heap} {Y : State → Prop} {D : va_G} {dA : Nat → ClassId} {base d y ml n : Nat} {bytes : ByteArray} {ret : Option FieldType} (hM : xM y = some (bytes, ml, ret, n)) (hp : plainName (xMn y).cls = true) {as : List Value} (hlen : (lg_sl as).length ≤ ml) {h h' : xH} {r : Option Value} (hm1 : h.2.1 ≤ h'.2.1) (hm2 : h.2.2 ≤ h'.2.2)
    (hw : ∀ (p : Program) (e : Env) (R : Room) (s : State) (m : MethodId) (below : List Frame) (meth : Method) (c : Code) (ls : Array Slot) (H : Heap), p.tables.exec = Jvm.exec → c.code = bytes → c.maxLocals = ml → s.vm.findClass (xMn y).cls = some m.cls → (∀ w ∈ xALL, w.before as.toArray s = true) → xKn Y D dA s → meth.locks = false → meth.name = (xMn y).name → meth.sig.returnType = ret → base ≤ h.2.1 →
      d + 1 ≤ R.frames → 60 * (d + 1) ≤ R.locals → h'.2.1 - h.2.1 ≤ R.cells → h'.2.2 - h.2.2 ≤ R.slots → lv_has ls ml (lv_args 0 as) → xRp G0 D dA base h H →
      W p l e R s m as.toArray below meth c H [] (h.2.1 - h.2.1) (h.2.2 - h.2.2) (MQ below (fun _ _ o t => o = .returned r ∧ xRp G0 D dA base h' t.heap) as.toArray s (h'.2.1 - h.2.1) (h'.2.2 - h.2.2) (fun q => base ≤ q)) (F0 m 0 ls [])) : xMet l G0 Y D dA base (d + 1) y as h r h' := by
  refine ⟨bytes, ml, ret, n, hM, hm1, hm2, Met.ofW hp rfl ?_⟩
  intro p e s m args below meth c s₁ B hml hP
  obtain ⟨rfl, hbase, hR, hK⟩ := hP
  have hts : ∀ w ∈ xALL, w.before as.toArray s = true := fun w hw => atoms_spec (ws := Jvm.Cond.code (xMn y) bytes ml ret :: xALL) B.pre w (List.mem_cons_of_mem _ hw)
  have hown : s.vm.findClass (xMn y).cls = some m.cls := findClass_of_methodNamed B.named
  have hnm : meth.name = (xMn y).name := (name_of_methodNamed B.named B.method).1
  have hl := lv_entry as (n := ml) hlen
  rw [lg_entry_eq]
  generalize (lg_sl as ++ List.replicate (ml - (lg_sl as).length) Slot.unset).toArray = ls at hl ⊢
  have := hw p e (headSpec (Jvm.Cond.code (xMn y) bytes ml ret :: xALL) ({ frames := d + 1, cells := h'.2.1 - h.2.1, slots := h'.2.2 - h.2.2, locals := 60 * (d + 1) } : Jvm.Room)).room s m below meth c ls s.heap B.exec B.bytes hml hown hts hK B.notSynchronized hnm B.returns hbase (Nat.le_refl _) (Nat.le_refl _) (Nat.le_refl _) (Nat.le_refl _) hl hR
  simp only [Nat.sub_self] at this
  exact this
/-- what is known besides -/
def yW : List Jvm.Cond := [.methodLink "java/util/Arrays" 86 ⟨"java/lang/Object", "getClass", "()Ljava/lang/Class;"⟩, .instanceMethod ⟨"java/lang/Object", "getClass", "()Ljava/lang/Class;"⟩, .native ⟨"java/lang/Object", "getClass", "()Ljava/lang/Class;"⟩, .classLink "java/util/Arrays" 110 "[Ljava/lang/Object;"]
theorem yW_in : ∀ w ∈ yW, w ∈ lw_tbl := fun w h => xin_t4 w (x_sub (big := tables_1_4) [178, 179, 201, 205] rfl w h)
theorem yW2_in : ∀ w ∈ ([.selects "[Ljava/lang/Object;" ⟨"java/lang/Object", "getClass", "()Ljava/lang/Class;"⟩ ⟨"java/lang/Object", "getClass", "()Ljava/lang/Class;"⟩] : List Jvm.Cond), w ∈ lw_tbl := fun w h => xin_t14 w (x_sub (big := tables_1_14) [212] rfl w h)
theorem yW3_in : ∀ w ∈ ([.fieldLink "java/util/ArrayList" 39 "java/util/ArrayList" "DEFAULTCAPACITY_EMPTY_ELEMENTDATA" "[Ljava/lang/Object;"] : List Jvm.Cond), w ∈ lw_tbl := fun w h => xin_t1 w (x_sub (big := tables_1_1) [73] rfl w h)
def yY (G0 : Heap) (base eD mi : Nat) (U : State) : Prop := va_Z "java/util/ArrayList" "DEFAULTCAPACITY_EMPTY_ELEMENTDATA" "[Ljava/lang/Object;" (.ref eD) (fun q => base ≤ q) U G0 ∧ va_Mi "[Ljava/lang/Object;" mi U ∧ va_Dc U
theorem xKn.y {Y : State → Prop} {D : va_G} {dA : Nat → ClassId} {s : State} (hK : xKn Y D dA s) : Y s := hK.2.2.2.1 s (Vm.Alike.refl _)
section YROW
variable {p : Program} {l : Launch} {e : Env} {R : Room} {s : State} {m : MethodId} {args : Array Value} {below : List Frame} {meth : Method} {c : Code} {H : Heap} {locs : List Loc} {cells slots : Nat} {Q : State → Prop}
variable {cc : ByteArray} {pc nL : Nat} {ls : Array Slot} {G0 : Heap} {Y : State → Prop} {D : va_G} {dA : Nat → ClassId} {base eD mi : Nat} {h : xH}
theorem y_gets (hx : p.tables.exec = Jvm.exec) (hb : c.code = cc) (hown : s.vm.findClass "java/util/ArrayList" = some m.cls) (hts : ∀ w ∈ xALL, w.before args s = true) (hY : yY G0 base eD mi s) (hR : xRp G0 D dA base h H) {st : List Value} (hd : decode cc pc = .ok (.getstatic 39, 3))
    (kk : W p l e R s m args below meth c H locs cells slots Q (F0 m (pc + 3) ls (.ref eD :: st))) : W p l e R s m args below meth c H locs cells slots Q (F0 m pc ls st) := by
  obtain ⟨cf, kf, fi, f, a, cell, h1, h2, h3, h4, h5, h6, h7, h8⟩ := hY.1
  exact W.gets hx hb hown (hts _ (xALL_g (yW3_in _ (by simp)) rfl)) h1 h2 h3 h4 (by rw [hR.2.2 a (Nat.lt_of_not_le h8)]; exact h5) (fun e => by rw [e] at h6; cases h6) h7 rfl hd kk
theorem y_vret {pc0 : Nat} {h' : xH} {mc ms : Nat} (hx : p.tables.exec = Jvm.exec) (hb : c.code = cc) (hret : meth.sig.returnType = none) (hlk : meth.locks = false) (hR : xRp G0 D dA base h' H) (hL : ∀ q ∈ locs, base ≤ q.base) (hd : decode cc pc0 = .ok (.return_, 1)) (hc : cells = mc) (hs : slots = ms) :
    W p l e R s m args below meth c H locs cells slots (MQ below (fun _ _ o t => o = .returned none ∧ xRp G0 D dA base h' t.heap) args s mc ms (fun q => base ≤ q)) (F0 m pc0 ls []) := by
  subst hc; subst hs
  exact W.vret hx hb hret (fun t ht _ => ⟨rfl, by rw [ht]; exact hR⟩) hL hd hlk
theorem y_aret {pc0 a : Nat} {h' : xH} {mc ms : Nat} {ty : FieldType} (hx : p.tables.exec = Jvm.exec) (hb : c.code = cc) (hret : meth.sig.returnType = some (.array ty)) (hlk : meth.locks = false) (hR : xRp G0 D dA base h' H) (hL : ∀ q ∈ locs, base ≤ q.base) (hd : decode cc pc0 = .ok (.areturn, 1)) (hc : cells = mc) (hs : slots = ms) :
    W p l e R s m args below meth c H locs cells slots (MQ below (fun _ _ o t => o = .returned (some (.ref a)) ∧ xRp G0 D dA base h' t.heap) args s mc ms (fun q => base ≤ q)) (F0 m pc0 ls [.ref a]) := by
  subst hc; subst hs
  exact W.aret hx hb hret (Or.inr ⟨_, rfl⟩) (Or.inr ⟨_, rfl⟩) (fun t ht _ => ⟨rfl, by rw [ht]; exact hR⟩) hL hd hlk
/-- getClass of an array of Objects; its class object as a constant -/
theorem y_getC (hx : p.tables.exec = Jvm.exec) (hb : c.code = cc) (hml : c.maxLocals = nL) (hown : s.vm.findClass "java/util/Arrays" = some m.cls) (hts : ∀ w ∈ xALL, w.before args s = true) (hK : xKn Y D dA s) (hY : yY G0 base eD mi s) (hR : xRp G0 D dA base h H) (hF1 : 1 ≤ R.frames) (hF2 : 60 ≤ R.locals) {lv : xL} (hl : lv_has ls nL lv) {a : Nat} {rest : List Value} (ht : (h.1 a).1 = 24) (hz : 0 < (h.1 a).2.1) (hr : xcat rest ≤ 8) (hd : decode cc pc = .ok (.invokevirtual 86, 3))
    (kk : W p l e R s m args below meth c H locs cells slots Q (F0 m (pc + 3) ls (.ref mi :: rest))) : W p l e R s m args below meth c H locs cells slots Q (F0 m pc ls (.ref a :: rest)) := by
  have w1 : ∀ w ∈ yW, w.before args s = true := fun w hw => hts _ (xALL_g (yW_in w hw) (by
    simp only [yW, List.mem_cons, List.not_mem_nil, or_false] at hw
    rcases hw with rfl | rfl | rfl | rfl <;> rfl))
  obtain ⟨-, hc, -⟩ := x_arrj (j := 4) hR ht (by omega) (Or.inl hz)
  obtain ⟨kA, comp, k1, k2, k3, k4⟩ := (hK.1.2 4 _ (rfl : (xtys dA)[4]? = some (dA 4, .object "java/lang/Object"))).2
  have hq : (rest.map fun v => v.category).sum ≤ 8 := hr
  exact va_getC (C := "[Ljava/lang/Object;") hx hb (hml.trans hl.1.symm) hown (w1 _ (by simp [yW])) (va_Dc.use hY.2.2) (hts _ (xALL_g (yW2_in _ (by simp)) rfl)) (w1 _ (by simp [yW])) (w1 _ (by simp [yW])) hY.2.1 ⟨_, hc, rfl, k4⟩ hF1 (by omega) hd kk
theorem y_ldcM (hx : p.tables.exec = Jvm.exec) (hb : c.code = cc) (hown : s.vm.findClass "java/util/Arrays" = some m.cls) (hts : ∀ w ∈ xALL, w.before args s = true) (hY : yY G0 base eD mi s) {rest : List Value} (hd : decode cc pc = .ok (.ldc 110, 2))
    (kk : W p l e R s m args below meth c H locs cells slots Q (F0 m (pc + 2) ls (.ref mi :: rest))) : W p l e R s m args below meth c H locs cells slots Q (F0 m pc ls rest) :=
  va_ldcM hx hb hown (hts _ (xALL_g (yW_in (.classLink "java/util/Arrays" 110 "[Ljava/lang/Object;") (by simp [yW])) rfl)) hY.2.1 hd kk
end YROW
