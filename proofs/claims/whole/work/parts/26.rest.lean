/-! the rest of a method by the rules: from a frame in its midst to its end -/
section XREST
variable {p : Program} {l : Launch} {e : Env} {R : Room} {s : State} {m : MethodId} {args : Array Value} {below : List Frame} {meth : Method} {c : Code}
variable {cc : ByteArray} {nL : Nat} {G0 : Heap} {Y : State → Prop} {D : va_G} {dA : Nat → ClassId} {base d t0 u0 : Nat} {pF : Nat → List Value → xH → Option (Option Value × xH)}
theorem x_rest (hx : p.tables.exec = Jvm.exec) (hb : c.code = cc) (hml : c.maxLocals = nL) {o : Nat} (hown : s.vm.findClass (xOwn o) = some m.cls) (hts : ∀ w ∈ xALL, w.before args s = true) (hK : xKn Y D dA s) {ini : Bool} (hini : ini = true → meth.name = "<init>") (hlocks : meth.locks = false) {ret : Option FieldType} (hret : meth.sig.returnType = ret)
    (hF1 : d + 1 ≤ R.frames) (hF2 : 60 * (d + 1) ≤ R.locals) (hpF : ∀ d y as h r h', 4 ≤ d → pF y as h = some (r, h') → xMet l G0 Y D dA base (d + 1) y as h r h') {k : xK} (hk : xKok cc k) {rr : Option Value} {h' : xH} {mc ms : Nat} (hc1 : h'.2.1 - t0 ≤ R.cells) (hc2 : h'.2.2 - u0 ≤ R.slots) (hmc : h'.2.1 - t0 = mc) (hms : h'.2.2 - u0 = ms)
    {f : xF} (hr : xR pF d k o nL ini ret rr h' f) (hbase : base ≤ f.2.2.2.2.1) (ht : t0 ≤ f.2.2.2.2.1) (hu : u0 ≤ f.2.2.2.2.2) {ls : Array Slot} {H : Heap} {locs : List Loc} (hl : lv_has ls nL f.2.1) (hR : xRp G0 D dA base f.2.2.2 H) (hL : ∀ q ∈ locs, base ≤ q.base) :
    W p l e R s m args below meth c H locs (f.2.2.2.2.1 - t0) (f.2.2.2.2.2 - u0) (MQ below (fun _ _ o t => o = .returned rr ∧ xRp G0 D dA base h' t.heap) args s mc ms (fun q => base ≤ q)) (F0 m f.1 ls f.2.2.1) := by
  obtain ⟨pc, lv, st, i, len, hE, hlk, hfin⟩ := hr
  obtain ⟨N, hN⟩ := hE
  have hrun := hN N (Nat.le_refl _) N (Nat.le_refl _)
  subst hmc; subst hms
  refine x_run hx hb hml hown hts hK hini hF1 hF2 (x_all hpF kk_hk d) hk (pc, lv, st, h') hc1 hc2 ?_ N f hrun hbase ht hu ls H locs hl hR hL
  intro i2 len2 ls2 H2 locs2 hd hend hl2 hR2 hL2
  have hd1 : decode cc pc = .ok (i, len) := hk (pc, (i, len)) (x_look hlk)
  unfold xfin at hfin
  split at hfin
  next h1 =>
    subst h1
    split at hfin
    · cases hfin
      exact W.vret hx hb hret (fun t ht _ => ⟨rfl, by rw [ht]; exact hR2⟩) hL2 hd1 hlocks
    · cases hfin
      exact W.iret hx hb hret (fun t ht _ => ⟨rfl, by rw [ht]; exact hR2⟩) hL2 hd1 hlocks
    · split at hfin
      next hv =>
        cases hfin
        exact W.zret hx hb hret (by rcases hv with rfl | rfl <;> rfl) (fun t ht _ => ⟨rfl, by rw [ht]; exact hR2⟩) hL2 hd1 hlocks
      next => cases hfin
    · split at hfin
      next hv =>
        cases hfin
        exact W.zret hx hb hret (by rw [narrow_byte, hv]) (fun t ht _ => ⟨rfl, by rw [ht]; exact hR2⟩) hL2 hd1 hlocks
      next => cases hfin
    · cases hfin
      exact W.lret hx hb hret (fun t ht _ => ⟨rfl, by rw [ht]; exact hR2⟩) hL2 hd1 hlocks
    · cases hfin
      exact W.aret hx hb hret (Or.inl ⟨_, rfl⟩) (Or.inr ⟨_, rfl⟩) (fun t ht _ => ⟨rfl, by rw [ht]; exact hR2⟩) hL2 hd1 hlocks
    · cases hfin
      exact W.aret hx hb hret (Or.inl ⟨_, rfl⟩) (Or.inl rfl) (fun t ht _ => ⟨rfl, by rw [ht]; exact hR2⟩) hL2 hd1 hlocks
    · cases hfin
      exact W.aret hx hb hret (Or.inr ⟨_, rfl⟩) (Or.inr ⟨_, rfl⟩) (fun t ht _ => ⟨rfl, by rw [ht]; exact hR2⟩) hL2 hd1 hlocks
    · cases hfin
  next => cases hfin
/-- one plain instruction -/
theorem y_p {H : Heap} {locs : List Loc} {cells slots : Nat} {Q : State → Prop} {k : xK} {pc : Nat} {ls : Array Slot} {lv lv' : xL} {st st' : List Value} {pc' : Nat} {h : xH} (hx : p.tables.exec = Jvm.exec) (hb : c.code = cc) {o : Nat} (hown : s.vm.findClass (xOwn o) = some m.cls) (hts : ∀ w ∈ xALL, w.before args s = true) (hK : xKn Y D dA s) (hR : xRp G0 D dA base h H) (hk : xKok cc k)
    {i : Instr} {len : Nat} (hlk : k.lookup pc = some (i, len)) (hlen : xlen i = 0 ∨ xlen i = len) (hl : lv_has ls nL lv) (he : xpure o nL i pc len lv st h = some (pc', lv', st'))
    (kk : ∀ ls', lv_has ls' nL lv' → W p l e R s m args below meth c H locs cells slots Q (F0 m pc' ls' st')) : W p l e R s m args below meth c H locs cells slots Q (F0 m pc ls st) :=
  x_pure hx hb hown hts hK hR (hk (pc, (i, len)) (x_look hlk)) hlen hl he kk
end XREST
