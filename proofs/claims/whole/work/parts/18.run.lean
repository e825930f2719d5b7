theorem xop_mono {cF : Nat → List Value → xH → Option (Option Value × xH)} (hcF : ∀ y as h r h', cF y as h = some (r, h') → xMono h h') {o nL pc len : Nat} {ini : Bool} {i : Instr} {lv : xL} {st : List Value} {h : xH} {f : xF} (he : xop cF o nL ini i pc len lv st h = some f) : xMono h f.2.2.2 := by
  unfold xop at he
  split at he
  · split at he
    · cases he; exact ⟨Nat.le_refl _, Nat.le_refl _⟩
    · obtain ⟨pc', lv', st', h'⟩ := f
      exact (xmem_mono hcF he).1
  · cases he
theorem xrun_mono {cF : Nat → List Value → xH → Option (Option Value × xH)} (hcF : ∀ y as h r h', cF y as h = some (r, h') → xMono h h') {k : xK} {o nL : Nat} {ini : Bool} : ∀ (n : Nat) (f g : xF), xrun cF k o nL ini n f = some g → xMono f.2.2.2 g.2.2.2
  | 0, f, g, h => by simp [xrun] at h
  | n + 1, (pc, lv, st, h), g, he => by
    simp only [xrun] at he
    split at he
    · split at he
      · cases he; exact ⟨Nat.le_refl _, Nat.le_refl _⟩
      · split at he
        next f hf =>
          have h1 := xop_mono hcF hf
          have h2 := xrun_mono hcF n f g he
          exact ⟨Nat.le_trans h1.1 h2.1, Nat.le_trans h1.2 h2.2⟩
        next => cases he
    · cases he
/-- the code table is the bytes' -/
def xKok (cc : ByteArray) (k : xK) : Prop := ∀ q ∈ k, decode cc q.1 = .ok q.2
section XS9
variable {p : Program} {l : Launch} {e : Env} {R : Room} {s : State} {m : MethodId} {args : Array Value} {below : List Frame} {meth : Method} {c : Code} {Q : State → Prop}
variable {cc : ByteArray} {nL : Nat} {G0 : Heap} {Y : State → Prop} {D : va_G} {dA : Nat → ClassId} {base d t0 u0 : Nat} {cF : Nat → List Value → xH → Option (Option Value × xH)}
/-- A RUN: from any frame of it the machine comes to its end, a return -/
theorem x_run (hx : p.tables.exec = Jvm.exec) (hb : c.code = cc) (hml : c.maxLocals = nL) {o : Nat} (hown : s.vm.findClass (xOwn o) = some m.cls) (hts : ∀ w ∈ xALL, w.before args s = true) (hK : xKn Y D dA s) {ini : Bool} (hini : ini = true → meth.name = "<init>")
    (hF1 : d + 1 ≤ R.frames) (hF2 : 60 * (d + 1) ≤ R.locals) (hcF : ∀ y as h r h', cF y as h = some (r, h') → xMet l G0 Y D dA base d y as h r h') {k : xK} (hk : xKok cc k) (g : xF) (hc1 : g.2.2.2.2.1 - t0 ≤ R.cells) (hc2 : g.2.2.2.2.2 - u0 ≤ R.slots)
    (kk : ∀ (i : Instr) (len : Nat) (ls : Array Slot) (H : Heap) (locs : List Loc), decode cc g.1 = .ok (i, len) → xend i = true → lv_has ls nL g.2.1 → xRp G0 D dA base g.2.2.2 H → (∀ q ∈ locs, base ≤ q.base) → W p l e R s m args below meth c H locs (g.2.2.2.2.1 - t0) (g.2.2.2.2.2 - u0) Q (F0 m g.1 ls g.2.2.1)) :
    ∀ (n : Nat) (f : xF), xrun cF k o nL ini n f = some g → base ≤ f.2.2.2.2.1 → t0 ≤ f.2.2.2.2.1 → u0 ≤ f.2.2.2.2.2 → ∀ (ls : Array Slot) (H : Heap) (locs : List Loc), lv_has ls nL f.2.1 → xRp G0 D dA base f.2.2.2 H → (∀ q ∈ locs, base ≤ q.base) → W p l e R s m args below meth c H locs (f.2.2.2.2.1 - t0) (f.2.2.2.2.2 - u0) Q (F0 m f.1 ls f.2.2.1)
  | 0, f, h => by simp [xrun] at h
  | n + 1, (pc, lv, st, h), he => by
    intro hbase ht hu ls H locs hl hR hL
    have hmo : ∀ y as h r h', cF y as h = some (r, h') → xMono h h' := fun y as h r h' hq => by
      obtain ⟨_, _, _, _, _, h1, h2, _⟩ := hcF y as h r h' hq
      exact ⟨h1, h2⟩
    simp only [xrun] at he
    split at he
    next i len hlk =>
      have hmem : (pc, (i, len)) ∈ k := x_look hlk
      have hd : decode cc pc = .ok (i, len) := hk (pc, (i, len)) hmem
      split at he
      next hend =>
        cases he
        exact kk i len ls H locs hd hend hl hR hL
      next hend =>
        split at he
        next f hf =>
          obtain ⟨pc', lv', st', h'⟩ := f
          have hm1 := xop_mono hmo hf
          have hm2 := xrun_mono hmo n _ _ he
          dsimp only at hm1 hm2 hbase ht hu
          have ih := x_run hx hb hml hown hts hK hini hF1 hF2 hcF hk g hc1 hc2 kk n _ he (by show base ≤ h'.2.1; omega) (by show t0 ≤ h'.2.1; omega) (by show u0 ≤ h'.2.2; omega)
          dsimp only at ih
          unfold xop at hf
          split at hf
          next hlen =>
            split at hf
            next pc2 lv2 st2 hp =>
              cases hf
              exact x_pure hx hb hown hts hK hR hd hlen hl hp (fun ls' hl' => ih ls' H locs hl' hR hL)
            next hp =>
              obtain ⟨-, e1⟩ := xmem_mono hmo hf
              subst e1
              exact x_mem hx hb hml hown hts hK hR hbase hini hF1 hF2 hcF ht hu hL hd hlen hl hf (by omega) (by omega) (fun H' locs' hR' hL' => ih ls H' locs' hl hR' hL')
          next => cases hf
        next => cases he
    next => cases he
end XS9
