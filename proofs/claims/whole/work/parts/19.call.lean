/-- how a method ends -/
def xfin (ret : Option FieldType) (i : Instr) (len : Nat) (st : List Value) : Option (Option Value) :=
  if len = 1 then (match ret, i, st with
    | none, .return_, [] => some none
    | some .int, .ireturn, [.int v] => some (some (.int v))
    | some .boolean, .ireturn, [.int v] => if v = 0 ∨ v = 1 then some (some (.int v)) else none
    | some .byte, .ireturn, [.int v] => if v.toInt8.toInt32 = v then some (some (.int v)) else none
    | some .long, .lreturn, [.long v] => some (some (.long v))
    | some (.object _), .areturn, [.ref a] => some (some (.ref a))
    | some (.object _), .areturn, [.null] => some (some .null)
    | some (.array _), .areturn, [.ref a] => some (some (.ref a))
    | _, _, _ => none) else none
/-- a method by its code -/
def xcallI (cF : Nat → List Value → xH → Option (Option Value × xH)) (kk : Nat → xK) (mo : Nat → Nat) (F y : Nat) (as : List Value) (h : xH) : Option (Option Value × xH) :=
  match xM y with
  | some (_, ml, ret, _) => if (lg_sl as).length ≤ ml then (match xrun cF (kk y) (mo y) ml (decide ((xMn y).name = "<init>")) F (0, lv_args 0 as, [], h) with
    | some (pc, _, st, h') => (match (kk y).lookup pc with
      | some (i, len) => (match xfin ret i len st with
        | some r => some (r, h')
        | none => none)
      | none => none)
    | none => none) else none
  | none => none
theorem x_met {l : Launch} {G0 : Heap} {Y : State → Prop} {D : va_G} {dA : Nat → ClassId} {base d : Nat} {cF : Nat → List Value → xH → Option (Option Value × xH)} (hcF : ∀ y as h r h', cF y as h = some (r, h') → xMet l G0 Y D dA base d y as h r h') {kk : Nat → xK} {mo : Nat → Nat} {F y : Nat} (hp : plainName (xMn y).cls = true) (hmo : xOwn (mo y) = (xMn y).cls)
    (hk : ∀ q, xM y = some q → xKok q.1 (kk y)) {as : List Value} {h h' : xH} {r : Option Value} (he : xcallI cF kk mo F y as h = some (r, h')) : xMet l G0 Y D dA base (d + 1) y as h r h' := by
  have hmo' : ∀ y as h r h', cF y as h = some (r, h') → xMono h h' := fun y as h r h' hq => by
    obtain ⟨_, _, _, _, _, h1, h2, _⟩ := hcF y as h r h' hq
    exact ⟨h1, h2⟩
  unfold xcallI at he
  split at he
  next bytes ml ret n hM =>
    split at he
    next hlen =>
      split at he
      next pc lv st h2 hrun =>
        split at he
        next i len hlk =>
          split at he
          next r2 hfin =>
            cases he
            have hm := xrun_mono hmo' _ _ _ hrun
            dsimp only at hm
            have hkk : xKok bytes (kk y) := hk _ hM
            refine ⟨bytes, ml, ret, n, hM, hm.1, hm.2, Met.ofW hp rfl ?_⟩
            intro p e s m args below meth c s₁ B hml hP
            obtain ⟨rfl, hbase, hR, hK⟩ := hP
            have hts : ∀ w ∈ xALL, w.before as.toArray s = true := fun w hw => atoms_spec (ws := Jvm.Cond.code (xMn y) bytes ml ret :: xALL) B.pre w (List.mem_cons_of_mem _ hw)
            have hown : s.vm.findClass (xOwn (mo y)) = some m.cls := by rw [hmo]; exact findClass_of_methodNamed B.named
            have hlocks := B.notSynchronized
            have hnm : meth.name = (xMn y).name := (name_of_methodNamed B.named B.method).1
            have hret : meth.sig.returnType = ret := B.returns
            have hl := lv_entry as (n := ml) hlen
            rw [lg_entry_eq]
            generalize (lg_sl as ++ List.replicate (ml - (lg_sl as).length) Slot.unset).toArray = ls at hl ⊢
            have hrn := x_run (e := e) (R := (headSpec (Jvm.Cond.code (xMn y) bytes ml ret :: xALL) ({ frames := d + 1, cells := h'.2.1 - h.2.1, slots := h'.2.2 - h.2.2, locals := 60 * (d + 1) } : Jvm.Room)).room) (t0 := h.2.1) (u0 := h.2.2) (below := below) (Q := MQ below (fun _ _ o t => o = .returned r ∧ xRp G0 D dA base h' t.heap) as.toArray s (h'.2.1 - h.2.1) (h'.2.2 - h.2.2) (fun q => base ≤ q)) (d := d)
              B.exec B.bytes hml hown hts hK (ini := decide ((xMn y).name = "<init>")) (fun z => hnm.trans (of_decide_eq_true z)) (Nat.le_refl _) (Nat.le_refl _) hcF hkk (pc, lv, st, h') (Nat.le_refl _) (Nat.le_refl _) ?_ _ _ hrun hbase (Nat.le_refl _) (Nat.le_refl _) ls s.heap [] hl hR (fun _ h => absurd h List.not_mem_nil)
            · simp only [Nat.sub_self] at hrn
              exact hrn
            · intro i2 len2 ls2 H2 locs2 hd hend hl2 hR2 hL2
              have hmem : (pc, (i, len)) ∈ kk y := x_look hlk
              have hd1 : decode bytes pc = .ok (i, len) := hkk (pc, (i, len)) hmem
              unfold xfin at hfin
              split at hfin
              next h1 =>
                subst h1
                split at hfin
                · cases hfin
                  exact W.vret B.exec B.bytes hret (fun t ht _ => ⟨rfl, by rw [ht]; exact hR2⟩) hL2 hd1 hlocks
                · cases hfin
                  exact W.iret B.exec B.bytes hret (fun t ht _ => ⟨rfl, by rw [ht]; exact hR2⟩) hL2 hd1 hlocks
                · split at hfin
                  next hv =>
                    cases hfin
                    exact W.zret B.exec B.bytes hret (by rcases hv with rfl | rfl <;> rfl) (fun t ht _ => ⟨rfl, by rw [ht]; exact hR2⟩) hL2 hd1 hlocks
                  next => cases hfin
                · split at hfin
                  next hv =>
                    cases hfin
                    exact W.zret B.exec B.bytes hret (by rw [narrow_byte, hv]) (fun t ht _ => ⟨rfl, by rw [ht]; exact hR2⟩) hL2 hd1 hlocks
                  next => cases hfin
                · cases hfin
                  exact W.lret B.exec B.bytes hret (fun t ht _ => ⟨rfl, by rw [ht]; exact hR2⟩) hL2 hd1 hlocks
                · cases hfin
                  exact W.aret B.exec B.bytes hret (Or.inl ⟨_, rfl⟩) (Or.inr ⟨_, rfl⟩) (fun t ht _ => ⟨rfl, by rw [ht]; exact hR2⟩) hL2 hd1 hlocks
                · cases hfin
                  exact W.aret B.exec B.bytes hret (Or.inl ⟨_, rfl⟩) (Or.inl rfl) (fun t ht _ => ⟨rfl, by rw [ht]; exact hR2⟩) hL2 hd1 hlocks
                · cases hfin
                  exact W.aret B.exec B.bytes hret (Or.inr ⟨_, rfl⟩) (Or.inr ⟨_, rfl⟩) (fun t ht _ => ⟨rfl, by rw [ht]; exact hR2⟩) hL2 hd1 hlocks
                · cases hfin
              next => cases hfin
          next => cases he
        next => cases he
      next => cases he
    next => cases he
  next => cases he
/-- all methods: 'pF' those that are done by themselves -/
def xcall (pF : Nat → List Value → xH → Option (Option Value × xH)) (kk : Nat → xK) (mo : Nat → Nat) (F : Nat) : Nat → Nat → List Value → xH → Option (Option Value × xH)
  | 0, _, _, _ => none
  | d + 1, y, as, h => match (if 4 ≤ d then pF y as h else none) with
    | some r => some r
    | none => xcallI (xcall pF kk mo F d) kk mo F y as h
theorem x_all {l : Launch} {G0 : Heap} {Y : State → Prop} {D : va_G} {dA : Nat → ClassId} {base : Nat} {pF : Nat → List Value → xH → Option (Option Value × xH)} {kk : Nat → xK} {mo : Nat → Nat} {F : Nat} (hpF : ∀ d y as h r h', 4 ≤ d → pF y as h = some (r, h') → xMet l G0 Y D dA base (d + 1) y as h r h')
    (hk : ∀ y, kk y ≠ [] → plainName (xMn y).cls = true ∧ xOwn (mo y) = (xMn y).cls ∧ ∀ q, xM y = some q → xKok q.1 (kk y)) : ∀ d y as h r h', xcall pF kk mo F d y as h = some (r, h') → xMet l G0 Y D dA base d y as h r h'
  | 0, _, _, _, _, _, he => by simp [xcall] at he
  | d + 1, y, as, h, r, h', he => by
    simp only [xcall] at he
    split at he
    next r2 hp =>
      split at hp
      next hd => cases he; exact hpF d y as h r h' hd hp
      next => cases hp
    next =>
      by_cases hz : kk y = []
      · exfalso
        unfold xcallI at he
        rw [hz] at he
        split at he
        · split at he
          · cases F with
            | zero => simp [xrun] at he
            | succ F => simp [xrun] at he
          · cases he
        · cases he
      · obtain ⟨h1, h2, h3⟩ := hk y hz
        exact x_met (x_all hpF hk d) h1 h2 h3 he
