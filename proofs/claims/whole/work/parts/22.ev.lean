/-! running by rules: xE: a run comes to its end; xCo: a call comes back -/
def xE (pF : Nat → List Value → xH → Option (Option Value × xH)) (d : Nat) (k : xK) (o nL : Nat) (ini : Bool) (f g : xF) : Prop := ∃ N, ∀ F, N ≤ F → ∀ n, N ≤ n → xrun (xcall pF kkA moA F d) k o nL ini n f = some g
def xCo (pF : Nat → List Value → xH → Option (Option Value × xH)) (d y : Nat) (as : List Value) (h : xH) (r : Option Value) (h' : xH) : Prop := ∃ N, ∀ F, N ≤ F → xcall pF kkA moA F d y as h = some (r, h')
/-- one step that calls nobody -/
def xs0 (k : xK) (o nL : Nat) (ini : Bool) (f : xF) : Option xF := match k.lookup f.1 with
  | some (i, len) => if xend i = true then none else xop (fun _ _ _ => none) o nL ini i f.1 len f.2.1 f.2.2.1 f.2.2.2
  | none => none
def xsn (k : xK) (o nL : Nat) (ini : Bool) : Nat → xF → Option xF
  | 0, f => some f
  | n + 1, f => match xs0 k o nL ini f with
    | some f' => xsn k o nL ini n f'
    | none => none
theorem xmem_none {cF : Nat → List Value → xH → Option (Option Value × xH)} {o pc : Nat} {ini : Bool} {i : Instr} {lv : xL} {st : List Value} {h : xH} {f : xF} (he : xmem (fun _ _ _ => none) o ini i pc lv st h = some f) : xmem cF o ini i pc lv st h = some f := by
  cases i
  case invokevirtual idx =>
    simp only [xmem, xvirt, xcall1] at he
    split at he
    · split at he
      · split at he
        · split at he <;> cases he
        · cases he
      · cases he
    · cases he
  case invokestatic idx =>
    simp only [xmem, xstat, xcall1] at he ⊢
    cases hy : xmR o idx with
    | none => rw [hy] at he; exact he
    | some y =>
      rw [hy] at he
      dsimp only at he ⊢
      by_cases q1 : y = xMax
      · rw [if_pos q1] at he ⊢; exact he
      · rw [if_neg q1] at he ⊢
        by_cases q2 : y = xMin
        · rw [if_pos q2] at he ⊢; exact he
        · rw [if_neg q2] at he
          split at he
          · split at he <;> cases he
          · cases he
  case invokespecial idx =>
    simp only [xmem, xini, xcall1] at he ⊢
    split at he
    · split at he
      · split at he
        · split at he <;> cases he
        · cases he
      · cases he
    · split at he
      · split at he
        · split at he
          · split at he <;> cases he
          · cases he
        · cases he
      · exact he
  all_goals exact he
theorem xop_none {cF : Nat → List Value → xH → Option (Option Value × xH)} {o nL pc len : Nat} {ini : Bool} {i : Instr} {lv : xL} {st : List Value} {h : xH} {f : xF} (he : xop (fun _ _ _ => none) o nL ini i pc len lv st h = some f) : xop cF o nL ini i pc len lv st h = some f := by
  unfold xop at he ⊢
  split at he
  next h1 =>
    rw [if_pos h1]
    split at he
    · exact he
    · exact xmem_none he
  next => cases he
section XE
variable {pF : Nat → List Value → xH → Option (Option Value × xH)} {d : Nat} {k : xK} {o nL : Nat} {ini : Bool}
theorem xrun_n {cF : Nat → List Value → xH → Option (Option Value × xH)} : ∀ (m n : Nat) (f f' g : xF), xsn k o nL ini m f = some f' → xrun cF k o nL ini n f' = some g → xrun cF k o nL ini (n + m) f = some g
  | 0, n, f, f', g, h1, h2 => by cases h1; exact h2
  | m + 1, n, (pc, lv, st, h), f', g, h1, h2 => by
    unfold xsn xs0 at h1
    dsimp only at h1
    rw [← Nat.add_assoc]
    unfold xrun
    cases hl : k.lookup pc with
    | none => rw [hl] at h1; cases h1
    | some q =>
      obtain ⟨i, len⟩ := q
      rw [hl] at h1
      dsimp only at h1 ⊢
      by_cases he : xend i = true
      · rw [if_pos he] at h1; cases h1
      · rw [if_neg he] at h1 ⊢
        cases ho : xop (fun _ _ _ => none) o nL ini i pc len lv st h with
        | none => rw [ho] at h1; cases h1
        | some f2 =>
          rw [ho] at h1
          rw [xop_none ho]
          exact xrun_n m n f2 f' g h1 h2
theorem xE_n {f f' g : xF} (m : Nat) (h : xsn k o nL ini m f = some f') (hk : xE pF d k o nL ini f' g) : xE pF d k o nL ini f g := by
  obtain ⟨N, hN⟩ := hk
  refine ⟨N + m, fun F hF n hn => ?_⟩
  obtain ⟨q, rfl⟩ : ∃ q, n = q + m := ⟨n - m, by omega⟩
  exact xrun_n m q f f' g h (hN F (by omega) q (by omega))
theorem xE_end {pc len : Nat} {i : Instr} {lv : xL} {st : List Value} {h : xH} (hl : k.lookup pc = some (i, len)) (he : xend i = true) : xE pF d k o nL ini (pc, lv, st, h) (pc, lv, st, h) := by
  refine ⟨1, fun F _ n hn => ?_⟩
  obtain ⟨q, rfl⟩ : ∃ q, n = q + 1 := ⟨n - 1, by omega⟩
  simp only [xrun, hl, he, if_true]
/-- a step that calls -/
theorem xE_c {pc len : Nat} {i : Instr} {lv : xL} {st : List Value} {h : xH} {f' g : xF} (hl : k.lookup pc = some (i, len)) (he : xend i = false) (hc : ∃ N, ∀ F, N ≤ F → xop (xcall pF kkA moA F d) o nL ini i pc len lv st h = some f') (hk : xE pF d k o nL ini f' g) : xE pF d k o nL ini (pc, lv, st, h) g := by
  obtain ⟨N, hN⟩ := hk
  obtain ⟨N1, hN1⟩ := hc
  refine ⟨N + N1 + 1, fun F hF n hn => ?_⟩
  obtain ⟨q, rfl⟩ : ∃ q, n = q + 1 := ⟨n - 1, by omega⟩
  simp only [xrun, hl, he, hN1 F (by omega)]
  exact hN F (by omega) q (by omega)
/-- a method by its run -/
theorem xCo_of {y ml n : Nat} {bytes : ByteArray} {ret : Option FieldType} {as st : List Value} {h h' : xH} {pc len : Nat} {i : Instr} {lv : xL} {r : Option Value} (hM : xM y = some (bytes, ml, ret, n)) (hlen : (lg_sl as).length ≤ ml) (hp : pF y as h = none)
    (hr : xE pF d (kkA y) (moA y) ml (decide ((xMn y).name = "<init>")) (0, lv_args 0 as, [], h) (pc, lv, st, h')) (hl : (kkA y).lookup pc = some (i, len)) (hf : xfin ret i len st = some r) : xCo pF (d + 1) y as h r h' := by
  obtain ⟨N, hN⟩ := hr
  refine ⟨N, fun F hF => ?_⟩
  simp only [xcall, hp, ite_self, xcallI, hM, if_pos hlen, hN F hF F hF, hl, hf]
end XE
