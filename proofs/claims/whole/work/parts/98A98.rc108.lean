/-! the code of a log -/
theorem memC_app : ∀ (l r : List AE) (c : Int32), aMemC c (l ++ r) = aMemC (aMemC c l) r := by
  intro l
  induction l with
  | nil => exact fun r c => rfl
  | cons e l ih => exact fun r c => ih r _
theorem memC_split (l : List AE) (n : Nat) (c : Int32) : aMemC (aMemC c (l.take n)) (l.drop n) = aMemC c l := by
  rw [← memC_app, List.take_append_drop]
/-- what a server takes for the members is what its log says -/
def Cd (a : AA) (s : Nat) : Prop := aS a 65 s = aMemC (aS a 58 s) (aLg a s)
section CD0
variable {s k : Nat} {a b : AA} {P : AL → Prop}
theorem Cd_fr {W T : List Nat} (h : AFr W T a b) (q : dj [58, 65] W = true) (q2 : dj [2] T = true) (z : Cd a s) : Cd b s := by
  unfold Cd at z ⊢
  rw [h.1 65 (dj_m q (by decide)), h.1 58 (dj_m q (by decide)), h.2.2.2.1 (dj_m q2 (x := 2) (by decide))]
  exact z
theorem Cd_find : Cd (aFindCode a s) s := by
  show aS (aFindCode a s) 65 s = aMemC (aS (aFindCode a s) 58 s) (aLg (aFindCode a s) s)
  have e58 : aS (aFindCode a s) 58 s = aS a 58 s := AFr_findCode.1 58 (by decide) s
  rw [e58]
  unfold aFindCode
  rw [evI_e]
  rfl
theorem Cd_On {i : Nat} (h : On s a b) (hi : i ≠ s) (z : Cd a i) : Cd b i := by
  have e : ∀ f, f ∈ sF → aS b f i = aS a f i := fun f hf => h.1 f i (fun y => by
    rcases y with y | y | y | y | y | y
    · rw [y] at hf
      exact absurd hf (by decide)
    · rw [y] at hf
      exact absurd hf (by decide)
    · rw [y] at hf
      exact absurd hf (by decide)
    · exact hi y.2
    · exact absurd y.1 ((by decide : ∀ f ∈ sF, f ∉ sc49) f hf)
    · rw [y.1] at hf
      exact absurd hf (by decide))
  unfold Cd at z ⊢
  rw [e 65 (by decide), e 58 (by decide), (h.2.1 i hi).2.1]
  exact z
theorem seg_Cd : aS (aSeg a s).1 65 s = aS a 65 s ∧ aS (aSeg a s).1 58 s = aS a 58 s ∧ aLg (aSeg a s).1 s = aLg a s := by
  unfold aSeg
  dsimp only
  split
  · exact ⟨aS_If (a := aPut a s ((aFree a s).getD 0) (aF 1 24 (aLast a s + 1) (aTermAt a s (aLast a s)) 0 [] ([], []))) (by decide), aS_If (a := aPut a s ((aFree a s).getD 0) (aF 1 24 (aLast a s + 1) (aTermAt a s (aLast a s)) 0 [] ([], []))) (by decide), rfl⟩
  · exact ⟨rfl, rfl, rfl⟩
theorem memC_1 {e : AE} {c : Int32} : aMemC c [e] = if e.2.1 = 1 then e.2.2.2.1 else c := rfl
theorem Cd_append {e : AE} (z : Cd a s) : Cd (A_append a s e) s := by
  obtain ⟨g1, g2, g3⟩ := seg_Cd (a := a) (s := s)
  unfold A_append
  dsimp only
  refine Cd_fr AFr_soil (by decide) (by decide) ?_
  unfold Cd at z ⊢
  by_cases q : e.2.1 = 1
  · rw [if_pos q, evI_e, aS_If (by decide), aS_If (by decide), aS_If (by decide)]
    show e.2.2.2.1 = aMemC (aS (aSeg a s).1 58 s) (aU (aLg (aSeg a s).1) s (aLg a s ++ [e]) s)
    rw [show aU (aLg (aSeg a s).1) s (aLg a s ++ [e]) s = aLg a s ++ [e] from if_pos rfl, memC_app, memC_1, if_pos q]
  · rw [if_neg q, aS_If (by decide), aS_If (by decide)]
    show aS (aSeg a s).1 65 s = aMemC (aS (aSeg a s).1 58 s) (aU (aLg (aSeg a s).1) s (aLg a s ++ [e]) s)
    rw [show aU (aLg (aSeg a s).1) s (aLg a s ++ [e]) s = aLg a s ++ [e] from if_pos rfl, memC_app, memC_1, if_neg q, g1, g2, z]
theorem Cd_cutLog {n : Int32} : Cd (A_cutLog a s n) s := Cd_fr AFr_soil (by decide) (by decide) Cd_find
theorem Cd_recover : Cd (A_recover a s) s := Cd_find
theorem Cd_compact : Cd (A_compact a s) s := Cd_fr (AFr_off0 7) (by decide) (by decide) (Cd_fr AFr_soil (by decide) (by decide) Cd_find)
theorem compact_65 (z : Cd a s) (hh : aHas a s (aS a 76 s) = true) : aS (A_compact a s) 65 s = aS a 65 s := by
  unfold Cd at z
  rw [z, ← memC_split (aLg a s) (aS a 76 s - aBase a s).toNatClampNeg (aS a 58 s)]
  unfold A_compact
  dsimp only
  rw [(AFr_off0 7).1 65 (by decide) s, AFr_soil.1 65 (by decide) s]
  unfold aFindCode
  rw [evI_e]
  rw [AFr_trim.1 58 (by decide) s, AFr_writeShot.1 58 (by decide) s]
  show aMemC (aS (aMoveBase a s (aS a 76 s) (aTermAt a s (aS a 76 s)) (aMemC (aS a 58 s) ((aLg a s).take (aS a 76 s - aBase a s).toNatClampNeg))) 58 s) (aLg (aTrim (aWriteShot (aShS (aI (aMoveBase a s (aS a 76 s) (aTermAt a s (aS a 76 s)) (aMemC (aS a 58 s) ((aLg a s).take (aS a 76 s - aBase a s).toNatClampNeg))) 67 s (Int32.ofNat (aSize (aMc a s)))) s (aMc a s)) s) s) s) = _
  rw [AFr_trim.2.2.2.1 (by decide), AFr_writeShot.2.2.2.1 (by decide)]
  generalize aMemC (aS a 58 s) ((aLg a s).take (aS a 76 s - aBase a s).toNatClampNeg) = x
  have e58 : aS (aMoveBase a s (aS a 76 s) (aTermAt a s (aS a 76 s)) x) 58 s = x := by
    unfold aMoveBase
    rw [aS_If (by decide), aS_If (by decide), evI_e]
  have eg : aLg (aMoveBase a s (aS a 76 s) (aTermAt a s (aS a 76 s)) x) s = (aLg a s).drop (aS a 76 s - aBase a s).toNatClampNeg := by
    unfold aMoveBase
    rw [hh]
    show aU (aLg a) s (if (true && decide (aTermAt a s (aS a 76 s) = aTermAt a s (aS a 76 s))) = true then (aLg a s).drop (aS a 76 s - aBase a s).toNatClampNeg else []) s = _
    rw [decide_eq_true rfl]
    exact if_pos rfl
  rw [e58]
  exact congrArg (aMemC x) eg
theorem Cd_0 {n : Int32} {J : Int64} : Cd (A_new n J) s := by
  rw [new_e]
  exact (show aS (nA (aCode0 n) J 7) 65 s = aCode0 n from rfl).trans (show aS (nA (aCode0 n) J 7) 58 s = aCode0 n from rfl).symm
end CD0
