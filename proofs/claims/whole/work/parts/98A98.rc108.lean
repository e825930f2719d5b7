/-! the code of a log -/
theorem memC_app : ∀ (l r : List AE) (c : Int32), aMemC c (l ++ r) = aMemC (aMemC c l) r := by
  intro l
  induction l with
  | nil => exact fun r c => rfl
  | cons e l ih => exact fun r c => ih r _
theorem memC_split (l : List AE) (n : Nat) (c : Int32) : aMemC (aMemC c (l.take n)) (l.drop n) = aMemC c l := by
  rw [← memC_app, List.take_append_drop]
/-- what a server takes for the members is what its log says -/
def Cd (a : AA) (s : Nat) : Prop := aS a 65 s = aMemC (aS a 58 s) (aLg a s)
section CD0
variable {s k : Nat} {a b : AA} {P : AL → Prop}
theorem Cd_fr {W T : List Nat} (h : AFr W T a b) (q : dj [58, 65] W = true) (q2 : dj [2] T = true) (z : Cd a s) : Cd b s := by
  unfold Cd at z ⊢
  rw [h.1 65 (dj_m q (by decide)), h.1 58 (dj_m q (by decide)), h.2.2.2.1 (dj_m q2 (x := 2) (by decide))]
  exact z
theorem Cd_find : Cd (aFindCode a s) s := by
  show aS (aFindCode a s) 65 s = aMemC (aS (aFindCode a s) 58 s) (aLg (aFindCode a s) s)
  have e58 : aS (aFindCode a s) 58 s = aS a 58 s := AFr_findCode.1 58 (by decide) s
  rw [e58]
  unfold aFindCode
  rw [evI_e]
  rfl
theorem Cd_On {i : Nat} (h : On s a b) (hi : i ≠ s) (z : Cd a i) : Cd b i := by
  have e : ∀ f, f ∈ sF → aS b f i = aS a f i := fun f hf => h.1 f i (fun y => by
    rcases y with y | y | y | y | y | y
    · rw [y] at hf
      exact absurd hf (by decide)
    · rw [y] at hf
      exact absurd hf (by decide)
    · rw [y] at hf
      exact absurd hf (by decide)
    · exact hi y.2
    · exact absurd y.1 ((by decide : ∀ f ∈ sF, f ∉ sc49) f hf)
    · rw [y.1] at hf
      exact absurd hf (by decide))
  unfold Cd at z ⊢
  rw [e 65 (by decide), e 58 (by decide), (h.2.1 i hi).2.1]
  exact z
end CD0
