/-! the snapshot is written ahead of the base's move: the same -/
theorem if_pr {α : Type} {P Q : Prop} [Decidable P] [Decidable Q] {x y z : α} (h : ¬ (P ∧ Q)) : (if P then x else if Q then y else z) = if Q then y else if P then x else z := by
  by_cases p : P
  · rw [if_pos p, if_neg (fun q => h ⟨p, q⟩), if_pos p]
  · rw [if_neg p, if_neg p]
theorem shW_I {a : AA} {s f g i : Nat} {F : AF} {L x : Int32} {M : AM} (h : g ≠ 67 ∧ g ≠ 43 ∧ g ≠ 47) : aShW (aI a g i x) s f F L M = aI (aShW a s f F L M) g i x := by
  refine Prod.ext (Prod.ext (funext fun u => funext fun w => ?_) rfl) rfl
  show (if u = 47 ∧ w = s then Int32.ofNat f else if u = 43 ∧ w = 16 * s + f then F.1 1 else if u = 67 ∧ w = s then L else if u = g ∧ w = i then x else a.1.1 u w) = (if u = g ∧ w = i then x else if u = 47 ∧ w = s then Int32.ofNat f else if u = 43 ∧ w = 16 * s + f then F.1 1 else if u = 67 ∧ w = s then L else a.1.1 u w)
  by_cases q : u = g ∧ w = i
  · rw [if_neg (fun z => by omega), if_neg (fun z => by omega), if_neg (fun z => by omega), if_pos q, if_pos q]
  · rw [if_neg q, if_neg q]
theorem shW_lg {a : AA} {s f : Nat} {F : AF} {L : Int32} {M : AM} {g : List AE} : aShW (aLgS a s g) s f F L M = aLgS (aShW a s f F L M) s g := rfl
theorem shW_move {a : AA} {s f : Nat} {F : AF} {L n t c : Int32} {M : AM} : aShW (aMoveBase a s n t c) s f F L M = aMoveBase (aShW a s f F L M) s n t c := by
  have eS : ∀ g i, g ≠ 67 ∧ g ≠ 43 ∧ g ≠ 47 → aS (aShW a s f F L M) g i = aS a g i := fun g i h => (if_neg (fun z => h.2.2 z.1)).trans ((if_neg (fun z => h.2.1 z.1)).trans (if_neg (fun z => h.1 z.1)))
  have e5 : aLg (aShW a s f F L M) = aLg a := rfl
  have e3 : aLast (aShW a s f F L M) s = aLast a s := eS 56 s (by decide)
  have e4 : aBase (aShW a s f F L M) s = aBase a s := eS 55 s (by decide)
  have e1 : aHas (aShW a s f F L M) s n = aHas a s n := by
    unfold aHas
    rw [e3, e4]
  have e2 : aTermAt (aShW a s f F L M) s n = aTermAt a s n := by
    unfold aTermAt aEnt
    rw [e1, e4, e5, eS 57 s (by decide)]
  have e6 : aS (aShW a s f F L M) 77 s = aS a 77 s := eS 77 s (by decide)
  unfold aMoveBase
  dsimp only
  rw [e1, e2, e3, e4, e5, e6, shW_I (by decide), shW_I (by decide), shW_I (by decide), shW_I (by decide), shW_I (by decide), shW_lg]
