def tkE (a : AA) (s : Nat) (l : AL) : List AE := l.2.1.take (aBase a s + 250 - l.1 7).toNatClampNeg
def tkR (a : AA) (s : Nat) (l : AL) : Int32 × List AE := aNews a s (l.1 7 + 1) (tkE a s l)
def tk1 (a : AA) (s : Nat) (l : AL) : AA := if (tkR a s l).2 ≠ [] ∧ (tkR a s l).1 ≤ aLast a s then A_cutLog a s (tkR a s l).1 else a
def tk2 (a : AA) (s : Nat) (l : AL) : AA := aAppendAll s (tkR a s l).2 (tk1 a s l)
def tk3 (a : AA) (s : Nat) (l : AL) : AA :=
  let m := aMax (l.1 7 + Int32.ofNat (tkE a s l).length) (aBase (tk2 a s l) s)
  aAppended (A_apply (aI (tk2 a s l) 75 s (aMax (aS (tk2 a s l) 75 s) (aMin (l.1 9) m))) s) s (l.1 2) 1 m (l.1 10)
theorem A_take_e {a : AA} {s : Nat} {l : AL} : A_take a s l = if aLast a s < l.1 7 then aAppended a s (l.1 2) 0 (aLast a s + 1) (l.1 10)
  else if aBase a s ≤ l.1 7 ∧ ¬ aTermAt a s (l.1 7) = l.1 8 then aAppended a s (l.1 2) 0 (aRunStart a s 300 (if l.1 7 = aBase a s then l.1 7 + 1 else l.1 7)) (l.1 10)
  else if aClash a s (l.1 7 + 1) (tkE a s l) then a else tk3 a s l := by
  unfold A_take tk3 tk2 tk1 tkR tkE
  with_reducible rfl
theorem AFr_cutLog {a : AA} {s : Nat} {n : Int32} : AFr [43, 56, 77, 64, 65, 2, 31, 32, 71] [2, 6, 8] a (A_cutLog a s n) := by
  have hc : ∀ (b : AA) (f : Nat) (v : Int32), AFr [43] [6] b (aCut b s f v) := by
    intro b f v
    unfold aCut
    exact AFr_w (AFr_t AFr_put AFr_I) (by decide) (by decide)
  have h1 : ∀ x y, AFr [43] [6, 8] a (aChS (aRemoveAll a s x) s y) := fun x y => AFr_w (AFr_t (rmAll_ot _ a) AFr_ch) (by decide) (by decide)
  have h2 : ∀ (c : AA), AFr [43] [6, 8] a c → AFr [43, 56, 77, 64, 65, 2, 31, 32, 71] [2, 6, 8] a (aSoil (aFindCode (aI (aLgS (aI c 56 s (n - 1)) s ((aLg a s).take (n - 1 - aBase a s).toNatClampNeg)) 77 s (aMin (aS a 77 s) (n - 1))) s) s) := fun c h => AFr_w (AFr_t (AFr_t (AFr_t (AFr_t (AFr_t h AFr_I) AFr_lg) AFr_I) AFr_findCode) AFr_soil) (by decide) (by decide)
  by_cases e : aBelow a s n (aCh a s) = []
  · rw [A_cutLog_0 rfl e]
    exact h2 _ (h1 _ _)
  · have e' := (List.dropLast_concat_getLast e).symm
    rw [A_cutLog_1 rfl e']
    refine h2 _ ?_
    have h3 := h1 (aFrom a s n (aCh a s)) ((aBelow a s n (aCh a s)).dropLast ++ [(aBelow a s n (aCh a s)).getLast e])
    generalize aChS (aRemoveAll a s (aFrom a s n (aCh a s))) s ((aBelow a s n (aCh a s)).dropLast ++ [(aBelow a s n (aCh a s)).getLast e]) = b at h3
    exact AFr_w (AFr_t h3 (hc _ _ _)) (by decide) (by decide)
theorem AFr_appendAll {s : Nat} : ∀ (l : List AE) (a : AA), AFr [43, 56, 64, 65, 2, 31, 32, 71] [2, 6, 8] a (aAppendAll s l a) := by
  intro l
  induction l with
  | nil => exact fun a => AFr_w AFr_r (by decide) (by decide)
  | cons e r ih => exact fun a => AFr_w (AFr_t AFr_app (ih _)) (by decide) (by decide)
theorem AFr_tk1 {a : AA} {s : Nat} {l : AL} : AFr [43, 56, 77, 64, 65, 2, 31, 32, 71] [2, 6, 8] a (tk1 a s l) := by
  unfold tk1
  split
  · exact AFr_cutLog
  · exact AFr_w AFr_r (by decide) (by decide)
theorem AFr_tk2 {a : AA} {s : Nat} {l : AL} : AFr [43, 56, 77, 64, 65, 2, 31, 32, 71] [2, 6, 8] a (tk2 a s l) := AFr_w (AFr_t AFr_tk1 (AFr_appendAll _ _)) (by decide) (by decide)
