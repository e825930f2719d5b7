/-! what the leader hears of a follower -/
theorem aMax_ge {x v : Int32} (h : v ≤ x) : aMax x v = x := by
  unfold aMax
  by_cases q : x ≤ v
  · rw [if_pos q]
    exact Int32.le_antisymm h q
  · rw [if_neg q]
theorem aMax_lt {x v : Int32} (h : ¬ v ≤ x) : aMax x v = v := if_pos (by
  rw [Int32.le_iff_toInt_le] at h ⊢
  omega)
theorem aMax_le {x v L : Int32} (h1 : x ≤ L) (h2 : v ≤ L) : aMax x v ≤ L := by
  unfold aMax
  split
  · exact h2
  · exact h1
theorem le_aMax {x v : Int32} : x ≤ aMax x v := by
  unfold aMax
  split
  · assumption
  · exact Int32.le_refl _
def hd1 (a : AA) (s : Nat) (l : AL) : AA := let k := 7 * s + (l.1 2).toNatClampNeg; aI (aI (aI a 92 k (aNow a)) 93 k 1) 91 k (aMax (aS a 91 k) (l.1 10))
def hd2 (a : AA) (s : Nat) (l : AL) : AA :=
  let k := 7 * s + (l.1 2).toNatClampNeg
  if l.1 4 = 8 then
      let b := aI a 88 k 0
      if ¬ l.1 7 = aBase a s then aI b 90 k 0
      else if aS a 67 s ≤ l.1 12 then aI (aI (aI (aI b 87 k (aMax (aS a 87 k) (aBase a s))) 86 k (aBase a s + 1)) 89 k 1) 90 k 0
      else aI b 90 k (l.1 12)
    else if l.1 6 = 1 then
      let m := aMin (l.1 7) (aLast a s)
      let b := aI (aI a 87 k (aMax (aS a 87 k) m)) 89 k 0
      aI (aI b 88 k (if 0 < aS a 88 k then aS a 88 k - 1 else aS a 88 k)) 86 k (aMax (aS a 86 k) (m + 1))
    else aI (aI (aI a 88 k 0) 89 k 1) 86 k (aMin (aMax (l.1 7) (aS a 87 k + 1)) (aLast a s + 1))
def hdT (a : AA) (s : Nat) (l : AL) : AA :=
  let p := (l.1 2).toNatClampNeg
  let a3 := A_answerReads (A_count a s) s
  if ¬ aS a3 73 s = 3 ∨ aPeer a3 s p = false then a3
  else
    let a4 := A_send a3 s p false
    if aS a4 80 s = l.1 2 ∧ aS a4 87 (7 * s + p) = aLast a4 s then A_tell a4 s (l.1 2) 9 0 0 0 0 else a4
theorem A_heardOf_e {a : AA} {s : Nat} {l : AL} : A_heardOf a s l = hdT (hd2 (hd1 a s l) s l) s l := by
  unfold A_heardOf hdT
  dsimp only
  have e : ∀ x y : AA, x = y → (if ¬aS (A_answerReads (A_count x s) s) 73 s = 3 ∨ aPeer (A_answerReads (A_count x s) s) s (l.1 2).toNatClampNeg = false then A_answerReads (A_count x s) s
    else if aS (A_send (A_answerReads (A_count x s) s) s (l.1 2).toNatClampNeg false) 80 s = l.1 2 ∧ aS (A_send (A_answerReads (A_count x s) s) s (l.1 2).toNatClampNeg false) 87 (7 * s + (l.1 2).toNatClampNeg) = aLast (A_send (A_answerReads (A_count x s) s) s (l.1 2).toNatClampNeg false) s then A_tell (A_send (A_answerReads (A_count x s) s) s (l.1 2).toNatClampNeg false) s (l.1 2) 9 0 0 0 0 else A_send (A_answerReads (A_count x s) s) s (l.1 2).toNatClampNeg false) = (if ¬aS (A_answerReads (A_count y s) s) 73 s = 3 ∨ aPeer (A_answerReads (A_count y s) s) s (l.1 2).toNatClampNeg = false then A_answerReads (A_count y s) s
    else if aS (A_send (A_answerReads (A_count y s) s) s (l.1 2).toNatClampNeg false) 80 s = l.1 2 ∧ aS (A_send (A_answerReads (A_count y s) s) s (l.1 2).toNatClampNeg false) 87 (7 * s + (l.1 2).toNatClampNeg) = aLast (A_send (A_answerReads (A_count y s) s) s (l.1 2).toNatClampNeg false) s then A_tell (A_send (A_answerReads (A_count y s) s) s (l.1 2).toNatClampNeg false) s (l.1 2) 9 0 0 0 0 else A_send (A_answerReads (A_count y s) s) s (l.1 2).toNatClampNeg false) := by
    rintro x _ rfl
    rfl
  refine e _ _ ?_
  rfl
theorem AFr_count {a : AA} {s : Nat} : AFr [76, 21, 22, 55, 57, 58, 56, 77, 67, 43, 47, 64, 65, 2, 31, 32, 71, 90, 75, 86, 88, 53, 54, 150, 45, 46, 29, 30, 80, 73, 74] [0, 1, 3, 9, 2, 4, 6, 7, 8] a (A_count a s) := by
  have hT : ∀ b : AA, AFr [2, 21, 22, 86, 88, 43, 56, 64, 65, 31, 32, 71, 53, 54, 150, 45, 46, 29, 30, 80, 73, 74] [0, 1, 2, 6, 8, 9] b (cnT b s) := by
    intro b
    unfold cnT
    split
    · exact AFr_w AFr_r (by decide) (by decide)
    · split
      · split
        · exact AFr_w AFr_r (by decide) (by decide)
        · unfold A_appendCode
          exact AFr_w (AFr_t AFr_app AFr_sendAll) (by decide) (by decide)
      · split
        · exact AFr_w AFr_stepDown (by decide) (by decide)
        · exact AFr_w AFr_r (by decide) (by decide)
  rw [A_count_e]
  refine AFr_w (AFr_t (?_ : AFr [76, 21, 22, 55, 57, 58, 56, 77, 67, 43, 47, 64, 65, 2, 31, 32, 71, 90, 75] [0, 1, 3, 9, 2, 4, 6, 7, 8] a _) (hT _)) (by decide) (by decide)
  split
  · exact AFr_w (AFr_t AFr_I AFr_apply) (by decide) (by decide)
  · exact AFr_w AFr_r (by decide) (by decide)
