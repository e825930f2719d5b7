/-! a client begins -/
theorem add_Ig {X : AA} {i f g : Nat} {v w : Int32} (hf : f ≠ g) : aAdd (aI X g i v) f 0 w = aI (aAdd X f 0 w) g i v := by
  have e : aS (aI X g i v) f 0 = aS X f 0 := aS_If hf
  show aI (aI X g i v) f 0 (aS (aI X g i v) f 0 + w) = aI (aI X f 0 (aS X f 0 + w)) g i v
  rw [e, aI_comm (fun z => hf z.1.symm)]
theorem fly_Ig {X : AA} {i g : Nat} {v : Int32} {l : AL} {t : Int32} (h : g ∉ [1, 2, 21, 22, 23, 24, 25, 26, 27]) : A_fly (aI X g i v) l t = aI (A_fly X l t) g i v := by
  simp only [List.mem_cons, List.not_mem_nil, or_false, not_or] at h
  obtain ⟨h1, h2, h21, h22, h23, h24, h25, h26, h27⟩ := h
  unfold A_fly
  by_cases q : 128 ≤ (aWay X).length
  · rw [if_pos q, if_pos (show 128 ≤ (aWay (aI X g i v)).length from q)]
    exact add_Ig (Ne.symm h22)
  · have e2 : aS (aI X g i v) 2 0 = aS X 2 0 := aS_If (Ne.symm h2)
    rw [if_neg q, if_neg (show ¬ 128 ≤ (aWay (aI X g i v)).length from q), add_Ig (Ne.symm h2), add_Ig (Ne.symm h21), e2]
    rfl
theorem out_Ig {X : AA} {i g : Nat} {v : Int32} {l : AL} (h : g ∉ [1, 2, 21, 22, 23, 24, 25, 26, 27]) : A_sendOut (aI X g i v) l = aI (A_sendOut X l) g i v := by
  have h0 := h
  simp only [List.mem_cons, List.not_mem_nil, or_false, not_or] at h0
  obtain ⟨h1, h2, h21, h22, h23, h24, h25, h26, h27⟩ := h0
  have ep : A_parted (aI X g i v) (l.1 2) (l.1 3) = A_parted X (l.1 2) (l.1 3) := by
    unfold A_parted
    rw [aS_If (Ne.symm h24)]
  have d : ∀ (Y : AA) (m : Int32), A_draw (aI Y g i v) m = ((A_draw Y m).1, aI (A_draw Y m).2 g i v) := fun _ _ => rfl
  have e27 : aS (aI X g i v) 27 0 = aS X 27 0 := aS_If (Ne.symm h27)
  have e26 : aS (aI X g i v) 26 0 = aS X 26 0 := aS_If (Ne.symm h26)
  have e25 : aS (aI X g i v) 25 0 = aS X 25 0 := aS_If (Ne.symm h25)
  have e23 : ∀ j, aS (aI X g i v) 23 j = aS X 23 j := fun j => aS_If (Ne.symm h23)
  have en : aNow (aI X g i v) = aNow X := aS_If (Ne.symm h1)
  unfold A_sendOut
  dsimp only
  rw [ep, e25, e26, e27, e23, en]
  by_cases q1 : A_parted X (l.1 2) (l.1 3) = true
  · rw [if_pos q1, if_pos q1]
    exact add_Ig (Ne.symm h22)
  · rw [if_neg q1, if_neg q1]
    by_cases q2 : aS X 25 0 = 0 ∧ aS X 26 0 = 0 ∧ aS X 27 0 = 0
    · rw [if_pos q2, if_pos q2]
      exact fly_Ig h
    · rw [if_neg q2, if_neg q2]
      simp only [d]
      by_cases q3 : (A_draw X 1000).1 < aS X 25 0
      · rw [if_pos q3, if_pos q3]
        exact add_Ig (X := (A_draw X 1000).2) (Ne.symm h22)
      · rw [if_neg q3, if_neg q3]
        simp only [fly_Ig h, d]
        by_cases q4 : (A_draw (A_draw X 1000).2 1000).1 < aS X 26 0
        · rw [if_pos q4, if_pos q4]
        · rw [if_neg q4, if_neg q4]
theorem alarm_Ig {X : AA} {i g e : Nat} {v t : Int32} (h : g ≠ 2 ∧ g ≠ 29 ∧ g ≠ 30) : A_alarm (aI X g i v) e t = aI (A_alarm X e t) g i v := by
  have e2 : aS (aI X g i v) 2 0 = aS X 2 0 := aS_If (Ne.symm h.1)
  unfold A_alarm
  rw [e2, aI_comm (a := X) (f := g) (g := 30) (fun z => h.2.2 z.1), aI_comm (f := g) (g := 29) (fun z => h.2.1 z.1)]
  exact add_Ig (Ne.symm h.1)
/-- what a client's impatience was matters nothing to the first request -/
theorem dem_130 {X : AA} {k : Nat} {y : Int32} (h : ¬ 40 < aS X 129 k + 1) : A_demand (aI X 130 k y) k = A_demand X k := by
  have r : ∀ f, f ≠ 130 → ∀ i, aS (aI X 130 k y) f i = aS X f i := fun f hf i => aS_If hf
  have eb : aAdd (aI X 130 k y) 129 k 1 = aI (aAdd X 129 k 1) 130 k y := by
    unfold aAdd
    rw [r 129 (by decide), aI_comm (fun z => absurd z.1 (by decide))]
  have e9 : aS (aAdd X 129 k 1) 129 k = aS X 129 k + 1 := if_pos ⟨rfl, rfl⟩
  have e9' : aS (aI (aAdd X 129 k 1) 130 k y) 129 k = aS X 129 k + 1 := (aS_If (by decide)).trans e9
  have en : ∀ B : AA, aNow (aI B 130 k y) = aNow B := fun B => aS_If (by decide)
  have ea : aAsk (aI X 130 k y) k = aAsk X k := by
    unfold aAsk
    rw [r 137 (by decide)]
    rfl
  have ec : aCmd (aI X 130 k y) k = aCmd X k := by
    unfold aCmd
    rw [ea]
  have fin : ∀ (B : AA) (L : AL) (t : Int32), aI (A_alarm (A_sendOut (aI B 130 k y) L) (8 + k) t) 130 k 1 = aI (A_alarm (A_sendOut B L) (8 + k) t) 130 k 1 := by
    intro B L t
    rw [out_Ig (by decide), alarm_Ig (by decide), aI_II]
  by_cases o : aS X 131 k = 0
  · rw [dem_0 o, dem_0 ((r 131 (by decide) k).trans o), eb, e9, e9', if_neg h, if_neg h, ec, ea, r 125 (by decide), r 126 (by decide), r 127 (by decide), r 128 (by decide), r 137 (by decide), en, fin]
  · rw [dem_1 o, dem_1 (by rw [r 131 (by decide)]; exact o), eb, e9, e9', if_neg h, if_neg h, r 125 (by decide), r 128 (by decide), en, fin]
