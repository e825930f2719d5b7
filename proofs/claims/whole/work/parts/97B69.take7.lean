/-- a cut begins behind what is agreed -/
theorem tk_cut {a : AA} {s : Nat} : ∀ (es : List AE) (k : Int32), aClash a s k es = false → (aNews a s k es).2 ≠ [] → (aNews a s k es).1 ≤ aLast a s → aBase a s < (aNews a s k es).1 ∧ aS a 75 s < (aNews a s k es).1 := by
  intro es
  induction es with
  | nil => exact fun k _ h => absurd rfl h
  | cons e r ih =>
    intro k hc h1 h2
    have hc : ((decide (aBase a s ≤ k) && decide (k ≤ aS a 75 s) && !decide (aTermAt a s k = e.1)) || aClash a s (k + 1) r) = false := hc
    rw [Bool.or_eq_false_iff] at hc
    have en : aNews a s k (e :: r) = if k ≤ aBase a s ∨ (k ≤ aLast a s ∧ aTermAt a s k = e.1) then aNews a s (k + 1) r else (k, e :: r) := rfl
    rw [en] at h1 h2 ⊢
    by_cases q : k ≤ aBase a s ∨ (k ≤ aLast a s ∧ aTermAt a s k = e.1)
    · rw [if_pos q] at h1 h2 ⊢
      exact ih (k + 1) hc.2 h1 h2
    · rw [if_neg q] at h1 h2 ⊢
      have h2 : k ≤ aLast a s := h2
      have b1 : aBase a s < k := Int32.not_le.mp (fun y => q (Or.inl y))
      have t1 : ¬ aTermAt a s k = e.1 := fun y => q (Or.inr ⟨h2, y⟩)
      refine ⟨b1, ?_⟩
      have b1' : aBase a s ≤ k := by
        rw [Int32.lt_iff_toInt_lt] at b1
        exact Int32.le_iff_toInt_le.mpr (by omega)
      have hc1 := hc.1
      rw [decide_eq_true b1', decide_eq_false t1] at hc1
      have : ¬ k ≤ aS a 75 s := fun y => by
        rw [decide_eq_true y] at hc1
        exact absurd hc1 (by decide)
      exact Int32.not_le.mp this
