/-- what the first three numbers of the letter that came are -/
theorem td_c {σ : RS} {a : AA} {u : AU} {l : AL} (h : RM σ a u) (hl : u.1.1 = some l) : (l.1 4 = 1 ∨ l.1 4 = 3 → σ.1 12 2824 = l.1 7 ∧ σ.1 12 2825 = l.1 8) ∧ (l.1 4 = 2 ∨ l.1 4 = 4 → σ.1 12 2824 = l.1 6) ∧ (l.1 4 = 6 → σ.1 12 2824 = l.1 6 ∧ σ.1 12 2825 = l.1 7 ∧ σ.1 12 2826 = l.1 10) ∧ (l.1 4 = 8 → σ.1 12 2824 = l.1 7 ∧ σ.1 12 2825 = l.1 12 ∧ σ.1 12 2826 = l.1 10) := by
  obtain ⟨_, _, _, _, _, _, _, _, g, _⟩ := h_inl h hl
  refine ⟨fun k => ?_, fun k => ?_, fun k => ?_, fun k => ?_⟩
  · have e : ∀ j, lTd (aAk a) l j = [l.1 7, l.1 8][j]? := by
      intro j
      unfold lTd
      dsimp only
      rw [if_pos k]
    exact ⟨g 0 _ (e 0), g 1 _ (e 1)⟩
  · have k' : ¬ (l.1 4 = 1 ∨ l.1 4 = 3) := by rcases k with k | k <;> rw [k] <;> decide
    have e : ∀ j, lTd (aAk a) l j = [l.1 6][j]? := by
      intro j
      unfold lTd
      dsimp only
      rw [if_neg k', if_pos k]
    exact g 0 _ (e 0)
  · have e : ∀ j, lTd (aAk a) l j = [l.1 6, l.1 7, l.1 10][j]? := by
      intro j
      unfold lTd
      dsimp only
      rw [if_neg (by rw [k]; decide), if_neg (by rw [k]; decide), if_neg (by rw [k]; decide), if_pos k]
    exact ⟨g 0 _ (e 0), g 1 _ (e 1), g 2 _ (e 2)⟩
  · have e : ∀ j, lTd (aAk a) l j = [l.1 7, l.1 12, l.1 10][j]? := by
      intro j
      unfold lTd
      dsimp only
      rw [if_neg (by rw [k]; decide), if_neg (by rw [k]; decide), if_neg (by rw [k]; decide), if_neg (by rw [k]; decide), if_neg (by rw [k]; decide), if_pos k]
    exact ⟨g 0 _ (e 0), g 1 _ (e 1), g 2 _ (e 2)⟩
def came1 (a : AA) (s : Nat) (l : AL) : AA := if aS a 53 s < l.1 5 ∧ ¬ l.1 4 = 1 ∧ ¬ (l.1 4 = 2 ∧ l.1 6 = 1) then A_stepDown a s (l.1 5) (-1) else a
theorem M_came {F : Nat} {σ : RS} {a : AA} {u : AU} {s : Nat} {l : AL} (hF : 400 ≤ F) (h : RM σ a u) (hs : s < 7) (hl : u.1.1 = some l) (hw : wN a < 2147483647)
    (rest : ∀ (τ : RS) (x y z : Int32), RM τ (came1 a s l) u → (l.1 4 = 1 ∨ l.1 4 = 3 → x = l.1 7 ∧ y = l.1 8) → (l.1 4 = 2 ∨ l.1 4 = 4 → x = l.1 6) → (l.1 4 = 6 → x = l.1 6 ∧ y = l.1 7 ∧ z = l.1 10) → (l.1 4 = 8 → x = l.1 7 ∧ y = l.1 12 ∧ z = l.1 10) → WP (m_came_b84 F τ (Int32.ofNat s) (l.1 2) (l.1 4) (l.1 5) x y z) (fun τ => RM τ (came84 (came1 a s l) s l) u)) : WP (m_came F σ (Int32.ofNat s) (l.1 2)) (fun τ => RM τ (A_came a s l) u) := by
  rw [A_came_e]
  obtain ⟨_, _, e8, e9, _⟩ := id (h_inl h hl)
  obtain ⟨t13, t24, t6, t8⟩ := td_c h hl
  have st : ∀ c, c = came1 a s l → (∀ τ, RM τ c u → WP (m_came_b84 F τ (Int32.ofNat s) (l.1 2) (l.1 4) (l.1 5) (σ.1 12 2824) (σ.1 12 2825) (σ.1 12 2826)) (fun τ => RM τ (came84 (came1 a s l) s l) u)) := by
    intro c hc τ hτ
    exact rest τ _ _ _ (hc ▸ hτ) t13 t24 t6 t8
  have stay : came1 a s l = a → WP (m_came_b84 F σ (Int32.ofNat s) (l.1 2) (l.1 4) (l.1 5) (σ.1 12 2824) (σ.1 12 2825) (σ.1 12 2826)) (fun τ => RM τ (came84 (came1 a s l) s l) u) := fun e => st a e.symm σ h
  have down : came1 a s l = A_stepDown a s (l.1 5) (-1) → WP (m_came_b76 F σ (Int32.ofNat s) (l.1 2) (l.1 4) (l.1 5) (σ.1 12 2824) (σ.1 12 2825) (σ.1 12 2826)) (fun τ => RM τ (came84 (came1 a s l) s l) u) := by
    intro e
    unfold m_came_b76
    exact WP_call (M_stepDown hF h hs hw) (fun p hp => st _ e.symm p hp)
  show WP (m_came F σ (Int32.ofNat s) (l.1 2)) (fun τ => RM τ (came84 (came1 a s l) s l) u)
  unfold m_came m_came_b0
  refine WP_ld (n := 353) rfl 354 (by decide +kernel) (by omega) ?_
  refine WP_ld (n := 353) rfl 354 (by decide +kernel) (by omega) ?_
  refine WP_ld (n := 2824) rfl 2832 (by decide +kernel) (by omega) ?_
  refine WP_ld (n := 2825) rfl 2832 (by decide +kernel) (by omega) ?_
  refine WP_ld (n := 2826) rfl 2832 (by decide +kernel) (by omega) ?_
  rw [e8, e9]
  refine WP_r7 h (by decide) hs ?_
  refine WP_if c2_le (fun q => ?_) (fun q => ?_)
  · refine stay (if_neg (fun y => Int32.not_lt.mpr q y.1))
  · have q : aS a 53 s < l.1 5 := Int32.not_le.mp q
    refine WP_if c2_eq (fun q2 => ?_) (fun q2 => ?_)
    · exact stay (if_neg (fun y => y.2.1 q2))
    · refine WP_if c2_ne (fun q3 => ?_) (fun q3 => ?_)
      · exact down (if_pos ⟨q, q2, fun y => q3 y.1⟩)
      · have q3 := Classical.not_not.mp q3
        have e6 := t24 (Or.inl q3)
        refine WP_if c2_eq (fun q4 => ?_) (fun q4 => ?_)
        · exact stay (if_neg (fun y => y.2.2 ⟨q3, e6.symm.trans q4⟩))
        · exact down (if_pos ⟨q, q2, fun y => q4 (e6.trans y.2)⟩)
