theorem td5 {σ : RS} {a : AA} {u : AU} {l : AL} (h : RM σ a u) (hl : u.1.1 = some l) (h5 : l.1 4 = 5) : σ.1 12 2824 = l.1 7 ∧ σ.1 12 2825 = l.1 8 ∧ σ.1 12 2826 = l.1 9 := by
  obtain ⟨_, _, _, _, _, _, _, _, g, _⟩ := h_inl h hl
  have e : ∀ j, lTd (aAk a) l j = [l.1 7, l.1 8, l.1 9, l.1 10][j]? := by
    intro j
    unfold lTd
    dsimp only
    rw [if_neg (by rw [h5]; decide), if_neg (by rw [h5]; decide), if_pos h5]
  exact ⟨g 0 _ (e 0), g 1 _ (e 1), g 2 _ (e 2)⟩
/-- what is agreed is done, and told -/
theorem take_end {F : Nat} {τ : RS} {c : AA} {u : AU} {s : Nat} {f turn p : Int32} {l : AL} {k : Nat} (hF : 20000 ≤ F) (h : RM τ c u) (hs : s < 7) (hf : aInR f 0 6 = true ∨ aInR f 8 15 = true) (hl : u.1.1 = some l) (h5 : l.1 4 = 5) (hup : aS c 52 s = 1) (hz : u.2 s) (hmk : u.2 (14 + s)) (hd : dRq c s) (hmx : (aS c 151 s).toInt < 2147483000)
    (hm : aMax (p + Int32.ofNat k) (aBase c s) ≤ aLast c s) : WP ((rld τ 55 (Int32.ofNat s)).bind fun x109 =>
      if xc2 .ge (p + Int32.ofNat k) x109 = true then (
        m_take_b507 F  τ (p + Int32.ofNat k) (Int32.ofNat s) f turn
      ) else (
        (rld τ 55 (Int32.ofNat s)).bind fun x112 =>
        m_take_b507 F  τ x112 (Int32.ofNat s) f turn
      )) (fun τ => RM τ (aAppended (A_apply (aI c 75 s (aMax (aS c 75 s) (aMin (l.1 9) (aMax (p + Int32.ofNat k) (aBase c s))))) s) s f 1 (aMax (p + Int32.ofNat k) (aBase c s)) turn) u) := by
  obtain ⟨_, _, t9⟩ := td5 h hl h5
  have mk := h.2.2.2.2.2.2.2.2.2.2.2.2.2.2.2.2.2.2.2.2.2.2.1 s hs hmk
  have b564 : ∀ (m v : Int32), v = aMax (aS c 75 s) (aMin (l.1 9) m) → m ≤ aLast c s → WP (m_take_b564 F τ (Int32.ofNat s) v (Int32.ofNat s) f turn m) (fun τ => RM τ (aAppended (A_apply (aI c 75 s v) s) s f 1 m turn) u) := by
    intro m v hv hml
    unfold m_take_b564
    refine WP_wmk h (Or.inl rfl) hs (fun _ k => ?_) (fun σ1 h1 => ?_)
    · have t75 : aS (aI c 75 s v) 75 s = v := by rw [aS_I, if_pos ⟨rfl, rfl⟩]
      unfold WMk
      rw [show aBase (aI c 75 s v) s = aBase c s from rfl, show aLast (aI c 75 s v) s = aLast c s from rfl, show aS (aI c 75 s v) 76 s = aS c 76 s from rfl, show aS (aI c 75 s v) 77 s = aS c 77 s from rfl, t75]
      refine ⟨k.1, Int32.le_trans k.2.1 (by rw [hv]; exact le_aMax), ?_, k.2.2.2⟩
      rw [hv]
      refine aMax_le k.2.2.1 (Int32.le_trans ?_ hml)
      unfold aMin
      split
      · assumption
      · exact Int32.le_refl _
    · refine WP_call (M_apply hF h1 hs hup hz hmk hd hmx) (fun p1 hp1 => ?_)
      unfold aAppended
      exact WP_call (M_tell (by omega) hp1 hs hf (Or.inl ⟨rfl, rfl, rfl, rfl⟩)) (fun q hq => WP_some hq)
  have b535 : ∀ (m v : Int32), v = aMin (l.1 9) m → m ≤ aLast c s → WP (m_take_b535 F τ v (Int32.ofNat s) f turn m) (fun τ => RM τ (aAppended (A_apply (aI c 75 s (aMax (aS c 75 s) (aMin (l.1 9) m))) s) s f 1 m turn) u) := by
    intro m v hv hml
    unfold m_take_b535
    refine WP_r7 h (by decide) hs ?_
    rw [← hv]
    refine WP_if c2_le (fun q => ?_) (fun q => ?_)
    · rw [aMax_ge q]
      refine WP_r7 h (by decide) hs ?_
      exact b564 m _ (by rw [← hv, aMax_ge q]) hml
    · rw [aMax_lt q]
      exact b564 m _ (by rw [← hv, aMax_lt q]) hml
  have b507 : ∀ m, m ≤ aLast c s → WP (m_take_b507 F τ m (Int32.ofNat s) f turn) (fun τ => RM τ (aAppended (A_apply (aI c 75 s (aMax (aS c 75 s) (aMin (l.1 9) m))) s) s f 1 m turn) u) := by
    intro m hml
    unfold m_take_b507
    refine WP_ld (n := 2826) rfl 2832 (by decide +kernel) (by omega) ?_
    rw [t9]
    refine WP_if c2_ge (fun q => ?_) (fun q => ?_)
    · refine b535 m m ?_ hml
      unfold aMin
      by_cases z : l.1 9 ≤ m
      · rw [if_pos z]
        exact Int32.le_antisymm q z
      · rw [if_neg z]
    · refine WP_ld (n := 2826) rfl 2832 (by decide +kernel) (by omega) ?_
      rw [t9]
      refine b535 m _ ?_ hml
      unfold aMin
      rw [if_pos]
      rw [Int32.le_iff_toInt_le] at q ⊢
      omega
  refine WP_r7 h (by decide) hs ?_
  refine WP_if c2_ge (fun q => ?_) (fun q => ?_)
  · have q : aBase c s ≤ p + Int32.ofNat k := q
    rw [aMax_ge q] at hm ⊢
    exact b507 _ hm
  · have q : ¬ aBase c s ≤ p + Int32.ofNat k := q
    rw [aMax_lt q] at hm ⊢
    refine WP_r7 h (by decide) hs ?_
    exact b507 _ hm
