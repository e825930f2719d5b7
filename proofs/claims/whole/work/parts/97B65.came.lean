/-! a letter comes to a server -/
theorem i_shf {σ : RS} {a : AA} {u : AU} {l : AL} (hf : aInR (l.1 2) 0 6 = true ∨ aInR (l.1 2) 8 15 = true) : (1 : Int32) <<< (l.1 2 &&& 31) = 1 <<< l.1 2 := by
  have key : ∀ x : Int32, (0 ≤ x ∧ x ≤ 15) → (1 : Int32) <<< (x &&& 31) = 1 <<< x := by
    intro x hx
    obtain ⟨h1, h2⟩ := hx
    rw [Int32.le_iff_toInt_le] at h1 h2
    rw [i_0] at h1
    have h15 : (15 : Int32).toInt = 15 := by decide
    rw [h15] at h2
    obtain ⟨n, hn⟩ : ∃ n : Nat, x.toInt = n := ⟨x.toInt.toNat, by omega⟩
    have e : x = Int32.ofNat n := Int32.toInt_inj.mp (by rw [hn, Int32.toInt_ofNat_of_lt (by omega)])
    have k : ∀ n, n < 16 → (1 : Int32) <<< (Int32.ofNat n &&& 31) = 1 <<< Int32.ofNat n := by decide +kernel
    rw [e]
    exact k n (by omega)
  refine key _ ?_
  rcases hf with z | z
  · unfold aInR at z
    have z1 := of_decide_eq_true (Bool.and_eq_true_iff.mp z).1
    have z2 := of_decide_eq_true (Bool.and_eq_true_iff.mp z).2
    exact ⟨z1, Int32.le_trans z2 (by decide)⟩
  · unfold aInR at z
    have z1 := of_decide_eq_true (Bool.and_eq_true_iff.mp z).1
    have z2 := of_decide_eq_true (Bool.and_eq_true_iff.mp z).2
    exact ⟨Int32.le_trans (by decide) z1, z2⟩
/-- PREASK -/
theorem M_preask {F : Nat} {σ : RS} {a : AA} {u : AU} {s : Nat} {l : AL} (hF : 400 ≤ F) (h : RM σ a u) (hs : s < 7) (hf : aInR (l.1 2) 0 6 = true ∨ aInR (l.1 2) 8 15 = true) : WP ((rld σ 53 (Int32.ofNat s)).bind fun x30 =>
    if xc2 .le (l.1 5) x30 = true then (
      m_came_b197 F  σ (Int32.ofNat s) (l.1 2) (l.1 5)
    ) else (
      (m_isAsNew σ (Int32.ofNat s) (l.1 7) (l.1 8)).bind fun p33 =>
      if xc0 .eq p33.1 = true then (
        m_came_b197 F  p33.2 (Int32.ofNat s) (l.1 2) (l.1 5)
      ) else (
        (rld p33.2 73 (Int32.ofNat s)).bind fun x36 =>
        if xc2 .eq x36 ((3 : Int32)) = true then (
          m_came_b197 F  p33.2 (Int32.ofNat s) (l.1 2) (l.1 5)
        ) else (
          (rld p33.2 78 (Int32.ofNat s)).bind fun x39 =>
          if xc2 .eq x39 ((-2000000000 : Int32)) = true then (
            m_came_b193 F  p33.2 (Int32.ofNat s) (l.1 2) (l.1 5)
          ) else (
            (rld p33.2 78 (Int32.ofNat s)).bind fun x42 =>
            if xc2 .gt x42 ((p33.2.1 1 0) - ((50 : Int32))) = true then (
              m_came_b197 F  p33.2 (Int32.ofNat s) (l.1 2) (l.1 5)
            ) else (
              m_came_b193 F  p33.2 (Int32.ofNat s) (l.1 2) (l.1 5)
            )
          )
        )
      )
    )) (fun τ => RM τ (A_preask a s l) u) := by
  have no : (decide (aS a 53 s < l.1 5) && aAsNew a s (l.1 7) (l.1 8) && !decide (aS a 73 s = 3) && (decide (aS a 78 s = -2000000000) || decide (aS a 78 s ≤ aNow a - 50))) = false → WP (m_came_b197 F σ (Int32.ofNat s) (l.1 2) (l.1 5)) (fun τ => RM τ (A_preask a s l) u) := by
    intro e
    unfold A_preask
    dsimp only
    rw [e]
    unfold m_came_b197 m_came_b198 m_came_b218 m_came_b228
    refine WP_if c0_eq (fun _ => ?_) (fun y => absurd rfl y)
    refine WP_r7 h (by decide) hs ?_
    refine WP_if c0_eq (fun _ => ?_) (fun y => absurd rfl y)
    exact M_aVote (b := false) hF h hs hf (Or.inl rfl) (fun τ h' => WP_some h')
  have yes : (decide (aS a 53 s < l.1 5) && aAsNew a s (l.1 7) (l.1 8) && !decide (aS a 73 s = 3) && (decide (aS a 78 s = -2000000000) || decide (aS a 78 s ≤ aNow a - 50))) = true → WP (m_came_b193 F σ (Int32.ofNat s) (l.1 2) (l.1 5)) (fun τ => RM τ (A_preask a s l) u) := by
    intro e
    unfold A_preask
    dsimp only
    rw [e]
    unfold m_came_b193 m_came_b198 m_came_b218 m_came_b228
    refine WP_if c0_eq (fun y => absurd y (by decide)) (fun _ => ?_)
    refine WP_if c0_eq (fun y => absurd y (by decide)) (fun _ => ?_)
    exact M_aVote (b := true) hF h hs hf (Or.inl rfl) (fun τ h' => WP_some h')
  refine WP_r7 h (by decide) hs ?_
  refine WP_if c2_le (fun q => ?_) (fun q => ?_)
  · exact no (by rw [decide_eq_false (Int32.not_lt.mpr q), Bool.false_and, Bool.false_and, Bool.false_and])
  · have q : aS a 53 s < l.1 5 := Int32.not_le.mp q
    refine WP_eq (M_isAsNew h hs) ?_
    cases hn : aAsNew a s (l.1 7) (l.1 8) with
    | false =>
      refine WP_if c0_eq (fun _ => ?_) (fun y => absurd rfl y)
      exact no (by rw [hn, Bool.and_false, Bool.false_and, Bool.false_and])
    | true =>
      refine WP_if c0_eq (fun y => absurd (show (1 : Int32) = 0 from y) (by decide)) (fun _ => ?_)
      refine WP_r7 h (by decide) hs ?_
      refine WP_if c2_eq (fun q2 => ?_) (fun q2 => ?_)
      · exact no (by rw [decide_eq_true q2, Bool.not_true, Bool.and_false, Bool.false_and])
      · refine WP_r7 h (by decide) hs ?_
        refine WP_if c2_eq (fun q3 => ?_) (fun q3 => ?_)
        · exact yes (by rw [decide_eq_true q, hn, decide_eq_false q2, decide_eq_true q3]; rfl)
        · refine WP_r7 h (by decide) hs ?_
          rw [show σ.1 1 0 = aNow a from RM_0 (f := 1) h (by decide)]
          refine WP_if c2_gt (fun q4 => ?_) (fun q4 => ?_)
          · exact no (by rw [decide_eq_false q3, decide_eq_false (Int32.not_le.mpr q4), Bool.or_false, Bool.and_false])
          · exact yes (by rw [decide_eq_true q, hn, decide_eq_false q2, decide_eq_false q3, decide_eq_true (Int32.not_lt.mp q4)]; rfl)
