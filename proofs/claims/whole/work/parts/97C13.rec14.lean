/-! the end of reading a disk -/
theorem M_tidy {F : Nat} {a : AA} {u : AU} {s b : Nat} {done c : List Nat} {es : List AE} {Q : RS → Prop} (hF : 2000 ≤ F) (hs : s < 7) (hc : ∀ g ∈ c, g ∈ done) (hd : ∀ g ∈ done, 4 ≤ g ∧ g < 16 ∧ aIsSeg a s g = true) (z1 : ¬ u.2 s)
    (fin : ∀ τ n, RM (z43 s 0 τ) (recB a s b (aTdF a s c aSegs) c es) u → WP (m_recoverLog_b572 F (n + 1) τ (Int32.ofNat s) (Int32.ofNat 16)) Q) :
    ∀ n k (τ : RS), 17 ≤ k + n → 4 ≤ k → k ≤ 16 → RM (z43 s 0 τ) (recB a s b (fcK (aAk a) a s done c k) c es) u → WP (m_recoverLog_b572 F n τ (Int32.ofNat s) (Int32.ofNat k)) Q := by
  intro n
  induction n with
  | zero => intro k τ h1 h2; omega
  | succ n ih =>
    intro k τ h1 h4 h2 h
    by_cases q16 : k = 16
    · subst q16
      rw [fcK_16 (fun g hg => ⟨(hd g (hc g hg)).1, (hd g (hc g hg)).2.1⟩) (fun g hg => ⟨(hd g hg).1, (hd g hg).2.1⟩)] at h
      exact fin τ n h
    · have hk : k < 16 := by omega
      have up : aS (recB a s b (fcK (aAk a) a s done c k) c es) 52 s = 1 := if_pos ⟨rfl, rfl⟩
      have ech : aCh (recB a s b (fcK (aAk a) a s done c k) c es) s = c := if_pos rfl
      have efc : aFc (recB a s b (fcK (aAk a) a s done c k) c es) s = fcK (aAk a) a s done c k := if_pos rfl
      obtain ⟨c1, c2, c3⟩ := h.2.2.2.2.2.2.2.1 s hs up
      rw [ech] at c1 c2 c3
      have e0 : aB (decide (k ∈ c.take 0)) = 0 := by
        rw [decide_eq_false (by simp)]
        rfl
      have main := tidy_in (F := F) (K572 := m_recoverLog_b572 F n) (τ := τ) (k := k) (c := c) (Q := Q) hs hk ((z43_f (by decide)).symm.trans c1) c2 (fun i hi => ⟨(z43_f (by decide)).symm.trans (c3 i hi).2.2.1, (c3 i hi).2.1⟩) (fun hkc => ?_) (fun hkc => ?_) F 0 (by omega) (Nat.zero_le _)
      · rw [e0] at main
        unfold m_recoverLog_b572
        exact WP_if (p := 16 ≤ k) (i_gei (q := 16) (by omega) (by omega)) (fun y => absurd y (by omega)) (fun _ => main)
      · refine ih (k + 1) τ (by omega) (by omega) (by omega) ?_
        rw [fcK_s h4 (fun z => absurd hkc z)]
        exact h
      · have z := (h.2.2.2.2.2.1 s hs k hk).1
        rw [efc] at z
        have ek : fcK (aAk a) a s done c k k = fcR (aAk a) a s done c k := by
          unfold fcK
          rw [if_neg hkc, if_neg (by omega)]
        rw [ek] at z
        have e38 : τ.1 38 (2 * (16 * s + k)) = (fcR (aAk a) a s done c k).1 0 := (z43_f (s := s) (k := 0) (show (38 : Nat) ≠ 43 by decide)).symm.trans z.1
        refine WP_if c0_eq (fun q => ?_) (fun q => ?_)
        · refine ih (k + 1) τ (by omega) (by omega) (by omega) ?_
          rw [fcK_s h4 (fun _ => ?_)]
          · exact h
          · rw [e38] at q
            have hnd : k ∉ done := by
              intro w
              have e1 : (fcR (aAk a) a s done c k).1 0 = (aFc a s k).1 0 := by
                unfold fcR
                rw [if_pos w, if_neg hkc]
                rfl
              rw [e1, (isSeg_b.mp (hd k w).2.2).1] at q
              exact absurd q (by decide)
            have er : fcR (aAk a) a s done c k = aFc a s k := if_neg hnd
            rw [er] at z q ⊢
            obtain ⟨_, _, _, ⟨S, _, y2, y3, _⟩, _⟩ := z
            rw [y3 q] at y2
            exact fX_s q y2
        · have m1 := M_removeFile h hs hk (by omega) z1
          rw [m_removeFile_n hs hk] at m1
          obtain ⟨x, x1, x2⟩ := m1
          have x1 := Option.some.inj x1
          rw [← x1, z43_st (show (44 : Nat) ≠ 43 by decide), z43_st (show (38 : Nat) ≠ 43 by decide), z43_st (show (37 : Nat) ≠ 43 by decide), z43_s0 (v := 0) (by omega) (Nat.zero_le _), recB_rm hk, ek, fcK_r h4 hkc] at x2
          refine WP_eq (m_removeFile_n hs hk) ?_
          exact ih (k + 1) _ (by omega) (by omega) (by omega) x2
theorem zA_I {a : AA} {s k f i : Nat} {v : Int32} (hf : f ≠ 43) : aI (zA s k a) f i v = zA s k (aI a f i v) := Prod.ext (z43_st (τ := a.1) hf) rfl
/-- the term of the last entry -/
theorem M_tail {F n : Nat} {τ : RS} {a : AA} {u : AU} {s : Nat} {Q : RS → Prop} (h : RM (z43 s 0 τ) (zA s 0 a) u) (hs : s < 7) (fin : WP (m_recoverLog_b702 F τ (aLastTerm a s) (Int32.ofNat s)) Q) : WP (m_recoverLog_b572 F (n + 1) τ (Int32.ofNat s) (Int32.ofNat 16)) Q := by
  unfold m_recoverLog_b572
  refine WP_if (p := 16 ≤ 16) (i_gei (q := 16) (by omega) (by omega)) (fun _ => ?_) (fun y => absurd (Nat.le_refl _) y)
  have g : ∀ f, f ≠ 43 → ∀ i, aS (zA s 0 a) f i = aS a f i := fun f hf i => z43_f hf
  have et : aLastTerm (zA s 0 a) s = aLastTerm a s := aLastTerm_c (g 55 (by decide) s) (g 56 (by decide) s) (g 57 (by decide) s) rfl
  have e56 : τ.1 56 s = aS a 56 s := (z43_f (s := s) (k := 0) (by decide)).symm.trans ((RM_7 (f := 56) h (by decide) hs).trans (g 56 (by decide) s))
  have ev := (m_termAt_n hs).symm.trans (M_lastTerm h hs)
  have ev := (Prod.mk.inj (Option.some.inj ev)).1
  rw [et, g 56 (by decide), z43_f (show (55 : Nat) ≠ 43 by decide), z43_f (show (57 : Nat) ≠ 43 by decide), z43_f (show (59 : Nat) ≠ 43 by decide)] at ev
  refine WP_ld rfl 7 (by decide +kernel) hs ?_
  refine WP_ld rfl 7 (by decide +kernel) hs ?_
  rw [e56]
  refine WP_if c2_ne (fun q => ?_) (fun q => ?_)
  · rw [if_neg q] at ev
    refine WP_ld rfl 7 (by decide +kernel) hs ?_
    rw [e56]
    refine WP_eq m_logOf_n ?_
    refine WP_ld rfl 3584 (by decide +kernel) (by have := @rMod_lt (aS a 56 s); omega) ?_
    rw [ev]
    exact fin
  · rw [if_pos (Classical.not_not.mp q)] at ev
    refine WP_ld rfl 7 (by decide +kernel) hs ?_
    rw [ev]
    exact fin
theorem M_rlend {F : Nat} {τ : RS} {a : AA} {u : AU} {s : Nat} (hF : 2000 ≤ F) (h : RM (z43 s 0 τ) (zA s 0 a) u) (hs : s < 7) (hw : wN a < 2147483647) : WP (m_recoverLog_b702 F τ (aLastTerm a s) (Int32.ofNat s)) (fun r => RM r (A_syncAll (if aS a 53 s < aLastTerm a s then aLaySlot (aI (aI a 53 s (aLastTerm a s)) 54 s (-1)) s else a) s) u) := by
  unfold m_recoverLog_b702 m_recoverLog_b735
  have g : ∀ f, f ≠ 43 → ∀ i, aS (zA s 0 a) f i = aS a f i := fun f hf i => z43_f hf
  have e53 : τ.1 53 s = aS a 53 s := (z43_f (s := s) (k := 0) (by decide)).symm.trans ((RM_7 (f := 53) h (by decide) hs).trans (g 53 (by decide) s))
  generalize aLastTerm a s = t
  refine WP_ld rfl 7 (by decide +kernel) hs ?_
  rw [e53]
  refine WP_if c2_le (fun q => ?_) (fun q => ?_)
  · rw [if_neg (Int32.not_lt.mpr q)]
    exact WP_call (M_syncAll_z hF hs F 0 τ (by omega) (by omega) h) (fun p hp => WP_some hp)
  · rw [if_pos (Int32.not_le.mp q)]
    refine WP_st rfl 7 (by decide +kernel) hs ?_
    refine WP_st rfl 7 (by decide +kernel) hs ?_
    have h1 := RM_I (f := 53) (i := s) (v := t) h (by decide)
    rw [z43_st (by decide), zA_I (by decide)] at h1
    have h2 := RM_I (f := 54) (i := s) (v := -1) h1 (by decide)
    rw [z43_st (by decide), zA_I (by decide)] at h2
    have l5 := (RM_loc (u := u) h2).2.2.2.2 s hs
    generalize hA : aI (aI a 53 s t) 54 s (-1) = A at h2 l5 ⊢
    generalize setI (setI τ 53 s t) 54 s (-1) = τ2 at h2 ⊢
    have hw2 : wN (zA s 0 A) < 2147483647 := by
      rw [← hA]
      exact hw
    have gA : ∀ f, f ≠ 43 → ∀ i, aS (zA s 0 A) f i = aS A f i := fun f hf i => z43_f hf
    have e45 : τ2.1 45 s = aS A 45 s := (z43_f (s := s) (k := 0) (by decide)).symm.trans ((RM_7 (f := 45) h2 (by decide) hs).trans (gA 45 (by decide) s))
    have e46 : τ2.1 46 s = aS A 46 s := (z43_f (s := s) (k := 0) (by decide)).symm.trans ((RM_7 (f := 46) h2 (by decide) hs).trans (gA 46 (by decide) s))
    rw [gA 45 (by decide), gA 46 (by decide)] at l5
    have m1 := M_laySlot h2 hs hw2
    rw [laySlot_z hs l5.1 l5.2] at m1
    refine WP_call (WP_z (lay_z hs (by rw [e45]; exact l5.1) (by rw [e45, e46]; exact l5.2) (fun f hf => ?_)) m1) (fun p hp => ?_)
    · have z := (h2.2.2.2.2.2.1 s hs f (by omega)).1
      obtain ⟨y1, y2⟩ := RFl_S z
      have y3 : (z43 s 0 τ2).1 37 (2 * rFx s f) = τ2.1 37 (2 * rFx s f) := z43_f (by decide)
      show 0 ≤ τ2.1 37 (2 * rFx s f)
      rw [← y3, y2]
      exact Int32.not_lt.mp (i_nn (by omega))
    · exact WP_call (M_syncAll_z hF hs F 0 p (by omega) (by omega) hp) (fun p hp => WP_some hp)
