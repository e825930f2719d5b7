/-! a server comes up -/
theorem M_st {F : Nat} {σ : RS} {a : AA} {u : AU} {s : Nat} {Q : Int32 × RS → Prop} (hF : 400 ≤ F) (h : RM σ a u) (hs : s < 7) (z2 : ¬ u.2 (14 + s)) (hq : aRq a s = [])
    (fin : ∀ τ, RM τ (stA a s) ((u.1.1, fun t => if t = s then (aS a 151 s).toNatClampNeg else u.1.2 t), u.2) → WP ((m_drawAlarm τ (Int32.ofNat s)).bind fun p40 => if ((1 : Int32)) = 0 ∨ ((1 : Int32)) = 1 then some ((1 : Int32), p40) else none) Q) :
    WP ((rst σ 73 (Int32.ofNat s) (((0 : Int32)))).bind fun σ12 =>
      (rst σ12 74 (Int32.ofNat s) (((-1 : Int32)))).bind fun σ14 =>
      (rld σ14 55 (Int32.ofNat s)).bind fun x16 =>
      (rst σ14 75 (Int32.ofNat s) x16).bind fun σ18 =>
      (rld σ18 55 (Int32.ofNat s)).bind fun x20 =>
      (rst σ18 76 (Int32.ofNat s) x20).bind fun σ22 =>
      (m_unpackAll F σ22 (Int32.ofNat s)).bind fun p24 =>
      (rld p24 56 (Int32.ofNat s)).bind fun x26 =>
      (rst p24 77 (Int32.ofNat s) x26).bind fun σ28 =>
      (rst σ28 78 (Int32.ofNat s) (((-2000000000 : Int32)))).bind fun σ30 =>
      (rst σ30 79 (Int32.ofNat s) (((0 : Int32)))).bind fun σ32 =>
      (rst σ32 80 (Int32.ofNat s) (((-1 : Int32)))).bind fun σ34 =>
      (rst σ34 69 (Int32.ofNat s) (((-1 : Int32)))).bind fun σ36 =>
      (rst σ36 94 (Int32.ofNat s) (((0 : Int32)))).bind fun σ38 =>
      (m_drawAlarm σ38 (Int32.ofNat s)).bind fun p40 =>
      if ((1 : Int32)) = 0 ∨ ((1 : Int32)) = 1 then some ((1 : Int32), p40) else none) Q := by
  have e55 := RM_7 (f := 55) h (by decide) hs
  refine WP_st rfl 7 (by decide +kernel) hs ?_
  have h1 := RM_73 (s := s) (v := 0) h (Or.inl (by decide))
  refine WP_st rfl 7 (by decide +kernel) hs ?_
  have h2 := RM_I (f := 74) (i := s) (v := -1) h1 (by decide)
  refine WP_ld rfl 7 (by decide +kernel) hs ?_
  rw [setI_f (show (55 : Nat) ≠ 74 by decide), setI_f (show (55 : Nat) ≠ 73 by decide), e55]
  refine WP_st rfl 7 (by decide +kernel) hs ?_
  have h3 := RM_mk (f := 75) (s := s) (v := aS a 55 s) h2 (by decide) (fun y => absurd y z2)
  refine WP_ld rfl 7 (by decide +kernel) hs ?_
  rw [setI_f (show (55 : Nat) ≠ 75 by decide), setI_f (show (55 : Nat) ≠ 74 by decide), setI_f (show (55 : Nat) ≠ 73 by decide), e55]
  refine WP_st rfl 7 (by decide +kernel) hs ?_
  have h4 := RM_mk (f := 76) (s := s) (v := aS a 55 s) h3 (by decide) (fun y => absurd y z2)
  generalize hb : aI (aI (aI (aI a 73 s 0) 74 s (-1)) 75 s (aS a 55 s)) 76 s (aS a 55 s) = b at h4
  generalize setI (setI (setI (setI σ 73 s 0) 74 s (-1)) 75 s (aS a 55 s)) 76 s (aS a 55 s) = τ at h4 ⊢
  have hsh : RSh τ s (τ.1 67 s) (aSh b s) := by
    rw [RM_7 (f := 67) h4 (by decide) hs]
    exact h4.2.2.2.2.2.2.2.2.2.2.1 s hs
  refine WP_call (m_unpackAll_n hF hs hsh) (fun p5 hp5 => ?_)
  have h5 := RM_mcU h4 hp5.1 hp5.2
  refine WP_ld rfl 7 (by decide +kernel) hs ?_
  rw [RM_7 (f := 56) h5 (by decide) hs]
  have eb56 : aS (aMcS b s (aSh b s)) 56 s = aS b 56 s := rfl
  rw [eb56]
  refine WP_st rfl 7 (by decide +kernel) hs ?_
  have h6 := RM_mk (f := 77) (s := s) (v := aS b 56 s) h5 (by decide) (fun y => absurd y z2)
  refine WP_st rfl 7 (by decide +kernel) hs ?_
  have h7 := RM_I (f := 78) (i := s) (v := -2000000000) h6 (by decide)
  refine WP_st rfl 7 (by decide +kernel) hs ?_
  have h8 := RM_I (f := 79) (i := s) (v := 0) h7 (by decide)
  refine WP_st rfl 7 (by decide +kernel) hs ?_
  have h9 := RM_I (f := 80) (i := s) (v := -1) h8 (by decide)
  refine WP_st rfl 7 (by decide +kernel) hs ?_
  have h10 := RM_69 (s := s) h9 hs
  have es : aI (aI (aI (aI (aI (aMcS b s (aSh b s)) 77 s (aS b 56 s)) 78 s (-2000000000)) 79 s 0) 80 s (-1)) 69 s (-1) = stA a s := by
    rw [← hb]
    rfl
  rw [es] at h10
  refine WP_st rfl 7 (by decide +kernel) hs ?_
  have h11 := RM_94 (s := s) h10 hs hq
  have e151 : aS (stA a s) 151 s = aS a 151 s := by
    rw [stA_f, if_neg (by decide), if_neg (by decide), if_neg (by decide), if_neg (by decide), if_neg (by decide)]
  rw [e151] at h11
  exact fin _ h11
