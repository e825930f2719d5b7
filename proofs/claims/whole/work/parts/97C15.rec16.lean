/-! the slot that was written last -/
def recM (τ : RS) (s : Nat) (t v d : Int32) : RS := setI (setI (setI (setI (setI (setI (setI τ 53 s t) 54 s v) 47 s (-1)) 55 s 0) 57 s 0) 58 s d) 67 s 0
theorem b178_ok {F : Nat} {τ : RS} {s : Nat} {t v : Int32} {Q : RS → Prop} (hs : s < 7) (K : WP (m_recover_b220 F F (recM τ s t v (τ.1 145 0)) (Int32.ofNat s) 2) Q) : WP (m_recover_b178 F (setI τ 53 s t) (Int32.ofNat s) v (Int32.ofNat s)) Q := by
  unfold m_recover_b178
  refine WP_st rfl 7 (by decide +kernel) hs ?_
  refine WP_st rfl 7 (by decide +kernel) hs ?_
  refine WP_st rfl 7 (by decide +kernel) hs ?_
  refine WP_st rfl 7 (by decide +kernel) hs ?_
  refine WP_st rfl 7 (by decide +kernel) hs ?_
  refine WP_st rfl 7 (by decide +kernel) hs ?_
  rw [setI_f (show (145 : Nat) ≠ 57 by decide), setI_f (show (145 : Nat) ≠ 55 by decide), setI_f (show (145 : Nat) ≠ 47 by decide), setI_f (show (145 : Nat) ≠ 54 by decide), setI_f (show (145 : Nat) ≠ 53 by decide)]
  exact K
theorem b125_ok {F k : Nat} {τ : RS} {s : Nat} {x : Int32} {Q : RS → Prop} (hs : s < 7) (hk : k < 224) (e : τ.1 45 s = x) (K : WP (m_recover_b220 F F (recM τ s (if x < 0 then 0 else τ.1 39 k) (if x < 0 then -1 else τ.1 40 k) (τ.1 145 0)) (Int32.ofNat s) 2) Q) : WP (m_recover_b125 F τ (Int32.ofNat k) (Int32.ofNat s)) Q := by
  unfold m_recover_b125 m_recover_b152
  refine WP_ld rfl 7 (by decide +kernel) hs ?_
  rw [e]
  refine WP_if c0_ge (fun q => ?_) (fun q => ?_)
  · rw [if_neg (Int32.not_lt.mpr q), if_neg (Int32.not_lt.mpr q)] at K
    refine WP_ld rfl 224 (by decide +kernel) hk ?_
    refine WP_st rfl 7 (by decide +kernel) hs ?_
    refine WP_ld rfl 7 (by decide +kernel) hs ?_
    rw [setI_f (show (45 : Nat) ≠ 53 by decide), e]
    refine WP_if c0_ge (fun _ => ?_) (fun y => absurd q y)
    refine WP_ld rfl 224 (by decide +kernel) hk ?_
    rw [setI_f (show (40 : Nat) ≠ 53 by decide)]
    exact b178_ok hs K
  · rw [if_pos (Int32.not_le.mp q), if_pos (Int32.not_le.mp q)] at K
    refine WP_st rfl 7 (by decide +kernel) hs ?_
    refine WP_ld rfl 7 (by decide +kernel) hs ?_
    rw [setI_f (show (45 : Nat) ≠ 53 by decide), e]
    exact WP_if c0_ge (fun y => absurd y q) (fun _ => b178_ok hs K)
theorem b110_ok {F : Nat} {τ : RS} {s : Nat} {x : Int32} {Q : RS → Prop} (hs : s < 7) (hx : x = -1 ∨ x = 0 ∨ x = 1) (K : WP (m_recover_b220 F F (recM (setI τ 45 s x) s (if x < 0 then 0 else τ.1 39 (2 * (16 * s + x.toNatClampNeg))) (if x < 0 then -1 else τ.1 40 (2 * (16 * s + x.toNatClampNeg))) (τ.1 145 0)) (Int32.ofNat s) 2) Q) :
    WP (m_recover_b110 F τ (Int32.ofNat s) x (Int32.ofNat s) (Int32.ofNat (2 * (16 * s + 0))) (Int32.ofNat (2 * (16 * s + 1)))) Q := by
  unfold m_recover_b110
  refine WP_st rfl 7 (by decide +kernel) hs ?_
  refine WP_ld rfl 7 (by decide +kernel) hs ?_
  have e39 : ∀ k, (setI τ 45 s x).1 39 k = τ.1 39 k := fun k => setI_f (by decide)
  have e40 : ∀ k, (setI τ 45 s x).1 40 k = τ.1 40 k := fun k => setI_f (by decide)
  have e145 : (setI τ 45 s x).1 145 0 = τ.1 145 0 := setI_f (by decide)
  have e45 : (setI τ 45 s x).1 45 s = x := setI_e
  rw [e45]
  rcases hx with rfl | rfl | rfl
  · refine WP_if c0_ne (fun _ => ?_) (fun y => absurd (fun w => absurd w (by decide)) y)
    refine b125_ok hs (by omega) e45 ?_
    rw [e145]
    exact K
  · refine WP_if c0_ne (fun y => absurd rfl y) (fun _ => ?_)
    refine b125_ok hs (by omega) e45 ?_
    rw [e145, e39, e40]
    exact K
  · refine WP_if c0_ne (fun _ => ?_) (fun y => absurd (fun w => absurd w (by decide)) y)
    refine b125_ok hs (by omega) e45 ?_
    rw [e145, e39, e40]
    exact K
/-- a file's head is whole -/
theorem head_ok {τ : RS} {k : Nat} {G : AF} {n : Int32} {no yes : Option RS} {Q : RS → Prop} (hk : k < 224) (h38 : τ.1 38 k = G.1 0) (h01 : G.1 0 = 0 ∨ G.1 0 = 1) (h37 : τ.1 37 k = G.1 1) (kn : aWholeHead G n = false → WP no Q) (ky : aWholeHead G n = true → WP yes Q) :
    WP ((rld τ 38 (Int32.ofNat k)).bind fun x => if xc0 .eq x = true then no else (rld τ 37 (Int32.ofNat k)).bind fun y => if xc2 .lt y n = true then no else yes) Q := by
  refine WP_ld rfl 224 (by decide +kernel) hk ?_
  rw [h38]
  refine WP_if c0_eq (fun q => ?_) (fun q => ?_)
  · refine kn ?_
    unfold aWholeHead
    rw [decide_eq_false (fun z => by rw [q] at z; exact absurd z (by decide)), Bool.false_and]
  · refine WP_ld rfl 224 (by decide +kernel) hk ?_
    rw [h37]
    refine WP_if c2_lt (fun q2 => ?_) (fun q2 => ?_)
    · refine kn ?_
      unfold aWholeHead
      rw [decide_eq_false (Int32.not_le.mpr q2), Bool.and_false]
    · refine ky ?_
      unfold aWholeHead
      rw [decide_eq_true (h01.resolve_left q), decide_eq_true (Int32.not_lt.mp q2)]
      rfl
theorem later_cases {a : AA} {s x y : Nat} {n : Int32} : aLater a s x y n = if aWholeHead (aFc a s x) n = true then (if aWholeHead (aFc a s y) n = true ∧ ¬ (aFc a s y).1 2 < (aFc a s x).1 2 then Int32.ofNat y else Int32.ofNat x) else if aWholeHead (aFc a s y) n = true then Int32.ofNat y else -1 := rfl
theorem M_slots {F : Nat} {σ τ : RS} {a : AA} {u : AU} {s : Nat} {Q : RS → Prop} (h : RM σ a u) (hs : s < 7) (hτ : ∀ f, f ≠ 52 → τ.1 f = σ.1 f)
    (K : WP (m_recover_b220 F F (recM (setI τ 45 s (aLater a s 0 1 32)) s (if aLater a s 0 1 32 < 0 then 0 else (aFc a s (aLater a s 0 1 32).toNatClampNeg).1 3) (if aLater a s 0 1 32 < 0 then -1 else (aFc a s (aLater a s 0 1 32).toNatClampNeg).1 4) (aS a 145 0)) (Int32.ofNat s) 2) Q) : WP (m_recover F τ (Int32.ofNat s)) Q := by
  have z0 := (h.2.2.2.2.2.1 s hs 0 (by omega)).1
  have z1 := (h.2.2.2.2.2.1 s hs 1 (by omega)).1
  have e0 : ∀ f, f ≠ 52 → ∀ k, τ.1 f k = σ.1 f k := fun f hf k => by rw [hτ f hf]
  have e145 : τ.1 145 0 = aS a 145 0 := (e0 145 (by decide) 0).trans (h.1.1 145 (by decide) 0 (by decide +kernel))
  have wh : ∀ g, aWholeHead (aFc a s g) 32 = true → (aFc a s g).1 0 = 1 := by
    intro g y
    unfold aWholeHead at y
    rw [Bool.and_eq_true, decide_eq_true_eq] at y
    exact y.1
  have v0 := z0.2.2.2.2.2.1 (by omega)
  have v1 := z1.2.2.2.2.2.1 (by omega)
  have ord : aWholeHead (aFc a s 0) 32 = true → aWholeHead (aFc a s 1) 32 = true → (τ.1 41 (2 * (16 * s + 0)) ≤ τ.1 41 (2 * (16 * s + 1)) ↔ ¬ (aFc a s 1).1 2 < (aFc a s 0).1 2) := by
    intro y0 y1
    have := (h.2.2.2.2.2.2.1 s hs (1, true) (0, true) (by decide) (by decide) (wh 1 y1)).2.2 (wh 0 y0)
    have this : σ.1 41 (2 * (16 * s + 1)) < σ.1 41 (2 * (16 * s + 0)) ↔ (aFc a s 1).1 2 < (aFc a s 0).1 2 := this
    rw [e0 41 (by decide), e0 41 (by decide), ← this]
    exact Int32.not_lt.symm
  have end0 : aLater a s 0 1 32 = 0 → aWholeHead (aFc a s 0) 32 = true → WP (m_recover_b110 F τ (Int32.ofNat s) 0 (Int32.ofNat s) (Int32.ofNat (2 * (16 * s + 0))) (Int32.ofNat (2 * (16 * s + 1)))) Q := by
    intro y w
    rw [y] at K
    refine b110_ok hs (Or.inr (Or.inl rfl)) ?_
    rw [e145]
    have q1 : τ.1 39 (2 * (16 * s + (0 : Int32).toNatClampNeg)) = (aFc a s (0 : Int32).toNatClampNeg).1 3 := (e0 39 (by decide) _).trans (v0 (wh 0 w)).1
    have q2 : τ.1 40 (2 * (16 * s + (0 : Int32).toNatClampNeg)) = (aFc a s (0 : Int32).toNatClampNeg).1 4 := (e0 40 (by decide) _).trans (v0 (wh 0 w)).2
    rw [q1, q2]
    exact K
  have end1 : aLater a s 0 1 32 = 1 → aWholeHead (aFc a s 1) 32 = true → WP (m_recover_b110 F τ (Int32.ofNat s) 1 (Int32.ofNat s) (Int32.ofNat (2 * (16 * s + 0))) (Int32.ofNat (2 * (16 * s + 1)))) Q := by
    intro y w
    rw [y] at K
    refine b110_ok hs (Or.inr (Or.inr rfl)) ?_
    rw [e145]
    have q1 : τ.1 39 (2 * (16 * s + (1 : Int32).toNatClampNeg)) = (aFc a s (1 : Int32).toNatClampNeg).1 3 := (e0 39 (by decide) _).trans (v1 (wh 1 w)).1
    have q2 : τ.1 40 (2 * (16 * s + (1 : Int32).toNatClampNeg)) = (aFc a s (1 : Int32).toNatClampNeg).1 4 := (e0 40 (by decide) _).trans (v1 (wh 1 w)).2
    rw [q1, q2]
    exact K
  have endn : aLater a s 0 1 32 = -1 → WP (m_recover_b110 F τ (Int32.ofNat s) (-1) (Int32.ofNat s) (Int32.ofNat (2 * (16 * s + 0))) (Int32.ofNat (2 * (16 * s + 1)))) Q := by
    intro y
    rw [y, if_pos (show (-1 : Int32) < 0 by decide), if_pos (show (-1 : Int32) < 0 by decide)] at K
    refine b110_ok hs (Or.inl rfl) ?_
    rw [e145, if_pos (show (-1 : Int32) < 0 by decide), if_pos (show (-1 : Int32) < 0 by decide)]
    exact K
  have B64 : ∀ w0 w1 : Bool, aWholeHead (aFc a s 0) 32 = w0 → aWholeHead (aFc a s 1) 32 = w1 → WP (m_recover_b64 F τ (aB w1) (Int32.ofNat s) (Int32.ofNat (2 * (16 * s + 0))) (Int32.ofNat (2 * (16 * s + 1))) (aB w0)) Q := by
    intro w0 w1 y0 y1
    unfold m_recover_b64 m_recover_b100 m_recover_b96
    cases w0 with
    | false =>
      refine WP_if c0_eq (fun _ => ?_) (fun y => absurd rfl y)
      cases w1 with
      | false =>
        refine WP_if c0_eq (fun _ => ?_) (fun y => absurd rfl y)
        refine endn ?_
        rw [later_cases, if_neg (by rw [y0]; decide), if_neg (by rw [y1]; decide)]
      | true =>
        refine WP_if c0_eq (fun y => absurd (show (1 : Int32) = 0 from y) (by decide)) (fun _ => ?_)
        refine end1 ?_ y1
        rw [later_cases, if_neg (by rw [y0]; decide), if_pos y1]
        rfl
    | true =>
      refine WP_if c0_eq (fun y => absurd (show (1 : Int32) = 0 from y) (by decide)) (fun _ => ?_)
      cases w1 with
      | false =>
        refine WP_if c0_eq (fun _ => ?_) (fun y => absurd rfl y)
        refine end0 ?_ y0
        rw [later_cases, if_pos y0, if_neg (fun z => by rw [y1] at z; exact absurd z.1 (by decide))]
        rfl
      | true =>
        refine WP_if c0_eq (fun y => absurd (show (1 : Int32) = 0 from y) (by decide)) (fun _ => ?_)
        refine WP_ld rfl 224 (by decide +kernel) (by omega) ?_
        refine WP_ld rfl 224 (by decide +kernel) (by omega) ?_
        refine WP_if c2_le (fun q => ?_) (fun q => ?_)
        · refine WP_if c0_eq (fun y => absurd (show (1 : Int32) = 0 from y) (by decide)) (fun _ => ?_)
          refine end1 ?_ y1
          rw [later_cases, if_pos y0, if_pos ⟨y1, (ord y0 y1).mp q⟩]
          rfl
        · refine end0 ?_ y0
          rw [later_cases, if_pos y0, if_neg (fun z => q ((ord y0 y1).mpr z.2))]
          rfl
  have B37 : ∀ w0 : Bool, aWholeHead (aFc a s 0) 32 = w0 → WP (m_recover_b37 F τ (aB w0) (Int32.ofNat s) (Int32.ofNat (2 * (16 * s + 0))) (Int32.ofNat (2 * (16 * s + 1)))) Q := by
    intro w0 y0
    unfold m_recover_b37 m_recover_b63
    exact head_ok (G := aFc a s 1) (by omega) ((e0 38 (by decide) _).trans z1.1) z1.2.1 ((e0 37 (by decide) _).trans z1.2.2.1) (fun y => B64 w0 false y0 y) (fun y => B64 w0 true y0 y)
  unfold m_recover m_recover_b0 m_recover_b36
  refine WP_eq (m_fileOf_n (s := s) (f := 0)) ?_
  refine WP_eq (m_fileOf_n (s := s) (f := 1)) ?_
  exact head_ok (G := aFc a s 0) (by omega) ((e0 38 (by decide) _).trans z0.1) z0.2.1 ((e0 37 (by decide) _).trans z0.2.2.1) (fun y => B37 false y) (fun y => B37 true y)
