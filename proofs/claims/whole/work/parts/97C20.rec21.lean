/-! coming up: recover -/
theorem later_v {a : AA} {s x y : Nat} {n : Int32} : aLater a s x y n = -1 ∨ aLater a s x y n = Int32.ofNat x ∨ aLater a s x y n = Int32.ofNat y := by
  rw [later_cases]
  split
  · split
    · exact Or.inr (Or.inr rfl)
    · exact Or.inr (Or.inl rfl)
  · split
    · exact Or.inr (Or.inr rfl)
    · exact Or.inl rfl
/-- what a disk must hold for its server to come up -/
def upOK (a : AA) (s b : Nat) : Prop := aS a 52 s = 0 ∧ aS a 46 s = 0 ∧ b + 300 < 1073741824 ∧ (if aLater a s 2 3 20 < 0 then 0 else (aFc a s (aLater a s 2 3 20).toNatClampNeg).1 2) = Int32.ofNat b ∧
  (∀ g, 2 ≤ g → g < 4 → (aFc a s g).1 0 = 1 → wfM (aFc a s g).2.2) ∧ ((aFc a s 2).1 0 = 1 → (aFc a s 3).1 0 = 1 → ¬ (aFc a s 2).1 2 = (aFc a s 3).1 2) ∧ sgA a s ∧ wN a < 2147483647 ∧
  ∀ f, aFirstSeg a s (Int32.ofNat b) aSegs = some f → (aLoad a s (Int32.ofNat b) (aChain a s 12 f)).length ≤ 300
theorem M_recover {F : Nat} {σ : RS} {a : AA} {u : AU} {s b : Nat} (hF : 14000 ≤ F) (h : RM σ a u) (hs : s < 7) (z1 : ¬ u.2 s) (z2 : ¬ u.2 (14 + s)) (z3 : ¬ u.2 (7 + s)) (ho : upOK a s b) :
    WP (m_recover F (setI σ 52 s 1) (Int32.ofNat s)) (fun r => RM r (A_recover (aI a 52 s 1) s) u) := by
  obtain ⟨o52, o46, ob, o55, owf, odist, osg, own, omx⟩ := ho
  refine M_slots h hs (fun f hf => by funext i; exact setI_f hf) ?_
  have hx45 : aLater a s 0 1 32 = -1 ∨ aLater a s 0 1 32 = 0 ∨ aLater a s 0 1 32 = 1 := later_v
  have eA := @rlA_e a s b o55
  generalize hS53 : (if aLater a s 0 1 32 < 0 then (0 : Int32) else (aFc a s (aLater a s 0 1 32).toNatClampNeg).1 3) = x53 at eA ⊢
  generalize hS54 : (if aLater a s 0 1 32 < 0 then (-1 : Int32) else (aFc a s (aLater a s 0 1 32).toNatClampNeg).1 4) = x54 at eA ⊢
  have s52 : σ.1 52 s = 0 := (RM_7 (f := 52) h (by decide) hs).trans o52
  obtain ⟨F', rfl⟩ : ∃ F', F = F' + 3 := ⟨F - 3, by omega⟩
  have r0 : ∀ f i, ¬ ((f = 45 ∨ f = 53 ∨ f = 54 ∨ f = 47 ∨ f = 55 ∨ f = 57 ∨ f = 58 ∨ f = 67 ∨ f = 52) ∧ i = s) → (recM (setI (setI σ 52 s 1) 45 s (aLater a s 0 1 32)) s x53 x54 (aS a 145 0)).1 f i = σ.1 f i := by
    intro f i q
    unfold recM
    rw [setI_no (fun z => q ⟨by omega, z.2⟩), setI_no (fun z => q ⟨by omega, z.2⟩), setI_no (fun z => q ⟨by omega, z.2⟩), setI_no (fun z => q ⟨by omega, z.2⟩), setI_no (fun z => q ⟨by omega, z.2⟩), setI_no (fun z => q ⟨by omega, z.2⟩), setI_no (fun z => q ⟨by omega, z.2⟩), setI_no (fun z => q ⟨by omega, z.2⟩), setI_no (fun z => q ⟨by omega, z.2⟩)]
  have r45 : (recM (setI (setI σ 52 s 1) 45 s (aLater a s 0 1 32)) s x53 x54 (aS a 145 0)).1 45 s = aLater a s 0 1 32 := by simp [recM, setI]
  have r53 : (recM (setI (setI σ 52 s 1) 45 s (aLater a s 0 1 32)) s x53 x54 (aS a 145 0)).1 53 s = x53 := by simp [recM, setI]
  have r54 : (recM (setI (setI σ 52 s 1) 45 s (aLater a s 0 1 32)) s x53 x54 (aS a 145 0)).1 54 s = x54 := by simp [recM, setI]
  have r47 : (recM (setI (setI σ 52 s 1) 45 s (aLater a s 0 1 32)) s x53 x54 (aS a 145 0)).1 47 s = -1 := by simp [recM, setI]
  have r55 : (recM (setI (setI σ 52 s 1) 45 s (aLater a s 0 1 32)) s x53 x54 (aS a 145 0)).1 55 s = 0 := by simp [recM, setI]
  have r57 : (recM (setI (setI σ 52 s 1) 45 s (aLater a s 0 1 32)) s x53 x54 (aS a 145 0)).1 57 s = 0 := by simp [recM, setI]
  have r58 : (recM (setI (setI σ 52 s 1) 45 s (aLater a s 0 1 32)) s x53 x54 (aS a 145 0)).1 58 s = aS a 145 0 := by simp [recM, setI]
  have r67 : (recM (setI (setI σ 52 s 1) 45 s (aLater a s 0 1 32)) s x53 x54 (aS a 145 0)).1 67 s = 0 := by simp [recM, setI]
  have r52 : (recM (setI (setI σ 52 s 1) 45 s (aLater a s 0 1 32)) s x53 x54 (aS a 145 0)).1 52 s = 1 := by simp [recM, setI]
  have rm : (recM (setI (setI σ 52 s 1) 45 s (aLater a s 0 1 32)) s x53 x54 (aS a 145 0)).2 = σ.2 := rfl
  generalize recM (setI (setI σ 52 s 1) 45 s (aLater a s 0 1 32)) s x53 x54 (aS a 145 0) = τ1 at r0 r45 r53 r54 r47 r55 r57 r58 r67 r52 rm ⊢
  refine M_shots (d := aS a 145 0) hF h hs (fun f h1 h2 => by funext i; exact r0 f i (by omega)) rm r47 r55 r57 r58 r67 owf odist (fun τ' n' he => ?_)
  obtain ⟨e1, e2, e47, e55, e57, e58, e67, esh⟩ := he
  rw [o55] at e55
  generalize hS57 : (if aLater a s 2 3 20 < 0 then (0 : Int32) else (aFc a s (aLater a s 2 3 20).toNatClampNeg).1 3) = x57 at eA e57
  generalize hS58 : (if aLater a s 2 3 20 < 0 then aS a 145 0 else (aFc a s (aLater a s 2 3 20).toNatClampNeg).1 4) = x58 at eA e58
  generalize hS67 : (if aLater a s 2 3 20 < 0 then (0 : Int32) else (aFc a s (aLater a s 2 3 20).toNatClampNeg).1 1 - 20) = x67 at eA e67 esh
  have hD : RM (setI (setI τ' 52 s 0) 56 s (Int32.ofNat b)) (dnA a s (aLater a s 0 1 32) (aLater a s 2 3 20) x53 x54 (Int32.ofNat b) x57 x58 x67 (shM a s (aLater a s 2 3 20))) u := by
    refine RM_dwn h hs z1 z2 z3 (by rw [o52]; decide) (fun f i q1 q2 => ?_) (e2.trans rm) (fun f hf => ?_) (by omega) hx45 o46 (RSh_fr (Fr_w (Fr_t (@Fr_I τ' 52 s 0) Fr_I) (by simp) (by simp) : Fr [52, 56] [] τ' _) (by decide) esh)
    · have qq : ∀ g, g ∈ dnF → ¬ (f = g ∧ i = s) := fun g hg z => q2 ⟨Or.inl (z.1 ▸ hg), z.2⟩
      rw [setI_no (qq 56 (by decide))]
      by_cases q52 : f = 52 ∧ i = s
      · rw [q52.1, q52.2, setI_e]
        exact s52.symm
      · rw [setI_no q52, e1 f i q1 (fun z => by
          rcases z.1 with y | y | y | y | y
          · exact qq 47 (by decide) ⟨y, z.2⟩
          · exact qq 55 (by decide) ⟨y, z.2⟩
          · exact qq 57 (by decide) ⟨y, z.2⟩
          · exact qq 58 (by decide) ⟨y, z.2⟩
          · exact qq 67 (by decide) ⟨y, z.2⟩)]
        refine r0 f i (fun z => ?_)
        rcases z.1 with y | y | y | y | y | y | y | y | y
        · exact qq 45 (by decide) ⟨y, z.2⟩
        · exact qq 53 (by decide) ⟨y, z.2⟩
        · exact qq 54 (by decide) ⟨y, z.2⟩
        · exact qq 47 (by decide) ⟨y, z.2⟩
        · exact qq 55 (by decide) ⟨y, z.2⟩
        · exact qq 57 (by decide) ⟨y, z.2⟩
        · exact qq 58 (by decide) ⟨y, z.2⟩
        · exact qq 67 (by decide) ⟨y, z.2⟩
        · exact q52 ⟨y, z.2⟩
    · unfold dnF at hf
      simp only [List.mem_cons, List.not_mem_nil, or_false] at hf
      rcases hf with rfl | rfl | rfl | rfl | rfl | rfl | rfl | rfl | rfl
      · rw [setI_f (by decide), setI_f (by decide), e1 45 s (by omega) (by omega), r45]
        simp [dnV]
      · rw [setI_f (by decide), setI_f (by decide), e47]
        simp [dnV]
      · rw [setI_f (by decide), setI_f (by decide), e1 53 s (by omega) (by omega), r53]
        simp [dnV]
      · rw [setI_f (by decide), setI_f (by decide), e1 54 s (by omega) (by omega), r54]
        simp [dnV]
      · rw [setI_f (by decide), setI_f (by decide), e55]
        simp [dnV]
      · rw [setI_f (by decide), setI_f (by decide), e57]
        simp [dnV]
      · rw [setI_f (by decide), setI_f (by decide), e58]
        simp [dnV]
      · rw [setI_f (by decide), setI_f (by decide), e67]
        simp [dnV]
      · rw [setI_e]
        simp [dnV]
  have d55 : aS (dnA a s (aLater a s 0 1 32) (aLater a s 2 3 20) x53 x54 (Int32.ofNat b) x57 x58 x67 (shM a s (aLater a s 2 3 20))) 55 s = Int32.ofNat b := (dnA_s (by decide)).trans (by simp [dnV])
  have dfc : aFc (dnA a s (aLater a s 0 1 32) (aLater a s 2 3 20) x53 x54 (Int32.ofNat b) x57 x58 x67 (shM a s (aLater a s 2 3 20))) s = aFc a s := rfl
  have d46 : aS (recA4 (recA3 (aI a 52 s 1) s) s) 46 s = 0 := by
    rw [← eA]
    unfold rlA
    refine Eq.trans ?_ o46
    refine Eq.trans (setI_f (show (46 : Nat) ≠ 56 by decide)) ?_
    refine Eq.trans (tidy_S (by decide) aSegs) ?_
    refine Eq.trans (setI_f (show (46 : Nat) ≠ 52 by decide)) ?_
    exact dnA_f (fun z => absurd z.1 (by decide))
  have dw : wN (rlA (dnA a s (aLater a s 0 1 32) (aLater a s 2 3 20) x53 x54 (Int32.ofNat b) x57 x58 x67 (shM a s (aLater a s 2 3 20))) s b) < 2147483647 := by
    have e150 : ∀ t, aS (rlA (dnA a s (aLater a s 0 1 32) (aLater a s 2 3 20) x53 x54 (Int32.ofNat b) x57 x58 x67 (shM a s (aLater a s 2 3 20))) s b) 150 t = aS a 150 t := by
      intro t
      unfold rlA
      refine Eq.trans (setI_f (show (150 : Nat) ≠ 56 by decide)) ?_
      refine Eq.trans (tidy_S (by decide) aSegs) ?_
      refine Eq.trans (setI_f (show (150 : Nat) ≠ 52 by decide)) ?_
      exact dnA_f (fun z => absurd z.1 (by decide))
    unfold wN
    rw [e150, e150, e150, e150, e150, e150, e150]
    exact own
  rw [A_recover_e d46, ← eA]
  generalize dnA a s (aLater a s 0 1 32) (aLater a s 2 3 20) x53 x54 (Int32.ofNat b) x57 x58 x67 (shM a s (aLater a s 2 3 20)) = D at hD d55 dfc dw ⊢
  have dsg : sgA D s := by
    intro g g1 g2 g3
    have := osg g g1 g2 ((isSeg_c dfc).symm.trans g3)
    unfold fsN at this ⊢
    rw [dfc]
    exact this
  have dmx : ∀ f, aFirstSeg D s (Int32.ofNat b) aSegs = some f → (aLoad D s (Int32.ofNat b) (aChain D s 12 f)).length ≤ 300 := by
    intro f hf
    rw [first_c dfc] at hf
    rw [load_c dfc, chain_c dfc]
    exact omx f hf
  unfold m_recover_b220
  refine WP_if (p := 4 ≤ 4) (i_gei (q := 4) (by omega) (by omega)) (fun _ => ?_) (fun y => absurd (Nat.le_refl _) y)
  refine WP_call (M_recLog (σ := setI (setI τ' 52 s 0) 56 s (Int32.ofNat b)) (by omega) hD hs z1 z2 z3 (fun f i q1 q2 q3 => ?_) rfl ?_ d55 ob dsg dmx dw) (fun p hp => ?_)
  · rw [setI_no q2, setI_no q3]
  · rw [e1 52 s (by omega) (by omega)]
    exact r52
  · exact WP_call (M_findCode (by omega) hp hs) (fun q hq => WP_some hq)
