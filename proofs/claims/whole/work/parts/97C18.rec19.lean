/-! the whole of reading the log -/
def sgA (a : AA) (s : Nat) : Prop := ∀ g, 4 ≤ g → g < 16 → aIsSeg a s g = true → (aFc a s g).1 2 = Int32.ofNat (fsN a s g) ∧ 1 ≤ fsN a s g ∧ fsN a s g + (aWhole (aFc a s g)).length < 1073741824
theorem sgOK_of {σ τ : RS} {a : AA} {u : AU} {s : Nat} (h : RM σ a u) (hs : s < 7) (hsg : sgA a s) (e : ∀ f, 37 ≤ f → f ≤ 44 → ∀ i, τ.1 f i = σ.1 f i) (e2 : τ.2 = σ.2) : sgOK (aAk a) τ a s := by
  intro g h1 h2
  obtain ⟨w1, w2, w3, w4⟩ := h.2.2.2.2.2.1 s hs g h2
  refine ⟨(e 38 (by omega) (by omega) _).trans w1.1, w1.2.1, ?_, (e 37 (by omega) (by omega) _).trans w1.2.2.1, fun hi => ⟨?_, hsg g h1 h2 hi⟩⟩
  · have e44 : τ.1 44 (16 * s + g) = σ.1 44 (rFx s g) := e 44 (by omega) (by omega) _
    rw [e44]
    exact w3
  · obtain ⟨S, y1, y2, y3, y4, y5, y6, y7⟩ := SegF_of w1 (by unfold rFx; omega) h1 (isSeg_b.mp hi).2
    refine ⟨S, y1, y2, y3, y4, y5, ?_, y7⟩
    rw [e2]
    exact y6
theorem load_300 {a : AA} {s b : Nat} {T : Int32} (hmx : ∀ f, aFirstSeg a s (Int32.ofNat b) aSegs = some f → (aLoad a s (Int32.ofNat b) (aChain a s 12 f)).length ≤ 300) : (aLoad a s (Int32.ofNat b) (rcC a s b T)).length ≤ 300 := by
  unfold rcC
  cases hf : aFirstSeg a s (Int32.ofNat b) aSegs with
  | none => exact Nat.zero_le _
  | some f =>
    dsimp only
    by_cases q : aTells (aFc a s f) (Int32.ofNat b) T = true
    · rw [if_pos q]
      exact hmx f hf
    · rw [if_neg q]
      exact Nat.zero_le _
def rlA (a : AA) (s b : Nat) : AA := aI (aLgS (aChS (aTidy (aI a 52 s 1) s (rcC a s b (aS a 57 s)) aSegs) s (rcC a s b (aS a 57 s))) s (aLoad a s (Int32.ofNat b) (rcC a s b (aS a 57 s)))) 56 s (Int32.ofNat (b + (aLoad a s (Int32.ofNat b) (rcC a s b (aS a 57 s))).length))
theorem M_recLog {F : Nat} {σ τ : RS} {a : AA} {u : AU} {s b : Nat} (hF : 2000 ≤ F) (h : RM σ a u) (hs : s < 7) (z1 : ¬ u.2 s) (z2 : ¬ u.2 (14 + s)) (z3 : ¬ u.2 (7 + s))
    (hfr : ∀ f i, ¬ (f = 49 ∧ i = s) → ¬ (f = 56 ∧ i = s) → ¬ (f = 52 ∧ i = s) → τ.1 f i = σ.1 f i) (hfr2 : τ.2 = σ.2) (t52 : τ.1 52 s = 1) (e55 : aS a 55 s = Int32.ofNat b) (hb : b + 300 < 1073741824) (hsg : sgA a s)
    (hmx : ∀ f, aFirstSeg a s (Int32.ofNat b) aSegs = some f → (aLoad a s (Int32.ofNat b) (aChain a s 12 f)).length ≤ 300) (hw : wN (rlA a s b) < 2147483647) :
    WP (m_recoverLog F τ (Int32.ofNat s)) (fun r => RM r (A_syncAll (if aS (rlA a s b) 53 s < aLastTerm (rlA a s b) s then aLaySlot (aI (aI (rlA a s b) 53 s (aLastTerm (rlA a s b) s)) 54 s (-1)) s else rlA a s b) s) u) := by
  unfold m_recoverLog m_recoverLog_b0
  have t55 : τ.1 55 s = Int32.ofNat b := (hfr 55 s (by omega) (by omega) (by omega)).trans ((RM_7 (f := 55) h (by decide) hs).trans e55)
  have t57 : τ.1 57 s = aS a 57 s := (hfr 57 s (by omega) (by omega) (by omega)).trans (RM_7 (f := 57) h (by decide) hs)
  refine WP_st rfl 7 (by decide +kernel) hs ?_
  refine WP_ld rfl 7 (by decide +kernel) hs ?_
  rw [setI_f (show (55 : Nat) ≠ 49 by decide), t55]
  refine WP_st rfl 7 (by decide +kernel) hs ?_
  have f0 : ∀ f i, ¬ (f = 49 ∧ i = s) → ¬ (f = 56 ∧ i = s) → (setI (setI τ 49 s 0) 56 s (Int32.ofNat b)).1 f i = τ.1 f i := fun f i h1 h2 => by rw [setI_no h2, setI_no h1]
  have f56 : (setI (setI τ 49 s 0) 56 s (Int32.ofNat b)).1 56 s = Int32.ofNat b := setI_e
  have f49 : (setI (setI τ 49 s 0) 56 s (Int32.ofNat b)).1 49 s = 0 := by rw [setI_f (by decide), setI_e]
  have fm : (setI (setI τ 49 s 0) 56 s (Int32.ofNat b)).2 = τ.2 := rfl
  generalize setI (setI τ 49 s 0) 56 s (Int32.ofNat b) = σ' at f0 f56 f49 fm ⊢
  have hk : sgOK (aAk a) σ' a s := sgOK_of h hs hsg (fun f h1 h2 i => (f0 f i (by omega) (by omega)).trans (hfr f i (by omega) (by omega) (by omega))) (fm.trans hfr2)
  refine M_readLog (by omega) hs hk ((f0 55 s (by omega) (by omega)).trans t55) ((f0 57 s (by omega) (by omega)).trans t57) f56 f49 (by omega) hmx (fun τ' hE => ?_)
  obtain ⟨done, hd, hcd, hrm, _⟩ := RM_rdT h hs z1 z2 z3 (fun f i q1 q2 q3 => (f0 f i q1 q2).trans (hfr f i q1 q2 q3)) (fm.trans hfr2) ((f0 52 s (by omega) (by omega)).trans t52) hk hE e55 hb (load_300 hmx)
  unfold m_recoverLog_b569
  rw [← fcK_0 hcd] at hrm
  refine M_tidy hF hs hcd hd z1 (fun τ2 n h2 => ?_) F 4 τ' (by omega) (by omega) (by omega) hrm
  rw [← tidy_recB hs] at h2
  exact M_tail (a := rlA a s b) h2 hs (M_rlend (a := rlA a s b) hF h2 hs hw)
/-! what only the files tell -/
theorem isSeg_c {a a' : AA} {s f : Nat} (e : aFc a s = aFc a' s) : aIsSeg a s f = aIsSeg a' s f := by
  unfold aIsSeg
  rw [e]
theorem first_c {a a' : AA} {s : Nat} {b : Int32} (e : aFc a s = aFc a' s) : ∀ l, aFirstSeg a s b l = aFirstSeg a' s b l
  | [] => rfl
  | f :: r => by
    unfold aFirstSeg
    rw [first_c e r, isSeg_c e, e]
theorem segAt_c {a a' : AA} {s : Nat} {n t : Int32} (e : aFc a s = aFc a' s) : aSegAt a s n t = aSegAt a' s n t := by
  unfold aSegAt
  have : (fun f => aIsSeg a s f && decide ((aFc a s f).1 2 = n) && decide ((aFc a s f).1 3 = t)) = fun f => aIsSeg a' s f && decide ((aFc a' s f).1 2 = n) && decide ((aFc a' s f).1 3 = t) := by
    funext f
    rw [isSeg_c e, e]
  rw [this]
theorem chain_c {a a' : AA} {s : Nat} (e : aFc a s = aFc a' s) : ∀ k f, aChain a s k f = aChain a' s k f := by
  intro k
  induction k with
  | zero => exact fun _ => rfl
  | succ k ih =>
    intro f
    rw [aChain_s, aChain_s]
    unfold chNx
    rw [e]
    cases (aWhole (aFc a' s f)).getLast? with
    | none => rfl
    | some x =>
      dsimp only
      have el : wlN a s f = wlN a' s f := by
        unfold wlN
        rw [e]
      rw [el, segAt_c e]
      cases aSegAt a' s ((aFc a' s f).1 2 + Int32.ofNat (wlN a' s f)) x.1 with
      | none => rfl
      | some g =>
        dsimp only
        rw [ih g]
theorem load_c {a a' : AA} {s : Nat} {b : Int32} (e : aFc a s = aFc a' s) : ∀ l, aLoad a s b l = aLoad a' s b l
  | [] => rfl
  | f :: r => by
    unfold aLoad
    rw [load_c e r, e]
theorem rcC_c {a a' : AA} {s b : Nat} {T : Int32} (e : aFc a s = aFc a' s) : rcC a s b T = rcC a' s b T := by
  unfold rcC
  rw [first_c e]
  cases aFirstSeg a' s (Int32.ofNat b) aSegs with
  | none => rfl
  | some f =>
    dsimp only
    rw [e, chain_c e]
theorem tidy_Lg {a : AA} {s : Nat} {c : List Nat} {v : List AE} : ∀ l, aTidy (aLgS a s v) s c l = aLgS (aTidy a s c l) s v
  | [] => rfl
  | f :: r => by
    unfold aTidy
    rw [tidy_Lg r]
    by_cases q : f ∈ c
    · rw [if_pos q, if_pos q]
      rfl
    · rw [if_neg q, if_neg q]
      rfl
theorem tidy_56 {a : AA} {s : Nat} {c : List Nat} {v : Int32} : ∀ l, aTidy (aI a 56 s v) s c l = aI (aTidy a s c l) 56 s v
  | [] => rfl
  | f :: r => by
    unfold aTidy
    rw [tidy_56 r]
    by_cases q : f ∈ c
    · rw [if_pos q, if_pos q]
      rfl
    · rw [if_neg q, if_neg q]
      refine Prod.ext ?_ rfl
      exact setI_c (by decide)
