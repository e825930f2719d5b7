/-! the chain is whole behind a start, with all that comes between -/
theorem sgOK_c {K : List AK} {σ : RS} {a a' : AA} {s : Nat} (e : aFc a s = aFc a' s) (h : sgOK K σ a s) : sgOK K σ a' s := by
  intro g h1 h2
  have := h g h1 h2
  unfold fsN at this ⊢
  rw [isSeg_c e, e] at this
  exact this
theorem WCh_cc {a a' : AA} {s : Nat} (ec : aCh a' s = aCh a s) (ef : ∀ f, 4 ≤ f → aFc a' s f = aFc a s f) (e55 : aS a' 55 s = aS a 55 s) (e56 : aS a' 56 s = aS a 56 s) (h : WCh a s) : WCh a' s := by
  obtain ⟨h1, h2, h3⟩ := h
  unfold WCh aLast aBase at *
  rw [ec, e55, e56]
  refine ⟨h1, fun f h4 h16 q => h2 f h4 h16 (by rw [← ef f h4]; exact q), h3.imp id ?_⟩
  rintro ⟨n, n1, n2, n3⟩
  exact ⟨n, n1, n2, chOK_c _ _ ef n3⟩
theorem WCh_start {σ : RS} {a : AA} {u : AU} {s b : Nat} (h : RM σ a u) (hs : s < 7) (ho : upOK a s b) : WCh (stA (A_recover (aI a 52 s 1) s) s) s := by
  obtain ⟨o52, o46, ob, o55, owf, odist, osg, own, omx⟩ := ho
  have ee : A_recover (aI a 52 s 1) s = aFindCode (recE (recA4 (recA3 (aI a 52 s 1) s) s) s) s := by
    refine A_recover_e ?_
    rw [AFr_rA4.1 46 (by decide), AFr_rA3.1 46 (by decide)]
    exact o46
  have yf : aFc (recA3 (aI a 52 s 1) s) = aFc a := (AFr_rA3 (a := aI a 52 s 1) (s := s)).2.2.2.2.2.2.2.1 (by decide)
  have y55 : aS (recA3 (aI a 52 s 1) s) 55 s = Int32.ofNat b := by
    rw [← o55]
    unfold recA3
    show (setI (setI (setI (setI _ 55 s _) 57 s _) 58 s _) 67 s _).1 55 s = _
    rw [setI_f (by decide), setI_f (by decide), setI_f (by decide), setI_e]
    rfl
  have y45 : aS (recA3 (aI a 52 s 1) s) 45 s = aLater (aI a 52 s 1) s 0 1 32 := by
    unfold recA3
    show (setI (setI (setI (setI (setI (setI (setI (setI _ 45 s _) 47 s _) 53 s _) 54 s _) 55 s _) 57 s _) 58 s _) 67 s _).1 45 s = _
    rw [setI_f (by decide), setI_f (by decide), setI_f (by decide), setI_f (by decide), setI_f (by decide), setI_f (by decide), setI_f (by decide), setI_e]
  have y46 : aS (recA3 (aI a 52 s 1) s) 46 s = 0 := by
    rw [AFr_rA3.1 46 (by decide)]
    exact o46
  have hx := later_v (a := aI a 52 s 1) (s := s) (x := 0) (y := 1) (n := 32)
  rw [← y45] at hx
  generalize recA3 (aI a 52 s 1) s = Y at ee yf y55 y45 y46 hx
  have hk : sgOK (aAk a) σ Y s := sgOK_c (by rw [yf]) (sgOK_of h hs osg (fun _ _ _ _ => rfl) rfl)
  have hl : (aLoad Y s (Int32.ofNat b) (rcC Y s b (aS Y 57 s))).length ≤ 300 := by
    refine load_300 (fun f hf => ?_)
    have e : aFc Y s = aFc a s := by rw [yf]
    rw [first_c e] at hf
    rw [load_c e, chain_c e]
    exact omx f hf
  obtain ⟨_, _, hw⟩ := WCh_rA4 hs hk y55 ob hl
  rw [ee]
  have x45 : aS (recA4 Y s) 45 s = -1 ∨ aS (recA4 Y s) 45 s = 0 ∨ aS (recA4 Y s) 45 s = 1 := by
    rw [AFr_rA4.1 45 (by decide)]
    exact hx
  have x46 : aS (recA4 Y s) 46 s = 0 := by
    rw [AFr_rA4.1 46 (by decide)]
    exact y46
  generalize recA4 Y s = Z at hw x45 x46
  have fr : AFr [53, 54, 150, 43, 45, 46, 71, 64, 65] [6, 7] Z (aFindCode (recE Z s) s) := AFr_w (AFr_t AFr_rE AFr_findCode) (by decide) (by decide)
  refine WCh_cc (a := Z) ?_ (fun f hf => ?_) ?_ ?_ hw
  · exact congrFun (fr.2.2.2.2.2.2.2.2.2.1 (by decide)) s
  · refine Eq.trans ?_ (recE_fc hf x45 x46)
    rfl
  · exact (stA_f.trans rfl).trans (fr.1 55 (by decide) s)
  · exact (stA_f.trans rfl).trans (fr.1 56 (by decide) s)
