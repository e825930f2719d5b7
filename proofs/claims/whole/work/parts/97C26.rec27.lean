/-! the chain is whole behind a start -/
theorem recE_fc {a : AA} {s f : Nat} (hf : 4 ≤ f) (h45 : aS a 45 s = -1 ∨ aS a 45 s = 0 ∨ aS a 45 s = 1) (h46 : aS a 46 s = 0) : aFc (recE a s) s f = aFc a s f := by
  unfold recE
  rw [AFr_syncAll.2.2.2.2.2.2.2.1 (by decide)]
  by_cases q : aS a 53 s < aLastTerm a s
  · rw [if_pos q]
    generalize aLastTerm a s = t
    have e45 : aS (aI (aI a 53 s t) 54 s (-1)) 45 s = aS a 45 s := rfl
    have e46 : aS (aI (aI a 53 s t) 54 s (-1)) 46 s = 0 := h46
    have key : ∀ g, g < 2 → (if aS (aI (aI a 53 s t) 54 s (-1)) 46 s = 0 then (if aS (aI (aI a 53 s t) 54 s (-1)) 45 s = 1 then 0 else 1) else aS (aI (aI a 53 s t) 54 s (-1)) 45 s : Int32) = Int32.ofNat g → aFc (aLaySlot (aI (aI a 53 s t) 54 s (-1)) s) s f = aFc a s f := by
      intro g hg e
      rw [aLaySlot_e hg e]
      show (aU (aFc a) s (aU (aFc a s) g _)) s f = aFc a s f
      unfold aU
      rw [if_pos rfl, if_neg (by omega)]
    by_cases q2 : aS a 45 s = 1
    · exact key 0 (by omega) (by rw [if_pos e46, e45, if_pos q2]; rfl)
    · exact key 1 (by omega) (by rw [if_pos e46, e45, if_neg q2]; rfl)
  · rw [if_neg q]
theorem chOK_c2 {fc fc' : Nat → AF} : ∀ (c : List Nat) (e n : Int), (∀ f ∈ c, fc f = fc' f) → chOK fc e n c → chOK fc' e n c
  | [], _, _, _, h => h
  | f :: r, e, n, hc, h => by
    obtain ⟨h1, h2, h3, h4, h5, h6⟩ := h
    have ef := hc f List.mem_cons_self
    refine ⟨h1, h2, ef ▸ h3, ef ▸ h4, ef ▸ h5, ?_⟩
    have := chOK_c2 r e _ (fun x hx => hc x (List.mem_cons_of_mem _ hx)) h6
    rw [← ef]
    exact this
theorem WCh_rA4 {K : List AK} {σ : RS} {Y : AA} {s b : Nat} (hs : s < 7) (hk : sgOK K σ Y s) (y55 : aS Y 55 s = Int32.ofNat b) (hb : b + 300 < 1073741824) (hl : (aLoad Y s (Int32.ofNat b) (rcC Y s b (aS Y 57 s))).length ≤ 300) :
    aCh (recA4 Y s) s = rcC Y s b (aS Y 57 s) ∧ (∀ f, 4 ≤ f → f < 16 → aFc (recA4 Y s) s f = if f ∈ rcC Y s b (aS Y 57 s) then fT (aFc Y s f) else fX (aFc Y s f)) ∧ WCh (recA4 Y s) s := by
  have ec : recC Y s (aS Y 55 s) (aS Y 57 s) = rcC Y s b (aS Y 57 s) := by
    rw [y55]
    rfl
  have e1 : aCh (recA4 Y s) s = rcC Y s b (aS Y 57 s) := by
    unfold recA4
    rw [ec]
    exact if_pos rfl
  obtain ⟨g, eg, _⟩ := aTidy_e (a := Y) (c := rcC Y s b (aS Y 57 s)) hs aSegs segs_nodup (fun f hf => (seg_mem.mp hf).2)
  have e2 : ∀ f, 4 ≤ f → f < 16 → aFc (recA4 Y s) s f = if f ∈ rcC Y s b (aS Y 57 s) then fT (aFc Y s f) else fX (aFc Y s f) := by
    intro f h4 h16
    have : aFc (recA4 Y s) s f = aTdF Y s (rcC Y s b (aS Y 57 s)) aSegs f := by
      unfold recA4
      rw [ec, eg]
      show (aU (aFc Y) s (aTdF Y s (rcC Y s b (aS Y 57 s)) aSegs)) s f = _
      unfold aU
      rw [if_pos rfl]
    rw [this]
    unfold aTdF
    rw [if_pos (seg_mem.mpr ⟨h4, h16⟩)]
  have e55 : aS (recA4 Y s) 55 s = Int32.ofNat b := (AFr_rA4.1 55 (by decide) s).trans y55
  have e56 : aS (recA4 Y s) 56 s = Int32.ofNat (b + (aLoad Y s (Int32.ofNat b) (rcC Y s b (aS Y 57 s))).length) := by
    unfold recA4
    rw [ec, y55, i_ad]
    exact setI_e
  obtain ⟨c1, c2, c3⟩ := rcC_good (T := aS Y 57 s) hk (show b < 1073741824 by omega)
  refine ⟨e1, e2, ?_⟩
  unfold WCh aLast aBase
  rw [e1, e55, e56, Int32.toInt_ofNat_of_lt (by omega), Int32.toInt_ofNat_of_lt (by omega)]
  refine ⟨c1, fun f h4 h16 h1 => ?_, ?_⟩
  · rw [e2 f h4 h16] at h1
    by_cases q : f ∈ rcC Y s b (aS Y 57 s)
    · exact q
    · rw [if_neg q] at h1
      have h0 : (fX (aFc Y s f)).1 0 = 0 := rfl
      rw [h0] at h1
      exact absurd h1 (by decide)
  · rcases c3 with ⟨y1, y2⟩ | ⟨n, n1, n2, n3⟩
    · refine Or.inl ⟨y1, ?_⟩
      rw [y2]
      rfl
    · refine Or.inr ⟨(n : Int), by omega, by omega, chOK_c2 _ _ _ (fun f hf => ?_) n3⟩
      rw [e2 f (c2 f hf).1 (c2 f hf).2.1, if_pos hf]
