/-! a server that is down, with what its slots and snapshots hold -/
def dnA (a : AA) (s : Nat) (x45 x47 x53 x54 x55 x57 x58 x67 : Int32) (M : AM) : AA := aI (aLgS (aShS (aI (aI (aI (aI (aI (aI (aI (aI a 45 s x45) 47 s x47) 53 s x53) 54 s x54) 55 s x55) 57 s x57) 58 s x58) 67 s x67) s M) s []) 56 s x55
def dnF : List Nat := [45, 47, 53, 54, 55, 57, 58, 67, 56]
def dnV (x45 x47 x53 x54 x55 x57 x58 x67 : Int32) (f : Nat) : Int32 := if f = 45 then x45 else if f = 47 then x47 else if f = 53 then x53 else if f = 54 then x54 else if f = 55 ∨ f = 56 then x55 else if f = 57 then x57 else if f = 58 then x58 else x67
theorem dnA_f {a : AA} {s f i : Nat} {x45 x47 x53 x54 x55 x57 x58 x67 : Int32} {M : AM} (h : ¬ (f ∈ dnF ∧ i = s)) : aS (dnA a s x45 x47 x53 x54 x55 x57 x58 x67 M) f i = aS a f i := by
  show (setI (setI (setI (setI (setI (setI (setI (setI (setI a.1 45 s x45) 47 s x47) 53 s x53) 54 s x54) 55 s x55) 57 s x57) 58 s x58) 67 s x67) 56 s x55).1 f i = a.1.1 f i
  have e : ∀ g, g ∈ dnF → ¬ (f = g ∧ i = s) := fun g hg z => h ⟨z.1 ▸ hg, z.2⟩
  rw [setI_no (e 56 (by decide)), setI_no (e 67 (by decide)), setI_no (e 58 (by decide)), setI_no (e 57 (by decide)), setI_no (e 55 (by decide)), setI_no (e 54 (by decide)), setI_no (e 53 (by decide)), setI_no (e 47 (by decide)), setI_no (e 45 (by decide))]
theorem dnA_s {a : AA} {s f : Nat} {x45 x47 x53 x54 x55 x57 x58 x67 : Int32} {M : AM} (h : f ∈ dnF) : aS (dnA a s x45 x47 x53 x54 x55 x57 x58 x67 M) f s = dnV x45 x47 x53 x54 x55 x57 x58 x67 f := by
  show (setI (setI (setI (setI (setI (setI (setI (setI (setI a.1 45 s x45) 47 s x47) 53 s x53) 54 s x54) 55 s x55) 57 s x57) 58 s x58) 67 s x67) 56 s x55).1 f s = _
  unfold dnF at h
  simp only [List.mem_cons, List.not_mem_nil, or_false] at h
  rcases h with rfl | rfl | rfl | rfl | rfl | rfl | rfl | rfl | rfl <;> simp [setI, dnV]
theorem RM_dwn {σ τ : RS} {a : AA} {u : AU} {s b : Nat} {x45 x47 x53 x54 x57 x58 x67 : Int32} {M : AM} (h : RM σ a u) (hs : s < 7) (z1 : ¬ u.2 s) (z2 : ¬ u.2 (14 + s)) (z3 : ¬ u.2 (7 + s)) (hd : ¬ aS a 52 s = 1)
    (m1 : ∀ f i, ¬ (f = 66 ∧ i / 14000 = s) → ¬ ((f ∈ dnF ∨ f = 49) ∧ i = s) → τ.1 f i = σ.1 f i) (m2 : τ.2 = σ.2)
    (mv : ∀ f, f ∈ dnF → τ.1 f s = dnV x45 x47 x53 x54 (Int32.ofNat b) x57 x58 x67 f) (hb : b < 1073741824)
    (h45 : x45 = -1 ∨ x45 = 0 ∨ x45 = 1) (h46 : aS a 46 s = 0) (hsh : RSh τ s x67 M) :
    RM τ (dnA a s x45 x47 x53 x54 (Int32.ofNat b) x57 x58 x67 M) u := by
  have hF : Fr [66, 45, 47, 53, 54, 55, 57, 58, 67, 56, 49] [] σ τ := by
    refine ⟨fun f hf => ?_, fun f _ => by rw [m2]⟩
    funext i
    unfold dnF at m1
    simp at hf
    refine m1 f i (by omega) (fun z => ?_)
    have := z.1
    simp at this
    omega
  have bg := fun (f i : Nat) (q : ¬ (f ∈ dnF ∧ i = s)) => @dnA_f a s f i x45 x47 x53 x54 (Int32.ofNat b) x57 x58 x67 M q
  have bs := fun (f : Nat) (q : f ∈ dnF) => @dnA_s a s f x45 x47 x53 x54 (Int32.ofNat b) x57 x58 x67 M q
  have blg : ∀ t, aLg (dnA a s x45 x47 x53 x54 (Int32.ofNat b) x57 x58 x67 M) t = if t = s then [] else aLg a t := fun _ => rfl
  have bsh : ∀ t, aSh (dnA a s x45 x47 x53 x54 (Int32.ofNat b) x57 x58 x67 M) t = if t = s then M else aSh a t := fun _ => rfl
  have bfc : aFc (dnA a s x45 x47 x53 x54 (Int32.ofNat b) x57 x58 x67 M) = aFc a := rfl
  have bfk : aFk (dnA a s x45 x47 x53 x54 (Int32.ofNat b) x57 x58 x67 M) = aFk a := rfl
  have bch : aCh (dnA a s x45 x47 x53 x54 (Int32.ofNat b) x57 x58 x67 M) = aCh a := rfl
  have bo : ∀ f i, i ≠ s → aS (dnA a s x45 x47 x53 x54 (Int32.ofNat b) x57 x58 x67 M) f i = aS a f i := fun f i q => bg f i (fun z => q z.2)
  have b52 : ∀ t, aS (dnA a s x45 x47 x53 x54 (Int32.ofNat b) x57 x58 x67 M) 52 t = aS a 52 t := fun t => bg 52 t (fun z => absurd z.1 (by decide))
  have hsc : RSc τ (dnA a s x45 x47 x53 x54 (Int32.ofNat b) x57 x58 x67 M) := by
    refine ⟨fun f hf i hi => ?_, by rw [m2]; exact h.1.2.1, fun t ht => by rw [m2]; exact h.1.2.2 t ht⟩
    show _ = aS (dnA a s x45 x47 x53 x54 (Int32.ofNat b) x57 x58 x67 M) f i
    by_cases q : f ∈ dnF ∧ i = s
    · rw [q.2, bs f q.1]
      exact mv f q.1
    · rw [bg f i q]
      refine (m1 f i (fun z => ?_) (fun z => ?_)).trans (h.1.1 f hf i hi)
      · rw [z.1] at hf
        exact absurd hf (by decide)
      · rcases z.1 with y | y
        · exact q ⟨y, z.2⟩
        · rw [y] at hf
          exact absurd hf (by decide)
  have hlg : ∀ t, t < 7 → RLog (aAk a) τ t (aS (dnA a s x45 x47 x53 x54 (Int32.ofNat b) x57 x58 x67 M) 55 t) (aLg (dnA a s x45 x47 x53 x54 (Int32.ofNat b) x57 x58 x67 M) t) := by
    intro t ht
    rw [blg]
    by_cases q : t = s
    · rw [if_pos q]
      exact fun i hi => absurd hi (Nat.not_lt_zero _)
    · rw [if_neg q, bo 55 t q]
      exact RLog_fr hF (by decide) (h.2.2.2.2.1 t ht)
  have hc : ∀ t, t < 7 → aS (dnA a s x45 x47 x53 x54 (Int32.ofNat b) x57 x58 x67 M) 52 t = 1 → RCh τ t (aFc a t) (aCh a t) := by
    intro t ht hu
    rw [b52] at hu
    have q : t ≠ s := fun q => hd (q ▸ hu)
    obtain ⟨y1, y2, y3⟩ := h.2.2.2.2.2.2.2.1 t ht hu
    refine ⟨?_, y2, fun i hi => ?_⟩
    · rw [m1 49 t (by omega) (fun z => q z.2)]
      exact y1
    · obtain ⟨x1, x2, x3, x4⟩ := y3 i hi
      refine ⟨x1, x2, ?_, ?_⟩
      · rw [hF.1 50 (by decide)]
        exact x3
      · rw [hF.1 51 (by decide)]
        exact x4
  have ha : ∀ t, t < 7 → aS (dnA a s x45 x47 x53 x54 (Int32.ofNat b) x57 x58 x67 M) 52 t = 1 → RAt τ t (aS (dnA a s x45 x47 x53 x54 (Int32.ofNat b) x57 x58 x67 M) 55 t) (aLg (dnA a s x45 x47 x53 x54 (Int32.ofNat b) x57 x58 x67 M) t) (aFc a t) (aCh a t) := by
    intro t ht hu
    rw [b52] at hu
    have q : t ≠ s := fun q => hd (q ▸ hu)
    rw [blg, if_neg q, bo 55 t q]
    exact RAt_fr hF (by decide) (h.2.2.2.2.2.2.2.2.1 t ht hu)
  have hshot : ∀ t, t < 7 → RSh τ t (aS (dnA a s x45 x47 x53 x54 (Int32.ofNat b) x57 x58 x67 M) 67 t) (aSh (dnA a s x45 x47 x53 x54 (Int32.ofNat b) x57 x58 x67 M) t) := by
    intro t ht
    rw [bsh]
    by_cases q : t = s
    · rw [if_pos q, q, bs 67 (by decide)]
      exact hsh
    · rw [if_neg q, bo 67 t q]
      obtain ⟨y1, y2⟩ := h.2.2.2.2.2.2.2.2.2.2.1 t ht
      refine ⟨y1, y2.imp id ?_⟩
      rintro ⟨w1, w2, w3⟩
      refine ⟨w1, w2, fun i hi => ?_⟩
      rw [m1 66 _ (by omega) (fun z => by
        have := z.1
        unfold dnF at this
        simp at this)]
      exact w3 i hi
  have hlc : aLoc (dnA a s x45 x47 x53 x54 (Int32.ofNat b) x57 x58 x67 M) := by
    obtain ⟨l1, l2, l3, l4, l5⟩ := h.2.2.2.2.2.2.2.2.2.2.2.2.2.2.2.2.2.2.2.1
    refine ⟨by rw [bg 27 0 (fun z => absurd z.1 (by decide))]; exact l1, by rw [bg 27 0 (fun z => absurd z.1 (by decide))]; exact l2, fun t ht f hf => ?_, fun t ht => by rw [bg 150 t (fun z => absurd z.1 (by decide))]; exact l4 t ht, fun t ht => ?_⟩
    · rw [bg 43 _ (fun z => absurd z.1 (by decide)), bfc]
      exact l3 t ht f hf
    · rw [bg 46 t (fun z => absurd z.1 (by decide))]
      by_cases q : t = s
      · rw [q, bs 45 (by decide)]
        exact ⟨h45, Or.inl h46⟩
      · rw [bo 45 t q]
        exact l5 t ht
  have hwl : ∀ t, t < 7 → WLg (dnA a s x45 x47 x53 x54 (Int32.ofNat b) x57 x58 x67 M) t := by
    intro t ht
    have old := h.2.2.2.2.2.2.2.2.2.2.2.2.2.2.2.2.2.2.2.2.1 t ht
    unfold WLg aLast aBase at old ⊢
    rw [blg]
    by_cases q : t = s
    · rw [if_pos q, q, bs 55 (by decide), bs 56 (by decide)]
      have e1 : dnV x45 x47 x53 x54 (Int32.ofNat b) x57 x58 x67 55 = Int32.ofNat b := by simp [dnV]
      have e2 : dnV x45 x47 x53 x54 (Int32.ofNat b) x57 x58 x67 56 = Int32.ofNat b := by simp [dnV]
      rw [e1, e2, Int32.toInt_ofNat_of_lt (by omega)]
      exact ⟨by omega, by show (b : Int) = (b : Int) + ((0 : Nat) : Int); omega, by decide, by omega⟩
    · rw [if_neg q, bo 55 t q, bo 56 t q]
      exact old
  have hwc : ∀ t, t < 7 → u.2 t → aS (dnA a s x45 x47 x53 x54 (Int32.ofNat b) x57 x58 x67 M) 52 t = 1 → WCh (dnA a s x45 x47 x53 x54 (Int32.ofNat b) x57 x58 x67 M) t := by
    intro t ht hz hu
    have q : t ≠ s := fun q => z1 (q ▸ hz)
    rw [b52] at hu
    have old := h.2.2.2.2.2.2.2.2.2.2.2.2.2.2.2.2.2.2.2.2.2.1 t ht hz hu
    unfold WCh aLast aBase at old ⊢
    rw [bch, bfc, bo 55 t q, bo 56 t q]
    exact old
  have hwm : ∀ t, t < 7 → u.2 (14 + t) → WMk (dnA a s x45 x47 x53 x54 (Int32.ofNat b) x57 x58 x67 M) t := by
    intro t ht hz
    have q : t ≠ s := fun q => z2 (q ▸ hz)
    have old := h.2.2.2.2.2.2.2.2.2.2.2.2.2.2.2.2.2.2.2.2.2.2.1 t ht hz
    unfold WMk aLast aBase at old ⊢
    rw [bo 55 t q, bo 56 t q, bo 76 t q, bo 75 t q, bo 77 t q]
    exact old
  have hld : ∀ t, t < 7 → u.2 (7 + t) → aS (dnA a s x45 x47 x53 x54 (Int32.ofNat b) x57 x58 x67 M) 73 t = 3 → WLd (dnA a s x45 x47 x53 x54 (Int32.ofNat b) x57 x58 x67 M) t := by
    intro t ht hz hr
    have q : t ≠ s := fun q => z3 (q ▸ hz)
    rw [bo 73 t q] at hr
    have old := h.2.2.2.2.2.2.2.2.2.2.2.2.2.2.2.2.2.2.2.2.2.2.2 t ht hz hr
    intro p hp
    have := old p hp
    unfold aLast at this ⊢
    rw [bo 56 t q, bo 67 t q, bg 86 _ (fun z => absurd z.1 (by decide)), bg 87 _ (fun z => absurd z.1 (by decide)), bg 90 _ (fun z => absurd z.1 (by decide)), bg 88 _ (fun z => absurd z.1 (by decide))]
    exact this
  exact ⟨hsc, RWay_fr hF (by decide) h.2.1, fun s hs => RWt_fr hF (by decide) (h.2.2.1 s hs), fun l hl => RLt_fr hF (by decide) (h.2.2.2.1 l hl), hlg, fun s hs => RDk_fr hF (by decide) (h.2.2.2.2.2.1 s hs), fun s hs => RSl_fr hF (by decide) (h.2.2.2.2.2.2.1 s hs), hc, ha, fun s hs => RMc_fr hF (by decide) (h.2.2.2.2.2.2.2.2.2.1 s hs), hshot, fun s hs => RPc_fr hF (by decide) (h.2.2.2.2.2.2.2.2.2.2.2.1 s hs), fun s hs => RRq_fr hF (by decide) (h.2.2.2.2.2.2.2.2.2.2.2.2.1 s hs), RAk_fr hF (by decide) h.2.2.2.2.2.2.2.2.2.2.2.2.2.1, fun s hs => RWn_fr hF (by decide) (h.2.2.2.2.2.2.2.2.2.2.2.2.2.2.1 s hs), RTp_fr hF (by decide) h.2.2.2.2.2.2.2.2.2.2.2.2.2.2.2.1, RRe_fr hF (by decide) h.2.2.2.2.2.2.2.2.2.2.2.2.2.2.2.2.1, fun s hs => RDn_fr hF (by decide) (h.2.2.2.2.2.2.2.2.2.2.2.2.2.2.2.2.2.1 s hs), RSum_fr hF (by decide) h.2.2.2.2.2.2.2.2.2.2.2.2.2.2.2.2.2.2.1, hlc, hwl, hwc, hwm, hld⟩
