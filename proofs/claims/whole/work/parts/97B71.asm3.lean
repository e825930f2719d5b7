/-! pieces: a whole snapshot is taken in -/
def asZ (c : AA) (s : Nat) (b : Int32) (M : AM) : AA := aMcS (aI (aI c 75 s b) 76 s b) s M
theorem M_as372 {F : Nat} {σ : RS} {c : AA} {u : AU} {s : Nat} {f b turn got : Int32} {M : AM} (hF : 20000 ≤ F) (h : RM σ c (u.1, fun x => (u.2 x ∧ x ≠ 14 + s) ∧ x ≠ s)) (hs : s < 7) (hup : aS c 52 s = 1) (hf : aInR f 0 6 = true ∨ aInR f 8 15 = true) (hM : aSh c s = M) (hpre : WPre c s) (hb : b ≤ aLast c s) (hb2 : aBase c s = b) (h77 : aS c 77 s ≤ aLast c s) (h67 : ¬ aS c 67 s = 0) :
    WP (m_assemble_b372 F σ (Int32.ofNat s) f turn b got) (fun τ => RM τ (aStored (aI (aSoil (aFindCode (aTrim (aWriteShot (asZ c s b M) s) s) s) s) 69 s (-1)) s f b got turn) u) := by
  unfold m_assemble_b372 asZ
  refine WP_wmk h (Or.inl rfl) hs (fun z => absurd rfl z.1.2) (fun σ1 h1 => ?_)
  refine WP_wmk h1 (Or.inr (Or.inl rfl)) hs (fun z => absurd rfl z.1.2) (fun σ2 h2 => ?_)
  have c1 : AFr [75, 76] [] c (aI (aI c 75 s b) 76 s b) := AFr_w (AFr_t AFr_I AFr_I) (by decide) (by decide)
  have e75 : aS (aI (aI c 75 s b) 76 s b) 75 s = b := if_pos ⟨rfl, rfl⟩
  have e76 : aS (aI (aI c 75 s b) 76 s b) 76 s = b := if_pos ⟨rfl, rfl⟩
  generalize aI (aI c 75 s b) 76 s b = c2 at h2 c1 e75 e76
  have hM2 : aSh c2 s = M := by rw [c1.2.2.2.2.2.1 (by decide)]; exact hM
  have hsh := h2.2.2.2.2.2.2.2.2.2.2.1 s hs
  rw [hM2, ← RM_7 h2 (by decide) hs] at hsh
  refine WP_call (m_unpackAll_n (by omega) hs hsh) (fun p14 hp14 => ?_)
  have h3 := RM_mcU h2 hp14.1 hp14.2
  have c2' : AFr [75, 76] [3] c (aMcS c2 s M) := AFr_w (AFr_t c1 AFr_mc) (by decide) (by decide)
  have e75 : aS (aMcS c2 s M) 75 s = b := e75
  have e76 : aS (aMcS c2 s M) 76 s = b := e76
  generalize aMcS c2 s M = c3 at h3 c2' e75 e76
  refine WP_call (M_writeShot hF h3 hs (by rw [c2'.1 67 (by decide)]; exact h67)) (fun p26 hp26 => ?_)
  have fw := @AFr_writeShot c3 s
  have dup : aS (aWriteShot c3 s) 52 s = 1 := by rw [fw.1 52 (by decide), c2'.1 52 (by decide)]; exact hup
  have ech : aCh (aWriteShot c3 s) = aCh c := by rw [fw.2.2.2.2.2.2.2.2.2.1 (by decide), c2'.2.2.2.2.2.2.2.2.2.1 (by decide)]
  have el : aLast (aWriteShot c3 s) s = aLast c s := by
    show aS _ 56 s = aS _ 56 s
    rw [fw.1 56 (by decide), c2'.1 56 (by decide)]
  have eb : aBase (aWriteShot c3 s) s = aBase c s := by
    show aS _ 55 s = aS _ 55 s
    rw [fw.1 55 (by decide), c2'.1 55 (by decide)]
  have efc : ∀ g, 4 ≤ g → aFc (aWriteShot c3 s) s g = aFc c s g := by
    intro g hg
    have e1 : aFc (aWriteShot c3 s) s g = aFc c3 s g := by
      unfold aWriteShot
      show aFc (aPut c3 s _ _) s g = _
      rw [aFc_put, if_neg (by split <;> omega)]
    rw [e1, c2'.2.2.2.2.2.2.2.1 (by decide)]
  have hpre2 : WPre (aWriteShot c3 s) s := by
    obtain ⟨p1, p2, p3⟩ := hpre
    unfold WPre
    rw [ech, el, eb]
    refine ⟨p1, fun g g1 g2 g3 => p2 g g1 g2 (by rw [← efc g g1]; exact g3), p3.imp id ?_⟩
    rintro ⟨m, m1, m2, m3⟩
    refine ⟨m, m1, m2, chOK_f _ _ (fun g hg => ?_) m3⟩
    exact efc g (chOK_mem _ _ m3 g hg).1
  refine WP_call (M_trim (u := (u.1, fun x => u.2 x ∧ x ≠ 14 + s)) (by omega) hp26 hs dup hpre2) (fun p28 hp28 => ?_)
  refine WP_call (M_findCode (by omega) hp28 hs) (fun p30 hp30 => ?_)
  refine WP_call (M_soil hp30 hs) (fun p32 hp32 => ?_)
  refine WP_st rfl 7 (by decide +kernel) hs ?_
  have h5 := RM_69 hp32 hs
  have fr : AFr [43, 47, 64, 65, 2, 31, 32, 71, 69] [6, 7, 8] c3 (aI (aSoil (aFindCode (aTrim (aWriteShot c3 s) s) s) s) 69 s (-1)) := AFr_w (AFr_t (AFr_t (AFr_t (AFr_t fw AFr_trim) AFr_findCode) AFr_soil) AFr_I) (by decide) (by decide)
  generalize aI (aSoil (aFindCode (aTrim (aWriteShot c3 s) s) s) s) 69 s (-1) = d at h5 fr
  have h6 : RM _ d u := RM_on14 h5 hs (fun _ => by
    unfold WMk aBase aLast at *
    rw [fr.1 55 (by decide), fr.1 56 (by decide), fr.1 75 (by decide), fr.1 76 (by decide), fr.1 77 (by decide), e75, e76, c2'.1 55 (by decide), c2'.1 56 (by decide), c2'.1 77 (by decide), hb2]
    exact ⟨Int32.le_refl _, Int32.le_refl _, hb, h77⟩)
  unfold m_assemble_b420 aStored
  exact WP_call (M_tell (by omega) h6 hs hf (Or.inr (Or.inl ⟨rfl, rfl, rfl, rfl⟩))) (fun q hq => WP_some hq)
