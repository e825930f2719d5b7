theorem cut_end {F : Nat} {τ : RS} {a c : AA} {u : AU} {s : Nat} {n : Int32} (hF : 400 ≤ F) (hs : s < 7) (h : RM τ c (u.1, fun x => (u.2 x ∧ x ≠ s) ∧ x ≠ 14 + s)) (fr : AFr [43] [6, 8] a c) (hr : ¬ aS a 73 s = 3) (hn1 : aBase a s < n) (hn2 : n ≤ aLast a s) (wl : WLg a s) (mk : u.2 (14 + s) → WMk a s ∧ aS a 75 s < n)
    (hw1 : (aCh c s).Nodup) (hw2 : ∀ f, 4 ≤ f → f < 16 → (aFc c s f).1 0 = 1 → f ∈ aCh c s) (hw3 : (aCh c s = [] ∧ n.toInt = (aBase a s).toInt + 1) ∨ ∃ m : Int, 1 ≤ m ∧ m ≤ (aBase a s).toInt + 1 ∧ chOK (aFc c s) n.toInt m (aCh c s)) :
    WP (m_cutLog_b134 F τ (Int32.ofNat s) n) (fun τ => RM τ (aSoil (aFindCode (aI (aLgS (aI c 56 s (n - 1)) s ((aLg a s).take (n - 1 - aBase a s).toNatClampNeg)) 77 s (aMin (aS a 77 s) (n - 1))) s) s) u) := by
  obtain ⟨w1, w2, w3, w4⟩ := wl
  have hn1' := Int32.lt_iff_toInt_lt.mp hn1
  have hn2' := Int32.le_iff_toInt_le.mp hn2
  have en : (n - 1).toInt = n.toInt - 1 := by rw [i_subI (by rw [i_1]; omega) (by rw [i_1]; omega), i_1]
  have ek0 : (n - 1 - aBase a s).toInt = n.toInt - 1 - (aBase a s).toInt := by rw [i_subI (by rw [en]; omega) (by rw [en]; omega), en]
  obtain ⟨k, hk⟩ : ∃ k : Nat, n.toInt - 1 - (aBase a s).toInt = k := ⟨(n.toInt - 1 - (aBase a s).toInt).toNat, by omega⟩
  have ek : (n - 1 - aBase a s).toNatClampNeg = k := by
    have := i_nat (x := n - 1 - aBase a s) (by rw [Int32.le_iff_toInt_le, i_0, ek0]; omega)
    omega
  rw [ek]
  have elg : aLg c s = aLg a s := by rw [fr.2.2.2.1 (by decide)]
  have ebs : aBase c s = aBase a s := fr.1 55 (by decide) s
  unfold m_cutLog_b134
  refine WP_st rfl 7 (by decide +kernel) hs ?_
  have h1 : RM (setI τ 56 s (n - 1)) (aLgS (aI c 56 s (n - 1)) s ((aLg a s).take k)) (u.1, fun x => (u.2 x ∧ x ≠ s) ∧ x ≠ 14 + s) := by
    have := RM_c56 (k := k) (v := n - 1) h hs (by rw [elg]; omega) (by rw [ebs, en]; omega) (fun z => z.1.2 rfl) (fun z => z.2 rfl) (by rw [fr.1 73 (by decide)]; exact hr)
    rw [elg] at this
    exact this
  have f1 : AFr [43, 56] [6, 8, 2] a (aLgS (aI c 56 s (n - 1)) s ((aLg a s).take k)) := AFr_w (AFr_t (AFr_t fr AFr_I) AFr_lg) (by decide) (by decide)
  have e56 : aS (aLgS (aI c 56 s (n - 1)) s ((aLg a s).take k)) 56 s = n - 1 := by
    show aS (aI c 56 s (n - 1)) 56 s = n - 1
    rw [aS_I, if_pos ⟨rfl, rfl⟩]
  have fch : aCh (aLgS (aI c 56 s (n - 1)) s ((aLg a s).take k)) = aCh c := rfl
  have ffc : aFc (aLgS (aI c 56 s (n - 1)) s ((aLg a s).take k)) = aFc c := rfl
  generalize aLgS (aI c 56 s (n - 1)) s ((aLg a s).take k) = d at h1 f1 e56 fch ffc
  generalize setI τ 56 s (n - 1) = τ1 at h1
  have last : ∀ (τ2 : RS), RM τ2 (aI d 77 s (aMin (aS a 77 s) (n - 1))) (u.1, fun x => (u.2 x ∧ x ≠ s) ∧ x ≠ 14 + s) → WP (m_cutLog_b170 F τ2 (Int32.ofNat s)) (fun τ => RM τ (aSoil (aFindCode (aI d 77 s (aMin (aS a 77 s) (n - 1))) s) s) u) := by
    intro τ2 h2
    have f2 : AFr [43, 56, 77] [6, 8, 2] a (aI d 77 s (aMin (aS a 77 s) (n - 1))) := AFr_w (AFr_t f1 AFr_I) (by decide) (by decide)
    have g56 : aS (aI d 77 s (aMin (aS a 77 s) (n - 1))) 56 s = n - 1 := by rw [aS_If (by decide)]; exact e56
    have g77 : aS (aI d 77 s (aMin (aS a 77 s) (n - 1))) 77 s = aMin (aS a 77 s) (n - 1) := by rw [aS_I, if_pos ⟨rfl, rfl⟩]
    have gch : aCh (aI d 77 s (aMin (aS a 77 s) (n - 1))) = aCh c := fch
    have gfc : aFc (aI d 77 s (aMin (aS a 77 s) (n - 1))) = aFc c := ffc
    generalize aI d 77 s (aMin (aS a 77 s) (n - 1)) = e at h2 f2 g56 g77 gch gfc
    unfold m_cutLog_b170
    refine WP_call (M_findCode hF h2 hs) (fun p hp => ?_)
    refine WP_call (M_soil hp hs) (fun p2 hp2 => ?_)
    have f3 : AFr [64, 65, 2, 31, 32, 71] [] e (aSoil (aFindCode e s) s) := AFr_w (AFr_t AFr_findCode AFr_soil) (by decide) (by decide)
    generalize aSoil (aFindCode e s) s = g at hp2 f3
    have x56 : aLast g s = n - 1 := (f3.1 56 (by decide) s).trans g56
    have x55 : aBase g s = aBase a s := (f3.1 55 (by decide) s).trans (f2.1 55 (by decide) s)
    have xch : aCh g s = aCh c s := by rw [f3.2.2.2.2.2.2.2.2.2.1 (by decide), gch]
    have xfc : aFc g s = aFc c s := by rw [f3.2.2.2.2.2.2.2.1 (by decide), gfc]
    refine WP_some (RM_on (RM_on14 (u := (u.1, fun x => u.2 x ∧ x ≠ s)) hp2 hs (fun z => ?_)) hs (fun _ _ => ?_))
    · obtain ⟨⟨m1, m2, m3, m4⟩, m5⟩ := mk z.1
      unfold WMk
      rw [x56, x55, f3.1 76 (by decide), f3.1 75 (by decide), f3.1 77 (by decide), f2.1 76 (by decide), f2.1 75 (by decide), g77]
      refine ⟨m1, m2, ?_, ?_⟩
      · rw [Int32.lt_iff_toInt_lt] at m5
        rw [Int32.le_iff_toInt_le, en]
        omega
      · unfold aMin
        split
        · assumption
        · exact Int32.le_refl _
    · unfold WCh
      rw [xch, xfc, x56, x55, en]
      refine ⟨hw1, hw2, ?_⟩
      rcases hw3 with ⟨z1, z2⟩ | ⟨m, m1, m2, m3⟩
      · left
        refine ⟨z1, Int32.toInt_inj.mp ?_⟩
        rw [en]
        omega
      · right
        refine ⟨m, m1, m2, ?_⟩
        rw [show n.toInt - 1 + 1 = n.toInt by omega]
        exact m3
  have e77 : aS d 77 s = aS a 77 s := f1.1 77 (by decide) s
  refine WP_r7 h1 (by decide) hs (WP_r7 h1 (by decide) hs ?_)
  rw [e56]
  refine WP_if c2_le (fun q => ?_) (fun q => ?_)
  · rw [e77] at q
    have em : aMin (aS a 77 s) (n - 1) = aS a 77 s := if_pos q
    rw [em, aI_same e77] at last
    rw [em, aI_same e77]
    exact last τ1 h1
  · rw [e77] at q
    have em : aMin (aS a 77 s) (n - 1) = n - 1 := if_neg q
    rw [em] at last ⊢
    refine WP_r7 h1 (by decide) hs ?_
    rw [e56]
    exact WP_wmk h1 (Or.inr (Or.inr rfl)) hs (fun z => absurd rfl z.2) (fun τ2 h2 => last τ2 h2)
