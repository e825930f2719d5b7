theorem AFr_hd1 {a : AA} {s : Nat} {l : AL} : AFr [92, 93, 91] [] a (hd1 a s l) := AFr_w (AFr_t (AFr_t AFr_I AFr_I) AFr_I) (by decide) (by decide)
theorem AFr_hd2 {a : AA} {s : Nat} {l : AL} : AFr [86, 87, 88, 89, 90] [] a (hd2 a s l) := by
  unfold hd2
  dsimp only
  split
  · split
    · exact AFr_w (AFr_t AFr_I AFr_I) (by decide) (by decide)
    · split
      · exact AFr_w (AFr_t (AFr_t (AFr_t (AFr_t AFr_I AFr_I) AFr_I) AFr_I) AFr_I) (by decide) (by decide)
      · exact AFr_w (AFr_t AFr_I AFr_I) (by decide) (by decide)
  · split
    · exact AFr_w (AFr_t (AFr_t (AFr_t AFr_I AFr_I) AFr_I) AFr_I) (by decide) (by decide)
    · exact AFr_w (AFr_t (AFr_t AFr_I AFr_I) AFr_I) (by decide) (by decide)
/-- a number grows -/
theorem WP_max {σ : RS} {a : AA} {u : AU} {s p : Nat} {v : Int32} {x y : RS → Option RS} {Q : RS → Prop} (h : RM σ a u) (hs : s < 7) (hp : p < 7) (f : Nat) (hf : f = 86 ∨ f = 87)
    (hv : u.2 (7 + s) → aS a 73 s = 3 → WLd a s → (f = 86 → 1 ≤ v ∧ v ≤ aLast a s + 1) ∧ (f = 87 → v ≤ aLast a s) ∧ (f = 90 → 0 ≤ v ∧ v ≤ aS a 67 s) ∧ (f = 88 → 0 ≤ v)) (hx : ∀ τ, RM τ (aI a f (7 * s + p) (aMax (aS a f (7 * s + p)) v)) u → WP (x τ) Q) : WP ((rld σ f (Int32.ofNat (7 * s + p))).bind fun z => if xc2 .ge z v = true then x σ else (rst σ f (Int32.ofNat (7 * s + p)) v).bind x) Q := by
  have hf49 : f ∈ sc49 := by
    rcases hf with rfl | rfl <;> decide
  refine WP_r49 h hf49 (by omega) ?_
  refine WP_if c2_ge (fun q => ?_) (fun q => ?_)
  · rw [aMax_ge q, aI_same rfl] at hx
    exact hx σ h
  · rw [aMax_lt q] at hx
    exact WP_wld h hs hp (by rcases hf with rfl | rfl; exact Or.inl rfl; exact Or.inr (Or.inl rfl)) hv hx
theorem hd_l1 {c : AA} {s : Nat} (w : WLg c s) : (aLast c s + 1).toInt = (aLast c s).toInt + 1 := by
  obtain ⟨w1, w2, w3, w4⟩ := w
  rw [i_addI (by rw [i_1]; omega) (by rw [i_1]; omega), i_1]
theorem hd_b1 {c : AA} {s : Nat} (w : WLg c s) : 1 ≤ aBase c s + 1 ∧ aBase c s + 1 ≤ aLast c s + 1 := by
  have l1 := hd_l1 w
  obtain ⟨w1, w2, w3, w4⟩ := w
  have l2 : (aBase c s + 1).toInt = (aBase c s).toInt + 1 := by rw [i_addI (by rw [i_1]; omega) (by rw [i_1]; omega), i_1]
  rw [Int32.le_iff_toInt_le, Int32.le_iff_toInt_le, l1, l2, i_1]
  omega
theorem hd_v1 {c : AA} {s : Nat} {x y v : Int32} (w : WLg c s) (hv : v = aMax y (x + 1)) (low : 0 ≤ x) (d3 : x ≤ aLast c s) : 1 ≤ v := by
  have : x + 1 ≤ v := by
    rw [hv]
    unfold aMax
    split
    · exact Int32.le_refl _
    · rename_i q3
      rw [Int32.le_iff_toInt_le] at q3 ⊢
      omega
  obtain ⟨w1, w2, w3, w4⟩ := w
  rw [Int32.le_iff_toInt_le] at this low d3 ⊢
  rw [i_0] at low
  rw [i_addI (by rw [i_1]; omega) (by rw [i_1]; omega), i_1] at this
  rw [i_1]
  omega
theorem hd_m1 {c : AA} {s : Nat} (w : WLg c s) : 1 ≤ aLast c s + 1 := by
  have l1 := hd_l1 w
  obtain ⟨w1, w2, w3, w4⟩ := w
  rw [Int32.le_iff_toInt_le, l1, i_1]
  omega
theorem hd_v2 {c : AA} {s : Nat} {x v : Int32} (w : WLg c s) (vl : v ≤ aLast c s) (d1 : 1 ≤ x) (q5 : ¬ v + 1 ≤ x) : 1 ≤ v + 1 ∧ v + 1 ≤ aLast c s + 1 := by
  have l1 := hd_l1 w
  obtain ⟨w1, w2, w3, w4⟩ := w
  rw [Int32.le_iff_toInt_le] at vl
  have hvm := Int32.le_toInt v
  have l2 : (v + 1).toInt = v.toInt + 1 := by rw [i_addI (by rw [i_1]; omega) (by rw [i_1]; omega), i_1]
  have q5 := Int32.not_le.mp q5
  rw [Int32.lt_iff_toInt_lt] at q5
  rw [Int32.le_iff_toInt_le] at d1
  rw [i_1] at d1
  rw [Int32.le_iff_toInt_le, Int32.le_iff_toInt_le, i_1, l1, l2]
  omega
theorem hd_88 {x : Int32} (h : 0 < x) : 0 ≤ x - 1 := by
  rw [Int32.lt_iff_toInt_lt, i_0] at h
  have := Int32.toInt_lt x
  rw [Int32.le_iff_toInt_le, i_0, i_subI (by rw [i_1]; omega) (by rw [i_1]; omega), i_1]
  omega
theorem M_heardOf {F : Nat} {σ : RS} {a : AA} {u : AU} {s p : Nat} {l : AL} {x y z : Int32} (hF : 20000 ≤ F) (h : RM σ a u) (hs : s < 7) (hp7 : p < 7) (hl2 : l.1 2 = Int32.ofNat p) (hk : (l.1 4 = 6 ∧ x = l.1 6 ∧ y = l.1 7 ∧ z = l.1 10) ∨ (l.1 4 = 8 ∧ x = l.1 7 ∧ y = l.1 12 ∧ z = l.1 10)) (h12 : l.1 4 = 8 → 0 ≤ l.1 12)
    (hup : aS a 52 s = 1) (hz : u.2 s) (hz7 : u.2 (7 + s)) (hmk : u.2 (14 + s)) (hr : aS a 73 s = 3) (hd : dRq a s) (hw : wN a < 2147483647) (hmx : (aS a 151 s).toInt < 2147483000) (hlow : 0 ≤ aS a 87 (7 * s + p)) (hp : pRoom a s)
    (hpc : pRoom (A_apply (aI (hd2 (hd1 a s l) s l) 75 s (aCommon (aS (hd2 (hd1 a s l) s l) 65 s) (fun p => aS (hd2 (hd1 a s l) s l) 87 (7 * s + p)) 7)) s) s) : WP (m_heardOf F σ (Int32.ofNat s) (l.1 2) (l.1 4) x y z) (fun τ => RM τ (A_heardOf a s l) u) := by
  have ec : (l.1 2).toNatClampNeg = p := by
    rw [hl2]
    exact i_cl (by omega)
  rw [A_heardOf_e]
  have fin : ∀ (τ : RS), RM τ (hd2 (hd1 a s l) s l) u → WP (m_heardOf_b357 F τ (Int32.ofNat s) (l.1 2) (Int32.ofNat (7 * s + p))) (fun τ => RM τ (hdT (hd2 (hd1 a s l) s l) s l) u) := by
    intro τ hτ
    have fr : AFr [92, 93, 91, 86, 87, 88, 89, 90] [] a (hd2 (hd1 a s l) s l) := AFr_w (AFr_t AFr_hd1 AFr_hd2) (by decide) (by decide)
    generalize hd2 (hd1 a s l) s l = c at hτ hpc fr
    unfold m_heardOf_b357 hdT
    dsimp only
    rw [ec]
    refine WP_call (M_count0 hF hτ hs ?_ hz hz7 hmk ?_ ?_ ?_ ?_ ?_) (fun p1 hp1 => ?_)
    · rw [fr.1 52 (by decide)]; exact hup
    · rw [fr.1 73 (by decide)]; exact hr
    · unfold dRq
      rw [fr.2.2.2.2.2.2.2.2.2.2.1 (by decide)]
      exact hd
    · rw [wN_fr fr (by decide)]; exact hw
    · rw [fr.1 151 (by decide)]; exact hmx
    · rintro b (rfl | rfl)
      · exact pRoom_fr fr (by decide) (by decide) (by decide) hp
      · exact hpc
    refine WP_call (M_answerReads (by omega) hp1 hs ?_) (fun p2 hp2 => ?_)
    · rw [AFr_count.1 151 (by decide), fr.1 151 (by decide)]
      exact hmx
    generalize A_answerReads (A_count c s) s = d at hp2
    refine WP_r7 hp2 (by decide) hs ?_
    refine WP_if c2_ne (fun q => ?_) (fun q => ?_)
    · rw [if_pos (Or.inl q)]
      exact WP_some hp2
    · have q := Classical.not_not.mp q
      rw [hl2]
      refine WP_eq (M_isPeer hp2 hs (by omega)) ?_
      cases hb : aPeer d s p with
      | false =>
        rw [if_pos (Or.inr rfl)]
        refine WP_if c0_ne (fun y => absurd rfl y) (fun _ => ?_)
        exact WP_some hp2
      | true =>
        rw [if_neg (show ¬ (¬ aS d 73 s = 3 ∨ true = false) from fun y => y.elim (fun z => z q) (fun z => nomatch z))]
        refine WP_if c0_ne (fun _ => ?_) (fun y => absurd (show ¬ (1 : Int32) = 0 by decide) y)
        refine WP_call (M_send (bt := false) (by omega) hp2 hs hp7 hz7 q) (fun p3 hp3 => ?_)
        generalize A_send d s p false = e at hp3
        refine WP_r7 hp3 (by decide) hs ?_
        refine WP_if c2_ne (fun q2 => ?_) (fun q2 => ?_)
        · rw [if_neg (fun y => q2 y.1)]
          exact WP_some hp3
        · refine WP_r49 hp3 (by decide) (by omega) ?_
          refine WP_r7 hp3 (by decide) hs ?_
          refine WP_if c2_ne (fun q3 => ?_) (fun q3 => ?_)
          · rw [if_neg (fun y => q3 y.2)]
            exact WP_some hp3
          · rw [if_pos ⟨Classical.not_not.mp q2, Classical.not_not.mp q3⟩]
            refine WP_call (M_tell (by omega) hp3 hs ?_ (Or.inr (Or.inr rfl))) (fun p4 hp4 => WP_some hp4)
            exact wfS hp7
  unfold m_heardOf m_heardOf_b0
  rw [show (7 : Int32) * Int32.ofNat s + l.1 2 = Int32.ofNat (7 * s + p) by rw [hl2]; exact i_ma]
  rw [RM_0 (f := 1) h (by decide)]
  refine WP_w49 h (by decide) (by decide) (by omega) (fun σ1 h1 => ?_)
  refine WP_w49 h1 (by decide) (by decide) (by omega) (fun σ2 h2 => ?_)
  have eh1 : hd1 a s l = aI (aI (aI a 92 (7 * s + p) (aNow a)) 93 (7 * s + p) 1) 91 (7 * s + p) (aMax (aS a 91 (7 * s + p)) (l.1 10)) := by
    unfold hd1
    rw [ec]
  have fr := @AFr_hd1 a s l
  have b48 : ∀ (τ : RS), RM τ (hd1 a s l) u → WP (m_heardOf_b48 F τ (Int32.ofNat s) (l.1 2) (l.1 4) x y (Int32.ofNat (7 * s + p))) (fun τ => RM τ (hdT (hd2 (hd1 a s l) s l) s l) u) := by
    intro τ hτ
    have r3 : aS (hd1 a s l) 73 s = 3 := by rw [fr.1 73 (by decide)]; exact hr
    have low : 0 ≤ aS (hd1 a s l) 87 (7 * s + p) := by rw [fr.1 87 (by decide)]; exact hlow
    generalize hd1 a s l = c at hτ r3 low fin
    have ld := hτ.2.2.2.2.2.2.2.2.2.2.2.2.2.2.2.2.2.2.2.2.2.2.2 s hs hz7 r3 p hp7
    obtain ⟨d1, d2, d3, d4, d5, d6⟩ := ld
    have wl := RM_wl hτ hs
    obtain ⟨w1, w2, w3, w4⟩ := id wl
    unfold hd2 at fin ⊢
    dsimp only at fin ⊢
    rw [ec] at fin ⊢
    unfold m_heardOf_b48
    rcases hk with ⟨k4, rfl, rfl, rfl⟩ | ⟨k4, rfl, rfl, rfl⟩
    · rw [if_neg (show ¬ l.1 4 = 8 by rw [k4]; decide)] at fin ⊢
      rw [k4]
      refine WP_if c2_ne (fun _ => ?_) (fun y => absurd (show ¬ (6 : Int32) = 8 by decide) y)
      refine WP_if c2_ne (fun q => ?_) (fun q => ?_)
      · rw [if_neg q] at fin ⊢
        refine WP_wld hτ hs hp7 (Or.inr (Or.inr (Or.inl rfl))) (fun _ _ _ => ⟨fun y => absurd y (by decide), fun y => absurd y (by decide), fun y => absurd y (by decide), fun _ => by decide⟩) (fun σ3 h3 => ?_)
        refine WP_w49 h3 (by decide) (by decide) (by omega) (fun σ4 h4 => ?_)
        refine WP_r49 h4 (by decide) (by omega) ?_
        have e87 : aS (aI (aI c 88 (7 * s + p) 0) 89 (7 * s + p) (1 &&& 1)) 87 (7 * s + p) = aS c 87 (7 * s + p) := rfl
        rw [e87]
        have b322 : ∀ v, v = aMax (l.1 7) (aS c 87 (7 * s + p) + 1) → WP (m_heardOf_b322 F σ4 v (Int32.ofNat s) (l.1 2) (Int32.ofNat (7 * s + p))) (fun τ => RM τ (hdT (aI (aI (aI c 88 (7 * s + p) 0) 89 (7 * s + p) 1) 86 (7 * s + p) (aMin (aMax (l.1 7) (aS c 87 (7 * s + p) + 1)) (aLast c s + 1))) s l) u) := by
          intro v hv
          have v1 : 1 ≤ v := hd_v1 wl hv low d3
          rw [← hv] at fin ⊢
          unfold m_heardOf_b322 m_heardOf_b356
          refine WP_r7 h4 (by decide) hs ?_
          refine WP_if c2_le (fun q3 => ?_) (fun q3 => ?_)
          · have q3 : v ≤ aLast c s + 1 := q3
            rw [show aMin v (aLast c s + 1) = v from if_pos q3] at fin ⊢
            exact WP_wld h4 hs hp7 (Or.inl rfl) (fun _ _ _ => ⟨fun _ => ⟨v1, by unfold aLast at q3 ⊢; rw [aS_If (by decide), aS_If (by decide)]; exact q3⟩, fun y => absurd y (by decide), fun y => absurd y (by decide), fun y => absurd y (by decide)⟩) (fun σ5 h5 => fin σ5 h5)
          · have q3 : ¬ v ≤ aLast c s + 1 := q3
            rw [show aMin v (aLast c s + 1) = aLast c s + 1 from if_neg q3] at fin ⊢
            refine WP_r7 h4 (by decide) hs ?_
            rw [show aS (aI (aI c 88 (7 * s + p) 0) 89 (7 * s + p) (1 &&& 1)) 56 s = aLast c s from by ((try unfold aLast); (try unfold aBase); (repeat rw [aS_If (by decide)]); (try exact rfl))]
            exact WP_wld h4 hs hp7 (Or.inl rfl) (fun _ _ _ => ⟨fun _ => ⟨hd_m1 wl, by unfold aLast; rw [aS_If (by decide), aS_If (by decide)]; exact Int32.le_refl _⟩, fun y => absurd y (by decide), fun y => absurd y (by decide), fun y => absurd y (by decide)⟩) (fun σ5 h5 => fin σ5 h5)
        refine WP_if c2_ge (fun q2 => ?_) (fun q2 => ?_)
        · exact b322 _ (aMax_ge q2).symm
        · refine WP_r49 h4 (by decide) (by omega) ?_
          rw [e87]
          exact b322 _ (aMax_lt q2).symm
      · have q := Classical.not_not.mp q
        rw [if_pos q] at fin ⊢
        have b198 : ∀ v, v = aMin (l.1 7) (aLast c s) → WP (m_heardOf_b198 F τ v (Int32.ofNat s) (l.1 2) (Int32.ofNat (7 * s + p))) (fun τ => RM τ (hdT (aI (aI (aI (aI c 87 (7 * s + p) (aMax (aS c 87 (7 * s + p)) (aMin (l.1 7) (aLast c s)))) 89 (7 * s + p) 0) 88 (7 * s + p) (if 0 < aS c 88 (7 * s + p) then aS c 88 (7 * s + p) - 1 else aS c 88 (7 * s + p))) 86 (7 * s + p) (aMax (aS c 86 (7 * s + p)) (aMin (l.1 7) (aLast c s) + 1))) s l) u) := by
          intro v hv
          have vl : v ≤ aLast c s := by
            rw [hv]
            unfold aMin
            split
            · assumption
            · exact Int32.le_refl _
          rw [← hv] at fin ⊢
          unfold m_heardOf_b198
          refine WP_max (y := fun _ => none) hτ hs hp7 87 (Or.inr rfl) (fun _ _ _ => ⟨fun y => absurd y (by decide), fun _ => vl, fun y => absurd y (by decide), fun y => absurd y (by decide)⟩) (fun σ3 h3 => ?_)
          unfold m_heardOf_b221
          refine WP_w49 h3 (by decide) (by decide) (by omega) (fun σ4 h4 => ?_)
          have g : ∀ (τ5 : RS), RM τ5 (aI (aI (aI c 87 (7 * s + p) (aMax (aS c 87 (7 * s + p)) v)) 89 (7 * s + p) 0) 88 (7 * s + p) (if 0 < aS c 88 (7 * s + p) then aS c 88 (7 * s + p) - 1 else aS c 88 (7 * s + p))) u → WP (m_heardOf_b250 F τ5 (Int32.ofNat s) (l.1 2) (Int32.ofNat (7 * s + p)) v) (fun τ => RM τ (hdT (aI (aI (aI (aI c 87 (7 * s + p) (aMax (aS c 87 (7 * s + p)) v)) 89 (7 * s + p) 0) 88 (7 * s + p) (if 0 < aS c 88 (7 * s + p) then aS c 88 (7 * s + p) - 1 else aS c 88 (7 * s + p))) 86 (7 * s + p) (aMax (aS c 86 (7 * s + p)) (v + 1))) s l) u) := by
            intro τ5 h5
            unfold m_heardOf_b250 m_heardOf_b275
            refine WP_r49 h5 (by decide) (by omega) ?_
            rw [show aS (aI (aI (aI c 87 (7 * s + p) (aMax (aS c 87 (7 * s + p)) v)) 89 (7 * s + p) 0) 88 (7 * s + p) (if 0 < aS c 88 (7 * s + p) then aS c 88 (7 * s + p) - 1 else aS c 88 (7 * s + p))) 86 (7 * s + p) = aS c 86 (7 * s + p) from by ((try unfold aLast); (try unfold aBase); (repeat rw [aS_If (by decide)]); (try exact rfl))]
            refine WP_if c2_ge (fun q5 => ?_) (fun q5 => ?_)
            · rw [aMax_ge q5, aI_same (a := aI (aI (aI c 87 (7 * s + p) (aMax (aS c 87 (7 * s + p)) v)) 89 (7 * s + p) 0) 88 (7 * s + p) (if 0 < aS c 88 (7 * s + p) then aS c 88 (7 * s + p) - 1 else aS c 88 (7 * s + p))) (f := 86) (i := 7 * s + p) (v := aS c 86 (7 * s + p)) (by ((try unfold aLast); (try unfold aBase); (repeat rw [aS_If (by decide)]); (try exact rfl)))] at fin ⊢
              exact fin τ5 h5
            · rw [aMax_lt q5] at fin ⊢
              refine WP_wld h5 hs hp7 (Or.inl rfl) (fun _ _ _ => ⟨fun _ => ?_, fun y => absurd y (by decide), fun y => absurd y (by decide), fun y => absurd y (by decide)⟩) (fun σ6 h6 => fin σ6 h6)
              have hq := hd_v2 wl vl d1 q5
              unfold aLast at hq ⊢
              rw [aS_If (by decide), aS_If (by decide), aS_If (by decide)]
              exact hq
          refine WP_r49 h4 (by decide) (by omega) ?_
          rw [show aS (aI (aI c 87 (7 * s + p) (aMax (aS c 87 (7 * s + p)) v)) 89 (7 * s + p) (0 &&& 1)) 88 (7 * s + p) = aS c 88 (7 * s + p) from by ((try unfold aLast); (try unfold aBase); (repeat rw [aS_If (by decide)]); (try exact rfl))]
          refine WP_if c0_le (fun q4 => ?_) (fun q4 => ?_)
          · rw [if_neg (i_nlt.mpr q4)] at g ⊢
            refine g σ4 ?_
            rw [aI_same (a := aI (aI c 87 (7 * s + p) (aMax (aS c 87 (7 * s + p)) v)) 89 (7 * s + p) 0) (f := 88) (i := 7 * s + p) (v := aS c 88 (7 * s + p)) (by ((try unfold aLast); (try unfold aBase); (repeat rw [aS_If (by decide)]); (try exact rfl)))]
            exact h4
          · rw [if_pos (i_nle.mp q4)] at g ⊢
            refine WP_r49 h4 (by decide) (by omega) ?_
            rw [show aS (aI (aI c 87 (7 * s + p) (aMax (aS c 87 (7 * s + p)) v)) 89 (7 * s + p) (0 &&& 1)) 88 (7 * s + p) = aS c 88 (7 * s + p) from by ((try unfold aLast); (try unfold aBase); (repeat rw [aS_If (by decide)]); (try exact rfl))]
            refine WP_wld h4 hs hp7 (Or.inr (Or.inr (Or.inl rfl))) (fun _ _ _ => ⟨fun y => absurd y (by decide), fun y => absurd y (by decide), fun y => absurd y (by decide), fun _ => ?_⟩) (fun σ5 h5 => g σ5 h5)
            exact hd_88 (i_nle.mp q4)
        refine WP_r7 hτ (by decide) hs ?_
        refine WP_if c2_ge (fun q2 => ?_) (fun q2 => ?_)
        · refine WP_r7 hτ (by decide) hs ?_
          refine b198 _ ?_
          unfold aMin
          by_cases q3 : l.1 7 ≤ aLast c s
          · rw [if_pos q3]
            exact Int32.le_antisymm q2 q3
          · rw [if_neg q3]
            rfl
        · refine b198 _ ?_
          unfold aMin
          rw [if_pos]
          have q2 : ¬ aLast c s ≤ l.1 7 := q2
          rw [Int32.le_iff_toInt_le] at q2 ⊢
          omega
    · rw [if_pos k4] at fin ⊢
      rw [k4]
      refine WP_if c2_ne (fun y => absurd rfl y) (fun _ => ?_)
      refine WP_wld hτ hs hp7 (Or.inr (Or.inr (Or.inl rfl))) (fun _ _ _ => ⟨fun y => absurd y (by decide), fun y => absurd y (by decide), fun y => absurd y (by decide), fun _ => by decide⟩) (fun σ3 h3 => ?_)
      refine WP_r7 h3 (by decide) hs ?_
      rw [show aS (aI c 88 (7 * s + p) 0) 55 s = aBase c s from by ((try unfold aLast); (try unfold aBase); (repeat rw [aS_If (by decide)]); (try exact rfl))]
      refine WP_if c2_eq (fun q => ?_) (fun q => ?_)
      · rw [if_neg (fun y => y q)] at fin ⊢
        refine WP_r7 h3 (by decide) hs ?_
        rw [show aS (aI c 88 (7 * s + p) 0) 67 s = aS c 67 s from by ((try unfold aLast); (try unfold aBase); (repeat rw [aS_If (by decide)]); (try exact rfl))]
        refine WP_if c2_lt (fun q2 => ?_) (fun q2 => ?_)
        · rw [if_neg (Int32.not_le.mpr q2)] at fin ⊢
          refine WP_wld h3 hs hp7 (Or.inr (Or.inr (Or.inr rfl))) (fun _ _ _ => ⟨fun y => absurd y (by decide), fun y => absurd y (by decide), fun _ => ⟨h12 k4, ?_⟩, fun y => absurd y (by decide)⟩) (fun σ4 h4 => fin σ4 h4)
          rw [aS_If (by decide)]
          rw [Int32.lt_iff_toInt_lt] at q2
          exact Int32.le_iff_toInt_le.mpr (by omega)
        · rw [if_pos (Int32.not_lt.mp q2)] at fin ⊢
          have e55 : ∀ (b : AA), b = aI c 88 (7 * s + p) 0 → aS b 55 s = aBase c s := fun b hb => by rw [hb]; rfl
          have g : ∀ (τ5 : RS), RM τ5 (aI (aI c 88 (7 * s + p) 0) 87 (7 * s + p) (aMax (aS c 87 (7 * s + p)) (aBase c s))) u → WP (m_heardOf_b124 F τ5 (Int32.ofNat s) (l.1 2) (Int32.ofNat (7 * s + p))) (fun τ => RM τ (hdT (aI (aI (aI (aI (aI c 88 (7 * s + p) 0) 87 (7 * s + p) (aMax (aS c 87 (7 * s + p)) (aBase c s))) 86 (7 * s + p) (aBase c s + 1)) 89 (7 * s + p) 1) 90 (7 * s + p) 0) s l) u) := by
            intro τ5 h5
            unfold m_heardOf_b124
            refine WP_r7 h5 (by decide) hs ?_
            rw [show aS (aI (aI c 88 (7 * s + p) 0) 87 (7 * s + p) (aMax (aS c 87 (7 * s + p)) (aBase c s))) 55 s = aBase c s from by ((try unfold aLast); (try unfold aBase); (repeat rw [aS_If (by decide)]); (try exact rfl))]
            refine WP_wld h5 hs hp7 (Or.inl rfl) (fun _ _ _ => ⟨fun _ => ?_, fun y => absurd y (by decide), fun y => absurd y (by decide), fun y => absurd y (by decide)⟩) (fun σ6 h6 => ?_)
            · have hq := hd_b1 wl
              unfold aLast at hq ⊢
              rw [aS_If (by decide), aS_If (by decide)]
              exact hq
            refine WP_w49 h6 (by decide) (by decide) (by omega) (fun σ7 h7 => ?_)
            refine WP_wld h7 hs hp7 (Or.inr (Or.inr (Or.inr rfl))) (fun _ _ _ => ⟨fun y => absurd y (by decide), fun y => absurd y (by decide), fun _ => ⟨by decide, ?_⟩, fun y => absurd y (by decide)⟩) (fun σ8 h8 => fin σ8 h8)
            rw [aS_If (by decide), aS_If (by decide), aS_If (by decide), aS_If (by decide)]
            exact RM_67 hτ hs
          refine WP_r49 h3 (by decide) (by omega) ?_
          rw [show aS (aI c 88 (7 * s + p) 0) 87 (7 * s + p) = aS c 87 (7 * s + p) from by ((try unfold aLast); (try unfold aBase); (repeat rw [aS_If (by decide)]); (try exact rfl))]
          refine WP_r7 h3 (by decide) hs ?_
          rw [show aS (aI c 88 (7 * s + p) 0) 55 s = aBase c s from by ((try unfold aLast); (try unfold aBase); (repeat rw [aS_If (by decide)]); (try exact rfl))]
          refine WP_if c2_ge (fun q3 => ?_) (fun q3 => ?_)
          · rw [aMax_ge q3] at g fin ⊢
            refine g σ3 ?_
            rw [aI_same (a := aI c 88 (7 * s + p) 0) (f := 87) (i := 7 * s + p) (v := aS c 87 (7 * s + p)) (by ((try unfold aLast); (try unfold aBase); (repeat rw [aS_If (by decide)]); (try exact rfl)))]
            exact h3
          · rw [aMax_lt q3] at g fin ⊢
            refine WP_r7 h3 (by decide) hs ?_
            rw [show aS (aI c 88 (7 * s + p) 0) 55 s = aBase c s from by ((try unfold aLast); (try unfold aBase); (repeat rw [aS_If (by decide)]); (try exact rfl))]
            refine WP_wld h3 hs hp7 (Or.inr (Or.inl rfl)) (fun _ _ _ => ⟨fun y => absurd y (by decide), fun _ => ?_, fun y => absurd y (by decide), fun y => absurd y (by decide)⟩) (fun σ4 h4 => g σ4 h4)
            unfold aLast
            rw [aS_If (by decide)]
            show aBase c s ≤ aLast c s
            exact Int32.le_iff_toInt_le.mpr (by omega)
      · rw [if_pos q] at fin ⊢
        refine WP_wld h3 hs hp7 (Or.inr (Or.inr (Or.inr rfl))) (fun _ _ _ => ⟨fun y => absurd y (by decide), fun y => absurd y (by decide), fun _ => ⟨by decide, ?_⟩, fun y => absurd y (by decide)⟩) (fun σ4 h4 => fin σ4 h4)
        rw [aS_If (by decide)]
        exact RM_67 hτ hs
  have hz' : z = l.1 10 := by rcases hk with ⟨_, _, _, k⟩ | ⟨_, _, _, k⟩ <;> exact k
  refine WP_r49 h2 (by decide) (by omega) ?_
  rw [show aS (aI (aI a 92 (7 * s + p) (aS a 1 0)) 93 (7 * s + p) (1 &&& 1)) 91 (7 * s + p) = aS a 91 (7 * s + p) from rfl, hz']
  refine WP_if c2_le (fun q => ?_) (fun q => ?_)
  · have : RM σ2 (hd1 a s l) u := by
      rw [eh1, aMax_ge q, aI_same (a := aI (aI a 92 (7 * s + p) (aNow a)) 93 (7 * s + p) 1) (f := 91) (i := 7 * s + p) (v := aS a 91 (7 * s + p)) (by ((try unfold aLast); (try unfold aBase); (repeat rw [aS_If (by decide)]); (try exact rfl)))]
      exact h2
    exact b48 σ2 this
  · refine WP_w49 h2 (by decide) (by decide) (by omega) (fun σ3 h3 => ?_)
    refine b48 σ3 ?_
    rw [eh1, aMax_lt q]
    exact h3
