/-! the face's start -/
theorem AFr_tidy {a : AA} {s : Nat} {c : List Nat} : ∀ l, AFr [43] [6] a (aTidy a s c l)
  | [] => AFr_w AFr_r (by decide) (by decide)
  | f :: r => by
    unfold aTidy
    by_cases q : f ∈ c
    · rw [if_pos q]
      exact AFr_w (AFr_t (AFr_tidy r) AFr_put) (by decide) (by decide)
    · rw [if_neg q]
      exact AFr_w (AFr_t (AFr_tidy r) (AFr_t AFr_put AFr_I)) (by decide) (by decide)
theorem AFr_rA3 {a : AA} {s : Nat} : AFr [45, 47, 53, 54, 55, 57, 58, 67] [4] a (recA3 a s) := by
  unfold recA3
  exact AFr_w (AFr_t (AFr_t (AFr_t (AFr_t (AFr_t (AFr_t (AFr_t (AFr_t AFr_I AFr_I) AFr_I) AFr_I) AFr_I) AFr_I) AFr_I) AFr_I) AFr_sh) (by decide) (by decide)
theorem AFr_rA4 {a : AA} {s : Nat} : AFr [43, 56] [6, 8, 2] a (recA4 a s) := by
  unfold recA4
  exact AFr_w (AFr_t (AFr_t (AFr_t (AFr_tidy aSegs) AFr_ch) AFr_lg) AFr_I) (by decide) (by decide)
theorem AFr_rE {a : AA} {s : Nat} : AFr [53, 54, 150, 43, 45, 46, 71] [6, 7] a (recE a s) := by
  unfold recE
  by_cases q : aS a 53 s < aLastTerm a s
  · rw [if_pos q]
    exact AFr_w (AFr_t (AFr_t (AFr_t AFr_I AFr_I) AFr_laySlot) AFr_syncAll) (by decide) (by decide)
  · rw [if_neg q]
    exact AFr_w AFr_syncAll (by decide) (by decide)
theorem AFr_up {a : AA} {s : Nat} : AFr [45, 47, 53, 54, 55, 57, 58, 67, 43, 56, 150, 46, 71, 64, 65] [4, 6, 8, 2, 7] a (aFindCode (recE (recA4 (recA3 a s) s) s) s) := AFr_w (AFr_t (AFr_t (AFr_t AFr_rA3 AFr_rA4) AFr_rE) AFr_findCode) (by decide) (by decide)
def FWs (m : Option (Int32 × RS)) (r : AR) (u : AU) : Prop := WP m (fun p => ∃ u' : AU, u'.1.1 = u.1.1 ∧ u'.2 = u.2 ∧ RM p.2 (aI r.1 0 0 (Int32.ofNat r.2.1)) u' ∧ (r.2.1 = 0 → p.1 = r.2.2))
theorem FWs_of {m : Option (Int32 × RS)} {r : AR} {u : AU} (h : FW m r u) : FWs m r u := WP_mono h (fun _ hp => ⟨u, rfl, rfl, hp.1, hp.2⟩)
theorem F_start {F : Nat} {σ : RS} {a : AA} {u : AU} {s : Int32} (hF : 14000 ≤ F) (h : RM σ a u) (hup : ∀ p, p < 7 → aS a 52 p = 0 → aRq a p = [] ∧ ∃ b, upOK (aI a 0 0 0) p b) (hwc : ∀ p, p < 7 → aS a 52 p = 0 → u.2 p → WCh (stA (A_recover (aI (aI a 0 0 0) 52 p 1) p) p) p) : FWs (m_start F σ s) (A_start (aI a 0 0 0) s) u := by
  unfold A_start m_start m_start_b0 m_start_b18
  dsimp only
  by_cases q1 : aInR s 0 6 = true
  · rw [q1, Bool.not_true, if_neg (show ¬ false = true by decide)]
    refine WP_in (lo' := 0) (hi' := 6) (by decide) (by decide) (fun _ => ?_) (fun y => by rw [q1] at y; exact absurd y (by decide))
    refine WP_if c0_eq (fun y => absurd (show (1 : Int32) = 0 from y) (by decide)) (fun _ => ?_)
    refine WP_th h (fun τ hτ e0 => ?_)
    rw [e0]
    refine WP_if c0_gt (fun y => absurd y (by decide)) (fun _ => ?_)
    obtain ⟨p, e1, hp6⟩ := in_nat2 (hi := 6) (by omega) q1
    have hp7 : p < 7 := by omega
    rw [e1, i_cl (by omega)]
    have z0 : aS (aI a 0 0 0) 0 0 = 0 := rfl
    have hup2 : aS (aI a 0 0 0) 52 p = 0 → aRq (aI a 0 0 0) p = [] ∧ ∃ b, upOK (aI a 0 0 0) p b := hup p hp7
    have hwc2 : aS (aI a 0 0 0) 52 p = 0 → u.2 p → WCh (stA (A_recover (aI (aI a 0 0 0) 52 p 1) p) p) p := hwc p hp7
    generalize aI a 0 0 0 = b at hτ z0 hup2 hwc2
    refine WP_r7 hτ (by decide) hp7 ?_
    refine WP_if c0_eq (fun q => ?_) (fun q => ?_)
    · rw [if_neg (fun y => y q)]
      obtain ⟨hq, bb, ho⟩ := hup2 q
      have hwc3 := hwc2 q
      refine WP_st rfl 7 (by decide +kernel) hp7 ?_
      rw [show (1 : Int32) &&& 1 = 1 from rfl]
      have h3 := RM_off (RM_off (RM_off hτ p) (14 + p)) (7 + p)
      have ee : A_recover (aI b 52 p 1) p = aFindCode (recE (recA4 (recA3 (aI b 52 p 1) p) p) p) p := by
        refine A_recover_e ?_
        rw [AFr_rA4.1 46 (by decide), AFr_rA3.1 46 (by decide)]
        exact ho.2.1
      have fu : AFr [45, 47, 53, 54, 55, 57, 58, 67, 43, 56, 150, 46, 71, 64, 65] [4, 6, 8, 2, 7] (aI b 52 p 1) (A_recover (aI b 52 p 1) p) := by
        rw [ee]
        exact AFr_up
      refine WP_call (M_recover hF h3 hp7 (fun z => z.1.1.2 rfl) (fun z => z.1.2 rfl) (fun z => z.2 rfl) ho) (fun p10 h10 => ?_)
      have hq2 : aRq (A_recover (aI b 52 p 1) p) p = [] := by
        rw [fu.2.2.2.2.2.2.2.2.2.2.1 (by decide)]
        exact hq
      have h00 : aS (A_recover (aI b 52 p 1) p) 0 0 = 0 := by
        rw [fu.1 0 (by decide)]
        exact z0
      show FWs _ (A_drawAlarm (stA (A_recover (aI b 52 p 1) p) p) p, 0, 1) u
      generalize A_recover (aI b 52 p 1) p = A1 at h10 hq2 h00 hwc3 ⊢
      refine M_st (by omega) h10 hp7 (fun z => z.1.2 rfl) hq2 (fun τ5 h5 => ?_)
      have wl := RM_wl h10 hp7
      have s55 : aS (stA A1 p) 55 p = aS A1 55 p := stA_f.trans rfl
      have s56 : aS (stA A1 p) 56 p = aS A1 56 p := stA_f.trans rfl
      have s75 : aS (stA A1 p) 75 p = aS A1 55 p := stA_f.trans rfl
      have s76 : aS (stA A1 p) 76 p = aS A1 55 p := stA_f.trans rfl
      have s77 : aS (stA A1 p) 77 p = aS A1 56 p := stA_f.trans rfl
      have s73 : aS (stA A1 p) 73 p = 0 := stA_f.trans rfl
      have hbl : aS A1 55 p ≤ aS A1 56 p := by
        obtain ⟨w1, w2, w3, w4⟩ := wl
        unfold aLast aBase at w2
        rw [Int32.le_iff_toInt_le]
        omega
      have h6 := RM_on3 (u := ((u.1.1, fun t => if t = p then (aS A1 151 p).toNatClampNeg else u.1.2 t), u.2)) h5 hp7 (fun y _ => hwc3 y) (fun _ => by
        unfold WMk aLast aBase
        rw [s55, s56, s75, s76, s77]
        exact ⟨Int32.le_refl _, Int32.le_refl _, hbl, Int32.le_refl _⟩) (fun _ y => by
        rw [s73] at y
        exact absurd y (by decide))
      refine WP_call (M_drawAlarm h6 hp7) (fun p7 h7 => ?_)
      rw [if_pos (Or.inr rfl)]
      refine WP_some ⟨((u.1.1, fun t => if t = p then (aS A1 151 p).toNatClampNeg else u.1.2 t), u.2), rfl, rfl, ?_, fun _ => rfl⟩
      have r0 : aS (A_drawAlarm (stA A1 p) p) 0 0 = 0 := by
        rw [AFr_drawAlarm.1 0 (by decide)]
        have h0 : aS (stA A1 p) 0 0 = aS A1 0 0 := by
          show (setI _ _ _ _).1 0 0 = _
          rw [setI_f (by decide)]
          rfl
        rw [h0]
        exact h00
      show RM p7 (aI (A_drawAlarm (stA A1 p) p) 0 0 0) _
      rw [aI_same r0]
      exact h7
    · rw [if_pos q]
      unfold m_start_b37
      refine FWs_of (FW_ok z0 ?_)
      rw [if_pos (Or.inl rfl)]
      exact WP_some ⟨hτ, rfl⟩
  · have q1 := b_false q1
    rw [q1, Bool.not_false, if_pos (show true = true from rfl)]
    refine FWs_of (FW_no (by decide) (WP_in (lo' := 0) (hi' := 6) (by decide) (by decide) (fun y => by rw [q1] at y; exact absurd y (by decide)) (fun _ => ?_)))
    refine WP_if c0_eq (fun _ => ?_) (fun y => absurd rfl y)
    refine WP_th h (fun τ hτ e0 => ?_)
    rw [e0]
    refine WP_if c0_gt (fun _ => ?_) (fun y => absurd (by decide) y)
    unfold m_start_b37
    rw [if_pos (Or.inl rfl)]
    exact WP_some hτ
