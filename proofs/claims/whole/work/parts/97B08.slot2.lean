/-! laySlot, writeSlot -/
def aSlotF (a : AA) (s : Nat) : AF := aF 1 32 (aS a 150 s + 1) (aS a 53 s) (aS a 54 s) [] ([], [])
theorem M_lay31 {σ : RS} {a : AA} {u : AU} {s f : Nat} (h : RM σ a u) (hs : s < 7) (hf : f < 2) (hw : wN a < 2147483647) : WP (m_laySlot_b31 σ (Int32.ofNat s) (Int32.ofNat f)) (fun σ' => RM σ' (aI (aI (aI (aPut (aAdd a 150 s 1) s f (aSlotF a s)) 43 (rFx s f) 0) 45 s (Int32.ofNat f)) 46 s 1) u) := by
  unfold m_laySlot_b31
  refine WP_eq m_fileOf_n ?_
  refine WP_eq (m_cut_n hs (by omega)) ?_
  have z := (h.2.2.2.2.2.1 s hs f (by omega)).1
  obtain ⟨hS0, e0⟩ := RFl_S z
  have ez : aMin (σ.1 37 (2 * (16 * s + f))) 0 = 0 := by
    rw [show σ.1 37 (2 * (16 * s + f)) = _ from e0]
    generalize (σ.1 37 (2 * rFx s f)).toNatClampNeg = n at hS0
    unfold aMin
    by_cases q : Int32.ofNat n ≤ 0
    · rw [if_pos q]
      rw [Int32.le_iff_toInt_le, Int32.toInt_ofNat_of_lt (by omega), i_0] at q
      have : n = 0 := by omega
      rw [this]
      rfl
    · rw [if_neg q]
  have e43 : aMin (σ.1 43 (16 * s + f)) 0 = 0 := by
    rw [RM_43 h (by omega)]
    have := ((RM_loc (u := u) h).2.2.1 s hs f (by omega)).1
    unfold aMin
    by_cases q : aS a 43 (16 * s + f) ≤ 0
    · rw [if_pos q]
      rw [Int32.le_iff_toInt_le, i_0] at q this
      rw [← Int32.toInt_inj, i_0]
      omega
    · rw [if_neg q]
  rw [ez, e43]
  have e53 := RM_7 (f := 53) h (by decide) hs
  have e54 := RM_7 (f := 54) h (by decide) hs
  have hk : 2 * (16 * s + f) < 224 := by omega
  refine WP_st rfl 224 (by decide +kernel) hk ?_
  refine WP_st rfl 224 (by decide +kernel) hk ?_
  refine WP_ld rfl 7 (by decide +kernel) hs ?_
  refine WP_st rfl 224 (by decide +kernel) hk ?_
  refine WP_ld rfl 7 (by decide +kernel) hs ?_
  refine WP_st rfl 224 (by decide +kernel) hk ?_
  refine WP_st rfl 224 (by decide +kernel) hk ?_
  have e48 : (setI (setI (setI σ 44 (16 * s + f) 1) 37 (2 * (16 * s + f)) 0) 43 (16 * s + f) 0).1 48 0 = σ.1 48 0 := by
    rw [setI_f (by decide), setI_f (by decide), setI_f (by decide)]
  rw [e48]
  simp only [setI_f (show (53 : Nat) ≠ 37 by decide), setI_f (show (53 : Nat) ≠ 38 by decide), setI_f (show (53 : Nat) ≠ 48 by decide), setI_f (show (53 : Nat) ≠ 43 by decide), setI_f (show (53 : Nat) ≠ 44 by decide),
    setI_f (show (54 : Nat) ≠ 37 by decide), setI_f (show (54 : Nat) ≠ 38 by decide), setI_f (show (54 : Nat) ≠ 39 by decide), setI_f (show (54 : Nat) ≠ 48 by decide), setI_f (show (54 : Nat) ≠ 43 by decide), setI_f (show (54 : Nat) ≠ 44 by decide),
    setI_f (show (48 : Nat) ≠ 37 by decide), setI_f (show (48 : Nat) ≠ 38 by decide), setI_f (show (48 : Nat) ≠ 39 by decide), setI_f (show (48 : Nat) ≠ 40 by decide), setI_e, e53, e54]
  have hS : SLd (2 * rFx s f) (setI σ 48 0 (σ.1 48 0 + 1)) (setI (setI (setI (setI (setI (setI (setI (setI (setI σ 44 (16 * s + f) 1) 37 (2 * (16 * s + f)) 0) 43 (16 * s + f) 0) 48 0 (σ.1 48 0 + 1)) 38 (2 * (16 * s + f)) (1 &&& 1)) 37 (2 * (16 * s + f)) 32) 39 (2 * (16 * s + f)) (aS a 53 s)) 40 (2 * (16 * s + f)) (aS a 54 s)) 41 (2 * (16 * s + f)) (σ.1 48 0 + 1)) := by
    refine SLd_I (SLd_I (SLd_I (SLd_I (SLd_I (SLd_48 (SLd_I (SLd_I (SLd_I SLd_refl ?_) ?_) ?_)) ?_) ?_) ?_) ?_) ?_ <;> (unfold FOf rFx; omega)
  have v44 : (setI (setI (setI (setI (setI (setI (setI (setI (setI σ 44 (16 * s + f) 1) 37 (2 * (16 * s + f)) 0) 43 (16 * s + f) 0) 48 0 (σ.1 48 0 + 1)) 38 (2 * (16 * s + f)) (1 &&& 1)) 37 (2 * (16 * s + f)) 32) 39 (2 * (16 * s + f)) (aS a 53 s)) 40 (2 * (16 * s + f)) (aS a 54 s)) 41 (2 * (16 * s + f)) (σ.1 48 0 + 1)).1 44 (rFx s f) = 1 := by simp [setI, rFx]
  have v43 : (setI (setI (setI (setI (setI (setI (setI (setI (setI σ 44 (16 * s + f) 1) 37 (2 * (16 * s + f)) 0) 43 (16 * s + f) 0) 48 0 (σ.1 48 0 + 1)) 38 (2 * (16 * s + f)) (1 &&& 1)) 37 (2 * (16 * s + f)) 32) 39 (2 * (16 * s + f)) (aS a 53 s)) 40 (2 * (16 * s + f)) (aS a 54 s)) 41 (2 * (16 * s + f)) (σ.1 48 0 + 1)).1 43 (rFx s f) = 0 := by simp [setI, rFx]
  have v38 : (setI (setI (setI (setI (setI (setI (setI (setI (setI σ 44 (16 * s + f) 1) 37 (2 * (16 * s + f)) 0) 43 (16 * s + f) 0) 48 0 (σ.1 48 0 + 1)) 38 (2 * (16 * s + f)) (1 &&& 1)) 37 (2 * (16 * s + f)) 32) 39 (2 * (16 * s + f)) (aS a 53 s)) 40 (2 * (16 * s + f)) (aS a 54 s)) 41 (2 * (16 * s + f)) (σ.1 48 0 + 1)).1 38 (2 * rFx s f) = 1 := by simp [setI, rFx]
  have v37 : (setI (setI (setI (setI (setI (setI (setI (setI (setI σ 44 (16 * s + f) 1) 37 (2 * (16 * s + f)) 0) 43 (16 * s + f) 0) 48 0 (σ.1 48 0 + 1)) 38 (2 * (16 * s + f)) (1 &&& 1)) 37 (2 * (16 * s + f)) 32) 39 (2 * (16 * s + f)) (aS a 53 s)) 40 (2 * (16 * s + f)) (aS a 54 s)) 41 (2 * (16 * s + f)) (σ.1 48 0 + 1)).1 37 (2 * rFx s f) = 32 := by simp [setI, rFx]
  have v39 : (setI (setI (setI (setI (setI (setI (setI (setI (setI σ 44 (16 * s + f) 1) 37 (2 * (16 * s + f)) 0) 43 (16 * s + f) 0) 48 0 (σ.1 48 0 + 1)) 38 (2 * (16 * s + f)) (1 &&& 1)) 37 (2 * (16 * s + f)) 32) 39 (2 * (16 * s + f)) (aS a 53 s)) 40 (2 * (16 * s + f)) (aS a 54 s)) 41 (2 * (16 * s + f)) (σ.1 48 0 + 1)).1 39 (2 * rFx s f) = aS a 53 s := by simp [setI, rFx]
  have v40 : (setI (setI (setI (setI (setI (setI (setI (setI (setI σ 44 (16 * s + f) 1) 37 (2 * (16 * s + f)) 0) 43 (16 * s + f) 0) 48 0 (σ.1 48 0 + 1)) 38 (2 * (16 * s + f)) (1 &&& 1)) 37 (2 * (16 * s + f)) 32) 39 (2 * (16 * s + f)) (aS a 53 s)) 40 (2 * (16 * s + f)) (aS a 54 s)) 41 (2 * (16 * s + f)) (σ.1 48 0 + 1)).1 40 (2 * rFx s f) = aS a 54 s := by simp [setI, rFx]
  have v41 : (setI (setI (setI (setI (setI (setI (setI (setI (setI σ 44 (16 * s + f) 1) 37 (2 * (16 * s + f)) 0) 43 (16 * s + f) 0) 48 0 (σ.1 48 0 + 1)) 38 (2 * (16 * s + f)) (1 &&& 1)) 37 (2 * (16 * s + f)) 32) 39 (2 * (16 * s + f)) (aS a 53 s)) 40 (2 * (16 * s + f)) (aS a 54 s)) 41 (2 * (16 * s + f)) (σ.1 48 0 + 1)).1 41 (2 * rFx s f) = σ.1 48 0 + 1 := by simp [setI, rFx]
  generalize setI (setI (setI (setI (setI (setI (setI (setI (setI σ 44 (16 * s + f) 1) 37 (2 * (16 * s + f)) 0) 43 (16 * s + f) 0) 48 0 (σ.1 48 0 + 1)) 38 (2 * (16 * s + f)) (1 &&& 1)) 37 (2 * (16 * s + f)) 32) 39 (2 * (16 * s + f)) (aS a 53 s)) 40 (2 * (16 * s + f)) (aS a 54 s)) 41 (2 * (16 * s + f)) (σ.1 48 0 + 1) = τ at hS v44 v43 v38 v37 v39 v40 v41
  have hR : RFl (aAk a) τ (2 * rFx s f) f (aSlotF a s) := by
    refine ⟨v38, Or.inr rfl, v37, ⟨32, by omega, rfl, fun z => absurd (show (1 : Int32) = 0 from z) (by decide), fun z => absurd z (by omega), ?_⟩, ?_, fun _ _ => ⟨v39, v40⟩, fun z => absurd z (by omega)⟩
    · intro i v hi hv
      unfold fBy at hv
      rw [if_pos hf] at hv
      simp at hv
    · exact fun e he => absurd he List.not_mem_nil
  have hp := RM_putS h hs hf hw hS v44 hR rfl rfl v41 v43 (by show (0 : Int32) ≤ 32; decide)
  refine WP_st rfl 7 (by decide +kernel) hs ?_
  refine WP_st rfl 7 (by decide +kernel) hs ?_
  have hff : f = 0 ∨ f = 1 := by omega
  have h45 := RM_45 (s := s) (v := Int32.ofNat f) hp (by rcases hff with rfl | rfl <;> simp)
  refine WP_some (RM_46b h45 ?_)
  rw [aS_I, if_pos ⟨rfl, rfl⟩]
  rcases hff with rfl | rfl <;> simp
theorem aLaySlot_e {a : AA} {s f : Nat} (hf : f < 2) (e : (if aS a 46 s = 0 then (if aS a 45 s = 1 then 0 else 1) else aS a 45 s : Int32) = Int32.ofNat f) : aLaySlot a s = aI (aI (aI (aPut (aAdd a 150 s 1) s f (aSlotF a s)) 43 (rFx s f) 0) 45 s (Int32.ofNat f)) 46 s 1 := by
  unfold aLaySlot
  dsimp only
  rw [e, i_cl (by omega)]
  have : aS (aAdd a 150 s 1) 150 s = aS a 150 s + 1 := if_pos ⟨rfl, rfl⟩
  rw [this]
  rfl
theorem M_laySlot {σ : RS} {a : AA} {u : AU} {s : Nat} (h : RM σ a u) (hs : s < 7) (hw : wN a < 2147483647) : WP (m_laySlot σ (Int32.ofNat s)) (fun σ' => RM σ' (aLaySlot a s) u) := by
  unfold m_laySlot m_laySlot_b0
  have hl := (RM_loc (u := u) h).2.2.2.2 s hs
  refine WP_r7 h (by decide) hs ?_
  have b20 : aS a 46 s = 0 → WP (m_laySlot_b20 σ (Int32.ofNat s) (aS a 45 s)) (fun σ' => RM σ' (aLaySlot a s) u) := by
    intro q
    unfold m_laySlot_b20 m_laySlot_b30
    refine WP_if c2_ne (fun q2 => ?_) (fun q2 => ?_)
    · rw [aLaySlot_e (f := 1) (by omega) (by rw [if_pos q, if_neg q2]; rfl)]
      exact M_lay31 (f := 1) h hs (by omega) hw
    · rw [aLaySlot_e (f := 0) (by omega) (by rw [if_pos q, if_pos (Classical.not_not.mp q2)]; rfl)]
      exact M_lay31 (f := 0) h hs (by omega) hw
  refine WP_if c0_lt (fun q => ?_) (fun q => ?_)
  · refine b20 ?_
    rcases hl.2 with z | z | z
    · exact z
    · rw [z] at q
      exact absurd q (by decide)
    · rw [z] at q
      exact absurd q (by decide)
  · refine WP_r7 h (by decide) hs ?_
    refine WP_if c0_ne (fun q2 => ?_) (fun q2 => b20 (Classical.not_not.mp q2))
    rcases hl.2 with z | z | z
    · exact absurd z q2
    · rw [aLaySlot_e (f := 0) (by omega) (by rw [if_neg q2, z]; rfl), z]
      exact M_lay31 (f := 0) h hs (by omega) hw
    · rw [aLaySlot_e (f := 1) (by omega) (by rw [if_neg q2, z]; rfl), z]
      exact M_lay31 (f := 1) h hs (by omega) hw
theorem M_writeSlot {σ : RS} {a : AA} {u : AU} {s : Nat} (h : RM σ a u) (hs : s < 7) (hw : wN a < 2147483647) : WP (m_writeSlot σ (Int32.ofNat s)) (fun σ' => RM σ' (A_writeSlot a s) u) := by
  unfold m_writeSlot A_writeSlot
  refine WP_call (M_laySlot h hs hw) (fun p hp => ?_)
  exact WP_call (M_soil hp hs) (fun q hq => WP_some hq)
