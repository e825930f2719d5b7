theorem M_asB {F : Nat} {σ : RS} {a : AA} {u : AU} {s : Nat} {l : AL} (hF : 20000 ≤ F) (h : RM σ a u) (hs : s < 7) (hl : u.1.1 = some l) (h7 : l.1 4 = 7) (hok : pcOK l) (hf : aInR (l.1 2) 0 6 = true ∨ aInR (l.1 2) 8 15 = true) (hup : aS a 52 s = 1) (hz : u.2 s) (hmk : u.2 (14 + s)) (hr : ¬ aS a 73 s = 3)
    (hb : aS a 75 s < l.1 7) (hb2 : (l.1 7).toInt < 1073741824) (hpm : aS a 69 s = l.1 7 → aPm a s = l.2.2.2) :
    WP (m_assemble_b105 F σ (Int32.ofNat s) (l.1 2) (l.1 10) (l.1 7) (l.1 8) (l.1 11) (l.1 12) (l.1 13) (l.1 17)) (fun τ => RM τ (asB a s l) u) := by
  obtain ⟨hw, h12, fr, cnt, e13, e17, hc⟩ := hok
  obtain ⟨el1, el2⟩ := aEnc_len hw
  obtain ⟨c15, bys⟩ := bs7 h hl h7 e13 e17 hc (by omega)
  have b127 : (¬ aS a 69 s = l.1 7 ∨ ¬ l.1 13 = aS a 70 s) → WP (m_assemble_b127 F σ (Int32.ofNat s) (l.1 2) (l.1 10) (l.1 7)) (fun τ => RM τ (asB a s l) u) := by
    intro hn
    have e : asB a s l = aStored a s (l.1 2) (l.1 7) (if aS a 69 s = l.1 7 then aS a 70 s else 0) (l.1 10) := by
      unfold asB
      dsimp only
      rw [if_pos hn]
    rw [e]
    unfold m_assemble_b127 m_assemble_b155 aStored
    refine WP_r7 h (by decide) hs ?_
    refine WP_if c2_ne (fun q => ?_) (fun q => ?_)
    · rw [if_neg q]
      exact WP_call (M_tell (by omega) h hs hf (Or.inr (Or.inl ⟨rfl, rfl, rfl, rfl⟩))) (fun q hq => WP_some hq)
    · rw [if_pos (Classical.not_not.mp q)]
      refine WP_r7 h (by decide) hs ?_
      exact WP_call (M_tell (by omega) h hs hf (Or.inr (Or.inl ⟨rfl, rfl, rfl, rfl⟩))) (fun q hq => WP_some hq)
  unfold m_assemble_b105
  refine WP_r7 h (by decide) hs ?_
  refine WP_if c2_ne (fun q => b127 (Or.inl q)) (fun q => ?_)
  have q := Classical.not_not.mp q
  refine WP_r7 h (by decide) hs ?_
  refine WP_if c2_eq (fun q2 => ?_) (fun q2 => b127 (Or.inr q2))
  have e70 : aS a 70 s = Int32.ofNat fr := by rw [← q2, e13]
  have hp := h.2.2.2.2.2.2.2.2.2.2.2.1 s hs
  rw [q, hpm q, e70] at hp
  have hbi : 0 ≤ (aS a 75 s).toInt := by
    have mk := h.2.2.2.2.2.2.2.2.2.2.2.2.2.2.2.2.2.2.2.2.2.2.1 s hs hmk
    obtain ⟨w1, _⟩ := RM_wl h hs
    obtain ⟨mk1, mk2, _⟩ := mk
    rw [Int32.le_iff_toInt_le] at mk1 mk2
    omega
  rw [Int32.lt_iff_toInt_lt] at hb
  have old : ∀ i, i < fr → σ.1 68 (14000 * s + i) = (aEnc l.2.2.2).getD i 0 := by
    rcases hp with z | ⟨G, g1, g2, g3, g4⟩
    · rw [z] at hb
      have : ((-1 : Int32)).toInt = -1 := by decide
      omega
    · rw [i_eqi (by omega) (by omega)] at g1
      rw [g1]
      exact g4
  rw [e13, e17]
  refine asm_in hs (by omega) c15 (fun τ t1 t2 t3 => ?_) F 0 σ (by omega) (Nat.zero_le _) ⟨fun _ _ => rfl, fun _ _ => rfl⟩ (fun _ _ => rfl) (fun y hy => absurd hy (Nat.not_lt_zero _))
  unfold asEnd
  have t70 : τ.1 70 s = Int32.ofNat fr := by rw [t1.1 70 (by decide), RM_7 h (by decide) hs, e70]
  have t69 : τ.1 69 s = l.1 7 := by rw [t1.1 69 (by decide), RM_7 h (by decide) hs, q]
  refine WP_ld rfl 7 (by decide +kernel) hs ?_
  refine WP_st rfl 7 (by decide +kernel) hs ?_
  refine WP_ld rfl 7 (by decide +kernel) hs ?_
  rw [setI_e, t70, i_ad]
  have r1 := RM_pcs (s := s) (b := l.1 7) (g := Int32.ofNat (fr + cnt)) (M := l.2.2.2) h t1 (fun i hi => t2 i (by omega)) (Or.inr ⟨fr + cnt, rfl, hc, by omega, fun i hi => ?_⟩)
  · rw [setI_same (σ := τ) t69] at r1
    have e69 : aI a 69 s (l.1 7) = a := aI_same q
    rw [e69] at r1
    have eA : aPmS (aI a 70 s (Int32.ofNat (fr + cnt))) s l.2.2.2 = aAdd a 70 s (Int32.ofNat cnt) := by
      unfold aAdd
      rw [e70, i_ad, ← hpm q]
      exact aPmS_same (a := aI a 70 s (Int32.ofNat (fr + cnt)))
    rw [eA] at r1
    have e : asB a s l = aStored (if l.1 12 ≤ Int32.ofNat (fr + cnt) then
        aI (aSoil (aFindCode (aTrim (aWriteShot (aMcS (aI (aI (aShS (aI (aMoveBase (aAdd a 70 s (Int32.ofNat cnt)) s (l.1 7) (l.1 8) (l.1 11)) 67 s (l.1 12)) s l.2.2.2) 75 s (l.1 7)) 76 s (l.1 7)) s l.2.2.2) s) s) s) s) 69 s (-1)
      else aAdd a 70 s (Int32.ofNat cnt)) s (l.1 2) (l.1 7) (Int32.ofNat (fr + cnt)) (l.1 10) := by
      unfold asB
      dsimp only
      rw [if_neg (by rw [← q2]; exact fun z => z.elim (fun y => y q) (fun y => y rfl)), e17, show aS (aAdd a 70 s (Int32.ofNat cnt)) 70 s = Int32.ofNat (fr + cnt) by
        show (if 70 = 70 ∧ s = s then aS a 70 s + Int32.ofNat cnt else _) = _
        rw [if_pos ⟨rfl, rfl⟩, e70, i_ad]]
    rw [e]
    have h70 : aS (aAdd a 70 s (Int32.ofNat cnt)) 70 s = Int32.ofNat (fr + cnt) := by
      show (if 70 = 70 ∧ s = s then aS a 70 s + Int32.ofNat cnt else _) = _
      rw [if_pos ⟨rfl, rfl⟩, e70, i_ad]
    have fr1 : AFr [70] [] a (aAdd a 70 s (Int32.ofNat cnt)) := AFr_I
    generalize aAdd a 70 s (Int32.ofNat cnt) = a2 at r1 h70 fr1
    exact M_asEnd hF r1 hs hf (by rw [fr1.1 52 (by decide)]; exact hup) hz hmk (by rw [fr1.1 73 (by decide)]; exact hr) hw h12 (by rw [fr1.1 75 (by decide)]; exact Int32.lt_iff_toInt_lt.mpr hb) hb2 (by rw [fr1.1 69 (by decide)]; exact q) (by rw [fr1.2.2.2.2.2.2.1 (by decide)]; exact hpm q) h70 hc
  · by_cases z : i < fr
    · rw [t2 _ (by omega)]
      exact old i z
    · have := t3 (i - fr) (by omega)
      rw [show fr + (i - fr) = i by omega] at this
      rw [this, bys (i - fr) (by omega), show fr + (i - fr) = i by omega]
theorem M_assemble {F : Nat} {σ : RS} {a : AA} {u : AU} {s : Nat} {l : AL} (hF : 20000 ≤ F) (h : RM σ a u) (hs : s < 7) (hl : u.1.1 = some l) (h7 : l.1 4 = 7) (hok : pcOK l) (hf : aInR (l.1 2) 0 6 = true ∨ aInR (l.1 2) 8 15 = true) (hup : aS a 52 s = 1) (hz : u.2 s) (hmk : u.2 (14 + s)) (hr : ¬ aS a 73 s = 3)
    (hb2 : (l.1 7).toInt < 1073741824) (hpm : aS a 69 s = l.1 7 → aPm a s = l.2.2.2) : WP (m_assemble F σ (Int32.ofNat s) (l.1 2) (l.1 10)) (fun τ => RM τ (A_assemble a s l) u) := by
  obtain ⟨t7, t8, t11, t12, t13, t17⟩ := td7 h hl h7
  unfold m_assemble m_assemble_b0
  refine WP_ld (n := 2824) rfl 2832 (by decide +kernel) (by omega) ?_
  refine WP_ld (n := 2825) rfl 2832 (by decide +kernel) (by omega) ?_
  refine WP_ld (n := 2826) rfl 2832 (by decide +kernel) (by omega) ?_
  refine WP_ld (n := 2827) rfl 2832 (by decide +kernel) (by omega) ?_
  refine WP_ld (n := 2828) rfl 2832 (by decide +kernel) (by omega) ?_
  refine WP_ld (n := 2829) rfl 2832 (by decide +kernel) (by omega) ?_
  rw [t7, t8, t11, t12, t13, t17]
  refine WP_r7 h (by decide) hs ?_
  refine WP_if c2_gt (fun q => ?_) (fun q => ?_)
  · rw [asB_e (Int32.not_le.mpr q)]
    refine WP_if c0_ne (fun q2 => ?_) (fun q2 => ?_)
    · rw [if_neg q2]
      exact M_asB hF h hs hl h7 hok hf hup hz hmk hr q hb2 hpm
    · have q2 := Classical.not_not.mp q2
      rw [if_pos q2]
      refine WP_st rfl 7 (by decide +kernel) hs ?_
      refine WP_st rfl 7 (by decide +kernel) hs ?_
      have r1 := RM_pcs (s := s) (b := l.1 7) (g := 0) (M := l.2.2.2) h ⟨fun _ _ => rfl, fun _ _ => rfl⟩ (fun _ _ => rfl) (Or.inr ⟨0, rfl, Nat.zero_le _, by omega, fun i hi => absurd hi (Nat.not_lt_zero _)⟩)
      have fr1 : AFr [69, 70] [5] a (aPmS (aI (aI a 69 s (l.1 7)) 70 s 0) s l.2.2.2) := AFr_w (AFr_t (AFr_t AFr_I AFr_I) AFr_pm) (by decide) (by decide)
      have epm : aPm (aPmS (aI (aI a 69 s (l.1 7)) 70 s 0) s l.2.2.2) s = l.2.2.2 := if_pos rfl
      exact M_asB hF r1 hs hl h7 hok hf (by rw [fr1.1 52 (by decide)]; exact hup) hz hmk (by rw [fr1.1 73 (by decide)]; exact hr) (by rw [fr1.1 75 (by decide)]; exact q) hb2 (fun _ => epm)
  · have e : A_assemble a s l = aStored a s (l.1 2) (l.1 7) (l.1 12) (l.1 10) := by
      unfold A_assemble
      dsimp only
      rw [if_pos (Int32.not_lt.mp q)]
    rw [e]
    unfold aStored
    exact WP_call (M_tell (by omega) h hs hf (Or.inr (Or.inl ⟨rfl, rfl, rfl, rfl⟩))) (fun q hq => WP_some hq)
