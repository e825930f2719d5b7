/-! a snapshot is written -/
def aShotF (a : AA) (s : Nat) : AF := aF 1 (20 + aS a 67 s) (aS a 55 s) (aS a 57 s) (aS a 58 s) [] (aSh a s)
theorem sh_loop {F : Nat} {σ1 : RS} {s f k L : Nat} {E : List Int32} {Q : RS → Prop} (hs : s < 7) (hk : k < 224) (hE : E.length = L) (hL : L ≤ 13980) (h67 : σ1.1 67 s = Int32.ofNat L) (h66 : ∀ i, i < L → σ1.1 66 (14000 * s + i) = E.getD i 0) (hb : ∀ b ∈ E, aLow8 b = b)
    (hQ : ∀ τ, SLd k σ1 τ → Fr [] [36] σ1 τ → (∀ y, y < L → dB τ k (20 + y) = E.getD y 0) → WP ((m_syncFile F τ (Int32.ofNat s) (Int32.ofNat f)).bind fun p4 => (rst p4 47 (Int32.ofNat s) (Int32.ofNat f)).bind fun σ6 => some σ6) Q) :
    ∀ n i (τ : RS), L + 1 ≤ i + n → i ≤ L → SLd k σ1 τ → Fr [] [36] σ1 τ → (∀ y, y < i → dB τ k (20 + y) = E.getD y 0) → WP (m_writeShot_b102 F n τ (Int32.ofNat s) (Int32.ofNat f) (Int32.ofNat k) (Int32.ofNat i)) Q := by
  intro n
  induction n with
  | zero => intro i τ h1 h2; omega
  | succ n ih =>
    intro i τ h1 h2 g1 g2 g3
    unfold m_writeShot_b102
    refine WP_ld rfl 7 (by decide +kernel) hs ?_
    rw [g2.1 67 (by decide), h67]
    refine WP_if (i_gei (by omega) (by omega)) (fun q => ?_) (fun q => ?_)
    · have : i = L := by omega
      subst this
      exact hQ τ g1 g2 g3
    · refine WP_ld (n := 14000 * s + i) i_ma 98000 (by decide +kernel) (by omega) ?_
      rw [g2.1 66 (by decide), h66 i (by omega), show (14000 : Int32) * Int32.ofNat k + 20 + Int32.ofNat i = Int32.ofNat (14000 * k + (20 + i)) by
        rw [show (14000 : Int32) = Int32.ofNat 14000 from rfl, show (20 : Int32) = Int32.ofNat 20 from rfl, i_ma, i_ad, Nat.add_assoc]]
      refine WP_eq (m_layDisk_n (by omega)) ?_
      rw [i_s]
      have hv : (E.getD i 0).toInt8.toInt32 = E.getD i 0 := by
        rw [List.getD_eq_getElem?_getD, List.getElem?_eq_getElem (by omega)]
        exact hb _ (List.getElem_mem _)
      refine ih (i + 1) _ (by omega) (by omega) (SLd_L g1 (by omega)) (Fr_w (Fr_t g2 Fr_L) (by simp) (by simp)) (fun y hy => ?_)
      rw [dB_lay, hv]
      by_cases z : y = i
      · rw [if_pos (by omega), z]
      · rw [if_neg (by omega)]
        exact g3 y (by omega)
theorem aPut_43 {a : AA} {s f : Nat} {F : AF} : aSyncFile (aI (aPut a s f F) 43 (16 * s + f) 0) s f = aSyncFile (aPut a s f F) s f := by
  show aI (aI (aFkS (aPut a s f F) s (aU (aFk (aPut a s f F) s) f (aFc (aPut a s f F) s f))) 43 (16 * s + f) 0) 43 (16 * s + f) _ = _
  rw [aI_II]
  rfl
theorem M_shot15 {F : Nat} {σ : RS} {a : AA} {u : AU} {s f : Nat} (hF : 20000 ≤ F) (h : RM σ a u) (hs : s < 7) (hf : f = 2 ∨ f = 3) (hz : ¬ aS a 67 s = 0) : WP (m_writeShot_b15 F σ (Int32.ofNat f) (Int32.ofNat s)) (fun τ => RM τ (aI (aSyncFile (aPut a s f (aShotF a s)) s f) 47 s (Int32.ofNat f)) u) := by
  have hf16 : f < 16 := by omega
  obtain ⟨wm, hsh⟩ := h.2.2.2.2.2.2.2.2.2.2.1 s hs
  obtain ⟨z1, z2, z3⟩ := hsh.resolve_left (fun y => hz y.1)
  have heb := aEnc_b wm
  unfold m_writeShot_b15
  refine WP_eq m_fileOf_n ?_
  refine WP_eq (m_cut_n hs hf16) ?_
  have z0 := (h.2.2.2.2.2.1 s hs f hf16).1
  obtain ⟨hS0, e0⟩ := RFl_S z0
  have ez : aMin (σ.1 37 (2 * (16 * s + f))) 0 = 0 := by
    rw [show σ.1 37 (2 * (16 * s + f)) = _ from e0]
    generalize (σ.1 37 (2 * rFx s f)).toNatClampNeg = n at hS0
    unfold aMin
    by_cases q : Int32.ofNat n ≤ 0
    · rw [if_pos q]
      rw [Int32.le_iff_toInt_le, Int32.toInt_ofNat_of_lt (by omega), i_0] at q
      have : n = 0 := by omega
      rw [this]
      rfl
    · rw [if_neg q]
  have e43 : aMin (σ.1 43 (16 * s + f)) 0 = 0 := by
    rw [RM_43 h (by omega)]
    have := ((RM_loc h).2.2.1 s hs f hf16).1
    unfold aMin
    by_cases q : aS a 43 (16 * s + f) ≤ 0
    · rw [if_pos q]
      rw [Int32.le_iff_toInt_le, i_0] at q this
      rw [← Int32.toInt_inj, i_0]
      omega
    · rw [if_neg q]
  rw [ez, e43]
  have hk : 2 * (16 * s + f) < 224 := by omega
  have e67 := RM_7 (f := 67) h (by decide) hs
  have e55 := RM_7 (f := 55) h (by decide) hs
  have e57 := RM_7 (f := 57) h (by decide) hs
  have e58 := RM_7 (f := 58) h (by decide) hs
  refine WP_st rfl 224 (by decide +kernel) hk ?_
  refine WP_ld rfl 7 (by decide +kernel) hs ?_
  refine WP_st rfl 224 (by decide +kernel) hk ?_
  refine WP_ld rfl 7 (by decide +kernel) hs ?_
  refine WP_st rfl 224 (by decide +kernel) hk ?_
  refine WP_ld rfl 7 (by decide +kernel) hs ?_
  refine WP_st rfl 224 (by decide +kernel) hk ?_
  refine WP_ld rfl 7 (by decide +kernel) hs ?_
  refine WP_st rfl 224 (by decide +kernel) hk ?_
  refine WP_ld rfl 7 (by decide +kernel) hs ?_
  refine WP_st rfl 224 (by decide +kernel) hk ?_
  have sc : ∀ (ρ : RS) (f1 g i : Nat) (v : Int32), g ≠ f1 → ∀ j, (setI ρ g i v).1 f1 j = ρ.1 f1 j := fun ρ f1 g i v q j => setI_f (fun z => q z.symm)
  simp only [sc _ 67 38 _ _ (by decide), sc _ 67 43 _ _ (by decide), sc _ 67 37 _ _ (by decide), sc _ 67 44 _ _ (by decide), sc _ 67 39 _ _ (by decide), sc _ 67 40 _ _ (by decide), sc _ 67 41 _ _ (by decide),
    sc _ 55 38 _ _ (by decide), sc _ 55 43 _ _ (by decide), sc _ 55 37 _ _ (by decide), sc _ 55 44 _ _ (by decide),
    sc _ 57 38 _ _ (by decide), sc _ 57 43 _ _ (by decide), sc _ 57 37 _ _ (by decide), sc _ 57 44 _ _ (by decide), sc _ 57 39 _ _ (by decide),
    sc _ 58 38 _ _ (by decide), sc _ 58 43 _ _ (by decide), sc _ 58 37 _ _ (by decide), sc _ 58 44 _ _ (by decide), sc _ 58 39 _ _ (by decide), sc _ 58 40 _ _ (by decide), e67, e55, e57, e58]
  have hS : SLd (2 * rFx s f) σ (setI (setI (setI (setI (setI (setI (setI (setI (setI σ 44 (16 * s + f) 1) 37 (2 * (16 * s + f)) 0) 43 (16 * s + f) 0) 38 (2 * (16 * s + f)) (1 &&& 1)) 37 (2 * (16 * s + f)) (20 + aS a 67 s)) 39 (2 * (16 * s + f)) (aS a 55 s)) 40 (2 * (16 * s + f)) (aS a 57 s)) 41 (2 * (16 * s + f)) (aS a 58 s)) 42 (2 * (16 * s + f)) (aS a 67 s)) := by
    refine SLd_I (SLd_I (SLd_I (SLd_I (SLd_I (SLd_I (SLd_I (SLd_I (SLd_I SLd_refl ?_) ?_) ?_) ?_) ?_) ?_) ?_) ?_) ?_ <;> (unfold FOf rFx; omega)
  have v44 : (setI (setI (setI (setI (setI (setI (setI (setI (setI σ 44 (16 * s + f) 1) 37 (2 * (16 * s + f)) 0) 43 (16 * s + f) 0) 38 (2 * (16 * s + f)) (1 &&& 1)) 37 (2 * (16 * s + f)) (20 + aS a 67 s)) 39 (2 * (16 * s + f)) (aS a 55 s)) 40 (2 * (16 * s + f)) (aS a 57 s)) 41 (2 * (16 * s + f)) (aS a 58 s)) 42 (2 * (16 * s + f)) (aS a 67 s)).1 44 (rFx s f) = 1 := by simp [setI, rFx]
  have v43 : (setI (setI (setI (setI (setI (setI (setI (setI (setI σ 44 (16 * s + f) 1) 37 (2 * (16 * s + f)) 0) 43 (16 * s + f) 0) 38 (2 * (16 * s + f)) (1 &&& 1)) 37 (2 * (16 * s + f)) (20 + aS a 67 s)) 39 (2 * (16 * s + f)) (aS a 55 s)) 40 (2 * (16 * s + f)) (aS a 57 s)) 41 (2 * (16 * s + f)) (aS a 58 s)) 42 (2 * (16 * s + f)) (aS a 67 s)).1 43 (rFx s f) = 0 := by simp [setI, rFx]
  have v38 : (setI (setI (setI (setI (setI (setI (setI (setI (setI σ 44 (16 * s + f) 1) 37 (2 * (16 * s + f)) 0) 43 (16 * s + f) 0) 38 (2 * (16 * s + f)) (1 &&& 1)) 37 (2 * (16 * s + f)) (20 + aS a 67 s)) 39 (2 * (16 * s + f)) (aS a 55 s)) 40 (2 * (16 * s + f)) (aS a 57 s)) 41 (2 * (16 * s + f)) (aS a 58 s)) 42 (2 * (16 * s + f)) (aS a 67 s)).1 38 (2 * rFx s f) = 1 := by simp [setI, rFx]
  have v37 : (setI (setI (setI (setI (setI (setI (setI (setI (setI σ 44 (16 * s + f) 1) 37 (2 * (16 * s + f)) 0) 43 (16 * s + f) 0) 38 (2 * (16 * s + f)) (1 &&& 1)) 37 (2 * (16 * s + f)) (20 + aS a 67 s)) 39 (2 * (16 * s + f)) (aS a 55 s)) 40 (2 * (16 * s + f)) (aS a 57 s)) 41 (2 * (16 * s + f)) (aS a 58 s)) 42 (2 * (16 * s + f)) (aS a 67 s)).1 37 (2 * rFx s f) = 20 + aS a 67 s := by simp [setI, rFx]
  have v39 : (setI (setI (setI (setI (setI (setI (setI (setI (setI σ 44 (16 * s + f) 1) 37 (2 * (16 * s + f)) 0) 43 (16 * s + f) 0) 38 (2 * (16 * s + f)) (1 &&& 1)) 37 (2 * (16 * s + f)) (20 + aS a 67 s)) 39 (2 * (16 * s + f)) (aS a 55 s)) 40 (2 * (16 * s + f)) (aS a 57 s)) 41 (2 * (16 * s + f)) (aS a 58 s)) 42 (2 * (16 * s + f)) (aS a 67 s)).1 39 (2 * rFx s f) = aS a 55 s := by simp [setI, rFx]
  have v40 : (setI (setI (setI (setI (setI (setI (setI (setI (setI σ 44 (16 * s + f) 1) 37 (2 * (16 * s + f)) 0) 43 (16 * s + f) 0) 38 (2 * (16 * s + f)) (1 &&& 1)) 37 (2 * (16 * s + f)) (20 + aS a 67 s)) 39 (2 * (16 * s + f)) (aS a 55 s)) 40 (2 * (16 * s + f)) (aS a 57 s)) 41 (2 * (16 * s + f)) (aS a 58 s)) 42 (2 * (16 * s + f)) (aS a 67 s)).1 40 (2 * rFx s f) = aS a 57 s := by simp [setI, rFx]
  have v41 : (setI (setI (setI (setI (setI (setI (setI (setI (setI σ 44 (16 * s + f) 1) 37 (2 * (16 * s + f)) 0) 43 (16 * s + f) 0) 38 (2 * (16 * s + f)) (1 &&& 1)) 37 (2 * (16 * s + f)) (20 + aS a 67 s)) 39 (2 * (16 * s + f)) (aS a 55 s)) 40 (2 * (16 * s + f)) (aS a 57 s)) 41 (2 * (16 * s + f)) (aS a 58 s)) 42 (2 * (16 * s + f)) (aS a 67 s)).1 41 (2 * rFx s f) = aS a 58 s := by simp [setI, rFx]
  have v42 : (setI (setI (setI (setI (setI (setI (setI (setI (setI σ 44 (16 * s + f) 1) 37 (2 * (16 * s + f)) 0) 43 (16 * s + f) 0) 38 (2 * (16 * s + f)) (1 &&& 1)) 37 (2 * (16 * s + f)) (20 + aS a 67 s)) 39 (2 * (16 * s + f)) (aS a 55 s)) 40 (2 * (16 * s + f)) (aS a 57 s)) 41 (2 * (16 * s + f)) (aS a 58 s)) 42 (2 * (16 * s + f)) (aS a 67 s)).1 42 (2 * rFx s f) = aS a 67 s := by simp [setI, rFx]
  generalize setI (setI (setI (setI (setI (setI (setI (setI (setI σ 44 (16 * s + f) 1) 37 (2 * (16 * s + f)) 0) 43 (16 * s + f) 0) 38 (2 * (16 * s + f)) (1 &&& 1)) 37 (2 * (16 * s + f)) (20 + aS a 67 s)) 39 (2 * (16 * s + f)) (aS a 55 s)) 40 (2 * (16 * s + f)) (aS a 57 s)) 41 (2 * (16 * s + f)) (aS a 58 s)) 42 (2 * (16 * s + f)) (aS a 67 s) = σ1 at hS v44 v43 v38 v37 v39 v40 v41 v42
  have g67 : σ1.1 67 s = Int32.ofNat (aEnc (aSh a s)).length := by
    rw [hS.1 67 s (by unfold FOf; omega), e67]
    exact z1
  have g66 : ∀ i, i < (aEnc (aSh a s)).length → σ1.1 66 (14000 * s + i) = (aEnc (aSh a s)).getD i 0 := fun i hi => by
    rw [hS.1 66 _ (by unfold FOf; omega)]
    exact z3 i hi
  refine sh_loop (s := s) hs hk rfl z2 g67 g66 heb (fun τ t1 t2 t3 => ?_) F 0 σ1 (by omega) (Nat.zero_le _) SLd_refl ⟨fun _ _ => rfl, fun _ _ => rfl⟩ (fun y hy => absurd hy (Nat.not_lt_zero _))
  have hSd : SLd (2 * rFx s f) σ τ := SLd_t hS t1
  have esz : (20 : Int32) + aS a 67 s = Int32.ofNat (20 + (aEnc (aSh a s)).length) := by
    rw [z1, Int32.ofNat_add]
    rfl
  have efB : fBy (aAk a) f (aShotF a s) = List.replicate 20 none ++ (aEnc (aSh a s)).map some := by
    unfold fBy
    rw [if_neg (by omega), if_pos (by omega)]
    rfl
  have hR : RFl (aAk a) τ (2 * rFx s f) f (aShotF a s) := by
    have o : ∀ g, g ≠ 0 → τ.1 g (2 * rFx s f) = σ1.1 g (2 * rFx s f) := fun g _ => by rw [t2.1 g (by simp)]
    refine ⟨(o 38 (by decide)).trans v38, Or.inr rfl, (o 37 (by decide)).trans v37, ⟨20 + (aEnc (aSh a s)).length, by omega, esz, fun y => absurd (show (1 : Int32) = 0 from y) (by decide), fun y => by omega, fun i v hi hv => ?_⟩, fun e he => absurd he List.not_mem_nil, fun y => by omega, fun _ _ _ => ⟨(o 39 (by decide)).trans v39, (o 40 (by decide)).trans v40, (o 41 (by decide)).trans v41, (o 42 (by decide)).trans (v42.trans z1), esz⟩⟩
    rw [efB] at hv
    rcases get_app hv with ⟨q, hx⟩ | ⟨q, hx⟩
    · rw [List.getElem?_replicate] at hx
      split at hx
      · exact absurd hx (by simp)
      · exact absurd hx (by simp)
    · rw [List.length_replicate] at q hx
      rw [List.getElem?_map] at hx
      have hx2 : (aEnc (aSh a s))[i - 20]? = some v := by
        cases e : (aEnc (aSh a s))[i - 20]? with
        | none => rw [e] at hx; exact absurd hx (by simp)
        | some w => rw [e] at hx; exact congrArg some (Option.some.inj (Option.some.inj hx))
      obtain ⟨hl, _⟩ := List.getElem?_eq_some_iff.mp hx2
      have := t3 (i - 20) hl
      rw [show 20 + (i - 20) = i by omega, List.getD_eq_getElem?_getD, hx2] at this
      exact this
  have hch : aS a 52 s = 1 → f ∉ aCh a s := by
    intro hu y
    obtain ⟨i, hi, e⟩ := List.getElem_of_mem y
    have := ((h.2.2.2.2.2.2.2.1 s hs hu).2.2 i hi).1
    rw [List.getD_eq_getElem?_getD, List.getElem?_eq_getElem hi] at this
    have this : 4 ≤ (aCh a s)[i] := this
    omega
  have hp := RM_put (v := 0) (F := aShotF a s) h hs hf16 hSd (by rw [t2.1 44 (by decide)]; exact v44) hR (fun y => by omega) (fun hu y => absurd y (hch hu)) (fun hu y => absurd y (hch hu)) (by rw [t2.1 43 (by decide)]; exact v43) ⟨Int32.le_refl _, by
    show (0 : Int32) ≤ 20 + aS a 67 s
    rw [esz, Int32.le_iff_toInt_le, i_0, Int32.toInt_ofNat_of_lt (by omega)]
    omega⟩ (fun hz' hu => WCh_c (h.2.2.2.2.2.2.2.2.2.2.2.2.2.2.2.2.2.2.2.2.2.1 s hs hz' hu) rfl rfl rfl (fun g hg => by rw [aFc_put, if_neg (by omega)]))
  refine WP_call (M_syncFile (by omega) hp hs hf16) (fun p4 hp4 => ?_)
  have hp4 : RM p4 (aSyncFile (aPut a s f (aShotF a s)) s f) u := by
    have e := @aPut_43 a s f (aShotF a s)
    rw [← e]
    exact hp4
  refine WP_w7 hp4 (by decide) (by decide) hs (fun σ6 h6 => ?_)
  exact WP_some h6
theorem M_writeShot {F : Nat} {σ : RS} {a : AA} {u : AU} {s : Nat} (hF : 20000 ≤ F) (h : RM σ a u) (hs : s < 7) (hz : ¬ aS a 67 s = 0) : WP (m_writeShot F σ (Int32.ofNat s)) (fun τ => RM τ (aWriteShot a s) u) := by
  unfold m_writeShot m_writeShot_b0 aWriteShot
  refine WP_r7 h (by decide) hs ?_
  refine WP_if c2_ne (fun q => ?_) (fun q => ?_)
  · rw [if_neg q]
    exact M_shot15 (f := 2) hF h hs (Or.inl rfl) hz
  · rw [if_pos (Classical.not_not.mp q)]
    exact M_shot15 (f := 3) hF h hs (Or.inr rfl) hz
