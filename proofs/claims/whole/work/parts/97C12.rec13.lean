/-! what counts as not synced doesn't matter to what comes -/
theorem z43_st {s k f i : Nat} {v : Int32} {τ : RS} (hf : f ≠ 43) : setI (z43 s k τ) f i v = z43 s k (setI τ f i v) := by
  refine Prod.ext (funext fun g => funext fun j => ?_) rfl
  show (if g = f ∧ j = i then v else if g = 43 ∧ j / 16 = s ∧ k ≤ j % 16 then 0 else τ.1 g j) = if g = 43 ∧ j / 16 = s ∧ k ≤ j % 16 then 0 else if g = f ∧ j = i then v else τ.1 g j
  by_cases q : g = f ∧ j = i
  · rw [if_pos q, if_pos q, if_neg (fun z => hf (q.1.symm.trans z.1))]
  · rw [if_neg q, if_neg q]
theorem z43_s0 {s k i : Nat} {v : Int32} {τ : RS} (h1 : i / 16 = s) (h2 : k ≤ i % 16) : setI (z43 s k τ) 43 i 0 = z43 s k (setI τ 43 i v) := by
  refine Prod.ext (funext fun g => funext fun j => ?_) rfl
  show (if g = 43 ∧ j = i then (0 : Int32) else if g = 43 ∧ j / 16 = s ∧ k ≤ j % 16 then 0 else τ.1 g j) = if g = 43 ∧ j / 16 = s ∧ k ≤ j % 16 then 0 else if g = 43 ∧ j = i then v else τ.1 g j
  by_cases q : g = 43 ∧ j = i
  · rw [if_pos q, if_pos (by rw [q.2]; exact ⟨q.1, h1, h2⟩)]
  · rw [if_neg q, if_neg q]
theorem rld_z {s k f : Nat} {i : Int32} {τ : RS} (hf : f ≠ 43) : rld (z43 s k τ) f i = rld τ f i := by
  unfold rld
  rw [z43_f hf]
theorem rst_z {s k f : Nat} {i v : Int32} {τ : RS} (hf : f ≠ 43) : rst (z43 s k τ) f i v = (rst τ f i v).bind fun r => some (z43 s k r) := by
  unfold rst
  by_cases q : i < 0 ∨ rlen f ≤ i.toNatClampNeg
  · rw [if_pos q, if_pos q]
    rfl
  · rw [if_neg q, if_neg q, z43_st hf]
    rfl
theorem lay31_z {τ : RS} {s f : Nat} (hs : s < 7) (hf : f < 2) (h37 : 0 ≤ τ.1 37 (2 * (16 * s + f))) : m_laySlot_b31 (z43 s 0 τ) (Int32.ofNat s) (Int32.ofNat f) = (m_laySlot_b31 τ (Int32.ofNat s) (Int32.ofNat f)).bind fun r => some (z43 s 0 r) := by
  unfold m_laySlot_b31
  have em : aMin (τ.1 37 (2 * (16 * s + f))) 0 = 0 := by
    unfold aMin
    by_cases q : τ.1 37 (2 * (16 * s + f)) ≤ 0
    · rw [if_pos q]
      exact Int32.le_antisymm q h37
    · rw [if_neg q]
  have ec : (m_cut (z43 s 0 τ) (Int32.ofNat s) (Int32.ofNat f) 0) = (m_cut τ (Int32.ofNat s) (Int32.ofNat f) 0).bind fun r => some (z43 s 0 r) := by
    rw [m_cut_n hs (by omega), m_cut_n hs (by omega), z43_f (show (37 : Nat) ≠ 43 by decide), em]
    have e0 : (z43 s 0 τ).1 43 (16 * s + f) = 0 := if_pos ⟨rfl, by omega, Nat.zero_le _⟩
    rw [e0, show aMin 0 0 = 0 from rfl, z43_st (show (44 : Nat) ≠ 43 by decide), z43_st (show (37 : Nat) ≠ 43 by decide)]
    exact congrArg some (z43_s0 (by omega) (Nat.zero_le _))
  rw [m_fileOf_n, ec]
  have e48 : ∀ r : RS, (z43 s 0 r).1 48 0 = r.1 48 0 := fun r => z43_f (by decide)
  simp only [Option.bind_some, Option.bind_assoc, rld_z (f := 53) (show (53 : Nat) ≠ 43 by decide), rld_z (f := 54) (show (54 : Nat) ≠ 43 by decide), rst_z (f := 38) (show (38 : Nat) ≠ 43 by decide), rst_z (f := 37) (show (37 : Nat) ≠ 43 by decide), rst_z (f := 39) (show (39 : Nat) ≠ 43 by decide), rst_z (f := 40) (show (40 : Nat) ≠ 43 by decide), rst_z (f := 41) (show (41 : Nat) ≠ 43 by decide), rst_z (f := 45) (show (45 : Nat) ≠ 43 by decide), rst_z (f := 46) (show (46 : Nat) ≠ 43 by decide), z43_st (f := 48) (show (48 : Nat) ≠ 43 by decide), e48]
theorem lay_z {τ : RS} {s : Nat} (hs : s < 7) (h45 : τ.1 45 s = -1 ∨ τ.1 45 s = 0 ∨ τ.1 45 s = 1) (h46 : τ.1 46 s = 0 ∨ τ.1 45 s = 0 ∨ τ.1 45 s = 1) (h37 : ∀ f, f < 2 → 0 ≤ τ.1 37 (2 * (16 * s + f))) : m_laySlot (z43 s 0 τ) (Int32.ofNat s) = (m_laySlot τ (Int32.ofNat s)).bind fun r => some (z43 s 0 r) := by
  have l7 : ∀ f, rlen f = 7 → s < rlen f := fun f h => by rw [h]; exact hs
  unfold m_laySlot m_laySlot_b0
  rw [rld_z (by decide), rld_z (by decide), rld_n rfl (l7 45 (by decide +kernel)), rld_n rfl (l7 46 (by decide +kernel))]
  simp only [Option.bind_some]
  have b20 : ∀ x, m_laySlot_b20 (z43 s 0 τ) (Int32.ofNat s) x = (m_laySlot_b20 τ (Int32.ofNat s) x).bind fun r => some (z43 s 0 r) := by
    intro x
    unfold m_laySlot_b20 m_laySlot_b30
    by_cases q : xc2 .ne x 1 = true
    · rw [if_pos q, if_pos q]
      exact lay31_z (f := 1) hs (by omega) (h37 1 (by omega))
    · rw [if_neg q, if_neg q]
      exact lay31_z (f := 0) hs (by omega) (h37 0 (by omega))
  by_cases q : xc0 .lt (τ.1 45 s) = true
  · rw [if_pos q, if_pos q]
    exact b20 _
  · rw [if_neg q, if_neg q]
    by_cases q2 : xc0 .ne (τ.1 46 s) = true
    · rw [if_pos q2, if_pos q2]
      have q3 := c0_ne.mp q2
      rcases h46.resolve_left q3 with e | e
      · rw [e]
        exact lay31_z (f := 0) hs (by omega) (h37 0 (by omega))
      · rw [e]
        exact lay31_z (f := 1) hs (by omega) (h37 1 (by omega))
    · rw [if_neg q2, if_neg q2]
      exact b20 _
theorem WP_z {α : Type} {m m' : Option α} {z : α → α} {Q : α → Prop} (e : m' = m.bind fun r => some (z r)) (h : WP m' Q) : WP m (fun r => Q (z r)) := by
  obtain ⟨x, x1, x2⟩ := h
  rw [e] at x1
  cases hm : m with
  | none =>
    rw [hm] at x1
    cases x1
  | some r =>
    rw [hm] at x1
    refine ⟨r, rfl, ?_⟩
    have : z r = x := Option.some.inj x1
    show Q (z r)
    rw [this]
    exact x2
theorem laySlot_z {a : AA} {s : Nat} (hs : s < 7) (h45 : aS a 45 s = -1 ∨ aS a 45 s = 0 ∨ aS a 45 s = 1) (h46 : aS a 46 s = 0 ∨ aS a 45 s = 0 ∨ aS a 45 s = 1) : aLaySlot (zA s 0 a) s = zA s 0 (aLaySlot a s) := by
  have g : ∀ f, f ≠ 43 → ∀ i, aS (zA s 0 a) f i = aS a f i := fun f hf i => z43_f hf
  have key : ∀ f, f < 2 → (if aS a 46 s = 0 then (if aS a 45 s = 1 then 0 else 1) else aS a 45 s : Int32) = Int32.ofNat f → aLaySlot (zA s 0 a) s = zA s 0 (aLaySlot a s) := by
    intro f hf e
    rw [aLaySlot_e hf e, aLaySlot_e (a := zA s 0 a) hf (by rw [g 46 (by decide), g 45 (by decide)]; exact e)]
    have eF : aSlotF (zA s 0 a) s = aSlotF a s := by
      unfold aSlotF
      rw [g 150 (by decide), g 53 (by decide), g 54 (by decide)]
    rw [eF]
    refine Prod.ext ?_ rfl
    have e1 : (aAdd (zA s 0 a) 150 s 1).1 = z43 s 0 (aAdd a 150 s 1).1 := by
      show setI (z43 s 0 a.1) 150 s ((z43 s 0 a.1).1 150 s + 1) = _
      rw [z43_st (by decide), z43_f (by decide)]
      rfl
    show setI (setI (setI (aAdd (zA s 0 a) 150 s 1).1 43 (rFx s f) 0) 45 s (Int32.ofNat f)) 46 s 1 = z43 s 0 (setI (setI (setI (aAdd a 150 s 1).1 43 (rFx s f) 0) 45 s (Int32.ofNat f)) 46 s 1)
    rw [e1, z43_s0 (v := 0) (by unfold rFx; omega) (Nat.zero_le _), z43_st (by decide), z43_st (by decide)]
  by_cases q : aS a 46 s = 0
  · by_cases q2 : aS a 45 s = 1
    · exact key 0 (by omega) (by rw [if_pos q, if_pos q2]; rfl)
    · exact key 1 (by omega) (by rw [if_pos q, if_neg q2]; rfl)
  · rcases h46.resolve_left q with e | e
    · exact key 0 (by omega) (by rw [if_neg q, e]; rfl)
    · exact key 1 (by omega) (by rw [if_neg q, e]; rfl)
theorem rsyF_z {τ : RS} {s k j S : Nat} : rsyF (z43 s k τ) j S = z43 s k (rsyF τ j S) := by
  unfold rsyF
  rw [z43_f (show (44 : Nat) ≠ 43 by decide)]
  by_cases q : τ.1 44 j = 0
  · rw [if_pos q, if_pos q]
  · rw [if_neg q, if_neg q]
    have e : rcpF (z43 s k τ) (2 * j) (2 * j + 1) = z43 s k (rcpF τ (2 * j) (2 * j + 1)) := by
      unfold rcpF
      rw [z43_f (show (38 : Nat) ≠ 43 by decide), z43_f (show (37 : Nat) ≠ 43 by decide), z43_f (show (39 : Nat) ≠ 43 by decide), z43_f (show (40 : Nat) ≠ 43 by decide), z43_f (show (41 : Nat) ≠ 43 by decide), z43_f (show (42 : Nat) ≠ 43 by decide), z43_st (by decide), z43_st (by decide), z43_st (by decide), z43_st (by decide), z43_st (by decide), z43_st (by decide)]
    rw [e]
    rfl
theorem z43_sy {τ : RS} {s k : Nat} {v : Int32} (hk : k < 16) : setI (z43 s k τ) 43 (16 * s + k) v = z43 s (k + 1) (setI τ 43 (16 * s + k) v) := by
  refine Prod.ext (funext fun g => funext fun j => ?_) rfl
  show (if g = 43 ∧ j = 16 * s + k then v else if g = 43 ∧ j / 16 = s ∧ k ≤ j % 16 then 0 else τ.1 g j) = if g = 43 ∧ j / 16 = s ∧ k + 1 ≤ j % 16 then 0 else if g = 43 ∧ j = 16 * s + k then v else τ.1 g j
  by_cases q : g = 43 ∧ j = 16 * s + k
  · rw [if_pos q, if_neg (by omega), if_pos q]
  · rw [if_neg q, if_neg q]
    by_cases q2 : g = 43 ∧ j / 16 = s ∧ k ≤ j % 16
    · rw [if_pos q2, if_pos (by omega)]
    · rw [if_neg q2, if_neg (by omega)]
theorem z43_16 {τ : RS} {s : Nat} : z43 s 16 τ = τ := by
  refine Prod.ext (funext fun g => funext fun j => ?_) rfl
  exact if_neg (fun z => by omega)
theorem syncFile_z {a : AA} {s k : Nat} (hk : k < 16) : aSyncFile (zA s k a) s k = zA s (k + 1) (aSyncFile a s k) := Prod.ext (z43_sy (τ := a.1) hk) rfl
theorem M_syncAll_z {F : Nat} {a : AA} {u : AU} {s : Nat} (hF : 2000 ≤ F) (hs : s < 7) : ∀ n k (τ : RS), 17 ≤ k + n → k ≤ 16 → RM (z43 s k τ) (zA s k (aSyncFiles a s k)) u → WP (m_syncAll_b2 F n τ (Int32.ofNat s) (Int32.ofNat k)) (fun σ' => RM σ' (A_syncAll a s) u) := by
  intro n
  induction n with
  | zero => intro k τ h1 h2; omega
  | succ n ih =>
    intro k τ h1 h2 h
    unfold m_syncAll_b2
    refine WP_if (p := 16 ≤ k) (i_gei (q := 16) (by omega) (by omega)) (fun q => ?_) (fun q => ?_)
    · have : k = 16 := by omega
      subst this
      have h : RM τ (aSyncFiles a s 16) u := by
        have e : zA s 16 (aSyncFiles a s 16) = aSyncFiles a s 16 := Prod.ext z43_16 rfl
        rw [z43_16, e] at h
        exact h
      refine WP_st rfl 7 (by decide +kernel) hs ?_
      refine WP_st rfl 7 (by decide +kernel) hs ?_
      exact WP_some (RM_I (RM_46 h) (by decide))
    · have z1 := (h.2.2.2.2.2.1 s hs k (by omega)).1
      obtain ⟨hS, e37⟩ := RFl_S z1
      have e37' : (z43 s k τ).1 37 (2 * rFx s k) = τ.1 37 (2 * rFx s k) := z43_f (by decide)
      generalize hS2 : ((z43 s k τ).1 37 (2 * rFx s k)).toNatClampNeg = S at hS e37
      have m1 := M_syncFile hF h hs (show k < 16 by omega)
      rw [m_syncFile_n (S := S) (by omega) hs (by omega) hS e37] at m1
      rw [e37'] at e37
      refine WP_eq (m_syncFile_n (S := S) (by omega) hs (by omega) hS e37) ?_
      rw [i_s]
      refine ih (k + 1) _ (by omega) (by omega) ?_
      obtain ⟨x, x1, x2⟩ := m1
      have x1 := Option.some.inj x1
      rw [← x1, syncFile_z (by omega), rsyF_z, z43_st (show (44 : Nat) ≠ 43 by decide), z43_sy (by omega), z43_f (show (37 : Nat) ≠ 43 by decide)] at x2
      exact x2
