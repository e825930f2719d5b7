/-! files removed, cut, synced -/
theorem RFl_gone {K : List AK} {σ σ' : RS} {k f : Nat} {F : AF} (h : RFl K σ k f F) (e38 : σ'.1 38 k = 0) (e37 : σ'.1 37 k = 0) : RFl K σ' k f (aU (aU F.1 0 0) 1 0, F.2) := by
  obtain ⟨h1, h2, h3, ⟨S, hS, h4, h5, h6, h7⟩, h8, h9, h10⟩ := h
  refine ⟨e38, Or.inl rfl, e37, ⟨0, by omega, rfl, fun _ => rfl, fun _ => Nat.zero_le _, fun i v hi => absurd hi (Nat.not_lt_zero _)⟩, h8, fun _ z => absurd (show (0 : Int32) = 1 from z) (by decide), fun _ _ z => absurd (show (0 : Int32) = 1 from z) (by decide)⟩
theorem RM_43 {σ : RS} {a : AA} {u : AU} {i : Nat} (h : RM σ a u) (hi : i < 112) : σ.1 43 i = aS a 43 i := h.1.1 43 (by decide) i (by rw [show rlen 43 = 112 by decide +kernel]; omega)
theorem rfx_lt {s f : Nat} (hs : s < 7) (hf : f < 16) : rFx s f < 112 := by unfold rFx; omega
theorem aEsz_pos {K : List AK} {e : AE} (h : wfE K e) (h2 : (eCon K e).length ≤ 256) : 25 ≤ aEsz e := by
  unfold aEsz
  rw [h.1, Int32.toInt_ofNat_of_lt (by omega)]
  omega
theorem aWhole_nil {K : List AK} {F : AF} (h : ∀ e ∈ F.2.1, wfE K e ∧ (eCon K e).length ≤ 256) (h1 : (F.1 1).toInt < 49) : (aWhole F).length = 0 := by
  unfold aWhole
  match hh : F.2.1, h with
  | [], _ => simp
  | e :: r, h =>
    have := aEsz_pos (h e List.mem_cons_self).1 (h e List.mem_cons_self).2
    unfold aWholes
    rw [if_neg (by omega)]
    rfl
theorem M_removeFile {σ : RS} {a : AA} {u : AU} {s f : Nat} (h : RM σ a u) (hs : s < 7) (hf : f < 16) (hf2 : 2 ≤ f) (hz : ¬ u.2 s) : WP (m_removeFile σ (Int32.ofNat s) (Int32.ofNat f)) (fun σ' => RM σ' (aRemove a s f) u) := by
  rw [m_removeFile_n hs hf]
  have hS : SLd (2 * rFx s f) σ (setI (setI (setI (setI σ 44 (16 * s + f) 1) 38 (2 * (16 * s + f)) 0) 37 (2 * (16 * s + f)) 0) 43 (16 * s + f) 0) := by
    refine SLd_I (SLd_I (SLd_I (SLd_I SLd_refl ?_) ?_) ?_) ?_ <;> (unfold FOf rFx; omega)
  have z0 := (h.2.2.2.2.2.1 s hs f hf).1
  refine WP_some (RM_put h hs hf hS ?_ (RFl_gone z0 ?_ ?_) (fun z => absurd z (by omega)) (fun _ z => rfl) (fun _ z k hk => ?_) ?_ ?_ (fun y => absurd y hz))
  · rw [setI_f (by decide), setI_f (by decide), setI_f (by decide)]
    exact setI_e
  · rw [setI_f (by decide), setI_f (by decide)]
    exact setI_e
  · rw [setI_f (by decide)]
    exact setI_e
  · have := aWhole_nil (F := (aU (aU (aFc a s f).1 0 0) 1 0, (aFc a s f).2)) z0.2.2.2.2.1 (by show (0 : Int32).toInt < 49; decide)
    rw [this] at hk
    exact absurd hk (Nat.not_lt_zero _)
  · exact setI_e
  · exact ⟨Int32.le_refl _, Int32.le_refl _⟩
theorem aWholes_mono : ∀ (es : List AE) (m n : Int), m ≤ n → aWholes es m ≤ aWholes es n := by
  intro es
  induction es with
  | nil => exact fun _ _ _ => Nat.le_refl _
  | cons e r ih =>
    intro m n h
    unfold aWholes
    by_cases q : aEsz e ≤ m
    · rw [if_pos q, if_pos (by omega)]
      have := ih (m - aEsz e) (n - aEsz e) (by omega)
      omega
    · rw [if_neg q]
      exact Nat.zero_le _
theorem aWholes_le : ∀ (es : List AE) (n : Int), aWholes es n ≤ es.length := by
  intro es
  induction es with
  | nil => exact fun _ => Nat.le_refl _
  | cons e r ih =>
    intro n
    unfold aWholes
    by_cases q : aEsz e ≤ n
    · rw [if_pos q, List.length_cons]
      have := ih (n - aEsz e)
      omega
    · rw [if_neg q]
      exact Nat.zero_le _
theorem aWhole_len {F : AF} : (aWhole F).length = aWholes F.2.1 ((F.1 1).toInt - 24) := by
  unfold aWhole
  rw [List.length_take]
  have := aWholes_le F.2.1 ((F.1 1).toInt - 24)
  omega
theorem aMin_le {x y : Int32} : aMin x y ≤ x := by
  unfold aMin
  by_cases q : x ≤ y
  · rw [if_pos q]
    exact Int32.le_refl _
  · rw [if_neg q]
    rw [Int32.le_iff_toInt_le] at q ⊢
    omega
theorem aMin_nat {p : Nat} {n : Int32} (hp : p < 2147483648) (hn : 0 ≤ n) : ∃ q, aMin (Int32.ofNat p) n = Int32.ofNat q ∧ q ≤ p := by
  unfold aMin
  by_cases z : Int32.ofNat p ≤ n
  · exact ⟨p, if_pos z, Nat.le_refl _⟩
  · refine ⟨n.toInt.toNat, ?_, ?_⟩
    · rw [if_neg z]
      rw [Int32.le_iff_toInt_le] at hn
      have : (0 : Int32).toInt = 0 := by decide
      have h2 := n.toInt_lt
      rw [← Int32.toInt_inj, Int32.toInt_ofNat_of_lt (by omega)]
      omega
    · rw [Int32.le_iff_toInt_le, Int32.toInt_ofNat_of_lt hp] at z
      omega
/-- a file shortened -/
theorem RFl_cut {K : List AK} {σ σ' : RS} {k f q : Nat} {F : AF} (h : RFl K σ k f F) (hf : f < 2 ∨ 4 ≤ f) (e : ∀ g, g ∈ [38, 39, 40, 41, 42] → σ'.1 g k = σ.1 g k) (e36 : σ'.2 36 = σ.2 36) (hq : q ≤ (σ.1 37 k).toNatClampNeg) (e37 : σ'.1 37 k = Int32.ofNat q) : RFl K σ' k f (aU F.1 1 (Int32.ofNat q), F.2) := by
  obtain ⟨h1, h2, h3, ⟨S, hS, h4, h5, h6, h7⟩, h8, h9, h10⟩ := h
  rw [h3, h4, i_cl (by omega)] at hq
  refine ⟨(e 38 (by simp)).trans h1, h2, e37, ⟨q, by omega, rfl, fun z => by have := h5 z; omega, fun z => by have := h6 z; exact Nat.le_trans hq this, fun i v hi hv => ?_⟩, h8, fun x y => ?_, fun x y z => ?_⟩
  · show rB (σ'.2 36) (14000 * k + i) = v
    rw [e36]
    exact h7 i v (by omega) hv
  · rw [e 39 (by simp), e 40 (by simp)]
    exact h9 x y
  · omega
theorem M_cut {σ : RS} {a : AA} {u : AU} {s f : Nat} {n : Int32} (h : RM σ a u) (hs : s < 7) (hf : f < 16) (hf4 : 4 ≤ f) (hn : 0 ≤ n) (hzz : ¬ u.2 s) : WP (m_cut σ (Int32.ofNat s) (Int32.ofNat f) n) (fun σ' => RM σ' (aCut a s f n) u) := by
  rw [m_cut_n hs hf]
  have z := (h.2.2.2.2.2.1 s hs f hf).1
  obtain ⟨hS0, e0⟩ := RFl_S z
  have e1 : σ.1 37 (2 * (16 * s + f)) = (aFc a s f).1 1 := z.2.2.1
  obtain ⟨q, hq1, hq2⟩ := aMin_nat (p := (σ.1 37 (2 * rFx s f)).toNatClampNeg) (n := n) (by omega) hn
  rw [← e0] at hq1
  have hq1 : aMin (σ.1 37 (2 * (16 * s + f))) n = Int32.ofNat q := hq1
  have hz : aMin ((aFc a s f).1 1) n = Int32.ofNat q := by rw [← e1]; exact hq1
  unfold aCut
  dsimp only
  rw [hq1, hz, RM_43 h (by omega)]
  have hS : SLd (2 * rFx s f) σ (setI (setI (setI σ 44 (16 * s + f) 1) 37 (2 * (16 * s + f)) (Int32.ofNat q)) 43 (16 * s + f) (aMin (aS a 43 (16 * s + f)) (Int32.ofNat q))) := by
    refine SLd_I (SLd_I (SLd_I SLd_refl ?_) ?_) ?_ <;> (unfold FOf rFx; omega)
  refine WP_some (RM_put h hs hf hS ?_ (RFl_cut z (Or.inr hf4) (fun g hg => ?_) rfl hq2 ?_) (fun z => absurd z (by omega)) (fun _ z => rfl) (fun _ z k hk => ⟨?_, rfl⟩) ?_ ?_ (fun y => absurd y hzz))
  · rw [setI_f (by decide), setI_f (by decide)]
    exact setI_e
  · simp at hg
    rw [setI_f (by omega), setI_f (by omega), setI_f (by omega)]
  · rw [setI_f (by decide)]
    exact setI_e
  · rw [aWhole_len] at hk ⊢
    refine Nat.lt_of_lt_of_le hk (aWholes_mono _ _ _ ?_)
    show (Int32.ofNat q).toInt - 24 ≤ _
    rw [← e1, show σ.1 37 (2 * (16 * s + f)) = Int32.ofNat (σ.1 37 (2 * rFx s f)).toNatClampNeg from e0, Int32.toInt_ofNat_of_lt (by omega), Int32.toInt_ofNat_of_lt (by omega)]
    omega
  · exact setI_e
  · have hq0 : (0 : Int32) ≤ Int32.ofNat q := by
      rw [Int32.le_iff_toInt_le, Int32.toInt_ofNat_of_lt (by omega)]
      have : (0 : Int32).toInt = 0 := by decide
      omega
    show 0 ≤ _ ∧ _ ≤ Int32.ofNat q
    unfold aMin
    split
    · exact ⟨((RM_loc h).2.2.1 s hs f hf).1, by assumption⟩
    · exact ⟨hq0, Int32.le_refl _⟩
/-! syncs -/
theorem rsyF_S {σ : RS} {j S : Nat} (hS : S ≤ 14000) : SLd (2 * j + 1) σ (rsyF σ j S) := by
  unfold rsyF
  by_cases q : σ.1 44 j = 0
  · rw [if_pos q]
    exact SLd_refl
  · rw [if_neg q]
    refine ⟨fun f i hf => ?_, fun f i hf => ?_⟩
    · show (rcpF σ (2 * j) (2 * j + 1)).1 f i = _
      have : SLd (2 * j + 1) σ (rcpF σ (2 * j) (2 * j + 1)) := by
        unfold rcpF
        refine SLd_I (SLd_I (SLd_I (SLd_I (SLd_I (SLd_I SLd_refl ?_) ?_) ?_) ?_) ?_) ?_ <;> (unfold FOf; omega)
      exact this.1 f i hf
    · show (if f = 36 then rcpL (σ.2 36) (1750 * (2 * j)) (1750 * (2 * j + 1)) ((S + 7) / 8) i else σ.2 f i) = _
      by_cases q2 : f = 36
      · rw [if_pos q2, q2]
        unfold rcpL
        rw [if_neg (fun z => hf ⟨q2, by omega⟩)]
      · rw [if_neg q2]
theorem rsyF_e {σ : RS} {j S : Nat} (hS : S ≤ 14000) (h38 : σ.1 38 (2 * j) = 0 ∨ σ.1 38 (2 * j) = 1) (hu : σ.1 44 j = 0 → (∀ g, g ∈ [37, 38, 39, 40, 41, 42] → σ.1 g (2 * j + 1) = σ.1 g (2 * j)) ∧ ∀ i, i < S → rB (σ.2 36) (14000 * (2 * j + 1) + i) = rB (σ.2 36) (14000 * (2 * j) + i)) :
    (∀ g, g ∈ [37, 38, 39, 40, 41, 42] → (rsyF σ j S).1 g (2 * j + 1) = σ.1 g (2 * j)) ∧ ∀ i, i < S → rB ((rsyF σ j S).2 36) (14000 * (2 * j + 1) + i) = rB (σ.2 36) (14000 * (2 * j) + i) := by
  unfold rsyF
  by_cases q : σ.1 44 j = 0
  · rw [if_pos q]
    exact hu q
  · rw [if_neg q]
    refine ⟨fun g hg => ?_, fun i hi => ?_⟩
    · show (rcpF σ (2 * j) (2 * j + 1)).1 g (2 * j + 1) = _
      have e38 : σ.1 38 (2 * j) &&& 1 = σ.1 38 (2 * j) := by rcases h38 with z | z <;> (rw [z]; decide)
      unfold rcpF
      simp at hg
      rcases hg with rfl | rfl | rfl | rfl | rfl | rfl <;> simp [setI, e38]
    · rw [setW_e]
      unfold rB rcpL
      rw [if_pos (by omega), show 1750 * (2 * j) + ((14000 * (2 * j + 1) + i) / 8 - 1750 * (2 * j + 1)) = (14000 * (2 * j) + i) / 8 by omega, show (14000 * (2 * j + 1) + i) % 8 = (14000 * (2 * j) + i) % 8 by omega]
theorem aFk_syn {a : AA} {s f t g : Nat} : aFk (aSyncFile a s f) t g = if t = s ∧ g = f then aFc a s f else aFk a t g := by
  show (if t = s then aU (aFk a s) f (aFc a s f) else aFk a t) g = _
  by_cases q : t = s
  · subst q
    rw [if_pos rfl]
    show (if g = f then _ else aFk a t g) = _
    by_cases q2 : g = f
    · rw [if_pos q2, if_pos ⟨rfl, q2⟩]
    · rw [if_neg q2, if_neg (fun z => q2 z.2)]
  · rw [if_neg q, if_neg (fun z => q z.1)]
theorem M_syncFile {F : Nat} {σ : RS} {a : AA} {u : AU} {s f : Nat} (hF : 2000 ≤ F) (h : RM σ a u) (hs : s < 7) (hf : f < 16) : WP (m_syncFile F σ (Int32.ofNat s) (Int32.ofNat f)) (fun σ' => RM σ' (aSyncFile a s f) u) := by
  obtain ⟨z1, z2, z3, z4⟩ := h.2.2.2.2.2.1 s hs f hf
  obtain ⟨hS, e37⟩ := RFl_S z1
  rw [m_syncFile_n (S := (σ.1 37 (2 * rFx s f)).toNatClampNeg) (by omega) hs hf hS e37]
  generalize hS2 : (σ.1 37 (2 * rFx s f)).toNatClampNeg = S at hS
  have y1 := @rsyF_S σ (rFx s f) S hS
  have y2 := rsyF_e (σ := σ) (j := rFx s f) hS (by rw [z1.1]; exact z1.2.1) (fun q => by rw [← hS2]; exact z4 q)
  have ey : rsyF σ (16 * s + f) S = rsyF σ (rFx s f) S := rfl
  rw [ey]
  have hD : SLd (2 * rFx s f + 1) σ (setI (setI (rsyF σ (rFx s f) S) 44 (16 * s + f) 0) 43 (16 * s + f) (σ.1 37 (2 * (16 * s + f)))) := by
    refine SLd_I (SLd_I y1 ?_) ?_ <;> (unfold FOf rFx; omega)
  have eg : ∀ g, g ∈ [37, 38, 39, 40, 41, 42] → (setI (setI (rsyF σ (rFx s f) S) 44 (16 * s + f) 0) 43 (16 * s + f) (σ.1 37 (2 * (16 * s + f)))).1 g (2 * rFx s f + 1) = σ.1 g (2 * rFx s f) := by
    intro g hg
    rw [setI_f (by simp at hg; omega), setI_f (by simp at hg; omega)]
    exact y2.1 g hg
  have eb : ∀ i, i < S → rB ((setI (setI (rsyF σ (rFx s f) S) 44 (16 * s + f) 0) 43 (16 * s + f) (σ.1 37 (2 * (16 * s + f)))).2 36) (14000 * (2 * rFx s f + 1) + i) = rB (σ.2 36) (14000 * (2 * rFx s f) + i) := y2.2
  have e44 : (setI (setI (rsyF σ (rFx s f) S) 44 (16 * s + f) 0) 43 (16 * s + f) (σ.1 37 (2 * (16 * s + f)))).1 44 (rFx s f) = 0 := by
    rw [setI_f (by decide)]
    exact setI_e
  have e43 : (setI (setI (rsyF σ (rFx s f) S) 44 (16 * s + f) 0) 43 (16 * s + f) (σ.1 37 (2 * (16 * s + f)))).1 43 (rFx s f) = (aFc a s f).1 1 := by
    rw [← z1.2.2.1]
    exact setI_e
  generalize setI (setI (rsyF σ (rFx s f) S) 44 (16 * s + f) 0) 43 (16 * s + f) (σ.1 37 (2 * (16 * s + f))) = τ at hD eg eb e44 e43
  have hFr := SLd_Fr hD
  have hsc : RSc τ (aI a 43 (rFx s f) ((aFc a s f).1 1)) := by
    refine ⟨fun g hg i hi => ?_, ?_, fun t ht => ?_⟩
    · show _ = if g = 43 ∧ i = rFx s f then (aFc a s f).1 1 else a.1.1 g i
      by_cases q : g = 43 ∧ i = rFx s f
      · rw [if_pos q, q.1, q.2]
        exact e43
      · rw [if_neg q, hD.1 g i ?_]
        · exact h.1.1 g hg i hi
        · intro y
          have h44 : g ≠ 44 := fun x => by rw [x] at hg; exact absurd hg (by decide)
          have h37 : ¬ (37 ≤ g ∧ g ≤ 42) := fun x => by
            have : g = 37 ∨ g = 38 ∨ g = 39 ∨ g = 40 ∨ g = 41 ∨ g = 42 := by omega
            rcases this with rfl | rfl | rfl | rfl | rfl | rfl <;> exact absurd hg (by decide)
          unfold FOf at y
          omega
    · rw [hFr.2 28 (by decide)]
      exact h.1.2.1
    · rw [hFr.2 84 (by decide)]
      exact h.1.2.2 t ht
  have hdk : ∀ t, t < 7 → RDk (aAk a) τ t (aFc a t) (aFk (aSyncFile a s f) t) := by
    intro t ht g hg
    obtain ⟨w1, w2, w3, w4⟩ := h.2.2.2.2.2.1 t ht g hg
    rw [aFk_syn]
    by_cases q : t = s ∧ g = f
    · rw [if_pos q]
      obtain ⟨rfl, rfl⟩ := q
      have hcur : ∀ x, x ∈ [37, 38, 39, 40, 41, 42] → τ.1 x (2 * rFx t g) = σ.1 x (2 * rFx t g) := by
        intro x hx
        refine hD.1 x _ (fun y => ?_)
        unfold FOf at y
        simp at hx
        omega
      refine ⟨RFl_o hD (by omega) w1, RFl_eq eg (by rw [hS2]; exact eb) w1, Or.inl e44, fun _ => ⟨fun x hx => (eg x hx).trans (hcur x hx).symm, fun i hi => ?_⟩⟩
      rw [hcur 37 (by simp), hS2] at hi
      rw [eb i hi, SLd_b hD (by omega) (by omega)]
    · rw [if_neg q]
      have hne : rFx t g ≠ rFx s f := by
        unfold rFx
        omega
      have hcur : ∀ x, x ∈ [37, 38, 39, 40, 41, 42] → ∀ b, b < 2 → τ.1 x (2 * rFx t g + b) = σ.1 x (2 * rFx t g + b) := by
        intro x hx b hb
        refine hD.1 x _ (fun y => ?_)
        unfold FOf at y
        simp at hx
        omega
      have h44 : τ.1 44 (rFx t g) = σ.1 44 (rFx t g) := hD.1 44 _ (by unfold FOf; omega)
      refine ⟨RFl_o hD (by omega) w1, RFl_o hD (by omega) w2, by rw [h44]; exact w3, fun y => ?_⟩
      rw [h44] at y
      obtain ⟨v1, v2⟩ := w4 y
      refine ⟨fun x hx => by rw [hcur x hx 1 (by omega)]; exact (v1 x hx).trans (hcur x hx 0 (by omega)).symm, fun i hi => ?_⟩
      have h0 : τ.1 37 (2 * rFx t g) = σ.1 37 (2 * rFx t g) := hcur 37 (by simp) 0 (by omega)
      rw [h0] at hi
      have := (RFl_S w1).1
      rw [SLd_b hD (by omega) (by omega), SLd_b hD (by omega) (by omega)]
      exact v2 i hi
  have hsl : ∀ t, t < 7 → RSl τ t (aS a 150 t) (aFc a t) (aFk (aSyncFile a s f) t) := by
    intro t ht x y hx hy
    have e48 : τ.1 48 0 = σ.1 48 0 := hD.1 48 0 (by unfold FOf; omega)
    have ex : ∀ x : Nat × Bool, x.1 < 2 → ∃ x' : Nat × Bool, x'.1 < 2 ∧ (if x.2 then aFc a t x.1 else aFk (aSyncFile a s f) t x.1) = (if x'.2 then aFc a t x'.1 else aFk a t x'.1) ∧ τ.1 41 (2 * rFx t x.1 + if x.2 then 0 else 1) = σ.1 41 (2 * rFx t x'.1 + if x'.2 then 0 else 1) := by
      intro x hx
      by_cases q : t = s ∧ x.1 = f ∧ x.2 = false
      · refine ⟨(x.1, true), hx, ?_, ?_⟩
        · rw [q.2.2]
          show aFk (aSyncFile a s f) t x.1 = aFc a t x.1
          rw [aFk_syn, if_pos ⟨q.1, q.2.1⟩, q.1, q.2.1]
        · rw [q.2.2, q.1, q.2.1]
          exact eg 41 (by simp)
      · refine ⟨x, hx, ?_, ?_⟩
        · cases hb : x.2 with
          | true => rfl
          | false =>
            show aFk (aSyncFile a s f) t x.1 = aFk a t x.1
            rw [aFk_syn, if_neg (fun z => q ⟨z.1, z.2, hb⟩)]
        · refine hD.1 41 _ (fun y => ?_)
          unfold FOf at y
          cases hb : x.2 with
          | true =>
            rw [hb] at y
            simp at y
            omega
          | false =>
            rw [hb] at y
            simp at y
            unfold rFx at y
            exact q ⟨by omega, by omega, hb⟩
    obtain ⟨x', hx', ex1, ex2⟩ := ex x hx
    obtain ⟨y', hy', ey1, ey2⟩ := ex y hy
    have := h.2.2.2.2.2.2.1 t ht x' y' hx' hy'
    dsimp only at this ⊢
    rw [ex1, ey1, ex2, ey2, e48]
    exact this
  have hlc : aLoc (aSyncFile a s f) := by
    have e0 : (0 : Int32) ≤ (aFc a s f).1 1 := by
      rw [← z1.2.2.1, e37, hS2, Int32.le_iff_toInt_le, Int32.toInt_ofNat_of_lt (by omega)]
      have : (0 : Int32).toInt = 0 := by decide
      omega
    have := aLoc_43 (F := aFc a s f) (s := s) (v := (aFc a s f).1 1) h.2.2.2.2.2.2.2.2.2.2.2.2.2.2.2.2.2.2.2.1 hf ⟨e0, Int32.le_refl _⟩
    refine ⟨this.1, this.2.1, fun t ht g hg => ?_, this.2.2.2.1, this.2.2.2.2⟩
    have z := this.2.2.1 t ht g hg
    have ef : aFc (aI (aPut a s f (aFc a s f)) 43 (16 * s + f) ((aFc a s f).1 1)) t g = aFc a t g := by
      show aFc (aPut a s f (aFc a s f)) t g = _
      rw [aFc_put]
      by_cases q : t = s ∧ g = f
      · rw [if_pos q, q.1, q.2]
      · rw [if_neg q]
    rw [ef] at z
    exact z
  exact WP_some (show RM τ (aSyncFile a s f) u from ⟨hsc, RWay_fr hFr (by decide) h.2.1, fun s hs => RWt_fr hFr (by decide) (h.2.2.1 s hs), fun l hl => RLt_fr hFr (by decide) (h.2.2.2.1 l hl), fun s hs => RLog_fr hFr (by decide) (h.2.2.2.2.1 s hs), hdk, hsl, fun s hs hu => RCh_fr hFr (by decide) (h.2.2.2.2.2.2.2.1 s hs hu), fun s hs hu => RAt_fr hFr (by decide) (h.2.2.2.2.2.2.2.2.1 s hs hu), fun s hs => RMc_fr hFr (by decide) (h.2.2.2.2.2.2.2.2.2.1 s hs), fun s hs => RSh_fr hFr (by decide) (h.2.2.2.2.2.2.2.2.2.2.1 s hs), fun s hs => RPc_fr hFr (by decide) (h.2.2.2.2.2.2.2.2.2.2.2.1 s hs), fun s hs => RRq_fr hFr (by decide) (h.2.2.2.2.2.2.2.2.2.2.2.2.1 s hs), RAk_fr hFr (by decide) h.2.2.2.2.2.2.2.2.2.2.2.2.2.1, fun s hs => RWn_fr hFr (by decide) (h.2.2.2.2.2.2.2.2.2.2.2.2.2.2.1 s hs), RTp_fr hFr (by decide) h.2.2.2.2.2.2.2.2.2.2.2.2.2.2.2.1, RRe_fr hFr (by decide) h.2.2.2.2.2.2.2.2.2.2.2.2.2.2.2.2.1, fun s hs => RDn_fr hFr (by decide) (h.2.2.2.2.2.2.2.2.2.2.2.2.2.2.2.2.2.1 s hs), RSum_fr hFr (by decide) h.2.2.2.2.2.2.2.2.2.2.2.2.2.2.2.2.2.2.1, hlc, h.2.2.2.2.2.2.2.2.2.2.2.2.2.2.2.2.2.2.2.2.1, h.2.2.2.2.2.2.2.2.2.2.2.2.2.2.2.2.2.2.2.2.2.1, h.2.2.2.2.2.2.2.2.2.2.2.2.2.2.2.2.2.2.2.2.2.2.1, h.2.2.2.2.2.2.2.2.2.2.2.2.2.2.2.2.2.2.2.2.2.2.2⟩)
theorem M_syncAll_l {F : Nat} {a : AA} {u : AU} {s : Nat} (hF : 2000 ≤ F) (hs : s < 7) : ∀ n k (τ : RS), 17 ≤ k + n → k ≤ 16 → RM τ (aSyncFiles a s k) u → WP (m_syncAll_b2 F n τ (Int32.ofNat s) (Int32.ofNat k)) (fun σ' => RM σ' (A_syncAll a s) u) := by
  intro n
  induction n with
  | zero => intro k τ h1 h2; omega
  | succ n ih =>
    intro k τ h1 h2 h
    unfold m_syncAll_b2
    refine WP_if (p := 16 ≤ k) (i_gei (q := 16) (by omega) (by omega)) (fun q => ?_) (fun q => ?_)
    · have : k = 16 := by omega
      subst this
      refine WP_st rfl 7 (by decide +kernel) hs ?_
      refine WP_st rfl 7 (by decide +kernel) hs ?_
      exact WP_some (RM_I (RM_46 h) (by decide))
    · refine WP_call (M_syncFile hF h hs (by omega)) (fun p hp => ?_)
      rw [i_s]
      exact ih (k + 1) p (by omega) (by omega) hp
theorem M_syncAll {F : Nat} {σ : RS} {a : AA} {u : AU} {s : Nat} (hF : 2000 ≤ F) (h : RM σ a u) (hs : s < 7) : WP (m_syncAll F σ (Int32.ofNat s)) (fun σ' => RM σ' (A_syncAll a s) u) := M_syncAll_l hF hs F 0 σ (by omega) (by omega) h
