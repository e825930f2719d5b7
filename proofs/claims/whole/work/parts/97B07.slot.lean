/-! TERM and VOTED are written -/
theorem i_succ {x : Int32} (h : x.toInt < 2147483647) : (x + 1).toInt = x.toInt + 1 := by
  rw [Int32.toInt_add, show (1 : Int32).toInt = 1 by decide]
  have := x.le_toInt
  rw [Int.bmod_def]
  omega
theorem i_0 : (0 : Int32).toInt = 0 := by decide
theorem i_nat {x : Int32} (h : 0 ≤ x) : x.toInt = (x.toNatClampNeg : Int) := by
  rw [Int32.le_iff_toInt_le, i_0] at h
  unfold Int32.toNatClampNeg
  omega
theorem i_of {x : Int32} (h : 0 ≤ x) : x = Int32.ofNat x.toNatClampNeg := by
  have h1 := i_nat h
  have h2 := x.toInt_lt
  rw [← Int32.toInt_inj, Int32.toInt_ofNat_of_lt (by omega)]
  exact h1
theorem SLd_X {k g j : Nat} {σ τ : RS} {v : Int32} (h : SLd k σ τ) : SLd k (setI σ g j v) (setI τ g j v) := by
  refine ⟨fun f i hf => ?_, h.2⟩
  show (if _ then _ else _) = (if _ then _ else _)
  rw [h.1 f i hf]
theorem SLd_48 {k : Nat} {σ τ : RS} {v : Int32} (h : SLd k σ τ) : SLd k (setI σ 48 0 v) (setI τ 48 0 v) := by
  refine ⟨fun f i hf => ?_, h.2⟩
  show (if _ then _ else _) = (if _ then _ else _)
  rw [h.1 f i hf]
theorem wN_le {a : AA} {s : Nat} (hs : s < 7) : (aS a 150 s).toNatClampNeg ≤ wN a := by
  unfold wN
  have : s = 0 ∨ s = 1 ∨ s = 2 ∨ s = 3 ∨ s = 4 ∨ s = 5 ∨ s = 6 := by omega
  rcases this with rfl | rfl | rfl | rfl | rfl | rfl | rfl <;> omega
theorem aSum_n {a : AA} (h : aLoc a) : aSum a = Int32.ofNat (wN a) := by
  unfold aSum wN
  rw [Int32.ofNat_add, Int32.ofNat_add, Int32.ofNat_add, Int32.ofNat_add, Int32.ofNat_add, Int32.ofNat_add]
  have e := fun s hs => i_of (h.2.2.2.1 s hs)
  rw [← e 0 (by omega), ← e 1 (by omega), ← e 2 (by omega), ← e 3 (by omega), ← e 4 (by omega), ← e 5 (by omega), ← e 6 (by omega)]
theorem i_clx {x : Int32} {n : Nat} (h : x = Int32.ofNat n) (hn : n < 2147483648) : x.toNatClampNeg = n := by
  rw [h, i_cl hn]
theorem aSum_add {a : AA} {s : Nat} (hs : s < 7) : aSum (aAdd a 150 s 1) = aSum a + 1 := by
  have e : ∀ t, aS (aAdd a 150 s 1) 150 t = if t = s then aS a 150 t + 1 else aS a 150 t := by
    intro t
    show (if 150 = 150 ∧ t = s then _ else _) = _
    by_cases q : t = s
    · rw [if_pos ⟨rfl, q⟩, if_pos q, q]
    · rw [if_neg (fun z => q z.2), if_neg q]
      rfl
  unfold aSum
  simp only [e]
  have : s = 0 ∨ s = 1 ∨ s = 2 ∨ s = 3 ∨ s = 4 ∨ s = 5 ∨ s = 6 := by omega
  rcases this with rfl | rfl | rfl | rfl | rfl | rfl | rfl <;> simp <;> ac_rfl
theorem wN_add {a : AA} {s : Nat} (hs : s < 7) (h : aLoc a) (hw : wN a < 2147483647) : wN (aAdd a 150 s 1) = wN a + 1 := by
  have e : ∀ t, t < 7 → (aS (aAdd a 150 s 1) 150 t).toNatClampNeg = if t = s then (aS a 150 t).toNatClampNeg + 1 else (aS a 150 t).toNatClampNeg := by
    intro t ht
    show (if 150 = 150 ∧ t = s then _ else _ : Int32).toNatClampNeg = _
    by_cases q : t = s
    · subst q
      rw [if_pos ⟨rfl, rfl⟩, if_pos rfl]
      have h1 := i_of (h.2.2.2.1 t ht)
      have := wN_le (a := a) ht
      exact i_clx (by rw [h1, i_s, i_cl (by omega)]) (by omega)
    · rw [if_neg (fun z => q z.2), if_neg q]
      rfl
  unfold wN
  rw [e 0 (by omega), e 1 (by omega), e 2 (by omega), e 3 (by omega), e 4 (by omega), e 5 (by omega), e 6 (by omega)]
  have : s = 0 ∨ s = 1 ∨ s = 2 ∨ s = 3 ∨ s = 4 ∨ s = 5 ∨ s = 6 := by omega
  rcases this with rfl | rfl | rfl | rfl | rfl | rfl | rfl <;> simp <;> omega
theorem aLoc_150 {a : AA} {s : Nat} (hs : s < 7) (h : aLoc a) (hw : wN a < 2147483647) : aLoc (aAdd a 150 s 1) := by
  refine ⟨h.1, h.2.1, h.2.2.1, fun t ht => ?_, h.2.2.2.2⟩
  show 0 ≤ if 150 = 150 ∧ t = s then aS a 150 s + 1 else aS a 150 t
  by_cases q : t = s
  · rw [if_pos ⟨rfl, q⟩]
    have h1 := i_nat (h.2.2.2.1 s hs)
    have := wN_le (a := a) hs
    rw [Int32.le_iff_toInt_le, i_0, i_succ (by omega)]
    omega
  · rw [if_neg (fun z => q z.2)]
    exact h.2.2.2.1 t ht
theorem RM_putS {σ σ' : RS} {a : AA} {u : AU} {s f : Nat} {F : AF} (h : RM σ a u) (hs : s < 7) (hf : f < 2) (hw : wN a < 2147483647) (hS : SLd (2 * rFx s f) (setI σ 48 0 (σ.1 48 0 + 1)) σ') (ht : σ'.1 44 (rFx s f) = 1) (hR : RFl (aAk a) σ' (2 * rFx s f) f F)
    (h0 : F.1 0 = 1) (h2 : F.1 2 = aS a 150 s + 1) (h41 : σ'.1 41 (2 * rFx s f) = σ.1 48 0 + 1) (hv : σ'.1 43 (rFx s f) = 0) (h10 : 0 ≤ F.1 1) : RM σ' (aI (aPut (aAdd a 150 s 1) s f F) 43 (rFx s f) 0) u := by
  have hl := RM_loc h
  have eS := h.2.2.2.2.2.2.2.2.2.2.2.2.2.2.2.2.2.2.1
  have hF1 : Fr [48] [] σ (setI σ 48 0 (σ.1 48 0 + 1)) := Fr_I
  have hF := Fr_t hF1 (SLd_Fr hS)
  have eN := aSum_n hl
  have sN : (σ.1 48 0).toInt = wN a := by
    rw [eS, eN, Int32.toInt_ofNat_of_lt (by omega)]
  have eN1 : (σ.1 48 0 + 1).toInt = wN a + 1 := by
    rw [i_succ (by omega)]
    omega
  have wS : (aS a 150 s).toInt < 2147483647 := by
    have := wN_le (a := a) hs
    rw [i_nat (hl.2.2.2.1 s hs)]
    omega
  have hch : ∀ t, t < 7 → aS a 52 t = 1 → ∀ g ∈ aCh a t, 4 ≤ g := by
    intro t ht hu g hg
    obtain ⟨i, hi, e⟩ := List.getElem_of_mem hg
    have := ((h.2.2.2.2.2.2.2.1 t ht hu).2.2 i hi).1
    rw [List.getD_eq_getElem?_getD, List.getElem?_eq_getElem hi] at this
    simp at this
    omega
  have e48 : σ'.1 48 0 = σ.1 48 0 + 1 := by
    rw [hS.1 48 0 (by unfold FOf; omega)]
    exact setI_e
  -- beside the slot: as RM_put at a file of its own kind
  have eFc : ∀ t g, aFc (aPut (aAdd a 150 s 1) s f F) t g = if t = s ∧ g = f then F else aFc a t g := fun t g => aFc_put
  have hdk : ∀ t, t < 7 → RDk (aAk a) σ' t (aFc (aPut (aAdd a 150 s 1) s f F) t) (aFk a t) := by
    intro t ht7 g hg
    obtain ⟨z1, z2, z3, z4⟩ := RDk_fr hF1 (by decide) (h.2.2.2.2.2.1 t ht7) g hg
    by_cases q2 : t = s ∧ g = f
    · obtain ⟨rfl, rfl⟩ := q2
      refine ⟨?_, RFl_o hS (by omega) z2, Or.inr ht, fun y => absurd (ht.symm.trans y) (by decide)⟩
      rw [eFc, if_pos ⟨rfl, rfl⟩]
      exact hR
    · rw [eFc, if_neg q2]
      have hne : rFx t g ≠ rFx s f := by unfold rFx; omega
      have e44 : σ'.1 44 (rFx t g) = (setI σ 48 0 (σ.1 48 0 + 1)).1 44 (rFx t g) := hS.1 44 _ (by unfold FOf; omega)
      have eg : ∀ w, w ∈ [37, 38, 39, 40, 41, 42] → ∀ b, b < 2 → σ'.1 w (2 * rFx t g + b) = (setI σ 48 0 (σ.1 48 0 + 1)).1 w (2 * rFx t g + b) := by
        intro w hw b hb
        refine hS.1 w _ (fun y => ?_)
        unfold FOf at y
        simp at hw
        omega
      refine ⟨RFl_o hS (by omega) z1, RFl_o hS (by omega) z2, by rw [e44]; exact z3, fun y => ?_⟩
      rw [e44] at y
      obtain ⟨y1, y2⟩ := z4 y
      refine ⟨fun w hw => ?_, fun i hi => ?_⟩
      · rw [eg w hw 1 (by omega), show 2 * rFx t g = 2 * rFx t g + 0 from rfl, eg w hw 0 (by omega)]
        exact y1 w hw
      · rw [show 2 * rFx t g = 2 * rFx t g + 0 from rfl, eg 37 (by simp) 0 (by omega)] at hi
        have := (RFl_S z1).1
        rw [SLd_b hS (by omega) (by simp at hi ⊢; omega), SLd_b hS (by omega) (by simp at hi ⊢; omega)]
        exact y2 i hi
  have hc : ∀ t, t < 7 → aS a 52 t = 1 → RCh σ' t (aFc (aPut (aAdd a 150 s 1) s f F) t) (aCh a t) := by
    intro t ht7 hu
    obtain ⟨z1, z2, z3⟩ := RCh_fr hF (by decide) (h.2.2.2.2.2.2.2.1 t ht7 hu)
    refine ⟨z1, z2, fun i hi => ?_⟩
    obtain ⟨y1, y2, y3, y4⟩ := z3 i hi
    refine ⟨y1, y2, y3, ?_⟩
    rw [y4, eFc, if_neg (by omega)]
  have ha : ∀ t, t < 7 → aS a 52 t = 1 → RAt σ' t (aS a 55 t) (aLg a t) (aFc (aPut (aAdd a 150 s 1) s f F) t) (aCh a t) := by
    intro t ht7 hu g hg k i hi hk e
    have z := RAt_fr hF (by decide) (h.2.2.2.2.2.2.2.2.1 t ht7 hu) g hg k i hi
    have hne : ¬ (t = s ∧ g = f) := by
      have := hch t ht7 hu g hg
      omega
    rw [eFc, if_neg hne] at hk e ⊢
    exact z hk e
  have hwc : ∀ t, t < 7 → u.2 t → aS a 52 t = 1 → WCh (aPut (aAdd a 150 s 1) s f F) t := by
    intro t ht7 hz hu
    have old := h.2.2.2.2.2.2.2.2.2.2.2.2.2.2.2.2.2.2.2.2.2.1 t ht7 hz hu
    have e : ∀ g, 4 ≤ g → aFc (aPut (aAdd a 150 s 1) s f F) t g = aFc a t g := fun g hg => by rw [eFc, if_neg (by omega)]
    exact WCh_c old rfl rfl rfl e
  have hsl : ∀ t, t < 7 → RSl σ' t (aS (aAdd a 150 s 1) 150 t) (aFc (aPut (aAdd a 150 s 1) s f F) t) (aFk a t) := by
    intro t ht7
    have old := h.2.2.2.2.2.2.1 t ht7
    have e41 : ∀ x : Nat × Bool, x.1 < 2 → ¬ (t = s ∧ x.1 = f ∧ x.2 = true) → σ'.1 41 (2 * rFx t x.1 + if x.2 then 0 else 1) = σ.1 41 (2 * rFx t x.1 + if x.2 then 0 else 1) := by
      intro x hx q
      rw [hS.1 41 _ (fun y => ?_)]
      · exact setI_f (by decide)
      · unfold FOf rFx at y
        cases hb : x.2 with
        | true =>
          rw [hb] at y
          simp at y
          exact q ⟨by omega, by omega, hb⟩
        | false =>
          rw [hb] at y
          simp at y
          omega
    have eF : ∀ x : Nat × Bool, ¬ (t = s ∧ x.1 = f ∧ x.2 = true) → (if x.2 then aFc (aPut (aAdd a 150 s 1) s f F) t x.1 else aFk a t x.1) = (if x.2 then aFc a t x.1 else aFk a t x.1) := by
      intro x q
      cases hb : x.2 with
      | true =>
        show aFc _ t x.1 = aFc a t x.1
        rw [eFc, if_neg (fun z => q ⟨z.1, z.2, hb⟩)]
      | false => rfl
    have eFn : ∀ x : Nat × Bool, t = s ∧ x.1 = f ∧ x.2 = true → (if x.2 then aFc (aPut (aAdd a 150 s 1) s f F) t x.1 else aFk a t x.1) = F ∧ σ'.1 41 (2 * rFx t x.1 + if x.2 then 0 else 1) = σ.1 48 0 + 1 := by
      intro x q
      rw [q.2.2]
      refine ⟨?_, ?_⟩
      · show aFc _ t x.1 = F
        rw [eFc, if_pos ⟨q.1, q.2.1⟩]
      · rw [q.1, q.2.1]
        exact h41
    have ew : aS (aAdd a 150 s 1) 150 t = if t = s then aS a 150 s + 1 else aS a 150 t := by
      show (if 150 = 150 ∧ t = s then _ else _) = _
      by_cases q : t = s
      · rw [if_pos ⟨rfl, q⟩, if_pos q]
      · rw [if_neg (fun z => q z.2), if_neg q]
        rfl
    have wle : ∀ x, x ≤ aS a 150 t → x ≤ aS (aAdd a 150 s 1) 150 t ∧ (t = s → x < aS a 150 s + 1) := by
      intro x hx
      rw [Int32.le_iff_toInt_le] at hx
      refine ⟨?_, fun q => ?_⟩
      · rw [ew]
        by_cases q : t = s
        · rw [if_pos q, Int32.le_iff_toInt_le, i_succ wS]
          rw [q] at hx
          omega
        · rw [if_neg q, Int32.le_iff_toInt_le]
          exact hx
      · rw [Int32.lt_iff_toInt_lt, i_succ wS, ← q]
        omega
    have sle : ∀ x, x ≤ σ.1 48 0 → x ≤ σ.1 48 0 + 1 ∧ x < σ.1 48 0 + 1 := by
      intro x hx
      rw [Int32.le_iff_toInt_le] at hx
      rw [Int32.le_iff_toInt_le, Int32.lt_iff_toInt_lt, eN1]
      omega
    have nlt : ∀ x y : Int32, x ≤ y → ¬ y < x := by
      intro x y hx
      rw [Int32.le_iff_toInt_le] at hx
      rw [Int32.lt_iff_toInt_lt]
      omega
    intro x y hx hy
    dsimp only
    rw [e48]
    by_cases qx : t = s ∧ x.1 = f ∧ x.2 = true
    · rw [(eFn x qx).1, (eFn x qx).2, h2, ew, if_pos qx.1]
      refine fun _ => ⟨Int32.le_refl _, Int32.le_refl _, ?_⟩
      by_cases qy : t = s ∧ y.1 = f ∧ y.2 = true
      · rw [(eFn y qy).1, (eFn y qy).2, h2]
        exact fun _ => ⟨fun z => absurd z (nlt _ _ (Int32.le_refl _)), fun z => absurd z (nlt _ _ (Int32.le_refl _))⟩
      · rw [eF y qy, e41 y hy qy]
        intro hy0
        have o := old y y hy hy hy0
        have a1 := (sle _ o.2.1).1
        have a2 := (wle _ o.1).1
        rw [ew, if_pos qx.1] at a2
        exact ⟨fun z => absurd z (nlt _ _ a1), fun z => absurd z (nlt _ _ a2)⟩
    · rw [eF x qx, e41 x hx qx]
      intro hx0
      have o := old x y hx hy hx0
      refine ⟨(wle _ o.1).1, (sle _ o.2.1).1, ?_⟩
      by_cases qy : t = s ∧ y.1 = f ∧ y.2 = true
      · rw [(eFn y qy).1, (eFn y qy).2, h2]
        exact fun _ => ⟨fun _ => (wle _ o.1).2 qy.1, fun _ => (sle _ o.2.1).2⟩
      · rw [eF y qy, e41 y hy qy]
        exact o.2.2
  have hsc : RSc σ' (aI (aPut (aAdd a 150 s 1) s f F) 43 (rFx s f) 0) := by
    have s1 : RSc (setI σ 48 0 (σ.1 48 0 + 1)) (aPut (aAdd a 150 s 1) s f F) := by
      have s0 := RSc_fr hF1 (by decide) h.1
      refine ⟨fun g hg i hi => ?_, s0.2.1, s0.2.2⟩
      rw [s0.1 g hg i hi]
      show _ = if g = 150 ∧ i = s then _ else a.1.1 g i
      rw [if_neg (fun z => by rw [z.1] at hg; exact absurd hg (by decide))]
    exact RSc_43 hS s1 hv
  have hsum : σ'.1 48 0 = aSum (aI (aPut (aAdd a 150 s 1) s f F) 43 (rFx s f) 0) := by
    rw [e48, eS]
    exact (aSum_add hs).symm
  have hrq : ∀ t, t < 7 → RRq (aAk a) σ' t (u.1.2 t) (aS a 151 t) (aRq a t) := fun t ht => RRq_fr hF (by decide) (h.2.2.2.2.2.2.2.2.2.2.2.2.1 t ht)
  exact ⟨hsc, RWay_fr hF (by decide) h.2.1, fun s hs => RWt_fr hF (by decide) (h.2.2.1 s hs), fun l hl => RLt_fr hF (by decide) (h.2.2.2.1 l hl), fun s hs => RLog_fr hF (by decide) (h.2.2.2.2.1 s hs), hdk, hsl, hc, ha, fun s hs => RMc_fr hF (by decide) (h.2.2.2.2.2.2.2.2.2.1 s hs), fun s hs => RSh_fr hF (by decide) (h.2.2.2.2.2.2.2.2.2.2.1 s hs), fun s hs => RPc_fr hF (by decide) (h.2.2.2.2.2.2.2.2.2.2.2.1 s hs), hrq, RAk_fr hF (by decide) h.2.2.2.2.2.2.2.2.2.2.2.2.2.1, fun s hs => RWn_fr hF (by decide) (h.2.2.2.2.2.2.2.2.2.2.2.2.2.2.1 s hs), RTp_fr hF (by decide) h.2.2.2.2.2.2.2.2.2.2.2.2.2.2.2.1, RRe_fr hF (by decide) h.2.2.2.2.2.2.2.2.2.2.2.2.2.2.2.2.1, fun s hs => RDn_fr hF (by decide) (h.2.2.2.2.2.2.2.2.2.2.2.2.2.2.2.2.2.1 s hs), hsum, aLoc_43 (aLoc_150 hs hl hw) (by omega) ⟨Int32.le_refl _, h10⟩, h.2.2.2.2.2.2.2.2.2.2.2.2.2.2.2.2.2.2.2.2.1, hwc, h.2.2.2.2.2.2.2.2.2.2.2.2.2.2.2.2.2.2.2.2.2.2.1, h.2.2.2.2.2.2.2.2.2.2.2.2.2.2.2.2.2.2.2.2.2.2.2⟩
