/-! the disk -/
def FOf (f i k : Nat) : Prop := (37 ≤ f ∧ f ≤ 42 ∧ i = k) ∨ ((f = 43 ∨ f = 44) ∧ i = k / 2)
/-- only what lies in a file's place has changed -/
def SLd (k : Nat) (σ σ' : RS) : Prop := (∀ f i, ¬ FOf f i k → σ'.1 f i = σ.1 f i) ∧ ∀ f i, ¬ (f = 36 ∧ i / 1750 = k) → σ'.2 f i = σ.2 f i
theorem SLd_refl {b : Nat} {σ : RS} : SLd b σ σ := ⟨fun _ _ _ => rfl, fun _ _ _ => rfl⟩
theorem SLd_I {b : Nat} {σ τ : RS} {f i : Nat} {v : Int32} (h : SLd b σ τ) (q : FOf f i b) : SLd b σ (setI τ f i v) := by
  refine ⟨fun g j hg => ?_, h.2⟩
  rw [← h.1 g j hg]
  exact if_neg (fun z => hg (by rw [z.1, z.2]; exact q))
theorem SLd_L {b : Nat} {σ τ : RS} {i : Nat} {v : Int64} (h : SLd b σ τ) (q : i / 1750 = b) : SLd b σ (setL τ 36 i v) := by
  refine ⟨h.1, fun g j hg => ?_⟩
  rw [← h.2 g j hg]
  exact if_neg (fun z => hg ⟨z.1, by rw [z.2]; exact q⟩)
theorem SLd_t {b : Nat} {σ τ τ' : RS} (h : SLd b σ τ) (h' : SLd b τ τ') : SLd b σ τ' := ⟨fun f i q => (h'.1 f i q).trans (h.1 f i q), fun f i q => (h'.2 f i q).trans (h.2 f i q)⟩
theorem SLd_Fr {b : Nat} {σ σ' : RS} (h : SLd b σ σ') : Fr [37, 38, 39, 40, 41, 42, 43, 44] [36] σ σ' := by
  refine ⟨fun f hf => ?_, fun f hf => ?_⟩
  · funext i
    refine h.1 f i (fun z => hf ?_)
    unfold FOf at z
    simp
    omega
  · funext i
    exact h.2 f i (fun z => hf (by simp [z.1]))
/-- a file that lies in a place lies in another with the same words -/
theorem RFl_eq {K : List AK} {σ σ' : RS} {k k' f : Nat} {F : AF} (e : ∀ g, g ∈ [37, 38, 39, 40, 41, 42] → σ'.1 g k' = σ.1 g k) (eb : ∀ i, i < (σ.1 37 k).toNatClampNeg → rB (σ'.2 36) (14000 * k' + i) = rB (σ.2 36) (14000 * k + i)) (h : RFl K σ k f F) : RFl K σ' k' f F := by
  obtain ⟨h1, h2, h3, ⟨S, hS, h4, h5, h6, h7⟩, h8, h9, h10⟩ := h
  rw [h3, h4, i_cl (by omega)] at eb
  refine ⟨(e 38 (by simp)).trans h1, h2, (e 37 (by simp)).trans h3, ⟨S, hS, h4, h5, h6, fun i v hi hv => ?_⟩, h8, fun x y => ?_, fun x y z => ?_⟩
  · show rB (σ'.2 36) (14000 * k' + i) = v
    rw [eb i hi]
    exact h7 i v hi hv
  · rw [e 39 (by simp), e 40 (by simp)]
    exact h9 x y
  · rw [e 39 (by simp), e 40 (by simp), e 41 (by simp), e 42 (by simp)]
    exact h10 x y z
theorem SLd_b {k k' : Nat} {σ σ' : RS} (h : SLd k σ σ') (q : k' ≠ k) {i : Nat} (hi : i < 14000) : rB (σ'.2 36) (14000 * k' + i) = rB (σ.2 36) (14000 * k' + i) := by
  unfold rB
  rw [h.2 36 _ (by omega)]
theorem RFl_S {K : List AK} {σ : RS} {k f : Nat} {F : AF} (h : RFl K σ k f F) : (σ.1 37 k).toNatClampNeg ≤ 14000 ∧ σ.1 37 k = Int32.ofNat (σ.1 37 k).toNatClampNeg := by
  obtain ⟨h1, h2, h3, ⟨S, hS, h4, h5, h6, h7⟩, h8, h9, h10⟩ := h
  rw [h3, h4, i_cl (by omega)]
  exact ⟨hS, rfl⟩
theorem RFl_o {K : List AK} {σ σ' : RS} {k k' f : Nat} {F : AF} (h : SLd k σ σ') (q : k' ≠ k) (z : RFl K σ k' f F) : RFl K σ' k' f F := by
  refine RFl_eq (fun g hg => h.1 g k' ?_) (fun i hi => SLd_b h q (by have := (RFl_S z).1; omega)) z
  intro y
  unfold FOf at y
  simp at hg
  omega
theorem RDk_o {K : List AK} {σ σ' : RS} {k s : Nat} {fc fk : Nat → AF} (h : SLd (2 * k) σ σ') (q : ∀ f, f < 16 → 16 * s + f ≠ k) (z : RDk K σ s fc fk) : RDk K σ' s fc fk := by
  intro f hf
  have hq := q f hf
  obtain ⟨z1, z2, z3, z4⟩ := z f hf
  have e44 : σ'.1 44 (rFx s f) = σ.1 44 (rFx s f) := h.1 44 _ (by unfold FOf rFx; omega)
  have eg : ∀ g, g ∈ [37, 38, 39, 40, 41, 42] → ∀ b, b < 2 → σ'.1 g (2 * rFx s f + b) = σ.1 g (2 * rFx s f + b) := by
    intro g hg b hb
    refine h.1 g _ (fun y => ?_)
    unfold FOf rFx at y
    simp at hg
    omega
  refine ⟨RFl_o h (by unfold rFx; omega) z1, RFl_o h (by unfold rFx; omega) z2, by rw [e44]; exact z3, fun y => ?_⟩
  rw [e44] at y
  obtain ⟨y1, y2⟩ := z4 y
  refine ⟨fun g hg => ?_, fun i hi => ?_⟩
  · rw [eg g hg 1 (by omega), show 2 * rFx s f = 2 * rFx s f + 0 from rfl, eg g hg 0 (by omega)]
    exact y1 g hg
  · rw [show 2 * rFx s f = 2 * rFx s f + 0 from rfl, eg 37 (by simp) 0 (by omega)] at hi
    have := (RFl_S z1).1
    rw [SLd_b h (by unfold rFx; omega) (by simp at hi; omega), SLd_b h (by unfold rFx; omega) (by simp at hi; omega)]
    exact y2 i hi
theorem RSc_43 {σ σ' : RS} {a : AA} {j : Nat} {v : Int32} (h : SLd (2 * j) σ σ') (z : RSc σ a) (hv : σ'.1 43 j = v) : RSc σ' (aI a 43 j v) := by
  refine ⟨fun f hf i hi => ?_, ?_, fun s hs => ?_⟩
  · show _ = if f = 43 ∧ i = j then v else a.1.1 f i
    by_cases q : f = 43 ∧ i = j
    · rw [if_pos q, q.1, q.2]
      exact hv
    · rw [if_neg q, h.1 f i ?_]
      · exact z.1 f hf i hi
      · intro y
        have h44 : f ≠ 44 := fun x => by rw [x] at hf; exact absurd hf (by decide)
        have h37 : ¬ (37 ≤ f ∧ f ≤ 42) := fun x => by
          have : f = 37 ∨ f = 38 ∨ f = 39 ∨ f = 40 ∨ f = 41 ∨ f = 42 := by omega
          rcases this with rfl | rfl | rfl | rfl | rfl | rfl <;> exact absurd hf (by decide)
        unfold FOf at y
        omega
  · rw [h.2 28 0 (by omega)]
    exact z.2.1
  · rw [h.2 84 s (by omega)]
    exact z.2.2 s hs
theorem aFc_put {a : AA} {s f t g : Nat} {F : AF} : aFc (aPut a s f F) t g = if t = s ∧ g = f then F else aFc a t g := by
  show (if t = s then aU (aFc a s) f F else aFc a t) g = _
  by_cases q : t = s
  · subst q
    rw [if_pos rfl]
    show (if g = f then F else aFc a t g) = _
    by_cases q2 : g = f
    · rw [if_pos q2, if_pos ⟨rfl, q2⟩]
    · rw [if_neg q2, if_neg (fun z => q2 z.2)]
  · rw [if_neg q, if_neg (fun z => q z.1)]
theorem RSl_put {σ σ' : RS} {a : AA} {s f t : Nat} {F : AF} {fk : Nat → AF} {wr : Int32} (hs : s < 7) (ht : t < 7) (hf : f < 16) (hS : SLd (2 * rFx s f) σ σ') (hsl : f < 2 → F.1 0 = (aFc a s f).1 0 ∧ F.1 2 = (aFc a s f).1 2 ∧ σ'.1 41 (2 * rFx s f) = σ.1 41 (2 * rFx s f))
    (z : RSl σ t wr (aFc a t) fk) : RSl σ' t wr (aFc (aPut a s f F) t) fk := by
  have e41 : ∀ x : Nat × Bool, x.1 < 2 → σ'.1 41 (2 * rFx t x.1 + if x.2 then 0 else 1) = σ.1 41 (2 * rFx t x.1 + if x.2 then 0 else 1) := by
    intro x hx
    by_cases q : 2 * rFx t x.1 + (if x.2 then 0 else 1) = 2 * rFx s f
    · have : f < 2 := by
        unfold rFx at q
        split at q <;> omega
      rw [q]
      exact (hsl this).2.2
    · exact hS.1 41 _ (by unfold FOf; omega)
  have e48 : σ'.1 48 0 = σ.1 48 0 := hS.1 48 0 (by unfold FOf; omega)
  have eF : ∀ x : Nat × Bool, x.1 < 2 → (if x.2 then aFc (aPut a s f F) t x.1 else fk x.1).1 0 = (if x.2 then aFc a t x.1 else fk x.1).1 0 ∧ (if x.2 then aFc (aPut a s f F) t x.1 else fk x.1).1 2 = (if x.2 then aFc a t x.1 else fk x.1).1 2 := by
    intro x hx
    cases x.2 with
    | false => exact ⟨rfl, rfl⟩
    | true =>
      simp only [if_true]
      rw [aFc_put]
      by_cases q : t = s ∧ x.1 = f
      · rw [if_pos q, q.1, q.2]
        have := hsl (by omega)
        exact ⟨this.1, this.2.1⟩
      · rw [if_neg q]
        exact ⟨rfl, rfl⟩
  intro x y hx hy
  have := z x y hx hy
  dsimp only at this ⊢
  rw [(eF x hx).1, (eF x hx).2, (eF y hy).1, (eF y hy).2, e41 x hx, e41 y hy, e48]
  exact this
theorem aLoc_43 {a : AA} {s f : Nat} {F : AF} {v : Int32} (h : aLoc a) (hf : f < 16) (hv : 0 ≤ v ∧ v ≤ F.1 1) : aLoc (aI (aPut a s f F) 43 (16 * s + f) v) := by
  refine ⟨h.1, h.2.1, fun t ht g hg => ?_, h.2.2.2.1, h.2.2.2.2⟩
  show 0 ≤ (if 43 = 43 ∧ 16 * t + g = 16 * s + f then v else aS a 43 (16 * t + g)) ∧ (if 43 = 43 ∧ 16 * t + g = 16 * s + f then v else aS a 43 (16 * t + g)) ≤ (aFc (aPut a s f F) t g).1 1
  rw [aFc_put]
  by_cases q : 16 * t + g = 16 * s + f
  · rw [if_pos ⟨rfl, q⟩, if_pos (by omega)]
    exact hv
  · rw [if_neg (fun z => q z.2), if_neg (fun z => q (by rw [z.1, z.2]))]
    exact h.2.2.1 t ht g hg
theorem RDk_put {σ σ' : RS} {a : AA} {s f : Nat} {F : AF} (hs : s < 7) (hf : f < 16) (hS : SLd (2 * rFx s f) σ σ') (ht : σ'.1 44 (rFx s f) = 1) (hR : RFl (aAk a) σ' (2 * rFx s f) f F) (hd : ∀ t, t < 7 → RDk (aAk a) σ t (aFc a t) (aFk a t)) : ∀ t, t < 7 → RDk (aAk a) σ' t (aFc (aPut a s f F) t) (aFk a t) := by
  intro t ht7
  by_cases q : t = s
  · subst q
    intro g hg
    obtain ⟨z1, z2, z3, z4⟩ := hd t ht7 g hg
    by_cases q2 : g = f
    · subst q2
      refine ⟨?_, RFl_o hS (by omega) z2, Or.inr ht, fun y => absurd (ht.symm.trans y) (by decide)⟩
      rw [aFc_put, if_pos ⟨rfl, rfl⟩]
      exact hR
    · rw [aFc_put, if_neg (fun z => q2 z.2)]
      have e44 : σ'.1 44 (rFx t g) = σ.1 44 (rFx t g) := hS.1 44 _ (by unfold FOf rFx; omega)
      have eg : ∀ w, w ∈ [37, 38, 39, 40, 41, 42] → ∀ b, b < 2 → σ'.1 w (2 * rFx t g + b) = σ.1 w (2 * rFx t g + b) := by
        intro w hw b hb
        refine hS.1 w _ (fun y => ?_)
        unfold FOf rFx at y
        simp at hw
        omega
      refine ⟨RFl_o hS (by unfold rFx; omega) z1, RFl_o hS (by unfold rFx; omega) z2, by rw [e44]; exact z3, fun y => ?_⟩
      rw [e44] at y
      obtain ⟨y1, y2⟩ := z4 y
      refine ⟨fun w hw => ?_, fun i hi => ?_⟩
      · rw [eg w hw 1 (by omega), show 2 * rFx t g = 2 * rFx t g + 0 from rfl, eg w hw 0 (by omega)]
        exact y1 w hw
      · rw [show 2 * rFx t g = 2 * rFx t g + 0 from rfl, eg 37 (by simp) 0 (by omega)] at hi
        have := (RFl_S z1).1
        rw [SLd_b hS (by unfold rFx; omega) (by simp at hi; omega), SLd_b hS (by unfold rFx; omega) (by simp at hi; omega)]
        exact y2 i hi
  · have : aFc (aPut a s f F) t = aFc a t := by
      funext g
      rw [aFc_put, if_neg (fun z => q z.1)]
    rw [this]
    exact RDk_o hS (fun g hg => by unfold rFx; omega) (hd t ht7)

theorem RM_put {σ σ' : RS} {a : AA} {u : AU} {s f : Nat} {F : AF} {v : Int32} (h : RM σ a u) (hs : s < 7) (hf : f < 16) (hS : SLd (2 * rFx s f) σ σ') (ht : σ'.1 44 (rFx s f) = 1) (hR : RFl (aAk a) σ' (2 * rFx s f) f F)
    (hsl : f < 2 → F.1 0 = (aFc a s f).1 0 ∧ F.1 2 = (aFc a s f).1 2 ∧ σ'.1 41 (2 * rFx s f) = σ.1 41 (2 * rFx s f))
    (hch : aS a 52 s = 1 → f ∈ aCh a s → F.1 2 = (aFc a s f).1 2) (hat : aS a 52 s = 1 → f ∈ aCh a s → ∀ k, k < (aWhole F).length → k < (aWhole (aFc a s f)).length ∧ aFrame F.2.1 k = aFrame (aFc a s f).2.1 k) (hv : σ'.1 43 (rFx s f) = v) (hv0 : 0 ≤ v ∧ v ≤ F.1 1) (hwc : u.2 s → aS a 52 s = 1 → WCh (aPut a s f F) s) : RM σ' (aI (aPut a s f F) 43 (rFx s f) v) u := by
  have hF := SLd_Fr hS
  have hdk := RDk_put (a := a) hs hf hS ht hR (fun t ht7 => h.2.2.2.2.2.1 t ht7)
  have hc : ∀ t, t < 7 → aS a 52 t = 1 → RCh σ' t (aFc (aPut a s f F) t) (aCh a t) := by
    intro t ht7 hu
    obtain ⟨z1, z2, z3⟩ := RCh_fr hF (by decide) (h.2.2.2.2.2.2.2.1 t ht7 hu)
    refine ⟨z1, z2, fun i hi => ?_⟩
    obtain ⟨y1, y2, y3, y4⟩ := z3 i hi
    refine ⟨y1, y2, y3, ?_⟩
    rw [y4, aFc_put]
    by_cases q : t = s ∧ (aCh a t).getD i 0 = f
    · rw [if_pos q, q.2]
      obtain ⟨rfl, q⟩ := q
      refine (hch hu ?_).symm
      rw [← q, List.getD_eq_getElem?_getD, List.getElem?_eq_getElem hi]
      exact List.getElem_mem hi
    · rw [if_neg q]
  have hc2 : ∀ t, t < 7 → u.2 t → aS a 52 t = 1 → WCh (aPut a s f F) t := by
    intro t ht7 hz hu
    by_cases q : t = s
    · rw [q] at hu hz ⊢
      exact hwc hz hu
    · have e : aFc (aPut a s f F) t = aFc a t := by
        funext g
        rw [aFc_put, if_neg (fun z => q z.1)]
      have := h.2.2.2.2.2.2.2.2.2.2.2.2.2.2.2.2.2.2.2.2.2.1 t ht7 hz hu
      unfold WCh at this ⊢
      rw [e]
      exact this
  have ha : ∀ t, t < 7 → aS a 52 t = 1 → RAt σ' t (aS a 55 t) (aLg a t) (aFc (aPut a s f F) t) (aCh a t) := by
    intro t ht7 hu g hg k i hi hk e
    have z := RAt_fr hF (by decide) (h.2.2.2.2.2.2.2.2.1 t ht7 hu) g hg k i hi
    rw [aFc_put] at hk e ⊢
    by_cases q : t = s ∧ g = f
    · obtain ⟨rfl, rfl⟩ := q
      rw [if_pos ⟨rfl, rfl⟩] at hk e ⊢
      obtain ⟨x1, x2⟩ := hat hu hg k hk
      rw [x2]
      refine z x1 ?_
      rw [e, hch hu hg]
    · rw [if_neg q] at hk e ⊢
      exact z hk e
  exact ⟨RSc_43 hS h.1 hv, RWay_fr hF (by decide) h.2.1, fun s hs => RWt_fr hF (by decide) (h.2.2.1 s hs), fun l hl => RLt_fr hF (by decide) (h.2.2.2.1 l hl), fun s hs => RLog_fr hF (by decide) (h.2.2.2.2.1 s hs), hdk, fun t ht => RSl_put hs ht hf hS hsl (h.2.2.2.2.2.2.1 t ht), hc, ha, fun s hs => RMc_fr hF (by decide) (h.2.2.2.2.2.2.2.2.2.1 s hs), fun s hs => RSh_fr hF (by decide) (h.2.2.2.2.2.2.2.2.2.2.1 s hs), fun s hs => RPc_fr hF (by decide) (h.2.2.2.2.2.2.2.2.2.2.2.1 s hs), fun s hs => RRq_fr hF (by decide) (h.2.2.2.2.2.2.2.2.2.2.2.2.1 s hs), RAk_fr hF (by decide) h.2.2.2.2.2.2.2.2.2.2.2.2.2.1, fun s hs => RWn_fr hF (by decide) (h.2.2.2.2.2.2.2.2.2.2.2.2.2.2.1 s hs), RTp_fr hF (by decide) h.2.2.2.2.2.2.2.2.2.2.2.2.2.2.2.1, RRe_fr hF (by decide) h.2.2.2.2.2.2.2.2.2.2.2.2.2.2.2.2.1, fun s hs => RDn_fr hF (by decide) (h.2.2.2.2.2.2.2.2.2.2.2.2.2.2.2.2.2.1 s hs), RSum_fr hF (by decide) h.2.2.2.2.2.2.2.2.2.2.2.2.2.2.2.2.2.2.1, aLoc_43 h.2.2.2.2.2.2.2.2.2.2.2.2.2.2.2.2.2.2.2.1 hf hv0, h.2.2.2.2.2.2.2.2.2.2.2.2.2.2.2.2.2.2.2.2.1, hc2, h.2.2.2.2.2.2.2.2.2.2.2.2.2.2.2.2.2.2.2.2.2.2.1, h.2.2.2.2.2.2.2.2.2.2.2.2.2.2.2.2.2.2.2.2.2.2.2⟩
theorem chOK_c {fc fc' : Nat → AF} {e : Int} : ∀ (c : List Nat) (n : Int), (∀ g, 4 ≤ g → fc' g = fc g) → chOK fc e n c → chOK fc' e n c := by
  intro c
  induction c with
  | nil => exact fun n _ h => h
  | cons f r ih =>
    intro n hg h
    obtain ⟨h1, h2, h3, h4, h5, h6⟩ := h
    unfold chOK
    rw [hg f h1]
    exact ⟨h1, h2, h3, h4, h5, ih _ hg h6⟩
theorem WCh_c {a a' : AA} {s : Nat} (h : WCh a s) (e1 : aCh a' s = aCh a s) (e2 : aLast a' s = aLast a s) (e3 : aBase a' s = aBase a s) (e4 : ∀ g, 4 ≤ g → aFc a' s g = aFc a s g) : WCh a' s := by
  obtain ⟨h1, h2, h3⟩ := h
  refine ⟨e1 ▸ h1, fun f hf hf2 => ?_, ?_⟩
  · rw [e4 f hf, e1]
    exact h2 f hf hf2
  · rw [e1, e2, e3]
    refine h3.imp id ?_
    rintro ⟨n, n1, n2, n3⟩
    exact ⟨n, n1, n2, chOK_c _ _ e4 n3⟩
