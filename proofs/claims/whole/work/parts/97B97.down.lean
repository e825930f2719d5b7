/-! a server is down -/
theorem RM_52d {σ : RS} {a : AA} {u : AU} {s : Nat} (h : RM σ a u) : RM (setI σ 52 s 0) (aI a 52 s 0) u := by
  have hF : Fr [52] [] σ (setI σ 52 s 0) := Fr_I
  have e : ∀ t, aS (aI a 52 s 0) 52 t = 1 → aS a 52 t = 1 := by
    intro t ht
    have : (if 52 = 52 ∧ t = s then (0 : Int32) else aS a 52 t) = 1 := ht
    by_cases q : t = s
    · rw [if_pos ⟨rfl, q⟩] at this
      exact absurd this (by decide)
    · rw [if_neg (fun z => q z.2)] at this
      exact this
  exact ⟨RSc_I h.1, RWay_fr hF (by decide) h.2.1, fun s hs => RWt_fr hF (by decide) (h.2.2.1 s hs), fun l hl => RLt_fr hF (by decide) (h.2.2.2.1 l hl), fun s hs => RLog_fr hF (by decide) (h.2.2.2.2.1 s hs), fun s hs => RDk_fr hF (by decide) (h.2.2.2.2.2.1 s hs), fun s hs => RSl_fr hF (by decide) (h.2.2.2.2.2.2.1 s hs), fun t ht hu => RCh_fr hF (by decide) (h.2.2.2.2.2.2.2.1 t ht (e t hu)), fun t ht hu => RAt_fr hF (by decide) (h.2.2.2.2.2.2.2.2.1 t ht (e t hu)), fun s hs => RMc_fr hF (by decide) (h.2.2.2.2.2.2.2.2.2.1 s hs), fun s hs => RSh_fr hF (by decide) (h.2.2.2.2.2.2.2.2.2.2.1 s hs), fun s hs => RPc_fr hF (by decide) (h.2.2.2.2.2.2.2.2.2.2.2.1 s hs), fun s hs => RRq_fr hF (by decide) (h.2.2.2.2.2.2.2.2.2.2.2.2.1 s hs), RAk_fr hF (by decide) h.2.2.2.2.2.2.2.2.2.2.2.2.2.1, fun s hs => RWn_fr hF (by decide) (h.2.2.2.2.2.2.2.2.2.2.2.2.2.2.1 s hs), RTp_fr hF (by decide) h.2.2.2.2.2.2.2.2.2.2.2.2.2.2.2.1, RRe_fr hF (by decide) h.2.2.2.2.2.2.2.2.2.2.2.2.2.2.2.2.1, fun s hs => RDn_fr hF (by decide) (h.2.2.2.2.2.2.2.2.2.2.2.2.2.2.2.2.2.1 s hs), RSum_fr hF (by decide) h.2.2.2.2.2.2.2.2.2.2.2.2.2.2.2.2.2.2.1, h.2.2.2.2.2.2.2.2.2.2.2.2.2.2.2.2.2.2.2.1, h.2.2.2.2.2.2.2.2.2.2.2.2.2.2.2.2.2.2.2.2.1, fun t ht hz hu => h.2.2.2.2.2.2.2.2.2.2.2.2.2.2.2.2.2.2.2.2.2.1 t ht hz (e t hu), h.2.2.2.2.2.2.2.2.2.2.2.2.2.2.2.2.2.2.2.2.2.2.1, h.2.2.2.2.2.2.2.2.2.2.2.2.2.2.2.2.2.2.2.2.2.2.2⟩
theorem M_down {F : Nat} {σ : RS} {a : AA} {u : AU} {s : Nat} (hF : 400 ≤ F) (h : RM σ a u) (hs : s < 7) : WP (m_down F σ (Int32.ofNat s)) (fun τ => RM τ (aDown a s) u) := by
  unfold m_down aDown
  refine WP_st rfl 7 (by decide +kernel) hs ?_
  rw [show (0 : Int32) &&& 1 = 0 from rfl]
  have h1 := RM_52d (s := s) h
  refine WP_st rfl 16 (by decide +kernel) (by omega) ?_
  have h2 := RM_I (f := 29) (i := s) (v := -1) h1 (by decide)
  refine WP_w7 h2 (by decide) (by decide) hs (fun σ3 h3 => ?_)
  refine WP_st rfl 7 (by decide +kernel) hs ?_
  have h4 := RM_wt0 (s := s) h3
  exact WP_call (M_dropRequests hF h4 hs) (fun p hp => WP_some hp)
theorem AFr_down {a : AA} {s : Nat} : AFr [52, 29, 31] [1, 9] a (aDown a s) := AFr_w (AFr_t (AFr_t (AFr_t (AFr_t AFr_I AFr_I) AFr_I) AFr_wt) AFr_rq) (by decide) (by decide)
theorem saO_app : ∀ (l : List AL) (x : AL) (a : AA), A_sendAllOut a (l ++ [x]) = A_sendOut (A_sendAllOut a l) x := by
  intro l
  induction l with
  | nil => exact fun x a => rfl
  | cons y r ih => exact fun x a => ih x (A_sendOut a y)
theorem F_stop {F : Nat} {σ : RS} {a : AA} {u : AU} {s : Int32} (hF : 2000 ≤ F) (h : RM σ a u) : FW (m_stop F σ s) (A_stop (aI a 0 0 0) s) u := by
  unfold A_stop m_stop m_stop_b0 m_stop_b18
  dsimp only
  by_cases q1 : aInR s 0 6 = true
  · rw [q1, Bool.not_true, if_neg (show ¬ false = true by decide)]
    refine WP_in (lo' := 0) (hi' := 6) (by decide) (by decide) (fun _ => ?_) (fun y => by rw [q1] at y; exact absurd y (by decide))
    refine WP_if c0_eq (fun y => absurd (show (1 : Int32) = 0 from y) (by decide)) (fun _ => ?_)
    refine WP_th h (fun τ hτ e0 => ?_)
    rw [e0]
    refine WP_if c0_gt (fun y => absurd y (by decide)) (fun _ => ?_)
    obtain ⟨p, e1, hp6⟩ := in_nat2 (hi := 6) (by omega) q1
    have hp7 : p < 7 := by omega
    rw [e1, i_cl (by omega)]
    have z0 : aS (aI a 0 0 0) 0 0 = 0 := rfl
    generalize aI a 0 0 0 = b at hτ z0
    refine WP_r7 hτ (by decide) hp7 ?_
    refine WP_if c0_ne (fun q => ?_) (fun q => ?_)
    · rw [if_neg q]
      have fd : AFr [43, 46, 71, 2, 20, 21, 22, 52, 29, 31] [7, 0, 1, 9] b (aDown (A_sendAllOut (A_syncAll b p) (aWt b p)) p) := AFr_w (AFr_t (AFr_t AFr_syncAll (AFr_sendAllOut _ _)) AFr_down) (by decide) (by decide)
      refine FW_ok (by rw [fd.1 0 (by decide)]; exact z0) ?_
      refine WP_call (M_syncAll hF hτ hp7) (fun p20 h20 => ?_)
      have fs := @AFr_syncAll b p
      have ewt : aWt (A_syncAll b p) p = aWt b p := by rw [fs.2.2.1 (by decide)]
      generalize A_syncAll b p = c at h20 ewt
      obtain ⟨w1, w2, w3⟩ := h20.2.2.1 p hp7
      refine WP_ld rfl 7 (by decide +kernel) hp7 ?_
      rw [w1, ewt]
      rw [ewt] at w2
      have loop : ∀ n k (τ2 : RS), (aWt b p).length + 1 ≤ k + n → k ≤ (aWt b p).length → RM τ2 (A_sendAllOut c ((aWt b p).take k)) u → WP (m_stop_b53 F n τ2 (Int32.ofNat p) (Int32.ofNat (aWt b p).length) (Int32.ofNat k)) (fun q => RM q.2 (aDown (A_sendAllOut c (aWt b p)) p) u ∧ q.1 = 1) := by
        intro n
        induction n with
        | zero => intro k τ2 h1 h2; omega
        | succ n ih =>
          intro k τ2 h1 h2 h3
          unfold m_stop_b53
          refine WP_if (i_gei (by omega) (by omega)) (fun y => ?_) (fun y => ?_)
          · have : k = (aWt b p).length := by omega
            subst this
            rw [List.take_length] at h3
            refine WP_call (M_down (by omega) h3 hp7) (fun p3 h4 => ?_)
            rw [if_pos (Or.inr rfl)]
            exact WP_some ⟨h4, rfl⟩
          · rw [show (128 : Int32) + 32 * Int32.ofNat p + Int32.ofNat k = Int32.ofNat (128 + 32 * p + k) by
              rw [Int32.ofNat_add, Int32.ofNat_add, Int32.ofNat_mul]
              rfl]
            have ew2 : aWt (A_sendAllOut c ((aWt b p).take k)) p = aWt b p := by rw [(AFr_sendAllOut _ c).2.2.1 (by decide)]; exact ewt
            obtain ⟨x1, x2, x3⟩ := h3.2.2.1 p hp7
            rw [ew2] at x3
            have hl := x3 k (by omega)
            refine WP_call (M_sendOut (slot := 128 + 32 * p + k) (by omega) h3 (by omega) (by omega) hl) (fun p6 h6 => ?_)
            rw [i_s]
            refine ih (k + 1) p6 (by omega) (by omega) ?_
            rw [take_s (d := aL0) (show k < (aWt b p).length by omega), saO_app]
            exact h6.1
      exact loop F 0 p20 (by omega) (Nat.zero_le _) h20
    · rw [if_pos (Classical.not_not.mp q)]
      unfold m_stop_b37
      refine FW_ok z0 ?_
      rw [if_pos (Or.inl rfl)]
      exact WP_some ⟨hτ, rfl⟩
  · have q1 := b_false q1
    rw [q1, Bool.not_false, if_pos (show true = true from rfl)]
    refine FW_no (by decide) (WP_in (lo' := 0) (hi' := 6) (by decide) (by decide) (fun y => by rw [q1] at y; exact absurd y (by decide)) (fun _ => ?_))
    refine WP_if c0_eq (fun _ => ?_) (fun y => absurd rfl y)
    refine WP_th h (fun τ hτ e0 => ?_)
    rw [e0]
    refine WP_if c0_gt (fun _ => ?_) (fun y => absurd (by decide) y)
    unfold m_stop_b37
    rw [if_pos (Or.inl rfl)]
    exact WP_some hτ
/-- a file is what was kept of it -/
theorem RM_rest {σ σ' : RS} {a : AA} {u : AU} {s f : Nat} (h : RM σ a u) (hs : s < 7) (hf : f < 16) (hup : ¬ aS a 52 s = 1) (hS : SLd (2 * rFx s f) σ σ') (h44 : σ'.1 44 (rFx s f) = 0 ∨ σ'.1 44 (rFx s f) = 1) (e : ∀ g, g ∈ [37, 38, 39, 40, 41, 42] → σ'.1 g (2 * rFx s f) = σ.1 g (2 * rFx s f + 1)) (eb : ∀ i, i < (σ.1 37 (2 * rFx s f + 1)).toNatClampNeg → rB (σ'.2 36) (14000 * (2 * rFx s f) + i) = rB (σ.2 36) (14000 * (2 * rFx s f + 1) + i)) (e43 : σ'.1 43 (rFx s f) = aS a 43 (rFx s f)) (hlow : aS a 43 (rFx s f) ≤ (aFk a s f).1 1) : RM σ' (aPut a s f (aFk a s f)) u := by
  have hF := SLd_Fr hS
  have hsc : RSc σ' (aPut a s f (aFk a s f)) := by
    have z := RSc_43 hS h.1 e43
    have e2 : aI a 43 (rFx s f) (aS a 43 (rFx s f)) = a := aI_same rfl
    rw [e2] at z
    exact z
  have hdk : ∀ t, t < 7 → RDk (aAk a) σ' t (aFc (aPut a s f (aFk a s f)) t) (aFk a t) := by
    intro t ht g hg
    obtain ⟨w1, w2, w3, w4⟩ := h.2.2.2.2.2.1 t ht g hg
    rw [aFc_put]
    by_cases q : t = s ∧ g = f
    · obtain ⟨rfl, rfl⟩ := q
      rw [if_pos ⟨rfl, rfl⟩]
      have hk : ∀ x, x ∈ [37, 38, 39, 40, 41, 42] → σ'.1 x (2 * rFx t g + 1) = σ.1 x (2 * rFx t g + 1) := by
        intro x hx
        refine hS.1 x _ (fun y => ?_)
        unfold FOf at y
        simp at hx
        omega
      refine ⟨RFl_eq e eb w2, RFl_o hS (by omega) w2, h44, fun _ => ⟨fun x hx => (hk x hx).trans (e x hx).symm, fun i hi => ?_⟩⟩
      rw [e 37 (by simp)] at hi
      have := (RFl_S w2).1
      rw [SLd_b hS (by omega) (by omega), eb i hi]
    · rw [if_neg q]
      have hne : rFx t g ≠ rFx s f := by
        unfold rFx
        omega
      have hcur : ∀ x, x ∈ [37, 38, 39, 40, 41, 42] → ∀ b, b < 2 → σ'.1 x (2 * rFx t g + b) = σ.1 x (2 * rFx t g + b) := by
        intro x hx b hb
        refine hS.1 x _ (fun y => ?_)
        unfold FOf at y
        simp at hx
        omega
      have h44' : σ'.1 44 (rFx t g) = σ.1 44 (rFx t g) := hS.1 44 _ (by unfold FOf; omega)
      refine ⟨RFl_o hS (by omega) w1, RFl_o hS (by omega) w2, by rw [h44']; exact w3, fun y => ?_⟩
      rw [h44'] at y
      obtain ⟨v1, v2⟩ := w4 y
      refine ⟨fun x hx => by rw [hcur x hx 1 (by omega)]; exact (v1 x hx).trans (hcur x hx 0 (by omega)).symm, fun i hi => ?_⟩
      have h0 : σ'.1 37 (2 * rFx t g) = σ.1 37 (2 * rFx t g) := hcur 37 (by simp) 0 (by omega)
      rw [h0] at hi
      have := (RFl_S w1).1
      rw [SLd_b hS (by omega) (by omega), SLd_b hS (by omega) (by omega)]
      exact v2 i hi
  have hsl : ∀ t, t < 7 → RSl σ' t (aS a 150 t) (aFc (aPut a s f (aFk a s f)) t) (aFk a t) := by
    intro t ht x y hx hy
    have e48 : σ'.1 48 0 = σ.1 48 0 := hS.1 48 0 (by unfold FOf; omega)
    have ex : ∀ x : Nat × Bool, x.1 < 2 → ∃ x' : Nat × Bool, x'.1 < 2 ∧ (if x.2 then aFc (aPut a s f (aFk a s f)) t x.1 else aFk a t x.1) = (if x'.2 then aFc a t x'.1 else aFk a t x'.1) ∧ σ'.1 41 (2 * rFx t x.1 + if x.2 then 0 else 1) = σ.1 41 (2 * rFx t x'.1 + if x'.2 then 0 else 1) := by
      intro x hx
      by_cases q : t = s ∧ x.1 = f ∧ x.2 = true
      · refine ⟨(x.1, false), hx, ?_, ?_⟩
        · rw [q.2.2]
          show aFc (aPut a s f (aFk a s f)) t x.1 = aFk a t x.1
          rw [aFc_put, if_pos ⟨q.1, q.2.1⟩, q.1, q.2.1]
        · rw [q.2.2, q.1, q.2.1]
          exact e 41 (by simp)
      · refine ⟨x, hx, ?_, ?_⟩
        · cases hb : x.2 with
          | false => rfl
          | true =>
            show aFc (aPut a s f (aFk a s f)) t x.1 = aFc a t x.1
            rw [aFc_put, if_neg (fun z => q ⟨z.1, z.2, hb⟩)]
        · refine hS.1 41 _ (fun y => ?_)
          unfold FOf at y
          cases hb : x.2 with
          | true =>
            rw [hb] at y
            simp at y
            unfold rFx at y
            exact q ⟨by omega, by omega, hb⟩
          | false =>
            rw [hb] at y
            simp at y
            omega
    obtain ⟨x', hx', ex1, ex2⟩ := ex x hx
    obtain ⟨y', hy', ey1, ey2⟩ := ex y hy
    have := h.2.2.2.2.2.2.1 t ht x' y' hx' hy'
    dsimp only at this ⊢
    rw [ex1, ey1, ex2, ey2, e48]
    exact this
  have lc := h.2.2.2.2.2.2.2.2.2.2.2.2.2.2.2.2.2.2.2.1
  have hlc : aLoc (aPut a s f (aFk a s f)) := by
    refine ⟨lc.1, lc.2.1, fun t ht g hg => ?_, lc.2.2.2.1, lc.2.2.2.2⟩
    rw [aFc_put]
    by_cases q : t = s ∧ g = f
    · rw [if_pos q, q.1, q.2]
      exact ⟨(lc.2.2.1 s hs f hf).1, hlow⟩
    · rw [if_neg q]
      exact lc.2.2.1 t ht g hg
  have hne : ∀ t, aS a 52 t = 1 → t ≠ s := fun t hu z => hup (z ▸ hu)
  have efc : ∀ t, t ≠ s → aFc (aPut a s f (aFk a s f)) t = aFc a t := by
    intro t ht
    funext g
    rw [aFc_put, if_neg (fun z => ht z.1)]
  have hc : ∀ t, t < 7 → aS a 52 t = 1 → RCh σ' t (aFc (aPut a s f (aFk a s f)) t) (aCh a t) := fun t ht hu => by
    rw [efc t (hne t hu)]
    exact RCh_fr hF (by decide) (h.2.2.2.2.2.2.2.1 t ht hu)
  have ha : ∀ t, t < 7 → aS a 52 t = 1 → RAt σ' t (aS a 55 t) (aLg a t) (aFc (aPut a s f (aFk a s f)) t) (aCh a t) := fun t ht hu => by
    rw [efc t (hne t hu)]
    exact RAt_fr hF (by decide) (h.2.2.2.2.2.2.2.2.1 t ht hu)
  have hw : ∀ t, t < 7 → u.2 t → aS a 52 t = 1 → WCh (aPut a s f (aFk a s f)) t := fun t ht hz hu => by
    have old := h.2.2.2.2.2.2.2.2.2.2.2.2.2.2.2.2.2.2.2.2.2.1 t ht hz hu
    unfold WCh at old ⊢
    rw [efc t (hne t hu)]
    exact old
  exact ⟨hsc, RWay_fr hF (by decide) h.2.1, fun s hs => RWt_fr hF (by decide) (h.2.2.1 s hs), fun l hl => RLt_fr hF (by decide) (h.2.2.2.1 l hl), fun s hs => RLog_fr hF (by decide) (h.2.2.2.2.1 s hs), hdk, hsl, hc, ha, fun s hs => RMc_fr hF (by decide) (h.2.2.2.2.2.2.2.2.2.1 s hs), fun s hs => RSh_fr hF (by decide) (h.2.2.2.2.2.2.2.2.2.2.1 s hs), fun s hs => RPc_fr hF (by decide) (h.2.2.2.2.2.2.2.2.2.2.2.1 s hs), fun s hs => RRq_fr hF (by decide) (h.2.2.2.2.2.2.2.2.2.2.2.2.1 s hs), RAk_fr hF (by decide) h.2.2.2.2.2.2.2.2.2.2.2.2.2.1, fun s hs => RWn_fr hF (by decide) (h.2.2.2.2.2.2.2.2.2.2.2.2.2.2.1 s hs), RTp_fr hF (by decide) h.2.2.2.2.2.2.2.2.2.2.2.2.2.2.2.1, RRe_fr hF (by decide) h.2.2.2.2.2.2.2.2.2.2.2.2.2.2.2.2.1, fun s hs => RDn_fr hF (by decide) (h.2.2.2.2.2.2.2.2.2.2.2.2.2.2.2.2.2.1 s hs), RSum_fr hF (by decide) h.2.2.2.2.2.2.2.2.2.2.2.2.2.2.2.2.2.2.1, hlc, h.2.2.2.2.2.2.2.2.2.2.2.2.2.2.2.2.2.2.2.2.1, hw, h.2.2.2.2.2.2.2.2.2.2.2.2.2.2.2.2.2.2.2.2.2.2.1, h.2.2.2.2.2.2.2.2.2.2.2.2.2.2.2.2.2.2.2.2.2.2.2⟩
theorem aPut_same {a : AA} {s f : Nat} : aPut a s f (aFc a s f) = a := by
  have e : aU (aFc a) s (aU (aFc a s) f (aFc a s f)) = aFc a := by
    funext t g
    show (if t = s then aU (aFc a s) f (aFc a s f) else aFc a t) g = aFc a t g
    by_cases q : t = s
    · rw [if_pos q, q]
      show (if g = f then aFc a s f else aFc a s g) = aFc a s g
      by_cases q2 : g = f
      · rw [if_pos q2, q2]
      · rw [if_neg q2]
    · rw [if_neg q]
  unfold aPut aFcS
  rw [e]
  rfl
