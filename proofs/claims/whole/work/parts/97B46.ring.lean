theorem wN_fr {W T : List Nat} {a b : AA} (h : AFr W T a b) (hW : sub0 [150] W = false) : wN b = wN a := by
  have e : ∀ i, aS b 150 i = aS a 150 i := h.1 150 (fun z => by
    have : sub0 [150] W = true := by
      unfold sub0
      simp [z]
    rw [this] at hW
    exact nomatch hW)
  unfold wN
  rw [e, e, e, e, e, e, e]
theorem i_shm {s : Nat} (hs : s < 7) : (1 : Int32) <<< (Int32.ofNat s &&& 31) = 1 <<< Int32.ofNat s := by
  have h : ∀ s, s < 7 → (1 : Int32) <<< (Int32.ofNat s &&& 31) = 1 <<< Int32.ofNat s := by decide +kernel
  exact h s hs
theorem M_ring {F : Nat} {σ : RS} {a : AA} {u : AU} {s : Nat} (hF : 400 ≤ F) (h : RM σ a u) (hs : s < 7) (hz7 : u.2 (7 + s)) (hmk : u.2 (14 + s)) (hw : wN a < 2147483647) (hlow : aS a 73 s = 3 → ∀ p, p < 7 → 0 ≤ aS a 87 (7 * s + p)) (hmx : (aS a 151 s).toInt < 2147483000) : WP (m_ring F σ (Int32.ofNat s)) (fun τ => RM τ (A_ring a s) u) := by
  unfold m_ring m_ring_b0 A_ring
  refine WP_r7 h (by decide) hs ?_
  refine WP_if c2_ne (fun q => ?_) (fun q => ?_)
  · rw [if_neg q]
    refine WP_call (M_drawAlarm h hs) (fun p hp => ?_)
    have f1 := @AFr_drawAlarm a s
    dsimp only
    generalize A_drawAlarm a s = a1 at hp f1
    refine WP_eq (M_isVoter hp hs (by omega)) ?_
    cases hb : aVoter a1 s s with
    | false =>
      rw [if_neg (show ¬ false = true by decide)]
      refine WP_if c0_ne (fun y => absurd rfl y) (fun _ => ?_)
      exact WP_some hp
    | true =>
      rw [if_pos (show true = true from rfl)]
      refine WP_if c0_ne (fun _ => ?_) (fun y => absurd (show ¬ (1 : Int32) = 0 by decide) y)
      refine WP_w73 hp hs (Or.inl (by decide)) (fun σ1 h1 => ?_)
      refine WP_w7 h1 (by decide) (by decide) hs (fun σ2 h2 => ?_)
      refine WP_w7 h2 (by decide) (by decide) hs (fun σ3 h3 => ?_)
      have f2 : AFr [2, 29, 30, 73, 74, 79] [] a (aI (aI (aI a1 73 s 1) 74 s (-1)) 79 s (1 <<< Int32.ofNat s)) := AFr_w (AFr_t (AFr_t (AFr_t f1 AFr_I) AFr_I) AFr_I) (by decide) (by decide)
      rw [show (1 : Int32) <<< (Int32.ofNat s &&& 31) = 1 <<< Int32.ofNat s from i_shm hs] at h3
      generalize (aI (aI (aI a1 73 s 1) 74 s (-1)) 79 s (1 <<< Int32.ofNat s)) = a2 at h3 f2
      refine WP_r7 h3 (by decide) hs ?_
      rw [f2.1 53 (by decide)]
      refine WP_call (M_postVoters hF h3 hs (Or.inl rfl)) (fun p2 hp2 => ?_)
      have f3 := @AFr_askVoters a2 s 1 (aS a 53 s + 1) 7
      generalize aAskVoters a2 s 1 (aS a 53 s + 1) 7 = a3 at hp2 f3
      refine WP_r7 hp2 (by decide) hs ?_
      refine WP_eq (M_isMajority hF hp2 hs) ?_
      cases hm : aMaj (aS a3 65 s) (aS a3 79 s) with
      | false =>
        rw [if_neg (show ¬ false = true by decide)]
        refine WP_if c0_eq (fun _ => ?_) (fun y => absurd rfl y)
        exact WP_some hp2
      | true =>
        rw [if_pos (show true = true from rfl)]
        refine WP_if c0_eq (fun y => absurd (show (1 : Int32) = 0 from y) (by decide)) (fun _ => ?_)
        refine WP_call (M_campaign hF hp2 hs ?_) (fun p3 hp3 => WP_some hp3)
        rw [wN_fr f3 (by decide), wN_fr f2 (by decide)]
        exact hw
  · have q := Classical.not_not.mp q
    rw [if_pos q]
    rw [RM_0 (f := 1) h (by decide), show (7 : Int32) * Int32.ofNat s + Int32.ofNat s = Int32.ofNat (7 * s + s) from i_ma]
    refine WP_w49 h (by decide) (by decide) (by omega) (fun σ1 h1 => ?_)
    have h1 : RM σ1 (aI a 92 (7 * s + s) (aNow a)) u := h1
    refine WP_eq (M_common (w := 1) hF h1 hs (by omega)) ?_
    have en : σ1.1 1 0 = aNow a := (RM_0 (f := 1) h1 (by decide)).trans rfl
    rw [show (aCommon (aS (aI a 92 (7 * s + s) (aNow a)) 65 s) (fun p => aS (aI a 92 (7 * s + s) (aNow a)) (fW 1) (7 * s + p)) 7, σ1).2.1 1 0 = aNow a from en]
    refine WP_if c2_ge (fun q1 => ?_) (fun q1 => ?_)
    · have e : ¬ aCommon (aS a 65 s) (fun p => aS (aI a 92 (7 * s + s) (aNow a)) 92 (7 * s + p)) 7 < aNow a - 100 := Int32.not_lt.mpr q1
      dsimp only
      rw [if_neg e]
      refine WP_call (M_beat hF h1 hs hz7 hmk q (hlow q) hmx) (fun p hp => WP_some hp)
    · have e : aCommon (aS a 65 s) (fun p => aS (aI a 92 (7 * s + s) (aNow a)) 92 (7 * s + p)) 7 < aNow a - 100 := Int32.not_le.mp q1
      dsimp only
      rw [if_pos e]
      refine WP_r7 h1 (by decide) hs ?_
      refine WP_call (M_stepDown hF h1 hs hw) (fun p hp => WP_some hp)
