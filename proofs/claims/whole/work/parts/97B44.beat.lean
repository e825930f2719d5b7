/-! the leader's beat -/
def bp1 (a : AA) (s p : Nat) : AA :=
  let k := 7 * s + p
  if aPeer a s p ∧ 0 < aS a 88 k ∧ aS a 93 k = 0 then aI (aI (aI a 88 k 0) 89 k 1) 86 k (aS a 87 k + 1) else a
def bpN (a : AA) (s : Nat) : Nat → AA
  | 0 => a
  | p + 1 => bp1 (bpN a s p) s p
def bclr (a : AA) (s : Nat) : Nat → AA
  | 0 => a
  | p + 1 => aI (bclr a s p) 93 (7 * s + p) 0
theorem bp1_I {a : AA} {s p n : Nat} (h : n < p) : bp1 (aI a 93 (7 * s + n) 0) s p = aI (bp1 a s p) 93 (7 * s + n) 0 := by
  have e93 : aS (aI a 93 (7 * s + n) 0) 93 (7 * s + p) = aS a 93 (7 * s + p) := if_neg (fun z => by omega)
  have e88 : aS (aI a 93 (7 * s + n) 0) 88 (7 * s + p) = aS a 88 (7 * s + p) := rfl
  have e87 : aS (aI a 93 (7 * s + n) 0) 87 (7 * s + p) = aS a 87 (7 * s + p) := rfl
  have ep : aPeer (aI a 93 (7 * s + n) 0) s p = aPeer a s p := rfl
  unfold bp1
  dsimp only
  rw [e93, e88, e87, ep]
  split
  · rw [aI_comm (f := 93) (g := 88) (by omega), aI_comm (f := 93) (g := 89) (by omega), aI_comm (f := 93) (g := 86) (by omega)]
  · rfl
theorem bp1_clr {b : AA} {s p : Nat} : ∀ n, n ≤ p → bp1 (bclr b s n) s p = bclr (bp1 b s p) s n := by
  intro n
  induction n with
  | zero => exact fun _ => rfl
  | succ n ih =>
    intro h
    show bp1 (aI (bclr b s n) 93 (7 * s + n) 0) s p = aI (bclr (bp1 b s p) s n) 93 (7 * s + n) 0
    rw [bp1_I (by omega), ih (by omega)]
theorem aBeatPeers_e {a : AA} {s : Nat} : ∀ n, aBeatPeers a s n = bclr (bpN a s n) s n := by
  intro n
  induction n with
  | zero => rfl
  | succ n ih =>
    show aI (bp1 (aBeatPeers a s n) s n) 93 (7 * s + n) 0 = aI (bclr (bp1 (bpN a s n) s n) s n) 93 (7 * s + n) 0
    rw [ih, bp1_clr n (Nat.le_refl _)]
theorem AFr_bpN {a : AA} {s : Nat} : ∀ n, AFr [88, 89, 86] [] a (bpN a s n) := by
  intro n
  induction n with
  | zero => exact AFr_w AFr_r (by decide) (by decide)
  | succ n ih =>
    have h1 : AFr [88, 89, 86] [] (bpN a s n) (bp1 (bpN a s n) s n) := by
      unfold bp1
      dsimp only
      split
      · exact AFr_w (AFr_t (AFr_t AFr_I AFr_I) AFr_I) (by decide) (by decide)
      · exact AFr_w AFr_r (by decide) (by decide)
    exact AFr_w (AFr_t ih h1) (by decide) (by decide)
theorem AFr_bclr {a : AA} {s : Nat} : ∀ n, AFr [93] [] a (bclr a s n) := by
  intro n
  induction n with
  | zero => exact AFr_w AFr_r (by decide) (by decide)
  | succ n ih => exact AFr_w (AFr_t ih AFr_I) (by decide) (by decide)
def beT (c : AA) (s : Nat) : AA := let a2 := aBeatPeers (aAdd (A_alarm c s (aNow c + 10)) 83 s 1) s 7; A_answerReads (A_sendAll (aI (aI (aI a2 87 (7 * s + s) (aS a2 77 s)) 92 (7 * s + s) (aNow a2)) 91 (7 * s + s) (aS a2 83 s)) s true) s
theorem A_beat_e {a : AA} {s : Nat} : A_beat a s = beT (if 0 ≤ aS a 80 s ∧ 50 < aNow a - aS a 81 s then aI a 80 s (-1) else a) s := by
  have h0 : AFr [80] [] a (if 0 ≤ aS a 80 s ∧ 50 < aNow a - aS a 81 s then aI a 80 s (-1) else a) := by
    split
    · exact AFr_I
    · exact AFr_w AFr_r (by decide) (by decide)
  unfold A_beat beT
  dsimp only
  generalize (if 0 ≤ aS a 80 s ∧ 50 < aNow a - aS a 81 s then aI a 80 s (-1) else a) = c at h0
  have en : aNow c = aNow a := h0.1 1 (by decide) 0
  rw [en]
  have f1 := @AFr_alarm c s (aNow a + 10)
  generalize A_alarm c s (aNow a + 10) = d at f1
  have f2 : AFr [83, 88, 89, 86, 93] [] d (aBeatPeers (aAdd d 83 s 1) s 7) := by
    rw [aBeatPeers_e]
    exact AFr_w (AFr_t (AFr_t AFr_I (AFr_bpN 7)) (AFr_bclr 7)) (by decide) (by decide)
  generalize aBeatPeers (aAdd d 83 s 1) s 7 = e at f2
  have f : AFr [80, 2, 29, 30, 83, 88, 89, 86, 93] [] a e := AFr_w (AFr_t (AFr_t h0 f1) f2) (by decide) (by decide)
  have e1 : aNow e = aNow a := f.1 1 (by decide) 0
  rw [e1, f.1 77 (by decide)]
theorem M_beat {F : Nat} {σ : RS} {a : AA} {u : AU} {s : Nat} (hF : 400 ≤ F) (h : RM σ a u) (hs : s < 7) (hz : u.2 (7 + s)) (hmk : u.2 (14 + s)) (hr : aS a 73 s = 3) (hlow : ∀ p, p < 7 → 0 ≤ aS a 87 (7 * s + p)) (hmx : (aS a 151 s).toInt < 2147483000) : WP (m_beat F σ (Int32.ofNat s)) (fun τ => RM τ (A_beat a s) u) := by
  have l2 : ∀ (c : AA), aS c 73 s = 3 → (aS c 151 s).toInt < 2147483000 → ∀ n p (τ : RS), 8 ≤ p + n → p ≤ 7 → RM τ (bclr c s p) u → WP (m_beat_b132 F n τ (Int32.ofNat s) (Int32.ofNat p)) (fun τ => RM τ (A_answerReads (A_sendAll (aI (aI (aI (bclr c s 7) 87 (7 * s + s) (aS (bclr c s 7) 77 s)) 92 (7 * s + s) (aNow (bclr c s 7))) 91 (7 * s + s) (aS (bclr c s 7) 83 s)) s true) s) u) := by
    intro c hr hmx n
    induction n with
    | zero => intro p τ h1 h2; omega
    | succ n ih =>
      intro p τ h1 h2 h3
      unfold m_beat_b132
      rw [show (7 : Int32) * Int32.ofNat s + Int32.ofNat s = Int32.ofNat (7 * s + s) from i_ma, show (7 : Int32) * Int32.ofNat s + Int32.ofNat p = Int32.ofNat (7 * s + p) from i_ma]
      refine WP_if (p := 7 ≤ p) (i_gei (q := 7) (by omega) (by omega)) (fun q => ?_) (fun q => ?_)
      · have : p = 7 := by omega
        subst this
        have fr := @AFr_bclr c s 7
        generalize bclr c s 7 = d at h3 fr
        refine WP_r7 h3 (by decide) hs ?_
        refine WP_wld h3 hs hs (Or.inr (Or.inl rfl)) (fun z1 z2 z3 => ⟨fun y => absurd y (by decide), fun _ => (h3.2.2.2.2.2.2.2.2.2.2.2.2.2.2.2.2.2.2.2.2.2.2.1 s hs hmk).2.2.2, fun y => absurd y (by decide), fun y => absurd y (by decide)⟩) (fun σ1 g1 => ?_)
        rw [RM_0 (f := 1) g1 (by decide)]
        refine WP_w49 g1 (by decide) (by decide) (by omega) (fun σ2 g2 => ?_)
        refine WP_r7 g2 (by decide) hs ?_
        refine WP_w49 g2 (by decide) (by decide) (by omega) (fun σ3 g3 => ?_)
        refine WP_call (M_sendAll (bt := true) hF g3 hs hz (by show aS d 73 s = 3; rw [fr.1 73 (by decide)]; exact hr)) (fun p1 hp1 => ?_)
        refine WP_call (M_answerReads hF hp1 hs ?_) (fun p2 hp2 => WP_some hp2)
        rw [AFr_sendAll.1 151 (by decide)]
        show (aS d 151 s).toInt < _
        rw [fr.1 151 (by decide)]
        exact hmx
      · refine WP_w49 h3 (by decide) (by decide) (by omega) (fun σ1 g1 => ?_)
        rw [i_s]
        exact ih (p + 1) σ1 (by omega) (by omega) g1
  have l1 : ∀ (c : AA), aS c 73 s = 3 → (∀ p, p < 7 → 0 ≤ aS c 87 (7 * s + p)) → (aS c 151 s).toInt < 2147483000 → ∀ n p (τ : RS), 8 ≤ p + n → p ≤ 7 → RM τ (bpN c s p) u → WP (m_beat_b56 F n τ (Int32.ofNat s) (Int32.ofNat p)) (fun τ => RM τ (let a2 := aBeatPeers c s 7; A_answerReads (A_sendAll (aI (aI (aI a2 87 (7 * s + s) (aS a2 77 s)) 92 (7 * s + s) (aNow a2)) 91 (7 * s + s) (aS a2 83 s)) s true) s) u) := by
    intro c hr hlow hmx n
    induction n with
    | zero => intro p τ h1 h2; omega
    | succ n ih =>
      intro p τ h1 h2 h3
      have fr := @AFr_bpN c s p
      unfold m_beat_b56
      refine WP_if (p := 7 ≤ p) (i_gei (q := 7) (by omega) (by omega)) (fun q => ?_) (fun q => ?_)
      · have : p = 7 := by omega
        subst this
        rw [aBeatPeers_e]
        exact l2 (bpN c s 7) (by rw [fr.1 73 (by decide)]; exact hr) (by rw [fr.1 151 (by decide)]; exact hmx) F 0 τ (by omega) (Nat.zero_le _) h3
      · have next : ∀ τ', RM τ' (bpN c s (p + 1)) u → WP (m_beat_b124 F (m_beat_b56 F n) τ' (Int32.ofNat s) (Int32.ofNat p)) (fun τ => RM τ (let a2 := aBeatPeers c s 7; A_answerReads (A_sendAll (aI (aI (aI a2 87 (7 * s + s) (aS a2 77 s)) 92 (7 * s + s) (aNow a2)) 91 (7 * s + s) (aS a2 83 s)) s true) s) u) := by
          intro τ' h'
          unfold m_beat_b124
          rw [i_s]
          exact ih (p + 1) τ' (by omega) (by omega) h'
        have e : bpN c s (p + 1) = bp1 (bpN c s p) s p := rfl
        rw [e] at next
        unfold bp1 at next
        dsimp only at next
        have e87 : aS (bpN c s p) 87 (7 * s + p) = aS c 87 (7 * s + p) := fr.1 87 (by decide) _
        generalize bpN c s p = d at h3 fr next e87
        rw [show (7 : Int32) * Int32.ofNat s + Int32.ofNat p = Int32.ofNat (7 * s + p) from i_ma]
        refine WP_eq (M_isPeer h3 hs (by omega)) ?_
        cases hb : aPeer d s p with
        | false =>
          rw [hb, if_neg (fun y => nomatch y.1)] at next
          exact WP_if c0_eq (fun _ => next τ h3) (fun y => absurd rfl y)
        | true =>
          rw [hb] at next
          refine WP_if c0_eq (fun y => absurd (show (1 : Int32) = 0 from y) (by decide)) (fun _ => ?_)
          refine WP_r49 h3 (by decide) (by omega) ?_
          refine WP_if c0_le (fun q1 => ?_) (fun q1 => ?_)
          · rw [if_neg (fun y => i_nlt.mpr q1 y.2.1)] at next
            exact next τ h3
          · refine WP_r49 h3 (by decide) (by omega) ?_
            refine WP_if c0_ne (fun q2 => ?_) (fun q2 => ?_)
            · rw [if_neg (fun y => q2 y.2.2)] at next
              exact next τ h3
            · rw [if_pos ⟨rfl, i_nle.mp q1, Classical.not_not.mp q2⟩] at next
              refine WP_wld h3 hs (by omega) (Or.inr (Or.inr (Or.inl rfl))) (fun z1 z2 z3 => ⟨fun y => absurd y (by decide), fun y => absurd y (by decide), fun y => absurd y (by decide), fun _ => by decide⟩) (fun σ1 g1 => ?_)
              refine WP_w49 g1 (by decide) (by decide) (by omega) (fun σ2 g2 => ?_)
              refine WP_r49 g2 (by decide) (by omega) ?_
              refine WP_wld g2 hs (by omega) (Or.inl rfl) (fun z1 z2 z3 => ⟨fun _ => ?_, fun y => absurd y (by decide), fun y => absurd y (by decide), fun y => absurd y (by decide)⟩) (fun σ3 g3 => ?_)
              · have w3 := (z3 p (by omega)).2.2.1
                have w4 := (RM_wl h3 hs).2.2.2
                have e87' : aS (aI (aI d 88 (7 * s + p) 0) 89 (7 * s + p) (1 &&& 1)) 87 (7 * s + p) = aS d 87 (7 * s + p) := rfl
                have el : aLast (aI (aI d 88 (7 * s + p) 0) 89 (7 * s + p) (1 &&& 1)) s = aLast d s := rfl
                rw [e87', el] at w3 ⊢
                have lw := hlow p (by omega)
                rw [← e87] at lw
                rw [Int32.le_iff_toInt_le] at w3 lw
                rw [show (0 : Int32).toInt = 0 by decide] at lw
                rw [Int32.le_iff_toInt_le, Int32.le_iff_toInt_le, i_addI (by rw [i_1]; omega) (by rw [i_1]; omega), i_addI (by rw [i_1]; omega) (by rw [i_1]; omega), i_1]
                omega
              · exact next σ3 g3
  have b32 : ∀ (τ : RS) (c : AA), RM τ c u → AFr [80] [] a c → WP (m_beat_b32 F τ (Int32.ofNat s)) (fun τ => RM τ (beT c s) u) := by
    intro τ c hc fr
    have fa : AFr [2, 29, 30, 83] [] c (aAdd (A_alarm c s (aNow c + 10)) 83 s 1) := by
      have h1 := @AFr_alarm c s (aNow c + 10)
      generalize A_alarm c s (aNow c + 10) = d at h1
      exact AFr_w (AFr_t h1 AFr_I) (by decide) (by decide)
    unfold m_beat_b32
    rw [RM_0 (f := 1) hc (by decide)]
    refine WP_call (M_alarm hc (by omega)) (fun p hp => ?_)
    refine WP_r7 hp (by decide) hs ?_
    refine WP_w7 hp (by decide) (by decide) hs (fun σ1 h1 => ?_)
    refine l1 (aAdd (A_alarm c s (aNow c + 10)) 83 s 1) ?_ ?_ ?_ F 0 σ1 (by omega) (Nat.zero_le _) h1
    · rw [fa.1 73 (by decide), fr.1 73 (by decide)]
      exact hr
    · intro p hp
      rw [fa.1 87 (by decide), fr.1 87 (by decide)]
      exact hlow p hp
    · rw [fa.1 151 (by decide), fr.1 151 (by decide)]
      exact hmx
  rw [A_beat_e]
  unfold m_beat m_beat_b0
  refine WP_r7 h (by decide) hs ?_
  refine WP_if c0_lt (fun q => ?_) (fun q => ?_)
  · rw [if_neg (fun y => Int32.not_lt.mpr y.1 q)]
    exact b32 σ a h (AFr_w AFr_r (by decide) (by decide))
  · have q : 0 ≤ aS a 80 s := Int32.not_lt.mp q
    refine WP_r7 h (by decide) hs ?_
    rw [RM_0 (f := 1) h (by decide)]
    refine WP_if c2_le (fun q1 => ?_) (fun q1 => ?_)
    · rw [if_neg (fun y => i_nlt.mpr q1 y.2)]
      exact b32 σ a h (AFr_w AFr_r (by decide) (by decide))
    · rw [if_pos ⟨q, i_nle.mp q1⟩]
      refine WP_w7 h (by decide) (by decide) hs (fun σ1 h1 => ?_)
      exact b32 σ1 _ h1 AFr_I
