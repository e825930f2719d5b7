/-! the leader begins; the alarm rings -/
/-- an entry more has room in the log's files -/
def pRoom (a : AA) (s : Nat) : Prop := (aLast a s).toInt + 1 < 1073741824 ∧ (aCh a s = [] ∨ 8000 < (aFc a s ((aCh a s).getLastD 0)).1 1 → (aCh a s).length < 12)
theorem pApp_of {a : AA} {s : Nat} (w : WLg a s) (h : pRoom a s) (hl : ¬ 300 ≤ aLast a s - aBase a s) : pApp a s := by
  refine ⟨?_, h⟩
  obtain ⟨w1, w2, w3, w4⟩ := w
  have := Int32.not_le.mp hl
  rw [Int32.lt_iff_toInt_lt, i_subI (by omega) (by omega), show (300 : Int32).toInt = 300 by decide] at this
  omega
def beg1 (b : AA) (s p : Nat) (l : Int32) (t : Int32) : AA := let k := 7 * s + p; aI (aI (aI (aI (aI (aI (aI (aI b 86 k l) 87 k 0) 88 k 0) 90 k 0) 91 k 0) 89 k 1) 92 k t) 93 k 0
theorem aBegin_s {a : AA} {s p : Nat} : aBegin a s (p + 1) = beg1 (aBegin a s p) s p (aLast a s + 1) (aNow a) := rfl
theorem AFr_beg1 {b : AA} {s p : Nat} {l t : Int32} : AFr [86, 87, 88, 89, 90, 91, 92, 93] [] b (beg1 b s p l t) := AFr_w (AFr_t (AFr_t (AFr_t (AFr_t (AFr_t (AFr_t (AFr_t AFr_I AFr_I) AFr_I) AFr_I) AFr_I) AFr_I) AFr_I) AFr_I) (by decide) (by decide)
theorem AFr_begin {a : AA} {s : Nat} : ∀ n, AFr [86, 87, 88, 89, 90, 91, 92, 93] [] a (aBegin a s n) := by
  intro n
  induction n with
  | zero => exact AFr_w AFr_r (by decide) (by decide)
  | succ n ih =>
    rw [aBegin_s]
    exact AFr_w (AFr_t ih AFr_beg1) (by decide) (by decide)
theorem beg1_e {b : AA} {s p : Nat} {l t : Int32} : aS (beg1 b s p l t) 86 (7 * s + p) = l ∧ aS (beg1 b s p l t) 87 (7 * s + p) = 0 ∧ aS (beg1 b s p l t) 88 (7 * s + p) = 0 ∧ aS (beg1 b s p l t) 90 (7 * s + p) = 0 := by
  have hI : ∀ (c : AA) (f i : Nat) (v : Int32), aS (aI c f i v) f i = v := fun c f i v => if_pos ⟨rfl, rfl⟩
  unfold beg1
  dsimp only
  refine ⟨?_, ?_, ?_, ?_⟩
  · rw [aS_If (by decide), aS_If (by decide), aS_If (by decide), aS_If (by decide), aS_If (by decide), aS_If (by decide), aS_If (by decide), hI]
  · rw [aS_If (by decide), aS_If (by decide), aS_If (by decide), aS_If (by decide), aS_If (by decide), aS_If (by decide), hI]
  · rw [aS_If (by decide), aS_If (by decide), aS_If (by decide), aS_If (by decide), aS_If (by decide), hI]
  · rw [aS_If (by decide), aS_If (by decide), aS_If (by decide), aS_If (by decide), hI]
theorem beg1_o {b : AA} {s p q f : Nat} {l t : Int32} (h : q ≠ 7 * s + p) : aS (beg1 b s p l t) f q = aS b f q := by
  have hI : ∀ (c : AA) (g : Nat) (v : Int32), aS (aI c g (7 * s + p) v) f q = aS c f q := fun c g v => if_neg (fun z => h z.2)
  unfold beg1
  dsimp only
  rw [hI, hI, hI, hI, hI, hI, hI, hI]
theorem aBegin_e {a : AA} {s : Nat} : ∀ n p, p < n → aS (aBegin a s n) 86 (7 * s + p) = aLast a s + 1 ∧ aS (aBegin a s n) 87 (7 * s + p) = 0 ∧ aS (aBegin a s n) 88 (7 * s + p) = 0 ∧ aS (aBegin a s n) 90 (7 * s + p) = 0 := by
  intro n
  induction n with
  | zero => intro p hp; omega
  | succ n ih =>
    intro p hp
    rw [aBegin_s]
    by_cases q : p = n
    · rw [q]
      exact beg1_e
    · rw [beg1_o (by omega), beg1_o (by omega), beg1_o (by omega), beg1_o (by omega)]
      exact ih p (by omega)
theorem RM_67 {σ : RS} {a : AA} {u : AU} {s : Nat} (h : RM σ a u) (hs : s < 7) : 0 ≤ aS a 67 s := by
  rcases (h.2.2.2.2.2.2.2.2.2.2.1 s hs).2 with ⟨z, _⟩ | ⟨z, y, _⟩
  · rw [z]
    decide
  · rw [z, Int32.le_iff_toInt_le, Int32.toInt_ofNat_of_lt (by omega)]
    show (0 : Int) ≤ _
    omega
theorem M_lead {F : Nat} {σ : RS} {a : AA} {u : AU} {s : Nat} (hF : 400 ≤ F) (h : RM σ a u) (hs : s < 7) (hup : aS a 52 s = 1) (hz : u.2 s) (hz7 : u.2 (7 + s)) (hmk : u.2 (14 + s)) (hp : pRoom a s) (hw : wN a < 2147483647) (hmx : (aS a 151 s).toInt < 2147483000) : WP (m_lead F σ (Int32.ofNat s)) (fun τ => RM τ (A_lead a s) u) := by
  have wl := RM_wl h hs
  unfold m_lead m_lead_b0 A_lead
  refine WP_r7 h (by decide) hs (WP_r7 h (by decide) hs ?_)
  refine WP_if c2_lt (fun q => ?_) (fun q => ?_)
  · have q : ¬ 300 ≤ aLast a s - aBase a s := fun y => Int32.not_le.mpr q y
    rw [if_neg q]
    have h0 := RM_off h (7 + s)
    refine WP_w73 h0 hs (Or.inr (fun y => y.2 rfl)) (fun σ1 h1 => ?_)
    refine WP_w7 h1 (by decide) (by decide) hs (fun σ2 h2 => ?_)
    refine WP_w7 h2 (by decide) (by decide) hs (fun σ3 h3 => ?_)
    have fa : AFr [73, 74, 80] [] a (aI (aI (aI a 73 s 3) 74 s (Int32.ofNat s)) 80 s (-1)) := AFr_w (AFr_t (AFr_t AFr_I AFr_I) AFr_I) (by decide) (by decide)
    have e73 : aS (aI (aI (aI a 73 s 3) 74 s (Int32.ofNat s)) 80 s (-1)) 73 s = 3 := by
      rw [aS_If (by decide), aS_If (by decide), aS_I, if_pos ⟨rfl, rfl⟩]
    generalize (aI (aI (aI a 73 s 3) 74 s (Int32.ofNat s)) 80 s (-1)) = c at h3 fa e73
    have elc : aLast c s = aLast a s := fa.1 56 (by decide) s
    dsimp only
    have key : ∀ n p (τ : RS), 8 ≤ p + n → p ≤ 7 → RM τ (aBegin c s p) (u.1, fun x => u.2 x ∧ x ≠ 7 + s) → WP (m_lead_b55 F n τ (Int32.ofNat s) (Int32.ofNat p)) (fun τ => RM τ (A_beat (A_append (aI (aI (aBegin c s 7) 83 s 0) 82 s (aLast a s + 1)) s (aS a 53 s, 0, 0, 0, 0, -1)) s) u) := by
      intro n
      induction n with
      | zero => intro p τ h1 h2; omega
      | succ n ih =>
        intro p τ h1 h2 h3
        have fr := @AFr_begin c s p
        unfold m_lead_b55
        rw [show (7 : Int32) * Int32.ofNat s + Int32.ofNat p = Int32.ofNat (7 * s + p) from i_ma]
        refine WP_if (p := 7 ≤ p) (i_gei (q := 7) (by omega) (by omega)) (fun q7 => ?_) (fun q7 => ?_)
        · have : p = 7 := by omega
          subst this
          have wlc := RM_wl h3 hs
          have hon : RM τ (aBegin c s 7) u := by
            refine RM_on7 h3 hs (fun _ _ p hp => ?_)
            obtain ⟨b1, b2, b3, b4⟩ := @aBegin_e c s 7 p hp
            have b67 := RM_67 h3 hs
            have el : aLast (aBegin c s 7) s = aLast c s := fr.1 56 (by decide) s
            obtain ⟨w1, w2, w3, w4⟩ := wlc
            rw [el]
            rw [el] at w2 w4
            rw [b1, b2, b3, b4]
            refine ⟨?_, Int32.le_refl _, ?_, Int32.le_refl _, b67, Int32.le_refl _⟩
            · rw [Int32.le_iff_toInt_le, i_addI (by rw [i_1]; omega) (by rw [i_1]; omega), i_1]
              omega
            · rw [Int32.le_iff_toInt_le, i_0]
              omega
          have e73' : aS (aBegin c s 7) 73 s = 3 := by rw [fr.1 73 (by decide)]; exact e73
          have e87 : ∀ p, p < 7 → aS (aBegin c s 7) 87 (7 * s + p) = 0 := fun p hp => (@aBegin_e c s 7 p hp).2.1
          have fb : AFr [73, 74, 80, 86, 87, 88, 89, 90, 91, 92, 93] [] a (aBegin c s 7) := AFr_w (AFr_t fa fr) (by decide) (by decide)
          have el0 : aLast (aBegin c s 7) s = aLast a s := (fr.1 56 (by decide) s).trans elc
          generalize aBegin c s 7 = d at hon e73' e87 fb el0
          refine WP_w7 hon (by decide) (by decide) hs (fun σ4 h4 => ?_)
          refine WP_r7 h4 (by decide) hs ?_
          rw [show aS (aI d 83 s 0) 56 s = aLast a s from el0]
          refine WP_w7 h4 (by decide) (by decide) hs (fun σ5 h5 => ?_)
          have fc : AFr [73, 74, 80, 86, 87, 88, 89, 90, 91, 92, 93, 83, 82] [] a (aI (aI d 83 s 0) 82 s (aLast a s + 1)) := AFr_w (AFr_t (AFr_t fb AFr_I) AFr_I) (by decide) (by decide)
          have f73 : aS (aI (aI d 83 s 0) 82 s (aLast a s + 1)) 73 s = 3 := e73'
          have f87 : ∀ p, p < 7 → aS (aI (aI d 83 s 0) 82 s (aLast a s + 1)) 87 (7 * s + p) = 0 := e87
          generalize (aI (aI d 83 s 0) 82 s (aLast a s + 1)) = e at h5 fc f73 f87
          refine WP_r7 h5 (by decide) hs ?_
          rw [fc.1 53 (by decide)]
          have wle := RM_wl h5 hs
          have ell : aLast e s = aLast a s := fc.1 56 (by decide) s
          have elb : aBase e s = aBase a s := fc.1 55 (by decide) s
          have hpe : pApp e s := by
            refine pApp_of wle ?_ (by rw [ell, elb]; exact q)
            obtain ⟨p1, p2⟩ := hp
            unfold pRoom
            rw [ell, fc.2.2.2.2.2.2.2.2.2.1 (by decide), fc.2.2.2.2.2.2.2.1 (by decide)]
            exact ⟨p1, p2⟩
          refine WP_call (M_append (e := (aS a 53 s, 0, 0, 0, 0, -1)) hF h5 hs (by rw [fc.1 52 (by decide)]; exact hup) hz hpe ⟨rfl, Or.inl rfl, fun z => absurd (show (0 : Int32) = 2 from z) (by decide)⟩ (Nat.zero_le _) (fun y v hy hv => absurd hv (by simp [eCon]))) (fun p1 hp1 => ?_)
          have fA := @AFr_app e s (aS a 53 s, 0, 0, 0, 0, -1)
          refine WP_call (M_beat hF hp1 hs hz7 hmk (by rw [fA.1 73 (by decide)]; exact f73) (fun p hp => by rw [fA.1 87 (by decide), f87 p hp]; exact Int32.le_refl _) (by rw [fA.1 151 (by decide), fc.1 151 (by decide)]; exact hmx)) (fun p2 hp2 => WP_some hp2)
        · have e : aBegin c s (p + 1) = beg1 (aBegin c s p) s p (aLast c s + 1) (aNow c) := rfl
          have el0 : aLast (aBegin c s p) s = aLast c s := fr.1 56 (by decide) s
          have en0 : aS (aBegin c s p) 1 0 = aNow c := fr.1 1 (by decide) 0
          have nx := fun τ' => ih (p + 1) τ' (by omega) (by omega)
          rw [e] at nx
          generalize aBegin c s p = d at h3 nx el0 en0
          refine WP_r7 h3 (by decide) hs ?_
          rw [show aS d 56 s = aLast c s from el0]
          refine WP_wld h3 hs (by omega) (Or.inl rfl) (fun z1 => absurd rfl z1.2) (fun σ1 g1 => ?_)
          refine WP_wld g1 hs (by omega) (Or.inr (Or.inl rfl)) (fun z1 => absurd rfl z1.2) (fun σ2 g2 => ?_)
          refine WP_wld g2 hs (by omega) (Or.inr (Or.inr (Or.inl rfl))) (fun z1 => absurd rfl z1.2) (fun σ3 g3 => ?_)
          refine WP_wld g3 hs (by omega) (Or.inr (Or.inr (Or.inr rfl))) (fun z1 => absurd rfl z1.2) (fun σ4 g4 => ?_)
          refine WP_w49 g4 (by decide) (by decide) (by omega) (fun σ5 g5 => ?_)
          refine WP_w49 g5 (by decide) (by decide) (by omega) (fun σ6 g6 => ?_)
          rw [RM_0 (f := 1) g6 (by decide), show aS (aI (aI (aI (aI (aI (aI d 86 (7 * s + p) (aLast c s + 1)) 87 (7 * s + p) 0) 88 (7 * s + p) 0) 90 (7 * s + p) 0) 91 (7 * s + p) 0) 89 (7 * s + p) (1 &&& 1)) 1 0 = aNow c from en0]
          refine WP_w49 g6 (by decide) (by decide) (by omega) (fun σ7 g7 => ?_)
          refine WP_w49 g7 (by decide) (by decide) (by omega) (fun σ8 g8 => ?_)
          rw [i_s]
          exact nx σ8 g8
    exact key F 0 σ3 (by omega) (Nat.zero_le _) h3
  · have q : 300 ≤ aLast a s - aBase a s := Int32.not_lt.mp q
    rw [if_pos q]
    refine WP_r7 h (by decide) hs ?_
    refine WP_call (M_stepDown hF h hs hw) (fun p hp => WP_some hp)
