/-! letters are sent -/
theorem in_nat {v : Int32} {lo hi : Nat} (hh : hi < 2147483648) (h : aInR v (Int32.ofNat lo) (Int32.ofNat hi) = true) (hl : lo < 2147483648) : ∃ n, v = Int32.ofNat n ∧ lo ≤ n ∧ n ≤ hi := by
  unfold aInR at h
  have h1 := of_decide_eq_true (Bool.and_eq_true_iff.mp h).1
  have h2 := of_decide_eq_true (Bool.and_eq_true_iff.mp h).2
  rw [Int32.le_iff_toInt_le, Int32.toInt_ofNat_of_lt (by omega)] at h1
  rw [Int32.le_iff_toInt_le, Int32.toInt_ofNat_of_lt (by omega)] at h2
  refine ⟨v.toInt.toNat, ?_, by omega, by omega⟩
  rw [← Int32.toInt_inj, Int32.toInt_ofNat_of_lt (by omega)]
  omega
/-- an endpoint as a number -/
theorem wf_end {v : Int32} (h : aInR v 0 6 = true ∨ aInR v 8 15 = true) : ∃ n, v = Int32.ofNat n ∧ n < 16 := by
  rcases h with h | h
  · obtain ⟨n, h1, _, h2⟩ := in_nat (lo := 0) (hi := 6) (by omega) h (by omega)
    exact ⟨n, h1, by omega⟩
  · obtain ⟨n, h1, _, h2⟩ := in_nat (lo := 8) (hi := 15) (by omega) h (by omega)
    exact ⟨n, h1, by omega⟩
theorem RM_23 {σ : RS} {a : AA} {u : AU} {i : Nat} (h : RM σ a u) (hi : i < 256) : σ.1 23 i = aS a 23 i := h.1.1 23 (by decide) i (by rw [show rlen 23 = 256 by decide +kernel]; omega)
theorem M_parted {σ : RS} {a : AA} {u : AU} {f t : Int32} (h : RM σ a u) : m_areParted σ f t = some (aB (A_parted a f t), σ) := by
  rw [m_areParted_n, RM_0 h (by decide)]
  rfl
theorem M_draw {σ : RS} {a : AA} {u : AU} {m : Int32} (h : RM σ a u) (hm : ¬ m.toInt64 = 0) : WP (m_draw σ m) (fun p => p.1 = (A_draw a m).1 ∧ RM p.2 (A_draw a m).2 u ∧ Kp (aAk a) σ p.2) := by
  rw [m_draw_n hm, h.1.2.1]
  exact WP_some ⟨rfl, RM_L28 h, Kp_fr Fr_L (by decide)⟩
theorem aS_fly {a : AA} {l : AL} {t : Int32} {f i : Nat} (q : f ≠ 2 ∧ f ≠ 21 ∧ f ≠ 22) : aS (A_fly a l t) f i = aS a f i := by
  unfold A_fly
  by_cases q2 : 128 ≤ (aWay a).length
  · rw [if_pos q2]
    exact aS_If q.2.2
  · rw [if_neg q2]
    show aS (aI (aI a 2 0 _) 21 0 _) f i = _
    rw [aS_If q.2.1, aS_If q.1]
theorem aAk_fly {a : AA} {l : AL} {t : Int32} : aAk (A_fly a l t) = aAk a := by
  unfold A_fly
  by_cases q2 : 128 ≤ (aWay a).length
  · rw [if_pos q2]
    rfl
  · rw [if_neg q2]
    rfl
theorem spread_nz {a : AA} (h : aLoc a) : ¬ (aS a 27 0 + 1).toInt64 = 0 := by
  intro z
  have h1 := (Int32.le_iff_toInt_le).mp h.1
  have h2 := (Int32.le_iff_toInt_le).mp h.2.1
  have e : (aS a 27 0 + 1).toInt = (aS a 27 0).toInt + 1 := by
    rw [Int32.toInt_add]
    have : (1 : Int32).toInt = 1 := by decide
    rw [this]
    have z0 : (0 : Int32).toInt = 0 := by decide
    have z1 : (1000 : Int32).toInt = 1000 := by decide
    rw [Int.bmod_def]
    omega
  have : ((aS a 27 0 + 1).toInt64).toInt = 0 := by rw [z]; decide
  rw [Int32.toInt_toInt64, e] at this
  have z0 : (0 : Int32).toInt = 0 := by decide
  omega
theorem RM_loc {σ : RS} {a : AA} {u : AU} (h : RM σ a u) : aLoc a := h.2.2.2.2.2.2.2.2.2.2.2.2.2.2.2.2.2.2.2.1
theorem aAk_draw {a : AA} {m : Int32} : aAk (A_draw a m).2 = aAk a := rfl
theorem aS_draw {a : AA} {m : Int32} {f i : Nat} : aS (A_draw a m).2 f i = aS a f i := rfl
theorem M_send2 {F : Nat} {σ : RS} {a : AA} {u : AU} {slot : Nat} {l : AL} {late : Int32} {b : Bool} (hF : 400 ≤ F) (h : RM σ a u) (hs : slot < 354) (hs2 : 128 ≤ slot) (hl : RLt (aAk a) σ slot l) :
    WP (m_sendOut_b125 F σ (aB b) (Int32.ofNat slot) late) (fun σ' => RM σ' (let r3 := A_draw a (aS a 27 0 + 1)
      let a4 := A_fly r3.2 l (late + r3.1)
      if b = true then A_fly (A_draw a4 (aS a 27 0 + 1)).2 l (late + (A_draw a4 (aS a 27 0 + 1)).1) else a4) u ∧ Kp (aAk a) σ σ') := by
  unfold m_sendOut_b125
  rw [RM_27 h]
  refine WP_call (M_draw h (spread_nz (RM_loc h))) (fun p hp => ?_)
  obtain ⟨e1, h1, k1⟩ := hp
  rw [e1]
  refine WP_call (M_fly hF h1 hs (k1 slot l hs2 hl) (Or.inl hs2)) (fun p2 hp2 => ?_)
  obtain ⟨h2, k2⟩ := hp2
  cases b with
  | false =>
    refine WP_if c0_eq (fun _ => WP_some ⟨h2, Kp_t k1 k2⟩) (fun q => absurd rfl q)
  | true =>
    refine WP_if c0_eq (fun q => absurd q (by decide)) (fun q => ?_)
    rw [RM_27 h2, aS_fly (by decide)]
    have e27 : aS (A_draw a (aS a 27 0 + 1)).2 27 0 = aS a 27 0 := rfl
    rw [e27]
    refine WP_call (M_draw h2 (by have := spread_nz (RM_loc h); exact this)) (fun p3 hp3 => ?_)
    obtain ⟨e3, h3, k3⟩ := hp3
    rw [e3]
    have ek : ∀ t, aAk (A_draw (A_fly (A_draw a (aS a 27 0 + 1)).2 l t) (aS a 27 0 + 1)).2 = aAk a := fun t => aAk_fly
    have k23 := Kp_t k2 (aAk_fly ▸ k3)
    refine WP_call (M_fly (l := l) hF h3 hs (by rw [ek]; exact k23 slot l hs2 (k1 slot l hs2 hl)) (Or.inl hs2)) (fun p4 hp4 => ?_)
    obtain ⟨h4, k4⟩ := hp4
    exact WP_some ⟨h4, Kp_t k1 (Kp_t k23 (by rw [ek] at k4; exact k4))⟩
theorem M_send1 {F : Nat} {σ : RS} {a : AA} {u : AU} {slot : Nat} {l : AL} {late : Int32} (hF : 400 ≤ F) (h : RM σ a u) (hs : slot < 354) (hs2 : 128 ≤ slot) (hl : RLt (aAk a) σ slot l) :
    WP (m_sendOut_b81 F σ (Int32.ofNat slot) late) (fun σ' => RM σ' (if (A_draw a 1000).1 < aS a 25 0 then aAdd (A_draw a 1000).2 22 0 1
      else
        let r2 := A_draw (A_draw a 1000).2 1000
        let r3 := A_draw r2.2 (aS a 27 0 + 1)
        let a4 := A_fly r3.2 l (late + r3.1)
        if r2.1 < aS a 26 0 then A_fly (A_draw a4 (aS a 27 0 + 1)).2 l (late + (A_draw a4 (aS a 27 0 + 1)).1) else a4) u ∧ Kp (aAk a) σ σ') := by
  unfold m_sendOut_b81
  refine WP_call (M_draw h (by decide)) (fun p hp => ?_)
  obtain ⟨e1, h1, k1⟩ := hp
  rw [e1, RM_0 (f := 25) h1 (by decide)]
  refine WP_if c2_ge (fun q => ?_) (fun q => ?_)
  · have q : ¬ (A_draw a 1000).1 < aS a 25 0 := by
      have : aS a 25 0 ≤ (A_draw a 1000).1 := q
      rw [Int32.lt_iff_toInt_lt]
      rw [Int32.le_iff_toInt_le] at this
      omega
    rw [if_neg q]
    refine WP_call (M_draw h1 (by decide)) (fun p2 hp2 => ?_)
    obtain ⟨e2, h2, k2⟩ := hp2
    rw [e2, RM_0 (f := 26) h2 (by decide)]
    refine WP_if c2_ge (fun q => ?_) (fun q => ?_)
    · have q : ¬ (A_draw (A_draw a 1000).2 1000).1 < aS a 26 0 := by
        have : aS a 26 0 ≤ (A_draw (A_draw a 1000).2 1000).1 := q
        rw [Int32.lt_iff_toInt_lt]
        rw [Int32.le_iff_toInt_le] at this
        omega
      have k2 : Kp (aAk a) p.2 p2.2 := by
        rw [aAk_draw] at k2
        exact k2
      have l2 := k2 _ _ hs2 (k1 _ _ hs2 hl)
      have key := M_send2 (b := false) (late := late) hF h2 hs hs2 (l := l) (by rw [aAk_draw, aAk_draw]; exact l2)
      rw [aAk_draw, aAk_draw, aS_draw, aS_draw] at key
      refine WP_mono key (fun σ' hσ => ⟨?_, Kp_t k1 (Kp_t k2 hσ.2)⟩)
      dsimp only
      rw [if_neg q]
      exact hσ.1
    · have q : (A_draw (A_draw a 1000).2 1000).1 < aS a 26 0 := by
        have : ¬ aS a 26 0 ≤ (A_draw (A_draw a 1000).2 1000).1 := q
        rw [Int32.lt_iff_toInt_lt]
        rw [Int32.le_iff_toInt_le] at this
        omega
      have k2 : Kp (aAk a) p.2 p2.2 := by
        rw [aAk_draw] at k2
        exact k2
      have l2 := k2 _ _ hs2 (k1 _ _ hs2 hl)
      have key := M_send2 (b := true) (late := late) hF h2 hs hs2 (l := l) (by rw [aAk_draw, aAk_draw]; exact l2)
      rw [aAk_draw, aAk_draw, aS_draw, aS_draw] at key
      refine WP_mono key (fun σ' hσ => ⟨?_, Kp_t k1 (Kp_t k2 hσ.2)⟩)
      dsimp only
      rw [if_pos q]
      exact hσ.1
  · have q : (A_draw a 1000).1 < aS a 25 0 := by
      have : ¬ aS a 25 0 ≤ (A_draw a 1000).1 := q
      rw [Int32.lt_iff_toInt_lt]
      rw [Int32.le_iff_toInt_le] at this
      omega
    rw [if_pos q, RM_0 (f := 22) h1 (by decide)]
    exact WP_some ⟨RM_I h1 (by decide), Kp_t k1 (Kp_fr Fr_I (by decide))⟩
theorem M_sendOut {F : Nat} {σ : RS} {a : AA} {u : AU} {slot : Nat} {l : AL} (hF : 400 ≤ F) (h : RM σ a u) (hs : slot < 354) (hs2 : 128 ≤ slot) (hl : RLt (aAk a) σ slot l) : WP (m_sendOut F σ (Int32.ofNat slot)) (fun σ' => RM σ' (A_sendOut a l) u ∧ Kp (aAk a) σ σ') := by
  unfold m_sendOut m_sendOut_b0 A_sendOut
  obtain ⟨h6, h7, _, _, _, _, ⟨w1, w2⟩, _⟩ := id hl
  refine WP_ld rfl 354 (by decide +kernel) hs ?_
  refine WP_ld rfl 354 (by decide +kernel) hs ?_
  rw [h6, h7]
  refine WP_eq (M_parted h) ?_
  obtain ⟨n2, e2, g2⟩ := wf_end w1
  obtain ⟨n3, e3, g3⟩ := wf_end w2
  have ei : (16 * l.1 2 + l.1 3).toNatClampNeg = 16 * n2 + n3 := by rw [e2, e3, i_16, i_cl (by omega)]
  refine WP_if (p := A_parted a (l.1 2) (l.1 3) = false) (by
    show xc0 .eq (aB (A_parted a (l.1 2) (l.1 3))) = true ↔ _
    generalize A_parted a (l.1 2) (l.1 3) = x
    revert x
    decide) (fun q => ?_) (fun q => ?_)
  · rw [if_neg (by rw [q]; decide), ei]
    refine WP_ld (n := 16 * n2 + n3) (by rw [e2, e3, i_16]) 256 (by decide +kernel) (by omega) ?_
    show WP (if xc0 .ne (σ.1 25 0) = true then _ else _) _
    rw [RM_23 h (by omega), RM_0 (f := 25) h (by decide), RM_0 (f := 26) h (by decide), RM_0 (f := 1) h (by decide), RM_27 h]
    have sn : ¬ (aS a 25 0 = 0 ∧ aS a 26 0 = 0 ∧ aS a 27 0 = 0) → WP (m_sendOut_b81 F σ (Int32.ofNat slot) (aS a 1 0 + aS a 23 (16 * n2 + n3))) (fun σ' => RM σ' (if aS a 25 0 = 0 ∧ aS a 26 0 = 0 ∧ aS a 27 0 = 0 then A_fly a l (aNow a + aS a 23 (16 * n2 + n3)) else if (A_draw a 1000).1 < aS a 25 0 then aAdd (A_draw a 1000).2 22 0 1
      else
        let late := aNow a + aS a 23 (16 * n2 + n3)
        let r2 := A_draw (A_draw a 1000).2 1000
        let r3 := A_draw r2.2 (aS a 27 0 + 1)
        let a4 := A_fly r3.2 l (late + r3.1)
        if r2.1 < aS a 26 0 then A_fly (A_draw a4 (aS a 27 0 + 1)).2 l (late + (A_draw a4 (aS a 27 0 + 1)).1) else a4) u ∧ Kp (aAk a) σ σ') := by
      intro z
      rw [if_neg z]
      exact M_send1 hF h hs hs2 hl
    refine WP_if c0_ne (fun q1 => sn (fun z => q1 z.1)) (fun q1 => ?_)
    refine WP_if c0_ne (fun q2 => sn (fun z => q2 z.2.1)) (fun q2 => ?_)
    refine WP_if c0_ne (fun q3 => sn (fun z => q3 z.2.2)) (fun q3 => ?_)
    rw [if_pos ⟨Classical.not_not.mp q1, Classical.not_not.mp q2, Classical.not_not.mp q3⟩]
    exact WP_call (M_fly hF h hs hl (Or.inl hs2)) (fun p hp => WP_some hp)
  · rw [if_pos (by revert q; cases A_parted a (l.1 2) (l.1 3) <;> simp)]
    rw [RM_0 (f := 22) h (by decide)]
    exact WP_some ⟨RM_I h (by decide), Kp_fr Fr_I (by decide)⟩
