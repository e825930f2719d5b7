/-! the face: the net's settings, what is told of the state -/
theorem RM_27w {σ : RS} {a : AA} {u : AU} {v : Int32} (h : RM σ a u) (hv : 0 ≤ v ∧ v ≤ 1000) : RM (setI σ 27 0 v) (aI a 27 0 v) u := by
  have hF : Fr [27] [] σ (setI σ 27 0 v) := Fr_I
  have e : aS (aI a 27 0 v) 27 0 = v := rfl
  exact ⟨RSc_I h.1, RWay_fr hF (by decide) h.2.1, fun s hs => RWt_fr hF (by decide) (h.2.2.1 s hs), fun l hl => RLt_fr hF (by decide) (h.2.2.2.1 l hl), fun s hs => RLog_fr hF (by decide) (h.2.2.2.2.1 s hs), fun s hs => RDk_fr hF (by decide) (h.2.2.2.2.2.1 s hs), fun s hs => RSl_fr hF (by decide) (h.2.2.2.2.2.2.1 s hs), fun s hs hu => RCh_fr hF (by decide) (h.2.2.2.2.2.2.2.1 s hs hu), fun s hs hu => RAt_fr hF (by decide) (h.2.2.2.2.2.2.2.2.1 s hs hu), fun s hs => RMc_fr hF (by decide) (h.2.2.2.2.2.2.2.2.2.1 s hs), fun s hs => RSh_fr hF (by decide) (h.2.2.2.2.2.2.2.2.2.2.1 s hs), fun s hs => RPc_fr hF (by decide) (h.2.2.2.2.2.2.2.2.2.2.2.1 s hs), fun s hs => RRq_fr hF (by decide) (h.2.2.2.2.2.2.2.2.2.2.2.2.1 s hs), RAk_fr hF (by decide) h.2.2.2.2.2.2.2.2.2.2.2.2.2.1, fun s hs => RWn_fr hF (by decide) (h.2.2.2.2.2.2.2.2.2.2.2.2.2.2.1 s hs), RTp_fr hF (by decide) h.2.2.2.2.2.2.2.2.2.2.2.2.2.2.2.1, RRe_fr hF (by decide) h.2.2.2.2.2.2.2.2.2.2.2.2.2.2.2.2.1, fun s hs => RDn_fr hF (by decide) (h.2.2.2.2.2.2.2.2.2.2.2.2.2.2.2.2.2.1 s hs), RSum_fr hF (by decide) h.2.2.2.2.2.2.2.2.2.2.2.2.2.2.2.2.2.2.1, ⟨by rw [e]; exact hv.1, by rw [e]; exact hv.2, h.2.2.2.2.2.2.2.2.2.2.2.2.2.2.2.2.2.2.2.1.2.2⟩, h.2.2.2.2.2.2.2.2.2.2.2.2.2.2.2.2.2.2.2.2.1, h.2.2.2.2.2.2.2.2.2.2.2.2.2.2.2.2.2.2.2.2.2.1, h.2.2.2.2.2.2.2.2.2.2.2.2.2.2.2.2.2.2.2.2.2.2.1, h.2.2.2.2.2.2.2.2.2.2.2.2.2.2.2.2.2.2.2.2.2.2.2⟩
theorem b_false {b : Bool} (h : ¬ b = true) : b = false := by
  cases b with
  | true => exact absurd rfl h
  | false => rfl
theorem in_bd {v lo hi : Int32} (h : aInR v lo hi = true) : lo ≤ v ∧ v ≤ hi := by
  unfold aInR at h
  exact ⟨of_decide_eq_true (Bool.and_eq_true_iff.mp h).1, of_decide_eq_true (Bool.and_eq_true_iff.mp h).2⟩
theorem end_nat {x : Int32} (h : aEnd x = true) : ∃ p, x = Int32.ofNat p ∧ p < 16 := by
  unfold aEnd at h
  rcases Bool.or_eq_true_iff.mp h with z | z
  · obtain ⟨n, h1, h2⟩ := in_nat2 (hi := 6) (by omega) z
    exact ⟨n, h1, by omega⟩
  · obtain ⟨n, h1, _, h2⟩ := in_nat (lo := 8) (hi := 15) (by omega) z (by omega)
    exact ⟨n, h1, by omega⟩
theorem F_delay {σ : RS} {a : AA} {u : AU} {f t n : Int32} (h : RM σ a u) : FW (m_delay σ f t n) (A_delay (aI a 0 0 0) f t n) u := by
  unfold A_delay m_delay m_delay_b0 m_delay_b15
  have thr : ∀ k : Nat, k ≠ 0 → k < 5 → ∀ v, FW (m_delay_b36 σ (Int32.ofNat k) f t n) (aI a 0 0 0, k, v) u := by
    intro k hk hk5 v
    unfold m_delay_b36
    refine FW_no hk (WP_th h (fun τ hτ e0 => ?_))
    rw [e0]
    refine WP_if c0_le (fun y => ?_) (fun _ => WP_some hτ)
    rw [show (0 : Int32) = Int32.ofNat 0 from rfl, i_ltn (by omega) (by omega)] at y
    omega
  by_cases q1 : aEnd f = true
  · by_cases q2 : aEnd t = true
    · by_cases q3 : aInR n 1 1000 = true
      · rw [q1, q2, q3]
        simp only [Bool.not_true, Bool.or_self, Bool.false_eq_true, if_false]
        refine FW_ok rfl (WP_end (fun _ => ?_) (fun y => by rw [q1] at y; exact absurd y (by decide)))
        refine WP_if c0_eq (fun y => absurd (show (1 : Int32) = 0 from y) (by decide)) (fun _ => ?_)
        refine WP_end (fun _ => ?_) (fun y => by rw [q2] at y; exact absurd y (by decide))
        refine WP_if c0_ne (fun _ => ?_) (fun y => absurd (show ¬ (1 : Int32) = 0 by decide) y)
        refine WP_in (lo' := 1) (hi' := 1000) (by decide) (by decide) (fun _ => ?_) (fun y => by rw [q3] at y; exact absurd y (by decide))
        refine WP_if c0_ne (fun _ => ?_) (fun y => absurd (show ¬ (1 : Int32) = 0 by decide) y)
        unfold m_delay_b36
        refine WP_th h (fun τ hτ e0 => ?_)
        rw [e0]
        refine WP_if c0_le (fun _ => ?_) (fun y => absurd (by decide) y)
        obtain ⟨p, e1, hp⟩ := end_nat q1
        obtain ⟨r, e2, hr⟩ := end_nat q2
        rw [e1, e2, show (16 : Int32) * Int32.ofNat p + Int32.ofNat r = Int32.ofNat (16 * p + r) from i_ma (c := 16), i_cl (by omega)]
        refine WP_ld rfl 256 (by decide +kernel) (by omega) ?_
        refine WP_st rfl 256 (by decide +kernel) (by omega) ?_
        refine WP_some ⟨RM_I hτ (by decide), ?_⟩
        exact hτ.1.1 23 (by decide) _ (by rw [show rlen 23 = 256 by decide +kernel]; omega)
      · have q3 := b_false q3
        rw [q1, q2, q3]
        simp only [Bool.not_true, Bool.not_false, Bool.or_self, Bool.false_eq_true, if_false, if_true]
        refine WP_end (fun _ => ?_) (fun y => by rw [q1] at y; exact absurd y (by decide))
        refine WP_if c0_eq (fun y => absurd (show (1 : Int32) = 0 from y) (by decide)) (fun _ => ?_)
        refine WP_end (fun _ => ?_) (fun y => by rw [q2] at y; exact absurd y (by decide))
        refine WP_if c0_ne (fun _ => ?_) (fun y => absurd (show ¬ (1 : Int32) = 0 by decide) y)
        refine WP_in (lo' := 1) (hi' := 1000) (by decide) (by decide) (fun y => by rw [q3] at y; exact absurd y (by decide)) (fun _ => ?_)
        refine WP_if c0_ne (fun y => absurd rfl y) (fun _ => ?_)
        exact thr 2 (by decide) (by decide) 0
    · have q2 := b_false q2
      rw [q1, q2]
      simp only [Bool.not_true, Bool.not_false, Bool.or_true, if_true]
      refine WP_end (fun _ => ?_) (fun y => by rw [q1] at y; exact absurd y (by decide))
      refine WP_if c0_eq (fun y => absurd (show (1 : Int32) = 0 from y) (by decide)) (fun _ => ?_)
      refine WP_end (fun y => by rw [q2] at y; exact absurd y (by decide)) (fun _ => ?_)
      refine WP_if c0_ne (fun y => absurd rfl y) (fun _ => ?_)
      exact thr 1 (by decide) (by decide) 0
  · have q1 := b_false q1
    rw [q1]
    simp only [Bool.not_false, Bool.true_or, if_true]
    refine WP_end (fun y => by rw [q1] at y; exact absurd y (by decide)) (fun _ => ?_)
    refine WP_if c0_eq (fun _ => ?_) (fun y => absurd rfl y)
    exact thr 1 (by decide) (by decide) 0
theorem F_part {σ : RS} {a : AA} {u : AU} {n : Int32} (h : RM σ a u) : FW (m_part σ n) (A_part (aI a 0 0 0) n) u := by
  unfold A_part m_part m_part_b0 m_part_b18
  by_cases q1 : aInR n 0 65535 = true
  · rw [q1]
    simp only [Bool.not_true, Bool.false_eq_true, if_false]
    refine FW_ok rfl (WP_in (lo' := 0) (hi' := 65535) (by decide) (by decide) (fun _ => ?_) (fun y => by rw [q1] at y; exact absurd y (by decide)))
    refine WP_if c0_eq (fun y => absurd (show (1 : Int32) = 0 from y) (by decide)) (fun _ => ?_)
    refine WP_th h (fun τ hτ e0 => ?_)
    rw [e0]
    refine WP_if c0_le (fun _ => ?_) (fun y => absurd (by decide) y)
    have e24 : τ.1 24 0 = aS (aI a 0 0 0) 24 0 := RM_0 hτ (by decide)
    refine ⟨_, rfl, RM_I hτ (by decide), e24⟩
  · have q1 := b_false q1
    rw [q1]
    simp only [Bool.not_false, if_true]
    refine FW_no (by decide) (WP_in (lo' := 0) (hi' := 65535) (by decide) (by decide) (fun y => by rw [q1] at y; exact absurd y (by decide)) (fun _ => ?_))
    refine WP_if c0_eq (fun _ => ?_) (fun y => absurd rfl y)
    refine WP_th h (fun τ hτ e0 => ?_)
    rw [e0]
    exact WP_if c0_le (fun y => absurd y (by decide)) (fun _ => WP_some hτ)
theorem F_noise {σ : RS} {a : AA} {u : AU} {x y z : Int32} {d : Int64} (h : RM σ a u) : FV (m_noise σ x y z d) (A_noise (aI a 0 0 0) x y z d) u := by
  unfold A_noise m_noise m_noise_b0 m_noise_b41
  have thr : ∀ v, FV (m_noise_b42 σ 1 x y z d) (aI a 0 0 0, 1, v) u := by
    intro v
    unfold m_noise_b42
    refine WP_th h (fun τ hτ e0 => ?_)
    rw [e0]
    refine WP_if c0_le (fun y => absurd y (by decide)) (fun _ => WP_some ?_)
    show RM τ (aI (aI a 0 0 0) 0 0 1) u
    rw [aI_II]
    exact hτ
  by_cases q1 : aInR x 0 1000 = true
  · refine WP_in (lo' := 0) (hi' := 1000) (by decide) (by decide) (fun _ => ?_) (fun y => by rw [q1] at y; exact absurd y (by decide))
    refine WP_if c0_eq (fun y => absurd (show (1 : Int32) = 0 from y) (by decide)) (fun _ => ?_)
    by_cases q2 : aInR y 0 1000 = true
    · refine WP_in (lo' := 0) (hi' := 1000) (by decide) (by decide) (fun _ => ?_) (fun y => by rw [q2] at y; exact absurd y (by decide))
      refine WP_if c0_eq (fun y => absurd (show (1 : Int32) = 0 from y) (by decide)) (fun _ => ?_)
      by_cases q3 : aInR z 0 1000 = true
      · refine WP_in (lo' := 0) (hi' := 1000) (by decide) (by decide) (fun _ => ?_) (fun y => by rw [q3] at y; exact absurd y (by decide))
        refine WP_if c0_eq (fun y => absurd (show (1 : Int32) = 0 from y) (by decide)) (fun _ => ?_)
        rw [q1, q2, q3]
        simp only [Bool.not_true, Bool.or_self, Bool.false_eq_true, if_false]
        unfold m_noise_b42
        refine WP_th h (fun τ hτ e0 => ?_)
        rw [e0]
        refine WP_if c0_le (fun _ => ?_) (fun y => absurd (by decide) y)
        refine ⟨_, rfl, ?_⟩
        have h3 := RM_L28 (v := d) (RM_27w (v := z) (RM_I (f := 26) (i := 0) (v := y) (RM_I (f := 25) (i := 0) (v := x) hτ (by decide)) (by decide)) (in_bd q3))
        show RM _ (aI (aJ (aI (aI (aI (aI a 0 0 0) 25 0 x) 26 0 y) 27 0 z) 28 0 d) 0 0 0) u
        rw [aI_same (by
          show aS (aI (aI (aI (aI a 0 0 0) 25 0 x) 26 0 y) 27 0 z) 0 0 = 0
          rw [aS_If (by decide), aS_If (by decide), aS_If (by decide)]
          exact aS_00)]
        exact h3
      · have q3 := b_false q3
        refine WP_in (lo' := 0) (hi' := 1000) (by decide) (by decide) (fun y => by rw [q3] at y; exact absurd y (by decide)) (fun _ => ?_)
        refine WP_if c0_eq (fun _ => ?_) (fun y => absurd rfl y)
        rw [q1, q2, q3]
        simp only [Bool.not_true, Bool.not_false, Bool.or_true, if_true]
        exact thr 0
    · have q2 := b_false q2
      refine WP_in (lo' := 0) (hi' := 1000) (by decide) (by decide) (fun y => by rw [q2] at y; exact absurd y (by decide)) (fun _ => ?_)
      refine WP_if c0_eq (fun _ => ?_) (fun y => absurd rfl y)
      rw [q1, q2]
      simp only [Bool.not_true, Bool.not_false, Bool.or_true, Bool.true_or, if_true]
      exact thr 0
  · have q1 := b_false q1
    refine WP_in (lo' := 0) (hi' := 1000) (by decide) (by decide) (fun y => by rw [q1] at y; exact absurd y (by decide)) (fun _ => ?_)
    refine WP_if c0_eq (fun _ => ?_) (fun y => absurd rfl y)
    rw [q1]
    simp only [Bool.not_false, Bool.true_or, if_true]
    exact thr 0
theorem F_latency {σ : RS} {a : AA} {u : AU} {s n : Int32} (h : RM σ a u) : FW (m_latency σ s n) (A_latency (aI a 0 0 0) s n) u := by
  unfold A_latency m_latency m_latency_b0
  have thr : ∀ k : Nat, k ≠ 0 → k < 5 → ∀ v, FW (m_latency_b34 σ (Int32.ofNat k) s n) (aI a 0 0 0, k, v) u := by
    intro k hk hk5 v
    unfold m_latency_b34
    refine FW_no hk (WP_th h (fun τ hτ e0 => ?_))
    rw [e0]
    refine WP_if c0_le (fun y => ?_) (fun _ => WP_some hτ)
    rw [show (0 : Int32) = Int32.ofNat 0 from rfl, i_ltn (by omega) (by omega)] at y
    omega
  by_cases q1 : aInR s 0 6 = true
  · by_cases q3 : aInR n 0 1000 = true
    · rw [q1, q3]
      simp only [Bool.not_true, Bool.false_eq_true, if_false]
      refine FW_ok rfl (WP_in (lo' := 0) (hi' := 6) (by decide) (by decide) (fun _ => ?_) (fun y => by rw [q1] at y; exact absurd y (by decide)))
      refine WP_if c0_ne (fun _ => ?_) (fun y => absurd (show ¬ (1 : Int32) = 0 by decide) y)
      refine WP_in (lo' := 0) (hi' := 1000) (by decide) (by decide) (fun _ => ?_) (fun y => by rw [q3] at y; exact absurd y (by decide))
      refine WP_if c0_ne (fun _ => ?_) (fun y => absurd (show ¬ (1 : Int32) = 0 by decide) y)
      unfold m_latency_b34
      refine WP_th h (fun τ hτ e0 => ?_)
      rw [e0]
      refine WP_if c0_le (fun _ => ?_) (fun y => absurd (by decide) y)
      obtain ⟨p, e1, hp⟩ := in_nat2 (hi := 6) (by omega) q1
      rw [e1, i_cl (by omega)]
      refine WP_r7 hτ (by decide) (by omega) ?_
      exact WP_w7 hτ (by decide) (by decide) (by omega) (fun σ1 h1 => WP_some ⟨h1, rfl⟩)
    · have q3 := b_false q3
      rw [q1, q3]
      simp only [Bool.not_true, Bool.not_false, Bool.false_eq_true, if_false, if_true]
      refine WP_in (lo' := 0) (hi' := 6) (by decide) (by decide) (fun _ => ?_) (fun y => by rw [q1] at y; exact absurd y (by decide))
      refine WP_if c0_ne (fun _ => ?_) (fun y => absurd (show ¬ (1 : Int32) = 0 by decide) y)
      refine WP_in (lo' := 0) (hi' := 1000) (by decide) (by decide) (fun y => by rw [q3] at y; exact absurd y (by decide)) (fun _ => ?_)
      refine WP_if c0_ne (fun y => absurd rfl y) (fun _ => ?_)
      exact thr 2 (by decide) (by decide) 0
  · have q1 := b_false q1
    rw [q1]
    simp only [Bool.not_false, if_true]
    refine WP_in (lo' := 0) (hi' := 6) (by decide) (by decide) (fun y => by rw [q1] at y; exact absurd y (by decide)) (fun _ => ?_)
    refine WP_if c0_ne (fun y => absurd rfl y) (fun _ => ?_)
    exact thr 1 (by decide) (by decide) 0
theorem F_now {σ : RS} {a : AA} {u : AU} (h : RM σ a u) : FW (m_now σ) (aI a 0 0 0, 0, aNow (aI a 0 0 0)) u := by
  unfold m_now
  refine FW_ok rfl (WP_th h (fun τ hτ e0 => WP_some ⟨hτ, ?_⟩))
  exact RM_0 hτ (by decide)
theorem F_count {σ : RS} {a : AA} {u : AU} {w : Int32} (h : RM σ a u) : FW (m_count σ w) (aI a 0 0 0, 0, A_cnt (aI a 0 0 0) w) u := by
  unfold m_count m_count_b0 m_count_b90 A_cnt
  refine FW_ok rfl (WP_th h (fun τ hτ e0 => ?_))
  refine WP_if c0_ne (fun q0 => ?_) (fun q0 => ?_)
  · rw [if_neg q0]
    refine WP_if c2_ne (fun q1 => ?_) (fun q1 => ?_)
    · rw [if_neg q1]
      refine WP_if c2_ne (fun q2 => ?_) (fun q2 => ?_)
      · rw [if_neg q2]
        refine WP_if c2_ne (fun q3 => ?_) (fun q3 => ?_)
        · rw [if_neg q3]
          refine WP_if c2_ne (fun q4 => ?_) (fun q4 => ?_)
          · rw [if_neg q4]
            refine WP_if c2_ne (fun q5 => ?_) (fun q5 => ?_)
            · rw [if_neg q5]
              refine WP_if c2_ne (fun q6 => ?_) (fun q6 => ?_)
              · rw [if_neg q6]
                exact WP_some ⟨hτ, rfl⟩
              · rw [if_pos (Classical.not_not.mp q6)]
                exact WP_some ⟨hτ, (hτ.2.2.2.2.2.2.2.2.2.2.2.2.2.2.2.1).1⟩
            · rw [if_pos (Classical.not_not.mp q5)]
              exact WP_some ⟨hτ, RM_0 hτ (by decide)⟩
          · rw [if_pos (Classical.not_not.mp q4)]
            exact WP_some ⟨hτ, (hτ.2.2.2.2.2.2.2.2.2.2.2.2.2.1).1⟩
        · rw [if_pos (Classical.not_not.mp q3)]
          exact WP_some ⟨hτ, RM_0 hτ (by decide)⟩
      · rw [if_pos (Classical.not_not.mp q2)]
        exact WP_some ⟨hτ, RM_0 hτ (by decide)⟩
    · rw [if_pos (Classical.not_not.mp q1)]
      exact WP_some ⟨hτ, RM_0 hτ (by decide)⟩
  · rw [if_pos (Classical.not_not.mp q0)]
    exact WP_some ⟨hτ, (hτ.2.1).1⟩
