/-! the face: results -/
theorem RM_re {σ σ' : RS} {a : AA} {u : AU} {t : List Int32} (h : RM σ a u) (hF : Fr [143, 144] [] σ σ') (ht : RRe σ' t) : RM σ' (aReS a t) u := by
  exact ⟨RSc_fr hF (by decide) h.1, RWay_fr hF (by decide) h.2.1, fun s hs => RWt_fr hF (by decide) (h.2.2.1 s hs), fun l hl => RLt_fr hF (by decide) (h.2.2.2.1 l hl), fun s hs => RLog_fr hF (by decide) (h.2.2.2.2.1 s hs), fun s hs => RDk_fr hF (by decide) (h.2.2.2.2.2.1 s hs), fun s hs => RSl_fr hF (by decide) (h.2.2.2.2.2.2.1 s hs), fun s hs hu => RCh_fr hF (by decide) (h.2.2.2.2.2.2.2.1 s hs hu), fun s hs hu => RAt_fr hF (by decide) (h.2.2.2.2.2.2.2.2.1 s hs hu), fun s hs => RMc_fr hF (by decide) (h.2.2.2.2.2.2.2.2.2.1 s hs), fun s hs => RSh_fr hF (by decide) (h.2.2.2.2.2.2.2.2.2.2.1 s hs), fun s hs => RPc_fr hF (by decide) (h.2.2.2.2.2.2.2.2.2.2.2.1 s hs), fun s hs => RRq_fr hF (by decide) (h.2.2.2.2.2.2.2.2.2.2.2.2.1 s hs), RAk_fr hF (by decide) h.2.2.2.2.2.2.2.2.2.2.2.2.2.1, fun s hs => RWn_fr hF (by decide) (h.2.2.2.2.2.2.2.2.2.2.2.2.2.2.1 s hs), RTp_fr hF (by decide) h.2.2.2.2.2.2.2.2.2.2.2.2.2.2.2.1, ht, fun s hs => RDn_fr hF (by decide) (h.2.2.2.2.2.2.2.2.2.2.2.2.2.2.2.2.2.1 s hs), RSum_fr hF (by decide) h.2.2.2.2.2.2.2.2.2.2.2.2.2.2.2.2.2.2.1, h.2.2.2.2.2.2.2.2.2.2.2.2.2.2.2.2.2.2.2.1, h.2.2.2.2.2.2.2.2.2.2.2.2.2.2.2.2.2.2.2.2.1, h.2.2.2.2.2.2.2.2.2.2.2.2.2.2.2.2.2.2.2.2.2.1, h.2.2.2.2.2.2.2.2.2.2.2.2.2.2.2.2.2.2.2.2.2.2.1, h.2.2.2.2.2.2.2.2.2.2.2.2.2.2.2.2.2.2.2.2.2.2.2⟩
/-- a row is copied to the result: one step -/
theorem re_step {σ τ : RS} {t : List Int32} {j : Nat} (hj : j < t.length) (h1 : Fr [143, 144] [] σ τ) (h2 : τ.1 144 0 = Int32.ofNat t.length) (h3 : ∀ i, i < j → τ.1 143 i = t.getD i 0) : Fr [143, 144] [] σ (setI τ 143 j (t.getD j 0)) ∧ (setI τ 143 j (t.getD j 0)).1 144 0 = Int32.ofNat t.length ∧ ∀ i, i < j + 1 → (setI τ 143 j (t.getD j 0)).1 143 i = t.getD i 0 := by
  refine ⟨Fr_w (Fr_t h1 Fr_I) (by simp) (by simp), by rw [setI_f (by decide)]; exact h2, fun i hi => ?_⟩
  by_cases z : i = j
  · rw [z, setI_e]
  · rw [setI_i z]
    exact h3 i (by omega)
theorem low_get {t : List Int32} {j : Nat} (hb : ∀ b ∈ t, aLow8 b = b) (hj : j < t.length) : (t.getD j 0).toInt8.toInt32 = t.getD j 0 := by
  refine hb _ ?_
  rw [List.getD_eq_getElem?_getD, List.getElem?_eq_getElem hj]
  exact List.getElem_mem _
theorem F_answer {F : Nat} {σ : RS} {a : AA} {u : AU} {c : Int32} (hF : 400 ≤ F) (h : RM σ a u) : FW (m_answer F σ c) (A_answer (aI a 0 0 0) c) u := by
  unfold A_answer m_answer m_answer_b0 m_answer_b18
  by_cases q1 : aInR c 0 7 = true
  · rw [q1]
    simp only [Bool.not_true, Bool.false_eq_true, if_false]
    refine FW_ok rfl (WP_in (lo' := 0) (hi' := 7) (by decide) (by decide) (fun _ => ?_) (fun y => by rw [q1] at y; exact absurd y (by decide)))
    refine WP_if c0_eq (fun y => absurd (show (1 : Int32) = 0 from y) (by decide)) (fun _ => ?_)
    refine WP_th h (fun τ hτ e0 => ?_)
    rw [e0]
    refine WP_if c0_le (fun _ => ?_) (fun y => absurd (by decide) y)
    obtain ⟨p, e1, hp⟩ := in_nat2 (hi := 7) (by omega) q1
    rw [e1, i_cl (by omega)]
    obtain ⟨d1, d2, d3, d4⟩ := hτ.2.2.2.2.2.2.2.2.2.2.2.2.2.2.2.2.2.1 p (by omega)
    refine WP_ld rfl 8 (by decide +kernel) (by omega) ?_
    rw [d1]
    generalize ht : aDn (aI a 0 0 0) p = t at d2 d3 d4
    have loop : ∀ n j (τ2 : RS), t.length + 1 ≤ j + n → j ≤ t.length → Fr [143, 144] [] τ τ2 → τ2.1 144 0 = Int32.ofNat t.length → (∀ i, i < j → τ2.1 143 i = t.getD i 0) → WP (m_answer_b42 F n τ2 (Int32.ofNat p) (Int32.ofNat j)) (fun q => RM q.2 (aReS (aI a 0 0 0) t) u ∧ q.1 = Int32.ofNat t.length) := by
      intro n
      induction n with
      | zero => intro j τ2 h1 h2; omega
      | succ n ih =>
        intro j τ2 h1 h2 g1 g2 g3
        unfold m_answer_b42
        rw [g2]
        refine WP_if (i_gei (by omega) (by omega)) (fun z => ?_) (fun z => ?_)
        · have : j = t.length := by omega
          subst this
          exact WP_some ⟨RM_re hτ g1 ⟨g2, d2, g3⟩, rfl⟩
        · rw [show (160 : Int32) * Int32.ofNat p + Int32.ofNat j = Int32.ofNat (160 * p + j) from i_ma (c := 160)]
          refine WP_ld rfl 1280 (by decide +kernel) (by omega) ?_
          refine WP_st rfl 160 (by decide +kernel) (by omega) ?_
          rw [g1.1 138 (by decide), d3 j (by omega), low_get d4 (by omega), i_s]
          obtain ⟨s1, s2, s3⟩ := re_step (show j < t.length by omega) g1 g2 g3
          exact ih (j + 1) _ (by omega) (by omega) s1 s2 s3
    exact loop F 0 (setI τ 144 0 (Int32.ofNat t.length)) (by omega) (Nat.zero_le _) (Fr_w (Fr_I (f := 144)) (by simp) (by simp)) setI_e (fun i hi => absurd hi (Nat.not_lt_zero _))
  · have q1 := b_false q1
    rw [q1]
    simp only [Bool.not_false, if_true]
    refine FW_no (by decide) (WP_in (lo' := 0) (hi' := 7) (by decide) (by decide) (fun y => by rw [q1] at y; exact absurd y (by decide)) (fun _ => ?_))
    refine WP_if c0_eq (fun _ => ?_) (fun y => absurd rfl y)
    refine WP_th h (fun τ hτ e0 => ?_)
    rw [e0]
    exact WP_if c0_le (fun y => absurd y (by decide)) (fun _ => WP_some hτ)
/-- where a key lies -/
theorem M_keyAt {σ : RS} {a : AA} {u : AU} {s k : Int32} {Q : Int32 × RS → Prop} {g : Int32 × RS → Option (Int32 × RS)} (h : RM σ a u)
    (no : aKey (aI a 0 0 0) s k = none → ∀ τ, RM τ (aI a 0 0 1) u → WP (g (-1, τ)) Q)
    (yes : ∀ p j sl τ, s = Int32.ofNat p → p < 7 → RM τ (aI a 0 0 0) u → RLk τ p (aMc a p) sl → j < (aMc a p).2.length → aKey (aI a 0 0 0) s k = some ((aMc a p).2.getD j ([], [])) → WP (g (Int32.ofNat (128 * p + sl.getD j 0), τ)) Q) : WP ((m_keyAt σ s k).bind g) Q := by
  have thr : aKey (aI a 0 0 0) s k = none → WP ((m_keyAt_b75 σ s k).bind g) Q := by
    intro hn
    unfold m_keyAt_b75 m_keyAt_b76 m_keyAt_b87 m_keyAt_b116
    rw [if_pos (c0_eq.mpr rfl), Option.bind_some, if_pos (c0_eq.mpr rfl), Option.bind_some]
    exact no hn _ (RM_I h (by decide))
  unfold m_keyAt m_keyAt_b0
  have out : ∀ {A : Int32 → Option (Int32 × RS)} {x : Int32} {lo hi : Int64} {lo' hi' : Int32}, lo'.toInt64 = lo → hi'.toInt64 = hi → (aInR x lo' hi' = true → WP ((A 1).bind g) Q) → (aInR x lo' hi' = false → WP ((A 0).bind g) Q) → WP (((m_in x.toInt64 lo hi).bind A).bind g) Q := by
    intro A x lo hi lo' hi' h1 h2 k1 k0
    subst h1 h2
    rw [m_in_n]
    cases q : aInR x lo' hi' with
    | true => exact k1 q
    | false => exact k0 q
  refine out (lo' := 0) (hi' := 6) (by decide) (by decide) (fun q1 => ?_) (fun q1 => ?_)
  · rw [if_neg (show ¬ xc0 .eq (1 : Int32) = true by decide)]
    refine out (lo' := 0) (hi' := 6) (by decide) (by decide) (fun _ => ?_) (fun y => by rw [q1] at y; exact absurd y (by decide))
    rw [if_neg (show ¬ xc0 .eq (1 : Int32) = true by decide)]
    obtain ⟨p, e1, hp⟩ := in_nat2 (hi := 6) (by omega) q1
    have hp7 : p < 7 := by omega
    have ek : aKey (aI a 0 0 0) s k = if aS a 52 p = 0 ∨ k < 0 then none else (aMc a p).2[k.toNatClampNeg]? := by
      unfold aKey
      rw [q1, e1, i_cl (by omega)]
      rfl
    unfold m_keyAt_b33
    rw [show rld σ 52 s = some (aS a 52 p) by rw [← RM_7 h (f := 52) (by decide) hp7]; exact rld_n e1 (by rw [show rlen 52 = 7 by decide +kernel]; omega)]
    rw [Option.bind_some]
    by_cases u0 : aS a 52 p = 0
    · rw [if_pos (c0_eq.mpr u0)]
      exact thr (by rw [ek, if_pos (Or.inl u0)])
    · rw [if_neg (fun y => u0 (c0_eq.mp y))]
      refine out (lo' := 0) (hi' := 6) (by decide) (by decide) (fun _ => ?_) (fun y => by rw [q1] at y; exact absurd y (by decide))
      rw [if_neg (show ¬ xc0 .eq (1 : Int32) = true by decide)]
      unfold m_keyAt_b61
      obtain ⟨m1, m2, m3, m4, m5⟩ := id (h.2.2.2.2.2.2.2.2.2.1 p hp7)
      have l113 : rld σ 113 s = some (Int32.ofNat (aMc a p).2.length) := by rw [← m3]; exact rld_n e1 (by rw [show rlen 113 = 7 by decide +kernel]; omega)
      rw [l113]
      rw [Option.bind_some]
      have hl := m1.2.1
      obtain ⟨g1, g2⟩ := idx_get (L := (aMc a p).2) (i := k) rfl (by omega)
      refine out (lo' := 0) (hi' := Int32.ofNat (aMc a p).2.length - 1) (by decide) rfl (fun q2 => ?_) (fun q2 => ?_)
      · rw [if_neg (show ¬ xc0 .eq (1 : Int32) = true by decide)]
        obtain ⟨j, x, f1, f2, f3, f4, f5⟩ := g1 q2
        unfold m_keyAt_b76 m_keyAt_b87 m_keyAt_b116
        rw [if_neg (show ¬ xc0 .eq (1 : Int32) = true by decide)]
        have hτ : RM (setI σ 0 0 0) (aI a 0 0 0) u := RM_I h (by decide)
        rw [Option.bind_some, if_neg (show ¬ xc0 .eq (1 : Int32) = true by decide)]
        generalize setI σ 0 0 0 = τ at hτ ⊢
        obtain ⟨sl, hlk⟩ := RMc_k (hτ.2.2.2.2.2.2.2.2.2.1 p hp7)
        have hlk : RLk τ p (aMc a p) sl := hlk
        obtain ⟨_, _, hK⟩ := id hlk
        have e118 : τ.1 118 (128 * p + j) = Int32.ofNat (sl.getD j 0) := (hK.2.2.2.2 j f2).1
        rw [e1, f1, show (128 : Int32) * Int32.ofNat p + Int32.ofNat j = Int32.ofNat (128 * p + j) from i_ma (c := 128), rld_n (n := 128 * p + j) rfl (by rw [show rlen 118 = 896 by decide +kernel]; omega), e118]
        rw [Option.bind_some, Option.bind_some]
        rw [show (128 : Int32) * Int32.ofNat p + Int32.ofNat (sl.getD j 0) = Int32.ofNat (128 * p + sl.getD j 0) from i_ma (c := 128)]
        refine yes p j sl τ e1 hp7 hτ hlk f2 ?_
        rw [ek, if_neg (fun y => y.elim u0 f3), f4, List.getD_eq_getElem?_getD, f5]
        rfl
      · rw [if_pos (c0_eq.mpr rfl)]
        refine thr ?_
        rw [ek]
        by_cases z : aS a 52 p = 0 ∨ k < 0
        · rw [if_pos z]
        · rw [if_neg z]
          exact (g2 q2).resolve_left (fun y => z (Or.inr y))
  · rw [if_pos (c0_eq.mpr rfl)]
    refine thr ?_
    unfold aKey
    rw [q1]
    rfl
theorem F_key {F : Nat} {σ : RS} {a : AA} {u : AU} {s k : Int32} (hF : 400 ≤ F) (h : RM σ a u) : FW (m_key F σ s k) (A_key (aI a 0 0 0) s k) u := by
  unfold A_key m_key m_key_b0
  refine M_keyAt h (fun hn τ hτ => ?_) (fun p j sl τ e1 hp7 hτ hlk hj ek => ?_)
  · rw [hn]
    refine FW_no (k := 1) (by decide) (WP_if c0_ge (fun y => absurd y (show ¬ (0 : Int32) ≤ -1 by decide)) (fun _ => WP_some hτ))
  · rw [ek]
    have hw := wf_get hlk.1 hj
    obtain ⟨_, _, hK⟩ := id hlk
    obtain ⟨k1, k2, k3, k4, k5⟩ := hK
    obtain ⟨x1, x2, x3, x4, x5⟩ := k5 j hj
    have hs128 : sl.getD j 0 < 128 := k3 _ (by
      rw [List.getD_eq_getElem?_getD, List.getElem?_eq_getElem (by omega)]
      exact List.getElem_mem _)
    generalize he : (aMc a p).2.getD j ([], []) = e at hw x2 x3 x4 x5
    obtain ⟨w1, w2, w3, w4⟩ := hw
    dsimp only
    refine FW_ok rfl (WP_if c0_ge (fun _ => ?_) (fun y => absurd (by rw [show (0 : Int32) = Int32.ofNat 0 from rfl, i_ltn (by omega) (by omega)]; omega) y))
    refine WP_ld rfl 896 (by decide +kernel) (by omega) ?_
    rw [x2]
    generalize hq : 128 * p + sl.getD j 0 = q at x2 x3 x4 x5
    have loop : ∀ n i (τ2 : RS), e.1.length + 1 ≤ i + n → i ≤ e.1.length → Fr [143, 144] [] τ τ2 → τ2.1 144 0 = Int32.ofNat e.1.length → (∀ y, y < i → τ2.1 143 y = e.1.getD y 0) → WP (m_key_b26 F n τ2 (Int32.ofNat q) (Int32.ofNat i)) (fun q => RM q.2 (aReS (aI a 0 0 0) e.1) u ∧ q.1 = Int32.ofNat e.1.length) := by
      intro n
      induction n with
      | zero => intro i τ2 h1 h2; omega
      | succ n ih =>
        intro i τ2 h1 h2 g1 g2 g3
        unfold m_key_b26
        rw [g2]
        refine WP_if (i_gei (by omega) (by omega)) (fun z => ?_) (fun z => ?_)
        · have : i = e.1.length := by omega
          subst this
          exact WP_some ⟨RM_re hτ g1 ⟨g2, by omega, g3⟩, rfl⟩
        · rw [show (32 : Int32) * Int32.ofNat q + Int32.ofNat i = Int32.ofNat (32 * q + i) from i_ma (c := 32)]
          refine WP_ld rfl 28672 (by decide +kernel) (by omega) ?_
          refine WP_st rfl 160 (by decide +kernel) (by omega) ?_
          rw [g1.1 116 (by decide), x4 i (by omega), low_get w3 (by omega), i_s]
          obtain ⟨s1, s2, s3⟩ := re_step (show i < e.1.length by omega) g1 g2 g3
          exact ih (i + 1) _ (by omega) (by omega) s1 s2 s3
    exact loop F 0 (setI τ 144 0 (Int32.ofNat e.1.length)) (by omega) (Nat.zero_le _) (Fr_w (Fr_I (f := 144)) (by simp) (by simp)) setI_e (fun i hi => absurd hi (Nat.not_lt_zero _))
theorem F_value {F : Nat} {σ : RS} {a : AA} {u : AU} {s k : Int32} (hF : 400 ≤ F) (h : RM σ a u) : FW (m_value F σ s k) (A_value (aI a 0 0 0) s k) u := by
  unfold A_value m_value m_value_b0
  refine M_keyAt h (fun hn τ hτ => ?_) (fun p j sl τ e1 hp7 hτ hlk hj ek => ?_)
  · rw [hn]
    refine FW_no (k := 1) (by decide) (WP_if c0_ge (fun y => absurd y (show ¬ (0 : Int32) ≤ -1 by decide)) (fun _ => WP_some hτ))
  · rw [ek]
    have hw := wf_get hlk.1 hj
    obtain ⟨_, _, hK⟩ := id hlk
    obtain ⟨k1, k2, k3, k4, k5⟩ := hK
    obtain ⟨x1, x2, x3, x4, x5⟩ := k5 j hj
    have hs128 : sl.getD j 0 < 128 := k3 _ (by
      rw [List.getD_eq_getElem?_getD, List.getElem?_eq_getElem (by omega)]
      exact List.getElem_mem _)
    generalize he : (aMc a p).2.getD j ([], []) = e at hw x2 x3 x4 x5
    obtain ⟨w1, w2, w3, w4⟩ := hw
    dsimp only
    refine FW_ok rfl (WP_if c0_ge (fun _ => ?_) (fun y => absurd (by rw [show (0 : Int32) = Int32.ofNat 0 from rfl, i_ltn (by omega) (by omega)]; omega) y))
    refine WP_ld rfl 896 (by decide +kernel) (by omega) ?_
    rw [x3]
    generalize hq : 128 * p + sl.getD j 0 = q at x2 x3 x4 x5
    have loop : ∀ n i (τ2 : RS), e.2.length + 1 ≤ i + n → i ≤ e.2.length → Fr [143, 144] [] τ τ2 → τ2.1 144 0 = Int32.ofNat e.2.length → (∀ y, y < i → τ2.1 143 y = e.2.getD y 0) → WP (m_value_b26 F n τ2 (Int32.ofNat q) (Int32.ofNat i)) (fun q => RM q.2 (aReS (aI a 0 0 0) e.2) u ∧ q.1 = Int32.ofNat e.2.length) := by
      intro n
      induction n with
      | zero => intro i τ2 h1 h2; omega
      | succ n ih =>
        intro i τ2 h1 h2 g1 g2 g3
        unfold m_value_b26
        rw [g2]
        refine WP_if (i_gei (by omega) (by omega)) (fun z => ?_) (fun z => ?_)
        · have : i = e.2.length := by omega
          subst this
          exact WP_some ⟨RM_re hτ g1 ⟨g2, by omega, g3⟩, rfl⟩
        · rw [show (100 : Int32) * Int32.ofNat q + Int32.ofNat i = Int32.ofNat (100 * q + i) from i_ma (c := 100)]
          refine WP_ld rfl 89600 (by decide +kernel) (by omega) ?_
          refine WP_st rfl 160 (by decide +kernel) (by omega) ?_
          rw [g1.1 117 (by decide), x5 i (by omega), low_get w4 (by omega), i_s]
          obtain ⟨s1, s2, s3⟩ := re_step (show i < e.2.length by omega) g1 g2 g3
          exact ih (i + 1) _ (by omega) (by omega) s1 s2 s3
    exact loop F 0 (setI τ 144 0 (Int32.ofNat e.2.length)) (by omega) (Nat.zero_le _) (Fr_w (Fr_I (f := 144)) (by simp) (by simp)) setI_e (fun i hi => absurd hi (Nat.not_lt_zero _))
