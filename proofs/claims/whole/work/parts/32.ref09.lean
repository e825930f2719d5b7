/-! printed by wip/whole/gen_ref.py -/
/-! noise (328), depth 2 -/
def m_noise_b42  (σ : RS) (s1 : Int32) (l1 : Int32) (l2 : Int32) (l3 : Int32) (l4 : Int64) : Option (RS) :=
  (some (setI σ 0 0 s1)).bind fun σ1 =>
  if xc0 .le (σ1.1 0 0) = true then (
    (some (setI σ1 25 0 l1)).bind fun σ4 =>
    (some (setI σ4 26 0 l2)).bind fun σ6 =>
    (some (setI σ6 27 0 l3)).bind fun σ8 =>
    (some (setL σ8 28 0 l4)).bind fun σ10 =>
    some σ10
  ) else (
    some σ1
  )
set_option maxRecDepth 4000 in
theorem m_noise_b42_ok {pF : Nat → List Value → xH → Option (Option Value × xH)} {d : Nat} {aR : Nat} {G : Nat → xC} {T : Nat × Nat} (hp0 : xNP pF)  : ∀ (lv : xL) (σ : RS) (s1 : Int32) (l1 : Int32) (l2 : Int32) (l3 : Int32) (l4 : Int64), xg lv 0 = some (.ref aR) → xg lv 1 = some (.int l1) → xg lv 2 = some (.int l2) → xg lv 3 = some (.int l3) → xg lv 4 = some (.long l4) → ∀ res, m_noise_b42  σ s1 l1 l2 l3 l4 = some res → xR pF (d + 1) kT328 16 6 false none none (layR aR res G, T) (42, lv, [.int s1, .ref aR], (layR aR σ G, T)) := by
  intro lv σ s1 l1 l2 l3 l4 g0 g1 g2 g3 g4 res h
  unfold m_noise_b42 at h
  obtain ⟨σ1, h2, h⟩ := Option.bind_eq_some_iff.mp h
  refine eR_putS lk328_42 rf_393 rfl (by decide) pf_0.1 pf_0.2 h2 ?_
  refine eE_aload_n lk328_45 g0 ?_
  refine eR_get lk328_46 rf_393 rfl ?_
  refine eE_if (t := 53) lk328_49 (by decide) (fun c3 => ?_) (fun c3 => ?_)
  · rw [if_pos c3] at h
    refine eE_aload_n lk328_53 g0 ?_
    refine eE_iload_n lk328_54 g1 ?_
    obtain ⟨σ4, h5, h⟩ := Option.bind_eq_some_iff.mp h
    refine eR_putS lk328_55 rf_434 rfl (by decide) pf_25.1 pf_25.2 h5 ?_
    refine eE_aload_n lk328_58 g0 ?_
    refine eE_iload_n lk328_59 g2 ?_
    obtain ⟨σ6, h7, h⟩ := Option.bind_eq_some_iff.mp h
    refine eR_putS lk328_60 rf_437 rfl (by decide) pf_26.1 pf_26.2 h7 ?_
    refine eE_aload_n lk328_63 g0 ?_
    refine eE_iload_n lk328_64 g3 ?_
    obtain ⟨σ8, h9, h⟩ := Option.bind_eq_some_iff.mp h
    refine eR_putS lk328_65 rf_440 rfl (by decide) pf_27.1 pf_27.2 h9 ?_
    refine eE_aload_n lk328_68 g0 ?_
    refine eE_lload lk328_69 g4 ?_
    obtain ⟨σ10, h11, h⟩ := Option.bind_eq_some_iff.mp h
    refine eR_putLS lk328_71 rf_403 rfl (by decide) pf_28.1 pf_28.2 h11 ?_
    cases h
    exact eE_end lk328_74 rfl rfl rfl
  · rw [if_neg c3] at h
    cases h
    exact eE_end lk328_52 rfl rfl rfl
def m_noise_b41  (σ : RS) (l1 : Int32) (l2 : Int32) (l3 : Int32) (l4 : Int64) : Option (RS) :=
  m_noise_b42  σ ((1 : Int32)) l1 l2 l3 l4
set_option maxRecDepth 4000 in
theorem m_noise_b41_ok {pF : Nat → List Value → xH → Option (Option Value × xH)} {d : Nat} {aR : Nat} {G : Nat → xC} {T : Nat × Nat} (hp0 : xNP pF)  : ∀ (lv : xL) (σ : RS) (l1 : Int32) (l2 : Int32) (l3 : Int32) (l4 : Int64), xg lv 0 = some (.ref aR) → xg lv 1 = some (.int l1) → xg lv 2 = some (.int l2) → xg lv 3 = some (.int l3) → xg lv 4 = some (.long l4) → ∀ res, m_noise_b41  σ l1 l2 l3 l4 = some res → xR pF (d + 1) kT328 16 6 false none none (layR aR res G, T) (41, lv, [.ref aR], (layR aR σ G, T)) := by
  intro lv σ l1 l2 l3 l4 g0 g1 g2 g3 g4 res h
  unfold m_noise_b41 at h
  refine eE_iconst (v := 1) lk328_41 (by decide) ?_
  exact m_noise_b42_ok hp0  lv σ ((1 : Int32)) l1 l2 l3 l4 g0 g1 g2 g3 g4 _ h
def m_noise_b0  (σ : RS) (l1 : Int32) (l2 : Int32) (l3 : Int32) (l4 : Int64) : Option (RS) :=
  (m_in (l1.toInt64) ((0 : Int64)) ((1000 : Int64))).bind fun p12 =>
  if xc0 .eq p12 = true then (
    m_noise_b41  σ l1 l2 l3 l4
  ) else (
    (m_in (l2.toInt64) ((0 : Int64)) ((1000 : Int64))).bind fun p15 =>
    if xc0 .eq p15 = true then (
      m_noise_b41  σ l1 l2 l3 l4
    ) else (
      (m_in (l3.toInt64) ((0 : Int64)) ((1000 : Int64))).bind fun p18 =>
      if xc0 .eq p18 = true then (
        m_noise_b41  σ l1 l2 l3 l4
      ) else (
        m_noise_b42  σ ((0 : Int32)) l1 l2 l3 l4
      )
    )
  )
set_option maxRecDepth 4000 in
theorem m_noise_b0_ok {pF : Nat → List Value → xH → Option (Option Value × xH)} {d : Nat} {aR : Nat} {G : Nat → xC} {T : Nat × Nat} (hp0 : xNP pF)  : ∀ (lv : xL) (σ : RS) (l1 : Int32) (l2 : Int32) (l3 : Int32) (l4 : Int64), xg lv 0 = some (.ref aR) → xg lv 1 = some (.int l1) → xg lv 2 = some (.int l2) → xg lv 3 = some (.int l3) → xg lv 4 = some (.long l4) → ∀ res, m_noise_b0  σ l1 l2 l3 l4 = some res → xR pF (d + 1) kT328 16 6 false none none (layR aR res G, T) (0, lv, [], (layR aR σ G, T)) := by
  intro lv σ l1 l2 l3 l4 g0 g1 g2 g3 g4 res h
  unfold m_noise_b0 at h
  refine eE_aload_n lk328_0 g0 ?_
  refine eE_iload_n lk328_1 g1 ?_
  refine eE_i2l lk328_2 ?_
  refine eE_lconst (v := 0) lk328_3 (by decide) ?_
  refine eE_ldc2_w (v := 1000) lk328_4 xl_818 ?_
  obtain ⟨p12, h13, h⟩ := Option.bind_eq_some_iff.mp h
  refine eE_stat (as := [.long (l1.toInt64), .long ((0 : Int64)), .long ((1000 : Int64))]) lk328_7 mr_799 na_294 rfl rfl (Nat.le_of_ble_eq_true rfl) mm_294 ws_294 (m_in_ok hp0 (d := d + 0) h13) ?_
  refine eE_if (t := 41) lk328_10 (by decide) (fun c14 => ?_) (fun c14 => ?_)
  · rw [if_pos c14] at h
    exact m_noise_b41_ok hp0  lv σ l1 l2 l3 l4 g0 g1 g2 g3 g4 _ h
  · rw [if_neg c14] at h
    refine eE_iload_n lk328_13 g2 ?_
    refine eE_i2l lk328_14 ?_
    refine eE_lconst (v := 0) lk328_15 (by decide) ?_
    refine eE_ldc2_w (v := 1000) lk328_16 xl_818 ?_
    obtain ⟨p15, h16, h⟩ := Option.bind_eq_some_iff.mp h
    refine eE_stat (as := [.long (l2.toInt64), .long ((0 : Int64)), .long ((1000 : Int64))]) lk328_19 mr_799 na_294 rfl rfl (Nat.le_of_ble_eq_true rfl) mm_294 ws_294 (m_in_ok hp0 (d := d + 0) h16) ?_
    refine eE_if (t := 41) lk328_22 (by decide) (fun c17 => ?_) (fun c17 => ?_)
    · rw [if_pos c17] at h
      exact m_noise_b41_ok hp0  lv σ l1 l2 l3 l4 g0 g1 g2 g3 g4 _ h
    · rw [if_neg c17] at h
      refine eE_iload_n lk328_25 g3 ?_
      refine eE_i2l lk328_26 ?_
      refine eE_lconst (v := 0) lk328_27 (by decide) ?_
      refine eE_ldc2_w (v := 1000) lk328_28 xl_818 ?_
      obtain ⟨p18, h19, h⟩ := Option.bind_eq_some_iff.mp h
      refine eE_stat (as := [.long (l3.toInt64), .long ((0 : Int64)), .long ((1000 : Int64))]) lk328_31 mr_799 na_294 rfl rfl (Nat.le_of_ble_eq_true rfl) mm_294 ws_294 (m_in_ok hp0 (d := d + 0) h19) ?_
      refine eE_if (t := 41) lk328_34 (by decide) (fun c20 => ?_) (fun c20 => ?_)
      · rw [if_pos c20] at h
        exact m_noise_b41_ok hp0  lv σ l1 l2 l3 l4 g0 g1 g2 g3 g4 _ h
      · rw [if_neg c20] at h
        refine eE_iconst (v := 0) lk328_37 (by decide) ?_
        refine eE_goto (t := 42) lk328_38 (by decide) ?_
        exact m_noise_b42_ok hp0  lv σ ((0 : Int32)) l1 l2 l3 l4 g0 g1 g2 g3 g4 _ h
def m_noise (σ : RS) (l1 : Int32) (l2 : Int32) (l3 : Int32) (l4 : Int64) : Option (RS) := m_noise_b0 σ l1 l2 l3 l4
theorem m_noise_ok {pF : Nat → List Value → xH → Option (Option Value × xH)} (hp0 : xNP pF) {d : Nat} {aR : Nat} {G : Nat → xC} {T : Nat × Nat} {σ : RS} {l1 : Int32} {l2 : Int32} {l3 : Int32} {l4 : Int64} {res : RS} (h : m_noise σ l1 l2 l3 l4 = some res) : xCo pF (d + 2) 328 [.ref aR, .int l1, .int l2, .int l3, .long l4] (layR aR σ G, T) none (layR aR res G, T) := by
  unfold m_noise at h
  exact xCo_R kk_328 mo_328 ni_328 xm_328 (Nat.le_of_ble_eq_true rfl) (hp0 _ (by decide) (by decide) _ _) (m_noise_b0_ok hp0 _ σ l1 l2 l3 l4 rfl rfl rfl rfl rfl _ h)
/-! now (329), depth 1 -/
def m_now  (σ : RS) : Option (Int32 × RS) :=
  (some (setI σ 0 0 ((0 : Int32)))).bind fun σ1 =>
  some (σ1.1 1 0, σ1)
set_option maxRecDepth 4000 in
theorem m_now_run {pF : Nat → List Value → xH → Option (Option Value × xH)} {d : Nat} {aR : Nat} {G : Nat → xC} {T : Nat × Nat} (hp0 : xNP pF)  : ∀ (lv : xL) (σ : RS), xg lv 0 = some (.ref aR) → ∀ res, m_now  σ = some res → xR pF (d + 0) kT329 16 1 false (some .int) (some (.int res.1)) (layR aR res.2 G, T) (0, lv, [], (layR aR σ G, T)) := by
  intro lv σ g0 res h
  unfold m_now at h
  refine eE_aload_n lk329_0 g0 ?_
  refine eE_iconst (v := 0) lk329_1 (by decide) ?_
  obtain ⟨σ1, h2, h⟩ := Option.bind_eq_some_iff.mp h
  refine eR_putS lk329_2 rf_393 rfl (by decide) pf_0.1 pf_0.2 h2 ?_
  refine eE_aload_n lk329_5 g0 ?_
  refine eR_get lk329_6 rf_431 rfl ?_
  cases h
  exact eE_end lk329_9 rfl rfl rfl
theorem m_now_ok {pF : Nat → List Value → xH → Option (Option Value × xH)} (hp0 : xNP pF) {d : Nat} {aR : Nat} {G : Nat → xC} {T : Nat × Nat} {σ : RS}  {res : Int32 × RS} (h : m_now σ  = some res) : xCo pF (d + 1) 329 [.ref aR] (layR aR σ G, T) (some (.int res.1)) (layR aR res.2 G, T) := by
  exact xCo_R kk_329 mo_329 ni_329 xm_329 (Nat.le_of_ble_eq_true rfl) (hp0 _ (by decide) (by decide) _ _) (m_now_run hp0 _ σ  rfl _ h)
/-! part (336), depth 2 -/
def m_part_b18  (σ : RS) (s1 : Int32) (l1 : Int32) : Option (Int32 × RS) :=
  (some (setI σ 0 0 s1)).bind fun σ1 =>
  if xc0 .le (σ1.1 0 0) = true then (
    (some (setI σ1 24 0 l1)).bind fun σ9 =>
    some (σ1.1 24 0, σ9)
  ) else (
    some ((0 : Int32), σ1)
  )
set_option maxRecDepth 4000 in
theorem m_part_b18_ok {pF : Nat → List Value → xH → Option (Option Value × xH)} {d : Nat} {aR : Nat} {G : Nat → xC} {T : Nat × Nat} (hp0 : xNP pF)  : ∀ (lv : xL) (σ : RS) (s1 : Int32) (l1 : Int32), xg lv 0 = some (.ref aR) → xg lv 1 = some (.int l1) → ∀ res, m_part_b18  σ s1 l1 = some res → xR pF (d + 1) kT336 16 3 false (some .int) (some (.int res.1)) (layR aR res.2 G, T) (18, lv, [.int s1, .ref aR], (layR aR σ G, T)) := by
  intro lv σ s1 l1 g0 g1 res h
  unfold m_part_b18 at h
  obtain ⟨σ1, h2, h⟩ := Option.bind_eq_some_iff.mp h
  refine eR_putS lk336_18 rf_393 rfl (by decide) pf_0.1 pf_0.2 h2 ?_
  refine eE_aload_n lk336_21 g0 ?_
  refine eR_get lk336_22 rf_393 rfl ?_
  refine eE_if (t := 30) lk336_25 (by decide) (fun c3 => ?_) (fun c3 => ?_)
  · rw [if_pos c3] at h
    refine eE_aload_n lk336_30 g0 ?_
    refine eR_get lk336_31 rf_400 rfl ?_
    refine eE_stI (j := 2) lk336_34 (Or.inr ⟨_, rfl, rfl⟩) (by decide) (fun vq4 gq5 kq6 => ?_)
    have gq7 := kq6 1 _ (by decide) (fun _ => rfl) g1
    have gq8 := kq6 0 _ (by decide) (fun _ => rfl) g0
    refine eE_aload_n lk336_35 gq8 ?_
    refine eE_iload_n lk336_36 gq7 ?_
    obtain ⟨σ9, h10, h⟩ := Option.bind_eq_some_iff.mp h
    refine eR_putS lk336_37 rf_400 rfl (by decide) pf_24.1 pf_24.2 h10 ?_
    refine eE_iload_n lk336_40 gq5 ?_
    cases h
    exact eE_end lk336_41 rfl rfl rfl
  · rw [if_neg c3] at h
    refine eE_iconst (v := 0) lk336_28 (by decide) ?_
    cases h
    exact eE_end lk336_29 rfl rfl rfl
def m_part_b0  (σ : RS) (l1 : Int32) : Option (Int32 × RS) :=
  (m_in (l1.toInt64) ((0 : Int64)) ((65535 : Int64))).bind fun p11 =>
  if xc0 .eq p11 = true then (
    m_part_b18  σ ((1 : Int32)) l1
  ) else (
    m_part_b18  σ ((0 : Int32)) l1
  )
set_option maxRecDepth 4000 in
theorem m_part_b0_ok {pF : Nat → List Value → xH → Option (Option Value × xH)} {d : Nat} {aR : Nat} {G : Nat → xC} {T : Nat × Nat} (hp0 : xNP pF)  : ∀ (lv : xL) (σ : RS) (l1 : Int32), xg lv 0 = some (.ref aR) → xg lv 1 = some (.int l1) → ∀ res, m_part_b0  σ l1 = some res → xR pF (d + 1) kT336 16 3 false (some .int) (some (.int res.1)) (layR aR res.2 G, T) (0, lv, [], (layR aR σ G, T)) := by
  intro lv σ l1 g0 g1 res h
  unfold m_part_b0 at h
  refine eE_aload_n lk336_0 g0 ?_
  refine eE_iload_n lk336_1 g1 ?_
  refine eE_i2l lk336_2 ?_
  refine eE_lconst (v := 0) lk336_3 (by decide) ?_
  refine eE_ldc2_w (v := 65535) lk336_4 xl_836 ?_
  obtain ⟨p11, h12, h⟩ := Option.bind_eq_some_iff.mp h
  refine eE_stat (as := [.long (l1.toInt64), .long ((0 : Int64)), .long ((65535 : Int64))]) lk336_7 mr_799 na_294 rfl rfl (Nat.le_of_ble_eq_true rfl) mm_294 ws_294 (m_in_ok hp0 (d := d + 0) h12) ?_
  refine eE_if (t := 17) lk336_10 (by decide) (fun c13 => ?_) (fun c13 => ?_)
  · rw [if_pos c13] at h
    refine eE_iconst (v := 1) lk336_17 (by decide) ?_
    exact m_part_b18_ok hp0  lv σ ((1 : Int32)) l1 g0 g1 _ h
  · rw [if_neg c13] at h
    refine eE_iconst (v := 0) lk336_13 (by decide) ?_
    refine eE_goto (t := 18) lk336_14 (by decide) ?_
    exact m_part_b18_ok hp0  lv σ ((0 : Int32)) l1 g0 g1 _ h
def m_part (σ : RS) (l1 : Int32) : Option (Int32 × RS) := m_part_b0 σ l1
theorem m_part_ok {pF : Nat → List Value → xH → Option (Option Value × xH)} (hp0 : xNP pF) {d : Nat} {aR : Nat} {G : Nat → xC} {T : Nat × Nat} {σ : RS} {l1 : Int32} {res : Int32 × RS} (h : m_part σ l1 = some res) : xCo pF (d + 2) 336 [.ref aR, .int l1] (layR aR σ G, T) (some (.int res.1)) (layR aR res.2 G, T) := by
  unfold m_part at h
  exact xCo_R kk_336 mo_336 ni_336 xm_336 (Nat.le_of_ble_eq_true rfl) (hp0 _ (by decide) (by decide) _ _) (m_part_b0_ok hp0 _ σ l1 rfl rfl _ h)
/-! recoverLog (346), depth 4 -/
def m_recoverLog_b94 (F : Nat) (K24 : RS → Int32 → Int32 → Int32 → Option (RS)) (σ : RS) (l1 : Int32) (l2 : Int32) (l3 : Int32) : Option (RS) :=
  K24 σ l1 l2 (l3 + (-1 : Int32))
set_option maxRecDepth 4000 in
theorem m_recoverLog_b94_ok {pF : Nat → List Value → xH → Option (Option Value × xH)} {d : Nat} {aR : Nat} {G : Nat → xC} {T : Nat × Nat} {F : Nat} {K24 : RS → Int32 → Int32 → Int32 → Option (RS)} (hp0 : xNP pF) (hK24 : ∀ (lv : xL) (σ : RS) (l1 : Int32) (l2 : Int32) (l3 : Int32), xg lv 0 = some (.ref aR) → xg lv 1 = some (.int l1) → xg lv 2 = some (.int l2) → xg lv 3 = some (.int l3) → ∀ res, K24 σ l1 l2 l3 = some res → xR pF (d + 3) kT346 16 12 false none none (layR aR res G, T) (24, lv, [], (layR aR σ G, T))) : ∀ (lv : xL) (σ : RS) (l1 : Int32) (l2 : Int32) (l3 : Int32), xg lv 0 = some (.ref aR) → xg lv 1 = some (.int l1) → xg lv 2 = some (.int l2) → xg lv 3 = some (.int l3) → ∀ res, m_recoverLog_b94 F K24 σ l1 l2 l3 = some res → xR pF (d + 3) kT346 16 12 false none none (layR aR res G, T) (94, lv, [], (layR aR σ G, T)) := by
  intro lv σ l1 l2 l3 g0 g1 g2 g3 res h
  unfold m_recoverLog_b94 at h
  refine eE_inc (j := 3) (v := l3 + (-1 : Int32)) lk346_94 g3 rfl (by decide) (fun vq1 gq2 kq3 => ?_)
  have gq4 := kq3 1 _ (by decide) (fun _ => rfl) g1
  have gq5 := kq3 2 _ (by decide) (fun _ => rfl) g2
  have gq6 := kq3 0 _ (by decide) (fun _ => rfl) g0
  refine eE_goto (t := 24) lk346_97 (by decide) ?_
  exact hK24 vq1 σ l1 l2 (l3 + (-1 : Int32)) gq6 gq4 gq5 gq2 _ h
def m_recoverLog_b92 (F : Nat) (K24 : RS → Int32 → Int32 → Int32 → Option (RS)) (σ : RS) (l1 : Int32) (l3 : Int32) : Option (RS) :=
  m_recoverLog_b94 F K24 σ l1 l3 l3
set_option maxRecDepth 4000 in
theorem m_recoverLog_b92_ok {pF : Nat → List Value → xH → Option (Option Value × xH)} {d : Nat} {aR : Nat} {G : Nat → xC} {T : Nat × Nat} {F : Nat} {K24 : RS → Int32 → Int32 → Int32 → Option (RS)} (hp0 : xNP pF) (hK24 : ∀ (lv : xL) (σ : RS) (l1 : Int32) (l2 : Int32) (l3 : Int32), xg lv 0 = some (.ref aR) → xg lv 1 = some (.int l1) → xg lv 2 = some (.int l2) → xg lv 3 = some (.int l3) → ∀ res, K24 σ l1 l2 l3 = some res → xR pF (d + 3) kT346 16 12 false none none (layR aR res G, T) (24, lv, [], (layR aR σ G, T))) : ∀ (lv : xL) (σ : RS) (l1 : Int32) (l3 : Int32), xg lv 0 = some (.ref aR) → xg lv 1 = some (.int l1) → xg lv 3 = some (.int l3) → ∀ res, m_recoverLog_b92 F K24 σ l1 l3 = some res → xR pF (d + 3) kT346 16 12 false none none (layR aR res G, T) (92, lv, [], (layR aR σ G, T)) := by
  intro lv σ l1 l3 g0 g1 g3 res h
  unfold m_recoverLog_b92 at h
  refine eE_iload_n lk346_92 g3 ?_
  refine eE_stI (j := 2) lk346_93 (Or.inr ⟨_, rfl, rfl⟩) (by decide) (fun vq7 gq8 kq9 => ?_)
  have gq10 := kq9 1 _ (by decide) (fun _ => rfl) g1
  have gq11 := kq9 3 _ (by decide) (fun _ => rfl) g3
  have gq12 := kq9 0 _ (by decide) (fun _ => rfl) g0
  exact m_recoverLog_b94_ok hp0 hK24 vq7 σ l1 l3 l3 gq12 gq10 gq8 gq11 _ h
def m_recoverLog_b470 (F : Nat) (K196 : RS → Int32 → Int32 → Int32 → Int32 → Int32 → Int32 → Option (RS)) (K260 : RS → Int32 → Int32 → Int32 → Int32 → Int32 → Int32 → Int32 → Int32 → Option (RS)) (σ : RS) (l1 : Int32) (l3 : Int32) (l4 : Int32) (l5 : Int32) (l6 : Int32) (l7 : Int32) (l8 : Int32) (l9 : Int32) : Option (RS) :=
  (m_readAt σ l7 l8).bind fun p13 =>
  K260 p13.2 l1 l3 l4 l5 l6 l7 (l8 + (((8 : Int32)) + p13.1)) l9
set_option maxRecDepth 4000 in
theorem m_recoverLog_b470_ok {pF : Nat → List Value → xH → Option (Option Value × xH)} {d : Nat} {aR : Nat} {G : Nat → xC} {T : Nat × Nat} {F : Nat} {K196 : RS → Int32 → Int32 → Int32 → Int32 → Int32 → Int32 → Option (RS)} {K260 : RS → Int32 → Int32 → Int32 → Int32 → Int32 → Int32 → Int32 → Int32 → Option (RS)} (hp0 : xNP pF) (hK196 : ∀ (lv : xL) (σ : RS) (l1 : Int32) (l2 : Int32) (l3 : Int32) (l4 : Int32) (l5 : Int32) (l6 : Int32), xg lv 0 = some (.ref aR) → xg lv 1 = some (.int l1) → xg lv 2 = some (.int l2) → xg lv 3 = some (.int l3) → xg lv 4 = some (.int l4) → xg lv 5 = some (.int l5) → xg lv 6 = some (.int l6) → ∀ res, K196 σ l1 l2 l3 l4 l5 l6 = some res → xR pF (d + 3) kT346 16 12 false none none (layR aR res G, T) (196, lv, [], (layR aR σ G, T))) (hK260 : ∀ (lv : xL) (σ : RS) (l1 : Int32) (l3 : Int32) (l4 : Int32) (l5 : Int32) (l6 : Int32) (l7 : Int32) (l8 : Int32) (l9 : Int32), xg lv 0 = some (.ref aR) → xg lv 1 = some (.int l1) → xg lv 3 = some (.int l3) → xg lv 4 = some (.int l4) → xg lv 5 = some (.int l5) → xg lv 6 = some (.int l6) → xg lv 7 = some (.int l7) → xg lv 8 = some (.int l8) → xg lv 9 = some (.int l9) → ∀ res, K260 σ l1 l3 l4 l5 l6 l7 l8 l9 = some res → xR pF (d + 3) kT346 16 12 false none none (layR aR res G, T) (260, lv, [], (layR aR σ G, T))) : ∀ (lv : xL) (σ : RS) (l1 : Int32) (l3 : Int32) (l4 : Int32) (l5 : Int32) (l6 : Int32) (l7 : Int32) (l8 : Int32) (l9 : Int32), xg lv 0 = some (.ref aR) → xg lv 1 = some (.int l1) → xg lv 3 = some (.int l3) → xg lv 4 = some (.int l4) → xg lv 5 = some (.int l5) → xg lv 6 = some (.int l6) → xg lv 7 = some (.int l7) → xg lv 8 = some (.int l8) → xg lv 9 = some (.int l9) → ∀ res, m_recoverLog_b470 F K196 K260 σ l1 l3 l4 l5 l6 l7 l8 l9 = some res → xR pF (d + 3) kT346 16 12 false none none (layR aR res G, T) (470, lv, [], (layR aR σ G, T)) := by
  intro lv σ l1 l3 l4 l5 l6 l7 l8 l9 g0 g1 g3 g4 g5 g6 g7 g8 g9 res h
  unfold m_recoverLog_b470 at h
  refine eE_iload lk346_470 g8 ?_
  refine eE_bipush (v := 8) lk346_472 (by decide) ?_
  refine eE_aload_n lk346_474 g0 ?_
  refine eE_iload lk346_475 g7 ?_
  refine eE_iload lk346_477 g8 ?_
  obtain ⟨p13, h14, h⟩ := Option.bind_eq_some_iff.mp h
  refine eR_call (as := [.int l7, .int l8]) lk346_479 mr_550 na_344 rfl rfl (Nat.le_of_ble_eq_true rfl) wv_344 wc_344 (m_readAt_ok hp0 (d := d + 1) h14) ?_
  refine eE_iadd lk346_482 ?_
  refine eE_iadd lk346_483 ?_
  refine eE_stI (j := 8) lk346_484 (Or.inl rfl) (by decide) (fun vq15 gq16 kq17 => ?_)
  have gq18 := kq17 1 _ (by decide) (fun _ => rfl) g1
  have gq19 := kq17 3 _ (by decide) (fun _ => rfl) g3
  have gq20 := kq17 4 _ (by decide) (fun _ => rfl) g4
  have gq21 := kq17 5 _ (by decide) (fun _ => rfl) g5
  have gq22 := kq17 6 _ (by decide) (fun _ => rfl) g6
  have gq23 := kq17 7 _ (by decide) (fun _ => rfl) g7
  have gq24 := kq17 9 _ (by decide) (fun _ => rfl) g9
  have gq25 := kq17 0 _ (by decide) (fun _ => rfl) g0
  refine eE_goto (t := 260) lk346_486 (by decide) ?_
  exact hK260 vq15 p13.2 l1 l3 l4 l5 l6 l7 (l8 + (((8 : Int32)) + p13.1)) l9 gq25 gq18 gq19 gq20 gq21 gq22 gq23 gq16 gq24 _ h
def m_recoverLog_b420 (F : Nat) (K196 : RS → Int32 → Int32 → Int32 → Int32 → Int32 → Int32 → Option (RS)) (K260 : RS → Int32 → Int32 → Int32 → Int32 → Int32 → Int32 → Int32 → Int32 → Option (RS)) : Nat → RS → Int32 → Int32 → Int32 → Int32 → Int32 → Int32 → Int32 → Int32 → Int32 → Int32 → Option (RS)
  | 0, _, _, _, _, _, _, _, _, _, _, _ => none
  | n + 1, σ, l1, l3, l4, l5, l6, l7, l8, l9, l10, l11 =>
    let KK := m_recoverLog_b420 F K196 K260 n
    (rld σ 61 l10).bind fun x26 =>
    if xc2 .ge l11 x26 = true then (
      m_recoverLog_b470 F K196 K260 σ l1 l3 l4 l5 l6 l7 l8 l9
    ) else (
      (m_onDisk σ ((((((14000 : Int32)) * l7) + l8) + ((25 : Int32))) + l11)).bind fun p29 =>
      (m_layLog p29.2 ((((256 : Int32)) * l10) + l11) p29.1).bind fun p31 =>
      KK p31 l1 l3 l4 l5 l6 l7 l8 l9 l10 (l11 + (1 : Int32))
    )
set_option maxRecDepth 4000 in
theorem m_recoverLog_b420_ok {pF : Nat → List Value → xH → Option (Option Value × xH)} {d : Nat} {aR : Nat} {G : Nat → xC} {T : Nat × Nat} {F : Nat} {K196 : RS → Int32 → Int32 → Int32 → Int32 → Int32 → Int32 → Option (RS)} {K260 : RS → Int32 → Int32 → Int32 → Int32 → Int32 → Int32 → Int32 → Int32 → Option (RS)} (hp0 : xNP pF) (hK196 : ∀ (lv : xL) (σ : RS) (l1 : Int32) (l2 : Int32) (l3 : Int32) (l4 : Int32) (l5 : Int32) (l6 : Int32), xg lv 0 = some (.ref aR) → xg lv 1 = some (.int l1) → xg lv 2 = some (.int l2) → xg lv 3 = some (.int l3) → xg lv 4 = some (.int l4) → xg lv 5 = some (.int l5) → xg lv 6 = some (.int l6) → ∀ res, K196 σ l1 l2 l3 l4 l5 l6 = some res → xR pF (d + 3) kT346 16 12 false none none (layR aR res G, T) (196, lv, [], (layR aR σ G, T))) (hK260 : ∀ (lv : xL) (σ : RS) (l1 : Int32) (l3 : Int32) (l4 : Int32) (l5 : Int32) (l6 : Int32) (l7 : Int32) (l8 : Int32) (l9 : Int32), xg lv 0 = some (.ref aR) → xg lv 1 = some (.int l1) → xg lv 3 = some (.int l3) → xg lv 4 = some (.int l4) → xg lv 5 = some (.int l5) → xg lv 6 = some (.int l6) → xg lv 7 = some (.int l7) → xg lv 8 = some (.int l8) → xg lv 9 = some (.int l9) → ∀ res, K260 σ l1 l3 l4 l5 l6 l7 l8 l9 = some res → xR pF (d + 3) kT346 16 12 false none none (layR aR res G, T) (260, lv, [], (layR aR σ G, T))) : ∀ (n : Nat) (lv : xL) (σ : RS) (l1 : Int32) (l3 : Int32) (l4 : Int32) (l5 : Int32) (l6 : Int32) (l7 : Int32) (l8 : Int32) (l9 : Int32) (l10 : Int32) (l11 : Int32), xg lv 0 = some (.ref aR) → xg lv 1 = some (.int l1) → xg lv 3 = some (.int l3) → xg lv 4 = some (.int l4) → xg lv 5 = some (.int l5) → xg lv 6 = some (.int l6) → xg lv 7 = some (.int l7) → xg lv 8 = some (.int l8) → xg lv 9 = some (.int l9) → xg lv 10 = some (.int l10) → xg lv 11 = some (.int l11) → ∀ res, m_recoverLog_b420 F K196 K260 n σ l1 l3 l4 l5 l6 l7 l8 l9 l10 l11 = some res → xR pF (d + 3) kT346 16 12 false none none (layR aR res G, T) (420, lv, [], (layR aR σ G, T)) := by
  intro n
  induction n with
  | zero => intro lv σ l1 l3 l4 l5 l6 l7 l8 l9 l10 l11 g0 g1 g3 g4 g5 g6 g7 g8 g9 g10 g11 res h; simp [m_recoverLog_b420] at h
  | succ n hKK =>
    intro lv σ l1 l3 l4 l5 l6 l7 l8 l9 l10 l11 g0 g1 g3 g4 g5 g6 g7 g8 g9 g10 g11 res h
    unfold m_recoverLog_b420 at h
    dsimp only at h
    refine eE_iload lk346_420 g11 ?_
    refine eE_aload_n lk346_422 g0 ?_
    refine eR_getA lk346_423 rf_147 rfl ?_
    refine eE_iload lk346_426 g10 ?_
    obtain ⟨x26, h27, h⟩ := Option.bind_eq_some_iff.mp h
    refine eR_iald lk346_428 rfl rfl h27 ?_
    refine eE_icmp (t := 470) lk346_429 (by decide) (fun c28 => ?_) (fun c28 => ?_)
    · rw [if_pos c28] at h
      exact m_recoverLog_b470_ok hp0 hK196 hK260 lv σ l1 l3 l4 l5 l6 l7 l8 l9 g0 g1 g3 g4 g5 g6 g7 g8 g9 _ h
    · rw [if_neg c28] at h
      refine eE_aload_n lk346_432 g0 ?_
      refine eE_sipush (v := 256) lk346_433 (by decide) ?_
      refine eE_iload lk346_436 g10 ?_
      refine eE_imul lk346_438 ?_
      refine eE_iload lk346_439 g11 ?_
      refine eE_iadd lk346_441 ?_
      refine eE_aload_n lk346_442 g0 ?_
      refine eE_sipush (v := 14000) lk346_443 (by decide) ?_
      refine eE_iload lk346_446 g7 ?_
      refine eE_imul lk346_448 ?_
      refine eE_iload lk346_449 g8 ?_
      refine eE_iadd lk346_451 ?_
      refine eE_bipush (v := 25) lk346_452 (by decide) ?_
      refine eE_iadd lk346_454 ?_
      refine eE_iload lk346_455 g11 ?_
      refine eE_iadd lk346_457 ?_
      obtain ⟨p29, h30, h⟩ := Option.bind_eq_some_iff.mp h
      refine eR_call (as := [.int ((((((14000 : Int32)) * l7) + l8) + ((25 : Int32))) + l11)]) lk346_458 mr_517 na_331 rfl rfl (Nat.le_of_ble_eq_true rfl) wv_331 wc_331 (m_onDisk_ok hp0 (d := d + 2) h30) ?_
      obtain ⟨p31, h32, h⟩ := Option.bind_eq_some_iff.mp h
      refine eR_call (as := [.int ((((256 : Int32)) * l10) + l11), .int p29.1]) lk346_461 mr_553 na_316 rfl rfl (Nat.le_of_ble_eq_true rfl) wv_316 wc_316 (m_layLog_ok hp0 (d := d + 2) h32) ?_
      refine eE_inc (j := 11) (v := l11 + (1 : Int32)) lk346_464 g11 rfl (by decide) (fun vq33 gq34 kq35 => ?_)
      have gq36 := kq35 1 _ (by decide) (fun _ => rfl) g1
      have gq37 := kq35 3 _ (by decide) (fun _ => rfl) g3
      have gq38 := kq35 4 _ (by decide) (fun _ => rfl) g4
      have gq39 := kq35 5 _ (by decide) (fun _ => rfl) g5
      have gq40 := kq35 6 _ (by decide) (fun _ => rfl) g6
      have gq41 := kq35 7 _ (by decide) (fun _ => rfl) g7
      have gq42 := kq35 8 _ (by decide) (fun _ => rfl) g8
      have gq43 := kq35 9 _ (by decide) (fun _ => rfl) g9
      have gq44 := kq35 10 _ (by decide) (fun _ => rfl) g10
      have gq45 := kq35 0 _ (by decide) (fun _ => rfl) g0
      refine eE_goto (t := 420) lk346_467 (by decide) ?_
      exact hKK vq33 p31 l1 l3 l4 l5 l6 l7 l8 l9 l10 (l11 + (1 : Int32)) gq45 gq36 gq37 gq38 gq39 gq40 gq41 gq42 gq43 gq44 gq34 _ h
def m_recoverLog_b346 (F : Nat) (K196 : RS → Int32 → Int32 → Int32 → Int32 → Int32 → Int32 → Option (RS)) (K260 : RS → Int32 → Int32 → Int32 → Int32 → Int32 → Int32 → Int32 → Int32 → Option (RS)) (σ : RS) (l1 : Int32) (l3 : Int32) (l4 : Int32) (l5 : Int32) (l6 : Int32) (l7 : Int32) (l8 : Int32) (l9 : Int32) : Option (RS) :=
  (rld σ 55 l1).bind fun x46 =>
  if xc2 .le l3 x46 = true then (
    m_recoverLog_b470 F K196 K260 σ l1 l3 l4 l5 l6 l7 l8 l9
  ) else (
    (m_logOf l1 l3).bind fun p49 =>
    (rst σ 59 p49 l4).bind fun σ63 =>
    (m_readAt σ63 l7 (l8 + ((12 : Int32)))).bind fun p65 =>
    (rst p65.2 60 p49 p65.1).bind fun σ67 =>
    (m_readAt σ67 l7 (l8 + ((16 : Int32)))).bind fun p69 =>
    (rst p69.2 61 p49 p69.1).bind fun σ71 =>
    (rst σ71 62 p49 l8).bind fun σ73 =>
    m_recoverLog_b420 F K196 K260 F σ73 l1 l3 l4 l5 l6 l7 l8 l9 p49 ((0 : Int32))
  )
set_option maxRecDepth 4000 in
theorem m_recoverLog_b346_ok {pF : Nat → List Value → xH → Option (Option Value × xH)} {d : Nat} {aR : Nat} {G : Nat → xC} {T : Nat × Nat} {F : Nat} {K196 : RS → Int32 → Int32 → Int32 → Int32 → Int32 → Int32 → Option (RS)} {K260 : RS → Int32 → Int32 → Int32 → Int32 → Int32 → Int32 → Int32 → Int32 → Option (RS)} (hp0 : xNP pF) (hK196 : ∀ (lv : xL) (σ : RS) (l1 : Int32) (l2 : Int32) (l3 : Int32) (l4 : Int32) (l5 : Int32) (l6 : Int32), xg lv 0 = some (.ref aR) → xg lv 1 = some (.int l1) → xg lv 2 = some (.int l2) → xg lv 3 = some (.int l3) → xg lv 4 = some (.int l4) → xg lv 5 = some (.int l5) → xg lv 6 = some (.int l6) → ∀ res, K196 σ l1 l2 l3 l4 l5 l6 = some res → xR pF (d + 3) kT346 16 12 false none none (layR aR res G, T) (196, lv, [], (layR aR σ G, T))) (hK260 : ∀ (lv : xL) (σ : RS) (l1 : Int32) (l3 : Int32) (l4 : Int32) (l5 : Int32) (l6 : Int32) (l7 : Int32) (l8 : Int32) (l9 : Int32), xg lv 0 = some (.ref aR) → xg lv 1 = some (.int l1) → xg lv 3 = some (.int l3) → xg lv 4 = some (.int l4) → xg lv 5 = some (.int l5) → xg lv 6 = some (.int l6) → xg lv 7 = some (.int l7) → xg lv 8 = some (.int l8) → xg lv 9 = some (.int l9) → ∀ res, K260 σ l1 l3 l4 l5 l6 l7 l8 l9 = some res → xR pF (d + 3) kT346 16 12 false none none (layR aR res G, T) (260, lv, [], (layR aR σ G, T))) : ∀ (lv : xL) (σ : RS) (l1 : Int32) (l3 : Int32) (l4 : Int32) (l5 : Int32) (l6 : Int32) (l7 : Int32) (l8 : Int32) (l9 : Int32), xg lv 0 = some (.ref aR) → xg lv 1 = some (.int l1) → xg lv 3 = some (.int l3) → xg lv 4 = some (.int l4) → xg lv 5 = some (.int l5) → xg lv 6 = some (.int l6) → xg lv 7 = some (.int l7) → xg lv 8 = some (.int l8) → xg lv 9 = some (.int l9) → ∀ res, m_recoverLog_b346 F K196 K260 σ l1 l3 l4 l5 l6 l7 l8 l9 = some res → xR pF (d + 3) kT346 16 12 false none none (layR aR res G, T) (346, lv, [], (layR aR σ G, T)) := by
  intro lv σ l1 l3 l4 l5 l6 l7 l8 l9 g0 g1 g3 g4 g5 g6 g7 g8 g9 res h
  unfold m_recoverLog_b346 at h
  refine eE_iload_n lk346_346 g3 ?_
  refine eE_aload_n lk346_347 g0 ?_
  refine eR_getA lk346_348 rf_129 rfl ?_
  refine eE_iload_n lk346_351 g1 ?_
  obtain ⟨x46, h47, h⟩ := Option.bind_eq_some_iff.mp h
  refine eR_iald lk346_352 rfl rfl h47 ?_
  refine eE_icmp (t := 470) lk346_353 (by decide) (fun c48 => ?_) (fun c48 => ?_)
  · rw [if_pos c48] at h
    exact m_recoverLog_b470_ok hp0 hK196 hK260 lv σ l1 l3 l4 l5 l6 l7 l8 l9 g0 g1 g3 g4 g5 g6 g7 g8 g9 _ h
  · rw [if_neg c48] at h
    refine eE_iload_n lk346_356 g1 ?_
    refine eE_iload_n lk346_357 g3 ?_
    obtain ⟨p49, h50, h⟩ := Option.bind_eq_some_iff.mp h
    refine eE_stat (as := [.int l1, .int l3]) lk346_358 mr_521 na_322 rfl rfl (Nat.le_of_ble_eq_true rfl) mm_322 ws_322 (m_logOf_ok hp0 (d := d + 2) h50) ?_
    refine eE_stI (j := 10) lk346_361 (Or.inl rfl) (by decide) (fun vq51 gq52 kq53 => ?_)
    have gq54 := kq53 1 _ (by decide) (fun _ => rfl) g1
    have gq55 := kq53 3 _ (by decide) (fun _ => rfl) g3
    have gq56 := kq53 4 _ (by decide) (fun _ => rfl) g4
    have gq57 := kq53 5 _ (by decide) (fun _ => rfl) g5
    have gq58 := kq53 6 _ (by decide) (fun _ => rfl) g6
    have gq59 := kq53 7 _ (by decide) (fun _ => rfl) g7
    have gq60 := kq53 8 _ (by decide) (fun _ => rfl) g8
    have gq61 := kq53 9 _ (by decide) (fun _ => rfl) g9
    have gq62 := kq53 0 _ (by decide) (fun _ => rfl) g0
    refine eE_aload_n lk346_363 gq62 ?_
    refine eR_getA lk346_364 rf_141 rfl ?_
    refine eE_iload lk346_367 gq52 ?_
    refine eE_iload lk346_369 gq56 ?_
    obtain ⟨σ63, h64, h⟩ := Option.bind_eq_some_iff.mp h
    refine eR_iast lk346_371 rfl rfl h64 ?_
    refine eE_aload_n lk346_372 gq62 ?_
    refine eR_getA lk346_373 rf_144 rfl ?_
    refine eE_iload lk346_376 gq52 ?_
    refine eE_aload_n lk346_378 gq62 ?_
    refine eE_iload lk346_379 gq59 ?_
    refine eE_iload lk346_381 gq60 ?_
    refine eE_bipush (v := 12) lk346_383 (by decide) ?_
    refine eE_iadd lk346_385 ?_
    obtain ⟨p65, h66, h⟩ := Option.bind_eq_some_iff.mp h
    refine eR_call (as := [.int l7, .int (l8 + ((12 : Int32)))]) lk346_386 mr_550 na_344 rfl rfl (Nat.le_of_ble_eq_true rfl) wv_344 wc_344 (m_readAt_ok hp0 (d := d + 1) h66) ?_
    obtain ⟨σ67, h68, h⟩ := Option.bind_eq_some_iff.mp h
    refine eR_iast lk346_389 rfl rfl h68 ?_
    refine eE_aload_n lk346_390 gq62 ?_
    refine eR_getA lk346_391 rf_147 rfl ?_
    refine eE_iload lk346_394 gq52 ?_
    refine eE_aload_n lk346_396 gq62 ?_
    refine eE_iload lk346_397 gq59 ?_
    refine eE_iload lk346_399 gq60 ?_
    refine eE_bipush (v := 16) lk346_401 (by decide) ?_
    refine eE_iadd lk346_403 ?_
    obtain ⟨p69, h70, h⟩ := Option.bind_eq_some_iff.mp h
    refine eR_call (as := [.int l7, .int (l8 + ((16 : Int32)))]) lk346_404 mr_550 na_344 rfl rfl (Nat.le_of_ble_eq_true rfl) wv_344 wc_344 (m_readAt_ok hp0 (d := d + 1) h70) ?_
    obtain ⟨σ71, h72, h⟩ := Option.bind_eq_some_iff.mp h
    refine eR_iast lk346_407 rfl rfl h72 ?_
    refine eE_aload_n lk346_408 gq62 ?_
    refine eR_getA lk346_409 rf_150 rfl ?_
    refine eE_iload lk346_412 gq52 ?_
    refine eE_iload lk346_414 gq60 ?_
    obtain ⟨σ73, h74, h⟩ := Option.bind_eq_some_iff.mp h
    refine eR_iast lk346_416 rfl rfl h74 ?_
    refine eE_iconst (v := 0) lk346_417 (by decide) ?_
    refine eE_stI (j := 11) lk346_418 (Or.inl rfl) (by decide) (fun vq75 gq76 kq77 => ?_)
    have gq78 := kq77 1 _ (by decide) (fun _ => rfl) gq54
    have gq79 := kq77 3 _ (by decide) (fun _ => rfl) gq55
    have gq80 := kq77 4 _ (by decide) (fun _ => rfl) gq56
    have gq81 := kq77 5 _ (by decide) (fun _ => rfl) gq57
    have gq82 := kq77 6 _ (by decide) (fun _ => rfl) gq58
    have gq83 := kq77 7 _ (by decide) (fun _ => rfl) gq59
    have gq84 := kq77 8 _ (by decide) (fun _ => rfl) gq60
    have gq85 := kq77 9 _ (by decide) (fun _ => rfl) gq61
    have gq86 := kq77 0 _ (by decide) (fun _ => rfl) gq62
    have gq87 := kq77 10 _ (by decide) (fun _ => rfl) gq52
    exact m_recoverLog_b420_ok hp0 hK196 hK260 F vq75 σ73 l1 l3 l4 l5 l6 l7 l8 l9 p49 ((0 : Int32)) gq86 gq78 gq79 gq80 gq81 gq82 gq83 gq84 gq85 gq87 gq76 _ h
def m_recoverLog_b344 (F : Nat) (K196 : RS → Int32 → Int32 → Int32 → Int32 → Int32 → Int32 → Option (RS)) (K260 : RS → Int32 → Int32 → Int32 → Int32 → Int32 → Int32 → Int32 → Int32 → Option (RS)) (σ : RS) (s0 : Int32) (l1 : Int32) (l3 : Int32) (l4 : Int32) (l6 : Int32) (l7 : Int32) (l8 : Int32) (l9 : Int32) : Option (RS) :=
  m_recoverLog_b346 F K196 K260 σ l1 l3 l4 s0 l6 l7 l8 l9
set_option maxRecDepth 4000 in
theorem m_recoverLog_b344_ok {pF : Nat → List Value → xH → Option (Option Value × xH)} {d : Nat} {aR : Nat} {G : Nat → xC} {T : Nat × Nat} {F : Nat} {K196 : RS → Int32 → Int32 → Int32 → Int32 → Int32 → Int32 → Option (RS)} {K260 : RS → Int32 → Int32 → Int32 → Int32 → Int32 → Int32 → Int32 → Int32 → Option (RS)} (hp0 : xNP pF) (hK196 : ∀ (lv : xL) (σ : RS) (l1 : Int32) (l2 : Int32) (l3 : Int32) (l4 : Int32) (l5 : Int32) (l6 : Int32), xg lv 0 = some (.ref aR) → xg lv 1 = some (.int l1) → xg lv 2 = some (.int l2) → xg lv 3 = some (.int l3) → xg lv 4 = some (.int l4) → xg lv 5 = some (.int l5) → xg lv 6 = some (.int l6) → ∀ res, K196 σ l1 l2 l3 l4 l5 l6 = some res → xR pF (d + 3) kT346 16 12 false none none (layR aR res G, T) (196, lv, [], (layR aR σ G, T))) (hK260 : ∀ (lv : xL) (σ : RS) (l1 : Int32) (l3 : Int32) (l4 : Int32) (l5 : Int32) (l6 : Int32) (l7 : Int32) (l8 : Int32) (l9 : Int32), xg lv 0 = some (.ref aR) → xg lv 1 = some (.int l1) → xg lv 3 = some (.int l3) → xg lv 4 = some (.int l4) → xg lv 5 = some (.int l5) → xg lv 6 = some (.int l6) → xg lv 7 = some (.int l7) → xg lv 8 = some (.int l8) → xg lv 9 = some (.int l9) → ∀ res, K260 σ l1 l3 l4 l5 l6 l7 l8 l9 = some res → xR pF (d + 3) kT346 16 12 false none none (layR aR res G, T) (260, lv, [], (layR aR σ G, T))) : ∀ (lv : xL) (σ : RS) (s0 : Int32) (l1 : Int32) (l3 : Int32) (l4 : Int32) (l6 : Int32) (l7 : Int32) (l8 : Int32) (l9 : Int32), xg lv 0 = some (.ref aR) → xg lv 1 = some (.int l1) → xg lv 3 = some (.int l3) → xg lv 4 = some (.int l4) → xg lv 6 = some (.int l6) → xg lv 7 = some (.int l7) → xg lv 8 = some (.int l8) → xg lv 9 = some (.int l9) → ∀ res, m_recoverLog_b344 F K196 K260 σ s0 l1 l3 l4 l6 l7 l8 l9 = some res → xR pF (d + 3) kT346 16 12 false none none (layR aR res G, T) (344, lv, [.int s0], (layR aR σ G, T)) := by
  intro lv σ s0 l1 l3 l4 l6 l7 l8 l9 g0 g1 g3 g4 g6 g7 g8 g9 res h
  unfold m_recoverLog_b344 at h
  refine eE_stI (j := 5) lk346_344 (Or.inl rfl) (by decide) (fun vq88 gq89 kq90 => ?_)
  have gq91 := kq90 1 _ (by decide) (fun _ => rfl) g1
  have gq92 := kq90 3 _ (by decide) (fun _ => rfl) g3
  have gq93 := kq90 4 _ (by decide) (fun _ => rfl) g4
  have gq94 := kq90 6 _ (by decide) (fun _ => rfl) g6
  have gq95 := kq90 7 _ (by decide) (fun _ => rfl) g7
  have gq96 := kq90 8 _ (by decide) (fun _ => rfl) g8
  have gq97 := kq90 9 _ (by decide) (fun _ => rfl) g9
  have gq98 := kq90 0 _ (by decide) (fun _ => rfl) g0
  exact m_recoverLog_b346_ok hp0 hK196 hK260 vq88 σ l1 l3 l4 s0 l6 l7 l8 l9 gq98 gq91 gq92 gq93 gq89 gq94 gq95 gq96 gq97 _ h
def m_recoverLog_b538 (F : Nat) (K196 : RS → Int32 → Int32 → Int32 → Int32 → Int32 → Int32 → Option (RS)) (σ : RS) (s0 : Int32) (l1 : Int32) (l3 : Int32) (l4 : Int32) (l5 : Int32) (l6 : Int32) : Option (RS) :=
  K196 σ l1 s0 l3 l4 l5 l6
set_option maxRecDepth 4000 in
theorem m_recoverLog_b538_ok {pF : Nat → List Value → xH → Option (Option Value × xH)} {d : Nat} {aR : Nat} {G : Nat → xC} {T : Nat × Nat} {F : Nat} {K196 : RS → Int32 → Int32 → Int32 → Int32 → Int32 → Int32 → Option (RS)} (hp0 : xNP pF) (hK196 : ∀ (lv : xL) (σ : RS) (l1 : Int32) (l2 : Int32) (l3 : Int32) (l4 : Int32) (l5 : Int32) (l6 : Int32), xg lv 0 = some (.ref aR) → xg lv 1 = some (.int l1) → xg lv 2 = some (.int l2) → xg lv 3 = some (.int l3) → xg lv 4 = some (.int l4) → xg lv 5 = some (.int l5) → xg lv 6 = some (.int l6) → ∀ res, K196 σ l1 l2 l3 l4 l5 l6 = some res → xR pF (d + 3) kT346 16 12 false none none (layR aR res G, T) (196, lv, [], (layR aR σ G, T))) : ∀ (lv : xL) (σ : RS) (s0 : Int32) (l1 : Int32) (l3 : Int32) (l4 : Int32) (l5 : Int32) (l6 : Int32), xg lv 0 = some (.ref aR) → xg lv 1 = some (.int l1) → xg lv 3 = some (.int l3) → xg lv 4 = some (.int l4) → xg lv 5 = some (.int l5) → xg lv 6 = some (.int l6) → ∀ res, m_recoverLog_b538 F K196 σ s0 l1 l3 l4 l5 l6 = some res → xR pF (d + 3) kT346 16 12 false none none (layR aR res G, T) (538, lv, [.int s0], (layR aR σ G, T)) := by
  intro lv σ s0 l1 l3 l4 l5 l6 g0 g1 g3 g4 g5 g6 res h
  unfold m_recoverLog_b538 at h
  refine eE_stI (j := 2) lk346_538 (Or.inr ⟨_, rfl, rfl⟩) (by decide) (fun vq99 gq100 kq101 => ?_)
  have gq102 := kq101 1 _ (by decide) (fun _ => rfl) g1
  have gq103 := kq101 3 _ (by decide) (fun _ => rfl) g3
  have gq104 := kq101 4 _ (by decide) (fun _ => rfl) g4
  have gq105 := kq101 5 _ (by decide) (fun _ => rfl) g5
  have gq106 := kq101 6 _ (by decide) (fun _ => rfl) g6
  have gq107 := kq101 0 _ (by decide) (fun _ => rfl) g0
  refine eE_goto (t := 196) lk346_539 (by decide) ?_
  exact hK196 vq99 σ l1 s0 l3 l4 l5 l6 gq107 gq102 gq100 gq103 gq104 gq105 gq106 _ h
def m_recoverLog_b520 (F : Nat) (K196 : RS → Int32 → Int32 → Int32 → Int32 → Int32 → Int32 → Option (RS)) (σ : RS) (l1 : Int32) (l3 : Int32) (l4 : Int32) (l5 : Int32) (l6 : Int32) (l9 : Int32) : Option (RS) :=
  if xc2 .ne l3 l9 = true then (
    (m_follower F σ l1 l3 l4).bind fun p109 =>
    m_recoverLog_b538 F K196 p109.2 (p109.1) l1 l3 l4 l5 l6
  ) else (
    m_recoverLog_b538 F K196 σ ((-1 : Int32)) l1 l3 l4 l5 l6
  )
set_option maxRecDepth 4000 in
theorem m_recoverLog_b520_ok {pF : Nat → List Value → xH → Option (Option Value × xH)} {d : Nat} {aR : Nat} {G : Nat → xC} {T : Nat × Nat} {F : Nat} {K196 : RS → Int32 → Int32 → Int32 → Int32 → Int32 → Int32 → Option (RS)} (hp0 : xNP pF) (hK196 : ∀ (lv : xL) (σ : RS) (l1 : Int32) (l2 : Int32) (l3 : Int32) (l4 : Int32) (l5 : Int32) (l6 : Int32), xg lv 0 = some (.ref aR) → xg lv 1 = some (.int l1) → xg lv 2 = some (.int l2) → xg lv 3 = some (.int l3) → xg lv 4 = some (.int l4) → xg lv 5 = some (.int l5) → xg lv 6 = some (.int l6) → ∀ res, K196 σ l1 l2 l3 l4 l5 l6 = some res → xR pF (d + 3) kT346 16 12 false none none (layR aR res G, T) (196, lv, [], (layR aR σ G, T))) : ∀ (lv : xL) (σ : RS) (l1 : Int32) (l3 : Int32) (l4 : Int32) (l5 : Int32) (l6 : Int32) (l9 : Int32), xg lv 0 = some (.ref aR) → xg lv 1 = some (.int l1) → xg lv 3 = some (.int l3) → xg lv 4 = some (.int l4) → xg lv 5 = some (.int l5) → xg lv 6 = some (.int l6) → xg lv 9 = some (.int l9) → ∀ res, m_recoverLog_b520 F K196 σ l1 l3 l4 l5 l6 l9 = some res → xR pF (d + 3) kT346 16 12 false none none (layR aR res G, T) (520, lv, [], (layR aR σ G, T)) := by
  intro lv σ l1 l3 l4 l5 l6 l9 g0 g1 g3 g4 g5 g6 g9 res h
  unfold m_recoverLog_b520 at h
  refine eE_iload_n lk346_520 g3 ?_
  refine eE_iload lk346_521 g9 ?_
  refine eE_icmp (t := 530) lk346_523 (by decide) (fun c108 => ?_) (fun c108 => ?_)
  · rw [if_pos c108] at h
    refine eE_aload_n lk346_530 g0 ?_
    refine eE_iload_n lk346_531 g1 ?_
    refine eE_iload_n lk346_532 g3 ?_
    refine eE_iload lk346_533 g4 ?_
    obtain ⟨p109, h110, h⟩ := Option.bind_eq_some_iff.mp h
    refine eR_call (as := [.int l1, .int l3, .int l4]) lk346_535 mr_556 na_285 rfl rfl (Nat.le_of_ble_eq_true rfl) wv_285 wc_285 (m_follower_ok hp0 (d := d + 0) h110) ?_
    exact m_recoverLog_b538_ok hp0 hK196 lv p109.2 (p109.1) l1 l3 l4 l5 l6 g0 g1 g3 g4 g5 g6 _ h
  · rw [if_neg c108] at h
    refine eE_iconst (v := (-1)) lk346_526 (by decide) ?_
    refine eE_goto (t := 538) lk346_527 (by decide) ?_
    exact m_recoverLog_b538_ok hp0 hK196 lv σ ((-1 : Int32)) l1 l3 l4 l5 l6 g0 g1 g3 g4 g5 g6 _ h
def m_recoverLog_b489 (F : Nat) (K196 : RS → Int32 → Int32 → Int32 → Int32 → Int32 → Int32 → Option (RS)) (σ : RS) (l1 : Int32) (l3 : Int32) (l4 : Int32) (l5 : Int32) (l6 : Int32) (l7 : Int32) (l8 : Int32) (l9 : Int32) : Option (RS) :=
  (rld σ 37 l7).bind fun x111 =>
  if xc2 .le x111 l8 = true then (
    m_recoverLog_b520 F K196 σ l1 l3 l4 l5 l6 l9
  ) else (
    (rst σ 37 l7 l8).bind fun σ114 =>
    if ((2 : Int32)) = 0 then none else
    (rst σ114 44 (l7 / ((2 : Int32))) ((((1 : Int32)) &&& 1))).bind fun σ117 =>
    m_recoverLog_b520 F K196 σ117 l1 l3 l4 l5 l6 l9
  )
set_option maxRecDepth 4000 in
theorem m_recoverLog_b489_ok {pF : Nat → List Value → xH → Option (Option Value × xH)} {d : Nat} {aR : Nat} {G : Nat → xC} {T : Nat × Nat} {F : Nat} {K196 : RS → Int32 → Int32 → Int32 → Int32 → Int32 → Int32 → Option (RS)} (hp0 : xNP pF) (hK196 : ∀ (lv : xL) (σ : RS) (l1 : Int32) (l2 : Int32) (l3 : Int32) (l4 : Int32) (l5 : Int32) (l6 : Int32), xg lv 0 = some (.ref aR) → xg lv 1 = some (.int l1) → xg lv 2 = some (.int l2) → xg lv 3 = some (.int l3) → xg lv 4 = some (.int l4) → xg lv 5 = some (.int l5) → xg lv 6 = some (.int l6) → ∀ res, K196 σ l1 l2 l3 l4 l5 l6 = some res → xR pF (d + 3) kT346 16 12 false none none (layR aR res G, T) (196, lv, [], (layR aR σ G, T))) : ∀ (lv : xL) (σ : RS) (l1 : Int32) (l3 : Int32) (l4 : Int32) (l5 : Int32) (l6 : Int32) (l7 : Int32) (l8 : Int32) (l9 : Int32), xg lv 0 = some (.ref aR) → xg lv 1 = some (.int l1) → xg lv 3 = some (.int l3) → xg lv 4 = some (.int l4) → xg lv 5 = some (.int l5) → xg lv 6 = some (.int l6) → xg lv 7 = some (.int l7) → xg lv 8 = some (.int l8) → xg lv 9 = some (.int l9) → ∀ res, m_recoverLog_b489 F K196 σ l1 l3 l4 l5 l6 l7 l8 l9 = some res → xR pF (d + 3) kT346 16 12 false none none (layR aR res G, T) (489, lv, [], (layR aR σ G, T)) := by
  intro lv σ l1 l3 l4 l5 l6 l7 l8 l9 g0 g1 g3 g4 g5 g6 g7 g8 g9 res h
  unfold m_recoverLog_b489 at h
  refine eE_aload_n lk346_489 g0 ?_
  refine eR_getA lk346_490 rf_78 rfl ?_
  refine eE_iload lk346_493 g7 ?_
  obtain ⟨x111, h112, h⟩ := Option.bind_eq_some_iff.mp h
  refine eR_iald lk346_495 rfl rfl h112 ?_
  refine eE_iload lk346_496 g8 ?_
  refine eE_icmp (t := 520) lk346_498 (by decide) (fun c113 => ?_) (fun c113 => ?_)
  · rw [if_pos c113] at h
    exact m_recoverLog_b520_ok hp0 hK196 lv σ l1 l3 l4 l5 l6 l9 g0 g1 g3 g4 g5 g6 g9 _ h
  · rw [if_neg c113] at h
    refine eE_aload_n lk346_501 g0 ?_
    refine eR_getA lk346_502 rf_78 rfl ?_
    refine eE_iload lk346_505 g7 ?_
    refine eE_iload lk346_507 g8 ?_
    obtain ⟨σ114, h115, h⟩ := Option.bind_eq_some_iff.mp h
    refine eR_iast lk346_509 rfl rfl h115 ?_
    refine eE_aload_n lk346_510 g0 ?_
    refine eR_getA lk346_511 rf_99 rfl ?_
    refine eE_iload lk346_514 g7 ?_
    refine eE_iconst (v := 2) lk346_516 (by decide) ?_
    by_cases z116 : ((2 : Int32)) = 0
    · rw [if_pos z116] at h; cases h
    rw [if_neg z116] at h
    refine eE_idiv lk346_517 z116 ?_
    refine eE_iconst (v := 1) lk346_518 (by decide) ?_
    obtain ⟨σ117, h118, h⟩ := Option.bind_eq_some_iff.mp h
    refine eR_zast lk346_519 rfl rfl rfl h118 ?_
    exact m_recoverLog_b520_ok hp0 hK196 lv σ117 l1 l3 l4 l5 l6 l9 g0 g1 g3 g4 g5 g6 g9 _ h
def m_recoverLog_b260 (F : Nat) (K196 : RS → Int32 → Int32 → Int32 → Int32 → Int32 → Int32 → Option (RS)) : Nat → RS → Int32 → Int32 → Int32 → Int32 → Int32 → Int32 → Int32 → Int32 → Option (RS)
  | 0, _, _, _, _, _, _, _, _, _ => none
  | n + 1, σ, l1, l3, l4, l5, l6, l7, l8, l9 =>
    let KK := m_recoverLog_b260 F K196 n
    (rld σ 37 l7).bind fun x119 =>
    if xc2 .gt (l8 + ((8 : Int32))) x119 = true then (
      m_recoverLog_b489 F K196 σ l1 l3 l4 l5 l6 l7 l8 l9
    ) else (
      (m_readAt σ l7 l8).bind fun p122 =>
      (rld p122.2 37 l7).bind fun x124 =>
      if xc2 .gt ((l8 + ((8 : Int32))) + p122.1) x124 = true then (
        m_recoverLog_b489 F K196 p122.2 l1 l3 l4 l5 l6 l7 l8 l9
      ) else (
        (m_readAt p122.2 l7 (l8 + ((8 : Int32)))).bind fun p137 =>
        (rld p137.2 55 l1).bind fun x150 =>
        if xc2 .ne (l3 + (1 : Int32)) x150 = true then (
          m_recoverLog_b346 F K196 KK p137.2 l1 (l3 + (1 : Int32)) (p137.1) l5 l6 l7 l8 l9
        ) else (
          (rld p137.2 57 l1).bind fun x163 =>
          if xc2 .ne p137.1 x163 = true then (
            m_recoverLog_b344 F K196 KK p137.2 ((0 : Int32)) l1 (l3 + (1 : Int32)) (p137.1) ((1 : Int32)) l7 l8 l9
          ) else (
            m_recoverLog_b344 F K196 KK p137.2 ((1 : Int32)) l1 (l3 + (1 : Int32)) (p137.1) ((1 : Int32)) l7 l8 l9
          )
        )
      )
    )
set_option maxRecDepth 4000 in
theorem m_recoverLog_b260_ok {pF : Nat → List Value → xH → Option (Option Value × xH)} {d : Nat} {aR : Nat} {G : Nat → xC} {T : Nat × Nat} {F : Nat} {K196 : RS → Int32 → Int32 → Int32 → Int32 → Int32 → Int32 → Option (RS)} (hp0 : xNP pF) (hK196 : ∀ (lv : xL) (σ : RS) (l1 : Int32) (l2 : Int32) (l3 : Int32) (l4 : Int32) (l5 : Int32) (l6 : Int32), xg lv 0 = some (.ref aR) → xg lv 1 = some (.int l1) → xg lv 2 = some (.int l2) → xg lv 3 = some (.int l3) → xg lv 4 = some (.int l4) → xg lv 5 = some (.int l5) → xg lv 6 = some (.int l6) → ∀ res, K196 σ l1 l2 l3 l4 l5 l6 = some res → xR pF (d + 3) kT346 16 12 false none none (layR aR res G, T) (196, lv, [], (layR aR σ G, T))) : ∀ (n : Nat) (lv : xL) (σ : RS) (l1 : Int32) (l3 : Int32) (l4 : Int32) (l5 : Int32) (l6 : Int32) (l7 : Int32) (l8 : Int32) (l9 : Int32), xg lv 0 = some (.ref aR) → xg lv 1 = some (.int l1) → xg lv 3 = some (.int l3) → xg lv 4 = some (.int l4) → xg lv 5 = some (.int l5) → xg lv 6 = some (.int l6) → xg lv 7 = some (.int l7) → xg lv 8 = some (.int l8) → xg lv 9 = some (.int l9) → ∀ res, m_recoverLog_b260 F K196 n σ l1 l3 l4 l5 l6 l7 l8 l9 = some res → xR pF (d + 3) kT346 16 12 false none none (layR aR res G, T) (260, lv, [], (layR aR σ G, T)) := by
  intro n
  induction n with
  | zero => intro lv σ l1 l3 l4 l5 l6 l7 l8 l9 g0 g1 g3 g4 g5 g6 g7 g8 g9 res h; simp [m_recoverLog_b260] at h
  | succ n hKK =>
    intro lv σ l1 l3 l4 l5 l6 l7 l8 l9 g0 g1 g3 g4 g5 g6 g7 g8 g9 res h
    unfold m_recoverLog_b260 at h
    dsimp only at h
    refine eE_iload lk346_260 g8 ?_
    refine eE_bipush (v := 8) lk346_262 (by decide) ?_
    refine eE_iadd lk346_264 ?_
    refine eE_aload_n lk346_265 g0 ?_
    refine eR_getA lk346_266 rf_78 rfl ?_
    refine eE_iload lk346_269 g7 ?_
    obtain ⟨x119, h120, h⟩ := Option.bind_eq_some_iff.mp h
    refine eR_iald lk346_271 rfl rfl h120 ?_
    refine eE_icmp (t := 489) lk346_272 (by decide) (fun c121 => ?_) (fun c121 => ?_)
    · rw [if_pos c121] at h
      exact m_recoverLog_b489_ok hp0 hK196 lv σ l1 l3 l4 l5 l6 l7 l8 l9 g0 g1 g3 g4 g5 g6 g7 g8 g9 _ h
    · rw [if_neg c121] at h
      refine eE_iload lk346_275 g8 ?_
      refine eE_bipush (v := 8) lk346_277 (by decide) ?_
      refine eE_iadd lk346_279 ?_
      refine eE_aload_n lk346_280 g0 ?_
      refine eE_iload lk346_281 g7 ?_
      refine eE_iload lk346_283 g8 ?_
      obtain ⟨p122, h123, h⟩ := Option.bind_eq_some_iff.mp h
      refine eR_call (as := [.int l7, .int l8]) lk346_285 mr_550 na_344 rfl rfl (Nat.le_of_ble_eq_true rfl) wv_344 wc_344 (m_readAt_ok hp0 (d := d + 1) h123) ?_
      refine eE_iadd lk346_288 ?_
      refine eE_aload_n lk346_289 g0 ?_
      refine eR_getA lk346_290 rf_78 rfl ?_
      refine eE_iload lk346_293 g7 ?_
      obtain ⟨x124, h125, h⟩ := Option.bind_eq_some_iff.mp h
      refine eR_iald lk346_295 rfl rfl h125 ?_
      refine eE_icmp (t := 489) lk346_296 (by decide) (fun c126 => ?_) (fun c126 => ?_)
      · rw [if_pos c126] at h
        exact m_recoverLog_b489_ok hp0 hK196 lv p122.2 l1 l3 l4 l5 l6 l7 l8 l9 g0 g1 g3 g4 g5 g6 g7 g8 g9 _ h
      · rw [if_neg c126] at h
        refine eE_inc (j := 3) (v := l3 + (1 : Int32)) lk346_299 g3 rfl (by decide) (fun vq127 gq128 kq129 => ?_)
        have gq130 := kq129 1 _ (by decide) (fun _ => rfl) g1
        have gq131 := kq129 5 _ (by decide) (fun _ => rfl) g5
        have gq132 := kq129 6 _ (by decide) (fun _ => rfl) g6
        have gq133 := kq129 7 _ (by decide) (fun _ => rfl) g7
        have gq134 := kq129 8 _ (by decide) (fun _ => rfl) g8
        have gq135 := kq129 9 _ (by decide) (fun _ => rfl) g9
        have gq136 := kq129 0 _ (by decide) (fun _ => rfl) g0
        refine eE_aload_n lk346_302 gq136 ?_
        refine eE_iload lk346_303 gq133 ?_
        refine eE_iload lk346_305 gq134 ?_
        refine eE_bipush (v := 8) lk346_307 (by decide) ?_
        refine eE_iadd lk346_309 ?_
        obtain ⟨p137, h138, h⟩ := Option.bind_eq_some_iff.mp h
        refine eR_call (as := [.int l7, .int (l8 + ((8 : Int32)))]) lk346_310 mr_550 na_344 rfl rfl (Nat.le_of_ble_eq_true rfl) wv_344 wc_344 (m_readAt_ok hp0 (d := d + 1) h138) ?_
        refine eE_stI (j := 4) lk346_313 (Or.inl rfl) (by decide) (fun vq139 gq140 kq141 => ?_)
        have gq142 := kq141 1 _ (by decide) (fun _ => rfl) gq130
        have gq143 := kq141 5 _ (by decide) (fun _ => rfl) gq131
        have gq144 := kq141 6 _ (by decide) (fun _ => rfl) gq132
        have gq145 := kq141 7 _ (by decide) (fun _ => rfl) gq133
        have gq146 := kq141 8 _ (by decide) (fun _ => rfl) gq134
        have gq147 := kq141 9 _ (by decide) (fun _ => rfl) gq135
        have gq148 := kq141 0 _ (by decide) (fun _ => rfl) gq136
        have gq149 := kq141 3 _ (by decide) (fun _ => rfl) gq128
        refine eE_iload_n lk346_315 gq149 ?_
        refine eE_aload_n lk346_316 gq148 ?_
        refine eR_getA lk346_317 rf_129 rfl ?_
        refine eE_iload_n lk346_320 gq142 ?_
        obtain ⟨x150, h151, h⟩ := Option.bind_eq_some_iff.mp h
        refine eR_iald lk346_321 rfl rfl h151 ?_
        refine eE_icmp (t := 346) lk346_322 (by decide) (fun c152 => ?_) (fun c152 => ?_)
        · rw [if_pos c152] at h
          exact m_recoverLog_b346_ok hp0 hK196 hKK vq139 p137.2 l1 (l3 + (1 : Int32)) (p137.1) l5 l6 l7 l8 l9 gq148 gq142 gq149 gq140 gq143 gq144 gq145 gq146 gq147 _ h
        · rw [if_neg c152] at h
          refine eE_iconst (v := 1) lk346_325 (by decide) ?_
          refine eE_stI (j := 6) lk346_326 (Or.inl rfl) (by decide) (fun vq153 gq154 kq155 => ?_)
          have gq156 := kq155 1 _ (by decide) (fun _ => rfl) gq142
          have gq157 := kq155 7 _ (by decide) (fun _ => rfl) gq145
          have gq158 := kq155 8 _ (by decide) (fun _ => rfl) gq146
          have gq159 := kq155 9 _ (by decide) (fun _ => rfl) gq147
          have gq160 := kq155 0 _ (by decide) (fun _ => rfl) gq148
          have gq161 := kq155 3 _ (by decide) (fun _ => rfl) gq149
          have gq162 := kq155 4 _ (by decide) (fun _ => rfl) gq140
          refine eE_iload lk346_328 gq162 ?_
          refine eE_aload_n lk346_330 gq160 ?_
          refine eR_getA lk346_331 rf_135 rfl ?_
          refine eE_iload_n lk346_334 gq156 ?_
          obtain ⟨x163, h164, h⟩ := Option.bind_eq_some_iff.mp h
          refine eR_iald lk346_335 rfl rfl h164 ?_
          refine eE_icmp (t := 343) lk346_336 (by decide) (fun c165 => ?_) (fun c165 => ?_)
          · rw [if_pos c165] at h
            refine eE_iconst (v := 0) lk346_343 (by decide) ?_
            exact m_recoverLog_b344_ok hp0 hK196 hKK vq153 p137.2 ((0 : Int32)) l1 (l3 + (1 : Int32)) (p137.1) ((1 : Int32)) l7 l8 l9 gq160 gq156 gq161 gq162 gq154 gq157 gq158 gq159 _ h
          · rw [if_neg c165] at h
            refine eE_iconst (v := 1) lk346_339 (by decide) ?_
            refine eE_goto (t := 344) lk346_340 (by decide) ?_
            exact m_recoverLog_b344_ok hp0 hK196 hKK vq153 p137.2 ((1 : Int32)) l1 (l3 + (1 : Int32)) (p137.1) ((1 : Int32)) l7 l8 l9 gq160 gq156 gq161 gq162 gq154 gq157 gq158 gq159 _ h
def m_recoverLog_b623 (F : Nat) (K572 : RS → Int32 → Int32 → Option (RS)) (K585 : RS → Int32 → Int32 → Int32 → Int32 → Option (RS)) (σ : RS) (s0 : Int32) (l1 : Int32) (l7 : Int32) (l9 : Int32) : Option (RS) :=
  K585 σ l1 l7 s0 (l9 + (1 : Int32))
set_option maxRecDepth 4000 in
theorem m_recoverLog_b623_ok {pF : Nat → List Value → xH → Option (Option Value × xH)} {d : Nat} {aR : Nat} {G : Nat → xC} {T : Nat × Nat} {F : Nat} {K572 : RS → Int32 → Int32 → Option (RS)} {K585 : RS → Int32 → Int32 → Int32 → Int32 → Option (RS)} (hp0 : xNP pF) (hK572 : ∀ (lv : xL) (σ : RS) (l1 : Int32) (l7 : Int32), xg lv 0 = some (.ref aR) → xg lv 1 = some (.int l1) → xg lv 7 = some (.int l7) → ∀ res, K572 σ l1 l7 = some res → xR pF (d + 3) kT346 16 12 false none none (layR aR res G, T) (572, lv, [], (layR aR σ G, T))) (hK585 : ∀ (lv : xL) (σ : RS) (l1 : Int32) (l7 : Int32) (l8 : Int32) (l9 : Int32), xg lv 0 = some (.ref aR) → xg lv 1 = some (.int l1) → xg lv 7 = some (.int l7) → xg lv 8 = some (.int l8) → xg lv 9 = some (.int l9) → ∀ res, K585 σ l1 l7 l8 l9 = some res → xR pF (d + 3) kT346 16 12 false none none (layR aR res G, T) (585, lv, [], (layR aR σ G, T))) : ∀ (lv : xL) (σ : RS) (s0 : Int32) (l1 : Int32) (l7 : Int32) (l9 : Int32), xg lv 0 = some (.ref aR) → xg lv 1 = some (.int l1) → xg lv 7 = some (.int l7) → xg lv 9 = some (.int l9) → ∀ res, m_recoverLog_b623 F K572 K585 σ s0 l1 l7 l9 = some res → xR pF (d + 3) kT346 16 12 false none none (layR aR res G, T) (623, lv, [.int s0], (layR aR σ G, T)) := by
  intro lv σ s0 l1 l7 l9 g0 g1 g7 g9 res h
  unfold m_recoverLog_b623 at h
  refine eE_stI (j := 8) lk346_623 (Or.inl rfl) (by decide) (fun vq166 gq167 kq168 => ?_)
  have gq169 := kq168 1 _ (by decide) (fun _ => rfl) g1
  have gq170 := kq168 7 _ (by decide) (fun _ => rfl) g7
  have gq171 := kq168 9 _ (by decide) (fun _ => rfl) g9
  have gq172 := kq168 0 _ (by decide) (fun _ => rfl) g0
  refine eE_inc (j := 9) (v := l9 + (1 : Int32)) lk346_625 gq171 rfl (by decide) (fun vq173 gq174 kq175 => ?_)
  have gq176 := kq175 1 _ (by decide) (fun _ => rfl) gq169
  have gq177 := kq175 7 _ (by decide) (fun _ => rfl) gq170
  have gq178 := kq175 0 _ (by decide) (fun _ => rfl) gq172
  have gq179 := kq175 8 _ (by decide) (fun _ => rfl) gq167
  refine eE_goto (t := 585) lk346_628 (by decide) ?_
  exact hK585 vq173 σ l1 l7 s0 (l9 + (1 : Int32)) gq178 gq176 gq177 gq179 gq174 _ h
def m_recoverLog_b618 (F : Nat) (K572 : RS → Int32 → Int32 → Option (RS)) (K585 : RS → Int32 → Int32 → Int32 → Int32 → Option (RS)) (σ : RS) (l1 : Int32) (l7 : Int32) (l9 : Int32) : Option (RS) :=
  m_recoverLog_b623 F K572 K585 σ ((1 : Int32)) l1 l7 l9
set_option maxRecDepth 4000 in
theorem m_recoverLog_b618_ok {pF : Nat → List Value → xH → Option (Option Value × xH)} {d : Nat} {aR : Nat} {G : Nat → xC} {T : Nat × Nat} {F : Nat} {K572 : RS → Int32 → Int32 → Option (RS)} {K585 : RS → Int32 → Int32 → Int32 → Int32 → Option (RS)} (hp0 : xNP pF) (hK572 : ∀ (lv : xL) (σ : RS) (l1 : Int32) (l7 : Int32), xg lv 0 = some (.ref aR) → xg lv 1 = some (.int l1) → xg lv 7 = some (.int l7) → ∀ res, K572 σ l1 l7 = some res → xR pF (d + 3) kT346 16 12 false none none (layR aR res G, T) (572, lv, [], (layR aR σ G, T))) (hK585 : ∀ (lv : xL) (σ : RS) (l1 : Int32) (l7 : Int32) (l8 : Int32) (l9 : Int32), xg lv 0 = some (.ref aR) → xg lv 1 = some (.int l1) → xg lv 7 = some (.int l7) → xg lv 8 = some (.int l8) → xg lv 9 = some (.int l9) → ∀ res, K585 σ l1 l7 l8 l9 = some res → xR pF (d + 3) kT346 16 12 false none none (layR aR res G, T) (585, lv, [], (layR aR σ G, T))) : ∀ (lv : xL) (σ : RS) (l1 : Int32) (l7 : Int32) (l9 : Int32), xg lv 0 = some (.ref aR) → xg lv 1 = some (.int l1) → xg lv 7 = some (.int l7) → xg lv 9 = some (.int l9) → ∀ res, m_recoverLog_b618 F K572 K585 σ l1 l7 l9 = some res → xR pF (d + 3) kT346 16 12 false none none (layR aR res G, T) (618, lv, [], (layR aR σ G, T)) := by
  intro lv σ l1 l7 l9 g0 g1 g7 g9 res h
  unfold m_recoverLog_b618 at h
  refine eE_iconst (v := 1) lk346_618 (by decide) ?_
  refine eE_goto (t := 623) lk346_619 (by decide) ?_
  exact m_recoverLog_b623_ok hp0 hK572 hK585 lv σ ((1 : Int32)) l1 l7 l9 g0 g1 g7 g9 _ h
def m_recoverLog_b657 (F : Nat) (K572 : RS → Int32 → Int32 → Option (RS)) (σ : RS) (l1 : Int32) (l7 : Int32) : Option (RS) :=
  K572 σ l1 (l7 + (1 : Int32))
set_option maxRecDepth 4000 in
theorem m_recoverLog_b657_ok {pF : Nat → List Value → xH → Option (Option Value × xH)} {d : Nat} {aR : Nat} {G : Nat → xC} {T : Nat × Nat} {F : Nat} {K572 : RS → Int32 → Int32 → Option (RS)} (hp0 : xNP pF) (hK572 : ∀ (lv : xL) (σ : RS) (l1 : Int32) (l7 : Int32), xg lv 0 = some (.ref aR) → xg lv 1 = some (.int l1) → xg lv 7 = some (.int l7) → ∀ res, K572 σ l1 l7 = some res → xR pF (d + 3) kT346 16 12 false none none (layR aR res G, T) (572, lv, [], (layR aR σ G, T))) : ∀ (lv : xL) (σ : RS) (l1 : Int32) (l7 : Int32), xg lv 0 = some (.ref aR) → xg lv 1 = some (.int l1) → xg lv 7 = some (.int l7) → ∀ res, m_recoverLog_b657 F K572 σ l1 l7 = some res → xR pF (d + 3) kT346 16 12 false none none (layR aR res G, T) (657, lv, [], (layR aR σ G, T)) := by
  intro lv σ l1 l7 g0 g1 g7 res h
  unfold m_recoverLog_b657 at h
  refine eE_inc (j := 7) (v := l7 + (1 : Int32)) lk346_657 g7 rfl (by decide) (fun vq180 gq181 kq182 => ?_)
  have gq183 := kq182 1 _ (by decide) (fun _ => rfl) g1
  have gq184 := kq182 0 _ (by decide) (fun _ => rfl) g0
  refine eE_goto (t := 572) lk346_660 (by decide) ?_
  exact hK572 vq180 σ l1 (l7 + (1 : Int32)) gq184 gq183 gq181 _ h
def m_recoverLog_b585 (F : Nat) (K572 : RS → Int32 → Int32 → Option (RS)) : Nat → RS → Int32 → Int32 → Int32 → Int32 → Option (RS)
  | 0, _, _, _, _, _ => none
  | n + 1, σ, l1, l7, l8, l9 =>
    let KK := m_recoverLog_b585 F K572 n
    (rld σ 49 l1).bind fun x185 =>
    if xc2 .ge l9 x185 = true then (
      if xc0 .ne l8 = true then (
        m_recoverLog_b657 F K572 σ l1 l7
      ) else (
        (m_fileOf l1 l7).bind fun p189 =>
        (rld σ 38 p189).bind fun x191 =>
        if xc0 .eq x191 = true then (
          m_recoverLog_b657 F K572 σ l1 l7
        ) else (
          (m_removeFile σ l1 l7).bind fun p194 =>
          m_recoverLog_b657 F K572 p194 l1 l7
        )
      )
    ) else (
      if xc0 .ne l8 = true then (
        m_recoverLog_b618 F K572 KK σ l1 l7 l9
      ) else (
        (rld σ 50 ((((12 : Int32)) * l1) + l9)).bind fun x197 =>
        if xc2 .ne x197 l7 = true then (
          m_recoverLog_b623 F K572 KK σ ((0 : Int32)) l1 l7 l9
        ) else (
          m_recoverLog_b618 F K572 KK σ l1 l7 l9
        )
      )
    )
set_option maxRecDepth 4000 in
theorem m_recoverLog_b585_ok {pF : Nat → List Value → xH → Option (Option Value × xH)} {d : Nat} {aR : Nat} {G : Nat → xC} {T : Nat × Nat} {F : Nat} {K572 : RS → Int32 → Int32 → Option (RS)} (hp0 : xNP pF) (hK572 : ∀ (lv : xL) (σ : RS) (l1 : Int32) (l7 : Int32), xg lv 0 = some (.ref aR) → xg lv 1 = some (.int l1) → xg lv 7 = some (.int l7) → ∀ res, K572 σ l1 l7 = some res → xR pF (d + 3) kT346 16 12 false none none (layR aR res G, T) (572, lv, [], (layR aR σ G, T))) : ∀ (n : Nat) (lv : xL) (σ : RS) (l1 : Int32) (l7 : Int32) (l8 : Int32) (l9 : Int32), xg lv 0 = some (.ref aR) → xg lv 1 = some (.int l1) → xg lv 7 = some (.int l7) → xg lv 8 = some (.int l8) → xg lv 9 = some (.int l9) → ∀ res, m_recoverLog_b585 F K572 n σ l1 l7 l8 l9 = some res → xR pF (d + 3) kT346 16 12 false none none (layR aR res G, T) (585, lv, [], (layR aR σ G, T)) := by
  intro n
  induction n with
  | zero => intro lv σ l1 l7 l8 l9 g0 g1 g7 g8 g9 res h; simp [m_recoverLog_b585] at h
  | succ n hKK =>
    intro lv σ l1 l7 l8 l9 g0 g1 g7 g8 g9 res h
    unfold m_recoverLog_b585 at h
    dsimp only at h
    refine eE_iload lk346_585 g9 ?_
    refine eE_aload_n lk346_587 g0 ?_
    refine eR_getA lk346_588 rf_111 rfl ?_
    refine eE_iload_n lk346_591 g1 ?_
    obtain ⟨x185, h186, h⟩ := Option.bind_eq_some_iff.mp h
    refine eR_iald lk346_592 rfl rfl h186 ?_
    refine eE_icmp (t := 631) lk346_593 (by decide) (fun c187 => ?_) (fun c187 => ?_)
    · rw [if_pos c187] at h
      refine eE_iload lk346_631 g8 ?_
      refine eE_if (t := 657) lk346_633 (by decide) (fun c188 => ?_) (fun c188 => ?_)
      · rw [if_pos c188] at h
        exact m_recoverLog_b657_ok hp0 hK572 lv σ l1 l7 g0 g1 g7 _ h
      · rw [if_neg c188] at h
        refine eE_aload_n lk346_636 g0 ?_
        refine eR_getA lk346_637 rf_81 rfl ?_
        refine eE_iload_n lk346_640 g1 ?_
        refine eE_iload lk346_641 g7 ?_
        obtain ⟨p189, h190, h⟩ := Option.bind_eq_some_iff.mp h
        refine eE_stat (as := [.int l1, .int l7]) lk346_643 mr_492 na_280 rfl rfl (Nat.le_of_ble_eq_true rfl) mm_280 ws_280 (m_fileOf_ok hp0 (d := d + 2) h190) ?_
        obtain ⟨x191, h192, h⟩ := Option.bind_eq_some_iff.mp h
        refine eR_bald lk346_646 rfl (Or.inr rfl) h192 ?_
        refine eE_if (t := 657) lk346_647 (by decide) (fun c193 => ?_) (fun c193 => ?_)
        · rw [if_pos c193] at h
          exact m_recoverLog_b657_ok hp0 hK572 lv σ l1 l7 g0 g1 g7 _ h
        · rw [if_neg c193] at h
          refine eE_aload_n lk346_650 g0 ?_
          refine eE_iload_n lk346_651 g1 ?_
          refine eE_iload lk346_652 g7 ?_
          obtain ⟨p194, h195, h⟩ := Option.bind_eq_some_iff.mp h
          refine eR_call (as := [.int l1, .int l7]) lk346_654 mr_539 na_347 rfl rfl (Nat.le_of_ble_eq_true rfl) wv_347 wc_347 (m_removeFile_ok hp0 (d := d + 1) h195) ?_
          exact m_recoverLog_b657_ok hp0 hK572 lv p194 l1 l7 g0 g1 g7 _ h
    · rw [if_neg c187] at h
      refine eE_iload lk346_596 g8 ?_
      refine eE_if (t := 618) lk346_598 (by decide) (fun c196 => ?_) (fun c196 => ?_)
      · rw [if_pos c196] at h
        exact m_recoverLog_b618_ok hp0 hK572 hKK lv σ l1 l7 l9 g0 g1 g7 g9 _ h
      · rw [if_neg c196] at h
        refine eE_aload_n lk346_601 g0 ?_
        refine eR_getA lk346_602 rf_114 rfl ?_
        refine eE_bipush (v := 12) lk346_605 (by decide) ?_
        refine eE_iload_n lk346_607 g1 ?_
        refine eE_imul lk346_608 ?_
        refine eE_iload lk346_609 g9 ?_
        refine eE_iadd lk346_611 ?_
        obtain ⟨x197, h198, h⟩ := Option.bind_eq_some_iff.mp h
        refine eR_iald lk346_612 rfl rfl h198 ?_
        refine eE_iload lk346_613 g7 ?_
        refine eE_icmp (t := 622) lk346_615 (by decide) (fun c199 => ?_) (fun c199 => ?_)
        · rw [if_pos c199] at h
          refine eE_iconst (v := 0) lk346_622 (by decide) ?_
          exact m_recoverLog_b623_ok hp0 hK572 hKK lv σ ((0 : Int32)) l1 l7 l9 g0 g1 g7 g9 _ h
        · rw [if_neg c199] at h
          exact m_recoverLog_b618_ok hp0 hK572 hKK lv σ l1 l7 l9 g0 g1 g7 g9 _ h
def m_recoverLog_b735 (F : Nat)  (σ : RS) (l1 : Int32) : Option (RS) :=
  (m_syncAll F σ l1).bind fun p200 =>
  some p200
set_option maxRecDepth 4000 in
theorem m_recoverLog_b735_ok {pF : Nat → List Value → xH → Option (Option Value × xH)} {d : Nat} {aR : Nat} {G : Nat → xC} {T : Nat × Nat} {F : Nat} (hp0 : xNP pF)  : ∀ (lv : xL) (σ : RS) (l1 : Int32), xg lv 0 = some (.ref aR) → xg lv 1 = some (.int l1) → ∀ res, m_recoverLog_b735 F  σ l1 = some res → xR pF (d + 3) kT346 16 12 false none none (layR aR res G, T) (735, lv, [], (layR aR σ G, T)) := by
  intro lv σ l1 g0 g1 res h
  unfold m_recoverLog_b735 at h
  refine eE_aload_n lk346_735 g0 ?_
  refine eE_iload_n lk346_736 g1 ?_
  obtain ⟨p200, h201, h⟩ := Option.bind_eq_some_iff.mp h
  refine eR_call (as := [.int l1]) lk346_737 mr_560 na_366 rfl rfl (Nat.le_of_ble_eq_true rfl) wv_366 wc_366 (m_syncAll_ok hp0 (d := d + 0) h201) ?_
  cases h
  exact eE_end lk346_740 rfl rfl rfl
def m_recoverLog_b702 (F : Nat)  (σ : RS) (s0 : Int32) (l1 : Int32) : Option (RS) :=
  (rld σ 53 l1).bind fun x207 =>
  if xc2 .le s0 x207 = true then (
    m_recoverLog_b735 F  σ l1
  ) else (
    (rst σ 53 l1 s0).bind fun σ210 =>
    (rst σ210 54 l1 (((-1 : Int32)))).bind fun σ212 =>
    (m_laySlot σ212 l1).bind fun p214 =>
    m_recoverLog_b735 F  p214 l1
  )
set_option maxRecDepth 4000 in
theorem m_recoverLog_b702_ok {pF : Nat → List Value → xH → Option (Option Value × xH)} {d : Nat} {aR : Nat} {G : Nat → xC} {T : Nat × Nat} {F : Nat} (hp0 : xNP pF)  : ∀ (lv : xL) (σ : RS) (s0 : Int32) (l1 : Int32), xg lv 0 = some (.ref aR) → xg lv 1 = some (.int l1) → ∀ res, m_recoverLog_b702 F  σ s0 l1 = some res → xR pF (d + 3) kT346 16 12 false none none (layR aR res G, T) (702, lv, [.int s0], (layR aR σ G, T)) := by
  intro lv σ s0 l1 g0 g1 res h
  unfold m_recoverLog_b702 at h
  refine eE_stI (j := 7) lk346_702 (Or.inl rfl) (by decide) (fun vq202 gq203 kq204 => ?_)
  have gq205 := kq204 1 _ (by decide) (fun _ => rfl) g1
  have gq206 := kq204 0 _ (by decide) (fun _ => rfl) g0
  refine eE_iload lk346_704 gq203 ?_
  refine eE_aload_n lk346_706 gq206 ?_
  refine eR_getA lk346_707 rf_123 rfl ?_
  refine eE_iload_n lk346_710 gq205 ?_
  obtain ⟨x207, h208, h⟩ := Option.bind_eq_some_iff.mp h
  refine eR_iald lk346_711 rfl rfl h208 ?_
  refine eE_icmp (t := 735) lk346_712 (by decide) (fun c209 => ?_) (fun c209 => ?_)
  · rw [if_pos c209] at h
    exact m_recoverLog_b735_ok hp0  vq202 σ l1 gq206 gq205 _ h
  · rw [if_neg c209] at h
    refine eE_aload_n lk346_715 gq206 ?_
    refine eR_getA lk346_716 rf_123 rfl ?_
    refine eE_iload_n lk346_719 gq205 ?_
    refine eE_iload lk346_720 gq203 ?_
    obtain ⟨σ210, h211, h⟩ := Option.bind_eq_some_iff.mp h
    refine eR_iast lk346_722 rfl rfl h211 ?_
    refine eE_aload_n lk346_723 gq206 ?_
    refine eR_getA lk346_724 rf_126 rfl ?_
    refine eE_iload_n lk346_727 gq205 ?_
    refine eE_iconst (v := (-1)) lk346_728 (by decide) ?_
    obtain ⟨σ212, h213, h⟩ := Option.bind_eq_some_iff.mp h
    refine eR_iast lk346_729 rfl rfl h213 ?_
    refine eE_aload_n lk346_730 gq206 ?_
    refine eE_iload_n lk346_731 gq205 ?_
    obtain ⟨p214, h215, h⟩ := Option.bind_eq_some_iff.mp h
    refine eR_call (as := [.int l1]) lk346_732 mr_502 na_317 rfl rfl (Nat.le_of_ble_eq_true rfl) wv_317 wc_317 (m_laySlot_ok hp0 (d := d + 0) h215) ?_
    exact m_recoverLog_b735_ok hp0  vq202 p214 l1 gq206 gq205 _ h
def m_recoverLog_b572 (F : Nat)  : Nat → RS → Int32 → Int32 → Option (RS)
  | 0, _, _, _ => none
  | n + 1, σ, l1, l7 =>
    let KK := m_recoverLog_b572 F  n
    if xc2 .ge l7 ((16 : Int32)) = true then (
      (rld σ 56 l1).bind fun x217 =>
      (rld σ 55 l1).bind fun x219 =>
      if xc2 .ne x217 x219 = true then (
        (rld σ 56 l1).bind fun x222 =>
        (m_logOf l1 x222).bind fun p224 =>
        (rld σ 59 p224).bind fun x226 =>
        m_recoverLog_b702 F  σ x226 l1
      ) else (
        (rld σ 57 l1).bind fun x228 =>
        m_recoverLog_b702 F  σ x228 l1
      )
    ) else (
      m_recoverLog_b585 F KK F σ l1 l7 ((0 : Int32)) ((0 : Int32))
    )
set_option maxRecDepth 4000 in
theorem m_recoverLog_b572_ok {pF : Nat → List Value → xH → Option (Option Value × xH)} {d : Nat} {aR : Nat} {G : Nat → xC} {T : Nat × Nat} {F : Nat} (hp0 : xNP pF)  : ∀ (n : Nat) (lv : xL) (σ : RS) (l1 : Int32) (l7 : Int32), xg lv 0 = some (.ref aR) → xg lv 1 = some (.int l1) → xg lv 7 = some (.int l7) → ∀ res, m_recoverLog_b572 F  n σ l1 l7 = some res → xR pF (d + 3) kT346 16 12 false none none (layR aR res G, T) (572, lv, [], (layR aR σ G, T)) := by
  intro n
  induction n with
  | zero => intro lv σ l1 l7 g0 g1 g7 res h; simp [m_recoverLog_b572] at h
  | succ n hKK =>
    intro lv σ l1 l7 g0 g1 g7 res h
    unfold m_recoverLog_b572 at h
    dsimp only at h
    refine eE_iload lk346_572 g7 ?_
    refine eE_bipush (v := 16) lk346_574 (by decide) ?_
    refine eE_icmp (t := 663) lk346_576 (by decide) (fun c216 => ?_) (fun c216 => ?_)
    · rw [if_pos c216] at h
      refine eE_aload_n lk346_663 g0 ?_
      refine eR_getA lk346_664 rf_132 rfl ?_
      refine eE_iload_n lk346_667 g1 ?_
      obtain ⟨x217, h218, h⟩ := Option.bind_eq_some_iff.mp h
      refine eR_iald lk346_668 rfl rfl h218 ?_
      refine eE_aload_n lk346_669 g0 ?_
      refine eR_getA lk346_670 rf_129 rfl ?_
      refine eE_iload_n lk346_673 g1 ?_
      obtain ⟨x219, h220, h⟩ := Option.bind_eq_some_iff.mp h
      refine eR_iald lk346_674 rfl rfl h220 ?_
      refine eE_icmp (t := 687) lk346_675 (by decide) (fun c221 => ?_) (fun c221 => ?_)
      · rw [if_pos c221] at h
        refine eE_aload_n lk346_687 g0 ?_
        refine eR_getA lk346_688 rf_141 rfl ?_
        refine eE_iload_n lk346_691 g1 ?_
        refine eE_aload_n lk346_692 g0 ?_
        refine eR_getA lk346_693 rf_132 rfl ?_
        refine eE_iload_n lk346_696 g1 ?_
        obtain ⟨x222, h223, h⟩ := Option.bind_eq_some_iff.mp h
        refine eR_iald lk346_697 rfl rfl h223 ?_
        obtain ⟨p224, h225, h⟩ := Option.bind_eq_some_iff.mp h
        refine eE_stat (as := [.int l1, .int x222]) lk346_698 mr_521 na_322 rfl rfl (Nat.le_of_ble_eq_true rfl) mm_322 ws_322 (m_logOf_ok hp0 (d := d + 2) h225) ?_
        obtain ⟨x226, h227, h⟩ := Option.bind_eq_some_iff.mp h
        refine eR_iald lk346_701 rfl rfl h227 ?_
        exact m_recoverLog_b702_ok hp0  lv σ x226 l1 g0 g1 _ h
      · rw [if_neg c221] at h
        refine eE_aload_n lk346_678 g0 ?_
        refine eR_getA lk346_679 rf_135 rfl ?_
        refine eE_iload_n lk346_682 g1 ?_
        obtain ⟨x228, h229, h⟩ := Option.bind_eq_some_iff.mp h
        refine eR_iald lk346_683 rfl rfl h229 ?_
        refine eE_goto (t := 702) lk346_684 (by decide) ?_
        exact m_recoverLog_b702_ok hp0  lv σ x228 l1 g0 g1 _ h
    · rw [if_neg c216] at h
      refine eE_iconst (v := 0) lk346_579 (by decide) ?_
      refine eE_stI (j := 8) lk346_580 (Or.inl rfl) (by decide) (fun vq230 gq231 kq232 => ?_)
      have gq233 := kq232 1 _ (by decide) (fun _ => rfl) g1
      have gq234 := kq232 7 _ (by decide) (fun _ => rfl) g7
      have gq235 := kq232 0 _ (by decide) (fun _ => rfl) g0
      refine eE_iconst (v := 0) lk346_582 (by decide) ?_
      refine eE_stI (j := 9) lk346_583 (Or.inl rfl) (by decide) (fun vq236 gq237 kq238 => ?_)
      have gq239 := kq238 1 _ (by decide) (fun _ => rfl) gq233
      have gq240 := kq238 7 _ (by decide) (fun _ => rfl) gq234
      have gq241 := kq238 0 _ (by decide) (fun _ => rfl) gq235
      have gq242 := kq238 8 _ (by decide) (fun _ => rfl) gq231
      exact m_recoverLog_b585_ok hp0 hKK F vq236 σ l1 l7 ((0 : Int32)) ((0 : Int32)) gq241 gq239 gq240 gq242 gq237 _ h
def m_recoverLog_b569 (F : Nat)  (σ : RS) (l1 : Int32) : Option (RS) :=
  m_recoverLog_b572 F  F σ l1 ((4 : Int32))
set_option maxRecDepth 4000 in
theorem m_recoverLog_b569_ok {pF : Nat → List Value → xH → Option (Option Value × xH)} {d : Nat} {aR : Nat} {G : Nat → xC} {T : Nat × Nat} {F : Nat} (hp0 : xNP pF)  : ∀ (lv : xL) (σ : RS) (l1 : Int32), xg lv 0 = some (.ref aR) → xg lv 1 = some (.int l1) → ∀ res, m_recoverLog_b569 F  σ l1 = some res → xR pF (d + 3) kT346 16 12 false none none (layR aR res G, T) (569, lv, [], (layR aR σ G, T)) := by
  intro lv σ l1 g0 g1 res h
  unfold m_recoverLog_b569 at h
  refine eE_iconst (v := 4) lk346_569 (by decide) ?_
  refine eE_stI (j := 7) lk346_570 (Or.inl rfl) (by decide) (fun vq243 gq244 kq245 => ?_)
  have gq246 := kq245 1 _ (by decide) (fun _ => rfl) g1
  have gq247 := kq245 0 _ (by decide) (fun _ => rfl) g0
  exact m_recoverLog_b572_ok hp0  F vq243 σ l1 ((4 : Int32)) gq247 gq246 gq244 _ h
def m_recoverLog_b552 (F : Nat)  (σ : RS) (l1 : Int32) : Option (RS) :=
  (rst σ 49 l1 (((0 : Int32)))).bind fun σ248 =>
  m_recoverLog_b569 F  σ248 l1
set_option maxRecDepth 4000 in
theorem m_recoverLog_b552_ok {pF : Nat → List Value → xH → Option (Option Value × xH)} {d : Nat} {aR : Nat} {G : Nat → xC} {T : Nat × Nat} {F : Nat} (hp0 : xNP pF)  : ∀ (lv : xL) (σ : RS) (l1 : Int32), xg lv 0 = some (.ref aR) → xg lv 1 = some (.int l1) → ∀ res, m_recoverLog_b552 F  σ l1 = some res → xR pF (d + 3) kT346 16 12 false none none (layR aR res G, T) (552, lv, [], (layR aR σ G, T)) := by
  intro lv σ l1 g0 g1 res h
  unfold m_recoverLog_b552 at h
  refine eE_aload_n lk346_552 g0 ?_
  refine eR_getA lk346_553 rf_111 rfl ?_
  refine eE_iload_n lk346_556 g1 ?_
  refine eE_iconst (v := 0) lk346_557 (by decide) ?_
  obtain ⟨σ248, h249, h⟩ := Option.bind_eq_some_iff.mp h
  refine eR_iast lk346_558 rfl rfl h249 ?_
  refine eE_goto (t := 569) lk346_559 (by decide) ?_
  exact m_recoverLog_b569_ok hp0  lv σ248 l1 g0 g1 _ h
def m_recoverLog_b196 (F : Nat)  : Nat → RS → Int32 → Int32 → Int32 → Int32 → Int32 → Int32 → Option (RS)
  | 0, _, _, _, _, _, _, _ => none
  | n + 1, σ, l1, l2, l3, l4, l5, l6 =>
    let KK := m_recoverLog_b196 F  n
    if xc0 .lt l2 = true then (
      if xc0 .eq l6 = true then (
        m_recoverLog_b552 F  σ l1
      ) else (
        if xc0 .ne l5 = true then (
          (rst σ 56 l1 l3).bind fun σ253 =>
          m_recoverLog_b569 F  σ253 l1
        ) else (
          m_recoverLog_b552 F  σ l1
        )
      )
    ) else (
      (m_fileOf l1 l2).bind fun p255 =>
      (rld σ 49 l1).bind fun x267 =>
      (rst σ 50 ((((12 : Int32)) * l1) + x267) l2).bind fun σ269 =>
      (rld σ269 49 l1).bind fun x271 =>
      (rst σ269 51 ((((12 : Int32)) * l1) + x271) ((l3 + ((1 : Int32))))).bind fun σ273 =>
      (rld σ273 49 l1).bind fun x275 =>
      (rst σ273 49 l1 ((x275 + ((1 : Int32))))).bind fun σ277 =>
      m_recoverLog_b260 F KK F σ277 l1 l3 l4 l5 l6 p255 ((24 : Int32)) l3
    )
set_option maxRecDepth 4000 in
theorem m_recoverLog_b196_ok {pF : Nat → List Value → xH → Option (Option Value × xH)} {d : Nat} {aR : Nat} {G : Nat → xC} {T : Nat × Nat} {F : Nat} (hp0 : xNP pF)  : ∀ (n : Nat) (lv : xL) (σ : RS) (l1 : Int32) (l2 : Int32) (l3 : Int32) (l4 : Int32) (l5 : Int32) (l6 : Int32), xg lv 0 = some (.ref aR) → xg lv 1 = some (.int l1) → xg lv 2 = some (.int l2) → xg lv 3 = some (.int l3) → xg lv 4 = some (.int l4) → xg lv 5 = some (.int l5) → xg lv 6 = some (.int l6) → ∀ res, m_recoverLog_b196 F  n σ l1 l2 l3 l4 l5 l6 = some res → xR pF (d + 3) kT346 16 12 false none none (layR aR res G, T) (196, lv, [], (layR aR σ G, T)) := by
  intro n
  induction n with
  | zero => intro lv σ l1 l2 l3 l4 l5 l6 g0 g1 g2 g3 g4 g5 g6 res h; simp [m_recoverLog_b196] at h
  | succ n hKK =>
    intro lv σ l1 l2 l3 l4 l5 l6 g0 g1 g2 g3 g4 g5 g6 res h
    unfold m_recoverLog_b196 at h
    dsimp only at h
    refine eE_iload_n lk346_196 g2 ?_
    refine eE_if (t := 542) lk346_197 (by decide) (fun c250 => ?_) (fun c250 => ?_)
    · rw [if_pos c250] at h
      refine eE_iload lk346_542 g6 ?_
      refine eE_if (t := 552) lk346_544 (by decide) (fun c251 => ?_) (fun c251 => ?_)
      · rw [if_pos c251] at h
        exact m_recoverLog_b552_ok hp0  lv σ l1 g0 g1 _ h
      · rw [if_neg c251] at h
        refine eE_iload lk346_547 g5 ?_
        refine eE_if (t := 562) lk346_549 (by decide) (fun c252 => ?_) (fun c252 => ?_)
        · rw [if_pos c252] at h
          refine eE_aload_n lk346_562 g0 ?_
          refine eR_getA lk346_563 rf_132 rfl ?_
          refine eE_iload_n lk346_566 g1 ?_
          refine eE_iload_n lk346_567 g3 ?_
          obtain ⟨σ253, h254, h⟩ := Option.bind_eq_some_iff.mp h
          refine eR_iast lk346_568 rfl rfl h254 ?_
          exact m_recoverLog_b569_ok hp0  lv σ253 l1 g0 g1 _ h
        · rw [if_neg c252] at h
          exact m_recoverLog_b552_ok hp0  lv σ l1 g0 g1 _ h
    · rw [if_neg c250] at h
      refine eE_iload_n lk346_200 g1 ?_
      refine eE_iload_n lk346_201 g2 ?_
      obtain ⟨p255, h256, h⟩ := Option.bind_eq_some_iff.mp h
      refine eE_stat (as := [.int l1, .int l2]) lk346_202 mr_492 na_280 rfl rfl (Nat.le_of_ble_eq_true rfl) mm_280 ws_280 (m_fileOf_ok hp0 (d := d + 2) h256) ?_
      refine eE_stI (j := 7) lk346_205 (Or.inl rfl) (by decide) (fun vq257 gq258 kq259 => ?_)
      have gq260 := kq259 1 _ (by decide) (fun _ => rfl) g1
      have gq261 := kq259 2 _ (by decide) (fun _ => rfl) g2
      have gq262 := kq259 3 _ (by decide) (fun _ => rfl) g3
      have gq263 := kq259 4 _ (by decide) (fun _ => rfl) g4
      have gq264 := kq259 5 _ (by decide) (fun _ => rfl) g5
      have gq265 := kq259 6 _ (by decide) (fun _ => rfl) g6
      have gq266 := kq259 0 _ (by decide) (fun _ => rfl) g0
      refine eE_aload_n lk346_207 gq266 ?_
      refine eR_getA lk346_208 rf_114 rfl ?_
      refine eE_bipush (v := 12) lk346_211 (by decide) ?_
      refine eE_iload_n lk346_213 gq260 ?_
      refine eE_imul lk346_214 ?_
      refine eE_aload_n lk346_215 gq266 ?_
      refine eR_getA lk346_216 rf_111 rfl ?_
      refine eE_iload_n lk346_219 gq260 ?_
      obtain ⟨x267, h268, h⟩ := Option.bind_eq_some_iff.mp h
      refine eR_iald lk346_220 rfl rfl h268 ?_
      refine eE_iadd lk346_221 ?_
      refine eE_iload_n lk346_222 gq261 ?_
      obtain ⟨σ269, h270, h⟩ := Option.bind_eq_some_iff.mp h
      refine eR_iast lk346_223 rfl rfl h270 ?_
      refine eE_aload_n lk346_224 gq266 ?_
      refine eR_getA lk346_225 rf_117 rfl ?_
      refine eE_bipush (v := 12) lk346_228 (by decide) ?_
      refine eE_iload_n lk346_230 gq260 ?_
      refine eE_imul lk346_231 ?_
      refine eE_aload_n lk346_232 gq266 ?_
      refine eR_getA lk346_233 rf_111 rfl ?_
      refine eE_iload_n lk346_236 gq260 ?_
      obtain ⟨x271, h272, h⟩ := Option.bind_eq_some_iff.mp h
      refine eR_iald lk346_237 rfl rfl h272 ?_
      refine eE_iadd lk346_238 ?_
      refine eE_iload_n lk346_239 gq262 ?_
      refine eE_iconst (v := 1) lk346_240 (by decide) ?_
      refine eE_iadd lk346_241 ?_
      obtain ⟨σ273, h274, h⟩ := Option.bind_eq_some_iff.mp h
      refine eR_iast lk346_242 rfl rfl h274 ?_
      refine eE_aload_n lk346_243 gq266 ?_
      refine eR_getA lk346_244 rf_111 rfl ?_
      refine eE_iload_n lk346_247 gq260 ?_
      refine eE_dup2 lk346_248 rfl rfl ?_
      obtain ⟨x275, h276, h⟩ := Option.bind_eq_some_iff.mp h
      refine eR_iald lk346_249 rfl rfl h276 ?_
      refine eE_iconst (v := 1) lk346_250 (by decide) ?_
      refine eE_iadd lk346_251 ?_
      obtain ⟨σ277, h278, h⟩ := Option.bind_eq_some_iff.mp h
      refine eR_iast lk346_252 rfl rfl h278 ?_
      refine eE_bipush (v := 24) lk346_253 (by decide) ?_
      refine eE_stI (j := 8) lk346_255 (Or.inl rfl) (by decide) (fun vq279 gq280 kq281 => ?_)
      have gq282 := kq281 1 _ (by decide) (fun _ => rfl) gq260
      have gq283 := kq281 3 _ (by decide) (fun _ => rfl) gq262
      have gq284 := kq281 4 _ (by decide) (fun _ => rfl) gq263
      have gq285 := kq281 5 _ (by decide) (fun _ => rfl) gq264
      have gq286 := kq281 6 _ (by decide) (fun _ => rfl) gq265
      have gq287 := kq281 0 _ (by decide) (fun _ => rfl) gq266
      have gq288 := kq281 7 _ (by decide) (fun _ => rfl) gq258
      refine eE_iload_n lk346_257 gq283 ?_
      refine eE_stI (j := 9) lk346_258 (Or.inl rfl) (by decide) (fun vq289 gq290 kq291 => ?_)
      have gq292 := kq291 1 _ (by decide) (fun _ => rfl) gq282
      have gq293 := kq291 3 _ (by decide) (fun _ => rfl) gq283
      have gq294 := kq291 4 _ (by decide) (fun _ => rfl) gq284
      have gq295 := kq291 5 _ (by decide) (fun _ => rfl) gq285
      have gq296 := kq291 6 _ (by decide) (fun _ => rfl) gq286
      have gq297 := kq291 0 _ (by decide) (fun _ => rfl) gq287
      have gq298 := kq291 7 _ (by decide) (fun _ => rfl) gq288
      have gq299 := kq291 8 _ (by decide) (fun _ => rfl) gq280
      exact m_recoverLog_b260_ok hp0 hKK F vq289 σ277 l1 l3 l4 l5 l6 p255 ((24 : Int32)) l3 gq297 gq292 gq293 gq294 gq295 gq296 gq298 gq299 gq290 _ h
def m_recoverLog_b194 (F : Nat)  (σ : RS) (s0 : Int32) (l1 : Int32) (l2 : Int32) (l3 : Int32) (l4 : Int32) (l5 : Int32) : Option (RS) :=
  m_recoverLog_b196 F  F σ l1 l2 l3 l4 l5 s0
set_option maxRecDepth 4000 in
theorem m_recoverLog_b194_ok {pF : Nat → List Value → xH → Option (Option Value × xH)} {d : Nat} {aR : Nat} {G : Nat → xC} {T : Nat × Nat} {F : Nat} (hp0 : xNP pF)  : ∀ (lv : xL) (σ : RS) (s0 : Int32) (l1 : Int32) (l2 : Int32) (l3 : Int32) (l4 : Int32) (l5 : Int32), xg lv 0 = some (.ref aR) → xg lv 1 = some (.int l1) → xg lv 2 = some (.int l2) → xg lv 3 = some (.int l3) → xg lv 4 = some (.int l4) → xg lv 5 = some (.int l5) → ∀ res, m_recoverLog_b194 F  σ s0 l1 l2 l3 l4 l5 = some res → xR pF (d + 3) kT346 16 12 false none none (layR aR res G, T) (194, lv, [.int s0], (layR aR σ G, T)) := by
  intro lv σ s0 l1 l2 l3 l4 l5 g0 g1 g2 g3 g4 g5 res h
  unfold m_recoverLog_b194 at h
  refine eE_stI (j := 6) lk346_194 (Or.inl rfl) (by decide) (fun vq300 gq301 kq302 => ?_)
  have gq303 := kq302 1 _ (by decide) (fun _ => rfl) g1
  have gq304 := kq302 2 _ (by decide) (fun _ => rfl) g2
  have gq305 := kq302 3 _ (by decide) (fun _ => rfl) g3
  have gq306 := kq302 4 _ (by decide) (fun _ => rfl) g4
  have gq307 := kq302 5 _ (by decide) (fun _ => rfl) g5
  have gq308 := kq302 0 _ (by decide) (fun _ => rfl) g0
  exact m_recoverLog_b196_ok hp0  F vq300 σ l1 l2 l3 l4 l5 s0 gq308 gq303 gq304 gq305 gq306 gq307 gq301 _ h
def m_recoverLog_b193 (F : Nat)  (σ : RS) (l1 : Int32) (l2 : Int32) (l3 : Int32) (l4 : Int32) (l5 : Int32) : Option (RS) :=
  m_recoverLog_b194 F  σ ((0 : Int32)) l1 l2 l3 l4 l5
set_option maxRecDepth 4000 in
theorem m_recoverLog_b193_ok {pF : Nat → List Value → xH → Option (Option Value × xH)} {d : Nat} {aR : Nat} {G : Nat → xC} {T : Nat × Nat} {F : Nat} (hp0 : xNP pF)  : ∀ (lv : xL) (σ : RS) (l1 : Int32) (l2 : Int32) (l3 : Int32) (l4 : Int32) (l5 : Int32), xg lv 0 = some (.ref aR) → xg lv 1 = some (.int l1) → xg lv 2 = some (.int l2) → xg lv 3 = some (.int l3) → xg lv 4 = some (.int l4) → xg lv 5 = some (.int l5) → ∀ res, m_recoverLog_b193 F  σ l1 l2 l3 l4 l5 = some res → xR pF (d + 3) kT346 16 12 false none none (layR aR res G, T) (193, lv, [], (layR aR σ G, T)) := by
  intro lv σ l1 l2 l3 l4 l5 g0 g1 g2 g3 g4 g5 res h
  unfold m_recoverLog_b193 at h
  refine eE_iconst (v := 0) lk346_193 (by decide) ?_
  exact m_recoverLog_b194_ok hp0  lv σ ((0 : Int32)) l1 l2 l3 l4 l5 g0 g1 g2 g3 g4 g5 _ h
def m_recoverLog_b173 (F : Nat)  (σ : RS) (s0 : Int32) (l1 : Int32) (l2 : Int32) (l3 : Int32) (l4 : Int32) : Option (RS) :=
  (rld σ 55 l1).bind fun x317 =>
  if xc2 .ne l3 x317 = true then (
    m_recoverLog_b193 F  σ l1 l2 l3 l4 s0
  ) else (
    if xc0 .lt l2 = true then (
      m_recoverLog_b193 F  σ l1 l2 l3 l4 s0
    ) else (
      m_recoverLog_b194 F  σ ((1 : Int32)) l1 l2 l3 l4 s0
    )
  )
set_option maxRecDepth 4000 in
theorem m_recoverLog_b173_ok {pF : Nat → List Value → xH → Option (Option Value × xH)} {d : Nat} {aR : Nat} {G : Nat → xC} {T : Nat × Nat} {F : Nat} (hp0 : xNP pF)  : ∀ (lv : xL) (σ : RS) (s0 : Int32) (l1 : Int32) (l2 : Int32) (l3 : Int32) (l4 : Int32), xg lv 0 = some (.ref aR) → xg lv 1 = some (.int l1) → xg lv 2 = some (.int l2) → xg lv 3 = some (.int l3) → xg lv 4 = some (.int l4) → ∀ res, m_recoverLog_b173 F  σ s0 l1 l2 l3 l4 = some res → xR pF (d + 3) kT346 16 12 false none none (layR aR res G, T) (173, lv, [.int s0], (layR aR σ G, T)) := by
  intro lv σ s0 l1 l2 l3 l4 g0 g1 g2 g3 g4 res h
  unfold m_recoverLog_b173 at h
  refine eE_stI (j := 5) lk346_173 (Or.inl rfl) (by decide) (fun vq309 gq310 kq311 => ?_)
  have gq312 := kq311 1 _ (by decide) (fun _ => rfl) g1
  have gq313 := kq311 2 _ (by decide) (fun _ => rfl) g2
  have gq314 := kq311 3 _ (by decide) (fun _ => rfl) g3
  have gq315 := kq311 4 _ (by decide) (fun _ => rfl) g4
  have gq316 := kq311 0 _ (by decide) (fun _ => rfl) g0
  refine eE_iload_n lk346_175 gq314 ?_
  refine eE_aload_n lk346_176 gq316 ?_
  refine eR_getA lk346_177 rf_129 rfl ?_
  refine eE_iload_n lk346_180 gq312 ?_
  obtain ⟨x317, h318, h⟩ := Option.bind_eq_some_iff.mp h
  refine eR_iald lk346_181 rfl rfl h318 ?_
  refine eE_icmp (t := 193) lk346_182 (by decide) (fun c319 => ?_) (fun c319 => ?_)
  · rw [if_pos c319] at h
    exact m_recoverLog_b193_ok hp0  vq309 σ l1 l2 l3 l4 s0 gq316 gq312 gq313 gq314 gq315 gq310 _ h
  · rw [if_neg c319] at h
    refine eE_iload_n lk346_185 gq313 ?_
    refine eE_if (t := 193) lk346_186 (by decide) (fun c320 => ?_) (fun c320 => ?_)
    · rw [if_pos c320] at h
      exact m_recoverLog_b193_ok hp0  vq309 σ l1 l2 l3 l4 s0 gq316 gq312 gq313 gq314 gq315 gq310 _ h
    · rw [if_neg c320] at h
      refine eE_iconst (v := 1) lk346_189 (by decide) ?_
      refine eE_goto (t := 194) lk346_190 (by decide) ?_
      exact m_recoverLog_b194_ok hp0  vq309 σ ((1 : Int32)) l1 l2 l3 l4 s0 gq316 gq312 gq313 gq314 gq315 gq310 _ h
def m_recoverLog_b172 (F : Nat)  (σ : RS) (l1 : Int32) (l2 : Int32) (l3 : Int32) (l4 : Int32) : Option (RS) :=
  m_recoverLog_b173 F  σ ((0 : Int32)) l1 l2 l3 l4
set_option maxRecDepth 4000 in
theorem m_recoverLog_b172_ok {pF : Nat → List Value → xH → Option (Option Value × xH)} {d : Nat} {aR : Nat} {G : Nat → xC} {T : Nat × Nat} {F : Nat} (hp0 : xNP pF)  : ∀ (lv : xL) (σ : RS) (l1 : Int32) (l2 : Int32) (l3 : Int32) (l4 : Int32), xg lv 0 = some (.ref aR) → xg lv 1 = some (.int l1) → xg lv 2 = some (.int l2) → xg lv 3 = some (.int l3) → xg lv 4 = some (.int l4) → ∀ res, m_recoverLog_b172 F  σ l1 l2 l3 l4 = some res → xR pF (d + 3) kT346 16 12 false none none (layR aR res G, T) (172, lv, [], (layR aR σ G, T)) := by
  intro lv σ l1 l2 l3 l4 g0 g1 g2 g3 g4 res h
  unfold m_recoverLog_b172 at h
  refine eE_iconst (v := 0) lk346_172 (by decide) ?_
  exact m_recoverLog_b173_ok hp0  lv σ ((0 : Int32)) l1 l2 l3 l4 g0 g1 g2 g3 g4 _ h
def m_recoverLog_b141 (F : Nat)  (σ : RS) (s0 : Int32) (l1 : Int32) (l2 : Int32) (l3 : Int32) : Option (RS) :=
  (rld σ 55 l1).bind fun x328 =>
  if xc2 .ne l3 x328 = true then (
    m_recoverLog_b172 F  σ l1 l2 l3 s0
  ) else (
    if xc0 .lt l2 = true then (
      m_recoverLog_b172 F  σ l1 l2 l3 s0
    ) else (
      (rld σ 57 l1).bind fun x332 =>
      if xc2 .ne s0 x332 = true then (
        m_recoverLog_b172 F  σ l1 l2 l3 s0
      ) else (
        m_recoverLog_b173 F  σ ((1 : Int32)) l1 l2 l3 s0
      )
    )
  )
set_option maxRecDepth 4000 in
theorem m_recoverLog_b141_ok {pF : Nat → List Value → xH → Option (Option Value × xH)} {d : Nat} {aR : Nat} {G : Nat → xC} {T : Nat × Nat} {F : Nat} (hp0 : xNP pF)  : ∀ (lv : xL) (σ : RS) (s0 : Int32) (l1 : Int32) (l2 : Int32) (l3 : Int32), xg lv 0 = some (.ref aR) → xg lv 1 = some (.int l1) → xg lv 2 = some (.int l2) → xg lv 3 = some (.int l3) → ∀ res, m_recoverLog_b141 F  σ s0 l1 l2 l3 = some res → xR pF (d + 3) kT346 16 12 false none none (layR aR res G, T) (141, lv, [.int s0], (layR aR σ G, T)) := by
  intro lv σ s0 l1 l2 l3 g0 g1 g2 g3 res h
  unfold m_recoverLog_b141 at h
  refine eE_stI (j := 4) lk346_141 (Or.inl rfl) (by decide) (fun vq321 gq322 kq323 => ?_)
  have gq324 := kq323 1 _ (by decide) (fun _ => rfl) g1
  have gq325 := kq323 2 _ (by decide) (fun _ => rfl) g2
  have gq326 := kq323 3 _ (by decide) (fun _ => rfl) g3
  have gq327 := kq323 0 _ (by decide) (fun _ => rfl) g0
  refine eE_iload_n lk346_143 gq326 ?_
  refine eE_aload_n lk346_144 gq327 ?_
  refine eR_getA lk346_145 rf_129 rfl ?_
  refine eE_iload_n lk346_148 gq324 ?_
  obtain ⟨x328, h329, h⟩ := Option.bind_eq_some_iff.mp h
  refine eR_iald lk346_149 rfl rfl h329 ?_
  refine eE_icmp (t := 172) lk346_150 (by decide) (fun c330 => ?_) (fun c330 => ?_)
  · rw [if_pos c330] at h
    exact m_recoverLog_b172_ok hp0  vq321 σ l1 l2 l3 s0 gq327 gq324 gq325 gq326 gq322 _ h
  · rw [if_neg c330] at h
    refine eE_iload_n lk346_153 gq325 ?_
    refine eE_if (t := 172) lk346_154 (by decide) (fun c331 => ?_) (fun c331 => ?_)
    · rw [if_pos c331] at h
      exact m_recoverLog_b172_ok hp0  vq321 σ l1 l2 l3 s0 gq327 gq324 gq325 gq326 gq322 _ h
    · rw [if_neg c331] at h
      refine eE_iload lk346_157 gq322 ?_
      refine eE_aload_n lk346_159 gq327 ?_
      refine eR_getA lk346_160 rf_135 rfl ?_
      refine eE_iload_n lk346_163 gq324 ?_
      obtain ⟨x332, h333, h⟩ := Option.bind_eq_some_iff.mp h
      refine eR_iald lk346_164 rfl rfl h333 ?_
      refine eE_icmp (t := 172) lk346_165 (by decide) (fun c334 => ?_) (fun c334 => ?_)
      · rw [if_pos c334] at h
        exact m_recoverLog_b172_ok hp0  vq321 σ l1 l2 l3 s0 gq327 gq324 gq325 gq326 gq322 _ h
      · rw [if_neg c334] at h
        refine eE_iconst (v := 1) lk346_168 (by decide) ?_
        refine eE_goto (t := 173) lk346_169 (by decide) ?_
        exact m_recoverLog_b173_ok hp0  vq321 σ ((1 : Int32)) l1 l2 l3 s0 gq327 gq324 gq325 gq326 gq322 _ h
def m_recoverLog_b121 (F : Nat)  (σ : RS) (s0 : Int32) (l1 : Int32) (l2 : Int32) : Option (RS) :=
  if xc0 .ge l2 = true then (
    (m_fileOf l1 l2).bind fun p342 =>
    (m_readAt σ p342 ((12 : Int32))).bind fun p344 =>
    m_recoverLog_b141 F  p344.2 (p344.1) l1 l2 s0
  ) else (
    m_recoverLog_b141 F  σ ((0 : Int32)) l1 l2 s0
  )
set_option maxRecDepth 4000 in
theorem m_recoverLog_b121_ok {pF : Nat → List Value → xH → Option (Option Value × xH)} {d : Nat} {aR : Nat} {G : Nat → xC} {T : Nat × Nat} {F : Nat} (hp0 : xNP pF)  : ∀ (lv : xL) (σ : RS) (s0 : Int32) (l1 : Int32) (l2 : Int32), xg lv 0 = some (.ref aR) → xg lv 1 = some (.int l1) → xg lv 2 = some (.int l2) → ∀ res, m_recoverLog_b121 F  σ s0 l1 l2 = some res → xR pF (d + 3) kT346 16 12 false none none (layR aR res G, T) (121, lv, [.int s0], (layR aR σ G, T)) := by
  intro lv σ s0 l1 l2 g0 g1 g2 res h
  unfold m_recoverLog_b121 at h
  refine eE_stI (j := 3) lk346_121 (Or.inr ⟨_, rfl, rfl⟩) (by decide) (fun vq335 gq336 kq337 => ?_)
  have gq338 := kq337 1 _ (by decide) (fun _ => rfl) g1
  have gq339 := kq337 2 _ (by decide) (fun _ => rfl) g2
  have gq340 := kq337 0 _ (by decide) (fun _ => rfl) g0
  refine eE_iload_n lk346_122 gq339 ?_
  refine eE_if (t := 130) lk346_123 (by decide) (fun c341 => ?_) (fun c341 => ?_)
  · rw [if_pos c341] at h
    refine eE_aload_n lk346_130 gq340 ?_
    refine eE_iload_n lk346_131 gq338 ?_
    refine eE_iload_n lk346_132 gq339 ?_
    obtain ⟨p342, h343, h⟩ := Option.bind_eq_some_iff.mp h
    refine eE_stat (as := [.int l1, .int l2]) lk346_133 mr_492 na_280 rfl rfl (Nat.le_of_ble_eq_true rfl) mm_280 ws_280 (m_fileOf_ok hp0 (d := d + 2) h343) ?_
    refine eE_bipush (v := 12) lk346_136 (by decide) ?_
    obtain ⟨p344, h345, h⟩ := Option.bind_eq_some_iff.mp h
    refine eR_call (as := [.int p342, .int ((12 : Int32))]) lk346_138 mr_550 na_344 rfl rfl (Nat.le_of_ble_eq_true rfl) wv_344 wc_344 (m_readAt_ok hp0 (d := d + 1) h345) ?_
    exact m_recoverLog_b141_ok hp0  vq335 p344.2 (p344.1) l1 l2 s0 gq340 gq338 gq339 gq336 _ h
  · rw [if_neg c341] at h
    refine eE_iconst (v := 0) lk346_126 (by decide) ?_
    refine eE_goto (t := 141) lk346_127 (by decide) ?_
    exact m_recoverLog_b141_ok hp0  vq335 σ ((0 : Int32)) l1 l2 s0 gq340 gq338 gq339 gq336 _ h
def m_recoverLog_b24 (F : Nat)  : Nat → RS → Int32 → Int32 → Int32 → Option (RS)
  | 0, _, _, _, _ => none
  | n + 1, σ, l1, l2, l3 =>
    let KK := m_recoverLog_b24 F  n
    if xc2 .lt l3 ((4 : Int32)) = true then (
      if xc0 .ge l2 = true then (
        (m_fileOf l1 l2).bind fun p348 =>
        (m_readAt σ p348 ((8 : Int32))).bind fun p350 =>
        m_recoverLog_b121 F  p350.2 (p350.1 - ((1 : Int32))) l1 l2
      ) else (
        m_recoverLog_b121 F  σ ((0 : Int32)) l1 l2
      )
    ) else (
      (m_isSegment σ l1 l3).bind fun p352 =>
      if xc0 .eq p352.1 = true then (
        m_recoverLog_b94 F KK p352.2 l1 l2 l3
      ) else (
        (m_fileOf l1 l3).bind fun p355 =>
        (m_readAt p352.2 p355 ((8 : Int32))).bind fun p357 =>
        (rld p357.2 55 l1).bind fun x359 =>
        if xc2 .le p357.1 (x359 + ((1 : Int32))) = true then (
          if xc0 .lt l2 = true then (
            m_recoverLog_b92 F KK p357.2 l1 l3
          ) else (
            (m_fileOf l1 l3).bind fun p363 =>
            (m_readAt p357.2 p363 ((8 : Int32))).bind fun p365 =>
            (m_fileOf l1 l2).bind fun p367 =>
            (m_readAt p365.2 p367 ((8 : Int32))).bind fun p369 =>
            if xc2 .lt p365.1 p369.1 = true then (
              m_recoverLog_b94 F KK p369.2 l1 l2 l3
            ) else (
              m_recoverLog_b92 F KK p369.2 l1 l3
            )
          )
        ) else (
          m_recoverLog_b94 F KK p357.2 l1 l2 l3
        )
      )
    )
set_option maxRecDepth 4000 in
theorem m_recoverLog_b24_ok {pF : Nat → List Value → xH → Option (Option Value × xH)} {d : Nat} {aR : Nat} {G : Nat → xC} {T : Nat × Nat} {F : Nat} (hp0 : xNP pF)  : ∀ (n : Nat) (lv : xL) (σ : RS) (l1 : Int32) (l2 : Int32) (l3 : Int32), xg lv 0 = some (.ref aR) → xg lv 1 = some (.int l1) → xg lv 2 = some (.int l2) → xg lv 3 = some (.int l3) → ∀ res, m_recoverLog_b24 F  n σ l1 l2 l3 = some res → xR pF (d + 3) kT346 16 12 false none none (layR aR res G, T) (24, lv, [], (layR aR σ G, T)) := by
  intro n
  induction n with
  | zero => intro lv σ l1 l2 l3 g0 g1 g2 g3 res h; simp [m_recoverLog_b24] at h
  | succ n hKK =>
    intro lv σ l1 l2 l3 g0 g1 g2 g3 res h
    unfold m_recoverLog_b24 at h
    dsimp only at h
    refine eE_iload_n lk346_24 g3 ?_
    refine eE_iconst (v := 4) lk346_25 (by decide) ?_
    refine eE_icmp (t := 100) lk346_26 (by decide) (fun c346 => ?_) (fun c346 => ?_)
    · rw [if_pos c346] at h
      refine eE_iload_n lk346_100 g2 ?_
      refine eE_if (t := 108) lk346_101 (by decide) (fun c347 => ?_) (fun c347 => ?_)
      · rw [if_pos c347] at h
        refine eE_aload_n lk346_108 g0 ?_
        refine eE_iload_n lk346_109 g1 ?_
        refine eE_iload_n lk346_110 g2 ?_
        obtain ⟨p348, h349, h⟩ := Option.bind_eq_some_iff.mp h
        refine eE_stat (as := [.int l1, .int l2]) lk346_111 mr_492 na_280 rfl rfl (Nat.le_of_ble_eq_true rfl) mm_280 ws_280 (m_fileOf_ok hp0 (d := d + 2) h349) ?_
        refine eE_bipush (v := 8) lk346_114 (by decide) ?_
        obtain ⟨p350, h351, h⟩ := Option.bind_eq_some_iff.mp h
        refine eR_call (as := [.int p348, .int ((8 : Int32))]) lk346_116 mr_550 na_344 rfl rfl (Nat.le_of_ble_eq_true rfl) wv_344 wc_344 (m_readAt_ok hp0 (d := d + 1) h351) ?_
        refine eE_iconst (v := 1) lk346_119 (by decide) ?_
        refine eE_isub lk346_120 ?_
        exact m_recoverLog_b121_ok hp0  lv p350.2 (p350.1 - ((1 : Int32))) l1 l2 g0 g1 g2 _ h
      · rw [if_neg c347] at h
        refine eE_iconst (v := 0) lk346_104 (by decide) ?_
        refine eE_goto (t := 121) lk346_105 (by decide) ?_
        exact m_recoverLog_b121_ok hp0  lv σ ((0 : Int32)) l1 l2 g0 g1 g2 _ h
    · rw [if_neg c346] at h
      refine eE_aload_n lk346_29 g0 ?_
      refine eE_iload_n lk346_30 g1 ?_
      refine eE_iload_n lk346_31 g3 ?_
      obtain ⟨p352, h353, h⟩ := Option.bind_eq_some_iff.mp h
      refine eR_call (as := [.int l1, .int l3]) lk346_32 mr_547 na_305 rfl rfl (Nat.le_of_ble_eq_true rfl) wv_305 wc_305 (m_isSegment_ok hp0 (d := d + 1) h353) ?_
      refine eE_if (t := 94) lk346_35 (by decide) (fun c354 => ?_) (fun c354 => ?_)
      · rw [if_pos c354] at h
        exact m_recoverLog_b94_ok hp0 hKK lv p352.2 l1 l2 l3 g0 g1 g2 g3 _ h
      · rw [if_neg c354] at h
        refine eE_aload_n lk346_38 g0 ?_
        refine eE_iload_n lk346_39 g1 ?_
        refine eE_iload_n lk346_40 g3 ?_
        obtain ⟨p355, h356, h⟩ := Option.bind_eq_some_iff.mp h
        refine eE_stat (as := [.int l1, .int l3]) lk346_41 mr_492 na_280 rfl rfl (Nat.le_of_ble_eq_true rfl) mm_280 ws_280 (m_fileOf_ok hp0 (d := d + 2) h356) ?_
        refine eE_bipush (v := 8) lk346_44 (by decide) ?_
        obtain ⟨p357, h358, h⟩ := Option.bind_eq_some_iff.mp h
        refine eR_call (as := [.int p355, .int ((8 : Int32))]) lk346_46 mr_550 na_344 rfl rfl (Nat.le_of_ble_eq_true rfl) wv_344 wc_344 (m_readAt_ok hp0 (d := d + 1) h358) ?_
        refine eE_aload_n lk346_49 g0 ?_
        refine eR_getA lk346_50 rf_129 rfl ?_
        refine eE_iload_n lk346_53 g1 ?_
        obtain ⟨x359, h360, h⟩ := Option.bind_eq_some_iff.mp h
        refine eR_iald lk346_54 rfl rfl h360 ?_
        refine eE_iconst (v := 1) lk346_55 (by decide) ?_
        refine eE_iadd lk346_56 ?_
        refine eE_icmp (t := 63) lk346_57 (by decide) (fun c361 => ?_) (fun c361 => ?_)
        · rw [if_pos c361] at h
          refine eE_iload_n lk346_63 g2 ?_
          refine eE_if (t := 92) lk346_64 (by decide) (fun c362 => ?_) (fun c362 => ?_)
          · rw [if_pos c362] at h
            exact m_recoverLog_b92_ok hp0 hKK lv p357.2 l1 l3 g0 g1 g3 _ h
          · rw [if_neg c362] at h
            refine eE_aload_n lk346_67 g0 ?_
            refine eE_iload_n lk346_68 g1 ?_
            refine eE_iload_n lk346_69 g3 ?_
            obtain ⟨p363, h364, h⟩ := Option.bind_eq_some_iff.mp h
            refine eE_stat (as := [.int l1, .int l3]) lk346_70 mr_492 na_280 rfl rfl (Nat.le_of_ble_eq_true rfl) mm_280 ws_280 (m_fileOf_ok hp0 (d := d + 2) h364) ?_
            refine eE_bipush (v := 8) lk346_73 (by decide) ?_
            obtain ⟨p365, h366, h⟩ := Option.bind_eq_some_iff.mp h
            refine eR_call (as := [.int p363, .int ((8 : Int32))]) lk346_75 mr_550 na_344 rfl rfl (Nat.le_of_ble_eq_true rfl) wv_344 wc_344 (m_readAt_ok hp0 (d := d + 1) h366) ?_
            refine eE_aload_n lk346_78 g0 ?_
            refine eE_iload_n lk346_79 g1 ?_
            refine eE_iload_n lk346_80 g2 ?_
            obtain ⟨p367, h368, h⟩ := Option.bind_eq_some_iff.mp h
            refine eE_stat (as := [.int l1, .int l2]) lk346_81 mr_492 na_280 rfl rfl (Nat.le_of_ble_eq_true rfl) mm_280 ws_280 (m_fileOf_ok hp0 (d := d + 2) h368) ?_
            refine eE_bipush (v := 8) lk346_84 (by decide) ?_
            obtain ⟨p369, h370, h⟩ := Option.bind_eq_some_iff.mp h
            refine eR_call (as := [.int p367, .int ((8 : Int32))]) lk346_86 mr_550 na_344 rfl rfl (Nat.le_of_ble_eq_true rfl) wv_344 wc_344 (m_readAt_ok hp0 (d := d + 1) h370) ?_
            refine eE_icmp (t := 94) lk346_89 (by decide) (fun c371 => ?_) (fun c371 => ?_)
            · rw [if_pos c371] at h
              exact m_recoverLog_b94_ok hp0 hKK lv p369.2 l1 l2 l3 g0 g1 g2 g3 _ h
            · rw [if_neg c371] at h
              exact m_recoverLog_b92_ok hp0 hKK lv p369.2 l1 l3 g0 g1 g3 _ h
        · rw [if_neg c361] at h
          refine eE_goto (t := 94) lk346_60 (by decide) ?_
          exact m_recoverLog_b94_ok hp0 hKK lv p357.2 l1 l2 l3 g0 g1 g2 g3 _ h
def m_recoverLog_b0 (F : Nat)  (σ : RS) (l1 : Int32) : Option (RS) :=
  (rst σ 49 l1 (((0 : Int32)))).bind fun σ372 =>
  (rld σ372 55 l1).bind fun x374 =>
  (rst σ372 56 l1 x374).bind fun σ376 =>
  m_recoverLog_b24 F  F σ376 l1 ((-1 : Int32)) ((15 : Int32))
set_option maxRecDepth 4000 in
theorem m_recoverLog_b0_ok {pF : Nat → List Value → xH → Option (Option Value × xH)} {d : Nat} {aR : Nat} {G : Nat → xC} {T : Nat × Nat} {F : Nat} (hp0 : xNP pF)  : ∀ (lv : xL) (σ : RS) (l1 : Int32), xg lv 0 = some (.ref aR) → xg lv 1 = some (.int l1) → ∀ res, m_recoverLog_b0 F  σ l1 = some res → xR pF (d + 3) kT346 16 12 false none none (layR aR res G, T) (0, lv, [], (layR aR σ G, T)) := by
  intro lv σ l1 g0 g1 res h
  unfold m_recoverLog_b0 at h
  refine eE_aload_n lk346_0 g0 ?_
  refine eR_getA lk346_1 rf_111 rfl ?_
  refine eE_iload_n lk346_4 g1 ?_
  refine eE_iconst (v := 0) lk346_5 (by decide) ?_
  obtain ⟨σ372, h373, h⟩ := Option.bind_eq_some_iff.mp h
  refine eR_iast lk346_6 rfl rfl h373 ?_
  refine eE_aload_n lk346_7 g0 ?_
  refine eR_getA lk346_8 rf_132 rfl ?_
  refine eE_iload_n lk346_11 g1 ?_
  refine eE_aload_n lk346_12 g0 ?_
  refine eR_getA lk346_13 rf_129 rfl ?_
  refine eE_iload_n lk346_16 g1 ?_
  obtain ⟨x374, h375, h⟩ := Option.bind_eq_some_iff.mp h
  refine eR_iald lk346_17 rfl rfl h375 ?_
  obtain ⟨σ376, h377, h⟩ := Option.bind_eq_some_iff.mp h
  refine eR_iast lk346_18 rfl rfl h377 ?_
  refine eE_iconst (v := (-1)) lk346_19 (by decide) ?_
  refine eE_stI (j := 2) lk346_20 (Or.inr ⟨_, rfl, rfl⟩) (by decide) (fun vq378 gq379 kq380 => ?_)
  have gq381 := kq380 1 _ (by decide) (fun _ => rfl) g1
  have gq382 := kq380 0 _ (by decide) (fun _ => rfl) g0
  refine eE_bipush (v := 15) lk346_21 (by decide) ?_
  refine eE_stI (j := 3) lk346_23 (Or.inr ⟨_, rfl, rfl⟩) (by decide) (fun vq383 gq384 kq385 => ?_)
  have gq386 := kq385 1 _ (by decide) (fun _ => rfl) gq381
  have gq387 := kq385 0 _ (by decide) (fun _ => rfl) gq382
  have gq388 := kq385 2 _ (by decide) (fun _ => rfl) gq379
  exact m_recoverLog_b24_ok hp0  F vq383 σ376 l1 ((-1 : Int32)) ((15 : Int32)) gq387 gq386 gq388 gq384 _ h
def m_recoverLog (F : Nat) (σ : RS) (l1 : Int32) : Option (RS) := m_recoverLog_b0 F σ l1
theorem m_recoverLog_ok {pF : Nat → List Value → xH → Option (Option Value × xH)} (hp0 : xNP pF) {d : Nat} {aR : Nat} {G : Nat → xC} {T : Nat × Nat} {σ : RS} {F : Nat} {l1 : Int32} {res : RS} (h : m_recoverLog F σ l1 = some res) : xCo pF (d + 4) 346 [.ref aR, .int l1] (layR aR σ G, T) none (layR aR res G, T) := by
  unfold m_recoverLog at h
  exact xCo_R kk_346 mo_346 ni_346 xm_346 (Nat.le_of_ble_eq_true rfl) (hp0 _ (by decide) (by decide) _ _) (m_recoverLog_b0_ok hp0 _ σ l1 rfl rfl _ h)
/-! recover (345), depth 5 -/
def m_recover_b425 (F : Nat) (K220 : RS → Int32 → Int32 → Option (RS)) (σ : RS) (l1 : Int32) (l7 : Int32) : Option (RS) :=
  K220 σ l1 (l7 + (1 : Int32))
set_option maxRecDepth 4000 in
theorem m_recover_b425_ok {pF : Nat → List Value → xH → Option (Option Value × xH)} {d : Nat} {aR : Nat} {G : Nat → xC} {T : Nat × Nat} {F : Nat} {K220 : RS → Int32 → Int32 → Option (RS)} (hp0 : xNP pF) (hK220 : ∀ (lv : xL) (σ : RS) (l1 : Int32) (l7 : Int32), xg lv 0 = some (.ref aR) → xg lv 1 = some (.int l1) → xg lv 7 = some (.int l7) → ∀ res, K220 σ l1 l7 = some res → xR pF (d + 4) kT345 16 11 false none none (layR aR res G, T) (220, lv, [], (layR aR σ G, T))) : ∀ (lv : xL) (σ : RS) (l1 : Int32) (l7 : Int32), xg lv 0 = some (.ref aR) → xg lv 1 = some (.int l1) → xg lv 7 = some (.int l7) → ∀ res, m_recover_b425 F K220 σ l1 l7 = some res → xR pF (d + 4) kT345 16 11 false none none (layR aR res G, T) (425, lv, [], (layR aR σ G, T)) := by
  intro lv σ l1 l7 g0 g1 g7 res h
  unfold m_recover_b425 at h
  refine eE_inc (j := 7) (v := l7 + (1 : Int32)) lk345_425 g7 rfl (by decide) (fun vq1 gq2 kq3 => ?_)
  have gq4 := kq3 1 _ (by decide) (fun _ => rfl) g1
  have gq5 := kq3 0 _ (by decide) (fun _ => rfl) g0
  refine eE_goto (t := 220) lk345_428 (by decide) ?_
  exact hK220 vq1 σ l1 (l7 + (1 : Int32)) gq5 gq4 gq2 _ h
def m_recover_b379 (F : Nat) (K220 : RS → Int32 → Int32 → Option (RS)) : Nat → RS → Int32 → Int32 → Int32 → Int32 → Option (RS)
  | 0, _, _, _, _, _ => none
  | n + 1, σ, l1, l7, l8, l10 =>
    let KK := m_recover_b379 F K220 n
    (rld σ 67 l1).bind fun x6 =>
    if xc2 .ge l10 x6 = true then (
      m_recover_b425 F K220 σ l1 l7
    ) else (
      (m_onDisk σ (((((14000 : Int32)) * l8) + ((20 : Int32))) + l10)).bind fun p9 =>
      (rst p9.2 66 ((((14000 : Int32)) * l1) + l10) (p9.1.toInt8.toInt32)).bind fun σ11 =>
      KK σ11 l1 l7 l8 (l10 + (1 : Int32))
    )
set_option maxRecDepth 4000 in
theorem m_recover_b379_ok {pF : Nat → List Value → xH → Option (Option Value × xH)} {d : Nat} {aR : Nat} {G : Nat → xC} {T : Nat × Nat} {F : Nat} {K220 : RS → Int32 → Int32 → Option (RS)} (hp0 : xNP pF) (hK220 : ∀ (lv : xL) (σ : RS) (l1 : Int32) (l7 : Int32), xg lv 0 = some (.ref aR) → xg lv 1 = some (.int l1) → xg lv 7 = some (.int l7) → ∀ res, K220 σ l1 l7 = some res → xR pF (d + 4) kT345 16 11 false none none (layR aR res G, T) (220, lv, [], (layR aR σ G, T))) : ∀ (n : Nat) (lv : xL) (σ : RS) (l1 : Int32) (l7 : Int32) (l8 : Int32) (l10 : Int32), xg lv 0 = some (.ref aR) → xg lv 1 = some (.int l1) → xg lv 7 = some (.int l7) → xg lv 8 = some (.int l8) → xg lv 10 = some (.int l10) → ∀ res, m_recover_b379 F K220 n σ l1 l7 l8 l10 = some res → xR pF (d + 4) kT345 16 11 false none none (layR aR res G, T) (379, lv, [], (layR aR σ G, T)) := by
  intro n
  induction n with
  | zero => intro lv σ l1 l7 l8 l10 g0 g1 g7 g8 g10 res h; simp [m_recover_b379] at h
  | succ n hKK =>
    intro lv σ l1 l7 l8 l10 g0 g1 g7 g8 g10 res h
    unfold m_recover_b379 at h
    dsimp only at h
    refine eE_iload lk345_379 g10 ?_
    refine eE_aload_n lk345_381 g0 ?_
    refine eR_getA lk345_382 rf_167 rfl ?_
    refine eE_iload_n lk345_385 g1 ?_
    obtain ⟨x6, h7, h⟩ := Option.bind_eq_some_iff.mp h
    refine eR_iald lk345_386 rfl rfl h7 ?_
    refine eE_icmp (t := 425) lk345_387 (by decide) (fun c8 => ?_) (fun c8 => ?_)
    · rw [if_pos c8] at h
      exact m_recover_b425_ok hp0 hK220 lv σ l1 l7 g0 g1 g7 _ h
    · rw [if_neg c8] at h
      refine eE_aload_n lk345_390 g0 ?_
      refine eR_getA lk345_391 rf_164 rfl ?_
      refine eE_sipush (v := 14000) lk345_394 (by decide) ?_
      refine eE_iload_n lk345_397 g1 ?_
      refine eE_imul lk345_398 ?_
      refine eE_iload lk345_399 g10 ?_
      refine eE_iadd lk345_401 ?_
      refine eE_aload_n lk345_402 g0 ?_
      refine eE_sipush (v := 14000) lk345_403 (by decide) ?_
      refine eE_iload lk345_406 g8 ?_
      refine eE_imul lk345_408 ?_
      refine eE_bipush (v := 20) lk345_409 (by decide) ?_
      refine eE_iadd lk345_411 ?_
      refine eE_iload lk345_412 g10 ?_
      refine eE_iadd lk345_414 ?_
      obtain ⟨p9, h10, h⟩ := Option.bind_eq_some_iff.mp h
      refine eR_call (as := [.int (((((14000 : Int32)) * l8) + ((20 : Int32))) + l10)]) lk345_415 mr_517 na_331 rfl rfl (Nat.le_of_ble_eq_true rfl) wv_331 wc_331 (m_onDisk_ok hp0 (d := d + 3) h10) ?_
      obtain ⟨σ11, h12, h⟩ := Option.bind_eq_some_iff.mp h
      refine eR_bast lk345_418 rfl rfl rfl h12 ?_
      refine eE_inc (j := 10) (v := l10 + (1 : Int32)) lk345_419 g10 rfl (by decide) (fun vq13 gq14 kq15 => ?_)
      have gq16 := kq15 1 _ (by decide) (fun _ => rfl) g1
      have gq17 := kq15 7 _ (by decide) (fun _ => rfl) g7
      have gq18 := kq15 8 _ (by decide) (fun _ => rfl) g8
      have gq19 := kq15 0 _ (by decide) (fun _ => rfl) g0
      refine eE_goto (t := 379) lk345_422 (by decide) ?_
      exact hKK vq13 σ11 l1 l7 l8 (l10 + (1 : Int32)) gq19 gq16 gq17 gq18 gq14 _ h
def m_recover_b316 (F : Nat) (K220 : RS → Int32 → Int32 → Option (RS)) (σ : RS) (l1 : Int32) (l7 : Int32) (l8 : Int32) : Option (RS) :=
  (rst σ 47 l1 l7).bind fun σ20 =>
  (rld σ20 39 l8).bind fun x22 =>
  (rst σ20 55 l1 x22).bind fun σ24 =>
  (rld σ24 40 l8).bind fun x26 =>
  (rst σ24 57 l1 x26).bind fun σ28 =>
  (rld σ28 41 l8).bind fun x30 =>
  (rst σ28 58 l1 x30).bind fun σ32 =>
  (rld σ32 42 l8).bind fun x34 =>
  (rst σ32 67 l1 x34).bind fun σ36 =>
  m_recover_b379 F K220 F σ36 l1 l7 l8 ((0 : Int32))
set_option maxRecDepth 4000 in
theorem m_recover_b316_ok {pF : Nat → List Value → xH → Option (Option Value × xH)} {d : Nat} {aR : Nat} {G : Nat → xC} {T : Nat × Nat} {F : Nat} {K220 : RS → Int32 → Int32 → Option (RS)} (hp0 : xNP pF) (hK220 : ∀ (lv : xL) (σ : RS) (l1 : Int32) (l7 : Int32), xg lv 0 = some (.ref aR) → xg lv 1 = some (.int l1) → xg lv 7 = some (.int l7) → ∀ res, K220 σ l1 l7 = some res → xR pF (d + 4) kT345 16 11 false none none (layR aR res G, T) (220, lv, [], (layR aR σ G, T))) : ∀ (lv : xL) (σ : RS) (l1 : Int32) (l7 : Int32) (l8 : Int32), xg lv 0 = some (.ref aR) → xg lv 1 = some (.int l1) → xg lv 7 = some (.int l7) → xg lv 8 = some (.int l8) → ∀ res, m_recover_b316 F K220 σ l1 l7 l8 = some res → xR pF (d + 4) kT345 16 11 false none none (layR aR res G, T) (316, lv, [], (layR aR σ G, T)) := by
  intro lv σ l1 l7 l8 g0 g1 g7 g8 res h
  unfold m_recover_b316 at h
  refine eE_aload_n lk345_316 g0 ?_
  refine eR_getA lk345_317 rf_108 rfl ?_
  refine eE_iload_n lk345_320 g1 ?_
  refine eE_iload lk345_321 g7 ?_
  obtain ⟨σ20, h21, h⟩ := Option.bind_eq_some_iff.mp h
  refine eR_iast lk345_323 rfl rfl h21 ?_
  refine eE_aload_n lk345_324 g0 ?_
  refine eR_getA lk345_325 rf_129 rfl ?_
  refine eE_iload_n lk345_328 g1 ?_
  refine eE_aload_n lk345_329 g0 ?_
  refine eR_getA lk345_330 rf_84 rfl ?_
  refine eE_iload lk345_333 g8 ?_
  obtain ⟨x22, h23, h⟩ := Option.bind_eq_some_iff.mp h
  refine eR_iald lk345_335 rfl rfl h23 ?_
  obtain ⟨σ24, h25, h⟩ := Option.bind_eq_some_iff.mp h
  refine eR_iast lk345_336 rfl rfl h25 ?_
  refine eE_aload_n lk345_337 g0 ?_
  refine eR_getA lk345_338 rf_135 rfl ?_
  refine eE_iload_n lk345_341 g1 ?_
  refine eE_aload_n lk345_342 g0 ?_
  refine eR_getA lk345_343 rf_87 rfl ?_
  refine eE_iload lk345_346 g8 ?_
  obtain ⟨x26, h27, h⟩ := Option.bind_eq_some_iff.mp h
  refine eR_iald lk345_348 rfl rfl h27 ?_
  obtain ⟨σ28, h29, h⟩ := Option.bind_eq_some_iff.mp h
  refine eR_iast lk345_349 rfl rfl h29 ?_
  refine eE_aload_n lk345_350 g0 ?_
  refine eR_getA lk345_351 rf_138 rfl ?_
  refine eE_iload_n lk345_354 g1 ?_
  refine eE_aload_n lk345_355 g0 ?_
  refine eR_getA lk345_356 rf_90 rfl ?_
  refine eE_iload lk345_359 g8 ?_
  obtain ⟨x30, h31, h⟩ := Option.bind_eq_some_iff.mp h
  refine eR_iald lk345_361 rfl rfl h31 ?_
  obtain ⟨σ32, h33, h⟩ := Option.bind_eq_some_iff.mp h
  refine eR_iast lk345_362 rfl rfl h33 ?_
  refine eE_aload_n lk345_363 g0 ?_
  refine eR_getA lk345_364 rf_167 rfl ?_
  refine eE_iload_n lk345_367 g1 ?_
  refine eE_aload_n lk345_368 g0 ?_
  refine eR_getA lk345_369 rf_93 rfl ?_
  refine eE_iload lk345_372 g8 ?_
  obtain ⟨x34, h35, h⟩ := Option.bind_eq_some_iff.mp h
  refine eR_iald lk345_374 rfl rfl h35 ?_
  obtain ⟨σ36, h37, h⟩ := Option.bind_eq_some_iff.mp h
  refine eR_iast lk345_375 rfl rfl h37 ?_
  refine eE_iconst (v := 0) lk345_376 (by decide) ?_
  refine eE_stI (j := 10) lk345_377 (Or.inl rfl) (by decide) (fun vq38 gq39 kq40 => ?_)
  have gq41 := kq40 1 _ (by decide) (fun _ => rfl) g1
  have gq42 := kq40 7 _ (by decide) (fun _ => rfl) g7
  have gq43 := kq40 8 _ (by decide) (fun _ => rfl) g8
  have gq44 := kq40 0 _ (by decide) (fun _ => rfl) g0
  exact m_recover_b379_ok hp0 hK220 F vq38 σ36 l1 l7 l8 ((0 : Int32)) gq44 gq41 gq42 gq43 gq39 _ h
def m_recover_b281 (F : Nat) (K220 : RS → Int32 → Int32 → Option (RS)) (σ : RS) (s0 : Int32) (l1 : Int32) (l7 : Int32) (l8 : Int32) : Option (RS) :=
  if xc0 .eq s0 = true then (
    m_recover_b425 F K220 σ l1 l7
  ) else (
    (rld σ 47 l1).bind fun x53 =>
    if xc0 .lt x53 = true then (
      m_recover_b316 F K220 σ l1 l7 l8
    ) else (
      (rld σ 39 l8).bind fun x56 =>
      (rld σ 55 l1).bind fun x58 =>
      if xc2 .gt x56 x58 = true then (
        m_recover_b316 F K220 σ l1 l7 l8
      ) else (
        m_recover_b425 F K220 σ l1 l7
      )
    )
  )
set_option maxRecDepth 4000 in
theorem m_recover_b281_ok {pF : Nat → List Value → xH → Option (Option Value × xH)} {d : Nat} {aR : Nat} {G : Nat → xC} {T : Nat × Nat} {F : Nat} {K220 : RS → Int32 → Int32 → Option (RS)} (hp0 : xNP pF) (hK220 : ∀ (lv : xL) (σ : RS) (l1 : Int32) (l7 : Int32), xg lv 0 = some (.ref aR) → xg lv 1 = some (.int l1) → xg lv 7 = some (.int l7) → ∀ res, K220 σ l1 l7 = some res → xR pF (d + 4) kT345 16 11 false none none (layR aR res G, T) (220, lv, [], (layR aR σ G, T))) : ∀ (lv : xL) (σ : RS) (s0 : Int32) (l1 : Int32) (l7 : Int32) (l8 : Int32), xg lv 0 = some (.ref aR) → xg lv 1 = some (.int l1) → xg lv 7 = some (.int l7) → xg lv 8 = some (.int l8) → ∀ res, m_recover_b281 F K220 σ s0 l1 l7 l8 = some res → xR pF (d + 4) kT345 16 11 false none none (layR aR res G, T) (281, lv, [.int s0], (layR aR σ G, T)) := by
  intro lv σ s0 l1 l7 l8 g0 g1 g7 g8 res h
  unfold m_recover_b281 at h
  refine eE_stI (j := 9) lk345_281 (Or.inl rfl) (by decide) (fun vq45 gq46 kq47 => ?_)
  have gq48 := kq47 1 _ (by decide) (fun _ => rfl) g1
  have gq49 := kq47 7 _ (by decide) (fun _ => rfl) g7
  have gq50 := kq47 8 _ (by decide) (fun _ => rfl) g8
  have gq51 := kq47 0 _ (by decide) (fun _ => rfl) g0
  refine eE_iload lk345_283 gq46 ?_
  refine eE_if (t := 425) lk345_285 (by decide) (fun c52 => ?_) (fun c52 => ?_)
  · rw [if_pos c52] at h
    exact m_recover_b425_ok hp0 hK220 vq45 σ l1 l7 gq51 gq48 gq49 _ h
  · rw [if_neg c52] at h
    refine eE_aload_n lk345_288 gq51 ?_
    refine eR_getA lk345_289 rf_108 rfl ?_
    refine eE_iload_n lk345_292 gq48 ?_
    obtain ⟨x53, h54, h⟩ := Option.bind_eq_some_iff.mp h
    refine eR_iald lk345_293 rfl rfl h54 ?_
    refine eE_if (t := 316) lk345_294 (by decide) (fun c55 => ?_) (fun c55 => ?_)
    · rw [if_pos c55] at h
      exact m_recover_b316_ok hp0 hK220 vq45 σ l1 l7 l8 gq51 gq48 gq49 gq50 _ h
    · rw [if_neg c55] at h
      refine eE_aload_n lk345_297 gq51 ?_
      refine eR_getA lk345_298 rf_84 rfl ?_
      refine eE_iload lk345_301 gq50 ?_
      obtain ⟨x56, h57, h⟩ := Option.bind_eq_some_iff.mp h
      refine eR_iald lk345_303 rfl rfl h57 ?_
      refine eE_aload_n lk345_304 gq51 ?_
      refine eR_getA lk345_305 rf_129 rfl ?_
      refine eE_iload_n lk345_308 gq48 ?_
      obtain ⟨x58, h59, h⟩ := Option.bind_eq_some_iff.mp h
      refine eR_iald lk345_309 rfl rfl h59 ?_
      refine eE_icmp (t := 316) lk345_310 (by decide) (fun c60 => ?_) (fun c60 => ?_)
      · rw [if_pos c60] at h
        exact m_recover_b316_ok hp0 hK220 vq45 σ l1 l7 l8 gq51 gq48 gq49 gq50 _ h
      · rw [if_neg c60] at h
        refine eE_goto (t := 425) lk345_313 (by decide) ?_
        exact m_recover_b425_ok hp0 hK220 vq45 σ l1 l7 gq51 gq48 gq49 _ h
def m_recover_b280 (F : Nat) (K220 : RS → Int32 → Int32 → Option (RS)) (σ : RS) (l1 : Int32) (l7 : Int32) (l8 : Int32) : Option (RS) :=
  m_recover_b281 F K220 σ ((0 : Int32)) l1 l7 l8
set_option maxRecDepth 4000 in
theorem m_recover_b280_ok {pF : Nat → List Value → xH → Option (Option Value × xH)} {d : Nat} {aR : Nat} {G : Nat → xC} {T : Nat × Nat} {F : Nat} {K220 : RS → Int32 → Int32 → Option (RS)} (hp0 : xNP pF) (hK220 : ∀ (lv : xL) (σ : RS) (l1 : Int32) (l7 : Int32), xg lv 0 = some (.ref aR) → xg lv 1 = some (.int l1) → xg lv 7 = some (.int l7) → ∀ res, K220 σ l1 l7 = some res → xR pF (d + 4) kT345 16 11 false none none (layR aR res G, T) (220, lv, [], (layR aR σ G, T))) : ∀ (lv : xL) (σ : RS) (l1 : Int32) (l7 : Int32) (l8 : Int32), xg lv 0 = some (.ref aR) → xg lv 1 = some (.int l1) → xg lv 7 = some (.int l7) → xg lv 8 = some (.int l8) → ∀ res, m_recover_b280 F K220 σ l1 l7 l8 = some res → xR pF (d + 4) kT345 16 11 false none none (layR aR res G, T) (280, lv, [], (layR aR σ G, T)) := by
  intro lv σ l1 l7 l8 g0 g1 g7 g8 res h
  unfold m_recover_b280 at h
  refine eE_iconst (v := 0) lk345_280 (by decide) ?_
  exact m_recover_b281_ok hp0 hK220 lv σ ((0 : Int32)) l1 l7 l8 g0 g1 g7 g8 _ h
def m_recover_b220 (F : Nat)  : Nat → RS → Int32 → Int32 → Option (RS)
  | 0, _, _, _ => none
  | n + 1, σ, l1, l7 =>
    let KK := m_recover_b220 F  n
    if xc2 .ge l7 ((4 : Int32)) = true then (
      (m_recoverLog F σ l1).bind fun p62 =>
      (m_findCode F p62 l1).bind fun p64 =>
      some p64
    ) else (
      (m_fileOf l1 l7).bind fun p66 =>
      (rld σ 38 p66).bind fun x74 =>
      if xc0 .eq x74 = true then (
        m_recover_b280 F KK σ l1 l7 p66
      ) else (
        (rld σ 37 p66).bind fun x77 =>
        if xc2 .lt x77 ((20 : Int32)) = true then (
          m_recover_b280 F KK σ l1 l7 p66
        ) else (
          (rld σ 37 p66).bind fun x80 =>
          (rld σ 42 p66).bind fun x82 =>
          if xc2 .lt x80 (((20 : Int32)) + x82) = true then (
            m_recover_b280 F KK σ l1 l7 p66
          ) else (
            m_recover_b281 F KK σ ((1 : Int32)) l1 l7 p66
          )
        )
      )
    )
set_option maxRecDepth 4000 in
theorem m_recover_b220_ok {pF : Nat → List Value → xH → Option (Option Value × xH)} {d : Nat} {aR : Nat} {G : Nat → xC} {T : Nat × Nat} {F : Nat} (hp0 : xNP pF)  : ∀ (n : Nat) (lv : xL) (σ : RS) (l1 : Int32) (l7 : Int32), xg lv 0 = some (.ref aR) → xg lv 1 = some (.int l1) → xg lv 7 = some (.int l7) → ∀ res, m_recover_b220 F  n σ l1 l7 = some res → xR pF (d + 4) kT345 16 11 false none none (layR aR res G, T) (220, lv, [], (layR aR σ G, T)) := by
  intro n
  induction n with
  | zero => intro lv σ l1 l7 g0 g1 g7 res h; simp [m_recover_b220] at h
  | succ n hKK =>
    intro lv σ l1 l7 g0 g1 g7 res h
    unfold m_recover_b220 at h
    dsimp only at h
    refine eE_iload lk345_220 g7 ?_
    refine eE_iconst (v := 4) lk345_222 (by decide) ?_
    refine eE_icmp (t := 431) lk345_223 (by decide) (fun c61 => ?_) (fun c61 => ?_)
    · rw [if_pos c61] at h
      refine eE_aload_n lk345_431 g0 ?_
      refine eE_iload_n lk345_432 g1 ?_
      obtain ⟨p62, h63, h⟩ := Option.bind_eq_some_iff.mp h
      refine eR_call (as := [.int l1]) lk345_433 mr_544 na_346 rfl rfl (Nat.le_of_ble_eq_true rfl) wv_346 wc_346 (m_recoverLog_ok hp0 (d := d + 0) h63) ?_
      refine eE_aload_n lk345_436 g0 ?_
      refine eE_iload_n lk345_437 g1 ?_
      obtain ⟨p64, h65, h⟩ := Option.bind_eq_some_iff.mp h
      refine eR_call (as := [.int l1]) lk345_438 mr_533 na_282 rfl rfl (Nat.le_of_ble_eq_true rfl) wv_282 wc_282 (m_findCode_ok hp0 (d := d + 1) h65) ?_
      cases h
      exact eE_end lk345_441 rfl rfl rfl
    · rw [if_neg c61] at h
      refine eE_iload_n lk345_226 g1 ?_
      refine eE_iload lk345_227 g7 ?_
      obtain ⟨p66, h67, h⟩ := Option.bind_eq_some_iff.mp h
      refine eE_stat (as := [.int l1, .int l7]) lk345_229 mr_492 na_280 rfl rfl (Nat.le_of_ble_eq_true rfl) mm_280 ws_280 (m_fileOf_ok hp0 (d := d + 3) h67) ?_
      refine eE_stI (j := 8) lk345_232 (Or.inl rfl) (by decide) (fun vq68 gq69 kq70 => ?_)
      have gq71 := kq70 1 _ (by decide) (fun _ => rfl) g1
      have gq72 := kq70 7 _ (by decide) (fun _ => rfl) g7
      have gq73 := kq70 0 _ (by decide) (fun _ => rfl) g0
      refine eE_aload_n lk345_234 gq73 ?_
      refine eR_getA lk345_235 rf_81 rfl ?_
      refine eE_iload lk345_238 gq69 ?_
      obtain ⟨x74, h75, h⟩ := Option.bind_eq_some_iff.mp h
      refine eR_bald lk345_240 rfl (Or.inr rfl) h75 ?_
      refine eE_if (t := 280) lk345_241 (by decide) (fun c76 => ?_) (fun c76 => ?_)
      · rw [if_pos c76] at h
        exact m_recover_b280_ok hp0 hKK vq68 σ l1 l7 p66 gq73 gq71 gq72 gq69 _ h
      · rw [if_neg c76] at h
        refine eE_aload_n lk345_244 gq73 ?_
        refine eR_getA lk345_245 rf_78 rfl ?_
        refine eE_iload lk345_248 gq69 ?_
        obtain ⟨x77, h78, h⟩ := Option.bind_eq_some_iff.mp h
        refine eR_iald lk345_250 rfl rfl h78 ?_
        refine eE_bipush (v := 20) lk345_251 (by decide) ?_
        refine eE_icmp (t := 280) lk345_253 (by decide) (fun c79 => ?_) (fun c79 => ?_)
        · rw [if_pos c79] at h
          exact m_recover_b280_ok hp0 hKK vq68 σ l1 l7 p66 gq73 gq71 gq72 gq69 _ h
        · rw [if_neg c79] at h
          refine eE_aload_n lk345_256 gq73 ?_
          refine eR_getA lk345_257 rf_78 rfl ?_
          refine eE_iload lk345_260 gq69 ?_
          obtain ⟨x80, h81, h⟩ := Option.bind_eq_some_iff.mp h
          refine eR_iald lk345_262 rfl rfl h81 ?_
          refine eE_bipush (v := 20) lk345_263 (by decide) ?_
          refine eE_aload_n lk345_265 gq73 ?_
          refine eR_getA lk345_266 rf_93 rfl ?_
          refine eE_iload lk345_269 gq69 ?_
          obtain ⟨x82, h83, h⟩ := Option.bind_eq_some_iff.mp h
          refine eR_iald lk345_271 rfl rfl h83 ?_
          refine eE_iadd lk345_272 ?_
          refine eE_icmp (t := 280) lk345_273 (by decide) (fun c84 => ?_) (fun c84 => ?_)
          · rw [if_pos c84] at h
            exact m_recover_b280_ok hp0 hKK vq68 σ l1 l7 p66 gq73 gq71 gq72 gq69 _ h
          · rw [if_neg c84] at h
            refine eE_iconst (v := 1) lk345_276 (by decide) ?_
            refine eE_goto (t := 281) lk345_277 (by decide) ?_
            exact m_recover_b281_ok hp0 hKK vq68 σ ((1 : Int32)) l1 l7 p66 gq73 gq71 gq72 gq69 _ h
def m_recover_b178 (F : Nat)  (σ : RS) (s1 : Int32) (s2 : Int32) (l1 : Int32) : Option (RS) :=
  (rst σ 54 s1 s2).bind fun σ85 =>
  (rst σ85 47 l1 (((-1 : Int32)))).bind fun σ87 =>
  (rst σ87 55 l1 (((0 : Int32)))).bind fun σ89 =>
  (rst σ89 57 l1 (((0 : Int32)))).bind fun σ91 =>
  (rst σ91 58 l1 ((σ91.1 145 0))).bind fun σ93 =>
  (rst σ93 67 l1 (((0 : Int32)))).bind fun σ95 =>
  m_recover_b220 F  F σ95 l1 ((2 : Int32))
set_option maxRecDepth 4000 in
theorem m_recover_b178_ok {pF : Nat → List Value → xH → Option (Option Value × xH)} {d : Nat} {aR : Nat} {G : Nat → xC} {T : Nat × Nat} {F : Nat} (hp0 : xNP pF)  : ∀ (lv : xL) (σ : RS) (s1 : Int32) (s2 : Int32) (l1 : Int32), xg lv 0 = some (.ref aR) → xg lv 1 = some (.int l1) → ∀ res, m_recover_b178 F  σ s1 s2 l1 = some res → xR pF (d + 4) kT345 16 11 false none none (layR aR res G, T) (178, lv, [.int s2, .int s1, .ref (aR + rpos 54)], (layR aR σ G, T)) := by
  intro lv σ s1 s2 l1 g0 g1 res h
  unfold m_recover_b178 at h
  obtain ⟨σ85, h86, h⟩ := Option.bind_eq_some_iff.mp h
  refine eR_iast lk345_178 rfl rfl h86 ?_
  refine eE_aload_n lk345_179 g0 ?_
  refine eR_getA lk345_180 rf_108 rfl ?_
  refine eE_iload_n lk345_183 g1 ?_
  refine eE_iconst (v := (-1)) lk345_184 (by decide) ?_
  obtain ⟨σ87, h88, h⟩ := Option.bind_eq_some_iff.mp h
  refine eR_iast lk345_185 rfl rfl h88 ?_
  refine eE_aload_n lk345_186 g0 ?_
  refine eR_getA lk345_187 rf_129 rfl ?_
  refine eE_iload_n lk345_190 g1 ?_
  refine eE_iconst (v := 0) lk345_191 (by decide) ?_
  obtain ⟨σ89, h90, h⟩ := Option.bind_eq_some_iff.mp h
  refine eR_iast lk345_192 rfl rfl h90 ?_
  refine eE_aload_n lk345_193 g0 ?_
  refine eR_getA lk345_194 rf_135 rfl ?_
  refine eE_iload_n lk345_197 g1 ?_
  refine eE_iconst (v := 0) lk345_198 (by decide) ?_
  obtain ⟨σ91, h92, h⟩ := Option.bind_eq_some_iff.mp h
  refine eR_iast lk345_199 rfl rfl h92 ?_
  refine eE_aload_n lk345_200 g0 ?_
  refine eR_getA lk345_201 rf_138 rfl ?_
  refine eE_iload_n lk345_204 g1 ?_
  refine eE_aload_n lk345_205 g0 ?_
  refine eR_get lk345_206 rf_384 rfl ?_
  obtain ⟨σ93, h94, h⟩ := Option.bind_eq_some_iff.mp h
  refine eR_iast lk345_209 rfl rfl h94 ?_
  refine eE_aload_n lk345_210 g0 ?_
  refine eR_getA lk345_211 rf_167 rfl ?_
  refine eE_iload_n lk345_214 g1 ?_
  refine eE_iconst (v := 0) lk345_215 (by decide) ?_
  obtain ⟨σ95, h96, h⟩ := Option.bind_eq_some_iff.mp h
  refine eR_iast lk345_216 rfl rfl h96 ?_
  refine eE_iconst (v := 2) lk345_217 (by decide) ?_
  refine eE_stI (j := 7) lk345_218 (Or.inl rfl) (by decide) (fun vq97 gq98 kq99 => ?_)
  have gq100 := kq99 1 _ (by decide) (fun _ => rfl) g1
  have gq101 := kq99 0 _ (by decide) (fun _ => rfl) g0
  exact m_recover_b220_ok hp0  F vq97 σ95 l1 ((2 : Int32)) gq101 gq100 gq98 _ h
def m_recover_b152 (F : Nat)  (σ : RS) (s1 : Int32) (s2 : Int32) (l1 : Int32) (l6 : Int32) : Option (RS) :=
  (rst σ 53 s1 s2).bind fun σ102 =>
  (rld σ102 45 l1).bind fun x104 =>
  if xc0 .ge x104 = true then (
    (rld σ102 40 l6).bind fun x107 =>
    m_recover_b178 F  σ102 l1 x107 l1
  ) else (
    m_recover_b178 F  σ102 l1 ((-1 : Int32)) l1
  )
set_option maxRecDepth 4000 in
theorem m_recover_b152_ok {pF : Nat → List Value → xH → Option (Option Value × xH)} {d : Nat} {aR : Nat} {G : Nat → xC} {T : Nat × Nat} {F : Nat} (hp0 : xNP pF)  : ∀ (lv : xL) (σ : RS) (s1 : Int32) (s2 : Int32) (l1 : Int32) (l6 : Int32), xg lv 0 = some (.ref aR) → xg lv 1 = some (.int l1) → xg lv 6 = some (.int l6) → ∀ res, m_recover_b152 F  σ s1 s2 l1 l6 = some res → xR pF (d + 4) kT345 16 11 false none none (layR aR res G, T) (152, lv, [.int s2, .int s1, .ref (aR + rpos 53)], (layR aR σ G, T)) := by
  intro lv σ s1 s2 l1 l6 g0 g1 g6 res h
  unfold m_recover_b152 at h
  obtain ⟨σ102, h103, h⟩ := Option.bind_eq_some_iff.mp h
  refine eR_iast lk345_152 rfl rfl h103 ?_
  refine eE_aload_n lk345_153 g0 ?_
  refine eR_getA lk345_154 rf_126 rfl ?_
  refine eE_iload_n lk345_157 g1 ?_
  refine eE_aload_n lk345_158 g0 ?_
  refine eR_getA lk345_159 rf_102 rfl ?_
  refine eE_iload_n lk345_162 g1 ?_
  obtain ⟨x104, h105, h⟩ := Option.bind_eq_some_iff.mp h
  refine eR_iald lk345_163 rfl rfl h105 ?_
  refine eE_if (t := 171) lk345_164 (by decide) (fun c106 => ?_) (fun c106 => ?_)
  · rw [if_pos c106] at h
    refine eE_aload_n lk345_171 g0 ?_
    refine eR_getA lk345_172 rf_87 rfl ?_
    refine eE_iload lk345_175 g6 ?_
    obtain ⟨x107, h108, h⟩ := Option.bind_eq_some_iff.mp h
    refine eR_iald lk345_177 rfl rfl h108 ?_
    exact m_recover_b178_ok hp0  lv σ102 l1 x107 l1 g0 g1 _ h
  · rw [if_neg c106] at h
    refine eE_iconst (v := (-1)) lk345_167 (by decide) ?_
    refine eE_goto (t := 178) lk345_168 (by decide) ?_
    exact m_recover_b178_ok hp0  lv σ102 l1 ((-1 : Int32)) l1 g0 g1 _ h
def m_recover_b125 (F : Nat)  (σ : RS) (s0 : Int32) (l1 : Int32) : Option (RS) :=
  (rld σ 45 l1).bind fun x114 =>
  if xc0 .ge x114 = true then (
    (rld σ 39 s0).bind fun x117 =>
    m_recover_b152 F  σ l1 x117 l1 s0
  ) else (
    m_recover_b152 F  σ l1 ((0 : Int32)) l1 s0
  )
set_option maxRecDepth 4000 in
theorem m_recover_b125_ok {pF : Nat → List Value → xH → Option (Option Value × xH)} {d : Nat} {aR : Nat} {G : Nat → xC} {T : Nat × Nat} {F : Nat} (hp0 : xNP pF)  : ∀ (lv : xL) (σ : RS) (s0 : Int32) (l1 : Int32), xg lv 0 = some (.ref aR) → xg lv 1 = some (.int l1) → ∀ res, m_recover_b125 F  σ s0 l1 = some res → xR pF (d + 4) kT345 16 11 false none none (layR aR res G, T) (125, lv, [.int s0], (layR aR σ G, T)) := by
  intro lv σ s0 l1 g0 g1 res h
  unfold m_recover_b125 at h
  refine eE_stI (j := 6) lk345_125 (Or.inl rfl) (by decide) (fun vq109 gq110 kq111 => ?_)
  have gq112 := kq111 1 _ (by decide) (fun _ => rfl) g1
  have gq113 := kq111 0 _ (by decide) (fun _ => rfl) g0
  refine eE_aload_n lk345_127 gq113 ?_
  refine eR_getA lk345_128 rf_123 rfl ?_
  refine eE_iload_n lk345_131 gq112 ?_
  refine eE_aload_n lk345_132 gq113 ?_
  refine eR_getA lk345_133 rf_102 rfl ?_
  refine eE_iload_n lk345_136 gq112 ?_
  obtain ⟨x114, h115, h⟩ := Option.bind_eq_some_iff.mp h
  refine eR_iald lk345_137 rfl rfl h115 ?_
  refine eE_if (t := 145) lk345_138 (by decide) (fun c116 => ?_) (fun c116 => ?_)
  · rw [if_pos c116] at h
    refine eE_aload_n lk345_145 gq113 ?_
    refine eR_getA lk345_146 rf_84 rfl ?_
    refine eE_iload lk345_149 gq110 ?_
    obtain ⟨x117, h118, h⟩ := Option.bind_eq_some_iff.mp h
    refine eR_iald lk345_151 rfl rfl h118 ?_
    exact m_recover_b152_ok hp0  vq109 σ l1 x117 l1 s0 gq113 gq112 gq110 _ h
  · rw [if_neg c116] at h
    refine eE_iconst (v := 0) lk345_141 (by decide) ?_
    refine eE_goto (t := 152) lk345_142 (by decide) ?_
    exact m_recover_b152_ok hp0  vq109 σ l1 ((0 : Int32)) l1 s0 gq113 gq112 gq110 _ h
def m_recover_b110 (F : Nat)  (σ : RS) (s1 : Int32) (s2 : Int32) (l1 : Int32) (l2 : Int32) (l3 : Int32) : Option (RS) :=
  (rst σ 45 s1 s2).bind fun σ119 =>
  (rld σ119 45 l1).bind fun x121 =>
  if xc0 .ne x121 = true then (
    m_recover_b125 F  σ119 l3 l1
  ) else (
    m_recover_b125 F  σ119 l2 l1
  )
set_option maxRecDepth 4000 in
theorem m_recover_b110_ok {pF : Nat → List Value → xH → Option (Option Value × xH)} {d : Nat} {aR : Nat} {G : Nat → xC} {T : Nat × Nat} {F : Nat} (hp0 : xNP pF)  : ∀ (lv : xL) (σ : RS) (s1 : Int32) (s2 : Int32) (l1 : Int32) (l2 : Int32) (l3 : Int32), xg lv 0 = some (.ref aR) → xg lv 1 = some (.int l1) → xg lv 2 = some (.int l2) → xg lv 3 = some (.int l3) → ∀ res, m_recover_b110 F  σ s1 s2 l1 l2 l3 = some res → xR pF (d + 4) kT345 16 11 false none none (layR aR res G, T) (110, lv, [.int s2, .int s1, .ref (aR + rpos 45)], (layR aR σ G, T)) := by
  intro lv σ s1 s2 l1 l2 l3 g0 g1 g2 g3 res h
  unfold m_recover_b110 at h
  obtain ⟨σ119, h120, h⟩ := Option.bind_eq_some_iff.mp h
  refine eR_iast lk345_110 rfl rfl h120 ?_
  refine eE_aload_n lk345_111 g0 ?_
  refine eR_getA lk345_112 rf_102 rfl ?_
  refine eE_iload_n lk345_115 g1 ?_
  obtain ⟨x121, h122, h⟩ := Option.bind_eq_some_iff.mp h
  refine eR_iald lk345_116 rfl rfl h122 ?_
  refine eE_if (t := 124) lk345_117 (by decide) (fun c123 => ?_) (fun c123 => ?_)
  · rw [if_pos c123] at h
    refine eE_iload_n lk345_124 g3 ?_
    exact m_recover_b125_ok hp0  lv σ119 l3 l1 g0 g1 _ h
  · rw [if_neg c123] at h
    refine eE_iload_n lk345_120 g2 ?_
    refine eE_goto (t := 125) lk345_121 (by decide) ?_
    exact m_recover_b125_ok hp0  lv σ119 l2 l1 g0 g1 _ h
def m_recover_b96 (F : Nat)  (σ : RS) (s1 : Int32) (l1 : Int32) (l2 : Int32) (l3 : Int32) : Option (RS) :=
  m_recover_b110 F  σ s1 ((0 : Int32)) l1 l2 l3
set_option maxRecDepth 4000 in
theorem m_recover_b96_ok {pF : Nat → List Value → xH → Option (Option Value × xH)} {d : Nat} {aR : Nat} {G : Nat → xC} {T : Nat × Nat} {F : Nat} (hp0 : xNP pF)  : ∀ (lv : xL) (σ : RS) (s1 : Int32) (l1 : Int32) (l2 : Int32) (l3 : Int32), xg lv 0 = some (.ref aR) → xg lv 1 = some (.int l1) → xg lv 2 = some (.int l2) → xg lv 3 = some (.int l3) → ∀ res, m_recover_b96 F  σ s1 l1 l2 l3 = some res → xR pF (d + 4) kT345 16 11 false none none (layR aR res G, T) (96, lv, [.int s1, .ref (aR + rpos 45)], (layR aR σ G, T)) := by
  intro lv σ s1 l1 l2 l3 g0 g1 g2 g3 res h
  unfold m_recover_b96 at h
  refine eE_iconst (v := 0) lk345_96 (by decide) ?_
  refine eE_goto (t := 110) lk345_97 (by decide) ?_
  exact m_recover_b110_ok hp0  lv σ s1 ((0 : Int32)) l1 l2 l3 g0 g1 g2 g3 _ h
def m_recover_b100 (F : Nat)  (σ : RS) (s1 : Int32) (l1 : Int32) (l2 : Int32) (l3 : Int32) (l5 : Int32) : Option (RS) :=
  if xc0 .eq l5 = true then (
    m_recover_b110 F  σ s1 ((-1 : Int32)) l1 l2 l3
  ) else (
    m_recover_b110 F  σ s1 ((1 : Int32)) l1 l2 l3
  )
set_option maxRecDepth 4000 in
theorem m_recover_b100_ok {pF : Nat → List Value → xH → Option (Option Value × xH)} {d : Nat} {aR : Nat} {G : Nat → xC} {T : Nat × Nat} {F : Nat} (hp0 : xNP pF)  : ∀ (lv : xL) (σ : RS) (s1 : Int32) (l1 : Int32) (l2 : Int32) (l3 : Int32) (l5 : Int32), xg lv 0 = some (.ref aR) → xg lv 1 = some (.int l1) → xg lv 2 = some (.int l2) → xg lv 3 = some (.int l3) → xg lv 5 = some (.int l5) → ∀ res, m_recover_b100 F  σ s1 l1 l2 l3 l5 = some res → xR pF (d + 4) kT345 16 11 false none none (layR aR res G, T) (100, lv, [.int s1, .ref (aR + rpos 45)], (layR aR σ G, T)) := by
  intro lv σ s1 l1 l2 l3 l5 g0 g1 g2 g3 g5 res h
  unfold m_recover_b100 at h
  refine eE_iload lk345_100 g5 ?_
  refine eE_if (t := 109) lk345_102 (by decide) (fun c124 => ?_) (fun c124 => ?_)
  · rw [if_pos c124] at h
    refine eE_iconst (v := (-1)) lk345_109 (by decide) ?_
    exact m_recover_b110_ok hp0  lv σ s1 ((-1 : Int32)) l1 l2 l3 g0 g1 g2 g3 _ h
  · rw [if_neg c124] at h
    refine eE_iconst (v := 1) lk345_105 (by decide) ?_
    refine eE_goto (t := 110) lk345_106 (by decide) ?_
    exact m_recover_b110_ok hp0  lv σ s1 ((1 : Int32)) l1 l2 l3 g0 g1 g2 g3 _ h
def m_recover_b64 (F : Nat)  (σ : RS) (s0 : Int32) (l1 : Int32) (l2 : Int32) (l3 : Int32) (l4 : Int32) : Option (RS) :=
  if xc0 .eq l4 = true then (
    m_recover_b100 F  σ l1 l1 l2 l3 s0
  ) else (
    if xc0 .eq s0 = true then (
      m_recover_b96 F  σ l1 l1 l2 l3
    ) else (
      (rld σ 41 l2).bind fun x135 =>
      (rld σ 41 l3).bind fun x137 =>
      if xc2 .le x135 x137 = true then (
        m_recover_b100 F  σ l1 l1 l2 l3 s0
      ) else (
        m_recover_b96 F  σ l1 l1 l2 l3
      )
    )
  )
set_option maxRecDepth 4000 in
theorem m_recover_b64_ok {pF : Nat → List Value → xH → Option (Option Value × xH)} {d : Nat} {aR : Nat} {G : Nat → xC} {T : Nat × Nat} {F : Nat} (hp0 : xNP pF)  : ∀ (lv : xL) (σ : RS) (s0 : Int32) (l1 : Int32) (l2 : Int32) (l3 : Int32) (l4 : Int32), xg lv 0 = some (.ref aR) → xg lv 1 = some (.int l1) → xg lv 2 = some (.int l2) → xg lv 3 = some (.int l3) → xg lv 4 = some (.int l4) → ∀ res, m_recover_b64 F  σ s0 l1 l2 l3 l4 = some res → xR pF (d + 4) kT345 16 11 false none none (layR aR res G, T) (64, lv, [.int s0], (layR aR σ G, T)) := by
  intro lv σ s0 l1 l2 l3 l4 g0 g1 g2 g3 g4 res h
  unfold m_recover_b64 at h
  refine eE_stI (j := 5) lk345_64 (Or.inl rfl) (by decide) (fun vq125 gq126 kq127 => ?_)
  have gq128 := kq127 1 _ (by decide) (fun _ => rfl) g1
  have gq129 := kq127 2 _ (by decide) (fun _ => rfl) g2
  have gq130 := kq127 3 _ (by decide) (fun _ => rfl) g3
  have gq131 := kq127 4 _ (by decide) (fun _ => rfl) g4
  have gq132 := kq127 0 _ (by decide) (fun _ => rfl) g0
  refine eE_aload_n lk345_66 gq132 ?_
  refine eR_getA lk345_67 rf_102 rfl ?_
  refine eE_iload_n lk345_70 gq128 ?_
  refine eE_iload lk345_71 gq131 ?_
  refine eE_if (t := 100) lk345_73 (by decide) (fun c133 => ?_) (fun c133 => ?_)
  · rw [if_pos c133] at h
    exact m_recover_b100_ok hp0  vq125 σ l1 l1 l2 l3 s0 gq132 gq128 gq129 gq130 gq126 _ h
  · rw [if_neg c133] at h
    refine eE_iload lk345_76 gq126 ?_
    refine eE_if (t := 96) lk345_78 (by decide) (fun c134 => ?_) (fun c134 => ?_)
    · rw [if_pos c134] at h
      exact m_recover_b96_ok hp0  vq125 σ l1 l1 l2 l3 gq132 gq128 gq129 gq130 _ h
    · rw [if_neg c134] at h
      refine eE_aload_n lk345_81 gq132 ?_
      refine eR_getA lk345_82 rf_90 rfl ?_
      refine eE_iload_n lk345_85 gq129 ?_
      obtain ⟨x135, h136, h⟩ := Option.bind_eq_some_iff.mp h
      refine eR_iald lk345_86 rfl rfl h136 ?_
      refine eE_aload_n lk345_87 gq132 ?_
      refine eR_getA lk345_88 rf_90 rfl ?_
      refine eE_iload_n lk345_91 gq130 ?_
      obtain ⟨x137, h138, h⟩ := Option.bind_eq_some_iff.mp h
      refine eR_iald lk345_92 rfl rfl h138 ?_
      refine eE_icmp (t := 100) lk345_93 (by decide) (fun c139 => ?_) (fun c139 => ?_)
      · rw [if_pos c139] at h
        exact m_recover_b100_ok hp0  vq125 σ l1 l1 l2 l3 s0 gq132 gq128 gq129 gq130 gq126 _ h
      · rw [if_neg c139] at h
        exact m_recover_b96_ok hp0  vq125 σ l1 l1 l2 l3 gq132 gq128 gq129 gq130 _ h
def m_recover_b63 (F : Nat)  (σ : RS) (l1 : Int32) (l2 : Int32) (l3 : Int32) (l4 : Int32) : Option (RS) :=
  m_recover_b64 F  σ ((0 : Int32)) l1 l2 l3 l4
set_option maxRecDepth 4000 in
theorem m_recover_b63_ok {pF : Nat → List Value → xH → Option (Option Value × xH)} {d : Nat} {aR : Nat} {G : Nat → xC} {T : Nat × Nat} {F : Nat} (hp0 : xNP pF)  : ∀ (lv : xL) (σ : RS) (l1 : Int32) (l2 : Int32) (l3 : Int32) (l4 : Int32), xg lv 0 = some (.ref aR) → xg lv 1 = some (.int l1) → xg lv 2 = some (.int l2) → xg lv 3 = some (.int l3) → xg lv 4 = some (.int l4) → ∀ res, m_recover_b63 F  σ l1 l2 l3 l4 = some res → xR pF (d + 4) kT345 16 11 false none none (layR aR res G, T) (63, lv, [], (layR aR σ G, T)) := by
  intro lv σ l1 l2 l3 l4 g0 g1 g2 g3 g4 res h
  unfold m_recover_b63 at h
  refine eE_iconst (v := 0) lk345_63 (by decide) ?_
  exact m_recover_b64_ok hp0  lv σ ((0 : Int32)) l1 l2 l3 l4 g0 g1 g2 g3 g4 _ h
def m_recover_b37 (F : Nat)  (σ : RS) (s0 : Int32) (l1 : Int32) (l2 : Int32) (l3 : Int32) : Option (RS) :=
  (rld σ 38 l3).bind fun x147 =>
  if xc0 .eq x147 = true then (
    m_recover_b63 F  σ l1 l2 l3 s0
  ) else (
    (rld σ 37 l3).bind fun x150 =>
    if xc2 .lt x150 ((32 : Int32)) = true then (
      m_recover_b63 F  σ l1 l2 l3 s0
    ) else (
      m_recover_b64 F  σ ((1 : Int32)) l1 l2 l3 s0
    )
  )
set_option maxRecDepth 4000 in
theorem m_recover_b37_ok {pF : Nat → List Value → xH → Option (Option Value × xH)} {d : Nat} {aR : Nat} {G : Nat → xC} {T : Nat × Nat} {F : Nat} (hp0 : xNP pF)  : ∀ (lv : xL) (σ : RS) (s0 : Int32) (l1 : Int32) (l2 : Int32) (l3 : Int32), xg lv 0 = some (.ref aR) → xg lv 1 = some (.int l1) → xg lv 2 = some (.int l2) → xg lv 3 = some (.int l3) → ∀ res, m_recover_b37 F  σ s0 l1 l2 l3 = some res → xR pF (d + 4) kT345 16 11 false none none (layR aR res G, T) (37, lv, [.int s0], (layR aR σ G, T)) := by
  intro lv σ s0 l1 l2 l3 g0 g1 g2 g3 res h
  unfold m_recover_b37 at h
  refine eE_stI (j := 4) lk345_37 (Or.inl rfl) (by decide) (fun vq140 gq141 kq142 => ?_)
  have gq143 := kq142 1 _ (by decide) (fun _ => rfl) g1
  have gq144 := kq142 2 _ (by decide) (fun _ => rfl) g2
  have gq145 := kq142 3 _ (by decide) (fun _ => rfl) g3
  have gq146 := kq142 0 _ (by decide) (fun _ => rfl) g0
  refine eE_aload_n lk345_39 gq146 ?_
  refine eR_getA lk345_40 rf_81 rfl ?_
  refine eE_iload_n lk345_43 gq145 ?_
  obtain ⟨x147, h148, h⟩ := Option.bind_eq_some_iff.mp h
  refine eR_bald lk345_44 rfl (Or.inr rfl) h148 ?_
  refine eE_if (t := 63) lk345_45 (by decide) (fun c149 => ?_) (fun c149 => ?_)
  · rw [if_pos c149] at h
    exact m_recover_b63_ok hp0  vq140 σ l1 l2 l3 s0 gq146 gq143 gq144 gq145 gq141 _ h
  · rw [if_neg c149] at h
    refine eE_aload_n lk345_48 gq146 ?_
    refine eR_getA lk345_49 rf_78 rfl ?_
    refine eE_iload_n lk345_52 gq145 ?_
    obtain ⟨x150, h151, h⟩ := Option.bind_eq_some_iff.mp h
    refine eR_iald lk345_53 rfl rfl h151 ?_
    refine eE_bipush (v := 32) lk345_54 (by decide) ?_
    refine eE_icmp (t := 63) lk345_56 (by decide) (fun c152 => ?_) (fun c152 => ?_)
    · rw [if_pos c152] at h
      exact m_recover_b63_ok hp0  vq140 σ l1 l2 l3 s0 gq146 gq143 gq144 gq145 gq141 _ h
    · rw [if_neg c152] at h
      refine eE_iconst (v := 1) lk345_59 (by decide) ?_
      refine eE_goto (t := 64) lk345_60 (by decide) ?_
      exact m_recover_b64_ok hp0  vq140 σ ((1 : Int32)) l1 l2 l3 s0 gq146 gq143 gq144 gq145 gq141 _ h
def m_recover_b36 (F : Nat)  (σ : RS) (l1 : Int32) (l2 : Int32) (l3 : Int32) : Option (RS) :=
  m_recover_b37 F  σ ((0 : Int32)) l1 l2 l3
set_option maxRecDepth 4000 in
theorem m_recover_b36_ok {pF : Nat → List Value → xH → Option (Option Value × xH)} {d : Nat} {aR : Nat} {G : Nat → xC} {T : Nat × Nat} {F : Nat} (hp0 : xNP pF)  : ∀ (lv : xL) (σ : RS) (l1 : Int32) (l2 : Int32) (l3 : Int32), xg lv 0 = some (.ref aR) → xg lv 1 = some (.int l1) → xg lv 2 = some (.int l2) → xg lv 3 = some (.int l3) → ∀ res, m_recover_b36 F  σ l1 l2 l3 = some res → xR pF (d + 4) kT345 16 11 false none none (layR aR res G, T) (36, lv, [], (layR aR σ G, T)) := by
  intro lv σ l1 l2 l3 g0 g1 g2 g3 res h
  unfold m_recover_b36 at h
  refine eE_iconst (v := 0) lk345_36 (by decide) ?_
  exact m_recover_b37_ok hp0  lv σ ((0 : Int32)) l1 l2 l3 g0 g1 g2 g3 _ h
def m_recover_b0 (F : Nat)  (σ : RS) (l1 : Int32) : Option (RS) :=
  (m_fileOf l1 ((0 : Int32))).bind fun p153 =>
  (m_fileOf l1 ((1 : Int32))).bind fun p160 =>
  (rld σ 38 p153).bind fun x168 =>
  if xc0 .eq x168 = true then (
    m_recover_b36 F  σ l1 p153 p160
  ) else (
    (rld σ 37 p153).bind fun x171 =>
    if xc2 .lt x171 ((32 : Int32)) = true then (
      m_recover_b36 F  σ l1 p153 p160
    ) else (
      m_recover_b37 F  σ ((1 : Int32)) l1 p153 p160
    )
  )
set_option maxRecDepth 4000 in
theorem m_recover_b0_ok {pF : Nat → List Value → xH → Option (Option Value × xH)} {d : Nat} {aR : Nat} {G : Nat → xC} {T : Nat × Nat} {F : Nat} (hp0 : xNP pF)  : ∀ (lv : xL) (σ : RS) (l1 : Int32), xg lv 0 = some (.ref aR) → xg lv 1 = some (.int l1) → ∀ res, m_recover_b0 F  σ l1 = some res → xR pF (d + 4) kT345 16 11 false none none (layR aR res G, T) (0, lv, [], (layR aR σ G, T)) := by
  intro lv σ l1 g0 g1 res h
  unfold m_recover_b0 at h
  refine eE_iload_n lk345_0 g1 ?_
  refine eE_iconst (v := 0) lk345_1 (by decide) ?_
  obtain ⟨p153, h154, h⟩ := Option.bind_eq_some_iff.mp h
  refine eE_stat (as := [.int l1, .int ((0 : Int32))]) lk345_2 mr_492 na_280 rfl rfl (Nat.le_of_ble_eq_true rfl) mm_280 ws_280 (m_fileOf_ok hp0 (d := d + 3) h154) ?_
  refine eE_stI (j := 2) lk345_5 (Or.inr ⟨_, rfl, rfl⟩) (by decide) (fun vq155 gq156 kq157 => ?_)
  have gq158 := kq157 1 _ (by decide) (fun _ => rfl) g1
  have gq159 := kq157 0 _ (by decide) (fun _ => rfl) g0
  refine eE_iload_n lk345_6 gq158 ?_
  refine eE_iconst (v := 1) lk345_7 (by decide) ?_
  obtain ⟨p160, h161, h⟩ := Option.bind_eq_some_iff.mp h
  refine eE_stat (as := [.int l1, .int ((1 : Int32))]) lk345_8 mr_492 na_280 rfl rfl (Nat.le_of_ble_eq_true rfl) mm_280 ws_280 (m_fileOf_ok hp0 (d := d + 3) h161) ?_
  refine eE_stI (j := 3) lk345_11 (Or.inr ⟨_, rfl, rfl⟩) (by decide) (fun vq162 gq163 kq164 => ?_)
  have gq165 := kq164 1 _ (by decide) (fun _ => rfl) gq158
  have gq166 := kq164 0 _ (by decide) (fun _ => rfl) gq159
  have gq167 := kq164 2 _ (by decide) (fun _ => rfl) gq156
  refine eE_aload_n lk345_12 gq166 ?_
  refine eR_getA lk345_13 rf_81 rfl ?_
  refine eE_iload_n lk345_16 gq167 ?_
  obtain ⟨x168, h169, h⟩ := Option.bind_eq_some_iff.mp h
  refine eR_bald lk345_17 rfl (Or.inr rfl) h169 ?_
  refine eE_if (t := 36) lk345_18 (by decide) (fun c170 => ?_) (fun c170 => ?_)
  · rw [if_pos c170] at h
    exact m_recover_b36_ok hp0  vq162 σ l1 p153 p160 gq166 gq165 gq167 gq163 _ h
  · rw [if_neg c170] at h
    refine eE_aload_n lk345_21 gq166 ?_
    refine eR_getA lk345_22 rf_78 rfl ?_
    refine eE_iload_n lk345_25 gq167 ?_
    obtain ⟨x171, h172, h⟩ := Option.bind_eq_some_iff.mp h
    refine eR_iald lk345_26 rfl rfl h172 ?_
    refine eE_bipush (v := 32) lk345_27 (by decide) ?_
    refine eE_icmp (t := 36) lk345_29 (by decide) (fun c173 => ?_) (fun c173 => ?_)
    · rw [if_pos c173] at h
      exact m_recover_b36_ok hp0  vq162 σ l1 p153 p160 gq166 gq165 gq167 gq163 _ h
    · rw [if_neg c173] at h
      refine eE_iconst (v := 1) lk345_32 (by decide) ?_
      refine eE_goto (t := 37) lk345_33 (by decide) ?_
      exact m_recover_b37_ok hp0  vq162 σ ((1 : Int32)) l1 p153 p160 gq166 gq165 gq167 gq163 _ h
def m_recover (F : Nat) (σ : RS) (l1 : Int32) : Option (RS) := m_recover_b0 F σ l1
theorem m_recover_ok {pF : Nat → List Value → xH → Option (Option Value × xH)} (hp0 : xNP pF) {d : Nat} {aR : Nat} {G : Nat → xC} {T : Nat × Nat} {σ : RS} {F : Nat} {l1 : Int32} {res : RS} (h : m_recover F σ l1 = some res) : xCo pF (d + 5) 345 [.ref aR, .int l1] (layR aR σ G, T) none (layR aR res G, T) := by
  unfold m_recover at h
  exact xCo_R kk_345 mo_345 ni_345 xm_345 (Nat.le_of_ble_eq_true rfl) (hp0 _ (by decide) (by decide) _ _) (m_recover_b0_ok hp0 _ σ l1 rfl rfl _ h)
/-! run (352), depth 13 -/
def m_run_b74 (F : Nat)  (σ : RS) (l2 : Int32) (l3 : Int32) : Option (Int32 × RS) :=
  (some (setI σ 1 0 l2)).bind fun σ1 =>
  some (l3, σ1)
set_option maxRecDepth 4000 in
theorem m_run_b74_ok {pF : Nat → List Value → xH → Option (Option Value × xH)} {d : Nat} {aR : Nat} {G : Nat → xC} {T : Nat × Nat} {F : Nat} (hp0 : xNP pF)  : ∀ (lv : xL) (σ : RS) (l2 : Int32) (l3 : Int32), xg lv 0 = some (.ref aR) → xg lv 2 = some (.int l2) → xg lv 3 = some (.int l3) → ∀ res, m_run_b74 F  σ l2 l3 = some res → xR pF (d + 12) kT352 16 5 false (some .int) (some (.int res.1)) (layR aR res.2 G, T) (74, lv, [], (layR aR σ G, T)) := by
  intro lv σ l2 l3 g0 g2 g3 res h
  unfold m_run_b74 at h
  refine eE_aload_n lk352_74 g0 ?_
  refine eE_iload_n lk352_75 g2 ?_
  obtain ⟨σ1, h2, h⟩ := Option.bind_eq_some_iff.mp h
  refine eR_putS lk352_76 rf_431 rfl (by decide) pf_1.1 pf_1.2 h2 ?_
  refine eE_iload_n lk352_79 g3 ?_
  cases h
  exact eE_end lk352_80 rfl rfl rfl
def m_run_b43 (F : Nat)  : Nat → RS → Int32 → Int32 → Option (Int32 × RS)
  | 0, _, _, _ => none
  | n + 1, σ, l2, l3 =>
    let KK := m_run_b43 F  n
    if xc0 .lt (σ.1 35 0) = true then (
      m_run_b74 F  σ l2 l3
    ) else (
      if xc2 .gt (σ.1 33 0) l2 = true then (
        m_run_b74 F  σ l2 l3
      ) else (
        (m_happen F σ).bind fun p5 =>
        (m_findNext F p5.2).bind fun p18 =>
        KK p18 l2 (l3 + (1 : Int32))
      )
    )
set_option maxRecDepth 4000 in
theorem m_run_b43_ok {pF : Nat → List Value → xH → Option (Option Value × xH)} {d : Nat} {aR : Nat} {G : Nat → xC} {T : Nat × Nat} {F : Nat} (hp0 : xNP pF)  : ∀ (n : Nat) (lv : xL) (σ : RS) (l2 : Int32) (l3 : Int32), xg lv 0 = some (.ref aR) → xg lv 2 = some (.int l2) → xg lv 3 = some (.int l3) → ∀ res, m_run_b43 F  n σ l2 l3 = some res → xR pF (d + 12) kT352 16 5 false (some .int) (some (.int res.1)) (layR aR res.2 G, T) (43, lv, [], (layR aR σ G, T)) := by
  intro n
  induction n with
  | zero => intro lv σ l2 l3 g0 g2 g3 res h; simp [m_run_b43] at h
  | succ n hKK =>
    intro lv σ l2 l3 g0 g2 g3 res h
    unfold m_run_b43 at h
    dsimp only at h
    refine eE_aload_n lk352_43 g0 ?_
    refine eR_get lk352_44 rf_458 rfl ?_
    refine eE_if (t := 74) lk352_47 (by decide) (fun c3 => ?_) (fun c3 => ?_)
    · rw [if_pos c3] at h
      exact m_run_b74_ok hp0  lv σ l2 l3 g0 g2 g3 _ h
    · rw [if_neg c3] at h
      refine eE_aload_n lk352_50 g0 ?_
      refine eR_get lk352_51 rf_461 rfl ?_
      refine eE_iload_n lk352_54 g2 ?_
      refine eE_icmp (t := 74) lk352_55 (by decide) (fun c4 => ?_) (fun c4 => ?_)
      · rw [if_pos c4] at h
        exact m_run_b74_ok hp0  lv σ l2 l3 g0 g2 g3 _ h
      · rw [if_neg c4] at h
        refine eE_aload_n lk352_58 g0 ?_
        obtain ⟨p5, h6, h⟩ := Option.bind_eq_some_iff.mp h
        refine eR_call (as := []) lk352_59 mr_823 na_290 rfl rfl (Nat.le_of_ble_eq_true rfl) wv_290 wc_290 (m_happen_ok hp0 (d := d + 0) h6) ?_
        refine eE_stI (j := 4) lk352_62 (Or.inl rfl) (by decide) (fun vq7 gq8 kq9 => ?_)
        have gq10 := kq9 2 _ (by decide) (fun _ => rfl) g2
        have gq11 := kq9 3 _ (by decide) (fun _ => rfl) g3
        have gq12 := kq9 0 _ (by decide) (fun _ => rfl) g0
        refine eE_inc (j := 3) (v := l3 + (1 : Int32)) lk352_64 gq11 rfl (by decide) (fun vq13 gq14 kq15 => ?_)
        have gq16 := kq15 2 _ (by decide) (fun _ => rfl) gq10
        have gq17 := kq15 0 _ (by decide) (fun _ => rfl) gq12
        refine eE_aload_n lk352_67 gq17 ?_
        obtain ⟨p18, h19, h⟩ := Option.bind_eq_some_iff.mp h
        refine eR_call (as := []) lk352_68 mr_820 na_283 rfl rfl (Nat.le_of_ble_eq_true rfl) wv_283 wc_283 (m_findNext_ok hp0 (d := d + 10) h19) ?_
        refine eE_goto (t := 43) lk352_71 (by decide) ?_
        exact hKK vq13 p18 l2 (l3 + (1 : Int32)) gq17 gq16 gq14 _ h
def m_run_b18 (F : Nat)  (σ : RS) (s1 : Int32) (l1 : Int32) : Option (Int32 × RS) :=
  (some (setI σ 0 0 s1)).bind fun σ20 =>
  if xc0 .le (σ20.1 0 0) = true then (
    (m_findNext F σ20).bind fun p32 =>
    m_run_b43 F  F p32 ((σ20.1 1 0) + l1) ((0 : Int32))
  ) else (
    some ((0 : Int32), σ20)
  )
set_option maxRecDepth 4000 in
theorem m_run_b18_ok {pF : Nat → List Value → xH → Option (Option Value × xH)} {d : Nat} {aR : Nat} {G : Nat → xC} {T : Nat × Nat} {F : Nat} (hp0 : xNP pF)  : ∀ (lv : xL) (σ : RS) (s1 : Int32) (l1 : Int32), xg lv 0 = some (.ref aR) → xg lv 1 = some (.int l1) → ∀ res, m_run_b18 F  σ s1 l1 = some res → xR pF (d + 12) kT352 16 5 false (some .int) (some (.int res.1)) (layR aR res.2 G, T) (18, lv, [.int s1, .ref aR], (layR aR σ G, T)) := by
  intro lv σ s1 l1 g0 g1 res h
  unfold m_run_b18 at h
  obtain ⟨σ20, h21, h⟩ := Option.bind_eq_some_iff.mp h
  refine eR_putS lk352_18 rf_393 rfl (by decide) pf_0.1 pf_0.2 h21 ?_
  refine eE_aload_n lk352_21 g0 ?_
  refine eR_get lk352_22 rf_393 rfl ?_
  refine eE_if (t := 30) lk352_25 (by decide) (fun c22 => ?_) (fun c22 => ?_)
  · rw [if_pos c22] at h
    refine eE_aload_n lk352_30 g0 ?_
    refine eR_get lk352_31 rf_431 rfl ?_
    refine eE_iload_n lk352_34 g1 ?_
    refine eE_iadd lk352_35 ?_
    refine eE_stI (j := 2) lk352_36 (Or.inr ⟨_, rfl, rfl⟩) (by decide) (fun vq23 gq24 kq25 => ?_)
    have gq26 := kq25 0 _ (by decide) (fun _ => rfl) g0
    refine eE_iconst (v := 0) lk352_37 (by decide) ?_
    refine eE_stI (j := 3) lk352_38 (Or.inr ⟨_, rfl, rfl⟩) (by decide) (fun vq27 gq28 kq29 => ?_)
    have gq30 := kq29 0 _ (by decide) (fun _ => rfl) gq26
    have gq31 := kq29 2 _ (by decide) (fun _ => rfl) gq24
    refine eE_aload_n lk352_39 gq30 ?_
    obtain ⟨p32, h33, h⟩ := Option.bind_eq_some_iff.mp h
    refine eR_call (as := []) lk352_40 mr_820 na_283 rfl rfl (Nat.le_of_ble_eq_true rfl) wv_283 wc_283 (m_findNext_ok hp0 (d := d + 10) h33) ?_
    exact m_run_b43_ok hp0  F vq27 p32 ((σ20.1 1 0) + l1) ((0 : Int32)) gq30 gq31 gq28 _ h
  · rw [if_neg c22] at h
    refine eE_iconst (v := 0) lk352_28 (by decide) ?_
    cases h
    exact eE_end lk352_29 rfl rfl rfl
def m_run_b0 (F : Nat)  (σ : RS) (l1 : Int32) : Option (Int32 × RS) :=
  (m_in (l1.toInt64) ((1 : Int64)) ((1000 : Int64))).bind fun p34 =>
  if xc0 .eq p34 = true then (
    m_run_b18 F  σ ((1 : Int32)) l1
  ) else (
    m_run_b18 F  σ ((0 : Int32)) l1
  )
set_option maxRecDepth 4000 in
theorem m_run_b0_ok {pF : Nat → List Value → xH → Option (Option Value × xH)} {d : Nat} {aR : Nat} {G : Nat → xC} {T : Nat × Nat} {F : Nat} (hp0 : xNP pF)  : ∀ (lv : xL) (σ : RS) (l1 : Int32), xg lv 0 = some (.ref aR) → xg lv 1 = some (.int l1) → ∀ res, m_run_b0 F  σ l1 = some res → xR pF (d + 12) kT352 16 5 false (some .int) (some (.int res.1)) (layR aR res.2 G, T) (0, lv, [], (layR aR σ G, T)) := by
  intro lv σ l1 g0 g1 res h
  unfold m_run_b0 at h
  refine eE_aload_n lk352_0 g0 ?_
  refine eE_iload_n lk352_1 g1 ?_
  refine eE_i2l lk352_2 ?_
  refine eE_lconst (v := 1) lk352_3 (by decide) ?_
  refine eE_ldc2_w (v := 1000) lk352_4 xl_818 ?_
  obtain ⟨p34, h35, h⟩ := Option.bind_eq_some_iff.mp h
  refine eE_stat (as := [.long (l1.toInt64), .long ((1 : Int64)), .long ((1000 : Int64))]) lk352_7 mr_799 na_294 rfl rfl (Nat.le_of_ble_eq_true rfl) mm_294 ws_294 (m_in_ok hp0 (d := d + 11) h35) ?_
  refine eE_if (t := 17) lk352_10 (by decide) (fun c36 => ?_) (fun c36 => ?_)
  · rw [if_pos c36] at h
    refine eE_iconst (v := 1) lk352_17 (by decide) ?_
    exact m_run_b18_ok hp0  lv σ ((1 : Int32)) l1 g0 g1 _ h
  · rw [if_neg c36] at h
    refine eE_iconst (v := 0) lk352_13 (by decide) ?_
    refine eE_goto (t := 18) lk352_14 (by decide) ?_
    exact m_run_b18_ok hp0  lv σ ((0 : Int32)) l1 g0 g1 _ h
def m_run (F : Nat) (σ : RS) (l1 : Int32) : Option (Int32 × RS) := m_run_b0 F σ l1
theorem m_run_ok {pF : Nat → List Value → xH → Option (Option Value × xH)} (hp0 : xNP pF) {d : Nat} {aR : Nat} {G : Nat → xC} {T : Nat × Nat} {σ : RS} {F : Nat} {l1 : Int32} {res : Int32 × RS} (h : m_run F σ l1 = some res) : xCo pF (d + 13) 352 [.ref aR, .int l1] (layR aR σ G, T) (some (.int res.1)) (layR aR res.2 G, T) := by
  unfold m_run at h
  exact xCo_R kk_352 mo_352 ni_352 xm_352 (Nat.le_of_ble_eq_true rfl) (hp0 _ (by decide) (by decide) _ _) (m_run_b0_ok hp0 _ σ l1 rfl rfl _ h)
/-! server (357), depth 2 -/
def m_server_b60 (F : Nat)  (σ : RS) (s0 : Int32) : Option (Int32 × RS) :=
  some (s0, σ)
set_option maxRecDepth 4000 in
theorem m_server_b60_ok {pF : Nat → List Value → xH → Option (Option Value × xH)} {d : Nat} {aR : Nat} {G : Nat → xC} {T : Nat × Nat} {F : Nat} (hp0 : xNP pF)  : ∀ (lv : xL) (σ : RS) (s0 : Int32), xg lv 0 = some (.ref aR) → ∀ res, m_server_b60 F  σ s0 = some res → xR pF (d + 1) kT357 16 5 false (some .int) (some (.int res.1)) (layR aR res.2 G, T) (60, lv, [.int s0], (layR aR σ G, T)) := by
  intro lv σ s0 g0 res h
  unfold m_server_b60 at h
  cases h
  exact eE_end lk357_60 rfl rfl rfl
def m_server_b325 (F : Nat) (K297 : RS → Int32 → Int32 → Int32 → Option (Int32 × RS)) (σ : RS) (s0 : Int32) (s1 : Int32) (l1 : Int32) (l4 : Int32) : Option (Int32 × RS) :=
  K297 σ l1 (s0 + s1) (l4 + (1 : Int32))
set_option maxRecDepth 4000 in
theorem m_server_b325_ok {pF : Nat → List Value → xH → Option (Option Value × xH)} {d : Nat} {aR : Nat} {G : Nat → xC} {T : Nat × Nat} {F : Nat} {K297 : RS → Int32 → Int32 → Int32 → Option (Int32 × RS)} (hp0 : xNP pF) (hK297 : ∀ (lv : xL) (σ : RS) (l1 : Int32) (l3 : Int32) (l4 : Int32), xg lv 0 = some (.ref aR) → xg lv 1 = some (.int l1) → xg lv 3 = some (.int l3) → xg lv 4 = some (.int l4) → ∀ res, K297 σ l1 l3 l4 = some res → xR pF (d + 1) kT357 16 5 false (some .int) (some (.int res.1)) (layR aR res.2 G, T) (297, lv, [], (layR aR σ G, T))) : ∀ (lv : xL) (σ : RS) (s0 : Int32) (s1 : Int32) (l1 : Int32) (l4 : Int32), xg lv 0 = some (.ref aR) → xg lv 1 = some (.int l1) → xg lv 4 = some (.int l4) → ∀ res, m_server_b325 F K297 σ s0 s1 l1 l4 = some res → xR pF (d + 1) kT357 16 5 false (some .int) (some (.int res.1)) (layR aR res.2 G, T) (325, lv, [.int s1, .int s0], (layR aR σ G, T)) := by
  intro lv σ s0 s1 l1 l4 g0 g1 g4 res h
  unfold m_server_b325 at h
  refine eE_iadd lk357_325 ?_
  refine eE_stI (j := 3) lk357_326 (Or.inr ⟨_, rfl, rfl⟩) (by decide) (fun vq1 gq2 kq3 => ?_)
  have gq4 := kq3 1 _ (by decide) (fun _ => rfl) g1
  have gq5 := kq3 4 _ (by decide) (fun _ => rfl) g4
  have gq6 := kq3 0 _ (by decide) (fun _ => rfl) g0
  refine eE_inc (j := 4) (v := l4 + (1 : Int32)) lk357_327 gq5 rfl (by decide) (fun vq7 gq8 kq9 => ?_)
  have gq10 := kq9 1 _ (by decide) (fun _ => rfl) gq4
  have gq11 := kq9 0 _ (by decide) (fun _ => rfl) gq6
  have gq12 := kq9 3 _ (by decide) (fun _ => rfl) gq2
  refine eE_goto (t := 297) lk357_330 (by decide) ?_
  exact hK297 vq7 σ l1 (s0 + s1) (l4 + (1 : Int32)) gq11 gq10 gq12 gq8 _ h
def m_server_b297 (F : Nat)  : Nat → RS → Int32 → Int32 → Int32 → Option (Int32 × RS)
  | 0, _, _, _, _ => none
  | n + 1, σ, l1, l3, l4 =>
    let KK := m_server_b297 F  n
    if xc2 .ge l4 ((((32 : Int32)) * l1) + ((32 : Int32))) = true then (
      some (l3, σ)
    ) else (
      (rld σ 95 l4).bind fun x14 =>
      if xc0 .eq x14 = true then (
        m_server_b325 F KK σ l3 ((0 : Int32)) l1 l4
      ) else (
        m_server_b325 F KK σ l3 ((1 : Int32)) l1 l4
      )
    )
set_option maxRecDepth 4000 in
theorem m_server_b297_ok {pF : Nat → List Value → xH → Option (Option Value × xH)} {d : Nat} {aR : Nat} {G : Nat → xC} {T : Nat × Nat} {F : Nat} (hp0 : xNP pF)  : ∀ (n : Nat) (lv : xL) (σ : RS) (l1 : Int32) (l3 : Int32) (l4 : Int32), xg lv 0 = some (.ref aR) → xg lv 1 = some (.int l1) → xg lv 3 = some (.int l3) → xg lv 4 = some (.int l4) → ∀ res, m_server_b297 F  n σ l1 l3 l4 = some res → xR pF (d + 1) kT357 16 5 false (some .int) (some (.int res.1)) (layR aR res.2 G, T) (297, lv, [], (layR aR σ G, T)) := by
  intro n
  induction n with
  | zero => intro lv σ l1 l3 l4 g0 g1 g3 g4 res h; simp [m_server_b297] at h
  | succ n hKK =>
    intro lv σ l1 l3 l4 g0 g1 g3 g4 res h
    unfold m_server_b297 at h
    dsimp only at h
    refine eE_iload lk357_297 g4 ?_
    refine eE_bipush (v := 32) lk357_299 (by decide) ?_
    refine eE_iload_n lk357_301 g1 ?_
    refine eE_imul lk357_302 ?_
    refine eE_bipush (v := 32) lk357_303 (by decide) ?_
    refine eE_iadd lk357_305 ?_
    refine eE_icmp (t := 333) lk357_306 (by decide) (fun c13 => ?_) (fun c13 => ?_)
    · rw [if_pos c13] at h
      refine eE_iload_n lk357_333 g3 ?_
      cases h
      exact eE_end lk357_334 rfl rfl rfl
    · rw [if_neg c13] at h
      refine eE_iload_n lk357_309 g3 ?_
      refine eE_aload_n lk357_310 g0 ?_
      refine eR_getA lk357_311 rf_251 rfl ?_
      refine eE_iload lk357_314 g4 ?_
      obtain ⟨x14, h15, h⟩ := Option.bind_eq_some_iff.mp h
      refine eR_bald lk357_316 rfl (Or.inr rfl) h15 ?_
      refine eE_if (t := 324) lk357_317 (by decide) (fun c16 => ?_) (fun c16 => ?_)
      · rw [if_pos c16] at h
        refine eE_iconst (v := 0) lk357_324 (by decide) ?_
        exact m_server_b325_ok hp0 hKK lv σ l3 ((0 : Int32)) l1 l4 g0 g1 g4 _ h
      · rw [if_neg c16] at h
        refine eE_iconst (v := 1) lk357_320 (by decide) ?_
        refine eE_goto (t := 325) lk357_321 (by decide) ?_
        exact m_server_b325_ok hp0 hKK lv σ l3 ((1 : Int32)) l1 l4 g0 g1 g4 _ h
def m_server_b283 (F : Nat)  (σ : RS) (s0 : Int32) : Option (Int32 × RS) :=
  some (s0, σ)
set_option maxRecDepth 4000 in
theorem m_server_b283_ok {pF : Nat → List Value → xH → Option (Option Value × xH)} {d : Nat} {aR : Nat} {G : Nat → xC} {T : Nat × Nat} {F : Nat} (hp0 : xNP pF)  : ∀ (lv : xL) (σ : RS) (s0 : Int32), xg lv 0 = some (.ref aR) → ∀ res, m_server_b283 F  σ s0 = some res → xR pF (d + 1) kT357 16 5 false (some .int) (some (.int res.1)) (layR aR res.2 G, T) (283, lv, [.int s0], (layR aR σ G, T)) := by
  intro lv σ s0 g0 res h
  unfold m_server_b283 at h
  cases h
  exact eE_end lk357_283 rfl rfl rfl
def m_server_b262 (F : Nat)  (σ : RS) (s0 : Int32) : Option (Int32 × RS) :=
  some (s0, σ)
set_option maxRecDepth 4000 in
theorem m_server_b262_ok {pF : Nat → List Value → xH → Option (Option Value × xH)} {d : Nat} {aR : Nat} {G : Nat → xC} {T : Nat × Nat} {F : Nat} (hp0 : xNP pF)  : ∀ (lv : xL) (σ : RS) (s0 : Int32), xg lv 0 = some (.ref aR) → ∀ res, m_server_b262 F  σ s0 = some res → xR pF (d + 1) kT357 16 5 false (some .int) (some (.int res.1)) (layR aR res.2 G, T) (262, lv, [.int s0], (layR aR σ G, T)) := by
  intro lv σ s0 g0 res h
  unfold m_server_b262 at h
  cases h
  exact eE_end lk357_262 rfl rfl rfl
def m_server_b30 (F : Nat)  (σ : RS) (s1 : Int32) (l1 : Int32) (l2 : Int32) : Option (Int32 × RS) :=
  (some (setI σ 0 0 s1)).bind fun σ17 =>
  if xc0 .le (σ17.1 0 0) = true then (
    if xc0 .ne l2 = true then (
      (rld σ17 52 l1).bind fun x21 =>
      if xc0 .ne x21 = true then (
        if l2 = (1 : Int32) then (
          (rld σ17 73 l1).bind fun x31 =>
          some (x31, σ17)
        ) else (
        if l2 = (2 : Int32) then (
          (rld σ17 53 l1).bind fun x34 =>
          some (x34, σ17)
        ) else (
        if l2 = (3 : Int32) then (
          (rld σ17 54 l1).bind fun x37 =>
          some (x37, σ17)
        ) else (
        if l2 = (4 : Int32) then (
          (rld σ17 74 l1).bind fun x40 =>
          some (x40, σ17)
        ) else (
        if l2 = (5 : Int32) then (
          (rld σ17 75 l1).bind fun x43 =>
          some (x43, σ17)
        ) else (
        if l2 = (6 : Int32) then (
          (rld σ17 76 l1).bind fun x46 =>
          some (x46, σ17)
        ) else (
        if l2 = (7 : Int32) then (
          (rld σ17 77 l1).bind fun x49 =>
          some (x49, σ17)
        ) else (
        if l2 = (8 : Int32) then (
          (rld σ17 55 l1).bind fun x52 =>
          some (x52, σ17)
        ) else (
        if l2 = (9 : Int32) then (
          (rld σ17 56 l1).bind fun x55 =>
          some (x55, σ17)
        ) else (
        if l2 = (10 : Int32) then (
          (rld σ17 65 l1).bind fun x58 =>
          some (x58, σ17)
        ) else (
        if l2 = (11 : Int32) then (
          (rld σ17 79 l1).bind fun x61 =>
          some (x61, σ17)
        ) else (
        if l2 = (12 : Int32) then (
          (rld σ17 80 l1).bind fun x64 =>
          some (x64, σ17)
        ) else (
        if l2 = (13 : Int32) then (
          (rld σ17 71 l1).bind fun x67 =>
          if xc0 .eq x67 = true then (
            m_server_b262 F  σ17 ((0 : Int32))
          ) else (
            m_server_b262 F  σ17 ((1 : Int32))
          )
        ) else (
        if l2 = (14 : Int32) then (
          (rld σ17 73 l1).bind fun x71 =>
          if xc2 .ne x71 ((3 : Int32)) = true then (
            m_server_b283 F  σ17 ((0 : Int32))
          ) else (
            (rld σ17 83 l1).bind fun x74 =>
            m_server_b283 F  σ17 x74
          )
        ) else (
        if l2 = (15 : Int32) then (
          (rld σ17 85 l1).bind fun x77 =>
          some (x77, σ17)
        ) else (
        if l2 = (16 : Int32) then (
          m_server_b297 F  F σ17 l1 ((0 : Int32)) (((32 : Int32)) * l1)
        ) else (
        if l2 = (17 : Int32) then (
          (rld σ17 106 l1).bind fun x87 =>
          some (x87, σ17)
        ) else (
        if l2 = (18 : Int32) then (
          (rld σ17 113 l1).bind fun x90 =>
          some (x90, σ17)
        ) else (
        if l2 = (19 : Int32) then (
          (m_units F σ17 l1).bind fun p93 =>
          some (p93.1, p93.2)
        ) else (
          (rld σ17 67 l1).bind fun x95 =>
          some (x95, σ17)
        )
        )
        )
        )
        )
        )
        )
        )
        )
        )
        )
        )
        )
        )
        )
        )
        )
        )
        )
      ) else (
        some ((-1 : Int32), σ17)
      )
    ) else (
      (rld σ17 52 l1).bind fun x97 =>
      if xc0 .eq x97 = true then (
        m_server_b60 F  σ17 ((0 : Int32))
      ) else (
        m_server_b60 F  σ17 ((1 : Int32))
      )
    )
  ) else (
    some ((0 : Int32), σ17)
  )
set_option maxRecDepth 4000 in
theorem m_server_b30_ok {pF : Nat → List Value → xH → Option (Option Value × xH)} {d : Nat} {aR : Nat} {G : Nat → xC} {T : Nat × Nat} {F : Nat} (hp0 : xNP pF)  : ∀ (lv : xL) (σ : RS) (s1 : Int32) (l1 : Int32) (l2 : Int32), xg lv 0 = some (.ref aR) → xg lv 1 = some (.int l1) → xg lv 2 = some (.int l2) → ∀ res, m_server_b30 F  σ s1 l1 l2 = some res → xR pF (d + 1) kT357 16 5 false (some .int) (some (.int res.1)) (layR aR res.2 G, T) (30, lv, [.int s1, .ref aR], (layR aR σ G, T)) := by
  intro lv σ s1 l1 l2 g0 g1 g2 res h
  unfold m_server_b30 at h
  obtain ⟨σ17, h18, h⟩ := Option.bind_eq_some_iff.mp h
  refine eR_putS lk357_30 rf_393 rfl (by decide) pf_0.1 pf_0.2 h18 ?_
  refine eE_aload_n lk357_33 g0 ?_
  refine eR_get lk357_34 rf_393 rfl ?_
  refine eE_if (t := 42) lk357_37 (by decide) (fun c19 => ?_) (fun c19 => ?_)
  · rw [if_pos c19] at h
    refine eE_iload_n lk357_42 g2 ?_
    refine eE_if (t := 61) lk357_43 (by decide) (fun c20 => ?_) (fun c20 => ?_)
    · rw [if_pos c20] at h
      refine eE_aload_n lk357_61 g0 ?_
      refine eR_getA lk357_62 rf_120 rfl ?_
      refine eE_iload_n lk357_65 g1 ?_
      obtain ⟨x21, h22, h⟩ := Option.bind_eq_some_iff.mp h
      refine eR_bald lk357_66 rfl (Or.inr rfl) h22 ?_
      refine eE_if (t := 72) lk357_67 (by decide) (fun c23 => ?_) (fun c23 => ?_)
      · rw [if_pos c23] at h
        refine eE_iconst (v := 0) lk357_72 (by decide) ?_
        refine eE_stI (j := 3) lk357_73 (Or.inr ⟨_, rfl, rfl⟩) (by decide) (fun vq24 gq25 kq26 => ?_)
        have gq27 := kq26 1 _ (by decide) (fun _ => rfl) g1
        have gq28 := kq26 2 _ (by decide) (fun _ => rfl) g2
        have gq29 := kq26 0 _ (by decide) (fun _ => rfl) g0
        refine eE_iload_n lk357_74 gq28 ?_
        by_cases c30 : l2 = (1 : Int32)
        · rw [if_pos c30] at h
          refine eE_tsw (t := 164) (off := 89) lk357_75 (by rw [c30]; decide) (by rw [c30]; rfl) (by decide) ?_
          refine eE_aload_n lk357_164 gq29 ?_
          refine eR_getA lk357_165 rf_185 rfl ?_
          refine eE_iload_n lk357_168 gq27 ?_
          obtain ⟨x31, h32, h⟩ := Option.bind_eq_some_iff.mp h
          refine eR_iald lk357_169 rfl rfl h32 ?_
          cases h
          exact eE_end lk357_170 rfl rfl rfl
        rw [if_neg c30] at h
        by_cases c33 : l2 = (2 : Int32)
        · rw [if_pos c33] at h
          refine eE_tsw (t := 171) (off := 96) lk357_75 (by rw [c33]; decide) (by rw [c33]; rfl) (by decide) ?_
          refine eE_aload_n lk357_171 gq29 ?_
          refine eR_getA lk357_172 rf_123 rfl ?_
          refine eE_iload_n lk357_175 gq27 ?_
          obtain ⟨x34, h35, h⟩ := Option.bind_eq_some_iff.mp h
          refine eR_iald lk357_176 rfl rfl h35 ?_
          cases h
          exact eE_end lk357_177 rfl rfl rfl
        rw [if_neg c33] at h
        by_cases c36 : l2 = (3 : Int32)
        · rw [if_pos c36] at h
          refine eE_tsw (t := 178) (off := 103) lk357_75 (by rw [c36]; decide) (by rw [c36]; rfl) (by decide) ?_
          refine eE_aload_n lk357_178 gq29 ?_
          refine eR_getA lk357_179 rf_126 rfl ?_
          refine eE_iload_n lk357_182 gq27 ?_
          obtain ⟨x37, h38, h⟩ := Option.bind_eq_some_iff.mp h
          refine eR_iald lk357_183 rfl rfl h38 ?_
          cases h
          exact eE_end lk357_184 rfl rfl rfl
        rw [if_neg c36] at h
        by_cases c39 : l2 = (4 : Int32)
        · rw [if_pos c39] at h
          refine eE_tsw (t := 185) (off := 110) lk357_75 (by rw [c39]; decide) (by rw [c39]; rfl) (by decide) ?_
          refine eE_aload_n lk357_185 gq29 ?_
          refine eR_getA lk357_186 rf_188 rfl ?_
          refine eE_iload_n lk357_189 gq27 ?_
          obtain ⟨x40, h41, h⟩ := Option.bind_eq_some_iff.mp h
          refine eR_iald lk357_190 rfl rfl h41 ?_
          cases h
          exact eE_end lk357_191 rfl rfl rfl
        rw [if_neg c39] at h
        by_cases c42 : l2 = (5 : Int32)
        · rw [if_pos c42] at h
          refine eE_tsw (t := 192) (off := 117) lk357_75 (by rw [c42]; decide) (by rw [c42]; rfl) (by decide) ?_
          refine eE_aload_n lk357_192 gq29 ?_
          refine eR_getA lk357_193 rf_191 rfl ?_
          refine eE_iload_n lk357_196 gq27 ?_
          obtain ⟨x43, h44, h⟩ := Option.bind_eq_some_iff.mp h
          refine eR_iald lk357_197 rfl rfl h44 ?_
          cases h
          exact eE_end lk357_198 rfl rfl rfl
        rw [if_neg c42] at h
        by_cases c45 : l2 = (6 : Int32)
        · rw [if_pos c45] at h
          refine eE_tsw (t := 199) (off := 124) lk357_75 (by rw [c45]; decide) (by rw [c45]; rfl) (by decide) ?_
          refine eE_aload_n lk357_199 gq29 ?_
          refine eR_getA lk357_200 rf_194 rfl ?_
          refine eE_iload_n lk357_203 gq27 ?_
          obtain ⟨x46, h47, h⟩ := Option.bind_eq_some_iff.mp h
          refine eR_iald lk357_204 rfl rfl h47 ?_
          cases h
          exact eE_end lk357_205 rfl rfl rfl
        rw [if_neg c45] at h
        by_cases c48 : l2 = (7 : Int32)
        · rw [if_pos c48] at h
          refine eE_tsw (t := 206) (off := 131) lk357_75 (by rw [c48]; decide) (by rw [c48]; rfl) (by decide) ?_
          refine eE_aload_n lk357_206 gq29 ?_
          refine eR_getA lk357_207 rf_197 rfl ?_
          refine eE_iload_n lk357_210 gq27 ?_
          obtain ⟨x49, h50, h⟩ := Option.bind_eq_some_iff.mp h
          refine eR_iald lk357_211 rfl rfl h50 ?_
          cases h
          exact eE_end lk357_212 rfl rfl rfl
        rw [if_neg c48] at h
        by_cases c51 : l2 = (8 : Int32)
        · rw [if_pos c51] at h
          refine eE_tsw (t := 213) (off := 138) lk357_75 (by rw [c51]; decide) (by rw [c51]; rfl) (by decide) ?_
          refine eE_aload_n lk357_213 gq29 ?_
          refine eR_getA lk357_214 rf_129 rfl ?_
          refine eE_iload_n lk357_217 gq27 ?_
          obtain ⟨x52, h53, h⟩ := Option.bind_eq_some_iff.mp h
          refine eR_iald lk357_218 rfl rfl h53 ?_
          cases h
          exact eE_end lk357_219 rfl rfl rfl
        rw [if_neg c51] at h
        by_cases c54 : l2 = (9 : Int32)
        · rw [if_pos c54] at h
          refine eE_tsw (t := 220) (off := 145) lk357_75 (by rw [c54]; decide) (by rw [c54]; rfl) (by decide) ?_
          refine eE_aload_n lk357_220 gq29 ?_
          refine eR_getA lk357_221 rf_132 rfl ?_
          refine eE_iload_n lk357_224 gq27 ?_
          obtain ⟨x55, h56, h⟩ := Option.bind_eq_some_iff.mp h
          refine eR_iald lk357_225 rfl rfl h56 ?_
          cases h
          exact eE_end lk357_226 rfl rfl rfl
        rw [if_neg c54] at h
        by_cases c57 : l2 = (10 : Int32)
        · rw [if_pos c57] at h
          refine eE_tsw (t := 227) (off := 152) lk357_75 (by rw [c57]; decide) (by rw [c57]; rfl) (by decide) ?_
          refine eE_aload_n lk357_227 gq29 ?_
          refine eR_getA lk357_228 rf_160 rfl ?_
          refine eE_iload_n lk357_231 gq27 ?_
          obtain ⟨x58, h59, h⟩ := Option.bind_eq_some_iff.mp h
          refine eR_iald lk357_232 rfl rfl h59 ?_
          cases h
          exact eE_end lk357_233 rfl rfl rfl
        rw [if_neg c57] at h
        by_cases c60 : l2 = (11 : Int32)
        · rw [if_pos c60] at h
          refine eE_tsw (t := 234) (off := 159) lk357_75 (by rw [c60]; decide) (by rw [c60]; rfl) (by decide) ?_
          refine eE_aload_n lk357_234 gq29 ?_
          refine eR_getA lk357_235 rf_203 rfl ?_
          refine eE_iload_n lk357_238 gq27 ?_
          obtain ⟨x61, h62, h⟩ := Option.bind_eq_some_iff.mp h
          refine eR_iald lk357_239 rfl rfl h62 ?_
          cases h
          exact eE_end lk357_240 rfl rfl rfl
        rw [if_neg c60] at h
        by_cases c63 : l2 = (12 : Int32)
        · rw [if_pos c63] at h
          refine eE_tsw (t := 241) (off := 166) lk357_75 (by rw [c63]; decide) (by rw [c63]; rfl) (by decide) ?_
          refine eE_aload_n lk357_241 gq29 ?_
          refine eR_getA lk357_242 rf_206 rfl ?_
          refine eE_iload_n lk357_245 gq27 ?_
          obtain ⟨x64, h65, h⟩ := Option.bind_eq_some_iff.mp h
          refine eR_iald lk357_246 rfl rfl h65 ?_
          cases h
          exact eE_end lk357_247 rfl rfl rfl
        rw [if_neg c63] at h
        by_cases c66 : l2 = (13 : Int32)
        · rw [if_pos c66] at h
          refine eE_tsw (t := 248) (off := 173) lk357_75 (by rw [c66]; decide) (by rw [c66]; rfl) (by decide) ?_
          refine eE_aload_n lk357_248 gq29 ?_
          refine eR_getA lk357_249 rf_179 rfl ?_
          refine eE_iload_n lk357_252 gq27 ?_
          obtain ⟨x67, h68, h⟩ := Option.bind_eq_some_iff.mp h
          refine eR_bald lk357_253 rfl (Or.inr rfl) h68 ?_
          refine eE_if (t := 261) lk357_254 (by decide) (fun c69 => ?_) (fun c69 => ?_)
          · rw [if_pos c69] at h
            refine eE_iconst (v := 0) lk357_261 (by decide) ?_
            exact m_server_b262_ok hp0  vq24 σ17 ((0 : Int32)) gq29 _ h
          · rw [if_neg c69] at h
            refine eE_iconst (v := 1) lk357_257 (by decide) ?_
            refine eE_goto (t := 262) lk357_258 (by decide) ?_
            exact m_server_b262_ok hp0  vq24 σ17 ((1 : Int32)) gq29 _ h
        rw [if_neg c66] at h
        by_cases c70 : l2 = (14 : Int32)
        · rw [if_pos c70] at h
          refine eE_tsw (t := 263) (off := 188) lk357_75 (by rw [c70]; decide) (by rw [c70]; rfl) (by decide) ?_
          refine eE_aload_n lk357_263 gq29 ?_
          refine eR_getA lk357_264 rf_185 rfl ?_
          refine eE_iload_n lk357_267 gq27 ?_
          obtain ⟨x71, h72, h⟩ := Option.bind_eq_some_iff.mp h
          refine eR_iald lk357_268 rfl rfl h72 ?_
          refine eE_iconst (v := 3) lk357_269 (by decide) ?_
          refine eE_icmp (t := 282) lk357_270 (by decide) (fun c73 => ?_) (fun c73 => ?_)
          · rw [if_pos c73] at h
            refine eE_iconst (v := 0) lk357_282 (by decide) ?_
            exact m_server_b283_ok hp0  vq24 σ17 ((0 : Int32)) gq29 _ h
          · rw [if_neg c73] at h
            refine eE_aload_n lk357_273 gq29 ?_
            refine eR_getA lk357_274 rf_215 rfl ?_
            refine eE_iload_n lk357_277 gq27 ?_
            obtain ⟨x74, h75, h⟩ := Option.bind_eq_some_iff.mp h
            refine eR_iald lk357_278 rfl rfl h75 ?_
            refine eE_goto (t := 283) lk357_279 (by decide) ?_
            exact m_server_b283_ok hp0  vq24 σ17 x74 gq29 _ h
        rw [if_neg c70] at h
        by_cases c76 : l2 = (15 : Int32)
        · rw [if_pos c76] at h
          refine eE_tsw (t := 284) (off := 209) lk357_75 (by rw [c76]; decide) (by rw [c76]; rfl) (by decide) ?_
          refine eE_aload_n lk357_284 gq29 ?_
          refine eR_getA lk357_285 rf_221 rfl ?_
          refine eE_iload_n lk357_288 gq27 ?_
          obtain ⟨x77, h78, h⟩ := Option.bind_eq_some_iff.mp h
          refine eR_iald lk357_289 rfl rfl h78 ?_
          cases h
          exact eE_end lk357_290 rfl rfl rfl
        rw [if_neg c76] at h
        by_cases c79 : l2 = (16 : Int32)
        · rw [if_pos c79] at h
          refine eE_tsw (t := 291) (off := 216) lk357_75 (by rw [c79]; decide) (by rw [c79]; rfl) (by decide) ?_
          refine eE_bipush (v := 32) lk357_291 (by decide) ?_
          refine eE_iload_n lk357_293 gq27 ?_
          refine eE_imul lk357_294 ?_
          refine eE_stI (j := 4) lk357_295 (Or.inl rfl) (by decide) (fun vq80 gq81 kq82 => ?_)
          have gq83 := kq82 1 _ (by decide) (fun _ => rfl) gq27
          have gq84 := kq82 0 _ (by decide) (fun _ => rfl) gq29
          have gq85 := kq82 3 _ (by decide) (fun _ => rfl) gq25
          exact m_server_b297_ok hp0  F vq80 σ17 l1 ((0 : Int32)) (((32 : Int32)) * l1) gq84 gq83 gq85 gq81 _ h
        rw [if_neg c79] at h
        by_cases c86 : l2 = (17 : Int32)
        · rw [if_pos c86] at h
          refine eE_tsw (t := 335) (off := 260) lk357_75 (by rw [c86]; decide) (by rw [c86]; rfl) (by decide) ?_
          refine eE_aload_n lk357_335 gq29 ?_
          refine eR_getA lk357_336 rf_284 rfl ?_
          refine eE_iload_n lk357_339 gq27 ?_
          obtain ⟨x87, h88, h⟩ := Option.bind_eq_some_iff.mp h
          refine eR_iald lk357_340 rfl rfl h88 ?_
          cases h
          exact eE_end lk357_341 rfl rfl rfl
        rw [if_neg c86] at h
        by_cases c89 : l2 = (18 : Int32)
        · rw [if_pos c89] at h
          refine eE_tsw (t := 342) (off := 267) lk357_75 (by rw [c89]; decide) (by rw [c89]; rfl) (by decide) ?_
          refine eE_aload_n lk357_342 gq29 ?_
          refine eR_getA lk357_343 rf_305 rfl ?_
          refine eE_iload_n lk357_346 gq27 ?_
          obtain ⟨x90, h91, h⟩ := Option.bind_eq_some_iff.mp h
          refine eR_iald lk357_347 rfl rfl h91 ?_
          cases h
          exact eE_end lk357_348 rfl rfl rfl
        rw [if_neg c89] at h
        by_cases c92 : l2 = (19 : Int32)
        · rw [if_pos c92] at h
          refine eE_tsw (t := 349) (off := 274) lk357_75 (by rw [c92]; decide) (by rw [c92]; rfl) (by decide) ?_
          refine eE_aload_n lk357_349 gq29 ?_
          refine eE_iload_n lk357_350 gq27 ?_
          obtain ⟨p93, h94, h⟩ := Option.bind_eq_some_iff.mp h
          refine eR_call (as := [.int l1]) lk357_351 mr_576 na_375 rfl rfl (Nat.le_of_ble_eq_true rfl) wv_375 wc_375 (m_units_ok hp0 (d := d + 0) h94) ?_
          cases h
          exact eE_end lk357_354 rfl rfl rfl
        rw [if_neg c92] at h
        refine eE_tswD (t := 355) lk357_75 (xsw_out (n := 19) (fun j hj => ?_)) (by decide) ?_
        · match j, hj with
          | 0, _ => exact c30
          | 1, _ => exact c33
          | 2, _ => exact c36
          | 3, _ => exact c39
          | 4, _ => exact c42
          | 5, _ => exact c45
          | 6, _ => exact c48
          | 7, _ => exact c51
          | 8, _ => exact c54
          | 9, _ => exact c57
          | 10, _ => exact c60
          | 11, _ => exact c63
          | 12, _ => exact c66
          | 13, _ => exact c70
          | 14, _ => exact c76
          | 15, _ => exact c79
          | 16, _ => exact c86
          | 17, _ => exact c89
          | 18, _ => exact c92
          | q + 19, hj => exact absurd hj (by omega)
        refine eE_aload_n lk357_355 gq29 ?_
        refine eR_getA lk357_356 rf_167 rfl ?_
        refine eE_iload_n lk357_359 gq27 ?_
        obtain ⟨x95, h96, h⟩ := Option.bind_eq_some_iff.mp h
        refine eR_iald lk357_360 rfl rfl h96 ?_
        cases h
        exact eE_end lk357_361 rfl rfl rfl
      · rw [if_neg c23] at h
        refine eE_iconst (v := (-1)) lk357_70 (by decide) ?_
        cases h
        exact eE_end lk357_71 rfl rfl rfl
    · rw [if_neg c20] at h
      refine eE_aload_n lk357_46 g0 ?_
      refine eR_getA lk357_47 rf_120 rfl ?_
      refine eE_iload_n lk357_50 g1 ?_
      obtain ⟨x97, h98, h⟩ := Option.bind_eq_some_iff.mp h
      refine eR_bald lk357_51 rfl (Or.inr rfl) h98 ?_
      refine eE_if (t := 59) lk357_52 (by decide) (fun c99 => ?_) (fun c99 => ?_)
      · rw [if_pos c99] at h
        refine eE_iconst (v := 0) lk357_59 (by decide) ?_
        exact m_server_b60_ok hp0  lv σ17 ((0 : Int32)) g0 _ h
      · rw [if_neg c99] at h
        refine eE_iconst (v := 1) lk357_55 (by decide) ?_
        refine eE_goto (t := 60) lk357_56 (by decide) ?_
        exact m_server_b60_ok hp0  lv σ17 ((1 : Int32)) g0 _ h
  · rw [if_neg c19] at h
    refine eE_iconst (v := 0) lk357_40 (by decide) ?_
    cases h
    exact eE_end lk357_41 rfl rfl rfl
def m_server_b29 (F : Nat)  (σ : RS) (l1 : Int32) (l2 : Int32) : Option (Int32 × RS) :=
  m_server_b30 F  σ ((1 : Int32)) l1 l2
set_option maxRecDepth 4000 in
theorem m_server_b29_ok {pF : Nat → List Value → xH → Option (Option Value × xH)} {d : Nat} {aR : Nat} {G : Nat → xC} {T : Nat × Nat} {F : Nat} (hp0 : xNP pF)  : ∀ (lv : xL) (σ : RS) (l1 : Int32) (l2 : Int32), xg lv 0 = some (.ref aR) → xg lv 1 = some (.int l1) → xg lv 2 = some (.int l2) → ∀ res, m_server_b29 F  σ l1 l2 = some res → xR pF (d + 1) kT357 16 5 false (some .int) (some (.int res.1)) (layR aR res.2 G, T) (29, lv, [.ref aR], (layR aR σ G, T)) := by
  intro lv σ l1 l2 g0 g1 g2 res h
  unfold m_server_b29 at h
  refine eE_iconst (v := 1) lk357_29 (by decide) ?_
  exact m_server_b30_ok hp0  lv σ ((1 : Int32)) l1 l2 g0 g1 g2 _ h
def m_server_b0 (F : Nat)  (σ : RS) (l1 : Int32) (l2 : Int32) : Option (Int32 × RS) :=
  (m_in (l1.toInt64) ((0 : Int64)) ((6 : Int64))).bind fun p100 =>
  if xc0 .eq p100 = true then (
    m_server_b29 F  σ l1 l2
  ) else (
    (m_in (l2.toInt64) ((0 : Int64)) ((20 : Int64))).bind fun p103 =>
    if xc0 .eq p103 = true then (
      m_server_b29 F  σ l1 l2
    ) else (
      m_server_b30 F  σ ((0 : Int32)) l1 l2
    )
  )
set_option maxRecDepth 4000 in
theorem m_server_b0_ok {pF : Nat → List Value → xH → Option (Option Value × xH)} {d : Nat} {aR : Nat} {G : Nat → xC} {T : Nat × Nat} {F : Nat} (hp0 : xNP pF)  : ∀ (lv : xL) (σ : RS) (l1 : Int32) (l2 : Int32), xg lv 0 = some (.ref aR) → xg lv 1 = some (.int l1) → xg lv 2 = some (.int l2) → ∀ res, m_server_b0 F  σ l1 l2 = some res → xR pF (d + 1) kT357 16 5 false (some .int) (some (.int res.1)) (layR aR res.2 G, T) (0, lv, [], (layR aR σ G, T)) := by
  intro lv σ l1 l2 g0 g1 g2 res h
  unfold m_server_b0 at h
  refine eE_aload_n lk357_0 g0 ?_
  refine eE_iload_n lk357_1 g1 ?_
  refine eE_i2l lk357_2 ?_
  refine eE_lconst (v := 0) lk357_3 (by decide) ?_
  refine eE_ldc2_w (v := 6) lk357_4 xl_827 ?_
  obtain ⟨p100, h101, h⟩ := Option.bind_eq_some_iff.mp h
  refine eE_stat (as := [.long (l1.toInt64), .long ((0 : Int64)), .long ((6 : Int64))]) lk357_7 mr_799 na_294 rfl rfl (Nat.le_of_ble_eq_true rfl) mm_294 ws_294 (m_in_ok hp0 (d := d + 0) h101) ?_
  refine eE_if (t := 29) lk357_10 (by decide) (fun c102 => ?_) (fun c102 => ?_)
  · rw [if_pos c102] at h
    exact m_server_b29_ok hp0  lv σ l1 l2 g0 g1 g2 _ h
  · rw [if_neg c102] at h
    refine eE_iload_n lk357_13 g2 ?_
    refine eE_i2l lk357_14 ?_
    refine eE_lconst (v := 0) lk357_15 (by decide) ?_
    refine eE_ldc2_w (v := 20) lk357_16 xl_797 ?_
    obtain ⟨p103, h104, h⟩ := Option.bind_eq_some_iff.mp h
    refine eE_stat (as := [.long (l2.toInt64), .long ((0 : Int64)), .long ((20 : Int64))]) lk357_19 mr_799 na_294 rfl rfl (Nat.le_of_ble_eq_true rfl) mm_294 ws_294 (m_in_ok hp0 (d := d + 0) h104) ?_
    refine eE_if (t := 29) lk357_22 (by decide) (fun c105 => ?_) (fun c105 => ?_)
    · rw [if_pos c105] at h
      exact m_server_b29_ok hp0  lv σ l1 l2 g0 g1 g2 _ h
    · rw [if_neg c105] at h
      refine eE_iconst (v := 0) lk357_25 (by decide) ?_
      refine eE_goto (t := 30) lk357_26 (by decide) ?_
      exact m_server_b30_ok hp0  lv σ ((0 : Int32)) l1 l2 g0 g1 g2 _ h
def m_server (F : Nat) (σ : RS) (l1 : Int32) (l2 : Int32) : Option (Int32 × RS) := m_server_b0 F σ l1 l2
theorem m_server_ok {pF : Nat → List Value → xH → Option (Option Value × xH)} (hp0 : xNP pF) {d : Nat} {aR : Nat} {G : Nat → xC} {T : Nat × Nat} {σ : RS} {F : Nat} {l1 : Int32} {l2 : Int32} {res : Int32 × RS} (h : m_server F σ l1 l2 = some res) : xCo pF (d + 2) 357 [.ref aR, .int l1, .int l2] (layR aR σ G, T) (some (.int res.1)) (layR aR res.2 G, T) := by
  unfold m_server at h
  exact xCo_R kk_357 mo_357 ni_357 xm_357 (Nat.le_of_ble_eq_true rfl) (hp0 _ (by decide) (by decide) _ _) (m_server_b0_ok hp0 _ σ l1 l2 rfl rfl rfl _ h)
