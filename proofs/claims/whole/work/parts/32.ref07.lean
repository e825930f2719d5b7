/-! printed by wip/whole/gen_ref.py -/
/-! canChange (255), depth 2 -/
def m_canChange_b75  (σ : RS) (s0 : Int32) : Option (Int32 × RS) :=
  if s0 = 0 ∨ s0 = 1 then some (s0, σ) else none
set_option maxRecDepth 4000 in
theorem m_canChange_b75_ok {pF : Nat → List Value → xH → Option (Option Value × xH)} {d : Nat} {aR : Nat} {G : Nat → xC} {T : Nat × Nat} (hp0 : xNP pF)  : ∀ (lv : xL) (σ : RS) (s0 : Int32), xg lv 0 = some (.ref aR) → ∀ res, m_canChange_b75  σ s0 = some res → xR pF (d + 1) kT255 16 2 false (some .boolean) (some (.int res.1)) (layR aR res.2 G, T) (75, lv, [.int s0], (layR aR σ G, T)) := by
  intro lv σ s0 g0 res h
  unfold m_canChange_b75 at h
  by_cases z1 : s0 = 0 ∨ s0 = 1
  · rw [if_pos z1] at h; cases h
    exact eE_end lk255_75 rfl rfl (by first | (simp only [xfin, if_true, if_pos z1]; done) | simp [xfin, z1])
  · rw [if_neg z1] at h; cases h
def m_canChange_b74  (σ : RS) : Option (Int32 × RS) :=
  m_canChange_b75  σ ((0 : Int32))
set_option maxRecDepth 4000 in
theorem m_canChange_b74_ok {pF : Nat → List Value → xH → Option (Option Value × xH)} {d : Nat} {aR : Nat} {G : Nat → xC} {T : Nat × Nat} (hp0 : xNP pF)  : ∀ (lv : xL) (σ : RS), xg lv 0 = some (.ref aR) → ∀ res, m_canChange_b74  σ = some res → xR pF (d + 1) kT255 16 2 false (some .boolean) (some (.int res.1)) (layR aR res.2 G, T) (74, lv, [], (layR aR σ G, T)) := by
  intro lv σ g0 res h
  unfold m_canChange_b74 at h
  refine eE_iconst (v := 0) lk255_74 (by decide) ?_
  exact m_canChange_b75_ok hp0  lv σ ((0 : Int32)) g0 _ h
def m_canChange_b0  (σ : RS) (l1 : Int32) : Option (Int32 × RS) :=
  (rld σ 52 l1).bind fun x2 =>
  if xc0 .eq x2 = true then (
    m_canChange_b74  σ
  ) else (
    (rld σ 73 l1).bind fun x5 =>
    if xc2 .ne x5 ((3 : Int32)) = true then (
      m_canChange_b74  σ
    ) else (
      (rld σ 80 l1).bind fun x8 =>
      if xc0 .ge x8 = true then (
        m_canChange_b74  σ
      ) else (
        (rld σ 56 l1).bind fun x11 =>
        (rld σ 55 l1).bind fun x13 =>
        if xc2 .ge (x11 - x13) ((200 : Int32)) = true then (
          m_canChange_b74  σ
        ) else (
          (rld σ 64 l1).bind fun x16 =>
          (rld σ 75 l1).bind fun x18 =>
          if xc2 .gt x16 x18 = true then (
            m_canChange_b74  σ
          ) else (
            (m_fresh σ l1).bind fun p21 =>
            if xc0 .ne p21.1 = true then (
              m_canChange_b74  p21.2
            ) else (
              m_canChange_b75  p21.2 ((1 : Int32))
            )
          )
        )
      )
    )
  )
set_option maxRecDepth 4000 in
theorem m_canChange_b0_ok {pF : Nat → List Value → xH → Option (Option Value × xH)} {d : Nat} {aR : Nat} {G : Nat → xC} {T : Nat × Nat} (hp0 : xNP pF)  : ∀ (lv : xL) (σ : RS) (l1 : Int32), xg lv 0 = some (.ref aR) → xg lv 1 = some (.int l1) → ∀ res, m_canChange_b0  σ l1 = some res → xR pF (d + 1) kT255 16 2 false (some .boolean) (some (.int res.1)) (layR aR res.2 G, T) (0, lv, [], (layR aR σ G, T)) := by
  intro lv σ l1 g0 g1 res h
  unfold m_canChange_b0 at h
  refine eE_aload_n lk255_0 g0 ?_
  refine eR_getA lk255_1 rf_120 rfl ?_
  refine eE_iload_n lk255_4 g1 ?_
  obtain ⟨x2, h3, h⟩ := Option.bind_eq_some_iff.mp h
  refine eR_bald lk255_5 rfl (Or.inr rfl) h3 ?_
  refine eE_if (t := 74) lk255_6 (by decide) (fun c4 => ?_) (fun c4 => ?_)
  · rw [if_pos c4] at h
    exact m_canChange_b74_ok hp0  lv σ g0 _ h
  · rw [if_neg c4] at h
    refine eE_aload_n lk255_9 g0 ?_
    refine eR_getA lk255_10 rf_185 rfl ?_
    refine eE_iload_n lk255_13 g1 ?_
    obtain ⟨x5, h6, h⟩ := Option.bind_eq_some_iff.mp h
    refine eR_iald lk255_14 rfl rfl h6 ?_
    refine eE_iconst (v := 3) lk255_15 (by decide) ?_
    refine eE_icmp (t := 74) lk255_16 (by decide) (fun c7 => ?_) (fun c7 => ?_)
    · rw [if_pos c7] at h
      exact m_canChange_b74_ok hp0  lv σ g0 _ h
    · rw [if_neg c7] at h
      refine eE_aload_n lk255_19 g0 ?_
      refine eR_getA lk255_20 rf_206 rfl ?_
      refine eE_iload_n lk255_23 g1 ?_
      obtain ⟨x8, h9, h⟩ := Option.bind_eq_some_iff.mp h
      refine eR_iald lk255_24 rfl rfl h9 ?_
      refine eE_if (t := 74) lk255_25 (by decide) (fun c10 => ?_) (fun c10 => ?_)
      · rw [if_pos c10] at h
        exact m_canChange_b74_ok hp0  lv σ g0 _ h
      · rw [if_neg c10] at h
        refine eE_aload_n lk255_28 g0 ?_
        refine eR_getA lk255_29 rf_132 rfl ?_
        refine eE_iload_n lk255_32 g1 ?_
        obtain ⟨x11, h12, h⟩ := Option.bind_eq_some_iff.mp h
        refine eR_iald lk255_33 rfl rfl h12 ?_
        refine eE_aload_n lk255_34 g0 ?_
        refine eR_getA lk255_35 rf_129 rfl ?_
        refine eE_iload_n lk255_38 g1 ?_
        obtain ⟨x13, h14, h⟩ := Option.bind_eq_some_iff.mp h
        refine eR_iald lk255_39 rfl rfl h14 ?_
        refine eE_isub lk255_40 ?_
        refine eE_sipush (v := 200) lk255_41 (by decide) ?_
        refine eE_icmp (t := 74) lk255_44 (by decide) (fun c15 => ?_) (fun c15 => ?_)
        · rw [if_pos c15] at h
          exact m_canChange_b74_ok hp0  lv σ g0 _ h
        · rw [if_neg c15] at h
          refine eE_aload_n lk255_47 g0 ?_
          refine eR_getA lk255_48 rf_157 rfl ?_
          refine eE_iload_n lk255_51 g1 ?_
          obtain ⟨x16, h17, h⟩ := Option.bind_eq_some_iff.mp h
          refine eR_iald lk255_52 rfl rfl h17 ?_
          refine eE_aload_n lk255_53 g0 ?_
          refine eR_getA lk255_54 rf_191 rfl ?_
          refine eE_iload_n lk255_57 g1 ?_
          obtain ⟨x18, h19, h⟩ := Option.bind_eq_some_iff.mp h
          refine eR_iald lk255_58 rfl rfl h19 ?_
          refine eE_icmp (t := 74) lk255_59 (by decide) (fun c20 => ?_) (fun c20 => ?_)
          · rw [if_pos c20] at h
            exact m_canChange_b74_ok hp0  lv σ g0 _ h
          · rw [if_neg c20] at h
            refine eE_aload_n lk255_62 g0 ?_
            refine eE_iload_n lk255_63 g1 ?_
            obtain ⟨p21, h22, h⟩ := Option.bind_eq_some_iff.mp h
            refine eR_call (as := [.int l1]) lk255_64 mr_625 na_287 rfl rfl (Nat.le_of_ble_eq_true rfl) wv_287 wc_287 (m_fresh_ok hp0 (d := d + 0) h22) ?_
            refine eE_if (t := 74) lk255_67 (by decide) (fun c23 => ?_) (fun c23 => ?_)
            · rw [if_pos c23] at h
              exact m_canChange_b74_ok hp0  lv p21.2 g0 _ h
            · rw [if_neg c23] at h
              refine eE_iconst (v := 1) lk255_70 (by decide) ?_
              refine eE_goto (t := 75) lk255_71 (by decide) ?_
              exact m_canChange_b75_ok hp0  lv p21.2 ((1 : Int32)) g0 _ h
def m_canChange (σ : RS) (l1 : Int32) : Option (Int32 × RS) := m_canChange_b0 σ l1
theorem m_canChange_ok {pF : Nat → List Value → xH → Option (Option Value × xH)} (hp0 : xNP pF) {d : Nat} {aR : Nat} {G : Nat → xC} {T : Nat × Nat} {σ : RS} {l1 : Int32} {res : Int32 × RS} (h : m_canChange σ l1 = some res) : xCo pF (d + 2) 255 [.ref aR, .int l1] (layR aR σ G, T) (some (.int res.1)) (layR aR res.2 G, T) := by
  unfold m_canChange at h
  exact xCo_R kk_255 mo_255 ni_255 xm_255 (Nat.le_of_ble_eq_true rfl) (hp0 _ (by decide) (by decide) _ _) (m_canChange_b0_ok hp0 _ σ l1 rfl rfl _ h)
/-! client (256), depth 2 -/
def m_client_b125  (σ : RS) (s0 : Int32) : Option (Int32 × RS) :=
  some (s0, σ)
set_option maxRecDepth 4000 in
theorem m_client_b125_ok {pF : Nat → List Value → xH → Option (Option Value × xH)} {d : Nat} {aR : Nat} {G : Nat → xC} {T : Nat × Nat} (hp0 : xNP pF)  : ∀ (lv : xL) (σ : RS) (s0 : Int32), xg lv 0 = some (.ref aR) → ∀ res, m_client_b125  σ s0 = some res → xR pF (d + 1) kT256 16 3 false (some .int) (some (.int res.1)) (layR aR res.2 G, T) (125, lv, [.int s0], (layR aR σ G, T)) := by
  intro lv σ s0 g0 res h
  unfold m_client_b125 at h
  cases h
  exact eE_end lk256_125 rfl rfl rfl
def m_client_b30  (σ : RS) (s1 : Int32) (l1 : Int32) (l2 : Int32) : Option (Int32 × RS) :=
  (some (setI σ 0 0 s1)).bind fun σ1 =>
  if xc0 .le (σ1.1 0 0) = true then (
    if xc0 .ne l2 = true then (
      if xc2 .ne l2 ((1 : Int32)) = true then (
        if xc2 .ne l2 ((2 : Int32)) = true then (
          if xc2 .ne l2 ((3 : Int32)) = true then (
            if xc2 .ne l2 ((4 : Int32)) = true then (
              (rld σ1 129 l1).bind fun x9 =>
              m_client_b125  σ1 x9
            ) else (
              (rld σ1 128 l1).bind fun x11 =>
              m_client_b125  σ1 x11
            )
          ) else (
            (rld σ1 127 l1).bind fun x13 =>
            m_client_b125  σ1 x13
          )
        ) else (
          (rld σ1 126 l1).bind fun x15 =>
          m_client_b125  σ1 x15
        )
      ) else (
        (rld σ1 125 l1).bind fun x17 =>
        m_client_b125  σ1 x17
      )
    ) else (
      (rld σ1 124 l1).bind fun x19 =>
      if xc0 .eq x19 = true then (
        m_client_b125  σ1 ((0 : Int32))
      ) else (
        m_client_b125  σ1 ((1 : Int32))
      )
    )
  ) else (
    some ((0 : Int32), σ1)
  )
set_option maxRecDepth 4000 in
theorem m_client_b30_ok {pF : Nat → List Value → xH → Option (Option Value × xH)} {d : Nat} {aR : Nat} {G : Nat → xC} {T : Nat × Nat} (hp0 : xNP pF)  : ∀ (lv : xL) (σ : RS) (s1 : Int32) (l1 : Int32) (l2 : Int32), xg lv 0 = some (.ref aR) → xg lv 1 = some (.int l1) → xg lv 2 = some (.int l2) → ∀ res, m_client_b30  σ s1 l1 l2 = some res → xR pF (d + 1) kT256 16 3 false (some .int) (some (.int res.1)) (layR aR res.2 G, T) (30, lv, [.int s1, .ref aR], (layR aR σ G, T)) := by
  intro lv σ s1 l1 l2 g0 g1 g2 res h
  unfold m_client_b30 at h
  obtain ⟨σ1, h2, h⟩ := Option.bind_eq_some_iff.mp h
  refine eR_putS lk256_30 rf_393 rfl (by decide) pf_0.1 pf_0.2 h2 ?_
  refine eE_aload_n lk256_33 g0 ?_
  refine eR_get lk256_34 rf_393 rfl ?_
  refine eE_if (t := 42) lk256_37 (by decide) (fun c3 => ?_) (fun c3 => ?_)
  · rw [if_pos c3] at h
    refine eE_iload_n lk256_42 g2 ?_
    refine eE_if (t := 63) lk256_43 (by decide) (fun c4 => ?_) (fun c4 => ?_)
    · rw [if_pos c4] at h
      refine eE_iload_n lk256_63 g2 ?_
      refine eE_iconst (v := 1) lk256_64 (by decide) ?_
      refine eE_icmp (t := 77) lk256_65 (by decide) (fun c5 => ?_) (fun c5 => ?_)
      · rw [if_pos c5] at h
        refine eE_iload_n lk256_77 g2 ?_
        refine eE_iconst (v := 2) lk256_78 (by decide) ?_
        refine eE_icmp (t := 91) lk256_79 (by decide) (fun c6 => ?_) (fun c6 => ?_)
        · rw [if_pos c6] at h
          refine eE_iload_n lk256_91 g2 ?_
          refine eE_iconst (v := 3) lk256_92 (by decide) ?_
          refine eE_icmp (t := 105) lk256_93 (by decide) (fun c7 => ?_) (fun c7 => ?_)
          · rw [if_pos c7] at h
            refine eE_iload_n lk256_105 g2 ?_
            refine eE_iconst (v := 4) lk256_106 (by decide) ?_
            refine eE_icmp (t := 119) lk256_107 (by decide) (fun c8 => ?_) (fun c8 => ?_)
            · rw [if_pos c8] at h
              refine eE_aload_n lk256_119 g0 ?_
              refine eR_getA lk256_120 rf_345 rfl ?_
              refine eE_iload_n lk256_123 g1 ?_
              obtain ⟨x9, h10, h⟩ := Option.bind_eq_some_iff.mp h
              refine eR_iald lk256_124 rfl rfl h10 ?_
              exact m_client_b125_ok hp0  lv σ1 x9 g0 _ h
            · rw [if_neg c8] at h
              refine eE_aload_n lk256_110 g0 ?_
              refine eR_getA lk256_111 rf_342 rfl ?_
              refine eE_iload_n lk256_114 g1 ?_
              obtain ⟨x11, h12, h⟩ := Option.bind_eq_some_iff.mp h
              refine eR_iald lk256_115 rfl rfl h12 ?_
              refine eE_goto (t := 125) lk256_116 (by decide) ?_
              exact m_client_b125_ok hp0  lv σ1 x11 g0 _ h
          · rw [if_neg c7] at h
            refine eE_aload_n lk256_96 g0 ?_
            refine eR_getA lk256_97 rf_339 rfl ?_
            refine eE_iload_n lk256_100 g1 ?_
            obtain ⟨x13, h14, h⟩ := Option.bind_eq_some_iff.mp h
            refine eR_iald lk256_101 rfl rfl h14 ?_
            refine eE_goto (t := 125) lk256_102 (by decide) ?_
            exact m_client_b125_ok hp0  lv σ1 x13 g0 _ h
        · rw [if_neg c6] at h
          refine eE_aload_n lk256_82 g0 ?_
          refine eR_getA lk256_83 rf_336 rfl ?_
          refine eE_iload_n lk256_86 g1 ?_
          obtain ⟨x15, h16, h⟩ := Option.bind_eq_some_iff.mp h
          refine eR_iald lk256_87 rfl rfl h16 ?_
          refine eE_goto (t := 125) lk256_88 (by decide) ?_
          exact m_client_b125_ok hp0  lv σ1 x15 g0 _ h
      · rw [if_neg c5] at h
        refine eE_aload_n lk256_68 g0 ?_
        refine eR_getA lk256_69 rf_333 rfl ?_
        refine eE_iload_n lk256_72 g1 ?_
        obtain ⟨x17, h18, h⟩ := Option.bind_eq_some_iff.mp h
        refine eR_iald lk256_73 rfl rfl h18 ?_
        refine eE_goto (t := 125) lk256_74 (by decide) ?_
        exact m_client_b125_ok hp0  lv σ1 x17 g0 _ h
    · rw [if_neg c4] at h
      refine eE_aload_n lk256_46 g0 ?_
      refine eR_getA lk256_47 rf_330 rfl ?_
      refine eE_iload_n lk256_50 g1 ?_
      obtain ⟨x19, h20, h⟩ := Option.bind_eq_some_iff.mp h
      refine eR_bald lk256_51 rfl (Or.inr rfl) h20 ?_
      refine eE_if (t := 59) lk256_52 (by decide) (fun c21 => ?_) (fun c21 => ?_)
      · rw [if_pos c21] at h
        refine eE_iconst (v := 0) lk256_59 (by decide) ?_
        refine eE_goto (t := 125) lk256_60 (by decide) ?_
        exact m_client_b125_ok hp0  lv σ1 ((0 : Int32)) g0 _ h
      · rw [if_neg c21] at h
        refine eE_iconst (v := 1) lk256_55 (by decide) ?_
        refine eE_goto (t := 125) lk256_56 (by decide) ?_
        exact m_client_b125_ok hp0  lv σ1 ((1 : Int32)) g0 _ h
  · rw [if_neg c3] at h
    refine eE_iconst (v := 0) lk256_40 (by decide) ?_
    cases h
    exact eE_end lk256_41 rfl rfl rfl
def m_client_b29  (σ : RS) (l1 : Int32) (l2 : Int32) : Option (Int32 × RS) :=
  m_client_b30  σ ((1 : Int32)) l1 l2
set_option maxRecDepth 4000 in
theorem m_client_b29_ok {pF : Nat → List Value → xH → Option (Option Value × xH)} {d : Nat} {aR : Nat} {G : Nat → xC} {T : Nat × Nat} (hp0 : xNP pF)  : ∀ (lv : xL) (σ : RS) (l1 : Int32) (l2 : Int32), xg lv 0 = some (.ref aR) → xg lv 1 = some (.int l1) → xg lv 2 = some (.int l2) → ∀ res, m_client_b29  σ l1 l2 = some res → xR pF (d + 1) kT256 16 3 false (some .int) (some (.int res.1)) (layR aR res.2 G, T) (29, lv, [.ref aR], (layR aR σ G, T)) := by
  intro lv σ l1 l2 g0 g1 g2 res h
  unfold m_client_b29 at h
  refine eE_iconst (v := 1) lk256_29 (by decide) ?_
  exact m_client_b30_ok hp0  lv σ ((1 : Int32)) l1 l2 g0 g1 g2 _ h
def m_client_b0  (σ : RS) (l1 : Int32) (l2 : Int32) : Option (Int32 × RS) :=
  (m_in (l1.toInt64) ((0 : Int64)) ((7 : Int64))).bind fun p22 =>
  if xc0 .eq p22 = true then (
    m_client_b29  σ l1 l2
  ) else (
    (m_in (l2.toInt64) ((0 : Int64)) ((5 : Int64))).bind fun p25 =>
    if xc0 .eq p25 = true then (
      m_client_b29  σ l1 l2
    ) else (
      m_client_b30  σ ((0 : Int32)) l1 l2
    )
  )
set_option maxRecDepth 4000 in
theorem m_client_b0_ok {pF : Nat → List Value → xH → Option (Option Value × xH)} {d : Nat} {aR : Nat} {G : Nat → xC} {T : Nat × Nat} (hp0 : xNP pF)  : ∀ (lv : xL) (σ : RS) (l1 : Int32) (l2 : Int32), xg lv 0 = some (.ref aR) → xg lv 1 = some (.int l1) → xg lv 2 = some (.int l2) → ∀ res, m_client_b0  σ l1 l2 = some res → xR pF (d + 1) kT256 16 3 false (some .int) (some (.int res.1)) (layR aR res.2 G, T) (0, lv, [], (layR aR σ G, T)) := by
  intro lv σ l1 l2 g0 g1 g2 res h
  unfold m_client_b0 at h
  refine eE_aload_n lk256_0 g0 ?_
  refine eE_iload_n lk256_1 g1 ?_
  refine eE_i2l lk256_2 ?_
  refine eE_lconst (v := 0) lk256_3 (by decide) ?_
  refine eE_ldc2_w (v := 7) lk256_4 xl_809 ?_
  obtain ⟨p22, h23, h⟩ := Option.bind_eq_some_iff.mp h
  refine eE_stat (as := [.long (l1.toInt64), .long ((0 : Int64)), .long ((7 : Int64))]) lk256_7 mr_799 na_294 rfl rfl (Nat.le_of_ble_eq_true rfl) mm_294 ws_294 (m_in_ok hp0 (d := d + 0) h23) ?_
  refine eE_if (t := 29) lk256_10 (by decide) (fun c24 => ?_) (fun c24 => ?_)
  · rw [if_pos c24] at h
    exact m_client_b29_ok hp0  lv σ l1 l2 g0 g1 g2 _ h
  · rw [if_neg c24] at h
    refine eE_iload_n lk256_13 g2 ?_
    refine eE_i2l lk256_14 ?_
    refine eE_lconst (v := 0) lk256_15 (by decide) ?_
    refine eE_ldc2_w (v := 5) lk256_16 xl_803 ?_
    obtain ⟨p25, h26, h⟩ := Option.bind_eq_some_iff.mp h
    refine eE_stat (as := [.long (l2.toInt64), .long ((0 : Int64)), .long ((5 : Int64))]) lk256_19 mr_799 na_294 rfl rfl (Nat.le_of_ble_eq_true rfl) mm_294 ws_294 (m_in_ok hp0 (d := d + 0) h26) ?_
    refine eE_if (t := 29) lk256_22 (by decide) (fun c27 => ?_) (fun c27 => ?_)
    · rw [if_pos c27] at h
      exact m_client_b29_ok hp0  lv σ l1 l2 g0 g1 g2 _ h
    · rw [if_neg c27] at h
      refine eE_iconst (v := 0) lk256_25 (by decide) ?_
      refine eE_goto (t := 30) lk256_26 (by decide) ?_
      exact m_client_b30_ok hp0  lv σ ((0 : Int32)) l1 l2 g0 g1 g2 _ h
def m_client (σ : RS) (l1 : Int32) (l2 : Int32) : Option (Int32 × RS) := m_client_b0 σ l1 l2
theorem m_client_ok {pF : Nat → List Value → xH → Option (Option Value × xH)} (hp0 : xNP pF) {d : Nat} {aR : Nat} {G : Nat → xC} {T : Nat × Nat} {σ : RS} {l1 : Int32} {l2 : Int32} {res : Int32 × RS} (h : m_client σ l1 l2 = some res) : xCo pF (d + 2) 256 [.ref aR, .int l1, .int l2] (layR aR σ G, T) (some (.int res.1)) (layR aR res.2 G, T) := by
  unfold m_client at h
  exact xCo_R kk_256 mo_256 ni_256 xm_256 (Nat.le_of_ble_eq_true rfl) (hp0 _ (by decide) (by decide) _ _) (m_client_b0_ok hp0 _ σ l1 l2 rfl rfl rfl _ h)
/-! count (264), depth 1 -/
def m_count_b90  (σ : RS) (s0 : Int32) : Option (Int32 × RS) :=
  some (s0, σ)
set_option maxRecDepth 4000 in
theorem m_count_b90_ok {pF : Nat → List Value → xH → Option (Option Value × xH)} {d : Nat} {aR : Nat} {G : Nat → xC} {T : Nat × Nat} (hp0 : xNP pF)  : ∀ (lv : xL) (σ : RS) (s0 : Int32), xg lv 0 = some (.ref aR) → ∀ res, m_count_b90  σ s0 = some res → xR pF (d + 0) kT264 16 2 false (some .int) (some (.int res.1)) (layR aR res.2 G, T) (90, lv, [.int s0], (layR aR σ G, T)) := by
  intro lv σ s0 g0 res h
  unfold m_count_b90 at h
  cases h
  exact eE_end lk264_90 rfl rfl rfl
def m_count_b0  (σ : RS) (l1 : Int32) : Option (Int32 × RS) :=
  (some (setI σ 0 0 ((0 : Int32)))).bind fun σ1 =>
  if xc0 .ne l1 = true then (
    if xc2 .ne l1 ((1 : Int32)) = true then (
      if xc2 .ne l1 ((2 : Int32)) = true then (
        if xc2 .ne l1 ((3 : Int32)) = true then (
          if xc2 .ne l1 ((4 : Int32)) = true then (
            if xc2 .ne l1 ((5 : Int32)) = true then (
              if xc2 .ne l1 ((6 : Int32)) = true then (
                m_count_b90  σ1 ((-1 : Int32))
              ) else (
                m_count_b90  σ1 (σ1.1 5 0)
              )
            ) else (
              m_count_b90  σ1 (σ1.1 141 0)
            )
          ) else (
            m_count_b90  σ1 (σ1.1 140 0)
          )
        ) else (
          m_count_b90  σ1 (σ1.1 3 0)
        )
      ) else (
        m_count_b90  σ1 (σ1.1 22 0)
      )
    ) else (
      m_count_b90  σ1 (σ1.1 21 0)
    )
  ) else (
    m_count_b90  σ1 (σ1.1 20 0)
  )
set_option maxRecDepth 4000 in
theorem m_count_b0_ok {pF : Nat → List Value → xH → Option (Option Value × xH)} {d : Nat} {aR : Nat} {G : Nat → xC} {T : Nat × Nat} (hp0 : xNP pF)  : ∀ (lv : xL) (σ : RS) (l1 : Int32), xg lv 0 = some (.ref aR) → xg lv 1 = some (.int l1) → ∀ res, m_count_b0  σ l1 = some res → xR pF (d + 0) kT264 16 2 false (some .int) (some (.int res.1)) (layR aR res.2 G, T) (0, lv, [], (layR aR σ G, T)) := by
  intro lv σ l1 g0 g1 res h
  unfold m_count_b0 at h
  refine eE_aload_n lk264_0 g0 ?_
  refine eE_iconst (v := 0) lk264_1 (by decide) ?_
  obtain ⟨σ1, h2, h⟩ := Option.bind_eq_some_iff.mp h
  refine eR_putS lk264_2 rf_393 rfl (by decide) pf_0.1 pf_0.2 h2 ?_
  refine eE_iload_n lk264_5 g1 ?_
  refine eE_if (t := 16) lk264_6 (by decide) (fun c3 => ?_) (fun c3 => ?_)
  · rw [if_pos c3] at h
    refine eE_iload_n lk264_16 g1 ?_
    refine eE_iconst (v := 1) lk264_17 (by decide) ?_
    refine eE_icmp (t := 28) lk264_18 (by decide) (fun c4 => ?_) (fun c4 => ?_)
    · rw [if_pos c4] at h
      refine eE_iload_n lk264_28 g1 ?_
      refine eE_iconst (v := 2) lk264_29 (by decide) ?_
      refine eE_icmp (t := 40) lk264_30 (by decide) (fun c5 => ?_) (fun c5 => ?_)
      · rw [if_pos c5] at h
        refine eE_iload_n lk264_40 g1 ?_
        refine eE_iconst (v := 3) lk264_41 (by decide) ?_
        refine eE_icmp (t := 52) lk264_42 (by decide) (fun c6 => ?_) (fun c6 => ?_)
        · rw [if_pos c6] at h
          refine eE_iload_n lk264_52 g1 ?_
          refine eE_iconst (v := 4) lk264_53 (by decide) ?_
          refine eE_icmp (t := 64) lk264_54 (by decide) (fun c7 => ?_) (fun c7 => ?_)
          · rw [if_pos c7] at h
            refine eE_iload_n lk264_64 g1 ?_
            refine eE_iconst (v := 5) lk264_65 (by decide) ?_
            refine eE_icmp (t := 76) lk264_66 (by decide) (fun c8 => ?_) (fun c8 => ?_)
            · rw [if_pos c8] at h
              refine eE_iload_n lk264_76 g1 ?_
              refine eE_bipush (v := 6) lk264_77 (by decide) ?_
              refine eE_icmp (t := 89) lk264_79 (by decide) (fun c9 => ?_) (fun c9 => ?_)
              · rw [if_pos c9] at h
                refine eE_iconst (v := (-1)) lk264_89 (by decide) ?_
                exact m_count_b90_ok hp0  lv σ1 ((-1 : Int32)) g0 _ h
              · rw [if_neg c9] at h
                refine eE_aload_n lk264_82 g0 ?_
                refine eR_get lk264_83 rf_791 rfl ?_
                refine eE_goto (t := 90) lk264_86 (by decide) ?_
                exact m_count_b90_ok hp0  lv σ1 (σ1.1 5 0) g0 _ h
            · rw [if_neg c8] at h
              refine eE_aload_n lk264_69 g0 ?_
              refine eR_get lk264_70 rf_775 rfl ?_
              refine eE_goto (t := 90) lk264_73 (by decide) ?_
              exact m_count_b90_ok hp0  lv σ1 (σ1.1 141 0) g0 _ h
          · rw [if_neg c7] at h
            refine eE_aload_n lk264_57 g0 ?_
            refine eR_get lk264_58 rf_815 rfl ?_
            refine eE_goto (t := 90) lk264_61 (by decide) ?_
            exact m_count_b90_ok hp0  lv σ1 (σ1.1 140 0) g0 _ h
        · rw [if_neg c6] at h
          refine eE_aload_n lk264_45 g0 ?_
          refine eR_get lk264_46 rf_471 rfl ?_
          refine eE_goto (t := 90) lk264_49 (by decide) ?_
          exact m_count_b90_ok hp0  lv σ1 (σ1.1 3 0) g0 _ h
      · rw [if_neg c5] at h
        refine eE_aload_n lk264_33 g0 ?_
        refine eR_get lk264_34 rf_414 rfl ?_
        refine eE_goto (t := 90) lk264_37 (by decide) ?_
        exact m_count_b90_ok hp0  lv σ1 (σ1.1 22 0) g0 _ h
    · rw [if_neg c4] at h
      refine eE_aload_n lk264_21 g0 ?_
      refine eR_get lk264_22 rf_424 rfl ?_
      refine eE_goto (t := 90) lk264_25 (by decide) ?_
      exact m_count_b90_ok hp0  lv σ1 (σ1.1 21 0) g0 _ h
  · rw [if_neg c3] at h
    refine eE_aload_n lk264_9 g0 ?_
    refine eR_get lk264_10 rf_411 rfl ?_
    refine eE_goto (t := 90) lk264_13 (by decide) ?_
    exact m_count_b90_ok hp0  lv σ1 (σ1.1 20 0) g0 _ h
def m_count (σ : RS) (l1 : Int32) : Option (Int32 × RS) := m_count_b0 σ l1
theorem m_count_ok {pF : Nat → List Value → xH → Option (Option Value × xH)} (hp0 : xNP pF) {d : Nat} {aR : Nat} {G : Nat → xC} {T : Nat × Nat} {σ : RS} {l1 : Int32} {res : Int32 × RS} (h : m_count σ l1 = some res) : xCo pF (d + 1) 264 [.ref aR, .int l1] (layR aR σ G, T) (some (.int res.1)) (layR aR res.2 G, T) := by
  unfold m_count at h
  exact xCo_R kk_264 mo_264 ni_264 xm_264 (Nat.le_of_ble_eq_true rfl) (hp0 _ (by decide) (by decide) _ _) (m_count_b0_ok hp0 _ σ l1 rfl rfl _ h)
/-! crashFiles (267), depth 3 -/
def m_crashFiles_b152 (F : Nat) (K6 : RS → Int32 → Int64 → Int32 → Option (RS)) (σ : RS) (l1 : Int32) (l4 : Int64) (l6 : Int32) : Option (RS) :=
  (m_syncFile F σ l1 l6).bind fun p1 =>
  K6 p1 l1 l4 (l6 + (1 : Int32))
set_option maxRecDepth 4000 in
theorem m_crashFiles_b152_ok {pF : Nat → List Value → xH → Option (Option Value × xH)} {d : Nat} {aR : Nat} {G : Nat → xC} {T : Nat × Nat} {F : Nat} {K6 : RS → Int32 → Int64 → Int32 → Option (RS)} (hp0 : xNP pF) (hK6 : ∀ (lv : xL) (σ : RS) (l1 : Int32) (l4 : Int64) (l6 : Int32), xg lv 0 = some (.ref aR) → xg lv 1 = some (.int l1) → xg lv 4 = some (.long l4) → xg lv 6 = some (.int l6) → ∀ res, K6 σ l1 l4 l6 = some res → xR pF (d + 2) kT267 16 10 false none none (layR aR res G, T) (6, lv, [], (layR aR σ G, T))) : ∀ (lv : xL) (σ : RS) (l1 : Int32) (l4 : Int64) (l6 : Int32), xg lv 0 = some (.ref aR) → xg lv 1 = some (.int l1) → xg lv 4 = some (.long l4) → xg lv 6 = some (.int l6) → ∀ res, m_crashFiles_b152 F K6 σ l1 l4 l6 = some res → xR pF (d + 2) kT267 16 10 false none none (layR aR res G, T) (152, lv, [], (layR aR σ G, T)) := by
  intro lv σ l1 l4 l6 g0 g1 g4 g6 res h
  unfold m_crashFiles_b152 at h
  refine eE_aload_n lk267_152 g0 ?_
  refine eE_iload_n lk267_153 g1 ?_
  refine eE_iload lk267_154 g6 ?_
  obtain ⟨p1, h2, h⟩ := Option.bind_eq_some_iff.mp h
  refine eR_call (as := [.int l1, .int l6]) lk267_156 mr_499 na_367 rfl rfl (Nat.le_of_ble_eq_true rfl) wv_367 wc_367 (m_syncFile_ok hp0 (d := d + 0) h2) ?_
  refine eE_inc (j := 6) (v := l6 + (1 : Int32)) lk267_159 g6 rfl (by decide) (fun vq3 gq4 kq5 => ?_)
  have gq6 := kq5 1 _ (by decide) (fun _ => rfl) g1
  have gq7 := kq5 4 _ (by decide) (fun e => absurd e (by decide)) g4
  have gq8 := kq5 0 _ (by decide) (fun _ => rfl) g0
  refine eE_goto (t := 6) lk267_162 (by decide) ?_
  exact hK6 vq3 p1 l1 l4 (l6 + (1 : Int32)) gq8 gq6 gq7 gq4 _ h
def m_crashFiles_b6 (F : Nat)  : Nat → RS → Int32 → Int64 → Int32 → Option (RS)
  | 0, _, _, _, _ => none
  | n + 1, σ, l1, l4, l6 =>
    let KK := m_crashFiles_b6 F  n
    if xc2 .ge l6 ((16 : Int32)) = true then (
      (rst σ 46 l1 ((((0 : Int32)) &&& 1))).bind fun σ10 =>
      (rst σ10 71 l1 ((((0 : Int32)) &&& 1))).bind fun σ12 =>
      some σ12
    ) else (
      (m_fileOf l1 l6).bind fun p20 =>
      if xc0 .ne (lg_cmp ((((l4 * ((6364136223846793005 : Int64))) + ((1442695040888963407 : Int64))).toUInt64 >>> (((61 : Int32)).toInt64.toUInt64 &&& Int64.toUInt64 63)).toInt64) ((0 : Int64))) = true then (
        (rld σ 37 p20).bind fun x30 =>
        if ((2 : Int32)) = 0 then none else
        (rld σ 43 (p20 / ((2 : Int32)))).bind fun x33 =>
        if (((((2 : Int32)) * (x30 - x33)) + ((1 : Int32))).toInt64) = 0 then none else
        if ((2 : Int32)) = 0 then none else
        (rld σ 43 (p20 / ((2 : Int32)))).bind fun x45 =>
        (rld σ 37 p20).bind fun x55 =>
        if xc2 .le x55 ((x45 + (((1 : Int32)) + (((((((l4 * ((6364136223846793005 : Int64))) + ((1442695040888963407 : Int64))).toUInt64 >>> (((33 : Int32)).toInt64.toUInt64 &&& Int64.toUInt64 63)).toInt64) &&& ((1048575 : Int64))) - (((((l4 * ((6364136223846793005 : Int64))) + ((1442695040888963407 : Int64))).toUInt64 >>> (((33 : Int32)).toInt64.toUInt64 &&& Int64.toUInt64 63)).toInt64) &&& ((1048575 : Int64))) / (((((2 : Int32)) * (x30 - x33)) + ((1 : Int32))).toInt64) * (((((2 : Int32)) * (x30 - x33)) + ((1 : Int32))).toInt64)).toInt32))) - ((1 : Int32))) = true then (
          m_crashFiles_b152 F KK σ l1 ((l4 * ((6364136223846793005 : Int64))) + ((1442695040888963407 : Int64))) l6
        ) else (
          (rst σ 37 p20 (((x45 + (((1 : Int32)) + (((((((l4 * ((6364136223846793005 : Int64))) + ((1442695040888963407 : Int64))).toUInt64 >>> (((33 : Int32)).toInt64.toUInt64 &&& Int64.toUInt64 63)).toInt64) &&& ((1048575 : Int64))) - (((((l4 * ((6364136223846793005 : Int64))) + ((1442695040888963407 : Int64))).toUInt64 >>> (((33 : Int32)).toInt64.toUInt64 &&& Int64.toUInt64 63)).toInt64) &&& ((1048575 : Int64))) / (((((2 : Int32)) * (x30 - x33)) + ((1 : Int32))).toInt64) * (((((2 : Int32)) * (x30 - x33)) + ((1 : Int32))).toInt64)).toInt32))) - ((1 : Int32))))).bind fun σ58 =>
          if ((2 : Int32)) = 0 then none else
          (rst σ58 44 (p20 / ((2 : Int32))) ((((1 : Int32)) &&& 1))).bind fun σ61 =>
          m_crashFiles_b152 F KK σ61 l1 ((l4 * ((6364136223846793005 : Int64))) + ((1442695040888963407 : Int64))) l6
        )
      ) else (
        if ((2 : Int32)) = 0 then none else
        (rld σ 44 (p20 / ((2 : Int32)))).bind fun x64 =>
        if xc0 .eq x64 = true then (
          m_crashFiles_b152 F KK σ l1 ((l4 * ((6364136223846793005 : Int64))) + ((1442695040888963407 : Int64))) l6
        ) else (
          (m_copyFile F σ (p20 + ((1 : Int32))) p20).bind fun p67 =>
          m_crashFiles_b152 F KK p67 l1 ((l4 * ((6364136223846793005 : Int64))) + ((1442695040888963407 : Int64))) l6
        )
      )
    )
set_option maxRecDepth 4000 in
theorem m_crashFiles_b6_ok {pF : Nat → List Value → xH → Option (Option Value × xH)} {d : Nat} {aR : Nat} {G : Nat → xC} {T : Nat × Nat} {F : Nat} (hp0 : xNP pF)  : ∀ (n : Nat) (lv : xL) (σ : RS) (l1 : Int32) (l4 : Int64) (l6 : Int32), xg lv 0 = some (.ref aR) → xg lv 1 = some (.int l1) → xg lv 4 = some (.long l4) → xg lv 6 = some (.int l6) → ∀ res, m_crashFiles_b6 F  n σ l1 l4 l6 = some res → xR pF (d + 2) kT267 16 10 false none none (layR aR res G, T) (6, lv, [], (layR aR σ G, T)) := by
  intro n
  induction n with
  | zero => intro lv σ l1 l4 l6 g0 g1 g4 g6 res h; simp [m_crashFiles_b6] at h
  | succ n hKK =>
    intro lv σ l1 l4 l6 g0 g1 g4 g6 res h
    unfold m_crashFiles_b6 at h
    dsimp only at h
    refine eE_iload lk267_6 g6 ?_
    refine eE_bipush (v := 16) lk267_8 (by decide) ?_
    refine eE_icmp (t := 165) lk267_10 (by decide) (fun c9 => ?_) (fun c9 => ?_)
    · rw [if_pos c9] at h
      refine eE_aload_n lk267_165 g0 ?_
      refine eR_getA lk267_166 rf_105 rfl ?_
      refine eE_iload_n lk267_169 g1 ?_
      refine eE_iconst (v := 0) lk267_170 (by decide) ?_
      obtain ⟨σ10, h11, h⟩ := Option.bind_eq_some_iff.mp h
      refine eR_zast lk267_171 rfl rfl rfl h11 ?_
      refine eE_aload_n lk267_172 g0 ?_
      refine eR_getA lk267_173 rf_179 rfl ?_
      refine eE_iload_n lk267_176 g1 ?_
      refine eE_iconst (v := 0) lk267_177 (by decide) ?_
      obtain ⟨σ12, h13, h⟩ := Option.bind_eq_some_iff.mp h
      refine eR_zast lk267_178 rfl rfl rfl h13 ?_
      cases h
      exact eE_end lk267_179 rfl rfl rfl
    · rw [if_neg c9] at h
      refine eE_lload lk267_13 g4 ?_
      refine eE_ldc2_w (v := 6364136223846793005) lk267_15 xl_407 ?_
      refine eE_lmul lk267_18 ?_
      refine eE_ldc2_w (v := 1442695040888963407) lk267_19 xl_409 ?_
      refine eE_ladd lk267_22 ?_
      refine eE_stL (j := 4) lk267_23 (Or.inl rfl) (by decide) (fun vq14 gq15 kq16 => ?_)
      have gq17 := kq16 1 _ (by decide) (by decide) (fun _ => rfl) g1
      have gq18 := kq16 6 _ (by decide) (by decide) (fun _ => rfl) g6
      have gq19 := kq16 0 _ (by decide) (by decide) (fun _ => rfl) g0
      refine eE_iload_n lk267_25 gq17 ?_
      refine eE_iload lk267_26 gq18 ?_
      obtain ⟨p20, h21, h⟩ := Option.bind_eq_some_iff.mp h
      refine eE_stat (as := [.int l1, .int l6]) lk267_28 mr_492 na_280 rfl rfl (Nat.le_of_ble_eq_true rfl) mm_280 ws_280 (m_fileOf_ok hp0 (d := d + 1) h21) ?_
      refine eE_stI (j := 7) lk267_31 (Or.inl rfl) (by decide) (fun vq22 gq23 kq24 => ?_)
      have gq25 := kq24 1 _ (by decide) (fun _ => rfl) gq17
      have gq26 := kq24 6 _ (by decide) (fun _ => rfl) gq18
      have gq27 := kq24 0 _ (by decide) (fun _ => rfl) gq19
      have gq28 := kq24 4 _ (by decide) (fun e => absurd e (by decide)) gq15
      refine eE_lload lk267_33 gq28 ?_
      refine eE_bipush (v := 61) lk267_35 (by decide) ?_
      refine eE_lushr lk267_37 ?_
      refine eE_lconst (v := 0) lk267_38 (by decide) ?_
      refine eE_lcmp lk267_39 ?_
      refine eE_if (t := 68) lk267_40 (by decide) (fun c29 => ?_) (fun c29 => ?_)
      · rw [if_pos c29] at h
        refine eE_iconst (v := 1) lk267_68 (by decide) ?_
        refine eE_lload lk267_69 gq28 ?_
        refine eE_bipush (v := 33) lk267_71 (by decide) ?_
        refine eE_lushr lk267_73 ?_
        refine eE_ldc2_w (v := 1048575) lk267_74 xl_542 ?_
        refine eE_land lk267_77 ?_
        refine eE_iconst (v := 2) lk267_78 (by decide) ?_
        refine eE_aload_n lk267_79 gq27 ?_
        refine eR_getA lk267_80 rf_78 rfl ?_
        refine eE_iload lk267_83 gq23 ?_
        obtain ⟨x30, h31, h⟩ := Option.bind_eq_some_iff.mp h
        refine eR_iald lk267_85 rfl rfl h31 ?_
        refine eE_aload_n lk267_86 gq27 ?_
        refine eR_getA lk267_87 rf_96 rfl ?_
        refine eE_iload lk267_90 gq23 ?_
        refine eE_iconst (v := 2) lk267_92 (by decide) ?_
        by_cases z32 : ((2 : Int32)) = 0
        · rw [if_pos z32] at h; cases h
        rw [if_neg z32] at h
        refine eE_idiv lk267_93 z32 ?_
        obtain ⟨x33, h34, h⟩ := Option.bind_eq_some_iff.mp h
        refine eR_iald lk267_94 rfl rfl h34 ?_
        refine eE_isub lk267_95 ?_
        refine eE_imul lk267_96 ?_
        refine eE_iconst (v := 1) lk267_97 (by decide) ?_
        refine eE_iadd lk267_98 ?_
        refine eE_i2l lk267_99 ?_
        by_cases z35 : (((((2 : Int32)) * (x30 - x33)) + ((1 : Int32))).toInt64) = 0
        · rw [if_pos z35] at h; cases h
        rw [if_neg z35] at h
        refine eE_lrem lk267_100 z35 ?_
        refine eE_l2i lk267_101 ?_
        refine eE_iadd lk267_102 ?_
        refine eE_stI (j := 8) lk267_103 (Or.inl rfl) (by decide) (fun vq36 gq37 kq38 => ?_)
        have gq39 := kq38 1 _ (by decide) (fun _ => rfl) gq25
        have gq40 := kq38 6 _ (by decide) (fun _ => rfl) gq26
        have gq41 := kq38 0 _ (by decide) (fun _ => rfl) gq27
        have gq42 := kq38 4 _ (by decide) (fun e => absurd e (by decide)) gq28
        have gq43 := kq38 7 _ (by decide) (fun _ => rfl) gq23
        refine eE_aload_n lk267_105 gq41 ?_
        refine eR_getA lk267_106 rf_96 rfl ?_
        refine eE_iload lk267_109 gq43 ?_
        refine eE_iconst (v := 2) lk267_111 (by decide) ?_
        by_cases z44 : ((2 : Int32)) = 0
        · rw [if_pos z44] at h; cases h
        rw [if_neg z44] at h
        refine eE_idiv lk267_112 z44 ?_
        obtain ⟨x45, h46, h⟩ := Option.bind_eq_some_iff.mp h
        refine eR_iald lk267_113 rfl rfl h46 ?_
        refine eE_iload lk267_114 gq37 ?_
        refine eE_iadd lk267_116 ?_
        refine eE_iconst (v := 1) lk267_117 (by decide) ?_
        refine eE_isub lk267_118 ?_
        refine eE_stI (j := 9) lk267_119 (Or.inl rfl) (by decide) (fun vq47 gq48 kq49 => ?_)
        have gq50 := kq49 1 _ (by decide) (fun _ => rfl) gq39
        have gq51 := kq49 6 _ (by decide) (fun _ => rfl) gq40
        have gq52 := kq49 0 _ (by decide) (fun _ => rfl) gq41
        have gq53 := kq49 4 _ (by decide) (fun e => absurd e (by decide)) gq42
        have gq54 := kq49 7 _ (by decide) (fun _ => rfl) gq43
        refine eE_aload_n lk267_121 gq52 ?_
        refine eR_getA lk267_122 rf_78 rfl ?_
        refine eE_iload lk267_125 gq54 ?_
        obtain ⟨x55, h56, h⟩ := Option.bind_eq_some_iff.mp h
        refine eR_iald lk267_127 rfl rfl h56 ?_
        refine eE_iload lk267_128 gq48 ?_
        refine eE_icmp (t := 152) lk267_130 (by decide) (fun c57 => ?_) (fun c57 => ?_)
        · rw [if_pos c57] at h
          exact m_crashFiles_b152_ok hp0 hKK vq47 σ l1 ((l4 * ((6364136223846793005 : Int64))) + ((1442695040888963407 : Int64))) l6 gq52 gq50 gq53 gq51 _ h
        · rw [if_neg c57] at h
          refine eE_aload_n lk267_133 gq52 ?_
          refine eR_getA lk267_134 rf_78 rfl ?_
          refine eE_iload lk267_137 gq54 ?_
          refine eE_iload lk267_139 gq48 ?_
          obtain ⟨σ58, h59, h⟩ := Option.bind_eq_some_iff.mp h
          refine eR_iast lk267_141 rfl rfl h59 ?_
          refine eE_aload_n lk267_142 gq52 ?_
          refine eR_getA lk267_143 rf_99 rfl ?_
          refine eE_iload lk267_146 gq54 ?_
          refine eE_iconst (v := 2) lk267_148 (by decide) ?_
          by_cases z60 : ((2 : Int32)) = 0
          · rw [if_pos z60] at h; cases h
          rw [if_neg z60] at h
          refine eE_idiv lk267_149 z60 ?_
          refine eE_iconst (v := 1) lk267_150 (by decide) ?_
          obtain ⟨σ61, h62, h⟩ := Option.bind_eq_some_iff.mp h
          refine eR_zast lk267_151 rfl rfl rfl h62 ?_
          exact m_crashFiles_b152_ok hp0 hKK vq47 σ61 l1 ((l4 * ((6364136223846793005 : Int64))) + ((1442695040888963407 : Int64))) l6 gq52 gq50 gq53 gq51 _ h
      · rw [if_neg c29] at h
        refine eE_aload_n lk267_43 gq27 ?_
        refine eR_getA lk267_44 rf_99 rfl ?_
        refine eE_iload lk267_47 gq23 ?_
        refine eE_iconst (v := 2) lk267_49 (by decide) ?_
        by_cases z63 : ((2 : Int32)) = 0
        · rw [if_pos z63] at h; cases h
        rw [if_neg z63] at h
        refine eE_idiv lk267_50 z63 ?_
        obtain ⟨x64, h65, h⟩ := Option.bind_eq_some_iff.mp h
        refine eR_bald lk267_51 rfl (Or.inr rfl) h65 ?_
        refine eE_if (t := 152) lk267_52 (by decide) (fun c66 => ?_) (fun c66 => ?_)
        · rw [if_pos c66] at h
          exact m_crashFiles_b152_ok hp0 hKK vq22 σ l1 ((l4 * ((6364136223846793005 : Int64))) + ((1442695040888963407 : Int64))) l6 gq27 gq25 gq28 gq26 _ h
        · rw [if_neg c66] at h
          refine eE_aload_n lk267_55 gq27 ?_
          refine eE_iload lk267_56 gq23 ?_
          refine eE_iconst (v := 1) lk267_58 (by decide) ?_
          refine eE_iadd lk267_59 ?_
          refine eE_iload lk267_60 gq23 ?_
          obtain ⟨p67, h68, h⟩ := Option.bind_eq_some_iff.mp h
          refine eR_call (as := [.int (p20 + ((1 : Int32))), .int p20]) lk267_62 mr_496 na_261 rfl rfl (Nat.le_of_ble_eq_true rfl) wv_261 wc_261 (m_copyFile_ok hp0 (d := d + 1) h68) ?_
          refine eE_goto (t := 152) lk267_65 (by decide) ?_
          exact m_crashFiles_b152_ok hp0 hKK vq22 p67 l1 ((l4 * ((6364136223846793005 : Int64))) + ((1442695040888963407 : Int64))) l6 gq27 gq25 gq28 gq26 _ h
def m_crashFiles_b0 (F : Nat)  (σ : RS) (l1 : Int32) (l2 : Int64) : Option (RS) :=
  m_crashFiles_b6 F  F σ l1 l2 ((0 : Int32))
set_option maxRecDepth 4000 in
theorem m_crashFiles_b0_ok {pF : Nat → List Value → xH → Option (Option Value × xH)} {d : Nat} {aR : Nat} {G : Nat → xC} {T : Nat × Nat} {F : Nat} (hp0 : xNP pF)  : ∀ (lv : xL) (σ : RS) (l1 : Int32) (l2 : Int64), xg lv 0 = some (.ref aR) → xg lv 1 = some (.int l1) → xg lv 2 = some (.long l2) → ∀ res, m_crashFiles_b0 F  σ l1 l2 = some res → xR pF (d + 2) kT267 16 10 false none none (layR aR res G, T) (0, lv, [], (layR aR σ G, T)) := by
  intro lv σ l1 l2 g0 g1 g2 res h
  unfold m_crashFiles_b0 at h
  refine eE_lload_n lk267_0 g2 ?_
  refine eE_stL (j := 4) lk267_1 (Or.inl rfl) (by decide) (fun vq69 gq70 kq71 => ?_)
  have gq72 := kq71 1 _ (by decide) (by decide) (fun _ => rfl) g1
  have gq73 := kq71 0 _ (by decide) (by decide) (fun _ => rfl) g0
  refine eE_iconst (v := 0) lk267_3 (by decide) ?_
  refine eE_stI (j := 6) lk267_4 (Or.inl rfl) (by decide) (fun vq74 gq75 kq76 => ?_)
  have gq77 := kq76 1 _ (by decide) (fun _ => rfl) gq72
  have gq78 := kq76 0 _ (by decide) (fun _ => rfl) gq73
  have gq79 := kq76 4 _ (by decide) (fun e => absurd e (by decide)) gq70
  exact m_crashFiles_b6_ok hp0  F vq74 σ l1 l2 ((0 : Int32)) gq78 gq77 gq79 gq75 _ h
def m_crashFiles (F : Nat) (σ : RS) (l1 : Int32) (l2 : Int64) : Option (RS) := m_crashFiles_b0 F σ l1 l2
theorem m_crashFiles_ok {pF : Nat → List Value → xH → Option (Option Value × xH)} (hp0 : xNP pF) {d : Nat} {aR : Nat} {G : Nat → xC} {T : Nat × Nat} {σ : RS} {F : Nat} {l1 : Int32} {l2 : Int64} {res : RS} (h : m_crashFiles F σ l1 l2 = some res) : xCo pF (d + 3) 267 [.ref aR, .int l1, .long l2] (layR aR σ G, T) none (layR aR res G, T) := by
  unfold m_crashFiles at h
  exact xCo_R kk_267 mo_267 ni_267 xm_267 (Nat.le_of_ble_eq_true rfl) (hp0 _ (by decide) (by decide) _ _) (m_crashFiles_b0_ok hp0 _ σ l1 l2 rfl rfl rfl _ h)
/-! down (272), depth 2 -/
def m_down (F : Nat)  (σ : RS) (l1 : Int32) : Option (RS) :=
  (rst σ 52 l1 ((((0 : Int32)) &&& 1))).bind fun σ1 =>
  (rst σ1 29 l1 (((-1 : Int32)))).bind fun σ3 =>
  (rst σ3 31 l1 (((-1 : Int32)))).bind fun σ5 =>
  (rst σ5 85 l1 (((0 : Int32)))).bind fun σ7 =>
  (m_dropRequests F σ7 l1).bind fun p9 =>
  some p9
set_option maxRecDepth 4000 in
theorem m_down_run {pF : Nat → List Value → xH → Option (Option Value × xH)} {d : Nat} {aR : Nat} {G : Nat → xC} {T : Nat × Nat} {F : Nat} (hp0 : xNP pF)  : ∀ (lv : xL) (σ : RS) (l1 : Int32), xg lv 0 = some (.ref aR) → xg lv 1 = some (.int l1) → ∀ res, m_down F  σ l1 = some res → xR pF (d + 1) kT272 16 2 false none none (layR aR res G, T) (0, lv, [], (layR aR σ G, T)) := by
  intro lv σ l1 g0 g1 res h
  unfold m_down at h
  refine eE_aload_n lk272_0 g0 ?_
  refine eR_getA lk272_1 rf_120 rfl ?_
  refine eE_iload_n lk272_4 g1 ?_
  refine eE_iconst (v := 0) lk272_5 (by decide) ?_
  obtain ⟨σ1, h2, h⟩ := Option.bind_eq_some_iff.mp h
  refine eR_zast lk272_6 rfl rfl rfl h2 ?_
  refine eE_aload_n lk272_7 g0 ?_
  refine eR_getA lk272_8 rf_62 rfl ?_
  refine eE_iload_n lk272_11 g1 ?_
  refine eE_iconst (v := (-1)) lk272_12 (by decide) ?_
  obtain ⟨σ3, h4, h⟩ := Option.bind_eq_some_iff.mp h
  refine eR_iast lk272_13 rfl rfl h4 ?_
  refine eE_aload_n lk272_14 g0 ?_
  refine eR_getA lk272_15 rf_68 rfl ?_
  refine eE_iload_n lk272_18 g1 ?_
  refine eE_iconst (v := (-1)) lk272_19 (by decide) ?_
  obtain ⟨σ5, h6, h⟩ := Option.bind_eq_some_iff.mp h
  refine eR_iast lk272_20 rfl rfl h6 ?_
  refine eE_aload_n lk272_21 g0 ?_
  refine eR_getA lk272_22 rf_221 rfl ?_
  refine eE_iload_n lk272_25 g1 ?_
  refine eE_iconst (v := 0) lk272_26 (by decide) ?_
  obtain ⟨σ7, h8, h⟩ := Option.bind_eq_some_iff.mp h
  refine eR_iast lk272_27 rfl rfl h8 ?_
  refine eE_aload_n lk272_28 g0 ?_
  refine eE_iload_n lk272_29 g1 ?_
  obtain ⟨p9, h10, h⟩ := Option.bind_eq_some_iff.mp h
  refine eR_call (as := [.int l1]) lk272_30 mr_644 na_275 rfl rfl (Nat.le_of_ble_eq_true rfl) wv_275 wc_275 (m_dropRequests_ok hp0 (d := d + 0) h10) ?_
  cases h
  exact eE_end lk272_33 rfl rfl rfl
theorem m_down_ok {pF : Nat → List Value → xH → Option (Option Value × xH)} (hp0 : xNP pF) {d : Nat} {aR : Nat} {G : Nat → xC} {T : Nat × Nat} {σ : RS} {F : Nat} {l1 : Int32} {res : RS} (h : m_down F σ l1 = some res) : xCo pF (d + 2) 272 [.ref aR, .int l1] (layR aR σ G, T) none (layR aR res G, T) := by
  exact xCo_R kk_272 mo_272 ni_272 xm_272 (Nat.le_of_ble_eq_true rfl) (hp0 _ (by decide) (by decide) _ _) (m_down_run hp0 _ σ l1 rfl rfl _ h)
/-! crash (266), depth 4 -/
def m_crash_b37 (F : Nat)  (σ : RS) : Option (Int32 × RS) :=
  if ((0 : Int32)) = 0 ∨ ((0 : Int32)) = 1 then some ((0 : Int32), σ) else none
set_option maxRecDepth 4000 in
theorem m_crash_b37_ok {pF : Nat → List Value → xH → Option (Option Value × xH)} {d : Nat} {aR : Nat} {G : Nat → xC} {T : Nat × Nat} {F : Nat} (hp0 : xNP pF)  : ∀ (lv : xL) (σ : RS), xg lv 0 = some (.ref aR) → ∀ res, m_crash_b37 F  σ = some res → xR pF (d + 3) kT266 16 4 false (some .boolean) (some (.int res.1)) (layR aR res.2 G, T) (37, lv, [], (layR aR σ G, T)) := by
  intro lv σ g0 res h
  unfold m_crash_b37 at h
  refine eE_iconst (v := 0) lk266_37 (by decide) ?_
  by_cases z1 : ((0 : Int32)) = 0 ∨ ((0 : Int32)) = 1
  · rw [if_pos z1] at h; cases h
    exact eE_end lk266_38 rfl rfl (by first | (simp only [xfin, if_true, if_pos z1]; done) | simp [xfin, z1])
  · rw [if_neg z1] at h; cases h
def m_crash_b18 (F : Nat)  (σ : RS) (s1 : Int32) (l1 : Int32) (l2 : Int64) : Option (Int32 × RS) :=
  (some (setI σ 0 0 s1)).bind fun σ2 =>
  if xc0 .gt (σ2.1 0 0) = true then (
    m_crash_b37 F  σ2
  ) else (
    (rld σ2 52 l1).bind fun x5 =>
    if xc0 .ne x5 = true then (
      (m_down F σ2 l1).bind fun p8 =>
      (m_crashFiles F p8 l1 l2).bind fun p10 =>
      if ((1 : Int32)) = 0 ∨ ((1 : Int32)) = 1 then some ((1 : Int32), p10) else none
    ) else (
      m_crash_b37 F  σ2
    )
  )
set_option maxRecDepth 4000 in
theorem m_crash_b18_ok {pF : Nat → List Value → xH → Option (Option Value × xH)} {d : Nat} {aR : Nat} {G : Nat → xC} {T : Nat × Nat} {F : Nat} (hp0 : xNP pF)  : ∀ (lv : xL) (σ : RS) (s1 : Int32) (l1 : Int32) (l2 : Int64), xg lv 0 = some (.ref aR) → xg lv 1 = some (.int l1) → xg lv 2 = some (.long l2) → ∀ res, m_crash_b18 F  σ s1 l1 l2 = some res → xR pF (d + 3) kT266 16 4 false (some .boolean) (some (.int res.1)) (layR aR res.2 G, T) (18, lv, [.int s1, .ref aR], (layR aR σ G, T)) := by
  intro lv σ s1 l1 l2 g0 g1 g2 res h
  unfold m_crash_b18 at h
  obtain ⟨σ2, h3, h⟩ := Option.bind_eq_some_iff.mp h
  refine eR_putS lk266_18 rf_393 rfl (by decide) pf_0.1 pf_0.2 h3 ?_
  refine eE_aload_n lk266_21 g0 ?_
  refine eR_get lk266_22 rf_393 rfl ?_
  refine eE_if (t := 37) lk266_25 (by decide) (fun c4 => ?_) (fun c4 => ?_)
  · rw [if_pos c4] at h
    exact m_crash_b37_ok hp0  lv σ2 g0 _ h
  · rw [if_neg c4] at h
    refine eE_aload_n lk266_28 g0 ?_
    refine eR_getA lk266_29 rf_120 rfl ?_
    refine eE_iload_n lk266_32 g1 ?_
    obtain ⟨x5, h6, h⟩ := Option.bind_eq_some_iff.mp h
    refine eR_bald lk266_33 rfl (Or.inr rfl) h6 ?_
    refine eE_if (t := 39) lk266_34 (by decide) (fun c7 => ?_) (fun c7 => ?_)
    · rw [if_pos c7] at h
      refine eE_aload_n lk266_39 g0 ?_
      refine eE_iload_n lk266_40 g1 ?_
      obtain ⟨p8, h9, h⟩ := Option.bind_eq_some_iff.mp h
      refine eR_call (as := [.int l1]) lk266_41 mr_843 na_272 rfl rfl (Nat.le_of_ble_eq_true rfl) wv_272 wc_272 (m_down_ok hp0 (d := d + 1) h9) ?_
      refine eE_aload_n lk266_44 g0 ?_
      refine eE_iload_n lk266_45 g1 ?_
      refine eE_lload_n lk266_46 g2 ?_
      obtain ⟨p10, h11, h⟩ := Option.bind_eq_some_iff.mp h
      refine eR_call (as := [.int l1, .long l2]) lk266_47 mr_846 na_267 rfl rfl (Nat.le_of_ble_eq_true rfl) wv_267 wc_267 (m_crashFiles_ok hp0 (d := d + 0) h11) ?_
      refine eE_iconst (v := 1) lk266_50 (by decide) ?_
      by_cases z12 : ((1 : Int32)) = 0 ∨ ((1 : Int32)) = 1
      · rw [if_pos z12] at h; cases h
        exact eE_end lk266_51 rfl rfl (by first | (simp only [xfin, if_true, if_pos z12]; done) | simp [xfin, z12])
      · rw [if_neg z12] at h; cases h
    · rw [if_neg c7] at h
      exact m_crash_b37_ok hp0  lv σ2 g0 _ h
def m_crash_b0 (F : Nat)  (σ : RS) (l1 : Int32) (l2 : Int64) : Option (Int32 × RS) :=
  (m_in (l1.toInt64) ((0 : Int64)) ((6 : Int64))).bind fun p13 =>
  if xc0 .eq p13 = true then (
    m_crash_b18 F  σ ((1 : Int32)) l1 l2
  ) else (
    m_crash_b18 F  σ ((0 : Int32)) l1 l2
  )
set_option maxRecDepth 4000 in
theorem m_crash_b0_ok {pF : Nat → List Value → xH → Option (Option Value × xH)} {d : Nat} {aR : Nat} {G : Nat → xC} {T : Nat × Nat} {F : Nat} (hp0 : xNP pF)  : ∀ (lv : xL) (σ : RS) (l1 : Int32) (l2 : Int64), xg lv 0 = some (.ref aR) → xg lv 1 = some (.int l1) → xg lv 2 = some (.long l2) → ∀ res, m_crash_b0 F  σ l1 l2 = some res → xR pF (d + 3) kT266 16 4 false (some .boolean) (some (.int res.1)) (layR aR res.2 G, T) (0, lv, [], (layR aR σ G, T)) := by
  intro lv σ l1 l2 g0 g1 g2 res h
  unfold m_crash_b0 at h
  refine eE_aload_n lk266_0 g0 ?_
  refine eE_iload_n lk266_1 g1 ?_
  refine eE_i2l lk266_2 ?_
  refine eE_lconst (v := 0) lk266_3 (by decide) ?_
  refine eE_ldc2_w (v := 6) lk266_4 xl_827 ?_
  obtain ⟨p13, h14, h⟩ := Option.bind_eq_some_iff.mp h
  refine eE_stat (as := [.long (l1.toInt64), .long ((0 : Int64)), .long ((6 : Int64))]) lk266_7 mr_799 na_294 rfl rfl (Nat.le_of_ble_eq_true rfl) mm_294 ws_294 (m_in_ok hp0 (d := d + 2) h14) ?_
  refine eE_if (t := 17) lk266_10 (by decide) (fun c15 => ?_) (fun c15 => ?_)
  · rw [if_pos c15] at h
    refine eE_iconst (v := 1) lk266_17 (by decide) ?_
    exact m_crash_b18_ok hp0  lv σ ((1 : Int32)) l1 l2 g0 g1 g2 _ h
  · rw [if_neg c15] at h
    refine eE_iconst (v := 0) lk266_13 (by decide) ?_
    refine eE_goto (t := 18) lk266_14 (by decide) ?_
    exact m_crash_b18_ok hp0  lv σ ((0 : Int32)) l1 l2 g0 g1 g2 _ h
def m_crash (F : Nat) (σ : RS) (l1 : Int32) (l2 : Int64) : Option (Int32 × RS) := m_crash_b0 F σ l1 l2
theorem m_crash_ok {pF : Nat → List Value → xH → Option (Option Value × xH)} (hp0 : xNP pF) {d : Nat} {aR : Nat} {G : Nat → xC} {T : Nat × Nat} {σ : RS} {F : Nat} {l1 : Int32} {l2 : Int64} {res : Int32 × RS} (h : m_crash F σ l1 l2 = some res) : xCo pF (d + 4) 266 [.ref aR, .int l1, .long l2] (layR aR σ G, T) (some (.int res.1)) (layR aR res.2 G, T) := by
  unfold m_crash at h
  exact xCo_R kk_266 mo_266 ni_266 xm_266 (Nat.le_of_ble_eq_true rfl) (hp0 _ (by decide) (by decide) _ _) (m_crash_b0_ok hp0 _ σ l1 l2 rfl rfl rfl _ h)
/-! isEndpoint (302), depth 2 -/
def m_isEndpoint_b31  (s0 : Int32) : Option (Int32) :=
  if s0 = 0 ∨ s0 = 1 then some s0 else none
set_option maxRecDepth 4000 in
theorem m_isEndpoint_b31_ok {pF : Nat → List Value → xH → Option (Option Value × xH)} {d : Nat} {hp : xH} (hp0 : xNP pF)  : ∀ (lv : xL) (s0 : Int32), ∀ res, m_isEndpoint_b31  s0 = some res → xR pF (d + 1) kT302 16 1 false (some .boolean) (some (.int res)) hp (31, lv, [.int s0], hp) := by
  intro lv s0  res h
  unfold m_isEndpoint_b31 at h
  by_cases z1 : s0 = 0 ∨ s0 = 1
  · rw [if_pos z1] at h; cases h
    exact eE_end lk302_31 rfl rfl (by first | (simp only [xfin, if_true, if_pos z1]; done) | simp [xfin, z1])
  · rw [if_neg z1] at h; cases h
def m_isEndpoint_b26   : Option (Int32) :=
  m_isEndpoint_b31  ((1 : Int32))
set_option maxRecDepth 4000 in
theorem m_isEndpoint_b26_ok {pF : Nat → List Value → xH → Option (Option Value × xH)} {d : Nat} {hp : xH} (hp0 : xNP pF)  : ∀ (lv : xL), ∀ res, m_isEndpoint_b26   = some res → xR pF (d + 1) kT302 16 1 false (some .boolean) (some (.int res)) hp (26, lv, [], hp) := by
  intro lv   res h
  unfold m_isEndpoint_b26 at h
  refine eE_iconst (v := 1) lk302_26 (by decide) ?_
  refine eE_goto (t := 31) lk302_27 (by decide) ?_
  exact m_isEndpoint_b31_ok hp0  lv ((1 : Int32))  _ h
def m_isEndpoint_b0  (l0 : Int32) : Option (Int32) :=
  (m_in (l0.toInt64) ((0 : Int64)) ((6 : Int64))).bind fun p2 =>
  if xc0 .ne p2 = true then (
    m_isEndpoint_b26  
  ) else (
    (m_in (l0.toInt64) ((8 : Int64)) ((15 : Int64))).bind fun p5 =>
    if xc0 .eq p5 = true then (
      m_isEndpoint_b31  ((0 : Int32))
    ) else (
      m_isEndpoint_b26  
    )
  )
set_option maxRecDepth 4000 in
theorem m_isEndpoint_b0_ok {pF : Nat → List Value → xH → Option (Option Value × xH)} {d : Nat} {hp : xH} (hp0 : xNP pF)  : ∀ (lv : xL) (l0 : Int32), xg lv 0 = some (.int l0) → ∀ res, m_isEndpoint_b0  l0 = some res → xR pF (d + 1) kT302 16 1 false (some .boolean) (some (.int res)) hp (0, lv, [], hp) := by
  intro lv l0 g0 res h
  unfold m_isEndpoint_b0 at h
  refine eE_iload_n lk302_0 g0 ?_
  refine eE_i2l lk302_1 ?_
  refine eE_lconst (v := 0) lk302_2 (by decide) ?_
  refine eE_ldc2_w (v := 6) lk302_3 xl_827 ?_
  obtain ⟨p2, h3, h⟩ := Option.bind_eq_some_iff.mp h
  refine eE_stat (as := [.long (l0.toInt64), .long ((0 : Int64)), .long ((6 : Int64))]) lk302_6 mr_799 na_294 rfl rfl (Nat.le_of_ble_eq_true rfl) mm_294 ws_294 (m_in_ok hp0 (d := d + 0) h3) ?_
  refine eE_if (t := 26) lk302_9 (by decide) (fun c4 => ?_) (fun c4 => ?_)
  · rw [if_pos c4] at h
    exact m_isEndpoint_b26_ok hp0  lv   _ h
  · rw [if_neg c4] at h
    refine eE_iload_n lk302_12 g0 ?_
    refine eE_i2l lk302_13 ?_
    refine eE_ldc2_w (v := 8) lk302_14 xl_829 ?_
    refine eE_ldc2_w (v := 15) lk302_17 xl_831 ?_
    obtain ⟨p5, h6, h⟩ := Option.bind_eq_some_iff.mp h
    refine eE_stat (as := [.long (l0.toInt64), .long ((8 : Int64)), .long ((15 : Int64))]) lk302_20 mr_799 na_294 rfl rfl (Nat.le_of_ble_eq_true rfl) mm_294 ws_294 (m_in_ok hp0 (d := d + 0) h6) ?_
    refine eE_if (t := 30) lk302_23 (by decide) (fun c7 => ?_) (fun c7 => ?_)
    · rw [if_pos c7] at h
      refine eE_iconst (v := 0) lk302_30 (by decide) ?_
      exact m_isEndpoint_b31_ok hp0  lv ((0 : Int32))  _ h
    · rw [if_neg c7] at h
      exact m_isEndpoint_b26_ok hp0  lv   _ h
def m_isEndpoint (l0 : Int32) : Option (Int32) := m_isEndpoint_b0 l0
theorem m_isEndpoint_ok {pF : Nat → List Value → xH → Option (Option Value × xH)} (hp0 : xNP pF) {d : Nat} {hp : xH} {l0 : Int32} {res : Int32} (h : m_isEndpoint l0 = some res) : xCo pF (d + 2) 302 [.int l0] hp (some (.int res)) hp := by
  unfold m_isEndpoint at h
  exact xCo_R kk_302 mo_302 ni_302 xm_302 (Nat.le_of_ble_eq_true rfl) (hp0 _ (by decide) (by decide) _ _) (m_isEndpoint_b0_ok hp0 _ l0 rfl _ h)
/-! delay (270), depth 3 -/
def m_delay_b36  (σ : RS) (s1 : Int32) (l1 : Int32) (l2 : Int32) (l3 : Int32) : Option (Int32 × RS) :=
  (some (setI σ 0 0 s1)).bind fun σ1 =>
  if xc0 .le (σ1.1 0 0) = true then (
    (rld σ1 23 ((((16 : Int32)) * l1) + l2)).bind fun x4 =>
    (rst σ1 23 ((((16 : Int32)) * l1) + l2) l3).bind fun σ13 =>
    some (x4, σ13)
  ) else (
    some ((0 : Int32), σ1)
  )
set_option maxRecDepth 4000 in
theorem m_delay_b36_ok {pF : Nat → List Value → xH → Option (Option Value × xH)} {d : Nat} {aR : Nat} {G : Nat → xC} {T : Nat × Nat} (hp0 : xNP pF)  : ∀ (lv : xL) (σ : RS) (s1 : Int32) (l1 : Int32) (l2 : Int32) (l3 : Int32), xg lv 0 = some (.ref aR) → xg lv 1 = some (.int l1) → xg lv 2 = some (.int l2) → xg lv 3 = some (.int l3) → ∀ res, m_delay_b36  σ s1 l1 l2 l3 = some res → xR pF (d + 2) kT270 16 5 false (some .int) (some (.int res.1)) (layR aR res.2 G, T) (36, lv, [.int s1, .ref aR], (layR aR σ G, T)) := by
  intro lv σ s1 l1 l2 l3 g0 g1 g2 g3 res h
  unfold m_delay_b36 at h
  obtain ⟨σ1, h2, h⟩ := Option.bind_eq_some_iff.mp h
  refine eR_putS lk270_36 rf_393 rfl (by decide) pf_0.1 pf_0.2 h2 ?_
  refine eE_aload_n lk270_39 g0 ?_
  refine eR_get lk270_40 rf_393 rfl ?_
  refine eE_if (t := 48) lk270_43 (by decide) (fun c3 => ?_) (fun c3 => ?_)
  · rw [if_pos c3] at h
    refine eE_aload_n lk270_48 g0 ?_
    refine eR_getA lk270_49 rf_59 rfl ?_
    refine eE_bipush (v := 16) lk270_52 (by decide) ?_
    refine eE_iload_n lk270_54 g1 ?_
    refine eE_imul lk270_55 ?_
    refine eE_iload_n lk270_56 g2 ?_
    refine eE_iadd lk270_57 ?_
    obtain ⟨x4, h5, h⟩ := Option.bind_eq_some_iff.mp h
    refine eR_iald lk270_58 rfl rfl h5 ?_
    refine eE_stI (j := 4) lk270_59 (Or.inl rfl) (by decide) (fun vq6 gq7 kq8 => ?_)
    have gq9 := kq8 1 _ (by decide) (fun _ => rfl) g1
    have gq10 := kq8 2 _ (by decide) (fun _ => rfl) g2
    have gq11 := kq8 3 _ (by decide) (fun _ => rfl) g3
    have gq12 := kq8 0 _ (by decide) (fun _ => rfl) g0
    refine eE_aload_n lk270_61 gq12 ?_
    refine eR_getA lk270_62 rf_59 rfl ?_
    refine eE_bipush (v := 16) lk270_65 (by decide) ?_
    refine eE_iload_n lk270_67 gq9 ?_
    refine eE_imul lk270_68 ?_
    refine eE_iload_n lk270_69 gq10 ?_
    refine eE_iadd lk270_70 ?_
    refine eE_iload_n lk270_71 gq11 ?_
    obtain ⟨σ13, h14, h⟩ := Option.bind_eq_some_iff.mp h
    refine eR_iast lk270_72 rfl rfl h14 ?_
    refine eE_iload lk270_73 gq7 ?_
    cases h
    exact eE_end lk270_75 rfl rfl rfl
  · rw [if_neg c3] at h
    refine eE_iconst (v := 0) lk270_46 (by decide) ?_
    cases h
    exact eE_end lk270_47 rfl rfl rfl
def m_delay_b15  (σ : RS) (l1 : Int32) (l2 : Int32) (l3 : Int32) : Option (Int32 × RS) :=
  m_delay_b36  σ ((1 : Int32)) l1 l2 l3
set_option maxRecDepth 4000 in
theorem m_delay_b15_ok {pF : Nat → List Value → xH → Option (Option Value × xH)} {d : Nat} {aR : Nat} {G : Nat → xC} {T : Nat × Nat} (hp0 : xNP pF)  : ∀ (lv : xL) (σ : RS) (l1 : Int32) (l2 : Int32) (l3 : Int32), xg lv 0 = some (.ref aR) → xg lv 1 = some (.int l1) → xg lv 2 = some (.int l2) → xg lv 3 = some (.int l3) → ∀ res, m_delay_b15  σ l1 l2 l3 = some res → xR pF (d + 2) kT270 16 5 false (some .int) (some (.int res.1)) (layR aR res.2 G, T) (15, lv, [.ref aR], (layR aR σ G, T)) := by
  intro lv σ l1 l2 l3 g0 g1 g2 g3 res h
  unfold m_delay_b15 at h
  refine eE_iconst (v := 1) lk270_15 (by decide) ?_
  refine eE_goto (t := 36) lk270_16 (by decide) ?_
  exact m_delay_b36_ok hp0  lv σ ((1 : Int32)) l1 l2 l3 g0 g1 g2 g3 _ h
def m_delay_b0  (σ : RS) (l1 : Int32) (l2 : Int32) (l3 : Int32) : Option (Int32 × RS) :=
  (m_isEndpoint l1).bind fun p15 =>
  if xc0 .eq p15 = true then (
    m_delay_b15  σ l1 l2 l3
  ) else (
    (m_isEndpoint l2).bind fun p18 =>
    if xc0 .ne p18 = true then (
      (m_in (l3.toInt64) ((1 : Int64)) ((1000 : Int64))).bind fun p21 =>
      if xc0 .ne p21 = true then (
        m_delay_b36  σ ((0 : Int32)) l1 l2 l3
      ) else (
        m_delay_b36  σ ((2 : Int32)) l1 l2 l3
      )
    ) else (
      m_delay_b15  σ l1 l2 l3
    )
  )
set_option maxRecDepth 4000 in
theorem m_delay_b0_ok {pF : Nat → List Value → xH → Option (Option Value × xH)} {d : Nat} {aR : Nat} {G : Nat → xC} {T : Nat × Nat} (hp0 : xNP pF)  : ∀ (lv : xL) (σ : RS) (l1 : Int32) (l2 : Int32) (l3 : Int32), xg lv 0 = some (.ref aR) → xg lv 1 = some (.int l1) → xg lv 2 = some (.int l2) → xg lv 3 = some (.int l3) → ∀ res, m_delay_b0  σ l1 l2 l3 = some res → xR pF (d + 2) kT270 16 5 false (some .int) (some (.int res.1)) (layR aR res.2 G, T) (0, lv, [], (layR aR σ G, T)) := by
  intro lv σ l1 l2 l3 g0 g1 g2 g3 res h
  unfold m_delay_b0 at h
  refine eE_aload_n lk270_0 g0 ?_
  refine eE_iload_n lk270_1 g1 ?_
  obtain ⟨p15, h16, h⟩ := Option.bind_eq_some_iff.mp h
  refine eE_stat (as := [.int l1]) lk270_2 mr_833 na_302 rfl rfl (Nat.le_of_ble_eq_true rfl) mm_302 ws_302 (m_isEndpoint_ok hp0 (d := d + 0) h16) ?_
  refine eE_if (t := 15) lk270_5 (by decide) (fun c17 => ?_) (fun c17 => ?_)
  · rw [if_pos c17] at h
    exact m_delay_b15_ok hp0  lv σ l1 l2 l3 g0 g1 g2 g3 _ h
  · rw [if_neg c17] at h
    refine eE_iload_n lk270_8 g2 ?_
    obtain ⟨p18, h19, h⟩ := Option.bind_eq_some_iff.mp h
    refine eE_stat (as := [.int l2]) lk270_9 mr_833 na_302 rfl rfl (Nat.le_of_ble_eq_true rfl) mm_302 ws_302 (m_isEndpoint_ok hp0 (d := d + 0) h19) ?_
    refine eE_if (t := 19) lk270_12 (by decide) (fun c20 => ?_) (fun c20 => ?_)
    · rw [if_pos c20] at h
      refine eE_iload_n lk270_19 g3 ?_
      refine eE_i2l lk270_20 ?_
      refine eE_lconst (v := 1) lk270_21 (by decide) ?_
      refine eE_ldc2_w (v := 1000) lk270_22 xl_818 ?_
      obtain ⟨p21, h22, h⟩ := Option.bind_eq_some_iff.mp h
      refine eE_stat (as := [.long (l3.toInt64), .long ((1 : Int64)), .long ((1000 : Int64))]) lk270_25 mr_799 na_294 rfl rfl (Nat.le_of_ble_eq_true rfl) mm_294 ws_294 (m_in_ok hp0 (d := d + 1) h22) ?_
      refine eE_if (t := 35) lk270_28 (by decide) (fun c23 => ?_) (fun c23 => ?_)
      · rw [if_pos c23] at h
        refine eE_iconst (v := 0) lk270_35 (by decide) ?_
        exact m_delay_b36_ok hp0  lv σ ((0 : Int32)) l1 l2 l3 g0 g1 g2 g3 _ h
      · rw [if_neg c23] at h
        refine eE_iconst (v := 2) lk270_31 (by decide) ?_
        refine eE_goto (t := 36) lk270_32 (by decide) ?_
        exact m_delay_b36_ok hp0  lv σ ((2 : Int32)) l1 l2 l3 g0 g1 g2 g3 _ h
    · rw [if_neg c20] at h
      exact m_delay_b15_ok hp0  lv σ l1 l2 l3 g0 g1 g2 g3 _ h
def m_delay (σ : RS) (l1 : Int32) (l2 : Int32) (l3 : Int32) : Option (Int32 × RS) := m_delay_b0 σ l1 l2 l3
theorem m_delay_ok {pF : Nat → List Value → xH → Option (Option Value × xH)} (hp0 : xNP pF) {d : Nat} {aR : Nat} {G : Nat → xC} {T : Nat × Nat} {σ : RS} {l1 : Int32} {l2 : Int32} {l3 : Int32} {res : Int32 × RS} (h : m_delay σ l1 l2 l3 = some res) : xCo pF (d + 3) 270 [.ref aR, .int l1, .int l2, .int l3] (layR aR σ G, T) (some (.int res.1)) (layR aR res.2 G, T) := by
  unfold m_delay at h
  exact xCo_R kk_270 mo_270 ni_270 xm_270 (Nat.le_of_ble_eq_true rfl) (hp0 _ (by decide) (by decide) _ _) (m_delay_b0_ok hp0 _ σ l1 l2 l3 rfl rfl rfl rfl _ h)
/-! end (276), depth 2 -/
def m_end_b31  (σ : RS) (s1 : Int32) (l1 : Int32) : Option (Int32 × RS) :=
  (some (setI σ 0 0 s1)).bind fun σ1 =>
  if xc0 .le (σ1.1 0 0) = true then (
    (some (setI σ1 5 0 ((σ1.1 5 0) - (((20 : Int32)) - l1)))).bind fun σ4 =>
    some (σ4.1 5 0, σ4)
  ) else (
    some ((0 : Int32), σ1)
  )
set_option maxRecDepth 4000 in
theorem m_end_b31_ok {pF : Nat → List Value → xH → Option (Option Value × xH)} {d : Nat} {aR : Nat} {G : Nat → xC} {T : Nat × Nat} (hp0 : xNP pF)  : ∀ (lv : xL) (σ : RS) (s1 : Int32) (l1 : Int32), xg lv 0 = some (.ref aR) → xg lv 1 = some (.int l1) → ∀ res, m_end_b31  σ s1 l1 = some res → xR pF (d + 1) kT276 16 2 false (some .int) (some (.int res.1)) (layR aR res.2 G, T) (31, lv, [.int s1, .ref aR], (layR aR σ G, T)) := by
  intro lv σ s1 l1 g0 g1 res h
  unfold m_end_b31 at h
  obtain ⟨σ1, h2, h⟩ := Option.bind_eq_some_iff.mp h
  refine eR_putS lk276_31 rf_393 rfl (by decide) pf_0.1 pf_0.2 h2 ?_
  refine eE_aload_n lk276_34 g0 ?_
  refine eR_get lk276_35 rf_393 rfl ?_
  refine eE_if (t := 43) lk276_38 (by decide) (fun c3 => ?_) (fun c3 => ?_)
  · rw [if_pos c3] at h
    refine eE_aload_n lk276_43 g0 ?_
    refine eE_dup lk276_44 rfl ?_
    refine eR_get lk276_45 rf_791 rfl ?_
    refine eE_bipush (v := 20) lk276_48 (by decide) ?_
    refine eE_iload_n lk276_50 g1 ?_
    refine eE_isub lk276_51 ?_
    refine eE_isub lk276_52 ?_
    obtain ⟨σ4, h5, h⟩ := Option.bind_eq_some_iff.mp h
    refine eR_putS lk276_53 rf_791 rfl (by decide) pf_5.1 pf_5.2 h5 ?_
    refine eE_aload_n lk276_56 g0 ?_
    refine eR_get lk276_57 rf_791 rfl ?_
    cases h
    exact eE_end lk276_60 rfl rfl rfl
  · rw [if_neg c3] at h
    refine eE_iconst (v := 0) lk276_41 (by decide) ?_
    cases h
    exact eE_end lk276_42 rfl rfl rfl
def m_end_b0  (σ : RS) (l1 : Int32) : Option (Int32 × RS) :=
  (m_in (l1.toInt64) ((0 : Int64)) ((20 : Int64))).bind fun p6 =>
  if xc0 .ne p6 = true then (
    if xc2 .ge (σ.1 5 0) ((20 : Int32)) = true then (
      m_end_b31  σ ((0 : Int32)) l1
    ) else (
      m_end_b31  σ ((2 : Int32)) l1
    )
  ) else (
    m_end_b31  σ ((1 : Int32)) l1
  )
set_option maxRecDepth 4000 in
theorem m_end_b0_ok {pF : Nat → List Value → xH → Option (Option Value × xH)} {d : Nat} {aR : Nat} {G : Nat → xC} {T : Nat × Nat} (hp0 : xNP pF)  : ∀ (lv : xL) (σ : RS) (l1 : Int32), xg lv 0 = some (.ref aR) → xg lv 1 = some (.int l1) → ∀ res, m_end_b0  σ l1 = some res → xR pF (d + 1) kT276 16 2 false (some .int) (some (.int res.1)) (layR aR res.2 G, T) (0, lv, [], (layR aR σ G, T)) := by
  intro lv σ l1 g0 g1 res h
  unfold m_end_b0 at h
  refine eE_aload_n lk276_0 g0 ?_
  refine eE_iload_n lk276_1 g1 ?_
  refine eE_i2l lk276_2 ?_
  refine eE_lconst (v := 0) lk276_3 (by decide) ?_
  refine eE_ldc2_w (v := 20) lk276_4 xl_797 ?_
  obtain ⟨p6, h7, h⟩ := Option.bind_eq_some_iff.mp h
  refine eE_stat (as := [.long (l1.toInt64), .long ((0 : Int64)), .long ((20 : Int64))]) lk276_7 mr_799 na_294 rfl rfl (Nat.le_of_ble_eq_true rfl) mm_294 ws_294 (m_in_ok hp0 (d := d + 0) h7) ?_
  refine eE_if (t := 17) lk276_10 (by decide) (fun c8 => ?_) (fun c8 => ?_)
  · rw [if_pos c8] at h
    refine eE_aload_n lk276_17 g0 ?_
    refine eR_get lk276_18 rf_791 rfl ?_
    refine eE_bipush (v := 20) lk276_21 (by decide) ?_
    refine eE_icmp (t := 30) lk276_23 (by decide) (fun c9 => ?_) (fun c9 => ?_)
    · rw [if_pos c9] at h
      refine eE_iconst (v := 0) lk276_30 (by decide) ?_
      exact m_end_b31_ok hp0  lv σ ((0 : Int32)) l1 g0 g1 _ h
    · rw [if_neg c9] at h
      refine eE_iconst (v := 2) lk276_26 (by decide) ?_
      refine eE_goto (t := 31) lk276_27 (by decide) ?_
      exact m_end_b31_ok hp0  lv σ ((2 : Int32)) l1 g0 g1 _ h
  · rw [if_neg c8] at h
    refine eE_iconst (v := 1) lk276_13 (by decide) ?_
    refine eE_goto (t := 31) lk276_14 (by decide) ?_
    exact m_end_b31_ok hp0  lv σ ((1 : Int32)) l1 g0 g1 _ h
def m_end (σ : RS) (l1 : Int32) : Option (Int32 × RS) := m_end_b0 σ l1
theorem m_end_ok {pF : Nat → List Value → xH → Option (Option Value × xH)} (hp0 : xNP pF) {d : Nat} {aR : Nat} {G : Nat → xC} {T : Nat × Nat} {σ : RS} {l1 : Int32} {res : Int32 × RS} (h : m_end σ l1 = some res) : xCo pF (d + 2) 276 [.ref aR, .int l1] (layR aR σ G, T) (some (.int res.1)) (layR aR res.2 G, T) := by
  unfold m_end at h
  exact xCo_R kk_276 mo_276 ni_276 xm_276 (Nat.le_of_ble_eq_true rfl) (hp0 _ (by decide) (by decide) _ _) (m_end_b0_ok hp0 _ σ l1 rfl rfl _ h)
/-! entry (277), depth 3 -/
def m_entry_b168  (σ : RS) (s0 : Int32) : Option (Int32 × RS) :=
  some (s0, σ)
set_option maxRecDepth 4000 in
theorem m_entry_b168_ok {pF : Nat → List Value → xH → Option (Option Value × xH)} {d : Nat} {aR : Nat} {G : Nat → xC} {T : Nat × Nat} (hp0 : xNP pF)  : ∀ (lv : xL) (σ : RS) (s0 : Int32), xg lv 0 = some (.ref aR) → ∀ res, m_entry_b168  σ s0 = some res → xR pF (d + 2) kT277 16 5 false (some .int) (some (.int res.1)) (layR aR res.2 G, T) (168, lv, [.int s0], (layR aR σ G, T)) := by
  intro lv σ s0 g0 res h
  unfold m_entry_b168 at h
  cases h
  exact eE_end lk277_168 rfl rfl rfl
def m_entry_b115  (σ : RS) (s1 : Int32) (l1 : Int32) (l2 : Int32) (l3 : Int32) : Option (Int32 × RS) :=
  (some (setI σ 0 0 s1)).bind fun σ1 =>
  if xc0 .le (σ1.1 0 0) = true then (
    if xc0 .ne l3 = true then (
      if xc2 .ne l3 ((1 : Int32)) = true then (
        (m_logOf l1 l2).bind fun p6 =>
        (rld σ1 61 p6).bind fun x8 =>
        m_entry_b168  σ1 x8
      ) else (
        (m_logOf l1 l2).bind fun p10 =>
        (rld σ1 60 p10).bind fun x12 =>
        m_entry_b168  σ1 x12
      )
    ) else (
      (m_termAt σ1 l1 l2).bind fun p14 =>
      m_entry_b168  p14.2 (p14.1)
    )
  ) else (
    some ((0 : Int32), σ1)
  )
set_option maxRecDepth 4000 in
theorem m_entry_b115_ok {pF : Nat → List Value → xH → Option (Option Value × xH)} {d : Nat} {aR : Nat} {G : Nat → xC} {T : Nat × Nat} (hp0 : xNP pF)  : ∀ (lv : xL) (σ : RS) (s1 : Int32) (l1 : Int32) (l2 : Int32) (l3 : Int32), xg lv 0 = some (.ref aR) → xg lv 1 = some (.int l1) → xg lv 2 = some (.int l2) → xg lv 3 = some (.int l3) → ∀ res, m_entry_b115  σ s1 l1 l2 l3 = some res → xR pF (d + 2) kT277 16 5 false (some .int) (some (.int res.1)) (layR aR res.2 G, T) (115, lv, [.int s1, .ref aR], (layR aR σ G, T)) := by
  intro lv σ s1 l1 l2 l3 g0 g1 g2 g3 res h
  unfold m_entry_b115 at h
  obtain ⟨σ1, h2, h⟩ := Option.bind_eq_some_iff.mp h
  refine eR_putS lk277_115 rf_393 rfl (by decide) pf_0.1 pf_0.2 h2 ?_
  refine eE_aload_n lk277_118 g0 ?_
  refine eR_get lk277_119 rf_393 rfl ?_
  refine eE_if (t := 127) lk277_122 (by decide) (fun c3 => ?_) (fun c3 => ?_)
  · rw [if_pos c3] at h
    refine eE_iload_n lk277_127 g3 ?_
    refine eE_if (t := 140) lk277_128 (by decide) (fun c4 => ?_) (fun c4 => ?_)
    · rw [if_pos c4] at h
      refine eE_iload_n lk277_140 g3 ?_
      refine eE_iconst (v := 1) lk277_141 (by decide) ?_
      refine eE_icmp (t := 158) lk277_142 (by decide) (fun c5 => ?_) (fun c5 => ?_)
      · rw [if_pos c5] at h
        refine eE_aload_n lk277_158 g0 ?_
        refine eR_getA lk277_159 rf_147 rfl ?_
        refine eE_iload_n lk277_162 g1 ?_
        refine eE_iload_n lk277_163 g2 ?_
        obtain ⟨p6, h7, h⟩ := Option.bind_eq_some_iff.mp h
        refine eE_stat (as := [.int l1, .int l2]) lk277_164 mr_521 na_322 rfl rfl (Nat.le_of_ble_eq_true rfl) mm_322 ws_322 (m_logOf_ok hp0 (d := d + 1) h7) ?_
        obtain ⟨x8, h9, h⟩ := Option.bind_eq_some_iff.mp h
        refine eR_iald lk277_167 rfl rfl h9 ?_
        exact m_entry_b168_ok hp0  lv σ1 x8 g0 _ h
      · rw [if_neg c5] at h
        refine eE_aload_n lk277_145 g0 ?_
        refine eR_getA lk277_146 rf_144 rfl ?_
        refine eE_iload_n lk277_149 g1 ?_
        refine eE_iload_n lk277_150 g2 ?_
        obtain ⟨p10, h11, h⟩ := Option.bind_eq_some_iff.mp h
        refine eE_stat (as := [.int l1, .int l2]) lk277_151 mr_521 na_322 rfl rfl (Nat.le_of_ble_eq_true rfl) mm_322 ws_322 (m_logOf_ok hp0 (d := d + 1) h11) ?_
        obtain ⟨x12, h13, h⟩ := Option.bind_eq_some_iff.mp h
        refine eR_iald lk277_154 rfl rfl h13 ?_
        refine eE_goto (t := 168) lk277_155 (by decide) ?_
        exact m_entry_b168_ok hp0  lv σ1 x12 g0 _ h
    · rw [if_neg c4] at h
      refine eE_aload_n lk277_131 g0 ?_
      refine eE_iload_n lk277_132 g1 ?_
      refine eE_iload_n lk277_133 g2 ?_
      obtain ⟨p14, h15, h⟩ := Option.bind_eq_some_iff.mp h
      refine eR_call (as := [.int l1, .int l2]) lk277_134 mr_524 na_372 rfl rfl (Nat.le_of_ble_eq_true rfl) wv_372 wc_372 (m_termAt_ok hp0 (d := d + 0) h15) ?_
      refine eE_goto (t := 168) lk277_137 (by decide) ?_
      exact m_entry_b168_ok hp0  lv p14.2 (p14.1) g0 _ h
  · rw [if_neg c3] at h
    refine eE_iconst (v := 0) lk277_125 (by decide) ?_
    cases h
    exact eE_end lk277_126 rfl rfl rfl
def m_entry_b102  (σ : RS) (s0 : Int32) (l1 : Int32) (l2 : Int32) (l3 : Int32) : Option (Int32 × RS) :=
  if xc0 .eq s0 = true then (
    m_entry_b115  σ ((1 : Int32)) l1 l2 l3
  ) else (
    m_entry_b115  σ ((0 : Int32)) l1 l2 l3
  )
set_option maxRecDepth 4000 in
theorem m_entry_b102_ok {pF : Nat → List Value → xH → Option (Option Value × xH)} {d : Nat} {aR : Nat} {G : Nat → xC} {T : Nat × Nat} (hp0 : xNP pF)  : ∀ (lv : xL) (σ : RS) (s0 : Int32) (l1 : Int32) (l2 : Int32) (l3 : Int32), xg lv 0 = some (.ref aR) → xg lv 1 = some (.int l1) → xg lv 2 = some (.int l2) → xg lv 3 = some (.int l3) → ∀ res, m_entry_b102  σ s0 l1 l2 l3 = some res → xR pF (d + 2) kT277 16 5 false (some .int) (some (.int res.1)) (layR aR res.2 G, T) (102, lv, [.int s0], (layR aR σ G, T)) := by
  intro lv σ s0 l1 l2 l3 g0 g1 g2 g3 res h
  unfold m_entry_b102 at h
  refine eE_stI (j := 4) lk277_102 (Or.inl rfl) (by decide) (fun vq16 gq17 kq18 => ?_)
  have gq19 := kq18 1 _ (by decide) (fun _ => rfl) g1
  have gq20 := kq18 2 _ (by decide) (fun _ => rfl) g2
  have gq21 := kq18 3 _ (by decide) (fun _ => rfl) g3
  have gq22 := kq18 0 _ (by decide) (fun _ => rfl) g0
  refine eE_aload_n lk277_104 gq22 ?_
  refine eE_iload lk277_105 gq17 ?_
  refine eE_if (t := 114) lk277_107 (by decide) (fun c23 => ?_) (fun c23 => ?_)
  · rw [if_pos c23] at h
    refine eE_iconst (v := 1) lk277_114 (by decide) ?_
    exact m_entry_b115_ok hp0  vq16 σ ((1 : Int32)) l1 l2 l3 gq22 gq19 gq20 gq21 _ h
  · rw [if_neg c23] at h
    refine eE_iconst (v := 0) lk277_110 (by decide) ?_
    refine eE_goto (t := 115) lk277_111 (by decide) ?_
    exact m_entry_b115_ok hp0  vq16 σ ((0 : Int32)) l1 l2 l3 gq22 gq19 gq20 gq21 _ h
def m_entry_b97  (σ : RS) (l1 : Int32) (l2 : Int32) (l3 : Int32) : Option (Int32 × RS) :=
  m_entry_b102  σ ((1 : Int32)) l1 l2 l3
set_option maxRecDepth 4000 in
theorem m_entry_b97_ok {pF : Nat → List Value → xH → Option (Option Value × xH)} {d : Nat} {aR : Nat} {G : Nat → xC} {T : Nat × Nat} (hp0 : xNP pF)  : ∀ (lv : xL) (σ : RS) (l1 : Int32) (l2 : Int32) (l3 : Int32), xg lv 0 = some (.ref aR) → xg lv 1 = some (.int l1) → xg lv 2 = some (.int l2) → xg lv 3 = some (.int l3) → ∀ res, m_entry_b97  σ l1 l2 l3 = some res → xR pF (d + 2) kT277 16 5 false (some .int) (some (.int res.1)) (layR aR res.2 G, T) (97, lv, [], (layR aR σ G, T)) := by
  intro lv σ l1 l2 l3 g0 g1 g2 g3 res h
  unfold m_entry_b97 at h
  refine eE_iconst (v := 1) lk277_97 (by decide) ?_
  refine eE_goto (t := 102) lk277_98 (by decide) ?_
  exact m_entry_b102_ok hp0  lv σ ((1 : Int32)) l1 l2 l3 g0 g1 g2 g3 _ h
def m_entry_b101  (σ : RS) (l1 : Int32) (l2 : Int32) (l3 : Int32) : Option (Int32 × RS) :=
  m_entry_b102  σ ((0 : Int32)) l1 l2 l3
set_option maxRecDepth 4000 in
theorem m_entry_b101_ok {pF : Nat → List Value → xH → Option (Option Value × xH)} {d : Nat} {aR : Nat} {G : Nat → xC} {T : Nat × Nat} (hp0 : xNP pF)  : ∀ (lv : xL) (σ : RS) (l1 : Int32) (l2 : Int32) (l3 : Int32), xg lv 0 = some (.ref aR) → xg lv 1 = some (.int l1) → xg lv 2 = some (.int l2) → xg lv 3 = some (.int l3) → ∀ res, m_entry_b101  σ l1 l2 l3 = some res → xR pF (d + 2) kT277 16 5 false (some .int) (some (.int res.1)) (layR aR res.2 G, T) (101, lv, [], (layR aR σ G, T)) := by
  intro lv σ l1 l2 l3 g0 g1 g2 g3 res h
  unfold m_entry_b101 at h
  refine eE_iconst (v := 0) lk277_101 (by decide) ?_
  exact m_entry_b102_ok hp0  lv σ ((0 : Int32)) l1 l2 l3 g0 g1 g2 g3 _ h
def m_entry_b54  (σ : RS) (s0 : Int32) (l1 : Int32) (l2 : Int32) (l3 : Int32) : Option (Int32 × RS) :=
  if xc0 .eq s0 = true then (
    m_entry_b101  σ l1 l2 l3
  ) else (
    (rld σ 55 l1).bind fun x32 =>
    (rld σ 56 l1).bind fun x34 =>
    (m_in (l2.toInt64) (x32.toInt64) (x34.toInt64)).bind fun p36 =>
    if xc0 .eq p36 = true then (
      m_entry_b101  σ l1 l2 l3
    ) else (
      (rld σ 55 l1).bind fun x39 =>
      if xc2 .gt l2 x39 = true then (
        m_entry_b97  σ l1 l2 l3
      ) else (
        if xc0 .ne l3 = true then (
          m_entry_b101  σ l1 l2 l3
        ) else (
          m_entry_b97  σ l1 l2 l3
        )
      )
    )
  )
set_option maxRecDepth 4000 in
theorem m_entry_b54_ok {pF : Nat → List Value → xH → Option (Option Value × xH)} {d : Nat} {aR : Nat} {G : Nat → xC} {T : Nat × Nat} (hp0 : xNP pF)  : ∀ (lv : xL) (σ : RS) (s0 : Int32) (l1 : Int32) (l2 : Int32) (l3 : Int32), xg lv 0 = some (.ref aR) → xg lv 1 = some (.int l1) → xg lv 2 = some (.int l2) → xg lv 3 = some (.int l3) → ∀ res, m_entry_b54  σ s0 l1 l2 l3 = some res → xR pF (d + 2) kT277 16 5 false (some .int) (some (.int res.1)) (layR aR res.2 G, T) (54, lv, [.int s0], (layR aR σ G, T)) := by
  intro lv σ s0 l1 l2 l3 g0 g1 g2 g3 res h
  unfold m_entry_b54 at h
  refine eE_stI (j := 4) lk277_54 (Or.inl rfl) (by decide) (fun vq24 gq25 kq26 => ?_)
  have gq27 := kq26 1 _ (by decide) (fun _ => rfl) g1
  have gq28 := kq26 2 _ (by decide) (fun _ => rfl) g2
  have gq29 := kq26 3 _ (by decide) (fun _ => rfl) g3
  have gq30 := kq26 0 _ (by decide) (fun _ => rfl) g0
  refine eE_iload lk277_56 gq25 ?_
  refine eE_if (t := 101) lk277_58 (by decide) (fun c31 => ?_) (fun c31 => ?_)
  · rw [if_pos c31] at h
    exact m_entry_b101_ok hp0  vq24 σ l1 l2 l3 gq30 gq27 gq28 gq29 _ h
  · rw [if_neg c31] at h
    refine eE_iload_n lk277_61 gq28 ?_
    refine eE_i2l lk277_62 ?_
    refine eE_aload_n lk277_63 gq30 ?_
    refine eR_getA lk277_64 rf_129 rfl ?_
    refine eE_iload_n lk277_67 gq27 ?_
    obtain ⟨x32, h33, h⟩ := Option.bind_eq_some_iff.mp h
    refine eR_iald lk277_68 rfl rfl h33 ?_
    refine eE_i2l lk277_69 ?_
    refine eE_aload_n lk277_70 gq30 ?_
    refine eR_getA lk277_71 rf_132 rfl ?_
    refine eE_iload_n lk277_74 gq27 ?_
    obtain ⟨x34, h35, h⟩ := Option.bind_eq_some_iff.mp h
    refine eR_iald lk277_75 rfl rfl h35 ?_
    refine eE_i2l lk277_76 ?_
    obtain ⟨p36, h37, h⟩ := Option.bind_eq_some_iff.mp h
    refine eE_stat (as := [.long (l2.toInt64), .long (x32.toInt64), .long (x34.toInt64)]) lk277_77 mr_799 na_294 rfl rfl (Nat.le_of_ble_eq_true rfl) mm_294 ws_294 (m_in_ok hp0 (d := d + 1) h37) ?_
    refine eE_if (t := 101) lk277_80 (by decide) (fun c38 => ?_) (fun c38 => ?_)
    · rw [if_pos c38] at h
      exact m_entry_b101_ok hp0  vq24 σ l1 l2 l3 gq30 gq27 gq28 gq29 _ h
    · rw [if_neg c38] at h
      refine eE_iload_n lk277_83 gq28 ?_
      refine eE_aload_n lk277_84 gq30 ?_
      refine eR_getA lk277_85 rf_129 rfl ?_
      refine eE_iload_n lk277_88 gq27 ?_
      obtain ⟨x39, h40, h⟩ := Option.bind_eq_some_iff.mp h
      refine eR_iald lk277_89 rfl rfl h40 ?_
      refine eE_icmp (t := 97) lk277_90 (by decide) (fun c41 => ?_) (fun c41 => ?_)
      · rw [if_pos c41] at h
        exact m_entry_b97_ok hp0  vq24 σ l1 l2 l3 gq30 gq27 gq28 gq29 _ h
      · rw [if_neg c41] at h
        refine eE_iload_n lk277_93 gq29 ?_
        refine eE_if (t := 101) lk277_94 (by decide) (fun c42 => ?_) (fun c42 => ?_)
        · rw [if_pos c42] at h
          exact m_entry_b101_ok hp0  vq24 σ l1 l2 l3 gq30 gq27 gq28 gq29 _ h
        · rw [if_neg c42] at h
          exact m_entry_b97_ok hp0  vq24 σ l1 l2 l3 gq30 gq27 gq28 gq29 _ h
def m_entry_b53  (σ : RS) (l1 : Int32) (l2 : Int32) (l3 : Int32) : Option (Int32 × RS) :=
  m_entry_b54  σ ((0 : Int32)) l1 l2 l3
set_option maxRecDepth 4000 in
theorem m_entry_b53_ok {pF : Nat → List Value → xH → Option (Option Value × xH)} {d : Nat} {aR : Nat} {G : Nat → xC} {T : Nat × Nat} (hp0 : xNP pF)  : ∀ (lv : xL) (σ : RS) (l1 : Int32) (l2 : Int32) (l3 : Int32), xg lv 0 = some (.ref aR) → xg lv 1 = some (.int l1) → xg lv 2 = some (.int l2) → xg lv 3 = some (.int l3) → ∀ res, m_entry_b53  σ l1 l2 l3 = some res → xR pF (d + 2) kT277 16 5 false (some .int) (some (.int res.1)) (layR aR res.2 G, T) (53, lv, [], (layR aR σ G, T)) := by
  intro lv σ l1 l2 l3 g0 g1 g2 g3 res h
  unfold m_entry_b53 at h
  refine eE_iconst (v := 0) lk277_53 (by decide) ?_
  exact m_entry_b54_ok hp0  lv σ ((0 : Int32)) l1 l2 l3 g0 g1 g2 g3 _ h
def m_entry_b33  (σ : RS) (s1 : Int32) (l1 : Int32) (l2 : Int32) (l3 : Int32) : Option (Int32 × RS) :=
  (rld σ 52 s1).bind fun x43 =>
  if xc0 .eq x43 = true then (
    m_entry_b53  σ l1 l2 l3
  ) else (
    (m_in (l3.toInt64) ((0 : Int64)) ((2 : Int64))).bind fun p46 =>
    if xc0 .eq p46 = true then (
      m_entry_b53  σ l1 l2 l3
    ) else (
      m_entry_b54  σ ((1 : Int32)) l1 l2 l3
    )
  )
set_option maxRecDepth 4000 in
theorem m_entry_b33_ok {pF : Nat → List Value → xH → Option (Option Value × xH)} {d : Nat} {aR : Nat} {G : Nat → xC} {T : Nat × Nat} (hp0 : xNP pF)  : ∀ (lv : xL) (σ : RS) (s1 : Int32) (l1 : Int32) (l2 : Int32) (l3 : Int32), xg lv 0 = some (.ref aR) → xg lv 1 = some (.int l1) → xg lv 2 = some (.int l2) → xg lv 3 = some (.int l3) → ∀ res, m_entry_b33  σ s1 l1 l2 l3 = some res → xR pF (d + 2) kT277 16 5 false (some .int) (some (.int res.1)) (layR aR res.2 G, T) (33, lv, [.int s1, .ref (aR + rpos 52)], (layR aR σ G, T)) := by
  intro lv σ s1 l1 l2 l3 g0 g1 g2 g3 res h
  unfold m_entry_b33 at h
  obtain ⟨x43, h44, h⟩ := Option.bind_eq_some_iff.mp h
  refine eR_bald lk277_33 rfl (Or.inr rfl) h44 ?_
  refine eE_if (t := 53) lk277_34 (by decide) (fun c45 => ?_) (fun c45 => ?_)
  · rw [if_pos c45] at h
    exact m_entry_b53_ok hp0  lv σ l1 l2 l3 g0 g1 g2 g3 _ h
  · rw [if_neg c45] at h
    refine eE_iload_n lk277_37 g3 ?_
    refine eE_i2l lk277_38 ?_
    refine eE_lconst (v := 0) lk277_39 (by decide) ?_
    refine eE_ldc2_w (v := 2) lk277_40 xl_838 ?_
    obtain ⟨p46, h47, h⟩ := Option.bind_eq_some_iff.mp h
    refine eE_stat (as := [.long (l3.toInt64), .long ((0 : Int64)), .long ((2 : Int64))]) lk277_43 mr_799 na_294 rfl rfl (Nat.le_of_ble_eq_true rfl) mm_294 ws_294 (m_in_ok hp0 (d := d + 1) h47) ?_
    refine eE_if (t := 53) lk277_46 (by decide) (fun c48 => ?_) (fun c48 => ?_)
    · rw [if_pos c48] at h
      exact m_entry_b53_ok hp0  lv σ l1 l2 l3 g0 g1 g2 g3 _ h
    · rw [if_neg c48] at h
      refine eE_iconst (v := 1) lk277_49 (by decide) ?_
      refine eE_goto (t := 54) lk277_50 (by decide) ?_
      exact m_entry_b54_ok hp0  lv σ ((1 : Int32)) l1 l2 l3 g0 g1 g2 g3 _ h
def m_entry_b0  (σ : RS) (l1 : Int32) (l2 : Int32) (l3 : Int32) : Option (Int32 × RS) :=
  (m_in (l1.toInt64) ((0 : Int64)) ((6 : Int64))).bind fun p49 =>
  if xc0 .eq p49 = true then (
    m_entry_b53  σ l1 l2 l3
  ) else (
    (m_in (l1.toInt64) ((0 : Int64)) ((6 : Int64))).bind fun p52 =>
    if xc0 .eq p52 = true then (
      m_entry_b33  σ ((0 : Int32)) l1 l2 l3
    ) else (
      m_entry_b33  σ l1 l1 l2 l3
    )
  )
set_option maxRecDepth 4000 in
theorem m_entry_b0_ok {pF : Nat → List Value → xH → Option (Option Value × xH)} {d : Nat} {aR : Nat} {G : Nat → xC} {T : Nat × Nat} (hp0 : xNP pF)  : ∀ (lv : xL) (σ : RS) (l1 : Int32) (l2 : Int32) (l3 : Int32), xg lv 0 = some (.ref aR) → xg lv 1 = some (.int l1) → xg lv 2 = some (.int l2) → xg lv 3 = some (.int l3) → ∀ res, m_entry_b0  σ l1 l2 l3 = some res → xR pF (d + 2) kT277 16 5 false (some .int) (some (.int res.1)) (layR aR res.2 G, T) (0, lv, [], (layR aR σ G, T)) := by
  intro lv σ l1 l2 l3 g0 g1 g2 g3 res h
  unfold m_entry_b0 at h
  refine eE_iload_n lk277_0 g1 ?_
  refine eE_i2l lk277_1 ?_
  refine eE_lconst (v := 0) lk277_2 (by decide) ?_
  refine eE_ldc2_w (v := 6) lk277_3 xl_827 ?_
  obtain ⟨p49, h50, h⟩ := Option.bind_eq_some_iff.mp h
  refine eE_stat (as := [.long (l1.toInt64), .long ((0 : Int64)), .long ((6 : Int64))]) lk277_6 mr_799 na_294 rfl rfl (Nat.le_of_ble_eq_true rfl) mm_294 ws_294 (m_in_ok hp0 (d := d + 1) h50) ?_
  refine eE_if (t := 53) lk277_9 (by decide) (fun c51 => ?_) (fun c51 => ?_)
  · rw [if_pos c51] at h
    exact m_entry_b53_ok hp0  lv σ l1 l2 l3 g0 g1 g2 g3 _ h
  · rw [if_neg c51] at h
    refine eE_aload_n lk277_12 g0 ?_
    refine eR_getA lk277_13 rf_120 rfl ?_
    refine eE_iload_n lk277_16 g1 ?_
    refine eE_i2l lk277_17 ?_
    refine eE_lconst (v := 0) lk277_18 (by decide) ?_
    refine eE_ldc2_w (v := 6) lk277_19 xl_827 ?_
    obtain ⟨p52, h53, h⟩ := Option.bind_eq_some_iff.mp h
    refine eE_stat (as := [.long (l1.toInt64), .long ((0 : Int64)), .long ((6 : Int64))]) lk277_22 mr_799 na_294 rfl rfl (Nat.le_of_ble_eq_true rfl) mm_294 ws_294 (m_in_ok hp0 (d := d + 1) h53) ?_
    refine eE_if (t := 32) lk277_25 (by decide) (fun c54 => ?_) (fun c54 => ?_)
    · rw [if_pos c54] at h
      refine eE_iconst (v := 0) lk277_32 (by decide) ?_
      exact m_entry_b33_ok hp0  lv σ ((0 : Int32)) l1 l2 l3 g0 g1 g2 g3 _ h
    · rw [if_neg c54] at h
      refine eE_iload_n lk277_28 g1 ?_
      refine eE_goto (t := 33) lk277_29 (by decide) ?_
      exact m_entry_b33_ok hp0  lv σ l1 l1 l2 l3 g0 g1 g2 g3 _ h
def m_entry (σ : RS) (l1 : Int32) (l2 : Int32) (l3 : Int32) : Option (Int32 × RS) := m_entry_b0 σ l1 l2 l3
theorem m_entry_ok {pF : Nat → List Value → xH → Option (Option Value × xH)} (hp0 : xNP pF) {d : Nat} {aR : Nat} {G : Nat → xC} {T : Nat × Nat} {σ : RS} {l1 : Int32} {l2 : Int32} {l3 : Int32} {res : Int32 × RS} (h : m_entry σ l1 l2 l3 = some res) : xCo pF (d + 3) 277 [.ref aR, .int l1, .int l2, .int l3] (layR aR σ G, T) (some (.int res.1)) (layR aR res.2 G, T) := by
  unfold m_entry at h
  exact xCo_R kk_277 mo_277 ni_277 xm_277 (Nat.le_of_ble_eq_true rfl) (hp0 _ (by decide) (by decide) _ _) (m_entry_b0_ok hp0 _ σ l1 l2 l3 rfl rfl rfl rfl _ h)
/-! feed (278), depth 2 -/
def m_feed_b19 (F : Nat)  (σ : RS) (s1 : Int32) (l1 : Int32) (l2 : Int32) (l3 : Int32) (l4 : Int32) (l5 : Int32) : Option (Int32 × RS) :=
  (some (setI σ 0 0 s1)).bind fun σ1 =>
  if xc0 .le (σ1.1 0 0) = true then (
    (m_add F σ1 l1).bind fun p4 =>
    (m_add F p4 l2).bind fun p6 =>
    (m_add F p6 l3).bind fun p8 =>
    (m_add F p8 l4).bind fun p10 =>
    (m_add F p10 l5).bind fun p12 =>
    some (p12.1 5 0, p12)
  ) else (
    some ((0 : Int32), σ1)
  )
set_option maxRecDepth 4000 in
theorem m_feed_b19_ok {pF : Nat → List Value → xH → Option (Option Value × xH)} {d : Nat} {aR : Nat} {G : Nat → xC} {T : Nat × Nat} {F : Nat} (hp0 : xNP pF)  : ∀ (lv : xL) (σ : RS) (s1 : Int32) (l1 : Int32) (l2 : Int32) (l3 : Int32) (l4 : Int32) (l5 : Int32), xg lv 0 = some (.ref aR) → xg lv 1 = some (.int l1) → xg lv 2 = some (.int l2) → xg lv 3 = some (.int l3) → xg lv 4 = some (.int l4) → xg lv 5 = some (.int l5) → ∀ res, m_feed_b19 F  σ s1 l1 l2 l3 l4 l5 = some res → xR pF (d + 1) kT278 16 6 false (some .int) (some (.int res.1)) (layR aR res.2 G, T) (19, lv, [.int s1, .ref aR], (layR aR σ G, T)) := by
  intro lv σ s1 l1 l2 l3 l4 l5 g0 g1 g2 g3 g4 g5 res h
  unfold m_feed_b19 at h
  obtain ⟨σ1, h2, h⟩ := Option.bind_eq_some_iff.mp h
  refine eR_putS lk278_19 rf_393 rfl (by decide) pf_0.1 pf_0.2 h2 ?_
  refine eE_aload_n lk278_22 g0 ?_
  refine eR_get lk278_23 rf_393 rfl ?_
  refine eE_if (t := 31) lk278_26 (by decide) (fun c3 => ?_) (fun c3 => ?_)
  · rw [if_pos c3] at h
    refine eE_aload_n lk278_31 g0 ?_
    refine eE_iload_n lk278_32 g1 ?_
    obtain ⟨p4, h5, h⟩ := Option.bind_eq_some_iff.mp h
    refine eR_call (as := [.int l1]) lk278_33 mr_794 na_240 rfl rfl (Nat.le_of_ble_eq_true rfl) wv_240 wc_240 (m_add_ok hp0 (d := d + 0) h5) ?_
    refine eE_aload_n lk278_36 g0 ?_
    refine eE_iload_n lk278_37 g2 ?_
    obtain ⟨p6, h7, h⟩ := Option.bind_eq_some_iff.mp h
    refine eR_call (as := [.int l2]) lk278_38 mr_794 na_240 rfl rfl (Nat.le_of_ble_eq_true rfl) wv_240 wc_240 (m_add_ok hp0 (d := d + 0) h7) ?_
    refine eE_aload_n lk278_41 g0 ?_
    refine eE_iload_n lk278_42 g3 ?_
    obtain ⟨p8, h9, h⟩ := Option.bind_eq_some_iff.mp h
    refine eR_call (as := [.int l3]) lk278_43 mr_794 na_240 rfl rfl (Nat.le_of_ble_eq_true rfl) wv_240 wc_240 (m_add_ok hp0 (d := d + 0) h9) ?_
    refine eE_aload_n lk278_46 g0 ?_
    refine eE_iload lk278_47 g4 ?_
    obtain ⟨p10, h11, h⟩ := Option.bind_eq_some_iff.mp h
    refine eR_call (as := [.int l4]) lk278_49 mr_794 na_240 rfl rfl (Nat.le_of_ble_eq_true rfl) wv_240 wc_240 (m_add_ok hp0 (d := d + 0) h11) ?_
    refine eE_aload_n lk278_52 g0 ?_
    refine eE_iload lk278_53 g5 ?_
    obtain ⟨p12, h13, h⟩ := Option.bind_eq_some_iff.mp h
    refine eR_call (as := [.int l5]) lk278_55 mr_794 na_240 rfl rfl (Nat.le_of_ble_eq_true rfl) wv_240 wc_240 (m_add_ok hp0 (d := d + 0) h13) ?_
    refine eE_aload_n lk278_58 g0 ?_
    refine eR_get lk278_59 rf_791 rfl ?_
    cases h
    exact eE_end lk278_62 rfl rfl rfl
  · rw [if_neg c3] at h
    refine eE_iconst (v := 0) lk278_29 (by decide) ?_
    cases h
    exact eE_end lk278_30 rfl rfl rfl
def m_feed_b0 (F : Nat)  (σ : RS) (l1 : Int32) (l2 : Int32) (l3 : Int32) (l4 : Int32) (l5 : Int32) : Option (Int32 × RS) :=
  if xc2 .le ((σ.1 5 0) + ((20 : Int32))) ((400 : Int32)) = true then (
    m_feed_b19 F  σ ((0 : Int32)) l1 l2 l3 l4 l5
  ) else (
    m_feed_b19 F  σ ((1 : Int32)) l1 l2 l3 l4 l5
  )
set_option maxRecDepth 4000 in
theorem m_feed_b0_ok {pF : Nat → List Value → xH → Option (Option Value × xH)} {d : Nat} {aR : Nat} {G : Nat → xC} {T : Nat × Nat} {F : Nat} (hp0 : xNP pF)  : ∀ (lv : xL) (σ : RS) (l1 : Int32) (l2 : Int32) (l3 : Int32) (l4 : Int32) (l5 : Int32), xg lv 0 = some (.ref aR) → xg lv 1 = some (.int l1) → xg lv 2 = some (.int l2) → xg lv 3 = some (.int l3) → xg lv 4 = some (.int l4) → xg lv 5 = some (.int l5) → ∀ res, m_feed_b0 F  σ l1 l2 l3 l4 l5 = some res → xR pF (d + 1) kT278 16 6 false (some .int) (some (.int res.1)) (layR aR res.2 G, T) (0, lv, [], (layR aR σ G, T)) := by
  intro lv σ l1 l2 l3 l4 l5 g0 g1 g2 g3 g4 g5 res h
  unfold m_feed_b0 at h
  refine eE_aload_n lk278_0 g0 ?_
  refine eE_aload_n lk278_1 g0 ?_
  refine eR_get lk278_2 rf_791 rfl ?_
  refine eE_bipush (v := 20) lk278_5 (by decide) ?_
  refine eE_iadd lk278_7 ?_
  refine eE_sipush (v := 400) lk278_8 (by decide) ?_
  refine eE_icmp (t := 18) lk278_11 (by decide) (fun c14 => ?_) (fun c14 => ?_)
  · rw [if_pos c14] at h
    refine eE_iconst (v := 0) lk278_18 (by decide) ?_
    exact m_feed_b19_ok hp0  lv σ ((0 : Int32)) l1 l2 l3 l4 l5 g0 g1 g2 g3 g4 g5 _ h
  · rw [if_neg c14] at h
    refine eE_iconst (v := 1) lk278_14 (by decide) ?_
    refine eE_goto (t := 19) lk278_15 (by decide) ?_
    exact m_feed_b19_ok hp0  lv σ ((1 : Int32)) l1 l2 l3 l4 l5 g0 g1 g2 g3 g4 g5 _ h
def m_feed (F : Nat) (σ : RS) (l1 : Int32) (l2 : Int32) (l3 : Int32) (l4 : Int32) (l5 : Int32) : Option (Int32 × RS) := m_feed_b0 F σ l1 l2 l3 l4 l5
theorem m_feed_ok {pF : Nat → List Value → xH → Option (Option Value × xH)} (hp0 : xNP pF) {d : Nat} {aR : Nat} {G : Nat → xC} {T : Nat × Nat} {σ : RS} {F : Nat} {l1 : Int32} {l2 : Int32} {l3 : Int32} {l4 : Int32} {l5 : Int32} {res : Int32 × RS} (h : m_feed F σ l1 l2 l3 l4 l5 = some res) : xCo pF (d + 2) 278 [.ref aR, .int l1, .int l2, .int l3, .int l4, .int l5] (layR aR σ G, T) (some (.int res.1)) (layR aR res.2 G, T) := by
  unfold m_feed at h
  exact xCo_R kk_278 mo_278 ni_278 xm_278 (Nat.le_of_ble_eq_true rfl) (hp0 _ (by decide) (by decide) _ _) (m_feed_b0_ok hp0 _ σ l1 l2 l3 l4 l5 rfl rfl rfl rfl rfl rfl _ h)
/-! file (279), depth 2 -/
def m_file_b197  (σ : RS) (s0 : Int32) : Option (Int32 × RS) :=
  some (s0, σ)
set_option maxRecDepth 4000 in
theorem m_file_b197_ok {pF : Nat → List Value → xH → Option (Option Value × xH)} {d : Nat} {aR : Nat} {G : Nat → xC} {T : Nat × Nat} (hp0 : xNP pF)  : ∀ (lv : xL) (σ : RS) (s0 : Int32), xg lv 0 = some (.ref aR) → ∀ res, m_file_b197  σ s0 = some res → xR pF (d + 1) kT279 16 5 false (some .int) (some (.int res.1)) (layR aR res.2 G, T) (197, lv, [.int s0], (layR aR σ G, T)) := by
  intro lv σ s0 g0 res h
  unfold m_file_b197 at h
  cases h
  exact eE_end lk279_197 rfl rfl rfl
def m_file_b179  (σ : RS) (s0 : Int32) : Option (Int32 × RS) :=
  some (s0, σ)
set_option maxRecDepth 4000 in
theorem m_file_b179_ok {pF : Nat → List Value → xH → Option (Option Value × xH)} {d : Nat} {aR : Nat} {G : Nat → xC} {T : Nat × Nat} (hp0 : xNP pF)  : ∀ (lv : xL) (σ : RS) (s0 : Int32), xg lv 0 = some (.ref aR) → ∀ res, m_file_b179  σ s0 = some res → xR pF (d + 1) kT279 16 5 false (some .int) (some (.int res.1)) (layR aR res.2 G, T) (179, lv, [.int s0], (layR aR σ G, T)) := by
  intro lv σ s0 g0 res h
  unfold m_file_b179 at h
  cases h
  exact eE_end lk279_179 rfl rfl rfl
def m_file_b163  (σ : RS) (s0 : Int32) : Option (Int32 × RS) :=
  some (s0, σ)
set_option maxRecDepth 4000 in
theorem m_file_b163_ok {pF : Nat → List Value → xH → Option (Option Value × xH)} {d : Nat} {aR : Nat} {G : Nat → xC} {T : Nat × Nat} (hp0 : xNP pF)  : ∀ (lv : xL) (σ : RS) (s0 : Int32), xg lv 0 = some (.ref aR) → ∀ res, m_file_b163  σ s0 = some res → xR pF (d + 1) kT279 16 5 false (some .int) (some (.int res.1)) (layR aR res.2 G, T) (163, lv, [.int s0], (layR aR σ G, T)) := by
  intro lv σ s0 g0 res h
  unfold m_file_b163 at h
  cases h
  exact eE_end lk279_163 rfl rfl rfl
def m_file_b139  (σ : RS) (s0 : Int32) : Option (Int32 × RS) :=
  some (s0, σ)
set_option maxRecDepth 4000 in
theorem m_file_b139_ok {pF : Nat → List Value → xH → Option (Option Value × xH)} {d : Nat} {aR : Nat} {G : Nat → xC} {T : Nat × Nat} (hp0 : xNP pF)  : ∀ (lv : xL) (σ : RS) (s0 : Int32), xg lv 0 = some (.ref aR) → ∀ res, m_file_b139  σ s0 = some res → xR pF (d + 1) kT279 16 5 false (some .int) (some (.int res.1)) (layR aR res.2 G, T) (139, lv, [.int s0], (layR aR σ G, T)) := by
  intro lv σ s0 g0 res h
  unfold m_file_b139 at h
  cases h
  exact eE_end lk279_139 rfl rfl rfl
def m_file_b113  (σ : RS) (s0 : Int32) : Option (Int32 × RS) :=
  some (s0, σ)
set_option maxRecDepth 4000 in
theorem m_file_b113_ok {pF : Nat → List Value → xH → Option (Option Value × xH)} {d : Nat} {aR : Nat} {G : Nat → xC} {T : Nat × Nat} (hp0 : xNP pF)  : ∀ (lv : xL) (σ : RS) (s0 : Int32), xg lv 0 = some (.ref aR) → ∀ res, m_file_b113  σ s0 = some res → xR pF (d + 1) kT279 16 5 false (some .int) (some (.int res.1)) (layR aR res.2 G, T) (113, lv, [.int s0], (layR aR σ G, T)) := by
  intro lv σ s0 g0 res h
  unfold m_file_b113 at h
  cases h
  exact eE_end lk279_113 rfl rfl rfl
def m_file_b42  (σ : RS) (s1 : Int32) (l1 : Int32) (l2 : Int32) (l3 : Int32) : Option (Int32 × RS) :=
  (some (setI σ 0 0 s1)).bind fun σ1 =>
  if xc0 .le (σ1.1 0 0) = true then (
    (m_fileOf l1 l2).bind fun p4 =>
    if l3 = (0 : Int32) then (
      (rld σ1 38 p4).bind fun x12 =>
      if xc0 .eq x12 = true then (
        m_file_b113  σ1 ((0 : Int32))
      ) else (
        (rld σ1 37 p4).bind fun x15 =>
        m_file_b113  σ1 x15
      )
    ) else (
    if l3 = (1 : Int32) then (
      (rld σ1 38 (p4 + ((1 : Int32)))).bind fun x18 =>
      if xc0 .eq x18 = true then (
        m_file_b139  σ1 ((0 : Int32))
      ) else (
        (rld σ1 37 (p4 + ((1 : Int32)))).bind fun x21 =>
        m_file_b139  σ1 x21
      )
    ) else (
    if l3 = (2 : Int32) then (
      (rld σ1 38 p4).bind fun x24 =>
      if xc0 .eq x24 = true then (
        m_file_b163  σ1 ((0 : Int32))
      ) else (
        if ((2 : Int32)) = 0 then none else
        (rld σ1 43 (p4 / ((2 : Int32)))).bind fun x28 =>
        m_file_b163  σ1 x28
      )
    ) else (
    if l3 = (3 : Int32) then (
      (rld σ1 38 p4).bind fun x31 =>
      if xc0 .eq x31 = true then (
        m_file_b179  σ1 ((0 : Int32))
      ) else (
        m_file_b179  σ1 ((1 : Int32))
      )
    ) else (
      (rld σ1 38 (p4 + ((1 : Int32)))).bind fun x34 =>
      if xc0 .eq x34 = true then (
        m_file_b197  σ1 ((0 : Int32))
      ) else (
        m_file_b197  σ1 ((1 : Int32))
      )
    )
    )
    )
    )
  ) else (
    some ((0 : Int32), σ1)
  )
set_option maxRecDepth 4000 in
theorem m_file_b42_ok {pF : Nat → List Value → xH → Option (Option Value × xH)} {d : Nat} {aR : Nat} {G : Nat → xC} {T : Nat × Nat} (hp0 : xNP pF)  : ∀ (lv : xL) (σ : RS) (s1 : Int32) (l1 : Int32) (l2 : Int32) (l3 : Int32), xg lv 0 = some (.ref aR) → xg lv 1 = some (.int l1) → xg lv 2 = some (.int l2) → xg lv 3 = some (.int l3) → ∀ res, m_file_b42  σ s1 l1 l2 l3 = some res → xR pF (d + 1) kT279 16 5 false (some .int) (some (.int res.1)) (layR aR res.2 G, T) (42, lv, [.int s1, .ref aR], (layR aR σ G, T)) := by
  intro lv σ s1 l1 l2 l3 g0 g1 g2 g3 res h
  unfold m_file_b42 at h
  obtain ⟨σ1, h2, h⟩ := Option.bind_eq_some_iff.mp h
  refine eR_putS lk279_42 rf_393 rfl (by decide) pf_0.1 pf_0.2 h2 ?_
  refine eE_aload_n lk279_45 g0 ?_
  refine eR_get lk279_46 rf_393 rfl ?_
  refine eE_if (t := 54) lk279_49 (by decide) (fun c3 => ?_) (fun c3 => ?_)
  · rw [if_pos c3] at h
    refine eE_iload_n lk279_54 g1 ?_
    refine eE_iload_n lk279_55 g2 ?_
    obtain ⟨p4, h5, h⟩ := Option.bind_eq_some_iff.mp h
    refine eE_stat (as := [.int l1, .int l2]) lk279_56 mr_492 na_280 rfl rfl (Nat.le_of_ble_eq_true rfl) mm_280 ws_280 (m_fileOf_ok hp0 (d := d + 0) h5) ?_
    refine eE_stI (j := 4) lk279_59 (Or.inl rfl) (by decide) (fun vq6 gq7 kq8 => ?_)
    have gq9 := kq8 3 _ (by decide) (fun _ => rfl) g3
    have gq10 := kq8 0 _ (by decide) (fun _ => rfl) g0
    refine eE_iload_n lk279_61 gq9 ?_
    by_cases c11 : l3 = (0 : Int32)
    · rw [if_pos c11] at h
      refine eE_tsw (t := 92) (off := 30) lk279_62 (by rw [c11]; decide) (by rw [c11]; rfl) (by decide) ?_
      refine eE_aload_n lk279_92 gq10 ?_
      refine eR_getA lk279_93 rf_81 rfl ?_
      refine eE_iload lk279_96 gq7 ?_
      obtain ⟨x12, h13, h⟩ := Option.bind_eq_some_iff.mp h
      refine eR_bald lk279_98 rfl (Or.inr rfl) h13 ?_
      refine eE_if (t := 112) lk279_99 (by decide) (fun c14 => ?_) (fun c14 => ?_)
      · rw [if_pos c14] at h
        refine eE_iconst (v := 0) lk279_112 (by decide) ?_
        exact m_file_b113_ok hp0  vq6 σ1 ((0 : Int32)) gq10 _ h
      · rw [if_neg c14] at h
        refine eE_aload_n lk279_102 gq10 ?_
        refine eR_getA lk279_103 rf_78 rfl ?_
        refine eE_iload lk279_106 gq7 ?_
        obtain ⟨x15, h16, h⟩ := Option.bind_eq_some_iff.mp h
        refine eR_iald lk279_108 rfl rfl h16 ?_
        refine eE_goto (t := 113) lk279_109 (by decide) ?_
        exact m_file_b113_ok hp0  vq6 σ1 x15 gq10 _ h
    rw [if_neg c11] at h
    by_cases c17 : l3 = (1 : Int32)
    · rw [if_pos c17] at h
      refine eE_tsw (t := 114) (off := 52) lk279_62 (by rw [c17]; decide) (by rw [c17]; rfl) (by decide) ?_
      refine eE_aload_n lk279_114 gq10 ?_
      refine eR_getA lk279_115 rf_81 rfl ?_
      refine eE_iload lk279_118 gq7 ?_
      refine eE_iconst (v := 1) lk279_120 (by decide) ?_
      refine eE_iadd lk279_121 ?_
      obtain ⟨x18, h19, h⟩ := Option.bind_eq_some_iff.mp h
      refine eR_bald lk279_122 rfl (Or.inr rfl) h19 ?_
      refine eE_if (t := 138) lk279_123 (by decide) (fun c20 => ?_) (fun c20 => ?_)
      · rw [if_pos c20] at h
        refine eE_iconst (v := 0) lk279_138 (by decide) ?_
        exact m_file_b139_ok hp0  vq6 σ1 ((0 : Int32)) gq10 _ h
      · rw [if_neg c20] at h
        refine eE_aload_n lk279_126 gq10 ?_
        refine eR_getA lk279_127 rf_78 rfl ?_
        refine eE_iload lk279_130 gq7 ?_
        refine eE_iconst (v := 1) lk279_132 (by decide) ?_
        refine eE_iadd lk279_133 ?_
        obtain ⟨x21, h22, h⟩ := Option.bind_eq_some_iff.mp h
        refine eR_iald lk279_134 rfl rfl h22 ?_
        refine eE_goto (t := 139) lk279_135 (by decide) ?_
        exact m_file_b139_ok hp0  vq6 σ1 x21 gq10 _ h
    rw [if_neg c17] at h
    by_cases c23 : l3 = (2 : Int32)
    · rw [if_pos c23] at h
      refine eE_tsw (t := 140) (off := 78) lk279_62 (by rw [c23]; decide) (by rw [c23]; rfl) (by decide) ?_
      refine eE_aload_n lk279_140 gq10 ?_
      refine eR_getA lk279_141 rf_81 rfl ?_
      refine eE_iload lk279_144 gq7 ?_
      obtain ⟨x24, h25, h⟩ := Option.bind_eq_some_iff.mp h
      refine eR_bald lk279_146 rfl (Or.inr rfl) h25 ?_
      refine eE_if (t := 162) lk279_147 (by decide) (fun c26 => ?_) (fun c26 => ?_)
      · rw [if_pos c26] at h
        refine eE_iconst (v := 0) lk279_162 (by decide) ?_
        exact m_file_b163_ok hp0  vq6 σ1 ((0 : Int32)) gq10 _ h
      · rw [if_neg c26] at h
        refine eE_aload_n lk279_150 gq10 ?_
        refine eR_getA lk279_151 rf_96 rfl ?_
        refine eE_iload lk279_154 gq7 ?_
        refine eE_iconst (v := 2) lk279_156 (by decide) ?_
        by_cases z27 : ((2 : Int32)) = 0
        · rw [if_pos z27] at h; cases h
        rw [if_neg z27] at h
        refine eE_idiv lk279_157 z27 ?_
        obtain ⟨x28, h29, h⟩ := Option.bind_eq_some_iff.mp h
        refine eR_iald lk279_158 rfl rfl h29 ?_
        refine eE_goto (t := 163) lk279_159 (by decide) ?_
        exact m_file_b163_ok hp0  vq6 σ1 x28 gq10 _ h
    rw [if_neg c23] at h
    by_cases c30 : l3 = (3 : Int32)
    · rw [if_pos c30] at h
      refine eE_tsw (t := 164) (off := 102) lk279_62 (by rw [c30]; decide) (by rw [c30]; rfl) (by decide) ?_
      refine eE_aload_n lk279_164 gq10 ?_
      refine eR_getA lk279_165 rf_81 rfl ?_
      refine eE_iload lk279_168 gq7 ?_
      obtain ⟨x31, h32, h⟩ := Option.bind_eq_some_iff.mp h
      refine eR_bald lk279_170 rfl (Or.inr rfl) h32 ?_
      refine eE_if (t := 178) lk279_171 (by decide) (fun c33 => ?_) (fun c33 => ?_)
      · rw [if_pos c33] at h
        refine eE_iconst (v := 0) lk279_178 (by decide) ?_
        exact m_file_b179_ok hp0  vq6 σ1 ((0 : Int32)) gq10 _ h
      · rw [if_neg c33] at h
        refine eE_iconst (v := 1) lk279_174 (by decide) ?_
        refine eE_goto (t := 179) lk279_175 (by decide) ?_
        exact m_file_b179_ok hp0  vq6 σ1 ((1 : Int32)) gq10 _ h
    rw [if_neg c30] at h
    refine eE_tswD (t := 180) lk279_62 (xsw_out (n := 4) (fun j hj => ?_)) (by decide) ?_
    · match j, hj with
      | 0, _ => exact c11
      | 1, _ => exact c17
      | 2, _ => exact c23
      | 3, _ => exact c30
      | q + 4, hj => exact absurd hj (by omega)
    refine eE_aload_n lk279_180 gq10 ?_
    refine eR_getA lk279_181 rf_81 rfl ?_
    refine eE_iload lk279_184 gq7 ?_
    refine eE_iconst (v := 1) lk279_186 (by decide) ?_
    refine eE_iadd lk279_187 ?_
    obtain ⟨x34, h35, h⟩ := Option.bind_eq_some_iff.mp h
    refine eR_bald lk279_188 rfl (Or.inr rfl) h35 ?_
    refine eE_if (t := 196) lk279_189 (by decide) (fun c36 => ?_) (fun c36 => ?_)
    · rw [if_pos c36] at h
      refine eE_iconst (v := 0) lk279_196 (by decide) ?_
      exact m_file_b197_ok hp0  vq6 σ1 ((0 : Int32)) gq10 _ h
    · rw [if_neg c36] at h
      refine eE_iconst (v := 1) lk279_192 (by decide) ?_
      refine eE_goto (t := 197) lk279_193 (by decide) ?_
      exact m_file_b197_ok hp0  vq6 σ1 ((1 : Int32)) gq10 _ h
  · rw [if_neg c3] at h
    refine eE_iconst (v := 0) lk279_52 (by decide) ?_
    cases h
    exact eE_end lk279_53 rfl rfl rfl
def m_file_b41  (σ : RS) (l1 : Int32) (l2 : Int32) (l3 : Int32) : Option (Int32 × RS) :=
  m_file_b42  σ ((1 : Int32)) l1 l2 l3
set_option maxRecDepth 4000 in
theorem m_file_b41_ok {pF : Nat → List Value → xH → Option (Option Value × xH)} {d : Nat} {aR : Nat} {G : Nat → xC} {T : Nat × Nat} (hp0 : xNP pF)  : ∀ (lv : xL) (σ : RS) (l1 : Int32) (l2 : Int32) (l3 : Int32), xg lv 0 = some (.ref aR) → xg lv 1 = some (.int l1) → xg lv 2 = some (.int l2) → xg lv 3 = some (.int l3) → ∀ res, m_file_b41  σ l1 l2 l3 = some res → xR pF (d + 1) kT279 16 5 false (some .int) (some (.int res.1)) (layR aR res.2 G, T) (41, lv, [.ref aR], (layR aR σ G, T)) := by
  intro lv σ l1 l2 l3 g0 g1 g2 g3 res h
  unfold m_file_b41 at h
  refine eE_iconst (v := 1) lk279_41 (by decide) ?_
  exact m_file_b42_ok hp0  lv σ ((1 : Int32)) l1 l2 l3 g0 g1 g2 g3 _ h
def m_file_b0  (σ : RS) (l1 : Int32) (l2 : Int32) (l3 : Int32) : Option (Int32 × RS) :=
  (m_in (l1.toInt64) ((0 : Int64)) ((6 : Int64))).bind fun p37 =>
  if xc0 .eq p37 = true then (
    m_file_b41  σ l1 l2 l3
  ) else (
    (m_in (l2.toInt64) ((0 : Int64)) ((15 : Int64))).bind fun p40 =>
    if xc0 .eq p40 = true then (
      m_file_b41  σ l1 l2 l3
    ) else (
      (m_in (l3.toInt64) ((0 : Int64)) ((4 : Int64))).bind fun p43 =>
      if xc0 .eq p43 = true then (
        m_file_b41  σ l1 l2 l3
      ) else (
        m_file_b42  σ ((0 : Int32)) l1 l2 l3
      )
    )
  )
set_option maxRecDepth 4000 in
theorem m_file_b0_ok {pF : Nat → List Value → xH → Option (Option Value × xH)} {d : Nat} {aR : Nat} {G : Nat → xC} {T : Nat × Nat} (hp0 : xNP pF)  : ∀ (lv : xL) (σ : RS) (l1 : Int32) (l2 : Int32) (l3 : Int32), xg lv 0 = some (.ref aR) → xg lv 1 = some (.int l1) → xg lv 2 = some (.int l2) → xg lv 3 = some (.int l3) → ∀ res, m_file_b0  σ l1 l2 l3 = some res → xR pF (d + 1) kT279 16 5 false (some .int) (some (.int res.1)) (layR aR res.2 G, T) (0, lv, [], (layR aR σ G, T)) := by
  intro lv σ l1 l2 l3 g0 g1 g2 g3 res h
  unfold m_file_b0 at h
  refine eE_aload_n lk279_0 g0 ?_
  refine eE_iload_n lk279_1 g1 ?_
  refine eE_i2l lk279_2 ?_
  refine eE_lconst (v := 0) lk279_3 (by decide) ?_
  refine eE_ldc2_w (v := 6) lk279_4 xl_827 ?_
  obtain ⟨p37, h38, h⟩ := Option.bind_eq_some_iff.mp h
  refine eE_stat (as := [.long (l1.toInt64), .long ((0 : Int64)), .long ((6 : Int64))]) lk279_7 mr_799 na_294 rfl rfl (Nat.le_of_ble_eq_true rfl) mm_294 ws_294 (m_in_ok hp0 (d := d + 0) h38) ?_
  refine eE_if (t := 41) lk279_10 (by decide) (fun c39 => ?_) (fun c39 => ?_)
  · rw [if_pos c39] at h
    exact m_file_b41_ok hp0  lv σ l1 l2 l3 g0 g1 g2 g3 _ h
  · rw [if_neg c39] at h
    refine eE_iload_n lk279_13 g2 ?_
    refine eE_i2l lk279_14 ?_
    refine eE_lconst (v := 0) lk279_15 (by decide) ?_
    refine eE_ldc2_w (v := 15) lk279_16 xl_831 ?_
    obtain ⟨p40, h41, h⟩ := Option.bind_eq_some_iff.mp h
    refine eE_stat (as := [.long (l2.toInt64), .long ((0 : Int64)), .long ((15 : Int64))]) lk279_19 mr_799 na_294 rfl rfl (Nat.le_of_ble_eq_true rfl) mm_294 ws_294 (m_in_ok hp0 (d := d + 0) h41) ?_
    refine eE_if (t := 41) lk279_22 (by decide) (fun c42 => ?_) (fun c42 => ?_)
    · rw [if_pos c42] at h
      exact m_file_b41_ok hp0  lv σ l1 l2 l3 g0 g1 g2 g3 _ h
    · rw [if_neg c42] at h
      refine eE_iload_n lk279_25 g3 ?_
      refine eE_i2l lk279_26 ?_
      refine eE_lconst (v := 0) lk279_27 (by decide) ?_
      refine eE_ldc2_w (v := 4) lk279_28 xl_858 ?_
      obtain ⟨p43, h44, h⟩ := Option.bind_eq_some_iff.mp h
      refine eE_stat (as := [.long (l3.toInt64), .long ((0 : Int64)), .long ((4 : Int64))]) lk279_31 mr_799 na_294 rfl rfl (Nat.le_of_ble_eq_true rfl) mm_294 ws_294 (m_in_ok hp0 (d := d + 0) h44) ?_
      refine eE_if (t := 41) lk279_34 (by decide) (fun c45 => ?_) (fun c45 => ?_)
      · rw [if_pos c45] at h
        exact m_file_b41_ok hp0  lv σ l1 l2 l3 g0 g1 g2 g3 _ h
      · rw [if_neg c45] at h
        refine eE_iconst (v := 0) lk279_37 (by decide) ?_
        refine eE_goto (t := 42) lk279_38 (by decide) ?_
        exact m_file_b42_ok hp0  lv σ ((0 : Int32)) l1 l2 l3 g0 g1 g2 g3 _ h
def m_file (σ : RS) (l1 : Int32) (l2 : Int32) (l3 : Int32) : Option (Int32 × RS) := m_file_b0 σ l1 l2 l3
theorem m_file_ok {pF : Nat → List Value → xH → Option (Option Value × xH)} (hp0 : xNP pF) {d : Nat} {aR : Nat} {G : Nat → xC} {T : Nat × Nat} {σ : RS} {l1 : Int32} {l2 : Int32} {l3 : Int32} {res : Int32 × RS} (h : m_file σ l1 l2 l3 = some res) : xCo pF (d + 2) 279 [.ref aR, .int l1, .int l2, .int l3] (layR aR σ G, T) (some (.int res.1)) (layR aR res.2 G, T) := by
  unfold m_file at h
  exact xCo_R kk_279 mo_279 ni_279 xm_279 (Nat.le_of_ble_eq_true rfl) (hp0 _ (by decide) (by decide) _ _) (m_file_b0_ok hp0 _ σ l1 l2 l3 rfl rfl rfl rfl _ h)
/-! look (323), depth 1 -/
def m_look_b31  (σ : RS) : Option (RS) :=
  some σ
set_option maxRecDepth 4000 in
theorem m_look_b31_ok {pF : Nat → List Value → xH → Option (Option Value × xH)} {d : Nat} {aR : Nat} {G : Nat → xC} {T : Nat × Nat} (hp0 : xNP pF)  : ∀ (lv : xL) (σ : RS), xg lv 0 = some (.ref aR) → ∀ res, m_look_b31  σ = some res → xR pF (d + 0) kT323 16 4 false none none (layR aR res G, T) (31, lv, [], (layR aR σ G, T)) := by
  intro lv σ g0 res h
  unfold m_look_b31 at h
  cases h
  exact eE_end lk323_31 rfl rfl rfl
def m_look_b32  (σ : RS) (l1 : Int32) (l2 : Int32) (l3 : Int32) : Option (RS) :=
  (some (setI σ 33 0 l1)).bind fun σ1 =>
  (some (setI σ1 34 0 l2)).bind fun σ3 =>
  (some (setI σ3 35 0 l3)).bind fun σ5 =>
  some σ5
set_option maxRecDepth 4000 in
theorem m_look_b32_ok {pF : Nat → List Value → xH → Option (Option Value × xH)} {d : Nat} {aR : Nat} {G : Nat → xC} {T : Nat × Nat} (hp0 : xNP pF)  : ∀ (lv : xL) (σ : RS) (l1 : Int32) (l2 : Int32) (l3 : Int32), xg lv 0 = some (.ref aR) → xg lv 1 = some (.int l1) → xg lv 2 = some (.int l2) → xg lv 3 = some (.int l3) → ∀ res, m_look_b32  σ l1 l2 l3 = some res → xR pF (d + 0) kT323 16 4 false none none (layR aR res G, T) (32, lv, [], (layR aR σ G, T)) := by
  intro lv σ l1 l2 l3 g0 g1 g2 g3 res h
  unfold m_look_b32 at h
  refine eE_aload_n lk323_32 g0 ?_
  refine eE_iload_n lk323_33 g1 ?_
  obtain ⟨σ1, h2, h⟩ := Option.bind_eq_some_iff.mp h
  refine eR_putS lk323_34 rf_461 rfl (by decide) pf_33.1 pf_33.2 h2 ?_
  refine eE_aload_n lk323_37 g0 ?_
  refine eE_iload_n lk323_38 g2 ?_
  obtain ⟨σ3, h4, h⟩ := Option.bind_eq_some_iff.mp h
  refine eR_putS lk323_39 rf_464 rfl (by decide) pf_34.1 pf_34.2 h4 ?_
  refine eE_aload_n lk323_42 g0 ?_
  refine eE_iload_n lk323_43 g3 ?_
  obtain ⟨σ5, h6, h⟩ := Option.bind_eq_some_iff.mp h
  refine eR_putS lk323_44 rf_458 rfl (by decide) pf_35.1 pf_35.2 h6 ?_
  cases h
  exact eE_end lk323_47 rfl rfl rfl
def m_look_b0  (σ : RS) (l1 : Int32) (l2 : Int32) (l3 : Int32) : Option (RS) :=
  if xc0 .lt (σ.1 35 0) = true then (
    m_look_b32  σ l1 l2 l3
  ) else (
    if xc2 .gt l1 (σ.1 33 0) = true then (
      m_look_b31  σ
    ) else (
      if xc2 .ne l1 (σ.1 33 0) = true then (
        m_look_b32  σ l1 l2 l3
      ) else (
        if xc2 .le l2 (σ.1 34 0) = true then (
          m_look_b32  σ l1 l2 l3
        ) else (
          m_look_b31  σ
        )
      )
    )
  )
set_option maxRecDepth 4000 in
theorem m_look_b0_ok {pF : Nat → List Value → xH → Option (Option Value × xH)} {d : Nat} {aR : Nat} {G : Nat → xC} {T : Nat × Nat} (hp0 : xNP pF)  : ∀ (lv : xL) (σ : RS) (l1 : Int32) (l2 : Int32) (l3 : Int32), xg lv 0 = some (.ref aR) → xg lv 1 = some (.int l1) → xg lv 2 = some (.int l2) → xg lv 3 = some (.int l3) → ∀ res, m_look_b0  σ l1 l2 l3 = some res → xR pF (d + 0) kT323 16 4 false none none (layR aR res G, T) (0, lv, [], (layR aR σ G, T)) := by
  intro lv σ l1 l2 l3 g0 g1 g2 g3 res h
  unfold m_look_b0 at h
  refine eE_aload_n lk323_0 g0 ?_
  refine eR_get lk323_1 rf_458 rfl ?_
  refine eE_if (t := 32) lk323_4 (by decide) (fun c7 => ?_) (fun c7 => ?_)
  · rw [if_pos c7] at h
    exact m_look_b32_ok hp0  lv σ l1 l2 l3 g0 g1 g2 g3 _ h
  · rw [if_neg c7] at h
    refine eE_iload_n lk323_7 g1 ?_
    refine eE_aload_n lk323_8 g0 ?_
    refine eR_get lk323_9 rf_461 rfl ?_
    refine eE_icmp (t := 31) lk323_12 (by decide) (fun c8 => ?_) (fun c8 => ?_)
    · rw [if_pos c8] at h
      exact m_look_b31_ok hp0  lv σ g0 _ h
    · rw [if_neg c8] at h
      refine eE_iload_n lk323_15 g1 ?_
      refine eE_aload_n lk323_16 g0 ?_
      refine eR_get lk323_17 rf_461 rfl ?_
      refine eE_icmp (t := 32) lk323_20 (by decide) (fun c9 => ?_) (fun c9 => ?_)
      · rw [if_pos c9] at h
        exact m_look_b32_ok hp0  lv σ l1 l2 l3 g0 g1 g2 g3 _ h
      · rw [if_neg c9] at h
        refine eE_iload_n lk323_23 g2 ?_
        refine eE_aload_n lk323_24 g0 ?_
        refine eR_get lk323_25 rf_464 rfl ?_
        refine eE_icmp (t := 32) lk323_28 (by decide) (fun c10 => ?_) (fun c10 => ?_)
        · rw [if_pos c10] at h
          exact m_look_b32_ok hp0  lv σ l1 l2 l3 g0 g1 g2 g3 _ h
        · rw [if_neg c10] at h
          exact m_look_b31_ok hp0  lv σ g0 _ h
def m_look (σ : RS) (l1 : Int32) (l2 : Int32) (l3 : Int32) : Option (RS) := m_look_b0 σ l1 l2 l3
theorem m_look_ok {pF : Nat → List Value → xH → Option (Option Value × xH)} (hp0 : xNP pF) {d : Nat} {aR : Nat} {G : Nat → xC} {T : Nat × Nat} {σ : RS} {l1 : Int32} {l2 : Int32} {l3 : Int32} {res : RS} (h : m_look σ l1 l2 l3 = some res) : xCo pF (d + 1) 323 [.ref aR, .int l1, .int l2, .int l3] (layR aR σ G, T) none (layR aR res G, T) := by
  unfold m_look at h
  exact xCo_R kk_323 mo_323 ni_323 xm_323 (Nat.le_of_ble_eq_true rfl) (hp0 _ (by decide) (by decide) _ _) (m_look_b0_ok hp0 _ σ l1 l2 l3 rfl rfl rfl rfl _ h)
/-! findNext (283), depth 2 -/
def m_findNext_b40 (F : Nat) (K7 : RS → Int32 → Option (RS)) (σ : RS) (l1 : Int32) : Option (RS) :=
  K7 σ (l1 + (1 : Int32))
set_option maxRecDepth 4000 in
theorem m_findNext_b40_ok {pF : Nat → List Value → xH → Option (Option Value × xH)} {d : Nat} {aR : Nat} {G : Nat → xC} {T : Nat × Nat} {F : Nat} {K7 : RS → Int32 → Option (RS)} (hp0 : xNP pF) (hK7 : ∀ (lv : xL) (σ : RS) (l1 : Int32), xg lv 0 = some (.ref aR) → xg lv 1 = some (.int l1) → ∀ res, K7 σ l1 = some res → xR pF (d + 1) kT283 16 2 false none none (layR aR res G, T) (7, lv, [], (layR aR σ G, T))) : ∀ (lv : xL) (σ : RS) (l1 : Int32), xg lv 0 = some (.ref aR) → xg lv 1 = some (.int l1) → ∀ res, m_findNext_b40 F K7 σ l1 = some res → xR pF (d + 1) kT283 16 2 false none none (layR aR res G, T) (40, lv, [], (layR aR σ G, T)) := by
  intro lv σ l1 g0 g1 res h
  unfold m_findNext_b40 at h
  refine eE_inc (j := 1) (v := l1 + (1 : Int32)) lk283_40 g1 rfl (by decide) (fun vq1 gq2 kq3 => ?_)
  have gq4 := kq3 0 _ (by decide) (fun _ => rfl) g0
  refine eE_goto (t := 7) lk283_43 (by decide) ?_
  exact hK7 vq1 σ (l1 + (1 : Int32)) gq4 gq2 _ h
def m_findNext_b84 (F : Nat) (K48 : RS → Int32 → Option (RS)) (σ : RS) (l1 : Int32) : Option (RS) :=
  K48 σ (l1 + (1 : Int32))
set_option maxRecDepth 4000 in
theorem m_findNext_b84_ok {pF : Nat → List Value → xH → Option (Option Value × xH)} {d : Nat} {aR : Nat} {G : Nat → xC} {T : Nat × Nat} {F : Nat} {K48 : RS → Int32 → Option (RS)} (hp0 : xNP pF) (hK48 : ∀ (lv : xL) (σ : RS) (l1 : Int32), xg lv 0 = some (.ref aR) → xg lv 1 = some (.int l1) → ∀ res, K48 σ l1 = some res → xR pF (d + 1) kT283 16 2 false none none (layR aR res G, T) (48, lv, [], (layR aR σ G, T))) : ∀ (lv : xL) (σ : RS) (l1 : Int32), xg lv 0 = some (.ref aR) → xg lv 1 = some (.int l1) → ∀ res, m_findNext_b84 F K48 σ l1 = some res → xR pF (d + 1) kT283 16 2 false none none (layR aR res G, T) (84, lv, [], (layR aR σ G, T)) := by
  intro lv σ l1 g0 g1 res h
  unfold m_findNext_b84 at h
  refine eE_inc (j := 1) (v := l1 + (1 : Int32)) lk283_84 g1 rfl (by decide) (fun vq5 gq6 kq7 => ?_)
  have gq8 := kq7 0 _ (by decide) (fun _ => rfl) g0
  refine eE_goto (t := 48) lk283_87 (by decide) ?_
  exact hK48 vq5 σ (l1 + (1 : Int32)) gq8 gq6 _ h
def m_findNext_b128 (F : Nat) (K92 : RS → Int32 → Option (RS)) (σ : RS) (l1 : Int32) : Option (RS) :=
  K92 σ (l1 + (1 : Int32))
set_option maxRecDepth 4000 in
theorem m_findNext_b128_ok {pF : Nat → List Value → xH → Option (Option Value × xH)} {d : Nat} {aR : Nat} {G : Nat → xC} {T : Nat × Nat} {F : Nat} {K92 : RS → Int32 → Option (RS)} (hp0 : xNP pF) (hK92 : ∀ (lv : xL) (σ : RS) (l1 : Int32), xg lv 0 = some (.ref aR) → xg lv 1 = some (.int l1) → ∀ res, K92 σ l1 = some res → xR pF (d + 1) kT283 16 2 false none none (layR aR res G, T) (92, lv, [], (layR aR σ G, T))) : ∀ (lv : xL) (σ : RS) (l1 : Int32), xg lv 0 = some (.ref aR) → xg lv 1 = some (.int l1) → ∀ res, m_findNext_b128 F K92 σ l1 = some res → xR pF (d + 1) kT283 16 2 false none none (layR aR res G, T) (128, lv, [], (layR aR σ G, T)) := by
  intro lv σ l1 g0 g1 res h
  unfold m_findNext_b128 at h
  refine eE_inc (j := 1) (v := l1 + (1 : Int32)) lk283_128 g1 rfl (by decide) (fun vq9 gq10 kq11 => ?_)
  have gq12 := kq11 0 _ (by decide) (fun _ => rfl) g0
  refine eE_goto (t := 92) lk283_131 (by decide) ?_
  exact hK92 vq9 σ (l1 + (1 : Int32)) gq12 gq10 _ h
def m_findNext_b92 (F : Nat)  : Nat → RS → Int32 → Option (RS)
  | 0, _, _ => none
  | n + 1, σ, l1 =>
    let KK := m_findNext_b92 F  n
    if xc2 .ge l1 ((7 : Int32)) = true then (
      some σ
    ) else (
      (rld σ 31 l1).bind fun x14 =>
      if xc0 .lt x14 = true then (
        m_findNext_b128 F KK σ l1
      ) else (
        (rld σ 32 l1).bind fun x17 =>
        (rld σ 31 l1).bind fun x19 =>
        (m_look σ x17 x19 (((300 : Int32)) + l1)).bind fun p21 =>
        m_findNext_b128 F KK p21 l1
      )
    )
set_option maxRecDepth 4000 in
theorem m_findNext_b92_ok {pF : Nat → List Value → xH → Option (Option Value × xH)} {d : Nat} {aR : Nat} {G : Nat → xC} {T : Nat × Nat} {F : Nat} (hp0 : xNP pF)  : ∀ (n : Nat) (lv : xL) (σ : RS) (l1 : Int32), xg lv 0 = some (.ref aR) → xg lv 1 = some (.int l1) → ∀ res, m_findNext_b92 F  n σ l1 = some res → xR pF (d + 1) kT283 16 2 false none none (layR aR res G, T) (92, lv, [], (layR aR σ G, T)) := by
  intro n
  induction n with
  | zero => intro lv σ l1 g0 g1 res h; simp [m_findNext_b92] at h
  | succ n hKK =>
    intro lv σ l1 g0 g1 res h
    unfold m_findNext_b92 at h
    dsimp only at h
    refine eE_iload_n lk283_92 g1 ?_
    refine eE_bipush (v := 7) lk283_93 (by decide) ?_
    refine eE_icmp (t := 134) lk283_95 (by decide) (fun c13 => ?_) (fun c13 => ?_)
    · rw [if_pos c13] at h
      cases h
      exact eE_end lk283_134 rfl rfl rfl
    · rw [if_neg c13] at h
      refine eE_aload_n lk283_98 g0 ?_
      refine eR_getA lk283_99 rf_68 rfl ?_
      refine eE_iload_n lk283_102 g1 ?_
      obtain ⟨x14, h15, h⟩ := Option.bind_eq_some_iff.mp h
      refine eR_iald lk283_103 rfl rfl h15 ?_
      refine eE_if (t := 128) lk283_104 (by decide) (fun c16 => ?_) (fun c16 => ?_)
      · rw [if_pos c16] at h
        exact m_findNext_b128_ok hp0 hKK lv σ l1 g0 g1 _ h
      · rw [if_neg c16] at h
        refine eE_aload_n lk283_107 g0 ?_
        refine eE_aload_n lk283_108 g0 ?_
        refine eR_getA lk283_109 rf_71 rfl ?_
        refine eE_iload_n lk283_112 g1 ?_
        obtain ⟨x17, h18, h⟩ := Option.bind_eq_some_iff.mp h
        refine eR_iald lk283_113 rfl rfl h18 ?_
        refine eE_aload_n lk283_114 g0 ?_
        refine eR_getA lk283_115 rf_68 rfl ?_
        refine eE_iload_n lk283_118 g1 ?_
        obtain ⟨x19, h20, h⟩ := Option.bind_eq_some_iff.mp h
        refine eR_iald lk283_119 rfl rfl h20 ?_
        refine eE_sipush (v := 300) lk283_120 (by decide) ?_
        refine eE_iload_n lk283_123 g1 ?_
        refine eE_iadd lk283_124 ?_
        obtain ⟨p21, h22, h⟩ := Option.bind_eq_some_iff.mp h
        refine eR_call (as := [.int x17, .int x19, .int (((300 : Int32)) + l1)]) lk283_125 mr_467 na_323 rfl rfl (Nat.le_of_ble_eq_true rfl) wv_323 wc_323 (m_look_ok hp0 (d := d + 0) h22) ?_
        exact m_findNext_b128_ok hp0 hKK lv p21 l1 g0 g1 _ h
def m_findNext_b48 (F : Nat)  : Nat → RS → Int32 → Option (RS)
  | 0, _, _ => none
  | n + 1, σ, l1 =>
    let KK := m_findNext_b48 F  n
    if xc2 .ge l1 ((16 : Int32)) = true then (
      m_findNext_b92 F  F σ ((0 : Int32))
    ) else (
      (rld σ 29 l1).bind fun x28 =>
      if xc0 .lt x28 = true then (
        m_findNext_b84 F KK σ l1
      ) else (
        (rld σ 30 l1).bind fun x31 =>
        (rld σ 29 l1).bind fun x33 =>
        (m_look σ x31 x33 (((200 : Int32)) + l1)).bind fun p35 =>
        m_findNext_b84 F KK p35 l1
      )
    )
set_option maxRecDepth 4000 in
theorem m_findNext_b48_ok {pF : Nat → List Value → xH → Option (Option Value × xH)} {d : Nat} {aR : Nat} {G : Nat → xC} {T : Nat × Nat} {F : Nat} (hp0 : xNP pF)  : ∀ (n : Nat) (lv : xL) (σ : RS) (l1 : Int32), xg lv 0 = some (.ref aR) → xg lv 1 = some (.int l1) → ∀ res, m_findNext_b48 F  n σ l1 = some res → xR pF (d + 1) kT283 16 2 false none none (layR aR res G, T) (48, lv, [], (layR aR σ G, T)) := by
  intro n
  induction n with
  | zero => intro lv σ l1 g0 g1 res h; simp [m_findNext_b48] at h
  | succ n hKK =>
    intro lv σ l1 g0 g1 res h
    unfold m_findNext_b48 at h
    dsimp only at h
    refine eE_iload_n lk283_48 g1 ?_
    refine eE_bipush (v := 16) lk283_49 (by decide) ?_
    refine eE_icmp (t := 90) lk283_51 (by decide) (fun c23 => ?_) (fun c23 => ?_)
    · rw [if_pos c23] at h
      refine eE_iconst (v := 0) lk283_90 (by decide) ?_
      refine eE_stI (j := 1) lk283_91 (Or.inr ⟨_, rfl, rfl⟩) (by decide) (fun vq24 gq25 kq26 => ?_)
      have gq27 := kq26 0 _ (by decide) (fun _ => rfl) g0
      exact m_findNext_b92_ok hp0  F vq24 σ ((0 : Int32)) gq27 gq25 _ h
    · rw [if_neg c23] at h
      refine eE_aload_n lk283_54 g0 ?_
      refine eR_getA lk283_55 rf_62 rfl ?_
      refine eE_iload_n lk283_58 g1 ?_
      obtain ⟨x28, h29, h⟩ := Option.bind_eq_some_iff.mp h
      refine eR_iald lk283_59 rfl rfl h29 ?_
      refine eE_if (t := 84) lk283_60 (by decide) (fun c30 => ?_) (fun c30 => ?_)
      · rw [if_pos c30] at h
        exact m_findNext_b84_ok hp0 hKK lv σ l1 g0 g1 _ h
      · rw [if_neg c30] at h
        refine eE_aload_n lk283_63 g0 ?_
        refine eE_aload_n lk283_64 g0 ?_
        refine eR_getA lk283_65 rf_65 rfl ?_
        refine eE_iload_n lk283_68 g1 ?_
        obtain ⟨x31, h32, h⟩ := Option.bind_eq_some_iff.mp h
        refine eR_iald lk283_69 rfl rfl h32 ?_
        refine eE_aload_n lk283_70 g0 ?_
        refine eR_getA lk283_71 rf_62 rfl ?_
        refine eE_iload_n lk283_74 g1 ?_
        obtain ⟨x33, h34, h⟩ := Option.bind_eq_some_iff.mp h
        refine eR_iald lk283_75 rfl rfl h34 ?_
        refine eE_sipush (v := 200) lk283_76 (by decide) ?_
        refine eE_iload_n lk283_79 g1 ?_
        refine eE_iadd lk283_80 ?_
        obtain ⟨p35, h36, h⟩ := Option.bind_eq_some_iff.mp h
        refine eR_call (as := [.int x31, .int x33, .int (((200 : Int32)) + l1)]) lk283_81 mr_467 na_323 rfl rfl (Nat.le_of_ble_eq_true rfl) wv_323 wc_323 (m_look_ok hp0 (d := d + 0) h36) ?_
        exact m_findNext_b84_ok hp0 hKK lv p35 l1 g0 g1 _ h
def m_findNext_b7 (F : Nat)  : Nat → RS → Int32 → Option (RS)
  | 0, _, _ => none
  | n + 1, σ, l1 =>
    let KK := m_findNext_b7 F  n
    if xc2 .ge l1 ((128 : Int32)) = true then (
      m_findNext_b48 F  F σ ((0 : Int32))
    ) else (
      (rld σ 17 l1).bind fun x42 =>
      if xc0 .eq x42 = true then (
        m_findNext_b40 F KK σ l1
      ) else (
        (rld σ 18 l1).bind fun x45 =>
        (rld σ 19 l1).bind fun x47 =>
        (m_look σ x45 x47 l1).bind fun p49 =>
        m_findNext_b40 F KK p49 l1
      )
    )
set_option maxRecDepth 4000 in
theorem m_findNext_b7_ok {pF : Nat → List Value → xH → Option (Option Value × xH)} {d : Nat} {aR : Nat} {G : Nat → xC} {T : Nat × Nat} {F : Nat} (hp0 : xNP pF)  : ∀ (n : Nat) (lv : xL) (σ : RS) (l1 : Int32), xg lv 0 = some (.ref aR) → xg lv 1 = some (.int l1) → ∀ res, m_findNext_b7 F  n σ l1 = some res → xR pF (d + 1) kT283 16 2 false none none (layR aR res G, T) (7, lv, [], (layR aR σ G, T)) := by
  intro n
  induction n with
  | zero => intro lv σ l1 g0 g1 res h; simp [m_findNext_b7] at h
  | succ n hKK =>
    intro lv σ l1 g0 g1 res h
    unfold m_findNext_b7 at h
    dsimp only at h
    refine eE_iload_n lk283_7 g1 ?_
    refine eE_sipush (v := 128) lk283_8 (by decide) ?_
    refine eE_icmp (t := 46) lk283_11 (by decide) (fun c37 => ?_) (fun c37 => ?_)
    · rw [if_pos c37] at h
      refine eE_iconst (v := 0) lk283_46 (by decide) ?_
      refine eE_stI (j := 1) lk283_47 (Or.inr ⟨_, rfl, rfl⟩) (by decide) (fun vq38 gq39 kq40 => ?_)
      have gq41 := kq40 0 _ (by decide) (fun _ => rfl) g0
      exact m_findNext_b48_ok hp0  F vq38 σ ((0 : Int32)) gq41 gq39 _ h
    · rw [if_neg c37] at h
      refine eE_aload_n lk283_14 g0 ?_
      refine eR_getA lk283_15 rf_49 rfl ?_
      refine eE_iload_n lk283_18 g1 ?_
      obtain ⟨x42, h43, h⟩ := Option.bind_eq_some_iff.mp h
      refine eR_bald lk283_19 rfl (Or.inr rfl) h43 ?_
      refine eE_if (t := 40) lk283_20 (by decide) (fun c44 => ?_) (fun c44 => ?_)
      · rw [if_pos c44] at h
        exact m_findNext_b40_ok hp0 hKK lv σ l1 g0 g1 _ h
      · rw [if_neg c44] at h
        refine eE_aload_n lk283_23 g0 ?_
        refine eE_aload_n lk283_24 g0 ?_
        refine eR_getA lk283_25 rf_53 rfl ?_
        refine eE_iload_n lk283_28 g1 ?_
        obtain ⟨x45, h46, h⟩ := Option.bind_eq_some_iff.mp h
        refine eR_iald lk283_29 rfl rfl h46 ?_
        refine eE_aload_n lk283_30 g0 ?_
        refine eR_getA lk283_31 rf_56 rfl ?_
        refine eE_iload_n lk283_34 g1 ?_
        obtain ⟨x47, h48, h⟩ := Option.bind_eq_some_iff.mp h
        refine eR_iald lk283_35 rfl rfl h48 ?_
        refine eE_iload_n lk283_36 g1 ?_
        obtain ⟨p49, h50, h⟩ := Option.bind_eq_some_iff.mp h
        refine eR_call (as := [.int x45, .int x47, .int l1]) lk283_37 mr_467 na_323 rfl rfl (Nat.le_of_ble_eq_true rfl) wv_323 wc_323 (m_look_ok hp0 (d := d + 0) h50) ?_
        exact m_findNext_b40_ok hp0 hKK lv p49 l1 g0 g1 _ h
def m_findNext_b0 (F : Nat)  (σ : RS) : Option (RS) :=
  (some (setI σ 35 0 ((-1 : Int32)))).bind fun σ51 =>
  m_findNext_b7 F  F σ51 ((0 : Int32))
set_option maxRecDepth 4000 in
theorem m_findNext_b0_ok {pF : Nat → List Value → xH → Option (Option Value × xH)} {d : Nat} {aR : Nat} {G : Nat → xC} {T : Nat × Nat} {F : Nat} (hp0 : xNP pF)  : ∀ (lv : xL) (σ : RS), xg lv 0 = some (.ref aR) → ∀ res, m_findNext_b0 F  σ = some res → xR pF (d + 1) kT283 16 2 false none none (layR aR res G, T) (0, lv, [], (layR aR σ G, T)) := by
  intro lv σ g0 res h
  unfold m_findNext_b0 at h
  refine eE_aload_n lk283_0 g0 ?_
  refine eE_iconst (v := (-1)) lk283_1 (by decide) ?_
  obtain ⟨σ51, h52, h⟩ := Option.bind_eq_some_iff.mp h
  refine eR_putS lk283_2 rf_458 rfl (by decide) pf_35.1 pf_35.2 h52 ?_
  refine eE_iconst (v := 0) lk283_5 (by decide) ?_
  refine eE_stI (j := 1) lk283_6 (Or.inr ⟨_, rfl, rfl⟩) (by decide) (fun vq53 gq54 kq55 => ?_)
  have gq56 := kq55 0 _ (by decide) (fun _ => rfl) g0
  exact m_findNext_b7_ok hp0  F vq53 σ51 ((0 : Int32)) gq56 gq54 _ h
def m_findNext (F : Nat) (σ : RS)  : Option (RS) := m_findNext_b0 F σ 
theorem m_findNext_ok {pF : Nat → List Value → xH → Option (Option Value × xH)} (hp0 : xNP pF) {d : Nat} {aR : Nat} {G : Nat → xC} {T : Nat × Nat} {σ : RS} {F : Nat}  {res : RS} (h : m_findNext F σ  = some res) : xCo pF (d + 2) 283 [.ref aR] (layR aR σ G, T) none (layR aR res G, T) := by
  unfold m_findNext at h
  exact xCo_R kk_283 mo_283 ni_283 xm_283 (Nat.le_of_ble_eq_true rfl) (hp0 _ (by decide) (by decide) _ _) (m_findNext_b0_ok hp0 _ σ  rfl _ h)
/-! isSegment (305), depth 2 -/
def m_isSegment_b31  (σ : RS) (s0 : Int32) : Option (Int32 × RS) :=
  if s0 = 0 ∨ s0 = 1 then some (s0, σ) else none
set_option maxRecDepth 4000 in
theorem m_isSegment_b31_ok {pF : Nat → List Value → xH → Option (Option Value × xH)} {d : Nat} {aR : Nat} {G : Nat → xC} {T : Nat × Nat} (hp0 : xNP pF)  : ∀ (lv : xL) (σ : RS) (s0 : Int32), xg lv 0 = some (.ref aR) → ∀ res, m_isSegment_b31  σ s0 = some res → xR pF (d + 1) kT305 16 4 false (some .boolean) (some (.int res.1)) (layR aR res.2 G, T) (31, lv, [.int s0], (layR aR σ G, T)) := by
  intro lv σ s0 g0 res h
  unfold m_isSegment_b31 at h
  by_cases z1 : s0 = 0 ∨ s0 = 1
  · rw [if_pos z1] at h; cases h
    exact eE_end lk305_31 rfl rfl (by first | (simp only [xfin, if_true, if_pos z1]; done) | simp [xfin, z1])
  · rw [if_neg z1] at h; cases h
def m_isSegment_b30  (σ : RS) : Option (Int32 × RS) :=
  m_isSegment_b31  σ ((0 : Int32))
set_option maxRecDepth 4000 in
theorem m_isSegment_b30_ok {pF : Nat → List Value → xH → Option (Option Value × xH)} {d : Nat} {aR : Nat} {G : Nat → xC} {T : Nat × Nat} (hp0 : xNP pF)  : ∀ (lv : xL) (σ : RS), xg lv 0 = some (.ref aR) → ∀ res, m_isSegment_b30  σ = some res → xR pF (d + 1) kT305 16 4 false (some .boolean) (some (.int res.1)) (layR aR res.2 G, T) (30, lv, [], (layR aR σ G, T)) := by
  intro lv σ g0 res h
  unfold m_isSegment_b30 at h
  refine eE_iconst (v := 0) lk305_30 (by decide) ?_
  exact m_isSegment_b31_ok hp0  lv σ ((0 : Int32)) g0 _ h
def m_isSegment_b0  (σ : RS) (l1 : Int32) (l2 : Int32) : Option (Int32 × RS) :=
  (m_fileOf l1 l2).bind fun p2 =>
  (rld σ 38 p2).bind fun x8 =>
  if xc0 .eq x8 = true then (
    m_isSegment_b30  σ
  ) else (
    (rld σ 37 p2).bind fun x11 =>
    if xc2 .lt x11 ((24 : Int32)) = true then (
      m_isSegment_b30  σ
    ) else (
      m_isSegment_b31  σ ((1 : Int32))
    )
  )
set_option maxRecDepth 4000 in
theorem m_isSegment_b0_ok {pF : Nat → List Value → xH → Option (Option Value × xH)} {d : Nat} {aR : Nat} {G : Nat → xC} {T : Nat × Nat} (hp0 : xNP pF)  : ∀ (lv : xL) (σ : RS) (l1 : Int32) (l2 : Int32), xg lv 0 = some (.ref aR) → xg lv 1 = some (.int l1) → xg lv 2 = some (.int l2) → ∀ res, m_isSegment_b0  σ l1 l2 = some res → xR pF (d + 1) kT305 16 4 false (some .boolean) (some (.int res.1)) (layR aR res.2 G, T) (0, lv, [], (layR aR σ G, T)) := by
  intro lv σ l1 l2 g0 g1 g2 res h
  unfold m_isSegment_b0 at h
  refine eE_iload_n lk305_0 g1 ?_
  refine eE_iload_n lk305_1 g2 ?_
  obtain ⟨p2, h3, h⟩ := Option.bind_eq_some_iff.mp h
  refine eE_stat (as := [.int l1, .int l2]) lk305_2 mr_492 na_280 rfl rfl (Nat.le_of_ble_eq_true rfl) mm_280 ws_280 (m_fileOf_ok hp0 (d := d + 0) h3) ?_
  refine eE_stI (j := 3) lk305_5 (Or.inr ⟨_, rfl, rfl⟩) (by decide) (fun vq4 gq5 kq6 => ?_)
  have gq7 := kq6 0 _ (by decide) (fun _ => rfl) g0
  refine eE_aload_n lk305_6 gq7 ?_
  refine eR_getA lk305_7 rf_81 rfl ?_
  refine eE_iload_n lk305_10 gq5 ?_
  obtain ⟨x8, h9, h⟩ := Option.bind_eq_some_iff.mp h
  refine eR_bald lk305_11 rfl (Or.inr rfl) h9 ?_
  refine eE_if (t := 30) lk305_12 (by decide) (fun c10 => ?_) (fun c10 => ?_)
  · rw [if_pos c10] at h
    exact m_isSegment_b30_ok hp0  vq4 σ gq7 _ h
  · rw [if_neg c10] at h
    refine eE_aload_n lk305_15 gq7 ?_
    refine eR_getA lk305_16 rf_78 rfl ?_
    refine eE_iload_n lk305_19 gq5 ?_
    obtain ⟨x11, h12, h⟩ := Option.bind_eq_some_iff.mp h
    refine eR_iald lk305_20 rfl rfl h12 ?_
    refine eE_bipush (v := 24) lk305_21 (by decide) ?_
    refine eE_icmp (t := 30) lk305_23 (by decide) (fun c13 => ?_) (fun c13 => ?_)
    · rw [if_pos c13] at h
      exact m_isSegment_b30_ok hp0  vq4 σ gq7 _ h
    · rw [if_neg c13] at h
      refine eE_iconst (v := 1) lk305_26 (by decide) ?_
      refine eE_goto (t := 31) lk305_27 (by decide) ?_
      exact m_isSegment_b31_ok hp0  vq4 σ ((1 : Int32)) gq7 _ h
def m_isSegment (σ : RS) (l1 : Int32) (l2 : Int32) : Option (Int32 × RS) := m_isSegment_b0 σ l1 l2
theorem m_isSegment_ok {pF : Nat → List Value → xH → Option (Option Value × xH)} (hp0 : xNP pF) {d : Nat} {aR : Nat} {G : Nat → xC} {T : Nat × Nat} {σ : RS} {l1 : Int32} {l2 : Int32} {res : Int32 × RS} (h : m_isSegment σ l1 l2 = some res) : xCo pF (d + 2) 305 [.ref aR, .int l1, .int l2] (layR aR σ G, T) (some (.int res.1)) (layR aR res.2 G, T) := by
  unfold m_isSegment at h
  exact xCo_R kk_305 mo_305 ni_305 xm_305 (Nat.le_of_ble_eq_true rfl) (hp0 _ (by decide) (by decide) _ _) (m_isSegment_b0_ok hp0 _ σ l1 l2 rfl rfl rfl _ h)
/-! onDisk (331), depth 1 -/
def m_onDisk  (σ : RS) (l1 : Int32) : Option (Int32 × RS) :=
  (rldL σ 36 (l1 >>> (((3 : Int32)) &&& 31))).bind fun x1 =>
  if (((x1 >>> ((((8 : Int32)) * (l1 &&& ((7 : Int32)))).toInt64 &&& 63)).toInt32).toInt8.toInt32).toInt8.toInt32 = (((x1 >>> ((((8 : Int32)) * (l1 &&& ((7 : Int32)))).toInt64 &&& 63)).toInt32).toInt8.toInt32) then some (((x1 >>> ((((8 : Int32)) * (l1 &&& ((7 : Int32)))).toInt64 &&& 63)).toInt32).toInt8.toInt32, σ) else none
set_option maxRecDepth 4000 in
theorem m_onDisk_run {pF : Nat → List Value → xH → Option (Option Value × xH)} {d : Nat} {aR : Nat} {G : Nat → xC} {T : Nat × Nat} (hp0 : xNP pF)  : ∀ (lv : xL) (σ : RS) (l1 : Int32), xg lv 0 = some (.ref aR) → xg lv 1 = some (.int l1) → ∀ res, m_onDisk  σ l1 = some res → xR pF (d + 0) kT331 16 2 false (some .byte) (some (.int res.1)) (layR aR res.2 G, T) (0, lv, [], (layR aR σ G, T)) := by
  intro lv σ l1 g0 g1 res h
  unfold m_onDisk at h
  refine eE_aload_n lk331_0 g0 ?_
  refine eR_getA lk331_1 rf_75 rfl ?_
  refine eE_iload_n lk331_4 g1 ?_
  refine eE_iconst (v := 3) lk331_5 (by decide) ?_
  refine eE_ishr lk331_6 ?_
  obtain ⟨x1, h2, h⟩ := Option.bind_eq_some_iff.mp h
  refine eR_lald lk331_7 rfl rfl h2 ?_
  refine eE_bipush (v := 8) lk331_8 (by decide) ?_
  refine eE_iload_n lk331_10 g1 ?_
  refine eE_bipush (v := 7) lk331_11 (by decide) ?_
  refine eE_iand lk331_13 ?_
  refine eE_imul lk331_14 ?_
  refine eE_lshr lk331_15 ?_
  refine eE_l2i lk331_16 ?_
  refine eE_i2b lk331_17 ?_
  by_cases z3 : (((x1 >>> ((((8 : Int32)) * (l1 &&& ((7 : Int32)))).toInt64 &&& 63)).toInt32).toInt8.toInt32).toInt8.toInt32 = (((x1 >>> ((((8 : Int32)) * (l1 &&& ((7 : Int32)))).toInt64 &&& 63)).toInt32).toInt8.toInt32)
  · rw [if_pos z3] at h; cases h
    exact eE_end lk331_18 rfl rfl (by first | (simp only [xfin, if_true, if_pos z3]; done) | simp [xfin, z3])
  · rw [if_neg z3] at h; cases h
theorem m_onDisk_ok {pF : Nat → List Value → xH → Option (Option Value × xH)} (hp0 : xNP pF) {d : Nat} {aR : Nat} {G : Nat → xC} {T : Nat × Nat} {σ : RS} {l1 : Int32} {res : Int32 × RS} (h : m_onDisk σ l1 = some res) : xCo pF (d + 1) 331 [.ref aR, .int l1] (layR aR σ G, T) (some (.int res.1)) (layR aR res.2 G, T) := by
  exact xCo_R kk_331 mo_331 ni_331 xm_331 (Nat.le_of_ble_eq_true rfl) (hp0 _ (by decide) (by decide) _ _) (m_onDisk_run hp0 _ σ l1 rfl rfl _ h)
/-! readAt (344), depth 2 -/
def m_readAt  (σ : RS) (l1 : Int32) (l2 : Int32) : Option (Int32 × RS) :=
  (m_onDisk σ ((((14000 : Int32)) * l1) + l2)).bind fun p5 =>
  (m_onDisk p5.2 (((((14000 : Int32)) * l1) + l2) + ((1 : Int32)))).bind fun p7 =>
  (m_onDisk p7.2 (((((14000 : Int32)) * l1) + l2) + ((2 : Int32)))).bind fun p9 =>
  (m_onDisk p9.2 (((((14000 : Int32)) * l1) + l2) + ((3 : Int32)))).bind fun p11 =>
  some ((((p5.1 <<< (((24 : Int32)) &&& 31)) ||| ((p7.1 &&& ((255 : Int32))) <<< (((16 : Int32)) &&& 31))) ||| ((p9.1 &&& ((255 : Int32))) <<< (((8 : Int32)) &&& 31))) ||| (p11.1 &&& ((255 : Int32))), p11.2)
set_option maxRecDepth 4000 in
theorem m_readAt_run {pF : Nat → List Value → xH → Option (Option Value × xH)} {d : Nat} {aR : Nat} {G : Nat → xC} {T : Nat × Nat} (hp0 : xNP pF)  : ∀ (lv : xL) (σ : RS) (l1 : Int32) (l2 : Int32), xg lv 0 = some (.ref aR) → xg lv 1 = some (.int l1) → xg lv 2 = some (.int l2) → ∀ res, m_readAt  σ l1 l2 = some res → xR pF (d + 1) kT344 16 4 false (some .int) (some (.int res.1)) (layR aR res.2 G, T) (0, lv, [], (layR aR σ G, T)) := by
  intro lv σ l1 l2 g0 g1 g2 res h
  unfold m_readAt at h
  refine eE_sipush (v := 14000) lk344_0 (by decide) ?_
  refine eE_iload_n lk344_3 g1 ?_
  refine eE_imul lk344_4 ?_
  refine eE_iload_n lk344_5 g2 ?_
  refine eE_iadd lk344_6 ?_
  refine eE_stI (j := 3) lk344_7 (Or.inr ⟨_, rfl, rfl⟩) (by decide) (fun vq1 gq2 kq3 => ?_)
  have gq4 := kq3 0 _ (by decide) (fun _ => rfl) g0
  refine eE_aload_n lk344_8 gq4 ?_
  refine eE_iload_n lk344_9 gq2 ?_
  obtain ⟨p5, h6, h⟩ := Option.bind_eq_some_iff.mp h
  refine eR_call (as := [.int ((((14000 : Int32)) * l1) + l2)]) lk344_10 mr_517 na_331 rfl rfl (Nat.le_of_ble_eq_true rfl) wv_331 wc_331 (m_onDisk_ok hp0 (d := d + 0) h6) ?_
  refine eE_bipush (v := 24) lk344_13 (by decide) ?_
  refine eE_ishl lk344_15 ?_
  refine eE_aload_n lk344_16 gq4 ?_
  refine eE_iload_n lk344_17 gq2 ?_
  refine eE_iconst (v := 1) lk344_18 (by decide) ?_
  refine eE_iadd lk344_19 ?_
  obtain ⟨p7, h8, h⟩ := Option.bind_eq_some_iff.mp h
  refine eR_call (as := [.int (((((14000 : Int32)) * l1) + l2) + ((1 : Int32)))]) lk344_20 mr_517 na_331 rfl rfl (Nat.le_of_ble_eq_true rfl) wv_331 wc_331 (m_onDisk_ok hp0 (d := d + 0) h8) ?_
  refine eE_sipush (v := 255) lk344_23 (by decide) ?_
  refine eE_iand lk344_26 ?_
  refine eE_bipush (v := 16) lk344_27 (by decide) ?_
  refine eE_ishl lk344_29 ?_
  refine eE_ior lk344_30 ?_
  refine eE_aload_n lk344_31 gq4 ?_
  refine eE_iload_n lk344_32 gq2 ?_
  refine eE_iconst (v := 2) lk344_33 (by decide) ?_
  refine eE_iadd lk344_34 ?_
  obtain ⟨p9, h10, h⟩ := Option.bind_eq_some_iff.mp h
  refine eR_call (as := [.int (((((14000 : Int32)) * l1) + l2) + ((2 : Int32)))]) lk344_35 mr_517 na_331 rfl rfl (Nat.le_of_ble_eq_true rfl) wv_331 wc_331 (m_onDisk_ok hp0 (d := d + 0) h10) ?_
  refine eE_sipush (v := 255) lk344_38 (by decide) ?_
  refine eE_iand lk344_41 ?_
  refine eE_bipush (v := 8) lk344_42 (by decide) ?_
  refine eE_ishl lk344_44 ?_
  refine eE_ior lk344_45 ?_
  refine eE_aload_n lk344_46 gq4 ?_
  refine eE_iload_n lk344_47 gq2 ?_
  refine eE_iconst (v := 3) lk344_48 (by decide) ?_
  refine eE_iadd lk344_49 ?_
  obtain ⟨p11, h12, h⟩ := Option.bind_eq_some_iff.mp h
  refine eR_call (as := [.int (((((14000 : Int32)) * l1) + l2) + ((3 : Int32)))]) lk344_50 mr_517 na_331 rfl rfl (Nat.le_of_ble_eq_true rfl) wv_331 wc_331 (m_onDisk_ok hp0 (d := d + 0) h12) ?_
  refine eE_sipush (v := 255) lk344_53 (by decide) ?_
  refine eE_iand lk344_56 ?_
  refine eE_ior lk344_57 ?_
  cases h
  exact eE_end lk344_58 rfl rfl rfl
theorem m_readAt_ok {pF : Nat → List Value → xH → Option (Option Value × xH)} (hp0 : xNP pF) {d : Nat} {aR : Nat} {G : Nat → xC} {T : Nat × Nat} {σ : RS} {l1 : Int32} {l2 : Int32} {res : Int32 × RS} (h : m_readAt σ l1 l2 = some res) : xCo pF (d + 2) 344 [.ref aR, .int l1, .int l2] (layR aR σ G, T) (some (.int res.1)) (layR aR res.2 G, T) := by
  exact xCo_R kk_344 mo_344 ni_344 xm_344 (Nat.le_of_ble_eq_true rfl) (hp0 _ (by decide) (by decide) _ _) (m_readAt_run hp0 _ σ l1 l2 rfl rfl rfl _ h)
/-! follower (285), depth 3 -/
def m_follower_b57 (F : Nat) (K3 : RS → Int32 → Int32 → Int32 → Int32 → Option (Int32 × RS)) (σ : RS) (l1 : Int32) (l2 : Int32) (l3 : Int32) (l4 : Int32) : Option (Int32 × RS) :=
  K3 σ l1 l2 l3 (l4 + (1 : Int32))
set_option maxRecDepth 4000 in
theorem m_follower_b57_ok {pF : Nat → List Value → xH → Option (Option Value × xH)} {d : Nat} {aR : Nat} {G : Nat → xC} {T : Nat × Nat} {F : Nat} {K3 : RS → Int32 → Int32 → Int32 → Int32 → Option (Int32 × RS)} (hp0 : xNP pF) (hK3 : ∀ (lv : xL) (σ : RS) (l1 : Int32) (l2 : Int32) (l3 : Int32) (l4 : Int32), xg lv 0 = some (.ref aR) → xg lv 1 = some (.int l1) → xg lv 2 = some (.int l2) → xg lv 3 = some (.int l3) → xg lv 4 = some (.int l4) → ∀ res, K3 σ l1 l2 l3 l4 = some res → xR pF (d + 2) kT285 16 5 false (some .int) (some (.int res.1)) (layR aR res.2 G, T) (3, lv, [], (layR aR σ G, T))) : ∀ (lv : xL) (σ : RS) (l1 : Int32) (l2 : Int32) (l3 : Int32) (l4 : Int32), xg lv 0 = some (.ref aR) → xg lv 1 = some (.int l1) → xg lv 2 = some (.int l2) → xg lv 3 = some (.int l3) → xg lv 4 = some (.int l4) → ∀ res, m_follower_b57 F K3 σ l1 l2 l3 l4 = some res → xR pF (d + 2) kT285 16 5 false (some .int) (some (.int res.1)) (layR aR res.2 G, T) (57, lv, [], (layR aR σ G, T)) := by
  intro lv σ l1 l2 l3 l4 g0 g1 g2 g3 g4 res h
  unfold m_follower_b57 at h
  refine eE_inc (j := 4) (v := l4 + (1 : Int32)) lk285_57 g4 rfl (by decide) (fun vq1 gq2 kq3 => ?_)
  have gq4 := kq3 1 _ (by decide) (fun _ => rfl) g1
  have gq5 := kq3 2 _ (by decide) (fun _ => rfl) g2
  have gq6 := kq3 3 _ (by decide) (fun _ => rfl) g3
  have gq7 := kq3 0 _ (by decide) (fun _ => rfl) g0
  refine eE_goto (t := 3) lk285_60 (by decide) ?_
  exact hK3 vq1 σ l1 l2 l3 (l4 + (1 : Int32)) gq7 gq4 gq5 gq6 gq2 _ h
def m_follower_b3 (F : Nat)  : Nat → RS → Int32 → Int32 → Int32 → Int32 → Option (Int32 × RS)
  | 0, _, _, _, _, _ => none
  | n + 1, σ, l1, l2, l3, l4 =>
    let KK := m_follower_b3 F  n
    if xc2 .ge l4 ((16 : Int32)) = true then (
      some ((-1 : Int32), σ)
    ) else (
      (m_isSegment σ l1 l4).bind fun p9 =>
      if xc0 .eq p9.1 = true then (
        m_follower_b57 F KK p9.2 l1 l2 l3 l4
      ) else (
        (m_fileOf l1 l4).bind fun p12 =>
        (m_readAt p9.2 p12 ((8 : Int32))).bind fun p14 =>
        if xc2 .ne p14.1 (l2 + ((1 : Int32))) = true then (
          m_follower_b57 F KK p14.2 l1 l2 l3 l4
        ) else (
          (m_fileOf l1 l4).bind fun p17 =>
          (m_readAt p14.2 p17 ((12 : Int32))).bind fun p19 =>
          if xc2 .ne p19.1 l3 = true then (
            m_follower_b57 F KK p19.2 l1 l2 l3 l4
          ) else (
            some (l4, p19.2)
          )
        )
      )
    )
set_option maxRecDepth 4000 in
theorem m_follower_b3_ok {pF : Nat → List Value → xH → Option (Option Value × xH)} {d : Nat} {aR : Nat} {G : Nat → xC} {T : Nat × Nat} {F : Nat} (hp0 : xNP pF)  : ∀ (n : Nat) (lv : xL) (σ : RS) (l1 : Int32) (l2 : Int32) (l3 : Int32) (l4 : Int32), xg lv 0 = some (.ref aR) → xg lv 1 = some (.int l1) → xg lv 2 = some (.int l2) → xg lv 3 = some (.int l3) → xg lv 4 = some (.int l4) → ∀ res, m_follower_b3 F  n σ l1 l2 l3 l4 = some res → xR pF (d + 2) kT285 16 5 false (some .int) (some (.int res.1)) (layR aR res.2 G, T) (3, lv, [], (layR aR σ G, T)) := by
  intro n
  induction n with
  | zero => intro lv σ l1 l2 l3 l4 g0 g1 g2 g3 g4 res h; simp [m_follower_b3] at h
  | succ n hKK =>
    intro lv σ l1 l2 l3 l4 g0 g1 g2 g3 g4 res h
    unfold m_follower_b3 at h
    dsimp only at h
    refine eE_iload lk285_3 g4 ?_
    refine eE_bipush (v := 16) lk285_5 (by decide) ?_
    refine eE_icmp (t := 63) lk285_7 (by decide) (fun c8 => ?_) (fun c8 => ?_)
    · rw [if_pos c8] at h
      refine eE_iconst (v := (-1)) lk285_63 (by decide) ?_
      cases h
      exact eE_end lk285_64 rfl rfl rfl
    · rw [if_neg c8] at h
      refine eE_aload_n lk285_10 g0 ?_
      refine eE_iload_n lk285_11 g1 ?_
      refine eE_iload lk285_12 g4 ?_
      obtain ⟨p9, h10, h⟩ := Option.bind_eq_some_iff.mp h
      refine eR_call (as := [.int l1, .int l4]) lk285_14 mr_547 na_305 rfl rfl (Nat.le_of_ble_eq_true rfl) wv_305 wc_305 (m_isSegment_ok hp0 (d := d + 0) h10) ?_
      refine eE_if (t := 57) lk285_17 (by decide) (fun c11 => ?_) (fun c11 => ?_)
      · rw [if_pos c11] at h
        exact m_follower_b57_ok hp0 hKK lv p9.2 l1 l2 l3 l4 g0 g1 g2 g3 g4 _ h
      · rw [if_neg c11] at h
        refine eE_aload_n lk285_20 g0 ?_
        refine eE_iload_n lk285_21 g1 ?_
        refine eE_iload lk285_22 g4 ?_
        obtain ⟨p12, h13, h⟩ := Option.bind_eq_some_iff.mp h
        refine eE_stat (as := [.int l1, .int l4]) lk285_24 mr_492 na_280 rfl rfl (Nat.le_of_ble_eq_true rfl) mm_280 ws_280 (m_fileOf_ok hp0 (d := d + 1) h13) ?_
        refine eE_bipush (v := 8) lk285_27 (by decide) ?_
        obtain ⟨p14, h15, h⟩ := Option.bind_eq_some_iff.mp h
        refine eR_call (as := [.int p12, .int ((8 : Int32))]) lk285_29 mr_550 na_344 rfl rfl (Nat.le_of_ble_eq_true rfl) wv_344 wc_344 (m_readAt_ok hp0 (d := d + 0) h15) ?_
        refine eE_iload_n lk285_32 g2 ?_
        refine eE_iconst (v := 1) lk285_33 (by decide) ?_
        refine eE_iadd lk285_34 ?_
        refine eE_icmp (t := 57) lk285_35 (by decide) (fun c16 => ?_) (fun c16 => ?_)
        · rw [if_pos c16] at h
          exact m_follower_b57_ok hp0 hKK lv p14.2 l1 l2 l3 l4 g0 g1 g2 g3 g4 _ h
        · rw [if_neg c16] at h
          refine eE_aload_n lk285_38 g0 ?_
          refine eE_iload_n lk285_39 g1 ?_
          refine eE_iload lk285_40 g4 ?_
          obtain ⟨p17, h18, h⟩ := Option.bind_eq_some_iff.mp h
          refine eE_stat (as := [.int l1, .int l4]) lk285_42 mr_492 na_280 rfl rfl (Nat.le_of_ble_eq_true rfl) mm_280 ws_280 (m_fileOf_ok hp0 (d := d + 1) h18) ?_
          refine eE_bipush (v := 12) lk285_45 (by decide) ?_
          obtain ⟨p19, h20, h⟩ := Option.bind_eq_some_iff.mp h
          refine eR_call (as := [.int p17, .int ((12 : Int32))]) lk285_47 mr_550 na_344 rfl rfl (Nat.le_of_ble_eq_true rfl) wv_344 wc_344 (m_readAt_ok hp0 (d := d + 0) h20) ?_
          refine eE_iload_n lk285_50 g3 ?_
          refine eE_icmp (t := 57) lk285_51 (by decide) (fun c21 => ?_) (fun c21 => ?_)
          · rw [if_pos c21] at h
            exact m_follower_b57_ok hp0 hKK lv p19.2 l1 l2 l3 l4 g0 g1 g2 g3 g4 _ h
          · rw [if_neg c21] at h
            refine eE_iload lk285_54 g4 ?_
            cases h
            exact eE_end lk285_56 rfl rfl rfl
def m_follower_b0 (F : Nat)  (σ : RS) (l1 : Int32) (l2 : Int32) (l3 : Int32) : Option (Int32 × RS) :=
  m_follower_b3 F  F σ l1 l2 l3 ((4 : Int32))
set_option maxRecDepth 4000 in
theorem m_follower_b0_ok {pF : Nat → List Value → xH → Option (Option Value × xH)} {d : Nat} {aR : Nat} {G : Nat → xC} {T : Nat × Nat} {F : Nat} (hp0 : xNP pF)  : ∀ (lv : xL) (σ : RS) (l1 : Int32) (l2 : Int32) (l3 : Int32), xg lv 0 = some (.ref aR) → xg lv 1 = some (.int l1) → xg lv 2 = some (.int l2) → xg lv 3 = some (.int l3) → ∀ res, m_follower_b0 F  σ l1 l2 l3 = some res → xR pF (d + 2) kT285 16 5 false (some .int) (some (.int res.1)) (layR aR res.2 G, T) (0, lv, [], (layR aR σ G, T)) := by
  intro lv σ l1 l2 l3 g0 g1 g2 g3 res h
  unfold m_follower_b0 at h
  refine eE_iconst (v := 4) lk285_0 (by decide) ?_
  refine eE_stI (j := 4) lk285_1 (Or.inl rfl) (by decide) (fun vq22 gq23 kq24 => ?_)
  have gq25 := kq24 1 _ (by decide) (fun _ => rfl) g1
  have gq26 := kq24 2 _ (by decide) (fun _ => rfl) g2
  have gq27 := kq24 3 _ (by decide) (fun _ => rfl) g3
  have gq28 := kq24 0 _ (by decide) (fun _ => rfl) g0
  exact m_follower_b3_ok hp0  F vq22 σ l1 l2 l3 ((4 : Int32)) gq28 gq25 gq26 gq27 gq23 _ h
def m_follower (F : Nat) (σ : RS) (l1 : Int32) (l2 : Int32) (l3 : Int32) : Option (Int32 × RS) := m_follower_b0 F σ l1 l2 l3
theorem m_follower_ok {pF : Nat → List Value → xH → Option (Option Value × xH)} (hp0 : xNP pF) {d : Nat} {aR : Nat} {G : Nat → xC} {T : Nat × Nat} {σ : RS} {F : Nat} {l1 : Int32} {l2 : Int32} {l3 : Int32} {res : Int32 × RS} (h : m_follower F σ l1 l2 l3 = some res) : xCo pF (d + 3) 285 [.ref aR, .int l1, .int l2, .int l3] (layR aR σ G, T) (some (.int res.1)) (layR aR res.2 G, T) := by
  unfold m_follower at h
  exact xCo_R kk_285 mo_285 ni_285 xm_285 (Nat.le_of_ble_eq_true rfl) (hp0 _ (by decide) (by decide) _ _) (m_follower_b0_ok hp0 _ σ l1 l2 l3 rfl rfl rfl rfl _ h)
/-! giveUp (288), depth 3 -/
def m_giveUp_b37  (σ : RS) : Option (Int32 × RS) :=
  if ((0 : Int32)) = 0 ∨ ((0 : Int32)) = 1 then some ((0 : Int32), σ) else none
set_option maxRecDepth 4000 in
theorem m_giveUp_b37_ok {pF : Nat → List Value → xH → Option (Option Value × xH)} {d : Nat} {aR : Nat} {G : Nat → xC} {T : Nat × Nat} (hp0 : xNP pF)  : ∀ (lv : xL) (σ : RS), xg lv 0 = some (.ref aR) → ∀ res, m_giveUp_b37  σ = some res → xR pF (d + 2) kT288 16 2 false (some .boolean) (some (.int res.1)) (layR aR res.2 G, T) (37, lv, [], (layR aR σ G, T)) := by
  intro lv σ g0 res h
  unfold m_giveUp_b37 at h
  refine eE_iconst (v := 0) lk288_37 (by decide) ?_
  by_cases z1 : ((0 : Int32)) = 0 ∨ ((0 : Int32)) = 1
  · rw [if_pos z1] at h; cases h
    exact eE_end lk288_38 rfl rfl (by first | (simp only [xfin, if_true, if_pos z1]; done) | simp [xfin, z1])
  · rw [if_neg z1] at h; cases h
def m_giveUp_b18  (σ : RS) (s1 : Int32) (l1 : Int32) : Option (Int32 × RS) :=
  (some (setI σ 0 0 s1)).bind fun σ2 =>
  if xc0 .gt (σ2.1 0 0) = true then (
    m_giveUp_b37  σ2
  ) else (
    (rld σ2 124 l1).bind fun x5 =>
    if xc0 .ne x5 = true then (
      (m_resign σ2 l1).bind fun p8 =>
      if ((1 : Int32)) = 0 ∨ ((1 : Int32)) = 1 then some ((1 : Int32), p8) else none
    ) else (
      m_giveUp_b37  σ2
    )
  )
set_option maxRecDepth 4000 in
theorem m_giveUp_b18_ok {pF : Nat → List Value → xH → Option (Option Value × xH)} {d : Nat} {aR : Nat} {G : Nat → xC} {T : Nat × Nat} (hp0 : xNP pF)  : ∀ (lv : xL) (σ : RS) (s1 : Int32) (l1 : Int32), xg lv 0 = some (.ref aR) → xg lv 1 = some (.int l1) → ∀ res, m_giveUp_b18  σ s1 l1 = some res → xR pF (d + 2) kT288 16 2 false (some .boolean) (some (.int res.1)) (layR aR res.2 G, T) (18, lv, [.int s1, .ref aR], (layR aR σ G, T)) := by
  intro lv σ s1 l1 g0 g1 res h
  unfold m_giveUp_b18 at h
  obtain ⟨σ2, h3, h⟩ := Option.bind_eq_some_iff.mp h
  refine eR_putS lk288_18 rf_393 rfl (by decide) pf_0.1 pf_0.2 h3 ?_
  refine eE_aload_n lk288_21 g0 ?_
  refine eR_get lk288_22 rf_393 rfl ?_
  refine eE_if (t := 37) lk288_25 (by decide) (fun c4 => ?_) (fun c4 => ?_)
  · rw [if_pos c4] at h
    exact m_giveUp_b37_ok hp0  lv σ2 g0 _ h
  · rw [if_neg c4] at h
    refine eE_aload_n lk288_28 g0 ?_
    refine eR_getA lk288_29 rf_330 rfl ?_
    refine eE_iload_n lk288_32 g1 ?_
    obtain ⟨x5, h6, h⟩ := Option.bind_eq_some_iff.mp h
    refine eR_bald lk288_33 rfl (Or.inr rfl) h6 ?_
    refine eE_if (t := 39) lk288_34 (by decide) (fun c7 => ?_) (fun c7 => ?_)
    · rw [if_pos c7] at h
      refine eE_aload_n lk288_39 g0 ?_
      refine eE_iload_n lk288_40 g1 ?_
      obtain ⟨p8, h9, h⟩ := Option.bind_eq_some_iff.mp h
      refine eR_call (as := [.int l1]) lk288_41 mr_772 na_349 rfl rfl (Nat.le_of_ble_eq_true rfl) wv_349 wc_349 (m_resign_ok hp0 (d := d + 0) h9) ?_
      refine eE_iconst (v := 1) lk288_44 (by decide) ?_
      by_cases z10 : ((1 : Int32)) = 0 ∨ ((1 : Int32)) = 1
      · rw [if_pos z10] at h; cases h
        exact eE_end lk288_45 rfl rfl (by first | (simp only [xfin, if_true, if_pos z10]; done) | simp [xfin, z10])
      · rw [if_neg z10] at h; cases h
    · rw [if_neg c7] at h
      exact m_giveUp_b37_ok hp0  lv σ2 g0 _ h
def m_giveUp_b0  (σ : RS) (l1 : Int32) : Option (Int32 × RS) :=
  (m_in (l1.toInt64) ((0 : Int64)) ((7 : Int64))).bind fun p11 =>
  if xc0 .eq p11 = true then (
    m_giveUp_b18  σ ((1 : Int32)) l1
  ) else (
    m_giveUp_b18  σ ((0 : Int32)) l1
  )
set_option maxRecDepth 4000 in
theorem m_giveUp_b0_ok {pF : Nat → List Value → xH → Option (Option Value × xH)} {d : Nat} {aR : Nat} {G : Nat → xC} {T : Nat × Nat} (hp0 : xNP pF)  : ∀ (lv : xL) (σ : RS) (l1 : Int32), xg lv 0 = some (.ref aR) → xg lv 1 = some (.int l1) → ∀ res, m_giveUp_b0  σ l1 = some res → xR pF (d + 2) kT288 16 2 false (some .boolean) (some (.int res.1)) (layR aR res.2 G, T) (0, lv, [], (layR aR σ G, T)) := by
  intro lv σ l1 g0 g1 res h
  unfold m_giveUp_b0 at h
  refine eE_aload_n lk288_0 g0 ?_
  refine eE_iload_n lk288_1 g1 ?_
  refine eE_i2l lk288_2 ?_
  refine eE_lconst (v := 0) lk288_3 (by decide) ?_
  refine eE_ldc2_w (v := 7) lk288_4 xl_809 ?_
  obtain ⟨p11, h12, h⟩ := Option.bind_eq_some_iff.mp h
  refine eE_stat (as := [.long (l1.toInt64), .long ((0 : Int64)), .long ((7 : Int64))]) lk288_7 mr_799 na_294 rfl rfl (Nat.le_of_ble_eq_true rfl) mm_294 ws_294 (m_in_ok hp0 (d := d + 1) h12) ?_
  refine eE_if (t := 17) lk288_10 (by decide) (fun c13 => ?_) (fun c13 => ?_)
  · rw [if_pos c13] at h
    refine eE_iconst (v := 1) lk288_17 (by decide) ?_
    exact m_giveUp_b18_ok hp0  lv σ ((1 : Int32)) l1 g0 g1 _ h
  · rw [if_neg c13] at h
    refine eE_iconst (v := 0) lk288_13 (by decide) ?_
    refine eE_goto (t := 18) lk288_14 (by decide) ?_
    exact m_giveUp_b18_ok hp0  lv σ ((0 : Int32)) l1 g0 g1 _ h
def m_giveUp (σ : RS) (l1 : Int32) : Option (Int32 × RS) := m_giveUp_b0 σ l1
theorem m_giveUp_ok {pF : Nat → List Value → xH → Option (Option Value × xH)} (hp0 : xNP pF) {d : Nat} {aR : Nat} {G : Nat → xC} {T : Nat × Nat} {σ : RS} {l1 : Int32} {res : Int32 × RS} (h : m_giveUp σ l1 = some res) : xCo pF (d + 3) 288 [.ref aR, .int l1] (layR aR σ G, T) (some (.int res.1)) (layR aR res.2 G, T) := by
  unfold m_giveUp at h
  exact xCo_R kk_288 mo_288 ni_288 xm_288 (Nat.le_of_ble_eq_true rfl) (hp0 _ (by decide) (by decide) _ _) (m_giveUp_b0_ok hp0 _ σ l1 rfl rfl _ h)
/-! hand (289), depth 6 -/
def m_hand_b82 (F : Nat)  (σ : RS) : Option (Int32 × RS) :=
  if ((0 : Int32)) = 0 ∨ ((0 : Int32)) = 1 then some ((0 : Int32), σ) else none
set_option maxRecDepth 4000 in
theorem m_hand_b82_ok {pF : Nat → List Value → xH → Option (Option Value × xH)} {d : Nat} {aR : Nat} {G : Nat → xC} {T : Nat × Nat} {F : Nat} (hp0 : xNP pF)  : ∀ (lv : xL) (σ : RS), xg lv 0 = some (.ref aR) → ∀ res, m_hand_b82 F  σ = some res → xR pF (d + 5) kT289 16 3 false (some .boolean) (some (.int res.1)) (layR aR res.2 G, T) (82, lv, [], (layR aR σ G, T)) := by
  intro lv σ g0 res h
  unfold m_hand_b82 at h
  refine eE_iconst (v := 0) lk289_82 (by decide) ?_
  by_cases z1 : ((0 : Int32)) = 0 ∨ ((0 : Int32)) = 1
  · rw [if_pos z1] at h; cases h
    exact eE_end lk289_83 rfl rfl (by first | (simp only [xfin, if_true, if_pos z1]; done) | simp [xfin, z1])
  · rw [if_neg z1] at h; cases h
def m_hand_b142 (F : Nat)  (σ : RS) : Option (Int32 × RS) :=
  if ((1 : Int32)) = 0 ∨ ((1 : Int32)) = 1 then some ((1 : Int32), σ) else none
set_option maxRecDepth 4000 in
theorem m_hand_b142_ok {pF : Nat → List Value → xH → Option (Option Value × xH)} {d : Nat} {aR : Nat} {G : Nat → xC} {T : Nat × Nat} {F : Nat} (hp0 : xNP pF)  : ∀ (lv : xL) (σ : RS), xg lv 0 = some (.ref aR) → ∀ res, m_hand_b142 F  σ = some res → xR pF (d + 5) kT289 16 3 false (some .boolean) (some (.int res.1)) (layR aR res.2 G, T) (142, lv, [], (layR aR σ G, T)) := by
  intro lv σ g0 res h
  unfold m_hand_b142 at h
  refine eE_iconst (v := 1) lk289_142 (by decide) ?_
  by_cases z2 : ((1 : Int32)) = 0 ∨ ((1 : Int32)) = 1
  · rw [if_pos z2] at h; cases h
    exact eE_end lk289_143 rfl rfl (by first | (simp only [xfin, if_true, if_pos z2]; done) | simp [xfin, z2])
  · rw [if_neg z2] at h; cases h
def m_hand_b18 (F : Nat)  (σ : RS) (s1 : Int32) (l1 : Int32) (l2 : Int32) : Option (Int32 × RS) :=
  (some (setI σ 0 0 s1)).bind fun σ3 =>
  if xc0 .gt (σ3.1 0 0) = true then (
    m_hand_b82 F  σ3
  ) else (
    (rld σ3 52 l1).bind fun x6 =>
    if xc0 .eq x6 = true then (
      m_hand_b82 F  σ3
    ) else (
      (rld σ3 73 l1).bind fun x9 =>
      if xc2 .ne x9 ((3 : Int32)) = true then (
        m_hand_b82 F  σ3
      ) else (
        (rld σ3 80 l1).bind fun x12 =>
        if xc0 .ge x12 = true then (
          m_hand_b82 F  σ3
        ) else (
          (m_in (l2.toInt64) ((0 : Int64)) ((6 : Int64))).bind fun p15 =>
          if xc0 .eq p15 = true then (
            m_hand_b82 F  σ3
          ) else (
            if xc2 .eq l2 l1 = true then (
              m_hand_b82 F  σ3
            ) else (
              (m_isVoter σ3 l1 l2).bind fun p19 =>
              if xc0 .ne p19.1 = true then (
                (rst p19.2 80 l1 l2).bind fun σ22 =>
                (rst σ22 81 l1 ((σ22.1 1 0))).bind fun σ24 =>
                (rld σ24 87 ((((7 : Int32)) * l1) + l2)).bind fun x26 =>
                (rld σ24 56 l1).bind fun x28 =>
                if xc2 .ne x26 x28 = true then (
                  (m_send F σ24 l1 l2 ((0 : Int32))).bind fun p31 =>
                  m_hand_b142 F  p31
                ) else (
                  (m_tell F σ24 l1 l2 ((9 : Int32)) ((0 : Int32)) ((0 : Int32)) ((0 : Int32))).bind fun p33 =>
                  m_hand_b142 F  p33
                )
              ) else (
                m_hand_b82 F  p19.2
              )
            )
          )
        )
      )
    )
  )
set_option maxRecDepth 4000 in
theorem m_hand_b18_ok {pF : Nat → List Value → xH → Option (Option Value × xH)} {d : Nat} {aR : Nat} {G : Nat → xC} {T : Nat × Nat} {F : Nat} (hp0 : xNP pF)  : ∀ (lv : xL) (σ : RS) (s1 : Int32) (l1 : Int32) (l2 : Int32), xg lv 0 = some (.ref aR) → xg lv 1 = some (.int l1) → xg lv 2 = some (.int l2) → ∀ res, m_hand_b18 F  σ s1 l1 l2 = some res → xR pF (d + 5) kT289 16 3 false (some .boolean) (some (.int res.1)) (layR aR res.2 G, T) (18, lv, [.int s1, .ref aR], (layR aR σ G, T)) := by
  intro lv σ s1 l1 l2 g0 g1 g2 res h
  unfold m_hand_b18 at h
  obtain ⟨σ3, h4, h⟩ := Option.bind_eq_some_iff.mp h
  refine eR_putS lk289_18 rf_393 rfl (by decide) pf_0.1 pf_0.2 h4 ?_
  refine eE_aload_n lk289_21 g0 ?_
  refine eR_get lk289_22 rf_393 rfl ?_
  refine eE_if (t := 82) lk289_25 (by decide) (fun c5 => ?_) (fun c5 => ?_)
  · rw [if_pos c5] at h
    exact m_hand_b82_ok hp0  lv σ3 g0 _ h
  · rw [if_neg c5] at h
    refine eE_aload_n lk289_28 g0 ?_
    refine eR_getA lk289_29 rf_120 rfl ?_
    refine eE_iload_n lk289_32 g1 ?_
    obtain ⟨x6, h7, h⟩ := Option.bind_eq_some_iff.mp h
    refine eR_bald lk289_33 rfl (Or.inr rfl) h7 ?_
    refine eE_if (t := 82) lk289_34 (by decide) (fun c8 => ?_) (fun c8 => ?_)
    · rw [if_pos c8] at h
      exact m_hand_b82_ok hp0  lv σ3 g0 _ h
    · rw [if_neg c8] at h
      refine eE_aload_n lk289_37 g0 ?_
      refine eR_getA lk289_38 rf_185 rfl ?_
      refine eE_iload_n lk289_41 g1 ?_
      obtain ⟨x9, h10, h⟩ := Option.bind_eq_some_iff.mp h
      refine eR_iald lk289_42 rfl rfl h10 ?_
      refine eE_iconst (v := 3) lk289_43 (by decide) ?_
      refine eE_icmp (t := 82) lk289_44 (by decide) (fun c11 => ?_) (fun c11 => ?_)
      · rw [if_pos c11] at h
        exact m_hand_b82_ok hp0  lv σ3 g0 _ h
      · rw [if_neg c11] at h
        refine eE_aload_n lk289_47 g0 ?_
        refine eR_getA lk289_48 rf_206 rfl ?_
        refine eE_iload_n lk289_51 g1 ?_
        obtain ⟨x12, h13, h⟩ := Option.bind_eq_some_iff.mp h
        refine eR_iald lk289_52 rfl rfl h13 ?_
        refine eE_if (t := 82) lk289_53 (by decide) (fun c14 => ?_) (fun c14 => ?_)
        · rw [if_pos c14] at h
          exact m_hand_b82_ok hp0  lv σ3 g0 _ h
        · rw [if_neg c14] at h
          refine eE_iload_n lk289_56 g2 ?_
          refine eE_i2l lk289_57 ?_
          refine eE_lconst (v := 0) lk289_58 (by decide) ?_
          refine eE_ldc2_w (v := 6) lk289_59 xl_827 ?_
          obtain ⟨p15, h16, h⟩ := Option.bind_eq_some_iff.mp h
          refine eE_stat (as := [.long (l2.toInt64), .long ((0 : Int64)), .long ((6 : Int64))]) lk289_62 mr_799 na_294 rfl rfl (Nat.le_of_ble_eq_true rfl) mm_294 ws_294 (m_in_ok hp0 (d := d + 4) h16) ?_
          refine eE_if (t := 82) lk289_65 (by decide) (fun c17 => ?_) (fun c17 => ?_)
          · rw [if_pos c17] at h
            exact m_hand_b82_ok hp0  lv σ3 g0 _ h
          · rw [if_neg c17] at h
            refine eE_iload_n lk289_68 g2 ?_
            refine eE_iload_n lk289_69 g1 ?_
            refine eE_icmp (t := 82) lk289_70 (by decide) (fun c18 => ?_) (fun c18 => ?_)
            · rw [if_pos c18] at h
              exact m_hand_b82_ok hp0  lv σ3 g0 _ h
            · rw [if_neg c18] at h
              refine eE_aload_n lk289_73 g0 ?_
              refine eE_iload_n lk289_74 g1 ?_
              refine eE_iload_n lk289_75 g2 ?_
              obtain ⟨p19, h20, h⟩ := Option.bind_eq_some_iff.mp h
              refine eR_call (as := [.int l1, .int l2]) lk289_76 mr_663 na_306 rfl rfl (Nat.le_of_ble_eq_true rfl) wv_306 wc_306 (m_isVoter_ok hp0 (d := d + 2) h20) ?_
              refine eE_if (t := 84) lk289_79 (by decide) (fun c21 => ?_) (fun c21 => ?_)
              · rw [if_pos c21] at h
                refine eE_aload_n lk289_84 g0 ?_
                refine eR_getA lk289_85 rf_206 rfl ?_
                refine eE_iload_n lk289_88 g1 ?_
                refine eE_iload_n lk289_89 g2 ?_
                obtain ⟨σ22, h23, h⟩ := Option.bind_eq_some_iff.mp h
                refine eR_iast lk289_90 rfl rfl h23 ?_
                refine eE_aload_n lk289_91 g0 ?_
                refine eR_getA lk289_92 rf_209 rfl ?_
                refine eE_iload_n lk289_95 g1 ?_
                refine eE_aload_n lk289_96 g0 ?_
                refine eR_get lk289_97 rf_431 rfl ?_
                obtain ⟨σ24, h25, h⟩ := Option.bind_eq_some_iff.mp h
                refine eR_iast lk289_100 rfl rfl h25 ?_
                refine eE_aload_n lk289_101 g0 ?_
                refine eR_getA lk289_102 rf_227 rfl ?_
                refine eE_bipush (v := 7) lk289_105 (by decide) ?_
                refine eE_iload_n lk289_107 g1 ?_
                refine eE_imul lk289_108 ?_
                refine eE_iload_n lk289_109 g2 ?_
                refine eE_iadd lk289_110 ?_
                obtain ⟨x26, h27, h⟩ := Option.bind_eq_some_iff.mp h
                refine eR_iald lk289_111 rfl rfl h27 ?_
                refine eE_aload_n lk289_112 g0 ?_
                refine eR_getA lk289_113 rf_132 rfl ?_
                refine eE_iload_n lk289_116 g1 ?_
                obtain ⟨x28, h29, h⟩ := Option.bind_eq_some_iff.mp h
                refine eR_iald lk289_117 rfl rfl h29 ?_
                refine eE_icmp (t := 135) lk289_118 (by decide) (fun c30 => ?_) (fun c30 => ?_)
                · rw [if_pos c30] at h
                  refine eE_aload_n lk289_135 g0 ?_
                  refine eE_iload_n lk289_136 g1 ?_
                  refine eE_iload_n lk289_137 g2 ?_
                  refine eE_iconst (v := 0) lk289_138 (by decide) ?_
                  obtain ⟨p31, h32, h⟩ := Option.bind_eq_some_iff.mp h
                  refine eR_call (as := [.int l1, .int l2, .int ((0 : Int32))]) lk289_139 mr_686 na_354 rfl rfl (Nat.le_of_ble_eq_true rfl) wv_354 wc_354 (m_send_ok hp0 (d := d + 0) h32) ?_
                  exact m_hand_b142_ok hp0  lv p31 g0 _ h
                · rw [if_neg c30] at h
                  refine eE_aload_n lk289_121 g0 ?_
                  refine eE_iload_n lk289_122 g1 ?_
                  refine eE_iload_n lk289_123 g2 ?_
                  refine eE_bipush (v := 9) lk289_124 (by decide) ?_
                  refine eE_iconst (v := 0) lk289_126 (by decide) ?_
                  refine eE_iconst (v := 0) lk289_127 (by decide) ?_
                  refine eE_iconst (v := 0) lk289_128 (by decide) ?_
                  obtain ⟨p33, h34, h⟩ := Option.bind_eq_some_iff.mp h
                  refine eR_call (as := [.int l1, .int l2, .int ((9 : Int32)), .int ((0 : Int32)), .int ((0 : Int32)), .int ((0 : Int32))]) lk289_129 mr_746 na_369 rfl rfl (Nat.le_of_ble_eq_true rfl) wv_369 wc_369 (m_tell_ok hp0 (d := d + 0) h34) ?_
                  refine eE_goto (t := 142) lk289_132 (by decide) ?_
                  exact m_hand_b142_ok hp0  lv p33 g0 _ h
              · rw [if_neg c21] at h
                exact m_hand_b82_ok hp0  lv p19.2 g0 _ h
def m_hand_b0 (F : Nat)  (σ : RS) (l1 : Int32) (l2 : Int32) : Option (Int32 × RS) :=
  (m_in (l1.toInt64) ((0 : Int64)) ((6 : Int64))).bind fun p35 =>
  if xc0 .eq p35 = true then (
    m_hand_b18 F  σ ((1 : Int32)) l1 l2
  ) else (
    m_hand_b18 F  σ ((0 : Int32)) l1 l2
  )
set_option maxRecDepth 4000 in
theorem m_hand_b0_ok {pF : Nat → List Value → xH → Option (Option Value × xH)} {d : Nat} {aR : Nat} {G : Nat → xC} {T : Nat × Nat} {F : Nat} (hp0 : xNP pF)  : ∀ (lv : xL) (σ : RS) (l1 : Int32) (l2 : Int32), xg lv 0 = some (.ref aR) → xg lv 1 = some (.int l1) → xg lv 2 = some (.int l2) → ∀ res, m_hand_b0 F  σ l1 l2 = some res → xR pF (d + 5) kT289 16 3 false (some .boolean) (some (.int res.1)) (layR aR res.2 G, T) (0, lv, [], (layR aR σ G, T)) := by
  intro lv σ l1 l2 g0 g1 g2 res h
  unfold m_hand_b0 at h
  refine eE_aload_n lk289_0 g0 ?_
  refine eE_iload_n lk289_1 g1 ?_
  refine eE_i2l lk289_2 ?_
  refine eE_lconst (v := 0) lk289_3 (by decide) ?_
  refine eE_ldc2_w (v := 6) lk289_4 xl_827 ?_
  obtain ⟨p35, h36, h⟩ := Option.bind_eq_some_iff.mp h
  refine eE_stat (as := [.long (l1.toInt64), .long ((0 : Int64)), .long ((6 : Int64))]) lk289_7 mr_799 na_294 rfl rfl (Nat.le_of_ble_eq_true rfl) mm_294 ws_294 (m_in_ok hp0 (d := d + 4) h36) ?_
  refine eE_if (t := 17) lk289_10 (by decide) (fun c37 => ?_) (fun c37 => ?_)
  · rw [if_pos c37] at h
    refine eE_iconst (v := 1) lk289_17 (by decide) ?_
    exact m_hand_b18_ok hp0  lv σ ((1 : Int32)) l1 l2 g0 g1 g2 _ h
  · rw [if_neg c37] at h
    refine eE_iconst (v := 0) lk289_13 (by decide) ?_
    refine eE_goto (t := 18) lk289_14 (by decide) ?_
    exact m_hand_b18_ok hp0  lv σ ((0 : Int32)) l1 l2 g0 g1 g2 _ h
def m_hand (F : Nat) (σ : RS) (l1 : Int32) (l2 : Int32) : Option (Int32 × RS) := m_hand_b0 F σ l1 l2
theorem m_hand_ok {pF : Nat → List Value → xH → Option (Option Value × xH)} (hp0 : xNP pF) {d : Nat} {aR : Nat} {G : Nat → xC} {T : Nat × Nat} {σ : RS} {F : Nat} {l1 : Int32} {l2 : Int32} {res : Int32 × RS} (h : m_hand F σ l1 l2 = some res) : xCo pF (d + 6) 289 [.ref aR, .int l1, .int l2] (layR aR σ G, T) (some (.int res.1)) (layR aR res.2 G, T) := by
  unfold m_hand at h
  exact xCo_R kk_289 mo_289 ni_289 xm_289 (Nat.le_of_ble_eq_true rfl) (hp0 _ (by decide) (by decide) _ _) (m_hand_b0_ok hp0 _ σ l1 l2 rfl rfl rfl _ h)
