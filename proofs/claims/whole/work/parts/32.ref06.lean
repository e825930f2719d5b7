/-! printed by wip/whole/gen_ref.py -/
/-! isAsNew (299), depth 3 -/
def m_isAsNew_b40  (σ : RS) (s0 : Int32) : Option (Int32 × RS) :=
  if s0 = 0 ∨ s0 = 1 then some (s0, σ) else none
set_option maxRecDepth 4000 in
theorem m_isAsNew_b40_ok {pF : Nat → List Value → xH → Option (Option Value × xH)} {d : Nat} {aR : Nat} {G : Nat → xC} {T : Nat × Nat} (hp0 : xNP pF)  : ∀ (lv : xL) (σ : RS) (s0 : Int32), xg lv 0 = some (.ref aR) → ∀ res, m_isAsNew_b40  σ s0 = some res → xR pF (d + 2) kT299 16 5 false (some .boolean) (some (.int res.1)) (layR aR res.2 G, T) (40, lv, [.int s0], (layR aR σ G, T)) := by
  intro lv σ s0 g0 res h
  unfold m_isAsNew_b40 at h
  by_cases z1 : s0 = 0 ∨ s0 = 1
  · rw [if_pos z1] at h; cases h
    exact eE_end lk299_40 rfl rfl (by first | (simp only [xfin, if_true, if_pos z1]; done) | simp [xfin, z1])
  · rw [if_neg z1] at h; cases h
def m_isAsNew_b35  (σ : RS) : Option (Int32 × RS) :=
  m_isAsNew_b40  σ ((1 : Int32))
set_option maxRecDepth 4000 in
theorem m_isAsNew_b35_ok {pF : Nat → List Value → xH → Option (Option Value × xH)} {d : Nat} {aR : Nat} {G : Nat → xC} {T : Nat × Nat} (hp0 : xNP pF)  : ∀ (lv : xL) (σ : RS), xg lv 0 = some (.ref aR) → ∀ res, m_isAsNew_b35  σ = some res → xR pF (d + 2) kT299 16 5 false (some .boolean) (some (.int res.1)) (layR aR res.2 G, T) (35, lv, [], (layR aR σ G, T)) := by
  intro lv σ g0 res h
  unfold m_isAsNew_b35 at h
  refine eE_iconst (v := 1) lk299_35 (by decide) ?_
  refine eE_goto (t := 40) lk299_36 (by decide) ?_
  exact m_isAsNew_b40_ok hp0  lv σ ((1 : Int32)) g0 _ h
def m_isAsNew_b39  (σ : RS) : Option (Int32 × RS) :=
  m_isAsNew_b40  σ ((0 : Int32))
set_option maxRecDepth 4000 in
theorem m_isAsNew_b39_ok {pF : Nat → List Value → xH → Option (Option Value × xH)} {d : Nat} {aR : Nat} {G : Nat → xC} {T : Nat × Nat} (hp0 : xNP pF)  : ∀ (lv : xL) (σ : RS), xg lv 0 = some (.ref aR) → ∀ res, m_isAsNew_b39  σ = some res → xR pF (d + 2) kT299 16 5 false (some .boolean) (some (.int res.1)) (layR aR res.2 G, T) (39, lv, [], (layR aR σ G, T)) := by
  intro lv σ g0 res h
  unfold m_isAsNew_b39 at h
  refine eE_iconst (v := 0) lk299_39 (by decide) ?_
  exact m_isAsNew_b40_ok hp0  lv σ ((0 : Int32)) g0 _ h
def m_isAsNew_b0  (σ : RS) (l1 : Int32) (l2 : Int32) (l3 : Int32) : Option (Int32 × RS) :=
  (rld σ 56 l1).bind fun x2 =>
  (m_termAt σ l1 x2).bind fun p4 =>
  if xc2 .gt l3 p4.1 = true then (
    m_isAsNew_b35  p4.2
  ) else (
    if xc2 .ne l3 p4.1 = true then (
      m_isAsNew_b39  p4.2
    ) else (
      (rld p4.2 56 l1).bind fun x15 =>
      if xc2 .lt l2 x15 = true then (
        m_isAsNew_b39  p4.2
      ) else (
        m_isAsNew_b35  p4.2
      )
    )
  )
set_option maxRecDepth 4000 in
theorem m_isAsNew_b0_ok {pF : Nat → List Value → xH → Option (Option Value × xH)} {d : Nat} {aR : Nat} {G : Nat → xC} {T : Nat × Nat} (hp0 : xNP pF)  : ∀ (lv : xL) (σ : RS) (l1 : Int32) (l2 : Int32) (l3 : Int32), xg lv 0 = some (.ref aR) → xg lv 1 = some (.int l1) → xg lv 2 = some (.int l2) → xg lv 3 = some (.int l3) → ∀ res, m_isAsNew_b0  σ l1 l2 l3 = some res → xR pF (d + 2) kT299 16 5 false (some .boolean) (some (.int res.1)) (layR aR res.2 G, T) (0, lv, [], (layR aR σ G, T)) := by
  intro lv σ l1 l2 l3 g0 g1 g2 g3 res h
  unfold m_isAsNew_b0 at h
  refine eE_aload_n lk299_0 g0 ?_
  refine eE_iload_n lk299_1 g1 ?_
  refine eE_aload_n lk299_2 g0 ?_
  refine eR_getA lk299_3 rf_132 rfl ?_
  refine eE_iload_n lk299_6 g1 ?_
  obtain ⟨x2, h3, h⟩ := Option.bind_eq_some_iff.mp h
  refine eR_iald lk299_7 rfl rfl h3 ?_
  obtain ⟨p4, h5, h⟩ := Option.bind_eq_some_iff.mp h
  refine eR_call (as := [.int l1, .int x2]) lk299_8 mr_524 na_372 rfl rfl (Nat.le_of_ble_eq_true rfl) wv_372 wc_372 (m_termAt_ok hp0 (d := d + 0) h5) ?_
  refine eE_stI (j := 4) lk299_11 (Or.inl rfl) (by decide) (fun vq6 gq7 kq8 => ?_)
  have gq9 := kq8 1 _ (by decide) (fun _ => rfl) g1
  have gq10 := kq8 2 _ (by decide) (fun _ => rfl) g2
  have gq11 := kq8 3 _ (by decide) (fun _ => rfl) g3
  have gq12 := kq8 0 _ (by decide) (fun _ => rfl) g0
  refine eE_iload_n lk299_13 gq11 ?_
  refine eE_iload lk299_14 gq7 ?_
  refine eE_icmp (t := 35) lk299_16 (by decide) (fun c13 => ?_) (fun c13 => ?_)
  · rw [if_pos c13] at h
    exact m_isAsNew_b35_ok hp0  vq6 p4.2 gq12 _ h
  · rw [if_neg c13] at h
    refine eE_iload_n lk299_19 gq11 ?_
    refine eE_iload lk299_20 gq7 ?_
    refine eE_icmp (t := 39) lk299_22 (by decide) (fun c14 => ?_) (fun c14 => ?_)
    · rw [if_pos c14] at h
      exact m_isAsNew_b39_ok hp0  vq6 p4.2 gq12 _ h
    · rw [if_neg c14] at h
      refine eE_iload_n lk299_25 gq10 ?_
      refine eE_aload_n lk299_26 gq12 ?_
      refine eR_getA lk299_27 rf_132 rfl ?_
      refine eE_iload_n lk299_30 gq9 ?_
      obtain ⟨x15, h16, h⟩ := Option.bind_eq_some_iff.mp h
      refine eR_iald lk299_31 rfl rfl h16 ?_
      refine eE_icmp (t := 39) lk299_32 (by decide) (fun c17 => ?_) (fun c17 => ?_)
      · rw [if_pos c17] at h
        exact m_isAsNew_b39_ok hp0  vq6 p4.2 gq12 _ h
      · rw [if_neg c17] at h
        exact m_isAsNew_b35_ok hp0  vq6 p4.2 gq12 _ h
def m_isAsNew (σ : RS) (l1 : Int32) (l2 : Int32) (l3 : Int32) : Option (Int32 × RS) := m_isAsNew_b0 σ l1 l2 l3
theorem m_isAsNew_ok {pF : Nat → List Value → xH → Option (Option Value × xH)} (hp0 : xNP pF) {d : Nat} {aR : Nat} {G : Nat → xC} {T : Nat × Nat} {σ : RS} {l1 : Int32} {l2 : Int32} {l3 : Int32} {res : Int32 × RS} (h : m_isAsNew σ l1 l2 l3 = some res) : xCo pF (d + 3) 299 [.ref aR, .int l1, .int l2, .int l3] (layR aR σ G, T) (some (.int res.1)) (layR aR res.2 G, T) := by
  unfold m_isAsNew at h
  exact xCo_R kk_299 mo_299 ni_299 xm_299 (Nat.le_of_ble_eq_true rfl) (hp0 _ (by decide) (by decide) _ _) (m_isAsNew_b0_ok hp0 _ σ l1 l2 l3 rfl rfl rfl rfl _ h)
/-! isVoter (306), depth 3 -/
def m_isVoter_b18  (σ : RS) (s0 : Int32) : Option (Int32 × RS) :=
  if s0 = 0 ∨ s0 = 1 then some (s0, σ) else none
set_option maxRecDepth 4000 in
theorem m_isVoter_b18_ok {pF : Nat → List Value → xH → Option (Option Value × xH)} {d : Nat} {aR : Nat} {G : Nat → xC} {T : Nat × Nat} (hp0 : xNP pF)  : ∀ (lv : xL) (σ : RS) (s0 : Int32), xg lv 0 = some (.ref aR) → ∀ res, m_isVoter_b18  σ s0 = some res → xR pF (d + 2) kT306 16 3 false (some .boolean) (some (.int res.1)) (layR aR res.2 G, T) (18, lv, [.int s0], (layR aR σ G, T)) := by
  intro lv σ s0 g0 res h
  unfold m_isVoter_b18 at h
  by_cases z1 : s0 = 0 ∨ s0 = 1
  · rw [if_pos z1] at h; cases h
    exact eE_end lk306_18 rfl rfl (by first | (simp only [xfin, if_true, if_pos z1]; done) | simp [xfin, z1])
  · rw [if_neg z1] at h; cases h
def m_isVoter_b0  (σ : RS) (l1 : Int32) (l2 : Int32) : Option (Int32 × RS) :=
  (m_voters σ l1).bind fun p2 =>
  if xc2 .ne ((p2.1 >>> (l2 &&& 31)) &&& ((1 : Int32))) ((1 : Int32)) = true then (
    m_isVoter_b18  p2.2 ((0 : Int32))
  ) else (
    m_isVoter_b18  p2.2 ((1 : Int32))
  )
set_option maxRecDepth 4000 in
theorem m_isVoter_b0_ok {pF : Nat → List Value → xH → Option (Option Value × xH)} {d : Nat} {aR : Nat} {G : Nat → xC} {T : Nat × Nat} (hp0 : xNP pF)  : ∀ (lv : xL) (σ : RS) (l1 : Int32) (l2 : Int32), xg lv 0 = some (.ref aR) → xg lv 1 = some (.int l1) → xg lv 2 = some (.int l2) → ∀ res, m_isVoter_b0  σ l1 l2 = some res → xR pF (d + 2) kT306 16 3 false (some .boolean) (some (.int res.1)) (layR aR res.2 G, T) (0, lv, [], (layR aR σ G, T)) := by
  intro lv σ l1 l2 g0 g1 g2 res h
  unfold m_isVoter_b0 at h
  refine eE_aload_n lk306_0 g0 ?_
  refine eE_iload_n lk306_1 g1 ?_
  obtain ⟨p2, h3, h⟩ := Option.bind_eq_some_iff.mp h
  refine eR_call (as := [.int l1]) lk306_2 mr_628 na_380 rfl rfl (Nat.le_of_ble_eq_true rfl) wv_380 wc_380 (m_voters_ok hp0 (d := d + 0) h3) ?_
  refine eE_iload_n lk306_5 g2 ?_
  refine eE_ishr lk306_6 ?_
  refine eE_iconst (v := 1) lk306_7 (by decide) ?_
  refine eE_iand lk306_8 ?_
  refine eE_iconst (v := 1) lk306_9 (by decide) ?_
  refine eE_icmp (t := 17) lk306_10 (by decide) (fun c4 => ?_) (fun c4 => ?_)
  · rw [if_pos c4] at h
    refine eE_iconst (v := 0) lk306_17 (by decide) ?_
    exact m_isVoter_b18_ok hp0  lv p2.2 ((0 : Int32)) g0 _ h
  · rw [if_neg c4] at h
    refine eE_iconst (v := 1) lk306_13 (by decide) ?_
    refine eE_goto (t := 18) lk306_14 (by decide) ?_
    exact m_isVoter_b18_ok hp0  lv p2.2 ((1 : Int32)) g0 _ h
def m_isVoter (σ : RS) (l1 : Int32) (l2 : Int32) : Option (Int32 × RS) := m_isVoter_b0 σ l1 l2
theorem m_isVoter_ok {pF : Nat → List Value → xH → Option (Option Value × xH)} (hp0 : xNP pF) {d : Nat} {aR : Nat} {G : Nat → xC} {T : Nat × Nat} {σ : RS} {l1 : Int32} {l2 : Int32} {res : Int32 × RS} (h : m_isVoter σ l1 l2 = some res) : xCo pF (d + 3) 306 [.ref aR, .int l1, .int l2] (layR aR σ G, T) (some (.int res.1)) (layR aR res.2 G, T) := by
  unfold m_isVoter at h
  exact xCo_R kk_306 mo_306 ni_306 xm_306 (Nat.le_of_ble_eq_true rfl) (hp0 _ (by decide) (by decide) _ _) (m_isVoter_b0_ok hp0 _ σ l1 l2 rfl rfl rfl _ h)
/-! lead (318), depth 8 -/
def m_lead_b55 (F : Nat)  : Nat → RS → Int32 → Int32 → Option (RS)
  | 0, _, _, _ => none
  | n + 1, σ, l1, l2 =>
    let KK := m_lead_b55 F  n
    if xc2 .ge l2 ((7 : Int32)) = true then (
      (rst σ 83 l1 (((0 : Int32)))).bind fun σ2 =>
      (rld σ2 56 l1).bind fun x4 =>
      (rst σ2 82 l1 ((x4 + ((1 : Int32))))).bind fun σ6 =>
      (rld σ6 53 l1).bind fun x8 =>
      (m_append F σ6 l1 x8 ((0 : Int32)) ((0 : Int32))).bind fun p10 =>
      (m_beat F p10 l1).bind fun p12 =>
      some p12
    ) else (
      (rld σ 56 l1).bind fun x20 =>
      (rst σ 86 ((((7 : Int32)) * l1) + l2) ((x20 + ((1 : Int32))))).bind fun σ22 =>
      (rst σ22 87 ((((7 : Int32)) * l1) + l2) (((0 : Int32)))).bind fun σ24 =>
      (rst σ24 88 ((((7 : Int32)) * l1) + l2) (((0 : Int32)))).bind fun σ26 =>
      (rst σ26 90 ((((7 : Int32)) * l1) + l2) (((0 : Int32)))).bind fun σ28 =>
      (rst σ28 91 ((((7 : Int32)) * l1) + l2) (((0 : Int32)))).bind fun σ30 =>
      (rst σ30 89 ((((7 : Int32)) * l1) + l2) ((((1 : Int32)) &&& 1))).bind fun σ32 =>
      (rst σ32 92 ((((7 : Int32)) * l1) + l2) ((σ32.1 1 0))).bind fun σ34 =>
      (rst σ34 93 ((((7 : Int32)) * l1) + l2) ((((0 : Int32)) &&& 1))).bind fun σ36 =>
      KK σ36 l1 (l2 + (1 : Int32))
    )
set_option maxRecDepth 4000 in
theorem m_lead_b55_ok {pF : Nat → List Value → xH → Option (Option Value × xH)} {d : Nat} {aR : Nat} {G : Nat → xC} {T : Nat × Nat} {F : Nat} (hp0 : xNP pF)  : ∀ (n : Nat) (lv : xL) (σ : RS) (l1 : Int32) (l2 : Int32), xg lv 0 = some (.ref aR) → xg lv 1 = some (.int l1) → xg lv 2 = some (.int l2) → ∀ res, m_lead_b55 F  n σ l1 l2 = some res → xR pF (d + 7) kT318 16 4 false none none (layR aR res G, T) (55, lv, [], (layR aR σ G, T)) := by
  intro n
  induction n with
  | zero => intro lv σ l1 l2 g0 g1 g2 res h; simp [m_lead_b55] at h
  | succ n hKK =>
    intro lv σ l1 l2 g0 g1 g2 res h
    unfold m_lead_b55 at h
    dsimp only at h
    refine eE_iload_n lk318_55 g2 ?_
    refine eE_bipush (v := 7) lk318_56 (by decide) ?_
    refine eE_icmp (t := 140) lk318_58 (by decide) (fun c1 => ?_) (fun c1 => ?_)
    · rw [if_pos c1] at h
      refine eE_aload_n lk318_140 g0 ?_
      refine eR_getA lk318_141 rf_215 rfl ?_
      refine eE_iload_n lk318_144 g1 ?_
      refine eE_iconst (v := 0) lk318_145 (by decide) ?_
      obtain ⟨σ2, h3, h⟩ := Option.bind_eq_some_iff.mp h
      refine eR_iast lk318_146 rfl rfl h3 ?_
      refine eE_aload_n lk318_147 g0 ?_
      refine eR_getA lk318_148 rf_212 rfl ?_
      refine eE_iload_n lk318_151 g1 ?_
      refine eE_aload_n lk318_152 g0 ?_
      refine eR_getA lk318_153 rf_132 rfl ?_
      refine eE_iload_n lk318_156 g1 ?_
      obtain ⟨x4, h5, h⟩ := Option.bind_eq_some_iff.mp h
      refine eR_iald lk318_157 rfl rfl h5 ?_
      refine eE_iconst (v := 1) lk318_158 (by decide) ?_
      refine eE_iadd lk318_159 ?_
      obtain ⟨σ6, h7, h⟩ := Option.bind_eq_some_iff.mp h
      refine eR_iast lk318_160 rfl rfl h7 ?_
      refine eE_aload_n lk318_161 g0 ?_
      refine eE_iload_n lk318_162 g1 ?_
      refine eE_aload_n lk318_163 g0 ?_
      refine eR_getA lk318_164 rf_123 rfl ?_
      refine eE_iload_n lk318_167 g1 ?_
      obtain ⟨x8, h9, h⟩ := Option.bind_eq_some_iff.mp h
      refine eR_iald lk318_168 rfl rfl h9 ?_
      refine eE_iconst (v := 0) lk318_169 (by decide) ?_
      refine eE_iconst (v := 0) lk318_170 (by decide) ?_
      obtain ⟨p10, h11, h⟩ := Option.bind_eq_some_iff.mp h
      refine eR_call (as := [.int l1, .int x8, .int ((0 : Int32)), .int ((0 : Int32))]) lk318_171 mr_672 na_244 rfl rfl (Nat.le_of_ble_eq_true rfl) wv_244 wc_244 (m_append_ok hp0 (d := d + 3) h11) ?_
      refine eE_aload_n lk318_174 g0 ?_
      refine eE_iload_n lk318_175 g1 ?_
      obtain ⟨p12, h13, h⟩ := Option.bind_eq_some_iff.mp h
      refine eR_call (as := [.int l1]) lk318_176 mr_660 na_251 rfl rfl (Nat.le_of_ble_eq_true rfl) wv_251 wc_251 (m_beat_ok hp0 (d := d + 0) h13) ?_
      cases h
      exact eE_end lk318_179 rfl rfl rfl
    · rw [if_neg c1] at h
      refine eE_bipush (v := 7) lk318_61 (by decide) ?_
      refine eE_iload_n lk318_63 g1 ?_
      refine eE_imul lk318_64 ?_
      refine eE_iload_n lk318_65 g2 ?_
      refine eE_iadd lk318_66 ?_
      refine eE_stI (j := 3) lk318_67 (Or.inr ⟨_, rfl, rfl⟩) (by decide) (fun vq14 gq15 kq16 => ?_)
      have gq17 := kq16 1 _ (by decide) (fun _ => rfl) g1
      have gq18 := kq16 2 _ (by decide) (fun _ => rfl) g2
      have gq19 := kq16 0 _ (by decide) (fun _ => rfl) g0
      refine eE_aload_n lk318_68 gq19 ?_
      refine eR_getA lk318_69 rf_224 rfl ?_
      refine eE_iload_n lk318_72 gq15 ?_
      refine eE_aload_n lk318_73 gq19 ?_
      refine eR_getA lk318_74 rf_132 rfl ?_
      refine eE_iload_n lk318_77 gq17 ?_
      obtain ⟨x20, h21, h⟩ := Option.bind_eq_some_iff.mp h
      refine eR_iald lk318_78 rfl rfl h21 ?_
      refine eE_iconst (v := 1) lk318_79 (by decide) ?_
      refine eE_iadd lk318_80 ?_
      obtain ⟨σ22, h23, h⟩ := Option.bind_eq_some_iff.mp h
      refine eR_iast lk318_81 rfl rfl h23 ?_
      refine eE_aload_n lk318_82 gq19 ?_
      refine eR_getA lk318_83 rf_227 rfl ?_
      refine eE_iload_n lk318_86 gq15 ?_
      refine eE_iconst (v := 0) lk318_87 (by decide) ?_
      obtain ⟨σ24, h25, h⟩ := Option.bind_eq_some_iff.mp h
      refine eR_iast lk318_88 rfl rfl h25 ?_
      refine eE_aload_n lk318_89 gq19 ?_
      refine eR_getA lk318_90 rf_230 rfl ?_
      refine eE_iload_n lk318_93 gq15 ?_
      refine eE_iconst (v := 0) lk318_94 (by decide) ?_
      obtain ⟨σ26, h27, h⟩ := Option.bind_eq_some_iff.mp h
      refine eR_iast lk318_95 rfl rfl h27 ?_
      refine eE_aload_n lk318_96 gq19 ?_
      refine eR_getA lk318_97 rf_236 rfl ?_
      refine eE_iload_n lk318_100 gq15 ?_
      refine eE_iconst (v := 0) lk318_101 (by decide) ?_
      obtain ⟨σ28, h29, h⟩ := Option.bind_eq_some_iff.mp h
      refine eR_iast lk318_102 rfl rfl h29 ?_
      refine eE_aload_n lk318_103 gq19 ?_
      refine eR_getA lk318_104 rf_239 rfl ?_
      refine eE_iload_n lk318_107 gq15 ?_
      refine eE_iconst (v := 0) lk318_108 (by decide) ?_
      obtain ⟨σ30, h31, h⟩ := Option.bind_eq_some_iff.mp h
      refine eR_iast lk318_109 rfl rfl h31 ?_
      refine eE_aload_n lk318_110 gq19 ?_
      refine eR_getA lk318_111 rf_233 rfl ?_
      refine eE_iload_n lk318_114 gq15 ?_
      refine eE_iconst (v := 1) lk318_115 (by decide) ?_
      obtain ⟨σ32, h33, h⟩ := Option.bind_eq_some_iff.mp h
      refine eR_zast lk318_116 rfl rfl rfl h33 ?_
      refine eE_aload_n lk318_117 gq19 ?_
      refine eR_getA lk318_118 rf_242 rfl ?_
      refine eE_iload_n lk318_121 gq15 ?_
      refine eE_aload_n lk318_122 gq19 ?_
      refine eR_get lk318_123 rf_431 rfl ?_
      obtain ⟨σ34, h35, h⟩ := Option.bind_eq_some_iff.mp h
      refine eR_iast lk318_126 rfl rfl h35 ?_
      refine eE_aload_n lk318_127 gq19 ?_
      refine eR_getA lk318_128 rf_245 rfl ?_
      refine eE_iload_n lk318_131 gq15 ?_
      refine eE_iconst (v := 0) lk318_132 (by decide) ?_
      obtain ⟨σ36, h37, h⟩ := Option.bind_eq_some_iff.mp h
      refine eR_zast lk318_133 rfl rfl rfl h37 ?_
      refine eE_inc (j := 2) (v := l2 + (1 : Int32)) lk318_134 gq18 rfl (by decide) (fun vq38 gq39 kq40 => ?_)
      have gq41 := kq40 1 _ (by decide) (fun _ => rfl) gq17
      have gq42 := kq40 0 _ (by decide) (fun _ => rfl) gq19
      refine eE_goto (t := 55) lk318_137 (by decide) ?_
      exact hKK vq38 σ36 l1 (l2 + (1 : Int32)) gq42 gq41 gq39 _ h
def m_lead_b0 (F : Nat)  (σ : RS) (l1 : Int32) : Option (RS) :=
  (rld σ 56 l1).bind fun x43 =>
  (rld σ 55 l1).bind fun x45 =>
  if xc2 .lt (x43 - x45) ((300 : Int32)) = true then (
    (rst σ 73 l1 (((3 : Int32)))).bind fun σ48 =>
    (rst σ48 74 l1 l1).bind fun σ50 =>
    (rst σ50 80 l1 (((-1 : Int32)))).bind fun σ52 =>
    m_lead_b55 F  F σ52 l1 ((0 : Int32))
  ) else (
    (rld σ 53 l1).bind fun x59 =>
    (m_stepDown F σ l1 x59 ((-1 : Int32))).bind fun p61 =>
    some p61
  )
set_option maxRecDepth 4000 in
theorem m_lead_b0_ok {pF : Nat → List Value → xH → Option (Option Value × xH)} {d : Nat} {aR : Nat} {G : Nat → xC} {T : Nat × Nat} {F : Nat} (hp0 : xNP pF)  : ∀ (lv : xL) (σ : RS) (l1 : Int32), xg lv 0 = some (.ref aR) → xg lv 1 = some (.int l1) → ∀ res, m_lead_b0 F  σ l1 = some res → xR pF (d + 7) kT318 16 4 false none none (layR aR res G, T) (0, lv, [], (layR aR σ G, T)) := by
  intro lv σ l1 g0 g1 res h
  unfold m_lead_b0 at h
  refine eE_aload_n lk318_0 g0 ?_
  refine eR_getA lk318_1 rf_132 rfl ?_
  refine eE_iload_n lk318_4 g1 ?_
  obtain ⟨x43, h44, h⟩ := Option.bind_eq_some_iff.mp h
  refine eR_iald lk318_5 rfl rfl h44 ?_
  refine eE_aload_n lk318_6 g0 ?_
  refine eR_getA lk318_7 rf_129 rfl ?_
  refine eE_iload_n lk318_10 g1 ?_
  obtain ⟨x45, h46, h⟩ := Option.bind_eq_some_iff.mp h
  refine eR_iald lk318_11 rfl rfl h46 ?_
  refine eE_isub lk318_12 ?_
  refine eE_sipush (v := 300) lk318_13 (by decide) ?_
  refine eE_icmp (t := 32) lk318_16 (by decide) (fun c47 => ?_) (fun c47 => ?_)
  · rw [if_pos c47] at h
    refine eE_aload_n lk318_32 g0 ?_
    refine eR_getA lk318_33 rf_185 rfl ?_
    refine eE_iload_n lk318_36 g1 ?_
    refine eE_iconst (v := 3) lk318_37 (by decide) ?_
    obtain ⟨σ48, h49, h⟩ := Option.bind_eq_some_iff.mp h
    refine eR_iast lk318_38 rfl rfl h49 ?_
    refine eE_aload_n lk318_39 g0 ?_
    refine eR_getA lk318_40 rf_188 rfl ?_
    refine eE_iload_n lk318_43 g1 ?_
    refine eE_iload_n lk318_44 g1 ?_
    obtain ⟨σ50, h51, h⟩ := Option.bind_eq_some_iff.mp h
    refine eR_iast lk318_45 rfl rfl h51 ?_
    refine eE_aload_n lk318_46 g0 ?_
    refine eR_getA lk318_47 rf_206 rfl ?_
    refine eE_iload_n lk318_50 g1 ?_
    refine eE_iconst (v := (-1)) lk318_51 (by decide) ?_
    obtain ⟨σ52, h53, h⟩ := Option.bind_eq_some_iff.mp h
    refine eR_iast lk318_52 rfl rfl h53 ?_
    refine eE_iconst (v := 0) lk318_53 (by decide) ?_
    refine eE_stI (j := 2) lk318_54 (Or.inr ⟨_, rfl, rfl⟩) (by decide) (fun vq54 gq55 kq56 => ?_)
    have gq57 := kq56 1 _ (by decide) (fun _ => rfl) g1
    have gq58 := kq56 0 _ (by decide) (fun _ => rfl) g0
    exact m_lead_b55_ok hp0  F vq54 σ52 l1 ((0 : Int32)) gq58 gq57 gq55 _ h
  · rw [if_neg c47] at h
    refine eE_aload_n lk318_19 g0 ?_
    refine eE_iload_n lk318_20 g1 ?_
    refine eE_aload_n lk318_21 g0 ?_
    refine eR_getA lk318_22 rf_123 rfl ?_
    refine eE_iload_n lk318_25 g1 ?_
    obtain ⟨x59, h60, h⟩ := Option.bind_eq_some_iff.mp h
    refine eR_iald lk318_26 rfl rfl h60 ?_
    refine eE_iconst (v := (-1)) lk318_27 (by decide) ?_
    obtain ⟨p61, h62, h⟩ := Option.bind_eq_some_iff.mp h
    refine eR_call (as := [.int l1, .int x59, .int ((-1 : Int32))]) lk318_28 mr_657 na_363 rfl rfl (Nat.le_of_ble_eq_true rfl) wv_363 wc_363 (m_stepDown_ok hp0 (d := d + 2) h62) ?_
    cases h
    exact eE_end lk318_31 rfl rfl rfl
def m_lead (F : Nat) (σ : RS) (l1 : Int32) : Option (RS) := m_lead_b0 F σ l1
theorem m_lead_ok {pF : Nat → List Value → xH → Option (Option Value × xH)} (hp0 : xNP pF) {d : Nat} {aR : Nat} {G : Nat → xC} {T : Nat × Nat} {σ : RS} {F : Nat} {l1 : Int32} {res : RS} (h : m_lead F σ l1 = some res) : xCo pF (d + 8) 318 [.ref aR, .int l1] (layR aR σ G, T) none (layR aR res G, T) := by
  unfold m_lead at h
  exact xCo_R kk_318 mo_318 ni_318 xm_318 (Nat.le_of_ble_eq_true rfl) (hp0 _ (by decide) (by decide) _ _) (m_lead_b0_ok hp0 _ σ l1 rfl rfl _ h)
/-! cutLog (269), depth 4 -/
def m_cutLog_b72 (F : Nat) (K2 : RS → Int32 → Int32 → Int32 → Option (RS)) (σ : RS) (s0 : Int32) (l1 : Int32) (l2 : Int32) : Option (RS) :=
  (rld σ 49 l1).bind fun x7 =>
  (rld σ 50 ((((12 : Int32)) * l1) + x7)).bind fun x9 =>
  (m_removeFile σ l1 x9).bind fun p11 =>
  K2 p11 l1 l2 s0
set_option maxRecDepth 4000 in
theorem m_cutLog_b72_ok {pF : Nat → List Value → xH → Option (Option Value × xH)} {d : Nat} {aR : Nat} {G : Nat → xC} {T : Nat × Nat} {F : Nat} {K2 : RS → Int32 → Int32 → Int32 → Option (RS)} (hp0 : xNP pF) (hK2 : ∀ (lv : xL) (σ : RS) (l1 : Int32) (l2 : Int32) (l3 : Int32), xg lv 0 = some (.ref aR) → xg lv 1 = some (.int l1) → xg lv 2 = some (.int l2) → xg lv 3 = some (.int l3) → ∀ res, K2 σ l1 l2 l3 = some res → xR pF (d + 3) kT269 16 4 false none none (layR aR res G, T) (2, lv, [], (layR aR σ G, T))) : ∀ (lv : xL) (σ : RS) (s0 : Int32) (l1 : Int32) (l2 : Int32), xg lv 0 = some (.ref aR) → xg lv 1 = some (.int l1) → xg lv 2 = some (.int l2) → ∀ res, m_cutLog_b72 F K2 σ s0 l1 l2 = some res → xR pF (d + 3) kT269 16 4 false none none (layR aR res G, T) (72, lv, [.int s0], (layR aR σ G, T)) := by
  intro lv σ s0 l1 l2 g0 g1 g2 res h
  unfold m_cutLog_b72 at h
  refine eE_stI (j := 3) lk269_72 (Or.inr ⟨_, rfl, rfl⟩) (by decide) (fun vq1 gq2 kq3 => ?_)
  have gq4 := kq3 1 _ (by decide) (fun _ => rfl) g1
  have gq5 := kq3 2 _ (by decide) (fun _ => rfl) g2
  have gq6 := kq3 0 _ (by decide) (fun _ => rfl) g0
  refine eE_aload_n lk269_73 gq6 ?_
  refine eE_iload_n lk269_74 gq4 ?_
  refine eE_aload_n lk269_75 gq6 ?_
  refine eR_getA lk269_76 rf_114 rfl ?_
  refine eE_bipush (v := 12) lk269_79 (by decide) ?_
  refine eE_iload_n lk269_81 gq4 ?_
  refine eE_imul lk269_82 ?_
  refine eE_aload_n lk269_83 gq6 ?_
  refine eR_getA lk269_84 rf_111 rfl ?_
  refine eE_iload_n lk269_87 gq4 ?_
  obtain ⟨x7, h8, h⟩ := Option.bind_eq_some_iff.mp h
  refine eR_iald lk269_88 rfl rfl h8 ?_
  refine eE_iadd lk269_89 ?_
  obtain ⟨x9, h10, h⟩ := Option.bind_eq_some_iff.mp h
  refine eR_iald lk269_90 rfl rfl h10 ?_
  obtain ⟨p11, h12, h⟩ := Option.bind_eq_some_iff.mp h
  refine eR_call (as := [.int l1, .int x9]) lk269_91 mr_539 na_347 rfl rfl (Nat.le_of_ble_eq_true rfl) wv_347 wc_347 (m_removeFile_ok hp0 (d := d + 1) h12) ?_
  refine eE_goto (t := 2) lk269_94 (by decide) ?_
  exact hK2 vq1 p11 l1 l2 s0 gq6 gq4 gq5 gq2 _ h
def m_cutLog_b67 (F : Nat) (K2 : RS → Int32 → Int32 → Int32 → Option (RS)) (σ : RS) (l1 : Int32) (l2 : Int32) : Option (RS) :=
  m_cutLog_b72 F K2 σ ((1 : Int32)) l1 l2
set_option maxRecDepth 4000 in
theorem m_cutLog_b67_ok {pF : Nat → List Value → xH → Option (Option Value × xH)} {d : Nat} {aR : Nat} {G : Nat → xC} {T : Nat × Nat} {F : Nat} {K2 : RS → Int32 → Int32 → Int32 → Option (RS)} (hp0 : xNP pF) (hK2 : ∀ (lv : xL) (σ : RS) (l1 : Int32) (l2 : Int32) (l3 : Int32), xg lv 0 = some (.ref aR) → xg lv 1 = some (.int l1) → xg lv 2 = some (.int l2) → xg lv 3 = some (.int l3) → ∀ res, K2 σ l1 l2 l3 = some res → xR pF (d + 3) kT269 16 4 false none none (layR aR res G, T) (2, lv, [], (layR aR σ G, T))) : ∀ (lv : xL) (σ : RS) (l1 : Int32) (l2 : Int32), xg lv 0 = some (.ref aR) → xg lv 1 = some (.int l1) → xg lv 2 = some (.int l2) → ∀ res, m_cutLog_b67 F K2 σ l1 l2 = some res → xR pF (d + 3) kT269 16 4 false none none (layR aR res G, T) (67, lv, [], (layR aR σ G, T)) := by
  intro lv σ l1 l2 g0 g1 g2 res h
  unfold m_cutLog_b67 at h
  refine eE_iconst (v := 1) lk269_67 (by decide) ?_
  refine eE_goto (t := 72) lk269_68 (by decide) ?_
  exact m_cutLog_b72_ok hp0 hK2 lv σ ((1 : Int32)) l1 l2 g0 g1 g2 _ h
def m_cutLog_b170 (F : Nat)  (σ : RS) (l1 : Int32) : Option (RS) :=
  (m_findCode F σ l1).bind fun p13 =>
  (m_soil p13 l1).bind fun p15 =>
  some p15
set_option maxRecDepth 4000 in
theorem m_cutLog_b170_ok {pF : Nat → List Value → xH → Option (Option Value × xH)} {d : Nat} {aR : Nat} {G : Nat → xC} {T : Nat × Nat} {F : Nat} (hp0 : xNP pF)  : ∀ (lv : xL) (σ : RS) (l1 : Int32), xg lv 0 = some (.ref aR) → xg lv 1 = some (.int l1) → ∀ res, m_cutLog_b170 F  σ l1 = some res → xR pF (d + 3) kT269 16 4 false none none (layR aR res G, T) (170, lv, [], (layR aR σ G, T)) := by
  intro lv σ l1 g0 g1 res h
  unfold m_cutLog_b170 at h
  refine eE_aload_n lk269_170 g0 ?_
  refine eE_iload_n lk269_171 g1 ?_
  obtain ⟨p13, h14, h⟩ := Option.bind_eq_some_iff.mp h
  refine eR_call (as := [.int l1]) lk269_172 mr_533 na_282 rfl rfl (Nat.le_of_ble_eq_true rfl) wv_282 wc_282 (m_findCode_ok hp0 (d := d + 0) h14) ?_
  refine eE_aload_n lk269_175 g0 ?_
  refine eE_iload_n lk269_176 g1 ?_
  obtain ⟨p15, h16, h⟩ := Option.bind_eq_some_iff.mp h
  refine eR_call (as := [.int l1]) lk269_177 mr_505 na_360 rfl rfl (Nat.le_of_ble_eq_true rfl) wv_360 wc_360 (m_soil_ok hp0 (d := d + 2) h16) ?_
  cases h
  exact eE_end lk269_180 rfl rfl rfl
def m_cutLog_b134 (F : Nat)  (σ : RS) (l1 : Int32) (l2 : Int32) : Option (RS) :=
  (rst σ 56 l1 ((l2 - ((1 : Int32))))).bind fun σ17 =>
  (rld σ17 77 l1).bind fun x19 =>
  (rld σ17 56 l1).bind fun x21 =>
  if xc2 .le x19 x21 = true then (
    m_cutLog_b170 F  σ17 l1
  ) else (
    (rld σ17 56 l1).bind fun x24 =>
    (rst σ17 77 l1 x24).bind fun σ26 =>
    m_cutLog_b170 F  σ26 l1
  )
set_option maxRecDepth 4000 in
theorem m_cutLog_b134_ok {pF : Nat → List Value → xH → Option (Option Value × xH)} {d : Nat} {aR : Nat} {G : Nat → xC} {T : Nat × Nat} {F : Nat} (hp0 : xNP pF)  : ∀ (lv : xL) (σ : RS) (l1 : Int32) (l2 : Int32), xg lv 0 = some (.ref aR) → xg lv 1 = some (.int l1) → xg lv 2 = some (.int l2) → ∀ res, m_cutLog_b134 F  σ l1 l2 = some res → xR pF (d + 3) kT269 16 4 false none none (layR aR res G, T) (134, lv, [], (layR aR σ G, T)) := by
  intro lv σ l1 l2 g0 g1 g2 res h
  unfold m_cutLog_b134 at h
  refine eE_aload_n lk269_134 g0 ?_
  refine eR_getA lk269_135 rf_132 rfl ?_
  refine eE_iload_n lk269_138 g1 ?_
  refine eE_iload_n lk269_139 g2 ?_
  refine eE_iconst (v := 1) lk269_140 (by decide) ?_
  refine eE_isub lk269_141 ?_
  obtain ⟨σ17, h18, h⟩ := Option.bind_eq_some_iff.mp h
  refine eR_iast lk269_142 rfl rfl h18 ?_
  refine eE_aload_n lk269_143 g0 ?_
  refine eR_getA lk269_144 rf_197 rfl ?_
  refine eE_iload_n lk269_147 g1 ?_
  obtain ⟨x19, h20, h⟩ := Option.bind_eq_some_iff.mp h
  refine eR_iald lk269_148 rfl rfl h20 ?_
  refine eE_aload_n lk269_149 g0 ?_
  refine eR_getA lk269_150 rf_132 rfl ?_
  refine eE_iload_n lk269_153 g1 ?_
  obtain ⟨x21, h22, h⟩ := Option.bind_eq_some_iff.mp h
  refine eR_iald lk269_154 rfl rfl h22 ?_
  refine eE_icmp (t := 170) lk269_155 (by decide) (fun c23 => ?_) (fun c23 => ?_)
  · rw [if_pos c23] at h
    exact m_cutLog_b170_ok hp0  lv σ17 l1 g0 g1 _ h
  · rw [if_neg c23] at h
    refine eE_aload_n lk269_158 g0 ?_
    refine eR_getA lk269_159 rf_197 rfl ?_
    refine eE_iload_n lk269_162 g1 ?_
    refine eE_aload_n lk269_163 g0 ?_
    refine eR_getA lk269_164 rf_132 rfl ?_
    refine eE_iload_n lk269_167 g1 ?_
    obtain ⟨x24, h25, h⟩ := Option.bind_eq_some_iff.mp h
    refine eR_iald lk269_168 rfl rfl h25 ?_
    obtain ⟨σ26, h27, h⟩ := Option.bind_eq_some_iff.mp h
    refine eR_iast lk269_169 rfl rfl h27 ?_
    exact m_cutLog_b170_ok hp0  lv σ26 l1 g0 g1 _ h
def m_cutLog_b97 (F : Nat)  (σ : RS) (l1 : Int32) (l2 : Int32) (l3 : Int32) : Option (RS) :=
  if xc0 .ne l3 = true then (
    m_cutLog_b134 F  σ l1 l2
  ) else (
    (rld σ 49 l1).bind fun x29 =>
    (rld σ 50 (((((12 : Int32)) * l1) + x29) - ((1 : Int32)))).bind fun x31 =>
    (m_logOf l1 l2).bind fun p33 =>
    (rld σ 62 p33).bind fun x35 =>
    (m_cut σ l1 x31 x35).bind fun p37 =>
    m_cutLog_b134 F  p37 l1 l2
  )
set_option maxRecDepth 4000 in
theorem m_cutLog_b97_ok {pF : Nat → List Value → xH → Option (Option Value × xH)} {d : Nat} {aR : Nat} {G : Nat → xC} {T : Nat × Nat} {F : Nat} (hp0 : xNP pF)  : ∀ (lv : xL) (σ : RS) (l1 : Int32) (l2 : Int32) (l3 : Int32), xg lv 0 = some (.ref aR) → xg lv 1 = some (.int l1) → xg lv 2 = some (.int l2) → xg lv 3 = some (.int l3) → ∀ res, m_cutLog_b97 F  σ l1 l2 l3 = some res → xR pF (d + 3) kT269 16 4 false none none (layR aR res G, T) (97, lv, [], (layR aR σ G, T)) := by
  intro lv σ l1 l2 l3 g0 g1 g2 g3 res h
  unfold m_cutLog_b97 at h
  refine eE_iload_n lk269_97 g3 ?_
  refine eE_if (t := 134) lk269_98 (by decide) (fun c28 => ?_) (fun c28 => ?_)
  · rw [if_pos c28] at h
    exact m_cutLog_b134_ok hp0  lv σ l1 l2 g0 g1 g2 _ h
  · rw [if_neg c28] at h
    refine eE_aload_n lk269_101 g0 ?_
    refine eE_iload_n lk269_102 g1 ?_
    refine eE_aload_n lk269_103 g0 ?_
    refine eR_getA lk269_104 rf_114 rfl ?_
    refine eE_bipush (v := 12) lk269_107 (by decide) ?_
    refine eE_iload_n lk269_109 g1 ?_
    refine eE_imul lk269_110 ?_
    refine eE_aload_n lk269_111 g0 ?_
    refine eR_getA lk269_112 rf_111 rfl ?_
    refine eE_iload_n lk269_115 g1 ?_
    obtain ⟨x29, h30, h⟩ := Option.bind_eq_some_iff.mp h
    refine eR_iald lk269_116 rfl rfl h30 ?_
    refine eE_iadd lk269_117 ?_
    refine eE_iconst (v := 1) lk269_118 (by decide) ?_
    refine eE_isub lk269_119 ?_
    obtain ⟨x31, h32, h⟩ := Option.bind_eq_some_iff.mp h
    refine eR_iald lk269_120 rfl rfl h32 ?_
    refine eE_aload_n lk269_121 g0 ?_
    refine eR_getA lk269_122 rf_150 rfl ?_
    refine eE_iload_n lk269_125 g1 ?_
    refine eE_iload_n lk269_126 g2 ?_
    obtain ⟨p33, h34, h⟩ := Option.bind_eq_some_iff.mp h
    refine eE_stat (as := [.int l1, .int l2]) lk269_127 mr_521 na_322 rfl rfl (Nat.le_of_ble_eq_true rfl) mm_322 ws_322 (m_logOf_ok hp0 (d := d + 2) h34) ?_
    obtain ⟨x35, h36, h⟩ := Option.bind_eq_some_iff.mp h
    refine eR_iald lk269_130 rfl rfl h36 ?_
    obtain ⟨p37, h38, h⟩ := Option.bind_eq_some_iff.mp h
    refine eR_call (as := [.int l1, .int x31, .int x35]) lk269_131 mr_508 na_268 rfl rfl (Nat.le_of_ble_eq_true rfl) wv_268 wc_268 (m_cut_ok hp0 (d := d + 1) h38) ?_
    exact m_cutLog_b134_ok hp0  lv p37 l1 l2 g0 g1 g2 _ h
def m_cutLog_b2 (F : Nat)  : Nat → RS → Int32 → Int32 → Int32 → Option (RS)
  | 0, _, _, _, _ => none
  | n + 1, σ, l1, l2, l3 =>
    let KK := m_cutLog_b2 F  n
    (rld σ 49 l1).bind fun x39 =>
    if xc0 .le x39 = true then (
      m_cutLog_b97 F  σ l1 l2 l3
    ) else (
      (rld σ 49 l1).bind fun x42 =>
      (rld σ 51 (((((12 : Int32)) * l1) + x42) - ((1 : Int32)))).bind fun x44 =>
      if xc2 .lt x44 l2 = true then (
        m_cutLog_b97 F  σ l1 l2 l3
      ) else (
        (rld σ 49 l1).bind fun x47 =>
        (rst σ 49 l1 ((x47 - ((1 : Int32))))).bind fun σ49 =>
        (rld σ49 49 l1).bind fun x51 =>
        (rld σ49 51 ((((12 : Int32)) * l1) + x51)).bind fun x53 =>
        if xc2 .eq x53 l2 = true then (
          m_cutLog_b67 F KK σ49 l1 l2
        ) else (
          if xc0 .eq l3 = true then (
            m_cutLog_b72 F KK σ49 ((0 : Int32)) l1 l2
          ) else (
            m_cutLog_b67 F KK σ49 l1 l2
          )
        )
      )
    )
set_option maxRecDepth 4000 in
theorem m_cutLog_b2_ok {pF : Nat → List Value → xH → Option (Option Value × xH)} {d : Nat} {aR : Nat} {G : Nat → xC} {T : Nat × Nat} {F : Nat} (hp0 : xNP pF)  : ∀ (n : Nat) (lv : xL) (σ : RS) (l1 : Int32) (l2 : Int32) (l3 : Int32), xg lv 0 = some (.ref aR) → xg lv 1 = some (.int l1) → xg lv 2 = some (.int l2) → xg lv 3 = some (.int l3) → ∀ res, m_cutLog_b2 F  n σ l1 l2 l3 = some res → xR pF (d + 3) kT269 16 4 false none none (layR aR res G, T) (2, lv, [], (layR aR σ G, T)) := by
  intro n
  induction n with
  | zero => intro lv σ l1 l2 l3 g0 g1 g2 g3 res h; simp [m_cutLog_b2] at h
  | succ n hKK =>
    intro lv σ l1 l2 l3 g0 g1 g2 g3 res h
    unfold m_cutLog_b2 at h
    dsimp only at h
    refine eE_aload_n lk269_2 g0 ?_
    refine eR_getA lk269_3 rf_111 rfl ?_
    refine eE_iload_n lk269_6 g1 ?_
    obtain ⟨x39, h40, h⟩ := Option.bind_eq_some_iff.mp h
    refine eR_iald lk269_7 rfl rfl h40 ?_
    refine eE_if (t := 97) lk269_8 (by decide) (fun c41 => ?_) (fun c41 => ?_)
    · rw [if_pos c41] at h
      exact m_cutLog_b97_ok hp0  lv σ l1 l2 l3 g0 g1 g2 g3 _ h
    · rw [if_neg c41] at h
      refine eE_aload_n lk269_11 g0 ?_
      refine eR_getA lk269_12 rf_117 rfl ?_
      refine eE_bipush (v := 12) lk269_15 (by decide) ?_
      refine eE_iload_n lk269_17 g1 ?_
      refine eE_imul lk269_18 ?_
      refine eE_aload_n lk269_19 g0 ?_
      refine eR_getA lk269_20 rf_111 rfl ?_
      refine eE_iload_n lk269_23 g1 ?_
      obtain ⟨x42, h43, h⟩ := Option.bind_eq_some_iff.mp h
      refine eR_iald lk269_24 rfl rfl h43 ?_
      refine eE_iadd lk269_25 ?_
      refine eE_iconst (v := 1) lk269_26 (by decide) ?_
      refine eE_isub lk269_27 ?_
      obtain ⟨x44, h45, h⟩ := Option.bind_eq_some_iff.mp h
      refine eR_iald lk269_28 rfl rfl h45 ?_
      refine eE_iload_n lk269_29 g2 ?_
      refine eE_icmp (t := 97) lk269_30 (by decide) (fun c46 => ?_) (fun c46 => ?_)
      · rw [if_pos c46] at h
        exact m_cutLog_b97_ok hp0  lv σ l1 l2 l3 g0 g1 g2 g3 _ h
      · rw [if_neg c46] at h
        refine eE_aload_n lk269_33 g0 ?_
        refine eR_getA lk269_34 rf_111 rfl ?_
        refine eE_iload_n lk269_37 g1 ?_
        refine eE_dup2 lk269_38 rfl rfl ?_
        obtain ⟨x47, h48, h⟩ := Option.bind_eq_some_iff.mp h
        refine eR_iald lk269_39 rfl rfl h48 ?_
        refine eE_iconst (v := 1) lk269_40 (by decide) ?_
        refine eE_isub lk269_41 ?_
        obtain ⟨σ49, h50, h⟩ := Option.bind_eq_some_iff.mp h
        refine eR_iast lk269_42 rfl rfl h50 ?_
        refine eE_aload_n lk269_43 g0 ?_
        refine eR_getA lk269_44 rf_117 rfl ?_
        refine eE_bipush (v := 12) lk269_47 (by decide) ?_
        refine eE_iload_n lk269_49 g1 ?_
        refine eE_imul lk269_50 ?_
        refine eE_aload_n lk269_51 g0 ?_
        refine eR_getA lk269_52 rf_111 rfl ?_
        refine eE_iload_n lk269_55 g1 ?_
        obtain ⟨x51, h52, h⟩ := Option.bind_eq_some_iff.mp h
        refine eR_iald lk269_56 rfl rfl h52 ?_
        refine eE_iadd lk269_57 ?_
        obtain ⟨x53, h54, h⟩ := Option.bind_eq_some_iff.mp h
        refine eR_iald lk269_58 rfl rfl h54 ?_
        refine eE_iload_n lk269_59 g2 ?_
        refine eE_icmp (t := 67) lk269_60 (by decide) (fun c55 => ?_) (fun c55 => ?_)
        · rw [if_pos c55] at h
          exact m_cutLog_b67_ok hp0 hKK lv σ49 l1 l2 g0 g1 g2 _ h
        · rw [if_neg c55] at h
          refine eE_iload_n lk269_63 g3 ?_
          refine eE_if (t := 71) lk269_64 (by decide) (fun c56 => ?_) (fun c56 => ?_)
          · rw [if_pos c56] at h
            refine eE_iconst (v := 0) lk269_71 (by decide) ?_
            exact m_cutLog_b72_ok hp0 hKK lv σ49 ((0 : Int32)) l1 l2 g0 g1 g2 _ h
          · rw [if_neg c56] at h
            exact m_cutLog_b67_ok hp0 hKK lv σ49 l1 l2 g0 g1 g2 _ h
def m_cutLog_b0 (F : Nat)  (σ : RS) (l1 : Int32) (l2 : Int32) : Option (RS) :=
  m_cutLog_b2 F  F σ l1 l2 ((0 : Int32))
set_option maxRecDepth 4000 in
theorem m_cutLog_b0_ok {pF : Nat → List Value → xH → Option (Option Value × xH)} {d : Nat} {aR : Nat} {G : Nat → xC} {T : Nat × Nat} {F : Nat} (hp0 : xNP pF)  : ∀ (lv : xL) (σ : RS) (l1 : Int32) (l2 : Int32), xg lv 0 = some (.ref aR) → xg lv 1 = some (.int l1) → xg lv 2 = some (.int l2) → ∀ res, m_cutLog_b0 F  σ l1 l2 = some res → xR pF (d + 3) kT269 16 4 false none none (layR aR res G, T) (0, lv, [], (layR aR σ G, T)) := by
  intro lv σ l1 l2 g0 g1 g2 res h
  unfold m_cutLog_b0 at h
  refine eE_iconst (v := 0) lk269_0 (by decide) ?_
  refine eE_stI (j := 3) lk269_1 (Or.inr ⟨_, rfl, rfl⟩) (by decide) (fun vq57 gq58 kq59 => ?_)
  have gq60 := kq59 1 _ (by decide) (fun _ => rfl) g1
  have gq61 := kq59 2 _ (by decide) (fun _ => rfl) g2
  have gq62 := kq59 0 _ (by decide) (fun _ => rfl) g0
  exact m_cutLog_b2_ok hp0  F vq57 σ l1 l2 ((0 : Int32)) gq62 gq60 gq61 gq58 _ h
def m_cutLog (F : Nat) (σ : RS) (l1 : Int32) (l2 : Int32) : Option (RS) := m_cutLog_b0 F σ l1 l2
theorem m_cutLog_ok {pF : Nat → List Value → xH → Option (Option Value × xH)} (hp0 : xNP pF) {d : Nat} {aR : Nat} {G : Nat → xC} {T : Nat × Nat} {σ : RS} {F : Nat} {l1 : Int32} {l2 : Int32} {res : RS} (h : m_cutLog F σ l1 l2 = some res) : xCo pF (d + 4) 269 [.ref aR, .int l1, .int l2] (layR aR σ G, T) none (layR aR res G, T) := by
  unfold m_cutLog at h
  exact xCo_R kk_269 mo_269 ni_269 xm_269 (Nat.le_of_ble_eq_true rfl) (hp0 _ (by decide) (by decide) _ _) (m_cutLog_b0_ok hp0 _ σ l1 l2 rfl rfl rfl _ h)
/-! take (368), depth 9 -/
def m_take_b184 (F : Nat)  (σ : RS) (l1 : Int32) (l2 : Int32) (l3 : Int32) (l7 : Int32) : Option (RS) :=
  (m_tell F σ l1 l2 ((6 : Int32)) ((0 : Int32)) l7 l3).bind fun p1 =>
  some p1
set_option maxRecDepth 4000 in
theorem m_take_b184_ok {pF : Nat → List Value → xH → Option (Option Value × xH)} {d : Nat} {aR : Nat} {G : Nat → xC} {T : Nat × Nat} {F : Nat} (hp0 : xNP pF)  : ∀ (lv : xL) (σ : RS) (l1 : Int32) (l2 : Int32) (l3 : Int32) (l7 : Int32), xg lv 0 = some (.ref aR) → xg lv 1 = some (.int l1) → xg lv 2 = some (.int l2) → xg lv 3 = some (.int l3) → xg lv 7 = some (.int l7) → ∀ res, m_take_b184 F  σ l1 l2 l3 l7 = some res → xR pF (d + 8) kT368 16 11 false none none (layR aR res G, T) (184, lv, [], (layR aR σ G, T)) := by
  intro lv σ l1 l2 l3 l7 g0 g1 g2 g3 g7 res h
  unfold m_take_b184 at h
  refine eE_aload_n lk368_184 g0 ?_
  refine eE_iload_n lk368_185 g1 ?_
  refine eE_iload_n lk368_186 g2 ?_
  refine eE_bipush (v := 6) lk368_187 (by decide) ?_
  refine eE_iconst (v := 0) lk368_189 (by decide) ?_
  refine eE_iload lk368_190 g7 ?_
  refine eE_iload_n lk368_192 g3 ?_
  obtain ⟨p1, h2, h⟩ := Option.bind_eq_some_iff.mp h
  refine eR_call (as := [.int l1, .int l2, .int ((6 : Int32)), .int ((0 : Int32)), .int l7, .int l3]) lk368_193 mr_746 na_369 rfl rfl (Nat.le_of_ble_eq_true rfl) wv_369 wc_369 (m_tell_ok hp0 (d := d + 3) h2) ?_
  cases h
  exact eE_end lk368_196 rfl rfl rfl
def m_take_b146 (F : Nat)  : Nat → RS → Int32 → Int32 → Int32 → Int32 → Int32 → Option (RS)
  | 0, _, _, _, _, _, _ => none
  | n + 1, σ, l1, l2, l3, l4, l7 =>
    let KK := m_take_b146 F  n
    (rld σ 55 l1).bind fun x3 =>
    if xc2 .le l7 (x3 + ((1 : Int32))) = true then (
      m_take_b184 F  σ l1 l2 l3 l7
    ) else (
      (m_termAt σ l1 (l7 - ((1 : Int32)))).bind fun p6 =>
      (m_termAt p6.2 l1 l4).bind fun p8 =>
      if xc2 .ne p6.1 p8.1 = true then (
        m_take_b184 F  p8.2 l1 l2 l3 l7
      ) else (
        KK p8.2 l1 l2 l3 l4 (l7 + (-1 : Int32))
      )
    )
set_option maxRecDepth 4000 in
theorem m_take_b146_ok {pF : Nat → List Value → xH → Option (Option Value × xH)} {d : Nat} {aR : Nat} {G : Nat → xC} {T : Nat × Nat} {F : Nat} (hp0 : xNP pF)  : ∀ (n : Nat) (lv : xL) (σ : RS) (l1 : Int32) (l2 : Int32) (l3 : Int32) (l4 : Int32) (l7 : Int32), xg lv 0 = some (.ref aR) → xg lv 1 = some (.int l1) → xg lv 2 = some (.int l2) → xg lv 3 = some (.int l3) → xg lv 4 = some (.int l4) → xg lv 7 = some (.int l7) → ∀ res, m_take_b146 F  n σ l1 l2 l3 l4 l7 = some res → xR pF (d + 8) kT368 16 11 false none none (layR aR res G, T) (146, lv, [], (layR aR σ G, T)) := by
  intro n
  induction n with
  | zero => intro lv σ l1 l2 l3 l4 l7 g0 g1 g2 g3 g4 g7 res h; simp [m_take_b146] at h
  | succ n hKK =>
    intro lv σ l1 l2 l3 l4 l7 g0 g1 g2 g3 g4 g7 res h
    unfold m_take_b146 at h
    dsimp only at h
    refine eE_iload lk368_146 g7 ?_
    refine eE_aload_n lk368_148 g0 ?_
    refine eR_getA lk368_149 rf_129 rfl ?_
    refine eE_iload_n lk368_152 g1 ?_
    obtain ⟨x3, h4, h⟩ := Option.bind_eq_some_iff.mp h
    refine eR_iald lk368_153 rfl rfl h4 ?_
    refine eE_iconst (v := 1) lk368_154 (by decide) ?_
    refine eE_iadd lk368_155 ?_
    refine eE_icmp (t := 184) lk368_156 (by decide) (fun c5 => ?_) (fun c5 => ?_)
    · rw [if_pos c5] at h
      exact m_take_b184_ok hp0  lv σ l1 l2 l3 l7 g0 g1 g2 g3 g7 _ h
    · rw [if_neg c5] at h
      refine eE_aload_n lk368_159 g0 ?_
      refine eE_iload_n lk368_160 g1 ?_
      refine eE_iload lk368_161 g7 ?_
      refine eE_iconst (v := 1) lk368_163 (by decide) ?_
      refine eE_isub lk368_164 ?_
      obtain ⟨p6, h7, h⟩ := Option.bind_eq_some_iff.mp h
      refine eR_call (as := [.int l1, .int (l7 - ((1 : Int32)))]) lk368_165 mr_524 na_372 rfl rfl (Nat.le_of_ble_eq_true rfl) wv_372 wc_372 (m_termAt_ok hp0 (d := d + 6) h7) ?_
      refine eE_aload_n lk368_168 g0 ?_
      refine eE_iload_n lk368_169 g1 ?_
      refine eE_iload lk368_170 g4 ?_
      obtain ⟨p8, h9, h⟩ := Option.bind_eq_some_iff.mp h
      refine eR_call (as := [.int l1, .int l4]) lk368_172 mr_524 na_372 rfl rfl (Nat.le_of_ble_eq_true rfl) wv_372 wc_372 (m_termAt_ok hp0 (d := d + 6) h9) ?_
      refine eE_icmp (t := 184) lk368_175 (by decide) (fun c10 => ?_) (fun c10 => ?_)
      · rw [if_pos c10] at h
        exact m_take_b184_ok hp0  lv p8.2 l1 l2 l3 l7 g0 g1 g2 g3 g7 _ h
      · rw [if_neg c10] at h
        refine eE_inc (j := 7) (v := l7 + (-1 : Int32)) lk368_178 g7 rfl (by decide) (fun vq11 gq12 kq13 => ?_)
        have gq14 := kq13 1 _ (by decide) (fun _ => rfl) g1
        have gq15 := kq13 2 _ (by decide) (fun _ => rfl) g2
        have gq16 := kq13 3 _ (by decide) (fun _ => rfl) g3
        have gq17 := kq13 4 _ (by decide) (fun _ => rfl) g4
        have gq18 := kq13 0 _ (by decide) (fun _ => rfl) g0
        refine eE_goto (t := 146) lk368_181 (by decide) ?_
        exact hKK vq11 p8.2 l1 l2 l3 l4 (l7 + (-1 : Int32)) gq18 gq14 gq15 gq16 gq17 gq12 _ h
def m_take_b144 (F : Nat)  (σ : RS) (s0 : Int32) (l1 : Int32) (l2 : Int32) (l3 : Int32) (l4 : Int32) : Option (RS) :=
  m_take_b146 F  F σ l1 l2 l3 l4 s0
set_option maxRecDepth 4000 in
theorem m_take_b144_ok {pF : Nat → List Value → xH → Option (Option Value × xH)} {d : Nat} {aR : Nat} {G : Nat → xC} {T : Nat × Nat} {F : Nat} (hp0 : xNP pF)  : ∀ (lv : xL) (σ : RS) (s0 : Int32) (l1 : Int32) (l2 : Int32) (l3 : Int32) (l4 : Int32), xg lv 0 = some (.ref aR) → xg lv 1 = some (.int l1) → xg lv 2 = some (.int l2) → xg lv 3 = some (.int l3) → xg lv 4 = some (.int l4) → ∀ res, m_take_b144 F  σ s0 l1 l2 l3 l4 = some res → xR pF (d + 8) kT368 16 11 false none none (layR aR res G, T) (144, lv, [.int s0], (layR aR σ G, T)) := by
  intro lv σ s0 l1 l2 l3 l4 g0 g1 g2 g3 g4 res h
  unfold m_take_b144 at h
  refine eE_stI (j := 7) lk368_144 (Or.inl rfl) (by decide) (fun vq19 gq20 kq21 => ?_)
  have gq22 := kq21 1 _ (by decide) (fun _ => rfl) g1
  have gq23 := kq21 2 _ (by decide) (fun _ => rfl) g2
  have gq24 := kq21 3 _ (by decide) (fun _ => rfl) g3
  have gq25 := kq21 4 _ (by decide) (fun _ => rfl) g4
  have gq26 := kq21 0 _ (by decide) (fun _ => rfl) g0
  exact m_take_b146_ok hp0  F vq19 σ l1 l2 l3 l4 s0 gq26 gq22 gq23 gq24 gq25 gq20 _ h
def m_take_b260 (F : Nat) (K200 : RS → Int32 → Int32 → Int32 → Int32 → Int32 → Int32 → Option (RS)) (σ : RS) (l1 : Int32) (l2 : Int32) (l3 : Int32) (l4 : Int32) (l6 : Int32) (l7 : Int32) : Option (RS) :=
  K200 σ l1 l2 l3 l4 l6 (l7 + (1 : Int32))
set_option maxRecDepth 4000 in
theorem m_take_b260_ok {pF : Nat → List Value → xH → Option (Option Value × xH)} {d : Nat} {aR : Nat} {G : Nat → xC} {T : Nat × Nat} {F : Nat} {K200 : RS → Int32 → Int32 → Int32 → Int32 → Int32 → Int32 → Option (RS)} (hp0 : xNP pF) (hK200 : ∀ (lv : xL) (σ : RS) (l1 : Int32) (l2 : Int32) (l3 : Int32) (l4 : Int32) (l6 : Int32) (l7 : Int32), xg lv 0 = some (.ref aR) → xg lv 1 = some (.int l1) → xg lv 2 = some (.int l2) → xg lv 3 = some (.int l3) → xg lv 4 = some (.int l4) → xg lv 6 = some (.int l6) → xg lv 7 = some (.int l7) → ∀ res, K200 σ l1 l2 l3 l4 l6 l7 = some res → xR pF (d + 8) kT368 16 11 false none none (layR aR res G, T) (200, lv, [], (layR aR σ G, T))) : ∀ (lv : xL) (σ : RS) (l1 : Int32) (l2 : Int32) (l3 : Int32) (l4 : Int32) (l6 : Int32) (l7 : Int32), xg lv 0 = some (.ref aR) → xg lv 1 = some (.int l1) → xg lv 2 = some (.int l2) → xg lv 3 = some (.int l3) → xg lv 4 = some (.int l4) → xg lv 6 = some (.int l6) → xg lv 7 = some (.int l7) → ∀ res, m_take_b260 F K200 σ l1 l2 l3 l4 l6 l7 = some res → xR pF (d + 8) kT368 16 11 false none none (layR aR res G, T) (260, lv, [], (layR aR σ G, T)) := by
  intro lv σ l1 l2 l3 l4 l6 l7 g0 g1 g2 g3 g4 g6 g7 res h
  unfold m_take_b260 at h
  refine eE_inc (j := 7) (v := l7 + (1 : Int32)) lk368_260 g7 rfl (by decide) (fun vq27 gq28 kq29 => ?_)
  have gq30 := kq29 1 _ (by decide) (fun _ => rfl) g1
  have gq31 := kq29 2 _ (by decide) (fun _ => rfl) g2
  have gq32 := kq29 3 _ (by decide) (fun _ => rfl) g3
  have gq33 := kq29 4 _ (by decide) (fun _ => rfl) g4
  have gq34 := kq29 6 _ (by decide) (fun _ => rfl) g6
  have gq35 := kq29 0 _ (by decide) (fun _ => rfl) g0
  refine eE_goto (t := 200) lk368_263 (by decide) ?_
  exact hK200 vq27 σ l1 l2 l3 l4 l6 (l7 + (1 : Int32)) gq35 gq30 gq31 gq32 gq33 gq34 gq28 _ h
def m_take_b334 (F : Nat) (K269 : RS → Int32 → Int32 → Int32 → Int32 → Int32 → Int32 → Option (RS)) (σ : RS) (l1 : Int32) (l2 : Int32) (l3 : Int32) (l4 : Int32) (l6 : Int32) (l7 : Int32) : Option (RS) :=
  K269 σ l1 l2 l3 l4 l6 (l7 + (1 : Int32))
set_option maxRecDepth 4000 in
theorem m_take_b334_ok {pF : Nat → List Value → xH → Option (Option Value × xH)} {d : Nat} {aR : Nat} {G : Nat → xC} {T : Nat × Nat} {F : Nat} {K269 : RS → Int32 → Int32 → Int32 → Int32 → Int32 → Int32 → Option (RS)} (hp0 : xNP pF) (hK269 : ∀ (lv : xL) (σ : RS) (l1 : Int32) (l2 : Int32) (l3 : Int32) (l4 : Int32) (l6 : Int32) (l7 : Int32), xg lv 0 = some (.ref aR) → xg lv 1 = some (.int l1) → xg lv 2 = some (.int l2) → xg lv 3 = some (.int l3) → xg lv 4 = some (.int l4) → xg lv 6 = some (.int l6) → xg lv 7 = some (.int l7) → ∀ res, K269 σ l1 l2 l3 l4 l6 l7 = some res → xR pF (d + 8) kT368 16 11 false none none (layR aR res G, T) (269, lv, [], (layR aR σ G, T))) : ∀ (lv : xL) (σ : RS) (l1 : Int32) (l2 : Int32) (l3 : Int32) (l4 : Int32) (l6 : Int32) (l7 : Int32), xg lv 0 = some (.ref aR) → xg lv 1 = some (.int l1) → xg lv 2 = some (.int l2) → xg lv 3 = some (.int l3) → xg lv 4 = some (.int l4) → xg lv 6 = some (.int l6) → xg lv 7 = some (.int l7) → ∀ res, m_take_b334 F K269 σ l1 l2 l3 l4 l6 l7 = some res → xR pF (d + 8) kT368 16 11 false none none (layR aR res G, T) (334, lv, [], (layR aR σ G, T)) := by
  intro lv σ l1 l2 l3 l4 l6 l7 g0 g1 g2 g3 g4 g6 g7 res h
  unfold m_take_b334 at h
  refine eE_inc (j := 7) (v := l7 + (1 : Int32)) lk368_334 g7 rfl (by decide) (fun vq36 gq37 kq38 => ?_)
  have gq39 := kq38 1 _ (by decide) (fun _ => rfl) g1
  have gq40 := kq38 2 _ (by decide) (fun _ => rfl) g2
  have gq41 := kq38 3 _ (by decide) (fun _ => rfl) g3
  have gq42 := kq38 4 _ (by decide) (fun _ => rfl) g4
  have gq43 := kq38 6 _ (by decide) (fun _ => rfl) g6
  have gq44 := kq38 0 _ (by decide) (fun _ => rfl) g0
  refine eE_goto (t := 269) lk368_337 (by decide) ?_
  exact hK269 vq36 σ l1 l2 l3 l4 l6 (l7 + (1 : Int32)) gq44 gq39 gq40 gq41 gq42 gq43 gq37 _ h
def m_take_b405 (F : Nat) (K375 : RS → Int32 → Int32 → Int32 → Int32 → Int32 → Int32 → Option (RS)) : Nat → RS → Int32 → Int32 → Int32 → Int32 → Int32 → Int32 → Int32 → Int32 → Int32 → Option (RS)
  | 0, _, _, _, _, _, _, _, _, _, _ => none
  | n + 1, σ, l1, l2, l3, l4, l6, l7, l8, l9, l10 =>
    let KK := m_take_b405 F K375 n
    if xc2 .ge l10 l9 = true then (
      (rld σ 13 (((2118 : Int32)) + l7)).bind fun x46 =>
      (rld σ 14 (((2118 : Int32)) + l7)).bind fun x48 =>
      (m_append F σ l1 x46 x48 l9).bind fun p50 =>
      K375 p50 l1 l2 l3 l4 l6 (l7 + (1 : Int32))
    ) else (
      (m_inLetter σ ((((542208 : Int32)) + (((256 : Int32)) * l7)) + l10)).bind fun p61 =>
      (m_layLog p61.2 (l8 + l10) p61.1).bind fun p63 =>
      KK p63 l1 l2 l3 l4 l6 l7 l8 l9 (l10 + (1 : Int32))
    )
set_option maxRecDepth 4000 in
theorem m_take_b405_ok {pF : Nat → List Value → xH → Option (Option Value × xH)} {d : Nat} {aR : Nat} {G : Nat → xC} {T : Nat × Nat} {F : Nat} {K375 : RS → Int32 → Int32 → Int32 → Int32 → Int32 → Int32 → Option (RS)} (hp0 : xNP pF) (hK375 : ∀ (lv : xL) (σ : RS) (l1 : Int32) (l2 : Int32) (l3 : Int32) (l4 : Int32) (l6 : Int32) (l7 : Int32), xg lv 0 = some (.ref aR) → xg lv 1 = some (.int l1) → xg lv 2 = some (.int l2) → xg lv 3 = some (.int l3) → xg lv 4 = some (.int l4) → xg lv 6 = some (.int l6) → xg lv 7 = some (.int l7) → ∀ res, K375 σ l1 l2 l3 l4 l6 l7 = some res → xR pF (d + 8) kT368 16 11 false none none (layR aR res G, T) (375, lv, [], (layR aR σ G, T))) : ∀ (n : Nat) (lv : xL) (σ : RS) (l1 : Int32) (l2 : Int32) (l3 : Int32) (l4 : Int32) (l6 : Int32) (l7 : Int32) (l8 : Int32) (l9 : Int32) (l10 : Int32), xg lv 0 = some (.ref aR) → xg lv 1 = some (.int l1) → xg lv 2 = some (.int l2) → xg lv 3 = some (.int l3) → xg lv 4 = some (.int l4) → xg lv 6 = some (.int l6) → xg lv 7 = some (.int l7) → xg lv 8 = some (.int l8) → xg lv 9 = some (.int l9) → xg lv 10 = some (.int l10) → ∀ res, m_take_b405 F K375 n σ l1 l2 l3 l4 l6 l7 l8 l9 l10 = some res → xR pF (d + 8) kT368 16 11 false none none (layR aR res G, T) (405, lv, [], (layR aR σ G, T)) := by
  intro n
  induction n with
  | zero => intro lv σ l1 l2 l3 l4 l6 l7 l8 l9 l10 g0 g1 g2 g3 g4 g6 g7 g8 g9 g10 res h; simp [m_take_b405] at h
  | succ n hKK =>
    intro lv σ l1 l2 l3 l4 l6 l7 l8 l9 l10 g0 g1 g2 g3 g4 g6 g7 g8 g9 g10 res h
    unfold m_take_b405 at h
    dsimp only at h
    refine eE_iload lk368_405 g10 ?_
    refine eE_iload lk368_407 g9 ?_
    refine eE_icmp (t := 444) lk368_409 (by decide) (fun c45 => ?_) (fun c45 => ?_)
    · rw [if_pos c45] at h
      refine eE_aload_n lk368_444 g0 ?_
      refine eE_iload_n lk368_445 g1 ?_
      refine eE_aload_n lk368_446 g0 ?_
      refine eR_getA lk368_447 rf_35 rfl ?_
      refine eE_sipush (v := 2118) lk368_450 (by decide) ?_
      refine eE_iload lk368_453 g7 ?_
      refine eE_iadd lk368_455 ?_
      obtain ⟨x46, h47, h⟩ := Option.bind_eq_some_iff.mp h
      refine eR_iald lk368_456 rfl rfl h47 ?_
      refine eE_aload_n lk368_457 g0 ?_
      refine eR_getA lk368_458 rf_38 rfl ?_
      refine eE_sipush (v := 2118) lk368_461 (by decide) ?_
      refine eE_iload lk368_464 g7 ?_
      refine eE_iadd lk368_466 ?_
      obtain ⟨x48, h49, h⟩ := Option.bind_eq_some_iff.mp h
      refine eR_iald lk368_467 rfl rfl h49 ?_
      refine eE_iload lk368_468 g9 ?_
      obtain ⟨p50, h51, h⟩ := Option.bind_eq_some_iff.mp h
      refine eR_call (as := [.int l1, .int x46, .int x48, .int l9]) lk368_470 mr_672 na_244 rfl rfl (Nat.le_of_ble_eq_true rfl) wv_244 wc_244 (m_append_ok hp0 (d := d + 4) h51) ?_
      refine eE_inc (j := 7) (v := l7 + (1 : Int32)) lk368_473 g7 rfl (by decide) (fun vq52 gq53 kq54 => ?_)
      have gq55 := kq54 1 _ (by decide) (fun _ => rfl) g1
      have gq56 := kq54 2 _ (by decide) (fun _ => rfl) g2
      have gq57 := kq54 3 _ (by decide) (fun _ => rfl) g3
      have gq58 := kq54 4 _ (by decide) (fun _ => rfl) g4
      have gq59 := kq54 6 _ (by decide) (fun _ => rfl) g6
      have gq60 := kq54 0 _ (by decide) (fun _ => rfl) g0
      refine eE_goto (t := 375) lk368_476 (by decide) ?_
      exact hK375 vq52 p50 l1 l2 l3 l4 l6 (l7 + (1 : Int32)) gq60 gq55 gq56 gq57 gq58 gq59 gq53 _ h
    · rw [if_neg c45] at h
      refine eE_aload_n lk368_412 g0 ?_
      refine eE_iload lk368_413 g8 ?_
      refine eE_iload lk368_415 g10 ?_
      refine eE_iadd lk368_417 ?_
      refine eE_aload_n lk368_418 g0 ?_
      refine eE_ldc_w (v := 542208) lk368_419 xc_758 ?_
      refine eE_sipush (v := 256) lk368_422 (by decide) ?_
      refine eE_iload lk368_425 g7 ?_
      refine eE_imul lk368_427 ?_
      refine eE_iadd lk368_428 ?_
      refine eE_iload lk368_429 g10 ?_
      refine eE_iadd lk368_431 ?_
      obtain ⟨p61, h62, h⟩ := Option.bind_eq_some_iff.mp h
      refine eR_call (as := [.int ((((542208 : Int32)) + (((256 : Int32)) * l7)) + l10)]) lk368_432 mr_759 na_295 rfl rfl (Nat.le_of_ble_eq_true rfl) wv_295 wc_295 (m_inLetter_ok hp0 (d := d + 7) h62) ?_
      obtain ⟨p63, h64, h⟩ := Option.bind_eq_some_iff.mp h
      refine eR_call (as := [.int (l8 + l10), .int p61.1]) lk368_435 mr_553 na_316 rfl rfl (Nat.le_of_ble_eq_true rfl) wv_316 wc_316 (m_layLog_ok hp0 (d := d + 7) h64) ?_
      refine eE_inc (j := 10) (v := l10 + (1 : Int32)) lk368_438 g10 rfl (by decide) (fun vq65 gq66 kq67 => ?_)
      have gq68 := kq67 1 _ (by decide) (fun _ => rfl) g1
      have gq69 := kq67 2 _ (by decide) (fun _ => rfl) g2
      have gq70 := kq67 3 _ (by decide) (fun _ => rfl) g3
      have gq71 := kq67 4 _ (by decide) (fun _ => rfl) g4
      have gq72 := kq67 6 _ (by decide) (fun _ => rfl) g6
      have gq73 := kq67 7 _ (by decide) (fun _ => rfl) g7
      have gq74 := kq67 8 _ (by decide) (fun _ => rfl) g8
      have gq75 := kq67 9 _ (by decide) (fun _ => rfl) g9
      have gq76 := kq67 0 _ (by decide) (fun _ => rfl) g0
      refine eE_goto (t := 405) lk368_441 (by decide) ?_
      exact hKK vq65 p63 l1 l2 l3 l4 l6 l7 l8 l9 (l10 + (1 : Int32)) gq76 gq68 gq69 gq70 gq71 gq72 gq73 gq74 gq75 gq66 _ h
def m_take_b564 (F : Nat)  (σ : RS) (s1 : Int32) (s2 : Int32) (l1 : Int32) (l2 : Int32) (l3 : Int32) (l8 : Int32) : Option (RS) :=
  (rst σ 75 s1 s2).bind fun σ77 =>
  (m_apply F σ77 l1).bind fun p79 =>
  (m_tell F p79 l1 l2 ((6 : Int32)) ((1 : Int32)) l8 l3).bind fun p81 =>
  some p81
set_option maxRecDepth 4000 in
theorem m_take_b564_ok {pF : Nat → List Value → xH → Option (Option Value × xH)} {d : Nat} {aR : Nat} {G : Nat → xC} {T : Nat × Nat} {F : Nat} (hp0 : xNP pF)  : ∀ (lv : xL) (σ : RS) (s1 : Int32) (s2 : Int32) (l1 : Int32) (l2 : Int32) (l3 : Int32) (l8 : Int32), xg lv 0 = some (.ref aR) → xg lv 1 = some (.int l1) → xg lv 2 = some (.int l2) → xg lv 3 = some (.int l3) → xg lv 8 = some (.int l8) → ∀ res, m_take_b564 F  σ s1 s2 l1 l2 l3 l8 = some res → xR pF (d + 8) kT368 16 11 false none none (layR aR res G, T) (564, lv, [.int s2, .int s1, .ref (aR + rpos 75)], (layR aR σ G, T)) := by
  intro lv σ s1 s2 l1 l2 l3 l8 g0 g1 g2 g3 g8 res h
  unfold m_take_b564 at h
  obtain ⟨σ77, h78, h⟩ := Option.bind_eq_some_iff.mp h
  refine eR_iast lk368_564 rfl rfl h78 ?_
  refine eE_aload_n lk368_565 g0 ?_
  refine eE_iload_n lk368_566 g1 ?_
  obtain ⟨p79, h80, h⟩ := Option.bind_eq_some_iff.mp h
  refine eR_call (as := [.int l1]) lk368_567 mr_697 na_246 rfl rfl (Nat.le_of_ble_eq_true rfl) wv_246 wc_246 (m_apply_ok hp0 (d := d + 0) h80) ?_
  refine eE_aload_n lk368_570 g0 ?_
  refine eE_iload_n lk368_571 g1 ?_
  refine eE_iload_n lk368_572 g2 ?_
  refine eE_bipush (v := 6) lk368_573 (by decide) ?_
  refine eE_iconst (v := 1) lk368_575 (by decide) ?_
  refine eE_iload lk368_576 g8 ?_
  refine eE_iload_n lk368_578 g3 ?_
  obtain ⟨p81, h82, h⟩ := Option.bind_eq_some_iff.mp h
  refine eR_call (as := [.int l1, .int l2, .int ((6 : Int32)), .int ((1 : Int32)), .int l8, .int l3]) lk368_579 mr_746 na_369 rfl rfl (Nat.le_of_ble_eq_true rfl) wv_369 wc_369 (m_tell_ok hp0 (d := d + 3) h82) ?_
  cases h
  exact eE_end lk368_582 rfl rfl rfl
def m_take_b535 (F : Nat)  (σ : RS) (s0 : Int32) (l1 : Int32) (l2 : Int32) (l3 : Int32) (l8 : Int32) : Option (RS) :=
  (rld σ 75 l1).bind fun x91 =>
  if xc2 .le s0 x91 = true then (
    (rld σ 75 l1).bind fun x94 =>
    m_take_b564 F  σ l1 x94 l1 l2 l3 l8
  ) else (
    m_take_b564 F  σ l1 s0 l1 l2 l3 l8
  )
set_option maxRecDepth 4000 in
theorem m_take_b535_ok {pF : Nat → List Value → xH → Option (Option Value × xH)} {d : Nat} {aR : Nat} {G : Nat → xC} {T : Nat × Nat} {F : Nat} (hp0 : xNP pF)  : ∀ (lv : xL) (σ : RS) (s0 : Int32) (l1 : Int32) (l2 : Int32) (l3 : Int32) (l8 : Int32), xg lv 0 = some (.ref aR) → xg lv 1 = some (.int l1) → xg lv 2 = some (.int l2) → xg lv 3 = some (.int l3) → xg lv 8 = some (.int l8) → ∀ res, m_take_b535 F  σ s0 l1 l2 l3 l8 = some res → xR pF (d + 8) kT368 16 11 false none none (layR aR res G, T) (535, lv, [.int s0], (layR aR σ G, T)) := by
  intro lv σ s0 l1 l2 l3 l8 g0 g1 g2 g3 g8 res h
  unfold m_take_b535 at h
  refine eE_stI (j := 9) lk368_535 (Or.inl rfl) (by decide) (fun vq83 gq84 kq85 => ?_)
  have gq86 := kq85 1 _ (by decide) (fun _ => rfl) g1
  have gq87 := kq85 2 _ (by decide) (fun _ => rfl) g2
  have gq88 := kq85 3 _ (by decide) (fun _ => rfl) g3
  have gq89 := kq85 8 _ (by decide) (fun _ => rfl) g8
  have gq90 := kq85 0 _ (by decide) (fun _ => rfl) g0
  refine eE_aload_n lk368_537 gq90 ?_
  refine eR_getA lk368_538 rf_191 rfl ?_
  refine eE_iload_n lk368_541 gq86 ?_
  refine eE_iload lk368_542 gq84 ?_
  refine eE_aload_n lk368_544 gq90 ?_
  refine eR_getA lk368_545 rf_191 rfl ?_
  refine eE_iload_n lk368_548 gq86 ?_
  obtain ⟨x91, h92, h⟩ := Option.bind_eq_some_iff.mp h
  refine eR_iald lk368_549 rfl rfl h92 ?_
  refine eE_icmp (t := 558) lk368_550 (by decide) (fun c93 => ?_) (fun c93 => ?_)
  · rw [if_pos c93] at h
    refine eE_aload_n lk368_558 gq90 ?_
    refine eR_getA lk368_559 rf_191 rfl ?_
    refine eE_iload_n lk368_562 gq86 ?_
    obtain ⟨x94, h95, h⟩ := Option.bind_eq_some_iff.mp h
    refine eR_iald lk368_563 rfl rfl h95 ?_
    exact m_take_b564_ok hp0  vq83 σ l1 x94 l1 l2 l3 l8 gq90 gq86 gq87 gq88 gq89 _ h
  · rw [if_neg c93] at h
    refine eE_iload lk368_553 gq84 ?_
    refine eE_goto (t := 564) lk368_555 (by decide) ?_
    exact m_take_b564_ok hp0  vq83 σ l1 s0 l1 l2 l3 l8 gq90 gq86 gq87 gq88 gq89 _ h
def m_take_b507 (F : Nat)  (σ : RS) (s0 : Int32) (l1 : Int32) (l2 : Int32) (l3 : Int32) : Option (RS) :=
  (rld σ 12 ((2826 : Int32))).bind fun x103 =>
  if xc2 .ge x103 s0 = true then (
    m_take_b535 F  σ s0 l1 l2 l3 s0
  ) else (
    (rld σ 12 ((2826 : Int32))).bind fun x106 =>
    m_take_b535 F  σ x106 l1 l2 l3 s0
  )
set_option maxRecDepth 4000 in
theorem m_take_b507_ok {pF : Nat → List Value → xH → Option (Option Value × xH)} {d : Nat} {aR : Nat} {G : Nat → xC} {T : Nat × Nat} {F : Nat} (hp0 : xNP pF)  : ∀ (lv : xL) (σ : RS) (s0 : Int32) (l1 : Int32) (l2 : Int32) (l3 : Int32), xg lv 0 = some (.ref aR) → xg lv 1 = some (.int l1) → xg lv 2 = some (.int l2) → xg lv 3 = some (.int l3) → ∀ res, m_take_b507 F  σ s0 l1 l2 l3 = some res → xR pF (d + 8) kT368 16 11 false none none (layR aR res G, T) (507, lv, [.int s0], (layR aR σ G, T)) := by
  intro lv σ s0 l1 l2 l3 g0 g1 g2 g3 res h
  unfold m_take_b507 at h
  refine eE_stI (j := 8) lk368_507 (Or.inl rfl) (by decide) (fun vq96 gq97 kq98 => ?_)
  have gq99 := kq98 1 _ (by decide) (fun _ => rfl) g1
  have gq100 := kq98 2 _ (by decide) (fun _ => rfl) g2
  have gq101 := kq98 3 _ (by decide) (fun _ => rfl) g3
  have gq102 := kq98 0 _ (by decide) (fun _ => rfl) g0
  refine eE_aload_n lk368_509 gq102 ?_
  refine eR_getA lk368_510 rf_32 rfl ?_
  refine eE_sipush (v := 2826) lk368_513 (by decide) ?_
  obtain ⟨x103, h104, h⟩ := Option.bind_eq_some_iff.mp h
  refine eR_iald lk368_516 rfl rfl h104 ?_
  refine eE_iload lk368_517 gq97 ?_
  refine eE_icmp (t := 533) lk368_519 (by decide) (fun c105 => ?_) (fun c105 => ?_)
  · rw [if_pos c105] at h
    refine eE_iload lk368_533 gq97 ?_
    exact m_take_b535_ok hp0  vq96 σ s0 l1 l2 l3 s0 gq102 gq99 gq100 gq101 gq97 _ h
  · rw [if_neg c105] at h
    refine eE_aload_n lk368_522 gq102 ?_
    refine eR_getA lk368_523 rf_32 rfl ?_
    refine eE_sipush (v := 2826) lk368_526 (by decide) ?_
    obtain ⟨x106, h107, h⟩ := Option.bind_eq_some_iff.mp h
    refine eR_iald lk368_529 rfl rfl h107 ?_
    refine eE_goto (t := 535) lk368_530 (by decide) ?_
    exact m_take_b535_ok hp0  vq96 σ x106 l1 l2 l3 s0 gq102 gq99 gq100 gq101 gq97 _ h
def m_take_b375 (F : Nat)  : Nat → RS → Int32 → Int32 → Int32 → Int32 → Int32 → Int32 → Option (RS)
  | 0, _, _, _, _, _, _, _ => none
  | n + 1, σ, l1, l2, l3, l4, l6, l7 =>
    let KK := m_take_b375 F  n
    if xc2 .ge l7 l6 = true then (
      (rld σ 55 l1).bind fun x109 =>
      if xc2 .ge (l4 + l6) x109 = true then (
        m_take_b507 F  σ (l4 + l6) l1 l2 l3
      ) else (
        (rld σ 55 l1).bind fun x112 =>
        m_take_b507 F  σ x112 l1 l2 l3
      )
    ) else (
      (m_nextContent σ l1).bind fun p114 =>
      (rld p114.2 15 (((2118 : Int32)) + l7)).bind fun x126 =>
      m_take_b405 F KK F p114.2 l1 l2 l3 l4 l6 l7 (p114.1) x126 ((0 : Int32))
    )
set_option maxRecDepth 4000 in
theorem m_take_b375_ok {pF : Nat → List Value → xH → Option (Option Value × xH)} {d : Nat} {aR : Nat} {G : Nat → xC} {T : Nat × Nat} {F : Nat} (hp0 : xNP pF)  : ∀ (n : Nat) (lv : xL) (σ : RS) (l1 : Int32) (l2 : Int32) (l3 : Int32) (l4 : Int32) (l6 : Int32) (l7 : Int32), xg lv 0 = some (.ref aR) → xg lv 1 = some (.int l1) → xg lv 2 = some (.int l2) → xg lv 3 = some (.int l3) → xg lv 4 = some (.int l4) → xg lv 6 = some (.int l6) → xg lv 7 = some (.int l7) → ∀ res, m_take_b375 F  n σ l1 l2 l3 l4 l6 l7 = some res → xR pF (d + 8) kT368 16 11 false none none (layR aR res G, T) (375, lv, [], (layR aR σ G, T)) := by
  intro n
  induction n with
  | zero => intro lv σ l1 l2 l3 l4 l6 l7 g0 g1 g2 g3 g4 g6 g7 res h; simp [m_take_b375] at h
  | succ n hKK =>
    intro lv σ l1 l2 l3 l4 l6 l7 g0 g1 g2 g3 g4 g6 g7 res h
    unfold m_take_b375 at h
    dsimp only at h
    refine eE_iload lk368_375 g7 ?_
    refine eE_iload lk368_377 g6 ?_
    refine eE_icmp (t := 479) lk368_379 (by decide) (fun c108 => ?_) (fun c108 => ?_)
    · rw [if_pos c108] at h
      refine eE_iload lk368_479 g4 ?_
      refine eE_iload lk368_481 g6 ?_
      refine eE_iadd lk368_483 ?_
      refine eE_aload_n lk368_484 g0 ?_
      refine eR_getA lk368_485 rf_129 rfl ?_
      refine eE_iload_n lk368_488 g1 ?_
      obtain ⟨x109, h110, h⟩ := Option.bind_eq_some_iff.mp h
      refine eR_iald lk368_489 rfl rfl h110 ?_
      refine eE_icmp (t := 502) lk368_490 (by decide) (fun c111 => ?_) (fun c111 => ?_)
      · rw [if_pos c111] at h
        refine eE_iload lk368_502 g4 ?_
        refine eE_iload lk368_504 g6 ?_
        refine eE_iadd lk368_506 ?_
        exact m_take_b507_ok hp0  lv σ (l4 + l6) l1 l2 l3 g0 g1 g2 g3 _ h
      · rw [if_neg c111] at h
        refine eE_aload_n lk368_493 g0 ?_
        refine eR_getA lk368_494 rf_129 rfl ?_
        refine eE_iload_n lk368_497 g1 ?_
        obtain ⟨x112, h113, h⟩ := Option.bind_eq_some_iff.mp h
        refine eR_iald lk368_498 rfl rfl h113 ?_
        refine eE_goto (t := 507) lk368_499 (by decide) ?_
        exact m_take_b507_ok hp0  lv σ x112 l1 l2 l3 g0 g1 g2 g3 _ h
    · rw [if_neg c108] at h
      refine eE_aload_n lk368_382 g0 ?_
      refine eE_iload_n lk368_383 g1 ?_
      obtain ⟨p114, h115, h⟩ := Option.bind_eq_some_iff.mp h
      refine eR_call (as := [.int l1]) lk368_384 mr_703 na_327 rfl rfl (Nat.le_of_ble_eq_true rfl) wv_327 wc_327 (m_nextContent_ok hp0 (d := d + 6) h115) ?_
      refine eE_stI (j := 8) lk368_387 (Or.inl rfl) (by decide) (fun vq116 gq117 kq118 => ?_)
      have gq119 := kq118 1 _ (by decide) (fun _ => rfl) g1
      have gq120 := kq118 2 _ (by decide) (fun _ => rfl) g2
      have gq121 := kq118 3 _ (by decide) (fun _ => rfl) g3
      have gq122 := kq118 4 _ (by decide) (fun _ => rfl) g4
      have gq123 := kq118 6 _ (by decide) (fun _ => rfl) g6
      have gq124 := kq118 7 _ (by decide) (fun _ => rfl) g7
      have gq125 := kq118 0 _ (by decide) (fun _ => rfl) g0
      refine eE_aload_n lk368_389 gq125 ?_
      refine eR_getA lk368_390 rf_41 rfl ?_
      refine eE_sipush (v := 2118) lk368_393 (by decide) ?_
      refine eE_iload lk368_396 gq124 ?_
      refine eE_iadd lk368_398 ?_
      obtain ⟨x126, h127, h⟩ := Option.bind_eq_some_iff.mp h
      refine eR_iald lk368_399 rfl rfl h127 ?_
      refine eE_stI (j := 9) lk368_400 (Or.inl rfl) (by decide) (fun vq128 gq129 kq130 => ?_)
      have gq131 := kq130 1 _ (by decide) (fun _ => rfl) gq119
      have gq132 := kq130 2 _ (by decide) (fun _ => rfl) gq120
      have gq133 := kq130 3 _ (by decide) (fun _ => rfl) gq121
      have gq134 := kq130 4 _ (by decide) (fun _ => rfl) gq122
      have gq135 := kq130 6 _ (by decide) (fun _ => rfl) gq123
      have gq136 := kq130 7 _ (by decide) (fun _ => rfl) gq124
      have gq137 := kq130 0 _ (by decide) (fun _ => rfl) gq125
      have gq138 := kq130 8 _ (by decide) (fun _ => rfl) gq117
      refine eE_iconst (v := 0) lk368_402 (by decide) ?_
      refine eE_stI (j := 10) lk368_403 (Or.inl rfl) (by decide) (fun vq139 gq140 kq141 => ?_)
      have gq142 := kq141 1 _ (by decide) (fun _ => rfl) gq131
      have gq143 := kq141 2 _ (by decide) (fun _ => rfl) gq132
      have gq144 := kq141 3 _ (by decide) (fun _ => rfl) gq133
      have gq145 := kq141 4 _ (by decide) (fun _ => rfl) gq134
      have gq146 := kq141 6 _ (by decide) (fun _ => rfl) gq135
      have gq147 := kq141 7 _ (by decide) (fun _ => rfl) gq136
      have gq148 := kq141 0 _ (by decide) (fun _ => rfl) gq137
      have gq149 := kq141 8 _ (by decide) (fun _ => rfl) gq138
      have gq150 := kq141 9 _ (by decide) (fun _ => rfl) gq129
      exact m_take_b405_ok hp0 hKK F vq139 p114.2 l1 l2 l3 l4 l6 l7 (p114.1) x126 ((0 : Int32)) gq148 gq142 gq143 gq144 gq145 gq146 gq147 gq149 gq150 gq140 _ h
def m_take_b340 (F : Nat)  (σ : RS) (l1 : Int32) (l2 : Int32) (l3 : Int32) (l4 : Int32) (l6 : Int32) (l7 : Int32) : Option (RS) :=
  if xc2 .ge l7 l6 = true then (
    m_take_b375 F  F σ l1 l2 l3 l4 l6 l7
  ) else (
    (rld σ 56 l1).bind fun x152 =>
    if xc2 .gt ((l4 + ((1 : Int32))) + l7) x152 = true then (
      m_take_b375 F  F σ l1 l2 l3 l4 l6 l7
    ) else (
      (m_cutLog F σ l1 ((l4 + ((1 : Int32))) + l7)).bind fun p155 =>
      m_take_b375 F  F p155 l1 l2 l3 l4 l6 l7
    )
  )
set_option maxRecDepth 4000 in
theorem m_take_b340_ok {pF : Nat → List Value → xH → Option (Option Value × xH)} {d : Nat} {aR : Nat} {G : Nat → xC} {T : Nat × Nat} {F : Nat} (hp0 : xNP pF)  : ∀ (lv : xL) (σ : RS) (l1 : Int32) (l2 : Int32) (l3 : Int32) (l4 : Int32) (l6 : Int32) (l7 : Int32), xg lv 0 = some (.ref aR) → xg lv 1 = some (.int l1) → xg lv 2 = some (.int l2) → xg lv 3 = some (.int l3) → xg lv 4 = some (.int l4) → xg lv 6 = some (.int l6) → xg lv 7 = some (.int l7) → ∀ res, m_take_b340 F  σ l1 l2 l3 l4 l6 l7 = some res → xR pF (d + 8) kT368 16 11 false none none (layR aR res G, T) (340, lv, [], (layR aR σ G, T)) := by
  intro lv σ l1 l2 l3 l4 l6 l7 g0 g1 g2 g3 g4 g6 g7 res h
  unfold m_take_b340 at h
  refine eE_iload lk368_340 g7 ?_
  refine eE_iload lk368_342 g6 ?_
  refine eE_icmp (t := 375) lk368_344 (by decide) (fun c151 => ?_) (fun c151 => ?_)
  · rw [if_pos c151] at h
    exact m_take_b375_ok hp0  F lv σ l1 l2 l3 l4 l6 l7 g0 g1 g2 g3 g4 g6 g7 _ h
  · rw [if_neg c151] at h
    refine eE_iload lk368_347 g4 ?_
    refine eE_iconst (v := 1) lk368_349 (by decide) ?_
    refine eE_iadd lk368_350 ?_
    refine eE_iload lk368_351 g7 ?_
    refine eE_iadd lk368_353 ?_
    refine eE_aload_n lk368_354 g0 ?_
    refine eR_getA lk368_355 rf_132 rfl ?_
    refine eE_iload_n lk368_358 g1 ?_
    obtain ⟨x152, h153, h⟩ := Option.bind_eq_some_iff.mp h
    refine eR_iald lk368_359 rfl rfl h153 ?_
    refine eE_icmp (t := 375) lk368_360 (by decide) (fun c154 => ?_) (fun c154 => ?_)
    · rw [if_pos c154] at h
      exact m_take_b375_ok hp0  F lv σ l1 l2 l3 l4 l6 l7 g0 g1 g2 g3 g4 g6 g7 _ h
    · rw [if_neg c154] at h
      refine eE_aload_n lk368_363 g0 ?_
      refine eE_iload_n lk368_364 g1 ?_
      refine eE_iload lk368_365 g4 ?_
      refine eE_iconst (v := 1) lk368_367 (by decide) ?_
      refine eE_iadd lk368_368 ?_
      refine eE_iload lk368_369 g7 ?_
      refine eE_iadd lk368_371 ?_
      obtain ⟨p155, h156, h⟩ := Option.bind_eq_some_iff.mp h
      refine eR_call (as := [.int l1, .int ((l4 + ((1 : Int32))) + l7)]) lk368_372 mr_755 na_269 rfl rfl (Nat.le_of_ble_eq_true rfl) wv_269 wc_269 (m_cutLog_ok hp0 (d := d + 4) h156) ?_
      exact m_take_b375_ok hp0  F lv p155 l1 l2 l3 l4 l6 l7 g0 g1 g2 g3 g4 g6 g7 _ h
def m_take_b269 (F : Nat)  : Nat → RS → Int32 → Int32 → Int32 → Int32 → Int32 → Int32 → Option (RS)
  | 0, _, _, _, _, _, _, _ => none
  | n + 1, σ, l1, l2, l3, l4, l6, l7 =>
    let KK := m_take_b269 F  n
    if xc2 .ge l7 l6 = true then (
      m_take_b340 F  σ l1 l2 l3 l4 l6 l7
    ) else (
      (rld σ 55 l1).bind fun x158 =>
      if xc2 .le ((l4 + ((1 : Int32))) + l7) x158 = true then (
        m_take_b334 F KK σ l1 l2 l3 l4 l6 l7
      ) else (
        (rld σ 56 l1).bind fun x161 =>
        if xc2 .gt ((l4 + ((1 : Int32))) + l7) x161 = true then (
          m_take_b340 F  σ l1 l2 l3 l4 l6 l7
        ) else (
          (m_termAt σ l1 ((l4 + ((1 : Int32))) + l7)).bind fun p164 =>
          (rld p164.2 13 (((2118 : Int32)) + l7)).bind fun x166 =>
          if xc2 .ne p164.1 x166 = true then (
            m_take_b340 F  p164.2 l1 l2 l3 l4 l6 l7
          ) else (
            m_take_b334 F KK p164.2 l1 l2 l3 l4 l6 l7
          )
        )
      )
    )
set_option maxRecDepth 4000 in
theorem m_take_b269_ok {pF : Nat → List Value → xH → Option (Option Value × xH)} {d : Nat} {aR : Nat} {G : Nat → xC} {T : Nat × Nat} {F : Nat} (hp0 : xNP pF)  : ∀ (n : Nat) (lv : xL) (σ : RS) (l1 : Int32) (l2 : Int32) (l3 : Int32) (l4 : Int32) (l6 : Int32) (l7 : Int32), xg lv 0 = some (.ref aR) → xg lv 1 = some (.int l1) → xg lv 2 = some (.int l2) → xg lv 3 = some (.int l3) → xg lv 4 = some (.int l4) → xg lv 6 = some (.int l6) → xg lv 7 = some (.int l7) → ∀ res, m_take_b269 F  n σ l1 l2 l3 l4 l6 l7 = some res → xR pF (d + 8) kT368 16 11 false none none (layR aR res G, T) (269, lv, [], (layR aR σ G, T)) := by
  intro n
  induction n with
  | zero => intro lv σ l1 l2 l3 l4 l6 l7 g0 g1 g2 g3 g4 g6 g7 res h; simp [m_take_b269] at h
  | succ n hKK =>
    intro lv σ l1 l2 l3 l4 l6 l7 g0 g1 g2 g3 g4 g6 g7 res h
    unfold m_take_b269 at h
    dsimp only at h
    refine eE_iload lk368_269 g7 ?_
    refine eE_iload lk368_271 g6 ?_
    refine eE_icmp (t := 340) lk368_273 (by decide) (fun c157 => ?_) (fun c157 => ?_)
    · rw [if_pos c157] at h
      exact m_take_b340_ok hp0  lv σ l1 l2 l3 l4 l6 l7 g0 g1 g2 g3 g4 g6 g7 _ h
    · rw [if_neg c157] at h
      refine eE_iload lk368_276 g4 ?_
      refine eE_iconst (v := 1) lk368_278 (by decide) ?_
      refine eE_iadd lk368_279 ?_
      refine eE_iload lk368_280 g7 ?_
      refine eE_iadd lk368_282 ?_
      refine eE_aload_n lk368_283 g0 ?_
      refine eR_getA lk368_284 rf_129 rfl ?_
      refine eE_iload_n lk368_287 g1 ?_
      obtain ⟨x158, h159, h⟩ := Option.bind_eq_some_iff.mp h
      refine eR_iald lk368_288 rfl rfl h159 ?_
      refine eE_icmp (t := 334) lk368_289 (by decide) (fun c160 => ?_) (fun c160 => ?_)
      · rw [if_pos c160] at h
        exact m_take_b334_ok hp0 hKK lv σ l1 l2 l3 l4 l6 l7 g0 g1 g2 g3 g4 g6 g7 _ h
      · rw [if_neg c160] at h
        refine eE_iload lk368_292 g4 ?_
        refine eE_iconst (v := 1) lk368_294 (by decide) ?_
        refine eE_iadd lk368_295 ?_
        refine eE_iload lk368_296 g7 ?_
        refine eE_iadd lk368_298 ?_
        refine eE_aload_n lk368_299 g0 ?_
        refine eR_getA lk368_300 rf_132 rfl ?_
        refine eE_iload_n lk368_303 g1 ?_
        obtain ⟨x161, h162, h⟩ := Option.bind_eq_some_iff.mp h
        refine eR_iald lk368_304 rfl rfl h162 ?_
        refine eE_icmp (t := 340) lk368_305 (by decide) (fun c163 => ?_) (fun c163 => ?_)
        · rw [if_pos c163] at h
          exact m_take_b340_ok hp0  lv σ l1 l2 l3 l4 l6 l7 g0 g1 g2 g3 g4 g6 g7 _ h
        · rw [if_neg c163] at h
          refine eE_aload_n lk368_308 g0 ?_
          refine eE_iload_n lk368_309 g1 ?_
          refine eE_iload lk368_310 g4 ?_
          refine eE_iconst (v := 1) lk368_312 (by decide) ?_
          refine eE_iadd lk368_313 ?_
          refine eE_iload lk368_314 g7 ?_
          refine eE_iadd lk368_316 ?_
          obtain ⟨p164, h165, h⟩ := Option.bind_eq_some_iff.mp h
          refine eR_call (as := [.int l1, .int ((l4 + ((1 : Int32))) + l7)]) lk368_317 mr_524 na_372 rfl rfl (Nat.le_of_ble_eq_true rfl) wv_372 wc_372 (m_termAt_ok hp0 (d := d + 6) h165) ?_
          refine eE_aload_n lk368_320 g0 ?_
          refine eR_getA lk368_321 rf_35 rfl ?_
          refine eE_sipush (v := 2118) lk368_324 (by decide) ?_
          refine eE_iload lk368_327 g7 ?_
          refine eE_iadd lk368_329 ?_
          obtain ⟨x166, h167, h⟩ := Option.bind_eq_some_iff.mp h
          refine eR_iald lk368_330 rfl rfl h167 ?_
          refine eE_icmp (t := 340) lk368_331 (by decide) (fun c168 => ?_) (fun c168 => ?_)
          · rw [if_pos c168] at h
            exact m_take_b340_ok hp0  lv p164.2 l1 l2 l3 l4 l6 l7 g0 g1 g2 g3 g4 g6 g7 _ h
          · rw [if_neg c168] at h
            exact m_take_b334_ok hp0 hKK lv p164.2 l1 l2 l3 l4 l6 l7 g0 g1 g2 g3 g4 g6 g7 _ h
def m_take_b200 (F : Nat)  : Nat → RS → Int32 → Int32 → Int32 → Int32 → Int32 → Int32 → Option (RS)
  | 0, _, _, _, _, _, _, _ => none
  | n + 1, σ, l1, l2, l3, l4, l6, l7 =>
    let KK := m_take_b200 F  n
    if xc2 .ge l7 l6 = true then (
      m_take_b269 F  F σ l1 l2 l3 l4 l6 ((0 : Int32))
    ) else (
      (rld σ 55 l1).bind fun x189 =>
      if xc2 .lt ((l4 + ((1 : Int32))) + l7) x189 = true then (
        m_take_b260 F KK σ l1 l2 l3 l4 l6 l7
      ) else (
        (rld σ 75 l1).bind fun x192 =>
        if xc2 .gt ((l4 + ((1 : Int32))) + l7) x192 = true then (
          m_take_b260 F KK σ l1 l2 l3 l4 l6 l7
        ) else (
          (m_termAt σ l1 ((l4 + ((1 : Int32))) + l7)).bind fun p195 =>
          (rld p195.2 13 (((2118 : Int32)) + l7)).bind fun x197 =>
          if xc2 .eq p195.1 x197 = true then (
            m_take_b260 F KK p195.2 l1 l2 l3 l4 l6 l7
          ) else (
            some p195.2
          )
        )
      )
    )
set_option maxRecDepth 4000 in
theorem m_take_b200_ok {pF : Nat → List Value → xH → Option (Option Value × xH)} {d : Nat} {aR : Nat} {G : Nat → xC} {T : Nat × Nat} {F : Nat} (hp0 : xNP pF)  : ∀ (n : Nat) (lv : xL) (σ : RS) (l1 : Int32) (l2 : Int32) (l3 : Int32) (l4 : Int32) (l6 : Int32) (l7 : Int32), xg lv 0 = some (.ref aR) → xg lv 1 = some (.int l1) → xg lv 2 = some (.int l2) → xg lv 3 = some (.int l3) → xg lv 4 = some (.int l4) → xg lv 6 = some (.int l6) → xg lv 7 = some (.int l7) → ∀ res, m_take_b200 F  n σ l1 l2 l3 l4 l6 l7 = some res → xR pF (d + 8) kT368 16 11 false none none (layR aR res G, T) (200, lv, [], (layR aR σ G, T)) := by
  intro n
  induction n with
  | zero => intro lv σ l1 l2 l3 l4 l6 l7 g0 g1 g2 g3 g4 g6 g7 res h; simp [m_take_b200] at h
  | succ n hKK =>
    intro lv σ l1 l2 l3 l4 l6 l7 g0 g1 g2 g3 g4 g6 g7 res h
    unfold m_take_b200 at h
    dsimp only at h
    refine eE_iload lk368_200 g7 ?_
    refine eE_iload lk368_202 g6 ?_
    refine eE_icmp (t := 266) lk368_204 (by decide) (fun c169 => ?_) (fun c169 => ?_)
    · rw [if_pos c169] at h
      refine eE_iconst (v := 0) lk368_266 (by decide) ?_
      refine eE_stI (j := 7) lk368_267 (Or.inl rfl) (by decide) (fun vq170 gq171 kq172 => ?_)
      have gq173 := kq172 1 _ (by decide) (fun _ => rfl) g1
      have gq174 := kq172 2 _ (by decide) (fun _ => rfl) g2
      have gq175 := kq172 3 _ (by decide) (fun _ => rfl) g3
      have gq176 := kq172 4 _ (by decide) (fun _ => rfl) g4
      have gq177 := kq172 6 _ (by decide) (fun _ => rfl) g6
      have gq178 := kq172 0 _ (by decide) (fun _ => rfl) g0
      exact m_take_b269_ok hp0  F vq170 σ l1 l2 l3 l4 l6 ((0 : Int32)) gq178 gq173 gq174 gq175 gq176 gq177 gq171 _ h
    · rw [if_neg c169] at h
      refine eE_iload lk368_207 g4 ?_
      refine eE_iconst (v := 1) lk368_209 (by decide) ?_
      refine eE_iadd lk368_210 ?_
      refine eE_iload lk368_211 g7 ?_
      refine eE_iadd lk368_213 ?_
      refine eE_stI (j := 8) lk368_214 (Or.inl rfl) (by decide) (fun vq179 gq180 kq181 => ?_)
      have gq182 := kq181 1 _ (by decide) (fun _ => rfl) g1
      have gq183 := kq181 2 _ (by decide) (fun _ => rfl) g2
      have gq184 := kq181 3 _ (by decide) (fun _ => rfl) g3
      have gq185 := kq181 4 _ (by decide) (fun _ => rfl) g4
      have gq186 := kq181 6 _ (by decide) (fun _ => rfl) g6
      have gq187 := kq181 7 _ (by decide) (fun _ => rfl) g7
      have gq188 := kq181 0 _ (by decide) (fun _ => rfl) g0
      refine eE_iload lk368_216 gq180 ?_
      refine eE_aload_n lk368_218 gq188 ?_
      refine eR_getA lk368_219 rf_129 rfl ?_
      refine eE_iload_n lk368_222 gq182 ?_
      obtain ⟨x189, h190, h⟩ := Option.bind_eq_some_iff.mp h
      refine eR_iald lk368_223 rfl rfl h190 ?_
      refine eE_icmp (t := 260) lk368_224 (by decide) (fun c191 => ?_) (fun c191 => ?_)
      · rw [if_pos c191] at h
        exact m_take_b260_ok hp0 hKK vq179 σ l1 l2 l3 l4 l6 l7 gq188 gq182 gq183 gq184 gq185 gq186 gq187 _ h
      · rw [if_neg c191] at h
        refine eE_iload lk368_227 gq180 ?_
        refine eE_aload_n lk368_229 gq188 ?_
        refine eR_getA lk368_230 rf_191 rfl ?_
        refine eE_iload_n lk368_233 gq182 ?_
        obtain ⟨x192, h193, h⟩ := Option.bind_eq_some_iff.mp h
        refine eR_iald lk368_234 rfl rfl h193 ?_
        refine eE_icmp (t := 260) lk368_235 (by decide) (fun c194 => ?_) (fun c194 => ?_)
        · rw [if_pos c194] at h
          exact m_take_b260_ok hp0 hKK vq179 σ l1 l2 l3 l4 l6 l7 gq188 gq182 gq183 gq184 gq185 gq186 gq187 _ h
        · rw [if_neg c194] at h
          refine eE_aload_n lk368_238 gq188 ?_
          refine eE_iload_n lk368_239 gq182 ?_
          refine eE_iload lk368_240 gq180 ?_
          obtain ⟨p195, h196, h⟩ := Option.bind_eq_some_iff.mp h
          refine eR_call (as := [.int l1, .int ((l4 + ((1 : Int32))) + l7)]) lk368_242 mr_524 na_372 rfl rfl (Nat.le_of_ble_eq_true rfl) wv_372 wc_372 (m_termAt_ok hp0 (d := d + 6) h196) ?_
          refine eE_aload_n lk368_245 gq188 ?_
          refine eR_getA lk368_246 rf_35 rfl ?_
          refine eE_sipush (v := 2118) lk368_249 (by decide) ?_
          refine eE_iload lk368_252 gq187 ?_
          refine eE_iadd lk368_254 ?_
          obtain ⟨x197, h198, h⟩ := Option.bind_eq_some_iff.mp h
          refine eR_iald lk368_255 rfl rfl h198 ?_
          refine eE_icmp (t := 260) lk368_256 (by decide) (fun c199 => ?_) (fun c199 => ?_)
          · rw [if_pos c199] at h
            exact m_take_b260_ok hp0 hKK vq179 p195.2 l1 l2 l3 l4 l6 l7 gq188 gq182 gq183 gq184 gq185 gq186 gq187 _ h
          · rw [if_neg c199] at h
            cases h
            exact eE_end lk368_259 rfl rfl rfl
def m_take_b197 (F : Nat)  (σ : RS) (l1 : Int32) (l2 : Int32) (l3 : Int32) (l4 : Int32) (l6 : Int32) : Option (RS) :=
  m_take_b200 F  F σ l1 l2 l3 l4 l6 ((0 : Int32))
set_option maxRecDepth 4000 in
theorem m_take_b197_ok {pF : Nat → List Value → xH → Option (Option Value × xH)} {d : Nat} {aR : Nat} {G : Nat → xC} {T : Nat × Nat} {F : Nat} (hp0 : xNP pF)  : ∀ (lv : xL) (σ : RS) (l1 : Int32) (l2 : Int32) (l3 : Int32) (l4 : Int32) (l6 : Int32), xg lv 0 = some (.ref aR) → xg lv 1 = some (.int l1) → xg lv 2 = some (.int l2) → xg lv 3 = some (.int l3) → xg lv 4 = some (.int l4) → xg lv 6 = some (.int l6) → ∀ res, m_take_b197 F  σ l1 l2 l3 l4 l6 = some res → xR pF (d + 8) kT368 16 11 false none none (layR aR res G, T) (197, lv, [], (layR aR σ G, T)) := by
  intro lv σ l1 l2 l3 l4 l6 g0 g1 g2 g3 g4 g6 res h
  unfold m_take_b197 at h
  refine eE_iconst (v := 0) lk368_197 (by decide) ?_
  refine eE_stI (j := 7) lk368_198 (Or.inl rfl) (by decide) (fun vq200 gq201 kq202 => ?_)
  have gq203 := kq202 1 _ (by decide) (fun _ => rfl) g1
  have gq204 := kq202 2 _ (by decide) (fun _ => rfl) g2
  have gq205 := kq202 3 _ (by decide) (fun _ => rfl) g3
  have gq206 := kq202 4 _ (by decide) (fun _ => rfl) g4
  have gq207 := kq202 6 _ (by decide) (fun _ => rfl) g6
  have gq208 := kq202 0 _ (by decide) (fun _ => rfl) g0
  exact m_take_b200_ok hp0  F vq200 σ l1 l2 l3 l4 l6 ((0 : Int32)) gq208 gq203 gq204 gq205 gq206 gq207 gq201 _ h
def m_take_b71 (F : Nat)  (σ : RS) (l1 : Int32) (l2 : Int32) (l3 : Int32) (l4 : Int32) (l5 : Int32) (l6 : Int32) : Option (RS) :=
  (rld σ 56 l1).bind fun x209 =>
  if xc2 .le l4 x209 = true then (
    (rld σ 55 l1).bind fun x212 =>
    if xc2 .lt l4 x212 = true then (
      m_take_b197 F  σ l1 l2 l3 l4 l6
    ) else (
      (m_termAt σ l1 l4).bind fun p215 =>
      if xc2 .eq p215.1 l5 = true then (
        m_take_b197 F  p215.2 l1 l2 l3 l4 l6
      ) else (
        (rld p215.2 55 l1).bind fun x218 =>
        if xc2 .ne l4 x218 = true then (
          m_take_b144 F  p215.2 l4 l1 l2 l3 l4
        ) else (
          m_take_b144 F  p215.2 (l4 + ((1 : Int32))) l1 l2 l3 l4
        )
      )
    )
  ) else (
    (rld σ 56 l1).bind fun x221 =>
    (m_tell F σ l1 l2 ((6 : Int32)) ((0 : Int32)) (x221 + ((1 : Int32))) l3).bind fun p223 =>
    some p223
  )
set_option maxRecDepth 4000 in
theorem m_take_b71_ok {pF : Nat → List Value → xH → Option (Option Value × xH)} {d : Nat} {aR : Nat} {G : Nat → xC} {T : Nat × Nat} {F : Nat} (hp0 : xNP pF)  : ∀ (lv : xL) (σ : RS) (l1 : Int32) (l2 : Int32) (l3 : Int32) (l4 : Int32) (l5 : Int32) (l6 : Int32), xg lv 0 = some (.ref aR) → xg lv 1 = some (.int l1) → xg lv 2 = some (.int l2) → xg lv 3 = some (.int l3) → xg lv 4 = some (.int l4) → xg lv 5 = some (.int l5) → xg lv 6 = some (.int l6) → ∀ res, m_take_b71 F  σ l1 l2 l3 l4 l5 l6 = some res → xR pF (d + 8) kT368 16 11 false none none (layR aR res G, T) (71, lv, [], (layR aR σ G, T)) := by
  intro lv σ l1 l2 l3 l4 l5 l6 g0 g1 g2 g3 g4 g5 g6 res h
  unfold m_take_b71 at h
  refine eE_iload lk368_71 g4 ?_
  refine eE_aload_n lk368_73 g0 ?_
  refine eR_getA lk368_74 rf_132 rfl ?_
  refine eE_iload_n lk368_77 g1 ?_
  obtain ⟨x209, h210, h⟩ := Option.bind_eq_some_iff.mp h
  refine eR_iald lk368_78 rfl rfl h210 ?_
  refine eE_icmp (t := 101) lk368_79 (by decide) (fun c211 => ?_) (fun c211 => ?_)
  · rw [if_pos c211] at h
    refine eE_iload lk368_101 g4 ?_
    refine eE_aload_n lk368_103 g0 ?_
    refine eR_getA lk368_104 rf_129 rfl ?_
    refine eE_iload_n lk368_107 g1 ?_
    obtain ⟨x212, h213, h⟩ := Option.bind_eq_some_iff.mp h
    refine eR_iald lk368_108 rfl rfl h213 ?_
    refine eE_icmp (t := 197) lk368_109 (by decide) (fun c214 => ?_) (fun c214 => ?_)
    · rw [if_pos c214] at h
      exact m_take_b197_ok hp0  lv σ l1 l2 l3 l4 l6 g0 g1 g2 g3 g4 g6 _ h
    · rw [if_neg c214] at h
      refine eE_aload_n lk368_112 g0 ?_
      refine eE_iload_n lk368_113 g1 ?_
      refine eE_iload lk368_114 g4 ?_
      obtain ⟨p215, h216, h⟩ := Option.bind_eq_some_iff.mp h
      refine eR_call (as := [.int l1, .int l4]) lk368_116 mr_524 na_372 rfl rfl (Nat.le_of_ble_eq_true rfl) wv_372 wc_372 (m_termAt_ok hp0 (d := d + 6) h216) ?_
      refine eE_iload lk368_119 g5 ?_
      refine eE_icmp (t := 197) lk368_121 (by decide) (fun c217 => ?_) (fun c217 => ?_)
      · rw [if_pos c217] at h
        exact m_take_b197_ok hp0  lv p215.2 l1 l2 l3 l4 l6 g0 g1 g2 g3 g4 g6 _ h
      · rw [if_neg c217] at h
        refine eE_iload lk368_124 g4 ?_
        refine eE_aload_n lk368_126 g0 ?_
        refine eR_getA lk368_127 rf_129 rfl ?_
        refine eE_iload_n lk368_130 g1 ?_
        obtain ⟨x218, h219, h⟩ := Option.bind_eq_some_iff.mp h
        refine eR_iald lk368_131 rfl rfl h219 ?_
        refine eE_icmp (t := 142) lk368_132 (by decide) (fun c220 => ?_) (fun c220 => ?_)
        · rw [if_pos c220] at h
          refine eE_iload lk368_142 g4 ?_
          exact m_take_b144_ok hp0  lv p215.2 l4 l1 l2 l3 l4 g0 g1 g2 g3 g4 _ h
        · rw [if_neg c220] at h
          refine eE_iload lk368_135 g4 ?_
          refine eE_iconst (v := 1) lk368_137 (by decide) ?_
          refine eE_iadd lk368_138 ?_
          refine eE_goto (t := 144) lk368_139 (by decide) ?_
          exact m_take_b144_ok hp0  lv p215.2 (l4 + ((1 : Int32))) l1 l2 l3 l4 g0 g1 g2 g3 g4 _ h
  · rw [if_neg c211] at h
    refine eE_aload_n lk368_82 g0 ?_
    refine eE_iload_n lk368_83 g1 ?_
    refine eE_iload_n lk368_84 g2 ?_
    refine eE_bipush (v := 6) lk368_85 (by decide) ?_
    refine eE_iconst (v := 0) lk368_87 (by decide) ?_
    refine eE_aload_n lk368_88 g0 ?_
    refine eR_getA lk368_89 rf_132 rfl ?_
    refine eE_iload_n lk368_92 g1 ?_
    obtain ⟨x221, h222, h⟩ := Option.bind_eq_some_iff.mp h
    refine eR_iald lk368_93 rfl rfl h222 ?_
    refine eE_iconst (v := 1) lk368_94 (by decide) ?_
    refine eE_iadd lk368_95 ?_
    refine eE_iload_n lk368_96 g3 ?_
    obtain ⟨p223, h224, h⟩ := Option.bind_eq_some_iff.mp h
    refine eR_call (as := [.int l1, .int l2, .int ((6 : Int32)), .int ((0 : Int32)), .int (x221 + ((1 : Int32))), .int l3]) lk368_97 mr_746 na_369 rfl rfl (Nat.le_of_ble_eq_true rfl) wv_369 wc_369 (m_tell_ok hp0 (d := d + 3) h224) ?_
    cases h
    exact eE_end lk368_100 rfl rfl rfl
def m_take_b63 (F : Nat)  (σ : RS) (l1 : Int32) (l2 : Int32) (l3 : Int32) (l4 : Int32) (l5 : Int32) (l6 : Int32) : Option (RS) :=
  if xc0 .ge l6 = true then (
    m_take_b71 F  σ l1 l2 l3 l4 l5 l6
  ) else (
    m_take_b71 F  σ l1 l2 l3 l4 l5 ((0 : Int32))
  )
set_option maxRecDepth 4000 in
theorem m_take_b63_ok {pF : Nat → List Value → xH → Option (Option Value × xH)} {d : Nat} {aR : Nat} {G : Nat → xC} {T : Nat × Nat} {F : Nat} (hp0 : xNP pF)  : ∀ (lv : xL) (σ : RS) (l1 : Int32) (l2 : Int32) (l3 : Int32) (l4 : Int32) (l5 : Int32) (l6 : Int32), xg lv 0 = some (.ref aR) → xg lv 1 = some (.int l1) → xg lv 2 = some (.int l2) → xg lv 3 = some (.int l3) → xg lv 4 = some (.int l4) → xg lv 5 = some (.int l5) → xg lv 6 = some (.int l6) → ∀ res, m_take_b63 F  σ l1 l2 l3 l4 l5 l6 = some res → xR pF (d + 8) kT368 16 11 false none none (layR aR res G, T) (63, lv, [], (layR aR σ G, T)) := by
  intro lv σ l1 l2 l3 l4 l5 l6 g0 g1 g2 g3 g4 g5 g6 res h
  unfold m_take_b63 at h
  refine eE_iload lk368_63 g6 ?_
  refine eE_if (t := 71) lk368_65 (by decide) (fun c225 => ?_) (fun c225 => ?_)
  · rw [if_pos c225] at h
    exact m_take_b71_ok hp0  lv σ l1 l2 l3 l4 l5 l6 g0 g1 g2 g3 g4 g5 g6 _ h
  · rw [if_neg c225] at h
    refine eE_iconst (v := 0) lk368_68 (by decide) ?_
    refine eE_stI (j := 6) lk368_69 (Or.inl rfl) (by decide) (fun vq226 gq227 kq228 => ?_)
    have gq229 := kq228 1 _ (by decide) (fun _ => rfl) g1
    have gq230 := kq228 2 _ (by decide) (fun _ => rfl) g2
    have gq231 := kq228 3 _ (by decide) (fun _ => rfl) g3
    have gq232 := kq228 4 _ (by decide) (fun _ => rfl) g4
    have gq233 := kq228 5 _ (by decide) (fun _ => rfl) g5
    have gq234 := kq228 0 _ (by decide) (fun _ => rfl) g0
    exact m_take_b71_ok hp0  vq226 σ l1 l2 l3 l4 l5 ((0 : Int32)) gq234 gq229 gq230 gq231 gq232 gq233 gq227 _ h
def m_take_b0 (F : Nat)  (σ : RS) (l1 : Int32) (l2 : Int32) (l3 : Int32) : Option (RS) :=
  (rld σ 12 ((2824 : Int32))).bind fun x235 =>
  (rld σ 12 ((2825 : Int32))).bind fun x244 =>
  (rld σ 10 ((353 : Int32))).bind fun x254 =>
  (rld σ 55 l1).bind fun x265 =>
  if xc2 .le (x235 + x254) (x265 + ((250 : Int32))) = true then (
    m_take_b63 F  σ l1 l2 l3 x235 x244 x254
  ) else (
    (rld σ 55 l1).bind fun x268 =>
    m_take_b63 F  σ l1 l2 l3 x235 x244 ((x268 + ((250 : Int32))) - x235)
  )
set_option maxRecDepth 4000 in
theorem m_take_b0_ok {pF : Nat → List Value → xH → Option (Option Value × xH)} {d : Nat} {aR : Nat} {G : Nat → xC} {T : Nat × Nat} {F : Nat} (hp0 : xNP pF)  : ∀ (lv : xL) (σ : RS) (l1 : Int32) (l2 : Int32) (l3 : Int32), xg lv 0 = some (.ref aR) → xg lv 1 = some (.int l1) → xg lv 2 = some (.int l2) → xg lv 3 = some (.int l3) → ∀ res, m_take_b0 F  σ l1 l2 l3 = some res → xR pF (d + 8) kT368 16 11 false none none (layR aR res G, T) (0, lv, [], (layR aR σ G, T)) := by
  intro lv σ l1 l2 l3 g0 g1 g2 g3 res h
  unfold m_take_b0 at h
  refine eE_aload_n lk368_0 g0 ?_
  refine eR_getA lk368_1 rf_32 rfl ?_
  refine eE_sipush (v := 2824) lk368_4 (by decide) ?_
  obtain ⟨x235, h236, h⟩ := Option.bind_eq_some_iff.mp h
  refine eR_iald lk368_7 rfl rfl h236 ?_
  refine eE_stI (j := 4) lk368_8 (Or.inl rfl) (by decide) (fun vq237 gq238 kq239 => ?_)
  have gq240 := kq239 1 _ (by decide) (fun _ => rfl) g1
  have gq241 := kq239 2 _ (by decide) (fun _ => rfl) g2
  have gq242 := kq239 3 _ (by decide) (fun _ => rfl) g3
  have gq243 := kq239 0 _ (by decide) (fun _ => rfl) g0
  refine eE_aload_n lk368_10 gq243 ?_
  refine eR_getA lk368_11 rf_32 rfl ?_
  refine eE_sipush (v := 2825) lk368_14 (by decide) ?_
  obtain ⟨x244, h245, h⟩ := Option.bind_eq_some_iff.mp h
  refine eR_iald lk368_17 rfl rfl h245 ?_
  refine eE_stI (j := 5) lk368_18 (Or.inl rfl) (by decide) (fun vq246 gq247 kq248 => ?_)
  have gq249 := kq248 1 _ (by decide) (fun _ => rfl) gq240
  have gq250 := kq248 2 _ (by decide) (fun _ => rfl) gq241
  have gq251 := kq248 3 _ (by decide) (fun _ => rfl) gq242
  have gq252 := kq248 0 _ (by decide) (fun _ => rfl) gq243
  have gq253 := kq248 4 _ (by decide) (fun _ => rfl) gq238
  refine eE_aload_n lk368_20 gq252 ?_
  refine eR_getA lk368_21 rf_26 rfl ?_
  refine eE_sipush (v := 353) lk368_24 (by decide) ?_
  obtain ⟨x254, h255, h⟩ := Option.bind_eq_some_iff.mp h
  refine eR_iald lk368_27 rfl rfl h255 ?_
  refine eE_stI (j := 6) lk368_28 (Or.inl rfl) (by decide) (fun vq256 gq257 kq258 => ?_)
  have gq259 := kq258 1 _ (by decide) (fun _ => rfl) gq249
  have gq260 := kq258 2 _ (by decide) (fun _ => rfl) gq250
  have gq261 := kq258 3 _ (by decide) (fun _ => rfl) gq251
  have gq262 := kq258 0 _ (by decide) (fun _ => rfl) gq252
  have gq263 := kq258 4 _ (by decide) (fun _ => rfl) gq253
  have gq264 := kq258 5 _ (by decide) (fun _ => rfl) gq247
  refine eE_iload lk368_30 gq263 ?_
  refine eE_iload lk368_32 gq257 ?_
  refine eE_iadd lk368_34 ?_
  refine eE_aload_n lk368_35 gq262 ?_
  refine eR_getA lk368_36 rf_129 rfl ?_
  refine eE_iload_n lk368_39 gq259 ?_
  obtain ⟨x265, h266, h⟩ := Option.bind_eq_some_iff.mp h
  refine eR_iald lk368_40 rfl rfl h266 ?_
  refine eE_sipush (v := 250) lk368_41 (by decide) ?_
  refine eE_iadd lk368_44 ?_
  refine eE_icmp (t := 63) lk368_45 (by decide) (fun c267 => ?_) (fun c267 => ?_)
  · rw [if_pos c267] at h
    exact m_take_b63_ok hp0  vq256 σ l1 l2 l3 x235 x244 x254 gq262 gq259 gq260 gq261 gq263 gq264 gq257 _ h
  · rw [if_neg c267] at h
    refine eE_aload_n lk368_48 gq262 ?_
    refine eR_getA lk368_49 rf_129 rfl ?_
    refine eE_iload_n lk368_52 gq259 ?_
    obtain ⟨x268, h269, h⟩ := Option.bind_eq_some_iff.mp h
    refine eR_iald lk368_53 rfl rfl h269 ?_
    refine eE_sipush (v := 250) lk368_54 (by decide) ?_
    refine eE_iadd lk368_57 ?_
    refine eE_iload lk368_58 gq263 ?_
    refine eE_isub lk368_60 ?_
    refine eE_stI (j := 6) lk368_61 (Or.inl rfl) (by decide) (fun vq270 gq271 kq272 => ?_)
    have gq273 := kq272 1 _ (by decide) (fun _ => rfl) gq259
    have gq274 := kq272 2 _ (by decide) (fun _ => rfl) gq260
    have gq275 := kq272 3 _ (by decide) (fun _ => rfl) gq261
    have gq276 := kq272 0 _ (by decide) (fun _ => rfl) gq262
    have gq277 := kq272 4 _ (by decide) (fun _ => rfl) gq263
    have gq278 := kq272 5 _ (by decide) (fun _ => rfl) gq264
    exact m_take_b63_ok hp0  vq270 σ l1 l2 l3 x235 x244 ((x268 + ((250 : Int32))) - x235) gq276 gq273 gq274 gq275 gq277 gq278 gq271 _ h
def m_take (F : Nat) (σ : RS) (l1 : Int32) (l2 : Int32) (l3 : Int32) : Option (RS) := m_take_b0 F σ l1 l2 l3
theorem m_take_ok {pF : Nat → List Value → xH → Option (Option Value × xH)} (hp0 : xNP pF) {d : Nat} {aR : Nat} {G : Nat → xC} {T : Nat × Nat} {σ : RS} {F : Nat} {l1 : Int32} {l2 : Int32} {l3 : Int32} {res : RS} (h : m_take F σ l1 l2 l3 = some res) : xCo pF (d + 9) 368 [.ref aR, .int l1, .int l2, .int l3] (layR aR σ G, T) none (layR aR res G, T) := by
  unfold m_take at h
  exact xCo_R kk_368 mo_368 ni_368 xm_368 (Nat.le_of_ble_eq_true rfl) (hp0 _ (by decide) (by decide) _ _) (m_take_b0_ok hp0 _ σ l1 l2 l3 rfl rfl rfl rfl _ h)
/-! led (321), depth 10 -/
def m_led_b70 (F : Nat)  (σ : RS) : Option (RS) :=
  some σ
set_option maxRecDepth 4000 in
theorem m_led_b70_ok {pF : Nat → List Value → xH → Option (Option Value × xH)} {d : Nat} {aR : Nat} {G : Nat → xC} {T : Nat × Nat} {F : Nat} (hp0 : xNP pF)  : ∀ (lv : xL) (σ : RS), xg lv 0 = some (.ref aR) → ∀ res, m_led_b70 F  σ = some res → xR pF (d + 9) kT321 16 6 false none none (layR aR res G, T) (70, lv, [], (layR aR σ G, T)) := by
  intro lv σ g0 res h
  unfold m_led_b70 at h
  cases h
  exact eE_end lk321_70 rfl rfl rfl
def m_led_b133 (F : Nat)  (σ : RS) : Option (RS) :=
  some σ
set_option maxRecDepth 4000 in
theorem m_led_b133_ok {pF : Nat → List Value → xH → Option (Option Value × xH)} {d : Nat} {aR : Nat} {G : Nat → xC} {T : Nat × Nat} {F : Nat} (hp0 : xNP pF)  : ∀ (lv : xL) (σ : RS), xg lv 0 = some (.ref aR) → ∀ res, m_led_b133 F  σ = some res → xR pF (d + 9) kT321 16 6 false none none (layR aR res G, T) (133, lv, [], (layR aR σ G, T)) := by
  intro lv σ g0 res h
  unfold m_led_b133 at h
  cases h
  exact eE_end lk321_133 rfl rfl rfl
def m_led_b18 (F : Nat)  (σ : RS) (s1 : Int32) (s2 : Int32) (l1 : Int32) (l2 : Int32) (l3 : Int32) (l4 : Int32) : Option (RS) :=
  (rld σ 12 (s1 + s2)).bind fun x1 =>
  (rld σ 53 l1).bind fun x11 =>
  if xc2 .ge l4 x11 = true then (
    (rld σ 73 l1).bind fun x14 =>
    if xc2 .ne x14 ((3 : Int32)) = true then (
      (rld σ 53 l1).bind fun x17 =>
      (m_stepDown F σ l1 x17 l2).bind fun p19 =>
      (rst p19 78 l1 ((p19.1 1 0))).bind fun σ21 =>
      (m_drawAlarm σ21 l1).bind fun p23 =>
      if xc2 .ne l3 ((5 : Int32)) = true then (
        (m_assemble F p23 l1 l2 x1).bind fun p26 =>
        m_led_b133 F  p26
      ) else (
        (m_take F p23 l1 l2 x1).bind fun p28 =>
        m_led_b133 F  p28
      )
    ) else (
      some σ
    )
  ) else (
    if xc2 .ne l3 ((5 : Int32)) = true then (
      (rld σ 12 ((2824 : Int32))).bind fun x31 =>
      (m_tell F σ l1 l2 ((8 : Int32)) x31 ((0 : Int32)) ((0 : Int32))).bind fun p33 =>
      m_led_b70 F  p33
    ) else (
      (m_tell F σ l1 l2 ((6 : Int32)) ((0 : Int32)) ((0 : Int32)) ((0 : Int32))).bind fun p35 =>
      m_led_b70 F  p35
    )
  )
set_option maxRecDepth 4000 in
theorem m_led_b18_ok {pF : Nat → List Value → xH → Option (Option Value × xH)} {d : Nat} {aR : Nat} {G : Nat → xC} {T : Nat × Nat} {F : Nat} (hp0 : xNP pF)  : ∀ (lv : xL) (σ : RS) (s1 : Int32) (s2 : Int32) (l1 : Int32) (l2 : Int32) (l3 : Int32) (l4 : Int32), xg lv 0 = some (.ref aR) → xg lv 1 = some (.int l1) → xg lv 2 = some (.int l2) → xg lv 3 = some (.int l3) → xg lv 4 = some (.int l4) → ∀ res, m_led_b18 F  σ s1 s2 l1 l2 l3 l4 = some res → xR pF (d + 9) kT321 16 6 false none none (layR aR res G, T) (18, lv, [.int s2, .int s1, .ref (aR + rpos 12)], (layR aR σ G, T)) := by
  intro lv σ s1 s2 l1 l2 l3 l4 g0 g1 g2 g3 g4 res h
  unfold m_led_b18 at h
  refine eE_iadd lk321_18 ?_
  obtain ⟨x1, h2, h⟩ := Option.bind_eq_some_iff.mp h
  refine eR_iald lk321_19 rfl rfl h2 ?_
  refine eE_stI (j := 5) lk321_20 (Or.inl rfl) (by decide) (fun vq3 gq4 kq5 => ?_)
  have gq6 := kq5 1 _ (by decide) (fun _ => rfl) g1
  have gq7 := kq5 2 _ (by decide) (fun _ => rfl) g2
  have gq8 := kq5 3 _ (by decide) (fun _ => rfl) g3
  have gq9 := kq5 4 _ (by decide) (fun _ => rfl) g4
  have gq10 := kq5 0 _ (by decide) (fun _ => rfl) g0
  refine eE_iload lk321_22 gq9 ?_
  refine eE_aload_n lk321_24 gq10 ?_
  refine eR_getA lk321_25 rf_123 rfl ?_
  refine eE_iload_n lk321_28 gq6 ?_
  obtain ⟨x11, h12, h⟩ := Option.bind_eq_some_iff.mp h
  refine eR_iald lk321_29 rfl rfl h12 ?_
  refine eE_icmp (t := 71) lk321_30 (by decide) (fun c13 => ?_) (fun c13 => ?_)
  · rw [if_pos c13] at h
    refine eE_aload_n lk321_71 gq10 ?_
    refine eR_getA lk321_72 rf_185 rfl ?_
    refine eE_iload_n lk321_75 gq6 ?_
    obtain ⟨x14, h15, h⟩ := Option.bind_eq_some_iff.mp h
    refine eR_iald lk321_76 rfl rfl h15 ?_
    refine eE_iconst (v := 3) lk321_77 (by decide) ?_
    refine eE_icmp (t := 82) lk321_78 (by decide) (fun c16 => ?_) (fun c16 => ?_)
    · rw [if_pos c16] at h
      refine eE_aload_n lk321_82 gq10 ?_
      refine eE_iload_n lk321_83 gq6 ?_
      refine eE_aload_n lk321_84 gq10 ?_
      refine eR_getA lk321_85 rf_123 rfl ?_
      refine eE_iload_n lk321_88 gq6 ?_
      obtain ⟨x17, h18, h⟩ := Option.bind_eq_some_iff.mp h
      refine eR_iald lk321_89 rfl rfl h18 ?_
      refine eE_iload_n lk321_90 gq7 ?_
      obtain ⟨p19, h20, h⟩ := Option.bind_eq_some_iff.mp h
      refine eR_call (as := [.int l1, .int x17, .int l2]) lk321_91 mr_657 na_363 rfl rfl (Nat.le_of_ble_eq_true rfl) wv_363 wc_363 (m_stepDown_ok hp0 (d := d + 4) h20) ?_
      refine eE_aload_n lk321_94 gq10 ?_
      refine eR_getA lk321_95 rf_200 rfl ?_
      refine eE_iload_n lk321_98 gq6 ?_
      refine eE_aload_n lk321_99 gq10 ?_
      refine eR_get lk321_100 rf_431 rfl ?_
      obtain ⟨σ21, h22, h⟩ := Option.bind_eq_some_iff.mp h
      refine eR_iast lk321_103 rfl rfl h22 ?_
      refine eE_aload_n lk321_104 gq10 ?_
      refine eE_iload_n lk321_105 gq6 ?_
      obtain ⟨p23, h24, h⟩ := Option.bind_eq_some_iff.mp h
      refine eR_call (as := [.int l1]) lk321_106 mr_389 na_274 rfl rfl (Nat.le_of_ble_eq_true rfl) wv_274 wc_274 (m_drawAlarm_ok hp0 (d := d + 7) h24) ?_
      refine eE_iload_n lk321_109 gq8 ?_
      refine eE_iconst (v := 5) lk321_110 (by decide) ?_
      refine eE_icmp (t := 125) lk321_111 (by decide) (fun c25 => ?_) (fun c25 => ?_)
      · rw [if_pos c25] at h
        refine eE_aload_n lk321_125 gq10 ?_
        refine eE_iload_n lk321_126 gq6 ?_
        refine eE_iload_n lk321_127 gq7 ?_
        refine eE_iload lk321_128 gq4 ?_
        obtain ⟨p26, h27, h⟩ := Option.bind_eq_some_iff.mp h
        refine eR_call (as := [.int l1, .int l2, .int x1]) lk321_130 mr_752 na_250 rfl rfl (Nat.le_of_ble_eq_true rfl) wv_250 wc_250 (m_assemble_ok hp0 (d := d + 3) h27) ?_
        exact m_led_b133_ok hp0  vq3 p26 gq10 _ h
      · rw [if_neg c25] at h
        refine eE_aload_n lk321_114 gq10 ?_
        refine eE_iload_n lk321_115 gq6 ?_
        refine eE_iload_n lk321_116 gq7 ?_
        refine eE_iload lk321_117 gq4 ?_
        obtain ⟨p28, h29, h⟩ := Option.bind_eq_some_iff.mp h
        refine eR_call (as := [.int l1, .int l2, .int x1]) lk321_119 mr_749 na_368 rfl rfl (Nat.le_of_ble_eq_true rfl) wv_368 wc_368 (m_take_ok hp0 (d := d + 0) h29) ?_
        refine eE_goto (t := 133) lk321_122 (by decide) ?_
        exact m_led_b133_ok hp0  vq3 p28 gq10 _ h
    · rw [if_neg c16] at h
      cases h
      exact eE_end lk321_81 rfl rfl rfl
  · rw [if_neg c13] at h
    refine eE_iload_n lk321_33 gq8 ?_
    refine eE_iconst (v := 5) lk321_34 (by decide) ?_
    refine eE_icmp (t := 52) lk321_35 (by decide) (fun c30 => ?_) (fun c30 => ?_)
    · rw [if_pos c30] at h
      refine eE_aload_n lk321_52 gq10 ?_
      refine eE_iload_n lk321_53 gq6 ?_
      refine eE_iload_n lk321_54 gq7 ?_
      refine eE_bipush (v := 8) lk321_55 (by decide) ?_
      refine eE_aload_n lk321_57 gq10 ?_
      refine eR_getA lk321_58 rf_32 rfl ?_
      refine eE_sipush (v := 2824) lk321_61 (by decide) ?_
      obtain ⟨x31, h32, h⟩ := Option.bind_eq_some_iff.mp h
      refine eR_iald lk321_64 rfl rfl h32 ?_
      refine eE_iconst (v := 0) lk321_65 (by decide) ?_
      refine eE_iconst (v := 0) lk321_66 (by decide) ?_
      obtain ⟨p33, h34, h⟩ := Option.bind_eq_some_iff.mp h
      refine eR_call (as := [.int l1, .int l2, .int ((8 : Int32)), .int x31, .int ((0 : Int32)), .int ((0 : Int32))]) lk321_67 mr_746 na_369 rfl rfl (Nat.le_of_ble_eq_true rfl) wv_369 wc_369 (m_tell_ok hp0 (d := d + 4) h34) ?_
      exact m_led_b70_ok hp0  vq3 p33 gq10 _ h
    · rw [if_neg c30] at h
      refine eE_aload_n lk321_38 gq10 ?_
      refine eE_iload_n lk321_39 gq6 ?_
      refine eE_iload_n lk321_40 gq7 ?_
      refine eE_bipush (v := 6) lk321_41 (by decide) ?_
      refine eE_iconst (v := 0) lk321_43 (by decide) ?_
      refine eE_iconst (v := 0) lk321_44 (by decide) ?_
      refine eE_iconst (v := 0) lk321_45 (by decide) ?_
      obtain ⟨p35, h36, h⟩ := Option.bind_eq_some_iff.mp h
      refine eR_call (as := [.int l1, .int l2, .int ((6 : Int32)), .int ((0 : Int32)), .int ((0 : Int32)), .int ((0 : Int32))]) lk321_46 mr_746 na_369 rfl rfl (Nat.le_of_ble_eq_true rfl) wv_369 wc_369 (m_tell_ok hp0 (d := d + 4) h36) ?_
      refine eE_goto (t := 70) lk321_49 (by decide) ?_
      exact m_led_b70_ok hp0  vq3 p35 gq10 _ h
def m_led_b0 (F : Nat)  (σ : RS) (l1 : Int32) (l2 : Int32) (l3 : Int32) (l4 : Int32) : Option (RS) :=
  if xc2 .ne l3 ((5 : Int32)) = true then (
    m_led_b18 F  σ ((2824 : Int32)) ((6 : Int32)) l1 l2 l3 l4
  ) else (
    m_led_b18 F  σ ((2824 : Int32)) ((3 : Int32)) l1 l2 l3 l4
  )
set_option maxRecDepth 4000 in
theorem m_led_b0_ok {pF : Nat → List Value → xH → Option (Option Value × xH)} {d : Nat} {aR : Nat} {G : Nat → xC} {T : Nat × Nat} {F : Nat} (hp0 : xNP pF)  : ∀ (lv : xL) (σ : RS) (l1 : Int32) (l2 : Int32) (l3 : Int32) (l4 : Int32), xg lv 0 = some (.ref aR) → xg lv 1 = some (.int l1) → xg lv 2 = some (.int l2) → xg lv 3 = some (.int l3) → xg lv 4 = some (.int l4) → ∀ res, m_led_b0 F  σ l1 l2 l3 l4 = some res → xR pF (d + 9) kT321 16 6 false none none (layR aR res G, T) (0, lv, [], (layR aR σ G, T)) := by
  intro lv σ l1 l2 l3 l4 g0 g1 g2 g3 g4 res h
  unfold m_led_b0 at h
  refine eE_aload_n lk321_0 g0 ?_
  refine eR_getA lk321_1 rf_32 rfl ?_
  refine eE_sipush (v := 2824) lk321_4 (by decide) ?_
  refine eE_iload_n lk321_7 g3 ?_
  refine eE_iconst (v := 5) lk321_8 (by decide) ?_
  refine eE_icmp (t := 16) lk321_9 (by decide) (fun c37 => ?_) (fun c37 => ?_)
  · rw [if_pos c37] at h
    refine eE_bipush (v := 6) lk321_16 (by decide) ?_
    exact m_led_b18_ok hp0  lv σ ((2824 : Int32)) ((6 : Int32)) l1 l2 l3 l4 g0 g1 g2 g3 g4 _ h
  · rw [if_neg c37] at h
    refine eE_iconst (v := 3) lk321_12 (by decide) ?_
    refine eE_goto (t := 18) lk321_13 (by decide) ?_
    exact m_led_b18_ok hp0  lv σ ((2824 : Int32)) ((3 : Int32)) l1 l2 l3 l4 g0 g1 g2 g3 g4 _ h
def m_led (F : Nat) (σ : RS) (l1 : Int32) (l2 : Int32) (l3 : Int32) (l4 : Int32) : Option (RS) := m_led_b0 F σ l1 l2 l3 l4
theorem m_led_ok {pF : Nat → List Value → xH → Option (Option Value × xH)} (hp0 : xNP pF) {d : Nat} {aR : Nat} {G : Nat → xC} {T : Nat × Nat} {σ : RS} {F : Nat} {l1 : Int32} {l2 : Int32} {l3 : Int32} {l4 : Int32} {res : RS} (h : m_led F σ l1 l2 l3 l4 = some res) : xCo pF (d + 10) 321 [.ref aR, .int l1, .int l2, .int l3, .int l4] (layR aR σ G, T) none (layR aR res G, T) := by
  unfold m_led at h
  exact xCo_R kk_321 mo_321 ni_321 xm_321 (Nat.le_of_ble_eq_true rfl) (hp0 _ (by decide) (by decide) _ _) (m_led_b0_ok hp0 _ σ l1 l2 l3 l4 rfl rfl rfl rfl rfl _ h)
/-! vote (379), depth 5 -/
def m_vote_b105 (F : Nat)  (σ : RS) (s1 : Int32) (s2 : Int32) (s3 : Int32) (l1 : Int32) (l2 : Int32) : Option (RS) :=
  (m_write σ s1 s2 s3 ((0 : Int32)) ((0 : Int32))).bind fun p1 =>
  (m_post F p1 l1 l2).bind fun p3 =>
  some p3
set_option maxRecDepth 4000 in
theorem m_vote_b105_ok {pF : Nat → List Value → xH → Option (Option Value × xH)} {d : Nat} {aR : Nat} {G : Nat → xC} {T : Nat × Nat} {F : Nat} (hp0 : xNP pF)  : ∀ (lv : xL) (σ : RS) (s1 : Int32) (s2 : Int32) (s3 : Int32) (l1 : Int32) (l2 : Int32), xg lv 0 = some (.ref aR) → xg lv 1 = some (.int l1) → xg lv 2 = some (.int l2) → ∀ res, m_vote_b105 F  σ s1 s2 s3 l1 l2 = some res → xR pF (d + 4) kT379 16 7 false none none (layR aR res G, T) (105, lv, [.int s3, .int s2, .int s1, .ref aR], (layR aR σ G, T)) := by
  intro lv σ s1 s2 s3 l1 l2 g0 g1 g2 res h
  unfold m_vote_b105 at h
  refine eE_iconst (v := 0) lk379_105 (by decide) ?_
  refine eE_iconst (v := 0) lk379_106 (by decide) ?_
  obtain ⟨p1, h2, h⟩ := Option.bind_eq_some_iff.mp h
  refine eR_call (as := [.int s1, .int s2, .int s3, .int ((0 : Int32)), .int ((0 : Int32))]) lk379_107 mr_647 na_381 rfl rfl (Nat.le_of_ble_eq_true rfl) wv_381 wc_381 (m_write_ok hp0 (d := d + 3) h2) ?_
  refine eE_aload_n lk379_110 g0 ?_
  refine eE_iload_n lk379_111 g1 ?_
  refine eE_iload_n lk379_112 g2 ?_
  obtain ⟨p3, h4, h⟩ := Option.bind_eq_some_iff.mp h
  refine eR_call (as := [.int l1, .int l2]) lk379_113 mr_651 na_339 rfl rfl (Nat.le_of_ble_eq_true rfl) wv_339 wc_339 (m_post_ok hp0 (d := d + 0) h4) ?_
  cases h
  exact eE_end lk379_116 rfl rfl rfl
def m_vote_b87 (F : Nat)  (σ : RS) (l1 : Int32) (l2 : Int32) (l6 : Int32) : Option (RS) :=
  (rld σ 53 l1).bind fun x5 =>
  if xc0 .eq l6 = true then (
    m_vote_b105 F  σ ((4 : Int32)) x5 ((0 : Int32)) l1 l2
  ) else (
    m_vote_b105 F  σ ((4 : Int32)) x5 ((1 : Int32)) l1 l2
  )
set_option maxRecDepth 4000 in
theorem m_vote_b87_ok {pF : Nat → List Value → xH → Option (Option Value × xH)} {d : Nat} {aR : Nat} {G : Nat → xC} {T : Nat × Nat} {F : Nat} (hp0 : xNP pF)  : ∀ (lv : xL) (σ : RS) (l1 : Int32) (l2 : Int32) (l6 : Int32), xg lv 0 = some (.ref aR) → xg lv 1 = some (.int l1) → xg lv 2 = some (.int l2) → xg lv 6 = some (.int l6) → ∀ res, m_vote_b87 F  σ l1 l2 l6 = some res → xR pF (d + 4) kT379 16 7 false none none (layR aR res G, T) (87, lv, [], (layR aR σ G, T)) := by
  intro lv σ l1 l2 l6 g0 g1 g2 g6 res h
  unfold m_vote_b87 at h
  refine eE_aload_n lk379_87 g0 ?_
  refine eE_iconst (v := 4) lk379_88 (by decide) ?_
  refine eE_aload_n lk379_89 g0 ?_
  refine eR_getA lk379_90 rf_123 rfl ?_
  refine eE_iload_n lk379_93 g1 ?_
  obtain ⟨x5, h6, h⟩ := Option.bind_eq_some_iff.mp h
  refine eR_iald lk379_94 rfl rfl h6 ?_
  refine eE_iload lk379_95 g6 ?_
  refine eE_if (t := 104) lk379_97 (by decide) (fun c7 => ?_) (fun c7 => ?_)
  · rw [if_pos c7] at h
    refine eE_iconst (v := 0) lk379_104 (by decide) ?_
    exact m_vote_b105_ok hp0  lv σ ((4 : Int32)) x5 ((0 : Int32)) l1 l2 g0 g1 g2 _ h
  · rw [if_neg c7] at h
    refine eE_iconst (v := 1) lk379_100 (by decide) ?_
    refine eE_goto (t := 105) lk379_101 (by decide) ?_
    exact m_vote_b105_ok hp0  lv σ ((4 : Int32)) x5 ((1 : Int32)) l1 l2 g0 g1 g2 _ h
def m_vote_b75 (F : Nat)  (σ : RS) (l1 : Int32) (l2 : Int32) (l6 : Int32) : Option (RS) :=
  (rst σ 73 l1 (((0 : Int32)))).bind fun σ8 =>
  (m_drawAlarm σ8 l1).bind fun p10 =>
  m_vote_b87 F  p10 l1 l2 l6
set_option maxRecDepth 4000 in
theorem m_vote_b75_ok {pF : Nat → List Value → xH → Option (Option Value × xH)} {d : Nat} {aR : Nat} {G : Nat → xC} {T : Nat × Nat} {F : Nat} (hp0 : xNP pF)  : ∀ (lv : xL) (σ : RS) (l1 : Int32) (l2 : Int32) (l6 : Int32), xg lv 0 = some (.ref aR) → xg lv 1 = some (.int l1) → xg lv 2 = some (.int l2) → xg lv 6 = some (.int l6) → ∀ res, m_vote_b75 F  σ l1 l2 l6 = some res → xR pF (d + 4) kT379 16 7 false none none (layR aR res G, T) (75, lv, [], (layR aR σ G, T)) := by
  intro lv σ l1 l2 l6 g0 g1 g2 g6 res h
  unfold m_vote_b75 at h
  refine eE_aload_n lk379_75 g0 ?_
  refine eR_getA lk379_76 rf_185 rfl ?_
  refine eE_iload_n lk379_79 g1 ?_
  refine eE_iconst (v := 0) lk379_80 (by decide) ?_
  obtain ⟨σ8, h9, h⟩ := Option.bind_eq_some_iff.mp h
  refine eR_iast lk379_81 rfl rfl h9 ?_
  refine eE_aload_n lk379_82 g0 ?_
  refine eE_iload_n lk379_83 g1 ?_
  obtain ⟨p10, h11, h⟩ := Option.bind_eq_some_iff.mp h
  refine eR_call (as := [.int l1]) lk379_84 mr_389 na_274 rfl rfl (Nat.le_of_ble_eq_true rfl) wv_274 wc_274 (m_drawAlarm_ok hp0 (d := d + 2) h11) ?_
  exact m_vote_b87_ok hp0  lv p10 l1 l2 l6 g0 g1 g2 g6 _ h
def m_vote_b46 (F : Nat)  (σ : RS) (s0 : Int32) (l1 : Int32) (l2 : Int32) : Option (RS) :=
  if xc0 .eq s0 = true then (
    m_vote_b87 F  σ l1 l2 s0
  ) else (
    (rld σ 54 l1).bind fun x19 =>
    if xc2 .eq x19 l2 = true then (
      m_vote_b75 F  σ l1 l2 s0
    ) else (
      (rst σ 54 l1 l2).bind fun σ22 =>
      (m_writeSlot σ22 l1).bind fun p24 =>
      m_vote_b75 F  p24 l1 l2 s0
    )
  )
set_option maxRecDepth 4000 in
theorem m_vote_b46_ok {pF : Nat → List Value → xH → Option (Option Value × xH)} {d : Nat} {aR : Nat} {G : Nat → xC} {T : Nat × Nat} {F : Nat} (hp0 : xNP pF)  : ∀ (lv : xL) (σ : RS) (s0 : Int32) (l1 : Int32) (l2 : Int32), xg lv 0 = some (.ref aR) → xg lv 1 = some (.int l1) → xg lv 2 = some (.int l2) → ∀ res, m_vote_b46 F  σ s0 l1 l2 = some res → xR pF (d + 4) kT379 16 7 false none none (layR aR res G, T) (46, lv, [.int s0], (layR aR σ G, T)) := by
  intro lv σ s0 l1 l2 g0 g1 g2 res h
  unfold m_vote_b46 at h
  refine eE_stI (j := 6) lk379_46 (Or.inl rfl) (by decide) (fun vq12 gq13 kq14 => ?_)
  have gq15 := kq14 1 _ (by decide) (fun _ => rfl) g1
  have gq16 := kq14 2 _ (by decide) (fun _ => rfl) g2
  have gq17 := kq14 0 _ (by decide) (fun _ => rfl) g0
  refine eE_iload lk379_48 gq13 ?_
  refine eE_if (t := 87) lk379_50 (by decide) (fun c18 => ?_) (fun c18 => ?_)
  · rw [if_pos c18] at h
    exact m_vote_b87_ok hp0  vq12 σ l1 l2 s0 gq17 gq15 gq16 gq13 _ h
  · rw [if_neg c18] at h
    refine eE_aload_n lk379_53 gq17 ?_
    refine eR_getA lk379_54 rf_126 rfl ?_
    refine eE_iload_n lk379_57 gq15 ?_
    obtain ⟨x19, h20, h⟩ := Option.bind_eq_some_iff.mp h
    refine eR_iald lk379_58 rfl rfl h20 ?_
    refine eE_iload_n lk379_59 gq16 ?_
    refine eE_icmp (t := 75) lk379_60 (by decide) (fun c21 => ?_) (fun c21 => ?_)
    · rw [if_pos c21] at h
      exact m_vote_b75_ok hp0  vq12 σ l1 l2 s0 gq17 gq15 gq16 gq13 _ h
    · rw [if_neg c21] at h
      refine eE_aload_n lk379_63 gq17 ?_
      refine eR_getA lk379_64 rf_126 rfl ?_
      refine eE_iload_n lk379_67 gq15 ?_
      refine eE_iload_n lk379_68 gq16 ?_
      obtain ⟨σ22, h23, h⟩ := Option.bind_eq_some_iff.mp h
      refine eR_iast lk379_69 rfl rfl h23 ?_
      refine eE_aload_n lk379_70 gq17 ?_
      refine eE_iload_n lk379_71 gq15 ?_
      obtain ⟨p24, h25, h⟩ := Option.bind_eq_some_iff.mp h
      refine eR_call (as := [.int l1]) lk379_72 mr_641 na_384 rfl rfl (Nat.le_of_ble_eq_true rfl) wv_384 wc_384 (m_writeSlot_ok hp0 (d := d + 0) h25) ?_
      exact m_vote_b75_ok hp0  vq12 p24 l1 l2 s0 gq17 gq15 gq16 gq13 _ h
def m_vote_b45 (F : Nat)  (σ : RS) (l1 : Int32) (l2 : Int32) : Option (RS) :=
  m_vote_b46 F  σ ((0 : Int32)) l1 l2
set_option maxRecDepth 4000 in
theorem m_vote_b45_ok {pF : Nat → List Value → xH → Option (Option Value × xH)} {d : Nat} {aR : Nat} {G : Nat → xC} {T : Nat × Nat} {F : Nat} (hp0 : xNP pF)  : ∀ (lv : xL) (σ : RS) (l1 : Int32) (l2 : Int32), xg lv 0 = some (.ref aR) → xg lv 1 = some (.int l1) → xg lv 2 = some (.int l2) → ∀ res, m_vote_b45 F  σ l1 l2 = some res → xR pF (d + 4) kT379 16 7 false none none (layR aR res G, T) (45, lv, [], (layR aR σ G, T)) := by
  intro lv σ l1 l2 g0 g1 g2 res h
  unfold m_vote_b45 at h
  refine eE_iconst (v := 0) lk379_45 (by decide) ?_
  exact m_vote_b46_ok hp0  lv σ ((0 : Int32)) l1 l2 g0 g1 g2 _ h
def m_vote_b29 (F : Nat)  (σ : RS) (l1 : Int32) (l2 : Int32) (l4 : Int32) (l5 : Int32) : Option (RS) :=
  (m_isAsNew σ l1 l4 l5).bind fun p26 =>
  if xc0 .eq p26.1 = true then (
    m_vote_b45 F  p26.2 l1 l2
  ) else (
    m_vote_b46 F  p26.2 ((1 : Int32)) l1 l2
  )
set_option maxRecDepth 4000 in
theorem m_vote_b29_ok {pF : Nat → List Value → xH → Option (Option Value × xH)} {d : Nat} {aR : Nat} {G : Nat → xC} {T : Nat × Nat} {F : Nat} (hp0 : xNP pF)  : ∀ (lv : xL) (σ : RS) (l1 : Int32) (l2 : Int32) (l4 : Int32) (l5 : Int32), xg lv 0 = some (.ref aR) → xg lv 1 = some (.int l1) → xg lv 2 = some (.int l2) → xg lv 4 = some (.int l4) → xg lv 5 = some (.int l5) → ∀ res, m_vote_b29 F  σ l1 l2 l4 l5 = some res → xR pF (d + 4) kT379 16 7 false none none (layR aR res G, T) (29, lv, [], (layR aR σ G, T)) := by
  intro lv σ l1 l2 l4 l5 g0 g1 g2 g4 g5 res h
  unfold m_vote_b29 at h
  refine eE_aload_n lk379_29 g0 ?_
  refine eE_iload_n lk379_30 g1 ?_
  refine eE_iload lk379_31 g4 ?_
  refine eE_iload lk379_33 g5 ?_
  obtain ⟨p26, h27, h⟩ := Option.bind_eq_some_iff.mp h
  refine eR_call (as := [.int l1, .int l4, .int l5]) lk379_35 mr_733 na_299 rfl rfl (Nat.le_of_ble_eq_true rfl) wv_299 wc_299 (m_isAsNew_ok hp0 (d := d + 1) h27) ?_
  refine eE_if (t := 45) lk379_38 (by decide) (fun c28 => ?_) (fun c28 => ?_)
  · rw [if_pos c28] at h
    exact m_vote_b45_ok hp0  lv p26.2 l1 l2 g0 g1 g2 _ h
  · rw [if_neg c28] at h
    refine eE_iconst (v := 1) lk379_41 (by decide) ?_
    refine eE_goto (t := 46) lk379_42 (by decide) ?_
    exact m_vote_b46_ok hp0  lv p26.2 ((1 : Int32)) l1 l2 g0 g1 g2 _ h
def m_vote_b0 (F : Nat)  (σ : RS) (l1 : Int32) (l2 : Int32) (l3 : Int32) (l4 : Int32) (l5 : Int32) : Option (RS) :=
  (rld σ 53 l1).bind fun x29 =>
  if xc2 .ne l3 x29 = true then (
    m_vote_b45 F  σ l1 l2
  ) else (
    (rld σ 54 l1).bind fun x32 =>
    if xc0 .lt x32 = true then (
      m_vote_b29 F  σ l1 l2 l4 l5
    ) else (
      (rld σ 54 l1).bind fun x35 =>
      if xc2 .ne x35 l2 = true then (
        m_vote_b45 F  σ l1 l2
      ) else (
        m_vote_b29 F  σ l1 l2 l4 l5
      )
    )
  )
set_option maxRecDepth 4000 in
theorem m_vote_b0_ok {pF : Nat → List Value → xH → Option (Option Value × xH)} {d : Nat} {aR : Nat} {G : Nat → xC} {T : Nat × Nat} {F : Nat} (hp0 : xNP pF)  : ∀ (lv : xL) (σ : RS) (l1 : Int32) (l2 : Int32) (l3 : Int32) (l4 : Int32) (l5 : Int32), xg lv 0 = some (.ref aR) → xg lv 1 = some (.int l1) → xg lv 2 = some (.int l2) → xg lv 3 = some (.int l3) → xg lv 4 = some (.int l4) → xg lv 5 = some (.int l5) → ∀ res, m_vote_b0 F  σ l1 l2 l3 l4 l5 = some res → xR pF (d + 4) kT379 16 7 false none none (layR aR res G, T) (0, lv, [], (layR aR σ G, T)) := by
  intro lv σ l1 l2 l3 l4 l5 g0 g1 g2 g3 g4 g5 res h
  unfold m_vote_b0 at h
  refine eE_iload_n lk379_0 g3 ?_
  refine eE_aload_n lk379_1 g0 ?_
  refine eR_getA lk379_2 rf_123 rfl ?_
  refine eE_iload_n lk379_5 g1 ?_
  obtain ⟨x29, h30, h⟩ := Option.bind_eq_some_iff.mp h
  refine eR_iald lk379_6 rfl rfl h30 ?_
  refine eE_icmp (t := 45) lk379_7 (by decide) (fun c31 => ?_) (fun c31 => ?_)
  · rw [if_pos c31] at h
    exact m_vote_b45_ok hp0  lv σ l1 l2 g0 g1 g2 _ h
  · rw [if_neg c31] at h
    refine eE_aload_n lk379_10 g0 ?_
    refine eR_getA lk379_11 rf_126 rfl ?_
    refine eE_iload_n lk379_14 g1 ?_
    obtain ⟨x32, h33, h⟩ := Option.bind_eq_some_iff.mp h
    refine eR_iald lk379_15 rfl rfl h33 ?_
    refine eE_if (t := 29) lk379_16 (by decide) (fun c34 => ?_) (fun c34 => ?_)
    · rw [if_pos c34] at h
      exact m_vote_b29_ok hp0  lv σ l1 l2 l4 l5 g0 g1 g2 g4 g5 _ h
    · rw [if_neg c34] at h
      refine eE_aload_n lk379_19 g0 ?_
      refine eR_getA lk379_20 rf_126 rfl ?_
      refine eE_iload_n lk379_23 g1 ?_
      obtain ⟨x35, h36, h⟩ := Option.bind_eq_some_iff.mp h
      refine eR_iald lk379_24 rfl rfl h36 ?_
      refine eE_iload_n lk379_25 g2 ?_
      refine eE_icmp (t := 45) lk379_26 (by decide) (fun c37 => ?_) (fun c37 => ?_)
      · rw [if_pos c37] at h
        exact m_vote_b45_ok hp0  lv σ l1 l2 g0 g1 g2 _ h
      · rw [if_neg c37] at h
        exact m_vote_b29_ok hp0  lv σ l1 l2 l4 l5 g0 g1 g2 g4 g5 _ h
def m_vote (F : Nat) (σ : RS) (l1 : Int32) (l2 : Int32) (l3 : Int32) (l4 : Int32) (l5 : Int32) : Option (RS) := m_vote_b0 F σ l1 l2 l3 l4 l5
theorem m_vote_ok {pF : Nat → List Value → xH → Option (Option Value × xH)} (hp0 : xNP pF) {d : Nat} {aR : Nat} {G : Nat → xC} {T : Nat × Nat} {σ : RS} {F : Nat} {l1 : Int32} {l2 : Int32} {l3 : Int32} {l4 : Int32} {l5 : Int32} {res : RS} (h : m_vote F σ l1 l2 l3 l4 l5 = some res) : xCo pF (d + 5) 379 [.ref aR, .int l1, .int l2, .int l3, .int l4, .int l5] (layR aR σ G, T) none (layR aR res G, T) := by
  unfold m_vote at h
  exact xCo_R kk_379 mo_379 ni_379 xm_379 (Nat.le_of_ble_eq_true rfl) (hp0 _ (by decide) (by decide) _ _) (m_vote_b0_ok hp0 _ σ l1 l2 l3 l4 l5 rfl rfl rfl rfl rfl rfl _ h)
/-! came (253), depth 11 -/
def m_came_b474 (F : Nat)  (σ : RS) : Option (RS) :=
  some σ
set_option maxRecDepth 4000 in
theorem m_came_b474_ok {pF : Nat → List Value → xH → Option (Option Value × xH)} {d : Nat} {aR : Nat} {G : Nat → xC} {T : Nat × Nat} {F : Nat} (hp0 : xNP pF)  : ∀ (lv : xL) (σ : RS), xg lv 0 = some (.ref aR) → ∀ res, m_came_b474 F  σ = some res → xR pF (d + 10) kT253 16 9 false none none (layR aR res G, T) (474, lv, [], (layR aR σ G, T)) := by
  intro lv σ g0 res h
  unfold m_came_b474 at h
  cases h
  exact eE_end lk253_474 rfl rfl rfl
def m_came_b393 (F : Nat)  (σ : RS) (l1 : Int32) (l2 : Int32) (l3 : Int32) (l4 : Int32) (l5 : Int32) (l6 : Int32) (l7 : Int32) : Option (RS) :=
  (rld σ 53 l1).bind fun x1 =>
  if xc2 .ne l4 x1 = true then (
    m_came_b474 F  σ
  ) else (
    (rld σ 73 l1).bind fun x4 =>
    if xc2 .ne x4 ((3 : Int32)) = true then (
      m_came_b474 F  σ
    ) else (
      (m_isPeer σ l1 l2).bind fun p7 =>
      if xc0 .eq p7.1 = true then (
        m_came_b474 F  p7.2
      ) else (
        (m_heardOf F p7.2 l1 l2 l3 l5 l6 l7).bind fun p10 =>
        m_came_b474 F  p10
      )
    )
  )
set_option maxRecDepth 4000 in
theorem m_came_b393_ok {pF : Nat → List Value → xH → Option (Option Value × xH)} {d : Nat} {aR : Nat} {G : Nat → xC} {T : Nat × Nat} {F : Nat} (hp0 : xNP pF)  : ∀ (lv : xL) (σ : RS) (l1 : Int32) (l2 : Int32) (l3 : Int32) (l4 : Int32) (l5 : Int32) (l6 : Int32) (l7 : Int32), xg lv 0 = some (.ref aR) → xg lv 1 = some (.int l1) → xg lv 2 = some (.int l2) → xg lv 3 = some (.int l3) → xg lv 4 = some (.int l4) → xg lv 5 = some (.int l5) → xg lv 6 = some (.int l6) → xg lv 7 = some (.int l7) → ∀ res, m_came_b393 F  σ l1 l2 l3 l4 l5 l6 l7 = some res → xR pF (d + 10) kT253 16 9 false none none (layR aR res G, T) (393, lv, [], (layR aR σ G, T)) := by
  intro lv σ l1 l2 l3 l4 l5 l6 l7 g0 g1 g2 g3 g4 g5 g6 g7 res h
  unfold m_came_b393 at h
  refine eE_iload lk253_393 g4 ?_
  refine eE_aload_n lk253_395 g0 ?_
  refine eR_getA lk253_396 rf_123 rfl ?_
  refine eE_iload_n lk253_399 g1 ?_
  obtain ⟨x1, h2, h⟩ := Option.bind_eq_some_iff.mp h
  refine eR_iald lk253_400 rfl rfl h2 ?_
  refine eE_icmp (t := 474) lk253_401 (by decide) (fun c3 => ?_) (fun c3 => ?_)
  · rw [if_pos c3] at h
    exact m_came_b474_ok hp0  lv σ g0 _ h
  · rw [if_neg c3] at h
    refine eE_aload_n lk253_404 g0 ?_
    refine eR_getA lk253_405 rf_185 rfl ?_
    refine eE_iload_n lk253_408 g1 ?_
    obtain ⟨x4, h5, h⟩ := Option.bind_eq_some_iff.mp h
    refine eR_iald lk253_409 rfl rfl h5 ?_
    refine eE_iconst (v := 3) lk253_410 (by decide) ?_
    refine eE_icmp (t := 474) lk253_411 (by decide) (fun c6 => ?_) (fun c6 => ?_)
    · rw [if_pos c6] at h
      exact m_came_b474_ok hp0  lv σ g0 _ h
    · rw [if_neg c6] at h
      refine eE_aload_n lk253_414 g0 ?_
      refine eE_iload_n lk253_415 g1 ?_
      refine eE_iload_n lk253_416 g2 ?_
      obtain ⟨p7, h8, h⟩ := Option.bind_eq_some_iff.mp h
      refine eR_call (as := [.int l1, .int l2]) lk253_417 mr_676 na_304 rfl rfl (Nat.le_of_ble_eq_true rfl) wv_304 wc_304 (m_isPeer_ok hp0 (d := d + 7) h8) ?_
      refine eE_if (t := 474) lk253_420 (by decide) (fun c9 => ?_) (fun c9 => ?_)
      · rw [if_pos c9] at h
        exact m_came_b474_ok hp0  lv p7.2 g0 _ h
      · rw [if_neg c9] at h
        refine eE_aload_n lk253_423 g0 ?_
        refine eE_iload_n lk253_424 g1 ?_
        refine eE_iload_n lk253_425 g2 ?_
        refine eE_iload_n lk253_426 g3 ?_
        refine eE_iload lk253_427 g5 ?_
        refine eE_iload lk253_429 g6 ?_
        refine eE_iload lk253_431 g7 ?_
        obtain ⟨p10, h11, h⟩ := Option.bind_eq_some_iff.mp h
        refine eR_call (as := [.int l1, .int l2, .int l3, .int l5, .int l6, .int l7]) lk253_433 mr_743 na_291 rfl rfl (Nat.le_of_ble_eq_true rfl) wv_291 wc_291 (m_heardOf_ok hp0 (d := d + 0) h11) ?_
        refine eE_goto (t := 474) lk253_436 (by decide) ?_
        exact m_came_b474_ok hp0  lv p10 g0 _ h
def m_came_b381 (F : Nat)  (σ : RS) (l1 : Int32) (l2 : Int32) (l3 : Int32) (l4 : Int32) : Option (RS) :=
  (m_led F σ l1 l2 l3 l4).bind fun p12 =>
  m_came_b474 F  p12
set_option maxRecDepth 4000 in
theorem m_came_b381_ok {pF : Nat → List Value → xH → Option (Option Value × xH)} {d : Nat} {aR : Nat} {G : Nat → xC} {T : Nat × Nat} {F : Nat} (hp0 : xNP pF)  : ∀ (lv : xL) (σ : RS) (l1 : Int32) (l2 : Int32) (l3 : Int32) (l4 : Int32), xg lv 0 = some (.ref aR) → xg lv 1 = some (.int l1) → xg lv 2 = some (.int l2) → xg lv 3 = some (.int l3) → xg lv 4 = some (.int l4) → ∀ res, m_came_b381 F  σ l1 l2 l3 l4 = some res → xR pF (d + 10) kT253 16 9 false none none (layR aR res G, T) (381, lv, [], (layR aR σ G, T)) := by
  intro lv σ l1 l2 l3 l4 g0 g1 g2 g3 g4 res h
  unfold m_came_b381 at h
  refine eE_aload_n lk253_381 g0 ?_
  refine eE_iload_n lk253_382 g1 ?_
  refine eE_iload_n lk253_383 g2 ?_
  refine eE_iload_n lk253_384 g3 ?_
  refine eE_iload lk253_385 g4 ?_
  obtain ⟨p12, h13, h⟩ := Option.bind_eq_some_iff.mp h
  refine eR_call (as := [.int l1, .int l2, .int l3, .int l4]) lk253_387 mr_740 na_321 rfl rfl (Nat.le_of_ble_eq_true rfl) wv_321 wc_321 (m_led_ok hp0 (d := d + 0) h13) ?_
  refine eE_goto (t := 474) lk253_390 (by decide) ?_
  exact m_came_b474_ok hp0  lv p12 g0 _ h
def m_came_b228 (F : Nat)  (σ : RS) (s1 : Int32) (s2 : Int32) (s3 : Int32) (l1 : Int32) (l2 : Int32) : Option (RS) :=
  (m_write σ s1 s2 s3 ((0 : Int32)) ((0 : Int32))).bind fun p14 =>
  (m_post F p14 l1 l2).bind fun p16 =>
  m_came_b474 F  p16
set_option maxRecDepth 4000 in
theorem m_came_b228_ok {pF : Nat → List Value → xH → Option (Option Value × xH)} {d : Nat} {aR : Nat} {G : Nat → xC} {T : Nat × Nat} {F : Nat} (hp0 : xNP pF)  : ∀ (lv : xL) (σ : RS) (s1 : Int32) (s2 : Int32) (s3 : Int32) (l1 : Int32) (l2 : Int32), xg lv 0 = some (.ref aR) → xg lv 1 = some (.int l1) → xg lv 2 = some (.int l2) → ∀ res, m_came_b228 F  σ s1 s2 s3 l1 l2 = some res → xR pF (d + 10) kT253 16 9 false none none (layR aR res G, T) (228, lv, [.int s3, .int s2, .int s1, .ref aR], (layR aR σ G, T)) := by
  intro lv σ s1 s2 s3 l1 l2 g0 g1 g2 res h
  unfold m_came_b228 at h
  refine eE_iconst (v := 0) lk253_228 (by decide) ?_
  refine eE_iconst (v := 0) lk253_229 (by decide) ?_
  obtain ⟨p14, h15, h⟩ := Option.bind_eq_some_iff.mp h
  refine eR_call (as := [.int s1, .int s2, .int s3, .int ((0 : Int32)), .int ((0 : Int32))]) lk253_230 mr_647 na_381 rfl rfl (Nat.le_of_ble_eq_true rfl) wv_381 wc_381 (m_write_ok hp0 (d := d + 9) h15) ?_
  refine eE_aload_n lk253_233 g0 ?_
  refine eE_iload_n lk253_234 g1 ?_
  refine eE_iload_n lk253_235 g2 ?_
  obtain ⟨p16, h17, h⟩ := Option.bind_eq_some_iff.mp h
  refine eR_call (as := [.int l1, .int l2]) lk253_236 mr_651 na_339 rfl rfl (Nat.le_of_ble_eq_true rfl) wv_339 wc_339 (m_post_ok hp0 (d := d + 6) h17) ?_
  refine eE_goto (t := 474) lk253_239 (by decide) ?_
  exact m_came_b474_ok hp0  lv p16 g0 _ h
def m_came_b218 (F : Nat)  (σ : RS) (s1 : Int32) (s2 : Int32) (l1 : Int32) (l2 : Int32) (l8 : Int32) : Option (RS) :=
  if xc0 .eq l8 = true then (
    m_came_b228 F  σ s1 s2 ((0 : Int32)) l1 l2
  ) else (
    m_came_b228 F  σ s1 s2 ((1 : Int32)) l1 l2
  )
set_option maxRecDepth 4000 in
theorem m_came_b218_ok {pF : Nat → List Value → xH → Option (Option Value × xH)} {d : Nat} {aR : Nat} {G : Nat → xC} {T : Nat × Nat} {F : Nat} (hp0 : xNP pF)  : ∀ (lv : xL) (σ : RS) (s1 : Int32) (s2 : Int32) (l1 : Int32) (l2 : Int32) (l8 : Int32), xg lv 0 = some (.ref aR) → xg lv 1 = some (.int l1) → xg lv 2 = some (.int l2) → xg lv 8 = some (.int l8) → ∀ res, m_came_b218 F  σ s1 s2 l1 l2 l8 = some res → xR pF (d + 10) kT253 16 9 false none none (layR aR res G, T) (218, lv, [.int s2, .int s1, .ref aR], (layR aR σ G, T)) := by
  intro lv σ s1 s2 l1 l2 l8 g0 g1 g2 g8 res h
  unfold m_came_b218 at h
  refine eE_iload lk253_218 g8 ?_
  refine eE_if (t := 227) lk253_220 (by decide) (fun c18 => ?_) (fun c18 => ?_)
  · rw [if_pos c18] at h
    refine eE_iconst (v := 0) lk253_227 (by decide) ?_
    exact m_came_b228_ok hp0  lv σ s1 s2 ((0 : Int32)) l1 l2 g0 g1 g2 _ h
  · rw [if_neg c18] at h
    refine eE_iconst (v := 1) lk253_223 (by decide) ?_
    refine eE_goto (t := 228) lk253_224 (by decide) ?_
    exact m_came_b228_ok hp0  lv σ s1 s2 ((1 : Int32)) l1 l2 g0 g1 g2 _ h
def m_came_b198 (F : Nat)  (σ : RS) (s0 : Int32) (l1 : Int32) (l2 : Int32) (l4 : Int32) : Option (RS) :=
  if xc0 .eq s0 = true then (
    (rld σ 53 l1).bind fun x27 =>
    m_came_b218 F  σ ((2 : Int32)) x27 l1 l2 s0
  ) else (
    m_came_b218 F  σ ((2 : Int32)) l4 l1 l2 s0
  )
set_option maxRecDepth 4000 in
theorem m_came_b198_ok {pF : Nat → List Value → xH → Option (Option Value × xH)} {d : Nat} {aR : Nat} {G : Nat → xC} {T : Nat × Nat} {F : Nat} (hp0 : xNP pF)  : ∀ (lv : xL) (σ : RS) (s0 : Int32) (l1 : Int32) (l2 : Int32) (l4 : Int32), xg lv 0 = some (.ref aR) → xg lv 1 = some (.int l1) → xg lv 2 = some (.int l2) → xg lv 4 = some (.int l4) → ∀ res, m_came_b198 F  σ s0 l1 l2 l4 = some res → xR pF (d + 10) kT253 16 9 false none none (layR aR res G, T) (198, lv, [.int s0], (layR aR σ G, T)) := by
  intro lv σ s0 l1 l2 l4 g0 g1 g2 g4 res h
  unfold m_came_b198 at h
  refine eE_stI (j := 8) lk253_198 (Or.inl rfl) (by decide) (fun vq19 gq20 kq21 => ?_)
  have gq22 := kq21 1 _ (by decide) (fun _ => rfl) g1
  have gq23 := kq21 2 _ (by decide) (fun _ => rfl) g2
  have gq24 := kq21 4 _ (by decide) (fun _ => rfl) g4
  have gq25 := kq21 0 _ (by decide) (fun _ => rfl) g0
  refine eE_aload_n lk253_200 gq25 ?_
  refine eE_iconst (v := 2) lk253_201 (by decide) ?_
  refine eE_iload lk253_202 gq20 ?_
  refine eE_if (t := 212) lk253_204 (by decide) (fun c26 => ?_) (fun c26 => ?_)
  · rw [if_pos c26] at h
    refine eE_aload_n lk253_212 gq25 ?_
    refine eR_getA lk253_213 rf_123 rfl ?_
    refine eE_iload_n lk253_216 gq22 ?_
    obtain ⟨x27, h28, h⟩ := Option.bind_eq_some_iff.mp h
    refine eR_iald lk253_217 rfl rfl h28 ?_
    exact m_came_b218_ok hp0  vq19 σ ((2 : Int32)) x27 l1 l2 s0 gq25 gq22 gq23 gq20 _ h
  · rw [if_neg c26] at h
    refine eE_iload lk253_207 gq24 ?_
    refine eE_goto (t := 218) lk253_209 (by decide) ?_
    exact m_came_b218_ok hp0  vq19 σ ((2 : Int32)) l4 l1 l2 s0 gq25 gq22 gq23 gq20 _ h
def m_came_b193 (F : Nat)  (σ : RS) (l1 : Int32) (l2 : Int32) (l4 : Int32) : Option (RS) :=
  m_came_b198 F  σ ((1 : Int32)) l1 l2 l4
set_option maxRecDepth 4000 in
theorem m_came_b193_ok {pF : Nat → List Value → xH → Option (Option Value × xH)} {d : Nat} {aR : Nat} {G : Nat → xC} {T : Nat × Nat} {F : Nat} (hp0 : xNP pF)  : ∀ (lv : xL) (σ : RS) (l1 : Int32) (l2 : Int32) (l4 : Int32), xg lv 0 = some (.ref aR) → xg lv 1 = some (.int l1) → xg lv 2 = some (.int l2) → xg lv 4 = some (.int l4) → ∀ res, m_came_b193 F  σ l1 l2 l4 = some res → xR pF (d + 10) kT253 16 9 false none none (layR aR res G, T) (193, lv, [], (layR aR σ G, T)) := by
  intro lv σ l1 l2 l4 g0 g1 g2 g4 res h
  unfold m_came_b193 at h
  refine eE_iconst (v := 1) lk253_193 (by decide) ?_
  refine eE_goto (t := 198) lk253_194 (by decide) ?_
  exact m_came_b198_ok hp0  lv σ ((1 : Int32)) l1 l2 l4 g0 g1 g2 g4 _ h
def m_came_b197 (F : Nat)  (σ : RS) (l1 : Int32) (l2 : Int32) (l4 : Int32) : Option (RS) :=
  m_came_b198 F  σ ((0 : Int32)) l1 l2 l4
set_option maxRecDepth 4000 in
theorem m_came_b197_ok {pF : Nat → List Value → xH → Option (Option Value × xH)} {d : Nat} {aR : Nat} {G : Nat → xC} {T : Nat × Nat} {F : Nat} (hp0 : xNP pF)  : ∀ (lv : xL) (σ : RS) (l1 : Int32) (l2 : Int32) (l4 : Int32), xg lv 0 = some (.ref aR) → xg lv 1 = some (.int l1) → xg lv 2 = some (.int l2) → xg lv 4 = some (.int l4) → ∀ res, m_came_b197 F  σ l1 l2 l4 = some res → xR pF (d + 10) kT253 16 9 false none none (layR aR res G, T) (197, lv, [], (layR aR σ G, T)) := by
  intro lv σ l1 l2 l4 g0 g1 g2 g4 res h
  unfold m_came_b197 at h
  refine eE_iconst (v := 0) lk253_197 (by decide) ?_
  exact m_came_b198_ok hp0  lv σ ((0 : Int32)) l1 l2 l4 g0 g1 g2 g4 _ h
def m_came_b84 (F : Nat)  (σ : RS) (l1 : Int32) (l2 : Int32) (l3 : Int32) (l4 : Int32) (l5 : Int32) (l6 : Int32) (l7 : Int32) : Option (RS) :=
  if l3 = (1 : Int32) then (
    (rld σ 53 l1).bind fun x30 =>
    if xc2 .le l4 x30 = true then (
      m_came_b197 F  σ l1 l2 l4
    ) else (
      (m_isAsNew σ l1 l5 l6).bind fun p33 =>
      if xc0 .eq p33.1 = true then (
        m_came_b197 F  p33.2 l1 l2 l4
      ) else (
        (rld p33.2 73 l1).bind fun x36 =>
        if xc2 .eq x36 ((3 : Int32)) = true then (
          m_came_b197 F  p33.2 l1 l2 l4
        ) else (
          (rld p33.2 78 l1).bind fun x39 =>
          if xc2 .eq x39 ((-2000000000 : Int32)) = true then (
            m_came_b193 F  p33.2 l1 l2 l4
          ) else (
            (rld p33.2 78 l1).bind fun x42 =>
            if xc2 .gt x42 ((p33.2.1 1 0) - ((50 : Int32))) = true then (
              m_came_b197 F  p33.2 l1 l2 l4
            ) else (
              m_came_b193 F  p33.2 l1 l2 l4
            )
          )
        )
      )
    )
  ) else (
  if l3 = (2 : Int32) then (
    if xc2 .ne l5 ((1 : Int32)) = true then (
      m_came_b474 F  σ
    ) else (
      (rld σ 53 l1).bind fun x47 =>
      if xc2 .ne l4 (x47 + ((1 : Int32))) = true then (
        m_came_b474 F  σ
      ) else (
        (rld σ 73 l1).bind fun x50 =>
        if xc2 .ne x50 ((1 : Int32)) = true then (
          m_came_b474 F  σ
        ) else (
          (rld σ 79 l1).bind fun x53 =>
          (rst σ 79 l1 ((x53 ||| (((1 : Int32)) <<< (l2 &&& 31))))).bind fun σ55 =>
          (rld σ55 79 l1).bind fun x57 =>
          (m_isMajority F σ55 l1 x57).bind fun p59 =>
          if xc0 .eq p59.1 = true then (
            m_came_b474 F  p59.2
          ) else (
            (m_campaign F p59.2 l1).bind fun p62 =>
            m_came_b474 F  p62
          )
        )
      )
    )
  ) else (
  if l3 = (3 : Int32) then (
    (m_vote F σ l1 l2 l4 l5 l6).bind fun p65 =>
    m_came_b474 F  p65
  ) else (
  if l3 = (4 : Int32) then (
    if xc2 .ne l5 ((1 : Int32)) = true then (
      m_came_b474 F  σ
    ) else (
      (rld σ 53 l1).bind fun x69 =>
      if xc2 .ne l4 x69 = true then (
        m_came_b474 F  σ
      ) else (
        (rld σ 73 l1).bind fun x72 =>
        if xc2 .ne x72 ((2 : Int32)) = true then (
          m_came_b474 F  σ
        ) else (
          (rld σ 79 l1).bind fun x75 =>
          (rst σ 79 l1 ((x75 ||| (((1 : Int32)) <<< (l2 &&& 31))))).bind fun σ77 =>
          (rld σ77 79 l1).bind fun x79 =>
          (m_isMajority F σ77 l1 x79).bind fun p81 =>
          if xc0 .eq p81.1 = true then (
            m_came_b474 F  p81.2
          ) else (
            (m_lead F p81.2 l1).bind fun p84 =>
            m_came_b474 F  p84
          )
        )
      )
    )
  ) else (
  if l3 = (5 : Int32) then (
    m_came_b381 F  σ l1 l2 l3 l4
  ) else (
  if l3 = (6 : Int32) then (
    m_came_b393 F  σ l1 l2 l3 l4 l5 l6 l7
  ) else (
  if l3 = (7 : Int32) then (
    m_came_b381 F  σ l1 l2 l3 l4
  ) else (
  if l3 = (8 : Int32) then (
    m_came_b393 F  σ l1 l2 l3 l4 l5 l6 l7
  ) else (
    (rld σ 53 l1).bind fun x90 =>
    if xc2 .ne l4 x90 = true then (
      m_came_b474 F  σ
    ) else (
      (rld σ 73 l1).bind fun x93 =>
      if xc2 .ge x93 ((2 : Int32)) = true then (
        m_came_b474 F  σ
      ) else (
        (m_isVoter σ l1 l1).bind fun p96 =>
        if xc0 .eq p96.1 = true then (
          m_came_b474 F  p96.2
        ) else (
          (m_campaign F p96.2 l1).bind fun p99 =>
          m_came_b474 F  p99
        )
      )
    )
  )
  )
  )
  )
  )
  )
  )
  )
set_option maxRecDepth 4000 in
theorem m_came_b84_ok {pF : Nat → List Value → xH → Option (Option Value × xH)} {d : Nat} {aR : Nat} {G : Nat → xC} {T : Nat × Nat} {F : Nat} (hp0 : xNP pF)  : ∀ (lv : xL) (σ : RS) (l1 : Int32) (l2 : Int32) (l3 : Int32) (l4 : Int32) (l5 : Int32) (l6 : Int32) (l7 : Int32), xg lv 0 = some (.ref aR) → xg lv 1 = some (.int l1) → xg lv 2 = some (.int l2) → xg lv 3 = some (.int l3) → xg lv 4 = some (.int l4) → xg lv 5 = some (.int l5) → xg lv 6 = some (.int l6) → xg lv 7 = some (.int l7) → ∀ res, m_came_b84 F  σ l1 l2 l3 l4 l5 l6 l7 = some res → xR pF (d + 10) kT253 16 9 false none none (layR aR res G, T) (84, lv, [], (layR aR σ G, T)) := by
  intro lv σ l1 l2 l3 l4 l5 l6 l7 g0 g1 g2 g3 g4 g5 g6 g7 res h
  unfold m_came_b84 at h
  refine eE_iload_n lk253_84 g3 ?_
  by_cases c29 : l3 = (1 : Int32)
  · rw [if_pos c29] at h
    refine eE_tsw (t := 132) (off := 47) lk253_85 (by rw [c29]; decide) (by rw [c29]; rfl) (by decide) ?_
    refine eE_iload lk253_132 g4 ?_
    refine eE_aload_n lk253_134 g0 ?_
    refine eR_getA lk253_135 rf_123 rfl ?_
    refine eE_iload_n lk253_138 g1 ?_
    obtain ⟨x30, h31, h⟩ := Option.bind_eq_some_iff.mp h
    refine eR_iald lk253_139 rfl rfl h31 ?_
    refine eE_icmp (t := 197) lk253_140 (by decide) (fun c32 => ?_) (fun c32 => ?_)
    · rw [if_pos c32] at h
      exact m_came_b197_ok hp0  lv σ l1 l2 l4 g0 g1 g2 g4 _ h
    · rw [if_neg c32] at h
      refine eE_aload_n lk253_143 g0 ?_
      refine eE_iload_n lk253_144 g1 ?_
      refine eE_iload lk253_145 g5 ?_
      refine eE_iload lk253_147 g6 ?_
      obtain ⟨p33, h34, h⟩ := Option.bind_eq_some_iff.mp h
      refine eR_call (as := [.int l1, .int l5, .int l6]) lk253_149 mr_733 na_299 rfl rfl (Nat.le_of_ble_eq_true rfl) wv_299 wc_299 (m_isAsNew_ok hp0 (d := d + 7) h34) ?_
      refine eE_if (t := 197) lk253_152 (by decide) (fun c35 => ?_) (fun c35 => ?_)
      · rw [if_pos c35] at h
        exact m_came_b197_ok hp0  lv p33.2 l1 l2 l4 g0 g1 g2 g4 _ h
      · rw [if_neg c35] at h
        refine eE_aload_n lk253_155 g0 ?_
        refine eR_getA lk253_156 rf_185 rfl ?_
        refine eE_iload_n lk253_159 g1 ?_
        obtain ⟨x36, h37, h⟩ := Option.bind_eq_some_iff.mp h
        refine eR_iald lk253_160 rfl rfl h37 ?_
        refine eE_iconst (v := 3) lk253_161 (by decide) ?_
        refine eE_icmp (t := 197) lk253_162 (by decide) (fun c38 => ?_) (fun c38 => ?_)
        · rw [if_pos c38] at h
          exact m_came_b197_ok hp0  lv p33.2 l1 l2 l4 g0 g1 g2 g4 _ h
        · rw [if_neg c38] at h
          refine eE_aload_n lk253_165 g0 ?_
          refine eR_getA lk253_166 rf_200 rfl ?_
          refine eE_iload_n lk253_169 g1 ?_
          obtain ⟨x39, h40, h⟩ := Option.bind_eq_some_iff.mp h
          refine eR_iald lk253_170 rfl rfl h40 ?_
          refine eE_ldc_w (v := (-2000000000)) lk253_171 xc_388 ?_
          refine eE_icmp (t := 193) lk253_174 (by decide) (fun c41 => ?_) (fun c41 => ?_)
          · rw [if_pos c41] at h
            exact m_came_b193_ok hp0  lv p33.2 l1 l2 l4 g0 g1 g2 g4 _ h
          · rw [if_neg c41] at h
            refine eE_aload_n lk253_177 g0 ?_
            refine eR_getA lk253_178 rf_200 rfl ?_
            refine eE_iload_n lk253_181 g1 ?_
            obtain ⟨x42, h43, h⟩ := Option.bind_eq_some_iff.mp h
            refine eR_iald lk253_182 rfl rfl h43 ?_
            refine eE_aload_n lk253_183 g0 ?_
            refine eR_get lk253_184 rf_431 rfl ?_
            refine eE_bipush (v := 50) lk253_187 (by decide) ?_
            refine eE_isub lk253_189 ?_
            refine eE_icmp (t := 197) lk253_190 (by decide) (fun c44 => ?_) (fun c44 => ?_)
            · rw [if_pos c44] at h
              exact m_came_b197_ok hp0  lv p33.2 l1 l2 l4 g0 g1 g2 g4 _ h
            · rw [if_neg c44] at h
              exact m_came_b193_ok hp0  lv p33.2 l1 l2 l4 g0 g1 g2 g4 _ h
  rw [if_neg c29] at h
  by_cases c45 : l3 = (2 : Int32)
  · rw [if_pos c45] at h
    refine eE_tsw (t := 242) (off := 157) lk253_85 (by rw [c45]; decide) (by rw [c45]; rfl) (by decide) ?_
    refine eE_iload lk253_242 g5 ?_
    refine eE_iconst (v := 1) lk253_244 (by decide) ?_
    refine eE_icmp (t := 474) lk253_245 (by decide) (fun c46 => ?_) (fun c46 => ?_)
    · rw [if_pos c46] at h
      exact m_came_b474_ok hp0  lv σ g0 _ h
    · rw [if_neg c46] at h
      refine eE_iload lk253_248 g4 ?_
      refine eE_aload_n lk253_250 g0 ?_
      refine eR_getA lk253_251 rf_123 rfl ?_
      refine eE_iload_n lk253_254 g1 ?_
      obtain ⟨x47, h48, h⟩ := Option.bind_eq_some_iff.mp h
      refine eR_iald lk253_255 rfl rfl h48 ?_
      refine eE_iconst (v := 1) lk253_256 (by decide) ?_
      refine eE_iadd lk253_257 ?_
      refine eE_icmp (t := 474) lk253_258 (by decide) (fun c49 => ?_) (fun c49 => ?_)
      · rw [if_pos c49] at h
        exact m_came_b474_ok hp0  lv σ g0 _ h
      · rw [if_neg c49] at h
        refine eE_aload_n lk253_261 g0 ?_
        refine eR_getA lk253_262 rf_185 rfl ?_
        refine eE_iload_n lk253_265 g1 ?_
        obtain ⟨x50, h51, h⟩ := Option.bind_eq_some_iff.mp h
        refine eR_iald lk253_266 rfl rfl h51 ?_
        refine eE_iconst (v := 1) lk253_267 (by decide) ?_
        refine eE_icmp (t := 474) lk253_268 (by decide) (fun c52 => ?_) (fun c52 => ?_)
        · rw [if_pos c52] at h
          exact m_came_b474_ok hp0  lv σ g0 _ h
        · rw [if_neg c52] at h
          refine eE_aload_n lk253_271 g0 ?_
          refine eR_getA lk253_272 rf_203 rfl ?_
          refine eE_iload_n lk253_275 g1 ?_
          refine eE_dup2 lk253_276 rfl rfl ?_
          obtain ⟨x53, h54, h⟩ := Option.bind_eq_some_iff.mp h
          refine eR_iald lk253_277 rfl rfl h54 ?_
          refine eE_iconst (v := 1) lk253_278 (by decide) ?_
          refine eE_iload_n lk253_279 g2 ?_
          refine eE_ishl lk253_280 ?_
          refine eE_ior lk253_281 ?_
          obtain ⟨σ55, h56, h⟩ := Option.bind_eq_some_iff.mp h
          refine eR_iast lk253_282 rfl rfl h56 ?_
          refine eE_aload_n lk253_283 g0 ?_
          refine eE_iload_n lk253_284 g1 ?_
          refine eE_aload_n lk253_285 g0 ?_
          refine eR_getA lk253_286 rf_203 rfl ?_
          refine eE_iload_n lk253_289 g1 ?_
          obtain ⟨x57, h58, h⟩ := Option.bind_eq_some_iff.mp h
          refine eR_iald lk253_290 rfl rfl h58 ?_
          obtain ⟨p59, h60, h⟩ := Option.bind_eq_some_iff.mp h
          refine eR_call (as := [.int l1, .int x57]) lk253_291 mr_638 na_303 rfl rfl (Nat.le_of_ble_eq_true rfl) wv_303 wc_303 (m_isMajority_ok hp0 (d := d + 8) h60) ?_
          refine eE_if (t := 474) lk253_294 (by decide) (fun c61 => ?_) (fun c61 => ?_)
          · rw [if_pos c61] at h
            exact m_came_b474_ok hp0  lv p59.2 g0 _ h
          · rw [if_neg c61] at h
            refine eE_aload_n lk253_297 g0 ?_
            refine eE_iload_n lk253_298 g1 ?_
            obtain ⟨p62, h63, h⟩ := Option.bind_eq_some_iff.mp h
            refine eR_call (as := [.int l1]) lk253_299 mr_669 na_254 rfl rfl (Nat.le_of_ble_eq_true rfl) wv_254 wc_254 (m_campaign_ok hp0 (d := d + 4) h63) ?_
            refine eE_goto (t := 474) lk253_302 (by decide) ?_
            exact m_came_b474_ok hp0  lv p62 g0 _ h
  rw [if_neg c45] at h
  by_cases c64 : l3 = (3 : Int32)
  · rw [if_pos c64] at h
    refine eE_tsw (t := 305) (off := 220) lk253_85 (by rw [c64]; decide) (by rw [c64]; rfl) (by decide) ?_
    refine eE_aload_n lk253_305 g0 ?_
    refine eE_iload_n lk253_306 g1 ?_
    refine eE_iload_n lk253_307 g2 ?_
    refine eE_iload lk253_308 g4 ?_
    refine eE_iload lk253_310 g5 ?_
    refine eE_iload lk253_312 g6 ?_
    obtain ⟨p65, h66, h⟩ := Option.bind_eq_some_iff.mp h
    refine eR_call (as := [.int l1, .int l2, .int l4, .int l5, .int l6]) lk253_314 mr_737 na_379 rfl rfl (Nat.le_of_ble_eq_true rfl) wv_379 wc_379 (m_vote_ok hp0 (d := d + 5) h66) ?_
    refine eE_goto (t := 474) lk253_317 (by decide) ?_
    exact m_came_b474_ok hp0  lv p65 g0 _ h
  rw [if_neg c64] at h
  by_cases c67 : l3 = (4 : Int32)
  · rw [if_pos c67] at h
    refine eE_tsw (t := 320) (off := 235) lk253_85 (by rw [c67]; decide) (by rw [c67]; rfl) (by decide) ?_
    refine eE_iload lk253_320 g5 ?_
    refine eE_iconst (v := 1) lk253_322 (by decide) ?_
    refine eE_icmp (t := 474) lk253_323 (by decide) (fun c68 => ?_) (fun c68 => ?_)
    · rw [if_pos c68] at h
      exact m_came_b474_ok hp0  lv σ g0 _ h
    · rw [if_neg c68] at h
      refine eE_iload lk253_326 g4 ?_
      refine eE_aload_n lk253_328 g0 ?_
      refine eR_getA lk253_329 rf_123 rfl ?_
      refine eE_iload_n lk253_332 g1 ?_
      obtain ⟨x69, h70, h⟩ := Option.bind_eq_some_iff.mp h
      refine eR_iald lk253_333 rfl rfl h70 ?_
      refine eE_icmp (t := 474) lk253_334 (by decide) (fun c71 => ?_) (fun c71 => ?_)
      · rw [if_pos c71] at h
        exact m_came_b474_ok hp0  lv σ g0 _ h
      · rw [if_neg c71] at h
        refine eE_aload_n lk253_337 g0 ?_
        refine eR_getA lk253_338 rf_185 rfl ?_
        refine eE_iload_n lk253_341 g1 ?_
        obtain ⟨x72, h73, h⟩ := Option.bind_eq_some_iff.mp h
        refine eR_iald lk253_342 rfl rfl h73 ?_
        refine eE_iconst (v := 2) lk253_343 (by decide) ?_
        refine eE_icmp (t := 474) lk253_344 (by decide) (fun c74 => ?_) (fun c74 => ?_)
        · rw [if_pos c74] at h
          exact m_came_b474_ok hp0  lv σ g0 _ h
        · rw [if_neg c74] at h
          refine eE_aload_n lk253_347 g0 ?_
          refine eR_getA lk253_348 rf_203 rfl ?_
          refine eE_iload_n lk253_351 g1 ?_
          refine eE_dup2 lk253_352 rfl rfl ?_
          obtain ⟨x75, h76, h⟩ := Option.bind_eq_some_iff.mp h
          refine eR_iald lk253_353 rfl rfl h76 ?_
          refine eE_iconst (v := 1) lk253_354 (by decide) ?_
          refine eE_iload_n lk253_355 g2 ?_
          refine eE_ishl lk253_356 ?_
          refine eE_ior lk253_357 ?_
          obtain ⟨σ77, h78, h⟩ := Option.bind_eq_some_iff.mp h
          refine eR_iast lk253_358 rfl rfl h78 ?_
          refine eE_aload_n lk253_359 g0 ?_
          refine eE_iload_n lk253_360 g1 ?_
          refine eE_aload_n lk253_361 g0 ?_
          refine eR_getA lk253_362 rf_203 rfl ?_
          refine eE_iload_n lk253_365 g1 ?_
          obtain ⟨x79, h80, h⟩ := Option.bind_eq_some_iff.mp h
          refine eR_iald lk253_366 rfl rfl h80 ?_
          obtain ⟨p81, h82, h⟩ := Option.bind_eq_some_iff.mp h
          refine eR_call (as := [.int l1, .int x79]) lk253_367 mr_638 na_303 rfl rfl (Nat.le_of_ble_eq_true rfl) wv_303 wc_303 (m_isMajority_ok hp0 (d := d + 8) h82) ?_
          refine eE_if (t := 474) lk253_370 (by decide) (fun c83 => ?_) (fun c83 => ?_)
          · rw [if_pos c83] at h
            exact m_came_b474_ok hp0  lv p81.2 g0 _ h
          · rw [if_neg c83] at h
            refine eE_aload_n lk253_373 g0 ?_
            refine eE_iload_n lk253_374 g1 ?_
            obtain ⟨p84, h85, h⟩ := Option.bind_eq_some_iff.mp h
            refine eR_call (as := [.int l1]) lk253_375 mr_727 na_318 rfl rfl (Nat.le_of_ble_eq_true rfl) wv_318 wc_318 (m_lead_ok hp0 (d := d + 2) h85) ?_
            refine eE_goto (t := 474) lk253_378 (by decide) ?_
            exact m_came_b474_ok hp0  lv p84 g0 _ h
  rw [if_neg c67] at h
  by_cases c86 : l3 = (5 : Int32)
  · rw [if_pos c86] at h
    refine eE_tsw (t := 381) (off := 296) lk253_85 (by rw [c86]; decide) (by rw [c86]; rfl) (by decide) ?_
    exact m_came_b381_ok hp0  lv σ l1 l2 l3 l4 g0 g1 g2 g3 g4 _ h
  rw [if_neg c86] at h
  by_cases c87 : l3 = (6 : Int32)
  · rw [if_pos c87] at h
    refine eE_tsw (t := 393) (off := 308) lk253_85 (by rw [c87]; decide) (by rw [c87]; rfl) (by decide) ?_
    exact m_came_b393_ok hp0  lv σ l1 l2 l3 l4 l5 l6 l7 g0 g1 g2 g3 g4 g5 g6 g7 _ h
  rw [if_neg c87] at h
  by_cases c88 : l3 = (7 : Int32)
  · rw [if_pos c88] at h
    refine eE_tsw (t := 381) (off := 296) lk253_85 (by rw [c88]; decide) (by rw [c88]; rfl) (by decide) ?_
    exact m_came_b381_ok hp0  lv σ l1 l2 l3 l4 g0 g1 g2 g3 g4 _ h
  rw [if_neg c88] at h
  by_cases c89 : l3 = (8 : Int32)
  · rw [if_pos c89] at h
    refine eE_tsw (t := 393) (off := 308) lk253_85 (by rw [c89]; decide) (by rw [c89]; rfl) (by decide) ?_
    exact m_came_b393_ok hp0  lv σ l1 l2 l3 l4 l5 l6 l7 g0 g1 g2 g3 g4 g5 g6 g7 _ h
  rw [if_neg c89] at h
  refine eE_tswD (t := 439) lk253_85 (xsw_out (n := 8) (fun j hj => ?_)) (by decide) ?_
  · match j, hj with
    | 0, _ => exact c29
    | 1, _ => exact c45
    | 2, _ => exact c64
    | 3, _ => exact c67
    | 4, _ => exact c86
    | 5, _ => exact c87
    | 6, _ => exact c88
    | 7, _ => exact c89
    | q + 8, hj => exact absurd hj (by omega)
  refine eE_iload lk253_439 g4 ?_
  refine eE_aload_n lk253_441 g0 ?_
  refine eR_getA lk253_442 rf_123 rfl ?_
  refine eE_iload_n lk253_445 g1 ?_
  obtain ⟨x90, h91, h⟩ := Option.bind_eq_some_iff.mp h
  refine eR_iald lk253_446 rfl rfl h91 ?_
  refine eE_icmp (t := 474) lk253_447 (by decide) (fun c92 => ?_) (fun c92 => ?_)
  · rw [if_pos c92] at h
    exact m_came_b474_ok hp0  lv σ g0 _ h
  · rw [if_neg c92] at h
    refine eE_aload_n lk253_450 g0 ?_
    refine eR_getA lk253_451 rf_185 rfl ?_
    refine eE_iload_n lk253_454 g1 ?_
    obtain ⟨x93, h94, h⟩ := Option.bind_eq_some_iff.mp h
    refine eR_iald lk253_455 rfl rfl h94 ?_
    refine eE_iconst (v := 2) lk253_456 (by decide) ?_
    refine eE_icmp (t := 474) lk253_457 (by decide) (fun c95 => ?_) (fun c95 => ?_)
    · rw [if_pos c95] at h
      exact m_came_b474_ok hp0  lv σ g0 _ h
    · rw [if_neg c95] at h
      refine eE_aload_n lk253_460 g0 ?_
      refine eE_iload_n lk253_461 g1 ?_
      refine eE_iload_n lk253_462 g1 ?_
      obtain ⟨p96, h97, h⟩ := Option.bind_eq_some_iff.mp h
      refine eR_call (as := [.int l1, .int l1]) lk253_463 mr_663 na_306 rfl rfl (Nat.le_of_ble_eq_true rfl) wv_306 wc_306 (m_isVoter_ok hp0 (d := d + 7) h97) ?_
      refine eE_if (t := 474) lk253_466 (by decide) (fun c98 => ?_) (fun c98 => ?_)
      · rw [if_pos c98] at h
        exact m_came_b474_ok hp0  lv p96.2 g0 _ h
      · rw [if_neg c98] at h
        refine eE_aload_n lk253_469 g0 ?_
        refine eE_iload_n lk253_470 g1 ?_
        obtain ⟨p99, h100, h⟩ := Option.bind_eq_some_iff.mp h
        refine eR_call (as := [.int l1]) lk253_471 mr_669 na_254 rfl rfl (Nat.le_of_ble_eq_true rfl) wv_254 wc_254 (m_campaign_ok hp0 (d := d + 4) h100) ?_
        exact m_came_b474_ok hp0  lv p99 g0 _ h
def m_came_b76 (F : Nat)  (σ : RS) (l1 : Int32) (l2 : Int32) (l3 : Int32) (l4 : Int32) (l5 : Int32) (l6 : Int32) (l7 : Int32) : Option (RS) :=
  (m_stepDown F σ l1 l4 ((-1 : Int32))).bind fun p101 =>
  m_came_b84 F  p101 l1 l2 l3 l4 l5 l6 l7
set_option maxRecDepth 4000 in
theorem m_came_b76_ok {pF : Nat → List Value → xH → Option (Option Value × xH)} {d : Nat} {aR : Nat} {G : Nat → xC} {T : Nat × Nat} {F : Nat} (hp0 : xNP pF)  : ∀ (lv : xL) (σ : RS) (l1 : Int32) (l2 : Int32) (l3 : Int32) (l4 : Int32) (l5 : Int32) (l6 : Int32) (l7 : Int32), xg lv 0 = some (.ref aR) → xg lv 1 = some (.int l1) → xg lv 2 = some (.int l2) → xg lv 3 = some (.int l3) → xg lv 4 = some (.int l4) → xg lv 5 = some (.int l5) → xg lv 6 = some (.int l6) → xg lv 7 = some (.int l7) → ∀ res, m_came_b76 F  σ l1 l2 l3 l4 l5 l6 l7 = some res → xR pF (d + 10) kT253 16 9 false none none (layR aR res G, T) (76, lv, [], (layR aR σ G, T)) := by
  intro lv σ l1 l2 l3 l4 l5 l6 l7 g0 g1 g2 g3 g4 g5 g6 g7 res h
  unfold m_came_b76 at h
  refine eE_aload_n lk253_76 g0 ?_
  refine eE_iload_n lk253_77 g1 ?_
  refine eE_iload lk253_78 g4 ?_
  refine eE_iconst (v := (-1)) lk253_80 (by decide) ?_
  obtain ⟨p101, h102, h⟩ := Option.bind_eq_some_iff.mp h
  refine eR_call (as := [.int l1, .int l4, .int ((-1 : Int32))]) lk253_81 mr_657 na_363 rfl rfl (Nat.le_of_ble_eq_true rfl) wv_363 wc_363 (m_stepDown_ok hp0 (d := d + 5) h102) ?_
  exact m_came_b84_ok hp0  lv p101 l1 l2 l3 l4 l5 l6 l7 g0 g1 g2 g3 g4 g5 g6 g7 _ h
def m_came_b0 (F : Nat)  (σ : RS) (l1 : Int32) (l2 : Int32) : Option (RS) :=
  (rld σ 8 ((353 : Int32))).bind fun x103 =>
  (rld σ 9 ((353 : Int32))).bind fun x111 =>
  (rld σ 12 ((2824 : Int32))).bind fun x120 =>
  (rld σ 12 ((2825 : Int32))).bind fun x130 =>
  (rld σ 12 ((2826 : Int32))).bind fun x141 =>
  (rld σ 53 l1).bind fun x153 =>
  if xc2 .le x111 x153 = true then (
    m_came_b84 F  σ l1 l2 x103 x111 x120 x130 x141
  ) else (
    if xc2 .eq x103 ((1 : Int32)) = true then (
      m_came_b84 F  σ l1 l2 x103 x111 x120 x130 x141
    ) else (
      if xc2 .ne x103 ((2 : Int32)) = true then (
        m_came_b76 F  σ l1 l2 x103 x111 x120 x130 x141
      ) else (
        if xc2 .eq x120 ((1 : Int32)) = true then (
          m_came_b84 F  σ l1 l2 x103 x111 x120 x130 x141
        ) else (
          m_came_b76 F  σ l1 l2 x103 x111 x120 x130 x141
        )
      )
    )
  )
set_option maxRecDepth 4000 in
theorem m_came_b0_ok {pF : Nat → List Value → xH → Option (Option Value × xH)} {d : Nat} {aR : Nat} {G : Nat → xC} {T : Nat × Nat} {F : Nat} (hp0 : xNP pF)  : ∀ (lv : xL) (σ : RS) (l1 : Int32) (l2 : Int32), xg lv 0 = some (.ref aR) → xg lv 1 = some (.int l1) → xg lv 2 = some (.int l2) → ∀ res, m_came_b0 F  σ l1 l2 = some res → xR pF (d + 10) kT253 16 9 false none none (layR aR res G, T) (0, lv, [], (layR aR σ G, T)) := by
  intro lv σ l1 l2 g0 g1 g2 res h
  unfold m_came_b0 at h
  refine eE_aload_n lk253_0 g0 ?_
  refine eR_getA lk253_1 rf_20 rfl ?_
  refine eE_sipush (v := 353) lk253_4 (by decide) ?_
  obtain ⟨x103, h104, h⟩ := Option.bind_eq_some_iff.mp h
  refine eR_iald lk253_7 rfl rfl h104 ?_
  refine eE_stI (j := 3) lk253_8 (Or.inr ⟨_, rfl, rfl⟩) (by decide) (fun vq105 gq106 kq107 => ?_)
  have gq108 := kq107 1 _ (by decide) (fun _ => rfl) g1
  have gq109 := kq107 2 _ (by decide) (fun _ => rfl) g2
  have gq110 := kq107 0 _ (by decide) (fun _ => rfl) g0
  refine eE_aload_n lk253_9 gq110 ?_
  refine eR_getA lk253_10 rf_23 rfl ?_
  refine eE_sipush (v := 353) lk253_13 (by decide) ?_
  obtain ⟨x111, h112, h⟩ := Option.bind_eq_some_iff.mp h
  refine eR_iald lk253_16 rfl rfl h112 ?_
  refine eE_stI (j := 4) lk253_17 (Or.inl rfl) (by decide) (fun vq113 gq114 kq115 => ?_)
  have gq116 := kq115 1 _ (by decide) (fun _ => rfl) gq108
  have gq117 := kq115 2 _ (by decide) (fun _ => rfl) gq109
  have gq118 := kq115 0 _ (by decide) (fun _ => rfl) gq110
  have gq119 := kq115 3 _ (by decide) (fun _ => rfl) gq106
  refine eE_aload_n lk253_19 gq118 ?_
  refine eR_getA lk253_20 rf_32 rfl ?_
  refine eE_sipush (v := 2824) lk253_23 (by decide) ?_
  obtain ⟨x120, h121, h⟩ := Option.bind_eq_some_iff.mp h
  refine eR_iald lk253_26 rfl rfl h121 ?_
  refine eE_stI (j := 5) lk253_27 (Or.inl rfl) (by decide) (fun vq122 gq123 kq124 => ?_)
  have gq125 := kq124 1 _ (by decide) (fun _ => rfl) gq116
  have gq126 := kq124 2 _ (by decide) (fun _ => rfl) gq117
  have gq127 := kq124 0 _ (by decide) (fun _ => rfl) gq118
  have gq128 := kq124 3 _ (by decide) (fun _ => rfl) gq119
  have gq129 := kq124 4 _ (by decide) (fun _ => rfl) gq114
  refine eE_aload_n lk253_29 gq127 ?_
  refine eR_getA lk253_30 rf_32 rfl ?_
  refine eE_sipush (v := 2825) lk253_33 (by decide) ?_
  obtain ⟨x130, h131, h⟩ := Option.bind_eq_some_iff.mp h
  refine eR_iald lk253_36 rfl rfl h131 ?_
  refine eE_stI (j := 6) lk253_37 (Or.inl rfl) (by decide) (fun vq132 gq133 kq134 => ?_)
  have gq135 := kq134 1 _ (by decide) (fun _ => rfl) gq125
  have gq136 := kq134 2 _ (by decide) (fun _ => rfl) gq126
  have gq137 := kq134 0 _ (by decide) (fun _ => rfl) gq127
  have gq138 := kq134 3 _ (by decide) (fun _ => rfl) gq128
  have gq139 := kq134 4 _ (by decide) (fun _ => rfl) gq129
  have gq140 := kq134 5 _ (by decide) (fun _ => rfl) gq123
  refine eE_aload_n lk253_39 gq137 ?_
  refine eR_getA lk253_40 rf_32 rfl ?_
  refine eE_sipush (v := 2826) lk253_43 (by decide) ?_
  obtain ⟨x141, h142, h⟩ := Option.bind_eq_some_iff.mp h
  refine eR_iald lk253_46 rfl rfl h142 ?_
  refine eE_stI (j := 7) lk253_47 (Or.inl rfl) (by decide) (fun vq143 gq144 kq145 => ?_)
  have gq146 := kq145 1 _ (by decide) (fun _ => rfl) gq135
  have gq147 := kq145 2 _ (by decide) (fun _ => rfl) gq136
  have gq148 := kq145 0 _ (by decide) (fun _ => rfl) gq137
  have gq149 := kq145 3 _ (by decide) (fun _ => rfl) gq138
  have gq150 := kq145 4 _ (by decide) (fun _ => rfl) gq139
  have gq151 := kq145 5 _ (by decide) (fun _ => rfl) gq140
  have gq152 := kq145 6 _ (by decide) (fun _ => rfl) gq133
  refine eE_iload lk253_49 gq150 ?_
  refine eE_aload_n lk253_51 gq148 ?_
  refine eR_getA lk253_52 rf_123 rfl ?_
  refine eE_iload_n lk253_55 gq146 ?_
  obtain ⟨x153, h154, h⟩ := Option.bind_eq_some_iff.mp h
  refine eR_iald lk253_56 rfl rfl h154 ?_
  refine eE_icmp (t := 84) lk253_57 (by decide) (fun c155 => ?_) (fun c155 => ?_)
  · rw [if_pos c155] at h
    exact m_came_b84_ok hp0  vq143 σ l1 l2 x103 x111 x120 x130 x141 gq148 gq146 gq147 gq149 gq150 gq151 gq152 gq144 _ h
  · rw [if_neg c155] at h
    refine eE_iload_n lk253_60 gq149 ?_
    refine eE_iconst (v := 1) lk253_61 (by decide) ?_
    refine eE_icmp (t := 84) lk253_62 (by decide) (fun c156 => ?_) (fun c156 => ?_)
    · rw [if_pos c156] at h
      exact m_came_b84_ok hp0  vq143 σ l1 l2 x103 x111 x120 x130 x141 gq148 gq146 gq147 gq149 gq150 gq151 gq152 gq144 _ h
    · rw [if_neg c156] at h
      refine eE_iload_n lk253_65 gq149 ?_
      refine eE_iconst (v := 2) lk253_66 (by decide) ?_
      refine eE_icmp (t := 76) lk253_67 (by decide) (fun c157 => ?_) (fun c157 => ?_)
      · rw [if_pos c157] at h
        exact m_came_b76_ok hp0  vq143 σ l1 l2 x103 x111 x120 x130 x141 gq148 gq146 gq147 gq149 gq150 gq151 gq152 gq144 _ h
      · rw [if_neg c157] at h
        refine eE_iload lk253_70 gq151 ?_
        refine eE_iconst (v := 1) lk253_72 (by decide) ?_
        refine eE_icmp (t := 84) lk253_73 (by decide) (fun c158 => ?_) (fun c158 => ?_)
        · rw [if_pos c158] at h
          exact m_came_b84_ok hp0  vq143 σ l1 l2 x103 x111 x120 x130 x141 gq148 gq146 gq147 gq149 gq150 gq151 gq152 gq144 _ h
        · rw [if_neg c158] at h
          exact m_came_b76_ok hp0  vq143 σ l1 l2 x103 x111 x120 x130 x141 gq148 gq146 gq147 gq149 gq150 gq151 gq152 gq144 _ h
def m_came (F : Nat) (σ : RS) (l1 : Int32) (l2 : Int32) : Option (RS) := m_came_b0 F σ l1 l2
theorem m_came_ok {pF : Nat → List Value → xH → Option (Option Value × xH)} (hp0 : xNP pF) {d : Nat} {aR : Nat} {G : Nat → xC} {T : Nat × Nat} {σ : RS} {F : Nat} {l1 : Int32} {l2 : Int32} {res : RS} (h : m_came F σ l1 l2 = some res) : xCo pF (d + 11) 253 [.ref aR, .int l1, .int l2] (layR aR σ G, T) none (layR aR res G, T) := by
  unfold m_came at h
  exact xCo_R kk_253 mo_253 ni_253 xm_253 (Nat.le_of_ble_eq_true rfl) (hp0 _ (by decide) (by decide) _ _) (m_came_b0_ok hp0 _ σ l1 l2 rfl rfl rfl _ h)
