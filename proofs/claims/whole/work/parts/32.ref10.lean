/-! printed by wip/whole/gen_ref.py -/
/-! start (361), depth 6 -/
def m_start_b37 (F : Nat)  (σ : RS) : Option (Int32 × RS) :=
  if ((0 : Int32)) = 0 ∨ ((0 : Int32)) = 1 then some ((0 : Int32), σ) else none
set_option maxRecDepth 4000 in
theorem m_start_b37_ok {pF : Nat → List Value → xH → Option (Option Value × xH)} {d : Nat} {aR : Nat} {G : Nat → xC} {T : Nat × Nat} {F : Nat} (hp0 : xNP pF)  : ∀ (lv : xL) (σ : RS), xg lv 0 = some (.ref aR) → ∀ res, m_start_b37 F  σ = some res → xR pF (d + 5) kT361 16 2 false (some .boolean) (some (.int res.1)) (layR aR res.2 G, T) (37, lv, [], (layR aR σ G, T)) := by
  intro lv σ g0 res h
  unfold m_start_b37 at h
  refine eE_iconst (v := 0) lk361_37 (by decide) ?_
  by_cases z1 : ((0 : Int32)) = 0 ∨ ((0 : Int32)) = 1
  · rw [if_pos z1] at h; cases h
    exact eE_end lk361_38 rfl rfl (by first | (simp only [xfin, if_true, if_pos z1]; done) | simp [xfin, z1])
  · rw [if_neg z1] at h; cases h
def m_start_b18 (F : Nat)  (σ : RS) (s1 : Int32) (l1 : Int32) : Option (Int32 × RS) :=
  (some (setI σ 0 0 s1)).bind fun σ2 =>
  if xc0 .gt (σ2.1 0 0) = true then (
    m_start_b37 F  σ2
  ) else (
    (rld σ2 52 l1).bind fun x5 =>
    if xc0 .eq x5 = true then (
      (rst σ2 52 l1 ((((1 : Int32)) &&& 1))).bind fun σ8 =>
      (m_recover F σ8 l1).bind fun p10 =>
      (rst p10 73 l1 (((0 : Int32)))).bind fun σ12 =>
      (rst σ12 74 l1 (((-1 : Int32)))).bind fun σ14 =>
      (rld σ14 55 l1).bind fun x16 =>
      (rst σ14 75 l1 x16).bind fun σ18 =>
      (rld σ18 55 l1).bind fun x20 =>
      (rst σ18 76 l1 x20).bind fun σ22 =>
      (m_unpackAll F σ22 l1).bind fun p24 =>
      (rld p24 56 l1).bind fun x26 =>
      (rst p24 77 l1 x26).bind fun σ28 =>
      (rst σ28 78 l1 (((-2000000000 : Int32)))).bind fun σ30 =>
      (rst σ30 79 l1 (((0 : Int32)))).bind fun σ32 =>
      (rst σ32 80 l1 (((-1 : Int32)))).bind fun σ34 =>
      (rst σ34 69 l1 (((-1 : Int32)))).bind fun σ36 =>
      (rst σ36 94 l1 (((0 : Int32)))).bind fun σ38 =>
      (m_drawAlarm σ38 l1).bind fun p40 =>
      if ((1 : Int32)) = 0 ∨ ((1 : Int32)) = 1 then some ((1 : Int32), p40) else none
    ) else (
      m_start_b37 F  σ2
    )
  )
set_option maxRecDepth 4000 in
theorem m_start_b18_ok {pF : Nat → List Value → xH → Option (Option Value × xH)} {d : Nat} {aR : Nat} {G : Nat → xC} {T : Nat × Nat} {F : Nat} (hp0 : xNP pF)  : ∀ (lv : xL) (σ : RS) (s1 : Int32) (l1 : Int32), xg lv 0 = some (.ref aR) → xg lv 1 = some (.int l1) → ∀ res, m_start_b18 F  σ s1 l1 = some res → xR pF (d + 5) kT361 16 2 false (some .boolean) (some (.int res.1)) (layR aR res.2 G, T) (18, lv, [.int s1, .ref aR], (layR aR σ G, T)) := by
  intro lv σ s1 l1 g0 g1 res h
  unfold m_start_b18 at h
  obtain ⟨σ2, h3, h⟩ := Option.bind_eq_some_iff.mp h
  refine eR_putS lk361_18 rf_393 rfl (by decide) pf_0.1 pf_0.2 h3 ?_
  refine eE_aload_n lk361_21 g0 ?_
  refine eR_get lk361_22 rf_393 rfl ?_
  refine eE_if (t := 37) lk361_25 (by decide) (fun c4 => ?_) (fun c4 => ?_)
  · rw [if_pos c4] at h
    exact m_start_b37_ok hp0  lv σ2 g0 _ h
  · rw [if_neg c4] at h
    refine eE_aload_n lk361_28 g0 ?_
    refine eR_getA lk361_29 rf_120 rfl ?_
    refine eE_iload_n lk361_32 g1 ?_
    obtain ⟨x5, h6, h⟩ := Option.bind_eq_some_iff.mp h
    refine eR_bald lk361_33 rfl (Or.inr rfl) h6 ?_
    refine eE_if (t := 39) lk361_34 (by decide) (fun c7 => ?_) (fun c7 => ?_)
    · rw [if_pos c7] at h
      refine eE_aload_n lk361_39 g0 ?_
      refine eR_getA lk361_40 rf_120 rfl ?_
      refine eE_iload_n lk361_43 g1 ?_
      refine eE_iconst (v := 1) lk361_44 (by decide) ?_
      obtain ⟨σ8, h9, h⟩ := Option.bind_eq_some_iff.mp h
      refine eR_zast lk361_45 rfl rfl rfl h9 ?_
      refine eE_aload_n lk361_46 g0 ?_
      refine eE_iload_n lk361_47 g1 ?_
      obtain ⟨p10, h11, h⟩ := Option.bind_eq_some_iff.mp h
      refine eR_call (as := [.int l1]) lk361_48 mr_850 na_345 rfl rfl (Nat.le_of_ble_eq_true rfl) wv_345 wc_345 (m_recover_ok hp0 (d := d + 0) h11) ?_
      refine eE_aload_n lk361_51 g0 ?_
      refine eR_getA lk361_52 rf_185 rfl ?_
      refine eE_iload_n lk361_55 g1 ?_
      refine eE_iconst (v := 0) lk361_56 (by decide) ?_
      obtain ⟨σ12, h13, h⟩ := Option.bind_eq_some_iff.mp h
      refine eR_iast lk361_57 rfl rfl h13 ?_
      refine eE_aload_n lk361_58 g0 ?_
      refine eR_getA lk361_59 rf_188 rfl ?_
      refine eE_iload_n lk361_62 g1 ?_
      refine eE_iconst (v := (-1)) lk361_63 (by decide) ?_
      obtain ⟨σ14, h15, h⟩ := Option.bind_eq_some_iff.mp h
      refine eR_iast lk361_64 rfl rfl h15 ?_
      refine eE_aload_n lk361_65 g0 ?_
      refine eR_getA lk361_66 rf_191 rfl ?_
      refine eE_iload_n lk361_69 g1 ?_
      refine eE_aload_n lk361_70 g0 ?_
      refine eR_getA lk361_71 rf_129 rfl ?_
      refine eE_iload_n lk361_74 g1 ?_
      obtain ⟨x16, h17, h⟩ := Option.bind_eq_some_iff.mp h
      refine eR_iald lk361_75 rfl rfl h17 ?_
      obtain ⟨σ18, h19, h⟩ := Option.bind_eq_some_iff.mp h
      refine eR_iast lk361_76 rfl rfl h19 ?_
      refine eE_aload_n lk361_77 g0 ?_
      refine eR_getA lk361_78 rf_194 rfl ?_
      refine eE_iload_n lk361_81 g1 ?_
      refine eE_aload_n lk361_82 g0 ?_
      refine eR_getA lk361_83 rf_129 rfl ?_
      refine eE_iload_n lk361_86 g1 ?_
      obtain ⟨x20, h21, h⟩ := Option.bind_eq_some_iff.mp h
      refine eR_iald lk361_87 rfl rfl h21 ?_
      obtain ⟨σ22, h23, h⟩ := Option.bind_eq_some_iff.mp h
      refine eR_iast lk361_88 rfl rfl h23 ?_
      refine eE_aload_n lk361_89 g0 ?_
      refine eE_iload_n lk361_90 g1 ?_
      obtain ⟨p24, h25, h⟩ := Option.bind_eq_some_iff.mp h
      refine eR_call (as := [.int l1]) lk361_91 mr_762 na_377 rfl rfl (Nat.le_of_ble_eq_true rfl) wv_377 wc_377 (m_unpackAll_ok hp0 (d := d + 3) h25) ?_
      refine eE_aload_n lk361_94 g0 ?_
      refine eR_getA lk361_95 rf_197 rfl ?_
      refine eE_iload_n lk361_98 g1 ?_
      refine eE_aload_n lk361_99 g0 ?_
      refine eR_getA lk361_100 rf_132 rfl ?_
      refine eE_iload_n lk361_103 g1 ?_
      obtain ⟨x26, h27, h⟩ := Option.bind_eq_some_iff.mp h
      refine eR_iald lk361_104 rfl rfl h27 ?_
      obtain ⟨σ28, h29, h⟩ := Option.bind_eq_some_iff.mp h
      refine eR_iast lk361_105 rfl rfl h29 ?_
      refine eE_aload_n lk361_106 g0 ?_
      refine eR_getA lk361_107 rf_200 rfl ?_
      refine eE_iload_n lk361_110 g1 ?_
      refine eE_ldc_w (v := (-2000000000)) lk361_111 xc_388 ?_
      obtain ⟨σ30, h31, h⟩ := Option.bind_eq_some_iff.mp h
      refine eR_iast lk361_114 rfl rfl h31 ?_
      refine eE_aload_n lk361_115 g0 ?_
      refine eR_getA lk361_116 rf_203 rfl ?_
      refine eE_iload_n lk361_119 g1 ?_
      refine eE_iconst (v := 0) lk361_120 (by decide) ?_
      obtain ⟨σ32, h33, h⟩ := Option.bind_eq_some_iff.mp h
      refine eR_iast lk361_121 rfl rfl h33 ?_
      refine eE_aload_n lk361_122 g0 ?_
      refine eR_getA lk361_123 rf_206 rfl ?_
      refine eE_iload_n lk361_126 g1 ?_
      refine eE_iconst (v := (-1)) lk361_127 (by decide) ?_
      obtain ⟨σ34, h35, h⟩ := Option.bind_eq_some_iff.mp h
      refine eR_iast lk361_128 rfl rfl h35 ?_
      refine eE_aload_n lk361_129 g0 ?_
      refine eR_getA lk361_130 rf_173 rfl ?_
      refine eE_iload_n lk361_133 g1 ?_
      refine eE_iconst (v := (-1)) lk361_134 (by decide) ?_
      obtain ⟨σ36, h37, h⟩ := Option.bind_eq_some_iff.mp h
      refine eR_iast lk361_135 rfl rfl h37 ?_
      refine eE_aload_n lk361_136 g0 ?_
      refine eR_getA lk361_137 rf_248 rfl ?_
      refine eE_iload_n lk361_140 g1 ?_
      refine eE_iconst (v := 0) lk361_141 (by decide) ?_
      obtain ⟨σ38, h39, h⟩ := Option.bind_eq_some_iff.mp h
      refine eR_iast lk361_142 rfl rfl h39 ?_
      refine eE_aload_n lk361_143 g0 ?_
      refine eE_iload_n lk361_144 g1 ?_
      obtain ⟨p40, h41, h⟩ := Option.bind_eq_some_iff.mp h
      refine eR_call (as := [.int l1]) lk361_145 mr_389 na_274 rfl rfl (Nat.le_of_ble_eq_true rfl) wv_274 wc_274 (m_drawAlarm_ok hp0 (d := d + 3) h41) ?_
      refine eE_iconst (v := 1) lk361_148 (by decide) ?_
      by_cases z42 : ((1 : Int32)) = 0 ∨ ((1 : Int32)) = 1
      · rw [if_pos z42] at h; cases h
        exact eE_end lk361_149 rfl rfl (by first | (simp only [xfin, if_true, if_pos z42]; done) | simp [xfin, z42])
      · rw [if_neg z42] at h; cases h
    · rw [if_neg c7] at h
      exact m_start_b37_ok hp0  lv σ2 g0 _ h
def m_start_b0 (F : Nat)  (σ : RS) (l1 : Int32) : Option (Int32 × RS) :=
  (m_in (l1.toInt64) ((0 : Int64)) ((6 : Int64))).bind fun p43 =>
  if xc0 .eq p43 = true then (
    m_start_b18 F  σ ((1 : Int32)) l1
  ) else (
    m_start_b18 F  σ ((0 : Int32)) l1
  )
set_option maxRecDepth 4000 in
theorem m_start_b0_ok {pF : Nat → List Value → xH → Option (Option Value × xH)} {d : Nat} {aR : Nat} {G : Nat → xC} {T : Nat × Nat} {F : Nat} (hp0 : xNP pF)  : ∀ (lv : xL) (σ : RS) (l1 : Int32), xg lv 0 = some (.ref aR) → xg lv 1 = some (.int l1) → ∀ res, m_start_b0 F  σ l1 = some res → xR pF (d + 5) kT361 16 2 false (some .boolean) (some (.int res.1)) (layR aR res.2 G, T) (0, lv, [], (layR aR σ G, T)) := by
  intro lv σ l1 g0 g1 res h
  unfold m_start_b0 at h
  refine eE_aload_n lk361_0 g0 ?_
  refine eE_iload_n lk361_1 g1 ?_
  refine eE_i2l lk361_2 ?_
  refine eE_lconst (v := 0) lk361_3 (by decide) ?_
  refine eE_ldc2_w (v := 6) lk361_4 xl_827 ?_
  obtain ⟨p43, h44, h⟩ := Option.bind_eq_some_iff.mp h
  refine eE_stat (as := [.long (l1.toInt64), .long ((0 : Int64)), .long ((6 : Int64))]) lk361_7 mr_799 na_294 rfl rfl (Nat.le_of_ble_eq_true rfl) mm_294 ws_294 (m_in_ok hp0 (d := d + 4) h44) ?_
  refine eE_if (t := 17) lk361_10 (by decide) (fun c45 => ?_) (fun c45 => ?_)
  · rw [if_pos c45] at h
    refine eE_iconst (v := 1) lk361_17 (by decide) ?_
    exact m_start_b18_ok hp0  lv σ ((1 : Int32)) l1 g0 g1 _ h
  · rw [if_neg c45] at h
    refine eE_iconst (v := 0) lk361_13 (by decide) ?_
    refine eE_goto (t := 18) lk361_14 (by decide) ?_
    exact m_start_b18_ok hp0  lv σ ((0 : Int32)) l1 g0 g1 _ h
def m_start (F : Nat) (σ : RS) (l1 : Int32) : Option (Int32 × RS) := m_start_b0 F σ l1
theorem m_start_ok {pF : Nat → List Value → xH → Option (Option Value × xH)} (hp0 : xNP pF) {d : Nat} {aR : Nat} {G : Nat → xC} {T : Nat × Nat} {σ : RS} {F : Nat} {l1 : Int32} {res : Int32 × RS} (h : m_start F σ l1 = some res) : xCo pF (d + 6) 361 [.ref aR, .int l1] (layR aR σ G, T) (some (.int res.1)) (layR aR res.2 G, T) := by
  unfold m_start at h
  exact xCo_R kk_361 mo_361 ni_361 xm_361 (Nat.le_of_ble_eq_true rfl) (hp0 _ (by decide) (by decide) _ _) (m_start_b0_ok hp0 _ σ l1 rfl rfl _ h)
/-! step (362), depth 13 -/
def m_step_b24 (F : Nat)  (σ : RS) (s0 : Int32) : Option (Int32 × RS) :=
  some (s0, σ)
set_option maxRecDepth 4000 in
theorem m_step_b24_ok {pF : Nat → List Value → xH → Option (Option Value × xH)} {d : Nat} {aR : Nat} {G : Nat → xC} {T : Nat × Nat} {F : Nat} (hp0 : xNP pF)  : ∀ (lv : xL) (σ : RS) (s0 : Int32), xg lv 0 = some (.ref aR) → ∀ res, m_step_b24 F  σ s0 = some res → xR pF (d + 12) kT362 16 1 false (some .int) (some (.int res.1)) (layR aR res.2 G, T) (24, lv, [.int s0], (layR aR σ G, T)) := by
  intro lv σ s0 g0 res h
  unfold m_step_b24 at h
  cases h
  exact eE_end lk362_24 rfl rfl rfl
def m_step_b0 (F : Nat)  (σ : RS) : Option (Int32 × RS) :=
  (some (setI σ 0 0 ((0 : Int32)))).bind fun σ1 =>
  (m_findNext F σ1).bind fun p3 =>
  if xc0 .ge (p3.1 35 0) = true then (
    (m_happen F p3).bind fun p6 =>
    m_step_b24 F  p6.2 (p6.1)
  ) else (
    m_step_b24 F  p3 ((-1 : Int32))
  )
set_option maxRecDepth 4000 in
theorem m_step_b0_ok {pF : Nat → List Value → xH → Option (Option Value × xH)} {d : Nat} {aR : Nat} {G : Nat → xC} {T : Nat × Nat} {F : Nat} (hp0 : xNP pF)  : ∀ (lv : xL) (σ : RS), xg lv 0 = some (.ref aR) → ∀ res, m_step_b0 F  σ = some res → xR pF (d + 12) kT362 16 1 false (some .int) (some (.int res.1)) (layR aR res.2 G, T) (0, lv, [], (layR aR σ G, T)) := by
  intro lv σ g0 res h
  unfold m_step_b0 at h
  refine eE_aload_n lk362_0 g0 ?_
  refine eE_iconst (v := 0) lk362_1 (by decide) ?_
  obtain ⟨σ1, h2, h⟩ := Option.bind_eq_some_iff.mp h
  refine eR_putS lk362_2 rf_393 rfl (by decide) pf_0.1 pf_0.2 h2 ?_
  refine eE_aload_n lk362_5 g0 ?_
  obtain ⟨p3, h4, h⟩ := Option.bind_eq_some_iff.mp h
  refine eR_call (as := []) lk362_6 mr_820 na_283 rfl rfl (Nat.le_of_ble_eq_true rfl) wv_283 wc_283 (m_findNext_ok hp0 (d := d + 10) h4) ?_
  refine eE_aload_n lk362_9 g0 ?_
  refine eR_get lk362_10 rf_458 rfl ?_
  refine eE_if (t := 20) lk362_13 (by decide) (fun c5 => ?_) (fun c5 => ?_)
  · rw [if_pos c5] at h
    refine eE_aload_n lk362_20 g0 ?_
    obtain ⟨p6, h7, h⟩ := Option.bind_eq_some_iff.mp h
    refine eR_call (as := []) lk362_21 mr_823 na_290 rfl rfl (Nat.le_of_ble_eq_true rfl) wv_290 wc_290 (m_happen_ok hp0 (d := d + 0) h7) ?_
    exact m_step_b24_ok hp0  lv p6.2 (p6.1) g0 _ h
  · rw [if_neg c5] at h
    refine eE_iconst (v := (-1)) lk362_16 (by decide) ?_
    refine eE_goto (t := 24) lk362_17 (by decide) ?_
    exact m_step_b24_ok hp0  lv p3 ((-1 : Int32)) g0 _ h
def m_step (F : Nat) (σ : RS)  : Option (Int32 × RS) := m_step_b0 F σ 
theorem m_step_ok {pF : Nat → List Value → xH → Option (Option Value × xH)} (hp0 : xNP pF) {d : Nat} {aR : Nat} {G : Nat → xC} {T : Nat × Nat} {σ : RS} {F : Nat}  {res : Int32 × RS} (h : m_step F σ  = some res) : xCo pF (d + 13) 362 [.ref aR] (layR aR σ G, T) (some (.int res.1)) (layR aR res.2 G, T) := by
  unfold m_step at h
  exact xCo_R kk_362 mo_362 ni_362 xm_362 (Nat.le_of_ble_eq_true rfl) (hp0 _ (by decide) (by decide) _ _) (m_step_b0_ok hp0 _ σ  rfl _ h)
/-! stop (364), depth 4 -/
def m_stop_b37 (F : Nat)  (σ : RS) : Option (Int32 × RS) :=
  if ((0 : Int32)) = 0 ∨ ((0 : Int32)) = 1 then some ((0 : Int32), σ) else none
set_option maxRecDepth 4000 in
theorem m_stop_b37_ok {pF : Nat → List Value → xH → Option (Option Value × xH)} {d : Nat} {aR : Nat} {G : Nat → xC} {T : Nat × Nat} {F : Nat} (hp0 : xNP pF)  : ∀ (lv : xL) (σ : RS), xg lv 0 = some (.ref aR) → ∀ res, m_stop_b37 F  σ = some res → xR pF (d + 3) kT364 16 4 false (some .boolean) (some (.int res.1)) (layR aR res.2 G, T) (37, lv, [], (layR aR σ G, T)) := by
  intro lv σ g0 res h
  unfold m_stop_b37 at h
  refine eE_iconst (v := 0) lk364_37 (by decide) ?_
  by_cases z1 : ((0 : Int32)) = 0 ∨ ((0 : Int32)) = 1
  · rw [if_pos z1] at h; cases h
    exact eE_end lk364_38 rfl rfl (by first | (simp only [xfin, if_true, if_pos z1]; done) | simp [xfin, z1])
  · rw [if_neg z1] at h; cases h
def m_stop_b53 (F : Nat)  : Nat → RS → Int32 → Int32 → Int32 → Option (Int32 × RS)
  | 0, _, _, _, _ => none
  | n + 1, σ, l1, l2, l3 =>
    let KK := m_stop_b53 F  n
    if xc2 .ge l3 l2 = true then (
      (m_down F σ l1).bind fun p3 =>
      if ((1 : Int32)) = 0 ∨ ((1 : Int32)) = 1 then some ((1 : Int32), p3) else none
    ) else (
      (m_sendOut F σ ((((128 : Int32)) + (((32 : Int32)) * l1)) + l3)).bind fun p6 =>
      KK p6 l1 l2 (l3 + (1 : Int32))
    )
set_option maxRecDepth 4000 in
theorem m_stop_b53_ok {pF : Nat → List Value → xH → Option (Option Value × xH)} {d : Nat} {aR : Nat} {G : Nat → xC} {T : Nat × Nat} {F : Nat} (hp0 : xNP pF)  : ∀ (n : Nat) (lv : xL) (σ : RS) (l1 : Int32) (l2 : Int32) (l3 : Int32), xg lv 0 = some (.ref aR) → xg lv 1 = some (.int l1) → xg lv 2 = some (.int l2) → xg lv 3 = some (.int l3) → ∀ res, m_stop_b53 F  n σ l1 l2 l3 = some res → xR pF (d + 3) kT364 16 4 false (some .boolean) (some (.int res.1)) (layR aR res.2 G, T) (53, lv, [], (layR aR σ G, T)) := by
  intro n
  induction n with
  | zero => intro lv σ l1 l2 l3 g0 g1 g2 g3 res h; simp [m_stop_b53] at h
  | succ n hKK =>
    intro lv σ l1 l2 l3 g0 g1 g2 g3 res h
    unfold m_stop_b53 at h
    dsimp only at h
    refine eE_iload_n lk364_53 g3 ?_
    refine eE_iload_n lk364_54 g2 ?_
    refine eE_icmp (t := 78) lk364_55 (by decide) (fun c2 => ?_) (fun c2 => ?_)
    · rw [if_pos c2] at h
      refine eE_aload_n lk364_78 g0 ?_
      refine eE_iload_n lk364_79 g1 ?_
      obtain ⟨p3, h4, h⟩ := Option.bind_eq_some_iff.mp h
      refine eR_call (as := [.int l1]) lk364_80 mr_843 na_272 rfl rfl (Nat.le_of_ble_eq_true rfl) wv_272 wc_272 (m_down_ok hp0 (d := d + 1) h4) ?_
      refine eE_iconst (v := 1) lk364_83 (by decide) ?_
      by_cases z5 : ((1 : Int32)) = 0 ∨ ((1 : Int32)) = 1
      · rw [if_pos z5] at h; cases h
        exact eE_end lk364_84 rfl rfl (by first | (simp only [xfin, if_true, if_pos z5]; done) | simp [xfin, z5])
      · rw [if_neg z5] at h; cases h
    · rw [if_neg c2] at h
      refine eE_aload_n lk364_58 g0 ?_
      refine eE_sipush (v := 128) lk364_59 (by decide) ?_
      refine eE_bipush (v := 32) lk364_62 (by decide) ?_
      refine eE_iload_n lk364_64 g1 ?_
      refine eE_imul lk364_65 ?_
      refine eE_iadd lk364_66 ?_
      refine eE_iload_n lk364_67 g3 ?_
      refine eE_iadd lk364_68 ?_
      obtain ⟨p6, h7, h⟩ := Option.bind_eq_some_iff.mp h
      refine eR_call (as := [.int ((((128 : Int32)) + (((32 : Int32)) * l1)) + l3)]) lk364_69 mr_450 na_356 rfl rfl (Nat.le_of_ble_eq_true rfl) wv_356 wc_356 (m_sendOut_ok hp0 (d := d + 0) h7) ?_
      refine eE_inc (j := 3) (v := l3 + (1 : Int32)) lk364_72 g3 rfl (by decide) (fun vq8 gq9 kq10 => ?_)
      have gq11 := kq10 1 _ (by decide) (fun _ => rfl) g1
      have gq12 := kq10 2 _ (by decide) (fun _ => rfl) g2
      have gq13 := kq10 0 _ (by decide) (fun _ => rfl) g0
      refine eE_goto (t := 53) lk364_75 (by decide) ?_
      exact hKK vq8 p6 l1 l2 (l3 + (1 : Int32)) gq13 gq11 gq12 gq9 _ h
def m_stop_b18 (F : Nat)  (σ : RS) (s1 : Int32) (l1 : Int32) : Option (Int32 × RS) :=
  (some (setI σ 0 0 s1)).bind fun σ14 =>
  if xc0 .gt (σ14.1 0 0) = true then (
    m_stop_b37 F  σ14
  ) else (
    (rld σ14 52 l1).bind fun x17 =>
    if xc0 .ne x17 = true then (
      (m_syncAll F σ14 l1).bind fun p20 =>
      (rld p20 85 l1).bind fun x22 =>
      m_stop_b53 F  F p20 l1 x22 ((0 : Int32))
    ) else (
      m_stop_b37 F  σ14
    )
  )
set_option maxRecDepth 4000 in
theorem m_stop_b18_ok {pF : Nat → List Value → xH → Option (Option Value × xH)} {d : Nat} {aR : Nat} {G : Nat → xC} {T : Nat × Nat} {F : Nat} (hp0 : xNP pF)  : ∀ (lv : xL) (σ : RS) (s1 : Int32) (l1 : Int32), xg lv 0 = some (.ref aR) → xg lv 1 = some (.int l1) → ∀ res, m_stop_b18 F  σ s1 l1 = some res → xR pF (d + 3) kT364 16 4 false (some .boolean) (some (.int res.1)) (layR aR res.2 G, T) (18, lv, [.int s1, .ref aR], (layR aR σ G, T)) := by
  intro lv σ s1 l1 g0 g1 res h
  unfold m_stop_b18 at h
  obtain ⟨σ14, h15, h⟩ := Option.bind_eq_some_iff.mp h
  refine eR_putS lk364_18 rf_393 rfl (by decide) pf_0.1 pf_0.2 h15 ?_
  refine eE_aload_n lk364_21 g0 ?_
  refine eR_get lk364_22 rf_393 rfl ?_
  refine eE_if (t := 37) lk364_25 (by decide) (fun c16 => ?_) (fun c16 => ?_)
  · rw [if_pos c16] at h
    exact m_stop_b37_ok hp0  lv σ14 g0 _ h
  · rw [if_neg c16] at h
    refine eE_aload_n lk364_28 g0 ?_
    refine eR_getA lk364_29 rf_120 rfl ?_
    refine eE_iload_n lk364_32 g1 ?_
    obtain ⟨x17, h18, h⟩ := Option.bind_eq_some_iff.mp h
    refine eR_bald lk364_33 rfl (Or.inr rfl) h18 ?_
    refine eE_if (t := 39) lk364_34 (by decide) (fun c19 => ?_) (fun c19 => ?_)
    · rw [if_pos c19] at h
      refine eE_aload_n lk364_39 g0 ?_
      refine eE_iload_n lk364_40 g1 ?_
      obtain ⟨p20, h21, h⟩ := Option.bind_eq_some_iff.mp h
      refine eR_call (as := [.int l1]) lk364_41 mr_560 na_366 rfl rfl (Nat.le_of_ble_eq_true rfl) wv_366 wc_366 (m_syncAll_ok hp0 (d := d + 0) h21) ?_
      refine eE_aload_n lk364_44 g0 ?_
      refine eR_getA lk364_45 rf_221 rfl ?_
      refine eE_iload_n lk364_48 g1 ?_
      obtain ⟨x22, h23, h⟩ := Option.bind_eq_some_iff.mp h
      refine eR_iald lk364_49 rfl rfl h23 ?_
      refine eE_stI (j := 2) lk364_50 (Or.inr ⟨_, rfl, rfl⟩) (by decide) (fun vq24 gq25 kq26 => ?_)
      have gq27 := kq26 1 _ (by decide) (fun _ => rfl) g1
      have gq28 := kq26 0 _ (by decide) (fun _ => rfl) g0
      refine eE_iconst (v := 0) lk364_51 (by decide) ?_
      refine eE_stI (j := 3) lk364_52 (Or.inr ⟨_, rfl, rfl⟩) (by decide) (fun vq29 gq30 kq31 => ?_)
      have gq32 := kq31 1 _ (by decide) (fun _ => rfl) gq27
      have gq33 := kq31 0 _ (by decide) (fun _ => rfl) gq28
      have gq34 := kq31 2 _ (by decide) (fun _ => rfl) gq25
      exact m_stop_b53_ok hp0  F vq29 p20 l1 x22 ((0 : Int32)) gq33 gq32 gq34 gq30 _ h
    · rw [if_neg c19] at h
      exact m_stop_b37_ok hp0  lv σ14 g0 _ h
def m_stop_b0 (F : Nat)  (σ : RS) (l1 : Int32) : Option (Int32 × RS) :=
  (m_in (l1.toInt64) ((0 : Int64)) ((6 : Int64))).bind fun p35 =>
  if xc0 .eq p35 = true then (
    m_stop_b18 F  σ ((1 : Int32)) l1
  ) else (
    m_stop_b18 F  σ ((0 : Int32)) l1
  )
set_option maxRecDepth 4000 in
theorem m_stop_b0_ok {pF : Nat → List Value → xH → Option (Option Value × xH)} {d : Nat} {aR : Nat} {G : Nat → xC} {T : Nat × Nat} {F : Nat} (hp0 : xNP pF)  : ∀ (lv : xL) (σ : RS) (l1 : Int32), xg lv 0 = some (.ref aR) → xg lv 1 = some (.int l1) → ∀ res, m_stop_b0 F  σ l1 = some res → xR pF (d + 3) kT364 16 4 false (some .boolean) (some (.int res.1)) (layR aR res.2 G, T) (0, lv, [], (layR aR σ G, T)) := by
  intro lv σ l1 g0 g1 res h
  unfold m_stop_b0 at h
  refine eE_aload_n lk364_0 g0 ?_
  refine eE_iload_n lk364_1 g1 ?_
  refine eE_i2l lk364_2 ?_
  refine eE_lconst (v := 0) lk364_3 (by decide) ?_
  refine eE_ldc2_w (v := 6) lk364_4 xl_827 ?_
  obtain ⟨p35, h36, h⟩ := Option.bind_eq_some_iff.mp h
  refine eE_stat (as := [.long (l1.toInt64), .long ((0 : Int64)), .long ((6 : Int64))]) lk364_7 mr_799 na_294 rfl rfl (Nat.le_of_ble_eq_true rfl) mm_294 ws_294 (m_in_ok hp0 (d := d + 2) h36) ?_
  refine eE_if (t := 17) lk364_10 (by decide) (fun c37 => ?_) (fun c37 => ?_)
  · rw [if_pos c37] at h
    refine eE_iconst (v := 1) lk364_17 (by decide) ?_
    exact m_stop_b18_ok hp0  lv σ ((1 : Int32)) l1 g0 g1 _ h
  · rw [if_neg c37] at h
    refine eE_iconst (v := 0) lk364_13 (by decide) ?_
    refine eE_goto (t := 18) lk364_14 (by decide) ?_
    exact m_stop_b18_ok hp0  lv σ ((0 : Int32)) l1 g0 g1 _ h
def m_stop (F : Nat) (σ : RS) (l1 : Int32) : Option (Int32 × RS) := m_stop_b0 F σ l1
theorem m_stop_ok {pF : Nat → List Value → xH → Option (Option Value × xH)} (hp0 : xNP pF) {d : Nat} {aR : Nat} {G : Nat → xC} {T : Nat × Nat} {σ : RS} {F : Nat} {l1 : Int32} {res : Int32 × RS} (h : m_stop F σ l1 = some res) : xCo pF (d + 4) 364 [.ref aR, .int l1] (layR aR σ G, T) (some (.int res.1)) (layR aR res.2 G, T) := by
  unfold m_stop at h
  exact xCo_R kk_364 mo_364 ni_364 xm_364 (Nat.le_of_ble_eq_true rfl) (hp0 _ (by decide) (by decide) _ _) (m_stop_b0_ok hp0 _ σ l1 rfl rfl _ h)
/-! thrown (373), depth 1 -/
def m_thrown  (σ : RS) : Option (Int32 × RS) :=
  some (σ.1 0 0, σ)
set_option maxRecDepth 4000 in
theorem m_thrown_run {pF : Nat → List Value → xH → Option (Option Value × xH)} {d : Nat} {aR : Nat} {G : Nat → xC} {T : Nat × Nat} (hp0 : xNP pF)  : ∀ (lv : xL) (σ : RS), xg lv 0 = some (.ref aR) → ∀ res, m_thrown  σ = some res → xR pF (d + 0) kT373 16 1 false (some .int) (some (.int res.1)) (layR aR res.2 G, T) (0, lv, [], (layR aR σ G, T)) := by
  intro lv σ g0 res h
  unfold m_thrown at h
  refine eE_aload_n lk373_0 g0 ?_
  refine eR_get lk373_1 rf_393 rfl ?_
  cases h
  exact eE_end lk373_4 rfl rfl rfl
theorem m_thrown_ok {pF : Nat → List Value → xH → Option (Option Value × xH)} (hp0 : xNP pF) {d : Nat} {aR : Nat} {G : Nat → xC} {T : Nat × Nat} {σ : RS}  {res : Int32 × RS} (h : m_thrown σ  = some res) : xCo pF (d + 1) 373 [.ref aR] (layR aR σ G, T) (some (.int res.1)) (layR aR res.2 G, T) := by
  exact xCo_R kk_373 mo_373 ni_373 xm_373 (Nat.le_of_ble_eq_true rfl) (hp0 _ (by decide) (by decide) _ _) (m_thrown_run hp0 _ σ  rfl _ h)
/-! value (378), depth 3 -/
def m_value_b26 (F : Nat)  : Nat → RS → Int32 → Int32 → Option (Int32 × RS)
  | 0, _, _, _ => none
  | n + 1, σ, l3, l4 =>
    let KK := m_value_b26 F  n
    if xc2 .ge l4 (σ.1 144 0) = true then (
      some (σ.1 144 0, σ)
    ) else (
      (rld σ 117 ((((100 : Int32)) * l3) + l4)).bind fun x2 =>
      (rst σ 143 l4 (x2.toInt8.toInt32)).bind fun σ4 =>
      KK σ4 l3 (l4 + (1 : Int32))
    )
set_option maxRecDepth 4000 in
theorem m_value_b26_ok {pF : Nat → List Value → xH → Option (Option Value × xH)} {d : Nat} {aR : Nat} {G : Nat → xC} {T : Nat × Nat} {F : Nat} (hp0 : xNP pF)  : ∀ (n : Nat) (lv : xL) (σ : RS) (l3 : Int32) (l4 : Int32), xg lv 0 = some (.ref aR) → xg lv 3 = some (.int l3) → xg lv 4 = some (.int l4) → ∀ res, m_value_b26 F  n σ l3 l4 = some res → xR pF (d + 2) kT378 16 5 false (some .int) (some (.int res.1)) (layR aR res.2 G, T) (26, lv, [], (layR aR σ G, T)) := by
  intro n
  induction n with
  | zero => intro lv σ l3 l4 g0 g3 g4 res h; simp [m_value_b26] at h
  | succ n hKK =>
    intro lv σ l3 l4 g0 g3 g4 res h
    unfold m_value_b26 at h
    dsimp only at h
    refine eE_iload lk378_26 g4 ?_
    refine eE_aload_n lk378_28 g0 ?_
    refine eR_get lk378_29 rf_863 rfl ?_
    refine eE_icmp (t := 60) lk378_32 (by decide) (fun c1 => ?_) (fun c1 => ?_)
    · rw [if_pos c1] at h
      refine eE_aload_n lk378_60 g0 ?_
      refine eR_get lk378_61 rf_863 rfl ?_
      cases h
      exact eE_end lk378_64 rfl rfl rfl
    · rw [if_neg c1] at h
      refine eE_aload_n lk378_35 g0 ?_
      refine eR_getA lk378_36 rf_381 rfl ?_
      refine eE_iload lk378_39 g4 ?_
      refine eE_aload_n lk378_41 g0 ?_
      refine eR_getA lk378_42 rf_318 rfl ?_
      refine eE_bipush (v := 100) lk378_45 (by decide) ?_
      refine eE_iload_n lk378_47 g3 ?_
      refine eE_imul lk378_48 ?_
      refine eE_iload lk378_49 g4 ?_
      refine eE_iadd lk378_51 ?_
      obtain ⟨x2, h3, h⟩ := Option.bind_eq_some_iff.mp h
      refine eR_bald lk378_52 rfl (Or.inl rfl) h3 ?_
      obtain ⟨σ4, h5, h⟩ := Option.bind_eq_some_iff.mp h
      refine eR_bast lk378_53 rfl rfl rfl h5 ?_
      refine eE_inc (j := 4) (v := l4 + (1 : Int32)) lk378_54 g4 rfl (by decide) (fun vq6 gq7 kq8 => ?_)
      have gq9 := kq8 3 _ (by decide) (fun _ => rfl) g3
      have gq10 := kq8 0 _ (by decide) (fun _ => rfl) g0
      refine eE_goto (t := 26) lk378_57 (by decide) ?_
      exact hKK vq6 σ4 l3 (l4 + (1 : Int32)) gq10 gq9 gq7 _ h
def m_value_b0 (F : Nat)  (σ : RS) (l1 : Int32) (l2 : Int32) : Option (Int32 × RS) :=
  (m_keyAt σ l1 l2).bind fun p11 =>
  if xc0 .ge p11.1 = true then (
    (rld p11.2 115 p11.1).bind fun x18 =>
    (some (setI p11.2 144 0 x18)).bind fun σ20 =>
    m_value_b26 F  F σ20 (p11.1) ((0 : Int32))
  ) else (
    some ((0 : Int32), p11.2)
  )
set_option maxRecDepth 4000 in
theorem m_value_b0_ok {pF : Nat → List Value → xH → Option (Option Value × xH)} {d : Nat} {aR : Nat} {G : Nat → xC} {T : Nat × Nat} {F : Nat} (hp0 : xNP pF)  : ∀ (lv : xL) (σ : RS) (l1 : Int32) (l2 : Int32), xg lv 0 = some (.ref aR) → xg lv 1 = some (.int l1) → xg lv 2 = some (.int l2) → ∀ res, m_value_b0 F  σ l1 l2 = some res → xR pF (d + 2) kT378 16 5 false (some .int) (some (.int res.1)) (layR aR res.2 G, T) (0, lv, [], (layR aR σ G, T)) := by
  intro lv σ l1 l2 g0 g1 g2 res h
  unfold m_value_b0 at h
  refine eE_aload_n lk378_0 g0 ?_
  refine eE_iload_n lk378_1 g1 ?_
  refine eE_iload_n lk378_2 g2 ?_
  obtain ⟨p11, h12, h⟩ := Option.bind_eq_some_iff.mp h
  refine eR_call (as := [.int l1, .int l2]) lk378_3 mr_860 na_309 rfl rfl (Nat.le_of_ble_eq_true rfl) wv_309 wc_309 (m_keyAt_ok hp0 (d := d + 0) h12) ?_
  refine eE_stI (j := 3) lk378_6 (Or.inr ⟨_, rfl, rfl⟩) (by decide) (fun vq13 gq14 kq15 => ?_)
  have gq16 := kq15 0 _ (by decide) (fun _ => rfl) g0
  refine eE_iload_n lk378_7 gq14 ?_
  refine eE_if (t := 13) lk378_8 (by decide) (fun c17 => ?_) (fun c17 => ?_)
  · rw [if_pos c17] at h
    refine eE_aload_n lk378_13 gq16 ?_
    refine eE_aload_n lk378_14 gq16 ?_
    refine eR_getA lk378_15 rf_311 rfl ?_
    refine eE_iload_n lk378_18 gq14 ?_
    obtain ⟨x18, h19, h⟩ := Option.bind_eq_some_iff.mp h
    refine eR_iald lk378_19 rfl rfl h19 ?_
    obtain ⟨σ20, h21, h⟩ := Option.bind_eq_some_iff.mp h
    refine eR_putS lk378_20 rf_863 rfl (by decide) pf_144.1 pf_144.2 h21 ?_
    refine eE_iconst (v := 0) lk378_23 (by decide) ?_
    refine eE_stI (j := 4) lk378_24 (Or.inl rfl) (by decide) (fun vq22 gq23 kq24 => ?_)
    have gq25 := kq24 0 _ (by decide) (fun _ => rfl) gq16
    have gq26 := kq24 3 _ (by decide) (fun _ => rfl) gq14
    exact m_value_b26_ok hp0  F vq22 σ20 (p11.1) ((0 : Int32)) gq25 gq26 gq23 _ h
  · rw [if_neg c17] at h
    refine eE_iconst (v := 0) lk378_11 (by decide) ?_
    cases h
    exact eE_end lk378_12 rfl rfl rfl
def m_value (F : Nat) (σ : RS) (l1 : Int32) (l2 : Int32) : Option (Int32 × RS) := m_value_b0 F σ l1 l2
theorem m_value_ok {pF : Nat → List Value → xH → Option (Option Value × xH)} (hp0 : xNP pF) {d : Nat} {aR : Nat} {G : Nat → xC} {T : Nat × Nat} {σ : RS} {F : Nat} {l1 : Int32} {l2 : Int32} {res : Int32 × RS} (h : m_value F σ l1 l2 = some res) : xCo pF (d + 3) 378 [.ref aR, .int l1, .int l2] (layR aR σ G, T) (some (.int res.1)) (layR aR res.2 G, T) := by
  unfold m_value at h
  exact xCo_R kk_378 mo_378 ni_378 xm_378 (Nat.le_of_ble_eq_true rfl) (hp0 _ (by decide) (by decide) _ _) (m_value_b0_ok hp0 _ σ l1 l2 rfl rfl rfl _ h)
