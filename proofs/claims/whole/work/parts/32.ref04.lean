/-! printed by wip/whole/gen_ref.py -/
/-! resign (349), depth 2 -/
def m_resign_b30  (σ : RS) (s1 : Int32) (s2 : Int32) : Option (RS) :=
  (m_tellClient σ s1 s2 ((-1 : Int32))).bind fun p1 =>
  some p1
set_option maxRecDepth 4000 in
theorem m_resign_b30_ok {pF : Nat → List Value → xH → Option (Option Value × xH)} {d : Nat} {aR : Nat} {G : Nat → xC} {T : Nat × Nat} (hp0 : xNP pF)  : ∀ (lv : xL) (σ : RS) (s1 : Int32) (s2 : Int32), xg lv 0 = some (.ref aR) → ∀ res, m_resign_b30  σ s1 s2 = some res → xR pF (d + 1) kT349 16 2 false none none (layR aR res G, T) (30, lv, [.int s2, .int s1, .ref aR], (layR aR σ G, T)) := by
  intro lv σ s1 s2 g0 res h
  unfold m_resign_b30 at h
  refine eE_iconst (v := (-1)) lk349_30 (by decide) ?_
  obtain ⟨p1, h2, h⟩ := Option.bind_eq_some_iff.mp h
  refine eR_call (as := [.int s1, .int s2, .int ((-1 : Int32))]) lk349_31 mr_782 na_370 rfl rfl (Nat.le_of_ble_eq_true rfl) wv_370 wc_370 (m_tellClient_ok hp0 (d := d + 0) h2) ?_
  cases h
  exact eE_end lk349_34 rfl rfl rfl
def m_resign_b15  (σ : RS) (l1 : Int32) : Option (RS) :=
  (m_isCommand σ l1).bind fun p3 =>
  if xc0 .eq p3.1 = true then (
    m_resign_b30  p3.2 l1 ((3 : Int32))
  ) else (
    m_resign_b30  p3.2 l1 ((2 : Int32))
  )
set_option maxRecDepth 4000 in
theorem m_resign_b15_ok {pF : Nat → List Value → xH → Option (Option Value × xH)} {d : Nat} {aR : Nat} {G : Nat → xC} {T : Nat × Nat} (hp0 : xNP pF)  : ∀ (lv : xL) (σ : RS) (l1 : Int32), xg lv 0 = some (.ref aR) → xg lv 1 = some (.int l1) → ∀ res, m_resign_b15  σ l1 = some res → xR pF (d + 1) kT349 16 2 false none none (layR aR res G, T) (15, lv, [], (layR aR σ G, T)) := by
  intro lv σ l1 g0 g1 res h
  unfold m_resign_b15 at h
  refine eE_aload_n lk349_15 g0 ?_
  refine eE_iload_n lk349_16 g1 ?_
  refine eE_aload_n lk349_17 g0 ?_
  refine eE_iload_n lk349_18 g1 ?_
  obtain ⟨p3, h4, h⟩ := Option.bind_eq_some_iff.mp h
  refine eR_call (as := [.int l1]) lk349_19 mr_778 na_301 rfl rfl (Nat.le_of_ble_eq_true rfl) wv_301 wc_301 (m_isCommand_ok hp0 (d := d + 0) h4) ?_
  refine eE_if (t := 29) lk349_22 (by decide) (fun c5 => ?_) (fun c5 => ?_)
  · rw [if_pos c5] at h
    refine eE_iconst (v := 3) lk349_29 (by decide) ?_
    exact m_resign_b30_ok hp0  lv p3.2 l1 ((3 : Int32)) g0 _ h
  · rw [if_neg c5] at h
    refine eE_iconst (v := 2) lk349_25 (by decide) ?_
    refine eE_goto (t := 30) lk349_26 (by decide) ?_
    exact m_resign_b30_ok hp0  lv p3.2 l1 ((2 : Int32)) g0 _ h
def m_resign_b0  (σ : RS) (l1 : Int32) : Option (RS) :=
  (m_isCommand σ l1).bind fun p6 =>
  if xc0 .eq p6.1 = true then (
    m_resign_b15  p6.2 l1
  ) else (
    (rst p6.2 126 l1 (((-1 : Int32)))).bind fun σ9 =>
    m_resign_b15  σ9 l1
  )
set_option maxRecDepth 4000 in
theorem m_resign_b0_ok {pF : Nat → List Value → xH → Option (Option Value × xH)} {d : Nat} {aR : Nat} {G : Nat → xC} {T : Nat × Nat} (hp0 : xNP pF)  : ∀ (lv : xL) (σ : RS) (l1 : Int32), xg lv 0 = some (.ref aR) → xg lv 1 = some (.int l1) → ∀ res, m_resign_b0  σ l1 = some res → xR pF (d + 1) kT349 16 2 false none none (layR aR res G, T) (0, lv, [], (layR aR σ G, T)) := by
  intro lv σ l1 g0 g1 res h
  unfold m_resign_b0 at h
  refine eE_aload_n lk349_0 g0 ?_
  refine eE_iload_n lk349_1 g1 ?_
  obtain ⟨p6, h7, h⟩ := Option.bind_eq_some_iff.mp h
  refine eR_call (as := [.int l1]) lk349_2 mr_778 na_301 rfl rfl (Nat.le_of_ble_eq_true rfl) wv_301 wc_301 (m_isCommand_ok hp0 (d := d + 0) h7) ?_
  refine eE_if (t := 15) lk349_5 (by decide) (fun c8 => ?_) (fun c8 => ?_)
  · rw [if_pos c8] at h
    exact m_resign_b15_ok hp0  lv p6.2 l1 g0 g1 _ h
  · rw [if_neg c8] at h
    refine eE_aload_n lk349_8 g0 ?_
    refine eR_getA lk349_9 rf_336 rfl ?_
    refine eE_iload_n lk349_12 g1 ?_
    refine eE_iconst (v := (-1)) lk349_13 (by decide) ?_
    obtain ⟨σ9, h10, h⟩ := Option.bind_eq_some_iff.mp h
    refine eR_iast lk349_14 rfl rfl h10 ?_
    exact m_resign_b15_ok hp0  lv σ9 l1 g0 g1 _ h
def m_resign (σ : RS) (l1 : Int32) : Option (RS) := m_resign_b0 σ l1
theorem m_resign_ok {pF : Nat → List Value → xH → Option (Option Value × xH)} (hp0 : xNP pF) {d : Nat} {aR : Nat} {G : Nat → xC} {T : Nat × Nat} {σ : RS} {l1 : Int32} {res : RS} (h : m_resign σ l1 = some res) : xCo pF (d + 2) 349 [.ref aR, .int l1] (layR aR σ G, T) none (layR aR res G, T) := by
  unfold m_resign at h
  exact xCo_R kk_349 mo_349 ni_349 xm_349 (Nat.le_of_ble_eq_true rfl) (hp0 _ (by decide) (by decide) _ _) (m_resign_b0_ok hp0 _ σ l1 rfl rfl _ h)
/-! demand (271), depth 4 -/
def m_demand_b147 (F : Nat)  : Nat → RS → Int32 → Int32 → Option (RS)
  | 0, _, _, _ => none
  | n + 1, σ, l1, l3 =>
    let KK := m_demand_b147 F  n
    (rld σ 11 ((352 : Int32))).bind fun x1 =>
    if xc2 .ge l3 x1 = true then (
      (rst σ 6 ((352 : Int32)) ((((8 : Int32)) + l1))).bind fun σ4 =>
      (rld σ4 125 l1).bind fun x6 =>
      (rst σ4 7 ((352 : Int32)) x6).bind fun σ8 =>
      (m_sendOut F σ8 ((352 : Int32))).bind fun p10 =>
      (m_alarm p10 (((8 : Int32)) + l1) ((p10.1 1 0) + ((60 : Int32)))).bind fun p12 =>
      (rst p12 130 l1 ((((1 : Int32)) &&& 1))).bind fun σ14 =>
      some σ14
    ) else (
      (rld σ 136 ((((400 : Int32)) * l1) + l3)).bind fun x16 =>
      (m_layLetter σ (((540672 : Int32)) + l3) x16).bind fun p18 =>
      KK p18 l1 (l3 + (1 : Int32))
    )
set_option maxRecDepth 4000 in
theorem m_demand_b147_ok {pF : Nat → List Value → xH → Option (Option Value × xH)} {d : Nat} {aR : Nat} {G : Nat → xC} {T : Nat × Nat} {F : Nat} (hp0 : xNP pF)  : ∀ (n : Nat) (lv : xL) (σ : RS) (l1 : Int32) (l3 : Int32), xg lv 0 = some (.ref aR) → xg lv 1 = some (.int l1) → xg lv 3 = some (.int l3) → ∀ res, m_demand_b147 F  n σ l1 l3 = some res → xR pF (d + 3) kT271 16 4 false none none (layR aR res G, T) (147, lv, [], (layR aR σ G, T)) := by
  intro n
  induction n with
  | zero => intro lv σ l1 l3 g0 g1 g3 res h; simp [m_demand_b147] at h
  | succ n hKK =>
    intro lv σ l1 l3 g0 g1 g3 res h
    unfold m_demand_b147 at h
    dsimp only at h
    refine eE_iload_n lk271_147 g3 ?_
    refine eE_aload_n lk271_148 g0 ?_
    refine eR_getA lk271_149 rf_29 rfl ?_
    refine eE_sipush (v := 352) lk271_152 (by decide) ?_
    obtain ⟨x1, h2, h⟩ := Option.bind_eq_some_iff.mp h
    refine eR_iald lk271_155 rfl rfl h2 ?_
    refine eE_icmp (t := 186) lk271_156 (by decide) (fun c3 => ?_) (fun c3 => ?_)
    · rw [if_pos c3] at h
      refine eE_aload_n lk271_186 g0 ?_
      refine eR_getA lk271_187 rf_13 rfl ?_
      refine eE_sipush (v := 352) lk271_190 (by decide) ?_
      refine eE_bipush (v := 8) lk271_193 (by decide) ?_
      refine eE_iload_n lk271_195 g1 ?_
      refine eE_iadd lk271_196 ?_
      obtain ⟨σ4, h5, h⟩ := Option.bind_eq_some_iff.mp h
      refine eR_iast lk271_197 rfl rfl h5 ?_
      refine eE_aload_n lk271_198 g0 ?_
      refine eR_getA lk271_199 rf_17 rfl ?_
      refine eE_sipush (v := 352) lk271_202 (by decide) ?_
      refine eE_aload_n lk271_205 g0 ?_
      refine eR_getA lk271_206 rf_333 rfl ?_
      refine eE_iload_n lk271_209 g1 ?_
      obtain ⟨x6, h7, h⟩ := Option.bind_eq_some_iff.mp h
      refine eR_iald lk271_210 rfl rfl h7 ?_
      obtain ⟨σ8, h9, h⟩ := Option.bind_eq_some_iff.mp h
      refine eR_iast lk271_211 rfl rfl h9 ?_
      refine eE_aload_n lk271_212 g0 ?_
      refine eE_sipush (v := 352) lk271_213 (by decide) ?_
      obtain ⟨p10, h11, h⟩ := Option.bind_eq_some_iff.mp h
      refine eR_call (as := [.int ((352 : Int32))]) lk271_216 mr_450 na_356 rfl rfl (Nat.le_of_ble_eq_true rfl) wv_356 wc_356 (m_sendOut_ok hp0 (d := d + 0) h11) ?_
      refine eE_aload_n lk271_219 g0 ?_
      refine eE_bipush (v := 8) lk271_220 (by decide) ?_
      refine eE_iload_n lk271_222 g1 ?_
      refine eE_iadd lk271_223 ?_
      refine eE_aload_n lk271_224 g0 ?_
      refine eR_get lk271_225 rf_431 rfl ?_
      refine eE_bipush (v := 60) lk271_228 (by decide) ?_
      refine eE_iadd lk271_230 ?_
      obtain ⟨p12, h13, h⟩ := Option.bind_eq_some_iff.mp h
      refine eR_call (as := [.int (((8 : Int32)) + l1), .int ((p10.1 1 0) + ((60 : Int32)))]) lk271_231 mr_455 na_241 rfl rfl (Nat.le_of_ble_eq_true rfl) wv_241 wc_241 (m_alarm_ok hp0 (d := d + 2) h13) ?_
      refine eE_aload_n lk271_234 g0 ?_
      refine eR_getA lk271_235 rf_348 rfl ?_
      refine eE_iload_n lk271_238 g1 ?_
      refine eE_iconst (v := 1) lk271_239 (by decide) ?_
      obtain ⟨σ14, h15, h⟩ := Option.bind_eq_some_iff.mp h
      refine eR_zast lk271_240 rfl rfl rfl h15 ?_
      cases h
      exact eE_end lk271_241 rfl rfl rfl
    · rw [if_neg c3] at h
      refine eE_aload_n lk271_159 g0 ?_
      refine eE_ldc_w (v := 540672) lk271_160 xc_690 ?_
      refine eE_iload_n lk271_163 g3 ?_
      refine eE_iadd lk271_164 ?_
      refine eE_aload_n lk271_165 g0 ?_
      refine eR_getA lk271_166 rf_366 rfl ?_
      refine eE_sipush (v := 400) lk271_169 (by decide) ?_
      refine eE_iload_n lk271_172 g1 ?_
      refine eE_imul lk271_173 ?_
      refine eE_iload_n lk271_174 g3 ?_
      refine eE_iadd lk271_175 ?_
      obtain ⟨x16, h17, h⟩ := Option.bind_eq_some_iff.mp h
      refine eR_bald lk271_176 rfl (Or.inl rfl) h17 ?_
      obtain ⟨p18, h19, h⟩ := Option.bind_eq_some_iff.mp h
      refine eR_call (as := [.int (((540672 : Int32)) + l3), .int x16]) lk271_177 mr_691 na_315 rfl rfl (Nat.le_of_ble_eq_true rfl) wv_315 wc_315 (m_layLetter_ok hp0 (d := d + 2) h19) ?_
      refine eE_inc (j := 3) (v := l3 + (1 : Int32)) lk271_180 g3 rfl (by decide) (fun vq20 gq21 kq22 => ?_)
      have gq23 := kq22 1 _ (by decide) (fun _ => rfl) g1
      have gq24 := kq22 0 _ (by decide) (fun _ => rfl) g0
      refine eE_goto (t := 147) lk271_183 (by decide) ?_
      exact hKK vq20 p18 l1 (l3 + (1 : Int32)) gq24 gq23 gq21 _ h
def m_demand_b144 (F : Nat)  (σ : RS) (s1 : Int32) (s2 : Int32) (l1 : Int32) : Option (RS) :=
  (rst σ 11 s1 s2).bind fun σ25 =>
  m_demand_b147 F  F σ25 l1 ((0 : Int32))
set_option maxRecDepth 4000 in
theorem m_demand_b144_ok {pF : Nat → List Value → xH → Option (Option Value × xH)} {d : Nat} {aR : Nat} {G : Nat → xC} {T : Nat × Nat} {F : Nat} (hp0 : xNP pF)  : ∀ (lv : xL) (σ : RS) (s1 : Int32) (s2 : Int32) (l1 : Int32), xg lv 0 = some (.ref aR) → xg lv 1 = some (.int l1) → ∀ res, m_demand_b144 F  σ s1 s2 l1 = some res → xR pF (d + 3) kT271 16 4 false none none (layR aR res G, T) (144, lv, [.int s2, .int s1, .ref (aR + rpos 11)], (layR aR σ G, T)) := by
  intro lv σ s1 s2 l1 g0 g1 res h
  unfold m_demand_b144 at h
  obtain ⟨σ25, h26, h⟩ := Option.bind_eq_some_iff.mp h
  refine eR_iast lk271_144 rfl rfl h26 ?_
  refine eE_iconst (v := 0) lk271_145 (by decide) ?_
  refine eE_stI (j := 3) lk271_146 (Or.inr ⟨_, rfl, rfl⟩) (by decide) (fun vq27 gq28 kq29 => ?_)
  have gq30 := kq29 1 _ (by decide) (fun _ => rfl) g1
  have gq31 := kq29 0 _ (by decide) (fun _ => rfl) g0
  exact m_demand_b147_ok hp0  F vq27 σ25 l1 ((0 : Int32)) gq31 gq30 gq28 _ h
def m_demand_b122 (F : Nat)  (σ : RS) (s1 : Int32) (s2 : Int32) (l1 : Int32) (l2 : Int32) : Option (RS) :=
  (rst σ 12 s1 s2).bind fun σ32 =>
  if xc0 .eq l2 = true then (
    (rld σ32 135 l1).bind fun x35 =>
    m_demand_b144 F  σ32 ((352 : Int32)) x35 l1
  ) else (
    m_demand_b144 F  σ32 ((352 : Int32)) ((0 : Int32)) l1
  )
set_option maxRecDepth 4000 in
theorem m_demand_b122_ok {pF : Nat → List Value → xH → Option (Option Value × xH)} {d : Nat} {aR : Nat} {G : Nat → xC} {T : Nat × Nat} {F : Nat} (hp0 : xNP pF)  : ∀ (lv : xL) (σ : RS) (s1 : Int32) (s2 : Int32) (l1 : Int32) (l2 : Int32), xg lv 0 = some (.ref aR) → xg lv 1 = some (.int l1) → xg lv 2 = some (.int l2) → ∀ res, m_demand_b122 F  σ s1 s2 l1 l2 = some res → xR pF (d + 3) kT271 16 4 false none none (layR aR res G, T) (122, lv, [.int s2, .int s1, .ref (aR + rpos 12)], (layR aR σ G, T)) := by
  intro lv σ s1 s2 l1 l2 g0 g1 g2 res h
  unfold m_demand_b122 at h
  obtain ⟨σ32, h33, h⟩ := Option.bind_eq_some_iff.mp h
  refine eR_iast lk271_122 rfl rfl h33 ?_
  refine eE_aload_n lk271_123 g0 ?_
  refine eR_getA lk271_124 rf_29 rfl ?_
  refine eE_sipush (v := 352) lk271_127 (by decide) ?_
  refine eE_iload_n lk271_130 g2 ?_
  refine eE_if (t := 138) lk271_131 (by decide) (fun c34 => ?_) (fun c34 => ?_)
  · rw [if_pos c34] at h
    refine eE_aload_n lk271_138 g0 ?_
    refine eR_getA lk271_139 rf_363 rfl ?_
    refine eE_iload_n lk271_142 g1 ?_
    obtain ⟨x35, h36, h⟩ := Option.bind_eq_some_iff.mp h
    refine eR_iald lk271_143 rfl rfl h36 ?_
    exact m_demand_b144_ok hp0  lv σ32 ((352 : Int32)) x35 l1 g0 g1 _ h
  · rw [if_neg c34] at h
    refine eE_iconst (v := 0) lk271_134 (by decide) ?_
    refine eE_goto (t := 144) lk271_135 (by decide) ?_
    exact m_demand_b144_ok hp0  lv σ32 ((352 : Int32)) ((0 : Int32)) l1 g0 g1 _ h
def m_demand_b58 (F : Nat)  (σ : RS) (s1 : Int32) (s2 : Int32) (s3 : Int32) (l1 : Int32) (l2 : Int32) : Option (RS) :=
  (rld σ 126 l1).bind fun x37 =>
  (rld σ 127 l1).bind fun x39 =>
  (m_write σ s1 s2 s3 x37 x39).bind fun p41 =>
  (rld p41 133 l1).bind fun x43 =>
  (rst p41 12 ((2819 : Int32)) x43).bind fun σ45 =>
  (rld σ45 134 l1).bind fun x47 =>
  (rst σ45 12 ((2820 : Int32)) x47).bind fun σ49 =>
  if xc0 .eq l2 = true then (
    (rld σ49 135 l1).bind fun x52 =>
    m_demand_b122 F  σ49 ((2821 : Int32)) x52 l1 l2
  ) else (
    m_demand_b122 F  σ49 ((2821 : Int32)) ((0 : Int32)) l1 l2
  )
set_option maxRecDepth 4000 in
theorem m_demand_b58_ok {pF : Nat → List Value → xH → Option (Option Value × xH)} {d : Nat} {aR : Nat} {G : Nat → xC} {T : Nat × Nat} {F : Nat} (hp0 : xNP pF)  : ∀ (lv : xL) (σ : RS) (s1 : Int32) (s2 : Int32) (s3 : Int32) (l1 : Int32) (l2 : Int32), xg lv 0 = some (.ref aR) → xg lv 1 = some (.int l1) → xg lv 2 = some (.int l2) → ∀ res, m_demand_b58 F  σ s1 s2 s3 l1 l2 = some res → xR pF (d + 3) kT271 16 4 false none none (layR aR res G, T) (58, lv, [.int s3, .int s2, .int s1, .ref aR], (layR aR σ G, T)) := by
  intro lv σ s1 s2 s3 l1 l2 g0 g1 g2 res h
  unfold m_demand_b58 at h
  refine eE_aload_n lk271_58 g0 ?_
  refine eR_getA lk271_59 rf_336 rfl ?_
  refine eE_iload_n lk271_62 g1 ?_
  obtain ⟨x37, h38, h⟩ := Option.bind_eq_some_iff.mp h
  refine eR_iald lk271_63 rfl rfl h38 ?_
  refine eE_aload_n lk271_64 g0 ?_
  refine eR_getA lk271_65 rf_339 rfl ?_
  refine eE_iload_n lk271_68 g1 ?_
  obtain ⟨x39, h40, h⟩ := Option.bind_eq_some_iff.mp h
  refine eR_iald lk271_69 rfl rfl h40 ?_
  obtain ⟨p41, h42, h⟩ := Option.bind_eq_some_iff.mp h
  refine eR_call (as := [.int s1, .int s2, .int s3, .int x37, .int x39]) lk271_70 mr_647 na_381 rfl rfl (Nat.le_of_ble_eq_true rfl) wv_381 wc_381 (m_write_ok hp0 (d := d + 2) h42) ?_
  refine eE_aload_n lk271_73 g0 ?_
  refine eR_getA lk271_74 rf_32 rfl ?_
  refine eE_sipush (v := 2819) lk271_77 (by decide) ?_
  refine eE_aload_n lk271_80 g0 ?_
  refine eR_getA lk271_81 rf_357 rfl ?_
  refine eE_iload_n lk271_84 g1 ?_
  obtain ⟨x43, h44, h⟩ := Option.bind_eq_some_iff.mp h
  refine eR_iald lk271_85 rfl rfl h44 ?_
  obtain ⟨σ45, h46, h⟩ := Option.bind_eq_some_iff.mp h
  refine eR_iast lk271_86 rfl rfl h46 ?_
  refine eE_aload_n lk271_87 g0 ?_
  refine eR_getA lk271_88 rf_32 rfl ?_
  refine eE_sipush (v := 2820) lk271_91 (by decide) ?_
  refine eE_aload_n lk271_94 g0 ?_
  refine eR_getA lk271_95 rf_360 rfl ?_
  refine eE_iload_n lk271_98 g1 ?_
  obtain ⟨x47, h48, h⟩ := Option.bind_eq_some_iff.mp h
  refine eR_iald lk271_99 rfl rfl h48 ?_
  obtain ⟨σ49, h50, h⟩ := Option.bind_eq_some_iff.mp h
  refine eR_iast lk271_100 rfl rfl h50 ?_
  refine eE_aload_n lk271_101 g0 ?_
  refine eR_getA lk271_102 rf_32 rfl ?_
  refine eE_sipush (v := 2821) lk271_105 (by decide) ?_
  refine eE_iload_n lk271_108 g2 ?_
  refine eE_if (t := 116) lk271_109 (by decide) (fun c51 => ?_) (fun c51 => ?_)
  · rw [if_pos c51] at h
    refine eE_aload_n lk271_116 g0 ?_
    refine eR_getA lk271_117 rf_363 rfl ?_
    refine eE_iload_n lk271_120 g1 ?_
    obtain ⟨x52, h53, h⟩ := Option.bind_eq_some_iff.mp h
    refine eR_iald lk271_121 rfl rfl h53 ?_
    exact m_demand_b122_ok hp0  lv σ49 ((2821 : Int32)) x52 l1 l2 g0 g1 g2 _ h
  · rw [if_neg c51] at h
    refine eE_iconst (v := 0) lk271_112 (by decide) ?_
    refine eE_goto (t := 122) lk271_113 (by decide) ?_
    exact m_demand_b122_ok hp0  lv σ49 ((2821 : Int32)) ((0 : Int32)) l1 l2 g0 g1 g2 _ h
def m_demand_b0 (F : Nat)  (σ : RS) (l1 : Int32) : Option (RS) :=
  (rld σ 129 l1).bind fun x54 =>
  (rst σ 129 l1 ((x54 + ((1 : Int32))))).bind fun σ56 =>
  (rld σ56 129 l1).bind fun x58 =>
  if xc2 .le x58 ((40 : Int32)) = true then (
    (rld σ56 131 l1).bind fun x61 =>
    (rld σ56 128 l1).bind fun x68 =>
    if xc0 .eq x61 = true then (
      (rld σ56 132 l1).bind fun x71 =>
      m_demand_b58 F  σ56 ((10 : Int32)) x68 x71 l1 x61
    ) else (
      m_demand_b58 F  σ56 ((10 : Int32)) x68 ((6 : Int32)) l1 x61
    )
  ) else (
    (m_resign σ56 l1).bind fun p73 =>
    some p73
  )
set_option maxRecDepth 4000 in
theorem m_demand_b0_ok {pF : Nat → List Value → xH → Option (Option Value × xH)} {d : Nat} {aR : Nat} {G : Nat → xC} {T : Nat × Nat} {F : Nat} (hp0 : xNP pF)  : ∀ (lv : xL) (σ : RS) (l1 : Int32), xg lv 0 = some (.ref aR) → xg lv 1 = some (.int l1) → ∀ res, m_demand_b0 F  σ l1 = some res → xR pF (d + 3) kT271 16 4 false none none (layR aR res G, T) (0, lv, [], (layR aR σ G, T)) := by
  intro lv σ l1 g0 g1 res h
  unfold m_demand_b0 at h
  refine eE_aload_n lk271_0 g0 ?_
  refine eR_getA lk271_1 rf_345 rfl ?_
  refine eE_iload_n lk271_4 g1 ?_
  refine eE_dup2 lk271_5 rfl rfl ?_
  obtain ⟨x54, h55, h⟩ := Option.bind_eq_some_iff.mp h
  refine eR_iald lk271_6 rfl rfl h55 ?_
  refine eE_iconst (v := 1) lk271_7 (by decide) ?_
  refine eE_iadd lk271_8 ?_
  obtain ⟨σ56, h57, h⟩ := Option.bind_eq_some_iff.mp h
  refine eR_iast lk271_9 rfl rfl h57 ?_
  refine eE_aload_n lk271_10 g0 ?_
  refine eR_getA lk271_11 rf_345 rfl ?_
  refine eE_iload_n lk271_14 g1 ?_
  obtain ⟨x58, h59, h⟩ := Option.bind_eq_some_iff.mp h
  refine eR_iald lk271_15 rfl rfl h59 ?_
  refine eE_bipush (v := 40) lk271_16 (by decide) ?_
  refine eE_icmp (t := 27) lk271_18 (by decide) (fun c60 => ?_) (fun c60 => ?_)
  · rw [if_pos c60] at h
    refine eE_aload_n lk271_27 g0 ?_
    refine eR_getA lk271_28 rf_351 rfl ?_
    refine eE_iload_n lk271_31 g1 ?_
    obtain ⟨x61, h62, h⟩ := Option.bind_eq_some_iff.mp h
    refine eR_bald lk271_32 rfl (Or.inr rfl) h62 ?_
    refine eE_stI (j := 2) lk271_33 (Or.inr ⟨_, rfl, rfl⟩) (by decide) (fun vq63 gq64 kq65 => ?_)
    have gq66 := kq65 1 _ (by decide) (fun _ => rfl) g1
    have gq67 := kq65 0 _ (by decide) (fun _ => rfl) g0
    refine eE_aload_n lk271_34 gq67 ?_
    refine eE_bipush (v := 10) lk271_35 (by decide) ?_
    refine eE_aload_n lk271_37 gq67 ?_
    refine eR_getA lk271_38 rf_342 rfl ?_
    refine eE_iload_n lk271_41 gq66 ?_
    obtain ⟨x68, h69, h⟩ := Option.bind_eq_some_iff.mp h
    refine eR_iald lk271_42 rfl rfl h69 ?_
    refine eE_iload_n lk271_43 gq64 ?_
    refine eE_if (t := 52) lk271_44 (by decide) (fun c70 => ?_) (fun c70 => ?_)
    · rw [if_pos c70] at h
      refine eE_aload_n lk271_52 gq67 ?_
      refine eR_getA lk271_53 rf_354 rfl ?_
      refine eE_iload_n lk271_56 gq66 ?_
      obtain ⟨x71, h72, h⟩ := Option.bind_eq_some_iff.mp h
      refine eR_iald lk271_57 rfl rfl h72 ?_
      exact m_demand_b58_ok hp0  vq63 σ56 ((10 : Int32)) x68 x71 l1 x61 gq67 gq66 gq64 _ h
    · rw [if_neg c70] at h
      refine eE_bipush (v := 6) lk271_47 (by decide) ?_
      refine eE_goto (t := 58) lk271_49 (by decide) ?_
      exact m_demand_b58_ok hp0  vq63 σ56 ((10 : Int32)) x68 ((6 : Int32)) l1 x61 gq67 gq66 gq64 _ h
  · rw [if_neg c60] at h
    refine eE_aload_n lk271_21 g0 ?_
    refine eE_iload_n lk271_22 g1 ?_
    obtain ⟨p73, h74, h⟩ := Option.bind_eq_some_iff.mp h
    refine eR_call (as := [.int l1]) lk271_23 mr_772 na_349 rfl rfl (Nat.le_of_ble_eq_true rfl) wv_349 wc_349 (m_resign_ok hp0 (d := d + 1) h74) ?_
    cases h
    exact eE_end lk271_26 rfl rfl rfl
def m_demand (F : Nat) (σ : RS) (l1 : Int32) : Option (RS) := m_demand_b0 F σ l1
theorem m_demand_ok {pF : Nat → List Value → xH → Option (Option Value × xH)} (hp0 : xNP pF) {d : Nat} {aR : Nat} {G : Nat → xC} {T : Nat × Nat} {σ : RS} {F : Nat} {l1 : Int32} {res : RS} (h : m_demand F σ l1 = some res) : xCo pF (d + 4) 271 [.ref aR, .int l1] (layR aR σ G, T) none (layR aR res G, T) := by
  unfold m_demand at h
  exact xCo_R kk_271 mo_271 ni_271 xm_271 (Nat.le_of_ble_eq_true rfl) (hp0 _ (by decide) (by decide) _ _) (m_demand_b0_ok hp0 _ σ l1 rfl rfl _ h)
/-! isAsking (300), depth 2 -/
def m_isAsking_b33  (σ : RS) : Option (Int32 × RS) :=
  if ((0 : Int32)) = 0 ∨ ((0 : Int32)) = 1 then some ((0 : Int32), σ) else none
set_option maxRecDepth 4000 in
theorem m_isAsking_b33_ok {pF : Nat → List Value → xH → Option (Option Value × xH)} {d : Nat} {aR : Nat} {G : Nat → xC} {T : Nat × Nat} (hp0 : xNP pF)  : ∀ (lv : xL) (σ : RS), xg lv 0 = some (.ref aR) → ∀ res, m_isAsking_b33  σ = some res → xR pF (d + 1) kT300 16 6 false (some .boolean) (some (.int res.1)) (layR aR res.2 G, T) (33, lv, [], (layR aR σ G, T)) := by
  intro lv σ g0 res h
  unfold m_isAsking_b33 at h
  refine eE_iconst (v := 0) lk300_33 (by decide) ?_
  by_cases z1 : ((0 : Int32)) = 0 ∨ ((0 : Int32)) = 1
  · rw [if_pos z1] at h; cases h
    exact eE_end lk300_34 rfl rfl (by first | (simp only [xfin, if_true, if_pos z1]; done) | simp [xfin, z1])
  · rw [if_neg z1] at h; cases h
def m_isAsking_b93  (σ : RS) (s0 : Int32) : Option (Int32 × RS) :=
  if s0 = 0 ∨ s0 = 1 then some (s0, σ) else none
set_option maxRecDepth 4000 in
theorem m_isAsking_b93_ok {pF : Nat → List Value → xH → Option (Option Value × xH)} {d : Nat} {aR : Nat} {G : Nat → xC} {T : Nat × Nat} (hp0 : xNP pF)  : ∀ (lv : xL) (σ : RS) (s0 : Int32), xg lv 0 = some (.ref aR) → ∀ res, m_isAsking_b93  σ s0 = some res → xR pF (d + 1) kT300 16 6 false (some .boolean) (some (.int res.1)) (layR aR res.2 G, T) (93, lv, [.int s0], (layR aR σ G, T)) := by
  intro lv σ s0 g0 res h
  unfold m_isAsking_b93 at h
  by_cases z2 : s0 = 0 ∨ s0 = 1
  · rw [if_pos z2] at h; cases h
    exact eE_end lk300_93 rfl rfl (by first | (simp only [xfin, if_true, if_pos z2]; done) | simp [xfin, z2])
  · rw [if_neg z2] at h; cases h
def m_isAsking_b92  (σ : RS) : Option (Int32 × RS) :=
  m_isAsking_b93  σ ((0 : Int32))
set_option maxRecDepth 4000 in
theorem m_isAsking_b92_ok {pF : Nat → List Value → xH → Option (Option Value × xH)} {d : Nat} {aR : Nat} {G : Nat → xC} {T : Nat × Nat} (hp0 : xNP pF)  : ∀ (lv : xL) (σ : RS), xg lv 0 = some (.ref aR) → ∀ res, m_isAsking_b92  σ = some res → xR pF (d + 1) kT300 16 6 false (some .boolean) (some (.int res.1)) (layR aR res.2 G, T) (92, lv, [], (layR aR σ G, T)) := by
  intro lv σ g0 res h
  unfold m_isAsking_b92 at h
  refine eE_iconst (v := 0) lk300_92 (by decide) ?_
  exact m_isAsking_b93_ok hp0  lv σ ((0 : Int32)) g0 _ h
def m_isAsking_b122  (σ : RS) (s0 : Int32) : Option (Int32 × RS) :=
  if s0 = 0 ∨ s0 = 1 then some (s0, σ) else none
set_option maxRecDepth 4000 in
theorem m_isAsking_b122_ok {pF : Nat → List Value → xH → Option (Option Value × xH)} {d : Nat} {aR : Nat} {G : Nat → xC} {T : Nat × Nat} (hp0 : xNP pF)  : ∀ (lv : xL) (σ : RS) (s0 : Int32), xg lv 0 = some (.ref aR) → ∀ res, m_isAsking_b122  σ s0 = some res → xR pF (d + 1) kT300 16 6 false (some .boolean) (some (.int res.1)) (layR aR res.2 G, T) (122, lv, [.int s0], (layR aR σ G, T)) := by
  intro lv σ s0 g0 res h
  unfold m_isAsking_b122 at h
  by_cases z3 : s0 = 0 ∨ s0 = 1
  · rw [if_pos z3] at h; cases h
    exact eE_end lk300_122 rfl rfl (by first | (simp only [xfin, if_true, if_pos z3]; done) | simp [xfin, z3])
  · rw [if_neg z3] at h; cases h
def m_isAsking_b35  (σ : RS) (l1 : Int32) (l2 : Int32) (l3 : Int32) (l4 : Int32) : Option (Int32 × RS) :=
  if xc0 .ne l1 = true then (
    if xc2 .ne l1 ((1 : Int32)) = true then (
      if xc2 .ne l1 ((4 : Int32)) = true then (
        if xc0 .ne (l4 - l2) = true then (
          m_isAsking_b122  σ ((0 : Int32))
        ) else (
          m_isAsking_b122  σ ((1 : Int32))
        )
      ) else (
        (m_in ((l4 - l2).toInt64) ((1 : Int64)) ((32 : Int64))).bind fun p14 =>
        m_isAsking_b122  σ p14
      )
    ) else (
      (m_in (l3.toInt64) ((0 : Int64)) ((100 : Int64))).bind fun p16 =>
      if xc0 .eq p16 = true then (
        m_isAsking_b92  σ
      ) else (
        (m_in (((l4 - l2) - l3).toInt64) ((0 : Int64)) ((100 : Int64))).bind fun p19 =>
        if xc0 .eq p19 = true then (
          m_isAsking_b92  σ
        ) else (
          m_isAsking_b93  σ ((1 : Int32))
        )
      )
    )
  ) else (
    (m_in ((l4 - l2).toInt64) ((0 : Int64)) ((100 : Int64))).bind fun p22 =>
    if p22 = 0 ∨ p22 = 1 then some (p22, σ) else none
  )
set_option maxRecDepth 4000 in
theorem m_isAsking_b35_ok {pF : Nat → List Value → xH → Option (Option Value × xH)} {d : Nat} {aR : Nat} {G : Nat → xC} {T : Nat × Nat} (hp0 : xNP pF)  : ∀ (lv : xL) (σ : RS) (l1 : Int32) (l2 : Int32) (l3 : Int32) (l4 : Int32), xg lv 0 = some (.ref aR) → xg lv 1 = some (.int l1) → xg lv 2 = some (.int l2) → xg lv 3 = some (.int l3) → xg lv 4 = some (.int l4) → ∀ res, m_isAsking_b35  σ l1 l2 l3 l4 = some res → xR pF (d + 1) kT300 16 6 false (some .boolean) (some (.int res.1)) (layR aR res.2 G, T) (35, lv, [], (layR aR σ G, T)) := by
  intro lv σ l1 l2 l3 l4 g0 g1 g2 g3 g4 res h
  unfold m_isAsking_b35 at h
  refine eE_iload lk300_35 g4 ?_
  refine eE_iload_n lk300_37 g2 ?_
  refine eE_isub lk300_38 ?_
  refine eE_stI (j := 5) lk300_39 (Or.inl rfl) (by decide) (fun vq4 gq5 kq6 => ?_)
  have gq7 := kq6 1 _ (by decide) (fun _ => rfl) g1
  have gq8 := kq6 3 _ (by decide) (fun _ => rfl) g3
  have gq9 := kq6 0 _ (by decide) (fun _ => rfl) g0
  refine eE_iload_n lk300_41 gq7 ?_
  refine eE_if (t := 56) lk300_42 (by decide) (fun c10 => ?_) (fun c10 => ?_)
  · rw [if_pos c10] at h
    refine eE_iload_n lk300_56 gq7 ?_
    refine eE_iconst (v := 1) lk300_57 (by decide) ?_
    refine eE_icmp (t := 94) lk300_58 (by decide) (fun c11 => ?_) (fun c11 => ?_)
    · rw [if_pos c11] at h
      refine eE_iload_n lk300_94 gq7 ?_
      refine eE_iconst (v := 4) lk300_95 (by decide) ?_
      refine eE_icmp (t := 112) lk300_96 (by decide) (fun c12 => ?_) (fun c12 => ?_)
      · rw [if_pos c12] at h
        refine eE_iload lk300_112 gq5 ?_
        refine eE_if (t := 121) lk300_114 (by decide) (fun c13 => ?_) (fun c13 => ?_)
        · rw [if_pos c13] at h
          refine eE_iconst (v := 0) lk300_121 (by decide) ?_
          exact m_isAsking_b122_ok hp0  vq4 σ ((0 : Int32)) gq9 _ h
        · rw [if_neg c13] at h
          refine eE_iconst (v := 1) lk300_117 (by decide) ?_
          refine eE_goto (t := 122) lk300_118 (by decide) ?_
          exact m_isAsking_b122_ok hp0  vq4 σ ((1 : Int32)) gq9 _ h
      · rw [if_neg c12] at h
        refine eE_iload lk300_99 gq5 ?_
        refine eE_i2l lk300_101 ?_
        refine eE_lconst (v := 1) lk300_102 (by decide) ?_
        refine eE_ldc2_w (v := 32) lk300_103 xl_805 ?_
        obtain ⟨p14, h15, h⟩ := Option.bind_eq_some_iff.mp h
        refine eE_stat (as := [.long ((l4 - l2).toInt64), .long ((1 : Int64)), .long ((32 : Int64))]) lk300_106 mr_799 na_294 rfl rfl (Nat.le_of_ble_eq_true rfl) mm_294 ws_294 (m_in_ok hp0 (d := d + 0) h15) ?_
        refine eE_goto (t := 122) lk300_109 (by decide) ?_
        exact m_isAsking_b122_ok hp0  vq4 σ p14 gq9 _ h
    · rw [if_neg c11] at h
      refine eE_iload_n lk300_61 gq8 ?_
      refine eE_i2l lk300_62 ?_
      refine eE_lconst (v := 0) lk300_63 (by decide) ?_
      refine eE_ldc2_w (v := 100) lk300_64 xl_807 ?_
      obtain ⟨p16, h17, h⟩ := Option.bind_eq_some_iff.mp h
      refine eE_stat (as := [.long (l3.toInt64), .long ((0 : Int64)), .long ((100 : Int64))]) lk300_67 mr_799 na_294 rfl rfl (Nat.le_of_ble_eq_true rfl) mm_294 ws_294 (m_in_ok hp0 (d := d + 0) h17) ?_
      refine eE_if (t := 92) lk300_70 (by decide) (fun c18 => ?_) (fun c18 => ?_)
      · rw [if_pos c18] at h
        exact m_isAsking_b92_ok hp0  vq4 σ gq9 _ h
      · rw [if_neg c18] at h
        refine eE_iload lk300_73 gq5 ?_
        refine eE_iload_n lk300_75 gq8 ?_
        refine eE_isub lk300_76 ?_
        refine eE_i2l lk300_77 ?_
        refine eE_lconst (v := 0) lk300_78 (by decide) ?_
        refine eE_ldc2_w (v := 100) lk300_79 xl_807 ?_
        obtain ⟨p19, h20, h⟩ := Option.bind_eq_some_iff.mp h
        refine eE_stat (as := [.long (((l4 - l2) - l3).toInt64), .long ((0 : Int64)), .long ((100 : Int64))]) lk300_82 mr_799 na_294 rfl rfl (Nat.le_of_ble_eq_true rfl) mm_294 ws_294 (m_in_ok hp0 (d := d + 0) h20) ?_
        refine eE_if (t := 92) lk300_85 (by decide) (fun c21 => ?_) (fun c21 => ?_)
        · rw [if_pos c21] at h
          exact m_isAsking_b92_ok hp0  vq4 σ gq9 _ h
        · rw [if_neg c21] at h
          refine eE_iconst (v := 1) lk300_88 (by decide) ?_
          refine eE_goto (t := 93) lk300_89 (by decide) ?_
          exact m_isAsking_b93_ok hp0  vq4 σ ((1 : Int32)) gq9 _ h
  · rw [if_neg c10] at h
    refine eE_iload lk300_45 gq5 ?_
    refine eE_i2l lk300_47 ?_
    refine eE_lconst (v := 0) lk300_48 (by decide) ?_
    refine eE_ldc2_w (v := 100) lk300_49 xl_807 ?_
    obtain ⟨p22, h23, h⟩ := Option.bind_eq_some_iff.mp h
    refine eE_stat (as := [.long ((l4 - l2).toInt64), .long ((0 : Int64)), .long ((100 : Int64))]) lk300_52 mr_799 na_294 rfl rfl (Nat.le_of_ble_eq_true rfl) mm_294 ws_294 (m_in_ok hp0 (d := d + 0) h23) ?_
    by_cases z24 : p22 = 0 ∨ p22 = 1
    · rw [if_pos z24] at h; cases h
      exact eE_end lk300_55 rfl rfl (by first | (simp only [xfin, if_true, if_pos z24]; done) | simp [xfin, z24])
    · rw [if_neg z24] at h; cases h
def m_isAsking_b0  (σ : RS) (l1 : Int32) (l2 : Int32) (l3 : Int32) (l4 : Int32) : Option (Int32 × RS) :=
  (m_in (l1.toInt64) ((0 : Int64)) ((5 : Int64))).bind fun p25 =>
  if xc0 .eq p25 = true then (
    m_isAsking_b33  σ
  ) else (
    (m_in (l2.toInt64) ((1 : Int64)) ((32 : Int64))).bind fun p28 =>
    if xc0 .eq p28 = true then (
      m_isAsking_b33  σ
    ) else (
      if xc2 .eq l1 ((1 : Int32)) = true then (
        m_isAsking_b35  σ l1 l2 l3 l4
      ) else (
        if xc0 .eq l3 = true then (
          m_isAsking_b35  σ l1 l2 l3 l4
        ) else (
          m_isAsking_b33  σ
        )
      )
    )
  )
set_option maxRecDepth 4000 in
theorem m_isAsking_b0_ok {pF : Nat → List Value → xH → Option (Option Value × xH)} {d : Nat} {aR : Nat} {G : Nat → xC} {T : Nat × Nat} (hp0 : xNP pF)  : ∀ (lv : xL) (σ : RS) (l1 : Int32) (l2 : Int32) (l3 : Int32) (l4 : Int32), xg lv 0 = some (.ref aR) → xg lv 1 = some (.int l1) → xg lv 2 = some (.int l2) → xg lv 3 = some (.int l3) → xg lv 4 = some (.int l4) → ∀ res, m_isAsking_b0  σ l1 l2 l3 l4 = some res → xR pF (d + 1) kT300 16 6 false (some .boolean) (some (.int res.1)) (layR aR res.2 G, T) (0, lv, [], (layR aR σ G, T)) := by
  intro lv σ l1 l2 l3 l4 g0 g1 g2 g3 g4 res h
  unfold m_isAsking_b0 at h
  refine eE_iload_n lk300_0 g1 ?_
  refine eE_i2l lk300_1 ?_
  refine eE_lconst (v := 0) lk300_2 (by decide) ?_
  refine eE_ldc2_w (v := 5) lk300_3 xl_803 ?_
  obtain ⟨p25, h26, h⟩ := Option.bind_eq_some_iff.mp h
  refine eE_stat (as := [.long (l1.toInt64), .long ((0 : Int64)), .long ((5 : Int64))]) lk300_6 mr_799 na_294 rfl rfl (Nat.le_of_ble_eq_true rfl) mm_294 ws_294 (m_in_ok hp0 (d := d + 0) h26) ?_
  refine eE_if (t := 33) lk300_9 (by decide) (fun c27 => ?_) (fun c27 => ?_)
  · rw [if_pos c27] at h
    exact m_isAsking_b33_ok hp0  lv σ g0 _ h
  · rw [if_neg c27] at h
    refine eE_iload_n lk300_12 g2 ?_
    refine eE_i2l lk300_13 ?_
    refine eE_lconst (v := 1) lk300_14 (by decide) ?_
    refine eE_ldc2_w (v := 32) lk300_15 xl_805 ?_
    obtain ⟨p28, h29, h⟩ := Option.bind_eq_some_iff.mp h
    refine eE_stat (as := [.long (l2.toInt64), .long ((1 : Int64)), .long ((32 : Int64))]) lk300_18 mr_799 na_294 rfl rfl (Nat.le_of_ble_eq_true rfl) mm_294 ws_294 (m_in_ok hp0 (d := d + 0) h29) ?_
    refine eE_if (t := 33) lk300_21 (by decide) (fun c30 => ?_) (fun c30 => ?_)
    · rw [if_pos c30] at h
      exact m_isAsking_b33_ok hp0  lv σ g0 _ h
    · rw [if_neg c30] at h
      refine eE_iload_n lk300_24 g1 ?_
      refine eE_iconst (v := 1) lk300_25 (by decide) ?_
      refine eE_icmp (t := 35) lk300_26 (by decide) (fun c31 => ?_) (fun c31 => ?_)
      · rw [if_pos c31] at h
        exact m_isAsking_b35_ok hp0  lv σ l1 l2 l3 l4 g0 g1 g2 g3 g4 _ h
      · rw [if_neg c31] at h
        refine eE_iload_n lk300_29 g3 ?_
        refine eE_if (t := 35) lk300_30 (by decide) (fun c32 => ?_) (fun c32 => ?_)
        · rw [if_pos c32] at h
          exact m_isAsking_b35_ok hp0  lv σ l1 l2 l3 l4 g0 g1 g2 g3 g4 _ h
        · rw [if_neg c32] at h
          exact m_isAsking_b33_ok hp0  lv σ g0 _ h
def m_isAsking (σ : RS) (l1 : Int32) (l2 : Int32) (l3 : Int32) (l4 : Int32) : Option (Int32 × RS) := m_isAsking_b0 σ l1 l2 l3 l4
theorem m_isAsking_ok {pF : Nat → List Value → xH → Option (Option Value × xH)} (hp0 : xNP pF) {d : Nat} {aR : Nat} {G : Nat → xC} {T : Nat × Nat} {σ : RS} {l1 : Int32} {l2 : Int32} {l3 : Int32} {l4 : Int32} {res : Int32 × RS} (h : m_isAsking σ l1 l2 l3 l4 = some res) : xCo pF (d + 2) 300 [.ref aR, .int l1, .int l2, .int l3, .int l4] (layR aR σ G, T) (some (.int res.1)) (layR aR res.2 G, T) := by
  unfold m_isAsking at h
  exact xCo_R kk_300 mo_300 ni_300 xm_300 (Nat.le_of_ble_eq_true rfl) (hp0 _ (by decide) (by decide) _ _) (m_isAsking_b0_ok hp0 _ σ l1 l2 l3 l4 rfl rfl rfl rfl rfl _ h)
/-! ask (248), depth 5 -/
def m_ask_b324 (F : Nat)  (σ : RS) (l1 : Int32) : Option (Int32 × RS) :=
  (rld σ 128 l1).bind fun x1 =>
  (rst σ 128 l1 ((x1 + ((1 : Int32))))).bind fun σ3 =>
  (m_demand F σ3 l1).bind fun p5 =>
  some ((p5.1 140 0) - ((1 : Int32)), p5)
set_option maxRecDepth 4000 in
theorem m_ask_b324_ok {pF : Nat → List Value → xH → Option (Option Value × xH)} {d : Nat} {aR : Nat} {G : Nat → xC} {T : Nat × Nat} {F : Nat} (hp0 : xNP pF)  : ∀ (lv : xL) (σ : RS) (l1 : Int32), xg lv 0 = some (.ref aR) → xg lv 1 = some (.int l1) → ∀ res, m_ask_b324 F  σ l1 = some res → xR pF (d + 4) kT248 16 8 false (some .int) (some (.int res.1)) (layR aR res.2 G, T) (324, lv, [], (layR aR σ G, T)) := by
  intro lv σ l1 g0 g1 res h
  unfold m_ask_b324 at h
  refine eE_aload_n lk248_324 g0 ?_
  refine eR_getA lk248_325 rf_342 rfl ?_
  refine eE_iload_n lk248_328 g1 ?_
  refine eE_dup2 lk248_329 rfl rfl ?_
  obtain ⟨x1, h2, h⟩ := Option.bind_eq_some_iff.mp h
  refine eR_iald lk248_330 rfl rfl h2 ?_
  refine eE_iconst (v := 1) lk248_331 (by decide) ?_
  refine eE_iadd lk248_332 ?_
  obtain ⟨σ3, h4, h⟩ := Option.bind_eq_some_iff.mp h
  refine eR_iast lk248_333 rfl rfl h4 ?_
  refine eE_aload_n lk248_334 g0 ?_
  refine eE_iload_n lk248_335 g1 ?_
  obtain ⟨p5, h6, h⟩ := Option.bind_eq_some_iff.mp h
  refine eR_call (as := [.int l1]) lk248_336 mr_785 na_271 rfl rfl (Nat.le_of_ble_eq_true rfl) wv_271 wc_271 (m_demand_ok hp0 (d := d + 0) h6) ?_
  refine eE_aload_n lk248_339 g0 ?_
  refine eR_get lk248_340 rf_815 rfl ?_
  refine eE_iconst (v := 1) lk248_343 (by decide) ?_
  refine eE_isub lk248_344 ?_
  cases h
  exact eE_end lk248_345 rfl rfl rfl
def m_ask_b299 (F : Nat)  (σ : RS) (s1 : Int32) (s2 : Int32) (l1 : Int32) (l2 : Int32) : Option (Int32 × RS) :=
  (rst σ 131 s1 ((s2 &&& 1))).bind fun σ7 =>
  if xc2 .ge l2 ((3 : Int32)) = true then (
    m_ask_b324 F  σ7 l1
  ) else (
    (rld σ7 131 l1).bind fun x10 =>
    if xc0 .ne x10 = true then (
      m_ask_b324 F  σ7 l1
    ) else (
      (rld σ7 127 l1).bind fun x13 =>
      (rst σ7 127 l1 ((x13 + ((1 : Int32))))).bind fun σ15 =>
      m_ask_b324 F  σ15 l1
    )
  )
set_option maxRecDepth 4000 in
theorem m_ask_b299_ok {pF : Nat → List Value → xH → Option (Option Value × xH)} {d : Nat} {aR : Nat} {G : Nat → xC} {T : Nat × Nat} {F : Nat} (hp0 : xNP pF)  : ∀ (lv : xL) (σ : RS) (s1 : Int32) (s2 : Int32) (l1 : Int32) (l2 : Int32), xg lv 0 = some (.ref aR) → xg lv 1 = some (.int l1) → xg lv 2 = some (.int l2) → ∀ res, m_ask_b299 F  σ s1 s2 l1 l2 = some res → xR pF (d + 4) kT248 16 8 false (some .int) (some (.int res.1)) (layR aR res.2 G, T) (299, lv, [.int s2, .int s1, .ref (aR + rpos 131)], (layR aR σ G, T)) := by
  intro lv σ s1 s2 l1 l2 g0 g1 g2 res h
  unfold m_ask_b299 at h
  obtain ⟨σ7, h8, h⟩ := Option.bind_eq_some_iff.mp h
  refine eR_zast lk248_299 rfl rfl rfl h8 ?_
  refine eE_iload_n lk248_300 g2 ?_
  refine eE_iconst (v := 3) lk248_301 (by decide) ?_
  refine eE_icmp (t := 324) lk248_302 (by decide) (fun c9 => ?_) (fun c9 => ?_)
  · rw [if_pos c9] at h
    exact m_ask_b324_ok hp0  lv σ7 l1 g0 g1 _ h
  · rw [if_neg c9] at h
    refine eE_aload_n lk248_305 g0 ?_
    refine eR_getA lk248_306 rf_351 rfl ?_
    refine eE_iload_n lk248_309 g1 ?_
    obtain ⟨x10, h11, h⟩ := Option.bind_eq_some_iff.mp h
    refine eR_bald lk248_310 rfl (Or.inr rfl) h11 ?_
    refine eE_if (t := 324) lk248_311 (by decide) (fun c12 => ?_) (fun c12 => ?_)
    · rw [if_pos c12] at h
      exact m_ask_b324_ok hp0  lv σ7 l1 g0 g1 _ h
    · rw [if_neg c12] at h
      refine eE_aload_n lk248_314 g0 ?_
      refine eR_getA lk248_315 rf_339 rfl ?_
      refine eE_iload_n lk248_318 g1 ?_
      refine eE_dup2 lk248_319 rfl rfl ?_
      obtain ⟨x13, h14, h⟩ := Option.bind_eq_some_iff.mp h
      refine eR_iald lk248_320 rfl rfl h14 ?_
      refine eE_iconst (v := 1) lk248_321 (by decide) ?_
      refine eE_iadd lk248_322 ?_
      obtain ⟨σ15, h16, h⟩ := Option.bind_eq_some_iff.mp h
      refine eR_iast lk248_323 rfl rfl h16 ?_
      exact m_ask_b324_ok hp0  lv σ15 l1 g0 g1 _ h
def m_ask_b298 (F : Nat)  (σ : RS) (s1 : Int32) (l1 : Int32) (l2 : Int32) : Option (Int32 × RS) :=
  m_ask_b299 F  σ s1 ((0 : Int32)) l1 l2
set_option maxRecDepth 4000 in
theorem m_ask_b298_ok {pF : Nat → List Value → xH → Option (Option Value × xH)} {d : Nat} {aR : Nat} {G : Nat → xC} {T : Nat × Nat} {F : Nat} (hp0 : xNP pF)  : ∀ (lv : xL) (σ : RS) (s1 : Int32) (l1 : Int32) (l2 : Int32), xg lv 0 = some (.ref aR) → xg lv 1 = some (.int l1) → xg lv 2 = some (.int l2) → ∀ res, m_ask_b298 F  σ s1 l1 l2 = some res → xR pF (d + 4) kT248 16 8 false (some .int) (some (.int res.1)) (layR aR res.2 G, T) (298, lv, [.int s1, .ref (aR + rpos 131)], (layR aR σ G, T)) := by
  intro lv σ s1 l1 l2 g0 g1 g2 res h
  unfold m_ask_b298 at h
  refine eE_iconst (v := 0) lk248_298 (by decide) ?_
  exact m_ask_b299_ok hp0  lv σ s1 ((0 : Int32)) l1 l2 g0 g1 g2 _ h
def m_ask_b242 (F : Nat)  : Nat → RS → Int32 → Int32 → Int32 → Int32 → Option (Int32 × RS)
  | 0, _, _, _, _, _ => none
  | n + 1, σ, l1, l2, l5, l7 =>
    let KK := m_ask_b242 F  n
    if xc2 .ge l7 l5 = true then (
      if xc2 .ge l2 ((3 : Int32)) = true then (
        m_ask_b298 F  σ l1 l1 l2
      ) else (
        (rld σ 126 l1).bind fun x19 =>
        if xc0 .ge x19 = true then (
          m_ask_b298 F  σ l1 l1 l2
        ) else (
          m_ask_b299 F  σ l1 ((1 : Int32)) l1 l2
        )
      )
    ) else (
      (rld σ 4 l7).bind fun x22 =>
      (rst σ 136 ((((400 : Int32)) * l1) + l7) (x22.toInt8.toInt32)).bind fun σ24 =>
      KK σ24 l1 l2 l5 (l7 + (1 : Int32))
    )
set_option maxRecDepth 4000 in
theorem m_ask_b242_ok {pF : Nat → List Value → xH → Option (Option Value × xH)} {d : Nat} {aR : Nat} {G : Nat → xC} {T : Nat × Nat} {F : Nat} (hp0 : xNP pF)  : ∀ (n : Nat) (lv : xL) (σ : RS) (l1 : Int32) (l2 : Int32) (l5 : Int32) (l7 : Int32), xg lv 0 = some (.ref aR) → xg lv 1 = some (.int l1) → xg lv 2 = some (.int l2) → xg lv 5 = some (.int l5) → xg lv 7 = some (.int l7) → ∀ res, m_ask_b242 F  n σ l1 l2 l5 l7 = some res → xR pF (d + 4) kT248 16 8 false (some .int) (some (.int res.1)) (layR aR res.2 G, T) (242, lv, [], (layR aR σ G, T)) := by
  intro n
  induction n with
  | zero => intro lv σ l1 l2 l5 l7 g0 g1 g2 g5 g7 res h; simp [m_ask_b242] at h
  | succ n hKK =>
    intro lv σ l1 l2 l5 l7 g0 g1 g2 g5 g7 res h
    unfold m_ask_b242 at h
    dsimp only at h
    refine eE_iload lk248_242 g7 ?_
    refine eE_iload lk248_244 g5 ?_
    refine eE_icmp (t := 275) lk248_246 (by decide) (fun c17 => ?_) (fun c17 => ?_)
    · rw [if_pos c17] at h
      refine eE_aload_n lk248_275 g0 ?_
      refine eR_getA lk248_276 rf_351 rfl ?_
      refine eE_iload_n lk248_279 g1 ?_
      refine eE_iload_n lk248_280 g2 ?_
      refine eE_iconst (v := 3) lk248_281 (by decide) ?_
      refine eE_icmp (t := 298) lk248_282 (by decide) (fun c18 => ?_) (fun c18 => ?_)
      · rw [if_pos c18] at h
        exact m_ask_b298_ok hp0  lv σ l1 l1 l2 g0 g1 g2 _ h
      · rw [if_neg c18] at h
        refine eE_aload_n lk248_285 g0 ?_
        refine eR_getA lk248_286 rf_336 rfl ?_
        refine eE_iload_n lk248_289 g1 ?_
        obtain ⟨x19, h20, h⟩ := Option.bind_eq_some_iff.mp h
        refine eR_iald lk248_290 rfl rfl h20 ?_
        refine eE_if (t := 298) lk248_291 (by decide) (fun c21 => ?_) (fun c21 => ?_)
        · rw [if_pos c21] at h
          exact m_ask_b298_ok hp0  lv σ l1 l1 l2 g0 g1 g2 _ h
        · rw [if_neg c21] at h
          refine eE_iconst (v := 1) lk248_294 (by decide) ?_
          refine eE_goto (t := 299) lk248_295 (by decide) ?_
          exact m_ask_b299_ok hp0  lv σ l1 ((1 : Int32)) l1 l2 g0 g1 g2 _ h
    · rw [if_neg c17] at h
      refine eE_aload_n lk248_249 g0 ?_
      refine eR_getA lk248_250 rf_366 rfl ?_
      refine eE_sipush (v := 400) lk248_253 (by decide) ?_
      refine eE_iload_n lk248_256 g1 ?_
      refine eE_imul lk248_257 ?_
      refine eE_iload lk248_258 g7 ?_
      refine eE_iadd lk248_260 ?_
      refine eE_aload_n lk248_261 g0 ?_
      refine eR_getA lk248_262 rf_7 rfl ?_
      refine eE_iload lk248_265 g7 ?_
      obtain ⟨x22, h23, h⟩ := Option.bind_eq_some_iff.mp h
      refine eR_bald lk248_267 rfl (Or.inl rfl) h23 ?_
      obtain ⟨σ24, h25, h⟩ := Option.bind_eq_some_iff.mp h
      refine eR_bast lk248_268 rfl rfl rfl h25 ?_
      refine eE_inc (j := 7) (v := l7 + (1 : Int32)) lk248_269 g7 rfl (by decide) (fun vq26 gq27 kq28 => ?_)
      have gq29 := kq28 1 _ (by decide) (fun _ => rfl) g1
      have gq30 := kq28 2 _ (by decide) (fun _ => rfl) g2
      have gq31 := kq28 5 _ (by decide) (fun _ => rfl) g5
      have gq32 := kq28 0 _ (by decide) (fun _ => rfl) g0
      refine eE_goto (t := 242) lk248_272 (by decide) ?_
      exact hKK vq26 σ24 l1 l2 l5 (l7 + (1 : Int32)) gq32 gq29 gq30 gq31 gq27 _ h
def m_ask_b83 (F : Nat)  (σ : RS) (s1 : Int32) (l1 : Int32) (l2 : Int32) (l3 : Int32) (l4 : Int32) (l5 : Int32) : Option (Int32 × RS) :=
  (some (setI σ 0 0 s1)).bind fun σ33 =>
  if xc0 .le (σ33.1 0 0) = true then (
    (rst σ33 142 (((6 : Int32)) * (σ33.1 140 0)) l1).bind fun σ45 =>
    (rst σ45 142 ((((6 : Int32)) * (σ33.1 140 0)) + ((1 : Int32))) l2).bind fun σ47 =>
    (rst σ47 142 ((((6 : Int32)) * (σ33.1 140 0)) + ((2 : Int32))) ((σ47.1 141 0))).bind fun σ49 =>
    (rst σ49 142 ((((6 : Int32)) * (σ33.1 140 0)) + ((3 : Int32))) (((-1 : Int32)))).bind fun σ51 =>
    (rst σ51 142 ((((6 : Int32)) * (σ33.1 140 0)) + ((4 : Int32))) (((0 : Int32)))).bind fun σ53 =>
    (rst σ53 142 ((((6 : Int32)) * (σ33.1 140 0)) + ((5 : Int32))) (((-1 : Int32)))).bind fun σ55 =>
    (some (setI σ55 141 0 ((σ55.1 141 0) + ((1 : Int32))))).bind fun σ57 =>
    (rst σ57 137 l1 ((σ57.1 140 0))).bind fun σ59 =>
    (some (setI σ59 140 0 ((σ59.1 140 0) + ((1 : Int32))))).bind fun σ61 =>
    (rst σ61 124 l1 ((((1 : Int32)) &&& 1))).bind fun σ63 =>
    (rst σ63 129 l1 (((0 : Int32)))).bind fun σ65 =>
    (rst σ65 132 l1 l2).bind fun σ67 =>
    (rst σ67 133 l1 l3).bind fun σ69 =>
    (rst σ69 134 l1 l4).bind fun σ71 =>
    (rst σ71 135 l1 l5).bind fun σ73 =>
    m_ask_b242 F  F σ73 l1 l2 l5 ((0 : Int32))
  ) else (
    some ((0 : Int32), σ33)
  )
set_option maxRecDepth 4000 in
theorem m_ask_b83_ok {pF : Nat → List Value → xH → Option (Option Value × xH)} {d : Nat} {aR : Nat} {G : Nat → xC} {T : Nat × Nat} {F : Nat} (hp0 : xNP pF)  : ∀ (lv : xL) (σ : RS) (s1 : Int32) (l1 : Int32) (l2 : Int32) (l3 : Int32) (l4 : Int32) (l5 : Int32), xg lv 0 = some (.ref aR) → xg lv 1 = some (.int l1) → xg lv 2 = some (.int l2) → xg lv 3 = some (.int l3) → xg lv 4 = some (.int l4) → xg lv 5 = some (.int l5) → ∀ res, m_ask_b83 F  σ s1 l1 l2 l3 l4 l5 = some res → xR pF (d + 4) kT248 16 8 false (some .int) (some (.int res.1)) (layR aR res.2 G, T) (83, lv, [.int s1, .ref aR], (layR aR σ G, T)) := by
  intro lv σ s1 l1 l2 l3 l4 l5 g0 g1 g2 g3 g4 g5 res h
  unfold m_ask_b83 at h
  obtain ⟨σ33, h34, h⟩ := Option.bind_eq_some_iff.mp h
  refine eR_putS lk248_83 rf_393 rfl (by decide) pf_0.1 pf_0.2 h34 ?_
  refine eE_aload_n lk248_86 g0 ?_
  refine eR_get lk248_87 rf_393 rfl ?_
  refine eE_if (t := 95) lk248_90 (by decide) (fun c35 => ?_) (fun c35 => ?_)
  · rw [if_pos c35] at h
    refine eE_bipush (v := 6) lk248_95 (by decide) ?_
    refine eE_aload_n lk248_97 g0 ?_
    refine eR_get lk248_98 rf_815 rfl ?_
    refine eE_imul lk248_101 ?_
    refine eE_stI (j := 6) lk248_102 (Or.inl rfl) (by decide) (fun vq36 gq37 kq38 => ?_)
    have gq39 := kq38 1 _ (by decide) (fun _ => rfl) g1
    have gq40 := kq38 2 _ (by decide) (fun _ => rfl) g2
    have gq41 := kq38 3 _ (by decide) (fun _ => rfl) g3
    have gq42 := kq38 4 _ (by decide) (fun _ => rfl) g4
    have gq43 := kq38 5 _ (by decide) (fun _ => rfl) g5
    have gq44 := kq38 0 _ (by decide) (fun _ => rfl) g0
    refine eE_aload_n lk248_104 gq44 ?_
    refine eR_getA lk248_105 rf_378 rfl ?_
    refine eE_iload lk248_108 gq37 ?_
    refine eE_iload_n lk248_110 gq39 ?_
    obtain ⟨σ45, h46, h⟩ := Option.bind_eq_some_iff.mp h
    refine eR_iast lk248_111 rfl rfl h46 ?_
    refine eE_aload_n lk248_112 gq44 ?_
    refine eR_getA lk248_113 rf_378 rfl ?_
    refine eE_iload lk248_116 gq37 ?_
    refine eE_iconst (v := 1) lk248_118 (by decide) ?_
    refine eE_iadd lk248_119 ?_
    refine eE_iload_n lk248_120 gq40 ?_
    obtain ⟨σ47, h48, h⟩ := Option.bind_eq_some_iff.mp h
    refine eR_iast lk248_121 rfl rfl h48 ?_
    refine eE_aload_n lk248_122 gq44 ?_
    refine eR_getA lk248_123 rf_378 rfl ?_
    refine eE_iload lk248_126 gq37 ?_
    refine eE_iconst (v := 2) lk248_128 (by decide) ?_
    refine eE_iadd lk248_129 ?_
    refine eE_aload_n lk248_130 gq44 ?_
    refine eR_get lk248_131 rf_775 rfl ?_
    obtain ⟨σ49, h50, h⟩ := Option.bind_eq_some_iff.mp h
    refine eR_iast lk248_134 rfl rfl h50 ?_
    refine eE_aload_n lk248_135 gq44 ?_
    refine eR_getA lk248_136 rf_378 rfl ?_
    refine eE_iload lk248_139 gq37 ?_
    refine eE_iconst (v := 3) lk248_141 (by decide) ?_
    refine eE_iadd lk248_142 ?_
    refine eE_iconst (v := (-1)) lk248_143 (by decide) ?_
    obtain ⟨σ51, h52, h⟩ := Option.bind_eq_some_iff.mp h
    refine eR_iast lk248_144 rfl rfl h52 ?_
    refine eE_aload_n lk248_145 gq44 ?_
    refine eR_getA lk248_146 rf_378 rfl ?_
    refine eE_iload lk248_149 gq37 ?_
    refine eE_iconst (v := 4) lk248_151 (by decide) ?_
    refine eE_iadd lk248_152 ?_
    refine eE_iconst (v := 0) lk248_153 (by decide) ?_
    obtain ⟨σ53, h54, h⟩ := Option.bind_eq_some_iff.mp h
    refine eR_iast lk248_154 rfl rfl h54 ?_
    refine eE_aload_n lk248_155 gq44 ?_
    refine eR_getA lk248_156 rf_378 rfl ?_
    refine eE_iload lk248_159 gq37 ?_
    refine eE_iconst (v := 5) lk248_161 (by decide) ?_
    refine eE_iadd lk248_162 ?_
    refine eE_iconst (v := (-1)) lk248_163 (by decide) ?_
    obtain ⟨σ55, h56, h⟩ := Option.bind_eq_some_iff.mp h
    refine eR_iast lk248_164 rfl rfl h56 ?_
    refine eE_aload_n lk248_165 gq44 ?_
    refine eE_dup lk248_166 rfl ?_
    refine eR_get lk248_167 rf_775 rfl ?_
    refine eE_iconst (v := 1) lk248_170 (by decide) ?_
    refine eE_iadd lk248_171 ?_
    obtain ⟨σ57, h58, h⟩ := Option.bind_eq_some_iff.mp h
    refine eR_putS lk248_172 rf_775 rfl (by decide) pf_141.1 pf_141.2 h58 ?_
    refine eE_aload_n lk248_175 gq44 ?_
    refine eR_getA lk248_176 rf_369 rfl ?_
    refine eE_iload_n lk248_179 gq39 ?_
    refine eE_aload_n lk248_180 gq44 ?_
    refine eR_get lk248_181 rf_815 rfl ?_
    obtain ⟨σ59, h60, h⟩ := Option.bind_eq_some_iff.mp h
    refine eR_iast lk248_184 rfl rfl h60 ?_
    refine eE_aload_n lk248_185 gq44 ?_
    refine eE_dup lk248_186 rfl ?_
    refine eR_get lk248_187 rf_815 rfl ?_
    refine eE_iconst (v := 1) lk248_190 (by decide) ?_
    refine eE_iadd lk248_191 ?_
    obtain ⟨σ61, h62, h⟩ := Option.bind_eq_some_iff.mp h
    refine eR_putS lk248_192 rf_815 rfl (by decide) pf_140.1 pf_140.2 h62 ?_
    refine eE_aload_n lk248_195 gq44 ?_
    refine eR_getA lk248_196 rf_330 rfl ?_
    refine eE_iload_n lk248_199 gq39 ?_
    refine eE_iconst (v := 1) lk248_200 (by decide) ?_
    obtain ⟨σ63, h64, h⟩ := Option.bind_eq_some_iff.mp h
    refine eR_zast lk248_201 rfl rfl rfl h64 ?_
    refine eE_aload_n lk248_202 gq44 ?_
    refine eR_getA lk248_203 rf_345 rfl ?_
    refine eE_iload_n lk248_206 gq39 ?_
    refine eE_iconst (v := 0) lk248_207 (by decide) ?_
    obtain ⟨σ65, h66, h⟩ := Option.bind_eq_some_iff.mp h
    refine eR_iast lk248_208 rfl rfl h66 ?_
    refine eE_aload_n lk248_209 gq44 ?_
    refine eR_getA lk248_210 rf_354 rfl ?_
    refine eE_iload_n lk248_213 gq39 ?_
    refine eE_iload_n lk248_214 gq40 ?_
    obtain ⟨σ67, h68, h⟩ := Option.bind_eq_some_iff.mp h
    refine eR_iast lk248_215 rfl rfl h68 ?_
    refine eE_aload_n lk248_216 gq44 ?_
    refine eR_getA lk248_217 rf_357 rfl ?_
    refine eE_iload_n lk248_220 gq39 ?_
    refine eE_iload_n lk248_221 gq41 ?_
    obtain ⟨σ69, h70, h⟩ := Option.bind_eq_some_iff.mp h
    refine eR_iast lk248_222 rfl rfl h70 ?_
    refine eE_aload_n lk248_223 gq44 ?_
    refine eR_getA lk248_224 rf_360 rfl ?_
    refine eE_iload_n lk248_227 gq39 ?_
    refine eE_iload lk248_228 gq42 ?_
    obtain ⟨σ71, h72, h⟩ := Option.bind_eq_some_iff.mp h
    refine eR_iast lk248_230 rfl rfl h72 ?_
    refine eE_aload_n lk248_231 gq44 ?_
    refine eR_getA lk248_232 rf_363 rfl ?_
    refine eE_iload_n lk248_235 gq39 ?_
    refine eE_iload lk248_236 gq43 ?_
    obtain ⟨σ73, h74, h⟩ := Option.bind_eq_some_iff.mp h
    refine eR_iast lk248_238 rfl rfl h74 ?_
    refine eE_iconst (v := 0) lk248_239 (by decide) ?_
    refine eE_stI (j := 7) lk248_240 (Or.inl rfl) (by decide) (fun vq75 gq76 kq77 => ?_)
    have gq78 := kq77 1 _ (by decide) (fun _ => rfl) gq39
    have gq79 := kq77 2 _ (by decide) (fun _ => rfl) gq40
    have gq80 := kq77 5 _ (by decide) (fun _ => rfl) gq43
    have gq81 := kq77 0 _ (by decide) (fun _ => rfl) gq44
    exact m_ask_b242_ok hp0  F vq75 σ73 l1 l2 l5 ((0 : Int32)) gq81 gq78 gq79 gq80 gq76 _ h
  · rw [if_neg c35] at h
    refine eE_iconst (v := 0) lk248_93 (by decide) ?_
    cases h
    exact eE_end lk248_94 rfl rfl rfl
def m_ask_b78 (F : Nat)  (σ : RS) (l1 : Int32) (l2 : Int32) (l3 : Int32) (l4 : Int32) (l5 : Int32) : Option (Int32 × RS) :=
  m_ask_b83 F  σ ((3 : Int32)) l1 l2 l3 l4 l5
set_option maxRecDepth 4000 in
theorem m_ask_b78_ok {pF : Nat → List Value → xH → Option (Option Value × xH)} {d : Nat} {aR : Nat} {G : Nat → xC} {T : Nat × Nat} {F : Nat} (hp0 : xNP pF)  : ∀ (lv : xL) (σ : RS) (l1 : Int32) (l2 : Int32) (l3 : Int32) (l4 : Int32) (l5 : Int32), xg lv 0 = some (.ref aR) → xg lv 1 = some (.int l1) → xg lv 2 = some (.int l2) → xg lv 3 = some (.int l3) → xg lv 4 = some (.int l4) → xg lv 5 = some (.int l5) → ∀ res, m_ask_b78 F  σ l1 l2 l3 l4 l5 = some res → xR pF (d + 4) kT248 16 8 false (some .int) (some (.int res.1)) (layR aR res.2 G, T) (78, lv, [.ref aR], (layR aR σ G, T)) := by
  intro lv σ l1 l2 l3 l4 l5 g0 g1 g2 g3 g4 g5 res h
  unfold m_ask_b78 at h
  refine eE_iconst (v := 3) lk248_78 (by decide) ?_
  refine eE_goto (t := 83) lk248_79 (by decide) ?_
  exact m_ask_b83_ok hp0  lv σ ((3 : Int32)) l1 l2 l3 l4 l5 g0 g1 g2 g3 g4 g5 _ h
def m_ask_b46 (F : Nat)  (σ : RS) (s1 : Int32) (l1 : Int32) (l2 : Int32) (l3 : Int32) (l4 : Int32) (l5 : Int32) : Option (Int32 × RS) :=
  (some (setI σ 0 0 s1)).bind fun σ82 =>
  if xc0 .le (σ82.1 0 0) = true then (
    (rld σ82 124 l1).bind fun x85 =>
    if xc0 .ne x85 = true then (
      m_ask_b78 F  σ82 l1 l2 l3 l4 l5
    ) else (
      if xc2 .ne (σ82.1 140 0) ((1024 : Int32)) = true then (
        m_ask_b83 F  σ82 ((0 : Int32)) l1 l2 l3 l4 l5
      ) else (
        m_ask_b78 F  σ82 l1 l2 l3 l4 l5
      )
    )
  ) else (
    some ((0 : Int32), σ82)
  )
set_option maxRecDepth 4000 in
theorem m_ask_b46_ok {pF : Nat → List Value → xH → Option (Option Value × xH)} {d : Nat} {aR : Nat} {G : Nat → xC} {T : Nat × Nat} {F : Nat} (hp0 : xNP pF)  : ∀ (lv : xL) (σ : RS) (s1 : Int32) (l1 : Int32) (l2 : Int32) (l3 : Int32) (l4 : Int32) (l5 : Int32), xg lv 0 = some (.ref aR) → xg lv 1 = some (.int l1) → xg lv 2 = some (.int l2) → xg lv 3 = some (.int l3) → xg lv 4 = some (.int l4) → xg lv 5 = some (.int l5) → ∀ res, m_ask_b46 F  σ s1 l1 l2 l3 l4 l5 = some res → xR pF (d + 4) kT248 16 8 false (some .int) (some (.int res.1)) (layR aR res.2 G, T) (46, lv, [.int s1, .ref aR], (layR aR σ G, T)) := by
  intro lv σ s1 l1 l2 l3 l4 l5 g0 g1 g2 g3 g4 g5 res h
  unfold m_ask_b46 at h
  obtain ⟨σ82, h83, h⟩ := Option.bind_eq_some_iff.mp h
  refine eR_putS lk248_46 rf_393 rfl (by decide) pf_0.1 pf_0.2 h83 ?_
  refine eE_aload_n lk248_49 g0 ?_
  refine eR_get lk248_50 rf_393 rfl ?_
  refine eE_if (t := 58) lk248_53 (by decide) (fun c84 => ?_) (fun c84 => ?_)
  · rw [if_pos c84] at h
    refine eE_aload_n lk248_58 g0 ?_
    refine eE_aload_n lk248_59 g0 ?_
    refine eR_getA lk248_60 rf_330 rfl ?_
    refine eE_iload_n lk248_63 g1 ?_
    obtain ⟨x85, h86, h⟩ := Option.bind_eq_some_iff.mp h
    refine eR_bald lk248_64 rfl (Or.inr rfl) h86 ?_
    refine eE_if (t := 78) lk248_65 (by decide) (fun c87 => ?_) (fun c87 => ?_)
    · rw [if_pos c87] at h
      exact m_ask_b78_ok hp0  lv σ82 l1 l2 l3 l4 l5 g0 g1 g2 g3 g4 g5 _ h
    · rw [if_neg c87] at h
      refine eE_aload_n lk248_68 g0 ?_
      refine eR_get lk248_69 rf_815 rfl ?_
      refine eE_sipush (v := 1024) lk248_72 (by decide) ?_
      refine eE_icmp (t := 82) lk248_75 (by decide) (fun c88 => ?_) (fun c88 => ?_)
      · rw [if_pos c88] at h
        refine eE_iconst (v := 0) lk248_82 (by decide) ?_
        exact m_ask_b83_ok hp0  lv σ82 ((0 : Int32)) l1 l2 l3 l4 l5 g0 g1 g2 g3 g4 g5 _ h
      · rw [if_neg c88] at h
        exact m_ask_b78_ok hp0  lv σ82 l1 l2 l3 l4 l5 g0 g1 g2 g3 g4 g5 _ h
  · rw [if_neg c84] at h
    refine eE_iconst (v := 0) lk248_56 (by decide) ?_
    cases h
    exact eE_end lk248_57 rfl rfl rfl
def m_ask_b0 (F : Nat)  (σ : RS) (l1 : Int32) (l2 : Int32) (l3 : Int32) (l4 : Int32) : Option (Int32 × RS) :=
  (some (setI σ 5 0 ((0 : Int32)))).bind fun σ97 =>
  (m_in (l1.toInt64) ((0 : Int64)) ((7 : Int64))).bind fun p99 =>
  if xc0 .ne p99 = true then (
    (m_isAsking σ97 l2 l3 l4 (σ.1 5 0)).bind fun p102 =>
    if xc0 .ne p102.1 = true then (
      m_ask_b46 F  p102.2 ((0 : Int32)) l1 l2 l3 l4 (σ.1 5 0)
    ) else (
      m_ask_b46 F  p102.2 ((2 : Int32)) l1 l2 l3 l4 (σ.1 5 0)
    )
  ) else (
    m_ask_b46 F  σ97 ((1 : Int32)) l1 l2 l3 l4 (σ.1 5 0)
  )
set_option maxRecDepth 4000 in
theorem m_ask_b0_ok {pF : Nat → List Value → xH → Option (Option Value × xH)} {d : Nat} {aR : Nat} {G : Nat → xC} {T : Nat × Nat} {F : Nat} (hp0 : xNP pF)  : ∀ (lv : xL) (σ : RS) (l1 : Int32) (l2 : Int32) (l3 : Int32) (l4 : Int32), xg lv 0 = some (.ref aR) → xg lv 1 = some (.int l1) → xg lv 2 = some (.int l2) → xg lv 3 = some (.int l3) → xg lv 4 = some (.int l4) → ∀ res, m_ask_b0 F  σ l1 l2 l3 l4 = some res → xR pF (d + 4) kT248 16 8 false (some .int) (some (.int res.1)) (layR aR res.2 G, T) (0, lv, [], (layR aR σ G, T)) := by
  intro lv σ l1 l2 l3 l4 g0 g1 g2 g3 g4 res h
  unfold m_ask_b0 at h
  refine eE_aload_n lk248_0 g0 ?_
  refine eR_get lk248_1 rf_791 rfl ?_
  refine eE_stI (j := 5) lk248_4 (Or.inl rfl) (by decide) (fun vq89 gq90 kq91 => ?_)
  have gq92 := kq91 1 _ (by decide) (fun _ => rfl) g1
  have gq93 := kq91 2 _ (by decide) (fun _ => rfl) g2
  have gq94 := kq91 3 _ (by decide) (fun _ => rfl) g3
  have gq95 := kq91 4 _ (by decide) (fun _ => rfl) g4
  have gq96 := kq91 0 _ (by decide) (fun _ => rfl) g0
  refine eE_aload_n lk248_6 gq96 ?_
  refine eE_iconst (v := 0) lk248_7 (by decide) ?_
  obtain ⟨σ97, h98, h⟩ := Option.bind_eq_some_iff.mp h
  refine eR_putS lk248_8 rf_791 rfl (by decide) pf_5.1 pf_5.2 h98 ?_
  refine eE_aload_n lk248_11 gq96 ?_
  refine eE_iload_n lk248_12 gq92 ?_
  refine eE_i2l lk248_13 ?_
  refine eE_lconst (v := 0) lk248_14 (by decide) ?_
  refine eE_ldc2_w (v := 7) lk248_15 xl_809 ?_
  obtain ⟨p99, h100, h⟩ := Option.bind_eq_some_iff.mp h
  refine eE_stat (as := [.long (l1.toInt64), .long ((0 : Int64)), .long ((7 : Int64))]) lk248_18 mr_799 na_294 rfl rfl (Nat.le_of_ble_eq_true rfl) mm_294 ws_294 (m_in_ok hp0 (d := d + 3) h100) ?_
  refine eE_if (t := 28) lk248_21 (by decide) (fun c101 => ?_) (fun c101 => ?_)
  · rw [if_pos c101] at h
    refine eE_aload_n lk248_28 gq96 ?_
    refine eE_iload_n lk248_29 gq93 ?_
    refine eE_iload_n lk248_30 gq94 ?_
    refine eE_iload lk248_31 gq95 ?_
    refine eE_iload lk248_33 gq90 ?_
    obtain ⟨p102, h103, h⟩ := Option.bind_eq_some_iff.mp h
    refine eR_call (as := [.int l2, .int l3, .int l4, .int (σ.1 5 0)]) lk248_35 mr_811 na_300 rfl rfl (Nat.le_of_ble_eq_true rfl) wv_300 wc_300 (m_isAsking_ok hp0 (d := d + 2) h103) ?_
    refine eE_if (t := 45) lk248_38 (by decide) (fun c104 => ?_) (fun c104 => ?_)
    · rw [if_pos c104] at h
      refine eE_iconst (v := 0) lk248_45 (by decide) ?_
      exact m_ask_b46_ok hp0  vq89 p102.2 ((0 : Int32)) l1 l2 l3 l4 (σ.1 5 0) gq96 gq92 gq93 gq94 gq95 gq90 _ h
    · rw [if_neg c104] at h
      refine eE_iconst (v := 2) lk248_41 (by decide) ?_
      refine eE_goto (t := 46) lk248_42 (by decide) ?_
      exact m_ask_b46_ok hp0  vq89 p102.2 ((2 : Int32)) l1 l2 l3 l4 (σ.1 5 0) gq96 gq92 gq93 gq94 gq95 gq90 _ h
  · rw [if_neg c101] at h
    refine eE_iconst (v := 1) lk248_24 (by decide) ?_
    refine eE_goto (t := 46) lk248_25 (by decide) ?_
    exact m_ask_b46_ok hp0  vq89 σ97 ((1 : Int32)) l1 l2 l3 l4 (σ.1 5 0) gq96 gq92 gq93 gq94 gq95 gq90 _ h
def m_ask (F : Nat) (σ : RS) (l1 : Int32) (l2 : Int32) (l3 : Int32) (l4 : Int32) : Option (Int32 × RS) := m_ask_b0 F σ l1 l2 l3 l4
theorem m_ask_ok {pF : Nat → List Value → xH → Option (Option Value × xH)} (hp0 : xNP pF) {d : Nat} {aR : Nat} {G : Nat → xC} {T : Nat × Nat} {σ : RS} {F : Nat} {l1 : Int32} {l2 : Int32} {l3 : Int32} {l4 : Int32} {res : Int32 × RS} (h : m_ask F σ l1 l2 l3 l4 = some res) : xCo pF (d + 5) 248 [.ref aR, .int l1, .int l2, .int l3, .int l4] (layR aR σ G, T) (some (.int res.1)) (layR aR res.2 G, T) := by
  unfold m_ask at h
  exact xCo_R kk_248 mo_248 ni_248 xm_248 (Nat.le_of_ble_eq_true rfl) (hp0 _ (by decide) (by decide) _ _) (m_ask_b0_ok hp0 _ σ l1 l2 l3 l4 rfl rfl rfl rfl rfl _ h)
/-! inLetter (295), depth 1 -/
def m_inLetter  (σ : RS) (l1 : Int32) : Option (Int32 × RS) :=
  (rldL σ 16 (l1 >>> (((3 : Int32)) &&& 31))).bind fun x1 =>
  if (((x1 >>> ((((8 : Int32)) * (l1 &&& ((7 : Int32)))).toInt64 &&& 63)).toInt32).toInt8.toInt32).toInt8.toInt32 = (((x1 >>> ((((8 : Int32)) * (l1 &&& ((7 : Int32)))).toInt64 &&& 63)).toInt32).toInt8.toInt32) then some (((x1 >>> ((((8 : Int32)) * (l1 &&& ((7 : Int32)))).toInt64 &&& 63)).toInt32).toInt8.toInt32, σ) else none
set_option maxRecDepth 4000 in
theorem m_inLetter_run {pF : Nat → List Value → xH → Option (Option Value × xH)} {d : Nat} {aR : Nat} {G : Nat → xC} {T : Nat × Nat} (hp0 : xNP pF)  : ∀ (lv : xL) (σ : RS) (l1 : Int32), xg lv 0 = some (.ref aR) → xg lv 1 = some (.int l1) → ∀ res, m_inLetter  σ l1 = some res → xR pF (d + 0) kT295 16 2 false (some .byte) (some (.int res.1)) (layR aR res.2 G, T) (0, lv, [], (layR aR σ G, T)) := by
  intro lv σ l1 g0 g1 res h
  unfold m_inLetter at h
  refine eE_aload_n lk295_0 g0 ?_
  refine eR_getA lk295_1 rf_45 rfl ?_
  refine eE_iload_n lk295_4 g1 ?_
  refine eE_iconst (v := 3) lk295_5 (by decide) ?_
  refine eE_ishr lk295_6 ?_
  obtain ⟨x1, h2, h⟩ := Option.bind_eq_some_iff.mp h
  refine eR_lald lk295_7 rfl rfl h2 ?_
  refine eE_bipush (v := 8) lk295_8 (by decide) ?_
  refine eE_iload_n lk295_10 g1 ?_
  refine eE_bipush (v := 7) lk295_11 (by decide) ?_
  refine eE_iand lk295_13 ?_
  refine eE_imul lk295_14 ?_
  refine eE_lshr lk295_15 ?_
  refine eE_l2i lk295_16 ?_
  refine eE_i2b lk295_17 ?_
  by_cases z3 : (((x1 >>> ((((8 : Int32)) * (l1 &&& ((7 : Int32)))).toInt64 &&& 63)).toInt32).toInt8.toInt32).toInt8.toInt32 = (((x1 >>> ((((8 : Int32)) * (l1 &&& ((7 : Int32)))).toInt64 &&& 63)).toInt32).toInt8.toInt32)
  · rw [if_pos z3] at h; cases h
    exact eE_end lk295_18 rfl rfl (by first | (simp only [xfin, if_true, if_pos z3]; done) | simp [xfin, z3])
  · rw [if_neg z3] at h; cases h
theorem m_inLetter_ok {pF : Nat → List Value → xH → Option (Option Value × xH)} (hp0 : xNP pF) {d : Nat} {aR : Nat} {G : Nat → xC} {T : Nat × Nat} {σ : RS} {l1 : Int32} {res : Int32 × RS} (h : m_inLetter σ l1 = some res) : xCo pF (d + 1) 295 [.ref aR, .int l1] (layR aR σ G, T) (some (.int res.1)) (layR aR res.2 G, T) := by
  exact xCo_R kk_295 mo_295 ni_295 xm_295 (Nat.le_of_ble_eq_true rfl) (hp0 _ (by decide) (by decide) _ _) (m_inLetter_run hp0 _ σ l1 rfl rfl _ h)
/-! hold (293), depth 2 -/
def m_hold_b126 (F : Nat)  : Nat → RS → Int32 → Int32 → Int32 → Option (RS)
  | 0, _, _, _, _ => none
  | n + 1, σ, l7, l9, l10 =>
    let KK := m_hold_b126 F  n
    if xc2 .ge l10 l7 = true then (
      some σ
    ) else (
      (m_inLetter σ (((542208 : Int32)) + l10)).bind fun p2 =>
      (rst p2.2 105 ((((64 : Int32)) * l9) + l10) (p2.1.toInt8.toInt32)).bind fun σ4 =>
      KK σ4 l7 l9 (l10 + (1 : Int32))
    )
set_option maxRecDepth 4000 in
theorem m_hold_b126_ok {pF : Nat → List Value → xH → Option (Option Value × xH)} {d : Nat} {aR : Nat} {G : Nat → xC} {T : Nat × Nat} {F : Nat} (hp0 : xNP pF)  : ∀ (n : Nat) (lv : xL) (σ : RS) (l7 : Int32) (l9 : Int32) (l10 : Int32), xg lv 0 = some (.ref aR) → xg lv 7 = some (.int l7) → xg lv 9 = some (.int l9) → xg lv 10 = some (.int l10) → ∀ res, m_hold_b126 F  n σ l7 l9 l10 = some res → xR pF (d + 1) kT293 16 11 false none none (layR aR res G, T) (126, lv, [], (layR aR σ G, T)) := by
  intro n
  induction n with
  | zero => intro lv σ l7 l9 l10 g0 g7 g9 g10 res h; simp [m_hold_b126] at h
  | succ n hKK =>
    intro lv σ l7 l9 l10 g0 g7 g9 g10 res h
    unfold m_hold_b126 at h
    dsimp only at h
    refine eE_iload lk293_126 g10 ?_
    refine eE_iload lk293_128 g7 ?_
    refine eE_icmp (t := 162) lk293_130 (by decide) (fun c1 => ?_) (fun c1 => ?_)
    · rw [if_pos c1] at h
      cases h
      exact eE_end lk293_162 rfl rfl rfl
    · rw [if_neg c1] at h
      refine eE_aload_n lk293_133 g0 ?_
      refine eR_getA lk293_134 rf_281 rfl ?_
      refine eE_bipush (v := 64) lk293_137 (by decide) ?_
      refine eE_iload lk293_139 g9 ?_
      refine eE_imul lk293_141 ?_
      refine eE_iload lk293_142 g10 ?_
      refine eE_iadd lk293_144 ?_
      refine eE_aload_n lk293_145 g0 ?_
      refine eE_ldc_w (v := 542208) lk293_146 xc_758 ?_
      refine eE_iload lk293_149 g10 ?_
      refine eE_iadd lk293_151 ?_
      obtain ⟨p2, h3, h⟩ := Option.bind_eq_some_iff.mp h
      refine eR_call (as := [.int (((542208 : Int32)) + l10)]) lk293_152 mr_759 na_295 rfl rfl (Nat.le_of_ble_eq_true rfl) wv_295 wc_295 (m_inLetter_ok hp0 (d := d + 0) h3) ?_
      obtain ⟨σ4, h5, h⟩ := Option.bind_eq_some_iff.mp h
      refine eR_bast lk293_155 rfl rfl rfl h5 ?_
      refine eE_inc (j := 10) (v := l10 + (1 : Int32)) lk293_156 g10 rfl (by decide) (fun vq6 gq7 kq8 => ?_)
      have gq9 := kq8 7 _ (by decide) (fun _ => rfl) g7
      have gq10 := kq8 9 _ (by decide) (fun _ => rfl) g9
      have gq11 := kq8 0 _ (by decide) (fun _ => rfl) g0
      refine eE_goto (t := 126) lk293_159 (by decide) ?_
      exact hKK vq6 σ4 l7 l9 (l10 + (1 : Int32)) gq11 gq9 gq10 gq7 _ h
def m_hold_b0 (F : Nat)  (σ : RS) (l1 : Int32) (l2 : Int32) (l3 : Int32) (l4 : Int32) (l5 : Int32) (l6 : Int32) (l7 : Int32) (l8 : Int32) : Option (RS) :=
  (rld σ 94 l1).bind fun x12 =>
  (rld σ 94 l1).bind fun x26 =>
  (rst σ 94 l1 ((x26 + ((1 : Int32))))).bind fun σ28 =>
  (rst σ28 95 ((((32 : Int32)) * l1) + (x12 &&& ((31 : Int32)))) ((((1 : Int32)) &&& 1))).bind fun σ30 =>
  (rst σ30 96 ((((32 : Int32)) * l1) + (x12 &&& ((31 : Int32)))) ((l8 &&& 1))).bind fun σ32 =>
  (rst σ32 97 ((((32 : Int32)) * l1) + (x12 &&& ((31 : Int32)))) l2).bind fun σ34 =>
  (rld σ34 53 l1).bind fun x36 =>
  (rst σ34 98 ((((32 : Int32)) * l1) + (x12 &&& ((31 : Int32)))) x36).bind fun σ38 =>
  (rld σ38 83 l1).bind fun x40 =>
  (rst σ38 99 ((((32 : Int32)) * l1) + (x12 &&& ((31 : Int32)))) ((x40 + ((1 : Int32))))).bind fun σ42 =>
  (rst σ42 100 ((((32 : Int32)) * l1) + (x12 &&& ((31 : Int32)))) l3).bind fun σ44 =>
  (rst σ44 101 ((((32 : Int32)) * l1) + (x12 &&& ((31 : Int32)))) l4).bind fun σ46 =>
  (rst σ46 102 ((((32 : Int32)) * l1) + (x12 &&& ((31 : Int32)))) l5).bind fun σ48 =>
  (rst σ48 103 ((((32 : Int32)) * l1) + (x12 &&& ((31 : Int32)))) l6).bind fun σ50 =>
  (rst σ50 104 ((((32 : Int32)) * l1) + (x12 &&& ((31 : Int32)))) l7).bind fun σ52 =>
  m_hold_b126 F  F σ52 l7 ((((32 : Int32)) * l1) + (x12 &&& ((31 : Int32)))) ((0 : Int32))
set_option maxRecDepth 4000 in
theorem m_hold_b0_ok {pF : Nat → List Value → xH → Option (Option Value × xH)} {d : Nat} {aR : Nat} {G : Nat → xC} {T : Nat × Nat} {F : Nat} (hp0 : xNP pF)  : ∀ (lv : xL) (σ : RS) (l1 : Int32) (l2 : Int32) (l3 : Int32) (l4 : Int32) (l5 : Int32) (l6 : Int32) (l7 : Int32) (l8 : Int32), xg lv 0 = some (.ref aR) → xg lv 1 = some (.int l1) → xg lv 2 = some (.int l2) → xg lv 3 = some (.int l3) → xg lv 4 = some (.int l4) → xg lv 5 = some (.int l5) → xg lv 6 = some (.int l6) → xg lv 7 = some (.int l7) → xg lv 8 = some (.int l8) → ∀ res, m_hold_b0 F  σ l1 l2 l3 l4 l5 l6 l7 l8 = some res → xR pF (d + 1) kT293 16 11 false none none (layR aR res G, T) (0, lv, [], (layR aR σ G, T)) := by
  intro lv σ l1 l2 l3 l4 l5 l6 l7 l8 g0 g1 g2 g3 g4 g5 g6 g7 g8 res h
  unfold m_hold_b0 at h
  refine eE_bipush (v := 32) lk293_0 (by decide) ?_
  refine eE_iload_n lk293_2 g1 ?_
  refine eE_imul lk293_3 ?_
  refine eE_aload_n lk293_4 g0 ?_
  refine eR_getA lk293_5 rf_248 rfl ?_
  refine eE_iload_n lk293_8 g1 ?_
  obtain ⟨x12, h13, h⟩ := Option.bind_eq_some_iff.mp h
  refine eR_iald lk293_9 rfl rfl h13 ?_
  refine eE_bipush (v := 31) lk293_10 (by decide) ?_
  refine eE_iand lk293_12 ?_
  refine eE_iadd lk293_13 ?_
  refine eE_stI (j := 9) lk293_14 (Or.inl rfl) (by decide) (fun vq14 gq15 kq16 => ?_)
  have gq17 := kq16 1 _ (by decide) (fun _ => rfl) g1
  have gq18 := kq16 2 _ (by decide) (fun _ => rfl) g2
  have gq19 := kq16 3 _ (by decide) (fun _ => rfl) g3
  have gq20 := kq16 4 _ (by decide) (fun _ => rfl) g4
  have gq21 := kq16 5 _ (by decide) (fun _ => rfl) g5
  have gq22 := kq16 6 _ (by decide) (fun _ => rfl) g6
  have gq23 := kq16 7 _ (by decide) (fun _ => rfl) g7
  have gq24 := kq16 8 _ (by decide) (fun _ => rfl) g8
  have gq25 := kq16 0 _ (by decide) (fun _ => rfl) g0
  refine eE_aload_n lk293_16 gq25 ?_
  refine eR_getA lk293_17 rf_248 rfl ?_
  refine eE_iload_n lk293_20 gq17 ?_
  refine eE_dup2 lk293_21 rfl rfl ?_
  obtain ⟨x26, h27, h⟩ := Option.bind_eq_some_iff.mp h
  refine eR_iald lk293_22 rfl rfl h27 ?_
  refine eE_iconst (v := 1) lk293_23 (by decide) ?_
  refine eE_iadd lk293_24 ?_
  obtain ⟨σ28, h29, h⟩ := Option.bind_eq_some_iff.mp h
  refine eR_iast lk293_25 rfl rfl h29 ?_
  refine eE_aload_n lk293_26 gq25 ?_
  refine eR_getA lk293_27 rf_251 rfl ?_
  refine eE_iload lk293_30 gq15 ?_
  refine eE_iconst (v := 1) lk293_32 (by decide) ?_
  obtain ⟨σ30, h31, h⟩ := Option.bind_eq_some_iff.mp h
  refine eR_zast lk293_33 rfl rfl rfl h31 ?_
  refine eE_aload_n lk293_34 gq25 ?_
  refine eR_getA lk293_35 rf_254 rfl ?_
  refine eE_iload lk293_38 gq15 ?_
  refine eE_iload lk293_40 gq24 ?_
  obtain ⟨σ32, h33, h⟩ := Option.bind_eq_some_iff.mp h
  refine eR_zast lk293_42 rfl rfl rfl h33 ?_
  refine eE_aload_n lk293_43 gq25 ?_
  refine eR_getA lk293_44 rf_257 rfl ?_
  refine eE_iload lk293_47 gq15 ?_
  refine eE_iload_n lk293_49 gq18 ?_
  obtain ⟨σ34, h35, h⟩ := Option.bind_eq_some_iff.mp h
  refine eR_iast lk293_50 rfl rfl h35 ?_
  refine eE_aload_n lk293_51 gq25 ?_
  refine eR_getA lk293_52 rf_260 rfl ?_
  refine eE_iload lk293_55 gq15 ?_
  refine eE_aload_n lk293_57 gq25 ?_
  refine eR_getA lk293_58 rf_123 rfl ?_
  refine eE_iload_n lk293_61 gq17 ?_
  obtain ⟨x36, h37, h⟩ := Option.bind_eq_some_iff.mp h
  refine eR_iald lk293_62 rfl rfl h37 ?_
  obtain ⟨σ38, h39, h⟩ := Option.bind_eq_some_iff.mp h
  refine eR_iast lk293_63 rfl rfl h39 ?_
  refine eE_aload_n lk293_64 gq25 ?_
  refine eR_getA lk293_65 rf_263 rfl ?_
  refine eE_iload lk293_68 gq15 ?_
  refine eE_aload_n lk293_70 gq25 ?_
  refine eR_getA lk293_71 rf_215 rfl ?_
  refine eE_iload_n lk293_74 gq17 ?_
  obtain ⟨x40, h41, h⟩ := Option.bind_eq_some_iff.mp h
  refine eR_iald lk293_75 rfl rfl h41 ?_
  refine eE_iconst (v := 1) lk293_76 (by decide) ?_
  refine eE_iadd lk293_77 ?_
  obtain ⟨σ42, h43, h⟩ := Option.bind_eq_some_iff.mp h
  refine eR_iast lk293_78 rfl rfl h43 ?_
  refine eE_aload_n lk293_79 gq25 ?_
  refine eR_getA lk293_80 rf_266 rfl ?_
  refine eE_iload lk293_83 gq15 ?_
  refine eE_iload_n lk293_85 gq19 ?_
  obtain ⟨σ44, h45, h⟩ := Option.bind_eq_some_iff.mp h
  refine eR_iast lk293_86 rfl rfl h45 ?_
  refine eE_aload_n lk293_87 gq25 ?_
  refine eR_getA lk293_88 rf_269 rfl ?_
  refine eE_iload lk293_91 gq15 ?_
  refine eE_iload lk293_93 gq20 ?_
  obtain ⟨σ46, h47, h⟩ := Option.bind_eq_some_iff.mp h
  refine eR_iast lk293_95 rfl rfl h47 ?_
  refine eE_aload_n lk293_96 gq25 ?_
  refine eR_getA lk293_97 rf_272 rfl ?_
  refine eE_iload lk293_100 gq15 ?_
  refine eE_iload lk293_102 gq21 ?_
  obtain ⟨σ48, h49, h⟩ := Option.bind_eq_some_iff.mp h
  refine eR_iast lk293_104 rfl rfl h49 ?_
  refine eE_aload_n lk293_105 gq25 ?_
  refine eR_getA lk293_106 rf_275 rfl ?_
  refine eE_iload lk293_109 gq15 ?_
  refine eE_iload lk293_111 gq22 ?_
  obtain ⟨σ50, h51, h⟩ := Option.bind_eq_some_iff.mp h
  refine eR_iast lk293_113 rfl rfl h51 ?_
  refine eE_aload_n lk293_114 gq25 ?_
  refine eR_getA lk293_115 rf_278 rfl ?_
  refine eE_iload lk293_118 gq15 ?_
  refine eE_iload lk293_120 gq23 ?_
  obtain ⟨σ52, h53, h⟩ := Option.bind_eq_some_iff.mp h
  refine eR_iast lk293_122 rfl rfl h53 ?_
  refine eE_iconst (v := 0) lk293_123 (by decide) ?_
  refine eE_stI (j := 10) lk293_124 (Or.inl rfl) (by decide) (fun vq54 gq55 kq56 => ?_)
  have gq57 := kq56 7 _ (by decide) (fun _ => rfl) gq23
  have gq58 := kq56 0 _ (by decide) (fun _ => rfl) gq25
  have gq59 := kq56 9 _ (by decide) (fun _ => rfl) gq15
  exact m_hold_b126_ok hp0  F vq54 σ52 l7 ((((32 : Int32)) * l1) + (x12 &&& ((31 : Int32)))) ((0 : Int32)) gq58 gq57 gq59 gq55 _ h
def m_hold (F : Nat) (σ : RS) (l1 : Int32) (l2 : Int32) (l3 : Int32) (l4 : Int32) (l5 : Int32) (l6 : Int32) (l7 : Int32) (l8 : Int32) : Option (RS) := m_hold_b0 F σ l1 l2 l3 l4 l5 l6 l7 l8
theorem m_hold_ok {pF : Nat → List Value → xH → Option (Option Value × xH)} (hp0 : xNP pF) {d : Nat} {aR : Nat} {G : Nat → xC} {T : Nat × Nat} {σ : RS} {F : Nat} {l1 : Int32} {l2 : Int32} {l3 : Int32} {l4 : Int32} {l5 : Int32} {l6 : Int32} {l7 : Int32} {l8 : Int32} {res : RS} (h : m_hold F σ l1 l2 l3 l4 l5 l6 l7 l8 = some res) : xCo pF (d + 2) 293 [.ref aR, .int l1, .int l2, .int l3, .int l4, .int l5, .int l6, .int l7, .int l8] (layR aR σ G, T) none (layR aR res G, T) := by
  unfold m_hold at h
  exact xCo_R kk_293 mo_293 ni_293 xm_293 (Nat.le_of_ble_eq_true rfl) (hp0 _ (by decide) (by decide) _ _) (m_hold_b0_ok hp0 _ σ l1 l2 l3 l4 l5 l6 l7 l8 rfl rfl rfl rfl rfl rfl rfl rfl rfl _ h)
/-! lay4 (313), depth 2 -/
def m_lay4_b2 (F : Nat)  : Nat → RS → Int32 → Int32 → Int32 → Option (RS)
  | 0, _, _, _, _ => none
  | n + 1, σ, l1, l2, l3 =>
    let KK := m_lay4_b2 F  n
    if xc2 .ge l3 ((4 : Int32)) = true then (
      some σ
    ) else (
      (m_layLog σ (l1 + l3) ((l2 >>> ((((24 : Int32)) - (((8 : Int32)) * l3)) &&& 31)).toInt8.toInt32)).bind fun p2 =>
      KK p2 l1 l2 (l3 + (1 : Int32))
    )
set_option maxRecDepth 4000 in
theorem m_lay4_b2_ok {pF : Nat → List Value → xH → Option (Option Value × xH)} {d : Nat} {aR : Nat} {G : Nat → xC} {T : Nat × Nat} {F : Nat} (hp0 : xNP pF)  : ∀ (n : Nat) (lv : xL) (σ : RS) (l1 : Int32) (l2 : Int32) (l3 : Int32), xg lv 0 = some (.ref aR) → xg lv 1 = some (.int l1) → xg lv 2 = some (.int l2) → xg lv 3 = some (.int l3) → ∀ res, m_lay4_b2 F  n σ l1 l2 l3 = some res → xR pF (d + 1) kT313 16 4 false none none (layR aR res G, T) (2, lv, [], (layR aR σ G, T)) := by
  intro n
  induction n with
  | zero => intro lv σ l1 l2 l3 g0 g1 g2 g3 res h; simp [m_lay4_b2] at h
  | succ n hKK =>
    intro lv σ l1 l2 l3 g0 g1 g2 g3 res h
    unfold m_lay4_b2 at h
    dsimp only at h
    refine eE_iload_n lk313_2 g3 ?_
    refine eE_iconst (v := 4) lk313_3 (by decide) ?_
    refine eE_icmp (t := 30) lk313_4 (by decide) (fun c1 => ?_) (fun c1 => ?_)
    · rw [if_pos c1] at h
      cases h
      exact eE_end lk313_30 rfl rfl rfl
    · rw [if_neg c1] at h
      refine eE_aload_n lk313_7 g0 ?_
      refine eE_iload_n lk313_8 g1 ?_
      refine eE_iload_n lk313_9 g3 ?_
      refine eE_iadd lk313_10 ?_
      refine eE_iload_n lk313_11 g2 ?_
      refine eE_bipush (v := 24) lk313_12 (by decide) ?_
      refine eE_bipush (v := 8) lk313_14 (by decide) ?_
      refine eE_iload_n lk313_16 g3 ?_
      refine eE_imul lk313_17 ?_
      refine eE_isub lk313_18 ?_
      refine eE_ishr lk313_19 ?_
      refine eE_i2b lk313_20 ?_
      obtain ⟨p2, h3, h⟩ := Option.bind_eq_some_iff.mp h
      refine eR_call (as := [.int (l1 + l3), .int ((l2 >>> ((((24 : Int32)) - (((8 : Int32)) * l3)) &&& 31)).toInt8.toInt32)]) lk313_21 mr_553 na_316 rfl rfl (Nat.le_of_ble_eq_true rfl) wv_316 wc_316 (m_layLog_ok hp0 (d := d + 0) h3) ?_
      refine eE_inc (j := 3) (v := l3 + (1 : Int32)) lk313_24 g3 rfl (by decide) (fun vq4 gq5 kq6 => ?_)
      have gq7 := kq6 1 _ (by decide) (fun _ => rfl) g1
      have gq8 := kq6 2 _ (by decide) (fun _ => rfl) g2
      have gq9 := kq6 0 _ (by decide) (fun _ => rfl) g0
      refine eE_goto (t := 2) lk313_27 (by decide) ?_
      exact hKK vq4 p2 l1 l2 (l3 + (1 : Int32)) gq9 gq7 gq8 gq5 _ h
def m_lay4_b0 (F : Nat)  (σ : RS) (l1 : Int32) (l2 : Int32) : Option (RS) :=
  m_lay4_b2 F  F σ l1 l2 ((0 : Int32))
set_option maxRecDepth 4000 in
theorem m_lay4_b0_ok {pF : Nat → List Value → xH → Option (Option Value × xH)} {d : Nat} {aR : Nat} {G : Nat → xC} {T : Nat × Nat} {F : Nat} (hp0 : xNP pF)  : ∀ (lv : xL) (σ : RS) (l1 : Int32) (l2 : Int32), xg lv 0 = some (.ref aR) → xg lv 1 = some (.int l1) → xg lv 2 = some (.int l2) → ∀ res, m_lay4_b0 F  σ l1 l2 = some res → xR pF (d + 1) kT313 16 4 false none none (layR aR res G, T) (0, lv, [], (layR aR σ G, T)) := by
  intro lv σ l1 l2 g0 g1 g2 res h
  unfold m_lay4_b0 at h
  refine eE_iconst (v := 0) lk313_0 (by decide) ?_
  refine eE_stI (j := 3) lk313_1 (Or.inr ⟨_, rfl, rfl⟩) (by decide) (fun vq10 gq11 kq12 => ?_)
  have gq13 := kq12 1 _ (by decide) (fun _ => rfl) g1
  have gq14 := kq12 2 _ (by decide) (fun _ => rfl) g2
  have gq15 := kq12 0 _ (by decide) (fun _ => rfl) g0
  exact m_lay4_b2_ok hp0  F vq10 σ l1 l2 ((0 : Int32)) gq15 gq13 gq14 gq11 _ h
def m_lay4 (F : Nat) (σ : RS) (l1 : Int32) (l2 : Int32) : Option (RS) := m_lay4_b0 F σ l1 l2
theorem m_lay4_ok {pF : Nat → List Value → xH → Option (Option Value × xH)} (hp0 : xNP pF) {d : Nat} {aR : Nat} {G : Nat → xC} {T : Nat × Nat} {σ : RS} {F : Nat} {l1 : Int32} {l2 : Int32} {res : RS} (h : m_lay4 F σ l1 l2 = some res) : xCo pF (d + 2) 313 [.ref aR, .int l1, .int l2] (layR aR σ G, T) none (layR aR res G, T) := by
  unfold m_lay4 at h
  exact xCo_R kk_313 mo_313 ni_313 xm_313 (Nat.le_of_ble_eq_true rfl) (hp0 _ (by decide) (by decide) _ _) (m_lay4_b0_ok hp0 _ σ l1 l2 rfl rfl rfl _ h)
/-! learned (319), depth 1 -/
def m_learned  (σ : RS) (l1 : Int32) : Option (Int32 × RS) :=
  (rld σ 65 l1).bind fun x1 =>
  some ((x1 >>> (((14 : Int32)) &&& 31)) &&& ((127 : Int32)), σ)
set_option maxRecDepth 4000 in
theorem m_learned_run {pF : Nat → List Value → xH → Option (Option Value × xH)} {d : Nat} {aR : Nat} {G : Nat → xC} {T : Nat × Nat} (hp0 : xNP pF)  : ∀ (lv : xL) (σ : RS) (l1 : Int32), xg lv 0 = some (.ref aR) → xg lv 1 = some (.int l1) → ∀ res, m_learned  σ l1 = some res → xR pF (d + 0) kT319 16 2 false (some .int) (some (.int res.1)) (layR aR res.2 G, T) (0, lv, [], (layR aR σ G, T)) := by
  intro lv σ l1 g0 g1 res h
  unfold m_learned at h
  refine eE_aload_n lk319_0 g0 ?_
  refine eR_getA lk319_1 rf_160 rfl ?_
  refine eE_iload_n lk319_4 g1 ?_
  obtain ⟨x1, h2, h⟩ := Option.bind_eq_some_iff.mp h
  refine eR_iald lk319_5 rfl rfl h2 ?_
  refine eE_bipush (v := 14) lk319_6 (by decide) ?_
  refine eE_ishr lk319_8 ?_
  refine eE_bipush (v := 127) lk319_9 (by decide) ?_
  refine eE_iand lk319_11 ?_
  cases h
  exact eE_end lk319_12 rfl rfl rfl
theorem m_learned_ok {pF : Nat → List Value → xH → Option (Option Value × xH)} (hp0 : xNP pF) {d : Nat} {aR : Nat} {G : Nat → xC} {T : Nat × Nat} {σ : RS} {l1 : Int32} {res : Int32 × RS} (h : m_learned σ l1 = some res) : xCo pF (d + 1) 319 [.ref aR, .int l1] (layR aR σ G, T) (some (.int res.1)) (layR aR res.2 G, T) := by
  exact xCo_R kk_319 mo_319 ni_319 xm_319 (Nat.le_of_ble_eq_true rfl) (hp0 _ (by decide) (by decide) _ _) (m_learned_run hp0 _ σ l1 rfl rfl _ h)
/-! voters (380), depth 2 -/
def m_voters  (σ : RS) (l1 : Int32) : Option (Int32 × RS) :=
  (m_old σ l1).bind fun p1 =>
  (m_fresh p1.2 l1).bind fun p3 =>
  some (p1.1 ||| p3.1, p3.2)
set_option maxRecDepth 4000 in
theorem m_voters_run {pF : Nat → List Value → xH → Option (Option Value × xH)} {d : Nat} {aR : Nat} {G : Nat → xC} {T : Nat × Nat} (hp0 : xNP pF)  : ∀ (lv : xL) (σ : RS) (l1 : Int32), xg lv 0 = some (.ref aR) → xg lv 1 = some (.int l1) → ∀ res, m_voters  σ l1 = some res → xR pF (d + 1) kT380 16 2 false (some .int) (some (.int res.1)) (layR aR res.2 G, T) (0, lv, [], (layR aR σ G, T)) := by
  intro lv σ l1 g0 g1 res h
  unfold m_voters at h
  refine eE_aload_n lk380_0 g0 ?_
  refine eE_iload_n lk380_1 g1 ?_
  obtain ⟨p1, h2, h⟩ := Option.bind_eq_some_iff.mp h
  refine eR_call (as := [.int l1]) lk380_2 mr_622 na_330 rfl rfl (Nat.le_of_ble_eq_true rfl) wv_330 wc_330 (m_old_ok hp0 (d := d + 0) h2) ?_
  refine eE_aload_n lk380_5 g0 ?_
  refine eE_iload_n lk380_6 g1 ?_
  obtain ⟨p3, h4, h⟩ := Option.bind_eq_some_iff.mp h
  refine eR_call (as := [.int l1]) lk380_7 mr_625 na_287 rfl rfl (Nat.le_of_ble_eq_true rfl) wv_287 wc_287 (m_fresh_ok hp0 (d := d + 0) h4) ?_
  refine eE_ior lk380_10 ?_
  cases h
  exact eE_end lk380_11 rfl rfl rfl
theorem m_voters_ok {pF : Nat → List Value → xH → Option (Option Value × xH)} (hp0 : xNP pF) {d : Nat} {aR : Nat} {G : Nat → xC} {T : Nat × Nat} {σ : RS} {l1 : Int32} {res : Int32 × RS} (h : m_voters σ l1 = some res) : xCo pF (d + 2) 380 [.ref aR, .int l1] (layR aR σ G, T) (some (.int res.1)) (layR aR res.2 G, T) := by
  exact xCo_R kk_380 mo_380 ni_380 xm_380 (Nat.le_of_ble_eq_true rfl) (hp0 _ (by decide) (by decide) _ _) (m_voters_run hp0 _ σ l1 rfl rfl _ h)
/-! isPeer (304), depth 3 -/
def m_isPeer_b29  (σ : RS) (s0 : Int32) : Option (Int32 × RS) :=
  if s0 = 0 ∨ s0 = 1 then some (s0, σ) else none
set_option maxRecDepth 4000 in
theorem m_isPeer_b29_ok {pF : Nat → List Value → xH → Option (Option Value × xH)} {d : Nat} {aR : Nat} {G : Nat → xC} {T : Nat × Nat} (hp0 : xNP pF)  : ∀ (lv : xL) (σ : RS) (s0 : Int32), xg lv 0 = some (.ref aR) → ∀ res, m_isPeer_b29  σ s0 = some res → xR pF (d + 2) kT304 16 3 false (some .boolean) (some (.int res.1)) (layR aR res.2 G, T) (29, lv, [.int s0], (layR aR σ G, T)) := by
  intro lv σ s0 g0 res h
  unfold m_isPeer_b29 at h
  by_cases z1 : s0 = 0 ∨ s0 = 1
  · rw [if_pos z1] at h; cases h
    exact eE_end lk304_29 rfl rfl (by first | (simp only [xfin, if_true, if_pos z1]; done) | simp [xfin, z1])
  · rw [if_neg z1] at h; cases h
def m_isPeer_b28  (σ : RS) : Option (Int32 × RS) :=
  m_isPeer_b29  σ ((0 : Int32))
set_option maxRecDepth 4000 in
theorem m_isPeer_b28_ok {pF : Nat → List Value → xH → Option (Option Value × xH)} {d : Nat} {aR : Nat} {G : Nat → xC} {T : Nat × Nat} (hp0 : xNP pF)  : ∀ (lv : xL) (σ : RS), xg lv 0 = some (.ref aR) → ∀ res, m_isPeer_b28  σ = some res → xR pF (d + 2) kT304 16 3 false (some .boolean) (some (.int res.1)) (layR aR res.2 G, T) (28, lv, [], (layR aR σ G, T)) := by
  intro lv σ g0 res h
  unfold m_isPeer_b28 at h
  refine eE_iconst (v := 0) lk304_28 (by decide) ?_
  exact m_isPeer_b29_ok hp0  lv σ ((0 : Int32)) g0 _ h
def m_isPeer_b0  (σ : RS) (l1 : Int32) (l2 : Int32) : Option (Int32 × RS) :=
  if xc2 .eq l2 l1 = true then (
    m_isPeer_b28  σ
  ) else (
    (m_voters σ l1).bind fun p3 =>
    (m_learned p3.2 l1).bind fun p5 =>
    if xc2 .ne (((p3.1 ||| p5.1) >>> (l2 &&& 31)) &&& ((1 : Int32))) ((1 : Int32)) = true then (
      m_isPeer_b28  p5.2
    ) else (
      m_isPeer_b29  p5.2 ((1 : Int32))
    )
  )
set_option maxRecDepth 4000 in
theorem m_isPeer_b0_ok {pF : Nat → List Value → xH → Option (Option Value × xH)} {d : Nat} {aR : Nat} {G : Nat → xC} {T : Nat × Nat} (hp0 : xNP pF)  : ∀ (lv : xL) (σ : RS) (l1 : Int32) (l2 : Int32), xg lv 0 = some (.ref aR) → xg lv 1 = some (.int l1) → xg lv 2 = some (.int l2) → ∀ res, m_isPeer_b0  σ l1 l2 = some res → xR pF (d + 2) kT304 16 3 false (some .boolean) (some (.int res.1)) (layR aR res.2 G, T) (0, lv, [], (layR aR σ G, T)) := by
  intro lv σ l1 l2 g0 g1 g2 res h
  unfold m_isPeer_b0 at h
  refine eE_iload_n lk304_0 g2 ?_
  refine eE_iload_n lk304_1 g1 ?_
  refine eE_icmp (t := 28) lk304_2 (by decide) (fun c2 => ?_) (fun c2 => ?_)
  · rw [if_pos c2] at h
    exact m_isPeer_b28_ok hp0  lv σ g0 _ h
  · rw [if_neg c2] at h
    refine eE_aload_n lk304_5 g0 ?_
    refine eE_iload_n lk304_6 g1 ?_
    obtain ⟨p3, h4, h⟩ := Option.bind_eq_some_iff.mp h
    refine eR_call (as := [.int l1]) lk304_7 mr_628 na_380 rfl rfl (Nat.le_of_ble_eq_true rfl) wv_380 wc_380 (m_voters_ok hp0 (d := d + 0) h4) ?_
    refine eE_aload_n lk304_10 g0 ?_
    refine eE_iload_n lk304_11 g1 ?_
    obtain ⟨p5, h6, h⟩ := Option.bind_eq_some_iff.mp h
    refine eR_call (as := [.int l1]) lk304_12 mr_631 na_319 rfl rfl (Nat.le_of_ble_eq_true rfl) wv_319 wc_319 (m_learned_ok hp0 (d := d + 1) h6) ?_
    refine eE_ior lk304_15 ?_
    refine eE_iload_n lk304_16 g2 ?_
    refine eE_ishr lk304_17 ?_
    refine eE_iconst (v := 1) lk304_18 (by decide) ?_
    refine eE_iand lk304_19 ?_
    refine eE_iconst (v := 1) lk304_20 (by decide) ?_
    refine eE_icmp (t := 28) lk304_21 (by decide) (fun c7 => ?_) (fun c7 => ?_)
    · rw [if_pos c7] at h
      exact m_isPeer_b28_ok hp0  lv p5.2 g0 _ h
    · rw [if_neg c7] at h
      refine eE_iconst (v := 1) lk304_24 (by decide) ?_
      refine eE_goto (t := 29) lk304_25 (by decide) ?_
      exact m_isPeer_b29_ok hp0  lv p5.2 ((1 : Int32)) g0 _ h
def m_isPeer (σ : RS) (l1 : Int32) (l2 : Int32) : Option (Int32 × RS) := m_isPeer_b0 σ l1 l2
theorem m_isPeer_ok {pF : Nat → List Value → xH → Option (Option Value × xH)} (hp0 : xNP pF) {d : Nat} {aR : Nat} {G : Nat → xC} {T : Nat × Nat} {σ : RS} {l1 : Int32} {l2 : Int32} {res : Int32 × RS} (h : m_isPeer σ l1 l2 = some res) : xCo pF (d + 3) 304 [.ref aR, .int l1, .int l2] (layR aR σ G, T) (some (.int res.1)) (layR aR res.2 G, T) := by
  unfold m_isPeer at h
  exact xCo_R kk_304 mo_304 ni_304 xm_304 (Nat.le_of_ble_eq_true rfl) (hp0 _ (by decide) (by decide) _ _) (m_isPeer_b0_ok hp0 _ σ l1 l2 rfl rfl rfl _ h)
/-! writeEntries (382), depth 3 -/
def m_writeEntries_b127 (F : Nat) (K54 : RS → Int32 → Int32 → Int32 → Int32 → Option (RS)) : Nat → RS → Int32 → Int32 → Int32 → Int32 → Int32 → Int32 → Option (RS)
  | 0, _, _, _, _, _, _, _ => none
  | n + 1, σ, l1, l2, l3, l4, l5, l6 =>
    let KK := m_writeEntries_b127 F K54 n
    (rld σ 61 l5).bind fun x1 =>
    if xc2 .ge l6 x1 = true then (
      (rld σ 61 l5).bind fun x4 =>
      (rst σ 11 ((352 : Int32)) (((((256 : Int32)) * l4) + x4))).bind fun σ6 =>
      K54 σ6 l1 l2 l3 (l4 + (1 : Int32))
    ) else (
      (m_inLog σ ((((256 : Int32)) * l5) + l6)).bind fun p15 =>
      (m_layLetter p15.2 ((((540672 : Int32)) + (((256 : Int32)) * l4)) + l6) p15.1).bind fun p17 =>
      KK p17 l1 l2 l3 l4 l5 (l6 + (1 : Int32))
    )
set_option maxRecDepth 4000 in
theorem m_writeEntries_b127_ok {pF : Nat → List Value → xH → Option (Option Value × xH)} {d : Nat} {aR : Nat} {G : Nat → xC} {T : Nat × Nat} {F : Nat} {K54 : RS → Int32 → Int32 → Int32 → Int32 → Option (RS)} (hp0 : xNP pF) (hK54 : ∀ (lv : xL) (σ : RS) (l1 : Int32) (l2 : Int32) (l3 : Int32) (l4 : Int32), xg lv 0 = some (.ref aR) → xg lv 1 = some (.int l1) → xg lv 2 = some (.int l2) → xg lv 3 = some (.int l3) → xg lv 4 = some (.int l4) → ∀ res, K54 σ l1 l2 l3 l4 = some res → xR pF (d + 2) kT382 16 7 false none none (layR aR res G, T) (54, lv, [], (layR aR σ G, T))) : ∀ (n : Nat) (lv : xL) (σ : RS) (l1 : Int32) (l2 : Int32) (l3 : Int32) (l4 : Int32) (l5 : Int32) (l6 : Int32), xg lv 0 = some (.ref aR) → xg lv 1 = some (.int l1) → xg lv 2 = some (.int l2) → xg lv 3 = some (.int l3) → xg lv 4 = some (.int l4) → xg lv 5 = some (.int l5) → xg lv 6 = some (.int l6) → ∀ res, m_writeEntries_b127 F K54 n σ l1 l2 l3 l4 l5 l6 = some res → xR pF (d + 2) kT382 16 7 false none none (layR aR res G, T) (127, lv, [], (layR aR σ G, T)) := by
  intro n
  induction n with
  | zero => intro lv σ l1 l2 l3 l4 l5 l6 g0 g1 g2 g3 g4 g5 g6 res h; simp [m_writeEntries_b127] at h
  | succ n hKK =>
    intro lv σ l1 l2 l3 l4 l5 l6 g0 g1 g2 g3 g4 g5 g6 res h
    unfold m_writeEntries_b127 at h
    dsimp only at h
    refine eE_iload lk382_127 g6 ?_
    refine eE_aload_n lk382_129 g0 ?_
    refine eR_getA lk382_130 rf_147 rfl ?_
    refine eE_iload lk382_133 g5 ?_
    obtain ⟨x1, h2, h⟩ := Option.bind_eq_some_iff.mp h
    refine eR_iald lk382_135 rfl rfl h2 ?_
    refine eE_icmp (t := 175) lk382_136 (by decide) (fun c3 => ?_) (fun c3 => ?_)
    · rw [if_pos c3] at h
      refine eE_aload_n lk382_175 g0 ?_
      refine eR_getA lk382_176 rf_29 rfl ?_
      refine eE_sipush (v := 352) lk382_179 (by decide) ?_
      refine eE_sipush (v := 256) lk382_182 (by decide) ?_
      refine eE_iload lk382_185 g4 ?_
      refine eE_imul lk382_187 ?_
      refine eE_aload_n lk382_188 g0 ?_
      refine eR_getA lk382_189 rf_147 rfl ?_
      refine eE_iload lk382_192 g5 ?_
      obtain ⟨x4, h5, h⟩ := Option.bind_eq_some_iff.mp h
      refine eR_iald lk382_194 rfl rfl h5 ?_
      refine eE_iadd lk382_195 ?_
      obtain ⟨σ6, h7, h⟩ := Option.bind_eq_some_iff.mp h
      refine eR_iast lk382_196 rfl rfl h7 ?_
      refine eE_inc (j := 4) (v := l4 + (1 : Int32)) lk382_197 g4 rfl (by decide) (fun vq8 gq9 kq10 => ?_)
      have gq11 := kq10 1 _ (by decide) (fun _ => rfl) g1
      have gq12 := kq10 2 _ (by decide) (fun _ => rfl) g2
      have gq13 := kq10 3 _ (by decide) (fun _ => rfl) g3
      have gq14 := kq10 0 _ (by decide) (fun _ => rfl) g0
      refine eE_goto (t := 54) lk382_200 (by decide) ?_
      exact hK54 vq8 σ6 l1 l2 l3 (l4 + (1 : Int32)) gq14 gq11 gq12 gq13 gq9 _ h
    · rw [if_neg c3] at h
      refine eE_aload_n lk382_139 g0 ?_
      refine eE_ldc_w (v := 540672) lk382_140 xc_690 ?_
      refine eE_sipush (v := 256) lk382_143 (by decide) ?_
      refine eE_iload lk382_146 g4 ?_
      refine eE_imul lk382_148 ?_
      refine eE_iadd lk382_149 ?_
      refine eE_iload lk382_150 g6 ?_
      refine eE_iadd lk382_152 ?_
      refine eE_aload_n lk382_153 g0 ?_
      refine eE_sipush (v := 256) lk382_154 (by decide) ?_
      refine eE_iload lk382_157 g5 ?_
      refine eE_imul lk382_159 ?_
      refine eE_iload lk382_160 g6 ?_
      refine eE_iadd lk382_162 ?_
      obtain ⟨p15, h16, h⟩ := Option.bind_eq_some_iff.mp h
      refine eR_call (as := [.int ((((256 : Int32)) * l5) + l6)]) lk382_163 mr_530 na_296 rfl rfl (Nat.le_of_ble_eq_true rfl) wv_296 wc_296 (m_inLog_ok hp0 (d := d + 1) h16) ?_
      obtain ⟨p17, h18, h⟩ := Option.bind_eq_some_iff.mp h
      refine eR_call (as := [.int ((((540672 : Int32)) + (((256 : Int32)) * l4)) + l6), .int p15.1]) lk382_166 mr_691 na_315 rfl rfl (Nat.le_of_ble_eq_true rfl) wv_315 wc_315 (m_layLetter_ok hp0 (d := d + 1) h18) ?_
      refine eE_inc (j := 6) (v := l6 + (1 : Int32)) lk382_169 g6 rfl (by decide) (fun vq19 gq20 kq21 => ?_)
      have gq22 := kq21 1 _ (by decide) (fun _ => rfl) g1
      have gq23 := kq21 2 _ (by decide) (fun _ => rfl) g2
      have gq24 := kq21 3 _ (by decide) (fun _ => rfl) g3
      have gq25 := kq21 4 _ (by decide) (fun _ => rfl) g4
      have gq26 := kq21 5 _ (by decide) (fun _ => rfl) g5
      have gq27 := kq21 0 _ (by decide) (fun _ => rfl) g0
      refine eE_goto (t := 127) lk382_172 (by decide) ?_
      exact hKK vq19 p17 l1 l2 l3 l4 l5 (l6 + (1 : Int32)) gq27 gq22 gq23 gq24 gq25 gq26 gq20 _ h
def m_writeEntries_b54 (F : Nat)  : Nat → RS → Int32 → Int32 → Int32 → Int32 → Option (RS)
  | 0, _, _, _, _, _ => none
  | n + 1, σ, l1, l2, l3, l4 =>
    let KK := m_writeEntries_b54 F  n
    if xc2 .ge l4 l3 = true then (
      some σ
    ) else (
      (m_logOf l1 (l2 + l4)).bind fun p29 =>
      (rld σ 59 p29).bind fun x39 =>
      (rst σ 13 (((2112 : Int32)) + l4) x39).bind fun σ41 =>
      (rld σ41 60 p29).bind fun x43 =>
      (rst σ41 14 (((2112 : Int32)) + l4) x43).bind fun σ45 =>
      (rld σ45 61 p29).bind fun x47 =>
      (rst σ45 15 (((2112 : Int32)) + l4) x47).bind fun σ49 =>
      m_writeEntries_b127 F KK F σ49 l1 l2 l3 l4 p29 ((0 : Int32))
    )
set_option maxRecDepth 4000 in
theorem m_writeEntries_b54_ok {pF : Nat → List Value → xH → Option (Option Value × xH)} {d : Nat} {aR : Nat} {G : Nat → xC} {T : Nat × Nat} {F : Nat} (hp0 : xNP pF)  : ∀ (n : Nat) (lv : xL) (σ : RS) (l1 : Int32) (l2 : Int32) (l3 : Int32) (l4 : Int32), xg lv 0 = some (.ref aR) → xg lv 1 = some (.int l1) → xg lv 2 = some (.int l2) → xg lv 3 = some (.int l3) → xg lv 4 = some (.int l4) → ∀ res, m_writeEntries_b54 F  n σ l1 l2 l3 l4 = some res → xR pF (d + 2) kT382 16 7 false none none (layR aR res G, T) (54, lv, [], (layR aR σ G, T)) := by
  intro n
  induction n with
  | zero => intro lv σ l1 l2 l3 l4 g0 g1 g2 g3 g4 res h; simp [m_writeEntries_b54] at h
  | succ n hKK =>
    intro lv σ l1 l2 l3 l4 g0 g1 g2 g3 g4 res h
    unfold m_writeEntries_b54 at h
    dsimp only at h
    refine eE_iload lk382_54 g4 ?_
    refine eE_iload_n lk382_56 g3 ?_
    refine eE_icmp (t := 203) lk382_57 (by decide) (fun c28 => ?_) (fun c28 => ?_)
    · rw [if_pos c28] at h
      cases h
      exact eE_end lk382_203 rfl rfl rfl
    · rw [if_neg c28] at h
      refine eE_iload_n lk382_60 g1 ?_
      refine eE_iload_n lk382_61 g2 ?_
      refine eE_iload lk382_62 g4 ?_
      refine eE_iadd lk382_64 ?_
      obtain ⟨p29, h30, h⟩ := Option.bind_eq_some_iff.mp h
      refine eE_stat (as := [.int l1, .int (l2 + l4)]) lk382_65 mr_521 na_322 rfl rfl (Nat.le_of_ble_eq_true rfl) mm_322 ws_322 (m_logOf_ok hp0 (d := d + 1) h30) ?_
      refine eE_stI (j := 5) lk382_68 (Or.inl rfl) (by decide) (fun vq31 gq32 kq33 => ?_)
      have gq34 := kq33 1 _ (by decide) (fun _ => rfl) g1
      have gq35 := kq33 2 _ (by decide) (fun _ => rfl) g2
      have gq36 := kq33 3 _ (by decide) (fun _ => rfl) g3
      have gq37 := kq33 4 _ (by decide) (fun _ => rfl) g4
      have gq38 := kq33 0 _ (by decide) (fun _ => rfl) g0
      refine eE_aload_n lk382_70 gq38 ?_
      refine eR_getA lk382_71 rf_35 rfl ?_
      refine eE_sipush (v := 2112) lk382_74 (by decide) ?_
      refine eE_iload lk382_77 gq37 ?_
      refine eE_iadd lk382_79 ?_
      refine eE_aload_n lk382_80 gq38 ?_
      refine eR_getA lk382_81 rf_141 rfl ?_
      refine eE_iload lk382_84 gq32 ?_
      obtain ⟨x39, h40, h⟩ := Option.bind_eq_some_iff.mp h
      refine eR_iald lk382_86 rfl rfl h40 ?_
      obtain ⟨σ41, h42, h⟩ := Option.bind_eq_some_iff.mp h
      refine eR_iast lk382_87 rfl rfl h42 ?_
      refine eE_aload_n lk382_88 gq38 ?_
      refine eR_getA lk382_89 rf_38 rfl ?_
      refine eE_sipush (v := 2112) lk382_92 (by decide) ?_
      refine eE_iload lk382_95 gq37 ?_
      refine eE_iadd lk382_97 ?_
      refine eE_aload_n lk382_98 gq38 ?_
      refine eR_getA lk382_99 rf_144 rfl ?_
      refine eE_iload lk382_102 gq32 ?_
      obtain ⟨x43, h44, h⟩ := Option.bind_eq_some_iff.mp h
      refine eR_iald lk382_104 rfl rfl h44 ?_
      obtain ⟨σ45, h46, h⟩ := Option.bind_eq_some_iff.mp h
      refine eR_iast lk382_105 rfl rfl h46 ?_
      refine eE_aload_n lk382_106 gq38 ?_
      refine eR_getA lk382_107 rf_41 rfl ?_
      refine eE_sipush (v := 2112) lk382_110 (by decide) ?_
      refine eE_iload lk382_113 gq37 ?_
      refine eE_iadd lk382_115 ?_
      refine eE_aload_n lk382_116 gq38 ?_
      refine eR_getA lk382_117 rf_147 rfl ?_
      refine eE_iload lk382_120 gq32 ?_
      obtain ⟨x47, h48, h⟩ := Option.bind_eq_some_iff.mp h
      refine eR_iald lk382_122 rfl rfl h48 ?_
      obtain ⟨σ49, h50, h⟩ := Option.bind_eq_some_iff.mp h
      refine eR_iast lk382_123 rfl rfl h50 ?_
      refine eE_iconst (v := 0) lk382_124 (by decide) ?_
      refine eE_stI (j := 6) lk382_125 (Or.inl rfl) (by decide) (fun vq51 gq52 kq53 => ?_)
      have gq54 := kq53 1 _ (by decide) (fun _ => rfl) gq34
      have gq55 := kq53 2 _ (by decide) (fun _ => rfl) gq35
      have gq56 := kq53 3 _ (by decide) (fun _ => rfl) gq36
      have gq57 := kq53 4 _ (by decide) (fun _ => rfl) gq37
      have gq58 := kq53 0 _ (by decide) (fun _ => rfl) gq38
      have gq59 := kq53 5 _ (by decide) (fun _ => rfl) gq32
      exact m_writeEntries_b127_ok hp0 hKK F vq51 σ49 l1 l2 l3 l4 p29 ((0 : Int32)) gq58 gq54 gq55 gq56 gq57 gq59 gq52 _ h
def m_writeEntries_b0 (F : Nat)  (σ : RS) (l1 : Int32) (l2 : Int32) (l3 : Int32) : Option (RS) :=
  (rld σ 53 l1).bind fun x60 =>
  (m_termAt σ l1 (l2 - ((1 : Int32)))).bind fun p62 =>
  (rld p62.2 75 l1).bind fun x64 =>
  (m_write p62.2 ((5 : Int32)) x60 (l2 - ((1 : Int32))) p62.1 x64).bind fun p66 =>
  (rld p66 83 l1).bind fun x68 =>
  (rst p66 12 ((2819 : Int32)) x68).bind fun σ70 =>
  (rst σ70 10 ((352 : Int32)) l3).bind fun σ72 =>
  m_writeEntries_b54 F  F σ72 l1 l2 l3 ((0 : Int32))
set_option maxRecDepth 4000 in
theorem m_writeEntries_b0_ok {pF : Nat → List Value → xH → Option (Option Value × xH)} {d : Nat} {aR : Nat} {G : Nat → xC} {T : Nat × Nat} {F : Nat} (hp0 : xNP pF)  : ∀ (lv : xL) (σ : RS) (l1 : Int32) (l2 : Int32) (l3 : Int32), xg lv 0 = some (.ref aR) → xg lv 1 = some (.int l1) → xg lv 2 = some (.int l2) → xg lv 3 = some (.int l3) → ∀ res, m_writeEntries_b0 F  σ l1 l2 l3 = some res → xR pF (d + 2) kT382 16 7 false none none (layR aR res G, T) (0, lv, [], (layR aR σ G, T)) := by
  intro lv σ l1 l2 l3 g0 g1 g2 g3 res h
  unfold m_writeEntries_b0 at h
  refine eE_aload_n lk382_0 g0 ?_
  refine eE_iconst (v := 5) lk382_1 (by decide) ?_
  refine eE_aload_n lk382_2 g0 ?_
  refine eR_getA lk382_3 rf_123 rfl ?_
  refine eE_iload_n lk382_6 g1 ?_
  obtain ⟨x60, h61, h⟩ := Option.bind_eq_some_iff.mp h
  refine eR_iald lk382_7 rfl rfl h61 ?_
  refine eE_iload_n lk382_8 g2 ?_
  refine eE_iconst (v := 1) lk382_9 (by decide) ?_
  refine eE_isub lk382_10 ?_
  refine eE_aload_n lk382_11 g0 ?_
  refine eE_iload_n lk382_12 g1 ?_
  refine eE_iload_n lk382_13 g2 ?_
  refine eE_iconst (v := 1) lk382_14 (by decide) ?_
  refine eE_isub lk382_15 ?_
  obtain ⟨p62, h63, h⟩ := Option.bind_eq_some_iff.mp h
  refine eR_call (as := [.int l1, .int (l2 - ((1 : Int32)))]) lk382_16 mr_524 na_372 rfl rfl (Nat.le_of_ble_eq_true rfl) wv_372 wc_372 (m_termAt_ok hp0 (d := d + 0) h63) ?_
  refine eE_aload_n lk382_19 g0 ?_
  refine eR_getA lk382_20 rf_191 rfl ?_
  refine eE_iload_n lk382_23 g1 ?_
  obtain ⟨x64, h65, h⟩ := Option.bind_eq_some_iff.mp h
  refine eR_iald lk382_24 rfl rfl h65 ?_
  obtain ⟨p66, h67, h⟩ := Option.bind_eq_some_iff.mp h
  refine eR_call (as := [.int ((5 : Int32)), .int x60, .int (l2 - ((1 : Int32))), .int p62.1, .int x64]) lk382_25 mr_647 na_381 rfl rfl (Nat.le_of_ble_eq_true rfl) wv_381 wc_381 (m_write_ok hp0 (d := d + 1) h67) ?_
  refine eE_aload_n lk382_28 g0 ?_
  refine eR_getA lk382_29 rf_32 rfl ?_
  refine eE_sipush (v := 2819) lk382_32 (by decide) ?_
  refine eE_aload_n lk382_35 g0 ?_
  refine eR_getA lk382_36 rf_215 rfl ?_
  refine eE_iload_n lk382_39 g1 ?_
  obtain ⟨x68, h69, h⟩ := Option.bind_eq_some_iff.mp h
  refine eR_iald lk382_40 rfl rfl h69 ?_
  obtain ⟨σ70, h71, h⟩ := Option.bind_eq_some_iff.mp h
  refine eR_iast lk382_41 rfl rfl h71 ?_
  refine eE_aload_n lk382_42 g0 ?_
  refine eR_getA lk382_43 rf_26 rfl ?_
  refine eE_sipush (v := 352) lk382_46 (by decide) ?_
  refine eE_iload_n lk382_49 g3 ?_
  obtain ⟨σ72, h73, h⟩ := Option.bind_eq_some_iff.mp h
  refine eR_iast lk382_50 rfl rfl h73 ?_
  refine eE_iconst (v := 0) lk382_51 (by decide) ?_
  refine eE_stI (j := 4) lk382_52 (Or.inl rfl) (by decide) (fun vq74 gq75 kq76 => ?_)
  have gq77 := kq76 1 _ (by decide) (fun _ => rfl) g1
  have gq78 := kq76 2 _ (by decide) (fun _ => rfl) g2
  have gq79 := kq76 3 _ (by decide) (fun _ => rfl) g3
  have gq80 := kq76 0 _ (by decide) (fun _ => rfl) g0
  exact m_writeEntries_b54_ok hp0  F vq74 σ72 l1 l2 l3 ((0 : Int32)) gq80 gq77 gq78 gq79 gq75 _ h
def m_writeEntries (F : Nat) (σ : RS) (l1 : Int32) (l2 : Int32) (l3 : Int32) : Option (RS) := m_writeEntries_b0 F σ l1 l2 l3
theorem m_writeEntries_ok {pF : Nat → List Value → xH → Option (Option Value × xH)} (hp0 : xNP pF) {d : Nat} {aR : Nat} {G : Nat → xC} {T : Nat × Nat} {σ : RS} {F : Nat} {l1 : Int32} {l2 : Int32} {l3 : Int32} {res : RS} (h : m_writeEntries F σ l1 l2 l3 = some res) : xCo pF (d + 3) 382 [.ref aR, .int l1, .int l2, .int l3] (layR aR σ G, T) none (layR aR res G, T) := by
  unfold m_writeEntries at h
  exact xCo_R kk_382 mo_382 ni_382 xm_382 (Nat.le_of_ble_eq_true rfl) (hp0 _ (by decide) (by decide) _ _) (m_writeEntries_b0_ok hp0 _ σ l1 l2 l3 rfl rfl rfl rfl _ h)
/-! send (354), depth 5 -/
def m_send_b173 (F : Nat)  : Nat → RS → Int32 → Int32 → Int32 → Int32 → Int32 → Option (RS)
  | 0, _, _, _, _, _, _ => none
  | n + 1, σ, l1, l2, l4, l5, l6 =>
    let KK := m_send_b173 F  n
    if xc2 .ge l6 l5 = true then (
      (m_post F σ l1 l2).bind fun p2 =>
      some p2
    ) else (
      (rld σ 90 l4).bind fun x4 =>
      (rld σ 66 (((((14000 : Int32)) * l1) + x4) + l6)).bind fun x6 =>
      (m_layLetter σ (((540672 : Int32)) + l6) x6).bind fun p8 =>
      KK p8 l1 l2 l4 l5 (l6 + (1 : Int32))
    )
set_option maxRecDepth 4000 in
theorem m_send_b173_ok {pF : Nat → List Value → xH → Option (Option Value × xH)} {d : Nat} {aR : Nat} {G : Nat → xC} {T : Nat × Nat} {F : Nat} (hp0 : xNP pF)  : ∀ (n : Nat) (lv : xL) (σ : RS) (l1 : Int32) (l2 : Int32) (l4 : Int32) (l5 : Int32) (l6 : Int32), xg lv 0 = some (.ref aR) → xg lv 1 = some (.int l1) → xg lv 2 = some (.int l2) → xg lv 4 = some (.int l4) → xg lv 5 = some (.int l5) → xg lv 6 = some (.int l6) → ∀ res, m_send_b173 F  n σ l1 l2 l4 l5 l6 = some res → xR pF (d + 4) kT354 16 7 false none none (layR aR res G, T) (173, lv, [], (layR aR σ G, T)) := by
  intro n
  induction n with
  | zero => intro lv σ l1 l2 l4 l5 l6 g0 g1 g2 g4 g5 g6 res h; simp [m_send_b173] at h
  | succ n hKK =>
    intro lv σ l1 l2 l4 l5 l6 g0 g1 g2 g4 g5 g6 res h
    unfold m_send_b173 at h
    dsimp only at h
    refine eE_iload lk354_173 g6 ?_
    refine eE_iload lk354_175 g5 ?_
    refine eE_icmp (t := 217) lk354_177 (by decide) (fun c1 => ?_) (fun c1 => ?_)
    · rw [if_pos c1] at h
      refine eE_aload_n lk354_217 g0 ?_
      refine eE_iload_n lk354_218 g1 ?_
      refine eE_iload_n lk354_219 g2 ?_
      obtain ⟨p2, h3, h⟩ := Option.bind_eq_some_iff.mp h
      refine eR_call (as := [.int l1, .int l2]) lk354_220 mr_651 na_339 rfl rfl (Nat.le_of_ble_eq_true rfl) wv_339 wc_339 (m_post_ok hp0 (d := d + 0) h3) ?_
      cases h
      exact eE_end lk354_223 rfl rfl rfl
    · rw [if_neg c1] at h
      refine eE_aload_n lk354_180 g0 ?_
      refine eE_ldc_w (v := 540672) lk354_181 xc_690 ?_
      refine eE_iload lk354_184 g6 ?_
      refine eE_iadd lk354_186 ?_
      refine eE_aload_n lk354_187 g0 ?_
      refine eR_getA lk354_188 rf_164 rfl ?_
      refine eE_sipush (v := 14000) lk354_191 (by decide) ?_
      refine eE_iload_n lk354_194 g1 ?_
      refine eE_imul lk354_195 ?_
      refine eE_aload_n lk354_196 g0 ?_
      refine eR_getA lk354_197 rf_236 rfl ?_
      refine eE_iload lk354_200 g4 ?_
      obtain ⟨x4, h5, h⟩ := Option.bind_eq_some_iff.mp h
      refine eR_iald lk354_202 rfl rfl h5 ?_
      refine eE_iadd lk354_203 ?_
      refine eE_iload lk354_204 g6 ?_
      refine eE_iadd lk354_206 ?_
      obtain ⟨x6, h7, h⟩ := Option.bind_eq_some_iff.mp h
      refine eR_bald lk354_207 rfl (Or.inl rfl) h7 ?_
      obtain ⟨p8, h9, h⟩ := Option.bind_eq_some_iff.mp h
      refine eR_call (as := [.int (((540672 : Int32)) + l6), .int x6]) lk354_208 mr_691 na_315 rfl rfl (Nat.le_of_ble_eq_true rfl) wv_315 wc_315 (m_layLetter_ok hp0 (d := d + 3) h9) ?_
      refine eE_inc (j := 6) (v := l6 + (1 : Int32)) lk354_211 g6 rfl (by decide) (fun vq10 gq11 kq12 => ?_)
      have gq13 := kq12 1 _ (by decide) (fun _ => rfl) g1
      have gq14 := kq12 2 _ (by decide) (fun _ => rfl) g2
      have gq15 := kq12 4 _ (by decide) (fun _ => rfl) g4
      have gq16 := kq12 5 _ (by decide) (fun _ => rfl) g5
      have gq17 := kq12 0 _ (by decide) (fun _ => rfl) g0
      refine eE_goto (t := 173) lk354_214 (by decide) ?_
      exact hKK vq10 p8 l1 l2 l4 l5 (l6 + (1 : Int32)) gq17 gq13 gq14 gq15 gq16 gq11 _ h
def m_send_b75 (F : Nat)  (σ : RS) (s0 : Int32) (l1 : Int32) (l2 : Int32) (l4 : Int32) : Option (RS) :=
  (rld σ 53 l1).bind fun x25 =>
  (rld σ 55 l1).bind fun x27 =>
  (rld σ 57 l1).bind fun x29 =>
  (rld σ 58 l1).bind fun x31 =>
  (m_write σ ((7 : Int32)) x25 x27 x29 x31).bind fun p33 =>
  (rld p33 67 l1).bind fun x35 =>
  (rst p33 12 ((2819 : Int32)) x35).bind fun σ37 =>
  (rld σ37 90 l4).bind fun x39 =>
  (rst σ37 12 ((2820 : Int32)) x39).bind fun σ41 =>
  (rst σ41 12 ((2821 : Int32)) s0).bind fun σ43 =>
  (rld σ43 83 l1).bind fun x45 =>
  (rst σ43 12 ((2822 : Int32)) x45).bind fun σ47 =>
  (rst σ47 11 ((352 : Int32)) s0).bind fun σ49 =>
  m_send_b173 F  F σ49 l1 l2 l4 s0 ((0 : Int32))
set_option maxRecDepth 4000 in
theorem m_send_b75_ok {pF : Nat → List Value → xH → Option (Option Value × xH)} {d : Nat} {aR : Nat} {G : Nat → xC} {T : Nat × Nat} {F : Nat} (hp0 : xNP pF)  : ∀ (lv : xL) (σ : RS) (s0 : Int32) (l1 : Int32) (l2 : Int32) (l4 : Int32), xg lv 0 = some (.ref aR) → xg lv 1 = some (.int l1) → xg lv 2 = some (.int l2) → xg lv 4 = some (.int l4) → ∀ res, m_send_b75 F  σ s0 l1 l2 l4 = some res → xR pF (d + 4) kT354 16 7 false none none (layR aR res G, T) (75, lv, [.int s0], (layR aR σ G, T)) := by
  intro lv σ s0 l1 l2 l4 g0 g1 g2 g4 res h
  unfold m_send_b75 at h
  refine eE_stI (j := 5) lk354_75 (Or.inl rfl) (by decide) (fun vq18 gq19 kq20 => ?_)
  have gq21 := kq20 1 _ (by decide) (fun _ => rfl) g1
  have gq22 := kq20 2 _ (by decide) (fun _ => rfl) g2
  have gq23 := kq20 4 _ (by decide) (fun _ => rfl) g4
  have gq24 := kq20 0 _ (by decide) (fun _ => rfl) g0
  refine eE_aload_n lk354_77 gq24 ?_
  refine eE_bipush (v := 7) lk354_78 (by decide) ?_
  refine eE_aload_n lk354_80 gq24 ?_
  refine eR_getA lk354_81 rf_123 rfl ?_
  refine eE_iload_n lk354_84 gq21 ?_
  obtain ⟨x25, h26, h⟩ := Option.bind_eq_some_iff.mp h
  refine eR_iald lk354_85 rfl rfl h26 ?_
  refine eE_aload_n lk354_86 gq24 ?_
  refine eR_getA lk354_87 rf_129 rfl ?_
  refine eE_iload_n lk354_90 gq21 ?_
  obtain ⟨x27, h28, h⟩ := Option.bind_eq_some_iff.mp h
  refine eR_iald lk354_91 rfl rfl h28 ?_
  refine eE_aload_n lk354_92 gq24 ?_
  refine eR_getA lk354_93 rf_135 rfl ?_
  refine eE_iload_n lk354_96 gq21 ?_
  obtain ⟨x29, h30, h⟩ := Option.bind_eq_some_iff.mp h
  refine eR_iald lk354_97 rfl rfl h30 ?_
  refine eE_aload_n lk354_98 gq24 ?_
  refine eR_getA lk354_99 rf_138 rfl ?_
  refine eE_iload_n lk354_102 gq21 ?_
  obtain ⟨x31, h32, h⟩ := Option.bind_eq_some_iff.mp h
  refine eR_iald lk354_103 rfl rfl h32 ?_
  obtain ⟨p33, h34, h⟩ := Option.bind_eq_some_iff.mp h
  refine eR_call (as := [.int ((7 : Int32)), .int x25, .int x27, .int x29, .int x31]) lk354_104 mr_647 na_381 rfl rfl (Nat.le_of_ble_eq_true rfl) wv_381 wc_381 (m_write_ok hp0 (d := d + 3) h34) ?_
  refine eE_aload_n lk354_107 gq24 ?_
  refine eR_getA lk354_108 rf_32 rfl ?_
  refine eE_sipush (v := 2819) lk354_111 (by decide) ?_
  refine eE_aload_n lk354_114 gq24 ?_
  refine eR_getA lk354_115 rf_167 rfl ?_
  refine eE_iload_n lk354_118 gq21 ?_
  obtain ⟨x35, h36, h⟩ := Option.bind_eq_some_iff.mp h
  refine eR_iald lk354_119 rfl rfl h36 ?_
  obtain ⟨σ37, h38, h⟩ := Option.bind_eq_some_iff.mp h
  refine eR_iast lk354_120 rfl rfl h38 ?_
  refine eE_aload_n lk354_121 gq24 ?_
  refine eR_getA lk354_122 rf_32 rfl ?_
  refine eE_sipush (v := 2820) lk354_125 (by decide) ?_
  refine eE_aload_n lk354_128 gq24 ?_
  refine eR_getA lk354_129 rf_236 rfl ?_
  refine eE_iload lk354_132 gq23 ?_
  obtain ⟨x39, h40, h⟩ := Option.bind_eq_some_iff.mp h
  refine eR_iald lk354_134 rfl rfl h40 ?_
  obtain ⟨σ41, h42, h⟩ := Option.bind_eq_some_iff.mp h
  refine eR_iast lk354_135 rfl rfl h42 ?_
  refine eE_aload_n lk354_136 gq24 ?_
  refine eR_getA lk354_137 rf_32 rfl ?_
  refine eE_sipush (v := 2821) lk354_140 (by decide) ?_
  refine eE_iload lk354_143 gq19 ?_
  obtain ⟨σ43, h44, h⟩ := Option.bind_eq_some_iff.mp h
  refine eR_iast lk354_145 rfl rfl h44 ?_
  refine eE_aload_n lk354_146 gq24 ?_
  refine eR_getA lk354_147 rf_32 rfl ?_
  refine eE_sipush (v := 2822) lk354_150 (by decide) ?_
  refine eE_aload_n lk354_153 gq24 ?_
  refine eR_getA lk354_154 rf_215 rfl ?_
  refine eE_iload_n lk354_157 gq21 ?_
  obtain ⟨x45, h46, h⟩ := Option.bind_eq_some_iff.mp h
  refine eR_iald lk354_158 rfl rfl h46 ?_
  obtain ⟨σ47, h48, h⟩ := Option.bind_eq_some_iff.mp h
  refine eR_iast lk354_159 rfl rfl h48 ?_
  refine eE_aload_n lk354_160 gq24 ?_
  refine eR_getA lk354_161 rf_29 rfl ?_
  refine eE_sipush (v := 352) lk354_164 (by decide) ?_
  refine eE_iload lk354_167 gq19 ?_
  obtain ⟨σ49, h50, h⟩ := Option.bind_eq_some_iff.mp h
  refine eR_iast lk354_169 rfl rfl h50 ?_
  refine eE_iconst (v := 0) lk354_170 (by decide) ?_
  refine eE_stI (j := 6) lk354_171 (Or.inl rfl) (by decide) (fun vq51 gq52 kq53 => ?_)
  have gq54 := kq53 1 _ (by decide) (fun _ => rfl) gq21
  have gq55 := kq53 2 _ (by decide) (fun _ => rfl) gq22
  have gq56 := kq53 4 _ (by decide) (fun _ => rfl) gq23
  have gq57 := kq53 0 _ (by decide) (fun _ => rfl) gq24
  have gq58 := kq53 5 _ (by decide) (fun _ => rfl) gq19
  exact m_send_b173_ok hp0  F vq51 σ49 l1 l2 l4 s0 ((0 : Int32)) gq57 gq54 gq55 gq56 gq58 gq52 _ h
def m_send_b300 (F : Nat) (K227 : RS → Int32 → Int32 → Int32 → Int32 → Int32 → Option (RS)) (σ : RS) (s0 : Int32) (l1 : Int32) (l2 : Int32) (l3 : Int32) (l4 : Int32) : Option (RS) :=
  (rld σ 88 l4).bind fun x67 =>
  (rst σ 88 l4 ((x67 + ((1 : Int32))))).bind fun σ69 =>
  (rld σ69 86 l4).bind fun x71 =>
  (rst σ69 86 l4 ((x71 + s0))).bind fun σ73 =>
  (rld σ73 86 l4).bind fun x75 =>
  (m_writeEntries F σ73 l1 (x75 - s0) s0).bind fun p77 =>
  (m_post F p77 l1 l2).bind fun p79 =>
  K227 p79 l1 l2 l3 l4 ((1 : Int32))
set_option maxRecDepth 4000 in
theorem m_send_b300_ok {pF : Nat → List Value → xH → Option (Option Value × xH)} {d : Nat} {aR : Nat} {G : Nat → xC} {T : Nat × Nat} {F : Nat} {K227 : RS → Int32 → Int32 → Int32 → Int32 → Int32 → Option (RS)} (hp0 : xNP pF) (hK227 : ∀ (lv : xL) (σ : RS) (l1 : Int32) (l2 : Int32) (l3 : Int32) (l4 : Int32) (l5 : Int32), xg lv 0 = some (.ref aR) → xg lv 1 = some (.int l1) → xg lv 2 = some (.int l2) → xg lv 3 = some (.int l3) → xg lv 4 = some (.int l4) → xg lv 5 = some (.int l5) → ∀ res, K227 σ l1 l2 l3 l4 l5 = some res → xR pF (d + 4) kT354 16 7 false none none (layR aR res G, T) (227, lv, [], (layR aR σ G, T))) : ∀ (lv : xL) (σ : RS) (s0 : Int32) (l1 : Int32) (l2 : Int32) (l3 : Int32) (l4 : Int32), xg lv 0 = some (.ref aR) → xg lv 1 = some (.int l1) → xg lv 2 = some (.int l2) → xg lv 3 = some (.int l3) → xg lv 4 = some (.int l4) → ∀ res, m_send_b300 F K227 σ s0 l1 l2 l3 l4 = some res → xR pF (d + 4) kT354 16 7 false none none (layR aR res G, T) (300, lv, [.int s0], (layR aR σ G, T)) := by
  intro lv σ s0 l1 l2 l3 l4 g0 g1 g2 g3 g4 res h
  unfold m_send_b300 at h
  refine eE_stI (j := 6) lk354_300 (Or.inl rfl) (by decide) (fun vq59 gq60 kq61 => ?_)
  have gq62 := kq61 1 _ (by decide) (fun _ => rfl) g1
  have gq63 := kq61 2 _ (by decide) (fun _ => rfl) g2
  have gq64 := kq61 3 _ (by decide) (fun _ => rfl) g3
  have gq65 := kq61 4 _ (by decide) (fun _ => rfl) g4
  have gq66 := kq61 0 _ (by decide) (fun _ => rfl) g0
  refine eE_aload_n lk354_302 gq66 ?_
  refine eR_getA lk354_303 rf_230 rfl ?_
  refine eE_iload lk354_306 gq65 ?_
  refine eE_dup2 lk354_308 rfl rfl ?_
  obtain ⟨x67, h68, h⟩ := Option.bind_eq_some_iff.mp h
  refine eR_iald lk354_309 rfl rfl h68 ?_
  refine eE_iconst (v := 1) lk354_310 (by decide) ?_
  refine eE_iadd lk354_311 ?_
  obtain ⟨σ69, h70, h⟩ := Option.bind_eq_some_iff.mp h
  refine eR_iast lk354_312 rfl rfl h70 ?_
  refine eE_aload_n lk354_313 gq66 ?_
  refine eR_getA lk354_314 rf_224 rfl ?_
  refine eE_iload lk354_317 gq65 ?_
  refine eE_dup2 lk354_319 rfl rfl ?_
  obtain ⟨x71, h72, h⟩ := Option.bind_eq_some_iff.mp h
  refine eR_iald lk354_320 rfl rfl h72 ?_
  refine eE_iload lk354_321 gq60 ?_
  refine eE_iadd lk354_323 ?_
  obtain ⟨σ73, h74, h⟩ := Option.bind_eq_some_iff.mp h
  refine eR_iast lk354_324 rfl rfl h74 ?_
  refine eE_aload_n lk354_325 gq66 ?_
  refine eE_iload_n lk354_326 gq62 ?_
  refine eE_aload_n lk354_327 gq66 ?_
  refine eR_getA lk354_328 rf_224 rfl ?_
  refine eE_iload lk354_331 gq65 ?_
  obtain ⟨x75, h76, h⟩ := Option.bind_eq_some_iff.mp h
  refine eR_iald lk354_333 rfl rfl h76 ?_
  refine eE_iload lk354_334 gq60 ?_
  refine eE_isub lk354_336 ?_
  refine eE_iload lk354_337 gq60 ?_
  obtain ⟨p77, h78, h⟩ := Option.bind_eq_some_iff.mp h
  refine eR_call (as := [.int l1, .int (x75 - s0), .int s0]) lk354_339 mr_694 na_382 rfl rfl (Nat.le_of_ble_eq_true rfl) wv_382 wc_382 (m_writeEntries_ok hp0 (d := d + 1) h78) ?_
  refine eE_aload_n lk354_342 gq66 ?_
  refine eE_iload_n lk354_343 gq62 ?_
  refine eE_iload_n lk354_344 gq63 ?_
  obtain ⟨p79, h80, h⟩ := Option.bind_eq_some_iff.mp h
  refine eR_call (as := [.int l1, .int l2]) lk354_345 mr_651 na_339 rfl rfl (Nat.le_of_ble_eq_true rfl) wv_339 wc_339 (m_post_ok hp0 (d := d + 0) h80) ?_
  refine eE_iconst (v := 1) lk354_348 (by decide) ?_
  refine eE_stI (j := 5) lk354_349 (Or.inl rfl) (by decide) (fun vq81 gq82 kq83 => ?_)
  have gq84 := kq83 1 _ (by decide) (fun _ => rfl) gq62
  have gq85 := kq83 2 _ (by decide) (fun _ => rfl) gq63
  have gq86 := kq83 3 _ (by decide) (fun _ => rfl) gq64
  have gq87 := kq83 4 _ (by decide) (fun _ => rfl) gq65
  have gq88 := kq83 0 _ (by decide) (fun _ => rfl) gq66
  refine eE_goto (t := 227) lk354_351 (by decide) ?_
  exact hK227 vq81 p79 l1 l2 l3 l4 ((1 : Int32)) gq88 gq84 gq85 gq86 gq87 gq82 _ h
def m_send_b363 (F : Nat)  (σ : RS) : Option (RS) :=
  some σ
set_option maxRecDepth 4000 in
theorem m_send_b363_ok {pF : Nat → List Value → xH → Option (Option Value × xH)} {d : Nat} {aR : Nat} {G : Nat → xC} {T : Nat × Nat} {F : Nat} (hp0 : xNP pF)  : ∀ (lv : xL) (σ : RS), xg lv 0 = some (.ref aR) → ∀ res, m_send_b363 F  σ = some res → xR pF (d + 4) kT354 16 7 false none none (layR aR res G, T) (363, lv, [], (layR aR σ G, T)) := by
  intro lv σ g0 res h
  unfold m_send_b363 at h
  cases h
  exact eE_end lk354_363 rfl rfl rfl
def m_send_b354 (F : Nat)  (σ : RS) (l1 : Int32) (l2 : Int32) (l3 : Int32) (l4 : Int32) (l5 : Int32) : Option (RS) :=
  if xc0 .ne l5 = true then (
    m_send_b363 F  σ
  ) else (
    if xc0 .ne l3 = true then (
      (rld σ 86 l4).bind fun x91 =>
      (m_writeEntries F σ l1 x91 ((0 : Int32))).bind fun p93 =>
      (m_post F p93 l1 l2).bind fun p95 =>
      some p95
    ) else (
      m_send_b363 F  σ
    )
  )
set_option maxRecDepth 4000 in
theorem m_send_b354_ok {pF : Nat → List Value → xH → Option (Option Value × xH)} {d : Nat} {aR : Nat} {G : Nat → xC} {T : Nat × Nat} {F : Nat} (hp0 : xNP pF)  : ∀ (lv : xL) (σ : RS) (l1 : Int32) (l2 : Int32) (l3 : Int32) (l4 : Int32) (l5 : Int32), xg lv 0 = some (.ref aR) → xg lv 1 = some (.int l1) → xg lv 2 = some (.int l2) → xg lv 3 = some (.int l3) → xg lv 4 = some (.int l4) → xg lv 5 = some (.int l5) → ∀ res, m_send_b354 F  σ l1 l2 l3 l4 l5 = some res → xR pF (d + 4) kT354 16 7 false none none (layR aR res G, T) (354, lv, [], (layR aR σ G, T)) := by
  intro lv σ l1 l2 l3 l4 l5 g0 g1 g2 g3 g4 g5 res h
  unfold m_send_b354 at h
  refine eE_iload lk354_354 g5 ?_
  refine eE_if (t := 363) lk354_356 (by decide) (fun c89 => ?_) (fun c89 => ?_)
  · rw [if_pos c89] at h
    exact m_send_b363_ok hp0  lv σ g0 _ h
  · rw [if_neg c89] at h
    refine eE_iload_n lk354_359 g3 ?_
    refine eE_if (t := 364) lk354_360 (by decide) (fun c90 => ?_) (fun c90 => ?_)
    · rw [if_pos c90] at h
      refine eE_aload_n lk354_364 g0 ?_
      refine eE_iload_n lk354_365 g1 ?_
      refine eE_aload_n lk354_366 g0 ?_
      refine eR_getA lk354_367 rf_224 rfl ?_
      refine eE_iload lk354_370 g4 ?_
      obtain ⟨x91, h92, h⟩ := Option.bind_eq_some_iff.mp h
      refine eR_iald lk354_372 rfl rfl h92 ?_
      refine eE_iconst (v := 0) lk354_373 (by decide) ?_
      obtain ⟨p93, h94, h⟩ := Option.bind_eq_some_iff.mp h
      refine eR_call (as := [.int l1, .int x91, .int ((0 : Int32))]) lk354_374 mr_694 na_382 rfl rfl (Nat.le_of_ble_eq_true rfl) wv_382 wc_382 (m_writeEntries_ok hp0 (d := d + 1) h94) ?_
      refine eE_aload_n lk354_377 g0 ?_
      refine eE_iload_n lk354_378 g1 ?_
      refine eE_iload_n lk354_379 g2 ?_
      obtain ⟨p95, h96, h⟩ := Option.bind_eq_some_iff.mp h
      refine eR_call (as := [.int l1, .int l2]) lk354_380 mr_651 na_339 rfl rfl (Nat.le_of_ble_eq_true rfl) wv_339 wc_339 (m_post_ok hp0 (d := d + 0) h96) ?_
      cases h
      exact eE_end lk354_383 rfl rfl rfl
    · rw [if_neg c90] at h
      exact m_send_b363_ok hp0  lv σ g0 _ h
def m_send_b265 (F : Nat) (K227 : RS → Int32 → Int32 → Int32 → Int32 → Int32 → Option (RS)) (σ : RS) (s0 : Int32) (s1 : Int32) (l1 : Int32) (l2 : Int32) (l3 : Int32) (l4 : Int32) (l5 : Int32) : Option (RS) :=
  if xc2 .ge s0 s1 = true then (
    m_send_b354 F  σ l1 l2 l3 l4 l5
  ) else (
    (rld σ 56 l1).bind fun x98 =>
    (rld σ 86 l4).bind fun x100 =>
    if xc2 .le ((x98 - x100) + ((1 : Int32))) ((6 : Int32)) = true then (
      m_send_b300 F K227 σ ((x98 - x100) + ((1 : Int32))) l1 l2 l3 l4
    ) else (
      m_send_b300 F K227 σ ((6 : Int32)) l1 l2 l3 l4
    )
  )
set_option maxRecDepth 4000 in
theorem m_send_b265_ok {pF : Nat → List Value → xH → Option (Option Value × xH)} {d : Nat} {aR : Nat} {G : Nat → xC} {T : Nat × Nat} {F : Nat} {K227 : RS → Int32 → Int32 → Int32 → Int32 → Int32 → Option (RS)} (hp0 : xNP pF) (hK227 : ∀ (lv : xL) (σ : RS) (l1 : Int32) (l2 : Int32) (l3 : Int32) (l4 : Int32) (l5 : Int32), xg lv 0 = some (.ref aR) → xg lv 1 = some (.int l1) → xg lv 2 = some (.int l2) → xg lv 3 = some (.int l3) → xg lv 4 = some (.int l4) → xg lv 5 = some (.int l5) → ∀ res, K227 σ l1 l2 l3 l4 l5 = some res → xR pF (d + 4) kT354 16 7 false none none (layR aR res G, T) (227, lv, [], (layR aR σ G, T))) : ∀ (lv : xL) (σ : RS) (s0 : Int32) (s1 : Int32) (l1 : Int32) (l2 : Int32) (l3 : Int32) (l4 : Int32) (l5 : Int32), xg lv 0 = some (.ref aR) → xg lv 1 = some (.int l1) → xg lv 2 = some (.int l2) → xg lv 3 = some (.int l3) → xg lv 4 = some (.int l4) → xg lv 5 = some (.int l5) → ∀ res, m_send_b265 F K227 σ s0 s1 l1 l2 l3 l4 l5 = some res → xR pF (d + 4) kT354 16 7 false none none (layR aR res G, T) (265, lv, [.int s1, .int s0], (layR aR σ G, T)) := by
  intro lv σ s0 s1 l1 l2 l3 l4 l5 g0 g1 g2 g3 g4 g5 res h
  unfold m_send_b265 at h
  refine eE_icmp (t := 354) lk354_265 (by decide) (fun c97 => ?_) (fun c97 => ?_)
  · rw [if_pos c97] at h
    exact m_send_b354_ok hp0  lv σ l1 l2 l3 l4 l5 g0 g1 g2 g3 g4 g5 _ h
  · rw [if_neg c97] at h
    refine eE_aload_n lk354_268 g0 ?_
    refine eR_getA lk354_269 rf_132 rfl ?_
    refine eE_iload_n lk354_272 g1 ?_
    obtain ⟨x98, h99, h⟩ := Option.bind_eq_some_iff.mp h
    refine eR_iald lk354_273 rfl rfl h99 ?_
    refine eE_aload_n lk354_274 g0 ?_
    refine eR_getA lk354_275 rf_224 rfl ?_
    refine eE_iload lk354_278 g4 ?_
    obtain ⟨x100, h101, h⟩ := Option.bind_eq_some_iff.mp h
    refine eR_iald lk354_280 rfl rfl h101 ?_
    refine eE_isub lk354_281 ?_
    refine eE_iconst (v := 1) lk354_282 (by decide) ?_
    refine eE_iadd lk354_283 ?_
    refine eE_stI (j := 6) lk354_284 (Or.inl rfl) (by decide) (fun vq102 gq103 kq104 => ?_)
    have gq105 := kq104 1 _ (by decide) (fun _ => rfl) g1
    have gq106 := kq104 2 _ (by decide) (fun _ => rfl) g2
    have gq107 := kq104 3 _ (by decide) (fun _ => rfl) g3
    have gq108 := kq104 4 _ (by decide) (fun _ => rfl) g4
    have gq109 := kq104 0 _ (by decide) (fun _ => rfl) g0
    refine eE_iload lk354_286 gq103 ?_
    refine eE_bipush (v := 6) lk354_288 (by decide) ?_
    refine eE_icmp (t := 298) lk354_290 (by decide) (fun c110 => ?_) (fun c110 => ?_)
    · rw [if_pos c110] at h
      refine eE_iload lk354_298 gq103 ?_
      exact m_send_b300_ok hp0 hK227 vq102 σ ((x98 - x100) + ((1 : Int32))) l1 l2 l3 l4 gq109 gq105 gq106 gq107 gq108 _ h
    · rw [if_neg c110] at h
      refine eE_bipush (v := 6) lk354_293 (by decide) ?_
      refine eE_goto (t := 300) lk354_295 (by decide) ?_
      exact m_send_b300_ok hp0 hK227 vq102 σ ((6 : Int32)) l1 l2 l3 l4 gq109 gq105 gq106 gq107 gq108 _ h
def m_send_b227 (F : Nat)  : Nat → RS → Int32 → Int32 → Int32 → Int32 → Int32 → Option (RS)
  | 0, _, _, _, _, _, _ => none
  | n + 1, σ, l1, l2, l3, l4, l5 =>
    let KK := m_send_b227 F  n
    (rld σ 86 l4).bind fun x111 =>
    (rld σ 56 l1).bind fun x113 =>
    if xc2 .gt x111 x113 = true then (
      m_send_b354 F  σ l1 l2 l3 l4 l5
    ) else (
      (rld σ 88 l4).bind fun x116 =>
      (rld σ 89 l4).bind fun x118 =>
      if xc0 .eq x118 = true then (
        m_send_b265 F KK σ x116 ((4 : Int32)) l1 l2 l3 l4 l5
      ) else (
        m_send_b265 F KK σ x116 ((1 : Int32)) l1 l2 l3 l4 l5
      )
    )
set_option maxRecDepth 4000 in
theorem m_send_b227_ok {pF : Nat → List Value → xH → Option (Option Value × xH)} {d : Nat} {aR : Nat} {G : Nat → xC} {T : Nat × Nat} {F : Nat} (hp0 : xNP pF)  : ∀ (n : Nat) (lv : xL) (σ : RS) (l1 : Int32) (l2 : Int32) (l3 : Int32) (l4 : Int32) (l5 : Int32), xg lv 0 = some (.ref aR) → xg lv 1 = some (.int l1) → xg lv 2 = some (.int l2) → xg lv 3 = some (.int l3) → xg lv 4 = some (.int l4) → xg lv 5 = some (.int l5) → ∀ res, m_send_b227 F  n σ l1 l2 l3 l4 l5 = some res → xR pF (d + 4) kT354 16 7 false none none (layR aR res G, T) (227, lv, [], (layR aR σ G, T)) := by
  intro n
  induction n with
  | zero => intro lv σ l1 l2 l3 l4 l5 g0 g1 g2 g3 g4 g5 res h; simp [m_send_b227] at h
  | succ n hKK =>
    intro lv σ l1 l2 l3 l4 l5 g0 g1 g2 g3 g4 g5 res h
    unfold m_send_b227 at h
    dsimp only at h
    refine eE_aload_n lk354_227 g0 ?_
    refine eR_getA lk354_228 rf_224 rfl ?_
    refine eE_iload lk354_231 g4 ?_
    obtain ⟨x111, h112, h⟩ := Option.bind_eq_some_iff.mp h
    refine eR_iald lk354_233 rfl rfl h112 ?_
    refine eE_aload_n lk354_234 g0 ?_
    refine eR_getA lk354_235 rf_132 rfl ?_
    refine eE_iload_n lk354_238 g1 ?_
    obtain ⟨x113, h114, h⟩ := Option.bind_eq_some_iff.mp h
    refine eR_iald lk354_239 rfl rfl h114 ?_
    refine eE_icmp (t := 354) lk354_240 (by decide) (fun c115 => ?_) (fun c115 => ?_)
    · rw [if_pos c115] at h
      exact m_send_b354_ok hp0  lv σ l1 l2 l3 l4 l5 g0 g1 g2 g3 g4 g5 _ h
    · rw [if_neg c115] at h
      refine eE_aload_n lk354_243 g0 ?_
      refine eR_getA lk354_244 rf_230 rfl ?_
      refine eE_iload lk354_247 g4 ?_
      obtain ⟨x116, h117, h⟩ := Option.bind_eq_some_iff.mp h
      refine eR_iald lk354_249 rfl rfl h117 ?_
      refine eE_aload_n lk354_250 g0 ?_
      refine eR_getA lk354_251 rf_233 rfl ?_
      refine eE_iload lk354_254 g4 ?_
      obtain ⟨x118, h119, h⟩ := Option.bind_eq_some_iff.mp h
      refine eR_bald lk354_256 rfl (Or.inr rfl) h119 ?_
      refine eE_if (t := 264) lk354_257 (by decide) (fun c120 => ?_) (fun c120 => ?_)
      · rw [if_pos c120] at h
        refine eE_iconst (v := 4) lk354_264 (by decide) ?_
        exact m_send_b265_ok hp0 hKK lv σ x116 ((4 : Int32)) l1 l2 l3 l4 l5 g0 g1 g2 g3 g4 g5 _ h
      · rw [if_neg c120] at h
        refine eE_iconst (v := 1) lk354_260 (by decide) ?_
        refine eE_goto (t := 265) lk354_261 (by decide) ?_
        exact m_send_b265_ok hp0 hKK lv σ x116 ((1 : Int32)) l1 l2 l3 l4 l5 g0 g1 g2 g3 g4 g5 _ h
def m_send_b0 (F : Nat)  (σ : RS) (l1 : Int32) (l2 : Int32) (l3 : Int32) : Option (RS) :=
  (rld σ 86 ((((7 : Int32)) * l1) + l2)).bind fun x128 =>
  (rld σ 55 l1).bind fun x130 =>
  if xc2 .gt x128 x130 = true then (
    m_send_b227 F  F σ l1 l2 l3 ((((7 : Int32)) * l1) + l2) ((0 : Int32))
  ) else (
    (rld σ 88 ((((7 : Int32)) * l1) + l2)).bind fun x141 =>
    if xc0 .le x141 = true then (
      (rst σ 88 ((((7 : Int32)) * l1) + l2) (((1 : Int32)))).bind fun σ144 =>
      (rld σ144 67 l1).bind fun x146 =>
      (rld σ144 90 ((((7 : Int32)) * l1) + l2)).bind fun x148 =>
      if xc2 .le (x146 - x148) ((200 : Int32)) = true then (
        m_send_b75 F  σ144 (x146 - x148) l1 l2 ((((7 : Int32)) * l1) + l2)
      ) else (
        m_send_b75 F  σ144 ((200 : Int32)) l1 l2 ((((7 : Int32)) * l1) + l2)
      )
    ) else (
      some σ
    )
  )
set_option maxRecDepth 4000 in
theorem m_send_b0_ok {pF : Nat → List Value → xH → Option (Option Value × xH)} {d : Nat} {aR : Nat} {G : Nat → xC} {T : Nat × Nat} {F : Nat} (hp0 : xNP pF)  : ∀ (lv : xL) (σ : RS) (l1 : Int32) (l2 : Int32) (l3 : Int32), xg lv 0 = some (.ref aR) → xg lv 1 = some (.int l1) → xg lv 2 = some (.int l2) → xg lv 3 = some (.int l3) → ∀ res, m_send_b0 F  σ l1 l2 l3 = some res → xR pF (d + 4) kT354 16 7 false none none (layR aR res G, T) (0, lv, [], (layR aR σ G, T)) := by
  intro lv σ l1 l2 l3 g0 g1 g2 g3 res h
  unfold m_send_b0 at h
  refine eE_bipush (v := 7) lk354_0 (by decide) ?_
  refine eE_iload_n lk354_2 g1 ?_
  refine eE_imul lk354_3 ?_
  refine eE_iload_n lk354_4 g2 ?_
  refine eE_iadd lk354_5 ?_
  refine eE_stI (j := 4) lk354_6 (Or.inl rfl) (by decide) (fun vq121 gq122 kq123 => ?_)
  have gq124 := kq123 1 _ (by decide) (fun _ => rfl) g1
  have gq125 := kq123 2 _ (by decide) (fun _ => rfl) g2
  have gq126 := kq123 3 _ (by decide) (fun _ => rfl) g3
  have gq127 := kq123 0 _ (by decide) (fun _ => rfl) g0
  refine eE_aload_n lk354_8 gq127 ?_
  refine eR_getA lk354_9 rf_224 rfl ?_
  refine eE_iload lk354_12 gq122 ?_
  obtain ⟨x128, h129, h⟩ := Option.bind_eq_some_iff.mp h
  refine eR_iald lk354_14 rfl rfl h129 ?_
  refine eE_aload_n lk354_15 gq127 ?_
  refine eR_getA lk354_16 rf_129 rfl ?_
  refine eE_iload_n lk354_19 gq124 ?_
  obtain ⟨x130, h131, h⟩ := Option.bind_eq_some_iff.mp h
  refine eR_iald lk354_20 rfl rfl h131 ?_
  refine eE_icmp (t := 224) lk354_21 (by decide) (fun c132 => ?_) (fun c132 => ?_)
  · rw [if_pos c132] at h
    refine eE_iconst (v := 0) lk354_224 (by decide) ?_
    refine eE_stI (j := 5) lk354_225 (Or.inl rfl) (by decide) (fun vq133 gq134 kq135 => ?_)
    have gq136 := kq135 1 _ (by decide) (fun _ => rfl) gq124
    have gq137 := kq135 2 _ (by decide) (fun _ => rfl) gq125
    have gq138 := kq135 3 _ (by decide) (fun _ => rfl) gq126
    have gq139 := kq135 0 _ (by decide) (fun _ => rfl) gq127
    have gq140 := kq135 4 _ (by decide) (fun _ => rfl) gq122
    exact m_send_b227_ok hp0  F vq133 σ l1 l2 l3 ((((7 : Int32)) * l1) + l2) ((0 : Int32)) gq139 gq136 gq137 gq138 gq140 gq134 _ h
  · rw [if_neg c132] at h
    refine eE_aload_n lk354_24 gq127 ?_
    refine eR_getA lk354_25 rf_230 rfl ?_
    refine eE_iload lk354_28 gq122 ?_
    obtain ⟨x141, h142, h⟩ := Option.bind_eq_some_iff.mp h
    refine eR_iald lk354_30 rfl rfl h142 ?_
    refine eE_if (t := 35) lk354_31 (by decide) (fun c143 => ?_) (fun c143 => ?_)
    · rw [if_pos c143] at h
      refine eE_aload_n lk354_35 gq127 ?_
      refine eR_getA lk354_36 rf_230 rfl ?_
      refine eE_iload lk354_39 gq122 ?_
      refine eE_iconst (v := 1) lk354_41 (by decide) ?_
      obtain ⟨σ144, h145, h⟩ := Option.bind_eq_some_iff.mp h
      refine eR_iast lk354_42 rfl rfl h145 ?_
      refine eE_aload_n lk354_43 gq127 ?_
      refine eR_getA lk354_44 rf_167 rfl ?_
      refine eE_iload_n lk354_47 gq124 ?_
      obtain ⟨x146, h147, h⟩ := Option.bind_eq_some_iff.mp h
      refine eR_iald lk354_48 rfl rfl h147 ?_
      refine eE_aload_n lk354_49 gq127 ?_
      refine eR_getA lk354_50 rf_236 rfl ?_
      refine eE_iload lk354_53 gq122 ?_
      obtain ⟨x148, h149, h⟩ := Option.bind_eq_some_iff.mp h
      refine eR_iald lk354_55 rfl rfl h149 ?_
      refine eE_isub lk354_56 ?_
      refine eE_stI (j := 5) lk354_57 (Or.inl rfl) (by decide) (fun vq150 gq151 kq152 => ?_)
      have gq153 := kq152 1 _ (by decide) (fun _ => rfl) gq124
      have gq154 := kq152 2 _ (by decide) (fun _ => rfl) gq125
      have gq155 := kq152 0 _ (by decide) (fun _ => rfl) gq127
      have gq156 := kq152 4 _ (by decide) (fun _ => rfl) gq122
      refine eE_iload lk354_59 gq151 ?_
      refine eE_sipush (v := 200) lk354_61 (by decide) ?_
      refine eE_icmp (t := 73) lk354_64 (by decide) (fun c157 => ?_) (fun c157 => ?_)
      · rw [if_pos c157] at h
        refine eE_iload lk354_73 gq151 ?_
        exact m_send_b75_ok hp0  vq150 σ144 (x146 - x148) l1 l2 ((((7 : Int32)) * l1) + l2) gq155 gq153 gq154 gq156 _ h
      · rw [if_neg c157] at h
        refine eE_sipush (v := 200) lk354_67 (by decide) ?_
        refine eE_goto (t := 75) lk354_70 (by decide) ?_
        exact m_send_b75_ok hp0  vq150 σ144 ((200 : Int32)) l1 l2 ((((7 : Int32)) * l1) + l2) gq155 gq153 gq154 gq156 _ h
    · rw [if_neg c143] at h
      cases h
      exact eE_end lk354_34 rfl rfl rfl
def m_send (F : Nat) (σ : RS) (l1 : Int32) (l2 : Int32) (l3 : Int32) : Option (RS) := m_send_b0 F σ l1 l2 l3
theorem m_send_ok {pF : Nat → List Value → xH → Option (Option Value × xH)} (hp0 : xNP pF) {d : Nat} {aR : Nat} {G : Nat → xC} {T : Nat × Nat} {σ : RS} {F : Nat} {l1 : Int32} {l2 : Int32} {l3 : Int32} {res : RS} (h : m_send F σ l1 l2 l3 = some res) : xCo pF (d + 5) 354 [.ref aR, .int l1, .int l2, .int l3] (layR aR σ G, T) none (layR aR res G, T) := by
  unfold m_send at h
  exact xCo_R kk_354 mo_354 ni_354 xm_354 (Nat.le_of_ble_eq_true rfl) (hp0 _ (by decide) (by decide) _ _) (m_send_b0_ok hp0 _ σ l1 l2 l3 rfl rfl rfl rfl _ h)
/-! sendAll (355), depth 6 -/
def m_sendAll_b24 (F : Nat) (K2 : RS → Int32 → Int32 → Int32 → Option (RS)) (σ : RS) (l1 : Int32) (l2 : Int32) (l3 : Int32) : Option (RS) :=
  K2 σ l1 l2 (l3 + (1 : Int32))
set_option maxRecDepth 4000 in
theorem m_sendAll_b24_ok {pF : Nat → List Value → xH → Option (Option Value × xH)} {d : Nat} {aR : Nat} {G : Nat → xC} {T : Nat × Nat} {F : Nat} {K2 : RS → Int32 → Int32 → Int32 → Option (RS)} (hp0 : xNP pF) (hK2 : ∀ (lv : xL) (σ : RS) (l1 : Int32) (l2 : Int32) (l3 : Int32), xg lv 0 = some (.ref aR) → xg lv 1 = some (.int l1) → xg lv 2 = some (.int l2) → xg lv 3 = some (.int l3) → ∀ res, K2 σ l1 l2 l3 = some res → xR pF (d + 5) kT355 16 4 false none none (layR aR res G, T) (2, lv, [], (layR aR σ G, T))) : ∀ (lv : xL) (σ : RS) (l1 : Int32) (l2 : Int32) (l3 : Int32), xg lv 0 = some (.ref aR) → xg lv 1 = some (.int l1) → xg lv 2 = some (.int l2) → xg lv 3 = some (.int l3) → ∀ res, m_sendAll_b24 F K2 σ l1 l2 l3 = some res → xR pF (d + 5) kT355 16 4 false none none (layR aR res G, T) (24, lv, [], (layR aR σ G, T)) := by
  intro lv σ l1 l2 l3 g0 g1 g2 g3 res h
  unfold m_sendAll_b24 at h
  refine eE_inc (j := 3) (v := l3 + (1 : Int32)) lk355_24 g3 rfl (by decide) (fun vq1 gq2 kq3 => ?_)
  have gq4 := kq3 1 _ (by decide) (fun _ => rfl) g1
  have gq5 := kq3 2 _ (by decide) (fun _ => rfl) g2
  have gq6 := kq3 0 _ (by decide) (fun _ => rfl) g0
  refine eE_goto (t := 2) lk355_27 (by decide) ?_
  exact hK2 vq1 σ l1 l2 (l3 + (1 : Int32)) gq6 gq4 gq5 gq2 _ h
def m_sendAll_b2 (F : Nat)  : Nat → RS → Int32 → Int32 → Int32 → Option (RS)
  | 0, _, _, _, _ => none
  | n + 1, σ, l1, l2, l3 =>
    let KK := m_sendAll_b2 F  n
    if xc2 .ge l3 ((7 : Int32)) = true then (
      some σ
    ) else (
      (m_isPeer σ l1 l3).bind fun p8 =>
      if xc0 .eq p8.1 = true then (
        m_sendAll_b24 F KK p8.2 l1 l2 l3
      ) else (
        (m_send F p8.2 l1 l3 l2).bind fun p11 =>
        m_sendAll_b24 F KK p11 l1 l2 l3
      )
    )
set_option maxRecDepth 4000 in
theorem m_sendAll_b2_ok {pF : Nat → List Value → xH → Option (Option Value × xH)} {d : Nat} {aR : Nat} {G : Nat → xC} {T : Nat × Nat} {F : Nat} (hp0 : xNP pF)  : ∀ (n : Nat) (lv : xL) (σ : RS) (l1 : Int32) (l2 : Int32) (l3 : Int32), xg lv 0 = some (.ref aR) → xg lv 1 = some (.int l1) → xg lv 2 = some (.int l2) → xg lv 3 = some (.int l3) → ∀ res, m_sendAll_b2 F  n σ l1 l2 l3 = some res → xR pF (d + 5) kT355 16 4 false none none (layR aR res G, T) (2, lv, [], (layR aR σ G, T)) := by
  intro n
  induction n with
  | zero => intro lv σ l1 l2 l3 g0 g1 g2 g3 res h; simp [m_sendAll_b2] at h
  | succ n hKK =>
    intro lv σ l1 l2 l3 g0 g1 g2 g3 res h
    unfold m_sendAll_b2 at h
    dsimp only at h
    refine eE_iload_n lk355_2 g3 ?_
    refine eE_bipush (v := 7) lk355_3 (by decide) ?_
    refine eE_icmp (t := 30) lk355_5 (by decide) (fun c7 => ?_) (fun c7 => ?_)
    · rw [if_pos c7] at h
      cases h
      exact eE_end lk355_30 rfl rfl rfl
    · rw [if_neg c7] at h
      refine eE_aload_n lk355_8 g0 ?_
      refine eE_iload_n lk355_9 g1 ?_
      refine eE_iload_n lk355_10 g3 ?_
      obtain ⟨p8, h9, h⟩ := Option.bind_eq_some_iff.mp h
      refine eR_call (as := [.int l1, .int l3]) lk355_11 mr_676 na_304 rfl rfl (Nat.le_of_ble_eq_true rfl) wv_304 wc_304 (m_isPeer_ok hp0 (d := d + 2) h9) ?_
      refine eE_if (t := 24) lk355_14 (by decide) (fun c10 => ?_) (fun c10 => ?_)
      · rw [if_pos c10] at h
        exact m_sendAll_b24_ok hp0 hKK lv p8.2 l1 l2 l3 g0 g1 g2 g3 _ h
      · rw [if_neg c10] at h
        refine eE_aload_n lk355_17 g0 ?_
        refine eE_iload_n lk355_18 g1 ?_
        refine eE_iload_n lk355_19 g3 ?_
        refine eE_iload_n lk355_20 g2 ?_
        obtain ⟨p11, h12, h⟩ := Option.bind_eq_some_iff.mp h
        refine eR_call (as := [.int l1, .int l3, .int l2]) lk355_21 mr_686 na_354 rfl rfl (Nat.le_of_ble_eq_true rfl) wv_354 wc_354 (m_send_ok hp0 (d := d + 0) h12) ?_
        exact m_sendAll_b24_ok hp0 hKK lv p11 l1 l2 l3 g0 g1 g2 g3 _ h
def m_sendAll_b0 (F : Nat)  (σ : RS) (l1 : Int32) (l2 : Int32) : Option (RS) :=
  m_sendAll_b2 F  F σ l1 l2 ((0 : Int32))
set_option maxRecDepth 4000 in
theorem m_sendAll_b0_ok {pF : Nat → List Value → xH → Option (Option Value × xH)} {d : Nat} {aR : Nat} {G : Nat → xC} {T : Nat × Nat} {F : Nat} (hp0 : xNP pF)  : ∀ (lv : xL) (σ : RS) (l1 : Int32) (l2 : Int32), xg lv 0 = some (.ref aR) → xg lv 1 = some (.int l1) → xg lv 2 = some (.int l2) → ∀ res, m_sendAll_b0 F  σ l1 l2 = some res → xR pF (d + 5) kT355 16 4 false none none (layR aR res G, T) (0, lv, [], (layR aR σ G, T)) := by
  intro lv σ l1 l2 g0 g1 g2 res h
  unfold m_sendAll_b0 at h
  refine eE_iconst (v := 0) lk355_0 (by decide) ?_
  refine eE_stI (j := 3) lk355_1 (Or.inr ⟨_, rfl, rfl⟩) (by decide) (fun vq13 gq14 kq15 => ?_)
  have gq16 := kq15 1 _ (by decide) (fun _ => rfl) g1
  have gq17 := kq15 2 _ (by decide) (fun _ => rfl) g2
  have gq18 := kq15 0 _ (by decide) (fun _ => rfl) g0
  exact m_sendAll_b2_ok hp0  F vq13 σ l1 l2 ((0 : Int32)) gq18 gq16 gq17 gq14 _ h
def m_sendAll (F : Nat) (σ : RS) (l1 : Int32) (l2 : Int32) : Option (RS) := m_sendAll_b0 F σ l1 l2
theorem m_sendAll_ok {pF : Nat → List Value → xH → Option (Option Value × xH)} (hp0 : xNP pF) {d : Nat} {aR : Nat} {G : Nat → xC} {T : Nat × Nat} {σ : RS} {F : Nat} {l1 : Int32} {l2 : Int32} {res : RS} (h : m_sendAll F σ l1 l2 = some res) : xCo pF (d + 6) 355 [.ref aR, .int l1, .int l2] (layR aR σ G, T) none (layR aR res G, T) := by
  unfold m_sendAll at h
  exact xCo_R kk_355 mo_355 ni_355 xm_355 (Nat.le_of_ble_eq_true rfl) (hp0 _ (by decide) (by decide) _ _) (m_sendAll_b0_ok hp0 _ σ l1 l2 rfl rfl rfl _ h)
/-! asked (249), depth 7 -/
def m_asked_b99 (F : Nat)  (σ : RS) (s1 : Int32) (s2 : Int32) (s3 : Int32) (s4 : Int32) (l1 : Int32) (l2 : Int32) : Option (RS) :=
  (m_write σ s1 s2 s3 s4 ((0 : Int32))).bind fun p1 =>
  (m_post F p1 l1 l2).bind fun p3 =>
  some p3
set_option maxRecDepth 4000 in
theorem m_asked_b99_ok {pF : Nat → List Value → xH → Option (Option Value × xH)} {d : Nat} {aR : Nat} {G : Nat → xC} {T : Nat × Nat} {F : Nat} (hp0 : xNP pF)  : ∀ (lv : xL) (σ : RS) (s1 : Int32) (s2 : Int32) (s3 : Int32) (s4 : Int32) (l1 : Int32) (l2 : Int32), xg lv 0 = some (.ref aR) → xg lv 1 = some (.int l1) → xg lv 2 = some (.int l2) → ∀ res, m_asked_b99 F  σ s1 s2 s3 s4 l1 l2 = some res → xR pF (d + 6) kT249 16 13 false none none (layR aR res G, T) (99, lv, [.int s4, .int s3, .int s2, .int s1, .ref aR], (layR aR σ G, T)) := by
  intro lv σ s1 s2 s3 s4 l1 l2 g0 g1 g2 res h
  unfold m_asked_b99 at h
  refine eE_iconst (v := 0) lk249_99 (by decide) ?_
  obtain ⟨p1, h2, h⟩ := Option.bind_eq_some_iff.mp h
  refine eR_call (as := [.int s1, .int s2, .int s3, .int s4, .int ((0 : Int32))]) lk249_100 mr_647 na_381 rfl rfl (Nat.le_of_ble_eq_true rfl) wv_381 wc_381 (m_write_ok hp0 (d := d + 5) h2) ?_
  refine eE_aload_n lk249_103 g0 ?_
  refine eE_iload_n lk249_104 g1 ?_
  refine eE_iload_n lk249_105 g2 ?_
  obtain ⟨p3, h4, h⟩ := Option.bind_eq_some_iff.mp h
  refine eR_call (as := [.int l1, .int l2]) lk249_106 mr_651 na_339 rfl rfl (Nat.le_of_ble_eq_true rfl) wv_339 wc_339 (m_post_ok hp0 (d := d + 2) h4) ?_
  cases h
  exact eE_end lk249_109 rfl rfl rfl
def m_asked_b69 (F : Nat)  (σ : RS) (l1 : Int32) (l2 : Int32) (l3 : Int32) : Option (RS) :=
  (rld σ 73 l1).bind fun x5 =>
  if xc2 .ne x5 ((3 : Int32)) = true then (
    (rld σ 74 l1).bind fun x8 =>
    m_asked_b99 F  σ ((11 : Int32)) l3 ((1 : Int32)) x8 l1 l2
  ) else (
    (rld σ 80 l1).bind fun x10 =>
    m_asked_b99 F  σ ((11 : Int32)) l3 ((1 : Int32)) x10 l1 l2
  )
set_option maxRecDepth 4000 in
theorem m_asked_b69_ok {pF : Nat → List Value → xH → Option (Option Value × xH)} {d : Nat} {aR : Nat} {G : Nat → xC} {T : Nat × Nat} {F : Nat} (hp0 : xNP pF)  : ∀ (lv : xL) (σ : RS) (l1 : Int32) (l2 : Int32) (l3 : Int32), xg lv 0 = some (.ref aR) → xg lv 1 = some (.int l1) → xg lv 2 = some (.int l2) → xg lv 3 = some (.int l3) → ∀ res, m_asked_b69 F  σ l1 l2 l3 = some res → xR pF (d + 6) kT249 16 13 false none none (layR aR res G, T) (69, lv, [], (layR aR σ G, T)) := by
  intro lv σ l1 l2 l3 g0 g1 g2 g3 res h
  unfold m_asked_b69 at h
  refine eE_aload_n lk249_69 g0 ?_
  refine eE_bipush (v := 11) lk249_70 (by decide) ?_
  refine eE_iload_n lk249_72 g3 ?_
  refine eE_iconst (v := 1) lk249_73 (by decide) ?_
  refine eE_aload_n lk249_74 g0 ?_
  refine eR_getA lk249_75 rf_185 rfl ?_
  refine eE_iload_n lk249_78 g1 ?_
  obtain ⟨x5, h6, h⟩ := Option.bind_eq_some_iff.mp h
  refine eR_iald lk249_79 rfl rfl h6 ?_
  refine eE_iconst (v := 3) lk249_80 (by decide) ?_
  refine eE_icmp (t := 93) lk249_81 (by decide) (fun c7 => ?_) (fun c7 => ?_)
  · rw [if_pos c7] at h
    refine eE_aload_n lk249_93 g0 ?_
    refine eR_getA lk249_94 rf_188 rfl ?_
    refine eE_iload_n lk249_97 g1 ?_
    obtain ⟨x8, h9, h⟩ := Option.bind_eq_some_iff.mp h
    refine eR_iald lk249_98 rfl rfl h9 ?_
    exact m_asked_b99_ok hp0  lv σ ((11 : Int32)) l3 ((1 : Int32)) x8 l1 l2 g0 g1 g2 _ h
  · rw [if_neg c7] at h
    refine eE_aload_n lk249_84 g0 ?_
    refine eR_getA lk249_85 rf_206 rfl ?_
    refine eE_iload_n lk249_88 g1 ?_
    obtain ⟨x10, h11, h⟩ := Option.bind_eq_some_iff.mp h
    refine eR_iald lk249_89 rfl rfl h11 ?_
    refine eE_goto (t := 99) lk249_90 (by decide) ?_
    exact m_asked_b99_ok hp0  lv σ ((11 : Int32)) l3 ((1 : Int32)) x10 l1 l2 g0 g1 g2 _ h
def m_asked_b327 (F : Nat)  (σ : RS) (l1 : Int32) (l2 : Int32) (l3 : Int32) (l5 : Int32) (l8 : Int32) (l10 : Int32) : Option (RS) :=
  (rld σ 53 l1).bind fun x12 =>
  (m_append F σ l1 x12 ((2 : Int32)) l10).bind fun p14 =>
  (rld p14 12 ((2827 : Int32))).bind fun x24 =>
  (m_sendAll F p14 l1 ((0 : Int32))).bind fun p35 =>
  (m_hold F p35 l1 l8 l2 l3 l5 x24 ((0 : Int32)) ((0 : Int32))).bind fun p37 =>
  some p37
set_option maxRecDepth 4000 in
theorem m_asked_b327_ok {pF : Nat → List Value → xH → Option (Option Value × xH)} {d : Nat} {aR : Nat} {G : Nat → xC} {T : Nat × Nat} {F : Nat} (hp0 : xNP pF)  : ∀ (lv : xL) (σ : RS) (l1 : Int32) (l2 : Int32) (l3 : Int32) (l5 : Int32) (l8 : Int32) (l10 : Int32), xg lv 0 = some (.ref aR) → xg lv 1 = some (.int l1) → xg lv 2 = some (.int l2) → xg lv 3 = some (.int l3) → xg lv 5 = some (.int l5) → xg lv 8 = some (.int l8) → xg lv 10 = some (.int l10) → ∀ res, m_asked_b327 F  σ l1 l2 l3 l5 l8 l10 = some res → xR pF (d + 6) kT249 16 13 false none none (layR aR res G, T) (327, lv, [], (layR aR σ G, T)) := by
  intro lv σ l1 l2 l3 l5 l8 l10 g0 g1 g2 g3 g5 g8 g10 res h
  unfold m_asked_b327 at h
  refine eE_aload_n lk249_327 g0 ?_
  refine eE_iload_n lk249_328 g1 ?_
  refine eE_aload_n lk249_329 g0 ?_
  refine eR_getA lk249_330 rf_123 rfl ?_
  refine eE_iload_n lk249_333 g1 ?_
  obtain ⟨x12, h13, h⟩ := Option.bind_eq_some_iff.mp h
  refine eR_iald lk249_334 rfl rfl h13 ?_
  refine eE_iconst (v := 2) lk249_335 (by decide) ?_
  refine eE_iload lk249_336 g10 ?_
  obtain ⟨p14, h15, h⟩ := Option.bind_eq_some_iff.mp h
  refine eR_call (as := [.int l1, .int x12, .int ((2 : Int32)), .int l10]) lk249_338 mr_672 na_244 rfl rfl (Nat.le_of_ble_eq_true rfl) wv_244 wc_244 (m_append_ok hp0 (d := d + 2) h15) ?_
  refine eE_iload_n lk249_341 g2 ?_
  refine eE_stI (j := 11) lk249_342 (Or.inl rfl) (by decide) (fun vq16 gq17 kq18 => ?_)
  have gq19 := kq18 1 _ (by decide) (fun _ => rfl) g1
  have gq20 := kq18 3 _ (by decide) (fun _ => rfl) g3
  have gq21 := kq18 5 _ (by decide) (fun _ => rfl) g5
  have gq22 := kq18 8 _ (by decide) (fun _ => rfl) g8
  have gq23 := kq18 0 _ (by decide) (fun _ => rfl) g0
  refine eE_aload_n lk249_344 gq23 ?_
  refine eR_getA lk249_345 rf_32 rfl ?_
  refine eE_sipush (v := 2827) lk249_348 (by decide) ?_
  obtain ⟨x24, h25, h⟩ := Option.bind_eq_some_iff.mp h
  refine eR_iald lk249_351 rfl rfl h25 ?_
  refine eE_stI (j := 12) lk249_352 (Or.inl rfl) (by decide) (fun vq26 gq27 kq28 => ?_)
  have gq29 := kq28 1 _ (by decide) (fun _ => rfl) gq19
  have gq30 := kq28 3 _ (by decide) (fun _ => rfl) gq20
  have gq31 := kq28 5 _ (by decide) (fun _ => rfl) gq21
  have gq32 := kq28 8 _ (by decide) (fun _ => rfl) gq22
  have gq33 := kq28 0 _ (by decide) (fun _ => rfl) gq23
  have gq34 := kq28 11 _ (by decide) (fun _ => rfl) gq17
  refine eE_aload_n lk249_354 gq33 ?_
  refine eE_iload_n lk249_355 gq29 ?_
  refine eE_iconst (v := 0) lk249_356 (by decide) ?_
  obtain ⟨p35, h36, h⟩ := Option.bind_eq_some_iff.mp h
  refine eR_call (as := [.int l1, .int ((0 : Int32))]) lk249_357 mr_679 na_355 rfl rfl (Nat.le_of_ble_eq_true rfl) wv_355 wc_355 (m_sendAll_ok hp0 (d := d + 0) h36) ?_
  refine eE_aload_n lk249_360 gq33 ?_
  refine eE_iload_n lk249_361 gq29 ?_
  refine eE_iload lk249_362 gq32 ?_
  refine eE_iload lk249_364 gq34 ?_
  refine eE_iload_n lk249_366 gq30 ?_
  refine eE_iload lk249_367 gq31 ?_
  refine eE_iload lk249_369 gq27 ?_
  refine eE_iconst (v := 0) lk249_371 (by decide) ?_
  refine eE_iconst (v := 0) lk249_372 (by decide) ?_
  obtain ⟨p37, h38, h⟩ := Option.bind_eq_some_iff.mp h
  refine eR_call (as := [.int l1, .int l8, .int l2, .int l3, .int l5, .int x24, .int ((0 : Int32)), .int ((0 : Int32))]) lk249_373 mr_768 na_293 rfl rfl (Nat.le_of_ble_eq_true rfl) wv_293 wc_293 (m_hold_ok hp0 (d := d + 4) h38) ?_
  cases h
  exact eE_end lk249_376 rfl rfl rfl
def m_asked_b292 (F : Nat)  : Nat → RS → Int32 → Int32 → Int32 → Int32 → Int32 → Int32 → Int32 → Int32 → Int32 → Option (RS)
  | 0, _, _, _, _, _, _, _, _, _, _ => none
  | n + 1, σ, l1, l2, l3, l5, l7, l8, l9, l10, l11 =>
    let KK := m_asked_b292 F  n
    if xc2 .ge l11 l7 = true then (
      m_asked_b327 F  σ l1 l2 l3 l5 l8 l10
    ) else (
      (m_inLetter σ (((542208 : Int32)) + l11)).bind fun p40 =>
      (m_layLog p40.2 ((l9 + ((12 : Int32))) + l11) p40.1).bind fun p42 =>
      KK p42 l1 l2 l3 l5 l7 l8 l9 l10 (l11 + (1 : Int32))
    )
set_option maxRecDepth 4000 in
theorem m_asked_b292_ok {pF : Nat → List Value → xH → Option (Option Value × xH)} {d : Nat} {aR : Nat} {G : Nat → xC} {T : Nat × Nat} {F : Nat} (hp0 : xNP pF)  : ∀ (n : Nat) (lv : xL) (σ : RS) (l1 : Int32) (l2 : Int32) (l3 : Int32) (l5 : Int32) (l7 : Int32) (l8 : Int32) (l9 : Int32) (l10 : Int32) (l11 : Int32), xg lv 0 = some (.ref aR) → xg lv 1 = some (.int l1) → xg lv 2 = some (.int l2) → xg lv 3 = some (.int l3) → xg lv 5 = some (.int l5) → xg lv 7 = some (.int l7) → xg lv 8 = some (.int l8) → xg lv 9 = some (.int l9) → xg lv 10 = some (.int l10) → xg lv 11 = some (.int l11) → ∀ res, m_asked_b292 F  n σ l1 l2 l3 l5 l7 l8 l9 l10 l11 = some res → xR pF (d + 6) kT249 16 13 false none none (layR aR res G, T) (292, lv, [], (layR aR σ G, T)) := by
  intro n
  induction n with
  | zero => intro lv σ l1 l2 l3 l5 l7 l8 l9 l10 l11 g0 g1 g2 g3 g5 g7 g8 g9 g10 g11 res h; simp [m_asked_b292] at h
  | succ n hKK =>
    intro lv σ l1 l2 l3 l5 l7 l8 l9 l10 l11 g0 g1 g2 g3 g5 g7 g8 g9 g10 g11 res h
    unfold m_asked_b292 at h
    dsimp only at h
    refine eE_iload lk249_292 g11 ?_
    refine eE_iload lk249_294 g7 ?_
    refine eE_icmp (t := 327) lk249_296 (by decide) (fun c39 => ?_) (fun c39 => ?_)
    · rw [if_pos c39] at h
      exact m_asked_b327_ok hp0  lv σ l1 l2 l3 l5 l8 l10 g0 g1 g2 g3 g5 g8 g10 _ h
    · rw [if_neg c39] at h
      refine eE_aload_n lk249_299 g0 ?_
      refine eE_iload lk249_300 g9 ?_
      refine eE_bipush (v := 12) lk249_302 (by decide) ?_
      refine eE_iadd lk249_304 ?_
      refine eE_iload lk249_305 g11 ?_
      refine eE_iadd lk249_307 ?_
      refine eE_aload_n lk249_308 g0 ?_
      refine eE_ldc_w (v := 542208) lk249_309 xc_758 ?_
      refine eE_iload lk249_312 g11 ?_
      refine eE_iadd lk249_314 ?_
      obtain ⟨p40, h41, h⟩ := Option.bind_eq_some_iff.mp h
      refine eR_call (as := [.int (((542208 : Int32)) + l11)]) lk249_315 mr_759 na_295 rfl rfl (Nat.le_of_ble_eq_true rfl) wv_295 wc_295 (m_inLetter_ok hp0 (d := d + 5) h41) ?_
      obtain ⟨p42, h43, h⟩ := Option.bind_eq_some_iff.mp h
      refine eR_call (as := [.int ((l9 + ((12 : Int32))) + l11), .int p40.1]) lk249_318 mr_553 na_316 rfl rfl (Nat.le_of_ble_eq_true rfl) wv_316 wc_316 (m_layLog_ok hp0 (d := d + 5) h43) ?_
      refine eE_inc (j := 11) (v := l11 + (1 : Int32)) lk249_321 g11 rfl (by decide) (fun vq44 gq45 kq46 => ?_)
      have gq47 := kq46 1 _ (by decide) (fun _ => rfl) g1
      have gq48 := kq46 2 _ (by decide) (fun _ => rfl) g2
      have gq49 := kq46 3 _ (by decide) (fun _ => rfl) g3
      have gq50 := kq46 5 _ (by decide) (fun _ => rfl) g5
      have gq51 := kq46 7 _ (by decide) (fun _ => rfl) g7
      have gq52 := kq46 8 _ (by decide) (fun _ => rfl) g8
      have gq53 := kq46 9 _ (by decide) (fun _ => rfl) g9
      have gq54 := kq46 10 _ (by decide) (fun _ => rfl) g10
      have gq55 := kq46 0 _ (by decide) (fun _ => rfl) g0
      refine eE_goto (t := 292) lk249_324 (by decide) ?_
      exact hKK vq44 p42 l1 l2 l3 l5 l7 l8 l9 l10 (l11 + (1 : Int32)) gq55 gq47 gq48 gq49 gq50 gq51 gq52 gq53 gq54 gq45 _ h
def m_asked_b202 (F : Nat)  (σ : RS) (s0 : Int32) (l1 : Int32) (l2 : Int32) (l3 : Int32) (l5 : Int32) (l7 : Int32) (l8 : Int32) (l9 : Int32) : Option (RS) :=
  if xc2 .eq l5 ((6 : Int32)) = true then (
    m_asked_b327 F  σ l1 l2 l3 l5 l8 s0
  ) else (
    (rld σ 12 ((2825 : Int32))).bind fun x68 =>
    (m_lay4 F σ l9 x68).bind fun p70 =>
    (rld p70 12 ((2826 : Int32))).bind fun x72 =>
    (m_lay4 F p70 (l9 + ((4 : Int32))) x72).bind fun p74 =>
    (m_layLog p74 (l9 + ((8 : Int32))) (l5.toInt8.toInt32)).bind fun p76 =>
    (rld p76 12 ((2827 : Int32))).bind fun x78 =>
    (m_layLog p76 (l9 + ((9 : Int32))) (x78.toInt8.toInt32)).bind fun p80 =>
    (rld p80 12 ((2828 : Int32))).bind fun x82 =>
    (m_layLog p80 (l9 + ((10 : Int32))) (x82.toInt8.toInt32)).bind fun p84 =>
    m_asked_b292 F  F p84 l1 l2 l3 l5 l7 l8 l9 s0 ((0 : Int32))
  )
set_option maxRecDepth 4000 in
theorem m_asked_b202_ok {pF : Nat → List Value → xH → Option (Option Value × xH)} {d : Nat} {aR : Nat} {G : Nat → xC} {T : Nat × Nat} {F : Nat} (hp0 : xNP pF)  : ∀ (lv : xL) (σ : RS) (s0 : Int32) (l1 : Int32) (l2 : Int32) (l3 : Int32) (l5 : Int32) (l7 : Int32) (l8 : Int32) (l9 : Int32), xg lv 0 = some (.ref aR) → xg lv 1 = some (.int l1) → xg lv 2 = some (.int l2) → xg lv 3 = some (.int l3) → xg lv 5 = some (.int l5) → xg lv 7 = some (.int l7) → xg lv 8 = some (.int l8) → xg lv 9 = some (.int l9) → ∀ res, m_asked_b202 F  σ s0 l1 l2 l3 l5 l7 l8 l9 = some res → xR pF (d + 6) kT249 16 13 false none none (layR aR res G, T) (202, lv, [.int s0], (layR aR σ G, T)) := by
  intro lv σ s0 l1 l2 l3 l5 l7 l8 l9 g0 g1 g2 g3 g5 g7 g8 g9 res h
  unfold m_asked_b202 at h
  refine eE_stI (j := 10) lk249_202 (Or.inl rfl) (by decide) (fun vq56 gq57 kq58 => ?_)
  have gq59 := kq58 1 _ (by decide) (fun _ => rfl) g1
  have gq60 := kq58 2 _ (by decide) (fun _ => rfl) g2
  have gq61 := kq58 3 _ (by decide) (fun _ => rfl) g3
  have gq62 := kq58 5 _ (by decide) (fun _ => rfl) g5
  have gq63 := kq58 7 _ (by decide) (fun _ => rfl) g7
  have gq64 := kq58 8 _ (by decide) (fun _ => rfl) g8
  have gq65 := kq58 9 _ (by decide) (fun _ => rfl) g9
  have gq66 := kq58 0 _ (by decide) (fun _ => rfl) g0
  refine eE_iload lk249_204 gq62 ?_
  refine eE_bipush (v := 6) lk249_206 (by decide) ?_
  refine eE_icmp (t := 327) lk249_208 (by decide) (fun c67 => ?_) (fun c67 => ?_)
  · rw [if_pos c67] at h
    exact m_asked_b327_ok hp0  vq56 σ l1 l2 l3 l5 l8 s0 gq66 gq59 gq60 gq61 gq62 gq64 gq57 _ h
  · rw [if_neg c67] at h
    refine eE_aload_n lk249_211 gq66 ?_
    refine eE_iload lk249_212 gq65 ?_
    refine eE_aload_n lk249_214 gq66 ?_
    refine eR_getA lk249_215 rf_32 rfl ?_
    refine eE_sipush (v := 2825) lk249_218 (by decide) ?_
    obtain ⟨x68, h69, h⟩ := Option.bind_eq_some_iff.mp h
    refine eR_iald lk249_221 rfl rfl h69 ?_
    obtain ⟨p70, h71, h⟩ := Option.bind_eq_some_iff.mp h
    refine eR_call (as := [.int l9, .int x68]) lk249_222 mr_765 na_313 rfl rfl (Nat.le_of_ble_eq_true rfl) wv_313 wc_313 (m_lay4_ok hp0 (d := d + 4) h71) ?_
    refine eE_aload_n lk249_225 gq66 ?_
    refine eE_iload lk249_226 gq65 ?_
    refine eE_iconst (v := 4) lk249_228 (by decide) ?_
    refine eE_iadd lk249_229 ?_
    refine eE_aload_n lk249_230 gq66 ?_
    refine eR_getA lk249_231 rf_32 rfl ?_
    refine eE_sipush (v := 2826) lk249_234 (by decide) ?_
    obtain ⟨x72, h73, h⟩ := Option.bind_eq_some_iff.mp h
    refine eR_iald lk249_237 rfl rfl h73 ?_
    obtain ⟨p74, h75, h⟩ := Option.bind_eq_some_iff.mp h
    refine eR_call (as := [.int (l9 + ((4 : Int32))), .int x72]) lk249_238 mr_765 na_313 rfl rfl (Nat.le_of_ble_eq_true rfl) wv_313 wc_313 (m_lay4_ok hp0 (d := d + 4) h75) ?_
    refine eE_aload_n lk249_241 gq66 ?_
    refine eE_iload lk249_242 gq65 ?_
    refine eE_bipush (v := 8) lk249_244 (by decide) ?_
    refine eE_iadd lk249_246 ?_
    refine eE_iload lk249_247 gq62 ?_
    refine eE_i2b lk249_249 ?_
    obtain ⟨p76, h77, h⟩ := Option.bind_eq_some_iff.mp h
    refine eR_call (as := [.int (l9 + ((8 : Int32))), .int (l5.toInt8.toInt32)]) lk249_250 mr_553 na_316 rfl rfl (Nat.le_of_ble_eq_true rfl) wv_316 wc_316 (m_layLog_ok hp0 (d := d + 5) h77) ?_
    refine eE_aload_n lk249_253 gq66 ?_
    refine eE_iload lk249_254 gq65 ?_
    refine eE_bipush (v := 9) lk249_256 (by decide) ?_
    refine eE_iadd lk249_258 ?_
    refine eE_aload_n lk249_259 gq66 ?_
    refine eR_getA lk249_260 rf_32 rfl ?_
    refine eE_sipush (v := 2827) lk249_263 (by decide) ?_
    obtain ⟨x78, h79, h⟩ := Option.bind_eq_some_iff.mp h
    refine eR_iald lk249_266 rfl rfl h79 ?_
    refine eE_i2b lk249_267 ?_
    obtain ⟨p80, h81, h⟩ := Option.bind_eq_some_iff.mp h
    refine eR_call (as := [.int (l9 + ((9 : Int32))), .int (x78.toInt8.toInt32)]) lk249_268 mr_553 na_316 rfl rfl (Nat.le_of_ble_eq_true rfl) wv_316 wc_316 (m_layLog_ok hp0 (d := d + 5) h81) ?_
    refine eE_aload_n lk249_271 gq66 ?_
    refine eE_iload lk249_272 gq65 ?_
    refine eE_bipush (v := 10) lk249_274 (by decide) ?_
    refine eE_iadd lk249_276 ?_
    refine eE_aload_n lk249_277 gq66 ?_
    refine eR_getA lk249_278 rf_32 rfl ?_
    refine eE_sipush (v := 2828) lk249_281 (by decide) ?_
    obtain ⟨x82, h83, h⟩ := Option.bind_eq_some_iff.mp h
    refine eR_iald lk249_284 rfl rfl h83 ?_
    refine eE_i2b lk249_285 ?_
    obtain ⟨p84, h85, h⟩ := Option.bind_eq_some_iff.mp h
    refine eR_call (as := [.int (l9 + ((10 : Int32))), .int (x82.toInt8.toInt32)]) lk249_286 mr_553 na_316 rfl rfl (Nat.le_of_ble_eq_true rfl) wv_316 wc_316 (m_layLog_ok hp0 (d := d + 5) h85) ?_
    refine eE_iconst (v := 0) lk249_289 (by decide) ?_
    refine eE_stI (j := 11) lk249_290 (Or.inl rfl) (by decide) (fun vq86 gq87 kq88 => ?_)
    have gq89 := kq88 1 _ (by decide) (fun _ => rfl) gq59
    have gq90 := kq88 2 _ (by decide) (fun _ => rfl) gq60
    have gq91 := kq88 3 _ (by decide) (fun _ => rfl) gq61
    have gq92 := kq88 5 _ (by decide) (fun _ => rfl) gq62
    have gq93 := kq88 7 _ (by decide) (fun _ => rfl) gq63
    have gq94 := kq88 8 _ (by decide) (fun _ => rfl) gq64
    have gq95 := kq88 9 _ (by decide) (fun _ => rfl) gq65
    have gq96 := kq88 0 _ (by decide) (fun _ => rfl) gq66
    have gq97 := kq88 10 _ (by decide) (fun _ => rfl) gq57
    exact m_asked_b292_ok hp0  F vq86 p84 l1 l2 l3 l5 l7 l8 l9 s0 ((0 : Int32)) gq96 gq89 gq90 gq91 gq92 gq93 gq94 gq95 gq97 gq87 _ h
def m_asked_b412 (F : Nat)  (σ : RS) (s0 : Int32) (l1 : Int32) (l2 : Int32) (l3 : Int32) (l5 : Int32) (l7 : Int32) : Option (RS) :=
  (rld σ 12 ((2827 : Int32))).bind fun x107 =>
  (m_hold F σ l1 s0 l2 l3 l5 x107 l7 ((1 : Int32))).bind fun p109 =>
  some p109
set_option maxRecDepth 4000 in
theorem m_asked_b412_ok {pF : Nat → List Value → xH → Option (Option Value × xH)} {d : Nat} {aR : Nat} {G : Nat → xC} {T : Nat × Nat} {F : Nat} (hp0 : xNP pF)  : ∀ (lv : xL) (σ : RS) (s0 : Int32) (l1 : Int32) (l2 : Int32) (l3 : Int32) (l5 : Int32) (l7 : Int32), xg lv 0 = some (.ref aR) → xg lv 1 = some (.int l1) → xg lv 2 = some (.int l2) → xg lv 3 = some (.int l3) → xg lv 5 = some (.int l5) → xg lv 7 = some (.int l7) → ∀ res, m_asked_b412 F  σ s0 l1 l2 l3 l5 l7 = some res → xR pF (d + 6) kT249 16 13 false none none (layR aR res G, T) (412, lv, [.int s0], (layR aR σ G, T)) := by
  intro lv σ s0 l1 l2 l3 l5 l7 g0 g1 g2 g3 g5 g7 res h
  unfold m_asked_b412 at h
  refine eE_stI (j := 9) lk249_412 (Or.inl rfl) (by decide) (fun vq98 gq99 kq100 => ?_)
  have gq101 := kq100 1 _ (by decide) (fun _ => rfl) g1
  have gq102 := kq100 2 _ (by decide) (fun _ => rfl) g2
  have gq103 := kq100 3 _ (by decide) (fun _ => rfl) g3
  have gq104 := kq100 5 _ (by decide) (fun _ => rfl) g5
  have gq105 := kq100 7 _ (by decide) (fun _ => rfl) g7
  have gq106 := kq100 0 _ (by decide) (fun _ => rfl) g0
  refine eE_aload_n lk249_414 gq106 ?_
  refine eE_iload_n lk249_415 gq101 ?_
  refine eE_iload lk249_416 gq99 ?_
  refine eE_iload_n lk249_418 gq102 ?_
  refine eE_iload_n lk249_419 gq103 ?_
  refine eE_iload lk249_420 gq104 ?_
  refine eE_aload_n lk249_422 gq106 ?_
  refine eR_getA lk249_423 rf_32 rfl ?_
  refine eE_sipush (v := 2827) lk249_426 (by decide) ?_
  obtain ⟨x107, h108, h⟩ := Option.bind_eq_some_iff.mp h
  refine eR_iald lk249_429 rfl rfl h108 ?_
  refine eE_iload lk249_430 gq105 ?_
  refine eE_iconst (v := 1) lk249_432 (by decide) ?_
  obtain ⟨p109, h110, h⟩ := Option.bind_eq_some_iff.mp h
  refine eR_call (as := [.int l1, .int s0, .int l2, .int l3, .int l5, .int x107, .int l7, .int ((1 : Int32))]) lk249_433 mr_768 na_293 rfl rfl (Nat.le_of_ble_eq_true rfl) wv_293 wc_293 (m_hold_ok hp0 (d := d + 4) h110) ?_
  cases h
  exact eE_end lk249_436 rfl rfl rfl
def m_asked_b151 (F : Nat)  (σ : RS) (l1 : Int32) (l2 : Int32) (l3 : Int32) (l5 : Int32) (l6 : Int32) : Option (RS) :=
  (rld σ 12 ((2829 : Int32))).bind fun x111 =>
  if xc0 .ne l6 = true then (
    (rld σ 75 l1).bind fun x133 =>
    (m_termAt σ l1 x133).bind fun p135 =>
    (rld p135.2 53 l1).bind fun x137 =>
    if xc2 .ne p135.1 x137 = true then (
      (rld p135.2 82 l1).bind fun x140 =>
      m_asked_b412 F  p135.2 x140 l1 l2 l3 l5 x111
    ) else (
      (rld p135.2 75 l1).bind fun x142 =>
      m_asked_b412 F  p135.2 x142 l1 l2 l3 l5 x111
    )
  ) else (
    (rld σ 56 l1).bind fun x144 =>
    (m_nextContent σ l1).bind fun p155 =>
    if xc2 .ne l5 ((6 : Int32)) = true then (
      m_asked_b202 F  p155.2 (((12 : Int32)) + x111) l1 l2 l3 l5 x111 (x144 + ((1 : Int32))) (p155.1)
    ) else (
      m_asked_b202 F  p155.2 ((2 : Int32)) l1 l2 l3 l5 x111 (x144 + ((1 : Int32))) (p155.1)
    )
  )
set_option maxRecDepth 4000 in
theorem m_asked_b151_ok {pF : Nat → List Value → xH → Option (Option Value × xH)} {d : Nat} {aR : Nat} {G : Nat → xC} {T : Nat × Nat} {F : Nat} (hp0 : xNP pF)  : ∀ (lv : xL) (σ : RS) (l1 : Int32) (l2 : Int32) (l3 : Int32) (l5 : Int32) (l6 : Int32), xg lv 0 = some (.ref aR) → xg lv 1 = some (.int l1) → xg lv 2 = some (.int l2) → xg lv 3 = some (.int l3) → xg lv 5 = some (.int l5) → xg lv 6 = some (.int l6) → ∀ res, m_asked_b151 F  σ l1 l2 l3 l5 l6 = some res → xR pF (d + 6) kT249 16 13 false none none (layR aR res G, T) (151, lv, [], (layR aR σ G, T)) := by
  intro lv σ l1 l2 l3 l5 l6 g0 g1 g2 g3 g5 g6 res h
  unfold m_asked_b151 at h
  refine eE_aload_n lk249_151 g0 ?_
  refine eR_getA lk249_152 rf_32 rfl ?_
  refine eE_sipush (v := 2829) lk249_155 (by decide) ?_
  obtain ⟨x111, h112, h⟩ := Option.bind_eq_some_iff.mp h
  refine eR_iald lk249_158 rfl rfl h112 ?_
  refine eE_stI (j := 7) lk249_159 (Or.inl rfl) (by decide) (fun vq113 gq114 kq115 => ?_)
  have gq116 := kq115 1 _ (by decide) (fun _ => rfl) g1
  have gq117 := kq115 2 _ (by decide) (fun _ => rfl) g2
  have gq118 := kq115 3 _ (by decide) (fun _ => rfl) g3
  have gq119 := kq115 5 _ (by decide) (fun _ => rfl) g5
  have gq120 := kq115 6 _ (by decide) (fun _ => rfl) g6
  have gq121 := kq115 0 _ (by decide) (fun _ => rfl) g0
  refine eE_iconst (v := 0) lk249_161 (by decide) ?_
  refine eE_stI (j := 8) lk249_162 (Or.inl rfl) (by decide) (fun vq122 gq123 kq124 => ?_)
  have gq125 := kq124 1 _ (by decide) (fun _ => rfl) gq116
  have gq126 := kq124 2 _ (by decide) (fun _ => rfl) gq117
  have gq127 := kq124 3 _ (by decide) (fun _ => rfl) gq118
  have gq128 := kq124 5 _ (by decide) (fun _ => rfl) gq119
  have gq129 := kq124 6 _ (by decide) (fun _ => rfl) gq120
  have gq130 := kq124 0 _ (by decide) (fun _ => rfl) gq121
  have gq131 := kq124 7 _ (by decide) (fun _ => rfl) gq114
  refine eE_iload lk249_164 gq129 ?_
  refine eE_if (t := 377) lk249_166 (by decide) (fun c132 => ?_) (fun c132 => ?_)
  · rw [if_pos c132] at h
    refine eE_aload_n lk249_377 gq130 ?_
    refine eE_iload_n lk249_378 gq125 ?_
    refine eE_aload_n lk249_379 gq130 ?_
    refine eR_getA lk249_380 rf_191 rfl ?_
    refine eE_iload_n lk249_383 gq125 ?_
    obtain ⟨x133, h134, h⟩ := Option.bind_eq_some_iff.mp h
    refine eR_iald lk249_384 rfl rfl h134 ?_
    obtain ⟨p135, h136, h⟩ := Option.bind_eq_some_iff.mp h
    refine eR_call (as := [.int l1, .int x133]) lk249_385 mr_524 na_372 rfl rfl (Nat.le_of_ble_eq_true rfl) wv_372 wc_372 (m_termAt_ok hp0 (d := d + 4) h136) ?_
    refine eE_aload_n lk249_388 gq130 ?_
    refine eR_getA lk249_389 rf_123 rfl ?_
    refine eE_iload_n lk249_392 gq125 ?_
    obtain ⟨x137, h138, h⟩ := Option.bind_eq_some_iff.mp h
    refine eR_iald lk249_393 rfl rfl h138 ?_
    refine eE_icmp (t := 406) lk249_394 (by decide) (fun c139 => ?_) (fun c139 => ?_)
    · rw [if_pos c139] at h
      refine eE_aload_n lk249_406 gq130 ?_
      refine eR_getA lk249_407 rf_212 rfl ?_
      refine eE_iload_n lk249_410 gq125 ?_
      obtain ⟨x140, h141, h⟩ := Option.bind_eq_some_iff.mp h
      refine eR_iald lk249_411 rfl rfl h141 ?_
      exact m_asked_b412_ok hp0  vq122 p135.2 x140 l1 l2 l3 l5 x111 gq130 gq125 gq126 gq127 gq128 gq131 _ h
    · rw [if_neg c139] at h
      refine eE_aload_n lk249_397 gq130 ?_
      refine eR_getA lk249_398 rf_191 rfl ?_
      refine eE_iload_n lk249_401 gq125 ?_
      obtain ⟨x142, h143, h⟩ := Option.bind_eq_some_iff.mp h
      refine eR_iald lk249_402 rfl rfl h143 ?_
      refine eE_goto (t := 412) lk249_403 (by decide) ?_
      exact m_asked_b412_ok hp0  vq122 p135.2 x142 l1 l2 l3 l5 x111 gq130 gq125 gq126 gq127 gq128 gq131 _ h
  · rw [if_neg c132] at h
    refine eE_aload_n lk249_169 gq130 ?_
    refine eR_getA lk249_170 rf_132 rfl ?_
    refine eE_iload_n lk249_173 gq125 ?_
    obtain ⟨x144, h145, h⟩ := Option.bind_eq_some_iff.mp h
    refine eR_iald lk249_174 rfl rfl h145 ?_
    refine eE_iconst (v := 1) lk249_175 (by decide) ?_
    refine eE_iadd lk249_176 ?_
    refine eE_stI (j := 8) lk249_177 (Or.inl rfl) (by decide) (fun vq146 gq147 kq148 => ?_)
    have gq149 := kq148 1 _ (by decide) (fun _ => rfl) gq125
    have gq150 := kq148 2 _ (by decide) (fun _ => rfl) gq126
    have gq151 := kq148 3 _ (by decide) (fun _ => rfl) gq127
    have gq152 := kq148 5 _ (by decide) (fun _ => rfl) gq128
    have gq153 := kq148 0 _ (by decide) (fun _ => rfl) gq130
    have gq154 := kq148 7 _ (by decide) (fun _ => rfl) gq131
    refine eE_aload_n lk249_179 gq153 ?_
    refine eE_iload_n lk249_180 gq149 ?_
    obtain ⟨p155, h156, h⟩ := Option.bind_eq_some_iff.mp h
    refine eR_call (as := [.int l1]) lk249_181 mr_703 na_327 rfl rfl (Nat.le_of_ble_eq_true rfl) wv_327 wc_327 (m_nextContent_ok hp0 (d := d + 4) h156) ?_
    refine eE_stI (j := 9) lk249_184 (Or.inl rfl) (by decide) (fun vq157 gq158 kq159 => ?_)
    have gq160 := kq159 1 _ (by decide) (fun _ => rfl) gq149
    have gq161 := kq159 2 _ (by decide) (fun _ => rfl) gq150
    have gq162 := kq159 3 _ (by decide) (fun _ => rfl) gq151
    have gq163 := kq159 5 _ (by decide) (fun _ => rfl) gq152
    have gq164 := kq159 0 _ (by decide) (fun _ => rfl) gq153
    have gq165 := kq159 7 _ (by decide) (fun _ => rfl) gq154
    have gq166 := kq159 8 _ (by decide) (fun _ => rfl) gq147
    refine eE_iload lk249_186 gq163 ?_
    refine eE_bipush (v := 6) lk249_188 (by decide) ?_
    refine eE_icmp (t := 197) lk249_190 (by decide) (fun c167 => ?_) (fun c167 => ?_)
    · rw [if_pos c167] at h
      refine eE_bipush (v := 12) lk249_197 (by decide) ?_
      refine eE_iload lk249_199 gq165 ?_
      refine eE_iadd lk249_201 ?_
      exact m_asked_b202_ok hp0  vq157 p155.2 (((12 : Int32)) + x111) l1 l2 l3 l5 x111 (x144 + ((1 : Int32))) (p155.1) gq164 gq160 gq161 gq162 gq163 gq165 gq166 gq158 _ h
    · rw [if_neg c167] at h
      refine eE_iconst (v := 2) lk249_193 (by decide) ?_
      refine eE_goto (t := 202) lk249_194 (by decide) ?_
      exact m_asked_b202_ok hp0  vq157 p155.2 ((2 : Int32)) l1 l2 l3 l5 x111 (x144 + ((1 : Int32))) (p155.1) gq164 gq160 gq161 gq162 gq163 gq165 gq166 gq158 _ h
def m_asked_b52 (F : Nat)  (σ : RS) (s0 : Int32) (l1 : Int32) (l2 : Int32) (l3 : Int32) (l4 : Int32) (l5 : Int32) : Option (RS) :=
  (rld σ 73 l1).bind fun x177 =>
  if xc2 .ne x177 ((3 : Int32)) = true then (
    m_asked_b69 F  σ l1 l2 l3
  ) else (
    if xc0 .eq l4 = true then (
      if xc0 .ne s0 = true then (
        m_asked_b151 F  σ l1 l2 l3 l5 s0
      ) else (
        (rld σ 56 l1).bind fun x182 =>
        (rld σ 55 l1).bind fun x184 =>
        if xc2 .lt (x182 - x184) ((200 : Int32)) = true then (
          m_asked_b151 F  σ l1 l2 l3 l5 s0
        ) else (
          (m_write σ ((11 : Int32)) l3 ((3 : Int32)) ((0 : Int32)) ((0 : Int32))).bind fun p187 =>
          (m_post F p187 l1 l2).bind fun p189 =>
          some p189
        )
      )
    ) else (
      m_asked_b69 F  σ l1 l2 l3
    )
  )
set_option maxRecDepth 4000 in
theorem m_asked_b52_ok {pF : Nat → List Value → xH → Option (Option Value × xH)} {d : Nat} {aR : Nat} {G : Nat → xC} {T : Nat × Nat} {F : Nat} (hp0 : xNP pF)  : ∀ (lv : xL) (σ : RS) (s0 : Int32) (l1 : Int32) (l2 : Int32) (l3 : Int32) (l4 : Int32) (l5 : Int32), xg lv 0 = some (.ref aR) → xg lv 1 = some (.int l1) → xg lv 2 = some (.int l2) → xg lv 3 = some (.int l3) → xg lv 4 = some (.int l4) → xg lv 5 = some (.int l5) → ∀ res, m_asked_b52 F  σ s0 l1 l2 l3 l4 l5 = some res → xR pF (d + 6) kT249 16 13 false none none (layR aR res G, T) (52, lv, [.int s0], (layR aR σ G, T)) := by
  intro lv σ s0 l1 l2 l3 l4 l5 g0 g1 g2 g3 g4 g5 res h
  unfold m_asked_b52 at h
  refine eE_stI (j := 6) lk249_52 (Or.inl rfl) (by decide) (fun vq168 gq169 kq170 => ?_)
  have gq171 := kq170 1 _ (by decide) (fun _ => rfl) g1
  have gq172 := kq170 2 _ (by decide) (fun _ => rfl) g2
  have gq173 := kq170 3 _ (by decide) (fun _ => rfl) g3
  have gq174 := kq170 4 _ (by decide) (fun _ => rfl) g4
  have gq175 := kq170 5 _ (by decide) (fun _ => rfl) g5
  have gq176 := kq170 0 _ (by decide) (fun _ => rfl) g0
  refine eE_aload_n lk249_54 gq176 ?_
  refine eR_getA lk249_55 rf_185 rfl ?_
  refine eE_iload_n lk249_58 gq171 ?_
  obtain ⟨x177, h178, h⟩ := Option.bind_eq_some_iff.mp h
  refine eR_iald lk249_59 rfl rfl h178 ?_
  refine eE_iconst (v := 3) lk249_60 (by decide) ?_
  refine eE_icmp (t := 69) lk249_61 (by decide) (fun c179 => ?_) (fun c179 => ?_)
  · rw [if_pos c179] at h
    exact m_asked_b69_ok hp0  vq168 σ l1 l2 l3 gq176 gq171 gq172 gq173 _ h
  · rw [if_neg c179] at h
    refine eE_iload lk249_64 gq174 ?_
    refine eE_if (t := 110) lk249_66 (by decide) (fun c180 => ?_) (fun c180 => ?_)
    · rw [if_pos c180] at h
      refine eE_iload lk249_110 gq169 ?_
      refine eE_if (t := 151) lk249_112 (by decide) (fun c181 => ?_) (fun c181 => ?_)
      · rw [if_pos c181] at h
        exact m_asked_b151_ok hp0  vq168 σ l1 l2 l3 l5 s0 gq176 gq171 gq172 gq173 gq175 gq169 _ h
      · rw [if_neg c181] at h
        refine eE_aload_n lk249_115 gq176 ?_
        refine eR_getA lk249_116 rf_132 rfl ?_
        refine eE_iload_n lk249_119 gq171 ?_
        obtain ⟨x182, h183, h⟩ := Option.bind_eq_some_iff.mp h
        refine eR_iald lk249_120 rfl rfl h183 ?_
        refine eE_aload_n lk249_121 gq176 ?_
        refine eR_getA lk249_122 rf_129 rfl ?_
        refine eE_iload_n lk249_125 gq171 ?_
        obtain ⟨x184, h185, h⟩ := Option.bind_eq_some_iff.mp h
        refine eR_iald lk249_126 rfl rfl h185 ?_
        refine eE_isub lk249_127 ?_
        refine eE_sipush (v := 200) lk249_128 (by decide) ?_
        refine eE_icmp (t := 151) lk249_131 (by decide) (fun c186 => ?_) (fun c186 => ?_)
        · rw [if_pos c186] at h
          exact m_asked_b151_ok hp0  vq168 σ l1 l2 l3 l5 s0 gq176 gq171 gq172 gq173 gq175 gq169 _ h
        · rw [if_neg c186] at h
          refine eE_aload_n lk249_134 gq176 ?_
          refine eE_bipush (v := 11) lk249_135 (by decide) ?_
          refine eE_iload_n lk249_137 gq173 ?_
          refine eE_iconst (v := 3) lk249_138 (by decide) ?_
          refine eE_iconst (v := 0) lk249_139 (by decide) ?_
          refine eE_iconst (v := 0) lk249_140 (by decide) ?_
          obtain ⟨p187, h188, h⟩ := Option.bind_eq_some_iff.mp h
          refine eR_call (as := [.int ((11 : Int32)), .int l3, .int ((3 : Int32)), .int ((0 : Int32)), .int ((0 : Int32))]) lk249_141 mr_647 na_381 rfl rfl (Nat.le_of_ble_eq_true rfl) wv_381 wc_381 (m_write_ok hp0 (d := d + 5) h188) ?_
          refine eE_aload_n lk249_144 gq176 ?_
          refine eE_iload_n lk249_145 gq171 ?_
          refine eE_iload_n lk249_146 gq172 ?_
          obtain ⟨p189, h190, h⟩ := Option.bind_eq_some_iff.mp h
          refine eR_call (as := [.int l1, .int l2]) lk249_147 mr_651 na_339 rfl rfl (Nat.le_of_ble_eq_true rfl) wv_339 wc_339 (m_post_ok hp0 (d := d + 2) h190) ?_
          cases h
          exact eE_end lk249_150 rfl rfl rfl
    · rw [if_neg c180] at h
      exact m_asked_b69_ok hp0  vq168 σ l1 l2 l3 gq176 gq171 gq172 gq173 _ h
def m_asked_b51 (F : Nat)  (σ : RS) (l1 : Int32) (l2 : Int32) (l3 : Int32) (l4 : Int32) (l5 : Int32) : Option (RS) :=
  m_asked_b52 F  σ ((0 : Int32)) l1 l2 l3 l4 l5
set_option maxRecDepth 4000 in
theorem m_asked_b51_ok {pF : Nat → List Value → xH → Option (Option Value × xH)} {d : Nat} {aR : Nat} {G : Nat → xC} {T : Nat × Nat} {F : Nat} (hp0 : xNP pF)  : ∀ (lv : xL) (σ : RS) (l1 : Int32) (l2 : Int32) (l3 : Int32) (l4 : Int32) (l5 : Int32), xg lv 0 = some (.ref aR) → xg lv 1 = some (.int l1) → xg lv 2 = some (.int l2) → xg lv 3 = some (.int l3) → xg lv 4 = some (.int l4) → xg lv 5 = some (.int l5) → ∀ res, m_asked_b51 F  σ l1 l2 l3 l4 l5 = some res → xR pF (d + 6) kT249 16 13 false none none (layR aR res G, T) (51, lv, [], (layR aR σ G, T)) := by
  intro lv σ l1 l2 l3 l4 l5 g0 g1 g2 g3 g4 g5 res h
  unfold m_asked_b51 at h
  refine eE_iconst (v := 0) lk249_51 (by decide) ?_
  exact m_asked_b52_ok hp0  lv σ ((0 : Int32)) l1 l2 l3 l4 l5 g0 g1 g2 g3 g4 g5 _ h
def m_asked_b23 (F : Nat)  (σ : RS) (s0 : Int32) (l1 : Int32) (l2 : Int32) (l3 : Int32) : Option (RS) :=
  (rld σ 12 ((2824 : Int32))).bind fun x198 =>
  if xc2 .lt x198 ((3 : Int32)) = true then (
    m_asked_b51 F  σ l1 l2 l3 s0 x198
  ) else (
    if xc2 .gt x198 ((5 : Int32)) = true then (
      m_asked_b51 F  σ l1 l2 l3 s0 x198
    ) else (
      m_asked_b52 F  σ ((1 : Int32)) l1 l2 l3 s0 x198
    )
  )
set_option maxRecDepth 4000 in
theorem m_asked_b23_ok {pF : Nat → List Value → xH → Option (Option Value × xH)} {d : Nat} {aR : Nat} {G : Nat → xC} {T : Nat × Nat} {F : Nat} (hp0 : xNP pF)  : ∀ (lv : xL) (σ : RS) (s0 : Int32) (l1 : Int32) (l2 : Int32) (l3 : Int32), xg lv 0 = some (.ref aR) → xg lv 1 = some (.int l1) → xg lv 2 = some (.int l2) → xg lv 3 = some (.int l3) → ∀ res, m_asked_b23 F  σ s0 l1 l2 l3 = some res → xR pF (d + 6) kT249 16 13 false none none (layR aR res G, T) (23, lv, [.int s0], (layR aR σ G, T)) := by
  intro lv σ s0 l1 l2 l3 g0 g1 g2 g3 res h
  unfold m_asked_b23 at h
  refine eE_stI (j := 4) lk249_23 (Or.inl rfl) (by decide) (fun vq191 gq192 kq193 => ?_)
  have gq194 := kq193 1 _ (by decide) (fun _ => rfl) g1
  have gq195 := kq193 2 _ (by decide) (fun _ => rfl) g2
  have gq196 := kq193 3 _ (by decide) (fun _ => rfl) g3
  have gq197 := kq193 0 _ (by decide) (fun _ => rfl) g0
  refine eE_aload_n lk249_25 gq197 ?_
  refine eR_getA lk249_26 rf_32 rfl ?_
  refine eE_sipush (v := 2824) lk249_29 (by decide) ?_
  obtain ⟨x198, h199, h⟩ := Option.bind_eq_some_iff.mp h
  refine eR_iald lk249_32 rfl rfl h199 ?_
  refine eE_stI (j := 5) lk249_33 (Or.inl rfl) (by decide) (fun vq200 gq201 kq202 => ?_)
  have gq203 := kq202 1 _ (by decide) (fun _ => rfl) gq194
  have gq204 := kq202 2 _ (by decide) (fun _ => rfl) gq195
  have gq205 := kq202 3 _ (by decide) (fun _ => rfl) gq196
  have gq206 := kq202 0 _ (by decide) (fun _ => rfl) gq197
  have gq207 := kq202 4 _ (by decide) (fun _ => rfl) gq192
  refine eE_iload lk249_35 gq201 ?_
  refine eE_iconst (v := 3) lk249_37 (by decide) ?_
  refine eE_icmp (t := 51) lk249_38 (by decide) (fun c208 => ?_) (fun c208 => ?_)
  · rw [if_pos c208] at h
    exact m_asked_b51_ok hp0  vq200 σ l1 l2 l3 s0 x198 gq206 gq203 gq204 gq205 gq207 gq201 _ h
  · rw [if_neg c208] at h
    refine eE_iload lk249_41 gq201 ?_
    refine eE_iconst (v := 5) lk249_43 (by decide) ?_
    refine eE_icmp (t := 51) lk249_44 (by decide) (fun c209 => ?_) (fun c209 => ?_)
    · rw [if_pos c209] at h
      exact m_asked_b51_ok hp0  vq200 σ l1 l2 l3 s0 x198 gq206 gq203 gq204 gq205 gq207 gq201 _ h
    · rw [if_neg c209] at h
      refine eE_iconst (v := 1) lk249_47 (by decide) ?_
      refine eE_goto (t := 52) lk249_48 (by decide) ?_
      exact m_asked_b52_ok hp0  vq200 σ ((1 : Int32)) l1 l2 l3 s0 x198 gq206 gq203 gq204 gq205 gq207 gq201 _ h
def m_asked_b0 (F : Nat)  (σ : RS) (l1 : Int32) (l2 : Int32) : Option (RS) :=
  (rld σ 9 ((353 : Int32))).bind fun x210 =>
  (rld σ 80 l1).bind fun x218 =>
  if xc0 .lt x218 = true then (
    m_asked_b23 F  σ ((0 : Int32)) l1 l2 x210
  ) else (
    m_asked_b23 F  σ ((1 : Int32)) l1 l2 x210
  )
set_option maxRecDepth 4000 in
theorem m_asked_b0_ok {pF : Nat → List Value → xH → Option (Option Value × xH)} {d : Nat} {aR : Nat} {G : Nat → xC} {T : Nat × Nat} {F : Nat} (hp0 : xNP pF)  : ∀ (lv : xL) (σ : RS) (l1 : Int32) (l2 : Int32), xg lv 0 = some (.ref aR) → xg lv 1 = some (.int l1) → xg lv 2 = some (.int l2) → ∀ res, m_asked_b0 F  σ l1 l2 = some res → xR pF (d + 6) kT249 16 13 false none none (layR aR res G, T) (0, lv, [], (layR aR σ G, T)) := by
  intro lv σ l1 l2 g0 g1 g2 res h
  unfold m_asked_b0 at h
  refine eE_aload_n lk249_0 g0 ?_
  refine eR_getA lk249_1 rf_23 rfl ?_
  refine eE_sipush (v := 353) lk249_4 (by decide) ?_
  obtain ⟨x210, h211, h⟩ := Option.bind_eq_some_iff.mp h
  refine eR_iald lk249_7 rfl rfl h211 ?_
  refine eE_stI (j := 3) lk249_8 (Or.inr ⟨_, rfl, rfl⟩) (by decide) (fun vq212 gq213 kq214 => ?_)
  have gq215 := kq214 1 _ (by decide) (fun _ => rfl) g1
  have gq216 := kq214 2 _ (by decide) (fun _ => rfl) g2
  have gq217 := kq214 0 _ (by decide) (fun _ => rfl) g0
  refine eE_aload_n lk249_9 gq217 ?_
  refine eR_getA lk249_10 rf_206 rfl ?_
  refine eE_iload_n lk249_13 gq215 ?_
  obtain ⟨x218, h219, h⟩ := Option.bind_eq_some_iff.mp h
  refine eR_iald lk249_14 rfl rfl h219 ?_
  refine eE_if (t := 22) lk249_15 (by decide) (fun c220 => ?_) (fun c220 => ?_)
  · rw [if_pos c220] at h
    refine eE_iconst (v := 0) lk249_22 (by decide) ?_
    exact m_asked_b23_ok hp0  vq212 σ ((0 : Int32)) l1 l2 x210 gq217 gq215 gq216 gq213 _ h
  · rw [if_neg c220] at h
    refine eE_iconst (v := 1) lk249_18 (by decide) ?_
    refine eE_goto (t := 23) lk249_19 (by decide) ?_
    exact m_asked_b23_ok hp0  vq212 σ ((1 : Int32)) l1 l2 x210 gq217 gq215 gq216 gq213 _ h
def m_asked (F : Nat) (σ : RS) (l1 : Int32) (l2 : Int32) : Option (RS) := m_asked_b0 F σ l1 l2
theorem m_asked_ok {pF : Nat → List Value → xH → Option (Option Value × xH)} (hp0 : xNP pF) {d : Nat} {aR : Nat} {G : Nat → xC} {T : Nat × Nat} {σ : RS} {F : Nat} {l1 : Int32} {l2 : Int32} {res : RS} (h : m_asked F σ l1 l2 = some res) : xCo pF (d + 7) 249 [.ref aR, .int l1, .int l2] (layR aR σ G, T) none (layR aR res G, T) := by
  unfold m_asked at h
  exact xCo_R kk_249 mo_249 ni_249 xm_249 (Nat.le_of_ble_eq_true rfl) (hp0 _ (by decide) (by decide) _ _) (m_asked_b0_ok hp0 _ σ l1 l2 rfl rfl rfl _ h)
