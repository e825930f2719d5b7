/-! printed by wip/whole/gen_ref.py -/
/-! pause (337), depth 2 -/
def m_pause  (σ : RS) (l1 : Int32) (l2 : Int32) : Option (RS) :=
  (m_alarm σ (((8 : Int32)) + l1) ((σ.1 1 0) + l2)).bind fun p1 =>
  (rst p1 130 l1 ((((0 : Int32)) &&& 1))).bind fun σ3 =>
  some σ3
set_option maxRecDepth 4000 in
theorem m_pause_run {pF : Nat → List Value → xH → Option (Option Value × xH)} {d : Nat} {aR : Nat} {G : Nat → xC} {T : Nat × Nat} (hp0 : xNP pF)  : ∀ (lv : xL) (σ : RS) (l1 : Int32) (l2 : Int32), xg lv 0 = some (.ref aR) → xg lv 1 = some (.int l1) → xg lv 2 = some (.int l2) → ∀ res, m_pause  σ l1 l2 = some res → xR pF (d + 1) kT337 16 3 false none none (layR aR res G, T) (0, lv, [], (layR aR σ G, T)) := by
  intro lv σ l1 l2 g0 g1 g2 res h
  unfold m_pause at h
  refine eE_aload_n lk337_0 g0 ?_
  refine eE_bipush (v := 8) lk337_1 (by decide) ?_
  refine eE_iload_n lk337_3 g1 ?_
  refine eE_iadd lk337_4 ?_
  refine eE_aload_n lk337_5 g0 ?_
  refine eR_get lk337_6 rf_431 rfl ?_
  refine eE_iload_n lk337_9 g2 ?_
  refine eE_iadd lk337_10 ?_
  obtain ⟨p1, h2, h⟩ := Option.bind_eq_some_iff.mp h
  refine eR_call (as := [.int (((8 : Int32)) + l1), .int ((σ.1 1 0) + l2)]) lk337_11 mr_455 na_241 rfl rfl (Nat.le_of_ble_eq_true rfl) wv_241 wc_241 (m_alarm_ok hp0 (d := d + 0) h2) ?_
  refine eE_aload_n lk337_14 g0 ?_
  refine eR_getA lk337_15 rf_348 rfl ?_
  refine eE_iload_n lk337_18 g1 ?_
  refine eE_iconst (v := 0) lk337_19 (by decide) ?_
  obtain ⟨σ3, h4, h⟩ := Option.bind_eq_some_iff.mp h
  refine eR_zast lk337_20 rfl rfl rfl h4 ?_
  cases h
  exact eE_end lk337_21 rfl rfl rfl
theorem m_pause_ok {pF : Nat → List Value → xH → Option (Option Value × xH)} (hp0 : xNP pF) {d : Nat} {aR : Nat} {G : Nat → xC} {T : Nat × Nat} {σ : RS} {l1 : Int32} {l2 : Int32} {res : RS} (h : m_pause σ l1 l2 = some res) : xCo pF (d + 2) 337 [.ref aR, .int l1, .int l2] (layR aR σ G, T) none (layR aR res G, T) := by
  exact xCo_R kk_337 mo_337 ni_337 xm_337 (Nat.le_of_ble_eq_true rfl) (hp0 _ (by decide) (by decide) _ _) (m_pause_run hp0 _ σ l1 l2 rfl rfl rfl _ h)
/-! reply (348), depth 5 -/
def m_reply_b26 (F : Nat)  (σ : RS) : Option (RS) :=
  some σ
set_option maxRecDepth 4000 in
theorem m_reply_b26_ok {pF : Nat → List Value → xH → Option (Option Value × xH)} {d : Nat} {aR : Nat} {G : Nat → xC} {T : Nat × Nat} {F : Nat} (hp0 : xNP pF)  : ∀ (lv : xL) (σ : RS), xg lv 0 = some (.ref aR) → ∀ res, m_reply_b26 F  σ = some res → xR pF (d + 4) kT348 16 4 false none none (layR aR res G, T) (26, lv, [], (layR aR σ G, T)) := by
  intro lv σ g0 res h
  unfold m_reply_b26 at h
  cases h
  exact eE_end lk348_26 rfl rfl rfl
def m_reply_b252 (F : Nat)  (σ : RS) : Option (RS) :=
  some σ
set_option maxRecDepth 4000 in
theorem m_reply_b252_ok {pF : Nat → List Value → xH → Option (Option Value × xH)} {d : Nat} {aR : Nat} {G : Nat → xC} {T : Nat × Nat} {F : Nat} (hp0 : xNP pF)  : ∀ (lv : xL) (σ : RS), xg lv 0 = some (.ref aR) → ∀ res, m_reply_b252 F  σ = some res → xR pF (d + 4) kT348 16 4 false none none (layR aR res G, T) (252, lv, [], (layR aR σ G, T)) := by
  intro lv σ g0 res h
  unfold m_reply_b252 at h
  cases h
  exact eE_end lk348_252 rfl rfl rfl
def m_reply_b136 (F : Nat)  : Nat → RS → Int32 → Int32 → Int32 → Option (RS)
  | 0, _, _, _, _ => none
  | n + 1, σ, l1, l2, l3 =>
    let KK := m_reply_b136 F  n
    (rld σ 139 l1).bind fun x1 =>
    if xc2 .ge l3 x1 = true then (
      (m_tellClient σ l1 ((1 : Int32)) l2).bind fun p4 =>
      m_reply_b252 F  p4
    ) else (
      (m_inLetter σ (((542208 : Int32)) + l3)).bind fun p6 =>
      (rst p6.2 138 ((((160 : Int32)) * l1) + l3) (p6.1.toInt8.toInt32)).bind fun σ8 =>
      KK σ8 l1 l2 (l3 + (1 : Int32))
    )
set_option maxRecDepth 4000 in
theorem m_reply_b136_ok {pF : Nat → List Value → xH → Option (Option Value × xH)} {d : Nat} {aR : Nat} {G : Nat → xC} {T : Nat × Nat} {F : Nat} (hp0 : xNP pF)  : ∀ (n : Nat) (lv : xL) (σ : RS) (l1 : Int32) (l2 : Int32) (l3 : Int32), xg lv 0 = some (.ref aR) → xg lv 1 = some (.int l1) → xg lv 2 = some (.int l2) → xg lv 3 = some (.int l3) → ∀ res, m_reply_b136 F  n σ l1 l2 l3 = some res → xR pF (d + 4) kT348 16 4 false none none (layR aR res G, T) (136, lv, [], (layR aR σ G, T)) := by
  intro n
  induction n with
  | zero => intro lv σ l1 l2 l3 g0 g1 g2 g3 res h; simp [m_reply_b136] at h
  | succ n hKK =>
    intro lv σ l1 l2 l3 g0 g1 g2 g3 res h
    unfold m_reply_b136 at h
    dsimp only at h
    refine eE_iload_n lk348_136 g3 ?_
    refine eE_aload_n lk348_137 g0 ?_
    refine eR_getA lk348_138 rf_375 rfl ?_
    refine eE_iload_n lk348_141 g1 ?_
    obtain ⟨x1, h2, h⟩ := Option.bind_eq_some_iff.mp h
    refine eR_iald lk348_142 rfl rfl h2 ?_
    refine eE_icmp (t := 173) lk348_143 (by decide) (fun c3 => ?_) (fun c3 => ?_)
    · rw [if_pos c3] at h
      refine eE_aload_n lk348_173 g0 ?_
      refine eE_iload_n lk348_174 g1 ?_
      refine eE_iconst (v := 1) lk348_175 (by decide) ?_
      refine eE_iload_n lk348_176 g2 ?_
      obtain ⟨p4, h5, h⟩ := Option.bind_eq_some_iff.mp h
      refine eR_call (as := [.int l1, .int ((1 : Int32)), .int l2]) lk348_177 mr_782 na_370 rfl rfl (Nat.le_of_ble_eq_true rfl) wv_370 wc_370 (m_tellClient_ok hp0 (d := d + 3) h5) ?_
      refine eE_goto (t := 252) lk348_180 (by decide) ?_
      exact m_reply_b252_ok hp0  lv p4 g0 _ h
    · rw [if_neg c3] at h
      refine eE_aload_n lk348_146 g0 ?_
      refine eR_getA lk348_147 rf_372 rfl ?_
      refine eE_sipush (v := 160) lk348_150 (by decide) ?_
      refine eE_iload_n lk348_153 g1 ?_
      refine eE_imul lk348_154 ?_
      refine eE_iload_n lk348_155 g3 ?_
      refine eE_iadd lk348_156 ?_
      refine eE_aload_n lk348_157 g0 ?_
      refine eE_ldc_w (v := 542208) lk348_158 xc_758 ?_
      refine eE_iload_n lk348_161 g3 ?_
      refine eE_iadd lk348_162 ?_
      obtain ⟨p6, h7, h⟩ := Option.bind_eq_some_iff.mp h
      refine eR_call (as := [.int (((542208 : Int32)) + l3)]) lk348_163 mr_759 na_295 rfl rfl (Nat.le_of_ble_eq_true rfl) wv_295 wc_295 (m_inLetter_ok hp0 (d := d + 3) h7) ?_
      obtain ⟨σ8, h9, h⟩ := Option.bind_eq_some_iff.mp h
      refine eR_bast lk348_166 rfl rfl rfl h9 ?_
      refine eE_inc (j := 3) (v := l3 + (1 : Int32)) lk348_167 g3 rfl (by decide) (fun vq10 gq11 kq12 => ?_)
      have gq13 := kq12 1 _ (by decide) (fun _ => rfl) g1
      have gq14 := kq12 2 _ (by decide) (fun _ => rfl) g2
      have gq15 := kq12 0 _ (by decide) (fun _ => rfl) g0
      refine eE_goto (t := 136) lk348_170 (by decide) ?_
      exact hKK vq10 σ8 l1 l2 (l3 + (1 : Int32)) gq15 gq13 gq14 gq11 _ h
def m_reply_b0 (F : Nat)  (σ : RS) (l1 : Int32) : Option (RS) :=
  (rld σ 124 l1).bind fun x16 =>
  if xc0 .eq x16 = true then (
    m_reply_b26 F  σ
  ) else (
    (rld σ 9 ((353 : Int32))).bind fun x19 =>
    (rld σ 128 l1).bind fun x21 =>
    if xc2 .eq x19 x21 = true then (
      (rld σ 12 ((2825 : Int32))).bind fun x24 =>
      (rld σ 12 ((2824 : Int32))).bind fun x31 =>
      if x31 = (0 : Int32) then (
        (rld σ 131 l1).bind fun x34 =>
        if xc0 .eq x34 = true then (
          (rld σ 12 ((2826 : Int32))).bind fun x37 =>
          (rst σ 139 l1 x37).bind fun σ39 =>
          m_reply_b136 F  F σ39 l1 x24 ((0 : Int32))
        ) else (
          (rst σ 131 l1 ((((0 : Int32)) &&& 1))).bind fun σ47 =>
          (rst σ47 126 l1 x24).bind fun σ49 =>
          (rst σ49 127 l1 (((1 : Int32)))).bind fun σ51 =>
          (rld σ51 128 l1).bind fun x53 =>
          (rst σ51 128 l1 ((x53 + ((1 : Int32))))).bind fun σ55 =>
          (m_demand F σ55 l1).bind fun p57 =>
          m_reply_b252 F  p57
        )
      ) else (
      if x31 = (1 : Int32) then (
        if xc0 .lt x24 = true then (
          (rld σ 125 l1).bind fun x61 =>
          if ((7 : Int32)) = 0 then none else
          (rst σ 125 l1 (((x61 + ((1 : Int32))) - (x61 + ((1 : Int32))) / ((7 : Int32)) * ((7 : Int32))))).bind fun σ64 =>
          (m_pause σ64 l1 ((5 : Int32))).bind fun p66 =>
          m_reply_b252 F  p66
        ) else (
          (rst σ 125 l1 x24).bind fun σ68 =>
          (m_demand F σ68 l1).bind fun p70 =>
          m_reply_b252 F  p70
        )
      ) else (
      if x31 = (2 : Int32) then (
        (rst σ 126 l1 (((-1 : Int32)))).bind fun σ73 =>
        (m_tellClient σ73 l1 ((2 : Int32)) ((-1 : Int32))).bind fun p75 =>
        m_reply_b252 F  p75
      ) else (
        (m_pause σ l1 ((20 : Int32))).bind fun p77 =>
        m_reply_b252 F  p77
      )
      )
      )
    ) else (
      m_reply_b26 F  σ
    )
  )
set_option maxRecDepth 4000 in
theorem m_reply_b0_ok {pF : Nat → List Value → xH → Option (Option Value × xH)} {d : Nat} {aR : Nat} {G : Nat → xC} {T : Nat × Nat} {F : Nat} (hp0 : xNP pF)  : ∀ (lv : xL) (σ : RS) (l1 : Int32), xg lv 0 = some (.ref aR) → xg lv 1 = some (.int l1) → ∀ res, m_reply_b0 F  σ l1 = some res → xR pF (d + 4) kT348 16 4 false none none (layR aR res G, T) (0, lv, [], (layR aR σ G, T)) := by
  intro lv σ l1 g0 g1 res h
  unfold m_reply_b0 at h
  refine eE_aload_n lk348_0 g0 ?_
  refine eR_getA lk348_1 rf_330 rfl ?_
  refine eE_iload_n lk348_4 g1 ?_
  obtain ⟨x16, h17, h⟩ := Option.bind_eq_some_iff.mp h
  refine eR_bald lk348_5 rfl (Or.inr rfl) h17 ?_
  refine eE_if (t := 26) lk348_6 (by decide) (fun c18 => ?_) (fun c18 => ?_)
  · rw [if_pos c18] at h
    exact m_reply_b26_ok hp0  lv σ g0 _ h
  · rw [if_neg c18] at h
    refine eE_aload_n lk348_9 g0 ?_
    refine eR_getA lk348_10 rf_23 rfl ?_
    refine eE_sipush (v := 353) lk348_13 (by decide) ?_
    obtain ⟨x19, h20, h⟩ := Option.bind_eq_some_iff.mp h
    refine eR_iald lk348_16 rfl rfl h20 ?_
    refine eE_aload_n lk348_17 g0 ?_
    refine eR_getA lk348_18 rf_342 rfl ?_
    refine eE_iload_n lk348_21 g1 ?_
    obtain ⟨x21, h22, h⟩ := Option.bind_eq_some_iff.mp h
    refine eR_iald lk348_22 rfl rfl h22 ?_
    refine eE_icmp (t := 27) lk348_23 (by decide) (fun c23 => ?_) (fun c23 => ?_)
    · rw [if_pos c23] at h
      refine eE_aload_n lk348_27 g0 ?_
      refine eR_getA lk348_28 rf_32 rfl ?_
      refine eE_sipush (v := 2825) lk348_31 (by decide) ?_
      obtain ⟨x24, h25, h⟩ := Option.bind_eq_some_iff.mp h
      refine eR_iald lk348_34 rfl rfl h25 ?_
      refine eE_stI (j := 2) lk348_35 (Or.inr ⟨_, rfl, rfl⟩) (by decide) (fun vq26 gq27 kq28 => ?_)
      have gq29 := kq28 1 _ (by decide) (fun _ => rfl) g1
      have gq30 := kq28 0 _ (by decide) (fun _ => rfl) g0
      refine eE_aload_n lk348_36 gq30 ?_
      refine eR_getA lk348_37 rf_32 rfl ?_
      refine eE_sipush (v := 2824) lk348_40 (by decide) ?_
      obtain ⟨x31, h32, h⟩ := Option.bind_eq_some_iff.mp h
      refine eR_iald lk348_43 rfl rfl h32 ?_
      by_cases c33 : x31 = (0 : Int32)
      · rw [if_pos c33] at h
        refine eE_tsw (t := 72) (off := 28) lk348_44 (by rw [c33]; decide) (by rw [c33]; rfl) (by decide) ?_
        refine eE_aload_n lk348_72 gq30 ?_
        refine eR_getA lk348_73 rf_351 rfl ?_
        refine eE_iload_n lk348_76 gq29 ?_
        obtain ⟨x34, h35, h⟩ := Option.bind_eq_some_iff.mp h
        refine eR_bald lk348_77 rfl (Or.inr rfl) h35 ?_
        refine eE_if (t := 120) lk348_78 (by decide) (fun c36 => ?_) (fun c36 => ?_)
        · rw [if_pos c36] at h
          refine eE_aload_n lk348_120 gq30 ?_
          refine eR_getA lk348_121 rf_375 rfl ?_
          refine eE_iload_n lk348_124 gq29 ?_
          refine eE_aload_n lk348_125 gq30 ?_
          refine eR_getA lk348_126 rf_32 rfl ?_
          refine eE_sipush (v := 2826) lk348_129 (by decide) ?_
          obtain ⟨x37, h38, h⟩ := Option.bind_eq_some_iff.mp h
          refine eR_iald lk348_132 rfl rfl h38 ?_
          obtain ⟨σ39, h40, h⟩ := Option.bind_eq_some_iff.mp h
          refine eR_iast lk348_133 rfl rfl h40 ?_
          refine eE_iconst (v := 0) lk348_134 (by decide) ?_
          refine eE_stI (j := 3) lk348_135 (Or.inr ⟨_, rfl, rfl⟩) (by decide) (fun vq41 gq42 kq43 => ?_)
          have gq44 := kq43 1 _ (by decide) (fun _ => rfl) gq29
          have gq45 := kq43 0 _ (by decide) (fun _ => rfl) gq30
          have gq46 := kq43 2 _ (by decide) (fun _ => rfl) gq27
          exact m_reply_b136_ok hp0  F vq41 σ39 l1 x24 ((0 : Int32)) gq45 gq44 gq46 gq42 _ h
        · rw [if_neg c36] at h
          refine eE_aload_n lk348_81 gq30 ?_
          refine eR_getA lk348_82 rf_351 rfl ?_
          refine eE_iload_n lk348_85 gq29 ?_
          refine eE_iconst (v := 0) lk348_86 (by decide) ?_
          obtain ⟨σ47, h48, h⟩ := Option.bind_eq_some_iff.mp h
          refine eR_zast lk348_87 rfl rfl rfl h48 ?_
          refine eE_aload_n lk348_88 gq30 ?_
          refine eR_getA lk348_89 rf_336 rfl ?_
          refine eE_iload_n lk348_92 gq29 ?_
          refine eE_iload_n lk348_93 gq27 ?_
          obtain ⟨σ49, h50, h⟩ := Option.bind_eq_some_iff.mp h
          refine eR_iast lk348_94 rfl rfl h50 ?_
          refine eE_aload_n lk348_95 gq30 ?_
          refine eR_getA lk348_96 rf_339 rfl ?_
          refine eE_iload_n lk348_99 gq29 ?_
          refine eE_iconst (v := 1) lk348_100 (by decide) ?_
          obtain ⟨σ51, h52, h⟩ := Option.bind_eq_some_iff.mp h
          refine eR_iast lk348_101 rfl rfl h52 ?_
          refine eE_aload_n lk348_102 gq30 ?_
          refine eR_getA lk348_103 rf_342 rfl ?_
          refine eE_iload_n lk348_106 gq29 ?_
          refine eE_dup2 lk348_107 rfl rfl ?_
          obtain ⟨x53, h54, h⟩ := Option.bind_eq_some_iff.mp h
          refine eR_iald lk348_108 rfl rfl h54 ?_
          refine eE_iconst (v := 1) lk348_109 (by decide) ?_
          refine eE_iadd lk348_110 ?_
          obtain ⟨σ55, h56, h⟩ := Option.bind_eq_some_iff.mp h
          refine eR_iast lk348_111 rfl rfl h56 ?_
          refine eE_aload_n lk348_112 gq30 ?_
          refine eE_iload_n lk348_113 gq29 ?_
          obtain ⟨p57, h58, h⟩ := Option.bind_eq_some_iff.mp h
          refine eR_call (as := [.int l1]) lk348_114 mr_785 na_271 rfl rfl (Nat.le_of_ble_eq_true rfl) wv_271 wc_271 (m_demand_ok hp0 (d := d + 0) h58) ?_
          refine eE_goto (t := 252) lk348_117 (by decide) ?_
          exact m_reply_b252_ok hp0  vq26 p57 gq30 _ h
      rw [if_neg c33] at h
      by_cases c59 : x31 = (1 : Int32)
      · rw [if_pos c59] at h
        refine eE_tsw (t := 183) (off := 139) lk348_44 (by rw [c59]; decide) (by rw [c59]; rfl) (by decide) ?_
        refine eE_iload_n lk348_183 gq27 ?_
        refine eE_if (t := 202) lk348_184 (by decide) (fun c60 => ?_) (fun c60 => ?_)
        · rw [if_pos c60] at h
          refine eE_aload_n lk348_202 gq30 ?_
          refine eR_getA lk348_203 rf_333 rfl ?_
          refine eE_iload_n lk348_206 gq29 ?_
          refine eE_aload_n lk348_207 gq30 ?_
          refine eR_getA lk348_208 rf_333 rfl ?_
          refine eE_iload_n lk348_211 gq29 ?_
          obtain ⟨x61, h62, h⟩ := Option.bind_eq_some_iff.mp h
          refine eR_iald lk348_212 rfl rfl h62 ?_
          refine eE_iconst (v := 1) lk348_213 (by decide) ?_
          refine eE_iadd lk348_214 ?_
          refine eE_bipush (v := 7) lk348_215 (by decide) ?_
          by_cases z63 : ((7 : Int32)) = 0
          · rw [if_pos z63] at h; cases h
          rw [if_neg z63] at h
          refine eE_irem lk348_217 z63 ?_
          obtain ⟨σ64, h65, h⟩ := Option.bind_eq_some_iff.mp h
          refine eR_iast lk348_218 rfl rfl h65 ?_
          refine eE_aload_n lk348_219 gq30 ?_
          refine eE_iload_n lk348_220 gq29 ?_
          refine eE_iconst (v := 5) lk348_221 (by decide) ?_
          obtain ⟨p66, h67, h⟩ := Option.bind_eq_some_iff.mp h
          refine eR_call (as := [.int l1, .int ((5 : Int32))]) lk348_222 mr_788 na_337 rfl rfl (Nat.le_of_ble_eq_true rfl) wv_337 wc_337 (m_pause_ok hp0 (d := d + 2) h67) ?_
          refine eE_goto (t := 252) lk348_225 (by decide) ?_
          exact m_reply_b252_ok hp0  vq26 p66 gq30 _ h
        · rw [if_neg c60] at h
          refine eE_aload_n lk348_187 gq30 ?_
          refine eR_getA lk348_188 rf_333 rfl ?_
          refine eE_iload_n lk348_191 gq29 ?_
          refine eE_iload_n lk348_192 gq27 ?_
          obtain ⟨σ68, h69, h⟩ := Option.bind_eq_some_iff.mp h
          refine eR_iast lk348_193 rfl rfl h69 ?_
          refine eE_aload_n lk348_194 gq30 ?_
          refine eE_iload_n lk348_195 gq29 ?_
          obtain ⟨p70, h71, h⟩ := Option.bind_eq_some_iff.mp h
          refine eR_call (as := [.int l1]) lk348_196 mr_785 na_271 rfl rfl (Nat.le_of_ble_eq_true rfl) wv_271 wc_271 (m_demand_ok hp0 (d := d + 0) h71) ?_
          refine eE_goto (t := 252) lk348_199 (by decide) ?_
          exact m_reply_b252_ok hp0  vq26 p70 gq30 _ h
      rw [if_neg c59] at h
      by_cases c72 : x31 = (2 : Int32)
      · rw [if_pos c72] at h
        refine eE_tsw (t := 228) (off := 184) lk348_44 (by rw [c72]; decide) (by rw [c72]; rfl) (by decide) ?_
        refine eE_aload_n lk348_228 gq30 ?_
        refine eR_getA lk348_229 rf_336 rfl ?_
        refine eE_iload_n lk348_232 gq29 ?_
        refine eE_iconst (v := (-1)) lk348_233 (by decide) ?_
        obtain ⟨σ73, h74, h⟩ := Option.bind_eq_some_iff.mp h
        refine eR_iast lk348_234 rfl rfl h74 ?_
        refine eE_aload_n lk348_235 gq30 ?_
        refine eE_iload_n lk348_236 gq29 ?_
        refine eE_iconst (v := 2) lk348_237 (by decide) ?_
        refine eE_iconst (v := (-1)) lk348_238 (by decide) ?_
        obtain ⟨p75, h76, h⟩ := Option.bind_eq_some_iff.mp h
        refine eR_call (as := [.int l1, .int ((2 : Int32)), .int ((-1 : Int32))]) lk348_239 mr_782 na_370 rfl rfl (Nat.le_of_ble_eq_true rfl) wv_370 wc_370 (m_tellClient_ok hp0 (d := d + 3) h76) ?_
        refine eE_goto (t := 252) lk348_242 (by decide) ?_
        exact m_reply_b252_ok hp0  vq26 p75 gq30 _ h
      rw [if_neg c72] at h
      refine eE_tswD (t := 245) lk348_44 (xsw_out (n := 3) (fun j hj => ?_)) (by decide) ?_
      · match j, hj with
        | 0, _ => exact c33
        | 1, _ => exact c59
        | 2, _ => exact c72
        | q + 3, hj => exact absurd hj (by omega)
      refine eE_aload_n lk348_245 gq30 ?_
      refine eE_iload_n lk348_246 gq29 ?_
      refine eE_bipush (v := 20) lk348_247 (by decide) ?_
      obtain ⟨p77, h78, h⟩ := Option.bind_eq_some_iff.mp h
      refine eR_call (as := [.int l1, .int ((20 : Int32))]) lk348_249 mr_788 na_337 rfl rfl (Nat.le_of_ble_eq_true rfl) wv_337 wc_337 (m_pause_ok hp0 (d := d + 2) h78) ?_
      exact m_reply_b252_ok hp0  vq26 p77 gq30 _ h
    · rw [if_neg c23] at h
      exact m_reply_b26_ok hp0  lv σ g0 _ h
def m_reply (F : Nat) (σ : RS) (l1 : Int32) : Option (RS) := m_reply_b0 F σ l1
theorem m_reply_ok {pF : Nat → List Value → xH → Option (Option Value × xH)} (hp0 : xNP pF) {d : Nat} {aR : Nat} {G : Nat → xC} {T : Nat × Nat} {σ : RS} {F : Nat} {l1 : Int32} {res : RS} (h : m_reply F σ l1 = some res) : xCo pF (d + 5) 348 [.ref aR, .int l1] (layR aR σ G, T) none (layR aR res G, T) := by
  unfold m_reply at h
  exact xCo_R kk_348 mo_348 ni_348 xm_348 (Nat.le_of_ble_eq_true rfl) (hp0 _ (by decide) (by decide) _ _) (m_reply_b0_ok hp0 _ σ l1 rfl rfl _ h)
/-! ring (350), depth 8 -/
def m_ring_b61 (F : Nat)  (σ : RS) : Option (RS) :=
  some σ
set_option maxRecDepth 4000 in
theorem m_ring_b61_ok {pF : Nat → List Value → xH → Option (Option Value × xH)} {d : Nat} {aR : Nat} {G : Nat → xC} {T : Nat × Nat} {F : Nat} (hp0 : xNP pF)  : ∀ (lv : xL) (σ : RS), xg lv 0 = some (.ref aR) → ∀ res, m_ring_b61 F  σ = some res → xR pF (d + 7) kT350 16 2 false none none (layR aR res G, T) (61, lv, [], (layR aR σ G, T)) := by
  intro lv σ g0 res h
  unfold m_ring_b61 at h
  cases h
  exact eE_end lk350_61 rfl rfl rfl
def m_ring_b133 (F : Nat)  (σ : RS) : Option (RS) :=
  some σ
set_option maxRecDepth 4000 in
theorem m_ring_b133_ok {pF : Nat → List Value → xH → Option (Option Value × xH)} {d : Nat} {aR : Nat} {G : Nat → xC} {T : Nat × Nat} {F : Nat} (hp0 : xNP pF)  : ∀ (lv : xL) (σ : RS), xg lv 0 = some (.ref aR) → ∀ res, m_ring_b133 F  σ = some res → xR pF (d + 7) kT350 16 2 false none none (layR aR res G, T) (133, lv, [], (layR aR σ G, T)) := by
  intro lv σ g0 res h
  unfold m_ring_b133 at h
  cases h
  exact eE_end lk350_133 rfl rfl rfl
def m_ring_b0 (F : Nat)  (σ : RS) (l1 : Int32) : Option (RS) :=
  (rld σ 73 l1).bind fun x1 =>
  if xc2 .ne x1 ((3 : Int32)) = true then (
    (m_drawAlarm σ l1).bind fun p4 =>
    (m_isVoter p4 l1 l1).bind fun p6 =>
    if xc0 .ne p6.1 = true then (
      (rst p6.2 73 l1 (((1 : Int32)))).bind fun σ9 =>
      (rst σ9 74 l1 (((-1 : Int32)))).bind fun σ11 =>
      (rst σ11 79 l1 ((((1 : Int32)) <<< (l1 &&& 31)))).bind fun σ13 =>
      (rld σ13 53 l1).bind fun x15 =>
      (m_postVoters F σ13 l1 ((1 : Int32)) (x15 + ((1 : Int32)))).bind fun p17 =>
      (rld p17 79 l1).bind fun x19 =>
      (m_isMajority F p17 l1 x19).bind fun p21 =>
      if xc0 .eq p21.1 = true then (
        m_ring_b133 F  p21.2
      ) else (
        (m_campaign F p21.2 l1).bind fun p24 =>
        m_ring_b133 F  p24
      )
    ) else (
      some p6.2
    )
  ) else (
    (rst σ 92 ((((7 : Int32)) * l1) + l1) ((σ.1 1 0))).bind fun σ26 =>
    (m_common F σ26 l1 ((1 : Int32))).bind fun p28 =>
    if xc2 .ge p28.1 ((p28.2.1 1 0) - ((100 : Int32))) = true then (
      (m_beat F p28.2 l1).bind fun p31 =>
      m_ring_b61 F  p31
    ) else (
      (rld p28.2 53 l1).bind fun x33 =>
      (m_stepDown F p28.2 l1 x33 ((-1 : Int32))).bind fun p35 =>
      m_ring_b61 F  p35
    )
  )
set_option maxRecDepth 4000 in
theorem m_ring_b0_ok {pF : Nat → List Value → xH → Option (Option Value × xH)} {d : Nat} {aR : Nat} {G : Nat → xC} {T : Nat × Nat} {F : Nat} (hp0 : xNP pF)  : ∀ (lv : xL) (σ : RS) (l1 : Int32), xg lv 0 = some (.ref aR) → xg lv 1 = some (.int l1) → ∀ res, m_ring_b0 F  σ l1 = some res → xR pF (d + 7) kT350 16 2 false none none (layR aR res G, T) (0, lv, [], (layR aR σ G, T)) := by
  intro lv σ l1 g0 g1 res h
  unfold m_ring_b0 at h
  refine eE_aload_n lk350_0 g0 ?_
  refine eR_getA lk350_1 rf_185 rfl ?_
  refine eE_iload_n lk350_4 g1 ?_
  obtain ⟨x1, h2, h⟩ := Option.bind_eq_some_iff.mp h
  refine eR_iald lk350_5 rfl rfl h2 ?_
  refine eE_iconst (v := 3) lk350_6 (by decide) ?_
  refine eE_icmp (t := 62) lk350_7 (by decide) (fun c3 => ?_) (fun c3 => ?_)
  · rw [if_pos c3] at h
    refine eE_aload_n lk350_62 g0 ?_
    refine eE_iload_n lk350_63 g1 ?_
    obtain ⟨p4, h5, h⟩ := Option.bind_eq_some_iff.mp h
    refine eR_call (as := [.int l1]) lk350_64 mr_389 na_274 rfl rfl (Nat.le_of_ble_eq_true rfl) wv_274 wc_274 (m_drawAlarm_ok hp0 (d := d + 5) h5) ?_
    refine eE_aload_n lk350_67 g0 ?_
    refine eE_iload_n lk350_68 g1 ?_
    refine eE_iload_n lk350_69 g1 ?_
    obtain ⟨p6, h7, h⟩ := Option.bind_eq_some_iff.mp h
    refine eR_call (as := [.int l1, .int l1]) lk350_70 mr_663 na_306 rfl rfl (Nat.le_of_ble_eq_true rfl) wv_306 wc_306 (m_isVoter_ok hp0 (d := d + 4) h7) ?_
    refine eE_if (t := 77) lk350_73 (by decide) (fun c8 => ?_) (fun c8 => ?_)
    · rw [if_pos c8] at h
      refine eE_aload_n lk350_77 g0 ?_
      refine eR_getA lk350_78 rf_185 rfl ?_
      refine eE_iload_n lk350_81 g1 ?_
      refine eE_iconst (v := 1) lk350_82 (by decide) ?_
      obtain ⟨σ9, h10, h⟩ := Option.bind_eq_some_iff.mp h
      refine eR_iast lk350_83 rfl rfl h10 ?_
      refine eE_aload_n lk350_84 g0 ?_
      refine eR_getA lk350_85 rf_188 rfl ?_
      refine eE_iload_n lk350_88 g1 ?_
      refine eE_iconst (v := (-1)) lk350_89 (by decide) ?_
      obtain ⟨σ11, h12, h⟩ := Option.bind_eq_some_iff.mp h
      refine eR_iast lk350_90 rfl rfl h12 ?_
      refine eE_aload_n lk350_91 g0 ?_
      refine eR_getA lk350_92 rf_203 rfl ?_
      refine eE_iload_n lk350_95 g1 ?_
      refine eE_iconst (v := 1) lk350_96 (by decide) ?_
      refine eE_iload_n lk350_97 g1 ?_
      refine eE_ishl lk350_98 ?_
      obtain ⟨σ13, h14, h⟩ := Option.bind_eq_some_iff.mp h
      refine eR_iast lk350_99 rfl rfl h14 ?_
      refine eE_aload_n lk350_100 g0 ?_
      refine eE_iload_n lk350_101 g1 ?_
      refine eE_iconst (v := 1) lk350_102 (by decide) ?_
      refine eE_aload_n lk350_103 g0 ?_
      refine eR_getA lk350_104 rf_123 rfl ?_
      refine eE_iload_n lk350_107 g1 ?_
      obtain ⟨x15, h16, h⟩ := Option.bind_eq_some_iff.mp h
      refine eR_iald lk350_108 rfl rfl h16 ?_
      refine eE_iconst (v := 1) lk350_109 (by decide) ?_
      refine eE_iadd lk350_110 ?_
      obtain ⟨p17, h18, h⟩ := Option.bind_eq_some_iff.mp h
      refine eR_call (as := [.int l1, .int ((1 : Int32)), .int (x15 + ((1 : Int32)))]) lk350_111 mr_666 na_341 rfl rfl (Nat.le_of_ble_eq_true rfl) wv_341 wc_341 (m_postVoters_ok hp0 (d := d + 2) h18) ?_
      refine eE_aload_n lk350_114 g0 ?_
      refine eE_iload_n lk350_115 g1 ?_
      refine eE_aload_n lk350_116 g0 ?_
      refine eR_getA lk350_117 rf_203 rfl ?_
      refine eE_iload_n lk350_120 g1 ?_
      obtain ⟨x19, h20, h⟩ := Option.bind_eq_some_iff.mp h
      refine eR_iald lk350_121 rfl rfl h20 ?_
      obtain ⟨p21, h22, h⟩ := Option.bind_eq_some_iff.mp h
      refine eR_call (as := [.int l1, .int x19]) lk350_122 mr_638 na_303 rfl rfl (Nat.le_of_ble_eq_true rfl) wv_303 wc_303 (m_isMajority_ok hp0 (d := d + 5) h22) ?_
      refine eE_if (t := 133) lk350_125 (by decide) (fun c23 => ?_) (fun c23 => ?_)
      · rw [if_pos c23] at h
        exact m_ring_b133_ok hp0  lv p21.2 g0 _ h
      · rw [if_neg c23] at h
        refine eE_aload_n lk350_128 g0 ?_
        refine eE_iload_n lk350_129 g1 ?_
        obtain ⟨p24, h25, h⟩ := Option.bind_eq_some_iff.mp h
        refine eR_call (as := [.int l1]) lk350_130 mr_669 na_254 rfl rfl (Nat.le_of_ble_eq_true rfl) wv_254 wc_254 (m_campaign_ok hp0 (d := d + 1) h25) ?_
        exact m_ring_b133_ok hp0  lv p24 g0 _ h
    · rw [if_neg c8] at h
      cases h
      exact eE_end lk350_76 rfl rfl rfl
  · rw [if_neg c3] at h
    refine eE_aload_n lk350_10 g0 ?_
    refine eR_getA lk350_11 rf_242 rfl ?_
    refine eE_bipush (v := 7) lk350_14 (by decide) ?_
    refine eE_iload_n lk350_16 g1 ?_
    refine eE_imul lk350_17 ?_
    refine eE_iload_n lk350_18 g1 ?_
    refine eE_iadd lk350_19 ?_
    refine eE_aload_n lk350_20 g0 ?_
    refine eR_get lk350_21 rf_431 rfl ?_
    obtain ⟨σ26, h27, h⟩ := Option.bind_eq_some_iff.mp h
    refine eR_iast lk350_24 rfl rfl h27 ?_
    refine eE_aload_n lk350_25 g0 ?_
    refine eE_iload_n lk350_26 g1 ?_
    refine eE_iconst (v := 1) lk350_27 (by decide) ?_
    obtain ⟨p28, h29, h⟩ := Option.bind_eq_some_iff.mp h
    refine eR_call (as := [.int l1, .int ((1 : Int32))]) lk350_28 mr_654 na_258 rfl rfl (Nat.le_of_ble_eq_true rfl) wv_258 wc_258 (m_common_ok hp0 (d := d + 4) h29) ?_
    refine eE_aload_n lk350_31 g0 ?_
    refine eR_get lk350_32 rf_431 rfl ?_
    refine eE_bipush (v := 100) lk350_35 (by decide) ?_
    refine eE_isub lk350_37 ?_
    refine eE_icmp (t := 56) lk350_38 (by decide) (fun c30 => ?_) (fun c30 => ?_)
    · rw [if_pos c30] at h
      refine eE_aload_n lk350_56 g0 ?_
      refine eE_iload_n lk350_57 g1 ?_
      obtain ⟨p31, h32, h⟩ := Option.bind_eq_some_iff.mp h
      refine eR_call (as := [.int l1]) lk350_58 mr_660 na_251 rfl rfl (Nat.le_of_ble_eq_true rfl) wv_251 wc_251 (m_beat_ok hp0 (d := d + 0) h32) ?_
      exact m_ring_b61_ok hp0  lv p31 g0 _ h
    · rw [if_neg c30] at h
      refine eE_aload_n lk350_41 g0 ?_
      refine eE_iload_n lk350_42 g1 ?_
      refine eE_aload_n lk350_43 g0 ?_
      refine eR_getA lk350_44 rf_123 rfl ?_
      refine eE_iload_n lk350_47 g1 ?_
      obtain ⟨x33, h34, h⟩ := Option.bind_eq_some_iff.mp h
      refine eR_iald lk350_48 rfl rfl h34 ?_
      refine eE_iconst (v := (-1)) lk350_49 (by decide) ?_
      obtain ⟨p35, h36, h⟩ := Option.bind_eq_some_iff.mp h
      refine eR_call (as := [.int l1, .int x33, .int ((-1 : Int32))]) lk350_50 mr_657 na_363 rfl rfl (Nat.le_of_ble_eq_true rfl) wv_363 wc_363 (m_stepDown_ok hp0 (d := d + 2) h36) ?_
      refine eE_goto (t := 61) lk350_53 (by decide) ?_
      exact m_ring_b61_ok hp0  lv p35 g0 _ h
def m_ring (F : Nat) (σ : RS) (l1 : Int32) : Option (RS) := m_ring_b0 F σ l1
theorem m_ring_ok {pF : Nat → List Value → xH → Option (Option Value × xH)} (hp0 : xNP pF) {d : Nat} {aR : Nat} {G : Nat → xC} {T : Nat × Nat} {σ : RS} {F : Nat} {l1 : Int32} {res : RS} (h : m_ring F σ l1 = some res) : xCo pF (d + 8) 350 [.ref aR, .int l1] (layR aR σ G, T) none (layR aR res G, T) := by
  unfold m_ring at h
  exact xCo_R kk_350 mo_350 ni_350 xm_350 (Nat.le_of_ble_eq_true rfl) (hp0 _ (by decide) (by decide) _ _) (m_ring_b0_ok hp0 _ σ l1 rfl rfl _ h)
/-! ringClient (351), depth 5 -/
def m_ringClient_b26 (F : Nat)  (σ : RS) (l1 : Int32) : Option (RS) :=
  (m_demand F σ l1).bind fun p1 =>
  some p1
set_option maxRecDepth 4000 in
theorem m_ringClient_b26_ok {pF : Nat → List Value → xH → Option (Option Value × xH)} {d : Nat} {aR : Nat} {G : Nat → xC} {T : Nat × Nat} {F : Nat} (hp0 : xNP pF)  : ∀ (lv : xL) (σ : RS) (l1 : Int32), xg lv 0 = some (.ref aR) → xg lv 1 = some (.int l1) → ∀ res, m_ringClient_b26 F  σ l1 = some res → xR pF (d + 4) kT351 16 2 false none none (layR aR res G, T) (26, lv, [], (layR aR σ G, T)) := by
  intro lv σ l1 g0 g1 res h
  unfold m_ringClient_b26 at h
  refine eE_aload_n lk351_26 g0 ?_
  refine eE_iload_n lk351_27 g1 ?_
  obtain ⟨p1, h2, h⟩ := Option.bind_eq_some_iff.mp h
  refine eR_call (as := [.int l1]) lk351_28 mr_785 na_271 rfl rfl (Nat.le_of_ble_eq_true rfl) wv_271 wc_271 (m_demand_ok hp0 (d := d + 0) h2) ?_
  cases h
  exact eE_end lk351_31 rfl rfl rfl
def m_ringClient_b0 (F : Nat)  (σ : RS) (l1 : Int32) : Option (RS) :=
  (rld σ 130 l1).bind fun x3 =>
  if xc0 .eq x3 = true then (
    m_ringClient_b26 F  σ l1
  ) else (
    (rld σ 125 l1).bind fun x6 =>
    if ((7 : Int32)) = 0 then none else
    (rst σ 125 l1 (((x6 + ((1 : Int32))) - (x6 + ((1 : Int32))) / ((7 : Int32)) * ((7 : Int32))))).bind fun σ9 =>
    m_ringClient_b26 F  σ9 l1
  )
set_option maxRecDepth 4000 in
theorem m_ringClient_b0_ok {pF : Nat → List Value → xH → Option (Option Value × xH)} {d : Nat} {aR : Nat} {G : Nat → xC} {T : Nat × Nat} {F : Nat} (hp0 : xNP pF)  : ∀ (lv : xL) (σ : RS) (l1 : Int32), xg lv 0 = some (.ref aR) → xg lv 1 = some (.int l1) → ∀ res, m_ringClient_b0 F  σ l1 = some res → xR pF (d + 4) kT351 16 2 false none none (layR aR res G, T) (0, lv, [], (layR aR σ G, T)) := by
  intro lv σ l1 g0 g1 res h
  unfold m_ringClient_b0 at h
  refine eE_aload_n lk351_0 g0 ?_
  refine eR_getA lk351_1 rf_348 rfl ?_
  refine eE_iload_n lk351_4 g1 ?_
  obtain ⟨x3, h4, h⟩ := Option.bind_eq_some_iff.mp h
  refine eR_bald lk351_5 rfl (Or.inr rfl) h4 ?_
  refine eE_if (t := 26) lk351_6 (by decide) (fun c5 => ?_) (fun c5 => ?_)
  · rw [if_pos c5] at h
    exact m_ringClient_b26_ok hp0  lv σ l1 g0 g1 _ h
  · rw [if_neg c5] at h
    refine eE_aload_n lk351_9 g0 ?_
    refine eR_getA lk351_10 rf_333 rfl ?_
    refine eE_iload_n lk351_13 g1 ?_
    refine eE_aload_n lk351_14 g0 ?_
    refine eR_getA lk351_15 rf_333 rfl ?_
    refine eE_iload_n lk351_18 g1 ?_
    obtain ⟨x6, h7, h⟩ := Option.bind_eq_some_iff.mp h
    refine eR_iald lk351_19 rfl rfl h7 ?_
    refine eE_iconst (v := 1) lk351_20 (by decide) ?_
    refine eE_iadd lk351_21 ?_
    refine eE_bipush (v := 7) lk351_22 (by decide) ?_
    by_cases z8 : ((7 : Int32)) = 0
    · rw [if_pos z8] at h; cases h
    rw [if_neg z8] at h
    refine eE_irem lk351_24 z8 ?_
    obtain ⟨σ9, h10, h⟩ := Option.bind_eq_some_iff.mp h
    refine eR_iast lk351_25 rfl rfl h10 ?_
    exact m_ringClient_b26_ok hp0  lv σ9 l1 g0 g1 _ h
def m_ringClient (F : Nat) (σ : RS) (l1 : Int32) : Option (RS) := m_ringClient_b0 F σ l1
theorem m_ringClient_ok {pF : Nat → List Value → xH → Option (Option Value × xH)} (hp0 : xNP pF) {d : Nat} {aR : Nat} {G : Nat → xC} {T : Nat × Nat} {σ : RS} {F : Nat} {l1 : Int32} {res : RS} (h : m_ringClient F σ l1 = some res) : xCo pF (d + 5) 351 [.ref aR, .int l1] (layR aR σ G, T) none (layR aR res G, T) := by
  unfold m_ringClient at h
  exact xCo_R kk_351 mo_351 ni_351 xm_351 (Nat.le_of_ble_eq_true rfl) (hp0 _ (by decide) (by decide) _ _) (m_ringClient_b0_ok hp0 _ σ l1 rfl rfl _ h)
/-! syncAll (366), depth 3 -/
def m_syncAll_b2 (F : Nat)  : Nat → RS → Int32 → Int32 → Option (RS)
  | 0, _, _, _ => none
  | n + 1, σ, l1, l2 =>
    let KK := m_syncAll_b2 F  n
    if xc2 .ge l2 ((16 : Int32)) = true then (
      (rst σ 46 l1 ((((0 : Int32)) &&& 1))).bind fun σ2 =>
      (rst σ2 71 l1 ((((0 : Int32)) &&& 1))).bind fun σ4 =>
      some σ4
    ) else (
      (m_syncFile F σ l1 l2).bind fun p6 =>
      KK p6 l1 (l2 + (1 : Int32))
    )
set_option maxRecDepth 4000 in
theorem m_syncAll_b2_ok {pF : Nat → List Value → xH → Option (Option Value × xH)} {d : Nat} {aR : Nat} {G : Nat → xC} {T : Nat × Nat} {F : Nat} (hp0 : xNP pF)  : ∀ (n : Nat) (lv : xL) (σ : RS) (l1 : Int32) (l2 : Int32), xg lv 0 = some (.ref aR) → xg lv 1 = some (.int l1) → xg lv 2 = some (.int l2) → ∀ res, m_syncAll_b2 F  n σ l1 l2 = some res → xR pF (d + 2) kT366 16 3 false none none (layR aR res G, T) (2, lv, [], (layR aR σ G, T)) := by
  intro n
  induction n with
  | zero => intro lv σ l1 l2 g0 g1 g2 res h; simp [m_syncAll_b2] at h
  | succ n hKK =>
    intro lv σ l1 l2 g0 g1 g2 res h
    unfold m_syncAll_b2 at h
    dsimp only at h
    refine eE_iload_n lk366_2 g2 ?_
    refine eE_bipush (v := 16) lk366_3 (by decide) ?_
    refine eE_icmp (t := 20) lk366_5 (by decide) (fun c1 => ?_) (fun c1 => ?_)
    · rw [if_pos c1] at h
      refine eE_aload_n lk366_20 g0 ?_
      refine eR_getA lk366_21 rf_105 rfl ?_
      refine eE_iload_n lk366_24 g1 ?_
      refine eE_iconst (v := 0) lk366_25 (by decide) ?_
      obtain ⟨σ2, h3, h⟩ := Option.bind_eq_some_iff.mp h
      refine eR_zast lk366_26 rfl rfl rfl h3 ?_
      refine eE_aload_n lk366_27 g0 ?_
      refine eR_getA lk366_28 rf_179 rfl ?_
      refine eE_iload_n lk366_31 g1 ?_
      refine eE_iconst (v := 0) lk366_32 (by decide) ?_
      obtain ⟨σ4, h5, h⟩ := Option.bind_eq_some_iff.mp h
      refine eR_zast lk366_33 rfl rfl rfl h5 ?_
      cases h
      exact eE_end lk366_34 rfl rfl rfl
    · rw [if_neg c1] at h
      refine eE_aload_n lk366_8 g0 ?_
      refine eE_iload_n lk366_9 g1 ?_
      refine eE_iload_n lk366_10 g2 ?_
      obtain ⟨p6, h7, h⟩ := Option.bind_eq_some_iff.mp h
      refine eR_call (as := [.int l1, .int l2]) lk366_11 mr_499 na_367 rfl rfl (Nat.le_of_ble_eq_true rfl) wv_367 wc_367 (m_syncFile_ok hp0 (d := d + 0) h7) ?_
      refine eE_inc (j := 2) (v := l2 + (1 : Int32)) lk366_14 g2 rfl (by decide) (fun vq8 gq9 kq10 => ?_)
      have gq11 := kq10 1 _ (by decide) (fun _ => rfl) g1
      have gq12 := kq10 0 _ (by decide) (fun _ => rfl) g0
      refine eE_goto (t := 2) lk366_17 (by decide) ?_
      exact hKK vq8 p6 l1 (l2 + (1 : Int32)) gq12 gq11 gq9 _ h
def m_syncAll_b0 (F : Nat)  (σ : RS) (l1 : Int32) : Option (RS) :=
  m_syncAll_b2 F  F σ l1 ((0 : Int32))
set_option maxRecDepth 4000 in
theorem m_syncAll_b0_ok {pF : Nat → List Value → xH → Option (Option Value × xH)} {d : Nat} {aR : Nat} {G : Nat → xC} {T : Nat × Nat} {F : Nat} (hp0 : xNP pF)  : ∀ (lv : xL) (σ : RS) (l1 : Int32), xg lv 0 = some (.ref aR) → xg lv 1 = some (.int l1) → ∀ res, m_syncAll_b0 F  σ l1 = some res → xR pF (d + 2) kT366 16 3 false none none (layR aR res G, T) (0, lv, [], (layR aR σ G, T)) := by
  intro lv σ l1 g0 g1 res h
  unfold m_syncAll_b0 at h
  refine eE_iconst (v := 0) lk366_0 (by decide) ?_
  refine eE_stI (j := 2) lk366_1 (Or.inr ⟨_, rfl, rfl⟩) (by decide) (fun vq13 gq14 kq15 => ?_)
  have gq16 := kq15 1 _ (by decide) (fun _ => rfl) g1
  have gq17 := kq15 0 _ (by decide) (fun _ => rfl) g0
  exact m_syncAll_b2_ok hp0  F vq13 σ l1 ((0 : Int32)) gq17 gq16 gq14 _ h
def m_syncAll (F : Nat) (σ : RS) (l1 : Int32) : Option (RS) := m_syncAll_b0 F σ l1
theorem m_syncAll_ok {pF : Nat → List Value → xH → Option (Option Value × xH)} (hp0 : xNP pF) {d : Nat} {aR : Nat} {G : Nat → xC} {T : Nat × Nat} {σ : RS} {F : Nat} {l1 : Int32} {res : RS} (h : m_syncAll F σ l1 = some res) : xCo pF (d + 3) 366 [.ref aR, .int l1] (layR aR σ G, T) none (layR aR res G, T) := by
  unfold m_syncAll at h
  exact xCo_R kk_366 mo_366 ni_366 xm_366 (Nat.le_of_ble_eq_true rfl) (hp0 _ (by decide) (by decide) _ _) (m_syncAll_b0_ok hp0 _ σ l1 rfl rfl _ h)
/-! sync (365), depth 10 -/
def m_sync_b134 (F : Nat)  (σ : RS) : Option (RS) :=
  some σ
set_option maxRecDepth 4000 in
theorem m_sync_b134_ok {pF : Nat → List Value → xH → Option (Option Value × xH)} {d : Nat} {aR : Nat} {G : Nat → xC} {T : Nat × Nat} {F : Nat} (hp0 : xNP pF)  : ∀ (lv : xL) (σ : RS), xg lv 0 = some (.ref aR) → ∀ res, m_sync_b134 F  σ = some res → xR pF (d + 9) kT365 16 4 false none none (layR aR res G, T) (134, lv, [], (layR aR σ G, T)) := by
  intro lv σ g0 res h
  unfold m_sync_b134 at h
  cases h
  exact eE_end lk365_134 rfl rfl rfl
def m_sync_b21 (F : Nat)  : Nat → RS → Int32 → Int32 → Int32 → Option (RS)
  | 0, _, _, _, _ => none
  | n + 1, σ, l1, l2, l3 =>
    let KK := m_sync_b21 F  n
    if xc2 .ge l3 l2 = true then (
      (rld σ 56 l1).bind fun x2 =>
      (rst σ 77 l1 x2).bind fun σ4 =>
      (rld σ4 73 l1).bind fun x6 =>
      if xc2 .ne x6 ((2 : Int32)) = true then (
        (rld σ4 73 l1).bind fun x9 =>
        if xc2 .ne x9 ((3 : Int32)) = true then (
          m_sync_b134 F  σ4
        ) else (
          (rld σ4 77 l1).bind fun x12 =>
          (rst σ4 87 ((((7 : Int32)) * l1) + l1) x12).bind fun σ14 =>
          (m_count0 F σ14 l1).bind fun p16 =>
          m_sync_b134 F  p16
        )
      ) else (
        (rld σ4 79 l1).bind fun x18 =>
        (rst σ4 79 l1 ((x18 ||| (((1 : Int32)) <<< (l1 &&& 31))))).bind fun σ20 =>
        (rld σ20 79 l1).bind fun x22 =>
        (m_isMajority F σ20 l1 x22).bind fun p24 =>
        if xc0 .eq p24.1 = true then (
          m_sync_b134 F  p24.2
        ) else (
          (m_lead F p24.2 l1).bind fun p27 =>
          m_sync_b134 F  p27
        )
      )
    ) else (
      (m_sendOut F σ ((((128 : Int32)) + (((32 : Int32)) * l1)) + l3)).bind fun p29 =>
      KK p29 l1 l2 (l3 + (1 : Int32))
    )
set_option maxRecDepth 4000 in
theorem m_sync_b21_ok {pF : Nat → List Value → xH → Option (Option Value × xH)} {d : Nat} {aR : Nat} {G : Nat → xC} {T : Nat × Nat} {F : Nat} (hp0 : xNP pF)  : ∀ (n : Nat) (lv : xL) (σ : RS) (l1 : Int32) (l2 : Int32) (l3 : Int32), xg lv 0 = some (.ref aR) → xg lv 1 = some (.int l1) → xg lv 2 = some (.int l2) → xg lv 3 = some (.int l3) → ∀ res, m_sync_b21 F  n σ l1 l2 l3 = some res → xR pF (d + 9) kT365 16 4 false none none (layR aR res G, T) (21, lv, [], (layR aR σ G, T)) := by
  intro n
  induction n with
  | zero => intro lv σ l1 l2 l3 g0 g1 g2 g3 res h; simp [m_sync_b21] at h
  | succ n hKK =>
    intro lv σ l1 l2 l3 g0 g1 g2 g3 res h
    unfold m_sync_b21 at h
    dsimp only at h
    refine eE_iload_n lk365_21 g3 ?_
    refine eE_iload_n lk365_22 g2 ?_
    refine eE_icmp (t := 46) lk365_23 (by decide) (fun c1 => ?_) (fun c1 => ?_)
    · rw [if_pos c1] at h
      refine eE_aload_n lk365_46 g0 ?_
      refine eR_getA lk365_47 rf_197 rfl ?_
      refine eE_iload_n lk365_50 g1 ?_
      refine eE_aload_n lk365_51 g0 ?_
      refine eR_getA lk365_52 rf_132 rfl ?_
      refine eE_iload_n lk365_55 g1 ?_
      obtain ⟨x2, h3, h⟩ := Option.bind_eq_some_iff.mp h
      refine eR_iald lk365_56 rfl rfl h3 ?_
      obtain ⟨σ4, h5, h⟩ := Option.bind_eq_some_iff.mp h
      refine eR_iast lk365_57 rfl rfl h5 ?_
      refine eE_aload_n lk365_58 g0 ?_
      refine eR_getA lk365_59 rf_185 rfl ?_
      refine eE_iload_n lk365_62 g1 ?_
      obtain ⟨x6, h7, h⟩ := Option.bind_eq_some_iff.mp h
      refine eR_iald lk365_63 rfl rfl h7 ?_
      refine eE_iconst (v := 2) lk365_64 (by decide) ?_
      refine eE_icmp (t := 102) lk365_65 (by decide) (fun c8 => ?_) (fun c8 => ?_)
      · rw [if_pos c8] at h
        refine eE_aload_n lk365_102 g0 ?_
        refine eR_getA lk365_103 rf_185 rfl ?_
        refine eE_iload_n lk365_106 g1 ?_
        obtain ⟨x9, h10, h⟩ := Option.bind_eq_some_iff.mp h
        refine eR_iald lk365_107 rfl rfl h10 ?_
        refine eE_iconst (v := 3) lk365_108 (by decide) ?_
        refine eE_icmp (t := 134) lk365_109 (by decide) (fun c11 => ?_) (fun c11 => ?_)
        · rw [if_pos c11] at h
          exact m_sync_b134_ok hp0  lv σ4 g0 _ h
        · rw [if_neg c11] at h
          refine eE_aload_n lk365_112 g0 ?_
          refine eR_getA lk365_113 rf_227 rfl ?_
          refine eE_bipush (v := 7) lk365_116 (by decide) ?_
          refine eE_iload_n lk365_118 g1 ?_
          refine eE_imul lk365_119 ?_
          refine eE_iload_n lk365_120 g1 ?_
          refine eE_iadd lk365_121 ?_
          refine eE_aload_n lk365_122 g0 ?_
          refine eR_getA lk365_123 rf_197 rfl ?_
          refine eE_iload_n lk365_126 g1 ?_
          obtain ⟨x12, h13, h⟩ := Option.bind_eq_some_iff.mp h
          refine eR_iald lk365_127 rfl rfl h13 ?_
          obtain ⟨σ14, h15, h⟩ := Option.bind_eq_some_iff.mp h
          refine eR_iast lk365_128 rfl rfl h15 ?_
          refine eE_aload_n lk365_129 g0 ?_
          refine eE_iload_n lk365_130 g1 ?_
          obtain ⟨p16, h17, h⟩ := Option.bind_eq_some_iff.mp h
          refine eR_call (as := [.int l1]) lk365_131 mr_730 na_265 rfl rfl (Nat.le_of_ble_eq_true rfl) wv_265 wc_265 (m_count0_ok hp0 (d := d + 0) h17) ?_
          exact m_sync_b134_ok hp0  lv p16 g0 _ h
      · rw [if_neg c8] at h
        refine eE_aload_n lk365_68 g0 ?_
        refine eR_getA lk365_69 rf_203 rfl ?_
        refine eE_iload_n lk365_72 g1 ?_
        refine eE_dup2 lk365_73 rfl rfl ?_
        obtain ⟨x18, h19, h⟩ := Option.bind_eq_some_iff.mp h
        refine eR_iald lk365_74 rfl rfl h19 ?_
        refine eE_iconst (v := 1) lk365_75 (by decide) ?_
        refine eE_iload_n lk365_76 g1 ?_
        refine eE_ishl lk365_77 ?_
        refine eE_ior lk365_78 ?_
        obtain ⟨σ20, h21, h⟩ := Option.bind_eq_some_iff.mp h
        refine eR_iast lk365_79 rfl rfl h21 ?_
        refine eE_aload_n lk365_80 g0 ?_
        refine eE_iload_n lk365_81 g1 ?_
        refine eE_aload_n lk365_82 g0 ?_
        refine eR_getA lk365_83 rf_203 rfl ?_
        refine eE_iload_n lk365_86 g1 ?_
        obtain ⟨x22, h23, h⟩ := Option.bind_eq_some_iff.mp h
        refine eR_iald lk365_87 rfl rfl h23 ?_
        obtain ⟨p24, h25, h⟩ := Option.bind_eq_some_iff.mp h
        refine eR_call (as := [.int l1, .int x22]) lk365_88 mr_638 na_303 rfl rfl (Nat.le_of_ble_eq_true rfl) wv_303 wc_303 (m_isMajority_ok hp0 (d := d + 7) h25) ?_
        refine eE_if (t := 134) lk365_91 (by decide) (fun c26 => ?_) (fun c26 => ?_)
        · rw [if_pos c26] at h
          exact m_sync_b134_ok hp0  lv p24.2 g0 _ h
        · rw [if_neg c26] at h
          refine eE_aload_n lk365_94 g0 ?_
          refine eE_iload_n lk365_95 g1 ?_
          obtain ⟨p27, h28, h⟩ := Option.bind_eq_some_iff.mp h
          refine eR_call (as := [.int l1]) lk365_96 mr_727 na_318 rfl rfl (Nat.le_of_ble_eq_true rfl) wv_318 wc_318 (m_lead_ok hp0 (d := d + 1) h28) ?_
          refine eE_goto (t := 134) lk365_99 (by decide) ?_
          exact m_sync_b134_ok hp0  lv p27 g0 _ h
    · rw [if_neg c1] at h
      refine eE_aload_n lk365_26 g0 ?_
      refine eE_sipush (v := 128) lk365_27 (by decide) ?_
      refine eE_bipush (v := 32) lk365_30 (by decide) ?_
      refine eE_iload_n lk365_32 g1 ?_
      refine eE_imul lk365_33 ?_
      refine eE_iadd lk365_34 ?_
      refine eE_iload_n lk365_35 g3 ?_
      refine eE_iadd lk365_36 ?_
      obtain ⟨p29, h30, h⟩ := Option.bind_eq_some_iff.mp h
      refine eR_call (as := [.int ((((128 : Int32)) + (((32 : Int32)) * l1)) + l3)]) lk365_37 mr_450 na_356 rfl rfl (Nat.le_of_ble_eq_true rfl) wv_356 wc_356 (m_sendOut_ok hp0 (d := d + 6) h30) ?_
      refine eE_inc (j := 3) (v := l3 + (1 : Int32)) lk365_40 g3 rfl (by decide) (fun vq31 gq32 kq33 => ?_)
      have gq34 := kq33 1 _ (by decide) (fun _ => rfl) g1
      have gq35 := kq33 2 _ (by decide) (fun _ => rfl) g2
      have gq36 := kq33 0 _ (by decide) (fun _ => rfl) g0
      refine eE_goto (t := 21) lk365_43 (by decide) ?_
      exact hKK vq31 p29 l1 l2 (l3 + (1 : Int32)) gq36 gq34 gq35 gq32 _ h
def m_sync_b0 (F : Nat)  (σ : RS) (l1 : Int32) : Option (RS) :=
  (m_syncAll F σ l1).bind fun p37 =>
  (rld p37 85 l1).bind fun x39 =>
  (rst p37 85 l1 (((0 : Int32)))).bind fun σ46 =>
  m_sync_b21 F  F σ46 l1 x39 ((0 : Int32))
set_option maxRecDepth 4000 in
theorem m_sync_b0_ok {pF : Nat → List Value → xH → Option (Option Value × xH)} {d : Nat} {aR : Nat} {G : Nat → xC} {T : Nat × Nat} {F : Nat} (hp0 : xNP pF)  : ∀ (lv : xL) (σ : RS) (l1 : Int32), xg lv 0 = some (.ref aR) → xg lv 1 = some (.int l1) → ∀ res, m_sync_b0 F  σ l1 = some res → xR pF (d + 9) kT365 16 4 false none none (layR aR res G, T) (0, lv, [], (layR aR σ G, T)) := by
  intro lv σ l1 g0 g1 res h
  unfold m_sync_b0 at h
  refine eE_aload_n lk365_0 g0 ?_
  refine eE_iload_n lk365_1 g1 ?_
  obtain ⟨p37, h38, h⟩ := Option.bind_eq_some_iff.mp h
  refine eR_call (as := [.int l1]) lk365_2 mr_560 na_366 rfl rfl (Nat.le_of_ble_eq_true rfl) wv_366 wc_366 (m_syncAll_ok hp0 (d := d + 6) h38) ?_
  refine eE_aload_n lk365_5 g0 ?_
  refine eR_getA lk365_6 rf_221 rfl ?_
  refine eE_iload_n lk365_9 g1 ?_
  obtain ⟨x39, h40, h⟩ := Option.bind_eq_some_iff.mp h
  refine eR_iald lk365_10 rfl rfl h40 ?_
  refine eE_stI (j := 2) lk365_11 (Or.inr ⟨_, rfl, rfl⟩) (by decide) (fun vq41 gq42 kq43 => ?_)
  have gq44 := kq43 1 _ (by decide) (fun _ => rfl) g1
  have gq45 := kq43 0 _ (by decide) (fun _ => rfl) g0
  refine eE_aload_n lk365_12 gq45 ?_
  refine eR_getA lk365_13 rf_221 rfl ?_
  refine eE_iload_n lk365_16 gq44 ?_
  refine eE_iconst (v := 0) lk365_17 (by decide) ?_
  obtain ⟨σ46, h47, h⟩ := Option.bind_eq_some_iff.mp h
  refine eR_iast lk365_18 rfl rfl h47 ?_
  refine eE_iconst (v := 0) lk365_19 (by decide) ?_
  refine eE_stI (j := 3) lk365_20 (Or.inr ⟨_, rfl, rfl⟩) (by decide) (fun vq48 gq49 kq50 => ?_)
  have gq51 := kq50 1 _ (by decide) (fun _ => rfl) gq44
  have gq52 := kq50 0 _ (by decide) (fun _ => rfl) gq45
  have gq53 := kq50 2 _ (by decide) (fun _ => rfl) gq42
  exact m_sync_b21_ok hp0  F vq48 σ46 l1 x39 ((0 : Int32)) gq52 gq51 gq53 gq49 _ h
def m_sync (F : Nat) (σ : RS) (l1 : Int32) : Option (RS) := m_sync_b0 F σ l1
theorem m_sync_ok {pF : Nat → List Value → xH → Option (Option Value × xH)} (hp0 : xNP pF) {d : Nat} {aR : Nat} {G : Nat → xC} {T : Nat × Nat} {σ : RS} {F : Nat} {l1 : Int32} {res : RS} (h : m_sync F σ l1 = some res) : xCo pF (d + 10) 365 [.ref aR, .int l1] (layR aR σ G, T) none (layR aR res G, T) := by
  unfold m_sync at h
  exact xCo_R kk_365 mo_365 ni_365 xm_365 (Nat.le_of_ble_eq_true rfl) (hp0 _ (by decide) (by decide) _ _) (m_sync_b0_ok hp0 _ σ l1 rfl rfl _ h)
/-! happen (290), depth 12 -/
def m_happen_b105 (F : Nat)  (σ : RS) (l1 : Int32) : Option (Int32 × RS) :=
  some (l1 - ((200 : Int32)), σ)
set_option maxRecDepth 4000 in
theorem m_happen_b105_ok {pF : Nat → List Value → xH → Option (Option Value × xH)} {d : Nat} {aR : Nat} {G : Nat → xC} {T : Nat × Nat} {F : Nat} (hp0 : xNP pF)  : ∀ (lv : xL) (σ : RS) (l1 : Int32), xg lv 0 = some (.ref aR) → xg lv 1 = some (.int l1) → ∀ res, m_happen_b105 F  σ l1 = some res → xR pF (d + 11) kT290 16 4 false (some .int) (some (.int res.1)) (layR aR res.2 G, T) (105, lv, [], (layR aR σ G, T)) := by
  intro lv σ l1 g0 g1 res h
  unfold m_happen_b105 at h
  refine eE_iload_n lk290_105 g1 ?_
  refine eE_sipush (v := 200) lk290_106 (by decide) ?_
  refine eE_isub lk290_109 ?_
  cases h
  exact eE_end lk290_110 rfl rfl rfl
def m_happen_b236 (F : Nat)  (σ : RS) (l3 : Int32) : Option (Int32 × RS) :=
  some (l3, σ)
set_option maxRecDepth 4000 in
theorem m_happen_b236_ok {pF : Nat → List Value → xH → Option (Option Value × xH)} {d : Nat} {aR : Nat} {G : Nat → xC} {T : Nat × Nat} {F : Nat} (hp0 : xNP pF)  : ∀ (lv : xL) (σ : RS) (l3 : Int32), xg lv 0 = some (.ref aR) → xg lv 3 = some (.int l3) → ∀ res, m_happen_b236 F  σ l3 = some res → xR pF (d + 11) kT290 16 4 false (some .int) (some (.int res.1)) (layR aR res.2 G, T) (236, lv, [], (layR aR σ G, T)) := by
  intro lv σ l3 g0 g3 res h
  unfold m_happen_b236 at h
  refine eE_iload_n lk290_236 g3 ?_
  cases h
  exact eE_end lk290_237 rfl rfl rfl
def m_happen_b178 (F : Nat)  (σ : RS) (l3 : Int32) : Option (Int32 × RS) :=
  (some (setI σ 22 0 ((σ.1 22 0) + ((1 : Int32))))).bind fun σ1 =>
  m_happen_b236 F  σ1 l3
set_option maxRecDepth 4000 in
theorem m_happen_b178_ok {pF : Nat → List Value → xH → Option (Option Value × xH)} {d : Nat} {aR : Nat} {G : Nat → xC} {T : Nat × Nat} {F : Nat} (hp0 : xNP pF)  : ∀ (lv : xL) (σ : RS) (l3 : Int32), xg lv 0 = some (.ref aR) → xg lv 3 = some (.int l3) → ∀ res, m_happen_b178 F  σ l3 = some res → xR pF (d + 11) kT290 16 4 false (some .int) (some (.int res.1)) (layR aR res.2 G, T) (178, lv, [], (layR aR σ G, T)) := by
  intro lv σ l3 g0 g3 res h
  unfold m_happen_b178 at h
  refine eE_aload_n lk290_178 g0 ?_
  refine eE_dup lk290_179 rfl ?_
  refine eR_get lk290_180 rf_414 rfl ?_
  refine eE_iconst (v := 1) lk290_183 (by decide) ?_
  refine eE_iadd lk290_184 ?_
  obtain ⟨σ1, h2, h⟩ := Option.bind_eq_some_iff.mp h
  refine eR_putS lk290_185 rf_414 rfl (by decide) pf_22.1 pf_22.2 h2 ?_
  refine eE_goto (t := 236) lk290_188 (by decide) ?_
  exact m_happen_b236_ok hp0  lv σ1 l3 g0 g3 _ h
def m_happen_b191 (F : Nat)  (σ : RS) (l2 : Int32) (l3 : Int32) : Option (Int32 × RS) :=
  if xc2 .lt l3 ((8 : Int32)) = true then (
    (rld σ 8 ((353 : Int32))).bind fun x4 =>
    if xc2 .ne x4 ((10 : Int32)) = true then (
      (m_came F σ l3 l2).bind fun p7 =>
      m_happen_b236 F  p7 l3
    ) else (
      (m_asked F σ l3 l2).bind fun p9 =>
      m_happen_b236 F  p9 l3
    )
  ) else (
    (m_reply F σ (l3 - ((8 : Int32)))).bind fun p11 =>
    m_happen_b236 F  p11 l3
  )
set_option maxRecDepth 4000 in
theorem m_happen_b191_ok {pF : Nat → List Value → xH → Option (Option Value × xH)} {d : Nat} {aR : Nat} {G : Nat → xC} {T : Nat × Nat} {F : Nat} (hp0 : xNP pF)  : ∀ (lv : xL) (σ : RS) (l2 : Int32) (l3 : Int32), xg lv 0 = some (.ref aR) → xg lv 2 = some (.int l2) → xg lv 3 = some (.int l3) → ∀ res, m_happen_b191 F  σ l2 l3 = some res → xR pF (d + 11) kT290 16 4 false (some .int) (some (.int res.1)) (layR aR res.2 G, T) (191, lv, [], (layR aR σ G, T)) := by
  intro lv σ l2 l3 g0 g2 g3 res h
  unfold m_happen_b191 at h
  refine eE_iload_n lk290_191 g3 ?_
  refine eE_bipush (v := 8) lk290_192 (by decide) ?_
  refine eE_icmp (t := 208) lk290_194 (by decide) (fun c3 => ?_) (fun c3 => ?_)
  · rw [if_pos c3] at h
    refine eE_aload_n lk290_208 g0 ?_
    refine eR_getA lk290_209 rf_20 rfl ?_
    refine eE_sipush (v := 353) lk290_212 (by decide) ?_
    obtain ⟨x4, h5, h⟩ := Option.bind_eq_some_iff.mp h
    refine eR_iald lk290_215 rfl rfl h5 ?_
    refine eE_bipush (v := 10) lk290_216 (by decide) ?_
    refine eE_icmp (t := 230) lk290_218 (by decide) (fun c6 => ?_) (fun c6 => ?_)
    · rw [if_pos c6] at h
      refine eE_aload_n lk290_230 g0 ?_
      refine eE_iload_n lk290_231 g3 ?_
      refine eE_iload_n lk290_232 g2 ?_
      obtain ⟨p7, h8, h⟩ := Option.bind_eq_some_iff.mp h
      refine eR_call (as := [.int l3, .int l2]) lk290_233 mr_489 na_253 rfl rfl (Nat.le_of_ble_eq_true rfl) wv_253 wc_253 (m_came_ok hp0 (d := d + 0) h8) ?_
      exact m_happen_b236_ok hp0  lv p7 l3 g0 g3 _ h
    · rw [if_neg c6] at h
      refine eE_aload_n lk290_221 g0 ?_
      refine eE_iload_n lk290_222 g3 ?_
      refine eE_iload_n lk290_223 g2 ?_
      obtain ⟨p9, h10, h⟩ := Option.bind_eq_some_iff.mp h
      refine eR_call (as := [.int l3, .int l2]) lk290_224 mr_486 na_249 rfl rfl (Nat.le_of_ble_eq_true rfl) wv_249 wc_249 (m_asked_ok hp0 (d := d + 4) h10) ?_
      refine eE_goto (t := 236) lk290_227 (by decide) ?_
      exact m_happen_b236_ok hp0  lv p9 l3 g0 g3 _ h
  · rw [if_neg c3] at h
    refine eE_aload_n lk290_197 g0 ?_
    refine eE_iload_n lk290_198 g3 ?_
    refine eE_bipush (v := 8) lk290_199 (by decide) ?_
    refine eE_isub lk290_201 ?_
    obtain ⟨p11, h12, h⟩ := Option.bind_eq_some_iff.mp h
    refine eR_call (as := [.int (l3 - ((8 : Int32)))]) lk290_202 mr_483 na_348 rfl rfl (Nat.le_of_ble_eq_true rfl) wv_348 wc_348 (m_reply_ok hp0 (d := d + 6) h12) ?_
    refine eE_goto (t := 236) lk290_205 (by decide) ?_
    exact m_happen_b236_ok hp0  lv p11 l3 g0 g3 _ h
def m_happen_b0 (F : Nat)  (σ : RS) : Option (Int32 × RS) :=
  (some (setI σ 1 0 (σ.1 33 0))).bind fun σ17 =>
  (some (setI σ17 3 0 ((σ17.1 3 0) + ((1 : Int32))))).bind fun σ19 =>
  if xc2 .lt (σ.1 35 0) ((300 : Int32)) = true then (
    if xc2 .lt (σ.1 35 0) ((200 : Int32)) = true then (
      (m_copyLetter F σ19 (σ.1 35 0) ((353 : Int32))).bind fun p23 =>
      (rst p23 17 (σ.1 35 0) ((((0 : Int32)) &&& 1))).bind fun σ25 =>
      (some (setI σ25 20 0 ((σ25.1 20 0) - ((1 : Int32))))).bind fun σ27 =>
      (rld σ27 6 ((353 : Int32))).bind fun x29 =>
      (rld σ27 7 ((353 : Int32))).bind fun x35 =>
      (m_areParted σ27 x29 x35).bind fun p42 =>
      if xc0 .ne p42.1 = true then (
        m_happen_b178 F  p42.2 x35
      ) else (
        if xc2 .ge x35 ((7 : Int32)) = true then (
          m_happen_b191 F  p42.2 x29 x35
        ) else (
          (rld p42.2 52 x35).bind fun x46 =>
          if xc0 .ne x46 = true then (
            m_happen_b191 F  p42.2 x29 x35
          ) else (
            m_happen_b178 F  p42.2 x35
          )
        )
      )
    ) else (
      (rst σ19 29 ((σ.1 35 0) - ((200 : Int32))) (((-1 : Int32)))).bind fun σ49 =>
      if xc2 .ge (σ.1 35 0) ((208 : Int32)) = true then (
        (m_ringClient F σ49 ((σ.1 35 0) - ((208 : Int32)))).bind fun p52 =>
        m_happen_b105 F  p52 (σ.1 35 0)
      ) else (
        (m_ring F σ49 ((σ.1 35 0) - ((200 : Int32)))).bind fun p54 =>
        m_happen_b105 F  p54 (σ.1 35 0)
      )
    )
  ) else (
    (rst σ19 31 ((σ.1 35 0) - ((300 : Int32))) (((-1 : Int32)))).bind fun σ56 =>
    (m_sync F σ56 ((σ.1 35 0) - ((300 : Int32)))).bind fun p58 =>
    some ((((16 : Int32)) + (σ.1 35 0)) - ((300 : Int32)), p58)
  )
set_option maxRecDepth 4000 in
theorem m_happen_b0_ok {pF : Nat → List Value → xH → Option (Option Value × xH)} {d : Nat} {aR : Nat} {G : Nat → xC} {T : Nat × Nat} {F : Nat} (hp0 : xNP pF)  : ∀ (lv : xL) (σ : RS), xg lv 0 = some (.ref aR) → ∀ res, m_happen_b0 F  σ = some res → xR pF (d + 11) kT290 16 4 false (some .int) (some (.int res.1)) (layR aR res.2 G, T) (0, lv, [], (layR aR σ G, T)) := by
  intro lv σ g0 res h
  unfold m_happen_b0 at h
  refine eE_aload_n lk290_0 g0 ?_
  refine eR_get lk290_1 rf_458 rfl ?_
  refine eE_stI (j := 1) lk290_4 (Or.inr ⟨_, rfl, rfl⟩) (by decide) (fun vq13 gq14 kq15 => ?_)
  have gq16 := kq15 0 _ (by decide) (fun _ => rfl) g0
  refine eE_aload_n lk290_5 gq16 ?_
  refine eE_aload_n lk290_6 gq16 ?_
  refine eR_get lk290_7 rf_461 rfl ?_
  obtain ⟨σ17, h18, h⟩ := Option.bind_eq_some_iff.mp h
  refine eR_putS lk290_10 rf_431 rfl (by decide) pf_1.1 pf_1.2 h18 ?_
  refine eE_aload_n lk290_13 gq16 ?_
  refine eE_dup lk290_14 rfl ?_
  refine eR_get lk290_15 rf_471 rfl ?_
  refine eE_iconst (v := 1) lk290_18 (by decide) ?_
  refine eE_iadd lk290_19 ?_
  obtain ⟨σ19, h20, h⟩ := Option.bind_eq_some_iff.mp h
  refine eR_putS lk290_20 rf_471 rfl (by decide) pf_3.1 pf_3.2 h20 ?_
  refine eE_iload_n lk290_23 gq14 ?_
  refine eE_sipush (v := 300) lk290_24 (by decide) ?_
  refine eE_icmp (t := 59) lk290_27 (by decide) (fun c21 => ?_) (fun c21 => ?_)
  · rw [if_pos c21] at h
    refine eE_iload_n lk290_59 gq14 ?_
    refine eE_sipush (v := 200) lk290_60 (by decide) ?_
    refine eE_icmp (t := 111) lk290_63 (by decide) (fun c22 => ?_) (fun c22 => ?_)
    · rw [if_pos c22] at h
      refine eE_aload_n lk290_111 gq16 ?_
      refine eE_iload_n lk290_112 gq14 ?_
      refine eE_sipush (v := 353) lk290_113 (by decide) ?_
      obtain ⟨p23, h24, h⟩ := Option.bind_eq_some_iff.mp h
      refine eR_call (as := [.int (σ.1 35 0), .int ((353 : Int32))]) lk290_116 mr_417 na_262 rfl rfl (Nat.le_of_ble_eq_true rfl) wv_262 wc_262 (m_copyLetter_ok hp0 (d := d + 10) h24) ?_
      refine eE_aload_n lk290_119 gq16 ?_
      refine eR_getA lk290_120 rf_49 rfl ?_
      refine eE_iload_n lk290_123 gq14 ?_
      refine eE_iconst (v := 0) lk290_124 (by decide) ?_
      obtain ⟨σ25, h26, h⟩ := Option.bind_eq_some_iff.mp h
      refine eR_zast lk290_125 rfl rfl rfl h26 ?_
      refine eE_aload_n lk290_126 gq16 ?_
      refine eE_dup lk290_127 rfl ?_
      refine eR_get lk290_128 rf_411 rfl ?_
      refine eE_iconst (v := 1) lk290_131 (by decide) ?_
      refine eE_isub lk290_132 ?_
      obtain ⟨σ27, h28, h⟩ := Option.bind_eq_some_iff.mp h
      refine eR_putS lk290_133 rf_411 rfl (by decide) pf_20.1 pf_20.2 h28 ?_
      refine eE_aload_n lk290_136 gq16 ?_
      refine eR_getA lk290_137 rf_13 rfl ?_
      refine eE_sipush (v := 353) lk290_140 (by decide) ?_
      obtain ⟨x29, h30, h⟩ := Option.bind_eq_some_iff.mp h
      refine eR_iald lk290_143 rfl rfl h30 ?_
      refine eE_stI (j := 2) lk290_144 (Or.inr ⟨_, rfl, rfl⟩) (by decide) (fun vq31 gq32 kq33 => ?_)
      have gq34 := kq33 0 _ (by decide) (fun _ => rfl) gq16
      refine eE_aload_n lk290_145 gq34 ?_
      refine eR_getA lk290_146 rf_17 rfl ?_
      refine eE_sipush (v := 353) lk290_149 (by decide) ?_
      obtain ⟨x35, h36, h⟩ := Option.bind_eq_some_iff.mp h
      refine eR_iald lk290_152 rfl rfl h36 ?_
      refine eE_stI (j := 3) lk290_153 (Or.inr ⟨_, rfl, rfl⟩) (by decide) (fun vq37 gq38 kq39 => ?_)
      have gq40 := kq39 0 _ (by decide) (fun _ => rfl) gq34
      have gq41 := kq39 2 _ (by decide) (fun _ => rfl) gq32
      refine eE_aload_n lk290_154 gq40 ?_
      refine eE_iload_n lk290_155 gq41 ?_
      refine eE_iload_n lk290_156 gq38 ?_
      obtain ⟨p42, h43, h⟩ := Option.bind_eq_some_iff.mp h
      refine eR_call (as := [.int x29, .int x35]) lk290_157 mr_427 na_247 rfl rfl (Nat.le_of_ble_eq_true rfl) wv_247 wc_247 (m_areParted_ok hp0 (d := d + 10) h43) ?_
      refine eE_if (t := 178) lk290_160 (by decide) (fun c44 => ?_) (fun c44 => ?_)
      · rw [if_pos c44] at h
        exact m_happen_b178_ok hp0  vq37 p42.2 x35 gq40 gq38 _ h
      · rw [if_neg c44] at h
        refine eE_iload_n lk290_163 gq38 ?_
        refine eE_bipush (v := 7) lk290_164 (by decide) ?_
        refine eE_icmp (t := 191) lk290_166 (by decide) (fun c45 => ?_) (fun c45 => ?_)
        · rw [if_pos c45] at h
          exact m_happen_b191_ok hp0  vq37 p42.2 x29 x35 gq40 gq41 gq38 _ h
        · rw [if_neg c45] at h
          refine eE_aload_n lk290_169 gq40 ?_
          refine eR_getA lk290_170 rf_120 rfl ?_
          refine eE_iload_n lk290_173 gq38 ?_
          obtain ⟨x46, h47, h⟩ := Option.bind_eq_some_iff.mp h
          refine eR_bald lk290_174 rfl (Or.inr rfl) h47 ?_
          refine eE_if (t := 191) lk290_175 (by decide) (fun c48 => ?_) (fun c48 => ?_)
          · rw [if_pos c48] at h
            exact m_happen_b191_ok hp0  vq37 p42.2 x29 x35 gq40 gq41 gq38 _ h
          · rw [if_neg c48] at h
            exact m_happen_b178_ok hp0  vq37 p42.2 x35 gq40 gq38 _ h
    · rw [if_neg c22] at h
      refine eE_aload_n lk290_66 gq16 ?_
      refine eR_getA lk290_67 rf_62 rfl ?_
      refine eE_iload_n lk290_70 gq14 ?_
      refine eE_sipush (v := 200) lk290_71 (by decide) ?_
      refine eE_isub lk290_74 ?_
      refine eE_iconst (v := (-1)) lk290_75 (by decide) ?_
      obtain ⟨σ49, h50, h⟩ := Option.bind_eq_some_iff.mp h
      refine eR_iast lk290_76 rfl rfl h50 ?_
      refine eE_iload_n lk290_77 gq14 ?_
      refine eE_sipush (v := 208) lk290_78 (by decide) ?_
      refine eE_icmp (t := 96) lk290_81 (by decide) (fun c51 => ?_) (fun c51 => ?_)
      · rw [if_pos c51] at h
        refine eE_aload_n lk290_96 gq16 ?_
        refine eE_iload_n lk290_97 gq14 ?_
        refine eE_sipush (v := 208) lk290_98 (by decide) ?_
        refine eE_isub lk290_101 ?_
        obtain ⟨p52, h53, h⟩ := Option.bind_eq_some_iff.mp h
        refine eR_call (as := [.int ((σ.1 35 0) - ((208 : Int32)))]) lk290_102 mr_480 na_351 rfl rfl (Nat.le_of_ble_eq_true rfl) wv_351 wc_351 (m_ringClient_ok hp0 (d := d + 6) h53) ?_
        exact m_happen_b105_ok hp0  vq13 p52 (σ.1 35 0) gq16 gq14 _ h
      · rw [if_neg c51] at h
        refine eE_aload_n lk290_84 gq16 ?_
        refine eE_iload_n lk290_85 gq14 ?_
        refine eE_sipush (v := 200) lk290_86 (by decide) ?_
        refine eE_isub lk290_89 ?_
        obtain ⟨p54, h55, h⟩ := Option.bind_eq_some_iff.mp h
        refine eR_call (as := [.int ((σ.1 35 0) - ((200 : Int32)))]) lk290_90 mr_477 na_350 rfl rfl (Nat.le_of_ble_eq_true rfl) wv_350 wc_350 (m_ring_ok hp0 (d := d + 3) h55) ?_
        refine eE_goto (t := 105) lk290_93 (by decide) ?_
        exact m_happen_b105_ok hp0  vq13 p54 (σ.1 35 0) gq16 gq14 _ h
  · rw [if_neg c21] at h
    refine eE_aload_n lk290_30 gq16 ?_
    refine eR_getA lk290_31 rf_68 rfl ?_
    refine eE_iload_n lk290_34 gq14 ?_
    refine eE_sipush (v := 300) lk290_35 (by decide) ?_
    refine eE_isub lk290_38 ?_
    refine eE_iconst (v := (-1)) lk290_39 (by decide) ?_
    obtain ⟨σ56, h57, h⟩ := Option.bind_eq_some_iff.mp h
    refine eR_iast lk290_40 rfl rfl h57 ?_
    refine eE_aload_n lk290_41 gq16 ?_
    refine eE_iload_n lk290_42 gq14 ?_
    refine eE_sipush (v := 300) lk290_43 (by decide) ?_
    refine eE_isub lk290_46 ?_
    obtain ⟨p58, h59, h⟩ := Option.bind_eq_some_iff.mp h
    refine eR_call (as := [.int ((σ.1 35 0) - ((300 : Int32)))]) lk290_47 mr_474 na_365 rfl rfl (Nat.le_of_ble_eq_true rfl) wv_365 wc_365 (m_sync_ok hp0 (d := d + 1) h59) ?_
    refine eE_bipush (v := 16) lk290_50 (by decide) ?_
    refine eE_iload_n lk290_52 gq14 ?_
    refine eE_iadd lk290_53 ?_
    refine eE_sipush (v := 300) lk290_54 (by decide) ?_
    refine eE_isub lk290_57 ?_
    cases h
    exact eE_end lk290_58 rfl rfl rfl
def m_happen (F : Nat) (σ : RS)  : Option (Int32 × RS) := m_happen_b0 F σ 
theorem m_happen_ok {pF : Nat → List Value → xH → Option (Option Value × xH)} (hp0 : xNP pF) {d : Nat} {aR : Nat} {G : Nat → xC} {T : Nat × Nat} {σ : RS} {F : Nat}  {res : Int32 × RS} (h : m_happen F σ  = some res) : xCo pF (d + 12) 290 [.ref aR] (layR aR σ G, T) (some (.int res.1)) (layR aR res.2 G, T) := by
  unfold m_happen at h
  exact xCo_R kk_290 mo_290 ni_290 xm_290 (Nat.le_of_ble_eq_true rfl) (hp0 _ (by decide) (by decide) _ _) (m_happen_b0_ok hp0 _ σ  rfl _ h)
/-! history (292), depth 2 -/
def m_history_b59  (σ : RS) (s0 : Int32) : Option (Int32 × RS) :=
  some (s0, σ)
set_option maxRecDepth 4000 in
theorem m_history_b59_ok {pF : Nat → List Value → xH → Option (Option Value × xH)} {d : Nat} {aR : Nat} {G : Nat → xC} {T : Nat × Nat} (hp0 : xNP pF)  : ∀ (lv : xL) (σ : RS) (s0 : Int32), xg lv 0 = some (.ref aR) → ∀ res, m_history_b59  σ s0 = some res → xR pF (d + 1) kT292 16 3 false (some .int) (some (.int res.1)) (layR aR res.2 G, T) (59, lv, [.int s0], (layR aR σ G, T)) := by
  intro lv σ s0 g0 res h
  unfold m_history_b59 at h
  cases h
  exact eE_end lk292_59 rfl rfl rfl
def m_history_b34  (σ : RS) (s1 : Int32) (l1 : Int32) (l2 : Int32) : Option (Int32 × RS) :=
  (some (setI σ 0 0 s1)).bind fun σ1 =>
  if xc0 .le (σ1.1 0 0) = true then (
    (rld σ1 142 ((((6 : Int32)) * l1) + l2)).bind fun x4 =>
    m_history_b59  σ1 x4
  ) else (
    m_history_b59  σ1 ((0 : Int32))
  )
set_option maxRecDepth 4000 in
theorem m_history_b34_ok {pF : Nat → List Value → xH → Option (Option Value × xH)} {d : Nat} {aR : Nat} {G : Nat → xC} {T : Nat × Nat} (hp0 : xNP pF)  : ∀ (lv : xL) (σ : RS) (s1 : Int32) (l1 : Int32) (l2 : Int32), xg lv 0 = some (.ref aR) → xg lv 1 = some (.int l1) → xg lv 2 = some (.int l2) → ∀ res, m_history_b34  σ s1 l1 l2 = some res → xR pF (d + 1) kT292 16 3 false (some .int) (some (.int res.1)) (layR aR res.2 G, T) (34, lv, [.int s1, .ref aR], (layR aR σ G, T)) := by
  intro lv σ s1 l1 l2 g0 g1 g2 res h
  unfold m_history_b34 at h
  obtain ⟨σ1, h2, h⟩ := Option.bind_eq_some_iff.mp h
  refine eR_putS lk292_34 rf_393 rfl (by decide) pf_0.1 pf_0.2 h2 ?_
  refine eE_aload_n lk292_37 g0 ?_
  refine eR_get lk292_38 rf_393 rfl ?_
  refine eE_if (t := 48) lk292_41 (by decide) (fun c3 => ?_) (fun c3 => ?_)
  · rw [if_pos c3] at h
    refine eE_aload_n lk292_48 g0 ?_
    refine eR_getA lk292_49 rf_378 rfl ?_
    refine eE_bipush (v := 6) lk292_52 (by decide) ?_
    refine eE_iload_n lk292_54 g1 ?_
    refine eE_imul lk292_55 ?_
    refine eE_iload_n lk292_56 g2 ?_
    refine eE_iadd lk292_57 ?_
    obtain ⟨x4, h5, h⟩ := Option.bind_eq_some_iff.mp h
    refine eR_iald lk292_58 rfl rfl h5 ?_
    exact m_history_b59_ok hp0  lv σ1 x4 g0 _ h
  · rw [if_neg c3] at h
    refine eE_iconst (v := 0) lk292_44 (by decide) ?_
    refine eE_goto (t := 59) lk292_45 (by decide) ?_
    exact m_history_b59_ok hp0  lv σ1 ((0 : Int32)) g0 _ h
def m_history_b33  (σ : RS) (l1 : Int32) (l2 : Int32) : Option (Int32 × RS) :=
  m_history_b34  σ ((1 : Int32)) l1 l2
set_option maxRecDepth 4000 in
theorem m_history_b33_ok {pF : Nat → List Value → xH → Option (Option Value × xH)} {d : Nat} {aR : Nat} {G : Nat → xC} {T : Nat × Nat} (hp0 : xNP pF)  : ∀ (lv : xL) (σ : RS) (l1 : Int32) (l2 : Int32), xg lv 0 = some (.ref aR) → xg lv 1 = some (.int l1) → xg lv 2 = some (.int l2) → ∀ res, m_history_b33  σ l1 l2 = some res → xR pF (d + 1) kT292 16 3 false (some .int) (some (.int res.1)) (layR aR res.2 G, T) (33, lv, [.ref aR], (layR aR σ G, T)) := by
  intro lv σ l1 l2 g0 g1 g2 res h
  unfold m_history_b33 at h
  refine eE_iconst (v := 1) lk292_33 (by decide) ?_
  exact m_history_b34_ok hp0  lv σ ((1 : Int32)) l1 l2 g0 g1 g2 _ h
def m_history_b0  (σ : RS) (l1 : Int32) (l2 : Int32) : Option (Int32 × RS) :=
  (m_in (l1.toInt64) ((0 : Int64)) (((σ.1 140 0) - ((1 : Int32))).toInt64)).bind fun p6 =>
  if xc0 .eq p6 = true then (
    m_history_b33  σ l1 l2
  ) else (
    (m_in (l2.toInt64) ((0 : Int64)) ((5 : Int64))).bind fun p9 =>
    if xc0 .eq p9 = true then (
      m_history_b33  σ l1 l2
    ) else (
      m_history_b34  σ ((0 : Int32)) l1 l2
    )
  )
set_option maxRecDepth 4000 in
theorem m_history_b0_ok {pF : Nat → List Value → xH → Option (Option Value × xH)} {d : Nat} {aR : Nat} {G : Nat → xC} {T : Nat × Nat} (hp0 : xNP pF)  : ∀ (lv : xL) (σ : RS) (l1 : Int32) (l2 : Int32), xg lv 0 = some (.ref aR) → xg lv 1 = some (.int l1) → xg lv 2 = some (.int l2) → ∀ res, m_history_b0  σ l1 l2 = some res → xR pF (d + 1) kT292 16 3 false (some .int) (some (.int res.1)) (layR aR res.2 G, T) (0, lv, [], (layR aR σ G, T)) := by
  intro lv σ l1 l2 g0 g1 g2 res h
  unfold m_history_b0 at h
  refine eE_aload_n lk292_0 g0 ?_
  refine eE_iload_n lk292_1 g1 ?_
  refine eE_i2l lk292_2 ?_
  refine eE_lconst (v := 0) lk292_3 (by decide) ?_
  refine eE_aload_n lk292_4 g0 ?_
  refine eR_get lk292_5 rf_815 rfl ?_
  refine eE_iconst (v := 1) lk292_8 (by decide) ?_
  refine eE_isub lk292_9 ?_
  refine eE_i2l lk292_10 ?_
  obtain ⟨p6, h7, h⟩ := Option.bind_eq_some_iff.mp h
  refine eE_stat (as := [.long (l1.toInt64), .long ((0 : Int64)), .long (((σ.1 140 0) - ((1 : Int32))).toInt64)]) lk292_11 mr_799 na_294 rfl rfl (Nat.le_of_ble_eq_true rfl) mm_294 ws_294 (m_in_ok hp0 (d := d + 0) h7) ?_
  refine eE_if (t := 33) lk292_14 (by decide) (fun c8 => ?_) (fun c8 => ?_)
  · rw [if_pos c8] at h
    exact m_history_b33_ok hp0  lv σ l1 l2 g0 g1 g2 _ h
  · rw [if_neg c8] at h
    refine eE_iload_n lk292_17 g2 ?_
    refine eE_i2l lk292_18 ?_
    refine eE_lconst (v := 0) lk292_19 (by decide) ?_
    refine eE_ldc2_w (v := 5) lk292_20 xl_803 ?_
    obtain ⟨p9, h10, h⟩ := Option.bind_eq_some_iff.mp h
    refine eE_stat (as := [.long (l2.toInt64), .long ((0 : Int64)), .long ((5 : Int64))]) lk292_23 mr_799 na_294 rfl rfl (Nat.le_of_ble_eq_true rfl) mm_294 ws_294 (m_in_ok hp0 (d := d + 0) h10) ?_
    refine eE_if (t := 33) lk292_26 (by decide) (fun c11 => ?_) (fun c11 => ?_)
    · rw [if_pos c11] at h
      exact m_history_b33_ok hp0  lv σ l1 l2 g0 g1 g2 _ h
    · rw [if_neg c11] at h
      refine eE_iconst (v := 0) lk292_29 (by decide) ?_
      refine eE_goto (t := 34) lk292_30 (by decide) ?_
      exact m_history_b34_ok hp0  lv σ ((0 : Int32)) l1 l2 g0 g1 g2 _ h
def m_history (σ : RS) (l1 : Int32) (l2 : Int32) : Option (Int32 × RS) := m_history_b0 σ l1 l2
theorem m_history_ok {pF : Nat → List Value → xH → Option (Option Value × xH)} (hp0 : xNP pF) {d : Nat} {aR : Nat} {G : Nat → xC} {T : Nat × Nat} {σ : RS} {l1 : Int32} {l2 : Int32} {res : Int32 × RS} (h : m_history σ l1 l2 = some res) : xCo pF (d + 2) 292 [.ref aR, .int l1, .int l2] (layR aR σ G, T) (some (.int res.1)) (layR aR res.2 G, T) := by
  unfold m_history at h
  exact xCo_R kk_292 mo_292 ni_292 xm_292 (Nat.le_of_ble_eq_true rfl) (hp0 _ (by decide) (by decide) _ _) (m_history_b0_ok hp0 _ σ l1 l2 rfl rfl rfl _ h)
/-! keyAt (309), depth 2 -/
def m_keyAt_b116  (σ : RS) (s0 : Int32) : Option (Int32 × RS) :=
  some (s0, σ)
set_option maxRecDepth 4000 in
theorem m_keyAt_b116_ok {pF : Nat → List Value → xH → Option (Option Value × xH)} {d : Nat} {aR : Nat} {G : Nat → xC} {T : Nat × Nat} (hp0 : xNP pF)  : ∀ (lv : xL) (σ : RS) (s0 : Int32), xg lv 0 = some (.ref aR) → ∀ res, m_keyAt_b116  σ s0 = some res → xR pF (d + 1) kT309 16 4 false (some .int) (some (.int res.1)) (layR aR res.2 G, T) (116, lv, [.int s0], (layR aR σ G, T)) := by
  intro lv σ s0 g0 res h
  unfold m_keyAt_b116 at h
  cases h
  exact eE_end lk309_116 rfl rfl rfl
def m_keyAt_b87  (σ : RS) (s1 : Int32) (l1 : Int32) (l2 : Int32) (l3 : Int32) : Option (Int32 × RS) :=
  (some (setI σ 0 0 s1)).bind fun σ1 =>
  if xc0 .eq l3 = true then (
    m_keyAt_b116  σ1 ((-1 : Int32))
  ) else (
    (rld σ1 118 ((((128 : Int32)) * l1) + l2)).bind fun x4 =>
    m_keyAt_b116  σ1 ((((128 : Int32)) * l1) + x4)
  )
set_option maxRecDepth 4000 in
theorem m_keyAt_b87_ok {pF : Nat → List Value → xH → Option (Option Value × xH)} {d : Nat} {aR : Nat} {G : Nat → xC} {T : Nat × Nat} (hp0 : xNP pF)  : ∀ (lv : xL) (σ : RS) (s1 : Int32) (l1 : Int32) (l2 : Int32) (l3 : Int32), xg lv 0 = some (.ref aR) → xg lv 1 = some (.int l1) → xg lv 2 = some (.int l2) → xg lv 3 = some (.int l3) → ∀ res, m_keyAt_b87  σ s1 l1 l2 l3 = some res → xR pF (d + 1) kT309 16 4 false (some .int) (some (.int res.1)) (layR aR res.2 G, T) (87, lv, [.int s1, .ref aR], (layR aR σ G, T)) := by
  intro lv σ s1 l1 l2 l3 g0 g1 g2 g3 res h
  unfold m_keyAt_b87 at h
  obtain ⟨σ1, h2, h⟩ := Option.bind_eq_some_iff.mp h
  refine eR_putS lk309_87 rf_393 rfl (by decide) pf_0.1 pf_0.2 h2 ?_
  refine eE_iload_n lk309_90 g3 ?_
  refine eE_if (t := 115) lk309_91 (by decide) (fun c3 => ?_) (fun c3 => ?_)
  · rw [if_pos c3] at h
    refine eE_iconst (v := (-1)) lk309_115 (by decide) ?_
    exact m_keyAt_b116_ok hp0  lv σ1 ((-1 : Int32)) g0 _ h
  · rw [if_neg c3] at h
    refine eE_sipush (v := 128) lk309_94 (by decide) ?_
    refine eE_iload_n lk309_97 g1 ?_
    refine eE_imul lk309_98 ?_
    refine eE_aload_n lk309_99 g0 ?_
    refine eR_getA lk309_100 rf_321 rfl ?_
    refine eE_sipush (v := 128) lk309_103 (by decide) ?_
    refine eE_iload_n lk309_106 g1 ?_
    refine eE_imul lk309_107 ?_
    refine eE_iload_n lk309_108 g2 ?_
    refine eE_iadd lk309_109 ?_
    obtain ⟨x4, h5, h⟩ := Option.bind_eq_some_iff.mp h
    refine eR_iald lk309_110 rfl rfl h5 ?_
    refine eE_iadd lk309_111 ?_
    refine eE_goto (t := 116) lk309_112 (by decide) ?_
    exact m_keyAt_b116_ok hp0  lv σ1 ((((128 : Int32)) * l1) + x4) g0 _ h
def m_keyAt_b76  (σ : RS) (s0 : Int32) (l1 : Int32) (l2 : Int32) : Option (Int32 × RS) :=
  if xc0 .eq s0 = true then (
    m_keyAt_b87  σ ((1 : Int32)) l1 l2 s0
  ) else (
    m_keyAt_b87  σ ((0 : Int32)) l1 l2 s0
  )
set_option maxRecDepth 4000 in
theorem m_keyAt_b76_ok {pF : Nat → List Value → xH → Option (Option Value × xH)} {d : Nat} {aR : Nat} {G : Nat → xC} {T : Nat × Nat} (hp0 : xNP pF)  : ∀ (lv : xL) (σ : RS) (s0 : Int32) (l1 : Int32) (l2 : Int32), xg lv 0 = some (.ref aR) → xg lv 1 = some (.int l1) → xg lv 2 = some (.int l2) → ∀ res, m_keyAt_b76  σ s0 l1 l2 = some res → xR pF (d + 1) kT309 16 4 false (some .int) (some (.int res.1)) (layR aR res.2 G, T) (76, lv, [.int s0], (layR aR σ G, T)) := by
  intro lv σ s0 l1 l2 g0 g1 g2 res h
  unfold m_keyAt_b76 at h
  refine eE_stI (j := 3) lk309_76 (Or.inr ⟨_, rfl, rfl⟩) (by decide) (fun vq6 gq7 kq8 => ?_)
  have gq9 := kq8 1 _ (by decide) (fun _ => rfl) g1
  have gq10 := kq8 2 _ (by decide) (fun _ => rfl) g2
  have gq11 := kq8 0 _ (by decide) (fun _ => rfl) g0
  refine eE_aload_n lk309_77 gq11 ?_
  refine eE_iload_n lk309_78 gq7 ?_
  refine eE_if (t := 86) lk309_79 (by decide) (fun c12 => ?_) (fun c12 => ?_)
  · rw [if_pos c12] at h
    refine eE_iconst (v := 1) lk309_86 (by decide) ?_
    exact m_keyAt_b87_ok hp0  vq6 σ ((1 : Int32)) l1 l2 s0 gq11 gq9 gq10 gq7 _ h
  · rw [if_neg c12] at h
    refine eE_iconst (v := 0) lk309_82 (by decide) ?_
    refine eE_goto (t := 87) lk309_83 (by decide) ?_
    exact m_keyAt_b87_ok hp0  vq6 σ ((0 : Int32)) l1 l2 s0 gq11 gq9 gq10 gq7 _ h
def m_keyAt_b75  (σ : RS) (l1 : Int32) (l2 : Int32) : Option (Int32 × RS) :=
  m_keyAt_b76  σ ((0 : Int32)) l1 l2
set_option maxRecDepth 4000 in
theorem m_keyAt_b75_ok {pF : Nat → List Value → xH → Option (Option Value × xH)} {d : Nat} {aR : Nat} {G : Nat → xC} {T : Nat × Nat} (hp0 : xNP pF)  : ∀ (lv : xL) (σ : RS) (l1 : Int32) (l2 : Int32), xg lv 0 = some (.ref aR) → xg lv 1 = some (.int l1) → xg lv 2 = some (.int l2) → ∀ res, m_keyAt_b75  σ l1 l2 = some res → xR pF (d + 1) kT309 16 4 false (some .int) (some (.int res.1)) (layR aR res.2 G, T) (75, lv, [], (layR aR σ G, T)) := by
  intro lv σ l1 l2 g0 g1 g2 res h
  unfold m_keyAt_b75 at h
  refine eE_iconst (v := 0) lk309_75 (by decide) ?_
  exact m_keyAt_b76_ok hp0  lv σ ((0 : Int32)) l1 l2 g0 g1 g2 _ h
def m_keyAt_b61  (σ : RS) (s0 : Int64) (s1 : Int64) (s3 : Int32) (l1 : Int32) (l2 : Int32) : Option (Int32 × RS) :=
  (rld σ 113 s3).bind fun x13 =>
  (m_in s0 s1 ((x13 - ((1 : Int32))).toInt64)).bind fun p15 =>
  if xc0 .eq p15 = true then (
    m_keyAt_b75  σ l1 l2
  ) else (
    m_keyAt_b76  σ ((1 : Int32)) l1 l2
  )
set_option maxRecDepth 4000 in
theorem m_keyAt_b61_ok {pF : Nat → List Value → xH → Option (Option Value × xH)} {d : Nat} {aR : Nat} {G : Nat → xC} {T : Nat × Nat} (hp0 : xNP pF)  : ∀ (lv : xL) (σ : RS) (s0 : Int64) (s1 : Int64) (s3 : Int32) (l1 : Int32) (l2 : Int32), xg lv 0 = some (.ref aR) → xg lv 1 = some (.int l1) → xg lv 2 = some (.int l2) → ∀ res, m_keyAt_b61  σ s0 s1 s3 l1 l2 = some res → xR pF (d + 1) kT309 16 4 false (some .int) (some (.int res.1)) (layR aR res.2 G, T) (61, lv, [.int s3, .ref (aR + rpos 113), .long s1, .long s0], (layR aR σ G, T)) := by
  intro lv σ s0 s1 s3 l1 l2 g0 g1 g2 res h
  unfold m_keyAt_b61 at h
  obtain ⟨x13, h14, h⟩ := Option.bind_eq_some_iff.mp h
  refine eR_iald lk309_61 rfl rfl h14 ?_
  refine eE_iconst (v := 1) lk309_62 (by decide) ?_
  refine eE_isub lk309_63 ?_
  refine eE_i2l lk309_64 ?_
  obtain ⟨p15, h16, h⟩ := Option.bind_eq_some_iff.mp h
  refine eE_stat (as := [.long s0, .long s1, .long ((x13 - ((1 : Int32))).toInt64)]) lk309_65 mr_799 na_294 rfl rfl (Nat.le_of_ble_eq_true rfl) mm_294 ws_294 (m_in_ok hp0 (d := d + 0) h16) ?_
  refine eE_if (t := 75) lk309_68 (by decide) (fun c17 => ?_) (fun c17 => ?_)
  · rw [if_pos c17] at h
    exact m_keyAt_b75_ok hp0  lv σ l1 l2 g0 g1 g2 _ h
  · rw [if_neg c17] at h
    refine eE_iconst (v := 1) lk309_71 (by decide) ?_
    refine eE_goto (t := 76) lk309_72 (by decide) ?_
    exact m_keyAt_b76_ok hp0  lv σ ((1 : Int32)) l1 l2 g0 g1 g2 _ h
def m_keyAt_b33  (σ : RS) (s1 : Int32) (l1 : Int32) (l2 : Int32) : Option (Int32 × RS) :=
  (rld σ 52 s1).bind fun x18 =>
  if xc0 .eq x18 = true then (
    m_keyAt_b75  σ l1 l2
  ) else (
    (m_in (l1.toInt64) ((0 : Int64)) ((6 : Int64))).bind fun p21 =>
    if xc0 .eq p21 = true then (
      m_keyAt_b61  σ (l2.toInt64) ((0 : Int64)) ((0 : Int32)) l1 l2
    ) else (
      m_keyAt_b61  σ (l2.toInt64) ((0 : Int64)) l1 l1 l2
    )
  )
set_option maxRecDepth 4000 in
theorem m_keyAt_b33_ok {pF : Nat → List Value → xH → Option (Option Value × xH)} {d : Nat} {aR : Nat} {G : Nat → xC} {T : Nat × Nat} (hp0 : xNP pF)  : ∀ (lv : xL) (σ : RS) (s1 : Int32) (l1 : Int32) (l2 : Int32), xg lv 0 = some (.ref aR) → xg lv 1 = some (.int l1) → xg lv 2 = some (.int l2) → ∀ res, m_keyAt_b33  σ s1 l1 l2 = some res → xR pF (d + 1) kT309 16 4 false (some .int) (some (.int res.1)) (layR aR res.2 G, T) (33, lv, [.int s1, .ref (aR + rpos 52)], (layR aR σ G, T)) := by
  intro lv σ s1 l1 l2 g0 g1 g2 res h
  unfold m_keyAt_b33 at h
  obtain ⟨x18, h19, h⟩ := Option.bind_eq_some_iff.mp h
  refine eR_bald lk309_33 rfl (Or.inr rfl) h19 ?_
  refine eE_if (t := 75) lk309_34 (by decide) (fun c20 => ?_) (fun c20 => ?_)
  · rw [if_pos c20] at h
    exact m_keyAt_b75_ok hp0  lv σ l1 l2 g0 g1 g2 _ h
  · rw [if_neg c20] at h
    refine eE_iload_n lk309_37 g2 ?_
    refine eE_i2l lk309_38 ?_
    refine eE_lconst (v := 0) lk309_39 (by decide) ?_
    refine eE_aload_n lk309_40 g0 ?_
    refine eR_getA lk309_41 rf_305 rfl ?_
    refine eE_iload_n lk309_44 g1 ?_
    refine eE_i2l lk309_45 ?_
    refine eE_lconst (v := 0) lk309_46 (by decide) ?_
    refine eE_ldc2_w (v := 6) lk309_47 xl_827 ?_
    obtain ⟨p21, h22, h⟩ := Option.bind_eq_some_iff.mp h
    refine eE_stat (as := [.long (l1.toInt64), .long ((0 : Int64)), .long ((6 : Int64))]) lk309_50 mr_799 na_294 rfl rfl (Nat.le_of_ble_eq_true rfl) mm_294 ws_294 (m_in_ok hp0 (d := d + 0) h22) ?_
    refine eE_if (t := 60) lk309_53 (by decide) (fun c23 => ?_) (fun c23 => ?_)
    · rw [if_pos c23] at h
      refine eE_iconst (v := 0) lk309_60 (by decide) ?_
      exact m_keyAt_b61_ok hp0  lv σ (l2.toInt64) ((0 : Int64)) ((0 : Int32)) l1 l2 g0 g1 g2 _ h
    · rw [if_neg c23] at h
      refine eE_iload_n lk309_56 g1 ?_
      refine eE_goto (t := 61) lk309_57 (by decide) ?_
      exact m_keyAt_b61_ok hp0  lv σ (l2.toInt64) ((0 : Int64)) l1 l1 l2 g0 g1 g2 _ h
def m_keyAt_b0  (σ : RS) (l1 : Int32) (l2 : Int32) : Option (Int32 × RS) :=
  (m_in (l1.toInt64) ((0 : Int64)) ((6 : Int64))).bind fun p24 =>
  if xc0 .eq p24 = true then (
    m_keyAt_b75  σ l1 l2
  ) else (
    (m_in (l1.toInt64) ((0 : Int64)) ((6 : Int64))).bind fun p27 =>
    if xc0 .eq p27 = true then (
      m_keyAt_b33  σ ((0 : Int32)) l1 l2
    ) else (
      m_keyAt_b33  σ l1 l1 l2
    )
  )
set_option maxRecDepth 4000 in
theorem m_keyAt_b0_ok {pF : Nat → List Value → xH → Option (Option Value × xH)} {d : Nat} {aR : Nat} {G : Nat → xC} {T : Nat × Nat} (hp0 : xNP pF)  : ∀ (lv : xL) (σ : RS) (l1 : Int32) (l2 : Int32), xg lv 0 = some (.ref aR) → xg lv 1 = some (.int l1) → xg lv 2 = some (.int l2) → ∀ res, m_keyAt_b0  σ l1 l2 = some res → xR pF (d + 1) kT309 16 4 false (some .int) (some (.int res.1)) (layR aR res.2 G, T) (0, lv, [], (layR aR σ G, T)) := by
  intro lv σ l1 l2 g0 g1 g2 res h
  unfold m_keyAt_b0 at h
  refine eE_iload_n lk309_0 g1 ?_
  refine eE_i2l lk309_1 ?_
  refine eE_lconst (v := 0) lk309_2 (by decide) ?_
  refine eE_ldc2_w (v := 6) lk309_3 xl_827 ?_
  obtain ⟨p24, h25, h⟩ := Option.bind_eq_some_iff.mp h
  refine eE_stat (as := [.long (l1.toInt64), .long ((0 : Int64)), .long ((6 : Int64))]) lk309_6 mr_799 na_294 rfl rfl (Nat.le_of_ble_eq_true rfl) mm_294 ws_294 (m_in_ok hp0 (d := d + 0) h25) ?_
  refine eE_if (t := 75) lk309_9 (by decide) (fun c26 => ?_) (fun c26 => ?_)
  · rw [if_pos c26] at h
    exact m_keyAt_b75_ok hp0  lv σ l1 l2 g0 g1 g2 _ h
  · rw [if_neg c26] at h
    refine eE_aload_n lk309_12 g0 ?_
    refine eR_getA lk309_13 rf_120 rfl ?_
    refine eE_iload_n lk309_16 g1 ?_
    refine eE_i2l lk309_17 ?_
    refine eE_lconst (v := 0) lk309_18 (by decide) ?_
    refine eE_ldc2_w (v := 6) lk309_19 xl_827 ?_
    obtain ⟨p27, h28, h⟩ := Option.bind_eq_some_iff.mp h
    refine eE_stat (as := [.long (l1.toInt64), .long ((0 : Int64)), .long ((6 : Int64))]) lk309_22 mr_799 na_294 rfl rfl (Nat.le_of_ble_eq_true rfl) mm_294 ws_294 (m_in_ok hp0 (d := d + 0) h28) ?_
    refine eE_if (t := 32) lk309_25 (by decide) (fun c29 => ?_) (fun c29 => ?_)
    · rw [if_pos c29] at h
      refine eE_iconst (v := 0) lk309_32 (by decide) ?_
      exact m_keyAt_b33_ok hp0  lv σ ((0 : Int32)) l1 l2 g0 g1 g2 _ h
    · rw [if_neg c29] at h
      refine eE_iload_n lk309_28 g1 ?_
      refine eE_goto (t := 33) lk309_29 (by decide) ?_
      exact m_keyAt_b33_ok hp0  lv σ l1 l1 l2 g0 g1 g2 _ h
def m_keyAt (σ : RS) (l1 : Int32) (l2 : Int32) : Option (Int32 × RS) := m_keyAt_b0 σ l1 l2
theorem m_keyAt_ok {pF : Nat → List Value → xH → Option (Option Value × xH)} (hp0 : xNP pF) {d : Nat} {aR : Nat} {G : Nat → xC} {T : Nat × Nat} {σ : RS} {l1 : Int32} {l2 : Int32} {res : Int32 × RS} (h : m_keyAt σ l1 l2 = some res) : xCo pF (d + 2) 309 [.ref aR, .int l1, .int l2] (layR aR σ G, T) (some (.int res.1)) (layR aR res.2 G, T) := by
  unfold m_keyAt at h
  exact xCo_R kk_309 mo_309 ni_309 xm_309 (Nat.le_of_ble_eq_true rfl) (hp0 _ (by decide) (by decide) _ _) (m_keyAt_b0_ok hp0 _ σ l1 l2 rfl rfl rfl _ h)
/-! key (308), depth 3 -/
def m_key_b26 (F : Nat)  : Nat → RS → Int32 → Int32 → Option (Int32 × RS)
  | 0, _, _, _ => none
  | n + 1, σ, l3, l4 =>
    let KK := m_key_b26 F  n
    if xc2 .ge l4 (σ.1 144 0) = true then (
      some (σ.1 144 0, σ)
    ) else (
      (rld σ 116 ((((32 : Int32)) * l3) + l4)).bind fun x2 =>
      (rst σ 143 l4 (x2.toInt8.toInt32)).bind fun σ4 =>
      KK σ4 l3 (l4 + (1 : Int32))
    )
set_option maxRecDepth 4000 in
theorem m_key_b26_ok {pF : Nat → List Value → xH → Option (Option Value × xH)} {d : Nat} {aR : Nat} {G : Nat → xC} {T : Nat × Nat} {F : Nat} (hp0 : xNP pF)  : ∀ (n : Nat) (lv : xL) (σ : RS) (l3 : Int32) (l4 : Int32), xg lv 0 = some (.ref aR) → xg lv 3 = some (.int l3) → xg lv 4 = some (.int l4) → ∀ res, m_key_b26 F  n σ l3 l4 = some res → xR pF (d + 2) kT308 16 5 false (some .int) (some (.int res.1)) (layR aR res.2 G, T) (26, lv, [], (layR aR σ G, T)) := by
  intro n
  induction n with
  | zero => intro lv σ l3 l4 g0 g3 g4 res h; simp [m_key_b26] at h
  | succ n hKK =>
    intro lv σ l3 l4 g0 g3 g4 res h
    unfold m_key_b26 at h
    dsimp only at h
    refine eE_iload lk308_26 g4 ?_
    refine eE_aload_n lk308_28 g0 ?_
    refine eR_get lk308_29 rf_863 rfl ?_
    refine eE_icmp (t := 60) lk308_32 (by decide) (fun c1 => ?_) (fun c1 => ?_)
    · rw [if_pos c1] at h
      refine eE_aload_n lk308_60 g0 ?_
      refine eR_get lk308_61 rf_863 rfl ?_
      cases h
      exact eE_end lk308_64 rfl rfl rfl
    · rw [if_neg c1] at h
      refine eE_aload_n lk308_35 g0 ?_
      refine eR_getA lk308_36 rf_381 rfl ?_
      refine eE_iload lk308_39 g4 ?_
      refine eE_aload_n lk308_41 g0 ?_
      refine eR_getA lk308_42 rf_314 rfl ?_
      refine eE_bipush (v := 32) lk308_45 (by decide) ?_
      refine eE_iload_n lk308_47 g3 ?_
      refine eE_imul lk308_48 ?_
      refine eE_iload lk308_49 g4 ?_
      refine eE_iadd lk308_51 ?_
      obtain ⟨x2, h3, h⟩ := Option.bind_eq_some_iff.mp h
      refine eR_bald lk308_52 rfl (Or.inl rfl) h3 ?_
      obtain ⟨σ4, h5, h⟩ := Option.bind_eq_some_iff.mp h
      refine eR_bast lk308_53 rfl rfl rfl h5 ?_
      refine eE_inc (j := 4) (v := l4 + (1 : Int32)) lk308_54 g4 rfl (by decide) (fun vq6 gq7 kq8 => ?_)
      have gq9 := kq8 3 _ (by decide) (fun _ => rfl) g3
      have gq10 := kq8 0 _ (by decide) (fun _ => rfl) g0
      refine eE_goto (t := 26) lk308_57 (by decide) ?_
      exact hKK vq6 σ4 l3 (l4 + (1 : Int32)) gq10 gq9 gq7 _ h
def m_key_b0 (F : Nat)  (σ : RS) (l1 : Int32) (l2 : Int32) : Option (Int32 × RS) :=
  (m_keyAt σ l1 l2).bind fun p11 =>
  if xc0 .ge p11.1 = true then (
    (rld p11.2 114 p11.1).bind fun x18 =>
    (some (setI p11.2 144 0 x18)).bind fun σ20 =>
    m_key_b26 F  F σ20 (p11.1) ((0 : Int32))
  ) else (
    some ((0 : Int32), p11.2)
  )
set_option maxRecDepth 4000 in
theorem m_key_b0_ok {pF : Nat → List Value → xH → Option (Option Value × xH)} {d : Nat} {aR : Nat} {G : Nat → xC} {T : Nat × Nat} {F : Nat} (hp0 : xNP pF)  : ∀ (lv : xL) (σ : RS) (l1 : Int32) (l2 : Int32), xg lv 0 = some (.ref aR) → xg lv 1 = some (.int l1) → xg lv 2 = some (.int l2) → ∀ res, m_key_b0 F  σ l1 l2 = some res → xR pF (d + 2) kT308 16 5 false (some .int) (some (.int res.1)) (layR aR res.2 G, T) (0, lv, [], (layR aR σ G, T)) := by
  intro lv σ l1 l2 g0 g1 g2 res h
  unfold m_key_b0 at h
  refine eE_aload_n lk308_0 g0 ?_
  refine eE_iload_n lk308_1 g1 ?_
  refine eE_iload_n lk308_2 g2 ?_
  obtain ⟨p11, h12, h⟩ := Option.bind_eq_some_iff.mp h
  refine eR_call (as := [.int l1, .int l2]) lk308_3 mr_860 na_309 rfl rfl (Nat.le_of_ble_eq_true rfl) wv_309 wc_309 (m_keyAt_ok hp0 (d := d + 0) h12) ?_
  refine eE_stI (j := 3) lk308_6 (Or.inr ⟨_, rfl, rfl⟩) (by decide) (fun vq13 gq14 kq15 => ?_)
  have gq16 := kq15 0 _ (by decide) (fun _ => rfl) g0
  refine eE_iload_n lk308_7 gq14 ?_
  refine eE_if (t := 13) lk308_8 (by decide) (fun c17 => ?_) (fun c17 => ?_)
  · rw [if_pos c17] at h
    refine eE_aload_n lk308_13 gq16 ?_
    refine eE_aload_n lk308_14 gq16 ?_
    refine eR_getA lk308_15 rf_308 rfl ?_
    refine eE_iload_n lk308_18 gq14 ?_
    obtain ⟨x18, h19, h⟩ := Option.bind_eq_some_iff.mp h
    refine eR_iald lk308_19 rfl rfl h19 ?_
    obtain ⟨σ20, h21, h⟩ := Option.bind_eq_some_iff.mp h
    refine eR_putS lk308_20 rf_863 rfl (by decide) pf_144.1 pf_144.2 h21 ?_
    refine eE_iconst (v := 0) lk308_23 (by decide) ?_
    refine eE_stI (j := 4) lk308_24 (Or.inl rfl) (by decide) (fun vq22 gq23 kq24 => ?_)
    have gq25 := kq24 0 _ (by decide) (fun _ => rfl) gq16
    have gq26 := kq24 3 _ (by decide) (fun _ => rfl) gq14
    exact m_key_b26_ok hp0  F vq22 σ20 (p11.1) ((0 : Int32)) gq25 gq26 gq23 _ h
  · rw [if_neg c17] at h
    refine eE_iconst (v := 0) lk308_11 (by decide) ?_
    cases h
    exact eE_end lk308_12 rfl rfl rfl
def m_key (F : Nat) (σ : RS) (l1 : Int32) (l2 : Int32) : Option (Int32 × RS) := m_key_b0 F σ l1 l2
theorem m_key_ok {pF : Nat → List Value → xH → Option (Option Value × xH)} (hp0 : xNP pF) {d : Nat} {aR : Nat} {G : Nat → xC} {T : Nat × Nat} {σ : RS} {F : Nat} {l1 : Int32} {l2 : Int32} {res : Int32 × RS} (h : m_key F σ l1 l2 = some res) : xCo pF (d + 3) 308 [.ref aR, .int l1, .int l2] (layR aR σ G, T) (some (.int res.1)) (layR aR res.2 G, T) := by
  unfold m_key at h
  exact xCo_R kk_308 mo_308 ni_308 xm_308 (Nat.le_of_ble_eq_true rfl) (hp0 _ (by decide) (by decide) _ _) (m_key_b0_ok hp0 _ σ l1 l2 rfl rfl rfl _ h)
/-! kth (310), depth 1 -/
def m_kth_b12 (F : Nat)  (σ : RS) : Option (Int32 × RS) :=
  some ((-1 : Int32), σ)
set_option maxRecDepth 4000 in
theorem m_kth_b12_ok {pF : Nat → List Value → xH → Option (Option Value × xH)} {d : Nat} {aR : Nat} {G : Nat → xC} {T : Nat × Nat} {F : Nat} (hp0 : xNP pF)  : ∀ (lv : xL) (σ : RS), xg lv 0 = some (.ref aR) → ∀ res, m_kth_b12 F  σ = some res → xR pF (d + 0) kT310 16 5 false (some .int) (some (.int res.1)) (layR aR res.2 G, T) (12, lv, [], (layR aR σ G, T)) := by
  intro lv σ g0 res h
  unfold m_kth_b12 at h
  refine eE_iconst (v := (-1)) lk310_12 (by decide) ?_
  cases h
  exact eE_end lk310_13 rfl rfl rfl
def m_kth_b109 (F : Nat) (K16 : RS → Int32 → Int32 → Option (Int32 × RS)) (K28 : RS → Int32 → Int32 → Int32 → Int32 → Option (Int32 × RS)) (σ : RS) (s0 : Int32) (s1 : Int32) (l1 : Int32) (l2 : Int32) (l4 : Int32) : Option (Int32 × RS) :=
  K28 σ l1 l2 (s0 + s1) (l4 + (1 : Int32))
set_option maxRecDepth 4000 in
theorem m_kth_b109_ok {pF : Nat → List Value → xH → Option (Option Value × xH)} {d : Nat} {aR : Nat} {G : Nat → xC} {T : Nat × Nat} {F : Nat} {K16 : RS → Int32 → Int32 → Option (Int32 × RS)} {K28 : RS → Int32 → Int32 → Int32 → Int32 → Option (Int32 × RS)} (hp0 : xNP pF) (hK16 : ∀ (lv : xL) (σ : RS) (l1 : Int32) (l2 : Int32), xg lv 0 = some (.ref aR) → xg lv 1 = some (.int l1) → xg lv 2 = some (.int l2) → ∀ res, K16 σ l1 l2 = some res → xR pF (d + 0) kT310 16 5 false (some .int) (some (.int res.1)) (layR aR res.2 G, T) (16, lv, [], (layR aR σ G, T))) (hK28 : ∀ (lv : xL) (σ : RS) (l1 : Int32) (l2 : Int32) (l3 : Int32) (l4 : Int32), xg lv 0 = some (.ref aR) → xg lv 1 = some (.int l1) → xg lv 2 = some (.int l2) → xg lv 3 = some (.int l3) → xg lv 4 = some (.int l4) → ∀ res, K28 σ l1 l2 l3 l4 = some res → xR pF (d + 0) kT310 16 5 false (some .int) (some (.int res.1)) (layR aR res.2 G, T) (28, lv, [], (layR aR σ G, T))) : ∀ (lv : xL) (σ : RS) (s0 : Int32) (s1 : Int32) (l1 : Int32) (l2 : Int32) (l4 : Int32), xg lv 0 = some (.ref aR) → xg lv 1 = some (.int l1) → xg lv 2 = some (.int l2) → xg lv 4 = some (.int l4) → ∀ res, m_kth_b109 F K16 K28 σ s0 s1 l1 l2 l4 = some res → xR pF (d + 0) kT310 16 5 false (some .int) (some (.int res.1)) (layR aR res.2 G, T) (109, lv, [.int s1, .int s0], (layR aR σ G, T)) := by
  intro lv σ s0 s1 l1 l2 l4 g0 g1 g2 g4 res h
  unfold m_kth_b109 at h
  refine eE_iadd lk310_109 ?_
  refine eE_stI (j := 3) lk310_110 (Or.inr ⟨_, rfl, rfl⟩) (by decide) (fun vq1 gq2 kq3 => ?_)
  have gq4 := kq3 1 _ (by decide) (fun _ => rfl) g1
  have gq5 := kq3 2 _ (by decide) (fun _ => rfl) g2
  have gq6 := kq3 4 _ (by decide) (fun _ => rfl) g4
  have gq7 := kq3 0 _ (by decide) (fun _ => rfl) g0
  refine eE_inc (j := 4) (v := l4 + (1 : Int32)) lk310_111 gq6 rfl (by decide) (fun vq8 gq9 kq10 => ?_)
  have gq11 := kq10 1 _ (by decide) (fun _ => rfl) gq4
  have gq12 := kq10 2 _ (by decide) (fun _ => rfl) gq5
  have gq13 := kq10 0 _ (by decide) (fun _ => rfl) gq7
  have gq14 := kq10 3 _ (by decide) (fun _ => rfl) gq2
  refine eE_goto (t := 28) lk310_114 (by decide) ?_
  exact hK28 vq8 σ l1 l2 (s0 + s1) (l4 + (1 : Int32)) gq13 gq11 gq12 gq14 gq9 _ h
def m_kth_b104 (F : Nat) (K16 : RS → Int32 → Int32 → Option (Int32 × RS)) (K28 : RS → Int32 → Int32 → Int32 → Int32 → Option (Int32 × RS)) (σ : RS) (s0 : Int32) (l1 : Int32) (l2 : Int32) (l4 : Int32) : Option (Int32 × RS) :=
  m_kth_b109 F K16 K28 σ s0 ((1 : Int32)) l1 l2 l4
set_option maxRecDepth 4000 in
theorem m_kth_b104_ok {pF : Nat → List Value → xH → Option (Option Value × xH)} {d : Nat} {aR : Nat} {G : Nat → xC} {T : Nat × Nat} {F : Nat} {K16 : RS → Int32 → Int32 → Option (Int32 × RS)} {K28 : RS → Int32 → Int32 → Int32 → Int32 → Option (Int32 × RS)} (hp0 : xNP pF) (hK16 : ∀ (lv : xL) (σ : RS) (l1 : Int32) (l2 : Int32), xg lv 0 = some (.ref aR) → xg lv 1 = some (.int l1) → xg lv 2 = some (.int l2) → ∀ res, K16 σ l1 l2 = some res → xR pF (d + 0) kT310 16 5 false (some .int) (some (.int res.1)) (layR aR res.2 G, T) (16, lv, [], (layR aR σ G, T))) (hK28 : ∀ (lv : xL) (σ : RS) (l1 : Int32) (l2 : Int32) (l3 : Int32) (l4 : Int32), xg lv 0 = some (.ref aR) → xg lv 1 = some (.int l1) → xg lv 2 = some (.int l2) → xg lv 3 = some (.int l3) → xg lv 4 = some (.int l4) → ∀ res, K28 σ l1 l2 l3 l4 = some res → xR pF (d + 0) kT310 16 5 false (some .int) (some (.int res.1)) (layR aR res.2 G, T) (28, lv, [], (layR aR σ G, T))) : ∀ (lv : xL) (σ : RS) (s0 : Int32) (l1 : Int32) (l2 : Int32) (l4 : Int32), xg lv 0 = some (.ref aR) → xg lv 1 = some (.int l1) → xg lv 2 = some (.int l2) → xg lv 4 = some (.int l4) → ∀ res, m_kth_b104 F K16 K28 σ s0 l1 l2 l4 = some res → xR pF (d + 0) kT310 16 5 false (some .int) (some (.int res.1)) (layR aR res.2 G, T) (104, lv, [.int s0], (layR aR σ G, T)) := by
  intro lv σ s0 l1 l2 l4 g0 g1 g2 g4 res h
  unfold m_kth_b104 at h
  refine eE_iconst (v := 1) lk310_104 (by decide) ?_
  refine eE_goto (t := 109) lk310_105 (by decide) ?_
  exact m_kth_b109_ok hp0 hK16 hK28 lv σ s0 ((1 : Int32)) l1 l2 l4 g0 g1 g2 g4 _ h
def m_kth_b108 (F : Nat) (K16 : RS → Int32 → Int32 → Option (Int32 × RS)) (K28 : RS → Int32 → Int32 → Int32 → Int32 → Option (Int32 × RS)) (σ : RS) (s0 : Int32) (l1 : Int32) (l2 : Int32) (l4 : Int32) : Option (Int32 × RS) :=
  m_kth_b109 F K16 K28 σ s0 ((0 : Int32)) l1 l2 l4
set_option maxRecDepth 4000 in
theorem m_kth_b108_ok {pF : Nat → List Value → xH → Option (Option Value × xH)} {d : Nat} {aR : Nat} {G : Nat → xC} {T : Nat × Nat} {F : Nat} {K16 : RS → Int32 → Int32 → Option (Int32 × RS)} {K28 : RS → Int32 → Int32 → Int32 → Int32 → Option (Int32 × RS)} (hp0 : xNP pF) (hK16 : ∀ (lv : xL) (σ : RS) (l1 : Int32) (l2 : Int32), xg lv 0 = some (.ref aR) → xg lv 1 = some (.int l1) → xg lv 2 = some (.int l2) → ∀ res, K16 σ l1 l2 = some res → xR pF (d + 0) kT310 16 5 false (some .int) (some (.int res.1)) (layR aR res.2 G, T) (16, lv, [], (layR aR σ G, T))) (hK28 : ∀ (lv : xL) (σ : RS) (l1 : Int32) (l2 : Int32) (l3 : Int32) (l4 : Int32), xg lv 0 = some (.ref aR) → xg lv 1 = some (.int l1) → xg lv 2 = some (.int l2) → xg lv 3 = some (.int l3) → xg lv 4 = some (.int l4) → ∀ res, K28 σ l1 l2 l3 l4 = some res → xR pF (d + 0) kT310 16 5 false (some .int) (some (.int res.1)) (layR aR res.2 G, T) (28, lv, [], (layR aR σ G, T))) : ∀ (lv : xL) (σ : RS) (s0 : Int32) (l1 : Int32) (l2 : Int32) (l4 : Int32), xg lv 0 = some (.ref aR) → xg lv 1 = some (.int l1) → xg lv 2 = some (.int l2) → xg lv 4 = some (.int l4) → ∀ res, m_kth_b108 F K16 K28 σ s0 l1 l2 l4 = some res → xR pF (d + 0) kT310 16 5 false (some .int) (some (.int res.1)) (layR aR res.2 G, T) (108, lv, [.int s0], (layR aR σ G, T)) := by
  intro lv σ s0 l1 l2 l4 g0 g1 g2 g4 res h
  unfold m_kth_b108 at h
  refine eE_iconst (v := 0) lk310_108 (by decide) ?_
  exact m_kth_b109_ok hp0 hK16 hK28 lv σ s0 ((0 : Int32)) l1 l2 l4 g0 g1 g2 g4 _ h
def m_kth_b133 (F : Nat) (K16 : RS → Int32 → Int32 → Option (Int32 × RS)) (σ : RS) (l1 : Int32) (l2 : Int32) : Option (Int32 × RS) :=
  K16 σ l1 (l2 + (1 : Int32))
set_option maxRecDepth 4000 in
theorem m_kth_b133_ok {pF : Nat → List Value → xH → Option (Option Value × xH)} {d : Nat} {aR : Nat} {G : Nat → xC} {T : Nat × Nat} {F : Nat} {K16 : RS → Int32 → Int32 → Option (Int32 × RS)} (hp0 : xNP pF) (hK16 : ∀ (lv : xL) (σ : RS) (l1 : Int32) (l2 : Int32), xg lv 0 = some (.ref aR) → xg lv 1 = some (.int l1) → xg lv 2 = some (.int l2) → ∀ res, K16 σ l1 l2 = some res → xR pF (d + 0) kT310 16 5 false (some .int) (some (.int res.1)) (layR aR res.2 G, T) (16, lv, [], (layR aR σ G, T))) : ∀ (lv : xL) (σ : RS) (l1 : Int32) (l2 : Int32), xg lv 0 = some (.ref aR) → xg lv 1 = some (.int l1) → xg lv 2 = some (.int l2) → ∀ res, m_kth_b133 F K16 σ l1 l2 = some res → xR pF (d + 0) kT310 16 5 false (some .int) (some (.int res.1)) (layR aR res.2 G, T) (133, lv, [], (layR aR σ G, T)) := by
  intro lv σ l1 l2 g0 g1 g2 res h
  unfold m_kth_b133 at h
  refine eE_inc (j := 2) (v := l2 + (1 : Int32)) lk310_133 g2 rfl (by decide) (fun vq15 gq16 kq17 => ?_)
  have gq18 := kq17 1 _ (by decide) (fun _ => rfl) g1
  have gq19 := kq17 0 _ (by decide) (fun _ => rfl) g0
  refine eE_goto (t := 16) lk310_136 (by decide) ?_
  exact hK16 vq15 σ l1 (l2 + (1 : Int32)) gq19 gq18 gq16 _ h
def m_kth_b117 (F : Nat) (K16 : RS → Int32 → Int32 → Option (Int32 × RS)) (σ : RS) (l1 : Int32) (l2 : Int32) (l3 : Int32) : Option (Int32 × RS) :=
  (rld σ 17 l2).bind fun x20 =>
  if xc0 .eq x20 = true then (
    m_kth_b133 F K16 σ l1 l2
  ) else (
    if xc2 .ne l3 l1 = true then (
      m_kth_b133 F K16 σ l1 l2
    ) else (
      some (l2, σ)
    )
  )
set_option maxRecDepth 4000 in
theorem m_kth_b117_ok {pF : Nat → List Value → xH → Option (Option Value × xH)} {d : Nat} {aR : Nat} {G : Nat → xC} {T : Nat × Nat} {F : Nat} {K16 : RS → Int32 → Int32 → Option (Int32 × RS)} (hp0 : xNP pF) (hK16 : ∀ (lv : xL) (σ : RS) (l1 : Int32) (l2 : Int32), xg lv 0 = some (.ref aR) → xg lv 1 = some (.int l1) → xg lv 2 = some (.int l2) → ∀ res, K16 σ l1 l2 = some res → xR pF (d + 0) kT310 16 5 false (some .int) (some (.int res.1)) (layR aR res.2 G, T) (16, lv, [], (layR aR σ G, T))) : ∀ (lv : xL) (σ : RS) (l1 : Int32) (l2 : Int32) (l3 : Int32), xg lv 0 = some (.ref aR) → xg lv 1 = some (.int l1) → xg lv 2 = some (.int l2) → xg lv 3 = some (.int l3) → ∀ res, m_kth_b117 F K16 σ l1 l2 l3 = some res → xR pF (d + 0) kT310 16 5 false (some .int) (some (.int res.1)) (layR aR res.2 G, T) (117, lv, [], (layR aR σ G, T)) := by
  intro lv σ l1 l2 l3 g0 g1 g2 g3 res h
  unfold m_kth_b117 at h
  refine eE_aload_n lk310_117 g0 ?_
  refine eR_getA lk310_118 rf_49 rfl ?_
  refine eE_iload_n lk310_121 g2 ?_
  obtain ⟨x20, h21, h⟩ := Option.bind_eq_some_iff.mp h
  refine eR_bald lk310_122 rfl (Or.inr rfl) h21 ?_
  refine eE_if (t := 133) lk310_123 (by decide) (fun c22 => ?_) (fun c22 => ?_)
  · rw [if_pos c22] at h
    exact m_kth_b133_ok hp0 hK16 lv σ l1 l2 g0 g1 g2 _ h
  · rw [if_neg c22] at h
    refine eE_iload_n lk310_126 g3 ?_
    refine eE_iload_n lk310_127 g1 ?_
    refine eE_icmp (t := 133) lk310_128 (by decide) (fun c23 => ?_) (fun c23 => ?_)
    · rw [if_pos c23] at h
      exact m_kth_b133_ok hp0 hK16 lv σ l1 l2 g0 g1 g2 _ h
    · rw [if_neg c23] at h
      refine eE_iload_n lk310_131 g2 ?_
      cases h
      exact eE_end lk310_132 rfl rfl rfl
def m_kth_b28 (F : Nat) (K16 : RS → Int32 → Int32 → Option (Int32 × RS)) : Nat → RS → Int32 → Int32 → Int32 → Int32 → Option (Int32 × RS)
  | 0, _, _, _, _, _ => none
  | n + 1, σ, l1, l2, l3, l4 =>
    let KK := m_kth_b28 F K16 n
    if xc2 .ge l4 ((128 : Int32)) = true then (
      m_kth_b117 F K16 σ l1 l2 l3
    ) else (
      (rld σ 17 l2).bind fun x25 =>
      if xc0 .eq x25 = true then (
        m_kth_b117 F K16 σ l1 l2 l3
      ) else (
        (rld σ 17 l4).bind fun x28 =>
        if xc0 .eq x28 = true then (
          m_kth_b108 F K16 KK σ l3 l1 l2 l4
        ) else (
          (rld σ 18 l4).bind fun x31 =>
          (rld σ 18 l2).bind fun x33 =>
          if xc2 .lt x31 x33 = true then (
            m_kth_b104 F K16 KK σ l3 l1 l2 l4
          ) else (
            (rld σ 18 l4).bind fun x36 =>
            (rld σ 18 l2).bind fun x38 =>
            if xc2 .ne x36 x38 = true then (
              m_kth_b108 F K16 KK σ l3 l1 l2 l4
            ) else (
              (rld σ 19 l4).bind fun x41 =>
              (rld σ 19 l2).bind fun x43 =>
              if xc2 .ge x41 x43 = true then (
                m_kth_b108 F K16 KK σ l3 l1 l2 l4
              ) else (
                m_kth_b104 F K16 KK σ l3 l1 l2 l4
              )
            )
          )
        )
      )
    )
set_option maxRecDepth 4000 in
theorem m_kth_b28_ok {pF : Nat → List Value → xH → Option (Option Value × xH)} {d : Nat} {aR : Nat} {G : Nat → xC} {T : Nat × Nat} {F : Nat} {K16 : RS → Int32 → Int32 → Option (Int32 × RS)} (hp0 : xNP pF) (hK16 : ∀ (lv : xL) (σ : RS) (l1 : Int32) (l2 : Int32), xg lv 0 = some (.ref aR) → xg lv 1 = some (.int l1) → xg lv 2 = some (.int l2) → ∀ res, K16 σ l1 l2 = some res → xR pF (d + 0) kT310 16 5 false (some .int) (some (.int res.1)) (layR aR res.2 G, T) (16, lv, [], (layR aR σ G, T))) : ∀ (n : Nat) (lv : xL) (σ : RS) (l1 : Int32) (l2 : Int32) (l3 : Int32) (l4 : Int32), xg lv 0 = some (.ref aR) → xg lv 1 = some (.int l1) → xg lv 2 = some (.int l2) → xg lv 3 = some (.int l3) → xg lv 4 = some (.int l4) → ∀ res, m_kth_b28 F K16 n σ l1 l2 l3 l4 = some res → xR pF (d + 0) kT310 16 5 false (some .int) (some (.int res.1)) (layR aR res.2 G, T) (28, lv, [], (layR aR σ G, T)) := by
  intro n
  induction n with
  | zero => intro lv σ l1 l2 l3 l4 g0 g1 g2 g3 g4 res h; simp [m_kth_b28] at h
  | succ n hKK =>
    intro lv σ l1 l2 l3 l4 g0 g1 g2 g3 g4 res h
    unfold m_kth_b28 at h
    dsimp only at h
    refine eE_iload lk310_28 g4 ?_
    refine eE_sipush (v := 128) lk310_30 (by decide) ?_
    refine eE_icmp (t := 117) lk310_33 (by decide) (fun c24 => ?_) (fun c24 => ?_)
    · rw [if_pos c24] at h
      exact m_kth_b117_ok hp0 hK16 lv σ l1 l2 l3 g0 g1 g2 g3 _ h
    · rw [if_neg c24] at h
      refine eE_aload_n lk310_36 g0 ?_
      refine eR_getA lk310_37 rf_49 rfl ?_
      refine eE_iload_n lk310_40 g2 ?_
      obtain ⟨x25, h26, h⟩ := Option.bind_eq_some_iff.mp h
      refine eR_bald lk310_41 rfl (Or.inr rfl) h26 ?_
      refine eE_if (t := 117) lk310_42 (by decide) (fun c27 => ?_) (fun c27 => ?_)
      · rw [if_pos c27] at h
        exact m_kth_b117_ok hp0 hK16 lv σ l1 l2 l3 g0 g1 g2 g3 _ h
      · rw [if_neg c27] at h
        refine eE_iload_n lk310_45 g3 ?_
        refine eE_aload_n lk310_46 g0 ?_
        refine eR_getA lk310_47 rf_49 rfl ?_
        refine eE_iload lk310_50 g4 ?_
        obtain ⟨x28, h29, h⟩ := Option.bind_eq_some_iff.mp h
        refine eR_bald lk310_52 rfl (Or.inr rfl) h29 ?_
        refine eE_if (t := 108) lk310_53 (by decide) (fun c30 => ?_) (fun c30 => ?_)
        · rw [if_pos c30] at h
          exact m_kth_b108_ok hp0 hK16 hKK lv σ l3 l1 l2 l4 g0 g1 g2 g4 _ h
        · rw [if_neg c30] at h
          refine eE_aload_n lk310_56 g0 ?_
          refine eR_getA lk310_57 rf_53 rfl ?_
          refine eE_iload lk310_60 g4 ?_
          obtain ⟨x31, h32, h⟩ := Option.bind_eq_some_iff.mp h
          refine eR_iald lk310_62 rfl rfl h32 ?_
          refine eE_aload_n lk310_63 g0 ?_
          refine eR_getA lk310_64 rf_53 rfl ?_
          refine eE_iload_n lk310_67 g2 ?_
          obtain ⟨x33, h34, h⟩ := Option.bind_eq_some_iff.mp h
          refine eR_iald lk310_68 rfl rfl h34 ?_
          refine eE_icmp (t := 104) lk310_69 (by decide) (fun c35 => ?_) (fun c35 => ?_)
          · rw [if_pos c35] at h
            exact m_kth_b104_ok hp0 hK16 hKK lv σ l3 l1 l2 l4 g0 g1 g2 g4 _ h
          · rw [if_neg c35] at h
            refine eE_aload_n lk310_72 g0 ?_
            refine eR_getA lk310_73 rf_53 rfl ?_
            refine eE_iload lk310_76 g4 ?_
            obtain ⟨x36, h37, h⟩ := Option.bind_eq_some_iff.mp h
            refine eR_iald lk310_78 rfl rfl h37 ?_
            refine eE_aload_n lk310_79 g0 ?_
            refine eR_getA lk310_80 rf_53 rfl ?_
            refine eE_iload_n lk310_83 g2 ?_
            obtain ⟨x38, h39, h⟩ := Option.bind_eq_some_iff.mp h
            refine eR_iald lk310_84 rfl rfl h39 ?_
            refine eE_icmp (t := 108) lk310_85 (by decide) (fun c40 => ?_) (fun c40 => ?_)
            · rw [if_pos c40] at h
              exact m_kth_b108_ok hp0 hK16 hKK lv σ l3 l1 l2 l4 g0 g1 g2 g4 _ h
            · rw [if_neg c40] at h
              refine eE_aload_n lk310_88 g0 ?_
              refine eR_getA lk310_89 rf_56 rfl ?_
              refine eE_iload lk310_92 g4 ?_
              obtain ⟨x41, h42, h⟩ := Option.bind_eq_some_iff.mp h
              refine eR_iald lk310_94 rfl rfl h42 ?_
              refine eE_aload_n lk310_95 g0 ?_
              refine eR_getA lk310_96 rf_56 rfl ?_
              refine eE_iload_n lk310_99 g2 ?_
              obtain ⟨x43, h44, h⟩ := Option.bind_eq_some_iff.mp h
              refine eR_iald lk310_100 rfl rfl h44 ?_
              refine eE_icmp (t := 108) lk310_101 (by decide) (fun c45 => ?_) (fun c45 => ?_)
              · rw [if_pos c45] at h
                exact m_kth_b108_ok hp0 hK16 hKK lv σ l3 l1 l2 l4 g0 g1 g2 g4 _ h
              · rw [if_neg c45] at h
                exact m_kth_b104_ok hp0 hK16 hKK lv σ l3 l1 l2 l4 g0 g1 g2 g4 _ h
def m_kth_b16 (F : Nat)  : Nat → RS → Int32 → Int32 → Option (Int32 × RS)
  | 0, _, _, _ => none
  | n + 1, σ, l1, l2 =>
    let KK := m_kth_b16 F  n
    if xc2 .ge l2 ((128 : Int32)) = true then (
      some ((-1 : Int32), σ)
    ) else (
      m_kth_b28 F KK F σ l1 l2 ((0 : Int32)) ((0 : Int32))
    )
set_option maxRecDepth 4000 in
theorem m_kth_b16_ok {pF : Nat → List Value → xH → Option (Option Value × xH)} {d : Nat} {aR : Nat} {G : Nat → xC} {T : Nat × Nat} {F : Nat} (hp0 : xNP pF)  : ∀ (n : Nat) (lv : xL) (σ : RS) (l1 : Int32) (l2 : Int32), xg lv 0 = some (.ref aR) → xg lv 1 = some (.int l1) → xg lv 2 = some (.int l2) → ∀ res, m_kth_b16 F  n σ l1 l2 = some res → xR pF (d + 0) kT310 16 5 false (some .int) (some (.int res.1)) (layR aR res.2 G, T) (16, lv, [], (layR aR σ G, T)) := by
  intro n
  induction n with
  | zero => intro lv σ l1 l2 g0 g1 g2 res h; simp [m_kth_b16] at h
  | succ n hKK =>
    intro lv σ l1 l2 g0 g1 g2 res h
    unfold m_kth_b16 at h
    dsimp only at h
    refine eE_iload_n lk310_16 g2 ?_
    refine eE_sipush (v := 128) lk310_17 (by decide) ?_
    refine eE_icmp (t := 139) lk310_20 (by decide) (fun c46 => ?_) (fun c46 => ?_)
    · rw [if_pos c46] at h
      refine eE_iconst (v := (-1)) lk310_139 (by decide) ?_
      cases h
      exact eE_end lk310_140 rfl rfl rfl
    · rw [if_neg c46] at h
      refine eE_iconst (v := 0) lk310_23 (by decide) ?_
      refine eE_stI (j := 3) lk310_24 (Or.inr ⟨_, rfl, rfl⟩) (by decide) (fun vq47 gq48 kq49 => ?_)
      have gq50 := kq49 1 _ (by decide) (fun _ => rfl) g1
      have gq51 := kq49 2 _ (by decide) (fun _ => rfl) g2
      have gq52 := kq49 0 _ (by decide) (fun _ => rfl) g0
      refine eE_iconst (v := 0) lk310_25 (by decide) ?_
      refine eE_stI (j := 4) lk310_26 (Or.inl rfl) (by decide) (fun vq53 gq54 kq55 => ?_)
      have gq56 := kq55 1 _ (by decide) (fun _ => rfl) gq50
      have gq57 := kq55 2 _ (by decide) (fun _ => rfl) gq51
      have gq58 := kq55 0 _ (by decide) (fun _ => rfl) gq52
      have gq59 := kq55 3 _ (by decide) (fun _ => rfl) gq48
      exact m_kth_b28_ok hp0 hKK F vq53 σ l1 l2 ((0 : Int32)) ((0 : Int32)) gq58 gq56 gq57 gq59 gq54 _ h
def m_kth_b0 (F : Nat)  (σ : RS) (l1 : Int32) : Option (Int32 × RS) :=
  if xc0 .lt l1 = true then (
    m_kth_b12 F  σ
  ) else (
    if xc2 .lt l1 (σ.1 20 0) = true then (
      m_kth_b16 F  F σ l1 ((0 : Int32))
    ) else (
      m_kth_b12 F  σ
    )
  )
set_option maxRecDepth 4000 in
theorem m_kth_b0_ok {pF : Nat → List Value → xH → Option (Option Value × xH)} {d : Nat} {aR : Nat} {G : Nat → xC} {T : Nat × Nat} {F : Nat} (hp0 : xNP pF)  : ∀ (lv : xL) (σ : RS) (l1 : Int32), xg lv 0 = some (.ref aR) → xg lv 1 = some (.int l1) → ∀ res, m_kth_b0 F  σ l1 = some res → xR pF (d + 0) kT310 16 5 false (some .int) (some (.int res.1)) (layR aR res.2 G, T) (0, lv, [], (layR aR σ G, T)) := by
  intro lv σ l1 g0 g1 res h
  unfold m_kth_b0 at h
  refine eE_iload_n lk310_0 g1 ?_
  refine eE_if (t := 12) lk310_1 (by decide) (fun c60 => ?_) (fun c60 => ?_)
  · rw [if_pos c60] at h
    exact m_kth_b12_ok hp0  lv σ g0 _ h
  · rw [if_neg c60] at h
    refine eE_iload_n lk310_4 g1 ?_
    refine eE_aload_n lk310_5 g0 ?_
    refine eR_get lk310_6 rf_411 rfl ?_
    refine eE_icmp (t := 14) lk310_9 (by decide) (fun c61 => ?_) (fun c61 => ?_)
    · rw [if_pos c61] at h
      refine eE_iconst (v := 0) lk310_14 (by decide) ?_
      refine eE_stI (j := 2) lk310_15 (Or.inr ⟨_, rfl, rfl⟩) (by decide) (fun vq62 gq63 kq64 => ?_)
      have gq65 := kq64 1 _ (by decide) (fun _ => rfl) g1
      have gq66 := kq64 0 _ (by decide) (fun _ => rfl) g0
      exact m_kth_b16_ok hp0  F vq62 σ l1 ((0 : Int32)) gq66 gq65 gq63 _ h
    · rw [if_neg c61] at h
      exact m_kth_b12_ok hp0  lv σ g0 _ h
def m_kth (F : Nat) (σ : RS) (l1 : Int32) : Option (Int32 × RS) := m_kth_b0 F σ l1
theorem m_kth_ok {pF : Nat → List Value → xH → Option (Option Value × xH)} (hp0 : xNP pF) {d : Nat} {aR : Nat} {G : Nat → xC} {T : Nat × Nat} {σ : RS} {F : Nat} {l1 : Int32} {res : Int32 × RS} (h : m_kth F σ l1 = some res) : xCo pF (d + 1) 310 [.ref aR, .int l1] (layR aR σ G, T) (some (.int res.1)) (layR aR res.2 G, T) := by
  unfold m_kth at h
  exact xCo_R kk_310 mo_310 ni_310 xm_310 (Nat.le_of_ble_eq_true rfl) (hp0 _ (by decide) (by decide) _ _) (m_kth_b0_ok hp0 _ σ l1 rfl rfl _ h)
/-! latency (311), depth 2 -/
def m_latency_b34  (σ : RS) (s1 : Int32) (l1 : Int32) (l2 : Int32) : Option (Int32 × RS) :=
  (some (setI σ 0 0 s1)).bind fun σ1 =>
  if xc0 .le (σ1.1 0 0) = true then (
    (rld σ1 72 l1).bind fun x4 =>
    (rst σ1 72 l1 l2).bind fun σ12 =>
    some (x4, σ12)
  ) else (
    some ((0 : Int32), σ1)
  )
set_option maxRecDepth 4000 in
theorem m_latency_b34_ok {pF : Nat → List Value → xH → Option (Option Value × xH)} {d : Nat} {aR : Nat} {G : Nat → xC} {T : Nat × Nat} (hp0 : xNP pF)  : ∀ (lv : xL) (σ : RS) (s1 : Int32) (l1 : Int32) (l2 : Int32), xg lv 0 = some (.ref aR) → xg lv 1 = some (.int l1) → xg lv 2 = some (.int l2) → ∀ res, m_latency_b34  σ s1 l1 l2 = some res → xR pF (d + 1) kT311 16 4 false (some .int) (some (.int res.1)) (layR aR res.2 G, T) (34, lv, [.int s1, .ref aR], (layR aR σ G, T)) := by
  intro lv σ s1 l1 l2 g0 g1 g2 res h
  unfold m_latency_b34 at h
  obtain ⟨σ1, h2, h⟩ := Option.bind_eq_some_iff.mp h
  refine eR_putS lk311_34 rf_393 rfl (by decide) pf_0.1 pf_0.2 h2 ?_
  refine eE_aload_n lk311_37 g0 ?_
  refine eR_get lk311_38 rf_393 rfl ?_
  refine eE_if (t := 46) lk311_41 (by decide) (fun c3 => ?_) (fun c3 => ?_)
  · rw [if_pos c3] at h
    refine eE_aload_n lk311_46 g0 ?_
    refine eR_getA lk311_47 rf_182 rfl ?_
    refine eE_iload_n lk311_50 g1 ?_
    obtain ⟨x4, h5, h⟩ := Option.bind_eq_some_iff.mp h
    refine eR_iald lk311_51 rfl rfl h5 ?_
    refine eE_stI (j := 3) lk311_52 (Or.inr ⟨_, rfl, rfl⟩) (by decide) (fun vq6 gq7 kq8 => ?_)
    have gq9 := kq8 1 _ (by decide) (fun _ => rfl) g1
    have gq10 := kq8 2 _ (by decide) (fun _ => rfl) g2
    have gq11 := kq8 0 _ (by decide) (fun _ => rfl) g0
    refine eE_aload_n lk311_53 gq11 ?_
    refine eR_getA lk311_54 rf_182 rfl ?_
    refine eE_iload_n lk311_57 gq9 ?_
    refine eE_iload_n lk311_58 gq10 ?_
    obtain ⟨σ12, h13, h⟩ := Option.bind_eq_some_iff.mp h
    refine eR_iast lk311_59 rfl rfl h13 ?_
    refine eE_iload_n lk311_60 gq7 ?_
    cases h
    exact eE_end lk311_61 rfl rfl rfl
  · rw [if_neg c3] at h
    refine eE_iconst (v := 0) lk311_44 (by decide) ?_
    cases h
    exact eE_end lk311_45 rfl rfl rfl
def m_latency_b0  (σ : RS) (l1 : Int32) (l2 : Int32) : Option (Int32 × RS) :=
  (m_in (l1.toInt64) ((0 : Int64)) ((6 : Int64))).bind fun p14 =>
  if xc0 .ne p14 = true then (
    (m_in (l2.toInt64) ((0 : Int64)) ((1000 : Int64))).bind fun p17 =>
    if xc0 .ne p17 = true then (
      m_latency_b34  σ ((0 : Int32)) l1 l2
    ) else (
      m_latency_b34  σ ((2 : Int32)) l1 l2
    )
  ) else (
    m_latency_b34  σ ((1 : Int32)) l1 l2
  )
set_option maxRecDepth 4000 in
theorem m_latency_b0_ok {pF : Nat → List Value → xH → Option (Option Value × xH)} {d : Nat} {aR : Nat} {G : Nat → xC} {T : Nat × Nat} (hp0 : xNP pF)  : ∀ (lv : xL) (σ : RS) (l1 : Int32) (l2 : Int32), xg lv 0 = some (.ref aR) → xg lv 1 = some (.int l1) → xg lv 2 = some (.int l2) → ∀ res, m_latency_b0  σ l1 l2 = some res → xR pF (d + 1) kT311 16 4 false (some .int) (some (.int res.1)) (layR aR res.2 G, T) (0, lv, [], (layR aR σ G, T)) := by
  intro lv σ l1 l2 g0 g1 g2 res h
  unfold m_latency_b0 at h
  refine eE_aload_n lk311_0 g0 ?_
  refine eE_iload_n lk311_1 g1 ?_
  refine eE_i2l lk311_2 ?_
  refine eE_lconst (v := 0) lk311_3 (by decide) ?_
  refine eE_ldc2_w (v := 6) lk311_4 xl_827 ?_
  obtain ⟨p14, h15, h⟩ := Option.bind_eq_some_iff.mp h
  refine eE_stat (as := [.long (l1.toInt64), .long ((0 : Int64)), .long ((6 : Int64))]) lk311_7 mr_799 na_294 rfl rfl (Nat.le_of_ble_eq_true rfl) mm_294 ws_294 (m_in_ok hp0 (d := d + 0) h15) ?_
  refine eE_if (t := 17) lk311_10 (by decide) (fun c16 => ?_) (fun c16 => ?_)
  · rw [if_pos c16] at h
    refine eE_iload_n lk311_17 g2 ?_
    refine eE_i2l lk311_18 ?_
    refine eE_lconst (v := 0) lk311_19 (by decide) ?_
    refine eE_ldc2_w (v := 1000) lk311_20 xl_818 ?_
    obtain ⟨p17, h18, h⟩ := Option.bind_eq_some_iff.mp h
    refine eE_stat (as := [.long (l2.toInt64), .long ((0 : Int64)), .long ((1000 : Int64))]) lk311_23 mr_799 na_294 rfl rfl (Nat.le_of_ble_eq_true rfl) mm_294 ws_294 (m_in_ok hp0 (d := d + 0) h18) ?_
    refine eE_if (t := 33) lk311_26 (by decide) (fun c19 => ?_) (fun c19 => ?_)
    · rw [if_pos c19] at h
      refine eE_iconst (v := 0) lk311_33 (by decide) ?_
      exact m_latency_b34_ok hp0  lv σ ((0 : Int32)) l1 l2 g0 g1 g2 _ h
    · rw [if_neg c19] at h
      refine eE_iconst (v := 2) lk311_29 (by decide) ?_
      refine eE_goto (t := 34) lk311_30 (by decide) ?_
      exact m_latency_b34_ok hp0  lv σ ((2 : Int32)) l1 l2 g0 g1 g2 _ h
  · rw [if_neg c16] at h
    refine eE_iconst (v := 1) lk311_13 (by decide) ?_
    refine eE_goto (t := 34) lk311_14 (by decide) ?_
    exact m_latency_b34_ok hp0  lv σ ((1 : Int32)) l1 l2 g0 g1 g2 _ h
def m_latency (σ : RS) (l1 : Int32) (l2 : Int32) : Option (Int32 × RS) := m_latency_b0 σ l1 l2
theorem m_latency_ok {pF : Nat → List Value → xH → Option (Option Value × xH)} (hp0 : xNP pF) {d : Nat} {aR : Nat} {G : Nat → xC} {T : Nat × Nat} {σ : RS} {l1 : Int32} {l2 : Int32} {res : Int32 × RS} (h : m_latency σ l1 l2 = some res) : xCo pF (d + 2) 311 [.ref aR, .int l1, .int l2] (layR aR σ G, T) (some (.int res.1)) (layR aR res.2 G, T) := by
  unfold m_latency at h
  exact xCo_R kk_311 mo_311 ni_311 xm_311 (Nat.le_of_ble_eq_true rfl) (hp0 _ (by decide) (by decide) _ _) (m_latency_b0_ok hp0 _ σ l1 l2 rfl rfl rfl _ h)
/-! learners (320), depth 7 -/
def m_learners_b58 (F : Nat)  (σ : RS) : Option (Int32 × RS) :=
  if ((0 : Int32)) = 0 ∨ ((0 : Int32)) = 1 then some ((0 : Int32), σ) else none
set_option maxRecDepth 4000 in
theorem m_learners_b58_ok {pF : Nat → List Value → xH → Option (Option Value × xH)} {d : Nat} {aR : Nat} {G : Nat → xC} {T : Nat × Nat} {F : Nat} (hp0 : xNP pF)  : ∀ (lv : xL) (σ : RS), xg lv 0 = some (.ref aR) → ∀ res, m_learners_b58 F  σ = some res → xR pF (d + 6) kT320 16 3 false (some .boolean) (some (.int res.1)) (layR aR res.2 G, T) (58, lv, [], (layR aR σ G, T)) := by
  intro lv σ g0 res h
  unfold m_learners_b58 at h
  refine eE_iconst (v := 0) lk320_58 (by decide) ?_
  by_cases z1 : ((0 : Int32)) = 0 ∨ ((0 : Int32)) = 1
  · rw [if_pos z1] at h; cases h
    exact eE_end lk320_59 rfl rfl (by first | (simp only [xfin, if_true, if_pos z1]; done) | simp [xfin, z1])
  · rw [if_neg z1] at h; cases h
def m_learners_b18 (F : Nat)  (σ : RS) (s1 : Int32) (l1 : Int32) (l2 : Int32) : Option (Int32 × RS) :=
  (some (setI σ 0 0 s1)).bind fun σ2 =>
  if xc0 .gt (σ2.1 0 0) = true then (
    m_learners_b58 F  σ2
  ) else (
    (m_canChange σ2 l1).bind fun p5 =>
    if xc0 .eq p5.1 = true then (
      m_learners_b58 F  p5.2
    ) else (
      (m_in (l2.toInt64) ((0 : Int64)) ((127 : Int64))).bind fun p8 =>
      if xc0 .eq p8 = true then (
        m_learners_b58 F  p5.2
      ) else (
        (m_old p5.2 l1).bind fun p11 =>
        if xc0 .eq (l2 &&& p11.1) = true then (
          (m_old p11.2 l1).bind fun p14 =>
          (m_appendCode F p14.2 l1 (p14.1 ||| (l2 <<< (((14 : Int32)) &&& 31)))).bind fun p16 =>
          (m_sendAll F p16 l1 ((0 : Int32))).bind fun p18 =>
          if ((1 : Int32)) = 0 ∨ ((1 : Int32)) = 1 then some ((1 : Int32), p18) else none
        ) else (
          m_learners_b58 F  p11.2
        )
      )
    )
  )
set_option maxRecDepth 4000 in
theorem m_learners_b18_ok {pF : Nat → List Value → xH → Option (Option Value × xH)} {d : Nat} {aR : Nat} {G : Nat → xC} {T : Nat × Nat} {F : Nat} (hp0 : xNP pF)  : ∀ (lv : xL) (σ : RS) (s1 : Int32) (l1 : Int32) (l2 : Int32), xg lv 0 = some (.ref aR) → xg lv 1 = some (.int l1) → xg lv 2 = some (.int l2) → ∀ res, m_learners_b18 F  σ s1 l1 l2 = some res → xR pF (d + 6) kT320 16 3 false (some .boolean) (some (.int res.1)) (layR aR res.2 G, T) (18, lv, [.int s1, .ref aR], (layR aR σ G, T)) := by
  intro lv σ s1 l1 l2 g0 g1 g2 res h
  unfold m_learners_b18 at h
  obtain ⟨σ2, h3, h⟩ := Option.bind_eq_some_iff.mp h
  refine eR_putS lk320_18 rf_393 rfl (by decide) pf_0.1 pf_0.2 h3 ?_
  refine eE_aload_n lk320_21 g0 ?_
  refine eR_get lk320_22 rf_393 rfl ?_
  refine eE_if (t := 58) lk320_25 (by decide) (fun c4 => ?_) (fun c4 => ?_)
  · rw [if_pos c4] at h
    exact m_learners_b58_ok hp0  lv σ2 g0 _ h
  · rw [if_neg c4] at h
    refine eE_aload_n lk320_28 g0 ?_
    refine eE_iload_n lk320_29 g1 ?_
    obtain ⟨p5, h6, h⟩ := Option.bind_eq_some_iff.mp h
    refine eR_call (as := [.int l1]) lk320_30 mr_853 na_255 rfl rfl (Nat.le_of_ble_eq_true rfl) wv_255 wc_255 (m_canChange_ok hp0 (d := d + 4) h6) ?_
    refine eE_if (t := 58) lk320_33 (by decide) (fun c7 => ?_) (fun c7 => ?_)
    · rw [if_pos c7] at h
      exact m_learners_b58_ok hp0  lv p5.2 g0 _ h
    · rw [if_neg c7] at h
      refine eE_iload_n lk320_36 g2 ?_
      refine eE_i2l lk320_37 ?_
      refine eE_lconst (v := 0) lk320_38 (by decide) ?_
      refine eE_ldc2_w (v := 127) lk320_39 xl_856 ?_
      obtain ⟨p8, h9, h⟩ := Option.bind_eq_some_iff.mp h
      refine eE_stat (as := [.long (l2.toInt64), .long ((0 : Int64)), .long ((127 : Int64))]) lk320_42 mr_799 na_294 rfl rfl (Nat.le_of_ble_eq_true rfl) mm_294 ws_294 (m_in_ok hp0 (d := d + 5) h9) ?_
      refine eE_if (t := 58) lk320_45 (by decide) (fun c10 => ?_) (fun c10 => ?_)
      · rw [if_pos c10] at h
        exact m_learners_b58_ok hp0  lv p5.2 g0 _ h
      · rw [if_neg c10] at h
        refine eE_iload_n lk320_48 g2 ?_
        refine eE_aload_n lk320_49 g0 ?_
        refine eE_iload_n lk320_50 g1 ?_
        obtain ⟨p11, h12, h⟩ := Option.bind_eq_some_iff.mp h
        refine eR_call (as := [.int l1]) lk320_51 mr_622 na_330 rfl rfl (Nat.le_of_ble_eq_true rfl) wv_330 wc_330 (m_old_ok hp0 (d := d + 5) h12) ?_
        refine eE_iand lk320_54 ?_
        refine eE_if (t := 60) lk320_55 (by decide) (fun c13 => ?_) (fun c13 => ?_)
        · rw [if_pos c13] at h
          refine eE_aload_n lk320_60 g0 ?_
          refine eE_iload_n lk320_61 g1 ?_
          refine eE_aload_n lk320_62 g0 ?_
          refine eE_iload_n lk320_63 g1 ?_
          obtain ⟨p14, h15, h⟩ := Option.bind_eq_some_iff.mp h
          refine eR_call (as := [.int l1]) lk320_64 mr_622 na_330 rfl rfl (Nat.le_of_ble_eq_true rfl) wv_330 wc_330 (m_old_ok hp0 (d := d + 5) h15) ?_
          refine eE_iload_n lk320_67 g2 ?_
          refine eE_bipush (v := 14) lk320_68 (by decide) ?_
          refine eE_ishl lk320_70 ?_
          refine eE_ior lk320_71 ?_
          obtain ⟨p16, h17, h⟩ := Option.bind_eq_some_iff.mp h
          refine eR_call (as := [.int l1, .int (p14.1 ||| (l2 <<< (((14 : Int32)) &&& 31)))]) lk320_72 mr_700 na_245 rfl rfl (Nat.le_of_ble_eq_true rfl) wv_245 wc_245 (m_appendCode_ok hp0 (d := d + 1) h17) ?_
          refine eE_aload_n lk320_75 g0 ?_
          refine eE_iload_n lk320_76 g1 ?_
          refine eE_iconst (v := 0) lk320_77 (by decide) ?_
          obtain ⟨p18, h19, h⟩ := Option.bind_eq_some_iff.mp h
          refine eR_call (as := [.int l1, .int ((0 : Int32))]) lk320_78 mr_679 na_355 rfl rfl (Nat.le_of_ble_eq_true rfl) wv_355 wc_355 (m_sendAll_ok hp0 (d := d + 0) h19) ?_
          refine eE_iconst (v := 1) lk320_81 (by decide) ?_
          by_cases z20 : ((1 : Int32)) = 0 ∨ ((1 : Int32)) = 1
          · rw [if_pos z20] at h; cases h
            exact eE_end lk320_82 rfl rfl (by first | (simp only [xfin, if_true, if_pos z20]; done) | simp [xfin, z20])
          · rw [if_neg z20] at h; cases h
        · rw [if_neg c13] at h
          exact m_learners_b58_ok hp0  lv p11.2 g0 _ h
def m_learners_b0 (F : Nat)  (σ : RS) (l1 : Int32) (l2 : Int32) : Option (Int32 × RS) :=
  (m_in (l1.toInt64) ((0 : Int64)) ((6 : Int64))).bind fun p21 =>
  if xc0 .eq p21 = true then (
    m_learners_b18 F  σ ((1 : Int32)) l1 l2
  ) else (
    m_learners_b18 F  σ ((0 : Int32)) l1 l2
  )
set_option maxRecDepth 4000 in
theorem m_learners_b0_ok {pF : Nat → List Value → xH → Option (Option Value × xH)} {d : Nat} {aR : Nat} {G : Nat → xC} {T : Nat × Nat} {F : Nat} (hp0 : xNP pF)  : ∀ (lv : xL) (σ : RS) (l1 : Int32) (l2 : Int32), xg lv 0 = some (.ref aR) → xg lv 1 = some (.int l1) → xg lv 2 = some (.int l2) → ∀ res, m_learners_b0 F  σ l1 l2 = some res → xR pF (d + 6) kT320 16 3 false (some .boolean) (some (.int res.1)) (layR aR res.2 G, T) (0, lv, [], (layR aR σ G, T)) := by
  intro lv σ l1 l2 g0 g1 g2 res h
  unfold m_learners_b0 at h
  refine eE_aload_n lk320_0 g0 ?_
  refine eE_iload_n lk320_1 g1 ?_
  refine eE_i2l lk320_2 ?_
  refine eE_lconst (v := 0) lk320_3 (by decide) ?_
  refine eE_ldc2_w (v := 6) lk320_4 xl_827 ?_
  obtain ⟨p21, h22, h⟩ := Option.bind_eq_some_iff.mp h
  refine eE_stat (as := [.long (l1.toInt64), .long ((0 : Int64)), .long ((6 : Int64))]) lk320_7 mr_799 na_294 rfl rfl (Nat.le_of_ble_eq_true rfl) mm_294 ws_294 (m_in_ok hp0 (d := d + 5) h22) ?_
  refine eE_if (t := 17) lk320_10 (by decide) (fun c23 => ?_) (fun c23 => ?_)
  · rw [if_pos c23] at h
    refine eE_iconst (v := 1) lk320_17 (by decide) ?_
    exact m_learners_b18_ok hp0  lv σ ((1 : Int32)) l1 l2 g0 g1 g2 _ h
  · rw [if_neg c23] at h
    refine eE_iconst (v := 0) lk320_13 (by decide) ?_
    refine eE_goto (t := 18) lk320_14 (by decide) ?_
    exact m_learners_b18_ok hp0  lv σ ((0 : Int32)) l1 l2 g0 g1 g2 _ h
def m_learners (F : Nat) (σ : RS) (l1 : Int32) (l2 : Int32) : Option (Int32 × RS) := m_learners_b0 F σ l1 l2
theorem m_learners_ok {pF : Nat → List Value → xH → Option (Option Value × xH)} (hp0 : xNP pF) {d : Nat} {aR : Nat} {G : Nat → xC} {T : Nat × Nat} {σ : RS} {F : Nat} {l1 : Int32} {l2 : Int32} {res : Int32 × RS} (h : m_learners F σ l1 l2 = some res) : xCo pF (d + 7) 320 [.ref aR, .int l1, .int l2] (layR aR σ G, T) (some (.int res.1)) (layR aR res.2 G, T) := by
  unfold m_learners at h
  exact xCo_R kk_320 mo_320 ni_320 xm_320 (Nat.le_of_ble_eq_true rfl) (hp0 _ (by decide) (by decide) _ _) (m_learners_b0_ok hp0 _ σ l1 l2 rfl rfl rfl _ h)
/-! meddle (324), depth 3 -/
def m_meddle_b167 (F : Nat)  (σ : RS) : Option (Int32 × RS) :=
  if ((1 : Int32)) = 0 ∨ ((1 : Int32)) = 1 then some ((1 : Int32), σ) else none
set_option maxRecDepth 4000 in
theorem m_meddle_b167_ok {pF : Nat → List Value → xH → Option (Option Value × xH)} {d : Nat} {aR : Nat} {G : Nat → xC} {T : Nat × Nat} {F : Nat} (hp0 : xNP pF)  : ∀ (lv : xL) (σ : RS), xg lv 0 = some (.ref aR) → ∀ res, m_meddle_b167 F  σ = some res → xR pF (d + 2) kT324 16 5 false (some .boolean) (some (.int res.1)) (layR aR res.2 G, T) (167, lv, [], (layR aR σ G, T)) := by
  intro lv σ g0 res h
  unfold m_meddle_b167 at h
  refine eE_iconst (v := 1) lk324_167 (by decide) ?_
  by_cases z1 : ((1 : Int32)) = 0 ∨ ((1 : Int32)) = 1
  · rw [if_pos z1] at h; cases h
    exact eE_end lk324_168 rfl rfl (by first | (simp only [xfin, if_true, if_pos z1]; done) | simp [xfin, z1])
  · rw [if_neg z1] at h; cases h
def m_meddle_b49 (F : Nat)  (σ : RS) (s0 : Int32) (l2 : Int32) (l3 : Int32) : Option (Int32 × RS) :=
  if xc0 .ge s0 = true then (
    if xc0 .ne l2 = true then (
      if xc2 .ne l2 ((1 : Int32)) = true then (
        (rld σ 18 s0).bind fun x11 =>
        (rst σ 18 s0 ((x11 + l3))).bind fun σ13 =>
        (rst σ13 19 s0 ((σ13.1 2 0))).bind fun σ15 =>
        (some (setI σ15 2 0 ((σ15.1 2 0) + ((1 : Int32))))).bind fun σ17 =>
        m_meddle_b167 F  σ17
      ) else (
        (rld σ 6 s0).bind fun x19 =>
        (rld σ 7 s0).bind fun x21 =>
        (rld σ 23 ((((16 : Int32)) * x19) + x21)).bind fun x23 =>
        (m_fly F σ s0 ((σ.1 1 0) + x23)).bind fun p25 =>
        m_meddle_b167 F  p25
      )
    ) else (
      (rst σ 17 s0 ((((0 : Int32)) &&& 1))).bind fun σ27 =>
      (some (setI σ27 20 0 ((σ27.1 20 0) - ((1 : Int32))))).bind fun σ29 =>
      (some (setI σ29 22 0 ((σ29.1 22 0) + ((1 : Int32))))).bind fun σ31 =>
      m_meddle_b167 F  σ31
    )
  ) else (
    if ((0 : Int32)) = 0 ∨ ((0 : Int32)) = 1 then some ((0 : Int32), σ) else none
  )
set_option maxRecDepth 4000 in
theorem m_meddle_b49_ok {pF : Nat → List Value → xH → Option (Option Value × xH)} {d : Nat} {aR : Nat} {G : Nat → xC} {T : Nat × Nat} {F : Nat} (hp0 : xNP pF)  : ∀ (lv : xL) (σ : RS) (s0 : Int32) (l2 : Int32) (l3 : Int32), xg lv 0 = some (.ref aR) → xg lv 2 = some (.int l2) → xg lv 3 = some (.int l3) → ∀ res, m_meddle_b49 F  σ s0 l2 l3 = some res → xR pF (d + 2) kT324 16 5 false (some .boolean) (some (.int res.1)) (layR aR res.2 G, T) (49, lv, [.int s0], (layR aR σ G, T)) := by
  intro lv σ s0 l2 l3 g0 g2 g3 res h
  unfold m_meddle_b49 at h
  refine eE_stI (j := 4) lk324_49 (Or.inl rfl) (by decide) (fun vq2 gq3 kq4 => ?_)
  have gq5 := kq4 2 _ (by decide) (fun _ => rfl) g2
  have gq6 := kq4 3 _ (by decide) (fun _ => rfl) g3
  have gq7 := kq4 0 _ (by decide) (fun _ => rfl) g0
  refine eE_iload lk324_51 gq3 ?_
  refine eE_if (t := 58) lk324_53 (by decide) (fun c8 => ?_) (fun c8 => ?_)
  · rw [if_pos c8] at h
    refine eE_iload_n lk324_58 gq5 ?_
    refine eE_if (t := 93) lk324_59 (by decide) (fun c9 => ?_) (fun c9 => ?_)
    · rw [if_pos c9] at h
      refine eE_iload_n lk324_93 gq5 ?_
      refine eE_iconst (v := 1) lk324_94 (by decide) ?_
      refine eE_icmp (t := 135) lk324_95 (by decide) (fun c10 => ?_) (fun c10 => ?_)
      · rw [if_pos c10] at h
        refine eE_aload_n lk324_135 gq7 ?_
        refine eR_getA lk324_136 rf_53 rfl ?_
        refine eE_iload lk324_139 gq3 ?_
        refine eE_dup2 lk324_141 rfl rfl ?_
        obtain ⟨x11, h12, h⟩ := Option.bind_eq_some_iff.mp h
        refine eR_iald lk324_142 rfl rfl h12 ?_
        refine eE_iload_n lk324_143 gq6 ?_
        refine eE_iadd lk324_144 ?_
        obtain ⟨σ13, h14, h⟩ := Option.bind_eq_some_iff.mp h
        refine eR_iast lk324_145 rfl rfl h14 ?_
        refine eE_aload_n lk324_146 gq7 ?_
        refine eR_getA lk324_147 rf_56 rfl ?_
        refine eE_iload lk324_150 gq3 ?_
        refine eE_aload_n lk324_152 gq7 ?_
        refine eR_get lk324_153 rf_421 rfl ?_
        obtain ⟨σ15, h16, h⟩ := Option.bind_eq_some_iff.mp h
        refine eR_iast lk324_156 rfl rfl h16 ?_
        refine eE_aload_n lk324_157 gq7 ?_
        refine eE_dup lk324_158 rfl ?_
        refine eR_get lk324_159 rf_421 rfl ?_
        refine eE_iconst (v := 1) lk324_162 (by decide) ?_
        refine eE_iadd lk324_163 ?_
        obtain ⟨σ17, h18, h⟩ := Option.bind_eq_some_iff.mp h
        refine eR_putS lk324_164 rf_421 rfl (by decide) pf_2.1 pf_2.2 h18 ?_
        exact m_meddle_b167_ok hp0  vq2 σ17 gq7 _ h
      · rw [if_neg c10] at h
        refine eE_aload_n lk324_98 gq7 ?_
        refine eE_iload lk324_99 gq3 ?_
        refine eE_aload_n lk324_101 gq7 ?_
        refine eR_get lk324_102 rf_431 rfl ?_
        refine eE_aload_n lk324_105 gq7 ?_
        refine eR_getA lk324_106 rf_59 rfl ?_
        refine eE_bipush (v := 16) lk324_109 (by decide) ?_
        refine eE_aload_n lk324_111 gq7 ?_
        refine eR_getA lk324_112 rf_13 rfl ?_
        refine eE_iload lk324_115 gq3 ?_
        obtain ⟨x19, h20, h⟩ := Option.bind_eq_some_iff.mp h
        refine eR_iald lk324_117 rfl rfl h20 ?_
        refine eE_imul lk324_118 ?_
        refine eE_aload_n lk324_119 gq7 ?_
        refine eR_getA lk324_120 rf_17 rfl ?_
        refine eE_iload lk324_123 gq3 ?_
        obtain ⟨x21, h22, h⟩ := Option.bind_eq_some_iff.mp h
        refine eR_iald lk324_125 rfl rfl h22 ?_
        refine eE_iadd lk324_126 ?_
        obtain ⟨x23, h24, h⟩ := Option.bind_eq_some_iff.mp h
        refine eR_iald lk324_127 rfl rfl h24 ?_
        refine eE_iadd lk324_128 ?_
        obtain ⟨p25, h26, h⟩ := Option.bind_eq_some_iff.mp h
        refine eR_call (as := [.int s0, .int ((σ.1 1 0) + x23)]) lk324_129 mr_443 na_284 rfl rfl (Nat.le_of_ble_eq_true rfl) wv_284 wc_284 (m_fly_ok hp0 (d := d + 0) h26) ?_
        refine eE_goto (t := 167) lk324_132 (by decide) ?_
        exact m_meddle_b167_ok hp0  vq2 p25 gq7 _ h
    · rw [if_neg c9] at h
      refine eE_aload_n lk324_62 gq7 ?_
      refine eR_getA lk324_63 rf_49 rfl ?_
      refine eE_iload lk324_66 gq3 ?_
      refine eE_iconst (v := 0) lk324_68 (by decide) ?_
      obtain ⟨σ27, h28, h⟩ := Option.bind_eq_some_iff.mp h
      refine eR_zast lk324_69 rfl rfl rfl h28 ?_
      refine eE_aload_n lk324_70 gq7 ?_
      refine eE_dup lk324_71 rfl ?_
      refine eR_get lk324_72 rf_411 rfl ?_
      refine eE_iconst (v := 1) lk324_75 (by decide) ?_
      refine eE_isub lk324_76 ?_
      obtain ⟨σ29, h30, h⟩ := Option.bind_eq_some_iff.mp h
      refine eR_putS lk324_77 rf_411 rfl (by decide) pf_20.1 pf_20.2 h30 ?_
      refine eE_aload_n lk324_80 gq7 ?_
      refine eE_dup lk324_81 rfl ?_
      refine eR_get lk324_82 rf_414 rfl ?_
      refine eE_iconst (v := 1) lk324_85 (by decide) ?_
      refine eE_iadd lk324_86 ?_
      obtain ⟨σ31, h32, h⟩ := Option.bind_eq_some_iff.mp h
      refine eR_putS lk324_87 rf_414 rfl (by decide) pf_22.1 pf_22.2 h32 ?_
      refine eE_goto (t := 167) lk324_90 (by decide) ?_
      exact m_meddle_b167_ok hp0  vq2 σ31 gq7 _ h
  · rw [if_neg c8] at h
    refine eE_iconst (v := 0) lk324_56 (by decide) ?_
    by_cases z33 : ((0 : Int32)) = 0 ∨ ((0 : Int32)) = 1
    · rw [if_pos z33] at h; cases h
      exact eE_end lk324_57 rfl rfl (by first | (simp only [xfin, if_true, if_pos z33]; done) | simp [xfin, z33])
    · rw [if_neg z33] at h; cases h
def m_meddle_b30 (F : Nat)  (σ : RS) (s1 : Int32) (l1 : Int32) (l2 : Int32) (l3 : Int32) : Option (Int32 × RS) :=
  (some (setI σ 0 0 s1)).bind fun σ34 =>
  if xc0 .le (σ34.1 0 0) = true then (
    (m_kth F σ34 l1).bind fun p37 =>
    m_meddle_b49 F  p37.2 (p37.1) l2 l3
  ) else (
    m_meddle_b49 F  σ34 ((-1 : Int32)) l2 l3
  )
set_option maxRecDepth 4000 in
theorem m_meddle_b30_ok {pF : Nat → List Value → xH → Option (Option Value × xH)} {d : Nat} {aR : Nat} {G : Nat → xC} {T : Nat × Nat} {F : Nat} (hp0 : xNP pF)  : ∀ (lv : xL) (σ : RS) (s1 : Int32) (l1 : Int32) (l2 : Int32) (l3 : Int32), xg lv 0 = some (.ref aR) → xg lv 1 = some (.int l1) → xg lv 2 = some (.int l2) → xg lv 3 = some (.int l3) → ∀ res, m_meddle_b30 F  σ s1 l1 l2 l3 = some res → xR pF (d + 2) kT324 16 5 false (some .boolean) (some (.int res.1)) (layR aR res.2 G, T) (30, lv, [.int s1, .ref aR], (layR aR σ G, T)) := by
  intro lv σ s1 l1 l2 l3 g0 g1 g2 g3 res h
  unfold m_meddle_b30 at h
  obtain ⟨σ34, h35, h⟩ := Option.bind_eq_some_iff.mp h
  refine eR_putS lk324_30 rf_393 rfl (by decide) pf_0.1 pf_0.2 h35 ?_
  refine eE_aload_n lk324_33 g0 ?_
  refine eR_get lk324_34 rf_393 rfl ?_
  refine eE_if (t := 44) lk324_37 (by decide) (fun c36 => ?_) (fun c36 => ?_)
  · rw [if_pos c36] at h
    refine eE_aload_n lk324_44 g0 ?_
    refine eE_iload_n lk324_45 g1 ?_
    obtain ⟨p37, h38, h⟩ := Option.bind_eq_some_iff.mp h
    refine eR_call (as := [.int l1]) lk324_46 mr_840 na_310 rfl rfl (Nat.le_of_ble_eq_true rfl) wv_310 wc_310 (m_kth_ok hp0 (d := d + 1) h38) ?_
    exact m_meddle_b49_ok hp0  lv p37.2 (p37.1) l2 l3 g0 g2 g3 _ h
  · rw [if_neg c36] at h
    refine eE_iconst (v := (-1)) lk324_40 (by decide) ?_
    refine eE_goto (t := 49) lk324_41 (by decide) ?_
    exact m_meddle_b49_ok hp0  lv σ34 ((-1 : Int32)) l2 l3 g0 g2 g3 _ h
def m_meddle_b29 (F : Nat)  (σ : RS) (l1 : Int32) (l2 : Int32) (l3 : Int32) : Option (Int32 × RS) :=
  m_meddle_b30 F  σ ((1 : Int32)) l1 l2 l3
set_option maxRecDepth 4000 in
theorem m_meddle_b29_ok {pF : Nat → List Value → xH → Option (Option Value × xH)} {d : Nat} {aR : Nat} {G : Nat → xC} {T : Nat × Nat} {F : Nat} (hp0 : xNP pF)  : ∀ (lv : xL) (σ : RS) (l1 : Int32) (l2 : Int32) (l3 : Int32), xg lv 0 = some (.ref aR) → xg lv 1 = some (.int l1) → xg lv 2 = some (.int l2) → xg lv 3 = some (.int l3) → ∀ res, m_meddle_b29 F  σ l1 l2 l3 = some res → xR pF (d + 2) kT324 16 5 false (some .boolean) (some (.int res.1)) (layR aR res.2 G, T) (29, lv, [.ref aR], (layR aR σ G, T)) := by
  intro lv σ l1 l2 l3 g0 g1 g2 g3 res h
  unfold m_meddle_b29 at h
  refine eE_iconst (v := 1) lk324_29 (by decide) ?_
  exact m_meddle_b30_ok hp0  lv σ ((1 : Int32)) l1 l2 l3 g0 g1 g2 g3 _ h
def m_meddle_b0 (F : Nat)  (σ : RS) (l1 : Int32) (l2 : Int32) (l3 : Int32) : Option (Int32 × RS) :=
  (m_in (l2.toInt64) ((0 : Int64)) ((2 : Int64))).bind fun p39 =>
  if xc0 .eq p39 = true then (
    m_meddle_b29 F  σ l1 l2 l3
  ) else (
    (m_in (l3.toInt64) ((0 : Int64)) ((1000 : Int64))).bind fun p42 =>
    if xc0 .eq p42 = true then (
      m_meddle_b29 F  σ l1 l2 l3
    ) else (
      m_meddle_b30 F  σ ((0 : Int32)) l1 l2 l3
    )
  )
set_option maxRecDepth 4000 in
theorem m_meddle_b0_ok {pF : Nat → List Value → xH → Option (Option Value × xH)} {d : Nat} {aR : Nat} {G : Nat → xC} {T : Nat × Nat} {F : Nat} (hp0 : xNP pF)  : ∀ (lv : xL) (σ : RS) (l1 : Int32) (l2 : Int32) (l3 : Int32), xg lv 0 = some (.ref aR) → xg lv 1 = some (.int l1) → xg lv 2 = some (.int l2) → xg lv 3 = some (.int l3) → ∀ res, m_meddle_b0 F  σ l1 l2 l3 = some res → xR pF (d + 2) kT324 16 5 false (some .boolean) (some (.int res.1)) (layR aR res.2 G, T) (0, lv, [], (layR aR σ G, T)) := by
  intro lv σ l1 l2 l3 g0 g1 g2 g3 res h
  unfold m_meddle_b0 at h
  refine eE_aload_n lk324_0 g0 ?_
  refine eE_iload_n lk324_1 g2 ?_
  refine eE_i2l lk324_2 ?_
  refine eE_lconst (v := 0) lk324_3 (by decide) ?_
  refine eE_ldc2_w (v := 2) lk324_4 xl_838 ?_
  obtain ⟨p39, h40, h⟩ := Option.bind_eq_some_iff.mp h
  refine eE_stat (as := [.long (l2.toInt64), .long ((0 : Int64)), .long ((2 : Int64))]) lk324_7 mr_799 na_294 rfl rfl (Nat.le_of_ble_eq_true rfl) mm_294 ws_294 (m_in_ok hp0 (d := d + 1) h40) ?_
  refine eE_if (t := 29) lk324_10 (by decide) (fun c41 => ?_) (fun c41 => ?_)
  · rw [if_pos c41] at h
    exact m_meddle_b29_ok hp0  lv σ l1 l2 l3 g0 g1 g2 g3 _ h
  · rw [if_neg c41] at h
    refine eE_iload_n lk324_13 g3 ?_
    refine eE_i2l lk324_14 ?_
    refine eE_lconst (v := 0) lk324_15 (by decide) ?_
    refine eE_ldc2_w (v := 1000) lk324_16 xl_818 ?_
    obtain ⟨p42, h43, h⟩ := Option.bind_eq_some_iff.mp h
    refine eE_stat (as := [.long (l3.toInt64), .long ((0 : Int64)), .long ((1000 : Int64))]) lk324_19 mr_799 na_294 rfl rfl (Nat.le_of_ble_eq_true rfl) mm_294 ws_294 (m_in_ok hp0 (d := d + 1) h43) ?_
    refine eE_if (t := 29) lk324_22 (by decide) (fun c44 => ?_) (fun c44 => ?_)
    · rw [if_pos c44] at h
      exact m_meddle_b29_ok hp0  lv σ l1 l2 l3 g0 g1 g2 g3 _ h
    · rw [if_neg c44] at h
      refine eE_iconst (v := 0) lk324_25 (by decide) ?_
      refine eE_goto (t := 30) lk324_26 (by decide) ?_
      exact m_meddle_b30_ok hp0  lv σ ((0 : Int32)) l1 l2 l3 g0 g1 g2 g3 _ h
def m_meddle (F : Nat) (σ : RS) (l1 : Int32) (l2 : Int32) (l3 : Int32) : Option (Int32 × RS) := m_meddle_b0 F σ l1 l2 l3
theorem m_meddle_ok {pF : Nat → List Value → xH → Option (Option Value × xH)} (hp0 : xNP pF) {d : Nat} {aR : Nat} {G : Nat → xC} {T : Nat × Nat} {σ : RS} {F : Nat} {l1 : Int32} {l2 : Int32} {l3 : Int32} {res : Int32 × RS} (h : m_meddle F σ l1 l2 l3 = some res) : xCo pF (d + 3) 324 [.ref aR, .int l1, .int l2, .int l3] (layR aR σ G, T) (some (.int res.1)) (layR aR res.2 G, T) := by
  unfold m_meddle at h
  exact xCo_R kk_324 mo_324 ni_324 xm_324 (Nat.le_of_ble_eq_true rfl) (hp0 _ (by decide) (by decide) _ _) (m_meddle_b0_ok hp0 _ σ l1 l2 l3 rfl rfl rfl rfl _ h)
/-! members (325), depth 7 -/
def m_members_b48 (F : Nat)  (σ : RS) : Option (Int32 × RS) :=
  if ((0 : Int32)) = 0 ∨ ((0 : Int32)) = 1 then some ((0 : Int32), σ) else none
set_option maxRecDepth 4000 in
theorem m_members_b48_ok {pF : Nat → List Value → xH → Option (Option Value × xH)} {d : Nat} {aR : Nat} {G : Nat → xC} {T : Nat × Nat} {F : Nat} (hp0 : xNP pF)  : ∀ (lv : xL) (σ : RS), xg lv 0 = some (.ref aR) → ∀ res, m_members_b48 F  σ = some res → xR pF (d + 6) kT325 16 4 false (some .boolean) (some (.int res.1)) (layR aR res.2 G, T) (48, lv, [], (layR aR σ G, T)) := by
  intro lv σ g0 res h
  unfold m_members_b48 at h
  refine eE_iconst (v := 0) lk325_48 (by decide) ?_
  by_cases z1 : ((0 : Int32)) = 0 ∨ ((0 : Int32)) = 1
  · rw [if_pos z1] at h; cases h
    exact eE_end lk325_49 rfl rfl (by first | (simp only [xfin, if_true, if_pos z1]; done) | simp [xfin, z1])
  · rw [if_neg z1] at h; cases h
def m_members_b116 (F : Nat) (K52 : RS → Int32 → Int32 → Int32 → Option (Int32 × RS)) (σ : RS) (l1 : Int32) (l2 : Int32) (l3 : Int32) : Option (Int32 × RS) :=
  K52 σ l1 l2 (l3 + (1 : Int32))
set_option maxRecDepth 4000 in
theorem m_members_b116_ok {pF : Nat → List Value → xH → Option (Option Value × xH)} {d : Nat} {aR : Nat} {G : Nat → xC} {T : Nat × Nat} {F : Nat} {K52 : RS → Int32 → Int32 → Int32 → Option (Int32 × RS)} (hp0 : xNP pF) (hK52 : ∀ (lv : xL) (σ : RS) (l1 : Int32) (l2 : Int32) (l3 : Int32), xg lv 0 = some (.ref aR) → xg lv 1 = some (.int l1) → xg lv 2 = some (.int l2) → xg lv 3 = some (.int l3) → ∀ res, K52 σ l1 l2 l3 = some res → xR pF (d + 6) kT325 16 4 false (some .boolean) (some (.int res.1)) (layR aR res.2 G, T) (52, lv, [], (layR aR σ G, T))) : ∀ (lv : xL) (σ : RS) (l1 : Int32) (l2 : Int32) (l3 : Int32), xg lv 0 = some (.ref aR) → xg lv 1 = some (.int l1) → xg lv 2 = some (.int l2) → xg lv 3 = some (.int l3) → ∀ res, m_members_b116 F K52 σ l1 l2 l3 = some res → xR pF (d + 6) kT325 16 4 false (some .boolean) (some (.int res.1)) (layR aR res.2 G, T) (116, lv, [], (layR aR σ G, T)) := by
  intro lv σ l1 l2 l3 g0 g1 g2 g3 res h
  unfold m_members_b116 at h
  refine eE_inc (j := 3) (v := l3 + (1 : Int32)) lk325_116 g3 rfl (by decide) (fun vq2 gq3 kq4 => ?_)
  have gq5 := kq4 1 _ (by decide) (fun _ => rfl) g1
  have gq6 := kq4 2 _ (by decide) (fun _ => rfl) g2
  have gq7 := kq4 0 _ (by decide) (fun _ => rfl) g0
  refine eE_goto (t := 52) lk325_119 (by decide) ?_
  exact hK52 vq2 σ l1 l2 (l3 + (1 : Int32)) gq7 gq5 gq6 gq3 _ h
def m_members_b114 (F : Nat)  (σ : RS) : Option (Int32 × RS) :=
  if ((0 : Int32)) = 0 ∨ ((0 : Int32)) = 1 then some ((0 : Int32), σ) else none
set_option maxRecDepth 4000 in
theorem m_members_b114_ok {pF : Nat → List Value → xH → Option (Option Value × xH)} {d : Nat} {aR : Nat} {G : Nat → xC} {T : Nat × Nat} {F : Nat} (hp0 : xNP pF)  : ∀ (lv : xL) (σ : RS), xg lv 0 = some (.ref aR) → ∀ res, m_members_b114 F  σ = some res → xR pF (d + 6) kT325 16 4 false (some .boolean) (some (.int res.1)) (layR aR res.2 G, T) (114, lv, [], (layR aR σ G, T)) := by
  intro lv σ g0 res h
  unfold m_members_b114 at h
  refine eE_iconst (v := 0) lk325_114 (by decide) ?_
  by_cases z8 : ((0 : Int32)) = 0 ∨ ((0 : Int32)) = 1
  · rw [if_pos z8] at h; cases h
    exact eE_end lk325_115 rfl rfl (by first | (simp only [xfin, if_true, if_pos z8]; done) | simp [xfin, z8])
  · rw [if_neg z8] at h; cases h
def m_members_b52 (F : Nat)  : Nat → RS → Int32 → Int32 → Int32 → Option (Int32 × RS)
  | 0, _, _, _, _ => none
  | n + 1, σ, l1, l2, l3 =>
    let KK := m_members_b52 F  n
    if xc2 .ge l3 ((7 : Int32)) = true then (
      (m_old σ l1).bind fun p10 =>
      (m_learned p10.2 l1).bind fun p12 =>
      (m_appendCode F p12.2 l1 ((p10.1 ||| (l2 <<< (((7 : Int32)) &&& 31))) ||| ((p12.1 &&& (l2 ^^^ ((-1 : Int32)))) <<< (((14 : Int32)) &&& 31)))).bind fun p14 =>
      (m_sendAll F p14 l1 ((0 : Int32))).bind fun p16 =>
      if ((1 : Int32)) = 0 ∨ ((1 : Int32)) = 1 then some ((1 : Int32), p16) else none
    ) else (
      if xc0 .eq ((l2 >>> (l3 &&& 31)) &&& ((1 : Int32))) = true then (
        m_members_b116 F KK σ l1 l2 l3
      ) else (
        (m_old σ l1).bind fun p20 =>
        if xc2 .ne ((p20.1 >>> (l3 &&& 31)) &&& ((1 : Int32))) ((1 : Int32)) = true then (
          (m_learned p20.2 l1).bind fun p23 =>
          if xc0 .eq ((p23.1 >>> (l3 &&& 31)) &&& ((1 : Int32))) = true then (
            m_members_b114 F  p23.2
          ) else (
            (rld p23.2 87 ((((7 : Int32)) * l1) + l3)).bind fun x26 =>
            (rld p23.2 75 l1).bind fun x28 =>
            if xc2 .ge x26 x28 = true then (
              m_members_b116 F KK p23.2 l1 l2 l3
            ) else (
              m_members_b114 F  p23.2
            )
          )
        ) else (
          m_members_b116 F KK p20.2 l1 l2 l3
        )
      )
    )
set_option maxRecDepth 4000 in
theorem m_members_b52_ok {pF : Nat → List Value → xH → Option (Option Value × xH)} {d : Nat} {aR : Nat} {G : Nat → xC} {T : Nat × Nat} {F : Nat} (hp0 : xNP pF)  : ∀ (n : Nat) (lv : xL) (σ : RS) (l1 : Int32) (l2 : Int32) (l3 : Int32), xg lv 0 = some (.ref aR) → xg lv 1 = some (.int l1) → xg lv 2 = some (.int l2) → xg lv 3 = some (.int l3) → ∀ res, m_members_b52 F  n σ l1 l2 l3 = some res → xR pF (d + 6) kT325 16 4 false (some .boolean) (some (.int res.1)) (layR aR res.2 G, T) (52, lv, [], (layR aR σ G, T)) := by
  intro n
  induction n with
  | zero => intro lv σ l1 l2 l3 g0 g1 g2 g3 res h; simp [m_members_b52] at h
  | succ n hKK =>
    intro lv σ l1 l2 l3 g0 g1 g2 g3 res h
    unfold m_members_b52 at h
    dsimp only at h
    refine eE_iload_n lk325_52 g3 ?_
    refine eE_bipush (v := 7) lk325_53 (by decide) ?_
    refine eE_icmp (t := 122) lk325_55 (by decide) (fun c9 => ?_) (fun c9 => ?_)
    · rw [if_pos c9] at h
      refine eE_aload_n lk325_122 g0 ?_
      refine eE_iload_n lk325_123 g1 ?_
      refine eE_aload_n lk325_124 g0 ?_
      refine eE_iload_n lk325_125 g1 ?_
      obtain ⟨p10, h11, h⟩ := Option.bind_eq_some_iff.mp h
      refine eR_call (as := [.int l1]) lk325_126 mr_622 na_330 rfl rfl (Nat.le_of_ble_eq_true rfl) wv_330 wc_330 (m_old_ok hp0 (d := d + 5) h11) ?_
      refine eE_iload_n lk325_129 g2 ?_
      refine eE_bipush (v := 7) lk325_130 (by decide) ?_
      refine eE_ishl lk325_132 ?_
      refine eE_ior lk325_133 ?_
      refine eE_aload_n lk325_134 g0 ?_
      refine eE_iload_n lk325_135 g1 ?_
      obtain ⟨p12, h13, h⟩ := Option.bind_eq_some_iff.mp h
      refine eR_call (as := [.int l1]) lk325_136 mr_631 na_319 rfl rfl (Nat.le_of_ble_eq_true rfl) wv_319 wc_319 (m_learned_ok hp0 (d := d + 5) h13) ?_
      refine eE_iload_n lk325_139 g2 ?_
      refine eE_iconst (v := (-1)) lk325_140 (by decide) ?_
      refine eE_ixor lk325_141 ?_
      refine eE_iand lk325_142 ?_
      refine eE_bipush (v := 14) lk325_143 (by decide) ?_
      refine eE_ishl lk325_145 ?_
      refine eE_ior lk325_146 ?_
      obtain ⟨p14, h15, h⟩ := Option.bind_eq_some_iff.mp h
      refine eR_call (as := [.int l1, .int ((p10.1 ||| (l2 <<< (((7 : Int32)) &&& 31))) ||| ((p12.1 &&& (l2 ^^^ ((-1 : Int32)))) <<< (((14 : Int32)) &&& 31)))]) lk325_147 mr_700 na_245 rfl rfl (Nat.le_of_ble_eq_true rfl) wv_245 wc_245 (m_appendCode_ok hp0 (d := d + 1) h15) ?_
      refine eE_aload_n lk325_150 g0 ?_
      refine eE_iload_n lk325_151 g1 ?_
      refine eE_iconst (v := 0) lk325_152 (by decide) ?_
      obtain ⟨p16, h17, h⟩ := Option.bind_eq_some_iff.mp h
      refine eR_call (as := [.int l1, .int ((0 : Int32))]) lk325_153 mr_679 na_355 rfl rfl (Nat.le_of_ble_eq_true rfl) wv_355 wc_355 (m_sendAll_ok hp0 (d := d + 0) h17) ?_
      refine eE_iconst (v := 1) lk325_156 (by decide) ?_
      by_cases z18 : ((1 : Int32)) = 0 ∨ ((1 : Int32)) = 1
      · rw [if_pos z18] at h; cases h
        exact eE_end lk325_157 rfl rfl (by first | (simp only [xfin, if_true, if_pos z18]; done) | simp [xfin, z18])
      · rw [if_neg z18] at h; cases h
    · rw [if_neg c9] at h
      refine eE_iload_n lk325_58 g2 ?_
      refine eE_iload_n lk325_59 g3 ?_
      refine eE_ishr lk325_60 ?_
      refine eE_iconst (v := 1) lk325_61 (by decide) ?_
      refine eE_iand lk325_62 ?_
      refine eE_if (t := 116) lk325_63 (by decide) (fun c19 => ?_) (fun c19 => ?_)
      · rw [if_pos c19] at h
        exact m_members_b116_ok hp0 hKK lv σ l1 l2 l3 g0 g1 g2 g3 _ h
      · rw [if_neg c19] at h
        refine eE_aload_n lk325_66 g0 ?_
        refine eE_iload_n lk325_67 g1 ?_
        obtain ⟨p20, h21, h⟩ := Option.bind_eq_some_iff.mp h
        refine eR_call (as := [.int l1]) lk325_68 mr_622 na_330 rfl rfl (Nat.le_of_ble_eq_true rfl) wv_330 wc_330 (m_old_ok hp0 (d := d + 5) h21) ?_
        refine eE_iload_n lk325_71 g3 ?_
        refine eE_ishr lk325_72 ?_
        refine eE_iconst (v := 1) lk325_73 (by decide) ?_
        refine eE_iand lk325_74 ?_
        refine eE_iconst (v := 1) lk325_75 (by decide) ?_
        refine eE_icmp (t := 82) lk325_76 (by decide) (fun c22 => ?_) (fun c22 => ?_)
        · rw [if_pos c22] at h
          refine eE_aload_n lk325_82 g0 ?_
          refine eE_iload_n lk325_83 g1 ?_
          obtain ⟨p23, h24, h⟩ := Option.bind_eq_some_iff.mp h
          refine eR_call (as := [.int l1]) lk325_84 mr_631 na_319 rfl rfl (Nat.le_of_ble_eq_true rfl) wv_319 wc_319 (m_learned_ok hp0 (d := d + 5) h24) ?_
          refine eE_iload_n lk325_87 g3 ?_
          refine eE_ishr lk325_88 ?_
          refine eE_iconst (v := 1) lk325_89 (by decide) ?_
          refine eE_iand lk325_90 ?_
          refine eE_if (t := 114) lk325_91 (by decide) (fun c25 => ?_) (fun c25 => ?_)
          · rw [if_pos c25] at h
            exact m_members_b114_ok hp0  lv p23.2 g0 _ h
          · rw [if_neg c25] at h
            refine eE_aload_n lk325_94 g0 ?_
            refine eR_getA lk325_95 rf_227 rfl ?_
            refine eE_bipush (v := 7) lk325_98 (by decide) ?_
            refine eE_iload_n lk325_100 g1 ?_
            refine eE_imul lk325_101 ?_
            refine eE_iload_n lk325_102 g3 ?_
            refine eE_iadd lk325_103 ?_
            obtain ⟨x26, h27, h⟩ := Option.bind_eq_some_iff.mp h
            refine eR_iald lk325_104 rfl rfl h27 ?_
            refine eE_aload_n lk325_105 g0 ?_
            refine eR_getA lk325_106 rf_191 rfl ?_
            refine eE_iload_n lk325_109 g1 ?_
            obtain ⟨x28, h29, h⟩ := Option.bind_eq_some_iff.mp h
            refine eR_iald lk325_110 rfl rfl h29 ?_
            refine eE_icmp (t := 116) lk325_111 (by decide) (fun c30 => ?_) (fun c30 => ?_)
            · rw [if_pos c30] at h
              exact m_members_b116_ok hp0 hKK lv p23.2 l1 l2 l3 g0 g1 g2 g3 _ h
            · rw [if_neg c30] at h
              exact m_members_b114_ok hp0  lv p23.2 g0 _ h
        · rw [if_neg c22] at h
          refine eE_goto (t := 116) lk325_79 (by decide) ?_
          exact m_members_b116_ok hp0 hKK lv p20.2 l1 l2 l3 g0 g1 g2 g3 _ h
def m_members_b18 (F : Nat)  (σ : RS) (s1 : Int32) (l1 : Int32) (l2 : Int32) : Option (Int32 × RS) :=
  (some (setI σ 0 0 s1)).bind fun σ31 =>
  if xc0 .gt (σ31.1 0 0) = true then (
    m_members_b48 F  σ31
  ) else (
    (m_canChange σ31 l1).bind fun p34 =>
    if xc0 .eq p34.1 = true then (
      m_members_b48 F  p34.2
    ) else (
      (m_in (l2.toInt64) ((1 : Int64)) ((127 : Int64))).bind fun p37 =>
      if xc0 .ne p37 = true then (
        m_members_b52 F  F p34.2 l1 l2 ((0 : Int32))
      ) else (
        m_members_b48 F  p34.2
      )
    )
  )
set_option maxRecDepth 4000 in
theorem m_members_b18_ok {pF : Nat → List Value → xH → Option (Option Value × xH)} {d : Nat} {aR : Nat} {G : Nat → xC} {T : Nat × Nat} {F : Nat} (hp0 : xNP pF)  : ∀ (lv : xL) (σ : RS) (s1 : Int32) (l1 : Int32) (l2 : Int32), xg lv 0 = some (.ref aR) → xg lv 1 = some (.int l1) → xg lv 2 = some (.int l2) → ∀ res, m_members_b18 F  σ s1 l1 l2 = some res → xR pF (d + 6) kT325 16 4 false (some .boolean) (some (.int res.1)) (layR aR res.2 G, T) (18, lv, [.int s1, .ref aR], (layR aR σ G, T)) := by
  intro lv σ s1 l1 l2 g0 g1 g2 res h
  unfold m_members_b18 at h
  obtain ⟨σ31, h32, h⟩ := Option.bind_eq_some_iff.mp h
  refine eR_putS lk325_18 rf_393 rfl (by decide) pf_0.1 pf_0.2 h32 ?_
  refine eE_aload_n lk325_21 g0 ?_
  refine eR_get lk325_22 rf_393 rfl ?_
  refine eE_if (t := 48) lk325_25 (by decide) (fun c33 => ?_) (fun c33 => ?_)
  · rw [if_pos c33] at h
    exact m_members_b48_ok hp0  lv σ31 g0 _ h
  · rw [if_neg c33] at h
    refine eE_aload_n lk325_28 g0 ?_
    refine eE_iload_n lk325_29 g1 ?_
    obtain ⟨p34, h35, h⟩ := Option.bind_eq_some_iff.mp h
    refine eR_call (as := [.int l1]) lk325_30 mr_853 na_255 rfl rfl (Nat.le_of_ble_eq_true rfl) wv_255 wc_255 (m_canChange_ok hp0 (d := d + 4) h35) ?_
    refine eE_if (t := 48) lk325_33 (by decide) (fun c36 => ?_) (fun c36 => ?_)
    · rw [if_pos c36] at h
      exact m_members_b48_ok hp0  lv p34.2 g0 _ h
    · rw [if_neg c36] at h
      refine eE_iload_n lk325_36 g2 ?_
      refine eE_i2l lk325_37 ?_
      refine eE_lconst (v := 1) lk325_38 (by decide) ?_
      refine eE_ldc2_w (v := 127) lk325_39 xl_856 ?_
      obtain ⟨p37, h38, h⟩ := Option.bind_eq_some_iff.mp h
      refine eE_stat (as := [.long (l2.toInt64), .long ((1 : Int64)), .long ((127 : Int64))]) lk325_42 mr_799 na_294 rfl rfl (Nat.le_of_ble_eq_true rfl) mm_294 ws_294 (m_in_ok hp0 (d := d + 5) h38) ?_
      refine eE_if (t := 50) lk325_45 (by decide) (fun c39 => ?_) (fun c39 => ?_)
      · rw [if_pos c39] at h
        refine eE_iconst (v := 0) lk325_50 (by decide) ?_
        refine eE_stI (j := 3) lk325_51 (Or.inr ⟨_, rfl, rfl⟩) (by decide) (fun vq40 gq41 kq42 => ?_)
        have gq43 := kq42 1 _ (by decide) (fun _ => rfl) g1
        have gq44 := kq42 2 _ (by decide) (fun _ => rfl) g2
        have gq45 := kq42 0 _ (by decide) (fun _ => rfl) g0
        exact m_members_b52_ok hp0  F vq40 p34.2 l1 l2 ((0 : Int32)) gq45 gq43 gq44 gq41 _ h
      · rw [if_neg c39] at h
        exact m_members_b48_ok hp0  lv p34.2 g0 _ h
def m_members_b0 (F : Nat)  (σ : RS) (l1 : Int32) (l2 : Int32) : Option (Int32 × RS) :=
  (m_in (l1.toInt64) ((0 : Int64)) ((6 : Int64))).bind fun p46 =>
  if xc0 .eq p46 = true then (
    m_members_b18 F  σ ((1 : Int32)) l1 l2
  ) else (
    m_members_b18 F  σ ((0 : Int32)) l1 l2
  )
set_option maxRecDepth 4000 in
theorem m_members_b0_ok {pF : Nat → List Value → xH → Option (Option Value × xH)} {d : Nat} {aR : Nat} {G : Nat → xC} {T : Nat × Nat} {F : Nat} (hp0 : xNP pF)  : ∀ (lv : xL) (σ : RS) (l1 : Int32) (l2 : Int32), xg lv 0 = some (.ref aR) → xg lv 1 = some (.int l1) → xg lv 2 = some (.int l2) → ∀ res, m_members_b0 F  σ l1 l2 = some res → xR pF (d + 6) kT325 16 4 false (some .boolean) (some (.int res.1)) (layR aR res.2 G, T) (0, lv, [], (layR aR σ G, T)) := by
  intro lv σ l1 l2 g0 g1 g2 res h
  unfold m_members_b0 at h
  refine eE_aload_n lk325_0 g0 ?_
  refine eE_iload_n lk325_1 g1 ?_
  refine eE_i2l lk325_2 ?_
  refine eE_lconst (v := 0) lk325_3 (by decide) ?_
  refine eE_ldc2_w (v := 6) lk325_4 xl_827 ?_
  obtain ⟨p46, h47, h⟩ := Option.bind_eq_some_iff.mp h
  refine eE_stat (as := [.long (l1.toInt64), .long ((0 : Int64)), .long ((6 : Int64))]) lk325_7 mr_799 na_294 rfl rfl (Nat.le_of_ble_eq_true rfl) mm_294 ws_294 (m_in_ok hp0 (d := d + 5) h47) ?_
  refine eE_if (t := 17) lk325_10 (by decide) (fun c48 => ?_) (fun c48 => ?_)
  · rw [if_pos c48] at h
    refine eE_iconst (v := 1) lk325_17 (by decide) ?_
    exact m_members_b18_ok hp0  lv σ ((1 : Int32)) l1 l2 g0 g1 g2 _ h
  · rw [if_neg c48] at h
    refine eE_iconst (v := 0) lk325_13 (by decide) ?_
    refine eE_goto (t := 18) lk325_14 (by decide) ?_
    exact m_members_b18_ok hp0  lv σ ((0 : Int32)) l1 l2 g0 g1 g2 _ h
def m_members (F : Nat) (σ : RS) (l1 : Int32) (l2 : Int32) : Option (Int32 × RS) := m_members_b0 F σ l1 l2
theorem m_members_ok {pF : Nat → List Value → xH → Option (Option Value × xH)} (hp0 : xNP pF) {d : Nat} {aR : Nat} {G : Nat → xC} {T : Nat × Nat} {σ : RS} {F : Nat} {l1 : Int32} {l2 : Int32} {res : Int32 × RS} (h : m_members F σ l1 l2 = some res) : xCo pF (d + 7) 325 [.ref aR, .int l1, .int l2] (layR aR σ G, T) (some (.int res.1)) (layR aR res.2 G, T) := by
  unfold m_members at h
  exact xCo_R kk_325 mo_325 ni_325 xm_325 (Nat.le_of_ble_eq_true rfl) (hp0 _ (by decide) (by decide) _ _) (m_members_b0_ok hp0 _ σ l1 l2 rfl rfl rfl _ h)
/-! message (326), depth 2 -/
def m_message_b101 (F : Nat)  (σ : RS) (s0 : Int32) : Option (Int32 × RS) :=
  some (s0, σ)
set_option maxRecDepth 4000 in
theorem m_message_b101_ok {pF : Nat → List Value → xH → Option (Option Value × xH)} {d : Nat} {aR : Nat} {G : Nat → xC} {T : Nat × Nat} {F : Nat} (hp0 : xNP pF)  : ∀ (lv : xL) (σ : RS) (s0 : Int32), xg lv 0 = some (.ref aR) → ∀ res, m_message_b101 F  σ s0 = some res → xR pF (d + 1) kT326 16 4 false (some .int) (some (.int res.1)) (layR aR res.2 G, T) (101, lv, [.int s0], (layR aR σ G, T)) := by
  intro lv σ s0 g0 res h
  unfold m_message_b101 at h
  cases h
  exact eE_end lk326_101 rfl rfl rfl
def m_message_b28 (F : Nat)  (σ : RS) (s1 : Int32) (l2 : Int32) (l3 : Int32) : Option (Int32 × RS) :=
  (some (setI σ 0 0 s1)).bind fun σ1 =>
  if xc0 .le (σ1.1 0 0) = true then (
    if xc0 .ne l2 = true then (
      if xc2 .ne l2 ((1 : Int32)) = true then (
        if xc2 .ne l2 ((2 : Int32)) = true then (
          if xc2 .ne l2 ((3 : Int32)) = true then (
            (rld σ1 18 l3).bind fun x8 =>
            m_message_b101 F  σ1 x8
          ) else (
            (rld σ1 9 l3).bind fun x10 =>
            m_message_b101 F  σ1 x10
          )
        ) else (
          (rld σ1 8 l3).bind fun x12 =>
          m_message_b101 F  σ1 x12
        )
      ) else (
        (rld σ1 7 l3).bind fun x14 =>
        m_message_b101 F  σ1 x14
      )
    ) else (
      (rld σ1 6 l3).bind fun x16 =>
      m_message_b101 F  σ1 x16
    )
  ) else (
    some ((0 : Int32), σ1)
  )
set_option maxRecDepth 4000 in
theorem m_message_b28_ok {pF : Nat → List Value → xH → Option (Option Value × xH)} {d : Nat} {aR : Nat} {G : Nat → xC} {T : Nat × Nat} {F : Nat} (hp0 : xNP pF)  : ∀ (lv : xL) (σ : RS) (s1 : Int32) (l2 : Int32) (l3 : Int32), xg lv 0 = some (.ref aR) → xg lv 2 = some (.int l2) → xg lv 3 = some (.int l3) → ∀ res, m_message_b28 F  σ s1 l2 l3 = some res → xR pF (d + 1) kT326 16 4 false (some .int) (some (.int res.1)) (layR aR res.2 G, T) (28, lv, [.int s1, .ref aR], (layR aR σ G, T)) := by
  intro lv σ s1 l2 l3 g0 g2 g3 res h
  unfold m_message_b28 at h
  obtain ⟨σ1, h2, h⟩ := Option.bind_eq_some_iff.mp h
  refine eR_putS lk326_28 rf_393 rfl (by decide) pf_0.1 pf_0.2 h2 ?_
  refine eE_aload_n lk326_31 g0 ?_
  refine eR_get lk326_32 rf_393 rfl ?_
  refine eE_if (t := 40) lk326_35 (by decide) (fun c3 => ?_) (fun c3 => ?_)
  · rw [if_pos c3] at h
    refine eE_iload_n lk326_40 g2 ?_
    refine eE_if (t := 53) lk326_41 (by decide) (fun c4 => ?_) (fun c4 => ?_)
    · rw [if_pos c4] at h
      refine eE_iload_n lk326_53 g2 ?_
      refine eE_iconst (v := 1) lk326_54 (by decide) ?_
      refine eE_icmp (t := 67) lk326_55 (by decide) (fun c5 => ?_) (fun c5 => ?_)
      · rw [if_pos c5] at h
        refine eE_iload_n lk326_67 g2 ?_
        refine eE_iconst (v := 2) lk326_68 (by decide) ?_
        refine eE_icmp (t := 81) lk326_69 (by decide) (fun c6 => ?_) (fun c6 => ?_)
        · rw [if_pos c6] at h
          refine eE_iload_n lk326_81 g2 ?_
          refine eE_iconst (v := 3) lk326_82 (by decide) ?_
          refine eE_icmp (t := 95) lk326_83 (by decide) (fun c7 => ?_) (fun c7 => ?_)
          · rw [if_pos c7] at h
            refine eE_aload_n lk326_95 g0 ?_
            refine eR_getA lk326_96 rf_53 rfl ?_
            refine eE_iload_n lk326_99 g3 ?_
            obtain ⟨x8, h9, h⟩ := Option.bind_eq_some_iff.mp h
            refine eR_iald lk326_100 rfl rfl h9 ?_
            exact m_message_b101_ok hp0  lv σ1 x8 g0 _ h
          · rw [if_neg c7] at h
            refine eE_aload_n lk326_86 g0 ?_
            refine eR_getA lk326_87 rf_23 rfl ?_
            refine eE_iload_n lk326_90 g3 ?_
            obtain ⟨x10, h11, h⟩ := Option.bind_eq_some_iff.mp h
            refine eR_iald lk326_91 rfl rfl h11 ?_
            refine eE_goto (t := 101) lk326_92 (by decide) ?_
            exact m_message_b101_ok hp0  lv σ1 x10 g0 _ h
        · rw [if_neg c6] at h
          refine eE_aload_n lk326_72 g0 ?_
          refine eR_getA lk326_73 rf_20 rfl ?_
          refine eE_iload_n lk326_76 g3 ?_
          obtain ⟨x12, h13, h⟩ := Option.bind_eq_some_iff.mp h
          refine eR_iald lk326_77 rfl rfl h13 ?_
          refine eE_goto (t := 101) lk326_78 (by decide) ?_
          exact m_message_b101_ok hp0  lv σ1 x12 g0 _ h
      · rw [if_neg c5] at h
        refine eE_aload_n lk326_58 g0 ?_
        refine eR_getA lk326_59 rf_17 rfl ?_
        refine eE_iload_n lk326_62 g3 ?_
        obtain ⟨x14, h15, h⟩ := Option.bind_eq_some_iff.mp h
        refine eR_iald lk326_63 rfl rfl h15 ?_
        refine eE_goto (t := 101) lk326_64 (by decide) ?_
        exact m_message_b101_ok hp0  lv σ1 x14 g0 _ h
    · rw [if_neg c4] at h
      refine eE_aload_n lk326_44 g0 ?_
      refine eR_getA lk326_45 rf_13 rfl ?_
      refine eE_iload_n lk326_48 g3 ?_
      obtain ⟨x16, h17, h⟩ := Option.bind_eq_some_iff.mp h
      refine eR_iald lk326_49 rfl rfl h17 ?_
      refine eE_goto (t := 101) lk326_50 (by decide) ?_
      exact m_message_b101_ok hp0  lv σ1 x16 g0 _ h
  · rw [if_neg c3] at h
    refine eE_iconst (v := 0) lk326_38 (by decide) ?_
    cases h
    exact eE_end lk326_39 rfl rfl rfl
def m_message_b23 (F : Nat)  (σ : RS) (l2 : Int32) (l3 : Int32) : Option (Int32 × RS) :=
  m_message_b28 F  σ ((1 : Int32)) l2 l3
set_option maxRecDepth 4000 in
theorem m_message_b23_ok {pF : Nat → List Value → xH → Option (Option Value × xH)} {d : Nat} {aR : Nat} {G : Nat → xC} {T : Nat × Nat} {F : Nat} (hp0 : xNP pF)  : ∀ (lv : xL) (σ : RS) (l2 : Int32) (l3 : Int32), xg lv 0 = some (.ref aR) → xg lv 2 = some (.int l2) → xg lv 3 = some (.int l3) → ∀ res, m_message_b23 F  σ l2 l3 = some res → xR pF (d + 1) kT326 16 4 false (some .int) (some (.int res.1)) (layR aR res.2 G, T) (23, lv, [.ref aR], (layR aR σ G, T)) := by
  intro lv σ l2 l3 g0 g2 g3 res h
  unfold m_message_b23 at h
  refine eE_iconst (v := 1) lk326_23 (by decide) ?_
  refine eE_goto (t := 28) lk326_24 (by decide) ?_
  exact m_message_b28_ok hp0  lv σ ((1 : Int32)) l2 l3 g0 g2 g3 _ h
def m_message_b0 (F : Nat)  (σ : RS) (l1 : Int32) (l2 : Int32) : Option (Int32 × RS) :=
  (m_kth F σ l1).bind fun p18 =>
  if xc0 .lt p18.1 = true then (
    m_message_b23 F  p18.2 l2 (p18.1)
  ) else (
    (m_in (l2.toInt64) ((0 : Int64)) ((4 : Int64))).bind fun p26 =>
    if xc0 .ne p26 = true then (
      m_message_b28 F  p18.2 ((0 : Int32)) l2 (p18.1)
    ) else (
      m_message_b23 F  p18.2 l2 (p18.1)
    )
  )
set_option maxRecDepth 4000 in
theorem m_message_b0_ok {pF : Nat → List Value → xH → Option (Option Value × xH)} {d : Nat} {aR : Nat} {G : Nat → xC} {T : Nat × Nat} {F : Nat} (hp0 : xNP pF)  : ∀ (lv : xL) (σ : RS) (l1 : Int32) (l2 : Int32), xg lv 0 = some (.ref aR) → xg lv 1 = some (.int l1) → xg lv 2 = some (.int l2) → ∀ res, m_message_b0 F  σ l1 l2 = some res → xR pF (d + 1) kT326 16 4 false (some .int) (some (.int res.1)) (layR aR res.2 G, T) (0, lv, [], (layR aR σ G, T)) := by
  intro lv σ l1 l2 g0 g1 g2 res h
  unfold m_message_b0 at h
  refine eE_aload_n lk326_0 g0 ?_
  refine eE_iload_n lk326_1 g1 ?_
  obtain ⟨p18, h19, h⟩ := Option.bind_eq_some_iff.mp h
  refine eR_call (as := [.int l1]) lk326_2 mr_840 na_310 rfl rfl (Nat.le_of_ble_eq_true rfl) wv_310 wc_310 (m_kth_ok hp0 (d := d + 0) h19) ?_
  refine eE_stI (j := 3) lk326_5 (Or.inr ⟨_, rfl, rfl⟩) (by decide) (fun vq20 gq21 kq22 => ?_)
  have gq23 := kq22 2 _ (by decide) (fun _ => rfl) g2
  have gq24 := kq22 0 _ (by decide) (fun _ => rfl) g0
  refine eE_aload_n lk326_6 gq24 ?_
  refine eE_iload_n lk326_7 gq21 ?_
  refine eE_if (t := 23) lk326_8 (by decide) (fun c25 => ?_) (fun c25 => ?_)
  · rw [if_pos c25] at h
    exact m_message_b23_ok hp0  vq20 p18.2 l2 (p18.1) gq24 gq23 gq21 _ h
  · rw [if_neg c25] at h
    refine eE_iload_n lk326_11 gq23 ?_
    refine eE_i2l lk326_12 ?_
    refine eE_lconst (v := 0) lk326_13 (by decide) ?_
    refine eE_ldc2_w (v := 4) lk326_14 xl_858 ?_
    obtain ⟨p26, h27, h⟩ := Option.bind_eq_some_iff.mp h
    refine eE_stat (as := [.long (l2.toInt64), .long ((0 : Int64)), .long ((4 : Int64))]) lk326_17 mr_799 na_294 rfl rfl (Nat.le_of_ble_eq_true rfl) mm_294 ws_294 (m_in_ok hp0 (d := d + 0) h27) ?_
    refine eE_if (t := 27) lk326_20 (by decide) (fun c28 => ?_) (fun c28 => ?_)
    · rw [if_pos c28] at h
      refine eE_iconst (v := 0) lk326_27 (by decide) ?_
      exact m_message_b28_ok hp0  vq20 p18.2 ((0 : Int32)) l2 (p18.1) gq24 gq23 gq21 _ h
    · rw [if_neg c28] at h
      exact m_message_b23_ok hp0  vq20 p18.2 l2 (p18.1) gq24 gq23 gq21 _ h
def m_message (F : Nat) (σ : RS) (l1 : Int32) (l2 : Int32) : Option (Int32 × RS) := m_message_b0 F σ l1 l2
theorem m_message_ok {pF : Nat → List Value → xH → Option (Option Value × xH)} (hp0 : xNP pF) {d : Nat} {aR : Nat} {G : Nat → xC} {T : Nat × Nat} {σ : RS} {F : Nat} {l1 : Int32} {l2 : Int32} {res : Int32 × RS} (h : m_message F σ l1 l2 = some res) : xCo pF (d + 2) 326 [.ref aR, .int l1, .int l2] (layR aR σ G, T) (some (.int res.1)) (layR aR res.2 G, T) := by
  unfold m_message at h
  exact xCo_R kk_326 mo_326 ni_326 xm_326 (Nat.le_of_ble_eq_true rfl) (hp0 _ (by decide) (by decide) _ _) (m_message_b0_ok hp0 _ σ l1 l2 rfl rfl rfl _ h)
