/-! printed by wip/whole/gen_ref.py -/
/-! compact (259), depth 4 -/
def m_compact_b62 (F : Nat) (K32 : RS → Int32 → Int32 → Int32 → Int32 → Int32 → Option (RS)) (σ : RS) (l1 : Int32) (l2 : Int32) (l3 : Int32) (l4 : Int32) (l5 : Int32) : Option (RS) :=
  K32 σ l1 l2 l3 l4 (l5 + (1 : Int32))
set_option maxRecDepth 4000 in
theorem m_compact_b62_ok {pF : Nat → List Value → xH → Option (Option Value × xH)} {d : Nat} {aR : Nat} {G : Nat → xC} {T : Nat × Nat} {F : Nat} {K32 : RS → Int32 → Int32 → Int32 → Int32 → Int32 → Option (RS)} (hp0 : xNP pF) (hK32 : ∀ (lv : xL) (σ : RS) (l1 : Int32) (l2 : Int32) (l3 : Int32) (l4 : Int32) (l5 : Int32), xg lv 0 = some (.ref aR) → xg lv 1 = some (.int l1) → xg lv 2 = some (.int l2) → xg lv 3 = some (.int l3) → xg lv 4 = some (.int l4) → xg lv 5 = some (.int l5) → ∀ res, K32 σ l1 l2 l3 l4 l5 = some res → xR pF (d + 3) kT259 16 6 false none none (layR aR res G, T) (32, lv, [], (layR aR σ G, T))) : ∀ (lv : xL) (σ : RS) (l1 : Int32) (l2 : Int32) (l3 : Int32) (l4 : Int32) (l5 : Int32), xg lv 0 = some (.ref aR) → xg lv 1 = some (.int l1) → xg lv 2 = some (.int l2) → xg lv 3 = some (.int l3) → xg lv 4 = some (.int l4) → xg lv 5 = some (.int l5) → ∀ res, m_compact_b62 F K32 σ l1 l2 l3 l4 l5 = some res → xR pF (d + 3) kT259 16 6 false none none (layR aR res G, T) (62, lv, [], (layR aR σ G, T)) := by
  intro lv σ l1 l2 l3 l4 l5 g0 g1 g2 g3 g4 g5 res h
  unfold m_compact_b62 at h
  refine eE_inc (j := 5) (v := l5 + (1 : Int32)) lk259_62 g5 rfl (by decide) (fun vq1 gq2 kq3 => ?_)
  have gq4 := kq3 1 _ (by decide) (fun _ => rfl) g1
  have gq5 := kq3 2 _ (by decide) (fun _ => rfl) g2
  have gq6 := kq3 3 _ (by decide) (fun _ => rfl) g3
  have gq7 := kq3 4 _ (by decide) (fun _ => rfl) g4
  have gq8 := kq3 0 _ (by decide) (fun _ => rfl) g0
  refine eE_goto (t := 32) lk259_65 (by decide) ?_
  exact hK32 vq1 σ l1 l2 l3 l4 (l5 + (1 : Int32)) gq8 gq4 gq5 gq6 gq7 gq2 _ h
def m_compact_b118 (F : Nat)  : Nat → RS → Int32 → Int32 → Option (RS)
  | 0, _, _, _ => none
  | n + 1, σ, l1, l5 =>
    let KK := m_compact_b118 F  n
    if xc2 .ge l5 ((7 : Int32)) = true then (
      some σ
    ) else (
      (rst σ 90 ((((7 : Int32)) * l1) + l5) (((0 : Int32)))).bind fun σ10 =>
      KK σ10 l1 (l5 + (1 : Int32))
    )
set_option maxRecDepth 4000 in
theorem m_compact_b118_ok {pF : Nat → List Value → xH → Option (Option Value × xH)} {d : Nat} {aR : Nat} {G : Nat → xC} {T : Nat × Nat} {F : Nat} (hp0 : xNP pF)  : ∀ (n : Nat) (lv : xL) (σ : RS) (l1 : Int32) (l5 : Int32), xg lv 0 = some (.ref aR) → xg lv 1 = some (.int l1) → xg lv 5 = some (.int l5) → ∀ res, m_compact_b118 F  n σ l1 l5 = some res → xR pF (d + 3) kT259 16 6 false none none (layR aR res G, T) (118, lv, [], (layR aR σ G, T)) := by
  intro n
  induction n with
  | zero => intro lv σ l1 l5 g0 g1 g5 res h; simp [m_compact_b118] at h
  | succ n hKK =>
    intro lv σ l1 l5 g0 g1 g5 res h
    unfold m_compact_b118 at h
    dsimp only at h
    refine eE_iload lk259_118 g5 ?_
    refine eE_bipush (v := 7) lk259_120 (by decide) ?_
    refine eE_icmp (t := 144) lk259_122 (by decide) (fun c9 => ?_) (fun c9 => ?_)
    · rw [if_pos c9] at h
      cases h
      exact eE_end lk259_144 rfl rfl rfl
    · rw [if_neg c9] at h
      refine eE_aload_n lk259_125 g0 ?_
      refine eR_getA lk259_126 rf_236 rfl ?_
      refine eE_bipush (v := 7) lk259_129 (by decide) ?_
      refine eE_iload_n lk259_131 g1 ?_
      refine eE_imul lk259_132 ?_
      refine eE_iload lk259_133 g5 ?_
      refine eE_iadd lk259_135 ?_
      refine eE_iconst (v := 0) lk259_136 (by decide) ?_
      obtain ⟨σ10, h11, h⟩ := Option.bind_eq_some_iff.mp h
      refine eR_iast lk259_137 rfl rfl h11 ?_
      refine eE_inc (j := 5) (v := l5 + (1 : Int32)) lk259_138 g5 rfl (by decide) (fun vq12 gq13 kq14 => ?_)
      have gq15 := kq14 1 _ (by decide) (fun _ => rfl) g1
      have gq16 := kq14 0 _ (by decide) (fun _ => rfl) g0
      refine eE_goto (t := 118) lk259_141 (by decide) ?_
      exact hKK vq12 σ10 l1 (l5 + (1 : Int32)) gq16 gq15 gq13 _ h
def m_compact_b32 (F : Nat)  : Nat → RS → Int32 → Int32 → Int32 → Int32 → Int32 → Option (RS)
  | 0, _, _, _, _, _, _ => none
  | n + 1, σ, l1, l2, l3, l4, l5 =>
    let KK := m_compact_b32 F  n
    if xc2 .gt l5 l2 = true then (
      (rst σ 55 l1 l2).bind fun σ18 =>
      (rst σ18 57 l1 l3).bind fun σ20 =>
      (rst σ20 58 l1 l4).bind fun σ22 =>
      (m_packAll F σ22 l1).bind fun p24 =>
      (m_writeShot F p24 l1).bind fun p26 =>
      (m_trim F p26 l1).bind fun p28 =>
      (m_findCode F p28 l1).bind fun p30 =>
      (m_soil p30 l1).bind fun p32 =>
      m_compact_b118 F  F p32 l1 ((0 : Int32))
    ) else (
      (m_logOf l1 l5).bind fun p39 =>
      (rld σ 60 p39).bind fun x41 =>
      if xc2 .ne x41 ((1 : Int32)) = true then (
        m_compact_b62 F KK σ l1 l2 l3 l4 l5
      ) else (
        (m_codeIn σ l1 l5).bind fun p44 =>
        m_compact_b62 F KK p44.2 l1 l2 l3 (p44.1) l5
      )
    )
set_option maxRecDepth 4000 in
theorem m_compact_b32_ok {pF : Nat → List Value → xH → Option (Option Value × xH)} {d : Nat} {aR : Nat} {G : Nat → xC} {T : Nat × Nat} {F : Nat} (hp0 : xNP pF)  : ∀ (n : Nat) (lv : xL) (σ : RS) (l1 : Int32) (l2 : Int32) (l3 : Int32) (l4 : Int32) (l5 : Int32), xg lv 0 = some (.ref aR) → xg lv 1 = some (.int l1) → xg lv 2 = some (.int l2) → xg lv 3 = some (.int l3) → xg lv 4 = some (.int l4) → xg lv 5 = some (.int l5) → ∀ res, m_compact_b32 F  n σ l1 l2 l3 l4 l5 = some res → xR pF (d + 3) kT259 16 6 false none none (layR aR res G, T) (32, lv, [], (layR aR σ G, T)) := by
  intro n
  induction n with
  | zero => intro lv σ l1 l2 l3 l4 l5 g0 g1 g2 g3 g4 g5 res h; simp [m_compact_b32] at h
  | succ n hKK =>
    intro lv σ l1 l2 l3 l4 l5 g0 g1 g2 g3 g4 g5 res h
    unfold m_compact_b32 at h
    dsimp only at h
    refine eE_iload lk259_32 g5 ?_
    refine eE_iload_n lk259_34 g2 ?_
    refine eE_icmp (t := 68) lk259_35 (by decide) (fun c17 => ?_) (fun c17 => ?_)
    · rw [if_pos c17] at h
      refine eE_aload_n lk259_68 g0 ?_
      refine eR_getA lk259_69 rf_129 rfl ?_
      refine eE_iload_n lk259_72 g1 ?_
      refine eE_iload_n lk259_73 g2 ?_
      obtain ⟨σ18, h19, h⟩ := Option.bind_eq_some_iff.mp h
      refine eR_iast lk259_74 rfl rfl h19 ?_
      refine eE_aload_n lk259_75 g0 ?_
      refine eR_getA lk259_76 rf_135 rfl ?_
      refine eE_iload_n lk259_79 g1 ?_
      refine eE_iload_n lk259_80 g3 ?_
      obtain ⟨σ20, h21, h⟩ := Option.bind_eq_some_iff.mp h
      refine eR_iast lk259_81 rfl rfl h21 ?_
      refine eE_aload_n lk259_82 g0 ?_
      refine eR_getA lk259_83 rf_138 rfl ?_
      refine eE_iload_n lk259_86 g1 ?_
      refine eE_iload lk259_87 g4 ?_
      obtain ⟨σ22, h23, h⟩ := Option.bind_eq_some_iff.mp h
      refine eR_iast lk259_89 rfl rfl h23 ?_
      refine eE_aload_n lk259_90 g0 ?_
      refine eE_iload_n lk259_91 g1 ?_
      obtain ⟨p24, h25, h⟩ := Option.bind_eq_some_iff.mp h
      refine eR_call (as := [.int l1]) lk259_92 mr_715 na_335 rfl rfl (Nat.le_of_ble_eq_true rfl) wv_335 wc_335 (m_packAll_ok hp0 (d := d + 1) h25) ?_
      refine eE_aload_n lk259_95 g0 ?_
      refine eE_iload_n lk259_96 g1 ?_
      obtain ⟨p26, h27, h⟩ := Option.bind_eq_some_iff.mp h
      refine eR_call (as := [.int l1]) lk259_97 mr_718 na_383 rfl rfl (Nat.le_of_ble_eq_true rfl) wv_383 wc_383 (m_writeShot_ok hp0 (d := d + 0) h27) ?_
      refine eE_aload_n lk259_100 g0 ?_
      refine eE_iload_n lk259_101 g1 ?_
      obtain ⟨p28, h29, h⟩ := Option.bind_eq_some_iff.mp h
      refine eR_call (as := [.int l1]) lk259_102 mr_721 na_374 rfl rfl (Nat.le_of_ble_eq_true rfl) wv_374 wc_374 (m_trim_ok hp0 (d := d + 0) h29) ?_
      refine eE_aload_n lk259_105 g0 ?_
      refine eE_iload_n lk259_106 g1 ?_
      obtain ⟨p30, h31, h⟩ := Option.bind_eq_some_iff.mp h
      refine eR_call (as := [.int l1]) lk259_107 mr_533 na_282 rfl rfl (Nat.le_of_ble_eq_true rfl) wv_282 wc_282 (m_findCode_ok hp0 (d := d + 0) h31) ?_
      refine eE_aload_n lk259_110 g0 ?_
      refine eE_iload_n lk259_111 g1 ?_
      obtain ⟨p32, h33, h⟩ := Option.bind_eq_some_iff.mp h
      refine eR_call (as := [.int l1]) lk259_112 mr_505 na_360 rfl rfl (Nat.le_of_ble_eq_true rfl) wv_360 wc_360 (m_soil_ok hp0 (d := d + 2) h33) ?_
      refine eE_iconst (v := 0) lk259_115 (by decide) ?_
      refine eE_stI (j := 5) lk259_116 (Or.inl rfl) (by decide) (fun vq34 gq35 kq36 => ?_)
      have gq37 := kq36 1 _ (by decide) (fun _ => rfl) g1
      have gq38 := kq36 0 _ (by decide) (fun _ => rfl) g0
      exact m_compact_b118_ok hp0  F vq34 p32 l1 ((0 : Int32)) gq38 gq37 gq35 _ h
    · rw [if_neg c17] at h
      refine eE_aload_n lk259_38 g0 ?_
      refine eR_getA lk259_39 rf_144 rfl ?_
      refine eE_iload_n lk259_42 g1 ?_
      refine eE_iload lk259_43 g5 ?_
      obtain ⟨p39, h40, h⟩ := Option.bind_eq_some_iff.mp h
      refine eE_stat (as := [.int l1, .int l5]) lk259_45 mr_521 na_322 rfl rfl (Nat.le_of_ble_eq_true rfl) mm_322 ws_322 (m_logOf_ok hp0 (d := d + 2) h40) ?_
      obtain ⟨x41, h42, h⟩ := Option.bind_eq_some_iff.mp h
      refine eR_iald lk259_48 rfl rfl h42 ?_
      refine eE_iconst (v := 1) lk259_49 (by decide) ?_
      refine eE_icmp (t := 62) lk259_50 (by decide) (fun c43 => ?_) (fun c43 => ?_)
      · rw [if_pos c43] at h
        exact m_compact_b62_ok hp0 hKK lv σ l1 l2 l3 l4 l5 g0 g1 g2 g3 g4 g5 _ h
      · rw [if_neg c43] at h
        refine eE_aload_n lk259_53 g0 ?_
        refine eE_iload_n lk259_54 g1 ?_
        refine eE_iload lk259_55 g5 ?_
        obtain ⟨p44, h45, h⟩ := Option.bind_eq_some_iff.mp h
        refine eR_call (as := [.int l1, .int l5]) lk259_57 mr_536 na_257 rfl rfl (Nat.le_of_ble_eq_true rfl) wv_257 wc_257 (m_codeIn_ok hp0 (d := d + 1) h45) ?_
        refine eE_stI (j := 4) lk259_60 (Or.inl rfl) (by decide) (fun vq46 gq47 kq48 => ?_)
        have gq49 := kq48 1 _ (by decide) (fun _ => rfl) g1
        have gq50 := kq48 2 _ (by decide) (fun _ => rfl) g2
        have gq51 := kq48 3 _ (by decide) (fun _ => rfl) g3
        have gq52 := kq48 5 _ (by decide) (fun _ => rfl) g5
        have gq53 := kq48 0 _ (by decide) (fun _ => rfl) g0
        exact m_compact_b62_ok hp0 hKK vq46 p44.2 l1 l2 l3 (p44.1) l5 gq53 gq49 gq50 gq51 gq47 gq52 _ h
def m_compact_b0 (F : Nat)  (σ : RS) (l1 : Int32) : Option (RS) :=
  (rld σ 76 l1).bind fun x54 =>
  (m_termAt σ l1 x54).bind fun p61 =>
  (rld p61.2 58 l1).bind fun x69 =>
  (rld p61.2 55 l1).bind fun x78 =>
  m_compact_b32 F  F p61.2 l1 x54 (p61.1) x69 (x78 + ((1 : Int32)))
set_option maxRecDepth 4000 in
theorem m_compact_b0_ok {pF : Nat → List Value → xH → Option (Option Value × xH)} {d : Nat} {aR : Nat} {G : Nat → xC} {T : Nat × Nat} {F : Nat} (hp0 : xNP pF)  : ∀ (lv : xL) (σ : RS) (l1 : Int32), xg lv 0 = some (.ref aR) → xg lv 1 = some (.int l1) → ∀ res, m_compact_b0 F  σ l1 = some res → xR pF (d + 3) kT259 16 6 false none none (layR aR res G, T) (0, lv, [], (layR aR σ G, T)) := by
  intro lv σ l1 g0 g1 res h
  unfold m_compact_b0 at h
  refine eE_aload_n lk259_0 g0 ?_
  refine eR_getA lk259_1 rf_194 rfl ?_
  refine eE_iload_n lk259_4 g1 ?_
  obtain ⟨x54, h55, h⟩ := Option.bind_eq_some_iff.mp h
  refine eR_iald lk259_5 rfl rfl h55 ?_
  refine eE_stI (j := 2) lk259_6 (Or.inr ⟨_, rfl, rfl⟩) (by decide) (fun vq56 gq57 kq58 => ?_)
  have gq59 := kq58 1 _ (by decide) (fun _ => rfl) g1
  have gq60 := kq58 0 _ (by decide) (fun _ => rfl) g0
  refine eE_aload_n lk259_7 gq60 ?_
  refine eE_iload_n lk259_8 gq59 ?_
  refine eE_iload_n lk259_9 gq57 ?_
  obtain ⟨p61, h62, h⟩ := Option.bind_eq_some_iff.mp h
  refine eR_call (as := [.int l1, .int x54]) lk259_10 mr_524 na_372 rfl rfl (Nat.le_of_ble_eq_true rfl) wv_372 wc_372 (m_termAt_ok hp0 (d := d + 1) h62) ?_
  refine eE_stI (j := 3) lk259_13 (Or.inr ⟨_, rfl, rfl⟩) (by decide) (fun vq63 gq64 kq65 => ?_)
  have gq66 := kq65 1 _ (by decide) (fun _ => rfl) gq59
  have gq67 := kq65 0 _ (by decide) (fun _ => rfl) gq60
  have gq68 := kq65 2 _ (by decide) (fun _ => rfl) gq57
  refine eE_aload_n lk259_14 gq67 ?_
  refine eR_getA lk259_15 rf_138 rfl ?_
  refine eE_iload_n lk259_18 gq66 ?_
  obtain ⟨x69, h70, h⟩ := Option.bind_eq_some_iff.mp h
  refine eR_iald lk259_19 rfl rfl h70 ?_
  refine eE_stI (j := 4) lk259_20 (Or.inl rfl) (by decide) (fun vq71 gq72 kq73 => ?_)
  have gq74 := kq73 1 _ (by decide) (fun _ => rfl) gq66
  have gq75 := kq73 0 _ (by decide) (fun _ => rfl) gq67
  have gq76 := kq73 2 _ (by decide) (fun _ => rfl) gq68
  have gq77 := kq73 3 _ (by decide) (fun _ => rfl) gq64
  refine eE_aload_n lk259_22 gq75 ?_
  refine eR_getA lk259_23 rf_129 rfl ?_
  refine eE_iload_n lk259_26 gq74 ?_
  obtain ⟨x78, h79, h⟩ := Option.bind_eq_some_iff.mp h
  refine eR_iald lk259_27 rfl rfl h79 ?_
  refine eE_iconst (v := 1) lk259_28 (by decide) ?_
  refine eE_iadd lk259_29 ?_
  refine eE_stI (j := 5) lk259_30 (Or.inl rfl) (by decide) (fun vq80 gq81 kq82 => ?_)
  have gq83 := kq82 1 _ (by decide) (fun _ => rfl) gq74
  have gq84 := kq82 0 _ (by decide) (fun _ => rfl) gq75
  have gq85 := kq82 2 _ (by decide) (fun _ => rfl) gq76
  have gq86 := kq82 3 _ (by decide) (fun _ => rfl) gq77
  have gq87 := kq82 4 _ (by decide) (fun _ => rfl) gq72
  exact m_compact_b32_ok hp0  F vq80 p61.2 l1 x54 (p61.1) x69 (x78 + ((1 : Int32))) gq84 gq83 gq85 gq86 gq87 gq81 _ h
def m_compact (F : Nat) (σ : RS) (l1 : Int32) : Option (RS) := m_compact_b0 F σ l1
theorem m_compact_ok {pF : Nat → List Value → xH → Option (Option Value × xH)} (hp0 : xNP pF) {d : Nat} {aR : Nat} {G : Nat → xC} {T : Nat × Nat} {σ : RS} {F : Nat} {l1 : Int32} {res : RS} (h : m_compact F σ l1 = some res) : xCo pF (d + 4) 259 [.ref aR, .int l1] (layR aR σ G, T) none (layR aR res G, T) := by
  unfold m_compact at h
  exact xCo_R kk_259 mo_259 ni_259 xm_259 (Nat.le_of_ble_eq_true rfl) (hp0 _ (by decide) (by decide) _ _) (m_compact_b0_ok hp0 _ σ l1 rfl rfl _ h)
/-! integer (298), depth 2 -/
def m_integer  (σ : RS) (l1 : Int32) : Option (Int32 × RS) :=
  (m_inLog σ l1).bind fun p1 =>
  (m_inLog p1.2 (l1 + ((1 : Int32)))).bind fun p3 =>
  (m_inLog p3.2 (l1 + ((2 : Int32)))).bind fun p5 =>
  (m_inLog p5.2 (l1 + ((3 : Int32)))).bind fun p7 =>
  some ((((p1.1 <<< (((24 : Int32)) &&& 31)) ||| ((p3.1 &&& ((255 : Int32))) <<< (((16 : Int32)) &&& 31))) ||| ((p5.1 &&& ((255 : Int32))) <<< (((8 : Int32)) &&& 31))) ||| (p7.1 &&& ((255 : Int32))), p7.2)
set_option maxRecDepth 4000 in
theorem m_integer_run {pF : Nat → List Value → xH → Option (Option Value × xH)} {d : Nat} {aR : Nat} {G : Nat → xC} {T : Nat × Nat} (hp0 : xNP pF)  : ∀ (lv : xL) (σ : RS) (l1 : Int32), xg lv 0 = some (.ref aR) → xg lv 1 = some (.int l1) → ∀ res, m_integer  σ l1 = some res → xR pF (d + 1) kT298 16 2 false (some .int) (some (.int res.1)) (layR aR res.2 G, T) (0, lv, [], (layR aR σ G, T)) := by
  intro lv σ l1 g0 g1 res h
  unfold m_integer at h
  refine eE_aload_n lk298_0 g0 ?_
  refine eE_iload_n lk298_1 g1 ?_
  obtain ⟨p1, h2, h⟩ := Option.bind_eq_some_iff.mp h
  refine eR_call (as := [.int l1]) lk298_2 mr_530 na_296 rfl rfl (Nat.le_of_ble_eq_true rfl) wv_296 wc_296 (m_inLog_ok hp0 (d := d + 0) h2) ?_
  refine eE_bipush (v := 24) lk298_5 (by decide) ?_
  refine eE_ishl lk298_7 ?_
  refine eE_aload_n lk298_8 g0 ?_
  refine eE_iload_n lk298_9 g1 ?_
  refine eE_iconst (v := 1) lk298_10 (by decide) ?_
  refine eE_iadd lk298_11 ?_
  obtain ⟨p3, h4, h⟩ := Option.bind_eq_some_iff.mp h
  refine eR_call (as := [.int (l1 + ((1 : Int32)))]) lk298_12 mr_530 na_296 rfl rfl (Nat.le_of_ble_eq_true rfl) wv_296 wc_296 (m_inLog_ok hp0 (d := d + 0) h4) ?_
  refine eE_sipush (v := 255) lk298_15 (by decide) ?_
  refine eE_iand lk298_18 ?_
  refine eE_bipush (v := 16) lk298_19 (by decide) ?_
  refine eE_ishl lk298_21 ?_
  refine eE_ior lk298_22 ?_
  refine eE_aload_n lk298_23 g0 ?_
  refine eE_iload_n lk298_24 g1 ?_
  refine eE_iconst (v := 2) lk298_25 (by decide) ?_
  refine eE_iadd lk298_26 ?_
  obtain ⟨p5, h6, h⟩ := Option.bind_eq_some_iff.mp h
  refine eR_call (as := [.int (l1 + ((2 : Int32)))]) lk298_27 mr_530 na_296 rfl rfl (Nat.le_of_ble_eq_true rfl) wv_296 wc_296 (m_inLog_ok hp0 (d := d + 0) h6) ?_
  refine eE_sipush (v := 255) lk298_30 (by decide) ?_
  refine eE_iand lk298_33 ?_
  refine eE_bipush (v := 8) lk298_34 (by decide) ?_
  refine eE_ishl lk298_36 ?_
  refine eE_ior lk298_37 ?_
  refine eE_aload_n lk298_38 g0 ?_
  refine eE_iload_n lk298_39 g1 ?_
  refine eE_iconst (v := 3) lk298_40 (by decide) ?_
  refine eE_iadd lk298_41 ?_
  obtain ⟨p7, h8, h⟩ := Option.bind_eq_some_iff.mp h
  refine eR_call (as := [.int (l1 + ((3 : Int32)))]) lk298_42 mr_530 na_296 rfl rfl (Nat.le_of_ble_eq_true rfl) wv_296 wc_296 (m_inLog_ok hp0 (d := d + 0) h8) ?_
  refine eE_sipush (v := 255) lk298_45 (by decide) ?_
  refine eE_iand lk298_48 ?_
  refine eE_ior lk298_49 ?_
  cases h
  exact eE_end lk298_50 rfl rfl rfl
theorem m_integer_ok {pF : Nat → List Value → xH → Option (Option Value × xH)} (hp0 : xNP pF) {d : Nat} {aR : Nat} {G : Nat → xC} {T : Nat × Nat} {σ : RS} {l1 : Int32} {res : Int32 × RS} (h : m_integer σ l1 = some res) : xCo pF (d + 2) 298 [.ref aR, .int l1] (layR aR σ G, T) (some (.int res.1)) (layR aR res.2 G, T) := by
  exact xCo_R kk_298 mo_298 ni_298 xm_298 (Nat.le_of_ble_eq_true rfl) (hp0 _ (by decide) (by decide) _ _) (m_integer_run hp0 _ σ l1 rfl rfl _ h)
/-! copySession (263), depth 1 -/
def m_copySession_b62 (F : Nat)  : Nat → RS → Int32 → Int32 → Int32 → Option (RS)
  | 0, _, _, _, _ => none
  | n + 1, σ, l1, l2, l3 =>
    let KK := m_copySession_b62 F  n
    (rld σ 111 l1).bind fun x1 =>
    if xc2 .ge l3 x1 = true then (
      some σ
    ) else (
      (rld σ 112 ((((112 : Int32)) * l1) + l3)).bind fun x4 =>
      (rst σ 112 ((((112 : Int32)) * l2) + l3) (x4.toInt8.toInt32)).bind fun σ6 =>
      KK σ6 l1 l2 (l3 + (1 : Int32))
    )
set_option maxRecDepth 4000 in
theorem m_copySession_b62_ok {pF : Nat → List Value → xH → Option (Option Value × xH)} {d : Nat} {aR : Nat} {G : Nat → xC} {T : Nat × Nat} {F : Nat} (hp0 : xNP pF)  : ∀ (n : Nat) (lv : xL) (σ : RS) (l1 : Int32) (l2 : Int32) (l3 : Int32), xg lv 0 = some (.ref aR) → xg lv 1 = some (.int l1) → xg lv 2 = some (.int l2) → xg lv 3 = some (.int l3) → ∀ res, m_copySession_b62 F  n σ l1 l2 l3 = some res → xR pF (d + 0) kT263 16 4 false none none (layR aR res G, T) (62, lv, [], (layR aR σ G, T)) := by
  intro n
  induction n with
  | zero => intro lv σ l1 l2 l3 g0 g1 g2 g3 res h; simp [m_copySession_b62] at h
  | succ n hKK =>
    intro lv σ l1 l2 l3 g0 g1 g2 g3 res h
    unfold m_copySession_b62 at h
    dsimp only at h
    refine eE_iload_n lk263_62 g3 ?_
    refine eE_aload_n lk263_63 g0 ?_
    refine eR_getA lk263_64 rf_299 rfl ?_
    refine eE_iload_n lk263_67 g1 ?_
    obtain ⟨x1, h2, h⟩ := Option.bind_eq_some_iff.mp h
    refine eR_iald lk263_68 rfl rfl h2 ?_
    refine eE_icmp (t := 100) lk263_69 (by decide) (fun c3 => ?_) (fun c3 => ?_)
    · rw [if_pos c3] at h
      cases h
      exact eE_end lk263_100 rfl rfl rfl
    · rw [if_neg c3] at h
      refine eE_aload_n lk263_72 g0 ?_
      refine eR_getA lk263_73 rf_302 rfl ?_
      refine eE_bipush (v := 112) lk263_76 (by decide) ?_
      refine eE_iload_n lk263_78 g2 ?_
      refine eE_imul lk263_79 ?_
      refine eE_iload_n lk263_80 g3 ?_
      refine eE_iadd lk263_81 ?_
      refine eE_aload_n lk263_82 g0 ?_
      refine eR_getA lk263_83 rf_302 rfl ?_
      refine eE_bipush (v := 112) lk263_86 (by decide) ?_
      refine eE_iload_n lk263_88 g1 ?_
      refine eE_imul lk263_89 ?_
      refine eE_iload_n lk263_90 g3 ?_
      refine eE_iadd lk263_91 ?_
      obtain ⟨x4, h5, h⟩ := Option.bind_eq_some_iff.mp h
      refine eR_bald lk263_92 rfl (Or.inl rfl) h5 ?_
      obtain ⟨σ6, h7, h⟩ := Option.bind_eq_some_iff.mp h
      refine eR_bast lk263_93 rfl rfl rfl h7 ?_
      refine eE_inc (j := 3) (v := l3 + (1 : Int32)) lk263_94 g3 rfl (by decide) (fun vq8 gq9 kq10 => ?_)
      have gq11 := kq10 1 _ (by decide) (fun _ => rfl) g1
      have gq12 := kq10 2 _ (by decide) (fun _ => rfl) g2
      have gq13 := kq10 0 _ (by decide) (fun _ => rfl) g0
      refine eE_goto (t := 62) lk263_97 (by decide) ?_
      exact hKK vq8 σ6 l1 l2 (l3 + (1 : Int32)) gq13 gq11 gq12 gq9 _ h
def m_copySession_b0 (F : Nat)  (σ : RS) (l1 : Int32) (l2 : Int32) : Option (RS) :=
  (rld σ 107 l1).bind fun x14 =>
  (rst σ 107 l2 x14).bind fun σ16 =>
  (rld σ16 108 l1).bind fun x18 =>
  (rst σ16 108 l2 x18).bind fun σ20 =>
  (rld σ20 109 l1).bind fun x22 =>
  (rst σ20 109 l2 x22).bind fun σ24 =>
  (rld σ24 110 l1).bind fun x26 =>
  (rst σ24 110 l2 x26).bind fun σ28 =>
  (rld σ28 111 l1).bind fun x30 =>
  (rst σ28 111 l2 x30).bind fun σ32 =>
  m_copySession_b62 F  F σ32 l1 l2 ((0 : Int32))
set_option maxRecDepth 4000 in
theorem m_copySession_b0_ok {pF : Nat → List Value → xH → Option (Option Value × xH)} {d : Nat} {aR : Nat} {G : Nat → xC} {T : Nat × Nat} {F : Nat} (hp0 : xNP pF)  : ∀ (lv : xL) (σ : RS) (l1 : Int32) (l2 : Int32), xg lv 0 = some (.ref aR) → xg lv 1 = some (.int l1) → xg lv 2 = some (.int l2) → ∀ res, m_copySession_b0 F  σ l1 l2 = some res → xR pF (d + 0) kT263 16 4 false none none (layR aR res G, T) (0, lv, [], (layR aR σ G, T)) := by
  intro lv σ l1 l2 g0 g1 g2 res h
  unfold m_copySession_b0 at h
  refine eE_aload_n lk263_0 g0 ?_
  refine eR_getA lk263_1 rf_287 rfl ?_
  refine eE_iload_n lk263_4 g2 ?_
  refine eE_aload_n lk263_5 g0 ?_
  refine eR_getA lk263_6 rf_287 rfl ?_
  refine eE_iload_n lk263_9 g1 ?_
  obtain ⟨x14, h15, h⟩ := Option.bind_eq_some_iff.mp h
  refine eR_iald lk263_10 rfl rfl h15 ?_
  obtain ⟨σ16, h17, h⟩ := Option.bind_eq_some_iff.mp h
  refine eR_iast lk263_11 rfl rfl h17 ?_
  refine eE_aload_n lk263_12 g0 ?_
  refine eR_getA lk263_13 rf_290 rfl ?_
  refine eE_iload_n lk263_16 g2 ?_
  refine eE_aload_n lk263_17 g0 ?_
  refine eR_getA lk263_18 rf_290 rfl ?_
  refine eE_iload_n lk263_21 g1 ?_
  obtain ⟨x18, h19, h⟩ := Option.bind_eq_some_iff.mp h
  refine eR_iald lk263_22 rfl rfl h19 ?_
  obtain ⟨σ20, h21, h⟩ := Option.bind_eq_some_iff.mp h
  refine eR_iast lk263_23 rfl rfl h21 ?_
  refine eE_aload_n lk263_24 g0 ?_
  refine eR_getA lk263_25 rf_293 rfl ?_
  refine eE_iload_n lk263_28 g2 ?_
  refine eE_aload_n lk263_29 g0 ?_
  refine eR_getA lk263_30 rf_293 rfl ?_
  refine eE_iload_n lk263_33 g1 ?_
  obtain ⟨x22, h23, h⟩ := Option.bind_eq_some_iff.mp h
  refine eR_iald lk263_34 rfl rfl h23 ?_
  obtain ⟨σ24, h25, h⟩ := Option.bind_eq_some_iff.mp h
  refine eR_iast lk263_35 rfl rfl h25 ?_
  refine eE_aload_n lk263_36 g0 ?_
  refine eR_getA lk263_37 rf_296 rfl ?_
  refine eE_iload_n lk263_40 g2 ?_
  refine eE_aload_n lk263_41 g0 ?_
  refine eR_getA lk263_42 rf_296 rfl ?_
  refine eE_iload_n lk263_45 g1 ?_
  obtain ⟨x26, h27, h⟩ := Option.bind_eq_some_iff.mp h
  refine eR_iald lk263_46 rfl rfl h27 ?_
  obtain ⟨σ28, h29, h⟩ := Option.bind_eq_some_iff.mp h
  refine eR_iast lk263_47 rfl rfl h29 ?_
  refine eE_aload_n lk263_48 g0 ?_
  refine eR_getA lk263_49 rf_299 rfl ?_
  refine eE_iload_n lk263_52 g2 ?_
  refine eE_aload_n lk263_53 g0 ?_
  refine eR_getA lk263_54 rf_299 rfl ?_
  refine eE_iload_n lk263_57 g1 ?_
  obtain ⟨x30, h31, h⟩ := Option.bind_eq_some_iff.mp h
  refine eR_iald lk263_58 rfl rfl h31 ?_
  obtain ⟨σ32, h33, h⟩ := Option.bind_eq_some_iff.mp h
  refine eR_iast lk263_59 rfl rfl h33 ?_
  refine eE_iconst (v := 0) lk263_60 (by decide) ?_
  refine eE_stI (j := 3) lk263_61 (Or.inr ⟨_, rfl, rfl⟩) (by decide) (fun vq34 gq35 kq36 => ?_)
  have gq37 := kq36 1 _ (by decide) (fun _ => rfl) g1
  have gq38 := kq36 2 _ (by decide) (fun _ => rfl) g2
  have gq39 := kq36 0 _ (by decide) (fun _ => rfl) g0
  exact m_copySession_b62_ok hp0  F vq34 σ32 l1 l2 ((0 : Int32)) gq39 gq37 gq38 gq35 _ h
def m_copySession (F : Nat) (σ : RS) (l1 : Int32) (l2 : Int32) : Option (RS) := m_copySession_b0 F σ l1 l2
theorem m_copySession_ok {pF : Nat → List Value → xH → Option (Option Value × xH)} (hp0 : xNP pF) {d : Nat} {aR : Nat} {G : Nat → xC} {T : Nat × Nat} {σ : RS} {F : Nat} {l1 : Int32} {l2 : Int32} {res : RS} (h : m_copySession F σ l1 l2 = some res) : xCo pF (d + 1) 263 [.ref aR, .int l1, .int l2] (layR aR σ G, T) none (layR aR res G, T) := by
  unfold m_copySession at h
  exact xCo_R kk_263 mo_263 ni_263 xm_263 (Nat.le_of_ble_eq_true rfl) (hp0 _ (by decide) (by decide) _ _) (m_copySession_b0_ok hp0 _ σ l1 l2 rfl rfl rfl _ h)
/-! open (332), depth 2 -/
def m_open_b56 (F : Nat) (K22 : RS → Int32 → Int32 → Int32 → Int32 → Option (RS)) (σ : RS) (s0 : Int32) (l1 : Int32) (l2 : Int32) (l4 : Int32) : Option (RS) :=
  K22 σ l1 l2 s0 (l4 + (1 : Int32))
set_option maxRecDepth 4000 in
theorem m_open_b56_ok {pF : Nat → List Value → xH → Option (Option Value × xH)} {d : Nat} {aR : Nat} {G : Nat → xC} {T : Nat × Nat} {F : Nat} {K22 : RS → Int32 → Int32 → Int32 → Int32 → Option (RS)} (hp0 : xNP pF) (hK22 : ∀ (lv : xL) (σ : RS) (l1 : Int32) (l2 : Int32) (l3 : Int32) (l4 : Int32), xg lv 0 = some (.ref aR) → xg lv 1 = some (.int l1) → xg lv 2 = some (.int l2) → xg lv 3 = some (.int l3) → xg lv 4 = some (.int l4) → ∀ res, K22 σ l1 l2 l3 l4 = some res → xR pF (d + 1) kT332 16 5 false none none (layR aR res G, T) (22, lv, [], (layR aR σ G, T))) : ∀ (lv : xL) (σ : RS) (s0 : Int32) (l1 : Int32) (l2 : Int32) (l4 : Int32), xg lv 0 = some (.ref aR) → xg lv 1 = some (.int l1) → xg lv 2 = some (.int l2) → xg lv 4 = some (.int l4) → ∀ res, m_open_b56 F K22 σ s0 l1 l2 l4 = some res → xR pF (d + 1) kT332 16 5 false none none (layR aR res G, T) (56, lv, [.int s0], (layR aR σ G, T)) := by
  intro lv σ s0 l1 l2 l4 g0 g1 g2 g4 res h
  unfold m_open_b56 at h
  refine eE_stI (j := 3) lk332_56 (Or.inr ⟨_, rfl, rfl⟩) (by decide) (fun vq1 gq2 kq3 => ?_)
  have gq4 := kq3 1 _ (by decide) (fun _ => rfl) g1
  have gq5 := kq3 2 _ (by decide) (fun _ => rfl) g2
  have gq6 := kq3 4 _ (by decide) (fun _ => rfl) g4
  have gq7 := kq3 0 _ (by decide) (fun _ => rfl) g0
  refine eE_inc (j := 4) (v := l4 + (1 : Int32)) lk332_57 gq6 rfl (by decide) (fun vq8 gq9 kq10 => ?_)
  have gq11 := kq10 1 _ (by decide) (fun _ => rfl) gq4
  have gq12 := kq10 2 _ (by decide) (fun _ => rfl) gq5
  have gq13 := kq10 0 _ (by decide) (fun _ => rfl) gq7
  have gq14 := kq10 3 _ (by decide) (fun _ => rfl) gq2
  refine eE_goto (t := 22) lk332_60 (by decide) ?_
  exact hK22 vq8 σ l1 l2 s0 (l4 + (1 : Int32)) gq13 gq11 gq12 gq14 gq9 _ h
def m_open_b85 (F : Nat)  (σ : RS) (l1 : Int32) (l2 : Int32) : Option (RS) :=
  (rld σ 106 l1).bind fun x15 =>
  (rld σ 106 l1).bind fun x23 =>
  (rst σ 106 l1 ((x23 + ((1 : Int32))))).bind fun σ25 =>
  (rst σ25 107 ((((16 : Int32)) * l1) + x15) l2).bind fun σ27 =>
  (rst σ27 108 ((((16 : Int32)) * l1) + x15) l2).bind fun σ29 =>
  (rst σ29 109 ((((16 : Int32)) * l1) + x15) (((0 : Int32)))).bind fun σ31 =>
  (rst σ31 110 ((((16 : Int32)) * l1) + x15) (((0 : Int32)))).bind fun σ33 =>
  (rst σ33 111 ((((16 : Int32)) * l1) + x15) (((0 : Int32)))).bind fun σ35 =>
  (some (setI σ35 122 0 ((0 : Int32)))).bind fun σ37 =>
  (some (setI σ37 123 0 l2)).bind fun σ39 =>
  some σ39
set_option maxRecDepth 4000 in
theorem m_open_b85_ok {pF : Nat → List Value → xH → Option (Option Value × xH)} {d : Nat} {aR : Nat} {G : Nat → xC} {T : Nat × Nat} {F : Nat} (hp0 : xNP pF)  : ∀ (lv : xL) (σ : RS) (l1 : Int32) (l2 : Int32), xg lv 0 = some (.ref aR) → xg lv 1 = some (.int l1) → xg lv 2 = some (.int l2) → ∀ res, m_open_b85 F  σ l1 l2 = some res → xR pF (d + 1) kT332 16 5 false none none (layR aR res G, T) (85, lv, [], (layR aR σ G, T)) := by
  intro lv σ l1 l2 g0 g1 g2 res h
  unfold m_open_b85 at h
  refine eE_bipush (v := 16) lk332_85 (by decide) ?_
  refine eE_iload_n lk332_87 g1 ?_
  refine eE_imul lk332_88 ?_
  refine eE_aload_n lk332_89 g0 ?_
  refine eR_getA lk332_90 rf_284 rfl ?_
  refine eE_iload_n lk332_93 g1 ?_
  obtain ⟨x15, h16, h⟩ := Option.bind_eq_some_iff.mp h
  refine eR_iald lk332_94 rfl rfl h16 ?_
  refine eE_iadd lk332_95 ?_
  refine eE_stI (j := 3) lk332_96 (Or.inr ⟨_, rfl, rfl⟩) (by decide) (fun vq17 gq18 kq19 => ?_)
  have gq20 := kq19 1 _ (by decide) (fun _ => rfl) g1
  have gq21 := kq19 2 _ (by decide) (fun _ => rfl) g2
  have gq22 := kq19 0 _ (by decide) (fun _ => rfl) g0
  refine eE_aload_n lk332_97 gq22 ?_
  refine eR_getA lk332_98 rf_284 rfl ?_
  refine eE_iload_n lk332_101 gq20 ?_
  refine eE_dup2 lk332_102 rfl rfl ?_
  obtain ⟨x23, h24, h⟩ := Option.bind_eq_some_iff.mp h
  refine eR_iald lk332_103 rfl rfl h24 ?_
  refine eE_iconst (v := 1) lk332_104 (by decide) ?_
  refine eE_iadd lk332_105 ?_
  obtain ⟨σ25, h26, h⟩ := Option.bind_eq_some_iff.mp h
  refine eR_iast lk332_106 rfl rfl h26 ?_
  refine eE_aload_n lk332_107 gq22 ?_
  refine eR_getA lk332_108 rf_287 rfl ?_
  refine eE_iload_n lk332_111 gq18 ?_
  refine eE_iload_n lk332_112 gq21 ?_
  obtain ⟨σ27, h28, h⟩ := Option.bind_eq_some_iff.mp h
  refine eR_iast lk332_113 rfl rfl h28 ?_
  refine eE_aload_n lk332_114 gq22 ?_
  refine eR_getA lk332_115 rf_290 rfl ?_
  refine eE_iload_n lk332_118 gq18 ?_
  refine eE_iload_n lk332_119 gq21 ?_
  obtain ⟨σ29, h30, h⟩ := Option.bind_eq_some_iff.mp h
  refine eR_iast lk332_120 rfl rfl h30 ?_
  refine eE_aload_n lk332_121 gq22 ?_
  refine eR_getA lk332_122 rf_293 rfl ?_
  refine eE_iload_n lk332_125 gq18 ?_
  refine eE_iconst (v := 0) lk332_126 (by decide) ?_
  obtain ⟨σ31, h32, h⟩ := Option.bind_eq_some_iff.mp h
  refine eR_iast lk332_127 rfl rfl h32 ?_
  refine eE_aload_n lk332_128 gq22 ?_
  refine eR_getA lk332_129 rf_296 rfl ?_
  refine eE_iload_n lk332_132 gq18 ?_
  refine eE_iconst (v := 0) lk332_133 (by decide) ?_
  obtain ⟨σ33, h34, h⟩ := Option.bind_eq_some_iff.mp h
  refine eR_iast lk332_134 rfl rfl h34 ?_
  refine eE_aload_n lk332_135 gq22 ?_
  refine eR_getA lk332_136 rf_299 rfl ?_
  refine eE_iload_n lk332_139 gq18 ?_
  refine eE_iconst (v := 0) lk332_140 (by decide) ?_
  obtain ⟨σ35, h36, h⟩ := Option.bind_eq_some_iff.mp h
  refine eR_iast lk332_141 rfl rfl h36 ?_
  refine eE_aload_n lk332_142 gq22 ?_
  refine eE_iconst (v := 0) lk332_143 (by decide) ?_
  obtain ⟨σ37, h38, h⟩ := Option.bind_eq_some_iff.mp h
  refine eR_putS lk332_144 rf_570 rfl (by decide) pf_122.1 pf_122.2 h38 ?_
  refine eE_aload_n lk332_147 gq22 ?_
  refine eE_iload_n lk332_148 gq21 ?_
  obtain ⟨σ39, h40, h⟩ := Option.bind_eq_some_iff.mp h
  refine eR_putS lk332_149 rf_595 rfl (by decide) pf_123.1 pf_123.2 h40 ?_
  cases h
  exact eE_end lk332_152 rfl rfl rfl
def m_open_b22 (F : Nat)  : Nat → RS → Int32 → Int32 → Int32 → Int32 → Option (RS)
  | 0, _, _, _, _, _ => none
  | n + 1, σ, l1, l2, l3, l4 =>
    let KK := m_open_b22 F  n
    if xc2 .ge l4 ((((16 : Int32)) * l1) + ((16 : Int32))) = true then (
      (m_copySession F σ ((((16 : Int32)) * l1) + ((15 : Int32))) l3).bind fun p42 =>
      (rld p42 106 l1).bind fun x44 =>
      (rst p42 106 l1 ((x44 - ((1 : Int32))))).bind fun σ46 =>
      m_open_b85 F  σ46 l1 l2
    ) else (
      (rld σ 108 l4).bind fun x48 =>
      (rld σ 108 l3).bind fun x50 =>
      if xc2 .ge x48 x50 = true then (
        m_open_b56 F KK σ l3 l1 l2 l4
      ) else (
        m_open_b56 F KK σ l4 l1 l2 l4
      )
    )
set_option maxRecDepth 4000 in
theorem m_open_b22_ok {pF : Nat → List Value → xH → Option (Option Value × xH)} {d : Nat} {aR : Nat} {G : Nat → xC} {T : Nat × Nat} {F : Nat} (hp0 : xNP pF)  : ∀ (n : Nat) (lv : xL) (σ : RS) (l1 : Int32) (l2 : Int32) (l3 : Int32) (l4 : Int32), xg lv 0 = some (.ref aR) → xg lv 1 = some (.int l1) → xg lv 2 = some (.int l2) → xg lv 3 = some (.int l3) → xg lv 4 = some (.int l4) → ∀ res, m_open_b22 F  n σ l1 l2 l3 l4 = some res → xR pF (d + 1) kT332 16 5 false none none (layR aR res G, T) (22, lv, [], (layR aR σ G, T)) := by
  intro n
  induction n with
  | zero => intro lv σ l1 l2 l3 l4 g0 g1 g2 g3 g4 res h; simp [m_open_b22] at h
  | succ n hKK =>
    intro lv σ l1 l2 l3 l4 g0 g1 g2 g3 g4 res h
    unfold m_open_b22 at h
    dsimp only at h
    refine eE_iload lk332_22 g4 ?_
    refine eE_bipush (v := 16) lk332_24 (by decide) ?_
    refine eE_iload_n lk332_26 g1 ?_
    refine eE_imul lk332_27 ?_
    refine eE_bipush (v := 16) lk332_28 (by decide) ?_
    refine eE_iadd lk332_30 ?_
    refine eE_icmp (t := 63) lk332_31 (by decide) (fun c41 => ?_) (fun c41 => ?_)
    · rw [if_pos c41] at h
      refine eE_aload_n lk332_63 g0 ?_
      refine eE_bipush (v := 16) lk332_64 (by decide) ?_
      refine eE_iload_n lk332_66 g1 ?_
      refine eE_imul lk332_67 ?_
      refine eE_bipush (v := 15) lk332_68 (by decide) ?_
      refine eE_iadd lk332_70 ?_
      refine eE_iload_n lk332_71 g3 ?_
      obtain ⟨p42, h43, h⟩ := Option.bind_eq_some_iff.mp h
      refine eR_call (as := [.int ((((16 : Int32)) * l1) + ((15 : Int32))), .int l3]) lk332_72 mr_592 na_263 rfl rfl (Nat.le_of_ble_eq_true rfl) wv_263 wc_263 (m_copySession_ok hp0 (d := d + 0) h43) ?_
      refine eE_aload_n lk332_75 g0 ?_
      refine eR_getA lk332_76 rf_284 rfl ?_
      refine eE_iload_n lk332_79 g1 ?_
      refine eE_dup2 lk332_80 rfl rfl ?_
      obtain ⟨x44, h45, h⟩ := Option.bind_eq_some_iff.mp h
      refine eR_iald lk332_81 rfl rfl h45 ?_
      refine eE_iconst (v := 1) lk332_82 (by decide) ?_
      refine eE_isub lk332_83 ?_
      obtain ⟨σ46, h47, h⟩ := Option.bind_eq_some_iff.mp h
      refine eR_iast lk332_84 rfl rfl h47 ?_
      exact m_open_b85_ok hp0  lv σ46 l1 l2 g0 g1 g2 _ h
    · rw [if_neg c41] at h
      refine eE_aload_n lk332_34 g0 ?_
      refine eR_getA lk332_35 rf_290 rfl ?_
      refine eE_iload lk332_38 g4 ?_
      obtain ⟨x48, h49, h⟩ := Option.bind_eq_some_iff.mp h
      refine eR_iald lk332_40 rfl rfl h49 ?_
      refine eE_aload_n lk332_41 g0 ?_
      refine eR_getA lk332_42 rf_290 rfl ?_
      refine eE_iload_n lk332_45 g3 ?_
      obtain ⟨x50, h51, h⟩ := Option.bind_eq_some_iff.mp h
      refine eR_iald lk332_46 rfl rfl h51 ?_
      refine eE_icmp (t := 55) lk332_47 (by decide) (fun c52 => ?_) (fun c52 => ?_)
      · rw [if_pos c52] at h
        refine eE_iload_n lk332_55 g3 ?_
        exact m_open_b56_ok hp0 hKK lv σ l3 l1 l2 l4 g0 g1 g2 g4 _ h
      · rw [if_neg c52] at h
        refine eE_iload lk332_50 g4 ?_
        refine eE_goto (t := 56) lk332_52 (by decide) ?_
        exact m_open_b56_ok hp0 hKK lv σ l4 l1 l2 l4 g0 g1 g2 g4 _ h
def m_open_b0 (F : Nat)  (σ : RS) (l1 : Int32) (l2 : Int32) : Option (RS) :=
  (rld σ 106 l1).bind fun x53 =>
  if xc2 .ne x53 ((16 : Int32)) = true then (
    m_open_b85 F  σ l1 l2
  ) else (
    m_open_b22 F  F σ l1 l2 (((16 : Int32)) * l1) (((16 : Int32)) * l1)
  )
set_option maxRecDepth 4000 in
theorem m_open_b0_ok {pF : Nat → List Value → xH → Option (Option Value × xH)} {d : Nat} {aR : Nat} {G : Nat → xC} {T : Nat × Nat} {F : Nat} (hp0 : xNP pF)  : ∀ (lv : xL) (σ : RS) (l1 : Int32) (l2 : Int32), xg lv 0 = some (.ref aR) → xg lv 1 = some (.int l1) → xg lv 2 = some (.int l2) → ∀ res, m_open_b0 F  σ l1 l2 = some res → xR pF (d + 1) kT332 16 5 false none none (layR aR res G, T) (0, lv, [], (layR aR σ G, T)) := by
  intro lv σ l1 l2 g0 g1 g2 res h
  unfold m_open_b0 at h
  refine eE_aload_n lk332_0 g0 ?_
  refine eR_getA lk332_1 rf_284 rfl ?_
  refine eE_iload_n lk332_4 g1 ?_
  obtain ⟨x53, h54, h⟩ := Option.bind_eq_some_iff.mp h
  refine eR_iald lk332_5 rfl rfl h54 ?_
  refine eE_bipush (v := 16) lk332_6 (by decide) ?_
  refine eE_icmp (t := 85) lk332_8 (by decide) (fun c55 => ?_) (fun c55 => ?_)
  · rw [if_pos c55] at h
    exact m_open_b85_ok hp0  lv σ l1 l2 g0 g1 g2 _ h
  · rw [if_neg c55] at h
    refine eE_bipush (v := 16) lk332_11 (by decide) ?_
    refine eE_iload_n lk332_13 g1 ?_
    refine eE_imul lk332_14 ?_
    refine eE_stI (j := 3) lk332_15 (Or.inr ⟨_, rfl, rfl⟩) (by decide) (fun vq56 gq57 kq58 => ?_)
    have gq59 := kq58 1 _ (by decide) (fun _ => rfl) g1
    have gq60 := kq58 2 _ (by decide) (fun _ => rfl) g2
    have gq61 := kq58 0 _ (by decide) (fun _ => rfl) g0
    refine eE_bipush (v := 16) lk332_16 (by decide) ?_
    refine eE_iload_n lk332_18 gq59 ?_
    refine eE_imul lk332_19 ?_
    refine eE_stI (j := 4) lk332_20 (Or.inl rfl) (by decide) (fun vq62 gq63 kq64 => ?_)
    have gq65 := kq64 1 _ (by decide) (fun _ => rfl) gq59
    have gq66 := kq64 2 _ (by decide) (fun _ => rfl) gq60
    have gq67 := kq64 0 _ (by decide) (fun _ => rfl) gq61
    have gq68 := kq64 3 _ (by decide) (fun _ => rfl) gq57
    exact m_open_b22_ok hp0  F vq62 σ l1 l2 (((16 : Int32)) * l1) (((16 : Int32)) * l1) gq67 gq65 gq66 gq68 gq63 _ h
def m_open (F : Nat) (σ : RS) (l1 : Int32) (l2 : Int32) : Option (RS) := m_open_b0 F σ l1 l2
theorem m_open_ok {pF : Nat → List Value → xH → Option (Option Value × xH)} (hp0 : xNP pF) {d : Nat} {aR : Nat} {G : Nat → xC} {T : Nat × Nat} {σ : RS} {F : Nat} {l1 : Int32} {l2 : Int32} {res : RS} (h : m_open F σ l1 l2 = some res) : xCo pF (d + 2) 332 [.ref aR, .int l1, .int l2] (layR aR σ G, T) none (layR aR res G, T) := by
  unfold m_open at h
  exact xCo_R kk_332 mo_332 ni_332 xm_332 (Nat.le_of_ble_eq_true rfl) (hp0 _ (by decide) (by decide) _ _) (m_open_b0_ok hp0 _ σ l1 l2 rfl rfl rfl _ h)
/-! forget (286), depth 1 -/
def m_forget_b43 (F : Nat)  : Nat → RS → Int32 → Int32 → Int32 → Option (RS)
  | 0, _, _, _, _ => none
  | n + 1, σ, l1, l2, l4 =>
    let KK := m_forget_b43 F  n
    (rld σ 113 l1).bind fun x1 =>
    if xc2 .ge l4 x1 = true then (
      (rst σ 119 l2 ((((0 : Int32)) &&& 1))).bind fun σ4 =>
      some σ4
    ) else (
      (rld σ 118 (((((128 : Int32)) * l1) + l4) + ((1 : Int32)))).bind fun x6 =>
      (rst σ 118 ((((128 : Int32)) * l1) + l4) x6).bind fun σ8 =>
      KK σ8 l1 l2 (l4 + (1 : Int32))
    )
set_option maxRecDepth 4000 in
theorem m_forget_b43_ok {pF : Nat → List Value → xH → Option (Option Value × xH)} {d : Nat} {aR : Nat} {G : Nat → xC} {T : Nat × Nat} {F : Nat} (hp0 : xNP pF)  : ∀ (n : Nat) (lv : xL) (σ : RS) (l1 : Int32) (l2 : Int32) (l4 : Int32), xg lv 0 = some (.ref aR) → xg lv 1 = some (.int l1) → xg lv 2 = some (.int l2) → xg lv 4 = some (.int l4) → ∀ res, m_forget_b43 F  n σ l1 l2 l4 = some res → xR pF (d + 0) kT286 16 5 false none none (layR aR res G, T) (43, lv, [], (layR aR σ G, T)) := by
  intro n
  induction n with
  | zero => intro lv σ l1 l2 l4 g0 g1 g2 g4 res h; simp [m_forget_b43] at h
  | succ n hKK =>
    intro lv σ l1 l2 l4 g0 g1 g2 g4 res h
    unfold m_forget_b43 at h
    dsimp only at h
    refine eE_iload lk286_43 g4 ?_
    refine eE_aload_n lk286_45 g0 ?_
    refine eR_getA lk286_46 rf_305 rfl ?_
    refine eE_iload_n lk286_49 g1 ?_
    obtain ⟨x1, h2, h⟩ := Option.bind_eq_some_iff.mp h
    refine eR_iald lk286_50 rfl rfl h2 ?_
    refine eE_icmp (t := 88) lk286_51 (by decide) (fun c3 => ?_) (fun c3 => ?_)
    · rw [if_pos c3] at h
      refine eE_aload_n lk286_88 g0 ?_
      refine eR_getA lk286_89 rf_324 rfl ?_
      refine eE_iload_n lk286_92 g2 ?_
      refine eE_iconst (v := 0) lk286_93 (by decide) ?_
      obtain ⟨σ4, h5, h⟩ := Option.bind_eq_some_iff.mp h
      refine eR_zast lk286_94 rfl rfl rfl h5 ?_
      cases h
      exact eE_end lk286_95 rfl rfl rfl
    · rw [if_neg c3] at h
      refine eE_aload_n lk286_54 g0 ?_
      refine eR_getA lk286_55 rf_321 rfl ?_
      refine eE_sipush (v := 128) lk286_58 (by decide) ?_
      refine eE_iload_n lk286_61 g1 ?_
      refine eE_imul lk286_62 ?_
      refine eE_iload lk286_63 g4 ?_
      refine eE_iadd lk286_65 ?_
      refine eE_aload_n lk286_66 g0 ?_
      refine eR_getA lk286_67 rf_321 rfl ?_
      refine eE_sipush (v := 128) lk286_70 (by decide) ?_
      refine eE_iload_n lk286_73 g1 ?_
      refine eE_imul lk286_74 ?_
      refine eE_iload lk286_75 g4 ?_
      refine eE_iadd lk286_77 ?_
      refine eE_iconst (v := 1) lk286_78 (by decide) ?_
      refine eE_iadd lk286_79 ?_
      obtain ⟨x6, h7, h⟩ := Option.bind_eq_some_iff.mp h
      refine eR_iald lk286_80 rfl rfl h7 ?_
      obtain ⟨σ8, h9, h⟩ := Option.bind_eq_some_iff.mp h
      refine eR_iast lk286_81 rfl rfl h9 ?_
      refine eE_inc (j := 4) (v := l4 + (1 : Int32)) lk286_82 g4 rfl (by decide) (fun vq10 gq11 kq12 => ?_)
      have gq13 := kq12 1 _ (by decide) (fun _ => rfl) g1
      have gq14 := kq12 2 _ (by decide) (fun _ => rfl) g2
      have gq15 := kq12 0 _ (by decide) (fun _ => rfl) g0
      refine eE_goto (t := 43) lk286_85 (by decide) ?_
      exact hKK vq10 σ8 l1 l2 (l4 + (1 : Int32)) gq15 gq13 gq14 gq11 _ h
def m_forget_b2 (F : Nat)  : Nat → RS → Int32 → Int32 → Int32 → Option (RS)
  | 0, _, _, _, _ => none
  | n + 1, σ, l1, l2, l3 =>
    let KK := m_forget_b2 F  n
    (rld σ 118 ((((128 : Int32)) * l1) + l3)).bind fun x16 =>
    if xc2 .eq x16 (l2 - (((128 : Int32)) * l1)) = true then (
      (rld σ 113 l1).bind fun x19 =>
      (rst σ 113 l1 ((x19 - ((1 : Int32))))).bind fun σ21 =>
      m_forget_b43 F  F σ21 l1 l2 l3
    ) else (
      KK σ l1 l2 (l3 + (1 : Int32))
    )
set_option maxRecDepth 4000 in
theorem m_forget_b2_ok {pF : Nat → List Value → xH → Option (Option Value × xH)} {d : Nat} {aR : Nat} {G : Nat → xC} {T : Nat × Nat} {F : Nat} (hp0 : xNP pF)  : ∀ (n : Nat) (lv : xL) (σ : RS) (l1 : Int32) (l2 : Int32) (l3 : Int32), xg lv 0 = some (.ref aR) → xg lv 1 = some (.int l1) → xg lv 2 = some (.int l2) → xg lv 3 = some (.int l3) → ∀ res, m_forget_b2 F  n σ l1 l2 l3 = some res → xR pF (d + 0) kT286 16 5 false none none (layR aR res G, T) (2, lv, [], (layR aR σ G, T)) := by
  intro n
  induction n with
  | zero => intro lv σ l1 l2 l3 g0 g1 g2 g3 res h; simp [m_forget_b2] at h
  | succ n hKK =>
    intro lv σ l1 l2 l3 g0 g1 g2 g3 res h
    unfold m_forget_b2 at h
    dsimp only at h
    refine eE_aload_n lk286_2 g0 ?_
    refine eR_getA lk286_3 rf_321 rfl ?_
    refine eE_sipush (v := 128) lk286_6 (by decide) ?_
    refine eE_iload_n lk286_9 g1 ?_
    refine eE_imul lk286_10 ?_
    refine eE_iload_n lk286_11 g3 ?_
    refine eE_iadd lk286_12 ?_
    obtain ⟨x16, h17, h⟩ := Option.bind_eq_some_iff.mp h
    refine eR_iald lk286_13 rfl rfl h17 ?_
    refine eE_iload_n lk286_14 g2 ?_
    refine eE_sipush (v := 128) lk286_15 (by decide) ?_
    refine eE_iload_n lk286_18 g1 ?_
    refine eE_imul lk286_19 ?_
    refine eE_isub lk286_20 ?_
    refine eE_icmp (t := 30) lk286_21 (by decide) (fun c18 => ?_) (fun c18 => ?_)
    · rw [if_pos c18] at h
      refine eE_aload_n lk286_30 g0 ?_
      refine eR_getA lk286_31 rf_305 rfl ?_
      refine eE_iload_n lk286_34 g1 ?_
      refine eE_dup2 lk286_35 rfl rfl ?_
      obtain ⟨x19, h20, h⟩ := Option.bind_eq_some_iff.mp h
      refine eR_iald lk286_36 rfl rfl h20 ?_
      refine eE_iconst (v := 1) lk286_37 (by decide) ?_
      refine eE_isub lk286_38 ?_
      obtain ⟨σ21, h22, h⟩ := Option.bind_eq_some_iff.mp h
      refine eR_iast lk286_39 rfl rfl h22 ?_
      refine eE_iload_n lk286_40 g3 ?_
      refine eE_stI (j := 4) lk286_41 (Or.inl rfl) (by decide) (fun vq23 gq24 kq25 => ?_)
      have gq26 := kq25 1 _ (by decide) (fun _ => rfl) g1
      have gq27 := kq25 2 _ (by decide) (fun _ => rfl) g2
      have gq28 := kq25 0 _ (by decide) (fun _ => rfl) g0
      exact m_forget_b43_ok hp0  F vq23 σ21 l1 l2 l3 gq28 gq26 gq27 gq24 _ h
    · rw [if_neg c18] at h
      refine eE_inc (j := 3) (v := l3 + (1 : Int32)) lk286_24 g3 rfl (by decide) (fun vq29 gq30 kq31 => ?_)
      have gq32 := kq31 1 _ (by decide) (fun _ => rfl) g1
      have gq33 := kq31 2 _ (by decide) (fun _ => rfl) g2
      have gq34 := kq31 0 _ (by decide) (fun _ => rfl) g0
      refine eE_goto (t := 2) lk286_27 (by decide) ?_
      exact hKK vq29 σ l1 l2 (l3 + (1 : Int32)) gq34 gq32 gq33 gq30 _ h
def m_forget_b0 (F : Nat)  (σ : RS) (l1 : Int32) (l2 : Int32) : Option (RS) :=
  m_forget_b2 F  F σ l1 l2 ((0 : Int32))
set_option maxRecDepth 4000 in
theorem m_forget_b0_ok {pF : Nat → List Value → xH → Option (Option Value × xH)} {d : Nat} {aR : Nat} {G : Nat → xC} {T : Nat × Nat} {F : Nat} (hp0 : xNP pF)  : ∀ (lv : xL) (σ : RS) (l1 : Int32) (l2 : Int32), xg lv 0 = some (.ref aR) → xg lv 1 = some (.int l1) → xg lv 2 = some (.int l2) → ∀ res, m_forget_b0 F  σ l1 l2 = some res → xR pF (d + 0) kT286 16 5 false none none (layR aR res G, T) (0, lv, [], (layR aR σ G, T)) := by
  intro lv σ l1 l2 g0 g1 g2 res h
  unfold m_forget_b0 at h
  refine eE_iconst (v := 0) lk286_0 (by decide) ?_
  refine eE_stI (j := 3) lk286_1 (Or.inr ⟨_, rfl, rfl⟩) (by decide) (fun vq35 gq36 kq37 => ?_)
  have gq38 := kq37 1 _ (by decide) (fun _ => rfl) g1
  have gq39 := kq37 2 _ (by decide) (fun _ => rfl) g2
  have gq40 := kq37 0 _ (by decide) (fun _ => rfl) g0
  exact m_forget_b2_ok hp0  F vq35 σ l1 l2 ((0 : Int32)) gq40 gq38 gq39 gq36 _ h
def m_forget (F : Nat) (σ : RS) (l1 : Int32) (l2 : Int32) : Option (RS) := m_forget_b0 F σ l1 l2
theorem m_forget_ok {pF : Nat → List Value → xH → Option (Option Value × xH)} (hp0 : xNP pF) {d : Nat} {aR : Nat} {G : Nat → xC} {T : Nat × Nat} {σ : RS} {F : Nat} {l1 : Int32} {l2 : Int32} {res : RS} (h : m_forget F σ l1 l2 = some res) : xCo pF (d + 1) 286 [.ref aR, .int l1, .int l2] (layR aR σ G, T) none (layR aR res G, T) := by
  unfold m_forget at h
  exact xCo_R kk_286 mo_286 ni_286 xm_286 (Nat.le_of_ble_eq_true rfl) (hp0 _ (by decide) (by decide) _ _) (m_forget_b0_ok hp0 _ σ l1 l2 rfl rfl rfl _ h)
/-! units (375), depth 1 -/
def m_units_b4 (F : Nat)  : Nat → RS → Int32 → Int32 → Int32 → Option (Int32 × RS)
  | 0, _, _, _, _ => none
  | n + 1, σ, l1, l2, l3 =>
    let KK := m_units_b4 F  n
    (rld σ 113 l1).bind fun x1 =>
    if xc2 .ge l3 x1 = true then (
      some (l2, σ)
    ) else (
      (rld σ 118 ((((128 : Int32)) * l1) + l3)).bind fun x4 =>
      (rld σ 114 ((((128 : Int32)) * l1) + x4)).bind fun x13 =>
      (rld σ 115 ((((128 : Int32)) * l1) + x4)).bind fun x15 =>
      if ((16 : Int32)) = 0 then none else
      KK σ l1 (l2 + (((x13 + x15) + ((15 : Int32))) / ((16 : Int32)))) (l3 + (1 : Int32))
    )
set_option maxRecDepth 4000 in
theorem m_units_b4_ok {pF : Nat → List Value → xH → Option (Option Value × xH)} {d : Nat} {aR : Nat} {G : Nat → xC} {T : Nat × Nat} {F : Nat} (hp0 : xNP pF)  : ∀ (n : Nat) (lv : xL) (σ : RS) (l1 : Int32) (l2 : Int32) (l3 : Int32), xg lv 0 = some (.ref aR) → xg lv 1 = some (.int l1) → xg lv 2 = some (.int l2) → xg lv 3 = some (.int l3) → ∀ res, m_units_b4 F  n σ l1 l2 l3 = some res → xR pF (d + 0) kT375 16 5 false (some .int) (some (.int res.1)) (layR aR res.2 G, T) (4, lv, [], (layR aR σ G, T)) := by
  intro n
  induction n with
  | zero => intro lv σ l1 l2 l3 g0 g1 g2 g3 res h; simp [m_units_b4] at h
  | succ n hKK =>
    intro lv σ l1 l2 l3 g0 g1 g2 g3 res h
    unfold m_units_b4 at h
    dsimp only at h
    refine eE_iload_n lk375_4 g3 ?_
    refine eE_aload_n lk375_5 g0 ?_
    refine eR_getA lk375_6 rf_305 rfl ?_
    refine eE_iload_n lk375_9 g1 ?_
    obtain ⟨x1, h2, h⟩ := Option.bind_eq_some_iff.mp h
    refine eR_iald lk375_10 rfl rfl h2 ?_
    refine eE_icmp (t := 64) lk375_11 (by decide) (fun c3 => ?_) (fun c3 => ?_)
    · rw [if_pos c3] at h
      refine eE_iload_n lk375_64 g2 ?_
      cases h
      exact eE_end lk375_65 rfl rfl rfl
    · rw [if_neg c3] at h
      refine eE_sipush (v := 128) lk375_14 (by decide) ?_
      refine eE_iload_n lk375_17 g1 ?_
      refine eE_imul lk375_18 ?_
      refine eE_aload_n lk375_19 g0 ?_
      refine eR_getA lk375_20 rf_321 rfl ?_
      refine eE_sipush (v := 128) lk375_23 (by decide) ?_
      refine eE_iload_n lk375_26 g1 ?_
      refine eE_imul lk375_27 ?_
      refine eE_iload_n lk375_28 g3 ?_
      refine eE_iadd lk375_29 ?_
      obtain ⟨x4, h5, h⟩ := Option.bind_eq_some_iff.mp h
      refine eR_iald lk375_30 rfl rfl h5 ?_
      refine eE_iadd lk375_31 ?_
      refine eE_stI (j := 4) lk375_32 (Or.inl rfl) (by decide) (fun vq6 gq7 kq8 => ?_)
      have gq9 := kq8 1 _ (by decide) (fun _ => rfl) g1
      have gq10 := kq8 2 _ (by decide) (fun _ => rfl) g2
      have gq11 := kq8 3 _ (by decide) (fun _ => rfl) g3
      have gq12 := kq8 0 _ (by decide) (fun _ => rfl) g0
      refine eE_iload_n lk375_34 gq10 ?_
      refine eE_aload_n lk375_35 gq12 ?_
      refine eR_getA lk375_36 rf_308 rfl ?_
      refine eE_iload lk375_39 gq7 ?_
      obtain ⟨x13, h14, h⟩ := Option.bind_eq_some_iff.mp h
      refine eR_iald lk375_41 rfl rfl h14 ?_
      refine eE_aload_n lk375_42 gq12 ?_
      refine eR_getA lk375_43 rf_311 rfl ?_
      refine eE_iload lk375_46 gq7 ?_
      obtain ⟨x15, h16, h⟩ := Option.bind_eq_some_iff.mp h
      refine eR_iald lk375_48 rfl rfl h16 ?_
      refine eE_iadd lk375_49 ?_
      refine eE_bipush (v := 15) lk375_50 (by decide) ?_
      refine eE_iadd lk375_52 ?_
      refine eE_bipush (v := 16) lk375_53 (by decide) ?_
      by_cases z17 : ((16 : Int32)) = 0
      · rw [if_pos z17] at h; cases h
      rw [if_neg z17] at h
      refine eE_idiv lk375_55 z17 ?_
      refine eE_iadd lk375_56 ?_
      refine eE_stI (j := 2) lk375_57 (Or.inr ⟨_, rfl, rfl⟩) (by decide) (fun vq18 gq19 kq20 => ?_)
      have gq21 := kq20 1 _ (by decide) (fun _ => rfl) gq9
      have gq22 := kq20 3 _ (by decide) (fun _ => rfl) gq11
      have gq23 := kq20 0 _ (by decide) (fun _ => rfl) gq12
      refine eE_inc (j := 3) (v := l3 + (1 : Int32)) lk375_58 gq22 rfl (by decide) (fun vq24 gq25 kq26 => ?_)
      have gq27 := kq26 1 _ (by decide) (fun _ => rfl) gq21
      have gq28 := kq26 0 _ (by decide) (fun _ => rfl) gq23
      have gq29 := kq26 2 _ (by decide) (fun _ => rfl) gq19
      refine eE_goto (t := 4) lk375_61 (by decide) ?_
      exact hKK vq24 σ l1 (l2 + (((x13 + x15) + ((15 : Int32))) / ((16 : Int32)))) (l3 + (1 : Int32)) gq28 gq27 gq29 gq25 _ h
def m_units_b0 (F : Nat)  (σ : RS) (l1 : Int32) : Option (Int32 × RS) :=
  m_units_b4 F  F σ l1 ((0 : Int32)) ((0 : Int32))
set_option maxRecDepth 4000 in
theorem m_units_b0_ok {pF : Nat → List Value → xH → Option (Option Value × xH)} {d : Nat} {aR : Nat} {G : Nat → xC} {T : Nat × Nat} {F : Nat} (hp0 : xNP pF)  : ∀ (lv : xL) (σ : RS) (l1 : Int32), xg lv 0 = some (.ref aR) → xg lv 1 = some (.int l1) → ∀ res, m_units_b0 F  σ l1 = some res → xR pF (d + 0) kT375 16 5 false (some .int) (some (.int res.1)) (layR aR res.2 G, T) (0, lv, [], (layR aR σ G, T)) := by
  intro lv σ l1 g0 g1 res h
  unfold m_units_b0 at h
  refine eE_iconst (v := 0) lk375_0 (by decide) ?_
  refine eE_stI (j := 2) lk375_1 (Or.inr ⟨_, rfl, rfl⟩) (by decide) (fun vq30 gq31 kq32 => ?_)
  have gq33 := kq32 1 _ (by decide) (fun _ => rfl) g1
  have gq34 := kq32 0 _ (by decide) (fun _ => rfl) g0
  refine eE_iconst (v := 0) lk375_2 (by decide) ?_
  refine eE_stI (j := 3) lk375_3 (Or.inr ⟨_, rfl, rfl⟩) (by decide) (fun vq35 gq36 kq37 => ?_)
  have gq38 := kq37 1 _ (by decide) (fun _ => rfl) gq33
  have gq39 := kq37 0 _ (by decide) (fun _ => rfl) gq34
  have gq40 := kq37 2 _ (by decide) (fun _ => rfl) gq31
  exact m_units_b4_ok hp0  F vq35 σ l1 ((0 : Int32)) ((0 : Int32)) gq39 gq38 gq40 gq36 _ h
def m_units (F : Nat) (σ : RS) (l1 : Int32) : Option (Int32 × RS) := m_units_b0 F σ l1
theorem m_units_ok {pF : Nat → List Value → xH → Option (Option Value × xH)} (hp0 : xNP pF) {d : Nat} {aR : Nat} {G : Nat → xC} {T : Nat × Nat} {σ : RS} {F : Nat} {l1 : Int32} {res : Int32 × RS} (h : m_units F σ l1 = some res) : xCo pF (d + 1) 375 [.ref aR, .int l1] (layR aR σ G, T) (some (.int res.1)) (layR aR res.2 G, T) := by
  unfold m_units at h
  exact xCo_R kk_375 mo_375 ni_375 xm_375 (Nat.le_of_ble_eq_true rfl) (hp0 _ (by decide) (by decide) _ _) (m_units_b0_ok hp0 _ σ l1 rfl rfl _ h)
/-! keep (307), depth 5 -/
def m_keep_b84 (F : Nat)  (σ : RS) : Option (Int32 × RS) :=
  if ((0 : Int32)) = 0 ∨ ((0 : Int32)) = 1 then some ((0 : Int32), σ) else none
set_option maxRecDepth 4000 in
theorem m_keep_b84_ok {pF : Nat → List Value → xH → Option (Option Value × xH)} {d : Nat} {aR : Nat} {G : Nat → xC} {T : Nat × Nat} {F : Nat} (hp0 : xNP pF)  : ∀ (lv : xL) (σ : RS), xg lv 0 = some (.ref aR) → ∀ res, m_keep_b84 F  σ = some res → xR pF (d + 4) kT307 16 11 false (some .boolean) (some (.int res.1)) (layR aR res.2 G, T) (84, lv, [], (layR aR σ G, T)) := by
  intro lv σ g0 res h
  unfold m_keep_b84 at h
  refine eE_iconst (v := 0) lk307_84 (by decide) ?_
  by_cases z1 : ((0 : Int32)) = 0 ∨ ((0 : Int32)) = 1
  · rw [if_pos z1] at h; cases h
    exact eE_end lk307_85 rfl rfl (by first | (simp only [xfin, if_true, if_pos z1]; done) | simp [xfin, z1])
  · rw [if_neg z1] at h; cases h
def m_keep_b274 (F : Nat)  : Nat → RS → Int32 → Int32 → Int32 → Int32 → Option (Int32 × RS)
  | 0, _, _, _, _, _ => none
  | n + 1, σ, l4, l5, l6, l8 =>
    let KK := m_keep_b274 F  n
    if xc2 .ge l8 l5 = true then (
      if ((1 : Int32)) = 0 ∨ ((1 : Int32)) = 1 then some ((1 : Int32), σ) else none
    ) else (
      (m_inLog σ (l4 + l8)).bind fun p4 =>
      (rst p4.2 117 ((((100 : Int32)) * l6) + l8) (p4.1.toInt8.toInt32)).bind fun σ6 =>
      KK σ6 l4 l5 l6 (l8 + (1 : Int32))
    )
set_option maxRecDepth 4000 in
theorem m_keep_b274_ok {pF : Nat → List Value → xH → Option (Option Value × xH)} {d : Nat} {aR : Nat} {G : Nat → xC} {T : Nat × Nat} {F : Nat} (hp0 : xNP pF)  : ∀ (n : Nat) (lv : xL) (σ : RS) (l4 : Int32) (l5 : Int32) (l6 : Int32) (l8 : Int32), xg lv 0 = some (.ref aR) → xg lv 4 = some (.int l4) → xg lv 5 = some (.int l5) → xg lv 6 = some (.int l6) → xg lv 8 = some (.int l8) → ∀ res, m_keep_b274 F  n σ l4 l5 l6 l8 = some res → xR pF (d + 4) kT307 16 11 false (some .boolean) (some (.int res.1)) (layR aR res.2 G, T) (274, lv, [], (layR aR σ G, T)) := by
  intro n
  induction n with
  | zero => intro lv σ l4 l5 l6 l8 g0 g4 g5 g6 g8 res h; simp [m_keep_b274] at h
  | succ n hKK =>
    intro lv σ l4 l5 l6 l8 g0 g4 g5 g6 g8 res h
    unfold m_keep_b274 at h
    dsimp only at h
    refine eE_iload lk307_274 g8 ?_
    refine eE_iload lk307_276 g5 ?_
    refine eE_icmp (t := 309) lk307_278 (by decide) (fun c2 => ?_) (fun c2 => ?_)
    · rw [if_pos c2] at h
      refine eE_iconst (v := 1) lk307_309 (by decide) ?_
      by_cases z3 : ((1 : Int32)) = 0 ∨ ((1 : Int32)) = 1
      · rw [if_pos z3] at h; cases h
        exact eE_end lk307_310 rfl rfl (by first | (simp only [xfin, if_true, if_pos z3]; done) | simp [xfin, z3])
      · rw [if_neg z3] at h; cases h
    · rw [if_neg c2] at h
      refine eE_aload_n lk307_281 g0 ?_
      refine eR_getA lk307_282 rf_318 rfl ?_
      refine eE_bipush (v := 100) lk307_285 (by decide) ?_
      refine eE_iload lk307_287 g6 ?_
      refine eE_imul lk307_289 ?_
      refine eE_iload lk307_290 g8 ?_
      refine eE_iadd lk307_292 ?_
      refine eE_aload_n lk307_293 g0 ?_
      refine eE_iload lk307_294 g4 ?_
      refine eE_iload lk307_296 g8 ?_
      refine eE_iadd lk307_298 ?_
      obtain ⟨p4, h5, h⟩ := Option.bind_eq_some_iff.mp h
      refine eR_call (as := [.int (l4 + l8)]) lk307_299 mr_530 na_296 rfl rfl (Nat.le_of_ble_eq_true rfl) wv_296 wc_296 (m_inLog_ok hp0 (d := d + 3) h5) ?_
      obtain ⟨σ6, h7, h⟩ := Option.bind_eq_some_iff.mp h
      refine eR_bast lk307_302 rfl rfl rfl h7 ?_
      refine eE_inc (j := 8) (v := l8 + (1 : Int32)) lk307_303 g8 rfl (by decide) (fun vq8 gq9 kq10 => ?_)
      have gq11 := kq10 4 _ (by decide) (fun _ => rfl) g4
      have gq12 := kq10 5 _ (by decide) (fun _ => rfl) g5
      have gq13 := kq10 6 _ (by decide) (fun _ => rfl) g6
      have gq14 := kq10 0 _ (by decide) (fun _ => rfl) g0
      refine eE_goto (t := 274) lk307_306 (by decide) ?_
      exact hKK vq8 σ6 l4 l5 l6 (l8 + (1 : Int32)) gq14 gq11 gq12 gq13 gq9 _ h
def m_keep_b262 (F : Nat)  (σ : RS) (l4 : Int32) (l5 : Int32) (l6 : Int32) : Option (Int32 × RS) :=
  (rst σ 115 l6 l5).bind fun σ15 =>
  m_keep_b274 F  F σ15 l4 l5 l6 ((0 : Int32))
set_option maxRecDepth 4000 in
theorem m_keep_b262_ok {pF : Nat → List Value → xH → Option (Option Value × xH)} {d : Nat} {aR : Nat} {G : Nat → xC} {T : Nat × Nat} {F : Nat} (hp0 : xNP pF)  : ∀ (lv : xL) (σ : RS) (l4 : Int32) (l5 : Int32) (l6 : Int32), xg lv 0 = some (.ref aR) → xg lv 4 = some (.int l4) → xg lv 5 = some (.int l5) → xg lv 6 = some (.int l6) → ∀ res, m_keep_b262 F  σ l4 l5 l6 = some res → xR pF (d + 4) kT307 16 11 false (some .boolean) (some (.int res.1)) (layR aR res.2 G, T) (262, lv, [], (layR aR σ G, T)) := by
  intro lv σ l4 l5 l6 g0 g4 g5 g6 res h
  unfold m_keep_b262 at h
  refine eE_aload_n lk307_262 g0 ?_
  refine eR_getA lk307_263 rf_311 rfl ?_
  refine eE_iload lk307_266 g6 ?_
  refine eE_iload lk307_268 g5 ?_
  obtain ⟨σ15, h16, h⟩ := Option.bind_eq_some_iff.mp h
  refine eR_iast lk307_270 rfl rfl h16 ?_
  refine eE_iconst (v := 0) lk307_271 (by decide) ?_
  refine eE_stI (j := 8) lk307_272 (Or.inl rfl) (by decide) (fun vq17 gq18 kq19 => ?_)
  have gq20 := kq19 4 _ (by decide) (fun _ => rfl) g4
  have gq21 := kq19 5 _ (by decide) (fun _ => rfl) g5
  have gq22 := kq19 6 _ (by decide) (fun _ => rfl) g6
  have gq23 := kq19 0 _ (by decide) (fun _ => rfl) g0
  exact m_keep_b274_ok hp0  F vq17 σ15 l4 l5 l6 ((0 : Int32)) gq23 gq20 gq21 gq22 gq18 _ h
def m_keep_b229 (F : Nat)  : Nat → RS → Int32 → Int32 → Int32 → Int32 → Int32 → Int32 → Option (Int32 × RS)
  | 0, _, _, _, _, _, _, _ => none
  | n + 1, σ, l2, l3, l4, l5, l6, l10 =>
    let KK := m_keep_b229 F  n
    if xc2 .ge l10 l3 = true then (
      m_keep_b262 F  σ l4 l5 l6
    ) else (
      (m_inLog σ (l2 + l10)).bind fun p25 =>
      (rst p25.2 116 ((((32 : Int32)) * l6) + l10) (p25.1.toInt8.toInt32)).bind fun σ27 =>
      KK σ27 l2 l3 l4 l5 l6 (l10 + (1 : Int32))
    )
set_option maxRecDepth 4000 in
theorem m_keep_b229_ok {pF : Nat → List Value → xH → Option (Option Value × xH)} {d : Nat} {aR : Nat} {G : Nat → xC} {T : Nat × Nat} {F : Nat} (hp0 : xNP pF)  : ∀ (n : Nat) (lv : xL) (σ : RS) (l2 : Int32) (l3 : Int32) (l4 : Int32) (l5 : Int32) (l6 : Int32) (l10 : Int32), xg lv 0 = some (.ref aR) → xg lv 2 = some (.int l2) → xg lv 3 = some (.int l3) → xg lv 4 = some (.int l4) → xg lv 5 = some (.int l5) → xg lv 6 = some (.int l6) → xg lv 10 = some (.int l10) → ∀ res, m_keep_b229 F  n σ l2 l3 l4 l5 l6 l10 = some res → xR pF (d + 4) kT307 16 11 false (some .boolean) (some (.int res.1)) (layR aR res.2 G, T) (229, lv, [], (layR aR σ G, T)) := by
  intro n
  induction n with
  | zero => intro lv σ l2 l3 l4 l5 l6 l10 g0 g2 g3 g4 g5 g6 g10 res h; simp [m_keep_b229] at h
  | succ n hKK =>
    intro lv σ l2 l3 l4 l5 l6 l10 g0 g2 g3 g4 g5 g6 g10 res h
    unfold m_keep_b229 at h
    dsimp only at h
    refine eE_iload lk307_229 g10 ?_
    refine eE_iload_n lk307_231 g3 ?_
    refine eE_icmp (t := 262) lk307_232 (by decide) (fun c24 => ?_) (fun c24 => ?_)
    · rw [if_pos c24] at h
      exact m_keep_b262_ok hp0  lv σ l4 l5 l6 g0 g4 g5 g6 _ h
    · rw [if_neg c24] at h
      refine eE_aload_n lk307_235 g0 ?_
      refine eR_getA lk307_236 rf_314 rfl ?_
      refine eE_bipush (v := 32) lk307_239 (by decide) ?_
      refine eE_iload lk307_241 g6 ?_
      refine eE_imul lk307_243 ?_
      refine eE_iload lk307_244 g10 ?_
      refine eE_iadd lk307_246 ?_
      refine eE_aload_n lk307_247 g0 ?_
      refine eE_iload_n lk307_248 g2 ?_
      refine eE_iload lk307_249 g10 ?_
      refine eE_iadd lk307_251 ?_
      obtain ⟨p25, h26, h⟩ := Option.bind_eq_some_iff.mp h
      refine eR_call (as := [.int (l2 + l10)]) lk307_252 mr_530 na_296 rfl rfl (Nat.le_of_ble_eq_true rfl) wv_296 wc_296 (m_inLog_ok hp0 (d := d + 3) h26) ?_
      obtain ⟨σ27, h28, h⟩ := Option.bind_eq_some_iff.mp h
      refine eR_bast lk307_255 rfl rfl rfl h28 ?_
      refine eE_inc (j := 10) (v := l10 + (1 : Int32)) lk307_256 g10 rfl (by decide) (fun vq29 gq30 kq31 => ?_)
      have gq32 := kq31 2 _ (by decide) (fun _ => rfl) g2
      have gq33 := kq31 3 _ (by decide) (fun _ => rfl) g3
      have gq34 := kq31 4 _ (by decide) (fun _ => rfl) g4
      have gq35 := kq31 5 _ (by decide) (fun _ => rfl) g5
      have gq36 := kq31 6 _ (by decide) (fun _ => rfl) g6
      have gq37 := kq31 0 _ (by decide) (fun _ => rfl) g0
      refine eE_goto (t := 229) lk307_259 (by decide) ?_
      exact hKK vq29 σ27 l2 l3 l4 l5 l6 (l10 + (1 : Int32)) gq37 gq32 gq33 gq34 gq35 gq36 gq30 _ h
def m_keep_b134 (F : Nat)  : Nat → RS → Int32 → Int32 → Int32 → Int32 → Int32 → Int32 → Int32 → Int32 → Option (Int32 × RS)
  | 0, _, _, _, _, _, _, _, _, _ => none
  | n + 1, σ, l1, l2, l3, l4, l5, l8, l9, l10 =>
    let KK := m_keep_b134 F  n
    if xc2 .le l10 l8 = true then (
      (rst σ 118 ((((128 : Int32)) * l1) + l8) l9).bind fun σ39 =>
      (rld σ39 113 l1).bind fun x41 =>
      (rst σ39 113 l1 ((x41 + ((1 : Int32))))).bind fun σ43 =>
      (rst σ43 119 ((((128 : Int32)) * l1) + l9) ((((1 : Int32)) &&& 1))).bind fun σ53 =>
      (rst σ53 114 ((((128 : Int32)) * l1) + l9) l3).bind fun σ55 =>
      m_keep_b229 F  F σ55 l2 l3 l4 l5 ((((128 : Int32)) * l1) + l9) ((0 : Int32))
    ) else (
      (rld σ 118 (((((128 : Int32)) * l1) + l10) - ((1 : Int32)))).bind fun x66 =>
      (rst σ 118 ((((128 : Int32)) * l1) + l10) x66).bind fun σ68 =>
      KK σ68 l1 l2 l3 l4 l5 l8 l9 (l10 + (-1 : Int32))
    )
set_option maxRecDepth 4000 in
theorem m_keep_b134_ok {pF : Nat → List Value → xH → Option (Option Value × xH)} {d : Nat} {aR : Nat} {G : Nat → xC} {T : Nat × Nat} {F : Nat} (hp0 : xNP pF)  : ∀ (n : Nat) (lv : xL) (σ : RS) (l1 : Int32) (l2 : Int32) (l3 : Int32) (l4 : Int32) (l5 : Int32) (l8 : Int32) (l9 : Int32) (l10 : Int32), xg lv 0 = some (.ref aR) → xg lv 1 = some (.int l1) → xg lv 2 = some (.int l2) → xg lv 3 = some (.int l3) → xg lv 4 = some (.int l4) → xg lv 5 = some (.int l5) → xg lv 8 = some (.int l8) → xg lv 9 = some (.int l9) → xg lv 10 = some (.int l10) → ∀ res, m_keep_b134 F  n σ l1 l2 l3 l4 l5 l8 l9 l10 = some res → xR pF (d + 4) kT307 16 11 false (some .boolean) (some (.int res.1)) (layR aR res.2 G, T) (134, lv, [], (layR aR σ G, T)) := by
  intro n
  induction n with
  | zero => intro lv σ l1 l2 l3 l4 l5 l8 l9 l10 g0 g1 g2 g3 g4 g5 g8 g9 g10 res h; simp [m_keep_b134] at h
  | succ n hKK =>
    intro lv σ l1 l2 l3 l4 l5 l8 l9 l10 g0 g1 g2 g3 g4 g5 g8 g9 g10 res h
    unfold m_keep_b134 at h
    dsimp only at h
    refine eE_iload lk307_134 g10 ?_
    refine eE_iload lk307_136 g8 ?_
    refine eE_icmp (t := 175) lk307_138 (by decide) (fun c38 => ?_) (fun c38 => ?_)
    · rw [if_pos c38] at h
      refine eE_aload_n lk307_175 g0 ?_
      refine eR_getA lk307_176 rf_321 rfl ?_
      refine eE_sipush (v := 128) lk307_179 (by decide) ?_
      refine eE_iload_n lk307_182 g1 ?_
      refine eE_imul lk307_183 ?_
      refine eE_iload lk307_184 g8 ?_
      refine eE_iadd lk307_186 ?_
      refine eE_iload lk307_187 g9 ?_
      obtain ⟨σ39, h40, h⟩ := Option.bind_eq_some_iff.mp h
      refine eR_iast lk307_189 rfl rfl h40 ?_
      refine eE_aload_n lk307_190 g0 ?_
      refine eR_getA lk307_191 rf_305 rfl ?_
      refine eE_iload_n lk307_194 g1 ?_
      refine eE_dup2 lk307_195 rfl rfl ?_
      obtain ⟨x41, h42, h⟩ := Option.bind_eq_some_iff.mp h
      refine eR_iald lk307_196 rfl rfl h42 ?_
      refine eE_iconst (v := 1) lk307_197 (by decide) ?_
      refine eE_iadd lk307_198 ?_
      obtain ⟨σ43, h44, h⟩ := Option.bind_eq_some_iff.mp h
      refine eR_iast lk307_199 rfl rfl h44 ?_
      refine eE_sipush (v := 128) lk307_200 (by decide) ?_
      refine eE_iload_n lk307_203 g1 ?_
      refine eE_imul lk307_204 ?_
      refine eE_iload lk307_205 g9 ?_
      refine eE_iadd lk307_207 ?_
      refine eE_stI (j := 6) lk307_208 (Or.inl rfl) (by decide) (fun vq45 gq46 kq47 => ?_)
      have gq48 := kq47 2 _ (by decide) (fun _ => rfl) g2
      have gq49 := kq47 3 _ (by decide) (fun _ => rfl) g3
      have gq50 := kq47 4 _ (by decide) (fun _ => rfl) g4
      have gq51 := kq47 5 _ (by decide) (fun _ => rfl) g5
      have gq52 := kq47 0 _ (by decide) (fun _ => rfl) g0
      refine eE_aload_n lk307_210 gq52 ?_
      refine eR_getA lk307_211 rf_324 rfl ?_
      refine eE_iload lk307_214 gq46 ?_
      refine eE_iconst (v := 1) lk307_216 (by decide) ?_
      obtain ⟨σ53, h54, h⟩ := Option.bind_eq_some_iff.mp h
      refine eR_zast lk307_217 rfl rfl rfl h54 ?_
      refine eE_aload_n lk307_218 gq52 ?_
      refine eR_getA lk307_219 rf_308 rfl ?_
      refine eE_iload lk307_222 gq46 ?_
      refine eE_iload_n lk307_224 gq49 ?_
      obtain ⟨σ55, h56, h⟩ := Option.bind_eq_some_iff.mp h
      refine eR_iast lk307_225 rfl rfl h56 ?_
      refine eE_iconst (v := 0) lk307_226 (by decide) ?_
      refine eE_stI (j := 10) lk307_227 (Or.inl rfl) (by decide) (fun vq57 gq58 kq59 => ?_)
      have gq60 := kq59 2 _ (by decide) (fun _ => rfl) gq48
      have gq61 := kq59 3 _ (by decide) (fun _ => rfl) gq49
      have gq62 := kq59 4 _ (by decide) (fun _ => rfl) gq50
      have gq63 := kq59 5 _ (by decide) (fun _ => rfl) gq51
      have gq64 := kq59 0 _ (by decide) (fun _ => rfl) gq52
      have gq65 := kq59 6 _ (by decide) (fun _ => rfl) gq46
      exact m_keep_b229_ok hp0  F vq57 σ55 l2 l3 l4 l5 ((((128 : Int32)) * l1) + l9) ((0 : Int32)) gq64 gq60 gq61 gq62 gq63 gq65 gq58 _ h
    · rw [if_neg c38] at h
      refine eE_aload_n lk307_141 g0 ?_
      refine eR_getA lk307_142 rf_321 rfl ?_
      refine eE_sipush (v := 128) lk307_145 (by decide) ?_
      refine eE_iload_n lk307_148 g1 ?_
      refine eE_imul lk307_149 ?_
      refine eE_iload lk307_150 g10 ?_
      refine eE_iadd lk307_152 ?_
      refine eE_aload_n lk307_153 g0 ?_
      refine eR_getA lk307_154 rf_321 rfl ?_
      refine eE_sipush (v := 128) lk307_157 (by decide) ?_
      refine eE_iload_n lk307_160 g1 ?_
      refine eE_imul lk307_161 ?_
      refine eE_iload lk307_162 g10 ?_
      refine eE_iadd lk307_164 ?_
      refine eE_iconst (v := 1) lk307_165 (by decide) ?_
      refine eE_isub lk307_166 ?_
      obtain ⟨x66, h67, h⟩ := Option.bind_eq_some_iff.mp h
      refine eR_iald lk307_167 rfl rfl h67 ?_
      obtain ⟨σ68, h69, h⟩ := Option.bind_eq_some_iff.mp h
      refine eR_iast lk307_168 rfl rfl h69 ?_
      refine eE_inc (j := 10) (v := l10 + (-1 : Int32)) lk307_169 g10 rfl (by decide) (fun vq70 gq71 kq72 => ?_)
      have gq73 := kq72 1 _ (by decide) (fun _ => rfl) g1
      have gq74 := kq72 2 _ (by decide) (fun _ => rfl) g2
      have gq75 := kq72 3 _ (by decide) (fun _ => rfl) g3
      have gq76 := kq72 4 _ (by decide) (fun _ => rfl) g4
      have gq77 := kq72 5 _ (by decide) (fun _ => rfl) g5
      have gq78 := kq72 8 _ (by decide) (fun _ => rfl) g8
      have gq79 := kq72 9 _ (by decide) (fun _ => rfl) g9
      have gq80 := kq72 0 _ (by decide) (fun _ => rfl) g0
      refine eE_goto (t := 134) lk307_172 (by decide) ?_
      exact hKK vq70 σ68 l1 l2 l3 l4 l5 l8 l9 (l10 + (-1 : Int32)) gq80 gq73 gq74 gq75 gq76 gq77 gq78 gq79 gq71 _ h
def m_keep_b104 (F : Nat)  : Nat → RS → Int32 → Int32 → Int32 → Int32 → Int32 → Int32 → Int32 → Option (Int32 × RS)
  | 0, _, _, _, _, _, _, _, _ => none
  | n + 1, σ, l1, l2, l3, l4, l5, l8, l9 =>
    let KK := m_keep_b104 F  n
    (rld σ 119 ((((128 : Int32)) * l1) + l9)).bind fun x81 =>
    if xc0 .eq x81 = true then (
      (rld σ 113 l1).bind fun x84 =>
      m_keep_b134 F  F σ l1 l2 l3 l4 l5 l8 l9 x84
    ) else (
      KK σ l1 l2 l3 l4 l5 l8 (l9 + (1 : Int32))
    )
set_option maxRecDepth 4000 in
theorem m_keep_b104_ok {pF : Nat → List Value → xH → Option (Option Value × xH)} {d : Nat} {aR : Nat} {G : Nat → xC} {T : Nat × Nat} {F : Nat} (hp0 : xNP pF)  : ∀ (n : Nat) (lv : xL) (σ : RS) (l1 : Int32) (l2 : Int32) (l3 : Int32) (l4 : Int32) (l5 : Int32) (l8 : Int32) (l9 : Int32), xg lv 0 = some (.ref aR) → xg lv 1 = some (.int l1) → xg lv 2 = some (.int l2) → xg lv 3 = some (.int l3) → xg lv 4 = some (.int l4) → xg lv 5 = some (.int l5) → xg lv 8 = some (.int l8) → xg lv 9 = some (.int l9) → ∀ res, m_keep_b104 F  n σ l1 l2 l3 l4 l5 l8 l9 = some res → xR pF (d + 4) kT307 16 11 false (some .boolean) (some (.int res.1)) (layR aR res.2 G, T) (104, lv, [], (layR aR σ G, T)) := by
  intro n
  induction n with
  | zero => intro lv σ l1 l2 l3 l4 l5 l8 l9 g0 g1 g2 g3 g4 g5 g8 g9 res h; simp [m_keep_b104] at h
  | succ n hKK =>
    intro lv σ l1 l2 l3 l4 l5 l8 l9 g0 g1 g2 g3 g4 g5 g8 g9 res h
    unfold m_keep_b104 at h
    dsimp only at h
    refine eE_aload_n lk307_104 g0 ?_
    refine eR_getA lk307_105 rf_324 rfl ?_
    refine eE_sipush (v := 128) lk307_108 (by decide) ?_
    refine eE_iload_n lk307_111 g1 ?_
    refine eE_imul lk307_112 ?_
    refine eE_iload lk307_113 g9 ?_
    refine eE_iadd lk307_115 ?_
    obtain ⟨x81, h82, h⟩ := Option.bind_eq_some_iff.mp h
    refine eR_bald lk307_116 rfl (Or.inr rfl) h82 ?_
    refine eE_if (t := 126) lk307_117 (by decide) (fun c83 => ?_) (fun c83 => ?_)
    · rw [if_pos c83] at h
      refine eE_aload_n lk307_126 g0 ?_
      refine eR_getA lk307_127 rf_305 rfl ?_
      refine eE_iload_n lk307_130 g1 ?_
      obtain ⟨x84, h85, h⟩ := Option.bind_eq_some_iff.mp h
      refine eR_iald lk307_131 rfl rfl h85 ?_
      refine eE_stI (j := 10) lk307_132 (Or.inl rfl) (by decide) (fun vq86 gq87 kq88 => ?_)
      have gq89 := kq88 1 _ (by decide) (fun _ => rfl) g1
      have gq90 := kq88 2 _ (by decide) (fun _ => rfl) g2
      have gq91 := kq88 3 _ (by decide) (fun _ => rfl) g3
      have gq92 := kq88 4 _ (by decide) (fun _ => rfl) g4
      have gq93 := kq88 5 _ (by decide) (fun _ => rfl) g5
      have gq94 := kq88 8 _ (by decide) (fun _ => rfl) g8
      have gq95 := kq88 9 _ (by decide) (fun _ => rfl) g9
      have gq96 := kq88 0 _ (by decide) (fun _ => rfl) g0
      exact m_keep_b134_ok hp0  F vq86 σ l1 l2 l3 l4 l5 l8 l9 x84 gq96 gq89 gq90 gq91 gq92 gq93 gq94 gq95 gq87 _ h
    · rw [if_neg c83] at h
      refine eE_inc (j := 9) (v := l9 + (1 : Int32)) lk307_120 g9 rfl (by decide) (fun vq97 gq98 kq99 => ?_)
      have gq100 := kq99 1 _ (by decide) (fun _ => rfl) g1
      have gq101 := kq99 2 _ (by decide) (fun _ => rfl) g2
      have gq102 := kq99 3 _ (by decide) (fun _ => rfl) g3
      have gq103 := kq99 4 _ (by decide) (fun _ => rfl) g4
      have gq104 := kq99 5 _ (by decide) (fun _ => rfl) g5
      have gq105 := kq99 8 _ (by decide) (fun _ => rfl) g8
      have gq106 := kq99 0 _ (by decide) (fun _ => rfl) g0
      refine eE_goto (t := 104) lk307_123 (by decide) ?_
      exact hKK vq97 σ l1 l2 l3 l4 l5 l8 (l9 + (1 : Int32)) gq106 gq100 gq101 gq102 gq103 gq104 gq105 gq98 _ h
def m_keep_b59 (F : Nat)  (σ : RS) (l1 : Int32) (l2 : Int32) (l3 : Int32) (l4 : Int32) (l5 : Int32) (l6 : Int32) (l7 : Int32) : Option (Int32 × RS) :=
  (m_units F σ l1).bind fun p107 =>
  if ((16 : Int32)) = 0 then none else
  if xc2 .le ((p107.1 - l7) + (((l3 + l5) + ((15 : Int32))) / ((16 : Int32)))) ((700 : Int32)) = true then (
    if xc0 .ge l6 = true then (
      m_keep_b262 F  p107.2 l4 l5 l6
    ) else (
      (m_rank F p107.2 l1 ((0 : Int32)) l2 l3).bind fun p112 =>
      m_keep_b104 F  F p112.2 l1 l2 l3 l4 l5 (p112.1) ((0 : Int32))
    )
  ) else (
    m_keep_b84 F  p107.2
  )
set_option maxRecDepth 4000 in
theorem m_keep_b59_ok {pF : Nat → List Value → xH → Option (Option Value × xH)} {d : Nat} {aR : Nat} {G : Nat → xC} {T : Nat × Nat} {F : Nat} (hp0 : xNP pF)  : ∀ (lv : xL) (σ : RS) (l1 : Int32) (l2 : Int32) (l3 : Int32) (l4 : Int32) (l5 : Int32) (l6 : Int32) (l7 : Int32), xg lv 0 = some (.ref aR) → xg lv 1 = some (.int l1) → xg lv 2 = some (.int l2) → xg lv 3 = some (.int l3) → xg lv 4 = some (.int l4) → xg lv 5 = some (.int l5) → xg lv 6 = some (.int l6) → xg lv 7 = some (.int l7) → ∀ res, m_keep_b59 F  σ l1 l2 l3 l4 l5 l6 l7 = some res → xR pF (d + 4) kT307 16 11 false (some .boolean) (some (.int res.1)) (layR aR res.2 G, T) (59, lv, [], (layR aR σ G, T)) := by
  intro lv σ l1 l2 l3 l4 l5 l6 l7 g0 g1 g2 g3 g4 g5 g6 g7 res h
  unfold m_keep_b59 at h
  refine eE_aload_n lk307_59 g0 ?_
  refine eE_iload_n lk307_60 g1 ?_
  obtain ⟨p107, h108, h⟩ := Option.bind_eq_some_iff.mp h
  refine eR_call (as := [.int l1]) lk307_61 mr_576 na_375 rfl rfl (Nat.le_of_ble_eq_true rfl) wv_375 wc_375 (m_units_ok hp0 (d := d + 3) h108) ?_
  refine eE_iload lk307_64 g7 ?_
  refine eE_isub lk307_66 ?_
  refine eE_iload_n lk307_67 g3 ?_
  refine eE_iload lk307_68 g5 ?_
  refine eE_iadd lk307_70 ?_
  refine eE_bipush (v := 15) lk307_71 (by decide) ?_
  refine eE_iadd lk307_73 ?_
  refine eE_bipush (v := 16) lk307_74 (by decide) ?_
  by_cases z109 : ((16 : Int32)) = 0
  · rw [if_pos z109] at h; cases h
  rw [if_neg z109] at h
  refine eE_idiv lk307_76 z109 ?_
  refine eE_iadd lk307_77 ?_
  refine eE_sipush (v := 700) lk307_78 (by decide) ?_
  refine eE_icmp (t := 86) lk307_81 (by decide) (fun c110 => ?_) (fun c110 => ?_)
  · rw [if_pos c110] at h
    refine eE_iload lk307_86 g6 ?_
    refine eE_if (t := 262) lk307_88 (by decide) (fun c111 => ?_) (fun c111 => ?_)
    · rw [if_pos c111] at h
      exact m_keep_b262_ok hp0  lv p107.2 l4 l5 l6 g0 g4 g5 g6 _ h
    · rw [if_neg c111] at h
      refine eE_aload_n lk307_91 g0 ?_
      refine eE_iload_n lk307_92 g1 ?_
      refine eE_iconst (v := 0) lk307_93 (by decide) ?_
      refine eE_iload_n lk307_94 g2 ?_
      refine eE_iload_n lk307_95 g3 ?_
      obtain ⟨p112, h113, h⟩ := Option.bind_eq_some_iff.mp h
      refine eR_call (as := [.int l1, .int ((0 : Int32)), .int l2, .int l3]) lk307_96 mr_567 na_343 rfl rfl (Nat.le_of_ble_eq_true rfl) wv_343 wc_343 (m_rank_ok hp0 (d := d + 1) h113) ?_
      refine eE_stI (j := 8) lk307_99 (Or.inl rfl) (by decide) (fun vq114 gq115 kq116 => ?_)
      have gq117 := kq116 1 _ (by decide) (fun _ => rfl) g1
      have gq118 := kq116 2 _ (by decide) (fun _ => rfl) g2
      have gq119 := kq116 3 _ (by decide) (fun _ => rfl) g3
      have gq120 := kq116 4 _ (by decide) (fun _ => rfl) g4
      have gq121 := kq116 5 _ (by decide) (fun _ => rfl) g5
      have gq122 := kq116 0 _ (by decide) (fun _ => rfl) g0
      refine eE_iconst (v := 0) lk307_101 (by decide) ?_
      refine eE_stI (j := 9) lk307_102 (Or.inl rfl) (by decide) (fun vq123 gq124 kq125 => ?_)
      have gq126 := kq125 1 _ (by decide) (fun _ => rfl) gq117
      have gq127 := kq125 2 _ (by decide) (fun _ => rfl) gq118
      have gq128 := kq125 3 _ (by decide) (fun _ => rfl) gq119
      have gq129 := kq125 4 _ (by decide) (fun _ => rfl) gq120
      have gq130 := kq125 5 _ (by decide) (fun _ => rfl) gq121
      have gq131 := kq125 0 _ (by decide) (fun _ => rfl) gq122
      have gq132 := kq125 8 _ (by decide) (fun _ => rfl) gq115
      exact m_keep_b104_ok hp0  F vq123 p112.2 l1 l2 l3 l4 l5 (p112.1) ((0 : Int32)) gq131 gq126 gq127 gq128 gq129 gq130 gq132 gq124 _ h
  · rw [if_neg c110] at h
    exact m_keep_b84_ok hp0  lv p107.2 g0 _ h
def m_keep_b40 (F : Nat)  (σ : RS) (s0 : Int32) (l1 : Int32) (l2 : Int32) (l3 : Int32) (l4 : Int32) (l5 : Int32) (l6 : Int32) : Option (Int32 × RS) :=
  if xc0 .ge l6 = true then (
    m_keep_b59 F  σ l1 l2 l3 l4 l5 l6 s0
  ) else (
    (rld σ 113 l1).bind fun x144 =>
    if xc2 .eq x144 ((128 : Int32)) = true then (
      m_keep_b84 F  σ
    ) else (
      m_keep_b59 F  σ l1 l2 l3 l4 l5 l6 s0
    )
  )
set_option maxRecDepth 4000 in
theorem m_keep_b40_ok {pF : Nat → List Value → xH → Option (Option Value × xH)} {d : Nat} {aR : Nat} {G : Nat → xC} {T : Nat × Nat} {F : Nat} (hp0 : xNP pF)  : ∀ (lv : xL) (σ : RS) (s0 : Int32) (l1 : Int32) (l2 : Int32) (l3 : Int32) (l4 : Int32) (l5 : Int32) (l6 : Int32), xg lv 0 = some (.ref aR) → xg lv 1 = some (.int l1) → xg lv 2 = some (.int l2) → xg lv 3 = some (.int l3) → xg lv 4 = some (.int l4) → xg lv 5 = some (.int l5) → xg lv 6 = some (.int l6) → ∀ res, m_keep_b40 F  σ s0 l1 l2 l3 l4 l5 l6 = some res → xR pF (d + 4) kT307 16 11 false (some .boolean) (some (.int res.1)) (layR aR res.2 G, T) (40, lv, [.int s0], (layR aR σ G, T)) := by
  intro lv σ s0 l1 l2 l3 l4 l5 l6 g0 g1 g2 g3 g4 g5 g6 res h
  unfold m_keep_b40 at h
  refine eE_stI (j := 7) lk307_40 (Or.inl rfl) (by decide) (fun vq133 gq134 kq135 => ?_)
  have gq136 := kq135 1 _ (by decide) (fun _ => rfl) g1
  have gq137 := kq135 2 _ (by decide) (fun _ => rfl) g2
  have gq138 := kq135 3 _ (by decide) (fun _ => rfl) g3
  have gq139 := kq135 4 _ (by decide) (fun _ => rfl) g4
  have gq140 := kq135 5 _ (by decide) (fun _ => rfl) g5
  have gq141 := kq135 6 _ (by decide) (fun _ => rfl) g6
  have gq142 := kq135 0 _ (by decide) (fun _ => rfl) g0
  refine eE_iload lk307_42 gq141 ?_
  refine eE_if (t := 59) lk307_44 (by decide) (fun c143 => ?_) (fun c143 => ?_)
  · rw [if_pos c143] at h
    exact m_keep_b59_ok hp0  vq133 σ l1 l2 l3 l4 l5 l6 s0 gq142 gq136 gq137 gq138 gq139 gq140 gq141 gq134 _ h
  · rw [if_neg c143] at h
    refine eE_aload_n lk307_47 gq142 ?_
    refine eR_getA lk307_48 rf_305 rfl ?_
    refine eE_iload_n lk307_51 gq136 ?_
    obtain ⟨x144, h145, h⟩ := Option.bind_eq_some_iff.mp h
    refine eR_iald lk307_52 rfl rfl h145 ?_
    refine eE_sipush (v := 128) lk307_53 (by decide) ?_
    refine eE_icmp (t := 84) lk307_56 (by decide) (fun c146 => ?_) (fun c146 => ?_)
    · rw [if_pos c146] at h
      exact m_keep_b84_ok hp0  vq133 σ gq142 _ h
    · rw [if_neg c146] at h
      exact m_keep_b59_ok hp0  vq133 σ l1 l2 l3 l4 l5 l6 s0 gq142 gq136 gq137 gq138 gq139 gq140 gq141 gq134 _ h
def m_keep_b0 (F : Nat)  (σ : RS) (l1 : Int32) (l2 : Int32) (l3 : Int32) (l4 : Int32) (l5 : Int32) : Option (Int32 × RS) :=
  (m_find F σ l1 ((0 : Int32)) l2 l3).bind fun p147 =>
  if xc0 .ge p147.1 = true then (
    (rld p147.2 114 p147.1).bind fun x159 =>
    (rld p147.2 115 p147.1).bind fun x161 =>
    if ((16 : Int32)) = 0 then none else
    m_keep_b40 F  p147.2 (((x159 + x161) + ((15 : Int32))) / ((16 : Int32))) l1 l2 l3 l4 l5 (p147.1)
  ) else (
    m_keep_b40 F  p147.2 ((0 : Int32)) l1 l2 l3 l4 l5 (p147.1)
  )
set_option maxRecDepth 4000 in
theorem m_keep_b0_ok {pF : Nat → List Value → xH → Option (Option Value × xH)} {d : Nat} {aR : Nat} {G : Nat → xC} {T : Nat × Nat} {F : Nat} (hp0 : xNP pF)  : ∀ (lv : xL) (σ : RS) (l1 : Int32) (l2 : Int32) (l3 : Int32) (l4 : Int32) (l5 : Int32), xg lv 0 = some (.ref aR) → xg lv 1 = some (.int l1) → xg lv 2 = some (.int l2) → xg lv 3 = some (.int l3) → xg lv 4 = some (.int l4) → xg lv 5 = some (.int l5) → ∀ res, m_keep_b0 F  σ l1 l2 l3 l4 l5 = some res → xR pF (d + 4) kT307 16 11 false (some .boolean) (some (.int res.1)) (layR aR res.2 G, T) (0, lv, [], (layR aR σ G, T)) := by
  intro lv σ l1 l2 l3 l4 l5 g0 g1 g2 g3 g4 g5 res h
  unfold m_keep_b0 at h
  refine eE_aload_n lk307_0 g0 ?_
  refine eE_iload_n lk307_1 g1 ?_
  refine eE_iconst (v := 0) lk307_2 (by decide) ?_
  refine eE_iload_n lk307_3 g2 ?_
  refine eE_iload_n lk307_4 g3 ?_
  obtain ⟨p147, h148, h⟩ := Option.bind_eq_some_iff.mp h
  refine eR_call (as := [.int l1, .int ((0 : Int32)), .int l2, .int l3]) lk307_5 mr_573 na_281 rfl rfl (Nat.le_of_ble_eq_true rfl) wv_281 wc_281 (m_find_ok hp0 (d := d + 0) h148) ?_
  refine eE_stI (j := 6) lk307_8 (Or.inl rfl) (by decide) (fun vq149 gq150 kq151 => ?_)
  have gq152 := kq151 1 _ (by decide) (fun _ => rfl) g1
  have gq153 := kq151 2 _ (by decide) (fun _ => rfl) g2
  have gq154 := kq151 3 _ (by decide) (fun _ => rfl) g3
  have gq155 := kq151 4 _ (by decide) (fun _ => rfl) g4
  have gq156 := kq151 5 _ (by decide) (fun _ => rfl) g5
  have gq157 := kq151 0 _ (by decide) (fun _ => rfl) g0
  refine eE_iload lk307_10 gq150 ?_
  refine eE_if (t := 19) lk307_12 (by decide) (fun c158 => ?_) (fun c158 => ?_)
  · rw [if_pos c158] at h
    refine eE_aload_n lk307_19 gq157 ?_
    refine eR_getA lk307_20 rf_308 rfl ?_
    refine eE_iload lk307_23 gq150 ?_
    obtain ⟨x159, h160, h⟩ := Option.bind_eq_some_iff.mp h
    refine eR_iald lk307_25 rfl rfl h160 ?_
    refine eE_aload_n lk307_26 gq157 ?_
    refine eR_getA lk307_27 rf_311 rfl ?_
    refine eE_iload lk307_30 gq150 ?_
    obtain ⟨x161, h162, h⟩ := Option.bind_eq_some_iff.mp h
    refine eR_iald lk307_32 rfl rfl h162 ?_
    refine eE_iadd lk307_33 ?_
    refine eE_bipush (v := 15) lk307_34 (by decide) ?_
    refine eE_iadd lk307_36 ?_
    refine eE_bipush (v := 16) lk307_37 (by decide) ?_
    by_cases z163 : ((16 : Int32)) = 0
    · rw [if_pos z163] at h; cases h
    rw [if_neg z163] at h
    refine eE_idiv lk307_39 z163 ?_
    exact m_keep_b40_ok hp0  vq149 p147.2 (((x159 + x161) + ((15 : Int32))) / ((16 : Int32))) l1 l2 l3 l4 l5 (p147.1) gq157 gq152 gq153 gq154 gq155 gq156 gq150 _ h
  · rw [if_neg c158] at h
    refine eE_iconst (v := 0) lk307_15 (by decide) ?_
    refine eE_goto (t := 40) lk307_16 (by decide) ?_
    exact m_keep_b40_ok hp0  vq149 p147.2 ((0 : Int32)) l1 l2 l3 l4 l5 (p147.1) gq157 gq152 gq153 gq154 gq155 gq156 gq150 _ h
def m_keep (F : Nat) (σ : RS) (l1 : Int32) (l2 : Int32) (l3 : Int32) (l4 : Int32) (l5 : Int32) : Option (Int32 × RS) := m_keep_b0 F σ l1 l2 l3 l4 l5
theorem m_keep_ok {pF : Nat → List Value → xH → Option (Option Value × xH)} (hp0 : xNP pF) {d : Nat} {aR : Nat} {G : Nat → xC} {T : Nat × Nat} {σ : RS} {F : Nat} {l1 : Int32} {l2 : Int32} {l3 : Int32} {l4 : Int32} {l5 : Int32} {res : Int32 × RS} (h : m_keep F σ l1 l2 l3 l4 l5 = some res) : xCo pF (d + 5) 307 [.ref aR, .int l1, .int l2, .int l3, .int l4, .int l5] (layR aR σ G, T) (some (.int res.1)) (layR aR res.2 G, T) := by
  unfold m_keep at h
  exact xCo_R kk_307 mo_307 ni_307 xm_307 (Nat.le_of_ble_eq_true rfl) (hp0 _ (by decide) (by decide) _ _) (m_keep_b0_ok hp0 _ σ l1 l2 l3 l4 l5 rfl rfl rfl rfl rfl rfl _ h)
/-! operate (333), depth 6 -/
def m_operate_b261 (F : Nat)  (σ : RS) : Option (RS) :=
  some σ
set_option maxRecDepth 4000 in
theorem m_operate_b261_ok {pF : Nat → List Value → xH → Option (Option Value × xH)} {d : Nat} {aR : Nat} {G : Nat → xC} {T : Nat × Nat} {F : Nat} (hp0 : xNP pF)  : ∀ (lv : xL) (σ : RS), xg lv 0 = some (.ref aR) → ∀ res, m_operate_b261 F  σ = some res → xR pF (d + 5) kT333 16 10 false none none (layR aR res G, T) (261, lv, [], (layR aR σ G, T)) := by
  intro lv σ g0 res h
  unfold m_operate_b261 at h
  cases h
  exact eE_end lk333_261 rfl rfl rfl
def m_operate_b45 (F : Nat)  (σ : RS) (l1 : Int32) (l3 : Int32) (l4 : Int32) (l6 : Int32) : Option (RS) :=
  (m_keep F σ l1 l3 l4 (l3 + l4) (l6 - l4)).bind fun p1 =>
  if xc0 .eq p1.1 = true then (
    (some (setI p1.2 122 0 ((0 : Int32)))).bind fun σ4 =>
    (m_say σ4 ((2 : Int32))).bind fun p6 =>
    m_operate_b261 F  p6
  ) else (
    some p1.2
  )
set_option maxRecDepth 4000 in
theorem m_operate_b45_ok {pF : Nat → List Value → xH → Option (Option Value × xH)} {d : Nat} {aR : Nat} {G : Nat → xC} {T : Nat × Nat} {F : Nat} (hp0 : xNP pF)  : ∀ (lv : xL) (σ : RS) (l1 : Int32) (l3 : Int32) (l4 : Int32) (l6 : Int32), xg lv 0 = some (.ref aR) → xg lv 1 = some (.int l1) → xg lv 3 = some (.int l3) → xg lv 4 = some (.int l4) → xg lv 6 = some (.int l6) → ∀ res, m_operate_b45 F  σ l1 l3 l4 l6 = some res → xR pF (d + 5) kT333 16 10 false none none (layR aR res G, T) (45, lv, [], (layR aR σ G, T)) := by
  intro lv σ l1 l3 l4 l6 g0 g1 g3 g4 g6 res h
  unfold m_operate_b45 at h
  refine eE_aload_n lk333_45 g0 ?_
  refine eE_iload_n lk333_46 g1 ?_
  refine eE_iload_n lk333_47 g3 ?_
  refine eE_iload lk333_48 g4 ?_
  refine eE_iload_n lk333_50 g3 ?_
  refine eE_iload lk333_51 g4 ?_
  refine eE_iadd lk333_53 ?_
  refine eE_iload lk333_54 g6 ?_
  refine eE_iload lk333_56 g4 ?_
  refine eE_isub lk333_58 ?_
  obtain ⟨p1, h2, h⟩ := Option.bind_eq_some_iff.mp h
  refine eR_call (as := [.int l1, .int l3, .int l4, .int (l3 + l4), .int (l6 - l4)]) lk333_59 mr_585 na_307 rfl rfl (Nat.le_of_ble_eq_true rfl) wv_307 wc_307 (m_keep_ok hp0 (d := d + 0) h2) ?_
  refine eE_if (t := 66) lk333_62 (by decide) (fun c3 => ?_) (fun c3 => ?_)
  · rw [if_pos c3] at h
    refine eE_aload_n lk333_66 g0 ?_
    refine eE_iconst (v := 0) lk333_67 (by decide) ?_
    obtain ⟨σ4, h5, h⟩ := Option.bind_eq_some_iff.mp h
    refine eR_putS lk333_68 rf_570 rfl (by decide) pf_122.1 pf_122.2 h5 ?_
    refine eE_aload_n lk333_71 g0 ?_
    refine eE_iconst (v := 2) lk333_72 (by decide) ?_
    obtain ⟨p6, h7, h⟩ := Option.bind_eq_some_iff.mp h
    refine eR_call (as := [.int ((2 : Int32))]) lk333_73 mr_579 na_353 rfl rfl (Nat.le_of_ble_eq_true rfl) wv_353 wc_353 (m_say_ok hp0 (d := d + 4) h7) ?_
    refine eE_goto (t := 261) lk333_76 (by decide) ?_
    exact m_operate_b261_ok hp0  lv p6 g0 _ h
  · rw [if_neg c3] at h
    cases h
    exact eE_end lk333_65 rfl rfl rfl
def m_operate_b31 (F : Nat)  (σ : RS) (s1 : Int32) (l1 : Int32) (l3 : Int32) (l4 : Int32) (l6 : Int32) (l7 : Int32) : Option (RS) :=
  (m_say σ s1).bind fun p8 =>
  if xc0 .lt l7 = true then (
    m_operate_b45 F  p8 l1 l3 l4 l6
  ) else (
    (m_tellValue F p8 l7).bind fun p11 =>
    m_operate_b45 F  p11 l1 l3 l4 l6
  )
set_option maxRecDepth 4000 in
theorem m_operate_b31_ok {pF : Nat → List Value → xH → Option (Option Value × xH)} {d : Nat} {aR : Nat} {G : Nat → xC} {T : Nat × Nat} {F : Nat} (hp0 : xNP pF)  : ∀ (lv : xL) (σ : RS) (s1 : Int32) (l1 : Int32) (l3 : Int32) (l4 : Int32) (l6 : Int32) (l7 : Int32), xg lv 0 = some (.ref aR) → xg lv 1 = some (.int l1) → xg lv 3 = some (.int l3) → xg lv 4 = some (.int l4) → xg lv 6 = some (.int l6) → xg lv 7 = some (.int l7) → ∀ res, m_operate_b31 F  σ s1 l1 l3 l4 l6 l7 = some res → xR pF (d + 5) kT333 16 10 false none none (layR aR res G, T) (31, lv, [.int s1, .ref aR], (layR aR σ G, T)) := by
  intro lv σ s1 l1 l3 l4 l6 l7 g0 g1 g3 g4 g6 g7 res h
  unfold m_operate_b31 at h
  obtain ⟨p8, h9, h⟩ := Option.bind_eq_some_iff.mp h
  refine eR_call (as := [.int s1]) lk333_31 mr_579 na_353 rfl rfl (Nat.le_of_ble_eq_true rfl) wv_353 wc_353 (m_say_ok hp0 (d := d + 4) h9) ?_
  refine eE_iload lk333_34 g7 ?_
  refine eE_if (t := 45) lk333_36 (by decide) (fun c10 => ?_) (fun c10 => ?_)
  · rw [if_pos c10] at h
    exact m_operate_b45_ok hp0  lv p8 l1 l3 l4 l6 g0 g1 g3 g4 g6 _ h
  · rw [if_neg c10] at h
    refine eE_aload_n lk333_39 g0 ?_
    refine eE_iload lk333_40 g7 ?_
    obtain ⟨p11, h12, h⟩ := Option.bind_eq_some_iff.mp h
    refine eR_call (as := [.int l7]) lk333_42 mr_582 na_371 rfl rfl (Nat.le_of_ble_eq_true rfl) wv_371 wc_371 (m_tellValue_ok hp0 (d := d + 4) h12) ?_
    exact m_operate_b45_ok hp0  lv p11 l1 l3 l4 l6 g0 g1 g3 g4 g6 _ h
def m_operate_b95 (F : Nat)  (σ : RS) (s1 : Int32) (l1 : Int32) (l7 : Int32) : Option (RS) :=
  (m_say σ s1).bind fun p13 =>
  if xc0 .ge l7 = true then (
    (m_tellValue F p13 l7).bind fun p16 =>
    (m_forget F p16 l1 l7).bind fun p18 =>
    m_operate_b261 F  p18
  ) else (
    some p13
  )
set_option maxRecDepth 4000 in
theorem m_operate_b95_ok {pF : Nat → List Value → xH → Option (Option Value × xH)} {d : Nat} {aR : Nat} {G : Nat → xC} {T : Nat × Nat} {F : Nat} (hp0 : xNP pF)  : ∀ (lv : xL) (σ : RS) (s1 : Int32) (l1 : Int32) (l7 : Int32), xg lv 0 = some (.ref aR) → xg lv 1 = some (.int l1) → xg lv 7 = some (.int l7) → ∀ res, m_operate_b95 F  σ s1 l1 l7 = some res → xR pF (d + 5) kT333 16 10 false none none (layR aR res G, T) (95, lv, [.int s1, .ref aR], (layR aR σ G, T)) := by
  intro lv σ s1 l1 l7 g0 g1 g7 res h
  unfold m_operate_b95 at h
  obtain ⟨p13, h14, h⟩ := Option.bind_eq_some_iff.mp h
  refine eR_call (as := [.int s1]) lk333_95 mr_579 na_353 rfl rfl (Nat.le_of_ble_eq_true rfl) wv_353 wc_353 (m_say_ok hp0 (d := d + 4) h14) ?_
  refine eE_iload lk333_98 g7 ?_
  refine eE_if (t := 104) lk333_100 (by decide) (fun c15 => ?_) (fun c15 => ?_)
  · rw [if_pos c15] at h
    refine eE_aload_n lk333_104 g0 ?_
    refine eE_iload lk333_105 g7 ?_
    obtain ⟨p16, h17, h⟩ := Option.bind_eq_some_iff.mp h
    refine eR_call (as := [.int l7]) lk333_107 mr_582 na_371 rfl rfl (Nat.le_of_ble_eq_true rfl) wv_371 wc_371 (m_tellValue_ok hp0 (d := d + 4) h17) ?_
    refine eE_aload_n lk333_110 g0 ?_
    refine eE_iload_n lk333_111 g1 ?_
    refine eE_iload lk333_112 g7 ?_
    obtain ⟨p18, h19, h⟩ := Option.bind_eq_some_iff.mp h
    refine eR_call (as := [.int l1, .int l7]) lk333_114 mr_589 na_286 rfl rfl (Nat.le_of_ble_eq_true rfl) wv_286 wc_286 (m_forget_ok hp0 (d := d + 4) h19) ?_
    refine eE_goto (t := 261) lk333_117 (by decide) ?_
    exact m_operate_b261_ok hp0  lv p18 g0 _ h
  · rw [if_neg c15] at h
    cases h
    exact eE_end lk333_103 rfl rfl rfl
def m_operate_b199 (F : Nat) (K155 : RS → Int32 → Int32 → Int32 → Int32 → Int32 → Int32 → Int32 → Int32 → Option (RS)) (σ : RS) (s0 : Int32) (l1 : Int32) (l3 : Int32) (l4 : Int32) (l5 : Int32) (l6 : Int32) (l7 : Int32) (l9 : Int32) : Option (RS) :=
  K155 σ l1 l3 l4 l5 l6 l7 s0 (l9 + (1 : Int32))
set_option maxRecDepth 4000 in
theorem m_operate_b199_ok {pF : Nat → List Value → xH → Option (Option Value × xH)} {d : Nat} {aR : Nat} {G : Nat → xC} {T : Nat × Nat} {F : Nat} {K155 : RS → Int32 → Int32 → Int32 → Int32 → Int32 → Int32 → Int32 → Int32 → Option (RS)} (hp0 : xNP pF) (hK155 : ∀ (lv : xL) (σ : RS) (l1 : Int32) (l3 : Int32) (l4 : Int32) (l5 : Int32) (l6 : Int32) (l7 : Int32) (l8 : Int32) (l9 : Int32), xg lv 0 = some (.ref aR) → xg lv 1 = some (.int l1) → xg lv 3 = some (.int l3) → xg lv 4 = some (.int l4) → xg lv 5 = some (.int l5) → xg lv 6 = some (.int l6) → xg lv 7 = some (.int l7) → xg lv 8 = some (.int l8) → xg lv 9 = some (.int l9) → ∀ res, K155 σ l1 l3 l4 l5 l6 l7 l8 l9 = some res → xR pF (d + 5) kT333 16 10 false none none (layR aR res G, T) (155, lv, [], (layR aR σ G, T))) : ∀ (lv : xL) (σ : RS) (s0 : Int32) (l1 : Int32) (l3 : Int32) (l4 : Int32) (l5 : Int32) (l6 : Int32) (l7 : Int32) (l9 : Int32), xg lv 0 = some (.ref aR) → xg lv 1 = some (.int l1) → xg lv 3 = some (.int l3) → xg lv 4 = some (.int l4) → xg lv 5 = some (.int l5) → xg lv 6 = some (.int l6) → xg lv 7 = some (.int l7) → xg lv 9 = some (.int l9) → ∀ res, m_operate_b199 F K155 σ s0 l1 l3 l4 l5 l6 l7 l9 = some res → xR pF (d + 5) kT333 16 10 false none none (layR aR res G, T) (199, lv, [.int s0], (layR aR σ G, T)) := by
  intro lv σ s0 l1 l3 l4 l5 l6 l7 l9 g0 g1 g3 g4 g5 g6 g7 g9 res h
  unfold m_operate_b199 at h
  refine eE_stI (j := 8) lk333_199 (Or.inl rfl) (by decide) (fun vq20 gq21 kq22 => ?_)
  have gq23 := kq22 1 _ (by decide) (fun _ => rfl) g1
  have gq24 := kq22 3 _ (by decide) (fun _ => rfl) g3
  have gq25 := kq22 4 _ (by decide) (fun _ => rfl) g4
  have gq26 := kq22 5 _ (by decide) (fun _ => rfl) g5
  have gq27 := kq22 6 _ (by decide) (fun _ => rfl) g6
  have gq28 := kq22 7 _ (by decide) (fun _ => rfl) g7
  have gq29 := kq22 9 _ (by decide) (fun _ => rfl) g9
  have gq30 := kq22 0 _ (by decide) (fun _ => rfl) g0
  refine eE_inc (j := 9) (v := l9 + (1 : Int32)) lk333_201 gq29 rfl (by decide) (fun vq31 gq32 kq33 => ?_)
  have gq34 := kq33 1 _ (by decide) (fun _ => rfl) gq23
  have gq35 := kq33 3 _ (by decide) (fun _ => rfl) gq24
  have gq36 := kq33 4 _ (by decide) (fun _ => rfl) gq25
  have gq37 := kq33 5 _ (by decide) (fun _ => rfl) gq26
  have gq38 := kq33 6 _ (by decide) (fun _ => rfl) gq27
  have gq39 := kq33 7 _ (by decide) (fun _ => rfl) gq28
  have gq40 := kq33 0 _ (by decide) (fun _ => rfl) gq30
  have gq41 := kq33 8 _ (by decide) (fun _ => rfl) gq21
  refine eE_goto (t := 155) lk333_204 (by decide) ?_
  exact hK155 vq31 σ l1 l3 l4 l5 l6 l7 s0 (l9 + (1 : Int32)) gq40 gq34 gq35 gq36 gq37 gq38 gq39 gq41 gq32 _ h
def m_operate_b258 (F : Nat)  (σ : RS) (s1 : Int32) : Option (RS) :=
  (m_say σ s1).bind fun p42 =>
  m_operate_b261 F  p42
set_option maxRecDepth 4000 in
theorem m_operate_b258_ok {pF : Nat → List Value → xH → Option (Option Value × xH)} {d : Nat} {aR : Nat} {G : Nat → xC} {T : Nat × Nat} {F : Nat} (hp0 : xNP pF)  : ∀ (lv : xL) (σ : RS) (s1 : Int32), xg lv 0 = some (.ref aR) → ∀ res, m_operate_b258 F  σ s1 = some res → xR pF (d + 5) kT333 16 10 false none none (layR aR res G, T) (258, lv, [.int s1, .ref aR], (layR aR σ G, T)) := by
  intro lv σ s1 g0 res h
  unfold m_operate_b258 at h
  obtain ⟨p42, h43, h⟩ := Option.bind_eq_some_iff.mp h
  refine eR_call (as := [.int s1]) lk333_258 mr_579 na_353 rfl rfl (Nat.le_of_ble_eq_true rfl) wv_353 wc_353 (m_say_ok hp0 (d := d + 4) h43) ?_
  exact m_operate_b261_ok hp0  lv p42 g0 _ h
def m_operate_b207 (F : Nat)  (σ : RS) (l1 : Int32) (l3 : Int32) (l4 : Int32) (l5 : Int32) (l6 : Int32) (l7 : Int32) (l8 : Int32) : Option (RS) :=
  if xc0 .ne l8 = true then (
    (m_keep F σ l1 l3 l4 ((l3 + l4) + l5) ((l6 - l4) - l5)).bind fun p45 =>
    if xc0 .eq p45.1 = true then (
      m_operate_b258 F  p45.2 ((2 : Int32))
    ) else (
      m_operate_b258 F  p45.2 ((1 : Int32))
    )
  ) else (
    (m_say σ ((0 : Int32))).bind fun p48 =>
    (m_tellValue F p48 l7).bind fun p50 =>
    m_operate_b261 F  p50
  )
set_option maxRecDepth 4000 in
theorem m_operate_b207_ok {pF : Nat → List Value → xH → Option (Option Value × xH)} {d : Nat} {aR : Nat} {G : Nat → xC} {T : Nat × Nat} {F : Nat} (hp0 : xNP pF)  : ∀ (lv : xL) (σ : RS) (l1 : Int32) (l3 : Int32) (l4 : Int32) (l5 : Int32) (l6 : Int32) (l7 : Int32) (l8 : Int32), xg lv 0 = some (.ref aR) → xg lv 1 = some (.int l1) → xg lv 3 = some (.int l3) → xg lv 4 = some (.int l4) → xg lv 5 = some (.int l5) → xg lv 6 = some (.int l6) → xg lv 7 = some (.int l7) → xg lv 8 = some (.int l8) → ∀ res, m_operate_b207 F  σ l1 l3 l4 l5 l6 l7 l8 = some res → xR pF (d + 5) kT333 16 10 false none none (layR aR res G, T) (207, lv, [], (layR aR σ G, T)) := by
  intro lv σ l1 l3 l4 l5 l6 l7 l8 g0 g1 g3 g4 g5 g6 g7 g8 res h
  unfold m_operate_b207 at h
  refine eE_iload lk333_207 g8 ?_
  refine eE_if (t := 226) lk333_209 (by decide) (fun c44 => ?_) (fun c44 => ?_)
  · rw [if_pos c44] at h
    refine eE_aload_n lk333_226 g0 ?_
    refine eE_aload_n lk333_227 g0 ?_
    refine eE_iload_n lk333_228 g1 ?_
    refine eE_iload_n lk333_229 g3 ?_
    refine eE_iload lk333_230 g4 ?_
    refine eE_iload_n lk333_232 g3 ?_
    refine eE_iload lk333_233 g4 ?_
    refine eE_iadd lk333_235 ?_
    refine eE_iload lk333_236 g5 ?_
    refine eE_iadd lk333_238 ?_
    refine eE_iload lk333_239 g6 ?_
    refine eE_iload lk333_241 g4 ?_
    refine eE_isub lk333_243 ?_
    refine eE_iload lk333_244 g5 ?_
    refine eE_isub lk333_246 ?_
    obtain ⟨p45, h46, h⟩ := Option.bind_eq_some_iff.mp h
    refine eR_call (as := [.int l1, .int l3, .int l4, .int ((l3 + l4) + l5), .int ((l6 - l4) - l5)]) lk333_247 mr_585 na_307 rfl rfl (Nat.le_of_ble_eq_true rfl) wv_307 wc_307 (m_keep_ok hp0 (d := d + 0) h46) ?_
    refine eE_if (t := 257) lk333_250 (by decide) (fun c47 => ?_) (fun c47 => ?_)
    · rw [if_pos c47] at h
      refine eE_iconst (v := 2) lk333_257 (by decide) ?_
      exact m_operate_b258_ok hp0  lv p45.2 ((2 : Int32)) g0 _ h
    · rw [if_neg c47] at h
      refine eE_iconst (v := 1) lk333_253 (by decide) ?_
      refine eE_goto (t := 258) lk333_254 (by decide) ?_
      exact m_operate_b258_ok hp0  lv p45.2 ((1 : Int32)) g0 _ h
  · rw [if_neg c44] at h
    refine eE_aload_n lk333_212 g0 ?_
    refine eE_iconst (v := 0) lk333_213 (by decide) ?_
    obtain ⟨p48, h49, h⟩ := Option.bind_eq_some_iff.mp h
    refine eR_call (as := [.int ((0 : Int32))]) lk333_214 mr_579 na_353 rfl rfl (Nat.le_of_ble_eq_true rfl) wv_353 wc_353 (m_say_ok hp0 (d := d + 4) h49) ?_
    refine eE_aload_n lk333_217 g0 ?_
    refine eE_iload lk333_218 g7 ?_
    obtain ⟨p50, h51, h⟩ := Option.bind_eq_some_iff.mp h
    refine eR_call (as := [.int l7]) lk333_220 mr_582 na_371 rfl rfl (Nat.le_of_ble_eq_true rfl) wv_371 wc_371 (m_tellValue_ok hp0 (d := d + 4) h51) ?_
    refine eE_goto (t := 261) lk333_223 (by decide) ?_
    exact m_operate_b261_ok hp0  lv p50 g0 _ h
def m_operate_b155 (F : Nat)  : Nat → RS → Int32 → Int32 → Int32 → Int32 → Int32 → Int32 → Int32 → Int32 → Option (RS)
  | 0, _, _, _, _, _, _, _, _, _ => none
  | n + 1, σ, l1, l3, l4, l5, l6, l7, l8, l9 =>
    let KK := m_operate_b155 F  n
    if xc2 .ge l9 l5 = true then (
      m_operate_b207 F  σ l1 l3 l4 l5 l6 l7 l8
    ) else (
      if xc0 .eq l8 = true then (
        m_operate_b207 F  σ l1 l3 l4 l5 l6 l7 l8
      ) else (
        (rld σ 117 ((((100 : Int32)) * l7) + l9)).bind fun x54 =>
        (m_inLog σ ((l3 + l4) + l9)).bind fun p56 =>
        if xc2 .ne x54 p56.1 = true then (
          m_operate_b199 F KK p56.2 ((0 : Int32)) l1 l3 l4 l5 l6 l7 l9
        ) else (
          m_operate_b199 F KK p56.2 ((1 : Int32)) l1 l3 l4 l5 l6 l7 l9
        )
      )
    )
set_option maxRecDepth 4000 in
theorem m_operate_b155_ok {pF : Nat → List Value → xH → Option (Option Value × xH)} {d : Nat} {aR : Nat} {G : Nat → xC} {T : Nat × Nat} {F : Nat} (hp0 : xNP pF)  : ∀ (n : Nat) (lv : xL) (σ : RS) (l1 : Int32) (l3 : Int32) (l4 : Int32) (l5 : Int32) (l6 : Int32) (l7 : Int32) (l8 : Int32) (l9 : Int32), xg lv 0 = some (.ref aR) → xg lv 1 = some (.int l1) → xg lv 3 = some (.int l3) → xg lv 4 = some (.int l4) → xg lv 5 = some (.int l5) → xg lv 6 = some (.int l6) → xg lv 7 = some (.int l7) → xg lv 8 = some (.int l8) → xg lv 9 = some (.int l9) → ∀ res, m_operate_b155 F  n σ l1 l3 l4 l5 l6 l7 l8 l9 = some res → xR pF (d + 5) kT333 16 10 false none none (layR aR res G, T) (155, lv, [], (layR aR σ G, T)) := by
  intro n
  induction n with
  | zero => intro lv σ l1 l3 l4 l5 l6 l7 l8 l9 g0 g1 g3 g4 g5 g6 g7 g8 g9 res h; simp [m_operate_b155] at h
  | succ n hKK =>
    intro lv σ l1 l3 l4 l5 l6 l7 l8 l9 g0 g1 g3 g4 g5 g6 g7 g8 g9 res h
    unfold m_operate_b155 at h
    dsimp only at h
    refine eE_iload lk333_155 g9 ?_
    refine eE_iload lk333_157 g5 ?_
    refine eE_icmp (t := 207) lk333_159 (by decide) (fun c52 => ?_) (fun c52 => ?_)
    · rw [if_pos c52] at h
      exact m_operate_b207_ok hp0  lv σ l1 l3 l4 l5 l6 l7 l8 g0 g1 g3 g4 g5 g6 g7 g8 _ h
    · rw [if_neg c52] at h
      refine eE_iload lk333_162 g8 ?_
      refine eE_if (t := 207) lk333_164 (by decide) (fun c53 => ?_) (fun c53 => ?_)
      · rw [if_pos c53] at h
        exact m_operate_b207_ok hp0  lv σ l1 l3 l4 l5 l6 l7 l8 g0 g1 g3 g4 g5 g6 g7 g8 _ h
      · rw [if_neg c53] at h
        refine eE_aload_n lk333_167 g0 ?_
        refine eR_getA lk333_168 rf_318 rfl ?_
        refine eE_bipush (v := 100) lk333_171 (by decide) ?_
        refine eE_iload lk333_173 g7 ?_
        refine eE_imul lk333_175 ?_
        refine eE_iload lk333_176 g9 ?_
        refine eE_iadd lk333_178 ?_
        obtain ⟨x54, h55, h⟩ := Option.bind_eq_some_iff.mp h
        refine eR_bald lk333_179 rfl (Or.inl rfl) h55 ?_
        refine eE_aload_n lk333_180 g0 ?_
        refine eE_iload_n lk333_181 g3 ?_
        refine eE_iload lk333_182 g4 ?_
        refine eE_iadd lk333_184 ?_
        refine eE_iload lk333_185 g9 ?_
        refine eE_iadd lk333_187 ?_
        obtain ⟨p56, h57, h⟩ := Option.bind_eq_some_iff.mp h
        refine eR_call (as := [.int ((l3 + l4) + l9)]) lk333_188 mr_530 na_296 rfl rfl (Nat.le_of_ble_eq_true rfl) wv_296 wc_296 (m_inLog_ok hp0 (d := d + 4) h57) ?_
        refine eE_icmp (t := 198) lk333_191 (by decide) (fun c58 => ?_) (fun c58 => ?_)
        · rw [if_pos c58] at h
          refine eE_iconst (v := 0) lk333_198 (by decide) ?_
          exact m_operate_b199_ok hp0 hKK lv p56.2 ((0 : Int32)) l1 l3 l4 l5 l6 l7 l9 g0 g1 g3 g4 g5 g6 g7 g9 _ h
        · rw [if_neg c58] at h
          refine eE_iconst (v := 1) lk333_194 (by decide) ?_
          refine eE_goto (t := 199) lk333_195 (by decide) ?_
          exact m_operate_b199_ok hp0 hKK lv p56.2 ((1 : Int32)) l1 l3 l4 l5 l6 l7 l9 g0 g1 g3 g4 g5 g6 g7 g9 _ h
def m_operate_b150 (F : Nat)  (σ : RS) (s0 : Int32) (l1 : Int32) (l3 : Int32) (l4 : Int32) (l5 : Int32) (l6 : Int32) (l7 : Int32) : Option (RS) :=
  m_operate_b155 F  F σ l1 l3 l4 l5 l6 l7 s0 ((0 : Int32))
set_option maxRecDepth 4000 in
theorem m_operate_b150_ok {pF : Nat → List Value → xH → Option (Option Value × xH)} {d : Nat} {aR : Nat} {G : Nat → xC} {T : Nat × Nat} {F : Nat} (hp0 : xNP pF)  : ∀ (lv : xL) (σ : RS) (s0 : Int32) (l1 : Int32) (l3 : Int32) (l4 : Int32) (l5 : Int32) (l6 : Int32) (l7 : Int32), xg lv 0 = some (.ref aR) → xg lv 1 = some (.int l1) → xg lv 3 = some (.int l3) → xg lv 4 = some (.int l4) → xg lv 5 = some (.int l5) → xg lv 6 = some (.int l6) → xg lv 7 = some (.int l7) → ∀ res, m_operate_b150 F  σ s0 l1 l3 l4 l5 l6 l7 = some res → xR pF (d + 5) kT333 16 10 false none none (layR aR res G, T) (150, lv, [.int s0], (layR aR σ G, T)) := by
  intro lv σ s0 l1 l3 l4 l5 l6 l7 g0 g1 g3 g4 g5 g6 g7 res h
  unfold m_operate_b150 at h
  refine eE_stI (j := 8) lk333_150 (Or.inl rfl) (by decide) (fun vq59 gq60 kq61 => ?_)
  have gq62 := kq61 1 _ (by decide) (fun _ => rfl) g1
  have gq63 := kq61 3 _ (by decide) (fun _ => rfl) g3
  have gq64 := kq61 4 _ (by decide) (fun _ => rfl) g4
  have gq65 := kq61 5 _ (by decide) (fun _ => rfl) g5
  have gq66 := kq61 6 _ (by decide) (fun _ => rfl) g6
  have gq67 := kq61 7 _ (by decide) (fun _ => rfl) g7
  have gq68 := kq61 0 _ (by decide) (fun _ => rfl) g0
  refine eE_iconst (v := 0) lk333_152 (by decide) ?_
  refine eE_stI (j := 9) lk333_153 (Or.inl rfl) (by decide) (fun vq69 gq70 kq71 => ?_)
  have gq72 := kq71 1 _ (by decide) (fun _ => rfl) gq62
  have gq73 := kq71 3 _ (by decide) (fun _ => rfl) gq63
  have gq74 := kq71 4 _ (by decide) (fun _ => rfl) gq64
  have gq75 := kq71 5 _ (by decide) (fun _ => rfl) gq65
  have gq76 := kq71 6 _ (by decide) (fun _ => rfl) gq66
  have gq77 := kq71 7 _ (by decide) (fun _ => rfl) gq67
  have gq78 := kq71 0 _ (by decide) (fun _ => rfl) gq68
  have gq79 := kq71 8 _ (by decide) (fun _ => rfl) gq60
  exact m_operate_b155_ok hp0  F vq69 σ l1 l3 l4 l5 l6 l7 s0 ((0 : Int32)) gq78 gq72 gq73 gq74 gq75 gq76 gq77 gq79 gq70 _ h
def m_operate_b0 (F : Nat)  (σ : RS) (l1 : Int32) (l2 : Int32) (l3 : Int32) (l4 : Int32) (l5 : Int32) (l6 : Int32) : Option (RS) :=
  (some (setI σ 122 0 ((0 : Int32)))).bind fun σ80 =>
  (m_find F σ80 l1 ((0 : Int32)) l3 l4).bind fun p82 =>
  if xc0 .ne l2 = true then (
    if xc2 .ne l2 ((2 : Int32)) = true then (
      if xc0 .ge p82.1 = true then (
        (rld p82.2 115 p82.1).bind fun x97 =>
        if xc2 .ne x97 l5 = true then (
          m_operate_b150 F  p82.2 ((0 : Int32)) l1 l3 l4 l5 l6 (p82.1)
        ) else (
          m_operate_b150 F  p82.2 ((1 : Int32)) l1 l3 l4 l5 l6 (p82.1)
        )
      ) else (
        (m_say p82.2 ((3 : Int32))).bind fun p100 =>
        m_operate_b261 F  p100
      )
    ) else (
      if xc0 .ge p82.1 = true then (
        m_operate_b95 F  p82.2 ((1 : Int32)) l1 (p82.1)
      ) else (
        m_operate_b95 F  p82.2 ((0 : Int32)) l1 (p82.1)
      )
    )
  ) else (
    if xc0 .ge p82.1 = true then (
      m_operate_b31 F  p82.2 ((1 : Int32)) l1 l3 l4 l6 (p82.1)
    ) else (
      m_operate_b31 F  p82.2 ((0 : Int32)) l1 l3 l4 l6 (p82.1)
    )
  )
set_option maxRecDepth 4000 in
theorem m_operate_b0_ok {pF : Nat → List Value → xH → Option (Option Value × xH)} {d : Nat} {aR : Nat} {G : Nat → xC} {T : Nat × Nat} {F : Nat} (hp0 : xNP pF)  : ∀ (lv : xL) (σ : RS) (l1 : Int32) (l2 : Int32) (l3 : Int32) (l4 : Int32) (l5 : Int32) (l6 : Int32), xg lv 0 = some (.ref aR) → xg lv 1 = some (.int l1) → xg lv 2 = some (.int l2) → xg lv 3 = some (.int l3) → xg lv 4 = some (.int l4) → xg lv 5 = some (.int l5) → xg lv 6 = some (.int l6) → ∀ res, m_operate_b0 F  σ l1 l2 l3 l4 l5 l6 = some res → xR pF (d + 5) kT333 16 10 false none none (layR aR res G, T) (0, lv, [], (layR aR σ G, T)) := by
  intro lv σ l1 l2 l3 l4 l5 l6 g0 g1 g2 g3 g4 g5 g6 res h
  unfold m_operate_b0 at h
  refine eE_aload_n lk333_0 g0 ?_
  refine eE_iconst (v := 0) lk333_1 (by decide) ?_
  obtain ⟨σ80, h81, h⟩ := Option.bind_eq_some_iff.mp h
  refine eR_putS lk333_2 rf_570 rfl (by decide) pf_122.1 pf_122.2 h81 ?_
  refine eE_aload_n lk333_5 g0 ?_
  refine eE_iload_n lk333_6 g1 ?_
  refine eE_iconst (v := 0) lk333_7 (by decide) ?_
  refine eE_iload_n lk333_8 g3 ?_
  refine eE_iload lk333_9 g4 ?_
  obtain ⟨p82, h83, h⟩ := Option.bind_eq_some_iff.mp h
  refine eR_call (as := [.int l1, .int ((0 : Int32)), .int l3, .int l4]) lk333_11 mr_573 na_281 rfl rfl (Nat.le_of_ble_eq_true rfl) wv_281 wc_281 (m_find_ok hp0 (d := d + 1) h83) ?_
  refine eE_stI (j := 7) lk333_14 (Or.inl rfl) (by decide) (fun vq84 gq85 kq86 => ?_)
  have gq87 := kq86 1 _ (by decide) (fun _ => rfl) g1
  have gq88 := kq86 2 _ (by decide) (fun _ => rfl) g2
  have gq89 := kq86 3 _ (by decide) (fun _ => rfl) g3
  have gq90 := kq86 4 _ (by decide) (fun _ => rfl) g4
  have gq91 := kq86 5 _ (by decide) (fun _ => rfl) g5
  have gq92 := kq86 6 _ (by decide) (fun _ => rfl) g6
  have gq93 := kq86 0 _ (by decide) (fun _ => rfl) g0
  refine eE_iload_n lk333_16 gq88 ?_
  refine eE_if (t := 79) lk333_17 (by decide) (fun c94 => ?_) (fun c94 => ?_)
  · rw [if_pos c94] at h
    refine eE_iload_n lk333_79 gq88 ?_
    refine eE_iconst (v := 2) lk333_80 (by decide) ?_
    refine eE_icmp (t := 120) lk333_81 (by decide) (fun c95 => ?_) (fun c95 => ?_)
    · rw [if_pos c95] at h
      refine eE_iload lk333_120 gq85 ?_
      refine eE_if (t := 133) lk333_122 (by decide) (fun c96 => ?_) (fun c96 => ?_)
      · rw [if_pos c96] at h
        refine eE_aload_n lk333_133 gq93 ?_
        refine eR_getA lk333_134 rf_311 rfl ?_
        refine eE_iload lk333_137 gq85 ?_
        obtain ⟨x97, h98, h⟩ := Option.bind_eq_some_iff.mp h
        refine eR_iald lk333_139 rfl rfl h98 ?_
        refine eE_iload lk333_140 gq91 ?_
        refine eE_icmp (t := 149) lk333_142 (by decide) (fun c99 => ?_) (fun c99 => ?_)
        · rw [if_pos c99] at h
          refine eE_iconst (v := 0) lk333_149 (by decide) ?_
          exact m_operate_b150_ok hp0  vq84 p82.2 ((0 : Int32)) l1 l3 l4 l5 l6 (p82.1) gq93 gq87 gq89 gq90 gq91 gq92 gq85 _ h
        · rw [if_neg c99] at h
          refine eE_iconst (v := 1) lk333_145 (by decide) ?_
          refine eE_goto (t := 150) lk333_146 (by decide) ?_
          exact m_operate_b150_ok hp0  vq84 p82.2 ((1 : Int32)) l1 l3 l4 l5 l6 (p82.1) gq93 gq87 gq89 gq90 gq91 gq92 gq85 _ h
      · rw [if_neg c96] at h
        refine eE_aload_n lk333_125 gq93 ?_
        refine eE_iconst (v := 3) lk333_126 (by decide) ?_
        obtain ⟨p100, h101, h⟩ := Option.bind_eq_some_iff.mp h
        refine eR_call (as := [.int ((3 : Int32))]) lk333_127 mr_579 na_353 rfl rfl (Nat.le_of_ble_eq_true rfl) wv_353 wc_353 (m_say_ok hp0 (d := d + 4) h101) ?_
        refine eE_goto (t := 261) lk333_130 (by decide) ?_
        exact m_operate_b261_ok hp0  vq84 p100 gq93 _ h
    · rw [if_neg c95] at h
      refine eE_aload_n lk333_84 gq93 ?_
      refine eE_iload lk333_85 gq85 ?_
      refine eE_if (t := 94) lk333_87 (by decide) (fun c102 => ?_) (fun c102 => ?_)
      · rw [if_pos c102] at h
        refine eE_iconst (v := 1) lk333_94 (by decide) ?_
        exact m_operate_b95_ok hp0  vq84 p82.2 ((1 : Int32)) l1 (p82.1) gq93 gq87 gq85 _ h
      · rw [if_neg c102] at h
        refine eE_iconst (v := 0) lk333_90 (by decide) ?_
        refine eE_goto (t := 95) lk333_91 (by decide) ?_
        exact m_operate_b95_ok hp0  vq84 p82.2 ((0 : Int32)) l1 (p82.1) gq93 gq87 gq85 _ h
  · rw [if_neg c94] at h
    refine eE_aload_n lk333_20 gq93 ?_
    refine eE_iload lk333_21 gq85 ?_
    refine eE_if (t := 30) lk333_23 (by decide) (fun c103 => ?_) (fun c103 => ?_)
    · rw [if_pos c103] at h
      refine eE_iconst (v := 1) lk333_30 (by decide) ?_
      exact m_operate_b31_ok hp0  vq84 p82.2 ((1 : Int32)) l1 l3 l4 l6 (p82.1) gq93 gq87 gq89 gq90 gq92 gq85 _ h
    · rw [if_neg c103] at h
      refine eE_iconst (v := 0) lk333_26 (by decide) ?_
      refine eE_goto (t := 31) lk333_27 (by decide) ?_
      exact m_operate_b31_ok hp0  vq84 p82.2 ((0 : Int32)) l1 l3 l4 l6 (p82.1) gq93 gq87 gq89 gq90 gq92 gq85 _ h
def m_operate (F : Nat) (σ : RS) (l1 : Int32) (l2 : Int32) (l3 : Int32) (l4 : Int32) (l5 : Int32) (l6 : Int32) : Option (RS) := m_operate_b0 F σ l1 l2 l3 l4 l5 l6
theorem m_operate_ok {pF : Nat → List Value → xH → Option (Option Value × xH)} (hp0 : xNP pF) {d : Nat} {aR : Nat} {G : Nat → xC} {T : Nat × Nat} {σ : RS} {F : Nat} {l1 : Int32} {l2 : Int32} {l3 : Int32} {l4 : Int32} {l5 : Int32} {l6 : Int32} {res : RS} (h : m_operate F σ l1 l2 l3 l4 l5 l6 = some res) : xCo pF (d + 6) 333 [.ref aR, .int l1, .int l2, .int l3, .int l4, .int l5, .int l6] (layR aR σ G, T) none (layR aR res G, T) := by
  unfold m_operate at h
  exact xCo_R kk_333 mo_333 ni_333 xm_333 (Nat.le_of_ble_eq_true rfl) (hp0 _ (by decide) (by decide) _ _) (m_operate_b0_ok hp0 _ σ l1 l2 l3 l4 l5 l6 rfl rfl rfl rfl rfl rfl rfl _ h)
/-! sessionOf (358), depth 1 -/
def m_sessionOf_b2 (F : Nat)  : Nat → RS → Int32 → Int32 → Int32 → Option (Int32 × RS)
  | 0, _, _, _, _ => none
  | n + 1, σ, l1, l2, l3 =>
    let KK := m_sessionOf_b2 F  n
    (rld σ 106 l1).bind fun x1 =>
    if xc2 .ge l3 x1 = true then (
      some ((-1 : Int32), σ)
    ) else (
      (rld σ 107 ((((16 : Int32)) * l1) + l3)).bind fun x4 =>
      if xc2 .ne x4 l2 = true then (
        KK σ l1 l2 (l3 + (1 : Int32))
      ) else (
        some ((((16 : Int32)) * l1) + l3, σ)
      )
    )
set_option maxRecDepth 4000 in
theorem m_sessionOf_b2_ok {pF : Nat → List Value → xH → Option (Option Value × xH)} {d : Nat} {aR : Nat} {G : Nat → xC} {T : Nat × Nat} {F : Nat} (hp0 : xNP pF)  : ∀ (n : Nat) (lv : xL) (σ : RS) (l1 : Int32) (l2 : Int32) (l3 : Int32), xg lv 0 = some (.ref aR) → xg lv 1 = some (.int l1) → xg lv 2 = some (.int l2) → xg lv 3 = some (.int l3) → ∀ res, m_sessionOf_b2 F  n σ l1 l2 l3 = some res → xR pF (d + 0) kT358 16 4 false (some .int) (some (.int res.1)) (layR aR res.2 G, T) (2, lv, [], (layR aR σ G, T)) := by
  intro n
  induction n with
  | zero => intro lv σ l1 l2 l3 g0 g1 g2 g3 res h; simp [m_sessionOf_b2] at h
  | succ n hKK =>
    intro lv σ l1 l2 l3 g0 g1 g2 g3 res h
    unfold m_sessionOf_b2 at h
    dsimp only at h
    refine eE_iload_n lk358_2 g3 ?_
    refine eE_aload_n lk358_3 g0 ?_
    refine eR_getA lk358_4 rf_284 rfl ?_
    refine eE_iload_n lk358_7 g1 ?_
    obtain ⟨x1, h2, h⟩ := Option.bind_eq_some_iff.mp h
    refine eR_iald lk358_8 rfl rfl h2 ?_
    refine eE_icmp (t := 40) lk358_9 (by decide) (fun c3 => ?_) (fun c3 => ?_)
    · rw [if_pos c3] at h
      refine eE_iconst (v := (-1)) lk358_40 (by decide) ?_
      cases h
      exact eE_end lk358_41 rfl rfl rfl
    · rw [if_neg c3] at h
      refine eE_aload_n lk358_12 g0 ?_
      refine eR_getA lk358_13 rf_287 rfl ?_
      refine eE_bipush (v := 16) lk358_16 (by decide) ?_
      refine eE_iload_n lk358_18 g1 ?_
      refine eE_imul lk358_19 ?_
      refine eE_iload_n lk358_20 g3 ?_
      refine eE_iadd lk358_21 ?_
      obtain ⟨x4, h5, h⟩ := Option.bind_eq_some_iff.mp h
      refine eR_iald lk358_22 rfl rfl h5 ?_
      refine eE_iload_n lk358_23 g2 ?_
      refine eE_icmp (t := 34) lk358_24 (by decide) (fun c6 => ?_) (fun c6 => ?_)
      · rw [if_pos c6] at h
        refine eE_inc (j := 3) (v := l3 + (1 : Int32)) lk358_34 g3 rfl (by decide) (fun vq7 gq8 kq9 => ?_)
        have gq10 := kq9 1 _ (by decide) (fun _ => rfl) g1
        have gq11 := kq9 2 _ (by decide) (fun _ => rfl) g2
        have gq12 := kq9 0 _ (by decide) (fun _ => rfl) g0
        refine eE_goto (t := 2) lk358_37 (by decide) ?_
        exact hKK vq7 σ l1 l2 (l3 + (1 : Int32)) gq12 gq10 gq11 gq8 _ h
      · rw [if_neg c6] at h
        refine eE_bipush (v := 16) lk358_27 (by decide) ?_
        refine eE_iload_n lk358_29 g1 ?_
        refine eE_imul lk358_30 ?_
        refine eE_iload_n lk358_31 g3 ?_
        refine eE_iadd lk358_32 ?_
        cases h
        exact eE_end lk358_33 rfl rfl rfl
def m_sessionOf_b0 (F : Nat)  (σ : RS) (l1 : Int32) (l2 : Int32) : Option (Int32 × RS) :=
  m_sessionOf_b2 F  F σ l1 l2 ((0 : Int32))
set_option maxRecDepth 4000 in
theorem m_sessionOf_b0_ok {pF : Nat → List Value → xH → Option (Option Value × xH)} {d : Nat} {aR : Nat} {G : Nat → xC} {T : Nat × Nat} {F : Nat} (hp0 : xNP pF)  : ∀ (lv : xL) (σ : RS) (l1 : Int32) (l2 : Int32), xg lv 0 = some (.ref aR) → xg lv 1 = some (.int l1) → xg lv 2 = some (.int l2) → ∀ res, m_sessionOf_b0 F  σ l1 l2 = some res → xR pF (d + 0) kT358 16 4 false (some .int) (some (.int res.1)) (layR aR res.2 G, T) (0, lv, [], (layR aR σ G, T)) := by
  intro lv σ l1 l2 g0 g1 g2 res h
  unfold m_sessionOf_b0 at h
  refine eE_iconst (v := 0) lk358_0 (by decide) ?_
  refine eE_stI (j := 3) lk358_1 (Or.inr ⟨_, rfl, rfl⟩) (by decide) (fun vq13 gq14 kq15 => ?_)
  have gq16 := kq15 1 _ (by decide) (fun _ => rfl) g1
  have gq17 := kq15 2 _ (by decide) (fun _ => rfl) g2
  have gq18 := kq15 0 _ (by decide) (fun _ => rfl) g0
  exact m_sessionOf_b2_ok hp0  F vq13 σ l1 l2 ((0 : Int32)) gq18 gq16 gq17 gq14 _ h
def m_sessionOf (F : Nat) (σ : RS) (l1 : Int32) (l2 : Int32) : Option (Int32 × RS) := m_sessionOf_b0 F σ l1 l2
theorem m_sessionOf_ok {pF : Nat → List Value → xH → Option (Option Value × xH)} (hp0 : xNP pF) {d : Nat} {aR : Nat} {G : Nat → xC} {T : Nat × Nat} {σ : RS} {F : Nat} {l1 : Int32} {l2 : Int32} {res : Int32 × RS} (h : m_sessionOf F σ l1 l2 = some res) : xCo pF (d + 1) 358 [.ref aR, .int l1, .int l2] (layR aR σ G, T) (some (.int res.1)) (layR aR res.2 G, T) := by
  unfold m_sessionOf at h
  exact xCo_R kk_358 mo_358 ni_358 xm_358 (Nat.le_of_ble_eq_true rfl) (hp0 _ (by decide) (by decide) _ _) (m_sessionOf_b0_ok hp0 _ σ l1 l2 rfl rfl rfl _ h)
/-! perform (338), depth 7 -/
def m_perform_b137 (F : Nat)  : Nat → RS → Int32 → Int32 → Option (RS)
  | 0, _, _, _ => none
  | n + 1, σ, l5, l7 =>
    let KK := m_perform_b137 F  n
    if xc2 .ge l7 (σ.1 122 0) = true then (
      some σ
    ) else (
      (rld σ 112 ((((112 : Int32)) * l5) + l7)).bind fun x2 =>
      (rst σ 121 l7 (x2.toInt8.toInt32)).bind fun σ4 =>
      KK σ4 l5 (l7 + (1 : Int32))
    )
set_option maxRecDepth 4000 in
theorem m_perform_b137_ok {pF : Nat → List Value → xH → Option (Option Value × xH)} {d : Nat} {aR : Nat} {G : Nat → xC} {T : Nat × Nat} {F : Nat} (hp0 : xNP pF)  : ∀ (n : Nat) (lv : xL) (σ : RS) (l5 : Int32) (l7 : Int32), xg lv 0 = some (.ref aR) → xg lv 5 = some (.int l5) → xg lv 7 = some (.int l7) → ∀ res, m_perform_b137 F  n σ l5 l7 = some res → xR pF (d + 6) kT338 16 8 false none none (layR aR res G, T) (137, lv, [], (layR aR σ G, T)) := by
  intro n
  induction n with
  | zero => intro lv σ l5 l7 g0 g5 g7 res h; simp [m_perform_b137] at h
  | succ n hKK =>
    intro lv σ l5 l7 g0 g5 g7 res h
    unfold m_perform_b137 at h
    dsimp only at h
    refine eE_iload lk338_137 g7 ?_
    refine eE_aload_n lk338_139 g0 ?_
    refine eR_get lk338_140 rf_570 rfl ?_
    refine eE_icmp (t := 172) lk338_143 (by decide) (fun c1 => ?_) (fun c1 => ?_)
    · rw [if_pos c1] at h
      cases h
      exact eE_end lk338_172 rfl rfl rfl
    · rw [if_neg c1] at h
      refine eE_aload_n lk338_146 g0 ?_
      refine eR_getA lk338_147 rf_327 rfl ?_
      refine eE_iload lk338_150 g7 ?_
      refine eE_aload_n lk338_152 g0 ?_
      refine eR_getA lk338_153 rf_302 rfl ?_
      refine eE_bipush (v := 112) lk338_156 (by decide) ?_
      refine eE_iload lk338_158 g5 ?_
      refine eE_imul lk338_160 ?_
      refine eE_iload lk338_161 g7 ?_
      refine eE_iadd lk338_163 ?_
      obtain ⟨x2, h3, h⟩ := Option.bind_eq_some_iff.mp h
      refine eR_bald lk338_164 rfl (Or.inl rfl) h3 ?_
      obtain ⟨σ4, h5, h⟩ := Option.bind_eq_some_iff.mp h
      refine eR_bast lk338_165 rfl rfl rfl h5 ?_
      refine eE_inc (j := 7) (v := l7 + (1 : Int32)) lk338_166 g7 rfl (by decide) (fun vq6 gq7 kq8 => ?_)
      have gq9 := kq8 5 _ (by decide) (fun _ => rfl) g5
      have gq10 := kq8 0 _ (by decide) (fun _ => rfl) g0
      refine eE_goto (t := 137) lk338_169 (by decide) ?_
      exact hKK vq6 σ4 l5 (l7 + (1 : Int32)) gq10 gq9 gq7 _ h
def m_perform_b258 (F : Nat)  : Nat → RS → Int32 → Int32 → Option (RS)
  | 0, _, _, _ => none
  | n + 1, σ, l5, l7 =>
    let KK := m_perform_b258 F  n
    if xc2 .ge l7 (σ.1 122 0) = true then (
      some σ
    ) else (
      (rld σ 121 l7).bind fun x12 =>
      (rst σ 112 ((((112 : Int32)) * l5) + l7) (x12.toInt8.toInt32)).bind fun σ14 =>
      KK σ14 l5 (l7 + (1 : Int32))
    )
set_option maxRecDepth 4000 in
theorem m_perform_b258_ok {pF : Nat → List Value → xH → Option (Option Value × xH)} {d : Nat} {aR : Nat} {G : Nat → xC} {T : Nat × Nat} {F : Nat} (hp0 : xNP pF)  : ∀ (n : Nat) (lv : xL) (σ : RS) (l5 : Int32) (l7 : Int32), xg lv 0 = some (.ref aR) → xg lv 5 = some (.int l5) → xg lv 7 = some (.int l7) → ∀ res, m_perform_b258 F  n σ l5 l7 = some res → xR pF (d + 6) kT338 16 8 false none none (layR aR res G, T) (258, lv, [], (layR aR σ G, T)) := by
  intro n
  induction n with
  | zero => intro lv σ l5 l7 g0 g5 g7 res h; simp [m_perform_b258] at h
  | succ n hKK =>
    intro lv σ l5 l7 g0 g5 g7 res h
    unfold m_perform_b258 at h
    dsimp only at h
    refine eE_iload lk338_258 g7 ?_
    refine eE_aload_n lk338_260 g0 ?_
    refine eR_get lk338_261 rf_570 rfl ?_
    refine eE_icmp (t := 293) lk338_264 (by decide) (fun c11 => ?_) (fun c11 => ?_)
    · rw [if_pos c11] at h
      cases h
      exact eE_end lk338_293 rfl rfl rfl
    · rw [if_neg c11] at h
      refine eE_aload_n lk338_267 g0 ?_
      refine eR_getA lk338_268 rf_302 rfl ?_
      refine eE_bipush (v := 112) lk338_271 (by decide) ?_
      refine eE_iload lk338_273 g5 ?_
      refine eE_imul lk338_275 ?_
      refine eE_iload lk338_276 g7 ?_
      refine eE_iadd lk338_278 ?_
      refine eE_aload_n lk338_279 g0 ?_
      refine eR_getA lk338_280 rf_327 rfl ?_
      refine eE_iload lk338_283 g7 ?_
      obtain ⟨x12, h13, h⟩ := Option.bind_eq_some_iff.mp h
      refine eR_bald lk338_285 rfl (Or.inl rfl) h13 ?_
      obtain ⟨σ14, h15, h⟩ := Option.bind_eq_some_iff.mp h
      refine eR_bast lk338_286 rfl rfl rfl h15 ?_
      refine eE_inc (j := 7) (v := l7 + (1 : Int32)) lk338_287 g7 rfl (by decide) (fun vq16 gq17 kq18 => ?_)
      have gq19 := kq18 5 _ (by decide) (fun _ => rfl) g5
      have gq20 := kq18 0 _ (by decide) (fun _ => rfl) g0
      refine eE_goto (t := 258) lk338_290 (by decide) ?_
      exact hKK vq16 σ14 l5 (l7 + (1 : Int32)) gq20 gq19 gq17 _ h
def m_perform_b0 (F : Nat)  (σ : RS) (l1 : Int32) (l2 : Int32) : Option (RS) :=
  (m_logOf l1 l2).bind fun p21 =>
  (some (setI σ 120 0 ((0 : Int32)))).bind fun σ29 =>
  (some (setI σ29 123 0 l2)).bind fun σ31 =>
  (rld σ31 61 p21).bind fun x33 =>
  if xc2 .ne x33 ((2 : Int32)) = true then (
    (m_integer σ31 (((256 : Int32)) * p21)).bind fun p43 =>
    (m_sessionOf F p43.2 l1 p43.1).bind fun p45 =>
    if xc0 .ge p45.1 = true then (
      (rst p45.2 108 p45.1 l2).bind fun σ56 =>
      (m_integer σ56 ((((256 : Int32)) * p21) + ((4 : Int32)))).bind fun p58 =>
      (rld p58.2 109 p45.1).bind fun x69 =>
      if xc2 .ge p58.1 x69 = true then (
        (rld p58.2 109 p45.1).bind fun x72 =>
        if xc2 .ne p58.1 x72 = true then (
          (m_inLog p58.2 ((((256 : Int32)) * p21) + ((8 : Int32)))).bind fun p75 =>
          (m_inLog p75.2 ((((256 : Int32)) * p21) + ((9 : Int32)))).bind fun p77 =>
          (m_inLog p77.2 ((((256 : Int32)) * p21) + ((10 : Int32)))).bind fun p79 =>
          (rld p79.2 61 p21).bind fun x81 =>
          (m_operate F p79.2 l1 p75.1 ((((256 : Int32)) * p21) + ((12 : Int32))) (p77.1 &&& ((255 : Int32))) (p79.1 &&& ((255 : Int32))) (x81 - ((12 : Int32)))).bind fun p83 =>
          (rst p83 109 p45.1 p58.1).bind fun σ85 =>
          (rst σ85 110 p45.1 l2).bind fun σ87 =>
          (rst σ87 111 p45.1 ((σ87.1 122 0))).bind fun σ89 =>
          m_perform_b258 F  F σ89 (p45.1) ((0 : Int32))
        ) else (
          (rld p58.2 110 p45.1).bind fun x96 =>
          (some (setI p58.2 123 0 x96)).bind fun σ98 =>
          (rld σ98 111 p45.1).bind fun x100 =>
          (some (setI σ98 122 0 x100)).bind fun σ102 =>
          m_perform_b137 F  F σ102 (p45.1) ((0 : Int32))
        )
      ) else (
        (some (setI p58.2 120 0 ((2 : Int32)))).bind fun σ109 =>
        some σ109
      )
    ) else (
      (some (setI p45.2 120 0 ((1 : Int32)))).bind fun σ111 =>
      some σ111
    )
  ) else (
    (m_open F σ31 l1 l2).bind fun p113 =>
    some p113
  )
set_option maxRecDepth 4000 in
theorem m_perform_b0_ok {pF : Nat → List Value → xH → Option (Option Value × xH)} {d : Nat} {aR : Nat} {G : Nat → xC} {T : Nat × Nat} {F : Nat} (hp0 : xNP pF)  : ∀ (lv : xL) (σ : RS) (l1 : Int32) (l2 : Int32), xg lv 0 = some (.ref aR) → xg lv 1 = some (.int l1) → xg lv 2 = some (.int l2) → ∀ res, m_perform_b0 F  σ l1 l2 = some res → xR pF (d + 6) kT338 16 8 false none none (layR aR res G, T) (0, lv, [], (layR aR σ G, T)) := by
  intro lv σ l1 l2 g0 g1 g2 res h
  unfold m_perform_b0 at h
  refine eE_iload_n lk338_0 g1 ?_
  refine eE_iload_n lk338_1 g2 ?_
  obtain ⟨p21, h22, h⟩ := Option.bind_eq_some_iff.mp h
  refine eE_stat (as := [.int l1, .int l2]) lk338_2 mr_521 na_322 rfl rfl (Nat.le_of_ble_eq_true rfl) mm_322 ws_322 (m_logOf_ok hp0 (d := d + 5) h22) ?_
  refine eE_stI (j := 3) lk338_5 (Or.inr ⟨_, rfl, rfl⟩) (by decide) (fun vq23 gq24 kq25 => ?_)
  have gq26 := kq25 1 _ (by decide) (fun _ => rfl) g1
  have gq27 := kq25 2 _ (by decide) (fun _ => rfl) g2
  have gq28 := kq25 0 _ (by decide) (fun _ => rfl) g0
  refine eE_aload_n lk338_6 gq28 ?_
  refine eE_iconst (v := 0) lk338_7 (by decide) ?_
  obtain ⟨σ29, h30, h⟩ := Option.bind_eq_some_iff.mp h
  refine eR_putS lk338_8 rf_598 rfl (by decide) pf_120.1 pf_120.2 h30 ?_
  refine eE_aload_n lk338_11 gq28 ?_
  refine eE_iload_n lk338_12 gq27 ?_
  obtain ⟨σ31, h32, h⟩ := Option.bind_eq_some_iff.mp h
  refine eR_putS lk338_13 rf_595 rfl (by decide) pf_123.1 pf_123.2 h32 ?_
  refine eE_aload_n lk338_16 gq28 ?_
  refine eR_getA lk338_17 rf_147 rfl ?_
  refine eE_iload_n lk338_20 gq24 ?_
  obtain ⟨x33, h34, h⟩ := Option.bind_eq_some_iff.mp h
  refine eR_iald lk338_21 rfl rfl h34 ?_
  refine eE_iconst (v := 2) lk338_22 (by decide) ?_
  refine eE_icmp (t := 33) lk338_23 (by decide) (fun c35 => ?_) (fun c35 => ?_)
  · rw [if_pos c35] at h
    refine eE_sipush (v := 256) lk338_33 (by decide) ?_
    refine eE_iload_n lk338_36 gq24 ?_
    refine eE_imul lk338_37 ?_
    refine eE_stI (j := 4) lk338_38 (Or.inl rfl) (by decide) (fun vq36 gq37 kq38 => ?_)
    have gq39 := kq38 1 _ (by decide) (fun _ => rfl) gq26
    have gq40 := kq38 2 _ (by decide) (fun _ => rfl) gq27
    have gq41 := kq38 0 _ (by decide) (fun _ => rfl) gq28
    have gq42 := kq38 3 _ (by decide) (fun _ => rfl) gq24
    refine eE_aload_n lk338_40 gq41 ?_
    refine eE_iload_n lk338_41 gq39 ?_
    refine eE_aload_n lk338_42 gq41 ?_
    refine eE_iload lk338_43 gq37 ?_
    obtain ⟨p43, h44, h⟩ := Option.bind_eq_some_iff.mp h
    refine eR_call (as := [.int (((256 : Int32)) * p21)]) lk338_45 mr_603 na_298 rfl rfl (Nat.le_of_ble_eq_true rfl) wv_298 wc_298 (m_integer_ok hp0 (d := d + 4) h44) ?_
    obtain ⟨p45, h46, h⟩ := Option.bind_eq_some_iff.mp h
    refine eR_call (as := [.int l1, .int p43.1]) lk338_48 mr_606 na_358 rfl rfl (Nat.le_of_ble_eq_true rfl) wv_358 wc_358 (m_sessionOf_ok hp0 (d := d + 5) h46) ?_
    refine eE_stI (j := 5) lk338_51 (Or.inl rfl) (by decide) (fun vq47 gq48 kq49 => ?_)
    have gq50 := kq49 1 _ (by decide) (fun _ => rfl) gq39
    have gq51 := kq49 2 _ (by decide) (fun _ => rfl) gq40
    have gq52 := kq49 0 _ (by decide) (fun _ => rfl) gq41
    have gq53 := kq49 3 _ (by decide) (fun _ => rfl) gq42
    have gq54 := kq49 4 _ (by decide) (fun _ => rfl) gq37
    refine eE_iload lk338_53 gq48 ?_
    refine eE_if (t := 64) lk338_55 (by decide) (fun c55 => ?_) (fun c55 => ?_)
    · rw [if_pos c55] at h
      refine eE_aload_n lk338_64 gq52 ?_
      refine eR_getA lk338_65 rf_290 rfl ?_
      refine eE_iload lk338_68 gq48 ?_
      refine eE_iload_n lk338_70 gq51 ?_
      obtain ⟨σ56, h57, h⟩ := Option.bind_eq_some_iff.mp h
      refine eR_iast lk338_71 rfl rfl h57 ?_
      refine eE_aload_n lk338_72 gq52 ?_
      refine eE_iload lk338_73 gq54 ?_
      refine eE_iconst (v := 4) lk338_75 (by decide) ?_
      refine eE_iadd lk338_76 ?_
      obtain ⟨p58, h59, h⟩ := Option.bind_eq_some_iff.mp h
      refine eR_call (as := [.int ((((256 : Int32)) * p21) + ((4 : Int32)))]) lk338_77 mr_603 na_298 rfl rfl (Nat.le_of_ble_eq_true rfl) wv_298 wc_298 (m_integer_ok hp0 (d := d + 4) h59) ?_
      refine eE_stI (j := 6) lk338_80 (Or.inl rfl) (by decide) (fun vq60 gq61 kq62 => ?_)
      have gq63 := kq62 1 _ (by decide) (fun _ => rfl) gq50
      have gq64 := kq62 2 _ (by decide) (fun _ => rfl) gq51
      have gq65 := kq62 0 _ (by decide) (fun _ => rfl) gq52
      have gq66 := kq62 3 _ (by decide) (fun _ => rfl) gq53
      have gq67 := kq62 4 _ (by decide) (fun _ => rfl) gq54
      have gq68 := kq62 5 _ (by decide) (fun _ => rfl) gq48
      refine eE_iload lk338_82 gq61 ?_
      refine eE_aload_n lk338_84 gq65 ?_
      refine eR_getA lk338_85 rf_293 rfl ?_
      refine eE_iload lk338_88 gq68 ?_
      obtain ⟨x69, h70, h⟩ := Option.bind_eq_some_iff.mp h
      refine eR_iald lk338_90 rfl rfl h70 ?_
      refine eE_icmp (t := 100) lk338_91 (by decide) (fun c71 => ?_) (fun c71 => ?_)
      · rw [if_pos c71] at h
        refine eE_iload lk338_100 gq61 ?_
        refine eE_aload_n lk338_102 gq65 ?_
        refine eR_getA lk338_103 rf_293 rfl ?_
        refine eE_iload lk338_106 gq68 ?_
        obtain ⟨x72, h73, h⟩ := Option.bind_eq_some_iff.mp h
        refine eR_iald lk338_108 rfl rfl h73 ?_
        refine eE_icmp (t := 173) lk338_109 (by decide) (fun c74 => ?_) (fun c74 => ?_)
        · rw [if_pos c74] at h
          refine eE_aload_n lk338_173 gq65 ?_
          refine eE_iload_n lk338_174 gq63 ?_
          refine eE_aload_n lk338_175 gq65 ?_
          refine eE_iload lk338_176 gq67 ?_
          refine eE_bipush (v := 8) lk338_178 (by decide) ?_
          refine eE_iadd lk338_180 ?_
          obtain ⟨p75, h76, h⟩ := Option.bind_eq_some_iff.mp h
          refine eR_call (as := [.int ((((256 : Int32)) * p21) + ((8 : Int32)))]) lk338_181 mr_530 na_296 rfl rfl (Nat.le_of_ble_eq_true rfl) wv_296 wc_296 (m_inLog_ok hp0 (d := d + 5) h76) ?_
          refine eE_iload lk338_184 gq67 ?_
          refine eE_bipush (v := 12) lk338_186 (by decide) ?_
          refine eE_iadd lk338_188 ?_
          refine eE_aload_n lk338_189 gq65 ?_
          refine eE_iload lk338_190 gq67 ?_
          refine eE_bipush (v := 9) lk338_192 (by decide) ?_
          refine eE_iadd lk338_194 ?_
          obtain ⟨p77, h78, h⟩ := Option.bind_eq_some_iff.mp h
          refine eR_call (as := [.int ((((256 : Int32)) * p21) + ((9 : Int32)))]) lk338_195 mr_530 na_296 rfl rfl (Nat.le_of_ble_eq_true rfl) wv_296 wc_296 (m_inLog_ok hp0 (d := d + 5) h78) ?_
          refine eE_sipush (v := 255) lk338_198 (by decide) ?_
          refine eE_iand lk338_201 ?_
          refine eE_aload_n lk338_202 gq65 ?_
          refine eE_iload lk338_203 gq67 ?_
          refine eE_bipush (v := 10) lk338_205 (by decide) ?_
          refine eE_iadd lk338_207 ?_
          obtain ⟨p79, h80, h⟩ := Option.bind_eq_some_iff.mp h
          refine eR_call (as := [.int ((((256 : Int32)) * p21) + ((10 : Int32)))]) lk338_208 mr_530 na_296 rfl rfl (Nat.le_of_ble_eq_true rfl) wv_296 wc_296 (m_inLog_ok hp0 (d := d + 5) h80) ?_
          refine eE_sipush (v := 255) lk338_211 (by decide) ?_
          refine eE_iand lk338_214 ?_
          refine eE_aload_n lk338_215 gq65 ?_
          refine eR_getA lk338_216 rf_147 rfl ?_
          refine eE_iload_n lk338_219 gq66 ?_
          obtain ⟨x81, h82, h⟩ := Option.bind_eq_some_iff.mp h
          refine eR_iald lk338_220 rfl rfl h82 ?_
          refine eE_bipush (v := 12) lk338_221 (by decide) ?_
          refine eE_isub lk338_223 ?_
          obtain ⟨p83, h84, h⟩ := Option.bind_eq_some_iff.mp h
          refine eR_call (as := [.int l1, .int p75.1, .int ((((256 : Int32)) * p21) + ((12 : Int32))), .int (p77.1 &&& ((255 : Int32))), .int (p79.1 &&& ((255 : Int32))), .int (x81 - ((12 : Int32)))]) lk338_224 mr_609 na_333 rfl rfl (Nat.le_of_ble_eq_true rfl) wv_333 wc_333 (m_operate_ok hp0 (d := d + 0) h84) ?_
          refine eE_aload_n lk338_227 gq65 ?_
          refine eR_getA lk338_228 rf_293 rfl ?_
          refine eE_iload lk338_231 gq68 ?_
          refine eE_iload lk338_233 gq61 ?_
          obtain ⟨σ85, h86, h⟩ := Option.bind_eq_some_iff.mp h
          refine eR_iast lk338_235 rfl rfl h86 ?_
          refine eE_aload_n lk338_236 gq65 ?_
          refine eR_getA lk338_237 rf_296 rfl ?_
          refine eE_iload lk338_240 gq68 ?_
          refine eE_iload_n lk338_242 gq64 ?_
          obtain ⟨σ87, h88, h⟩ := Option.bind_eq_some_iff.mp h
          refine eR_iast lk338_243 rfl rfl h88 ?_
          refine eE_aload_n lk338_244 gq65 ?_
          refine eR_getA lk338_245 rf_299 rfl ?_
          refine eE_iload lk338_248 gq68 ?_
          refine eE_aload_n lk338_250 gq65 ?_
          refine eR_get lk338_251 rf_570 rfl ?_
          obtain ⟨σ89, h90, h⟩ := Option.bind_eq_some_iff.mp h
          refine eR_iast lk338_254 rfl rfl h90 ?_
          refine eE_iconst (v := 0) lk338_255 (by decide) ?_
          refine eE_stI (j := 7) lk338_256 (Or.inl rfl) (by decide) (fun vq91 gq92 kq93 => ?_)
          have gq94 := kq93 0 _ (by decide) (fun _ => rfl) gq65
          have gq95 := kq93 5 _ (by decide) (fun _ => rfl) gq68
          exact m_perform_b258_ok hp0  F vq91 σ89 (p45.1) ((0 : Int32)) gq94 gq95 gq92 _ h
        · rw [if_neg c74] at h
          refine eE_aload_n lk338_112 gq65 ?_
          refine eE_aload_n lk338_113 gq65 ?_
          refine eR_getA lk338_114 rf_296 rfl ?_
          refine eE_iload lk338_117 gq68 ?_
          obtain ⟨x96, h97, h⟩ := Option.bind_eq_some_iff.mp h
          refine eR_iald lk338_119 rfl rfl h97 ?_
          obtain ⟨σ98, h99, h⟩ := Option.bind_eq_some_iff.mp h
          refine eR_putS lk338_120 rf_595 rfl (by decide) pf_123.1 pf_123.2 h99 ?_
          refine eE_aload_n lk338_123 gq65 ?_
          refine eE_aload_n lk338_124 gq65 ?_
          refine eR_getA lk338_125 rf_299 rfl ?_
          refine eE_iload lk338_128 gq68 ?_
          obtain ⟨x100, h101, h⟩ := Option.bind_eq_some_iff.mp h
          refine eR_iald lk338_130 rfl rfl h101 ?_
          obtain ⟨σ102, h103, h⟩ := Option.bind_eq_some_iff.mp h
          refine eR_putS lk338_131 rf_570 rfl (by decide) pf_122.1 pf_122.2 h103 ?_
          refine eE_iconst (v := 0) lk338_134 (by decide) ?_
          refine eE_stI (j := 7) lk338_135 (Or.inl rfl) (by decide) (fun vq104 gq105 kq106 => ?_)
          have gq107 := kq106 0 _ (by decide) (fun _ => rfl) gq65
          have gq108 := kq106 5 _ (by decide) (fun _ => rfl) gq68
          exact m_perform_b137_ok hp0  F vq104 σ102 (p45.1) ((0 : Int32)) gq107 gq108 gq105 _ h
      · rw [if_neg c71] at h
        refine eE_aload_n lk338_94 gq65 ?_
        refine eE_iconst (v := 2) lk338_95 (by decide) ?_
        obtain ⟨σ109, h110, h⟩ := Option.bind_eq_some_iff.mp h
        refine eR_putS lk338_96 rf_598 rfl (by decide) pf_120.1 pf_120.2 h110 ?_
        cases h
        exact eE_end lk338_99 rfl rfl rfl
    · rw [if_neg c55] at h
      refine eE_aload_n lk338_58 gq52 ?_
      refine eE_iconst (v := 1) lk338_59 (by decide) ?_
      obtain ⟨σ111, h112, h⟩ := Option.bind_eq_some_iff.mp h
      refine eR_putS lk338_60 rf_598 rfl (by decide) pf_120.1 pf_120.2 h112 ?_
      cases h
      exact eE_end lk338_63 rfl rfl rfl
  · rw [if_neg c35] at h
    refine eE_aload_n lk338_26 gq28 ?_
    refine eE_iload_n lk338_27 gq26 ?_
    refine eE_iload_n lk338_28 gq27 ?_
    obtain ⟨p113, h114, h⟩ := Option.bind_eq_some_iff.mp h
    refine eR_call (as := [.int l1, .int l2]) lk338_29 mr_600 na_332 rfl rfl (Nat.le_of_ble_eq_true rfl) wv_332 wc_332 (m_open_ok hp0 (d := d + 4) h114) ?_
    cases h
    exact eE_end lk338_32 rfl rfl rfl
def m_perform (F : Nat) (σ : RS) (l1 : Int32) (l2 : Int32) : Option (RS) := m_perform_b0 F σ l1 l2
theorem m_perform_ok {pF : Nat → List Value → xH → Option (Option Value × xH)} (hp0 : xNP pF) {d : Nat} {aR : Nat} {G : Nat → xC} {T : Nat × Nat} {σ : RS} {F : Nat} {l1 : Int32} {l2 : Int32} {res : RS} (h : m_perform F σ l1 l2 = some res) : xCo pF (d + 7) 338 [.ref aR, .int l1, .int l2] (layR aR σ G, T) none (layR aR res G, T) := by
  unfold m_perform at h
  exact xCo_R kk_338 mo_338 ni_338 xm_338 (Nat.le_of_ble_eq_true rfl) (hp0 _ (by decide) (by decide) _ _) (m_perform_b0_ok hp0 _ σ l1 l2 rfl rfl rfl _ h)
/-! apply (246), depth 8 -/
def m_apply_b186 (F : Nat) (K0 : RS → Int32 → Option (RS)) (K72 : RS → Int32 → Int32 → Int32 → Int32 → Int32 → Option (RS)) (σ : RS) (l1 : Int32) (l2 : Int32) (l3 : Int32) (l4 : Int32) (l5 : Int32) : Option (RS) :=
  K72 σ l1 l2 l3 l4 (l5 + (1 : Int32))
set_option maxRecDepth 4000 in
theorem m_apply_b186_ok {pF : Nat → List Value → xH → Option (Option Value × xH)} {d : Nat} {aR : Nat} {G : Nat → xC} {T : Nat × Nat} {F : Nat} {K0 : RS → Int32 → Option (RS)} {K72 : RS → Int32 → Int32 → Int32 → Int32 → Int32 → Option (RS)} (hp0 : xNP pF) (hK0 : ∀ (lv : xL) (σ : RS) (l1 : Int32), xg lv 0 = some (.ref aR) → xg lv 1 = some (.int l1) → ∀ res, K0 σ l1 = some res → xR pF (d + 7) kT246 16 6 false none none (layR aR res G, T) (0, lv, [], (layR aR σ G, T))) (hK72 : ∀ (lv : xL) (σ : RS) (l1 : Int32) (l2 : Int32) (l3 : Int32) (l4 : Int32) (l5 : Int32), xg lv 0 = some (.ref aR) → xg lv 1 = some (.int l1) → xg lv 2 = some (.int l2) → xg lv 3 = some (.int l3) → xg lv 4 = some (.int l4) → xg lv 5 = some (.int l5) → ∀ res, K72 σ l1 l2 l3 l4 l5 = some res → xR pF (d + 7) kT246 16 6 false none none (layR aR res G, T) (72, lv, [], (layR aR σ G, T))) : ∀ (lv : xL) (σ : RS) (l1 : Int32) (l2 : Int32) (l3 : Int32) (l4 : Int32) (l5 : Int32), xg lv 0 = some (.ref aR) → xg lv 1 = some (.int l1) → xg lv 2 = some (.int l2) → xg lv 3 = some (.int l3) → xg lv 4 = some (.int l4) → xg lv 5 = some (.int l5) → ∀ res, m_apply_b186 F K0 K72 σ l1 l2 l3 l4 l5 = some res → xR pF (d + 7) kT246 16 6 false none none (layR aR res G, T) (186, lv, [], (layR aR σ G, T)) := by
  intro lv σ l1 l2 l3 l4 l5 g0 g1 g2 g3 g4 g5 res h
  unfold m_apply_b186 at h
  refine eE_inc (j := 5) (v := l5 + (1 : Int32)) lk246_186 g5 rfl (by decide) (fun vq1 gq2 kq3 => ?_)
  have gq4 := kq3 1 _ (by decide) (fun _ => rfl) g1
  have gq5 := kq3 2 _ (by decide) (fun _ => rfl) g2
  have gq6 := kq3 3 _ (by decide) (fun _ => rfl) g3
  have gq7 := kq3 4 _ (by decide) (fun _ => rfl) g4
  have gq8 := kq3 0 _ (by decide) (fun _ => rfl) g0
  refine eE_goto (t := 72) lk246_189 (by decide) ?_
  exact hK72 vq1 σ l1 l2 l3 l4 (l5 + (1 : Int32)) gq8 gq4 gq5 gq6 gq7 gq2 _ h
def m_apply_b169 (F : Nat) (K0 : RS → Int32 → Option (RS)) (K72 : RS → Int32 → Int32 → Int32 → Int32 → Int32 → Option (RS)) (σ : RS) (l1 : Int32) (l2 : Int32) (l3 : Int32) (l4 : Int32) (l5 : Int32) : Option (RS) :=
  if xc2 .ne (σ.1 120 0) ((1 : Int32)) = true then (
    m_apply_b186 F K0 K72 σ l1 l2 l3 l4 l5
  ) else (
    (m_postReply F σ l1 l5 ((2 : Int32)) ((0 : Int32))).bind fun p10 =>
    m_apply_b186 F K0 K72 p10 l1 l2 l3 l4 l5
  )
set_option maxRecDepth 4000 in
theorem m_apply_b169_ok {pF : Nat → List Value → xH → Option (Option Value × xH)} {d : Nat} {aR : Nat} {G : Nat → xC} {T : Nat × Nat} {F : Nat} {K0 : RS → Int32 → Option (RS)} {K72 : RS → Int32 → Int32 → Int32 → Int32 → Int32 → Option (RS)} (hp0 : xNP pF) (hK0 : ∀ (lv : xL) (σ : RS) (l1 : Int32), xg lv 0 = some (.ref aR) → xg lv 1 = some (.int l1) → ∀ res, K0 σ l1 = some res → xR pF (d + 7) kT246 16 6 false none none (layR aR res G, T) (0, lv, [], (layR aR σ G, T))) (hK72 : ∀ (lv : xL) (σ : RS) (l1 : Int32) (l2 : Int32) (l3 : Int32) (l4 : Int32) (l5 : Int32), xg lv 0 = some (.ref aR) → xg lv 1 = some (.int l1) → xg lv 2 = some (.int l2) → xg lv 3 = some (.int l3) → xg lv 4 = some (.int l4) → xg lv 5 = some (.int l5) → ∀ res, K72 σ l1 l2 l3 l4 l5 = some res → xR pF (d + 7) kT246 16 6 false none none (layR aR res G, T) (72, lv, [], (layR aR σ G, T))) : ∀ (lv : xL) (σ : RS) (l1 : Int32) (l2 : Int32) (l3 : Int32) (l4 : Int32) (l5 : Int32), xg lv 0 = some (.ref aR) → xg lv 1 = some (.int l1) → xg lv 2 = some (.int l2) → xg lv 3 = some (.int l3) → xg lv 4 = some (.int l4) → xg lv 5 = some (.int l5) → ∀ res, m_apply_b169 F K0 K72 σ l1 l2 l3 l4 l5 = some res → xR pF (d + 7) kT246 16 6 false none none (layR aR res G, T) (169, lv, [], (layR aR σ G, T)) := by
  intro lv σ l1 l2 l3 l4 l5 g0 g1 g2 g3 g4 g5 res h
  unfold m_apply_b169 at h
  refine eE_aload_n lk246_169 g0 ?_
  refine eR_get lk246_170 rf_598 rfl ?_
  refine eE_iconst (v := 1) lk246_173 (by decide) ?_
  refine eE_icmp (t := 186) lk246_174 (by decide) (fun c9 => ?_) (fun c9 => ?_)
  · rw [if_pos c9] at h
    exact m_apply_b186_ok hp0 hK0 hK72 lv σ l1 l2 l3 l4 l5 g0 g1 g2 g3 g4 g5 _ h
  · rw [if_neg c9] at h
    refine eE_aload_n lk246_177 g0 ?_
    refine eE_iload_n lk246_178 g1 ?_
    refine eE_iload lk246_179 g5 ?_
    refine eE_iconst (v := 2) lk246_181 (by decide) ?_
    refine eE_iconst (v := 0) lk246_182 (by decide) ?_
    obtain ⟨p10, h11, h⟩ := Option.bind_eq_some_iff.mp h
    refine eR_call (as := [.int l1, .int l5, .int ((2 : Int32)), .int ((0 : Int32))]) lk246_183 mr_709 na_340 rfl rfl (Nat.le_of_ble_eq_true rfl) wv_340 wc_340 (m_postReply_ok hp0 (d := d + 2) h11) ?_
    exact m_apply_b186_ok hp0 hK0 hK72 lv p10 l1 l2 l3 l4 l5 g0 g1 g2 g3 g4 g5 _ h
def m_apply_b72 (F : Nat) (K0 : RS → Int32 → Option (RS)) : Nat → RS → Int32 → Int32 → Int32 → Int32 → Int32 → Option (RS)
  | 0, _, _, _, _, _, _ => none
  | n + 1, σ, l1, l2, l3, l4, l5 =>
    let KK := m_apply_b72 F K0 n
    if xc2 .ge l5 ((((32 : Int32)) * l1) + ((32 : Int32))) = true then (
      K0 σ l1
    ) else (
      (rld σ 95 l5).bind fun x13 =>
      if xc0 .eq x13 = true then (
        m_apply_b186 F K0 KK σ l1 l2 l3 l4 l5
      ) else (
        (rld σ 96 l5).bind fun x16 =>
        if xc0 .ne x16 = true then (
          m_apply_b186 F K0 KK σ l1 l2 l3 l4 l5
        ) else (
          (rld σ 97 l5).bind fun x19 =>
          if xc2 .eq x19 l2 = true then (
            (rst σ 95 l5 ((((0 : Int32)) &&& 1))).bind fun σ22 =>
            if xc0 .eq l4 = true then (
              m_apply_b186 F K0 KK σ22 l1 l2 l3 l4 l5
            ) else (
              (rld σ22 59 l3).bind fun x25 =>
              (rld σ22 98 l5).bind fun x27 =>
              if xc2 .eq x25 x27 = true then (
                if xc0 .ne (σ22.1 120 0) = true then (
                  m_apply_b169 F K0 KK σ22 l1 l2 l3 l4 l5
                ) else (
                  (m_postReply F σ22 l1 l5 ((0 : Int32)) (σ22.1 123 0)).bind fun p31 =>
                  m_apply_b169 F K0 KK p31 l1 l2 l3 l4 l5
                )
              ) else (
                m_apply_b186 F K0 KK σ22 l1 l2 l3 l4 l5
              )
            )
          ) else (
            m_apply_b186 F K0 KK σ l1 l2 l3 l4 l5
          )
        )
      )
    )
set_option maxRecDepth 4000 in
theorem m_apply_b72_ok {pF : Nat → List Value → xH → Option (Option Value × xH)} {d : Nat} {aR : Nat} {G : Nat → xC} {T : Nat × Nat} {F : Nat} {K0 : RS → Int32 → Option (RS)} (hp0 : xNP pF) (hK0 : ∀ (lv : xL) (σ : RS) (l1 : Int32), xg lv 0 = some (.ref aR) → xg lv 1 = some (.int l1) → ∀ res, K0 σ l1 = some res → xR pF (d + 7) kT246 16 6 false none none (layR aR res G, T) (0, lv, [], (layR aR σ G, T))) : ∀ (n : Nat) (lv : xL) (σ : RS) (l1 : Int32) (l2 : Int32) (l3 : Int32) (l4 : Int32) (l5 : Int32), xg lv 0 = some (.ref aR) → xg lv 1 = some (.int l1) → xg lv 2 = some (.int l2) → xg lv 3 = some (.int l3) → xg lv 4 = some (.int l4) → xg lv 5 = some (.int l5) → ∀ res, m_apply_b72 F K0 n σ l1 l2 l3 l4 l5 = some res → xR pF (d + 7) kT246 16 6 false none none (layR aR res G, T) (72, lv, [], (layR aR σ G, T)) := by
  intro n
  induction n with
  | zero => intro lv σ l1 l2 l3 l4 l5 g0 g1 g2 g3 g4 g5 res h; simp [m_apply_b72] at h
  | succ n hKK =>
    intro lv σ l1 l2 l3 l4 l5 g0 g1 g2 g3 g4 g5 res h
    unfold m_apply_b72 at h
    dsimp only at h
    refine eE_iload lk246_72 g5 ?_
    refine eE_bipush (v := 32) lk246_74 (by decide) ?_
    refine eE_iload_n lk246_76 g1 ?_
    refine eE_imul lk246_77 ?_
    refine eE_bipush (v := 32) lk246_78 (by decide) ?_
    refine eE_iadd lk246_80 ?_
    refine eE_icmp (t := 192) lk246_81 (by decide) (fun c12 => ?_) (fun c12 => ?_)
    · rw [if_pos c12] at h
      refine eE_goto (t := 0) lk246_192 (by decide) ?_
      exact hK0 lv σ l1 g0 g1 _ h
    · rw [if_neg c12] at h
      refine eE_aload_n lk246_84 g0 ?_
      refine eR_getA lk246_85 rf_251 rfl ?_
      refine eE_iload lk246_88 g5 ?_
      obtain ⟨x13, h14, h⟩ := Option.bind_eq_some_iff.mp h
      refine eR_bald lk246_90 rfl (Or.inr rfl) h14 ?_
      refine eE_if (t := 186) lk246_91 (by decide) (fun c15 => ?_) (fun c15 => ?_)
      · rw [if_pos c15] at h
        exact m_apply_b186_ok hp0 hK0 hKK lv σ l1 l2 l3 l4 l5 g0 g1 g2 g3 g4 g5 _ h
      · rw [if_neg c15] at h
        refine eE_aload_n lk246_94 g0 ?_
        refine eR_getA lk246_95 rf_254 rfl ?_
        refine eE_iload lk246_98 g5 ?_
        obtain ⟨x16, h17, h⟩ := Option.bind_eq_some_iff.mp h
        refine eR_bald lk246_100 rfl (Or.inr rfl) h17 ?_
        refine eE_if (t := 186) lk246_101 (by decide) (fun c18 => ?_) (fun c18 => ?_)
        · rw [if_pos c18] at h
          exact m_apply_b186_ok hp0 hK0 hKK lv σ l1 l2 l3 l4 l5 g0 g1 g2 g3 g4 g5 _ h
        · rw [if_neg c18] at h
          refine eE_aload_n lk246_104 g0 ?_
          refine eR_getA lk246_105 rf_257 rfl ?_
          refine eE_iload lk246_108 g5 ?_
          obtain ⟨x19, h20, h⟩ := Option.bind_eq_some_iff.mp h
          refine eR_iald lk246_110 rfl rfl h20 ?_
          refine eE_iload_n lk246_111 g2 ?_
          refine eE_icmp (t := 118) lk246_112 (by decide) (fun c21 => ?_) (fun c21 => ?_)
          · rw [if_pos c21] at h
            refine eE_aload_n lk246_118 g0 ?_
            refine eR_getA lk246_119 rf_251 rfl ?_
            refine eE_iload lk246_122 g5 ?_
            refine eE_iconst (v := 0) lk246_124 (by decide) ?_
            obtain ⟨σ22, h23, h⟩ := Option.bind_eq_some_iff.mp h
            refine eR_zast lk246_125 rfl rfl rfl h23 ?_
            refine eE_iload lk246_126 g4 ?_
            refine eE_if (t := 186) lk246_128 (by decide) (fun c24 => ?_) (fun c24 => ?_)
            · rw [if_pos c24] at h
              exact m_apply_b186_ok hp0 hK0 hKK lv σ22 l1 l2 l3 l4 l5 g0 g1 g2 g3 g4 g5 _ h
            · rw [if_neg c24] at h
              refine eE_aload_n lk246_131 g0 ?_
              refine eR_getA lk246_132 rf_141 rfl ?_
              refine eE_iload_n lk246_135 g3 ?_
              obtain ⟨x25, h26, h⟩ := Option.bind_eq_some_iff.mp h
              refine eR_iald lk246_136 rfl rfl h26 ?_
              refine eE_aload_n lk246_137 g0 ?_
              refine eR_getA lk246_138 rf_260 rfl ?_
              refine eE_iload lk246_141 g5 ?_
              obtain ⟨x27, h28, h⟩ := Option.bind_eq_some_iff.mp h
              refine eR_iald lk246_143 rfl rfl h28 ?_
              refine eE_icmp (t := 150) lk246_144 (by decide) (fun c29 => ?_) (fun c29 => ?_)
              · rw [if_pos c29] at h
                refine eE_aload_n lk246_150 g0 ?_
                refine eR_get lk246_151 rf_598 rfl ?_
                refine eE_if (t := 169) lk246_154 (by decide) (fun c30 => ?_) (fun c30 => ?_)
                · rw [if_pos c30] at h
                  exact m_apply_b169_ok hp0 hK0 hKK lv σ22 l1 l2 l3 l4 l5 g0 g1 g2 g3 g4 g5 _ h
                · rw [if_neg c30] at h
                  refine eE_aload_n lk246_157 g0 ?_
                  refine eE_iload_n lk246_158 g1 ?_
                  refine eE_iload lk246_159 g5 ?_
                  refine eE_iconst (v := 0) lk246_161 (by decide) ?_
                  refine eE_aload_n lk246_162 g0 ?_
                  refine eR_get lk246_163 rf_595 rfl ?_
                  obtain ⟨p31, h32, h⟩ := Option.bind_eq_some_iff.mp h
                  refine eR_call (as := [.int l1, .int l5, .int ((0 : Int32)), .int (σ22.1 123 0)]) lk246_166 mr_709 na_340 rfl rfl (Nat.le_of_ble_eq_true rfl) wv_340 wc_340 (m_postReply_ok hp0 (d := d + 2) h32) ?_
                  exact m_apply_b169_ok hp0 hK0 hKK lv p31 l1 l2 l3 l4 l5 g0 g1 g2 g3 g4 g5 _ h
              · rw [if_neg c29] at h
                refine eE_goto (t := 186) lk246_147 (by decide) ?_
                exact m_apply_b186_ok hp0 hK0 hKK lv σ22 l1 l2 l3 l4 l5 g0 g1 g2 g3 g4 g5 _ h
          · rw [if_neg c21] at h
            refine eE_goto (t := 186) lk246_115 (by decide) ?_
            exact m_apply_b186_ok hp0 hK0 hKK lv σ l1 l2 l3 l4 l5 g0 g1 g2 g3 g4 g5 _ h
def m_apply_b66 (F : Nat) (K0 : RS → Int32 → Option (RS)) (σ : RS) (l1 : Int32) (l2 : Int32) (l3 : Int32) (l4 : Int32) : Option (RS) :=
  m_apply_b72 F K0 F σ l1 l2 l3 l4 (((32 : Int32)) * l1)
set_option maxRecDepth 4000 in
theorem m_apply_b66_ok {pF : Nat → List Value → xH → Option (Option Value × xH)} {d : Nat} {aR : Nat} {G : Nat → xC} {T : Nat × Nat} {F : Nat} {K0 : RS → Int32 → Option (RS)} (hp0 : xNP pF) (hK0 : ∀ (lv : xL) (σ : RS) (l1 : Int32), xg lv 0 = some (.ref aR) → xg lv 1 = some (.int l1) → ∀ res, K0 σ l1 = some res → xR pF (d + 7) kT246 16 6 false none none (layR aR res G, T) (0, lv, [], (layR aR σ G, T))) : ∀ (lv : xL) (σ : RS) (l1 : Int32) (l2 : Int32) (l3 : Int32) (l4 : Int32), xg lv 0 = some (.ref aR) → xg lv 1 = some (.int l1) → xg lv 2 = some (.int l2) → xg lv 3 = some (.int l3) → xg lv 4 = some (.int l4) → ∀ res, m_apply_b66 F K0 σ l1 l2 l3 l4 = some res → xR pF (d + 7) kT246 16 6 false none none (layR aR res G, T) (66, lv, [], (layR aR σ G, T)) := by
  intro lv σ l1 l2 l3 l4 g0 g1 g2 g3 g4 res h
  unfold m_apply_b66 at h
  refine eE_bipush (v := 32) lk246_66 (by decide) ?_
  refine eE_iload_n lk246_68 g1 ?_
  refine eE_imul lk246_69 ?_
  refine eE_stI (j := 5) lk246_70 (Or.inl rfl) (by decide) (fun vq33 gq34 kq35 => ?_)
  have gq36 := kq35 1 _ (by decide) (fun _ => rfl) g1
  have gq37 := kq35 2 _ (by decide) (fun _ => rfl) g2
  have gq38 := kq35 3 _ (by decide) (fun _ => rfl) g3
  have gq39 := kq35 4 _ (by decide) (fun _ => rfl) g4
  have gq40 := kq35 0 _ (by decide) (fun _ => rfl) g0
  exact m_apply_b72_ok hp0 hK0 F vq33 σ l1 l2 l3 l4 (((32 : Int32)) * l1) gq40 gq36 gq37 gq38 gq39 gq34 _ h
def m_apply_b53 (F : Nat) (K0 : RS → Int32 → Option (RS)) (σ : RS) (s0 : Int32) (l1 : Int32) (l2 : Int32) (l3 : Int32) : Option (RS) :=
  if xc0 .eq s0 = true then (
    m_apply_b66 F K0 σ l1 l2 l3 s0
  ) else (
    (m_perform F σ l1 l2).bind fun p49 =>
    m_apply_b66 F K0 p49 l1 l2 l3 s0
  )
set_option maxRecDepth 4000 in
theorem m_apply_b53_ok {pF : Nat → List Value → xH → Option (Option Value × xH)} {d : Nat} {aR : Nat} {G : Nat → xC} {T : Nat × Nat} {F : Nat} {K0 : RS → Int32 → Option (RS)} (hp0 : xNP pF) (hK0 : ∀ (lv : xL) (σ : RS) (l1 : Int32), xg lv 0 = some (.ref aR) → xg lv 1 = some (.int l1) → ∀ res, K0 σ l1 = some res → xR pF (d + 7) kT246 16 6 false none none (layR aR res G, T) (0, lv, [], (layR aR σ G, T))) : ∀ (lv : xL) (σ : RS) (s0 : Int32) (l1 : Int32) (l2 : Int32) (l3 : Int32), xg lv 0 = some (.ref aR) → xg lv 1 = some (.int l1) → xg lv 2 = some (.int l2) → xg lv 3 = some (.int l3) → ∀ res, m_apply_b53 F K0 σ s0 l1 l2 l3 = some res → xR pF (d + 7) kT246 16 6 false none none (layR aR res G, T) (53, lv, [.int s0], (layR aR σ G, T)) := by
  intro lv σ s0 l1 l2 l3 g0 g1 g2 g3 res h
  unfold m_apply_b53 at h
  refine eE_stI (j := 4) lk246_53 (Or.inl rfl) (by decide) (fun vq41 gq42 kq43 => ?_)
  have gq44 := kq43 1 _ (by decide) (fun _ => rfl) g1
  have gq45 := kq43 2 _ (by decide) (fun _ => rfl) g2
  have gq46 := kq43 3 _ (by decide) (fun _ => rfl) g3
  have gq47 := kq43 0 _ (by decide) (fun _ => rfl) g0
  refine eE_iload lk246_55 gq42 ?_
  refine eE_if (t := 66) lk246_57 (by decide) (fun c48 => ?_) (fun c48 => ?_)
  · rw [if_pos c48] at h
    exact m_apply_b66_ok hp0 hK0 vq41 σ l1 l2 l3 s0 gq47 gq44 gq45 gq46 gq42 _ h
  · rw [if_neg c48] at h
    refine eE_aload_n lk246_60 gq47 ?_
    refine eE_iload_n lk246_61 gq44 ?_
    refine eE_iload_n lk246_62 gq45 ?_
    obtain ⟨p49, h50, h⟩ := Option.bind_eq_some_iff.mp h
    refine eR_call (as := [.int l1, .int l2]) lk246_63 mr_706 na_338 rfl rfl (Nat.le_of_ble_eq_true rfl) wv_338 wc_338 (m_perform_ok hp0 (d := d + 0) h50) ?_
    exact m_apply_b66_ok hp0 hK0 vq41 p49 l1 l2 l3 s0 gq47 gq44 gq45 gq46 gq42 _ h
def m_apply_b223 (F : Nat)  (σ : RS) : Option (RS) :=
  some σ
set_option maxRecDepth 4000 in
theorem m_apply_b223_ok {pF : Nat → List Value → xH → Option (Option Value × xH)} {d : Nat} {aR : Nat} {G : Nat → xC} {T : Nat × Nat} {F : Nat} (hp0 : xNP pF)  : ∀ (lv : xL) (σ : RS), xg lv 0 = some (.ref aR) → ∀ res, m_apply_b223 F  σ = some res → xR pF (d + 7) kT246 16 6 false none none (layR aR res G, T) (223, lv, [], (layR aR σ G, T)) := by
  intro lv σ g0 res h
  unfold m_apply_b223 at h
  cases h
  exact eE_end lk246_223 rfl rfl rfl
def m_apply_b0 (F : Nat)  : Nat → RS → Int32 → Option (RS)
  | 0, _, _ => none
  | n + 1, σ, l1 =>
    let KK := m_apply_b0 F  n
    (rld σ 76 l1).bind fun x51 =>
    (rld σ 75 l1).bind fun x53 =>
    if xc2 .ge x51 x53 = true then (
      (m_answerReads F σ l1).bind fun p56 =>
      (rld p56 76 l1).bind fun x58 =>
      (rld p56 55 l1).bind fun x60 =>
      if xc2 .lt (x58 - x60) ((24 : Int32)) = true then (
        m_apply_b223 F  p56
      ) else (
        (m_compact F p56 l1).bind fun p63 =>
        m_apply_b223 F  p63
      )
    ) else (
      (rld σ 76 l1).bind fun x65 =>
      (rst σ 76 l1 ((x65 + ((1 : Int32))))).bind fun σ67 =>
      (rld σ67 76 l1).bind fun x69 =>
      (m_logOf l1 x69).bind fun p76 =>
      (rld σ67 60 p76).bind fun x84 =>
      if xc2 .ne x84 ((2 : Int32)) = true then (
        m_apply_b53 F KK σ67 ((0 : Int32)) l1 x69 p76
      ) else (
        m_apply_b53 F KK σ67 ((1 : Int32)) l1 x69 p76
      )
    )
set_option maxRecDepth 4000 in
theorem m_apply_b0_ok {pF : Nat → List Value → xH → Option (Option Value × xH)} {d : Nat} {aR : Nat} {G : Nat → xC} {T : Nat × Nat} {F : Nat} (hp0 : xNP pF)  : ∀ (n : Nat) (lv : xL) (σ : RS) (l1 : Int32), xg lv 0 = some (.ref aR) → xg lv 1 = some (.int l1) → ∀ res, m_apply_b0 F  n σ l1 = some res → xR pF (d + 7) kT246 16 6 false none none (layR aR res G, T) (0, lv, [], (layR aR σ G, T)) := by
  intro n
  induction n with
  | zero => intro lv σ l1 g0 g1 res h; simp [m_apply_b0] at h
  | succ n hKK =>
    intro lv σ l1 g0 g1 res h
    unfold m_apply_b0 at h
    dsimp only at h
    refine eE_aload_n lk246_0 g0 ?_
    refine eR_getA lk246_1 rf_194 rfl ?_
    refine eE_iload_n lk246_4 g1 ?_
    obtain ⟨x51, h52, h⟩ := Option.bind_eq_some_iff.mp h
    refine eR_iald lk246_5 rfl rfl h52 ?_
    refine eE_aload_n lk246_6 g0 ?_
    refine eR_getA lk246_7 rf_191 rfl ?_
    refine eE_iload_n lk246_10 g1 ?_
    obtain ⟨x53, h54, h⟩ := Option.bind_eq_some_iff.mp h
    refine eR_iald lk246_11 rfl rfl h54 ?_
    refine eE_icmp (t := 195) lk246_12 (by decide) (fun c55 => ?_) (fun c55 => ?_)
    · rw [if_pos c55] at h
      refine eE_aload_n lk246_195 g0 ?_
      refine eE_iload_n lk246_196 g1 ?_
      obtain ⟨p56, h57, h⟩ := Option.bind_eq_some_iff.mp h
      refine eR_call (as := [.int l1]) lk246_197 mr_683 na_243 rfl rfl (Nat.le_of_ble_eq_true rfl) wv_243 wc_243 (m_answerReads_ok hp0 (d := d + 1) h57) ?_
      refine eE_aload_n lk246_200 g0 ?_
      refine eR_getA lk246_201 rf_194 rfl ?_
      refine eE_iload_n lk246_204 g1 ?_
      obtain ⟨x58, h59, h⟩ := Option.bind_eq_some_iff.mp h
      refine eR_iald lk246_205 rfl rfl h59 ?_
      refine eE_aload_n lk246_206 g0 ?_
      refine eR_getA lk246_207 rf_129 rfl ?_
      refine eE_iload_n lk246_210 g1 ?_
      obtain ⟨x60, h61, h⟩ := Option.bind_eq_some_iff.mp h
      refine eR_iald lk246_211 rfl rfl h61 ?_
      refine eE_isub lk246_212 ?_
      refine eE_bipush (v := 24) lk246_213 (by decide) ?_
      refine eE_icmp (t := 223) lk246_215 (by decide) (fun c62 => ?_) (fun c62 => ?_)
      · rw [if_pos c62] at h
        exact m_apply_b223_ok hp0  lv p56 g0 _ h
      · rw [if_neg c62] at h
        refine eE_aload_n lk246_218 g0 ?_
        refine eE_iload_n lk246_219 g1 ?_
        obtain ⟨p63, h64, h⟩ := Option.bind_eq_some_iff.mp h
        refine eR_call (as := [.int l1]) lk246_220 mr_712 na_259 rfl rfl (Nat.le_of_ble_eq_true rfl) wv_259 wc_259 (m_compact_ok hp0 (d := d + 3) h64) ?_
        exact m_apply_b223_ok hp0  lv p63 g0 _ h
    · rw [if_neg c55] at h
      refine eE_aload_n lk246_15 g0 ?_
      refine eR_getA lk246_16 rf_194 rfl ?_
      refine eE_iload_n lk246_19 g1 ?_
      refine eE_dup2 lk246_20 rfl rfl ?_
      obtain ⟨x65, h66, h⟩ := Option.bind_eq_some_iff.mp h
      refine eR_iald lk246_21 rfl rfl h66 ?_
      refine eE_iconst (v := 1) lk246_22 (by decide) ?_
      refine eE_iadd lk246_23 ?_
      obtain ⟨σ67, h68, h⟩ := Option.bind_eq_some_iff.mp h
      refine eR_iast lk246_24 rfl rfl h68 ?_
      refine eE_aload_n lk246_25 g0 ?_
      refine eR_getA lk246_26 rf_194 rfl ?_
      refine eE_iload_n lk246_29 g1 ?_
      obtain ⟨x69, h70, h⟩ := Option.bind_eq_some_iff.mp h
      refine eR_iald lk246_30 rfl rfl h70 ?_
      refine eE_stI (j := 2) lk246_31 (Or.inr ⟨_, rfl, rfl⟩) (by decide) (fun vq71 gq72 kq73 => ?_)
      have gq74 := kq73 1 _ (by decide) (fun _ => rfl) g1
      have gq75 := kq73 0 _ (by decide) (fun _ => rfl) g0
      refine eE_iload_n lk246_32 gq74 ?_
      refine eE_iload_n lk246_33 gq72 ?_
      obtain ⟨p76, h77, h⟩ := Option.bind_eq_some_iff.mp h
      refine eE_stat (as := [.int l1, .int x69]) lk246_34 mr_521 na_322 rfl rfl (Nat.le_of_ble_eq_true rfl) mm_322 ws_322 (m_logOf_ok hp0 (d := d + 6) h77) ?_
      refine eE_stI (j := 3) lk246_37 (Or.inr ⟨_, rfl, rfl⟩) (by decide) (fun vq78 gq79 kq80 => ?_)
      have gq81 := kq80 1 _ (by decide) (fun _ => rfl) gq74
      have gq82 := kq80 0 _ (by decide) (fun _ => rfl) gq75
      have gq83 := kq80 2 _ (by decide) (fun _ => rfl) gq72
      refine eE_aload_n lk246_38 gq82 ?_
      refine eR_getA lk246_39 rf_144 rfl ?_
      refine eE_iload_n lk246_42 gq79 ?_
      obtain ⟨x84, h85, h⟩ := Option.bind_eq_some_iff.mp h
      refine eR_iald lk246_43 rfl rfl h85 ?_
      refine eE_iconst (v := 2) lk246_44 (by decide) ?_
      refine eE_icmp (t := 52) lk246_45 (by decide) (fun c86 => ?_) (fun c86 => ?_)
      · rw [if_pos c86] at h
        refine eE_iconst (v := 0) lk246_52 (by decide) ?_
        exact m_apply_b53_ok hp0 hKK vq78 σ67 ((0 : Int32)) l1 x69 p76 gq82 gq81 gq83 gq79 _ h
      · rw [if_neg c86] at h
        refine eE_iconst (v := 1) lk246_48 (by decide) ?_
        refine eE_goto (t := 53) lk246_49 (by decide) ?_
        exact m_apply_b53_ok hp0 hKK vq78 σ67 ((1 : Int32)) l1 x69 p76 gq82 gq81 gq83 gq79 _ h
def m_apply (F : Nat) (σ : RS) (l1 : Int32) : Option (RS) := m_apply_b0 F F σ l1
theorem m_apply_ok {pF : Nat → List Value → xH → Option (Option Value × xH)} (hp0 : xNP pF) {d : Nat} {aR : Nat} {G : Nat → xC} {T : Nat × Nat} {σ : RS} {F : Nat} {l1 : Int32} {res : RS} (h : m_apply F σ l1 = some res) : xCo pF (d + 8) 246 [.ref aR, .int l1] (layR aR σ G, T) none (layR aR res G, T) := by
  unfold m_apply at h
  exact xCo_R kk_246 mo_246 ni_246 xm_246 (Nat.le_of_ble_eq_true rfl) (hp0 _ (by decide) (by decide) _ _) (m_apply_b0_ok hp0 F _ σ l1 rfl rfl _ h)
/-! isCommand (301), depth 1 -/
def m_isCommand_b15  (σ : RS) (s0 : Int32) : Option (Int32 × RS) :=
  if s0 = 0 ∨ s0 = 1 then some (s0, σ) else none
set_option maxRecDepth 4000 in
theorem m_isCommand_b15_ok {pF : Nat → List Value → xH → Option (Option Value × xH)} {d : Nat} {aR : Nat} {G : Nat → xC} {T : Nat × Nat} (hp0 : xNP pF)  : ∀ (lv : xL) (σ : RS) (s0 : Int32), xg lv 0 = some (.ref aR) → ∀ res, m_isCommand_b15  σ s0 = some res → xR pF (d + 0) kT301 16 2 false (some .boolean) (some (.int res.1)) (layR aR res.2 G, T) (15, lv, [.int s0], (layR aR σ G, T)) := by
  intro lv σ s0 g0 res h
  unfold m_isCommand_b15 at h
  by_cases z1 : s0 = 0 ∨ s0 = 1
  · rw [if_pos z1] at h; cases h
    exact eE_end lk301_15 rfl rfl (by first | (simp only [xfin, if_true, if_pos z1]; done) | simp [xfin, z1])
  · rw [if_neg z1] at h; cases h
def m_isCommand_b0  (σ : RS) (l1 : Int32) : Option (Int32 × RS) :=
  (rld σ 132 l1).bind fun x2 =>
  if xc2 .ge x2 ((3 : Int32)) = true then (
    m_isCommand_b15  σ ((0 : Int32))
  ) else (
    m_isCommand_b15  σ ((1 : Int32))
  )
set_option maxRecDepth 4000 in
theorem m_isCommand_b0_ok {pF : Nat → List Value → xH → Option (Option Value × xH)} {d : Nat} {aR : Nat} {G : Nat → xC} {T : Nat × Nat} (hp0 : xNP pF)  : ∀ (lv : xL) (σ : RS) (l1 : Int32), xg lv 0 = some (.ref aR) → xg lv 1 = some (.int l1) → ∀ res, m_isCommand_b0  σ l1 = some res → xR pF (d + 0) kT301 16 2 false (some .boolean) (some (.int res.1)) (layR aR res.2 G, T) (0, lv, [], (layR aR σ G, T)) := by
  intro lv σ l1 g0 g1 res h
  unfold m_isCommand_b0 at h
  refine eE_aload_n lk301_0 g0 ?_
  refine eR_getA lk301_1 rf_354 rfl ?_
  refine eE_iload_n lk301_4 g1 ?_
  obtain ⟨x2, h3, h⟩ := Option.bind_eq_some_iff.mp h
  refine eR_iald lk301_5 rfl rfl h3 ?_
  refine eE_iconst (v := 3) lk301_6 (by decide) ?_
  refine eE_icmp (t := 14) lk301_7 (by decide) (fun c4 => ?_) (fun c4 => ?_)
  · rw [if_pos c4] at h
    refine eE_iconst (v := 0) lk301_14 (by decide) ?_
    exact m_isCommand_b15_ok hp0  lv σ ((0 : Int32)) g0 _ h
  · rw [if_neg c4] at h
    refine eE_iconst (v := 1) lk301_10 (by decide) ?_
    refine eE_goto (t := 15) lk301_11 (by decide) ?_
    exact m_isCommand_b15_ok hp0  lv σ ((1 : Int32)) g0 _ h
def m_isCommand (σ : RS) (l1 : Int32) : Option (Int32 × RS) := m_isCommand_b0 σ l1
theorem m_isCommand_ok {pF : Nat → List Value → xH → Option (Option Value × xH)} (hp0 : xNP pF) {d : Nat} {aR : Nat} {G : Nat → xC} {T : Nat × Nat} {σ : RS} {l1 : Int32} {res : Int32 × RS} (h : m_isCommand σ l1 = some res) : xCo pF (d + 1) 301 [.ref aR, .int l1] (layR aR σ G, T) (some (.int res.1)) (layR aR res.2 G, T) := by
  unfold m_isCommand at h
  exact xCo_R kk_301 mo_301 ni_301 xm_301 (Nat.le_of_ble_eq_true rfl) (hp0 _ (by decide) (by decide) _ _) (m_isCommand_b0_ok hp0 _ σ l1 rfl rfl _ h)
/-! tellClient (370), depth 1 -/
def m_tellClient  (σ : RS) (l1 : Int32) (l2 : Int32) (l3 : Int32) : Option (RS) :=
  (rld σ 137 l1).bind fun x1 =>
  (rst σ 142 ((((6 : Int32)) * x1) + ((3 : Int32))) ((σ.1 141 0))).bind fun σ10 =>
  (rst σ10 142 ((((6 : Int32)) * x1) + ((4 : Int32))) l2).bind fun σ12 =>
  (rst σ12 142 ((((6 : Int32)) * x1) + ((5 : Int32))) l3).bind fun σ14 =>
  (some (setI σ14 141 0 ((σ14.1 141 0) + ((1 : Int32))))).bind fun σ16 =>
  (rst σ16 124 l1 ((((0 : Int32)) &&& 1))).bind fun σ18 =>
  (rst σ18 29 (((8 : Int32)) + l1) (((-1 : Int32)))).bind fun σ20 =>
  some σ20
set_option maxRecDepth 4000 in
theorem m_tellClient_run {pF : Nat → List Value → xH → Option (Option Value × xH)} {d : Nat} {aR : Nat} {G : Nat → xC} {T : Nat × Nat} (hp0 : xNP pF)  : ∀ (lv : xL) (σ : RS) (l1 : Int32) (l2 : Int32) (l3 : Int32), xg lv 0 = some (.ref aR) → xg lv 1 = some (.int l1) → xg lv 2 = some (.int l2) → xg lv 3 = some (.int l3) → ∀ res, m_tellClient  σ l1 l2 l3 = some res → xR pF (d + 0) kT370 16 5 false none none (layR aR res G, T) (0, lv, [], (layR aR σ G, T)) := by
  intro lv σ l1 l2 l3 g0 g1 g2 g3 res h
  unfold m_tellClient at h
  refine eE_bipush (v := 6) lk370_0 (by decide) ?_
  refine eE_aload_n lk370_2 g0 ?_
  refine eR_getA lk370_3 rf_369 rfl ?_
  refine eE_iload_n lk370_6 g1 ?_
  obtain ⟨x1, h2, h⟩ := Option.bind_eq_some_iff.mp h
  refine eR_iald lk370_7 rfl rfl h2 ?_
  refine eE_imul lk370_8 ?_
  refine eE_stI (j := 4) lk370_9 (Or.inl rfl) (by decide) (fun vq3 gq4 kq5 => ?_)
  have gq6 := kq5 1 _ (by decide) (fun _ => rfl) g1
  have gq7 := kq5 2 _ (by decide) (fun _ => rfl) g2
  have gq8 := kq5 3 _ (by decide) (fun _ => rfl) g3
  have gq9 := kq5 0 _ (by decide) (fun _ => rfl) g0
  refine eE_aload_n lk370_11 gq9 ?_
  refine eR_getA lk370_12 rf_378 rfl ?_
  refine eE_iload lk370_15 gq4 ?_
  refine eE_iconst (v := 3) lk370_17 (by decide) ?_
  refine eE_iadd lk370_18 ?_
  refine eE_aload_n lk370_19 gq9 ?_
  refine eR_get lk370_20 rf_775 rfl ?_
  obtain ⟨σ10, h11, h⟩ := Option.bind_eq_some_iff.mp h
  refine eR_iast lk370_23 rfl rfl h11 ?_
  refine eE_aload_n lk370_24 gq9 ?_
  refine eR_getA lk370_25 rf_378 rfl ?_
  refine eE_iload lk370_28 gq4 ?_
  refine eE_iconst (v := 4) lk370_30 (by decide) ?_
  refine eE_iadd lk370_31 ?_
  refine eE_iload_n lk370_32 gq7 ?_
  obtain ⟨σ12, h13, h⟩ := Option.bind_eq_some_iff.mp h
  refine eR_iast lk370_33 rfl rfl h13 ?_
  refine eE_aload_n lk370_34 gq9 ?_
  refine eR_getA lk370_35 rf_378 rfl ?_
  refine eE_iload lk370_38 gq4 ?_
  refine eE_iconst (v := 5) lk370_40 (by decide) ?_
  refine eE_iadd lk370_41 ?_
  refine eE_iload_n lk370_42 gq8 ?_
  obtain ⟨σ14, h15, h⟩ := Option.bind_eq_some_iff.mp h
  refine eR_iast lk370_43 rfl rfl h15 ?_
  refine eE_aload_n lk370_44 gq9 ?_
  refine eE_dup lk370_45 rfl ?_
  refine eR_get lk370_46 rf_775 rfl ?_
  refine eE_iconst (v := 1) lk370_49 (by decide) ?_
  refine eE_iadd lk370_50 ?_
  obtain ⟨σ16, h17, h⟩ := Option.bind_eq_some_iff.mp h
  refine eR_putS lk370_51 rf_775 rfl (by decide) pf_141.1 pf_141.2 h17 ?_
  refine eE_aload_n lk370_54 gq9 ?_
  refine eR_getA lk370_55 rf_330 rfl ?_
  refine eE_iload_n lk370_58 gq6 ?_
  refine eE_iconst (v := 0) lk370_59 (by decide) ?_
  obtain ⟨σ18, h19, h⟩ := Option.bind_eq_some_iff.mp h
  refine eR_zast lk370_60 rfl rfl rfl h19 ?_
  refine eE_aload_n lk370_61 gq9 ?_
  refine eR_getA lk370_62 rf_62 rfl ?_
  refine eE_bipush (v := 8) lk370_65 (by decide) ?_
  refine eE_iload_n lk370_67 gq6 ?_
  refine eE_iadd lk370_68 ?_
  refine eE_iconst (v := (-1)) lk370_69 (by decide) ?_
  obtain ⟨σ20, h21, h⟩ := Option.bind_eq_some_iff.mp h
  refine eR_iast lk370_70 rfl rfl h21 ?_
  cases h
  exact eE_end lk370_71 rfl rfl rfl
theorem m_tellClient_ok {pF : Nat → List Value → xH → Option (Option Value × xH)} (hp0 : xNP pF) {d : Nat} {aR : Nat} {G : Nat → xC} {T : Nat × Nat} {σ : RS} {l1 : Int32} {l2 : Int32} {l3 : Int32} {res : RS} (h : m_tellClient σ l1 l2 l3 = some res) : xCo pF (d + 1) 370 [.ref aR, .int l1, .int l2, .int l3] (layR aR σ G, T) none (layR aR res G, T) := by
  exact xCo_R kk_370 mo_370 ni_370 xm_370 (Nat.le_of_ble_eq_true rfl) (hp0 _ (by decide) (by decide) _ _) (m_tellClient_run hp0 _ σ l1 l2 l3 rfl rfl rfl rfl _ h)
