/-! printed by wip/whole/gen_ref.py -/
/-! tell (369), depth 5 -/
def m_tell (F : Nat)  (σ : RS) (l1 : Int32) (l2 : Int32) (l3 : Int32) (l4 : Int32) (l5 : Int32) (l6 : Int32) : Option (RS) :=
  (rld σ 53 l1).bind fun x1 =>
  (m_write σ l3 x1 l4 l5 l6).bind fun p3 =>
  (m_post F p3 l1 l2).bind fun p5 =>
  some p5
set_option maxRecDepth 4000 in
theorem m_tell_run {pF : Nat → List Value → xH → Option (Option Value × xH)} {d : Nat} {aR : Nat} {G : Nat → xC} {T : Nat × Nat} {F : Nat} (hp0 : xNP pF)  : ∀ (lv : xL) (σ : RS) (l1 : Int32) (l2 : Int32) (l3 : Int32) (l4 : Int32) (l5 : Int32) (l6 : Int32), xg lv 0 = some (.ref aR) → xg lv 1 = some (.int l1) → xg lv 2 = some (.int l2) → xg lv 3 = some (.int l3) → xg lv 4 = some (.int l4) → xg lv 5 = some (.int l5) → xg lv 6 = some (.int l6) → ∀ res, m_tell F  σ l1 l2 l3 l4 l5 l6 = some res → xR pF (d + 4) kT369 16 7 false none none (layR aR res G, T) (0, lv, [], (layR aR σ G, T)) := by
  intro lv σ l1 l2 l3 l4 l5 l6 g0 g1 g2 g3 g4 g5 g6 res h
  unfold m_tell at h
  refine eE_aload_n lk369_0 g0 ?_
  refine eE_iload_n lk369_1 g3 ?_
  refine eE_aload_n lk369_2 g0 ?_
  refine eR_getA lk369_3 rf_123 rfl ?_
  refine eE_iload_n lk369_6 g1 ?_
  obtain ⟨x1, h2, h⟩ := Option.bind_eq_some_iff.mp h
  refine eR_iald lk369_7 rfl rfl h2 ?_
  refine eE_iload lk369_8 g4 ?_
  refine eE_iload lk369_10 g5 ?_
  refine eE_iload lk369_12 g6 ?_
  obtain ⟨p3, h4, h⟩ := Option.bind_eq_some_iff.mp h
  refine eR_call (as := [.int l3, .int x1, .int l4, .int l5, .int l6]) lk369_14 mr_647 na_381 rfl rfl (Nat.le_of_ble_eq_true rfl) wv_381 wc_381 (m_write_ok hp0 (d := d + 3) h4) ?_
  refine eE_aload_n lk369_17 g0 ?_
  refine eE_iload_n lk369_18 g1 ?_
  refine eE_iload_n lk369_19 g2 ?_
  obtain ⟨p5, h6, h⟩ := Option.bind_eq_some_iff.mp h
  refine eR_call (as := [.int l1, .int l2]) lk369_20 mr_651 na_339 rfl rfl (Nat.le_of_ble_eq_true rfl) wv_339 wc_339 (m_post_ok hp0 (d := d + 0) h6) ?_
  cases h
  exact eE_end lk369_23 rfl rfl rfl
theorem m_tell_ok {pF : Nat → List Value → xH → Option (Option Value × xH)} (hp0 : xNP pF) {d : Nat} {aR : Nat} {G : Nat → xC} {T : Nat × Nat} {σ : RS} {F : Nat} {l1 : Int32} {l2 : Int32} {l3 : Int32} {l4 : Int32} {l5 : Int32} {l6 : Int32} {res : RS} (h : m_tell F σ l1 l2 l3 l4 l5 l6 = some res) : xCo pF (d + 5) 369 [.ref aR, .int l1, .int l2, .int l3, .int l4, .int l5, .int l6] (layR aR σ G, T) none (layR aR res G, T) := by
  exact xCo_R kk_369 mo_369 ni_369 xm_369 (Nat.le_of_ble_eq_true rfl) (hp0 _ (by decide) (by decide) _ _) (m_tell_run hp0 _ σ l1 l2 l3 l4 l5 l6 rfl rfl rfl rfl rfl rfl rfl _ h)
/-! unpack (376), depth 1 -/
def m_unpack_b5 (F : Nat)  : Nat → RS → Int32 → Int32 → Int32 → Int32 → Option (Int32 × RS)
  | 0, _, _, _, _, _ => none
  | n + 1, σ, l1, l2, l3, l4 =>
    let KK := m_unpack_b5 F  n
    if xc2 .ge l4 l2 = true then (
      some (l3, σ)
    ) else (
      (rld σ 66 ((((14000 : Int32)) * l1) + (σ.1 146 0))).bind fun x2 =>
      (some (setI σ 146 0 ((σ.1 146 0) + ((1 : Int32))))).bind fun σ11 =>
      KK σ11 l1 l2 ((l3 <<< (((8 : Int32)) &&& 31)) ||| (x2 &&& ((255 : Int32)))) (l4 + (1 : Int32))
    )
set_option maxRecDepth 4000 in
theorem m_unpack_b5_ok {pF : Nat → List Value → xH → Option (Option Value × xH)} {d : Nat} {aR : Nat} {G : Nat → xC} {T : Nat × Nat} {F : Nat} (hp0 : xNP pF)  : ∀ (n : Nat) (lv : xL) (σ : RS) (l1 : Int32) (l2 : Int32) (l3 : Int32) (l4 : Int32), xg lv 0 = some (.ref aR) → xg lv 1 = some (.int l1) → xg lv 2 = some (.int l2) → xg lv 3 = some (.int l3) → xg lv 4 = some (.int l4) → ∀ res, m_unpack_b5 F  n σ l1 l2 l3 l4 = some res → xR pF (d + 0) kT376 16 5 false (some .int) (some (.int res.1)) (layR aR res.2 G, T) (5, lv, [], (layR aR σ G, T)) := by
  intro n
  induction n with
  | zero => intro lv σ l1 l2 l3 l4 g0 g1 g2 g3 g4 res h; simp [m_unpack_b5] at h
  | succ n hKK =>
    intro lv σ l1 l2 l3 l4 g0 g1 g2 g3 g4 res h
    unfold m_unpack_b5 at h
    dsimp only at h
    refine eE_iload lk376_5 g4 ?_
    refine eE_iload_n lk376_7 g2 ?_
    refine eE_icmp (t := 52) lk376_8 (by decide) (fun c1 => ?_) (fun c1 => ?_)
    · rw [if_pos c1] at h
      refine eE_iload_n lk376_52 g3 ?_
      cases h
      exact eE_end lk376_53 rfl rfl rfl
    · rw [if_neg c1] at h
      refine eE_iload_n lk376_11 g3 ?_
      refine eE_bipush (v := 8) lk376_12 (by decide) ?_
      refine eE_ishl lk376_14 ?_
      refine eE_aload_n lk376_15 g0 ?_
      refine eR_getA lk376_16 rf_164 rfl ?_
      refine eE_sipush (v := 14000) lk376_19 (by decide) ?_
      refine eE_iload_n lk376_22 g1 ?_
      refine eE_imul lk376_23 ?_
      refine eE_aload_n lk376_24 g0 ?_
      refine eR_get lk376_25 rf_613 rfl ?_
      refine eE_iadd lk376_28 ?_
      obtain ⟨x2, h3, h⟩ := Option.bind_eq_some_iff.mp h
      refine eR_bald lk376_29 rfl (Or.inl rfl) h3 ?_
      refine eE_sipush (v := 255) lk376_30 (by decide) ?_
      refine eE_iand lk376_33 ?_
      refine eE_ior lk376_34 ?_
      refine eE_stI (j := 3) lk376_35 (Or.inr ⟨_, rfl, rfl⟩) (by decide) (fun vq4 gq5 kq6 => ?_)
      have gq7 := kq6 1 _ (by decide) (fun _ => rfl) g1
      have gq8 := kq6 2 _ (by decide) (fun _ => rfl) g2
      have gq9 := kq6 4 _ (by decide) (fun _ => rfl) g4
      have gq10 := kq6 0 _ (by decide) (fun _ => rfl) g0
      refine eE_aload_n lk376_36 gq10 ?_
      refine eE_dup lk376_37 rfl ?_
      refine eR_get lk376_38 rf_613 rfl ?_
      refine eE_iconst (v := 1) lk376_41 (by decide) ?_
      refine eE_iadd lk376_42 ?_
      obtain ⟨σ11, h12, h⟩ := Option.bind_eq_some_iff.mp h
      refine eR_putS lk376_43 rf_613 rfl (by decide) pf_146.1 pf_146.2 h12 ?_
      refine eE_inc (j := 4) (v := l4 + (1 : Int32)) lk376_46 gq9 rfl (by decide) (fun vq13 gq14 kq15 => ?_)
      have gq16 := kq15 1 _ (by decide) (fun _ => rfl) gq7
      have gq17 := kq15 2 _ (by decide) (fun _ => rfl) gq8
      have gq18 := kq15 0 _ (by decide) (fun _ => rfl) gq10
      have gq19 := kq15 3 _ (by decide) (fun _ => rfl) gq5
      refine eE_goto (t := 5) lk376_49 (by decide) ?_
      exact hKK vq13 σ11 l1 l2 ((l3 <<< (((8 : Int32)) &&& 31)) ||| (x2 &&& ((255 : Int32)))) (l4 + (1 : Int32)) gq18 gq16 gq17 gq19 gq14 _ h
def m_unpack_b0 (F : Nat)  (σ : RS) (l1 : Int32) (l2 : Int32) : Option (Int32 × RS) :=
  m_unpack_b5 F  F σ l1 l2 ((0 : Int32)) ((0 : Int32))
set_option maxRecDepth 4000 in
theorem m_unpack_b0_ok {pF : Nat → List Value → xH → Option (Option Value × xH)} {d : Nat} {aR : Nat} {G : Nat → xC} {T : Nat × Nat} {F : Nat} (hp0 : xNP pF)  : ∀ (lv : xL) (σ : RS) (l1 : Int32) (l2 : Int32), xg lv 0 = some (.ref aR) → xg lv 1 = some (.int l1) → xg lv 2 = some (.int l2) → ∀ res, m_unpack_b0 F  σ l1 l2 = some res → xR pF (d + 0) kT376 16 5 false (some .int) (some (.int res.1)) (layR aR res.2 G, T) (0, lv, [], (layR aR σ G, T)) := by
  intro lv σ l1 l2 g0 g1 g2 res h
  unfold m_unpack_b0 at h
  refine eE_iconst (v := 0) lk376_0 (by decide) ?_
  refine eE_stI (j := 3) lk376_1 (Or.inr ⟨_, rfl, rfl⟩) (by decide) (fun vq20 gq21 kq22 => ?_)
  have gq23 := kq22 1 _ (by decide) (fun _ => rfl) g1
  have gq24 := kq22 2 _ (by decide) (fun _ => rfl) g2
  have gq25 := kq22 0 _ (by decide) (fun _ => rfl) g0
  refine eE_iconst (v := 0) lk376_2 (by decide) ?_
  refine eE_stI (j := 4) lk376_3 (Or.inl rfl) (by decide) (fun vq26 gq27 kq28 => ?_)
  have gq29 := kq28 1 _ (by decide) (fun _ => rfl) gq23
  have gq30 := kq28 2 _ (by decide) (fun _ => rfl) gq24
  have gq31 := kq28 0 _ (by decide) (fun _ => rfl) gq25
  have gq32 := kq28 3 _ (by decide) (fun _ => rfl) gq21
  exact m_unpack_b5_ok hp0  F vq26 σ l1 l2 ((0 : Int32)) ((0 : Int32)) gq31 gq29 gq30 gq32 gq27 _ h
def m_unpack (F : Nat) (σ : RS) (l1 : Int32) (l2 : Int32) : Option (Int32 × RS) := m_unpack_b0 F σ l1 l2
theorem m_unpack_ok {pF : Nat → List Value → xH → Option (Option Value × xH)} (hp0 : xNP pF) {d : Nat} {aR : Nat} {G : Nat → xC} {T : Nat × Nat} {σ : RS} {F : Nat} {l1 : Int32} {l2 : Int32} {res : Int32 × RS} (h : m_unpack F σ l1 l2 = some res) : xCo pF (d + 1) 376 [.ref aR, .int l1, .int l2] (layR aR σ G, T) (some (.int res.1)) (layR aR res.2 G, T) := by
  unfold m_unpack at h
  exact xCo_R kk_376 mo_376 ni_376 xm_376 (Nat.le_of_ble_eq_true rfl) (hp0 _ (by decide) (by decide) _ _) (m_unpack_b0_ok hp0 _ σ l1 l2 rfl rfl rfl _ h)
/-! unpackAll (377), depth 2 -/
def m_unpackAll_b151 (F : Nat) (K74 : RS → Int32 → Int32 → Option (RS)) : Nat → RS → Int32 → Int32 → Int32 → Option (RS)
  | 0, _, _, _, _ => none
  | n + 1, σ, l1, l2, l3 =>
    let KK := m_unpackAll_b151 F K74 n
    (rld σ 111 l2).bind fun x1 =>
    if xc2 .ge l3 x1 = true then (
      K74 σ l1 (l2 + (1 : Int32))
    ) else (
      (m_unpack F σ l1 ((1 : Int32))).bind fun p9 =>
      (rst p9.2 112 ((((112 : Int32)) * l2) + l3) ((p9.1.toInt8.toInt32).toInt8.toInt32)).bind fun σ11 =>
      KK σ11 l1 l2 (l3 + (1 : Int32))
    )
set_option maxRecDepth 4000 in
theorem m_unpackAll_b151_ok {pF : Nat → List Value → xH → Option (Option Value × xH)} {d : Nat} {aR : Nat} {G : Nat → xC} {T : Nat × Nat} {F : Nat} {K74 : RS → Int32 → Int32 → Option (RS)} (hp0 : xNP pF) (hK74 : ∀ (lv : xL) (σ : RS) (l1 : Int32) (l2 : Int32), xg lv 0 = some (.ref aR) → xg lv 1 = some (.int l1) → xg lv 2 = some (.int l2) → ∀ res, K74 σ l1 l2 = some res → xR pF (d + 1) kT377 16 5 false none none (layR aR res G, T) (74, lv, [], (layR aR σ G, T))) : ∀ (n : Nat) (lv : xL) (σ : RS) (l1 : Int32) (l2 : Int32) (l3 : Int32), xg lv 0 = some (.ref aR) → xg lv 1 = some (.int l1) → xg lv 2 = some (.int l2) → xg lv 3 = some (.int l3) → ∀ res, m_unpackAll_b151 F K74 n σ l1 l2 l3 = some res → xR pF (d + 1) kT377 16 5 false none none (layR aR res G, T) (151, lv, [], (layR aR σ G, T)) := by
  intro n
  induction n with
  | zero => intro lv σ l1 l2 l3 g0 g1 g2 g3 res h; simp [m_unpackAll_b151] at h
  | succ n hKK =>
    intro lv σ l1 l2 l3 g0 g1 g2 g3 res h
    unfold m_unpackAll_b151 at h
    dsimp only at h
    refine eE_iload_n lk377_151 g3 ?_
    refine eE_aload_n lk377_152 g0 ?_
    refine eR_getA lk377_153 rf_299 rfl ?_
    refine eE_iload_n lk377_156 g2 ?_
    obtain ⟨x1, h2, h⟩ := Option.bind_eq_some_iff.mp h
    refine eR_iald lk377_157 rfl rfl h2 ?_
    refine eE_icmp (t := 185) lk377_158 (by decide) (fun c3 => ?_) (fun c3 => ?_)
    · rw [if_pos c3] at h
      refine eE_inc (j := 2) (v := l2 + (1 : Int32)) lk377_185 g2 rfl (by decide) (fun vq4 gq5 kq6 => ?_)
      have gq7 := kq6 1 _ (by decide) (fun _ => rfl) g1
      have gq8 := kq6 0 _ (by decide) (fun _ => rfl) g0
      refine eE_goto (t := 74) lk377_188 (by decide) ?_
      exact hK74 vq4 σ l1 (l2 + (1 : Int32)) gq8 gq7 gq5 _ h
    · rw [if_neg c3] at h
      refine eE_aload_n lk377_161 g0 ?_
      refine eR_getA lk377_162 rf_302 rfl ?_
      refine eE_bipush (v := 112) lk377_165 (by decide) ?_
      refine eE_iload_n lk377_167 g2 ?_
      refine eE_imul lk377_168 ?_
      refine eE_iload_n lk377_169 g3 ?_
      refine eE_iadd lk377_170 ?_
      refine eE_aload_n lk377_171 g0 ?_
      refine eE_iload_n lk377_172 g1 ?_
      refine eE_iconst (v := 1) lk377_173 (by decide) ?_
      obtain ⟨p9, h10, h⟩ := Option.bind_eq_some_iff.mp h
      refine eR_call (as := [.int l1, .int ((1 : Int32))]) lk377_174 mr_619 na_376 rfl rfl (Nat.le_of_ble_eq_true rfl) wv_376 wc_376 (m_unpack_ok hp0 (d := d + 0) h10) ?_
      refine eE_i2b lk377_177 ?_
      obtain ⟨σ11, h12, h⟩ := Option.bind_eq_some_iff.mp h
      refine eR_bast lk377_178 rfl rfl rfl h12 ?_
      refine eE_inc (j := 3) (v := l3 + (1 : Int32)) lk377_179 g3 rfl (by decide) (fun vq13 gq14 kq15 => ?_)
      have gq16 := kq15 1 _ (by decide) (fun _ => rfl) g1
      have gq17 := kq15 2 _ (by decide) (fun _ => rfl) g2
      have gq18 := kq15 0 _ (by decide) (fun _ => rfl) g0
      refine eE_goto (t := 151) lk377_182 (by decide) ?_
      exact hKK vq13 σ11 l1 l2 (l3 + (1 : Int32)) gq18 gq16 gq17 gq14 _ h
def m_unpackAll_b309 (F : Nat) (K205 : RS → Int32 → Int32 → Option (RS)) : Nat → RS → Int32 → Int32 → Int32 → Int32 → Option (RS)
  | 0, _, _, _, _, _ => none
  | n + 1, σ, l1, l2, l3, l4 =>
    let KK := m_unpackAll_b309 F K205 n
    (rld σ 115 l3).bind fun x19 =>
    if xc2 .ge l4 x19 = true then (
      K205 σ l1 (l2 + (1 : Int32))
    ) else (
      (m_unpack F σ l1 ((1 : Int32))).bind fun p27 =>
      (rst p27.2 117 ((((100 : Int32)) * l3) + l4) ((p27.1.toInt8.toInt32).toInt8.toInt32)).bind fun σ29 =>
      KK σ29 l1 l2 l3 (l4 + (1 : Int32))
    )
set_option maxRecDepth 4000 in
theorem m_unpackAll_b309_ok {pF : Nat → List Value → xH → Option (Option Value × xH)} {d : Nat} {aR : Nat} {G : Nat → xC} {T : Nat × Nat} {F : Nat} {K205 : RS → Int32 → Int32 → Option (RS)} (hp0 : xNP pF) (hK205 : ∀ (lv : xL) (σ : RS) (l1 : Int32) (l2 : Int32), xg lv 0 = some (.ref aR) → xg lv 1 = some (.int l1) → xg lv 2 = some (.int l2) → ∀ res, K205 σ l1 l2 = some res → xR pF (d + 1) kT377 16 5 false none none (layR aR res G, T) (205, lv, [], (layR aR σ G, T))) : ∀ (n : Nat) (lv : xL) (σ : RS) (l1 : Int32) (l2 : Int32) (l3 : Int32) (l4 : Int32), xg lv 0 = some (.ref aR) → xg lv 1 = some (.int l1) → xg lv 2 = some (.int l2) → xg lv 3 = some (.int l3) → xg lv 4 = some (.int l4) → ∀ res, m_unpackAll_b309 F K205 n σ l1 l2 l3 l4 = some res → xR pF (d + 1) kT377 16 5 false none none (layR aR res G, T) (309, lv, [], (layR aR σ G, T)) := by
  intro n
  induction n with
  | zero => intro lv σ l1 l2 l3 l4 g0 g1 g2 g3 g4 res h; simp [m_unpackAll_b309] at h
  | succ n hKK =>
    intro lv σ l1 l2 l3 l4 g0 g1 g2 g3 g4 res h
    unfold m_unpackAll_b309 at h
    dsimp only at h
    refine eE_iload lk377_309 g4 ?_
    refine eE_aload_n lk377_311 g0 ?_
    refine eR_getA lk377_312 rf_311 rfl ?_
    refine eE_iload_n lk377_315 g3 ?_
    obtain ⟨x19, h20, h⟩ := Option.bind_eq_some_iff.mp h
    refine eR_iald lk377_316 rfl rfl h20 ?_
    refine eE_icmp (t := 345) lk377_317 (by decide) (fun c21 => ?_) (fun c21 => ?_)
    · rw [if_pos c21] at h
      refine eE_inc (j := 2) (v := l2 + (1 : Int32)) lk377_345 g2 rfl (by decide) (fun vq22 gq23 kq24 => ?_)
      have gq25 := kq24 1 _ (by decide) (fun _ => rfl) g1
      have gq26 := kq24 0 _ (by decide) (fun _ => rfl) g0
      refine eE_goto (t := 205) lk377_348 (by decide) ?_
      exact hK205 vq22 σ l1 (l2 + (1 : Int32)) gq26 gq25 gq23 _ h
    · rw [if_neg c21] at h
      refine eE_aload_n lk377_320 g0 ?_
      refine eR_getA lk377_321 rf_318 rfl ?_
      refine eE_bipush (v := 100) lk377_324 (by decide) ?_
      refine eE_iload_n lk377_326 g3 ?_
      refine eE_imul lk377_327 ?_
      refine eE_iload lk377_328 g4 ?_
      refine eE_iadd lk377_330 ?_
      refine eE_aload_n lk377_331 g0 ?_
      refine eE_iload_n lk377_332 g1 ?_
      refine eE_iconst (v := 1) lk377_333 (by decide) ?_
      obtain ⟨p27, h28, h⟩ := Option.bind_eq_some_iff.mp h
      refine eR_call (as := [.int l1, .int ((1 : Int32))]) lk377_334 mr_619 na_376 rfl rfl (Nat.le_of_ble_eq_true rfl) wv_376 wc_376 (m_unpack_ok hp0 (d := d + 0) h28) ?_
      refine eE_i2b lk377_337 ?_
      obtain ⟨σ29, h30, h⟩ := Option.bind_eq_some_iff.mp h
      refine eR_bast lk377_338 rfl rfl rfl h30 ?_
      refine eE_inc (j := 4) (v := l4 + (1 : Int32)) lk377_339 g4 rfl (by decide) (fun vq31 gq32 kq33 => ?_)
      have gq34 := kq33 1 _ (by decide) (fun _ => rfl) g1
      have gq35 := kq33 2 _ (by decide) (fun _ => rfl) g2
      have gq36 := kq33 3 _ (by decide) (fun _ => rfl) g3
      have gq37 := kq33 0 _ (by decide) (fun _ => rfl) g0
      refine eE_goto (t := 309) lk377_342 (by decide) ?_
      exact hKK vq31 σ29 l1 l2 l3 (l4 + (1 : Int32)) gq37 gq34 gq35 gq36 gq32 _ h
def m_unpackAll_b270 (F : Nat) (K205 : RS → Int32 → Int32 → Option (RS)) : Nat → RS → Int32 → Int32 → Int32 → Int32 → Option (RS)
  | 0, _, _, _, _, _ => none
  | n + 1, σ, l1, l2, l3, l4 =>
    let KK := m_unpackAll_b270 F K205 n
    (rld σ 114 l3).bind fun x38 =>
    if xc2 .ge l4 x38 = true then (
      m_unpackAll_b309 F K205 F σ l1 l2 l3 ((0 : Int32))
    ) else (
      (m_unpack F σ l1 ((1 : Int32))).bind fun p48 =>
      (rst p48.2 116 ((((32 : Int32)) * l3) + l4) ((p48.1.toInt8.toInt32).toInt8.toInt32)).bind fun σ50 =>
      KK σ50 l1 l2 l3 (l4 + (1 : Int32))
    )
set_option maxRecDepth 4000 in
theorem m_unpackAll_b270_ok {pF : Nat → List Value → xH → Option (Option Value × xH)} {d : Nat} {aR : Nat} {G : Nat → xC} {T : Nat × Nat} {F : Nat} {K205 : RS → Int32 → Int32 → Option (RS)} (hp0 : xNP pF) (hK205 : ∀ (lv : xL) (σ : RS) (l1 : Int32) (l2 : Int32), xg lv 0 = some (.ref aR) → xg lv 1 = some (.int l1) → xg lv 2 = some (.int l2) → ∀ res, K205 σ l1 l2 = some res → xR pF (d + 1) kT377 16 5 false none none (layR aR res G, T) (205, lv, [], (layR aR σ G, T))) : ∀ (n : Nat) (lv : xL) (σ : RS) (l1 : Int32) (l2 : Int32) (l3 : Int32) (l4 : Int32), xg lv 0 = some (.ref aR) → xg lv 1 = some (.int l1) → xg lv 2 = some (.int l2) → xg lv 3 = some (.int l3) → xg lv 4 = some (.int l4) → ∀ res, m_unpackAll_b270 F K205 n σ l1 l2 l3 l4 = some res → xR pF (d + 1) kT377 16 5 false none none (layR aR res G, T) (270, lv, [], (layR aR σ G, T)) := by
  intro n
  induction n with
  | zero => intro lv σ l1 l2 l3 l4 g0 g1 g2 g3 g4 res h; simp [m_unpackAll_b270] at h
  | succ n hKK =>
    intro lv σ l1 l2 l3 l4 g0 g1 g2 g3 g4 res h
    unfold m_unpackAll_b270 at h
    dsimp only at h
    refine eE_iload lk377_270 g4 ?_
    refine eE_aload_n lk377_272 g0 ?_
    refine eR_getA lk377_273 rf_308 rfl ?_
    refine eE_iload_n lk377_276 g3 ?_
    obtain ⟨x38, h39, h⟩ := Option.bind_eq_some_iff.mp h
    refine eR_iald lk377_277 rfl rfl h39 ?_
    refine eE_icmp (t := 306) lk377_278 (by decide) (fun c40 => ?_) (fun c40 => ?_)
    · rw [if_pos c40] at h
      refine eE_iconst (v := 0) lk377_306 (by decide) ?_
      refine eE_stI (j := 4) lk377_307 (Or.inl rfl) (by decide) (fun vq41 gq42 kq43 => ?_)
      have gq44 := kq43 1 _ (by decide) (fun _ => rfl) g1
      have gq45 := kq43 2 _ (by decide) (fun _ => rfl) g2
      have gq46 := kq43 3 _ (by decide) (fun _ => rfl) g3
      have gq47 := kq43 0 _ (by decide) (fun _ => rfl) g0
      exact m_unpackAll_b309_ok hp0 hK205 F vq41 σ l1 l2 l3 ((0 : Int32)) gq47 gq44 gq45 gq46 gq42 _ h
    · rw [if_neg c40] at h
      refine eE_aload_n lk377_281 g0 ?_
      refine eR_getA lk377_282 rf_314 rfl ?_
      refine eE_bipush (v := 32) lk377_285 (by decide) ?_
      refine eE_iload_n lk377_287 g3 ?_
      refine eE_imul lk377_288 ?_
      refine eE_iload lk377_289 g4 ?_
      refine eE_iadd lk377_291 ?_
      refine eE_aload_n lk377_292 g0 ?_
      refine eE_iload_n lk377_293 g1 ?_
      refine eE_iconst (v := 1) lk377_294 (by decide) ?_
      obtain ⟨p48, h49, h⟩ := Option.bind_eq_some_iff.mp h
      refine eR_call (as := [.int l1, .int ((1 : Int32))]) lk377_295 mr_619 na_376 rfl rfl (Nat.le_of_ble_eq_true rfl) wv_376 wc_376 (m_unpack_ok hp0 (d := d + 0) h49) ?_
      refine eE_i2b lk377_298 ?_
      obtain ⟨σ50, h51, h⟩ := Option.bind_eq_some_iff.mp h
      refine eR_bast lk377_299 rfl rfl rfl h51 ?_
      refine eE_inc (j := 4) (v := l4 + (1 : Int32)) lk377_300 g4 rfl (by decide) (fun vq52 gq53 kq54 => ?_)
      have gq55 := kq54 1 _ (by decide) (fun _ => rfl) g1
      have gq56 := kq54 2 _ (by decide) (fun _ => rfl) g2
      have gq57 := kq54 3 _ (by decide) (fun _ => rfl) g3
      have gq58 := kq54 0 _ (by decide) (fun _ => rfl) g0
      refine eE_goto (t := 270) lk377_303 (by decide) ?_
      exact hKK vq52 σ50 l1 l2 l3 (l4 + (1 : Int32)) gq58 gq55 gq56 gq57 gq53 _ h
def m_unpackAll_b205 (F : Nat)  : Nat → RS → Int32 → Int32 → Option (RS)
  | 0, _, _, _ => none
  | n + 1, σ, l1, l2 =>
    let KK := m_unpackAll_b205 F  n
    (rld σ 113 l1).bind fun x59 =>
    if xc2 .ge l2 x59 = true then (
      some σ
    ) else (
      (rst σ 118 ((((128 : Int32)) * l1) + l2) l2).bind fun σ68 =>
      (rst σ68 119 ((((128 : Int32)) * l1) + l2) ((((1 : Int32)) &&& 1))).bind fun σ70 =>
      (m_unpack F σ70 l1 ((1 : Int32))).bind fun p72 =>
      (rst p72.2 114 ((((128 : Int32)) * l1) + l2) p72.1).bind fun σ74 =>
      (m_unpack F σ74 l1 ((2 : Int32))).bind fun p76 =>
      (rst p76.2 115 ((((128 : Int32)) * l1) + l2) p76.1).bind fun σ78 =>
      m_unpackAll_b270 F KK F σ78 l1 l2 ((((128 : Int32)) * l1) + l2) ((0 : Int32))
    )
set_option maxRecDepth 4000 in
theorem m_unpackAll_b205_ok {pF : Nat → List Value → xH → Option (Option Value × xH)} {d : Nat} {aR : Nat} {G : Nat → xC} {T : Nat × Nat} {F : Nat} (hp0 : xNP pF)  : ∀ (n : Nat) (lv : xL) (σ : RS) (l1 : Int32) (l2 : Int32), xg lv 0 = some (.ref aR) → xg lv 1 = some (.int l1) → xg lv 2 = some (.int l2) → ∀ res, m_unpackAll_b205 F  n σ l1 l2 = some res → xR pF (d + 1) kT377 16 5 false none none (layR aR res G, T) (205, lv, [], (layR aR σ G, T)) := by
  intro n
  induction n with
  | zero => intro lv σ l1 l2 g0 g1 g2 res h; simp [m_unpackAll_b205] at h
  | succ n hKK =>
    intro lv σ l1 l2 g0 g1 g2 res h
    unfold m_unpackAll_b205 at h
    dsimp only at h
    refine eE_iload_n lk377_205 g2 ?_
    refine eE_aload_n lk377_206 g0 ?_
    refine eR_getA lk377_207 rf_305 rfl ?_
    refine eE_iload_n lk377_210 g1 ?_
    obtain ⟨x59, h60, h⟩ := Option.bind_eq_some_iff.mp h
    refine eR_iald lk377_211 rfl rfl h60 ?_
    refine eE_icmp (t := 351) lk377_212 (by decide) (fun c61 => ?_) (fun c61 => ?_)
    · rw [if_pos c61] at h
      cases h
      exact eE_end lk377_351 rfl rfl rfl
    · rw [if_neg c61] at h
      refine eE_sipush (v := 128) lk377_215 (by decide) ?_
      refine eE_iload_n lk377_218 g1 ?_
      refine eE_imul lk377_219 ?_
      refine eE_iload_n lk377_220 g2 ?_
      refine eE_iadd lk377_221 ?_
      refine eE_stI (j := 3) lk377_222 (Or.inr ⟨_, rfl, rfl⟩) (by decide) (fun vq62 gq63 kq64 => ?_)
      have gq65 := kq64 1 _ (by decide) (fun _ => rfl) g1
      have gq66 := kq64 2 _ (by decide) (fun _ => rfl) g2
      have gq67 := kq64 0 _ (by decide) (fun _ => rfl) g0
      refine eE_aload_n lk377_223 gq67 ?_
      refine eR_getA lk377_224 rf_321 rfl ?_
      refine eE_sipush (v := 128) lk377_227 (by decide) ?_
      refine eE_iload_n lk377_230 gq65 ?_
      refine eE_imul lk377_231 ?_
      refine eE_iload_n lk377_232 gq66 ?_
      refine eE_iadd lk377_233 ?_
      refine eE_iload_n lk377_234 gq66 ?_
      obtain ⟨σ68, h69, h⟩ := Option.bind_eq_some_iff.mp h
      refine eR_iast lk377_235 rfl rfl h69 ?_
      refine eE_aload_n lk377_236 gq67 ?_
      refine eR_getA lk377_237 rf_324 rfl ?_
      refine eE_iload_n lk377_240 gq63 ?_
      refine eE_iconst (v := 1) lk377_241 (by decide) ?_
      obtain ⟨σ70, h71, h⟩ := Option.bind_eq_some_iff.mp h
      refine eR_zast lk377_242 rfl rfl rfl h71 ?_
      refine eE_aload_n lk377_243 gq67 ?_
      refine eR_getA lk377_244 rf_308 rfl ?_
      refine eE_iload_n lk377_247 gq63 ?_
      refine eE_aload_n lk377_248 gq67 ?_
      refine eE_iload_n lk377_249 gq65 ?_
      refine eE_iconst (v := 1) lk377_250 (by decide) ?_
      obtain ⟨p72, h73, h⟩ := Option.bind_eq_some_iff.mp h
      refine eR_call (as := [.int l1, .int ((1 : Int32))]) lk377_251 mr_619 na_376 rfl rfl (Nat.le_of_ble_eq_true rfl) wv_376 wc_376 (m_unpack_ok hp0 (d := d + 0) h73) ?_
      obtain ⟨σ74, h75, h⟩ := Option.bind_eq_some_iff.mp h
      refine eR_iast lk377_254 rfl rfl h75 ?_
      refine eE_aload_n lk377_255 gq67 ?_
      refine eR_getA lk377_256 rf_311 rfl ?_
      refine eE_iload_n lk377_259 gq63 ?_
      refine eE_aload_n lk377_260 gq67 ?_
      refine eE_iload_n lk377_261 gq65 ?_
      refine eE_iconst (v := 2) lk377_262 (by decide) ?_
      obtain ⟨p76, h77, h⟩ := Option.bind_eq_some_iff.mp h
      refine eR_call (as := [.int l1, .int ((2 : Int32))]) lk377_263 mr_619 na_376 rfl rfl (Nat.le_of_ble_eq_true rfl) wv_376 wc_376 (m_unpack_ok hp0 (d := d + 0) h77) ?_
      obtain ⟨σ78, h79, h⟩ := Option.bind_eq_some_iff.mp h
      refine eR_iast lk377_266 rfl rfl h79 ?_
      refine eE_iconst (v := 0) lk377_267 (by decide) ?_
      refine eE_stI (j := 4) lk377_268 (Or.inl rfl) (by decide) (fun vq80 gq81 kq82 => ?_)
      have gq83 := kq82 1 _ (by decide) (fun _ => rfl) gq65
      have gq84 := kq82 2 _ (by decide) (fun _ => rfl) gq66
      have gq85 := kq82 0 _ (by decide) (fun _ => rfl) gq67
      have gq86 := kq82 3 _ (by decide) (fun _ => rfl) gq63
      exact m_unpackAll_b270_ok hp0 hKK F vq80 σ78 l1 l2 ((((128 : Int32)) * l1) + l2) ((0 : Int32)) gq85 gq83 gq84 gq86 gq81 _ h
def m_unpackAll_b74 (F : Nat)  : Nat → RS → Int32 → Int32 → Option (RS)
  | 0, _, _, _ => none
  | n + 1, σ, l1, l2 =>
    let KK := m_unpackAll_b74 F  n
    (rld σ 106 l1).bind fun x87 =>
    if xc2 .ge l2 ((((16 : Int32)) * l1) + x87) = true then (
      (m_unpack F σ l1 ((4 : Int32))).bind fun p90 =>
      (rst p90.2 113 l1 p90.1).bind fun σ92 =>
      m_unpackAll_b205 F  F σ92 l1 ((0 : Int32))
    ) else (
      (m_unpack F σ l1 ((4 : Int32))).bind fun p99 =>
      (rst p99.2 107 l2 p99.1).bind fun σ101 =>
      (m_unpack F σ101 l1 ((4 : Int32))).bind fun p103 =>
      (rst p103.2 108 l2 p103.1).bind fun σ105 =>
      (m_unpack F σ105 l1 ((4 : Int32))).bind fun p107 =>
      (rst p107.2 109 l2 p107.1).bind fun σ109 =>
      (m_unpack F σ109 l1 ((4 : Int32))).bind fun p111 =>
      (rst p111.2 110 l2 p111.1).bind fun σ113 =>
      (m_unpack F σ113 l1 ((2 : Int32))).bind fun p115 =>
      (rst p115.2 111 l2 p115.1).bind fun σ117 =>
      m_unpackAll_b151 F KK F σ117 l1 l2 ((0 : Int32))
    )
set_option maxRecDepth 4000 in
theorem m_unpackAll_b74_ok {pF : Nat → List Value → xH → Option (Option Value × xH)} {d : Nat} {aR : Nat} {G : Nat → xC} {T : Nat × Nat} {F : Nat} (hp0 : xNP pF)  : ∀ (n : Nat) (lv : xL) (σ : RS) (l1 : Int32) (l2 : Int32), xg lv 0 = some (.ref aR) → xg lv 1 = some (.int l1) → xg lv 2 = some (.int l2) → ∀ res, m_unpackAll_b74 F  n σ l1 l2 = some res → xR pF (d + 1) kT377 16 5 false none none (layR aR res G, T) (74, lv, [], (layR aR σ G, T)) := by
  intro n
  induction n with
  | zero => intro lv σ l1 l2 g0 g1 g2 res h; simp [m_unpackAll_b74] at h
  | succ n hKK =>
    intro lv σ l1 l2 g0 g1 g2 res h
    unfold m_unpackAll_b74 at h
    dsimp only at h
    refine eE_iload_n lk377_74 g2 ?_
    refine eE_bipush (v := 16) lk377_75 (by decide) ?_
    refine eE_iload_n lk377_77 g1 ?_
    refine eE_imul lk377_78 ?_
    refine eE_aload_n lk377_79 g0 ?_
    refine eR_getA lk377_80 rf_284 rfl ?_
    refine eE_iload_n lk377_83 g1 ?_
    obtain ⟨x87, h88, h⟩ := Option.bind_eq_some_iff.mp h
    refine eR_iald lk377_84 rfl rfl h88 ?_
    refine eE_iadd lk377_85 ?_
    refine eE_icmp (t := 191) lk377_86 (by decide) (fun c89 => ?_) (fun c89 => ?_)
    · rw [if_pos c89] at h
      refine eE_aload_n lk377_191 g0 ?_
      refine eR_getA lk377_192 rf_305 rfl ?_
      refine eE_iload_n lk377_195 g1 ?_
      refine eE_aload_n lk377_196 g0 ?_
      refine eE_iload_n lk377_197 g1 ?_
      refine eE_iconst (v := 4) lk377_198 (by decide) ?_
      obtain ⟨p90, h91, h⟩ := Option.bind_eq_some_iff.mp h
      refine eR_call (as := [.int l1, .int ((4 : Int32))]) lk377_199 mr_619 na_376 rfl rfl (Nat.le_of_ble_eq_true rfl) wv_376 wc_376 (m_unpack_ok hp0 (d := d + 0) h91) ?_
      obtain ⟨σ92, h93, h⟩ := Option.bind_eq_some_iff.mp h
      refine eR_iast lk377_202 rfl rfl h93 ?_
      refine eE_iconst (v := 0) lk377_203 (by decide) ?_
      refine eE_stI (j := 2) lk377_204 (Or.inr ⟨_, rfl, rfl⟩) (by decide) (fun vq94 gq95 kq96 => ?_)
      have gq97 := kq96 1 _ (by decide) (fun _ => rfl) g1
      have gq98 := kq96 0 _ (by decide) (fun _ => rfl) g0
      exact m_unpackAll_b205_ok hp0  F vq94 σ92 l1 ((0 : Int32)) gq98 gq97 gq95 _ h
    · rw [if_neg c89] at h
      refine eE_aload_n lk377_89 g0 ?_
      refine eR_getA lk377_90 rf_287 rfl ?_
      refine eE_iload_n lk377_93 g2 ?_
      refine eE_aload_n lk377_94 g0 ?_
      refine eE_iload_n lk377_95 g1 ?_
      refine eE_iconst (v := 4) lk377_96 (by decide) ?_
      obtain ⟨p99, h100, h⟩ := Option.bind_eq_some_iff.mp h
      refine eR_call (as := [.int l1, .int ((4 : Int32))]) lk377_97 mr_619 na_376 rfl rfl (Nat.le_of_ble_eq_true rfl) wv_376 wc_376 (m_unpack_ok hp0 (d := d + 0) h100) ?_
      obtain ⟨σ101, h102, h⟩ := Option.bind_eq_some_iff.mp h
      refine eR_iast lk377_100 rfl rfl h102 ?_
      refine eE_aload_n lk377_101 g0 ?_
      refine eR_getA lk377_102 rf_290 rfl ?_
      refine eE_iload_n lk377_105 g2 ?_
      refine eE_aload_n lk377_106 g0 ?_
      refine eE_iload_n lk377_107 g1 ?_
      refine eE_iconst (v := 4) lk377_108 (by decide) ?_
      obtain ⟨p103, h104, h⟩ := Option.bind_eq_some_iff.mp h
      refine eR_call (as := [.int l1, .int ((4 : Int32))]) lk377_109 mr_619 na_376 rfl rfl (Nat.le_of_ble_eq_true rfl) wv_376 wc_376 (m_unpack_ok hp0 (d := d + 0) h104) ?_
      obtain ⟨σ105, h106, h⟩ := Option.bind_eq_some_iff.mp h
      refine eR_iast lk377_112 rfl rfl h106 ?_
      refine eE_aload_n lk377_113 g0 ?_
      refine eR_getA lk377_114 rf_293 rfl ?_
      refine eE_iload_n lk377_117 g2 ?_
      refine eE_aload_n lk377_118 g0 ?_
      refine eE_iload_n lk377_119 g1 ?_
      refine eE_iconst (v := 4) lk377_120 (by decide) ?_
      obtain ⟨p107, h108, h⟩ := Option.bind_eq_some_iff.mp h
      refine eR_call (as := [.int l1, .int ((4 : Int32))]) lk377_121 mr_619 na_376 rfl rfl (Nat.le_of_ble_eq_true rfl) wv_376 wc_376 (m_unpack_ok hp0 (d := d + 0) h108) ?_
      obtain ⟨σ109, h110, h⟩ := Option.bind_eq_some_iff.mp h
      refine eR_iast lk377_124 rfl rfl h110 ?_
      refine eE_aload_n lk377_125 g0 ?_
      refine eR_getA lk377_126 rf_296 rfl ?_
      refine eE_iload_n lk377_129 g2 ?_
      refine eE_aload_n lk377_130 g0 ?_
      refine eE_iload_n lk377_131 g1 ?_
      refine eE_iconst (v := 4) lk377_132 (by decide) ?_
      obtain ⟨p111, h112, h⟩ := Option.bind_eq_some_iff.mp h
      refine eR_call (as := [.int l1, .int ((4 : Int32))]) lk377_133 mr_619 na_376 rfl rfl (Nat.le_of_ble_eq_true rfl) wv_376 wc_376 (m_unpack_ok hp0 (d := d + 0) h112) ?_
      obtain ⟨σ113, h114, h⟩ := Option.bind_eq_some_iff.mp h
      refine eR_iast lk377_136 rfl rfl h114 ?_
      refine eE_aload_n lk377_137 g0 ?_
      refine eR_getA lk377_138 rf_299 rfl ?_
      refine eE_iload_n lk377_141 g2 ?_
      refine eE_aload_n lk377_142 g0 ?_
      refine eE_iload_n lk377_143 g1 ?_
      refine eE_iconst (v := 2) lk377_144 (by decide) ?_
      obtain ⟨p115, h116, h⟩ := Option.bind_eq_some_iff.mp h
      refine eR_call (as := [.int l1, .int ((2 : Int32))]) lk377_145 mr_619 na_376 rfl rfl (Nat.le_of_ble_eq_true rfl) wv_376 wc_376 (m_unpack_ok hp0 (d := d + 0) h116) ?_
      obtain ⟨σ117, h118, h⟩ := Option.bind_eq_some_iff.mp h
      refine eR_iast lk377_148 rfl rfl h118 ?_
      refine eE_iconst (v := 0) lk377_149 (by decide) ?_
      refine eE_stI (j := 3) lk377_150 (Or.inr ⟨_, rfl, rfl⟩) (by decide) (fun vq119 gq120 kq121 => ?_)
      have gq122 := kq121 1 _ (by decide) (fun _ => rfl) g1
      have gq123 := kq121 2 _ (by decide) (fun _ => rfl) g2
      have gq124 := kq121 0 _ (by decide) (fun _ => rfl) g0
      exact m_unpackAll_b151_ok hp0 hKK F vq119 σ117 l1 l2 ((0 : Int32)) gq124 gq122 gq123 gq120 _ h
def m_unpackAll_b16 (F : Nat)  : Nat → RS → Int32 → Int32 → Option (RS)
  | 0, _, _, _ => none
  | n + 1, σ, l1, l2 =>
    let KK := m_unpackAll_b16 F  n
    if xc2 .ge l2 ((128 : Int32)) = true then (
      (rld σ 67 l1).bind fun x126 =>
      if xc0 .ne x126 = true then (
        (some (setI σ 146 0 ((0 : Int32)))).bind fun σ129 =>
        (m_unpack F σ129 l1 ((4 : Int32))).bind fun p131 =>
        (rst p131.2 106 l1 p131.1).bind fun σ133 =>
        m_unpackAll_b74 F  F σ133 l1 (((16 : Int32)) * l1)
      ) else (
        some σ
      )
    ) else (
      (rst σ 119 ((((128 : Int32)) * l1) + l2) ((((0 : Int32)) &&& 1))).bind fun σ140 =>
      KK σ140 l1 (l2 + (1 : Int32))
    )
set_option maxRecDepth 4000 in
theorem m_unpackAll_b16_ok {pF : Nat → List Value → xH → Option (Option Value × xH)} {d : Nat} {aR : Nat} {G : Nat → xC} {T : Nat × Nat} {F : Nat} (hp0 : xNP pF)  : ∀ (n : Nat) (lv : xL) (σ : RS) (l1 : Int32) (l2 : Int32), xg lv 0 = some (.ref aR) → xg lv 1 = some (.int l1) → xg lv 2 = some (.int l2) → ∀ res, m_unpackAll_b16 F  n σ l1 l2 = some res → xR pF (d + 1) kT377 16 5 false none none (layR aR res G, T) (16, lv, [], (layR aR σ G, T)) := by
  intro n
  induction n with
  | zero => intro lv σ l1 l2 g0 g1 g2 res h; simp [m_unpackAll_b16] at h
  | succ n hKK =>
    intro lv σ l1 l2 g0 g1 g2 res h
    unfold m_unpackAll_b16 at h
    dsimp only at h
    refine eE_iload_n lk377_16 g2 ?_
    refine eE_sipush (v := 128) lk377_17 (by decide) ?_
    refine eE_icmp (t := 42) lk377_20 (by decide) (fun c125 => ?_) (fun c125 => ?_)
    · rw [if_pos c125] at h
      refine eE_aload_n lk377_42 g0 ?_
      refine eR_getA lk377_43 rf_167 rfl ?_
      refine eE_iload_n lk377_46 g1 ?_
      obtain ⟨x126, h127, h⟩ := Option.bind_eq_some_iff.mp h
      refine eR_iald lk377_47 rfl rfl h127 ?_
      refine eE_if (t := 52) lk377_48 (by decide) (fun c128 => ?_) (fun c128 => ?_)
      · rw [if_pos c128] at h
        refine eE_aload_n lk377_52 g0 ?_
        refine eE_iconst (v := 0) lk377_53 (by decide) ?_
        obtain ⟨σ129, h130, h⟩ := Option.bind_eq_some_iff.mp h
        refine eR_putS lk377_54 rf_613 rfl (by decide) pf_146.1 pf_146.2 h130 ?_
        refine eE_aload_n lk377_57 g0 ?_
        refine eR_getA lk377_58 rf_284 rfl ?_
        refine eE_iload_n lk377_61 g1 ?_
        refine eE_aload_n lk377_62 g0 ?_
        refine eE_iload_n lk377_63 g1 ?_
        refine eE_iconst (v := 4) lk377_64 (by decide) ?_
        obtain ⟨p131, h132, h⟩ := Option.bind_eq_some_iff.mp h
        refine eR_call (as := [.int l1, .int ((4 : Int32))]) lk377_65 mr_619 na_376 rfl rfl (Nat.le_of_ble_eq_true rfl) wv_376 wc_376 (m_unpack_ok hp0 (d := d + 0) h132) ?_
        obtain ⟨σ133, h134, h⟩ := Option.bind_eq_some_iff.mp h
        refine eR_iast lk377_68 rfl rfl h134 ?_
        refine eE_bipush (v := 16) lk377_69 (by decide) ?_
        refine eE_iload_n lk377_71 g1 ?_
        refine eE_imul lk377_72 ?_
        refine eE_stI (j := 2) lk377_73 (Or.inr ⟨_, rfl, rfl⟩) (by decide) (fun vq135 gq136 kq137 => ?_)
        have gq138 := kq137 1 _ (by decide) (fun _ => rfl) g1
        have gq139 := kq137 0 _ (by decide) (fun _ => rfl) g0
        exact m_unpackAll_b74_ok hp0  F vq135 σ133 l1 (((16 : Int32)) * l1) gq139 gq138 gq136 _ h
      · rw [if_neg c128] at h
        cases h
        exact eE_end lk377_51 rfl rfl rfl
    · rw [if_neg c125] at h
      refine eE_aload_n lk377_23 g0 ?_
      refine eR_getA lk377_24 rf_324 rfl ?_
      refine eE_sipush (v := 128) lk377_27 (by decide) ?_
      refine eE_iload_n lk377_30 g1 ?_
      refine eE_imul lk377_31 ?_
      refine eE_iload_n lk377_32 g2 ?_
      refine eE_iadd lk377_33 ?_
      refine eE_iconst (v := 0) lk377_34 (by decide) ?_
      obtain ⟨σ140, h141, h⟩ := Option.bind_eq_some_iff.mp h
      refine eR_zast lk377_35 rfl rfl rfl h141 ?_
      refine eE_inc (j := 2) (v := l2 + (1 : Int32)) lk377_36 g2 rfl (by decide) (fun vq142 gq143 kq144 => ?_)
      have gq145 := kq144 1 _ (by decide) (fun _ => rfl) g1
      have gq146 := kq144 0 _ (by decide) (fun _ => rfl) g0
      refine eE_goto (t := 16) lk377_39 (by decide) ?_
      exact hKK vq142 σ140 l1 (l2 + (1 : Int32)) gq146 gq145 gq143 _ h
def m_unpackAll_b0 (F : Nat)  (σ : RS) (l1 : Int32) : Option (RS) :=
  (rst σ 106 l1 (((0 : Int32)))).bind fun σ147 =>
  (rst σ147 113 l1 (((0 : Int32)))).bind fun σ149 =>
  m_unpackAll_b16 F  F σ149 l1 ((0 : Int32))
set_option maxRecDepth 4000 in
theorem m_unpackAll_b0_ok {pF : Nat → List Value → xH → Option (Option Value × xH)} {d : Nat} {aR : Nat} {G : Nat → xC} {T : Nat × Nat} {F : Nat} (hp0 : xNP pF)  : ∀ (lv : xL) (σ : RS) (l1 : Int32), xg lv 0 = some (.ref aR) → xg lv 1 = some (.int l1) → ∀ res, m_unpackAll_b0 F  σ l1 = some res → xR pF (d + 1) kT377 16 5 false none none (layR aR res G, T) (0, lv, [], (layR aR σ G, T)) := by
  intro lv σ l1 g0 g1 res h
  unfold m_unpackAll_b0 at h
  refine eE_aload_n lk377_0 g0 ?_
  refine eR_getA lk377_1 rf_284 rfl ?_
  refine eE_iload_n lk377_4 g1 ?_
  refine eE_iconst (v := 0) lk377_5 (by decide) ?_
  obtain ⟨σ147, h148, h⟩ := Option.bind_eq_some_iff.mp h
  refine eR_iast lk377_6 rfl rfl h148 ?_
  refine eE_aload_n lk377_7 g0 ?_
  refine eR_getA lk377_8 rf_305 rfl ?_
  refine eE_iload_n lk377_11 g1 ?_
  refine eE_iconst (v := 0) lk377_12 (by decide) ?_
  obtain ⟨σ149, h150, h⟩ := Option.bind_eq_some_iff.mp h
  refine eR_iast lk377_13 rfl rfl h150 ?_
  refine eE_iconst (v := 0) lk377_14 (by decide) ?_
  refine eE_stI (j := 2) lk377_15 (Or.inr ⟨_, rfl, rfl⟩) (by decide) (fun vq151 gq152 kq153 => ?_)
  have gq154 := kq153 1 _ (by decide) (fun _ => rfl) g1
  have gq155 := kq153 0 _ (by decide) (fun _ => rfl) g0
  exact m_unpackAll_b16_ok hp0  F vq151 σ149 l1 ((0 : Int32)) gq155 gq154 gq152 _ h
def m_unpackAll (F : Nat) (σ : RS) (l1 : Int32) : Option (RS) := m_unpackAll_b0 F σ l1
theorem m_unpackAll_ok {pF : Nat → List Value → xH → Option (Option Value × xH)} (hp0 : xNP pF) {d : Nat} {aR : Nat} {G : Nat → xC} {T : Nat × Nat} {σ : RS} {F : Nat} {l1 : Int32} {res : RS} (h : m_unpackAll F σ l1 = some res) : xCo pF (d + 2) 377 [.ref aR, .int l1] (layR aR σ G, T) none (layR aR res G, T) := by
  unfold m_unpackAll at h
  exact xCo_R kk_377 mo_377 ni_377 xm_377 (Nat.le_of_ble_eq_true rfl) (hp0 _ (by decide) (by decide) _ _) (m_unpackAll_b0_ok hp0 _ σ l1 rfl rfl _ h)
/-! assemble (250), depth 6 -/
def m_assemble_b155 (F : Nat)  (σ : RS) (s1 : Int32) (s2 : Int32) (s3 : Int32) (s4 : Int32) (s5 : Int32) (l3 : Int32) : Option (RS) :=
  (m_tell F σ s1 s2 s3 s4 s5 l3).bind fun p1 =>
  some p1
set_option maxRecDepth 4000 in
theorem m_assemble_b155_ok {pF : Nat → List Value → xH → Option (Option Value × xH)} {d : Nat} {aR : Nat} {G : Nat → xC} {T : Nat × Nat} {F : Nat} (hp0 : xNP pF)  : ∀ (lv : xL) (σ : RS) (s1 : Int32) (s2 : Int32) (s3 : Int32) (s4 : Int32) (s5 : Int32) (l3 : Int32), xg lv 0 = some (.ref aR) → xg lv 3 = some (.int l3) → ∀ res, m_assemble_b155 F  σ s1 s2 s3 s4 s5 l3 = some res → xR pF (d + 5) kT250 16 13 false none none (layR aR res G, T) (155, lv, [.int s5, .int s4, .int s3, .int s2, .int s1, .ref aR], (layR aR σ G, T)) := by
  intro lv σ s1 s2 s3 s4 s5 l3 g0 g3 res h
  unfold m_assemble_b155 at h
  refine eE_iload_n lk250_155 g3 ?_
  obtain ⟨p1, h2, h⟩ := Option.bind_eq_some_iff.mp h
  refine eR_call (as := [.int s1, .int s2, .int s3, .int s4, .int s5, .int l3]) lk250_156 mr_746 na_369 rfl rfl (Nat.le_of_ble_eq_true rfl) wv_369 wc_369 (m_tell_ok hp0 (d := d + 0) h2) ?_
  cases h
  exact eE_end lk250_159 rfl rfl rfl
def m_assemble_b127 (F : Nat)  (σ : RS) (l1 : Int32) (l2 : Int32) (l3 : Int32) (l4 : Int32) : Option (RS) :=
  (rld σ 69 l1).bind fun x3 =>
  if xc2 .ne x3 l4 = true then (
    m_assemble_b155 F  σ l1 l2 ((8 : Int32)) l4 ((0 : Int32)) l3
  ) else (
    (rld σ 70 l1).bind fun x6 =>
    m_assemble_b155 F  σ l1 l2 ((8 : Int32)) l4 x6 l3
  )
set_option maxRecDepth 4000 in
theorem m_assemble_b127_ok {pF : Nat → List Value → xH → Option (Option Value × xH)} {d : Nat} {aR : Nat} {G : Nat → xC} {T : Nat × Nat} {F : Nat} (hp0 : xNP pF)  : ∀ (lv : xL) (σ : RS) (l1 : Int32) (l2 : Int32) (l3 : Int32) (l4 : Int32), xg lv 0 = some (.ref aR) → xg lv 1 = some (.int l1) → xg lv 2 = some (.int l2) → xg lv 3 = some (.int l3) → xg lv 4 = some (.int l4) → ∀ res, m_assemble_b127 F  σ l1 l2 l3 l4 = some res → xR pF (d + 5) kT250 16 13 false none none (layR aR res G, T) (127, lv, [], (layR aR σ G, T)) := by
  intro lv σ l1 l2 l3 l4 g0 g1 g2 g3 g4 res h
  unfold m_assemble_b127 at h
  refine eE_aload_n lk250_127 g0 ?_
  refine eE_iload_n lk250_128 g1 ?_
  refine eE_iload_n lk250_129 g2 ?_
  refine eE_bipush (v := 8) lk250_130 (by decide) ?_
  refine eE_iload lk250_132 g4 ?_
  refine eE_aload_n lk250_134 g0 ?_
  refine eR_getA lk250_135 rf_173 rfl ?_
  refine eE_iload_n lk250_138 g1 ?_
  obtain ⟨x3, h4, h⟩ := Option.bind_eq_some_iff.mp h
  refine eR_iald lk250_139 rfl rfl h4 ?_
  refine eE_iload lk250_140 g4 ?_
  refine eE_icmp (t := 154) lk250_142 (by decide) (fun c5 => ?_) (fun c5 => ?_)
  · rw [if_pos c5] at h
    refine eE_iconst (v := 0) lk250_154 (by decide) ?_
    exact m_assemble_b155_ok hp0  lv σ l1 l2 ((8 : Int32)) l4 ((0 : Int32)) l3 g0 g3 _ h
  · rw [if_neg c5] at h
    refine eE_aload_n lk250_145 g0 ?_
    refine eR_getA lk250_146 rf_176 rfl ?_
    refine eE_iload_n lk250_149 g1 ?_
    obtain ⟨x6, h7, h⟩ := Option.bind_eq_some_iff.mp h
    refine eR_iald lk250_150 rfl rfl h7 ?_
    refine eE_goto (t := 155) lk250_151 (by decide) ?_
    exact m_assemble_b155_ok hp0  lv σ l1 l2 ((8 : Int32)) l4 x6 l3 g0 g3 _ h
def m_assemble_b420 (F : Nat)  (σ : RS) (l1 : Int32) (l2 : Int32) (l3 : Int32) (l4 : Int32) (l10 : Int32) : Option (RS) :=
  (m_tell F σ l1 l2 ((8 : Int32)) l4 l10 l3).bind fun p8 =>
  some p8
set_option maxRecDepth 4000 in
theorem m_assemble_b420_ok {pF : Nat → List Value → xH → Option (Option Value × xH)} {d : Nat} {aR : Nat} {G : Nat → xC} {T : Nat × Nat} {F : Nat} (hp0 : xNP pF)  : ∀ (lv : xL) (σ : RS) (l1 : Int32) (l2 : Int32) (l3 : Int32) (l4 : Int32) (l10 : Int32), xg lv 0 = some (.ref aR) → xg lv 1 = some (.int l1) → xg lv 2 = some (.int l2) → xg lv 3 = some (.int l3) → xg lv 4 = some (.int l4) → xg lv 10 = some (.int l10) → ∀ res, m_assemble_b420 F  σ l1 l2 l3 l4 l10 = some res → xR pF (d + 5) kT250 16 13 false none none (layR aR res G, T) (420, lv, [], (layR aR σ G, T)) := by
  intro lv σ l1 l2 l3 l4 l10 g0 g1 g2 g3 g4 g10 res h
  unfold m_assemble_b420 at h
  refine eE_aload_n lk250_420 g0 ?_
  refine eE_iload_n lk250_421 g1 ?_
  refine eE_iload_n lk250_422 g2 ?_
  refine eE_bipush (v := 8) lk250_423 (by decide) ?_
  refine eE_iload lk250_425 g4 ?_
  refine eE_iload lk250_427 g10 ?_
  refine eE_iload_n lk250_429 g3 ?_
  obtain ⟨p8, h9, h⟩ := Option.bind_eq_some_iff.mp h
  refine eR_call (as := [.int l1, .int l2, .int ((8 : Int32)), .int l4, .int l10, .int l3]) lk250_430 mr_746 na_369 rfl rfl (Nat.le_of_ble_eq_true rfl) wv_369 wc_369 (m_tell_ok hp0 (d := d + 0) h9) ?_
  cases h
  exact eE_end lk250_433 rfl rfl rfl
def m_assemble_b372 (F : Nat)  (σ : RS) (l1 : Int32) (l2 : Int32) (l3 : Int32) (l4 : Int32) (l10 : Int32) : Option (RS) :=
  (rst σ 75 l1 l4).bind fun σ10 =>
  (rst σ10 76 l1 l4).bind fun σ12 =>
  (m_unpackAll F σ12 l1).bind fun p14 =>
  (m_writeShot F p14 l1).bind fun p16 =>
  (m_trim F p16 l1).bind fun p18 =>
  (m_findCode F p18 l1).bind fun p20 =>
  (m_soil p20 l1).bind fun p22 =>
  (rst p22 69 l1 (((-1 : Int32)))).bind fun σ24 =>
  m_assemble_b420 F  σ24 l1 l2 l3 l4 l10
set_option maxRecDepth 4000 in
theorem m_assemble_b372_ok {pF : Nat → List Value → xH → Option (Option Value × xH)} {d : Nat} {aR : Nat} {G : Nat → xC} {T : Nat × Nat} {F : Nat} (hp0 : xNP pF)  : ∀ (lv : xL) (σ : RS) (l1 : Int32) (l2 : Int32) (l3 : Int32) (l4 : Int32) (l10 : Int32), xg lv 0 = some (.ref aR) → xg lv 1 = some (.int l1) → xg lv 2 = some (.int l2) → xg lv 3 = some (.int l3) → xg lv 4 = some (.int l4) → xg lv 10 = some (.int l10) → ∀ res, m_assemble_b372 F  σ l1 l2 l3 l4 l10 = some res → xR pF (d + 5) kT250 16 13 false none none (layR aR res G, T) (372, lv, [], (layR aR σ G, T)) := by
  intro lv σ l1 l2 l3 l4 l10 g0 g1 g2 g3 g4 g10 res h
  unfold m_assemble_b372 at h
  refine eE_aload_n lk250_372 g0 ?_
  refine eR_getA lk250_373 rf_191 rfl ?_
  refine eE_iload_n lk250_376 g1 ?_
  refine eE_iload lk250_377 g4 ?_
  obtain ⟨σ10, h11, h⟩ := Option.bind_eq_some_iff.mp h
  refine eR_iast lk250_379 rfl rfl h11 ?_
  refine eE_aload_n lk250_380 g0 ?_
  refine eR_getA lk250_381 rf_194 rfl ?_
  refine eE_iload_n lk250_384 g1 ?_
  refine eE_iload lk250_385 g4 ?_
  obtain ⟨σ12, h13, h⟩ := Option.bind_eq_some_iff.mp h
  refine eR_iast lk250_387 rfl rfl h13 ?_
  refine eE_aload_n lk250_388 g0 ?_
  refine eE_iload_n lk250_389 g1 ?_
  obtain ⟨p14, h15, h⟩ := Option.bind_eq_some_iff.mp h
  refine eR_call (as := [.int l1]) lk250_390 mr_762 na_377 rfl rfl (Nat.le_of_ble_eq_true rfl) wv_377 wc_377 (m_unpackAll_ok hp0 (d := d + 3) h15) ?_
  refine eE_aload_n lk250_393 g0 ?_
  refine eE_iload_n lk250_394 g1 ?_
  obtain ⟨p16, h17, h⟩ := Option.bind_eq_some_iff.mp h
  refine eR_call (as := [.int l1]) lk250_395 mr_718 na_383 rfl rfl (Nat.le_of_ble_eq_true rfl) wv_383 wc_383 (m_writeShot_ok hp0 (d := d + 2) h17) ?_
  refine eE_aload_n lk250_398 g0 ?_
  refine eE_iload_n lk250_399 g1 ?_
  obtain ⟨p18, h19, h⟩ := Option.bind_eq_some_iff.mp h
  refine eR_call (as := [.int l1]) lk250_400 mr_721 na_374 rfl rfl (Nat.le_of_ble_eq_true rfl) wv_374 wc_374 (m_trim_ok hp0 (d := d + 2) h19) ?_
  refine eE_aload_n lk250_403 g0 ?_
  refine eE_iload_n lk250_404 g1 ?_
  obtain ⟨p20, h21, h⟩ := Option.bind_eq_some_iff.mp h
  refine eR_call (as := [.int l1]) lk250_405 mr_533 na_282 rfl rfl (Nat.le_of_ble_eq_true rfl) wv_282 wc_282 (m_findCode_ok hp0 (d := d + 2) h21) ?_
  refine eE_aload_n lk250_408 g0 ?_
  refine eE_iload_n lk250_409 g1 ?_
  obtain ⟨p22, h23, h⟩ := Option.bind_eq_some_iff.mp h
  refine eR_call (as := [.int l1]) lk250_410 mr_505 na_360 rfl rfl (Nat.le_of_ble_eq_true rfl) wv_360 wc_360 (m_soil_ok hp0 (d := d + 4) h23) ?_
  refine eE_aload_n lk250_413 g0 ?_
  refine eR_getA lk250_414 rf_173 rfl ?_
  refine eE_iload_n lk250_417 g1 ?_
  refine eE_iconst (v := (-1)) lk250_418 (by decide) ?_
  obtain ⟨σ24, h25, h⟩ := Option.bind_eq_some_iff.mp h
  refine eR_iast lk250_419 rfl rfl h25 ?_
  exact m_assemble_b420_ok hp0  lv σ24 l1 l2 l3 l4 l10 g0 g1 g2 g3 g4 g10 _ h
def m_assemble_b345 (F : Nat)  (σ : RS) (l1 : Int32) (l2 : Int32) (l3 : Int32) (l4 : Int32) (l10 : Int32) : Option (RS) :=
  (rld σ 77 l1).bind fun x26 =>
  (rld σ 56 l1).bind fun x28 =>
  if xc2 .le x26 x28 = true then (
    m_assemble_b372 F  σ l1 l2 l3 l4 l10
  ) else (
    (rld σ 56 l1).bind fun x31 =>
    (rst σ 77 l1 x31).bind fun σ33 =>
    m_assemble_b372 F  σ33 l1 l2 l3 l4 l10
  )
set_option maxRecDepth 4000 in
theorem m_assemble_b345_ok {pF : Nat → List Value → xH → Option (Option Value × xH)} {d : Nat} {aR : Nat} {G : Nat → xC} {T : Nat × Nat} {F : Nat} (hp0 : xNP pF)  : ∀ (lv : xL) (σ : RS) (l1 : Int32) (l2 : Int32) (l3 : Int32) (l4 : Int32) (l10 : Int32), xg lv 0 = some (.ref aR) → xg lv 1 = some (.int l1) → xg lv 2 = some (.int l2) → xg lv 3 = some (.int l3) → xg lv 4 = some (.int l4) → xg lv 10 = some (.int l10) → ∀ res, m_assemble_b345 F  σ l1 l2 l3 l4 l10 = some res → xR pF (d + 5) kT250 16 13 false none none (layR aR res G, T) (345, lv, [], (layR aR σ G, T)) := by
  intro lv σ l1 l2 l3 l4 l10 g0 g1 g2 g3 g4 g10 res h
  unfold m_assemble_b345 at h
  refine eE_aload_n lk250_345 g0 ?_
  refine eR_getA lk250_346 rf_197 rfl ?_
  refine eE_iload_n lk250_349 g1 ?_
  obtain ⟨x26, h27, h⟩ := Option.bind_eq_some_iff.mp h
  refine eR_iald lk250_350 rfl rfl h27 ?_
  refine eE_aload_n lk250_351 g0 ?_
  refine eR_getA lk250_352 rf_132 rfl ?_
  refine eE_iload_n lk250_355 g1 ?_
  obtain ⟨x28, h29, h⟩ := Option.bind_eq_some_iff.mp h
  refine eR_iald lk250_356 rfl rfl h29 ?_
  refine eE_icmp (t := 372) lk250_357 (by decide) (fun c30 => ?_) (fun c30 => ?_)
  · rw [if_pos c30] at h
    exact m_assemble_b372_ok hp0  lv σ l1 l2 l3 l4 l10 g0 g1 g2 g3 g4 g10 _ h
  · rw [if_neg c30] at h
    refine eE_aload_n lk250_360 g0 ?_
    refine eR_getA lk250_361 rf_197 rfl ?_
    refine eE_iload_n lk250_364 g1 ?_
    refine eE_aload_n lk250_365 g0 ?_
    refine eR_getA lk250_366 rf_132 rfl ?_
    refine eE_iload_n lk250_369 g1 ?_
    obtain ⟨x31, h32, h⟩ := Option.bind_eq_some_iff.mp h
    refine eR_iald lk250_370 rfl rfl h32 ?_
    obtain ⟨σ33, h34, h⟩ := Option.bind_eq_some_iff.mp h
    refine eR_iast lk250_371 rfl rfl h34 ?_
    exact m_assemble_b372_ok hp0  lv σ33 l1 l2 l3 l4 l10 g0 g1 g2 g3 g4 g10 _ h
def m_assemble_b261 (F : Nat)  : Nat → RS → Int32 → Int32 → Int32 → Int32 → Int32 → Int32 → Int32 → Int32 → Int32 → Int32 → Option (RS)
  | 0, _, _, _, _, _, _, _, _, _, _, _ => none
  | n + 1, σ, l1, l2, l3, l4, l5, l6, l7, l10, l11, l12 =>
    let KK := m_assemble_b261 F  n
    if xc2 .ge l12 l7 = true then (
      (rst σ 67 l1 l7).bind fun σ36 =>
      (rst σ36 55 l1 l4).bind fun σ38 =>
      (rst σ38 57 l1 l5).bind fun σ40 =>
      (rst σ40 58 l1 l6).bind fun σ42 =>
      if xc0 .ne l11 = true then (
        m_assemble_b345 F  σ42 l1 l2 l3 l4 l10
      ) else (
        (rst σ42 56 l1 l4).bind fun σ45 =>
        m_assemble_b345 F  σ45 l1 l2 l3 l4 l10
      )
    ) else (
      (rld σ 68 ((((14000 : Int32)) * l1) + l12)).bind fun x47 =>
      (rst σ 66 ((((14000 : Int32)) * l1) + l12) (x47.toInt8.toInt32)).bind fun σ49 =>
      KK σ49 l1 l2 l3 l4 l5 l6 l7 l10 l11 (l12 + (1 : Int32))
    )
set_option maxRecDepth 4000 in
theorem m_assemble_b261_ok {pF : Nat → List Value → xH → Option (Option Value × xH)} {d : Nat} {aR : Nat} {G : Nat → xC} {T : Nat × Nat} {F : Nat} (hp0 : xNP pF)  : ∀ (n : Nat) (lv : xL) (σ : RS) (l1 : Int32) (l2 : Int32) (l3 : Int32) (l4 : Int32) (l5 : Int32) (l6 : Int32) (l7 : Int32) (l10 : Int32) (l11 : Int32) (l12 : Int32), xg lv 0 = some (.ref aR) → xg lv 1 = some (.int l1) → xg lv 2 = some (.int l2) → xg lv 3 = some (.int l3) → xg lv 4 = some (.int l4) → xg lv 5 = some (.int l5) → xg lv 6 = some (.int l6) → xg lv 7 = some (.int l7) → xg lv 10 = some (.int l10) → xg lv 11 = some (.int l11) → xg lv 12 = some (.int l12) → ∀ res, m_assemble_b261 F  n σ l1 l2 l3 l4 l5 l6 l7 l10 l11 l12 = some res → xR pF (d + 5) kT250 16 13 false none none (layR aR res G, T) (261, lv, [], (layR aR σ G, T)) := by
  intro n
  induction n with
  | zero => intro lv σ l1 l2 l3 l4 l5 l6 l7 l10 l11 l12 g0 g1 g2 g3 g4 g5 g6 g7 g10 g11 g12 res h; simp [m_assemble_b261] at h
  | succ n hKK =>
    intro lv σ l1 l2 l3 l4 l5 l6 l7 l10 l11 l12 g0 g1 g2 g3 g4 g5 g6 g7 g10 g11 g12 res h
    unfold m_assemble_b261 at h
    dsimp only at h
    refine eE_iload lk250_261 g12 ?_
    refine eE_iload lk250_263 g7 ?_
    refine eE_icmp (t := 300) lk250_265 (by decide) (fun c35 => ?_) (fun c35 => ?_)
    · rw [if_pos c35] at h
      refine eE_aload_n lk250_300 g0 ?_
      refine eR_getA lk250_301 rf_167 rfl ?_
      refine eE_iload_n lk250_304 g1 ?_
      refine eE_iload lk250_305 g7 ?_
      obtain ⟨σ36, h37, h⟩ := Option.bind_eq_some_iff.mp h
      refine eR_iast lk250_307 rfl rfl h37 ?_
      refine eE_aload_n lk250_308 g0 ?_
      refine eR_getA lk250_309 rf_129 rfl ?_
      refine eE_iload_n lk250_312 g1 ?_
      refine eE_iload lk250_313 g4 ?_
      obtain ⟨σ38, h39, h⟩ := Option.bind_eq_some_iff.mp h
      refine eR_iast lk250_315 rfl rfl h39 ?_
      refine eE_aload_n lk250_316 g0 ?_
      refine eR_getA lk250_317 rf_135 rfl ?_
      refine eE_iload_n lk250_320 g1 ?_
      refine eE_iload lk250_321 g5 ?_
      obtain ⟨σ40, h41, h⟩ := Option.bind_eq_some_iff.mp h
      refine eR_iast lk250_323 rfl rfl h41 ?_
      refine eE_aload_n lk250_324 g0 ?_
      refine eR_getA lk250_325 rf_138 rfl ?_
      refine eE_iload_n lk250_328 g1 ?_
      refine eE_iload lk250_329 g6 ?_
      obtain ⟨σ42, h43, h⟩ := Option.bind_eq_some_iff.mp h
      refine eR_iast lk250_331 rfl rfl h43 ?_
      refine eE_iload lk250_332 g11 ?_
      refine eE_if (t := 345) lk250_334 (by decide) (fun c44 => ?_) (fun c44 => ?_)
      · rw [if_pos c44] at h
        exact m_assemble_b345_ok hp0  lv σ42 l1 l2 l3 l4 l10 g0 g1 g2 g3 g4 g10 _ h
      · rw [if_neg c44] at h
        refine eE_aload_n lk250_337 g0 ?_
        refine eR_getA lk250_338 rf_132 rfl ?_
        refine eE_iload_n lk250_341 g1 ?_
        refine eE_iload lk250_342 g4 ?_
        obtain ⟨σ45, h46, h⟩ := Option.bind_eq_some_iff.mp h
        refine eR_iast lk250_344 rfl rfl h46 ?_
        exact m_assemble_b345_ok hp0  lv σ45 l1 l2 l3 l4 l10 g0 g1 g2 g3 g4 g10 _ h
    · rw [if_neg c35] at h
      refine eE_aload_n lk250_268 g0 ?_
      refine eR_getA lk250_269 rf_164 rfl ?_
      refine eE_sipush (v := 14000) lk250_272 (by decide) ?_
      refine eE_iload_n lk250_275 g1 ?_
      refine eE_imul lk250_276 ?_
      refine eE_iload lk250_277 g12 ?_
      refine eE_iadd lk250_279 ?_
      refine eE_aload_n lk250_280 g0 ?_
      refine eR_getA lk250_281 rf_170 rfl ?_
      refine eE_sipush (v := 14000) lk250_284 (by decide) ?_
      refine eE_iload_n lk250_287 g1 ?_
      refine eE_imul lk250_288 ?_
      refine eE_iload lk250_289 g12 ?_
      refine eE_iadd lk250_291 ?_
      obtain ⟨x47, h48, h⟩ := Option.bind_eq_some_iff.mp h
      refine eR_bald lk250_292 rfl (Or.inl rfl) h48 ?_
      obtain ⟨σ49, h50, h⟩ := Option.bind_eq_some_iff.mp h
      refine eR_bast lk250_293 rfl rfl rfl h50 ?_
      refine eE_inc (j := 12) (v := l12 + (1 : Int32)) lk250_294 g12 rfl (by decide) (fun vq51 gq52 kq53 => ?_)
      have gq54 := kq53 1 _ (by decide) (fun _ => rfl) g1
      have gq55 := kq53 2 _ (by decide) (fun _ => rfl) g2
      have gq56 := kq53 3 _ (by decide) (fun _ => rfl) g3
      have gq57 := kq53 4 _ (by decide) (fun _ => rfl) g4
      have gq58 := kq53 5 _ (by decide) (fun _ => rfl) g5
      have gq59 := kq53 6 _ (by decide) (fun _ => rfl) g6
      have gq60 := kq53 7 _ (by decide) (fun _ => rfl) g7
      have gq61 := kq53 10 _ (by decide) (fun _ => rfl) g10
      have gq62 := kq53 11 _ (by decide) (fun _ => rfl) g11
      have gq63 := kq53 0 _ (by decide) (fun _ => rfl) g0
      refine eE_goto (t := 261) lk250_297 (by decide) ?_
      exact hKK vq51 σ49 l1 l2 l3 l4 l5 l6 l7 l10 l11 (l12 + (1 : Int32)) gq63 gq54 gq55 gq56 gq57 gq58 gq59 gq60 gq61 gq62 gq52 _ h
def m_assemble_b256 (F : Nat)  (σ : RS) (s0 : Int32) (l1 : Int32) (l2 : Int32) (l3 : Int32) (l4 : Int32) (l5 : Int32) (l6 : Int32) (l7 : Int32) (l10 : Int32) : Option (RS) :=
  m_assemble_b261 F  F σ l1 l2 l3 l4 l5 l6 l7 l10 s0 ((0 : Int32))
set_option maxRecDepth 4000 in
theorem m_assemble_b256_ok {pF : Nat → List Value → xH → Option (Option Value × xH)} {d : Nat} {aR : Nat} {G : Nat → xC} {T : Nat × Nat} {F : Nat} (hp0 : xNP pF)  : ∀ (lv : xL) (σ : RS) (s0 : Int32) (l1 : Int32) (l2 : Int32) (l3 : Int32) (l4 : Int32) (l5 : Int32) (l6 : Int32) (l7 : Int32) (l10 : Int32), xg lv 0 = some (.ref aR) → xg lv 1 = some (.int l1) → xg lv 2 = some (.int l2) → xg lv 3 = some (.int l3) → xg lv 4 = some (.int l4) → xg lv 5 = some (.int l5) → xg lv 6 = some (.int l6) → xg lv 7 = some (.int l7) → xg lv 10 = some (.int l10) → ∀ res, m_assemble_b256 F  σ s0 l1 l2 l3 l4 l5 l6 l7 l10 = some res → xR pF (d + 5) kT250 16 13 false none none (layR aR res G, T) (256, lv, [.int s0], (layR aR σ G, T)) := by
  intro lv σ s0 l1 l2 l3 l4 l5 l6 l7 l10 g0 g1 g2 g3 g4 g5 g6 g7 g10 res h
  unfold m_assemble_b256 at h
  refine eE_stI (j := 11) lk250_256 (Or.inl rfl) (by decide) (fun vq64 gq65 kq66 => ?_)
  have gq67 := kq66 1 _ (by decide) (fun _ => rfl) g1
  have gq68 := kq66 2 _ (by decide) (fun _ => rfl) g2
  have gq69 := kq66 3 _ (by decide) (fun _ => rfl) g3
  have gq70 := kq66 4 _ (by decide) (fun _ => rfl) g4
  have gq71 := kq66 5 _ (by decide) (fun _ => rfl) g5
  have gq72 := kq66 6 _ (by decide) (fun _ => rfl) g6
  have gq73 := kq66 7 _ (by decide) (fun _ => rfl) g7
  have gq74 := kq66 10 _ (by decide) (fun _ => rfl) g10
  have gq75 := kq66 0 _ (by decide) (fun _ => rfl) g0
  refine eE_iconst (v := 0) lk250_258 (by decide) ?_
  refine eE_stI (j := 12) lk250_259 (Or.inl rfl) (by decide) (fun vq76 gq77 kq78 => ?_)
  have gq79 := kq78 1 _ (by decide) (fun _ => rfl) gq67
  have gq80 := kq78 2 _ (by decide) (fun _ => rfl) gq68
  have gq81 := kq78 3 _ (by decide) (fun _ => rfl) gq69
  have gq82 := kq78 4 _ (by decide) (fun _ => rfl) gq70
  have gq83 := kq78 5 _ (by decide) (fun _ => rfl) gq71
  have gq84 := kq78 6 _ (by decide) (fun _ => rfl) gq72
  have gq85 := kq78 7 _ (by decide) (fun _ => rfl) gq73
  have gq86 := kq78 10 _ (by decide) (fun _ => rfl) gq74
  have gq87 := kq78 0 _ (by decide) (fun _ => rfl) gq75
  have gq88 := kq78 11 _ (by decide) (fun _ => rfl) gq65
  exact m_assemble_b261_ok hp0  F vq76 σ l1 l2 l3 l4 l5 l6 l7 l10 s0 ((0 : Int32)) gq87 gq79 gq80 gq81 gq82 gq83 gq84 gq85 gq86 gq88 gq77 _ h
def m_assemble_b255 (F : Nat)  (σ : RS) (l1 : Int32) (l2 : Int32) (l3 : Int32) (l4 : Int32) (l5 : Int32) (l6 : Int32) (l7 : Int32) (l10 : Int32) : Option (RS) :=
  m_assemble_b256 F  σ ((0 : Int32)) l1 l2 l3 l4 l5 l6 l7 l10
set_option maxRecDepth 4000 in
theorem m_assemble_b255_ok {pF : Nat → List Value → xH → Option (Option Value × xH)} {d : Nat} {aR : Nat} {G : Nat → xC} {T : Nat × Nat} {F : Nat} (hp0 : xNP pF)  : ∀ (lv : xL) (σ : RS) (l1 : Int32) (l2 : Int32) (l3 : Int32) (l4 : Int32) (l5 : Int32) (l6 : Int32) (l7 : Int32) (l10 : Int32), xg lv 0 = some (.ref aR) → xg lv 1 = some (.int l1) → xg lv 2 = some (.int l2) → xg lv 3 = some (.int l3) → xg lv 4 = some (.int l4) → xg lv 5 = some (.int l5) → xg lv 6 = some (.int l6) → xg lv 7 = some (.int l7) → xg lv 10 = some (.int l10) → ∀ res, m_assemble_b255 F  σ l1 l2 l3 l4 l5 l6 l7 l10 = some res → xR pF (d + 5) kT250 16 13 false none none (layR aR res G, T) (255, lv, [], (layR aR σ G, T)) := by
  intro lv σ l1 l2 l3 l4 l5 l6 l7 l10 g0 g1 g2 g3 g4 g5 g6 g7 g10 res h
  unfold m_assemble_b255 at h
  refine eE_iconst (v := 0) lk250_255 (by decide) ?_
  exact m_assemble_b256_ok hp0  lv σ ((0 : Int32)) l1 l2 l3 l4 l5 l6 l7 l10 g0 g1 g2 g3 g4 g5 g6 g7 g10 _ h
def m_assemble_b163 (F : Nat)  : Nat → RS → Int32 → Int32 → Int32 → Int32 → Int32 → Int32 → Int32 → Int32 → Int32 → Int32 → Option (RS)
  | 0, _, _, _, _, _, _, _, _, _, _, _ => none
  | n + 1, σ, l1, l2, l3, l4, l5, l6, l7, l8, l9, l10 =>
    let KK := m_assemble_b163 F  n
    if xc2 .ge l10 l9 = true then (
      (rld σ 70 l1).bind fun x90 =>
      (rst σ 70 l1 ((x90 + l9))).bind fun σ92 =>
      (rld σ92 70 l1).bind fun x94 =>
      if xc2 .lt x94 l7 = true then (
        m_assemble_b420 F  σ92 l1 l2 l3 l4 x94
      ) else (
        (rld σ92 56 l1).bind fun x108 =>
        if xc2 .gt l4 x108 = true then (
          m_assemble_b255 F  σ92 l1 l2 l3 l4 l5 l6 l7 x94
        ) else (
          (m_termAt σ92 l1 l4).bind fun p111 =>
          if xc2 .ne p111.1 l5 = true then (
            m_assemble_b255 F  p111.2 l1 l2 l3 l4 l5 l6 l7 x94
          ) else (
            m_assemble_b256 F  p111.2 ((1 : Int32)) l1 l2 l3 l4 l5 l6 l7 x94
          )
        )
      )
    ) else (
      (m_inLetter σ (((542208 : Int32)) + l10)).bind fun p114 =>
      (rst p114.2 68 (((((14000 : Int32)) * l1) + l8) + l10) (p114.1.toInt8.toInt32)).bind fun σ116 =>
      KK σ116 l1 l2 l3 l4 l5 l6 l7 l8 l9 (l10 + (1 : Int32))
    )
set_option maxRecDepth 4000 in
theorem m_assemble_b163_ok {pF : Nat → List Value → xH → Option (Option Value × xH)} {d : Nat} {aR : Nat} {G : Nat → xC} {T : Nat × Nat} {F : Nat} (hp0 : xNP pF)  : ∀ (n : Nat) (lv : xL) (σ : RS) (l1 : Int32) (l2 : Int32) (l3 : Int32) (l4 : Int32) (l5 : Int32) (l6 : Int32) (l7 : Int32) (l8 : Int32) (l9 : Int32) (l10 : Int32), xg lv 0 = some (.ref aR) → xg lv 1 = some (.int l1) → xg lv 2 = some (.int l2) → xg lv 3 = some (.int l3) → xg lv 4 = some (.int l4) → xg lv 5 = some (.int l5) → xg lv 6 = some (.int l6) → xg lv 7 = some (.int l7) → xg lv 8 = some (.int l8) → xg lv 9 = some (.int l9) → xg lv 10 = some (.int l10) → ∀ res, m_assemble_b163 F  n σ l1 l2 l3 l4 l5 l6 l7 l8 l9 l10 = some res → xR pF (d + 5) kT250 16 13 false none none (layR aR res G, T) (163, lv, [], (layR aR σ G, T)) := by
  intro n
  induction n with
  | zero => intro lv σ l1 l2 l3 l4 l5 l6 l7 l8 l9 l10 g0 g1 g2 g3 g4 g5 g6 g7 g8 g9 g10 res h; simp [m_assemble_b163] at h
  | succ n hKK =>
    intro lv σ l1 l2 l3 l4 l5 l6 l7 l8 l9 l10 g0 g1 g2 g3 g4 g5 g6 g7 g8 g9 g10 res h
    unfold m_assemble_b163 at h
    dsimp only at h
    refine eE_iload lk250_163 g10 ?_
    refine eE_iload lk250_165 g9 ?_
    refine eE_icmp (t := 202) lk250_167 (by decide) (fun c89 => ?_) (fun c89 => ?_)
    · rw [if_pos c89] at h
      refine eE_aload_n lk250_202 g0 ?_
      refine eR_getA lk250_203 rf_176 rfl ?_
      refine eE_iload_n lk250_206 g1 ?_
      refine eE_dup2 lk250_207 rfl rfl ?_
      obtain ⟨x90, h91, h⟩ := Option.bind_eq_some_iff.mp h
      refine eR_iald lk250_208 rfl rfl h91 ?_
      refine eE_iload lk250_209 g9 ?_
      refine eE_iadd lk250_211 ?_
      obtain ⟨σ92, h93, h⟩ := Option.bind_eq_some_iff.mp h
      refine eR_iast lk250_212 rfl rfl h93 ?_
      refine eE_aload_n lk250_213 g0 ?_
      refine eR_getA lk250_214 rf_176 rfl ?_
      refine eE_iload_n lk250_217 g1 ?_
      obtain ⟨x94, h95, h⟩ := Option.bind_eq_some_iff.mp h
      refine eR_iald lk250_218 rfl rfl h95 ?_
      refine eE_stI (j := 10) lk250_219 (Or.inl rfl) (by decide) (fun vq96 gq97 kq98 => ?_)
      have gq99 := kq98 1 _ (by decide) (fun _ => rfl) g1
      have gq100 := kq98 2 _ (by decide) (fun _ => rfl) g2
      have gq101 := kq98 3 _ (by decide) (fun _ => rfl) g3
      have gq102 := kq98 4 _ (by decide) (fun _ => rfl) g4
      have gq103 := kq98 5 _ (by decide) (fun _ => rfl) g5
      have gq104 := kq98 6 _ (by decide) (fun _ => rfl) g6
      have gq105 := kq98 7 _ (by decide) (fun _ => rfl) g7
      have gq106 := kq98 0 _ (by decide) (fun _ => rfl) g0
      refine eE_iload lk250_221 gq97 ?_
      refine eE_iload lk250_223 gq105 ?_
      refine eE_icmp (t := 420) lk250_225 (by decide) (fun c107 => ?_) (fun c107 => ?_)
      · rw [if_pos c107] at h
        exact m_assemble_b420_ok hp0  vq96 σ92 l1 l2 l3 l4 x94 gq106 gq99 gq100 gq101 gq102 gq97 _ h
      · rw [if_neg c107] at h
        refine eE_iload lk250_228 gq102 ?_
        refine eE_aload_n lk250_230 gq106 ?_
        refine eR_getA lk250_231 rf_132 rfl ?_
        refine eE_iload_n lk250_234 gq99 ?_
        obtain ⟨x108, h109, h⟩ := Option.bind_eq_some_iff.mp h
        refine eR_iald lk250_235 rfl rfl h109 ?_
        refine eE_icmp (t := 255) lk250_236 (by decide) (fun c110 => ?_) (fun c110 => ?_)
        · rw [if_pos c110] at h
          exact m_assemble_b255_ok hp0  vq96 σ92 l1 l2 l3 l4 l5 l6 l7 x94 gq106 gq99 gq100 gq101 gq102 gq103 gq104 gq105 gq97 _ h
        · rw [if_neg c110] at h
          refine eE_aload_n lk250_239 gq106 ?_
          refine eE_iload_n lk250_240 gq99 ?_
          refine eE_iload lk250_241 gq102 ?_
          obtain ⟨p111, h112, h⟩ := Option.bind_eq_some_iff.mp h
          refine eR_call (as := [.int l1, .int l4]) lk250_243 mr_524 na_372 rfl rfl (Nat.le_of_ble_eq_true rfl) wv_372 wc_372 (m_termAt_ok hp0 (d := d + 3) h112) ?_
          refine eE_iload lk250_246 gq103 ?_
          refine eE_icmp (t := 255) lk250_248 (by decide) (fun c113 => ?_) (fun c113 => ?_)
          · rw [if_pos c113] at h
            exact m_assemble_b255_ok hp0  vq96 p111.2 l1 l2 l3 l4 l5 l6 l7 x94 gq106 gq99 gq100 gq101 gq102 gq103 gq104 gq105 gq97 _ h
          · rw [if_neg c113] at h
            refine eE_iconst (v := 1) lk250_251 (by decide) ?_
            refine eE_goto (t := 256) lk250_252 (by decide) ?_
            exact m_assemble_b256_ok hp0  vq96 p111.2 ((1 : Int32)) l1 l2 l3 l4 l5 l6 l7 x94 gq106 gq99 gq100 gq101 gq102 gq103 gq104 gq105 gq97 _ h
    · rw [if_neg c89] at h
      refine eE_aload_n lk250_170 g0 ?_
      refine eR_getA lk250_171 rf_170 rfl ?_
      refine eE_sipush (v := 14000) lk250_174 (by decide) ?_
      refine eE_iload_n lk250_177 g1 ?_
      refine eE_imul lk250_178 ?_
      refine eE_iload lk250_179 g8 ?_
      refine eE_iadd lk250_181 ?_
      refine eE_iload lk250_182 g10 ?_
      refine eE_iadd lk250_184 ?_
      refine eE_aload_n lk250_185 g0 ?_
      refine eE_ldc_w (v := 542208) lk250_186 xc_758 ?_
      refine eE_iload lk250_189 g10 ?_
      refine eE_iadd lk250_191 ?_
      obtain ⟨p114, h115, h⟩ := Option.bind_eq_some_iff.mp h
      refine eR_call (as := [.int (((542208 : Int32)) + l10)]) lk250_192 mr_759 na_295 rfl rfl (Nat.le_of_ble_eq_true rfl) wv_295 wc_295 (m_inLetter_ok hp0 (d := d + 4) h115) ?_
      obtain ⟨σ116, h117, h⟩ := Option.bind_eq_some_iff.mp h
      refine eR_bast lk250_195 rfl rfl rfl h117 ?_
      refine eE_inc (j := 10) (v := l10 + (1 : Int32)) lk250_196 g10 rfl (by decide) (fun vq118 gq119 kq120 => ?_)
      have gq121 := kq120 1 _ (by decide) (fun _ => rfl) g1
      have gq122 := kq120 2 _ (by decide) (fun _ => rfl) g2
      have gq123 := kq120 3 _ (by decide) (fun _ => rfl) g3
      have gq124 := kq120 4 _ (by decide) (fun _ => rfl) g4
      have gq125 := kq120 5 _ (by decide) (fun _ => rfl) g5
      have gq126 := kq120 6 _ (by decide) (fun _ => rfl) g6
      have gq127 := kq120 7 _ (by decide) (fun _ => rfl) g7
      have gq128 := kq120 8 _ (by decide) (fun _ => rfl) g8
      have gq129 := kq120 9 _ (by decide) (fun _ => rfl) g9
      have gq130 := kq120 0 _ (by decide) (fun _ => rfl) g0
      refine eE_goto (t := 163) lk250_199 (by decide) ?_
      exact hKK vq118 σ116 l1 l2 l3 l4 l5 l6 l7 l8 l9 (l10 + (1 : Int32)) gq130 gq121 gq122 gq123 gq124 gq125 gq126 gq127 gq128 gq129 gq119 _ h
def m_assemble_b105 (F : Nat)  (σ : RS) (l1 : Int32) (l2 : Int32) (l3 : Int32) (l4 : Int32) (l5 : Int32) (l6 : Int32) (l7 : Int32) (l8 : Int32) (l9 : Int32) : Option (RS) :=
  (rld σ 69 l1).bind fun x131 =>
  if xc2 .ne x131 l4 = true then (
    m_assemble_b127 F  σ l1 l2 l3 l4
  ) else (
    (rld σ 70 l1).bind fun x134 =>
    if xc2 .eq l8 x134 = true then (
      m_assemble_b163 F  F σ l1 l2 l3 l4 l5 l6 l7 l8 l9 ((0 : Int32))
    ) else (
      m_assemble_b127 F  σ l1 l2 l3 l4
    )
  )
set_option maxRecDepth 4000 in
theorem m_assemble_b105_ok {pF : Nat → List Value → xH → Option (Option Value × xH)} {d : Nat} {aR : Nat} {G : Nat → xC} {T : Nat × Nat} {F : Nat} (hp0 : xNP pF)  : ∀ (lv : xL) (σ : RS) (l1 : Int32) (l2 : Int32) (l3 : Int32) (l4 : Int32) (l5 : Int32) (l6 : Int32) (l7 : Int32) (l8 : Int32) (l9 : Int32), xg lv 0 = some (.ref aR) → xg lv 1 = some (.int l1) → xg lv 2 = some (.int l2) → xg lv 3 = some (.int l3) → xg lv 4 = some (.int l4) → xg lv 5 = some (.int l5) → xg lv 6 = some (.int l6) → xg lv 7 = some (.int l7) → xg lv 8 = some (.int l8) → xg lv 9 = some (.int l9) → ∀ res, m_assemble_b105 F  σ l1 l2 l3 l4 l5 l6 l7 l8 l9 = some res → xR pF (d + 5) kT250 16 13 false none none (layR aR res G, T) (105, lv, [], (layR aR σ G, T)) := by
  intro lv σ l1 l2 l3 l4 l5 l6 l7 l8 l9 g0 g1 g2 g3 g4 g5 g6 g7 g8 g9 res h
  unfold m_assemble_b105 at h
  refine eE_aload_n lk250_105 g0 ?_
  refine eR_getA lk250_106 rf_173 rfl ?_
  refine eE_iload_n lk250_109 g1 ?_
  obtain ⟨x131, h132, h⟩ := Option.bind_eq_some_iff.mp h
  refine eR_iald lk250_110 rfl rfl h132 ?_
  refine eE_iload lk250_111 g4 ?_
  refine eE_icmp (t := 127) lk250_113 (by decide) (fun c133 => ?_) (fun c133 => ?_)
  · rw [if_pos c133] at h
    exact m_assemble_b127_ok hp0  lv σ l1 l2 l3 l4 g0 g1 g2 g3 g4 _ h
  · rw [if_neg c133] at h
    refine eE_iload lk250_116 g8 ?_
    refine eE_aload_n lk250_118 g0 ?_
    refine eR_getA lk250_119 rf_176 rfl ?_
    refine eE_iload_n lk250_122 g1 ?_
    obtain ⟨x134, h135, h⟩ := Option.bind_eq_some_iff.mp h
    refine eR_iald lk250_123 rfl rfl h135 ?_
    refine eE_icmp (t := 160) lk250_124 (by decide) (fun c136 => ?_) (fun c136 => ?_)
    · rw [if_pos c136] at h
      refine eE_iconst (v := 0) lk250_160 (by decide) ?_
      refine eE_stI (j := 10) lk250_161 (Or.inl rfl) (by decide) (fun vq137 gq138 kq139 => ?_)
      have gq140 := kq139 1 _ (by decide) (fun _ => rfl) g1
      have gq141 := kq139 2 _ (by decide) (fun _ => rfl) g2
      have gq142 := kq139 3 _ (by decide) (fun _ => rfl) g3
      have gq143 := kq139 4 _ (by decide) (fun _ => rfl) g4
      have gq144 := kq139 5 _ (by decide) (fun _ => rfl) g5
      have gq145 := kq139 6 _ (by decide) (fun _ => rfl) g6
      have gq146 := kq139 7 _ (by decide) (fun _ => rfl) g7
      have gq147 := kq139 8 _ (by decide) (fun _ => rfl) g8
      have gq148 := kq139 9 _ (by decide) (fun _ => rfl) g9
      have gq149 := kq139 0 _ (by decide) (fun _ => rfl) g0
      exact m_assemble_b163_ok hp0  F vq137 σ l1 l2 l3 l4 l5 l6 l7 l8 l9 ((0 : Int32)) gq149 gq140 gq141 gq142 gq143 gq144 gq145 gq146 gq147 gq148 gq138 _ h
    · rw [if_neg c136] at h
      exact m_assemble_b127_ok hp0  lv σ l1 l2 l3 l4 g0 g1 g2 g3 g4 _ h
def m_assemble_b0 (F : Nat)  (σ : RS) (l1 : Int32) (l2 : Int32) (l3 : Int32) : Option (RS) :=
  (rld σ 12 ((2824 : Int32))).bind fun x150 =>
  (rld σ 12 ((2825 : Int32))).bind fun x159 =>
  (rld σ 12 ((2826 : Int32))).bind fun x169 =>
  (rld σ 12 ((2827 : Int32))).bind fun x180 =>
  (rld σ 12 ((2828 : Int32))).bind fun x192 =>
  (rld σ 12 ((2829 : Int32))).bind fun x205 =>
  (rld σ 75 l1).bind fun x219 =>
  if xc2 .gt x150 x219 = true then (
    if xc0 .ne x192 = true then (
      m_assemble_b105 F  σ l1 l2 l3 x150 x159 x169 x180 x192 x205
    ) else (
      (rst σ 69 l1 x150).bind fun σ223 =>
      (rst σ223 70 l1 (((0 : Int32)))).bind fun σ225 =>
      m_assemble_b105 F  σ225 l1 l2 l3 x150 x159 x169 x180 x192 x205
    )
  ) else (
    (m_tell F σ l1 l2 ((8 : Int32)) x150 x180 l3).bind fun p227 =>
    some p227
  )
set_option maxRecDepth 4000 in
theorem m_assemble_b0_ok {pF : Nat → List Value → xH → Option (Option Value × xH)} {d : Nat} {aR : Nat} {G : Nat → xC} {T : Nat × Nat} {F : Nat} (hp0 : xNP pF)  : ∀ (lv : xL) (σ : RS) (l1 : Int32) (l2 : Int32) (l3 : Int32), xg lv 0 = some (.ref aR) → xg lv 1 = some (.int l1) → xg lv 2 = some (.int l2) → xg lv 3 = some (.int l3) → ∀ res, m_assemble_b0 F  σ l1 l2 l3 = some res → xR pF (d + 5) kT250 16 13 false none none (layR aR res G, T) (0, lv, [], (layR aR σ G, T)) := by
  intro lv σ l1 l2 l3 g0 g1 g2 g3 res h
  unfold m_assemble_b0 at h
  refine eE_aload_n lk250_0 g0 ?_
  refine eR_getA lk250_1 rf_32 rfl ?_
  refine eE_sipush (v := 2824) lk250_4 (by decide) ?_
  obtain ⟨x150, h151, h⟩ := Option.bind_eq_some_iff.mp h
  refine eR_iald lk250_7 rfl rfl h151 ?_
  refine eE_stI (j := 4) lk250_8 (Or.inl rfl) (by decide) (fun vq152 gq153 kq154 => ?_)
  have gq155 := kq154 1 _ (by decide) (fun _ => rfl) g1
  have gq156 := kq154 2 _ (by decide) (fun _ => rfl) g2
  have gq157 := kq154 3 _ (by decide) (fun _ => rfl) g3
  have gq158 := kq154 0 _ (by decide) (fun _ => rfl) g0
  refine eE_aload_n lk250_10 gq158 ?_
  refine eR_getA lk250_11 rf_32 rfl ?_
  refine eE_sipush (v := 2825) lk250_14 (by decide) ?_
  obtain ⟨x159, h160, h⟩ := Option.bind_eq_some_iff.mp h
  refine eR_iald lk250_17 rfl rfl h160 ?_
  refine eE_stI (j := 5) lk250_18 (Or.inl rfl) (by decide) (fun vq161 gq162 kq163 => ?_)
  have gq164 := kq163 1 _ (by decide) (fun _ => rfl) gq155
  have gq165 := kq163 2 _ (by decide) (fun _ => rfl) gq156
  have gq166 := kq163 3 _ (by decide) (fun _ => rfl) gq157
  have gq167 := kq163 0 _ (by decide) (fun _ => rfl) gq158
  have gq168 := kq163 4 _ (by decide) (fun _ => rfl) gq153
  refine eE_aload_n lk250_20 gq167 ?_
  refine eR_getA lk250_21 rf_32 rfl ?_
  refine eE_sipush (v := 2826) lk250_24 (by decide) ?_
  obtain ⟨x169, h170, h⟩ := Option.bind_eq_some_iff.mp h
  refine eR_iald lk250_27 rfl rfl h170 ?_
  refine eE_stI (j := 6) lk250_28 (Or.inl rfl) (by decide) (fun vq171 gq172 kq173 => ?_)
  have gq174 := kq173 1 _ (by decide) (fun _ => rfl) gq164
  have gq175 := kq173 2 _ (by decide) (fun _ => rfl) gq165
  have gq176 := kq173 3 _ (by decide) (fun _ => rfl) gq166
  have gq177 := kq173 0 _ (by decide) (fun _ => rfl) gq167
  have gq178 := kq173 4 _ (by decide) (fun _ => rfl) gq168
  have gq179 := kq173 5 _ (by decide) (fun _ => rfl) gq162
  refine eE_aload_n lk250_30 gq177 ?_
  refine eR_getA lk250_31 rf_32 rfl ?_
  refine eE_sipush (v := 2827) lk250_34 (by decide) ?_
  obtain ⟨x180, h181, h⟩ := Option.bind_eq_some_iff.mp h
  refine eR_iald lk250_37 rfl rfl h181 ?_
  refine eE_stI (j := 7) lk250_38 (Or.inl rfl) (by decide) (fun vq182 gq183 kq184 => ?_)
  have gq185 := kq184 1 _ (by decide) (fun _ => rfl) gq174
  have gq186 := kq184 2 _ (by decide) (fun _ => rfl) gq175
  have gq187 := kq184 3 _ (by decide) (fun _ => rfl) gq176
  have gq188 := kq184 0 _ (by decide) (fun _ => rfl) gq177
  have gq189 := kq184 4 _ (by decide) (fun _ => rfl) gq178
  have gq190 := kq184 5 _ (by decide) (fun _ => rfl) gq179
  have gq191 := kq184 6 _ (by decide) (fun _ => rfl) gq172
  refine eE_aload_n lk250_40 gq188 ?_
  refine eR_getA lk250_41 rf_32 rfl ?_
  refine eE_sipush (v := 2828) lk250_44 (by decide) ?_
  obtain ⟨x192, h193, h⟩ := Option.bind_eq_some_iff.mp h
  refine eR_iald lk250_47 rfl rfl h193 ?_
  refine eE_stI (j := 8) lk250_48 (Or.inl rfl) (by decide) (fun vq194 gq195 kq196 => ?_)
  have gq197 := kq196 1 _ (by decide) (fun _ => rfl) gq185
  have gq198 := kq196 2 _ (by decide) (fun _ => rfl) gq186
  have gq199 := kq196 3 _ (by decide) (fun _ => rfl) gq187
  have gq200 := kq196 0 _ (by decide) (fun _ => rfl) gq188
  have gq201 := kq196 4 _ (by decide) (fun _ => rfl) gq189
  have gq202 := kq196 5 _ (by decide) (fun _ => rfl) gq190
  have gq203 := kq196 6 _ (by decide) (fun _ => rfl) gq191
  have gq204 := kq196 7 _ (by decide) (fun _ => rfl) gq183
  refine eE_aload_n lk250_50 gq200 ?_
  refine eR_getA lk250_51 rf_32 rfl ?_
  refine eE_sipush (v := 2829) lk250_54 (by decide) ?_
  obtain ⟨x205, h206, h⟩ := Option.bind_eq_some_iff.mp h
  refine eR_iald lk250_57 rfl rfl h206 ?_
  refine eE_stI (j := 9) lk250_58 (Or.inl rfl) (by decide) (fun vq207 gq208 kq209 => ?_)
  have gq210 := kq209 1 _ (by decide) (fun _ => rfl) gq197
  have gq211 := kq209 2 _ (by decide) (fun _ => rfl) gq198
  have gq212 := kq209 3 _ (by decide) (fun _ => rfl) gq199
  have gq213 := kq209 0 _ (by decide) (fun _ => rfl) gq200
  have gq214 := kq209 4 _ (by decide) (fun _ => rfl) gq201
  have gq215 := kq209 5 _ (by decide) (fun _ => rfl) gq202
  have gq216 := kq209 6 _ (by decide) (fun _ => rfl) gq203
  have gq217 := kq209 7 _ (by decide) (fun _ => rfl) gq204
  have gq218 := kq209 8 _ (by decide) (fun _ => rfl) gq195
  refine eE_iload lk250_60 gq214 ?_
  refine eE_aload_n lk250_62 gq213 ?_
  refine eR_getA lk250_63 rf_191 rfl ?_
  refine eE_iload_n lk250_66 gq210 ?_
  obtain ⟨x219, h220, h⟩ := Option.bind_eq_some_iff.mp h
  refine eR_iald lk250_67 rfl rfl h220 ?_
  refine eE_icmp (t := 85) lk250_68 (by decide) (fun c221 => ?_) (fun c221 => ?_)
  · rw [if_pos c221] at h
    refine eE_iload lk250_85 gq218 ?_
    refine eE_if (t := 105) lk250_87 (by decide) (fun c222 => ?_) (fun c222 => ?_)
    · rw [if_pos c222] at h
      exact m_assemble_b105_ok hp0  vq207 σ l1 l2 l3 x150 x159 x169 x180 x192 x205 gq213 gq210 gq211 gq212 gq214 gq215 gq216 gq217 gq218 gq208 _ h
    · rw [if_neg c222] at h
      refine eE_aload_n lk250_90 gq213 ?_
      refine eR_getA lk250_91 rf_173 rfl ?_
      refine eE_iload_n lk250_94 gq210 ?_
      refine eE_iload lk250_95 gq214 ?_
      obtain ⟨σ223, h224, h⟩ := Option.bind_eq_some_iff.mp h
      refine eR_iast lk250_97 rfl rfl h224 ?_
      refine eE_aload_n lk250_98 gq213 ?_
      refine eR_getA lk250_99 rf_176 rfl ?_
      refine eE_iload_n lk250_102 gq210 ?_
      refine eE_iconst (v := 0) lk250_103 (by decide) ?_
      obtain ⟨σ225, h226, h⟩ := Option.bind_eq_some_iff.mp h
      refine eR_iast lk250_104 rfl rfl h226 ?_
      exact m_assemble_b105_ok hp0  vq207 σ225 l1 l2 l3 x150 x159 x169 x180 x192 x205 gq213 gq210 gq211 gq212 gq214 gq215 gq216 gq217 gq218 gq208 _ h
  · rw [if_neg c221] at h
    refine eE_aload_n lk250_71 gq213 ?_
    refine eE_iload_n lk250_72 gq210 ?_
    refine eE_iload_n lk250_73 gq211 ?_
    refine eE_bipush (v := 8) lk250_74 (by decide) ?_
    refine eE_iload lk250_76 gq214 ?_
    refine eE_iload lk250_78 gq217 ?_
    refine eE_iload_n lk250_80 gq212 ?_
    obtain ⟨p227, h228, h⟩ := Option.bind_eq_some_iff.mp h
    refine eR_call (as := [.int l1, .int l2, .int ((8 : Int32)), .int x150, .int x180, .int l3]) lk250_81 mr_746 na_369 rfl rfl (Nat.le_of_ble_eq_true rfl) wv_369 wc_369 (m_tell_ok hp0 (d := d + 0) h228) ?_
    cases h
    exact eE_end lk250_84 rfl rfl rfl
def m_assemble (F : Nat) (σ : RS) (l1 : Int32) (l2 : Int32) (l3 : Int32) : Option (RS) := m_assemble_b0 F σ l1 l2 l3
theorem m_assemble_ok {pF : Nat → List Value → xH → Option (Option Value × xH)} (hp0 : xNP pF) {d : Nat} {aR : Nat} {G : Nat → xC} {T : Nat × Nat} {σ : RS} {F : Nat} {l1 : Int32} {l2 : Int32} {l3 : Int32} {res : RS} (h : m_assemble F σ l1 l2 l3 = some res) : xCo pF (d + 6) 250 [.ref aR, .int l1, .int l2, .int l3] (layR aR σ G, T) none (layR aR res G, T) := by
  unfold m_assemble at h
  exact xCo_R kk_250 mo_250 ni_250 xm_250 (Nat.le_of_ble_eq_true rfl) (hp0 _ (by decide) (by decide) _ _) (m_assemble_b0_ok hp0 _ σ l1 l2 l3 rfl rfl rfl rfl _ h)
/-! beat (251), depth 7 -/
def m_beat_b124 (F : Nat) (K56 : RS → Int32 → Int32 → Option (RS)) (σ : RS) (l1 : Int32) (l2 : Int32) : Option (RS) :=
  K56 σ l1 (l2 + (1 : Int32))
set_option maxRecDepth 4000 in
theorem m_beat_b124_ok {pF : Nat → List Value → xH → Option (Option Value × xH)} {d : Nat} {aR : Nat} {G : Nat → xC} {T : Nat × Nat} {F : Nat} {K56 : RS → Int32 → Int32 → Option (RS)} (hp0 : xNP pF) (hK56 : ∀ (lv : xL) (σ : RS) (l1 : Int32) (l2 : Int32), xg lv 0 = some (.ref aR) → xg lv 1 = some (.int l1) → xg lv 2 = some (.int l2) → ∀ res, K56 σ l1 l2 = some res → xR pF (d + 6) kT251 16 4 false none none (layR aR res G, T) (56, lv, [], (layR aR σ G, T))) : ∀ (lv : xL) (σ : RS) (l1 : Int32) (l2 : Int32), xg lv 0 = some (.ref aR) → xg lv 1 = some (.int l1) → xg lv 2 = some (.int l2) → ∀ res, m_beat_b124 F K56 σ l1 l2 = some res → xR pF (d + 6) kT251 16 4 false none none (layR aR res G, T) (124, lv, [], (layR aR σ G, T)) := by
  intro lv σ l1 l2 g0 g1 g2 res h
  unfold m_beat_b124 at h
  refine eE_inc (j := 2) (v := l2 + (1 : Int32)) lk251_124 g2 rfl (by decide) (fun vq1 gq2 kq3 => ?_)
  have gq4 := kq3 1 _ (by decide) (fun _ => rfl) g1
  have gq5 := kq3 0 _ (by decide) (fun _ => rfl) g0
  refine eE_goto (t := 56) lk251_127 (by decide) ?_
  exact hK56 vq1 σ l1 (l2 + (1 : Int32)) gq5 gq4 gq2 _ h
def m_beat_b132 (F : Nat)  : Nat → RS → Int32 → Int32 → Option (RS)
  | 0, _, _, _ => none
  | n + 1, σ, l1, l2 =>
    let KK := m_beat_b132 F  n
    if xc2 .ge l2 ((7 : Int32)) = true then (
      (rld σ 77 l1).bind fun x7 =>
      (rst σ 87 ((((7 : Int32)) * l1) + l1) x7).bind fun σ9 =>
      (rst σ9 92 ((((7 : Int32)) * l1) + l1) ((σ9.1 1 0))).bind fun σ11 =>
      (rld σ11 83 l1).bind fun x13 =>
      (rst σ11 91 ((((7 : Int32)) * l1) + l1) x13).bind fun σ15 =>
      (m_sendAll F σ15 l1 ((1 : Int32))).bind fun p17 =>
      (m_answerReads F p17 l1).bind fun p19 =>
      some p19
    ) else (
      (rst σ 93 ((((7 : Int32)) * l1) + l2) ((((0 : Int32)) &&& 1))).bind fun σ21 =>
      KK σ21 l1 (l2 + (1 : Int32))
    )
set_option maxRecDepth 4000 in
theorem m_beat_b132_ok {pF : Nat → List Value → xH → Option (Option Value × xH)} {d : Nat} {aR : Nat} {G : Nat → xC} {T : Nat × Nat} {F : Nat} (hp0 : xNP pF)  : ∀ (n : Nat) (lv : xL) (σ : RS) (l1 : Int32) (l2 : Int32), xg lv 0 = some (.ref aR) → xg lv 1 = some (.int l1) → xg lv 2 = some (.int l2) → ∀ res, m_beat_b132 F  n σ l1 l2 = some res → xR pF (d + 6) kT251 16 4 false none none (layR aR res G, T) (132, lv, [], (layR aR σ G, T)) := by
  intro n
  induction n with
  | zero => intro lv σ l1 l2 g0 g1 g2 res h; simp [m_beat_b132] at h
  | succ n hKK =>
    intro lv σ l1 l2 g0 g1 g2 res h
    unfold m_beat_b132 at h
    dsimp only at h
    refine eE_iload_n lk251_132 g2 ?_
    refine eE_bipush (v := 7) lk251_133 (by decide) ?_
    refine eE_icmp (t := 156) lk251_135 (by decide) (fun c6 => ?_) (fun c6 => ?_)
    · rw [if_pos c6] at h
      refine eE_aload_n lk251_156 g0 ?_
      refine eR_getA lk251_157 rf_227 rfl ?_
      refine eE_bipush (v := 7) lk251_160 (by decide) ?_
      refine eE_iload_n lk251_162 g1 ?_
      refine eE_imul lk251_163 ?_
      refine eE_iload_n lk251_164 g1 ?_
      refine eE_iadd lk251_165 ?_
      refine eE_aload_n lk251_166 g0 ?_
      refine eR_getA lk251_167 rf_197 rfl ?_
      refine eE_iload_n lk251_170 g1 ?_
      obtain ⟨x7, h8, h⟩ := Option.bind_eq_some_iff.mp h
      refine eR_iald lk251_171 rfl rfl h8 ?_
      obtain ⟨σ9, h10, h⟩ := Option.bind_eq_some_iff.mp h
      refine eR_iast lk251_172 rfl rfl h10 ?_
      refine eE_aload_n lk251_173 g0 ?_
      refine eR_getA lk251_174 rf_242 rfl ?_
      refine eE_bipush (v := 7) lk251_177 (by decide) ?_
      refine eE_iload_n lk251_179 g1 ?_
      refine eE_imul lk251_180 ?_
      refine eE_iload_n lk251_181 g1 ?_
      refine eE_iadd lk251_182 ?_
      refine eE_aload_n lk251_183 g0 ?_
      refine eR_get lk251_184 rf_431 rfl ?_
      obtain ⟨σ11, h12, h⟩ := Option.bind_eq_some_iff.mp h
      refine eR_iast lk251_187 rfl rfl h12 ?_
      refine eE_aload_n lk251_188 g0 ?_
      refine eR_getA lk251_189 rf_239 rfl ?_
      refine eE_bipush (v := 7) lk251_192 (by decide) ?_
      refine eE_iload_n lk251_194 g1 ?_
      refine eE_imul lk251_195 ?_
      refine eE_iload_n lk251_196 g1 ?_
      refine eE_iadd lk251_197 ?_
      refine eE_aload_n lk251_198 g0 ?_
      refine eR_getA lk251_199 rf_215 rfl ?_
      refine eE_iload_n lk251_202 g1 ?_
      obtain ⟨x13, h14, h⟩ := Option.bind_eq_some_iff.mp h
      refine eR_iald lk251_203 rfl rfl h14 ?_
      obtain ⟨σ15, h16, h⟩ := Option.bind_eq_some_iff.mp h
      refine eR_iast lk251_204 rfl rfl h16 ?_
      refine eE_aload_n lk251_205 g0 ?_
      refine eE_iload_n lk251_206 g1 ?_
      refine eE_iconst (v := 1) lk251_207 (by decide) ?_
      obtain ⟨p17, h18, h⟩ := Option.bind_eq_some_iff.mp h
      refine eR_call (as := [.int l1, .int ((1 : Int32))]) lk251_208 mr_679 na_355 rfl rfl (Nat.le_of_ble_eq_true rfl) wv_355 wc_355 (m_sendAll_ok hp0 (d := d + 0) h18) ?_
      refine eE_aload_n lk251_211 g0 ?_
      refine eE_iload_n lk251_212 g1 ?_
      obtain ⟨p19, h20, h⟩ := Option.bind_eq_some_iff.mp h
      refine eR_call (as := [.int l1]) lk251_213 mr_683 na_243 rfl rfl (Nat.le_of_ble_eq_true rfl) wv_243 wc_243 (m_answerReads_ok hp0 (d := d + 0) h20) ?_
      cases h
      exact eE_end lk251_216 rfl rfl rfl
    · rw [if_neg c6] at h
      refine eE_aload_n lk251_138 g0 ?_
      refine eR_getA lk251_139 rf_245 rfl ?_
      refine eE_bipush (v := 7) lk251_142 (by decide) ?_
      refine eE_iload_n lk251_144 g1 ?_
      refine eE_imul lk251_145 ?_
      refine eE_iload_n lk251_146 g2 ?_
      refine eE_iadd lk251_147 ?_
      refine eE_iconst (v := 0) lk251_148 (by decide) ?_
      obtain ⟨σ21, h22, h⟩ := Option.bind_eq_some_iff.mp h
      refine eR_zast lk251_149 rfl rfl rfl h22 ?_
      refine eE_inc (j := 2) (v := l2 + (1 : Int32)) lk251_150 g2 rfl (by decide) (fun vq23 gq24 kq25 => ?_)
      have gq26 := kq25 1 _ (by decide) (fun _ => rfl) g1
      have gq27 := kq25 0 _ (by decide) (fun _ => rfl) g0
      refine eE_goto (t := 132) lk251_153 (by decide) ?_
      exact hKK vq23 σ21 l1 (l2 + (1 : Int32)) gq27 gq26 gq24 _ h
def m_beat_b56 (F : Nat)  : Nat → RS → Int32 → Int32 → Option (RS)
  | 0, _, _, _ => none
  | n + 1, σ, l1, l2 =>
    let KK := m_beat_b56 F  n
    if xc2 .ge l2 ((7 : Int32)) = true then (
      m_beat_b132 F  F σ l1 ((0 : Int32))
    ) else (
      (m_isPeer σ l1 l2).bind fun p40 =>
      if xc0 .eq p40.1 = true then (
        m_beat_b124 F KK p40.2 l1 l2
      ) else (
        (rld p40.2 88 ((((7 : Int32)) * l1) + l2)).bind fun x43 =>
        if xc0 .le x43 = true then (
          m_beat_b124 F KK p40.2 l1 l2
        ) else (
          (rld p40.2 93 ((((7 : Int32)) * l1) + l2)).bind fun x46 =>
          if xc0 .ne x46 = true then (
            m_beat_b124 F KK p40.2 l1 l2
          ) else (
            (rst p40.2 88 ((((7 : Int32)) * l1) + l2) (((0 : Int32)))).bind fun σ49 =>
            (rst σ49 89 ((((7 : Int32)) * l1) + l2) ((((1 : Int32)) &&& 1))).bind fun σ51 =>
            (rld σ51 87 ((((7 : Int32)) * l1) + l2)).bind fun x53 =>
            (rst σ51 86 ((((7 : Int32)) * l1) + l2) ((x53 + ((1 : Int32))))).bind fun σ55 =>
            m_beat_b124 F KK σ55 l1 l2
          )
        )
      )
    )
set_option maxRecDepth 4000 in
theorem m_beat_b56_ok {pF : Nat → List Value → xH → Option (Option Value × xH)} {d : Nat} {aR : Nat} {G : Nat → xC} {T : Nat × Nat} {F : Nat} (hp0 : xNP pF)  : ∀ (n : Nat) (lv : xL) (σ : RS) (l1 : Int32) (l2 : Int32), xg lv 0 = some (.ref aR) → xg lv 1 = some (.int l1) → xg lv 2 = some (.int l2) → ∀ res, m_beat_b56 F  n σ l1 l2 = some res → xR pF (d + 6) kT251 16 4 false none none (layR aR res G, T) (56, lv, [], (layR aR σ G, T)) := by
  intro n
  induction n with
  | zero => intro lv σ l1 l2 g0 g1 g2 res h; simp [m_beat_b56] at h
  | succ n hKK =>
    intro lv σ l1 l2 g0 g1 g2 res h
    unfold m_beat_b56 at h
    dsimp only at h
    refine eE_iload_n lk251_56 g2 ?_
    refine eE_bipush (v := 7) lk251_57 (by decide) ?_
    refine eE_icmp (t := 130) lk251_59 (by decide) (fun c28 => ?_) (fun c28 => ?_)
    · rw [if_pos c28] at h
      refine eE_iconst (v := 0) lk251_130 (by decide) ?_
      refine eE_stI (j := 2) lk251_131 (Or.inr ⟨_, rfl, rfl⟩) (by decide) (fun vq29 gq30 kq31 => ?_)
      have gq32 := kq31 1 _ (by decide) (fun _ => rfl) g1
      have gq33 := kq31 0 _ (by decide) (fun _ => rfl) g0
      exact m_beat_b132_ok hp0  F vq29 σ l1 ((0 : Int32)) gq33 gq32 gq30 _ h
    · rw [if_neg c28] at h
      refine eE_bipush (v := 7) lk251_62 (by decide) ?_
      refine eE_iload_n lk251_64 g1 ?_
      refine eE_imul lk251_65 ?_
      refine eE_iload_n lk251_66 g2 ?_
      refine eE_iadd lk251_67 ?_
      refine eE_stI (j := 3) lk251_68 (Or.inr ⟨_, rfl, rfl⟩) (by decide) (fun vq34 gq35 kq36 => ?_)
      have gq37 := kq36 1 _ (by decide) (fun _ => rfl) g1
      have gq38 := kq36 2 _ (by decide) (fun _ => rfl) g2
      have gq39 := kq36 0 _ (by decide) (fun _ => rfl) g0
      refine eE_aload_n lk251_69 gq39 ?_
      refine eE_iload_n lk251_70 gq37 ?_
      refine eE_iload_n lk251_71 gq38 ?_
      obtain ⟨p40, h41, h⟩ := Option.bind_eq_some_iff.mp h
      refine eR_call (as := [.int l1, .int l2]) lk251_72 mr_676 na_304 rfl rfl (Nat.le_of_ble_eq_true rfl) wv_304 wc_304 (m_isPeer_ok hp0 (d := d + 3) h41) ?_
      refine eE_if (t := 124) lk251_75 (by decide) (fun c42 => ?_) (fun c42 => ?_)
      · rw [if_pos c42] at h
        exact m_beat_b124_ok hp0 hKK vq34 p40.2 l1 l2 gq39 gq37 gq38 _ h
      · rw [if_neg c42] at h
        refine eE_aload_n lk251_78 gq39 ?_
        refine eR_getA lk251_79 rf_230 rfl ?_
        refine eE_iload_n lk251_82 gq35 ?_
        obtain ⟨x43, h44, h⟩ := Option.bind_eq_some_iff.mp h
        refine eR_iald lk251_83 rfl rfl h44 ?_
        refine eE_if (t := 124) lk251_84 (by decide) (fun c45 => ?_) (fun c45 => ?_)
        · rw [if_pos c45] at h
          exact m_beat_b124_ok hp0 hKK vq34 p40.2 l1 l2 gq39 gq37 gq38 _ h
        · rw [if_neg c45] at h
          refine eE_aload_n lk251_87 gq39 ?_
          refine eR_getA lk251_88 rf_245 rfl ?_
          refine eE_iload_n lk251_91 gq35 ?_
          obtain ⟨x46, h47, h⟩ := Option.bind_eq_some_iff.mp h
          refine eR_bald lk251_92 rfl (Or.inr rfl) h47 ?_
          refine eE_if (t := 124) lk251_93 (by decide) (fun c48 => ?_) (fun c48 => ?_)
          · rw [if_pos c48] at h
            exact m_beat_b124_ok hp0 hKK vq34 p40.2 l1 l2 gq39 gq37 gq38 _ h
          · rw [if_neg c48] at h
            refine eE_aload_n lk251_96 gq39 ?_
            refine eR_getA lk251_97 rf_230 rfl ?_
            refine eE_iload_n lk251_100 gq35 ?_
            refine eE_iconst (v := 0) lk251_101 (by decide) ?_
            obtain ⟨σ49, h50, h⟩ := Option.bind_eq_some_iff.mp h
            refine eR_iast lk251_102 rfl rfl h50 ?_
            refine eE_aload_n lk251_103 gq39 ?_
            refine eR_getA lk251_104 rf_233 rfl ?_
            refine eE_iload_n lk251_107 gq35 ?_
            refine eE_iconst (v := 1) lk251_108 (by decide) ?_
            obtain ⟨σ51, h52, h⟩ := Option.bind_eq_some_iff.mp h
            refine eR_zast lk251_109 rfl rfl rfl h52 ?_
            refine eE_aload_n lk251_110 gq39 ?_
            refine eR_getA lk251_111 rf_224 rfl ?_
            refine eE_iload_n lk251_114 gq35 ?_
            refine eE_aload_n lk251_115 gq39 ?_
            refine eR_getA lk251_116 rf_227 rfl ?_
            refine eE_iload_n lk251_119 gq35 ?_
            obtain ⟨x53, h54, h⟩ := Option.bind_eq_some_iff.mp h
            refine eR_iald lk251_120 rfl rfl h54 ?_
            refine eE_iconst (v := 1) lk251_121 (by decide) ?_
            refine eE_iadd lk251_122 ?_
            obtain ⟨σ55, h56, h⟩ := Option.bind_eq_some_iff.mp h
            refine eR_iast lk251_123 rfl rfl h56 ?_
            exact m_beat_b124_ok hp0 hKK vq34 σ55 l1 l2 gq39 gq37 gq38 _ h
def m_beat_b32 (F : Nat)  (σ : RS) (l1 : Int32) : Option (RS) :=
  (m_alarm σ l1 ((σ.1 1 0) + ((10 : Int32)))).bind fun p57 =>
  (rld p57 83 l1).bind fun x59 =>
  (rst p57 83 l1 ((x59 + ((1 : Int32))))).bind fun σ61 =>
  m_beat_b56 F  F σ61 l1 ((0 : Int32))
set_option maxRecDepth 4000 in
theorem m_beat_b32_ok {pF : Nat → List Value → xH → Option (Option Value × xH)} {d : Nat} {aR : Nat} {G : Nat → xC} {T : Nat × Nat} {F : Nat} (hp0 : xNP pF)  : ∀ (lv : xL) (σ : RS) (l1 : Int32), xg lv 0 = some (.ref aR) → xg lv 1 = some (.int l1) → ∀ res, m_beat_b32 F  σ l1 = some res → xR pF (d + 6) kT251 16 4 false none none (layR aR res G, T) (32, lv, [], (layR aR σ G, T)) := by
  intro lv σ l1 g0 g1 res h
  unfold m_beat_b32 at h
  refine eE_aload_n lk251_32 g0 ?_
  refine eE_iload_n lk251_33 g1 ?_
  refine eE_aload_n lk251_34 g0 ?_
  refine eR_get lk251_35 rf_431 rfl ?_
  refine eE_bipush (v := 10) lk251_38 (by decide) ?_
  refine eE_iadd lk251_40 ?_
  obtain ⟨p57, h58, h⟩ := Option.bind_eq_some_iff.mp h
  refine eR_call (as := [.int l1, .int ((σ.1 1 0) + ((10 : Int32)))]) lk251_41 mr_455 na_241 rfl rfl (Nat.le_of_ble_eq_true rfl) wv_241 wc_241 (m_alarm_ok hp0 (d := d + 5) h58) ?_
  refine eE_aload_n lk251_44 g0 ?_
  refine eR_getA lk251_45 rf_215 rfl ?_
  refine eE_iload_n lk251_48 g1 ?_
  refine eE_dup2 lk251_49 rfl rfl ?_
  obtain ⟨x59, h60, h⟩ := Option.bind_eq_some_iff.mp h
  refine eR_iald lk251_50 rfl rfl h60 ?_
  refine eE_iconst (v := 1) lk251_51 (by decide) ?_
  refine eE_iadd lk251_52 ?_
  obtain ⟨σ61, h62, h⟩ := Option.bind_eq_some_iff.mp h
  refine eR_iast lk251_53 rfl rfl h62 ?_
  refine eE_iconst (v := 0) lk251_54 (by decide) ?_
  refine eE_stI (j := 2) lk251_55 (Or.inr ⟨_, rfl, rfl⟩) (by decide) (fun vq63 gq64 kq65 => ?_)
  have gq66 := kq65 1 _ (by decide) (fun _ => rfl) g1
  have gq67 := kq65 0 _ (by decide) (fun _ => rfl) g0
  exact m_beat_b56_ok hp0  F vq63 σ61 l1 ((0 : Int32)) gq67 gq66 gq64 _ h
def m_beat_b0 (F : Nat)  (σ : RS) (l1 : Int32) : Option (RS) :=
  (rld σ 80 l1).bind fun x68 =>
  if xc0 .lt x68 = true then (
    m_beat_b32 F  σ l1
  ) else (
    (rld σ 81 l1).bind fun x71 =>
    if xc2 .le ((σ.1 1 0) - x71) ((50 : Int32)) = true then (
      m_beat_b32 F  σ l1
    ) else (
      (rst σ 80 l1 (((-1 : Int32)))).bind fun σ74 =>
      m_beat_b32 F  σ74 l1
    )
  )
set_option maxRecDepth 4000 in
theorem m_beat_b0_ok {pF : Nat → List Value → xH → Option (Option Value × xH)} {d : Nat} {aR : Nat} {G : Nat → xC} {T : Nat × Nat} {F : Nat} (hp0 : xNP pF)  : ∀ (lv : xL) (σ : RS) (l1 : Int32), xg lv 0 = some (.ref aR) → xg lv 1 = some (.int l1) → ∀ res, m_beat_b0 F  σ l1 = some res → xR pF (d + 6) kT251 16 4 false none none (layR aR res G, T) (0, lv, [], (layR aR σ G, T)) := by
  intro lv σ l1 g0 g1 res h
  unfold m_beat_b0 at h
  refine eE_aload_n lk251_0 g0 ?_
  refine eR_getA lk251_1 rf_206 rfl ?_
  refine eE_iload_n lk251_4 g1 ?_
  obtain ⟨x68, h69, h⟩ := Option.bind_eq_some_iff.mp h
  refine eR_iald lk251_5 rfl rfl h69 ?_
  refine eE_if (t := 32) lk251_6 (by decide) (fun c70 => ?_) (fun c70 => ?_)
  · rw [if_pos c70] at h
    exact m_beat_b32_ok hp0  lv σ l1 g0 g1 _ h
  · rw [if_neg c70] at h
    refine eE_aload_n lk251_9 g0 ?_
    refine eR_get lk251_10 rf_431 rfl ?_
    refine eE_aload_n lk251_13 g0 ?_
    refine eR_getA lk251_14 rf_209 rfl ?_
    refine eE_iload_n lk251_17 g1 ?_
    obtain ⟨x71, h72, h⟩ := Option.bind_eq_some_iff.mp h
    refine eR_iald lk251_18 rfl rfl h72 ?_
    refine eE_isub lk251_19 ?_
    refine eE_bipush (v := 50) lk251_20 (by decide) ?_
    refine eE_icmp (t := 32) lk251_22 (by decide) (fun c73 => ?_) (fun c73 => ?_)
    · rw [if_pos c73] at h
      exact m_beat_b32_ok hp0  lv σ l1 g0 g1 _ h
    · rw [if_neg c73] at h
      refine eE_aload_n lk251_25 g0 ?_
      refine eR_getA lk251_26 rf_206 rfl ?_
      refine eE_iload_n lk251_29 g1 ?_
      refine eE_iconst (v := (-1)) lk251_30 (by decide) ?_
      obtain ⟨σ74, h75, h⟩ := Option.bind_eq_some_iff.mp h
      refine eR_iast lk251_31 rfl rfl h75 ?_
      exact m_beat_b32_ok hp0  lv σ74 l1 g0 g1 _ h
def m_beat (F : Nat) (σ : RS) (l1 : Int32) : Option (RS) := m_beat_b0 F σ l1
theorem m_beat_ok {pF : Nat → List Value → xH → Option (Option Value × xH)} (hp0 : xNP pF) {d : Nat} {aR : Nat} {G : Nat → xC} {T : Nat × Nat} {σ : RS} {F : Nat} {l1 : Int32} {res : RS} (h : m_beat F σ l1 = some res) : xCo pF (d + 7) 251 [.ref aR, .int l1] (layR aR σ G, T) none (layR aR res G, T) := by
  unfold m_beat at h
  exact xCo_R kk_251 mo_251 ni_251 xm_251 (Nat.le_of_ble_eq_true rfl) (hp0 _ (by decide) (by decide) _ _) (m_beat_b0_ok hp0 _ σ l1 rfl rfl _ h)
/-! byteAt (252), depth 2 -/
def m_byteAt_b46  (σ : RS) (s0 : Int32) : Option (Int32 × RS) :=
  some (s0, σ)
set_option maxRecDepth 4000 in
theorem m_byteAt_b46_ok {pF : Nat → List Value → xH → Option (Option Value × xH)} {d : Nat} {aR : Nat} {G : Nat → xC} {T : Nat × Nat} (hp0 : xNP pF)  : ∀ (lv : xL) (σ : RS) (s0 : Int32), xg lv 0 = some (.ref aR) → ∀ res, m_byteAt_b46  σ s0 = some res → xR pF (d + 1) kT252 16 2 false (some .int) (some (.int res.1)) (layR aR res.2 G, T) (46, lv, [.int s0], (layR aR σ G, T)) := by
  intro lv σ s0 g0 res h
  unfold m_byteAt_b46 at h
  cases h
  exact eE_end lk252_46 rfl rfl rfl
def m_byteAt_b22  (σ : RS) (s1 : Int32) (l1 : Int32) : Option (Int32 × RS) :=
  (some (setI σ 0 0 s1)).bind fun σ1 =>
  if xc0 .le (σ1.1 0 0) = true then (
    (rld σ1 143 l1).bind fun x4 =>
    m_byteAt_b46  σ1 (x4 &&& ((255 : Int32)))
  ) else (
    m_byteAt_b46  σ1 ((0 : Int32))
  )
set_option maxRecDepth 4000 in
theorem m_byteAt_b22_ok {pF : Nat → List Value → xH → Option (Option Value × xH)} {d : Nat} {aR : Nat} {G : Nat → xC} {T : Nat × Nat} (hp0 : xNP pF)  : ∀ (lv : xL) (σ : RS) (s1 : Int32) (l1 : Int32), xg lv 0 = some (.ref aR) → xg lv 1 = some (.int l1) → ∀ res, m_byteAt_b22  σ s1 l1 = some res → xR pF (d + 1) kT252 16 2 false (some .int) (some (.int res.1)) (layR aR res.2 G, T) (22, lv, [.int s1, .ref aR], (layR aR σ G, T)) := by
  intro lv σ s1 l1 g0 g1 res h
  unfold m_byteAt_b22 at h
  obtain ⟨σ1, h2, h⟩ := Option.bind_eq_some_iff.mp h
  refine eR_putS lk252_22 rf_393 rfl (by decide) pf_0.1 pf_0.2 h2 ?_
  refine eE_aload_n lk252_25 g0 ?_
  refine eR_get lk252_26 rf_393 rfl ?_
  refine eE_if (t := 36) lk252_29 (by decide) (fun c3 => ?_) (fun c3 => ?_)
  · rw [if_pos c3] at h
    refine eE_aload_n lk252_36 g0 ?_
    refine eR_getA lk252_37 rf_381 rfl ?_
    refine eE_iload_n lk252_40 g1 ?_
    obtain ⟨x4, h5, h⟩ := Option.bind_eq_some_iff.mp h
    refine eR_bald lk252_41 rfl (Or.inl rfl) h5 ?_
    refine eE_sipush (v := 255) lk252_42 (by decide) ?_
    refine eE_iand lk252_45 ?_
    exact m_byteAt_b46_ok hp0  lv σ1 (x4 &&& ((255 : Int32))) g0 _ h
  · rw [if_neg c3] at h
    refine eE_iconst (v := 0) lk252_32 (by decide) ?_
    refine eE_goto (t := 46) lk252_33 (by decide) ?_
    exact m_byteAt_b46_ok hp0  lv σ1 ((0 : Int32)) g0 _ h
def m_byteAt_b0  (σ : RS) (l1 : Int32) : Option (Int32 × RS) :=
  (m_in (l1.toInt64) ((0 : Int64)) (((σ.1 144 0) - ((1 : Int32))).toInt64)).bind fun p6 =>
  if xc0 .eq p6 = true then (
    m_byteAt_b22  σ ((1 : Int32)) l1
  ) else (
    m_byteAt_b22  σ ((0 : Int32)) l1
  )
set_option maxRecDepth 4000 in
theorem m_byteAt_b0_ok {pF : Nat → List Value → xH → Option (Option Value × xH)} {d : Nat} {aR : Nat} {G : Nat → xC} {T : Nat × Nat} (hp0 : xNP pF)  : ∀ (lv : xL) (σ : RS) (l1 : Int32), xg lv 0 = some (.ref aR) → xg lv 1 = some (.int l1) → ∀ res, m_byteAt_b0  σ l1 = some res → xR pF (d + 1) kT252 16 2 false (some .int) (some (.int res.1)) (layR aR res.2 G, T) (0, lv, [], (layR aR σ G, T)) := by
  intro lv σ l1 g0 g1 res h
  unfold m_byteAt_b0 at h
  refine eE_aload_n lk252_0 g0 ?_
  refine eE_iload_n lk252_1 g1 ?_
  refine eE_i2l lk252_2 ?_
  refine eE_lconst (v := 0) lk252_3 (by decide) ?_
  refine eE_aload_n lk252_4 g0 ?_
  refine eR_get lk252_5 rf_863 rfl ?_
  refine eE_iconst (v := 1) lk252_8 (by decide) ?_
  refine eE_isub lk252_9 ?_
  refine eE_i2l lk252_10 ?_
  obtain ⟨p6, h7, h⟩ := Option.bind_eq_some_iff.mp h
  refine eE_stat (as := [.long (l1.toInt64), .long ((0 : Int64)), .long (((σ.1 144 0) - ((1 : Int32))).toInt64)]) lk252_11 mr_799 na_294 rfl rfl (Nat.le_of_ble_eq_true rfl) mm_294 ws_294 (m_in_ok hp0 (d := d + 0) h7) ?_
  refine eE_if (t := 21) lk252_14 (by decide) (fun c8 => ?_) (fun c8 => ?_)
  · rw [if_pos c8] at h
    refine eE_iconst (v := 1) lk252_21 (by decide) ?_
    exact m_byteAt_b22_ok hp0  lv σ ((1 : Int32)) l1 g0 g1 _ h
  · rw [if_neg c8] at h
    refine eE_iconst (v := 0) lk252_17 (by decide) ?_
    refine eE_goto (t := 22) lk252_18 (by decide) ?_
    exact m_byteAt_b22_ok hp0  lv σ ((0 : Int32)) l1 g0 g1 _ h
def m_byteAt (σ : RS) (l1 : Int32) : Option (Int32 × RS) := m_byteAt_b0 σ l1
theorem m_byteAt_ok {pF : Nat → List Value → xH → Option (Option Value × xH)} (hp0 : xNP pF) {d : Nat} {aR : Nat} {G : Nat → xC} {T : Nat × Nat} {σ : RS} {l1 : Int32} {res : Int32 × RS} (h : m_byteAt σ l1 = some res) : xCo pF (d + 2) 252 [.ref aR, .int l1] (layR aR σ G, T) (some (.int res.1)) (layR aR res.2 G, T) := by
  unfold m_byteAt at h
  exact xCo_R kk_252 mo_252 ni_252 xm_252 (Nat.le_of_ble_eq_true rfl) (hp0 _ (by decide) (by decide) _ _) (m_byteAt_b0_ok hp0 _ σ l1 rfl rfl _ h)
/-! drawAlarm (274), depth 2 -/
def m_drawAlarm  (σ : RS) (l1 : Int32) : Option (RS) :=
  (rldL σ 84 l1).bind fun x1 =>
  (rstL σ 84 l1 (((x1 * ((6364136223846793005 : Int64))) + ((1442695040888963407 : Int64))))).bind fun σ3 =>
  (rldL σ3 84 l1).bind fun x5 =>
  if ((50 : Int64)) = 0 then none else
  (m_alarm σ3 l1 (((σ3.1 1 0) + ((50 : Int32))) + ((((x5.toUInt64 >>> (((33 : Int32)).toInt64.toUInt64 &&& Int64.toUInt64 63)).toInt64) - ((x5.toUInt64 >>> (((33 : Int32)).toInt64.toUInt64 &&& Int64.toUInt64 63)).toInt64) / ((50 : Int64)) * ((50 : Int64))).toInt32))).bind fun p8 =>
  some p8
set_option maxRecDepth 4000 in
theorem m_drawAlarm_run {pF : Nat → List Value → xH → Option (Option Value × xH)} {d : Nat} {aR : Nat} {G : Nat → xC} {T : Nat × Nat} (hp0 : xNP pF)  : ∀ (lv : xL) (σ : RS) (l1 : Int32), xg lv 0 = some (.ref aR) → xg lv 1 = some (.int l1) → ∀ res, m_drawAlarm  σ l1 = some res → xR pF (d + 1) kT274 16 2 false none none (layR aR res G, T) (0, lv, [], (layR aR σ G, T)) := by
  intro lv σ l1 g0 g1 res h
  unfold m_drawAlarm at h
  refine eE_aload_n lk274_0 g0 ?_
  refine eR_getA lk274_1 rf_218 rfl ?_
  refine eE_iload_n lk274_4 g1 ?_
  refine eE_aload_n lk274_5 g0 ?_
  refine eR_getA lk274_6 rf_218 rfl ?_
  refine eE_iload_n lk274_9 g1 ?_
  obtain ⟨x1, h2, h⟩ := Option.bind_eq_some_iff.mp h
  refine eR_lald lk274_10 rfl rfl h2 ?_
  refine eE_ldc2_w (v := 6364136223846793005) lk274_11 xl_407 ?_
  refine eE_lmul lk274_14 ?_
  refine eE_ldc2_w (v := 1442695040888963407) lk274_15 xl_409 ?_
  refine eE_ladd lk274_18 ?_
  obtain ⟨σ3, h4, h⟩ := Option.bind_eq_some_iff.mp h
  refine eR_last lk274_19 rfl rfl h4 ?_
  refine eE_aload_n lk274_20 g0 ?_
  refine eE_iload_n lk274_21 g1 ?_
  refine eE_aload_n lk274_22 g0 ?_
  refine eR_get lk274_23 rf_431 rfl ?_
  refine eE_bipush (v := 50) lk274_26 (by decide) ?_
  refine eE_iadd lk274_28 ?_
  refine eE_aload_n lk274_29 g0 ?_
  refine eR_getA lk274_30 rf_218 rfl ?_
  refine eE_iload_n lk274_33 g1 ?_
  obtain ⟨x5, h6, h⟩ := Option.bind_eq_some_iff.mp h
  refine eR_lald lk274_34 rfl rfl h6 ?_
  refine eE_bipush (v := 33) lk274_35 (by decide) ?_
  refine eE_lushr lk274_37 ?_
  refine eE_ldc2_w (v := 50) lk274_38 xl_453 ?_
  by_cases z7 : ((50 : Int64)) = 0
  · rw [if_pos z7] at h; cases h
  rw [if_neg z7] at h
  refine eE_lrem lk274_41 z7 ?_
  refine eE_l2i lk274_42 ?_
  refine eE_iadd lk274_43 ?_
  obtain ⟨p8, h9, h⟩ := Option.bind_eq_some_iff.mp h
  refine eR_call (as := [.int l1, .int (((σ3.1 1 0) + ((50 : Int32))) + ((((x5.toUInt64 >>> (((33 : Int32)).toInt64.toUInt64 &&& Int64.toUInt64 63)).toInt64) - ((x5.toUInt64 >>> (((33 : Int32)).toInt64.toUInt64 &&& Int64.toUInt64 63)).toInt64) / ((50 : Int64)) * ((50 : Int64))).toInt32))]) lk274_44 mr_455 na_241 rfl rfl (Nat.le_of_ble_eq_true rfl) wv_241 wc_241 (m_alarm_ok hp0 (d := d + 0) h9) ?_
  cases h
  exact eE_end lk274_47 rfl rfl rfl
theorem m_drawAlarm_ok {pF : Nat → List Value → xH → Option (Option Value × xH)} (hp0 : xNP pF) {d : Nat} {aR : Nat} {G : Nat → xC} {T : Nat × Nat} {σ : RS} {l1 : Int32} {res : RS} (h : m_drawAlarm σ l1 = some res) : xCo pF (d + 2) 274 [.ref aR, .int l1] (layR aR σ G, T) none (layR aR res G, T) := by
  exact xCo_R kk_274 mo_274 ni_274 xm_274 (Nat.le_of_ble_eq_true rfl) (hp0 _ (by decide) (by decide) _ _) (m_drawAlarm_run hp0 _ σ l1 rfl rfl _ h)
/-! postVoters (341), depth 5 -/
def m_postVoters_b71 (F : Nat) (K23 : RS → Int32 → Int32 → Int32 → Int32 → Int32 → Int32 → Option (RS)) (σ : RS) (l1 : Int32) (l2 : Int32) (l3 : Int32) (l4 : Int32) (l5 : Int32) (l6 : Int32) : Option (RS) :=
  K23 σ l1 l2 l3 l4 l5 (l6 + (1 : Int32))
set_option maxRecDepth 4000 in
theorem m_postVoters_b71_ok {pF : Nat → List Value → xH → Option (Option Value × xH)} {d : Nat} {aR : Nat} {G : Nat → xC} {T : Nat × Nat} {F : Nat} {K23 : RS → Int32 → Int32 → Int32 → Int32 → Int32 → Int32 → Option (RS)} (hp0 : xNP pF) (hK23 : ∀ (lv : xL) (σ : RS) (l1 : Int32) (l2 : Int32) (l3 : Int32) (l4 : Int32) (l5 : Int32) (l6 : Int32), xg lv 0 = some (.ref aR) → xg lv 1 = some (.int l1) → xg lv 2 = some (.int l2) → xg lv 3 = some (.int l3) → xg lv 4 = some (.int l4) → xg lv 5 = some (.int l5) → xg lv 6 = some (.int l6) → ∀ res, K23 σ l1 l2 l3 l4 l5 l6 = some res → xR pF (d + 4) kT341 16 7 false none none (layR aR res G, T) (23, lv, [], (layR aR σ G, T))) : ∀ (lv : xL) (σ : RS) (l1 : Int32) (l2 : Int32) (l3 : Int32) (l4 : Int32) (l5 : Int32) (l6 : Int32), xg lv 0 = some (.ref aR) → xg lv 1 = some (.int l1) → xg lv 2 = some (.int l2) → xg lv 3 = some (.int l3) → xg lv 4 = some (.int l4) → xg lv 5 = some (.int l5) → xg lv 6 = some (.int l6) → ∀ res, m_postVoters_b71 F K23 σ l1 l2 l3 l4 l5 l6 = some res → xR pF (d + 4) kT341 16 7 false none none (layR aR res G, T) (71, lv, [], (layR aR σ G, T)) := by
  intro lv σ l1 l2 l3 l4 l5 l6 g0 g1 g2 g3 g4 g5 g6 res h
  unfold m_postVoters_b71 at h
  refine eE_inc (j := 6) (v := l6 + (1 : Int32)) lk341_71 g6 rfl (by decide) (fun vq1 gq2 kq3 => ?_)
  have gq4 := kq3 1 _ (by decide) (fun _ => rfl) g1
  have gq5 := kq3 2 _ (by decide) (fun _ => rfl) g2
  have gq6 := kq3 3 _ (by decide) (fun _ => rfl) g3
  have gq7 := kq3 4 _ (by decide) (fun _ => rfl) g4
  have gq8 := kq3 5 _ (by decide) (fun _ => rfl) g5
  have gq9 := kq3 0 _ (by decide) (fun _ => rfl) g0
  refine eE_goto (t := 23) lk341_74 (by decide) ?_
  exact hK23 vq1 σ l1 l2 l3 l4 l5 (l6 + (1 : Int32)) gq9 gq4 gq5 gq6 gq7 gq8 gq2 _ h
def m_postVoters_b23 (F : Nat)  : Nat → RS → Int32 → Int32 → Int32 → Int32 → Int32 → Int32 → Option (RS)
  | 0, _, _, _, _, _, _, _ => none
  | n + 1, σ, l1, l2, l3, l4, l5, l6 =>
    let KK := m_postVoters_b23 F  n
    if xc2 .ge l6 ((7 : Int32)) = true then (
      some σ
    ) else (
      if xc2 .eq l6 l1 = true then (
        m_postVoters_b71 F KK σ l1 l2 l3 l4 l5 l6
      ) else (
        if xc0 .ne ((l5 >>> (l6 &&& 31)) &&& ((1 : Int32))) = true then (
          (rld σ 56 l1).bind fun x13 =>
          (m_write σ l2 l3 x13 l4 ((0 : Int32))).bind fun p15 =>
          (m_post F p15 l1 l6).bind fun p17 =>
          m_postVoters_b71 F KK p17 l1 l2 l3 l4 l5 l6
        ) else (
          m_postVoters_b71 F KK σ l1 l2 l3 l4 l5 l6
        )
      )
    )
set_option maxRecDepth 4000 in
theorem m_postVoters_b23_ok {pF : Nat → List Value → xH → Option (Option Value × xH)} {d : Nat} {aR : Nat} {G : Nat → xC} {T : Nat × Nat} {F : Nat} (hp0 : xNP pF)  : ∀ (n : Nat) (lv : xL) (σ : RS) (l1 : Int32) (l2 : Int32) (l3 : Int32) (l4 : Int32) (l5 : Int32) (l6 : Int32), xg lv 0 = some (.ref aR) → xg lv 1 = some (.int l1) → xg lv 2 = some (.int l2) → xg lv 3 = some (.int l3) → xg lv 4 = some (.int l4) → xg lv 5 = some (.int l5) → xg lv 6 = some (.int l6) → ∀ res, m_postVoters_b23 F  n σ l1 l2 l3 l4 l5 l6 = some res → xR pF (d + 4) kT341 16 7 false none none (layR aR res G, T) (23, lv, [], (layR aR σ G, T)) := by
  intro n
  induction n with
  | zero => intro lv σ l1 l2 l3 l4 l5 l6 g0 g1 g2 g3 g4 g5 g6 res h; simp [m_postVoters_b23] at h
  | succ n hKK =>
    intro lv σ l1 l2 l3 l4 l5 l6 g0 g1 g2 g3 g4 g5 g6 res h
    unfold m_postVoters_b23 at h
    dsimp only at h
    refine eE_iload lk341_23 g6 ?_
    refine eE_bipush (v := 7) lk341_25 (by decide) ?_
    refine eE_icmp (t := 77) lk341_27 (by decide) (fun c10 => ?_) (fun c10 => ?_)
    · rw [if_pos c10] at h
      cases h
      exact eE_end lk341_77 rfl rfl rfl
    · rw [if_neg c10] at h
      refine eE_iload lk341_30 g6 ?_
      refine eE_iload_n lk341_32 g1 ?_
      refine eE_icmp (t := 71) lk341_33 (by decide) (fun c11 => ?_) (fun c11 => ?_)
      · rw [if_pos c11] at h
        exact m_postVoters_b71_ok hp0 hKK lv σ l1 l2 l3 l4 l5 l6 g0 g1 g2 g3 g4 g5 g6 _ h
      · rw [if_neg c11] at h
        refine eE_iload lk341_36 g5 ?_
        refine eE_iload lk341_38 g6 ?_
        refine eE_ishr lk341_40 ?_
        refine eE_iconst (v := 1) lk341_41 (by decide) ?_
        refine eE_iand lk341_42 ?_
        refine eE_if (t := 49) lk341_43 (by decide) (fun c12 => ?_) (fun c12 => ?_)
        · rw [if_pos c12] at h
          refine eE_aload_n lk341_49 g0 ?_
          refine eE_iload_n lk341_50 g2 ?_
          refine eE_iload_n lk341_51 g3 ?_
          refine eE_aload_n lk341_52 g0 ?_
          refine eR_getA lk341_53 rf_132 rfl ?_
          refine eE_iload_n lk341_56 g1 ?_
          obtain ⟨x13, h14, h⟩ := Option.bind_eq_some_iff.mp h
          refine eR_iald lk341_57 rfl rfl h14 ?_
          refine eE_iload lk341_58 g4 ?_
          refine eE_iconst (v := 0) lk341_60 (by decide) ?_
          obtain ⟨p15, h16, h⟩ := Option.bind_eq_some_iff.mp h
          refine eR_call (as := [.int l2, .int l3, .int x13, .int l4, .int ((0 : Int32))]) lk341_61 mr_647 na_381 rfl rfl (Nat.le_of_ble_eq_true rfl) wv_381 wc_381 (m_write_ok hp0 (d := d + 3) h16) ?_
          refine eE_aload_n lk341_64 g0 ?_
          refine eE_iload_n lk341_65 g1 ?_
          refine eE_iload lk341_66 g6 ?_
          obtain ⟨p17, h18, h⟩ := Option.bind_eq_some_iff.mp h
          refine eR_call (as := [.int l1, .int l6]) lk341_68 mr_651 na_339 rfl rfl (Nat.le_of_ble_eq_true rfl) wv_339 wc_339 (m_post_ok hp0 (d := d + 0) h18) ?_
          exact m_postVoters_b71_ok hp0 hKK lv p17 l1 l2 l3 l4 l5 l6 g0 g1 g2 g3 g4 g5 g6 _ h
        · rw [if_neg c12] at h
          refine eE_goto (t := 71) lk341_46 (by decide) ?_
          exact m_postVoters_b71_ok hp0 hKK lv σ l1 l2 l3 l4 l5 l6 g0 g1 g2 g3 g4 g5 g6 _ h
def m_postVoters_b0 (F : Nat)  (σ : RS) (l1 : Int32) (l2 : Int32) (l3 : Int32) : Option (RS) :=
  (rld σ 56 l1).bind fun x19 =>
  (m_termAt σ l1 x19).bind fun p21 =>
  (m_voters p21.2 l1).bind fun p30 =>
  m_postVoters_b23 F  F p30.2 l1 l2 l3 (p21.1) (p30.1) ((0 : Int32))
set_option maxRecDepth 4000 in
theorem m_postVoters_b0_ok {pF : Nat → List Value → xH → Option (Option Value × xH)} {d : Nat} {aR : Nat} {G : Nat → xC} {T : Nat × Nat} {F : Nat} (hp0 : xNP pF)  : ∀ (lv : xL) (σ : RS) (l1 : Int32) (l2 : Int32) (l3 : Int32), xg lv 0 = some (.ref aR) → xg lv 1 = some (.int l1) → xg lv 2 = some (.int l2) → xg lv 3 = some (.int l3) → ∀ res, m_postVoters_b0 F  σ l1 l2 l3 = some res → xR pF (d + 4) kT341 16 7 false none none (layR aR res G, T) (0, lv, [], (layR aR σ G, T)) := by
  intro lv σ l1 l2 l3 g0 g1 g2 g3 res h
  unfold m_postVoters_b0 at h
  refine eE_aload_n lk341_0 g0 ?_
  refine eE_iload_n lk341_1 g1 ?_
  refine eE_aload_n lk341_2 g0 ?_
  refine eR_getA lk341_3 rf_132 rfl ?_
  refine eE_iload_n lk341_6 g1 ?_
  obtain ⟨x19, h20, h⟩ := Option.bind_eq_some_iff.mp h
  refine eR_iald lk341_7 rfl rfl h20 ?_
  obtain ⟨p21, h22, h⟩ := Option.bind_eq_some_iff.mp h
  refine eR_call (as := [.int l1, .int x19]) lk341_8 mr_524 na_372 rfl rfl (Nat.le_of_ble_eq_true rfl) wv_372 wc_372 (m_termAt_ok hp0 (d := d + 2) h22) ?_
  refine eE_stI (j := 4) lk341_11 (Or.inl rfl) (by decide) (fun vq23 gq24 kq25 => ?_)
  have gq26 := kq25 1 _ (by decide) (fun _ => rfl) g1
  have gq27 := kq25 2 _ (by decide) (fun _ => rfl) g2
  have gq28 := kq25 3 _ (by decide) (fun _ => rfl) g3
  have gq29 := kq25 0 _ (by decide) (fun _ => rfl) g0
  refine eE_aload_n lk341_13 gq29 ?_
  refine eE_iload_n lk341_14 gq26 ?_
  obtain ⟨p30, h31, h⟩ := Option.bind_eq_some_iff.mp h
  refine eR_call (as := [.int l1]) lk341_15 mr_628 na_380 rfl rfl (Nat.le_of_ble_eq_true rfl) wv_380 wc_380 (m_voters_ok hp0 (d := d + 2) h31) ?_
  refine eE_stI (j := 5) lk341_18 (Or.inl rfl) (by decide) (fun vq32 gq33 kq34 => ?_)
  have gq35 := kq34 1 _ (by decide) (fun _ => rfl) gq26
  have gq36 := kq34 2 _ (by decide) (fun _ => rfl) gq27
  have gq37 := kq34 3 _ (by decide) (fun _ => rfl) gq28
  have gq38 := kq34 0 _ (by decide) (fun _ => rfl) gq29
  have gq39 := kq34 4 _ (by decide) (fun _ => rfl) gq24
  refine eE_iconst (v := 0) lk341_20 (by decide) ?_
  refine eE_stI (j := 6) lk341_21 (Or.inl rfl) (by decide) (fun vq40 gq41 kq42 => ?_)
  have gq43 := kq42 1 _ (by decide) (fun _ => rfl) gq35
  have gq44 := kq42 2 _ (by decide) (fun _ => rfl) gq36
  have gq45 := kq42 3 _ (by decide) (fun _ => rfl) gq37
  have gq46 := kq42 0 _ (by decide) (fun _ => rfl) gq38
  have gq47 := kq42 4 _ (by decide) (fun _ => rfl) gq39
  have gq48 := kq42 5 _ (by decide) (fun _ => rfl) gq33
  exact m_postVoters_b23_ok hp0  F vq40 p30.2 l1 l2 l3 (p21.1) (p30.1) ((0 : Int32)) gq46 gq43 gq44 gq45 gq47 gq48 gq41 _ h
def m_postVoters (F : Nat) (σ : RS) (l1 : Int32) (l2 : Int32) (l3 : Int32) : Option (RS) := m_postVoters_b0 F σ l1 l2 l3
theorem m_postVoters_ok {pF : Nat → List Value → xH → Option (Option Value × xH)} (hp0 : xNP pF) {d : Nat} {aR : Nat} {G : Nat → xC} {T : Nat × Nat} {σ : RS} {F : Nat} {l1 : Int32} {l2 : Int32} {l3 : Int32} {res : RS} (h : m_postVoters F σ l1 l2 l3 = some res) : xCo pF (d + 5) 341 [.ref aR, .int l1, .int l2, .int l3] (layR aR σ G, T) none (layR aR res G, T) := by
  unfold m_postVoters at h
  exact xCo_R kk_341 mo_341 ni_341 xm_341 (Nat.le_of_ble_eq_true rfl) (hp0 _ (by decide) (by decide) _ _) (m_postVoters_b0_ok hp0 _ σ l1 l2 l3 rfl rfl rfl rfl _ h)
/-! laySlot (317), depth 3 -/
def m_laySlot_b31  (σ : RS) (l1 : Int32) (l2 : Int32) : Option (RS) :=
  (m_fileOf l1 l2).bind fun p1 =>
  (m_cut σ l1 l2 ((0 : Int32))).bind fun p9 =>
  (some (setI p9 48 0 ((p9.1 48 0) + ((1 : Int32))))).bind fun σ11 =>
  (rst σ11 38 p1 ((((1 : Int32)) &&& 1))).bind fun σ13 =>
  (rst σ13 37 p1 (((32 : Int32)))).bind fun σ15 =>
  (rld σ15 53 l1).bind fun x17 =>
  (rst σ15 39 p1 x17).bind fun σ19 =>
  (rld σ19 54 l1).bind fun x21 =>
  (rst σ19 40 p1 x21).bind fun σ23 =>
  (rst σ23 41 p1 ((σ23.1 48 0))).bind fun σ25 =>
  (rst σ25 45 l1 l2).bind fun σ27 =>
  (rst σ27 46 l1 ((((1 : Int32)) &&& 1))).bind fun σ29 =>
  some σ29
set_option maxRecDepth 4000 in
theorem m_laySlot_b31_ok {pF : Nat → List Value → xH → Option (Option Value × xH)} {d : Nat} {aR : Nat} {G : Nat → xC} {T : Nat × Nat} (hp0 : xNP pF)  : ∀ (lv : xL) (σ : RS) (l1 : Int32) (l2 : Int32), xg lv 0 = some (.ref aR) → xg lv 1 = some (.int l1) → xg lv 2 = some (.int l2) → ∀ res, m_laySlot_b31  σ l1 l2 = some res → xR pF (d + 2) kT317 16 4 false none none (layR aR res G, T) (31, lv, [], (layR aR σ G, T)) := by
  intro lv σ l1 l2 g0 g1 g2 res h
  unfold m_laySlot_b31 at h
  refine eE_iload_n lk317_31 g1 ?_
  refine eE_iload_n lk317_32 g2 ?_
  obtain ⟨p1, h2, h⟩ := Option.bind_eq_some_iff.mp h
  refine eE_stat (as := [.int l1, .int l2]) lk317_33 mr_492 na_280 rfl rfl (Nat.le_of_ble_eq_true rfl) mm_280 ws_280 (m_fileOf_ok hp0 (d := d + 1) h2) ?_
  refine eE_stI (j := 3) lk317_36 (Or.inr ⟨_, rfl, rfl⟩) (by decide) (fun vq3 gq4 kq5 => ?_)
  have gq6 := kq5 1 _ (by decide) (fun _ => rfl) g1
  have gq7 := kq5 2 _ (by decide) (fun _ => rfl) g2
  have gq8 := kq5 0 _ (by decide) (fun _ => rfl) g0
  refine eE_aload_n lk317_37 gq8 ?_
  refine eE_iload_n lk317_38 gq6 ?_
  refine eE_iload_n lk317_39 gq7 ?_
  refine eE_iconst (v := 0) lk317_40 (by decide) ?_
  obtain ⟨p9, h10, h⟩ := Option.bind_eq_some_iff.mp h
  refine eR_call (as := [.int l1, .int l2, .int ((0 : Int32))]) lk317_41 mr_508 na_268 rfl rfl (Nat.le_of_ble_eq_true rfl) wv_268 wc_268 (m_cut_ok hp0 (d := d + 0) h10) ?_
  refine eE_aload_n lk317_44 gq8 ?_
  refine eE_dup lk317_45 rfl ?_
  refine eR_get lk317_46 rf_511 rfl ?_
  refine eE_iconst (v := 1) lk317_49 (by decide) ?_
  refine eE_iadd lk317_50 ?_
  obtain ⟨σ11, h12, h⟩ := Option.bind_eq_some_iff.mp h
  refine eR_putS lk317_51 rf_511 rfl (by decide) pf_48.1 pf_48.2 h12 ?_
  refine eE_aload_n lk317_54 gq8 ?_
  refine eR_getA lk317_55 rf_81 rfl ?_
  refine eE_iload_n lk317_58 gq4 ?_
  refine eE_iconst (v := 1) lk317_59 (by decide) ?_
  obtain ⟨σ13, h14, h⟩ := Option.bind_eq_some_iff.mp h
  refine eR_zast lk317_60 rfl rfl rfl h14 ?_
  refine eE_aload_n lk317_61 gq8 ?_
  refine eR_getA lk317_62 rf_78 rfl ?_
  refine eE_iload_n lk317_65 gq4 ?_
  refine eE_bipush (v := 32) lk317_66 (by decide) ?_
  obtain ⟨σ15, h16, h⟩ := Option.bind_eq_some_iff.mp h
  refine eR_iast lk317_68 rfl rfl h16 ?_
  refine eE_aload_n lk317_69 gq8 ?_
  refine eR_getA lk317_70 rf_84 rfl ?_
  refine eE_iload_n lk317_73 gq4 ?_
  refine eE_aload_n lk317_74 gq8 ?_
  refine eR_getA lk317_75 rf_123 rfl ?_
  refine eE_iload_n lk317_78 gq6 ?_
  obtain ⟨x17, h18, h⟩ := Option.bind_eq_some_iff.mp h
  refine eR_iald lk317_79 rfl rfl h18 ?_
  obtain ⟨σ19, h20, h⟩ := Option.bind_eq_some_iff.mp h
  refine eR_iast lk317_80 rfl rfl h20 ?_
  refine eE_aload_n lk317_81 gq8 ?_
  refine eR_getA lk317_82 rf_87 rfl ?_
  refine eE_iload_n lk317_85 gq4 ?_
  refine eE_aload_n lk317_86 gq8 ?_
  refine eR_getA lk317_87 rf_126 rfl ?_
  refine eE_iload_n lk317_90 gq6 ?_
  obtain ⟨x21, h22, h⟩ := Option.bind_eq_some_iff.mp h
  refine eR_iald lk317_91 rfl rfl h22 ?_
  obtain ⟨σ23, h24, h⟩ := Option.bind_eq_some_iff.mp h
  refine eR_iast lk317_92 rfl rfl h24 ?_
  refine eE_aload_n lk317_93 gq8 ?_
  refine eR_getA lk317_94 rf_90 rfl ?_
  refine eE_iload_n lk317_97 gq4 ?_
  refine eE_aload_n lk317_98 gq8 ?_
  refine eR_get lk317_99 rf_511 rfl ?_
  obtain ⟨σ25, h26, h⟩ := Option.bind_eq_some_iff.mp h
  refine eR_iast lk317_102 rfl rfl h26 ?_
  refine eE_aload_n lk317_103 gq8 ?_
  refine eR_getA lk317_104 rf_102 rfl ?_
  refine eE_iload_n lk317_107 gq6 ?_
  refine eE_iload_n lk317_108 gq7 ?_
  obtain ⟨σ27, h28, h⟩ := Option.bind_eq_some_iff.mp h
  refine eR_iast lk317_109 rfl rfl h28 ?_
  refine eE_aload_n lk317_110 gq8 ?_
  refine eR_getA lk317_111 rf_105 rfl ?_
  refine eE_iload_n lk317_114 gq6 ?_
  refine eE_iconst (v := 1) lk317_115 (by decide) ?_
  obtain ⟨σ29, h30, h⟩ := Option.bind_eq_some_iff.mp h
  refine eR_zast lk317_116 rfl rfl rfl h30 ?_
  cases h
  exact eE_end lk317_117 rfl rfl rfl
def m_laySlot_b30  (σ : RS) (s0 : Int32) (l1 : Int32) : Option (RS) :=
  m_laySlot_b31  σ l1 s0
set_option maxRecDepth 4000 in
theorem m_laySlot_b30_ok {pF : Nat → List Value → xH → Option (Option Value × xH)} {d : Nat} {aR : Nat} {G : Nat → xC} {T : Nat × Nat} (hp0 : xNP pF)  : ∀ (lv : xL) (σ : RS) (s0 : Int32) (l1 : Int32), xg lv 0 = some (.ref aR) → xg lv 1 = some (.int l1) → ∀ res, m_laySlot_b30  σ s0 l1 = some res → xR pF (d + 2) kT317 16 4 false none none (layR aR res G, T) (30, lv, [.int s0], (layR aR σ G, T)) := by
  intro lv σ s0 l1 g0 g1 res h
  unfold m_laySlot_b30 at h
  refine eE_stI (j := 2) lk317_30 (Or.inr ⟨_, rfl, rfl⟩) (by decide) (fun vq31 gq32 kq33 => ?_)
  have gq34 := kq33 1 _ (by decide) (fun _ => rfl) g1
  have gq35 := kq33 0 _ (by decide) (fun _ => rfl) g0
  exact m_laySlot_b31_ok hp0  vq31 σ l1 s0 gq35 gq34 gq32 _ h
def m_laySlot_b20  (σ : RS) (l1 : Int32) (l2 : Int32) : Option (RS) :=
  if xc2 .ne l2 ((1 : Int32)) = true then (
    m_laySlot_b30  σ ((1 : Int32)) l1
  ) else (
    m_laySlot_b30  σ ((0 : Int32)) l1
  )
set_option maxRecDepth 4000 in
theorem m_laySlot_b20_ok {pF : Nat → List Value → xH → Option (Option Value × xH)} {d : Nat} {aR : Nat} {G : Nat → xC} {T : Nat × Nat} (hp0 : xNP pF)  : ∀ (lv : xL) (σ : RS) (l1 : Int32) (l2 : Int32), xg lv 0 = some (.ref aR) → xg lv 1 = some (.int l1) → xg lv 2 = some (.int l2) → ∀ res, m_laySlot_b20  σ l1 l2 = some res → xR pF (d + 2) kT317 16 4 false none none (layR aR res G, T) (20, lv, [], (layR aR σ G, T)) := by
  intro lv σ l1 l2 g0 g1 g2 res h
  unfold m_laySlot_b20 at h
  refine eE_iload_n lk317_20 g2 ?_
  refine eE_iconst (v := 1) lk317_21 (by decide) ?_
  refine eE_icmp (t := 29) lk317_22 (by decide) (fun c36 => ?_) (fun c36 => ?_)
  · rw [if_pos c36] at h
    refine eE_iconst (v := 1) lk317_29 (by decide) ?_
    exact m_laySlot_b30_ok hp0  lv σ ((1 : Int32)) l1 g0 g1 _ h
  · rw [if_neg c36] at h
    refine eE_iconst (v := 0) lk317_25 (by decide) ?_
    refine eE_goto (t := 30) lk317_26 (by decide) ?_
    exact m_laySlot_b30_ok hp0  lv σ ((0 : Int32)) l1 g0 g1 _ h
def m_laySlot_b0  (σ : RS) (l1 : Int32) : Option (RS) :=
  (rld σ 45 l1).bind fun x37 =>
  if xc0 .lt x37 = true then (
    m_laySlot_b20  σ l1 x37
  ) else (
    (rld σ 46 l1).bind fun x45 =>
    if xc0 .ne x45 = true then (
      m_laySlot_b31  σ l1 x37
    ) else (
      m_laySlot_b20  σ l1 x37
    )
  )
set_option maxRecDepth 4000 in
theorem m_laySlot_b0_ok {pF : Nat → List Value → xH → Option (Option Value × xH)} {d : Nat} {aR : Nat} {G : Nat → xC} {T : Nat × Nat} (hp0 : xNP pF)  : ∀ (lv : xL) (σ : RS) (l1 : Int32), xg lv 0 = some (.ref aR) → xg lv 1 = some (.int l1) → ∀ res, m_laySlot_b0  σ l1 = some res → xR pF (d + 2) kT317 16 4 false none none (layR aR res G, T) (0, lv, [], (layR aR σ G, T)) := by
  intro lv σ l1 g0 g1 res h
  unfold m_laySlot_b0 at h
  refine eE_aload_n lk317_0 g0 ?_
  refine eR_getA lk317_1 rf_102 rfl ?_
  refine eE_iload_n lk317_4 g1 ?_
  obtain ⟨x37, h38, h⟩ := Option.bind_eq_some_iff.mp h
  refine eR_iald lk317_5 rfl rfl h38 ?_
  refine eE_stI (j := 2) lk317_6 (Or.inr ⟨_, rfl, rfl⟩) (by decide) (fun vq39 gq40 kq41 => ?_)
  have gq42 := kq41 1 _ (by decide) (fun _ => rfl) g1
  have gq43 := kq41 0 _ (by decide) (fun _ => rfl) g0
  refine eE_iload_n lk317_7 gq40 ?_
  refine eE_if (t := 20) lk317_8 (by decide) (fun c44 => ?_) (fun c44 => ?_)
  · rw [if_pos c44] at h
    exact m_laySlot_b20_ok hp0  vq39 σ l1 x37 gq43 gq42 gq40 _ h
  · rw [if_neg c44] at h
    refine eE_aload_n lk317_11 gq43 ?_
    refine eR_getA lk317_12 rf_105 rfl ?_
    refine eE_iload_n lk317_15 gq42 ?_
    obtain ⟨x45, h46, h⟩ := Option.bind_eq_some_iff.mp h
    refine eR_bald lk317_16 rfl (Or.inr rfl) h46 ?_
    refine eE_if (t := 31) lk317_17 (by decide) (fun c47 => ?_) (fun c47 => ?_)
    · rw [if_pos c47] at h
      exact m_laySlot_b31_ok hp0  vq39 σ l1 x37 gq43 gq42 gq40 _ h
    · rw [if_neg c47] at h
      exact m_laySlot_b20_ok hp0  vq39 σ l1 x37 gq43 gq42 gq40 _ h
def m_laySlot (σ : RS) (l1 : Int32) : Option (RS) := m_laySlot_b0 σ l1
theorem m_laySlot_ok {pF : Nat → List Value → xH → Option (Option Value × xH)} (hp0 : xNP pF) {d : Nat} {aR : Nat} {G : Nat → xC} {T : Nat × Nat} {σ : RS} {l1 : Int32} {res : RS} (h : m_laySlot σ l1 = some res) : xCo pF (d + 3) 317 [.ref aR, .int l1] (layR aR σ G, T) none (layR aR res G, T) := by
  unfold m_laySlot at h
  exact xCo_R kk_317 mo_317 ni_317 xm_317 (Nat.le_of_ble_eq_true rfl) (hp0 _ (by decide) (by decide) _ _) (m_laySlot_b0_ok hp0 _ σ l1 rfl rfl _ h)
/-! writeSlot (384), depth 4 -/
def m_writeSlot  (σ : RS) (l1 : Int32) : Option (RS) :=
  (m_laySlot σ l1).bind fun p1 =>
  (m_soil p1 l1).bind fun p3 =>
  some p3
set_option maxRecDepth 4000 in
theorem m_writeSlot_run {pF : Nat → List Value → xH → Option (Option Value × xH)} {d : Nat} {aR : Nat} {G : Nat → xC} {T : Nat × Nat} (hp0 : xNP pF)  : ∀ (lv : xL) (σ : RS) (l1 : Int32), xg lv 0 = some (.ref aR) → xg lv 1 = some (.int l1) → ∀ res, m_writeSlot  σ l1 = some res → xR pF (d + 3) kT384 16 2 false none none (layR aR res G, T) (0, lv, [], (layR aR σ G, T)) := by
  intro lv σ l1 g0 g1 res h
  unfold m_writeSlot at h
  refine eE_aload_n lk384_0 g0 ?_
  refine eE_iload_n lk384_1 g1 ?_
  obtain ⟨p1, h2, h⟩ := Option.bind_eq_some_iff.mp h
  refine eR_call (as := [.int l1]) lk384_2 mr_502 na_317 rfl rfl (Nat.le_of_ble_eq_true rfl) wv_317 wc_317 (m_laySlot_ok hp0 (d := d + 0) h2) ?_
  refine eE_aload_n lk384_5 g0 ?_
  refine eE_iload_n lk384_6 g1 ?_
  obtain ⟨p3, h4, h⟩ := Option.bind_eq_some_iff.mp h
  refine eR_call (as := [.int l1]) lk384_7 mr_505 na_360 rfl rfl (Nat.le_of_ble_eq_true rfl) wv_360 wc_360 (m_soil_ok hp0 (d := d + 2) h4) ?_
  cases h
  exact eE_end lk384_10 rfl rfl rfl
theorem m_writeSlot_ok {pF : Nat → List Value → xH → Option (Option Value × xH)} (hp0 : xNP pF) {d : Nat} {aR : Nat} {G : Nat → xC} {T : Nat × Nat} {σ : RS} {l1 : Int32} {res : RS} (h : m_writeSlot σ l1 = some res) : xCo pF (d + 4) 384 [.ref aR, .int l1] (layR aR σ G, T) none (layR aR res G, T) := by
  exact xCo_R kk_384 mo_384 ni_384 xm_384 (Nat.le_of_ble_eq_true rfl) (hp0 _ (by decide) (by decide) _ _) (m_writeSlot_run hp0 _ σ l1 rfl rfl _ h)
/-! campaign (254), depth 6 -/
def m_campaign (F : Nat)  (σ : RS) (l1 : Int32) : Option (RS) :=
  (rst σ 73 l1 (((2 : Int32)))).bind fun σ1 =>
  (rst σ1 74 l1 (((-1 : Int32)))).bind fun σ3 =>
  (rld σ3 53 l1).bind fun x5 =>
  (rst σ3 53 l1 ((x5 + ((1 : Int32))))).bind fun σ7 =>
  (rst σ7 54 l1 l1).bind fun σ9 =>
  (m_writeSlot σ9 l1).bind fun p11 =>
  (rst p11 79 l1 (((0 : Int32)))).bind fun σ13 =>
  (m_drawAlarm σ13 l1).bind fun p15 =>
  (rld p15 53 l1).bind fun x17 =>
  (m_postVoters F p15 l1 ((3 : Int32)) x17).bind fun p19 =>
  some p19
set_option maxRecDepth 4000 in
theorem m_campaign_run {pF : Nat → List Value → xH → Option (Option Value × xH)} {d : Nat} {aR : Nat} {G : Nat → xC} {T : Nat × Nat} {F : Nat} (hp0 : xNP pF)  : ∀ (lv : xL) (σ : RS) (l1 : Int32), xg lv 0 = some (.ref aR) → xg lv 1 = some (.int l1) → ∀ res, m_campaign F  σ l1 = some res → xR pF (d + 5) kT254 16 2 false none none (layR aR res G, T) (0, lv, [], (layR aR σ G, T)) := by
  intro lv σ l1 g0 g1 res h
  unfold m_campaign at h
  refine eE_aload_n lk254_0 g0 ?_
  refine eR_getA lk254_1 rf_185 rfl ?_
  refine eE_iload_n lk254_4 g1 ?_
  refine eE_iconst (v := 2) lk254_5 (by decide) ?_
  obtain ⟨σ1, h2, h⟩ := Option.bind_eq_some_iff.mp h
  refine eR_iast lk254_6 rfl rfl h2 ?_
  refine eE_aload_n lk254_7 g0 ?_
  refine eR_getA lk254_8 rf_188 rfl ?_
  refine eE_iload_n lk254_11 g1 ?_
  refine eE_iconst (v := (-1)) lk254_12 (by decide) ?_
  obtain ⟨σ3, h4, h⟩ := Option.bind_eq_some_iff.mp h
  refine eR_iast lk254_13 rfl rfl h4 ?_
  refine eE_aload_n lk254_14 g0 ?_
  refine eR_getA lk254_15 rf_123 rfl ?_
  refine eE_iload_n lk254_18 g1 ?_
  refine eE_dup2 lk254_19 rfl rfl ?_
  obtain ⟨x5, h6, h⟩ := Option.bind_eq_some_iff.mp h
  refine eR_iald lk254_20 rfl rfl h6 ?_
  refine eE_iconst (v := 1) lk254_21 (by decide) ?_
  refine eE_iadd lk254_22 ?_
  obtain ⟨σ7, h8, h⟩ := Option.bind_eq_some_iff.mp h
  refine eR_iast lk254_23 rfl rfl h8 ?_
  refine eE_aload_n lk254_24 g0 ?_
  refine eR_getA lk254_25 rf_126 rfl ?_
  refine eE_iload_n lk254_28 g1 ?_
  refine eE_iload_n lk254_29 g1 ?_
  obtain ⟨σ9, h10, h⟩ := Option.bind_eq_some_iff.mp h
  refine eR_iast lk254_30 rfl rfl h10 ?_
  refine eE_aload_n lk254_31 g0 ?_
  refine eE_iload_n lk254_32 g1 ?_
  obtain ⟨p11, h12, h⟩ := Option.bind_eq_some_iff.mp h
  refine eR_call (as := [.int l1]) lk254_33 mr_641 na_384 rfl rfl (Nat.le_of_ble_eq_true rfl) wv_384 wc_384 (m_writeSlot_ok hp0 (d := d + 1) h12) ?_
  refine eE_aload_n lk254_36 g0 ?_
  refine eR_getA lk254_37 rf_203 rfl ?_
  refine eE_iload_n lk254_40 g1 ?_
  refine eE_iconst (v := 0) lk254_41 (by decide) ?_
  obtain ⟨σ13, h14, h⟩ := Option.bind_eq_some_iff.mp h
  refine eR_iast lk254_42 rfl rfl h14 ?_
  refine eE_aload_n lk254_43 g0 ?_
  refine eE_iload_n lk254_44 g1 ?_
  obtain ⟨p15, h16, h⟩ := Option.bind_eq_some_iff.mp h
  refine eR_call (as := [.int l1]) lk254_45 mr_389 na_274 rfl rfl (Nat.le_of_ble_eq_true rfl) wv_274 wc_274 (m_drawAlarm_ok hp0 (d := d + 3) h16) ?_
  refine eE_aload_n lk254_48 g0 ?_
  refine eE_iload_n lk254_49 g1 ?_
  refine eE_iconst (v := 3) lk254_50 (by decide) ?_
  refine eE_aload_n lk254_51 g0 ?_
  refine eR_getA lk254_52 rf_123 rfl ?_
  refine eE_iload_n lk254_55 g1 ?_
  obtain ⟨x17, h18, h⟩ := Option.bind_eq_some_iff.mp h
  refine eR_iald lk254_56 rfl rfl h18 ?_
  obtain ⟨p19, h20, h⟩ := Option.bind_eq_some_iff.mp h
  refine eR_call (as := [.int l1, .int ((3 : Int32)), .int x17]) lk254_57 mr_666 na_341 rfl rfl (Nat.le_of_ble_eq_true rfl) wv_341 wc_341 (m_postVoters_ok hp0 (d := d + 0) h20) ?_
  cases h
  exact eE_end lk254_60 rfl rfl rfl
theorem m_campaign_ok {pF : Nat → List Value → xH → Option (Option Value × xH)} (hp0 : xNP pF) {d : Nat} {aR : Nat} {G : Nat → xC} {T : Nat × Nat} {σ : RS} {F : Nat} {l1 : Int32} {res : RS} (h : m_campaign F σ l1 = some res) : xCo pF (d + 6) 254 [.ref aR, .int l1] (layR aR σ G, T) none (layR aR res G, T) := by
  exact xCo_R kk_254 mo_254 ni_254 xm_254 (Nat.le_of_ble_eq_true rfl) (hp0 _ (by decide) (by decide) _ _) (m_campaign_run hp0 _ σ l1 rfl rfl _ h)
/-! dropRequests (275), depth 1 -/
def m_dropRequests_b5 (F : Nat)  : Nat → RS → Int32 → Int32 → Option (RS)
  | 0, _, _, _ => none
  | n + 1, σ, l1, l2 =>
    let KK := m_dropRequests_b5 F  n
    if xc2 .ge l2 ((((32 : Int32)) * l1) + ((32 : Int32))) = true then (
      some σ
    ) else (
      (rst σ 95 l2 ((((0 : Int32)) &&& 1))).bind fun σ2 =>
      KK σ2 l1 (l2 + (1 : Int32))
    )
set_option maxRecDepth 4000 in
theorem m_dropRequests_b5_ok {pF : Nat → List Value → xH → Option (Option Value × xH)} {d : Nat} {aR : Nat} {G : Nat → xC} {T : Nat × Nat} {F : Nat} (hp0 : xNP pF)  : ∀ (n : Nat) (lv : xL) (σ : RS) (l1 : Int32) (l2 : Int32), xg lv 0 = some (.ref aR) → xg lv 1 = some (.int l1) → xg lv 2 = some (.int l2) → ∀ res, m_dropRequests_b5 F  n σ l1 l2 = some res → xR pF (d + 0) kT275 16 3 false none none (layR aR res G, T) (5, lv, [], (layR aR σ G, T)) := by
  intro n
  induction n with
  | zero => intro lv σ l1 l2 g0 g1 g2 res h; simp [m_dropRequests_b5] at h
  | succ n hKK =>
    intro lv σ l1 l2 g0 g1 g2 res h
    unfold m_dropRequests_b5 at h
    dsimp only at h
    refine eE_iload_n lk275_5 g2 ?_
    refine eE_bipush (v := 32) lk275_6 (by decide) ?_
    refine eE_iload_n lk275_8 g1 ?_
    refine eE_imul lk275_9 ?_
    refine eE_bipush (v := 32) lk275_10 (by decide) ?_
    refine eE_iadd lk275_12 ?_
    refine eE_icmp (t := 29) lk275_13 (by decide) (fun c1 => ?_) (fun c1 => ?_)
    · rw [if_pos c1] at h
      cases h
      exact eE_end lk275_29 rfl rfl rfl
    · rw [if_neg c1] at h
      refine eE_aload_n lk275_16 g0 ?_
      refine eR_getA lk275_17 rf_251 rfl ?_
      refine eE_iload_n lk275_20 g2 ?_
      refine eE_iconst (v := 0) lk275_21 (by decide) ?_
      obtain ⟨σ2, h3, h⟩ := Option.bind_eq_some_iff.mp h
      refine eR_zast lk275_22 rfl rfl rfl h3 ?_
      refine eE_inc (j := 2) (v := l2 + (1 : Int32)) lk275_23 g2 rfl (by decide) (fun vq4 gq5 kq6 => ?_)
      have gq7 := kq6 1 _ (by decide) (fun _ => rfl) g1
      have gq8 := kq6 0 _ (by decide) (fun _ => rfl) g0
      refine eE_goto (t := 5) lk275_26 (by decide) ?_
      exact hKK vq4 σ2 l1 (l2 + (1 : Int32)) gq8 gq7 gq5 _ h
def m_dropRequests_b0 (F : Nat)  (σ : RS) (l1 : Int32) : Option (RS) :=
  m_dropRequests_b5 F  F σ l1 (((32 : Int32)) * l1)
set_option maxRecDepth 4000 in
theorem m_dropRequests_b0_ok {pF : Nat → List Value → xH → Option (Option Value × xH)} {d : Nat} {aR : Nat} {G : Nat → xC} {T : Nat × Nat} {F : Nat} (hp0 : xNP pF)  : ∀ (lv : xL) (σ : RS) (l1 : Int32), xg lv 0 = some (.ref aR) → xg lv 1 = some (.int l1) → ∀ res, m_dropRequests_b0 F  σ l1 = some res → xR pF (d + 0) kT275 16 3 false none none (layR aR res G, T) (0, lv, [], (layR aR σ G, T)) := by
  intro lv σ l1 g0 g1 res h
  unfold m_dropRequests_b0 at h
  refine eE_bipush (v := 32) lk275_0 (by decide) ?_
  refine eE_iload_n lk275_2 g1 ?_
  refine eE_imul lk275_3 ?_
  refine eE_stI (j := 2) lk275_4 (Or.inr ⟨_, rfl, rfl⟩) (by decide) (fun vq9 gq10 kq11 => ?_)
  have gq12 := kq11 1 _ (by decide) (fun _ => rfl) g1
  have gq13 := kq11 0 _ (by decide) (fun _ => rfl) g0
  exact m_dropRequests_b5_ok hp0  F vq9 σ l1 (((32 : Int32)) * l1) gq13 gq12 gq10 _ h
def m_dropRequests (F : Nat) (σ : RS) (l1 : Int32) : Option (RS) := m_dropRequests_b0 F σ l1
theorem m_dropRequests_ok {pF : Nat → List Value → xH → Option (Option Value × xH)} (hp0 : xNP pF) {d : Nat} {aR : Nat} {G : Nat → xC} {T : Nat × Nat} {σ : RS} {F : Nat} {l1 : Int32} {res : RS} (h : m_dropRequests F σ l1 = some res) : xCo pF (d + 1) 275 [.ref aR, .int l1] (layR aR σ G, T) none (layR aR res G, T) := by
  unfold m_dropRequests at h
  exact xCo_R kk_275 mo_275 ni_275 xm_275 (Nat.le_of_ble_eq_true rfl) (hp0 _ (by decide) (by decide) _ _) (m_dropRequests_b0_ok hp0 _ σ l1 rfl rfl _ h)
/-! stepDown (363), depth 5 -/
def m_stepDown_b56 (F : Nat)  (σ : RS) (l1 : Int32) (l3 : Int32) : Option (RS) :=
  (rst σ 73 l1 (((0 : Int32)))).bind fun σ1 =>
  (rst σ1 74 l1 l3).bind fun σ3 =>
  some σ3
set_option maxRecDepth 4000 in
theorem m_stepDown_b56_ok {pF : Nat → List Value → xH → Option (Option Value × xH)} {d : Nat} {aR : Nat} {G : Nat → xC} {T : Nat × Nat} {F : Nat} (hp0 : xNP pF)  : ∀ (lv : xL) (σ : RS) (l1 : Int32) (l3 : Int32), xg lv 0 = some (.ref aR) → xg lv 1 = some (.int l1) → xg lv 3 = some (.int l3) → ∀ res, m_stepDown_b56 F  σ l1 l3 = some res → xR pF (d + 4) kT363 16 4 false none none (layR aR res G, T) (56, lv, [], (layR aR σ G, T)) := by
  intro lv σ l1 l3 g0 g1 g3 res h
  unfold m_stepDown_b56 at h
  refine eE_aload_n lk363_56 g0 ?_
  refine eR_getA lk363_57 rf_185 rfl ?_
  refine eE_iload_n lk363_60 g1 ?_
  refine eE_iconst (v := 0) lk363_61 (by decide) ?_
  obtain ⟨σ1, h2, h⟩ := Option.bind_eq_some_iff.mp h
  refine eR_iast lk363_62 rfl rfl h2 ?_
  refine eE_aload_n lk363_63 g0 ?_
  refine eR_getA lk363_64 rf_188 rfl ?_
  refine eE_iload_n lk363_67 g1 ?_
  refine eE_iload_n lk363_68 g3 ?_
  obtain ⟨σ3, h4, h⟩ := Option.bind_eq_some_iff.mp h
  refine eR_iast lk363_69 rfl rfl h4 ?_
  cases h
  exact eE_end lk363_70 rfl rfl rfl
def m_stepDown_b29 (F : Nat)  (σ : RS) (l1 : Int32) (l3 : Int32) : Option (RS) :=
  (rld σ 73 l1).bind fun x5 =>
  if xc2 .ne x5 ((3 : Int32)) = true then (
    m_stepDown_b56 F  σ l1 l3
  ) else (
    (m_drawAlarm σ l1).bind fun p8 =>
    (m_dropRequests F p8 l1).bind fun p10 =>
    (rst p10 80 l1 (((-1 : Int32)))).bind fun σ12 =>
    m_stepDown_b56 F  σ12 l1 l3
  )
set_option maxRecDepth 4000 in
theorem m_stepDown_b29_ok {pF : Nat → List Value → xH → Option (Option Value × xH)} {d : Nat} {aR : Nat} {G : Nat → xC} {T : Nat × Nat} {F : Nat} (hp0 : xNP pF)  : ∀ (lv : xL) (σ : RS) (l1 : Int32) (l3 : Int32), xg lv 0 = some (.ref aR) → xg lv 1 = some (.int l1) → xg lv 3 = some (.int l3) → ∀ res, m_stepDown_b29 F  σ l1 l3 = some res → xR pF (d + 4) kT363 16 4 false none none (layR aR res G, T) (29, lv, [], (layR aR σ G, T)) := by
  intro lv σ l1 l3 g0 g1 g3 res h
  unfold m_stepDown_b29 at h
  refine eE_aload_n lk363_29 g0 ?_
  refine eR_getA lk363_30 rf_185 rfl ?_
  refine eE_iload_n lk363_33 g1 ?_
  obtain ⟨x5, h6, h⟩ := Option.bind_eq_some_iff.mp h
  refine eR_iald lk363_34 rfl rfl h6 ?_
  refine eE_iconst (v := 3) lk363_35 (by decide) ?_
  refine eE_icmp (t := 56) lk363_36 (by decide) (fun c7 => ?_) (fun c7 => ?_)
  · rw [if_pos c7] at h
    exact m_stepDown_b56_ok hp0  lv σ l1 l3 g0 g1 g3 _ h
  · rw [if_neg c7] at h
    refine eE_aload_n lk363_39 g0 ?_
    refine eE_iload_n lk363_40 g1 ?_
    obtain ⟨p8, h9, h⟩ := Option.bind_eq_some_iff.mp h
    refine eR_call (as := [.int l1]) lk363_41 mr_389 na_274 rfl rfl (Nat.le_of_ble_eq_true rfl) wv_274 wc_274 (m_drawAlarm_ok hp0 (d := d + 2) h9) ?_
    refine eE_aload_n lk363_44 g0 ?_
    refine eE_iload_n lk363_45 g1 ?_
    obtain ⟨p10, h11, h⟩ := Option.bind_eq_some_iff.mp h
    refine eR_call (as := [.int l1]) lk363_46 mr_644 na_275 rfl rfl (Nat.le_of_ble_eq_true rfl) wv_275 wc_275 (m_dropRequests_ok hp0 (d := d + 3) h11) ?_
    refine eE_aload_n lk363_49 g0 ?_
    refine eR_getA lk363_50 rf_206 rfl ?_
    refine eE_iload_n lk363_53 g1 ?_
    refine eE_iconst (v := (-1)) lk363_54 (by decide) ?_
    obtain ⟨σ12, h13, h⟩ := Option.bind_eq_some_iff.mp h
    refine eR_iast lk363_55 rfl rfl h13 ?_
    exact m_stepDown_b56_ok hp0  lv σ12 l1 l3 g0 g1 g3 _ h
def m_stepDown_b0 (F : Nat)  (σ : RS) (l1 : Int32) (l2 : Int32) (l3 : Int32) : Option (RS) :=
  (rld σ 53 l1).bind fun x14 =>
  if xc2 .le l2 x14 = true then (
    m_stepDown_b29 F  σ l1 l3
  ) else (
    (rst σ 53 l1 l2).bind fun σ17 =>
    (rst σ17 54 l1 (((-1 : Int32)))).bind fun σ19 =>
    (m_writeSlot σ19 l1).bind fun p21 =>
    m_stepDown_b29 F  p21 l1 l3
  )
set_option maxRecDepth 4000 in
theorem m_stepDown_b0_ok {pF : Nat → List Value → xH → Option (Option Value × xH)} {d : Nat} {aR : Nat} {G : Nat → xC} {T : Nat × Nat} {F : Nat} (hp0 : xNP pF)  : ∀ (lv : xL) (σ : RS) (l1 : Int32) (l2 : Int32) (l3 : Int32), xg lv 0 = some (.ref aR) → xg lv 1 = some (.int l1) → xg lv 2 = some (.int l2) → xg lv 3 = some (.int l3) → ∀ res, m_stepDown_b0 F  σ l1 l2 l3 = some res → xR pF (d + 4) kT363 16 4 false none none (layR aR res G, T) (0, lv, [], (layR aR σ G, T)) := by
  intro lv σ l1 l2 l3 g0 g1 g2 g3 res h
  unfold m_stepDown_b0 at h
  refine eE_iload_n lk363_0 g2 ?_
  refine eE_aload_n lk363_1 g0 ?_
  refine eR_getA lk363_2 rf_123 rfl ?_
  refine eE_iload_n lk363_5 g1 ?_
  obtain ⟨x14, h15, h⟩ := Option.bind_eq_some_iff.mp h
  refine eR_iald lk363_6 rfl rfl h15 ?_
  refine eE_icmp (t := 29) lk363_7 (by decide) (fun c16 => ?_) (fun c16 => ?_)
  · rw [if_pos c16] at h
    exact m_stepDown_b29_ok hp0  lv σ l1 l3 g0 g1 g3 _ h
  · rw [if_neg c16] at h
    refine eE_aload_n lk363_10 g0 ?_
    refine eR_getA lk363_11 rf_123 rfl ?_
    refine eE_iload_n lk363_14 g1 ?_
    refine eE_iload_n lk363_15 g2 ?_
    obtain ⟨σ17, h18, h⟩ := Option.bind_eq_some_iff.mp h
    refine eR_iast lk363_16 rfl rfl h18 ?_
    refine eE_aload_n lk363_17 g0 ?_
    refine eR_getA lk363_18 rf_126 rfl ?_
    refine eE_iload_n lk363_21 g1 ?_
    refine eE_iconst (v := (-1)) lk363_22 (by decide) ?_
    obtain ⟨σ19, h20, h⟩ := Option.bind_eq_some_iff.mp h
    refine eR_iast lk363_23 rfl rfl h20 ?_
    refine eE_aload_n lk363_24 g0 ?_
    refine eE_iload_n lk363_25 g1 ?_
    obtain ⟨p21, h22, h⟩ := Option.bind_eq_some_iff.mp h
    refine eR_call (as := [.int l1]) lk363_26 mr_641 na_384 rfl rfl (Nat.le_of_ble_eq_true rfl) wv_384 wc_384 (m_writeSlot_ok hp0 (d := d + 0) h22) ?_
    exact m_stepDown_b29_ok hp0  lv p21 l1 l3 g0 g1 g3 _ h
def m_stepDown (F : Nat) (σ : RS) (l1 : Int32) (l2 : Int32) (l3 : Int32) : Option (RS) := m_stepDown_b0 F σ l1 l2 l3
theorem m_stepDown_ok {pF : Nat → List Value → xH → Option (Option Value × xH)} (hp0 : xNP pF) {d : Nat} {aR : Nat} {G : Nat → xC} {T : Nat × Nat} {σ : RS} {F : Nat} {l1 : Int32} {l2 : Int32} {l3 : Int32} {res : RS} (h : m_stepDown F σ l1 l2 l3 = some res) : xCo pF (d + 5) 363 [.ref aR, .int l1, .int l2, .int l3] (layR aR σ G, T) none (layR aR res G, T) := by
  unfold m_stepDown at h
  exact xCo_R kk_363 mo_363 ni_363 xm_363 (Nat.le_of_ble_eq_true rfl) (hp0 _ (by decide) (by decide) _ _) (m_stepDown_b0_ok hp0 _ σ l1 l2 l3 rfl rfl rfl rfl _ h)
/-! count0 (265), depth 9 -/
def m_count0_b140 (F : Nat)  (σ : RS) : Option (RS) :=
  some σ
set_option maxRecDepth 4000 in
theorem m_count0_b140_ok {pF : Nat → List Value → xH → Option (Option Value × xH)} {d : Nat} {aR : Nat} {G : Nat → xC} {T : Nat × Nat} {F : Nat} (hp0 : xNP pF)  : ∀ (lv : xL) (σ : RS), xg lv 0 = some (.ref aR) → ∀ res, m_count0_b140 F  σ = some res → xR pF (d + 8) kT265 16 3 false none none (layR aR res G, T) (140, lv, [], (layR aR σ G, T)) := by
  intro lv σ g0 res h
  unfold m_count0_b140 at h
  cases h
  exact eE_end lk265_140 rfl rfl rfl
def m_count0_b44 (F : Nat)  (σ : RS) (l1 : Int32) : Option (RS) :=
  (rld σ 64 l1).bind fun x1 =>
  (rld σ 75 l1).bind fun x3 =>
  if xc2 .le x1 x3 = true then (
    (m_fresh σ l1).bind fun p6 =>
    if xc0 .eq p6.1 = true then (
      (m_old p6.2 l1).bind fun p9 =>
      if xc0 .ne ((p9.1 >>> (l1 &&& 31)) &&& ((1 : Int32))) = true then (
        m_count0_b140 F  p9.2
      ) else (
        (rld p9.2 53 l1).bind fun x12 =>
        (m_stepDown F p9.2 l1 x12 ((-1 : Int32))).bind fun p14 =>
        m_count0_b140 F  p14
      )
    ) else (
      (rld p6.2 56 l1).bind fun x16 =>
      (rld p6.2 55 l1).bind fun x18 =>
      if xc2 .lt (x16 - x18) ((300 : Int32)) = true then (
        (m_fresh p6.2 l1).bind fun p21 =>
        (m_learned p21.2 l1).bind fun p23 =>
        (m_appendCode F p23.2 l1 (p21.1 ||| (p23.1 <<< (((14 : Int32)) &&& 31)))).bind fun p25 =>
        (m_sendAll F p25 l1 ((0 : Int32))).bind fun p27 =>
        m_count0_b140 F  p27
      ) else (
        some p6.2
      )
    )
  ) else (
    some σ
  )
set_option maxRecDepth 4000 in
theorem m_count0_b44_ok {pF : Nat → List Value → xH → Option (Option Value × xH)} {d : Nat} {aR : Nat} {G : Nat → xC} {T : Nat × Nat} {F : Nat} (hp0 : xNP pF)  : ∀ (lv : xL) (σ : RS) (l1 : Int32), xg lv 0 = some (.ref aR) → xg lv 1 = some (.int l1) → ∀ res, m_count0_b44 F  σ l1 = some res → xR pF (d + 8) kT265 16 3 false none none (layR aR res G, T) (44, lv, [], (layR aR σ G, T)) := by
  intro lv σ l1 g0 g1 res h
  unfold m_count0_b44 at h
  refine eE_aload_n lk265_44 g0 ?_
  refine eR_getA lk265_45 rf_157 rfl ?_
  refine eE_iload_n lk265_48 g1 ?_
  obtain ⟨x1, h2, h⟩ := Option.bind_eq_some_iff.mp h
  refine eR_iald lk265_49 rfl rfl h2 ?_
  refine eE_aload_n lk265_50 g0 ?_
  refine eR_getA lk265_51 rf_191 rfl ?_
  refine eE_iload_n lk265_54 g1 ?_
  obtain ⟨x3, h4, h⟩ := Option.bind_eq_some_iff.mp h
  refine eR_iald lk265_55 rfl rfl h4 ?_
  refine eE_icmp (t := 60) lk265_56 (by decide) (fun c5 => ?_) (fun c5 => ?_)
  · rw [if_pos c5] at h
    refine eE_aload_n lk265_60 g0 ?_
    refine eE_iload_n lk265_61 g1 ?_
    obtain ⟨p6, h7, h⟩ := Option.bind_eq_some_iff.mp h
    refine eR_call (as := [.int l1]) lk265_62 mr_625 na_287 rfl rfl (Nat.le_of_ble_eq_true rfl) wv_287 wc_287 (m_fresh_ok hp0 (d := d + 7) h7) ?_
    refine eE_if (t := 116) lk265_65 (by decide) (fun c8 => ?_) (fun c8 => ?_)
    · rw [if_pos c8] at h
      refine eE_aload_n lk265_116 g0 ?_
      refine eE_iload_n lk265_117 g1 ?_
      obtain ⟨p9, h10, h⟩ := Option.bind_eq_some_iff.mp h
      refine eR_call (as := [.int l1]) lk265_118 mr_622 na_330 rfl rfl (Nat.le_of_ble_eq_true rfl) wv_330 wc_330 (m_old_ok hp0 (d := d + 7) h10) ?_
      refine eE_iload_n lk265_121 g1 ?_
      refine eE_ishr lk265_122 ?_
      refine eE_iconst (v := 1) lk265_123 (by decide) ?_
      refine eE_iand lk265_124 ?_
      refine eE_if (t := 140) lk265_125 (by decide) (fun c11 => ?_) (fun c11 => ?_)
      · rw [if_pos c11] at h
        exact m_count0_b140_ok hp0  lv p9.2 g0 _ h
      · rw [if_neg c11] at h
        refine eE_aload_n lk265_128 g0 ?_
        refine eE_iload_n lk265_129 g1 ?_
        refine eE_aload_n lk265_130 g0 ?_
        refine eR_getA lk265_131 rf_123 rfl ?_
        refine eE_iload_n lk265_134 g1 ?_
        obtain ⟨x12, h13, h⟩ := Option.bind_eq_some_iff.mp h
        refine eR_iald lk265_135 rfl rfl h13 ?_
        refine eE_iconst (v := (-1)) lk265_136 (by decide) ?_
        obtain ⟨p14, h15, h⟩ := Option.bind_eq_some_iff.mp h
        refine eR_call (as := [.int l1, .int x12, .int ((-1 : Int32))]) lk265_137 mr_657 na_363 rfl rfl (Nat.le_of_ble_eq_true rfl) wv_363 wc_363 (m_stepDown_ok hp0 (d := d + 3) h15) ?_
        exact m_count0_b140_ok hp0  lv p14 g0 _ h
    · rw [if_neg c8] at h
      refine eE_aload_n lk265_68 g0 ?_
      refine eR_getA lk265_69 rf_132 rfl ?_
      refine eE_iload_n lk265_72 g1 ?_
      obtain ⟨x16, h17, h⟩ := Option.bind_eq_some_iff.mp h
      refine eR_iald lk265_73 rfl rfl h17 ?_
      refine eE_aload_n lk265_74 g0 ?_
      refine eR_getA lk265_75 rf_129 rfl ?_
      refine eE_iload_n lk265_78 g1 ?_
      obtain ⟨x18, h19, h⟩ := Option.bind_eq_some_iff.mp h
      refine eR_iald lk265_79 rfl rfl h19 ?_
      refine eE_isub lk265_80 ?_
      refine eE_sipush (v := 300) lk265_81 (by decide) ?_
      refine eE_icmp (t := 88) lk265_84 (by decide) (fun c20 => ?_) (fun c20 => ?_)
      · rw [if_pos c20] at h
        refine eE_aload_n lk265_88 g0 ?_
        refine eE_iload_n lk265_89 g1 ?_
        refine eE_aload_n lk265_90 g0 ?_
        refine eE_iload_n lk265_91 g1 ?_
        obtain ⟨p21, h22, h⟩ := Option.bind_eq_some_iff.mp h
        refine eR_call (as := [.int l1]) lk265_92 mr_625 na_287 rfl rfl (Nat.le_of_ble_eq_true rfl) wv_287 wc_287 (m_fresh_ok hp0 (d := d + 7) h22) ?_
        refine eE_aload_n lk265_95 g0 ?_
        refine eE_iload_n lk265_96 g1 ?_
        obtain ⟨p23, h24, h⟩ := Option.bind_eq_some_iff.mp h
        refine eR_call (as := [.int l1]) lk265_97 mr_631 na_319 rfl rfl (Nat.le_of_ble_eq_true rfl) wv_319 wc_319 (m_learned_ok hp0 (d := d + 7) h24) ?_
        refine eE_bipush (v := 14) lk265_100 (by decide) ?_
        refine eE_ishl lk265_102 ?_
        refine eE_ior lk265_103 ?_
        obtain ⟨p25, h26, h⟩ := Option.bind_eq_some_iff.mp h
        refine eR_call (as := [.int l1, .int (p21.1 ||| (p23.1 <<< (((14 : Int32)) &&& 31)))]) lk265_104 mr_700 na_245 rfl rfl (Nat.le_of_ble_eq_true rfl) wv_245 wc_245 (m_appendCode_ok hp0 (d := d + 3) h26) ?_
        refine eE_aload_n lk265_107 g0 ?_
        refine eE_iload_n lk265_108 g1 ?_
        refine eE_iconst (v := 0) lk265_109 (by decide) ?_
        obtain ⟨p27, h28, h⟩ := Option.bind_eq_some_iff.mp h
        refine eR_call (as := [.int l1, .int ((0 : Int32))]) lk265_110 mr_679 na_355 rfl rfl (Nat.le_of_ble_eq_true rfl) wv_355 wc_355 (m_sendAll_ok hp0 (d := d + 2) h28) ?_
        refine eE_goto (t := 140) lk265_113 (by decide) ?_
        exact m_count0_b140_ok hp0  lv p27 g0 _ h
      · rw [if_neg c20] at h
        cases h
        exact eE_end lk265_87 rfl rfl rfl
  · rw [if_neg c5] at h
    cases h
    exact eE_end lk265_59 rfl rfl rfl
def m_count0_b0 (F : Nat)  (σ : RS) (l1 : Int32) : Option (RS) :=
  (m_common F σ l1 ((0 : Int32))).bind fun p29 =>
  (rld p29.2 75 l1).bind fun x36 =>
  if xc2 .le p29.1 x36 = true then (
    m_count0_b44 F  p29.2 l1
  ) else (
    (m_termAt p29.2 l1 p29.1).bind fun p39 =>
    (rld p39.2 53 l1).bind fun x41 =>
    if xc2 .ne p39.1 x41 = true then (
      m_count0_b44 F  p39.2 l1
    ) else (
      (rst p39.2 75 l1 p29.1).bind fun σ44 =>
      (m_apply F σ44 l1).bind fun p46 =>
      m_count0_b44 F  p46 l1
    )
  )
set_option maxRecDepth 4000 in
theorem m_count0_b0_ok {pF : Nat → List Value → xH → Option (Option Value × xH)} {d : Nat} {aR : Nat} {G : Nat → xC} {T : Nat × Nat} {F : Nat} (hp0 : xNP pF)  : ∀ (lv : xL) (σ : RS) (l1 : Int32), xg lv 0 = some (.ref aR) → xg lv 1 = some (.int l1) → ∀ res, m_count0_b0 F  σ l1 = some res → xR pF (d + 8) kT265 16 3 false none none (layR aR res G, T) (0, lv, [], (layR aR σ G, T)) := by
  intro lv σ l1 g0 g1 res h
  unfold m_count0_b0 at h
  refine eE_aload_n lk265_0 g0 ?_
  refine eE_iload_n lk265_1 g1 ?_
  refine eE_iconst (v := 0) lk265_2 (by decide) ?_
  obtain ⟨p29, h30, h⟩ := Option.bind_eq_some_iff.mp h
  refine eR_call (as := [.int l1, .int ((0 : Int32))]) lk265_3 mr_654 na_258 rfl rfl (Nat.le_of_ble_eq_true rfl) wv_258 wc_258 (m_common_ok hp0 (d := d + 5) h30) ?_
  refine eE_stI (j := 2) lk265_6 (Or.inr ⟨_, rfl, rfl⟩) (by decide) (fun vq31 gq32 kq33 => ?_)
  have gq34 := kq33 1 _ (by decide) (fun _ => rfl) g1
  have gq35 := kq33 0 _ (by decide) (fun _ => rfl) g0
  refine eE_iload_n lk265_7 gq32 ?_
  refine eE_aload_n lk265_8 gq35 ?_
  refine eR_getA lk265_9 rf_191 rfl ?_
  refine eE_iload_n lk265_12 gq34 ?_
  obtain ⟨x36, h37, h⟩ := Option.bind_eq_some_iff.mp h
  refine eR_iald lk265_13 rfl rfl h37 ?_
  refine eE_icmp (t := 44) lk265_14 (by decide) (fun c38 => ?_) (fun c38 => ?_)
  · rw [if_pos c38] at h
    exact m_count0_b44_ok hp0  vq31 p29.2 l1 gq35 gq34 _ h
  · rw [if_neg c38] at h
    refine eE_aload_n lk265_17 gq35 ?_
    refine eE_iload_n lk265_18 gq34 ?_
    refine eE_iload_n lk265_19 gq32 ?_
    obtain ⟨p39, h40, h⟩ := Option.bind_eq_some_iff.mp h
    refine eR_call (as := [.int l1, .int p29.1]) lk265_20 mr_524 na_372 rfl rfl (Nat.le_of_ble_eq_true rfl) wv_372 wc_372 (m_termAt_ok hp0 (d := d + 6) h40) ?_
    refine eE_aload_n lk265_23 gq35 ?_
    refine eR_getA lk265_24 rf_123 rfl ?_
    refine eE_iload_n lk265_27 gq34 ?_
    obtain ⟨x41, h42, h⟩ := Option.bind_eq_some_iff.mp h
    refine eR_iald lk265_28 rfl rfl h42 ?_
    refine eE_icmp (t := 44) lk265_29 (by decide) (fun c43 => ?_) (fun c43 => ?_)
    · rw [if_pos c43] at h
      exact m_count0_b44_ok hp0  vq31 p39.2 l1 gq35 gq34 _ h
    · rw [if_neg c43] at h
      refine eE_aload_n lk265_32 gq35 ?_
      refine eR_getA lk265_33 rf_191 rfl ?_
      refine eE_iload_n lk265_36 gq34 ?_
      refine eE_iload_n lk265_37 gq32 ?_
      obtain ⟨σ44, h45, h⟩ := Option.bind_eq_some_iff.mp h
      refine eR_iast lk265_38 rfl rfl h45 ?_
      refine eE_aload_n lk265_39 gq35 ?_
      refine eE_iload_n lk265_40 gq34 ?_
      obtain ⟨p46, h47, h⟩ := Option.bind_eq_some_iff.mp h
      refine eR_call (as := [.int l1]) lk265_41 mr_697 na_246 rfl rfl (Nat.le_of_ble_eq_true rfl) wv_246 wc_246 (m_apply_ok hp0 (d := d + 0) h47) ?_
      exact m_count0_b44_ok hp0  vq31 p46 l1 gq35 gq34 _ h
def m_count0 (F : Nat) (σ : RS) (l1 : Int32) : Option (RS) := m_count0_b0 F σ l1
theorem m_count0_ok {pF : Nat → List Value → xH → Option (Option Value × xH)} (hp0 : xNP pF) {d : Nat} {aR : Nat} {G : Nat → xC} {T : Nat × Nat} {σ : RS} {F : Nat} {l1 : Int32} {res : RS} (h : m_count0 F σ l1 = some res) : xCo pF (d + 9) 265 [.ref aR, .int l1] (layR aR σ G, T) none (layR aR res G, T) := by
  unfold m_count0 at h
  exact xCo_R kk_265 mo_265 ni_265 xm_265 (Nat.le_of_ble_eq_true rfl) (hp0 _ (by decide) (by decide) _ _) (m_count0_b0_ok hp0 _ σ l1 rfl rfl _ h)
/-! heardOf (291), depth 10 -/
def m_heardOf_b386 (F : Nat)  (σ : RS) : Option (RS) :=
  some σ
set_option maxRecDepth 4000 in
theorem m_heardOf_b386_ok {pF : Nat → List Value → xH → Option (Option Value × xH)} {d : Nat} {aR : Nat} {G : Nat → xC} {T : Nat × Nat} {F : Nat} (hp0 : xNP pF)  : ∀ (lv : xL) (σ : RS), xg lv 0 = some (.ref aR) → ∀ res, m_heardOf_b386 F  σ = some res → xR pF (d + 9) kT291 16 9 false none none (layR aR res G, T) (386, lv, [], (layR aR σ G, T)) := by
  intro lv σ g0 res h
  unfold m_heardOf_b386 at h
  cases h
  exact eE_end lk291_386 rfl rfl rfl
def m_heardOf_b431 (F : Nat)  (σ : RS) : Option (RS) :=
  some σ
set_option maxRecDepth 4000 in
theorem m_heardOf_b431_ok {pF : Nat → List Value → xH → Option (Option Value × xH)} {d : Nat} {aR : Nat} {G : Nat → xC} {T : Nat × Nat} {F : Nat} (hp0 : xNP pF)  : ∀ (lv : xL) (σ : RS), xg lv 0 = some (.ref aR) → ∀ res, m_heardOf_b431 F  σ = some res → xR pF (d + 9) kT291 16 9 false none none (layR aR res G, T) (431, lv, [], (layR aR σ G, T)) := by
  intro lv σ g0 res h
  unfold m_heardOf_b431 at h
  cases h
  exact eE_end lk291_431 rfl rfl rfl
def m_heardOf_b357 (F : Nat)  (σ : RS) (l1 : Int32) (l2 : Int32) (l7 : Int32) : Option (RS) :=
  (m_count0 F σ l1).bind fun p1 =>
  (m_answerReads F p1 l1).bind fun p3 =>
  (rld p3 73 l1).bind fun x5 =>
  if xc2 .ne x5 ((3 : Int32)) = true then (
    m_heardOf_b386 F  p3
  ) else (
    (m_isPeer p3 l1 l2).bind fun p8 =>
    if xc0 .ne p8.1 = true then (
      (m_send F p8.2 l1 l2 ((0 : Int32))).bind fun p11 =>
      (rld p11 80 l1).bind fun x13 =>
      if xc2 .ne x13 l2 = true then (
        m_heardOf_b431 F  p11
      ) else (
        (rld p11 87 l7).bind fun x16 =>
        (rld p11 56 l1).bind fun x18 =>
        if xc2 .ne x16 x18 = true then (
          m_heardOf_b431 F  p11
        ) else (
          (m_tell F p11 l1 l2 ((9 : Int32)) ((0 : Int32)) ((0 : Int32)) ((0 : Int32))).bind fun p21 =>
          m_heardOf_b431 F  p21
        )
      )
    ) else (
      m_heardOf_b386 F  p8.2
    )
  )
set_option maxRecDepth 4000 in
theorem m_heardOf_b357_ok {pF : Nat → List Value → xH → Option (Option Value × xH)} {d : Nat} {aR : Nat} {G : Nat → xC} {T : Nat × Nat} {F : Nat} (hp0 : xNP pF)  : ∀ (lv : xL) (σ : RS) (l1 : Int32) (l2 : Int32) (l7 : Int32), xg lv 0 = some (.ref aR) → xg lv 1 = some (.int l1) → xg lv 2 = some (.int l2) → xg lv 7 = some (.int l7) → ∀ res, m_heardOf_b357 F  σ l1 l2 l7 = some res → xR pF (d + 9) kT291 16 9 false none none (layR aR res G, T) (357, lv, [], (layR aR σ G, T)) := by
  intro lv σ l1 l2 l7 g0 g1 g2 g7 res h
  unfold m_heardOf_b357 at h
  refine eE_aload_n lk291_357 g0 ?_
  refine eE_iload_n lk291_358 g1 ?_
  obtain ⟨p1, h2, h⟩ := Option.bind_eq_some_iff.mp h
  refine eR_call (as := [.int l1]) lk291_359 mr_730 na_265 rfl rfl (Nat.le_of_ble_eq_true rfl) wv_265 wc_265 (m_count0_ok hp0 (d := d + 0) h2) ?_
  refine eE_aload_n lk291_362 g0 ?_
  refine eE_iload_n lk291_363 g1 ?_
  obtain ⟨p3, h4, h⟩ := Option.bind_eq_some_iff.mp h
  refine eR_call (as := [.int l1]) lk291_364 mr_683 na_243 rfl rfl (Nat.le_of_ble_eq_true rfl) wv_243 wc_243 (m_answerReads_ok hp0 (d := d + 3) h4) ?_
  refine eE_aload_n lk291_367 g0 ?_
  refine eR_getA lk291_368 rf_185 rfl ?_
  refine eE_iload_n lk291_371 g1 ?_
  obtain ⟨x5, h6, h⟩ := Option.bind_eq_some_iff.mp h
  refine eR_iald lk291_372 rfl rfl h6 ?_
  refine eE_iconst (v := 3) lk291_373 (by decide) ?_
  refine eE_icmp (t := 386) lk291_374 (by decide) (fun c7 => ?_) (fun c7 => ?_)
  · rw [if_pos c7] at h
    exact m_heardOf_b386_ok hp0  lv p3 g0 _ h
  · rw [if_neg c7] at h
    refine eE_aload_n lk291_377 g0 ?_
    refine eE_iload_n lk291_378 g1 ?_
    refine eE_iload_n lk291_379 g2 ?_
    obtain ⟨p8, h9, h⟩ := Option.bind_eq_some_iff.mp h
    refine eR_call (as := [.int l1, .int l2]) lk291_380 mr_676 na_304 rfl rfl (Nat.le_of_ble_eq_true rfl) wv_304 wc_304 (m_isPeer_ok hp0 (d := d + 6) h9) ?_
    refine eE_if (t := 387) lk291_383 (by decide) (fun c10 => ?_) (fun c10 => ?_)
    · rw [if_pos c10] at h
      refine eE_aload_n lk291_387 g0 ?_
      refine eE_iload_n lk291_388 g1 ?_
      refine eE_iload_n lk291_389 g2 ?_
      refine eE_iconst (v := 0) lk291_390 (by decide) ?_
      obtain ⟨p11, h12, h⟩ := Option.bind_eq_some_iff.mp h
      refine eR_call (as := [.int l1, .int l2, .int ((0 : Int32))]) lk291_391 mr_686 na_354 rfl rfl (Nat.le_of_ble_eq_true rfl) wv_354 wc_354 (m_send_ok hp0 (d := d + 4) h12) ?_
      refine eE_aload_n lk291_394 g0 ?_
      refine eR_getA lk291_395 rf_206 rfl ?_
      refine eE_iload_n lk291_398 g1 ?_
      obtain ⟨x13, h14, h⟩ := Option.bind_eq_some_iff.mp h
      refine eR_iald lk291_399 rfl rfl h14 ?_
      refine eE_iload_n lk291_400 g2 ?_
      refine eE_icmp (t := 431) lk291_401 (by decide) (fun c15 => ?_) (fun c15 => ?_)
      · rw [if_pos c15] at h
        exact m_heardOf_b431_ok hp0  lv p11 g0 _ h
      · rw [if_neg c15] at h
        refine eE_aload_n lk291_404 g0 ?_
        refine eR_getA lk291_405 rf_227 rfl ?_
        refine eE_iload lk291_408 g7 ?_
        obtain ⟨x16, h17, h⟩ := Option.bind_eq_some_iff.mp h
        refine eR_iald lk291_410 rfl rfl h17 ?_
        refine eE_aload_n lk291_411 g0 ?_
        refine eR_getA lk291_412 rf_132 rfl ?_
        refine eE_iload_n lk291_415 g1 ?_
        obtain ⟨x18, h19, h⟩ := Option.bind_eq_some_iff.mp h
        refine eR_iald lk291_416 rfl rfl h19 ?_
        refine eE_icmp (t := 431) lk291_417 (by decide) (fun c20 => ?_) (fun c20 => ?_)
        · rw [if_pos c20] at h
          exact m_heardOf_b431_ok hp0  lv p11 g0 _ h
        · rw [if_neg c20] at h
          refine eE_aload_n lk291_420 g0 ?_
          refine eE_iload_n lk291_421 g1 ?_
          refine eE_iload_n lk291_422 g2 ?_
          refine eE_bipush (v := 9) lk291_423 (by decide) ?_
          refine eE_iconst (v := 0) lk291_425 (by decide) ?_
          refine eE_iconst (v := 0) lk291_426 (by decide) ?_
          refine eE_iconst (v := 0) lk291_427 (by decide) ?_
          obtain ⟨p21, h22, h⟩ := Option.bind_eq_some_iff.mp h
          refine eR_call (as := [.int l1, .int l2, .int ((9 : Int32)), .int ((0 : Int32)), .int ((0 : Int32)), .int ((0 : Int32))]) lk291_428 mr_746 na_369 rfl rfl (Nat.le_of_ble_eq_true rfl) wv_369 wc_369 (m_tell_ok hp0 (d := d + 4) h22) ?_
          exact m_heardOf_b431_ok hp0  lv p21 g0 _ h
    · rw [if_neg c10] at h
      exact m_heardOf_b386_ok hp0  lv p8.2 g0 _ h
def m_heardOf_b124 (F : Nat)  (σ : RS) (l1 : Int32) (l2 : Int32) (l7 : Int32) : Option (RS) :=
  (rld σ 55 l1).bind fun x23 =>
  (rst σ 86 l7 ((x23 + ((1 : Int32))))).bind fun σ25 =>
  (rst σ25 89 l7 ((((1 : Int32)) &&& 1))).bind fun σ27 =>
  (rst σ27 90 l7 (((0 : Int32)))).bind fun σ29 =>
  m_heardOf_b357 F  σ29 l1 l2 l7
set_option maxRecDepth 4000 in
theorem m_heardOf_b124_ok {pF : Nat → List Value → xH → Option (Option Value × xH)} {d : Nat} {aR : Nat} {G : Nat → xC} {T : Nat × Nat} {F : Nat} (hp0 : xNP pF)  : ∀ (lv : xL) (σ : RS) (l1 : Int32) (l2 : Int32) (l7 : Int32), xg lv 0 = some (.ref aR) → xg lv 1 = some (.int l1) → xg lv 2 = some (.int l2) → xg lv 7 = some (.int l7) → ∀ res, m_heardOf_b124 F  σ l1 l2 l7 = some res → xR pF (d + 9) kT291 16 9 false none none (layR aR res G, T) (124, lv, [], (layR aR σ G, T)) := by
  intro lv σ l1 l2 l7 g0 g1 g2 g7 res h
  unfold m_heardOf_b124 at h
  refine eE_aload_n lk291_124 g0 ?_
  refine eR_getA lk291_125 rf_224 rfl ?_
  refine eE_iload lk291_128 g7 ?_
  refine eE_aload_n lk291_130 g0 ?_
  refine eR_getA lk291_131 rf_129 rfl ?_
  refine eE_iload_n lk291_134 g1 ?_
  obtain ⟨x23, h24, h⟩ := Option.bind_eq_some_iff.mp h
  refine eR_iald lk291_135 rfl rfl h24 ?_
  refine eE_iconst (v := 1) lk291_136 (by decide) ?_
  refine eE_iadd lk291_137 ?_
  obtain ⟨σ25, h26, h⟩ := Option.bind_eq_some_iff.mp h
  refine eR_iast lk291_138 rfl rfl h26 ?_
  refine eE_aload_n lk291_139 g0 ?_
  refine eR_getA lk291_140 rf_233 rfl ?_
  refine eE_iload lk291_143 g7 ?_
  refine eE_iconst (v := 1) lk291_145 (by decide) ?_
  obtain ⟨σ27, h28, h⟩ := Option.bind_eq_some_iff.mp h
  refine eR_zast lk291_146 rfl rfl rfl h28 ?_
  refine eE_aload_n lk291_147 g0 ?_
  refine eR_getA lk291_148 rf_236 rfl ?_
  refine eE_iload lk291_151 g7 ?_
  refine eE_iconst (v := 0) lk291_153 (by decide) ?_
  obtain ⟨σ29, h30, h⟩ := Option.bind_eq_some_iff.mp h
  refine eR_iast lk291_154 rfl rfl h30 ?_
  refine eE_goto (t := 357) lk291_155 (by decide) ?_
  exact m_heardOf_b357_ok hp0  lv σ29 l1 l2 l7 g0 g1 g2 g7 _ h
def m_heardOf_b275 (F : Nat)  (σ : RS) (l1 : Int32) (l2 : Int32) (l7 : Int32) : Option (RS) :=
  m_heardOf_b357 F  σ l1 l2 l7
set_option maxRecDepth 4000 in
theorem m_heardOf_b275_ok {pF : Nat → List Value → xH → Option (Option Value × xH)} {d : Nat} {aR : Nat} {G : Nat → xC} {T : Nat × Nat} {F : Nat} (hp0 : xNP pF)  : ∀ (lv : xL) (σ : RS) (l1 : Int32) (l2 : Int32) (l7 : Int32), xg lv 0 = some (.ref aR) → xg lv 1 = some (.int l1) → xg lv 2 = some (.int l2) → xg lv 7 = some (.int l7) → ∀ res, m_heardOf_b275 F  σ l1 l2 l7 = some res → xR pF (d + 9) kT291 16 9 false none none (layR aR res G, T) (275, lv, [], (layR aR σ G, T)) := by
  intro lv σ l1 l2 l7 g0 g1 g2 g7 res h
  unfold m_heardOf_b275 at h
  refine eE_goto (t := 357) lk291_275 (by decide) ?_
  exact m_heardOf_b357_ok hp0  lv σ l1 l2 l7 g0 g1 g2 g7 _ h
def m_heardOf_b250 (F : Nat)  (σ : RS) (l1 : Int32) (l2 : Int32) (l7 : Int32) (l8 : Int32) : Option (RS) :=
  (rld σ 86 l7).bind fun x31 =>
  if xc2 .ge x31 (l8 + ((1 : Int32))) = true then (
    m_heardOf_b275 F  σ l1 l2 l7
  ) else (
    (rst σ 86 l7 ((l8 + ((1 : Int32))))).bind fun σ34 =>
    m_heardOf_b275 F  σ34 l1 l2 l7
  )
set_option maxRecDepth 4000 in
theorem m_heardOf_b250_ok {pF : Nat → List Value → xH → Option (Option Value × xH)} {d : Nat} {aR : Nat} {G : Nat → xC} {T : Nat × Nat} {F : Nat} (hp0 : xNP pF)  : ∀ (lv : xL) (σ : RS) (l1 : Int32) (l2 : Int32) (l7 : Int32) (l8 : Int32), xg lv 0 = some (.ref aR) → xg lv 1 = some (.int l1) → xg lv 2 = some (.int l2) → xg lv 7 = some (.int l7) → xg lv 8 = some (.int l8) → ∀ res, m_heardOf_b250 F  σ l1 l2 l7 l8 = some res → xR pF (d + 9) kT291 16 9 false none none (layR aR res G, T) (250, lv, [], (layR aR σ G, T)) := by
  intro lv σ l1 l2 l7 l8 g0 g1 g2 g7 g8 res h
  unfold m_heardOf_b250 at h
  refine eE_aload_n lk291_250 g0 ?_
  refine eR_getA lk291_251 rf_224 rfl ?_
  refine eE_iload lk291_254 g7 ?_
  obtain ⟨x31, h32, h⟩ := Option.bind_eq_some_iff.mp h
  refine eR_iald lk291_256 rfl rfl h32 ?_
  refine eE_iload lk291_257 g8 ?_
  refine eE_iconst (v := 1) lk291_259 (by decide) ?_
  refine eE_iadd lk291_260 ?_
  refine eE_icmp (t := 275) lk291_261 (by decide) (fun c33 => ?_) (fun c33 => ?_)
  · rw [if_pos c33] at h
    exact m_heardOf_b275_ok hp0  lv σ l1 l2 l7 g0 g1 g2 g7 _ h
  · rw [if_neg c33] at h
    refine eE_aload_n lk291_264 g0 ?_
    refine eR_getA lk291_265 rf_224 rfl ?_
    refine eE_iload lk291_268 g7 ?_
    refine eE_iload lk291_270 g8 ?_
    refine eE_iconst (v := 1) lk291_272 (by decide) ?_
    refine eE_iadd lk291_273 ?_
    obtain ⟨σ34, h35, h⟩ := Option.bind_eq_some_iff.mp h
    refine eR_iast lk291_274 rfl rfl h35 ?_
    exact m_heardOf_b275_ok hp0  lv σ34 l1 l2 l7 g0 g1 g2 g7 _ h
def m_heardOf_b221 (F : Nat)  (σ : RS) (l1 : Int32) (l2 : Int32) (l7 : Int32) (l8 : Int32) : Option (RS) :=
  (rst σ 89 l7 ((((0 : Int32)) &&& 1))).bind fun σ36 =>
  (rld σ36 88 l7).bind fun x38 =>
  if xc0 .le x38 = true then (
    m_heardOf_b250 F  σ36 l1 l2 l7 l8
  ) else (
    (rld σ36 88 l7).bind fun x41 =>
    (rst σ36 88 l7 ((x41 - ((1 : Int32))))).bind fun σ43 =>
    m_heardOf_b250 F  σ43 l1 l2 l7 l8
  )
set_option maxRecDepth 4000 in
theorem m_heardOf_b221_ok {pF : Nat → List Value → xH → Option (Option Value × xH)} {d : Nat} {aR : Nat} {G : Nat → xC} {T : Nat × Nat} {F : Nat} (hp0 : xNP pF)  : ∀ (lv : xL) (σ : RS) (l1 : Int32) (l2 : Int32) (l7 : Int32) (l8 : Int32), xg lv 0 = some (.ref aR) → xg lv 1 = some (.int l1) → xg lv 2 = some (.int l2) → xg lv 7 = some (.int l7) → xg lv 8 = some (.int l8) → ∀ res, m_heardOf_b221 F  σ l1 l2 l7 l8 = some res → xR pF (d + 9) kT291 16 9 false none none (layR aR res G, T) (221, lv, [], (layR aR σ G, T)) := by
  intro lv σ l1 l2 l7 l8 g0 g1 g2 g7 g8 res h
  unfold m_heardOf_b221 at h
  refine eE_aload_n lk291_221 g0 ?_
  refine eR_getA lk291_222 rf_233 rfl ?_
  refine eE_iload lk291_225 g7 ?_
  refine eE_iconst (v := 0) lk291_227 (by decide) ?_
  obtain ⟨σ36, h37, h⟩ := Option.bind_eq_some_iff.mp h
  refine eR_zast lk291_228 rfl rfl rfl h37 ?_
  refine eE_aload_n lk291_229 g0 ?_
  refine eR_getA lk291_230 rf_230 rfl ?_
  refine eE_iload lk291_233 g7 ?_
  obtain ⟨x38, h39, h⟩ := Option.bind_eq_some_iff.mp h
  refine eR_iald lk291_235 rfl rfl h39 ?_
  refine eE_if (t := 250) lk291_236 (by decide) (fun c40 => ?_) (fun c40 => ?_)
  · rw [if_pos c40] at h
    exact m_heardOf_b250_ok hp0  lv σ36 l1 l2 l7 l8 g0 g1 g2 g7 g8 _ h
  · rw [if_neg c40] at h
    refine eE_aload_n lk291_239 g0 ?_
    refine eR_getA lk291_240 rf_230 rfl ?_
    refine eE_iload lk291_243 g7 ?_
    refine eE_dup2 lk291_245 rfl rfl ?_
    obtain ⟨x41, h42, h⟩ := Option.bind_eq_some_iff.mp h
    refine eR_iald lk291_246 rfl rfl h42 ?_
    refine eE_iconst (v := 1) lk291_247 (by decide) ?_
    refine eE_isub lk291_248 ?_
    obtain ⟨σ43, h44, h⟩ := Option.bind_eq_some_iff.mp h
    refine eR_iast lk291_249 rfl rfl h44 ?_
    exact m_heardOf_b250_ok hp0  lv σ43 l1 l2 l7 l8 g0 g1 g2 g7 g8 _ h
def m_heardOf_b198 (F : Nat)  (σ : RS) (s0 : Int32) (l1 : Int32) (l2 : Int32) (l7 : Int32) : Option (RS) :=
  (rld σ 87 l7).bind fun x52 =>
  if xc2 .ge x52 s0 = true then (
    m_heardOf_b221 F  σ l1 l2 l7 s0
  ) else (
    (rst σ 87 l7 s0).bind fun σ55 =>
    m_heardOf_b221 F  σ55 l1 l2 l7 s0
  )
set_option maxRecDepth 4000 in
theorem m_heardOf_b198_ok {pF : Nat → List Value → xH → Option (Option Value × xH)} {d : Nat} {aR : Nat} {G : Nat → xC} {T : Nat × Nat} {F : Nat} (hp0 : xNP pF)  : ∀ (lv : xL) (σ : RS) (s0 : Int32) (l1 : Int32) (l2 : Int32) (l7 : Int32), xg lv 0 = some (.ref aR) → xg lv 1 = some (.int l1) → xg lv 2 = some (.int l2) → xg lv 7 = some (.int l7) → ∀ res, m_heardOf_b198 F  σ s0 l1 l2 l7 = some res → xR pF (d + 9) kT291 16 9 false none none (layR aR res G, T) (198, lv, [.int s0], (layR aR σ G, T)) := by
  intro lv σ s0 l1 l2 l7 g0 g1 g2 g7 res h
  unfold m_heardOf_b198 at h
  refine eE_stI (j := 8) lk291_198 (Or.inl rfl) (by decide) (fun vq45 gq46 kq47 => ?_)
  have gq48 := kq47 1 _ (by decide) (fun _ => rfl) g1
  have gq49 := kq47 2 _ (by decide) (fun _ => rfl) g2
  have gq50 := kq47 7 _ (by decide) (fun _ => rfl) g7
  have gq51 := kq47 0 _ (by decide) (fun _ => rfl) g0
  refine eE_aload_n lk291_200 gq51 ?_
  refine eR_getA lk291_201 rf_227 rfl ?_
  refine eE_iload lk291_204 gq50 ?_
  obtain ⟨x52, h53, h⟩ := Option.bind_eq_some_iff.mp h
  refine eR_iald lk291_206 rfl rfl h53 ?_
  refine eE_iload lk291_207 gq46 ?_
  refine eE_icmp (t := 221) lk291_209 (by decide) (fun c54 => ?_) (fun c54 => ?_)
  · rw [if_pos c54] at h
    exact m_heardOf_b221_ok hp0  vq45 σ l1 l2 l7 s0 gq51 gq48 gq49 gq50 gq46 _ h
  · rw [if_neg c54] at h
    refine eE_aload_n lk291_212 gq51 ?_
    refine eR_getA lk291_213 rf_227 rfl ?_
    refine eE_iload lk291_216 gq50 ?_
    refine eE_iload lk291_218 gq46 ?_
    obtain ⟨σ55, h56, h⟩ := Option.bind_eq_some_iff.mp h
    refine eR_iast lk291_220 rfl rfl h56 ?_
    exact m_heardOf_b221_ok hp0  vq45 σ55 l1 l2 l7 s0 gq51 gq48 gq49 gq50 gq46 _ h
def m_heardOf_b356 (F : Nat)  (σ : RS) (s1 : Int32) (s2 : Int32) (l1 : Int32) (l2 : Int32) (l7 : Int32) : Option (RS) :=
  (rst σ 86 s1 s2).bind fun σ57 =>
  m_heardOf_b357 F  σ57 l1 l2 l7
set_option maxRecDepth 4000 in
theorem m_heardOf_b356_ok {pF : Nat → List Value → xH → Option (Option Value × xH)} {d : Nat} {aR : Nat} {G : Nat → xC} {T : Nat × Nat} {F : Nat} (hp0 : xNP pF)  : ∀ (lv : xL) (σ : RS) (s1 : Int32) (s2 : Int32) (l1 : Int32) (l2 : Int32) (l7 : Int32), xg lv 0 = some (.ref aR) → xg lv 1 = some (.int l1) → xg lv 2 = some (.int l2) → xg lv 7 = some (.int l7) → ∀ res, m_heardOf_b356 F  σ s1 s2 l1 l2 l7 = some res → xR pF (d + 9) kT291 16 9 false none none (layR aR res G, T) (356, lv, [.int s2, .int s1, .ref (aR + rpos 86)], (layR aR σ G, T)) := by
  intro lv σ s1 s2 l1 l2 l7 g0 g1 g2 g7 res h
  unfold m_heardOf_b356 at h
  obtain ⟨σ57, h58, h⟩ := Option.bind_eq_some_iff.mp h
  refine eR_iast lk291_356 rfl rfl h58 ?_
  exact m_heardOf_b357_ok hp0  lv σ57 l1 l2 l7 g0 g1 g2 g7 _ h
def m_heardOf_b322 (F : Nat)  (σ : RS) (s0 : Int32) (l1 : Int32) (l2 : Int32) (l7 : Int32) : Option (RS) :=
  (rld σ 56 l1).bind fun x66 =>
  if xc2 .le s0 (x66 + ((1 : Int32))) = true then (
    m_heardOf_b356 F  σ l7 s0 l1 l2 l7
  ) else (
    (rld σ 56 l1).bind fun x69 =>
    m_heardOf_b356 F  σ l7 (x69 + ((1 : Int32))) l1 l2 l7
  )
set_option maxRecDepth 4000 in
theorem m_heardOf_b322_ok {pF : Nat → List Value → xH → Option (Option Value × xH)} {d : Nat} {aR : Nat} {G : Nat → xC} {T : Nat × Nat} {F : Nat} (hp0 : xNP pF)  : ∀ (lv : xL) (σ : RS) (s0 : Int32) (l1 : Int32) (l2 : Int32) (l7 : Int32), xg lv 0 = some (.ref aR) → xg lv 1 = some (.int l1) → xg lv 2 = some (.int l2) → xg lv 7 = some (.int l7) → ∀ res, m_heardOf_b322 F  σ s0 l1 l2 l7 = some res → xR pF (d + 9) kT291 16 9 false none none (layR aR res G, T) (322, lv, [.int s0], (layR aR σ G, T)) := by
  intro lv σ s0 l1 l2 l7 g0 g1 g2 g7 res h
  unfold m_heardOf_b322 at h
  refine eE_stI (j := 8) lk291_322 (Or.inl rfl) (by decide) (fun vq59 gq60 kq61 => ?_)
  have gq62 := kq61 1 _ (by decide) (fun _ => rfl) g1
  have gq63 := kq61 2 _ (by decide) (fun _ => rfl) g2
  have gq64 := kq61 7 _ (by decide) (fun _ => rfl) g7
  have gq65 := kq61 0 _ (by decide) (fun _ => rfl) g0
  refine eE_aload_n lk291_324 gq65 ?_
  refine eR_getA lk291_325 rf_224 rfl ?_
  refine eE_iload lk291_328 gq64 ?_
  refine eE_iload lk291_330 gq60 ?_
  refine eE_aload_n lk291_332 gq65 ?_
  refine eR_getA lk291_333 rf_132 rfl ?_
  refine eE_iload_n lk291_336 gq62 ?_
  obtain ⟨x66, h67, h⟩ := Option.bind_eq_some_iff.mp h
  refine eR_iald lk291_337 rfl rfl h67 ?_
  refine eE_iconst (v := 1) lk291_338 (by decide) ?_
  refine eE_iadd lk291_339 ?_
  refine eE_icmp (t := 354) lk291_340 (by decide) (fun c68 => ?_) (fun c68 => ?_)
  · rw [if_pos c68] at h
    refine eE_iload lk291_354 gq60 ?_
    exact m_heardOf_b356_ok hp0  vq59 σ l7 s0 l1 l2 l7 gq65 gq62 gq63 gq64 _ h
  · rw [if_neg c68] at h
    refine eE_aload_n lk291_343 gq65 ?_
    refine eR_getA lk291_344 rf_132 rfl ?_
    refine eE_iload_n lk291_347 gq62 ?_
    obtain ⟨x69, h70, h⟩ := Option.bind_eq_some_iff.mp h
    refine eR_iald lk291_348 rfl rfl h70 ?_
    refine eE_iconst (v := 1) lk291_349 (by decide) ?_
    refine eE_iadd lk291_350 ?_
    refine eE_goto (t := 356) lk291_351 (by decide) ?_
    exact m_heardOf_b356_ok hp0  vq59 σ l7 (x69 + ((1 : Int32))) l1 l2 l7 gq65 gq62 gq63 gq64 _ h
def m_heardOf_b48 (F : Nat)  (σ : RS) (l1 : Int32) (l2 : Int32) (l3 : Int32) (l4 : Int32) (l5 : Int32) (l7 : Int32) : Option (RS) :=
  if xc2 .ne l3 ((8 : Int32)) = true then (
    if xc2 .ne l4 ((1 : Int32)) = true then (
      (rst σ 88 l7 (((0 : Int32)))).bind fun σ73 =>
      (rst σ73 89 l7 ((((1 : Int32)) &&& 1))).bind fun σ75 =>
      (rld σ75 87 l7).bind fun x77 =>
      if xc2 .ge l5 (x77 + ((1 : Int32))) = true then (
        m_heardOf_b322 F  σ75 l5 l1 l2 l7
      ) else (
        (rld σ75 87 l7).bind fun x80 =>
        m_heardOf_b322 F  σ75 (x80 + ((1 : Int32))) l1 l2 l7
      )
    ) else (
      (rld σ 56 l1).bind fun x82 =>
      if xc2 .ge l5 x82 = true then (
        (rld σ 56 l1).bind fun x85 =>
        m_heardOf_b198 F  σ x85 l1 l2 l7
      ) else (
        m_heardOf_b198 F  σ l5 l1 l2 l7
      )
    )
  ) else (
    (rst σ 88 l7 (((0 : Int32)))).bind fun σ87 =>
    (rld σ87 55 l1).bind fun x89 =>
    if xc2 .eq l4 x89 = true then (
      (rld σ87 67 l1).bind fun x92 =>
      if xc2 .lt l5 x92 = true then (
        (rst σ87 90 l7 l5).bind fun σ95 =>
        m_heardOf_b357 F  σ95 l1 l2 l7
      ) else (
        (rld σ87 87 l7).bind fun x97 =>
        (rld σ87 55 l1).bind fun x99 =>
        if xc2 .ge x97 x99 = true then (
          m_heardOf_b124 F  σ87 l1 l2 l7
        ) else (
          (rld σ87 55 l1).bind fun x102 =>
          (rst σ87 87 l7 x102).bind fun σ104 =>
          m_heardOf_b124 F  σ104 l1 l2 l7
        )
      )
    ) else (
      (rst σ87 90 l7 (((0 : Int32)))).bind fun σ106 =>
      m_heardOf_b357 F  σ106 l1 l2 l7
    )
  )
set_option maxRecDepth 4000 in
theorem m_heardOf_b48_ok {pF : Nat → List Value → xH → Option (Option Value × xH)} {d : Nat} {aR : Nat} {G : Nat → xC} {T : Nat × Nat} {F : Nat} (hp0 : xNP pF)  : ∀ (lv : xL) (σ : RS) (l1 : Int32) (l2 : Int32) (l3 : Int32) (l4 : Int32) (l5 : Int32) (l7 : Int32), xg lv 0 = some (.ref aR) → xg lv 1 = some (.int l1) → xg lv 2 = some (.int l2) → xg lv 3 = some (.int l3) → xg lv 4 = some (.int l4) → xg lv 5 = some (.int l5) → xg lv 7 = some (.int l7) → ∀ res, m_heardOf_b48 F  σ l1 l2 l3 l4 l5 l7 = some res → xR pF (d + 9) kT291 16 9 false none none (layR aR res G, T) (48, lv, [], (layR aR σ G, T)) := by
  intro lv σ l1 l2 l3 l4 l5 l7 g0 g1 g2 g3 g4 g5 g7 res h
  unfold m_heardOf_b48 at h
  refine eE_iload_n lk291_48 g3 ?_
  refine eE_bipush (v := 8) lk291_49 (by decide) ?_
  refine eE_icmp (t := 170) lk291_51 (by decide) (fun c71 => ?_) (fun c71 => ?_)
  · rw [if_pos c71] at h
    refine eE_iload lk291_170 g4 ?_
    refine eE_iconst (v := 1) lk291_172 (by decide) ?_
    refine eE_icmp (t := 278) lk291_173 (by decide) (fun c72 => ?_) (fun c72 => ?_)
    · rw [if_pos c72] at h
      refine eE_aload_n lk291_278 g0 ?_
      refine eR_getA lk291_279 rf_230 rfl ?_
      refine eE_iload lk291_282 g7 ?_
      refine eE_iconst (v := 0) lk291_284 (by decide) ?_
      obtain ⟨σ73, h74, h⟩ := Option.bind_eq_some_iff.mp h
      refine eR_iast lk291_285 rfl rfl h74 ?_
      refine eE_aload_n lk291_286 g0 ?_
      refine eR_getA lk291_287 rf_233 rfl ?_
      refine eE_iload lk291_290 g7 ?_
      refine eE_iconst (v := 1) lk291_292 (by decide) ?_
      obtain ⟨σ75, h76, h⟩ := Option.bind_eq_some_iff.mp h
      refine eR_zast lk291_293 rfl rfl rfl h76 ?_
      refine eE_iload lk291_294 g5 ?_
      refine eE_aload_n lk291_296 g0 ?_
      refine eR_getA lk291_297 rf_227 rfl ?_
      refine eE_iload lk291_300 g7 ?_
      obtain ⟨x77, h78, h⟩ := Option.bind_eq_some_iff.mp h
      refine eR_iald lk291_302 rfl rfl h78 ?_
      refine eE_iconst (v := 1) lk291_303 (by decide) ?_
      refine eE_iadd lk291_304 ?_
      refine eE_icmp (t := 320) lk291_305 (by decide) (fun c79 => ?_) (fun c79 => ?_)
      · rw [if_pos c79] at h
        refine eE_iload lk291_320 g5 ?_
        exact m_heardOf_b322_ok hp0  lv σ75 l5 l1 l2 l7 g0 g1 g2 g7 _ h
      · rw [if_neg c79] at h
        refine eE_aload_n lk291_308 g0 ?_
        refine eR_getA lk291_309 rf_227 rfl ?_
        refine eE_iload lk291_312 g7 ?_
        obtain ⟨x80, h81, h⟩ := Option.bind_eq_some_iff.mp h
        refine eR_iald lk291_314 rfl rfl h81 ?_
        refine eE_iconst (v := 1) lk291_315 (by decide) ?_
        refine eE_iadd lk291_316 ?_
        refine eE_goto (t := 322) lk291_317 (by decide) ?_
        exact m_heardOf_b322_ok hp0  lv σ75 (x80 + ((1 : Int32))) l1 l2 l7 g0 g1 g2 g7 _ h
    · rw [if_neg c72] at h
      refine eE_iload lk291_176 g5 ?_
      refine eE_aload_n lk291_178 g0 ?_
      refine eR_getA lk291_179 rf_132 rfl ?_
      refine eE_iload_n lk291_182 g1 ?_
      obtain ⟨x82, h83, h⟩ := Option.bind_eq_some_iff.mp h
      refine eR_iald lk291_183 rfl rfl h83 ?_
      refine eE_icmp (t := 192) lk291_184 (by decide) (fun c84 => ?_) (fun c84 => ?_)
      · rw [if_pos c84] at h
        refine eE_aload_n lk291_192 g0 ?_
        refine eR_getA lk291_193 rf_132 rfl ?_
        refine eE_iload_n lk291_196 g1 ?_
        obtain ⟨x85, h86, h⟩ := Option.bind_eq_some_iff.mp h
        refine eR_iald lk291_197 rfl rfl h86 ?_
        exact m_heardOf_b198_ok hp0  lv σ x85 l1 l2 l7 g0 g1 g2 g7 _ h
      · rw [if_neg c84] at h
        refine eE_iload lk291_187 g5 ?_
        refine eE_goto (t := 198) lk291_189 (by decide) ?_
        exact m_heardOf_b198_ok hp0  lv σ l5 l1 l2 l7 g0 g1 g2 g7 _ h
  · rw [if_neg c71] at h
    refine eE_aload_n lk291_54 g0 ?_
    refine eR_getA lk291_55 rf_230 rfl ?_
    refine eE_iload lk291_58 g7 ?_
    refine eE_iconst (v := 0) lk291_60 (by decide) ?_
    obtain ⟨σ87, h88, h⟩ := Option.bind_eq_some_iff.mp h
    refine eR_iast lk291_61 rfl rfl h88 ?_
    refine eE_iload lk291_62 g4 ?_
    refine eE_aload_n lk291_64 g0 ?_
    refine eR_getA lk291_65 rf_129 rfl ?_
    refine eE_iload_n lk291_68 g1 ?_
    obtain ⟨x89, h90, h⟩ := Option.bind_eq_some_iff.mp h
    refine eR_iald lk291_69 rfl rfl h90 ?_
    refine eE_icmp (t := 84) lk291_70 (by decide) (fun c91 => ?_) (fun c91 => ?_)
    · rw [if_pos c91] at h
      refine eE_iload lk291_84 g5 ?_
      refine eE_aload_n lk291_86 g0 ?_
      refine eR_getA lk291_87 rf_167 rfl ?_
      refine eE_iload_n lk291_90 g1 ?_
      obtain ⟨x92, h93, h⟩ := Option.bind_eq_some_iff.mp h
      refine eR_iald lk291_91 rfl rfl h93 ?_
      refine eE_icmp (t := 158) lk291_92 (by decide) (fun c94 => ?_) (fun c94 => ?_)
      · rw [if_pos c94] at h
        refine eE_aload_n lk291_158 g0 ?_
        refine eR_getA lk291_159 rf_236 rfl ?_
        refine eE_iload lk291_162 g7 ?_
        refine eE_iload lk291_164 g5 ?_
        obtain ⟨σ95, h96, h⟩ := Option.bind_eq_some_iff.mp h
        refine eR_iast lk291_166 rfl rfl h96 ?_
        refine eE_goto (t := 357) lk291_167 (by decide) ?_
        exact m_heardOf_b357_ok hp0  lv σ95 l1 l2 l7 g0 g1 g2 g7 _ h
      · rw [if_neg c94] at h
        refine eE_aload_n lk291_95 g0 ?_
        refine eR_getA lk291_96 rf_227 rfl ?_
        refine eE_iload lk291_99 g7 ?_
        obtain ⟨x97, h98, h⟩ := Option.bind_eq_some_iff.mp h
        refine eR_iald lk291_101 rfl rfl h98 ?_
        refine eE_aload_n lk291_102 g0 ?_
        refine eR_getA lk291_103 rf_129 rfl ?_
        refine eE_iload_n lk291_106 g1 ?_
        obtain ⟨x99, h100, h⟩ := Option.bind_eq_some_iff.mp h
        refine eR_iald lk291_107 rfl rfl h100 ?_
        refine eE_icmp (t := 124) lk291_108 (by decide) (fun c101 => ?_) (fun c101 => ?_)
        · rw [if_pos c101] at h
          exact m_heardOf_b124_ok hp0  lv σ87 l1 l2 l7 g0 g1 g2 g7 _ h
        · rw [if_neg c101] at h
          refine eE_aload_n lk291_111 g0 ?_
          refine eR_getA lk291_112 rf_227 rfl ?_
          refine eE_iload lk291_115 g7 ?_
          refine eE_aload_n lk291_117 g0 ?_
          refine eR_getA lk291_118 rf_129 rfl ?_
          refine eE_iload_n lk291_121 g1 ?_
          obtain ⟨x102, h103, h⟩ := Option.bind_eq_some_iff.mp h
          refine eR_iald lk291_122 rfl rfl h103 ?_
          obtain ⟨σ104, h105, h⟩ := Option.bind_eq_some_iff.mp h
          refine eR_iast lk291_123 rfl rfl h105 ?_
          exact m_heardOf_b124_ok hp0  lv σ104 l1 l2 l7 g0 g1 g2 g7 _ h
    · rw [if_neg c91] at h
      refine eE_aload_n lk291_73 g0 ?_
      refine eR_getA lk291_74 rf_236 rfl ?_
      refine eE_iload lk291_77 g7 ?_
      refine eE_iconst (v := 0) lk291_79 (by decide) ?_
      obtain ⟨σ106, h107, h⟩ := Option.bind_eq_some_iff.mp h
      refine eR_iast lk291_80 rfl rfl h107 ?_
      refine eE_goto (t := 357) lk291_81 (by decide) ?_
      exact m_heardOf_b357_ok hp0  lv σ106 l1 l2 l7 g0 g1 g2 g7 _ h
def m_heardOf_b0 (F : Nat)  (σ : RS) (l1 : Int32) (l2 : Int32) (l3 : Int32) (l4 : Int32) (l5 : Int32) (l6 : Int32) : Option (RS) :=
  (rst σ 92 ((((7 : Int32)) * l1) + l2) ((σ.1 1 0))).bind fun σ118 =>
  (rst σ118 93 ((((7 : Int32)) * l1) + l2) ((((1 : Int32)) &&& 1))).bind fun σ120 =>
  (rld σ120 91 ((((7 : Int32)) * l1) + l2)).bind fun x122 =>
  if xc2 .le l6 x122 = true then (
    m_heardOf_b48 F  σ120 l1 l2 l3 l4 l5 ((((7 : Int32)) * l1) + l2)
  ) else (
    (rst σ120 91 ((((7 : Int32)) * l1) + l2) l6).bind fun σ125 =>
    m_heardOf_b48 F  σ125 l1 l2 l3 l4 l5 ((((7 : Int32)) * l1) + l2)
  )
set_option maxRecDepth 4000 in
theorem m_heardOf_b0_ok {pF : Nat → List Value → xH → Option (Option Value × xH)} {d : Nat} {aR : Nat} {G : Nat → xC} {T : Nat × Nat} {F : Nat} (hp0 : xNP pF)  : ∀ (lv : xL) (σ : RS) (l1 : Int32) (l2 : Int32) (l3 : Int32) (l4 : Int32) (l5 : Int32) (l6 : Int32), xg lv 0 = some (.ref aR) → xg lv 1 = some (.int l1) → xg lv 2 = some (.int l2) → xg lv 3 = some (.int l3) → xg lv 4 = some (.int l4) → xg lv 5 = some (.int l5) → xg lv 6 = some (.int l6) → ∀ res, m_heardOf_b0 F  σ l1 l2 l3 l4 l5 l6 = some res → xR pF (d + 9) kT291 16 9 false none none (layR aR res G, T) (0, lv, [], (layR aR σ G, T)) := by
  intro lv σ l1 l2 l3 l4 l5 l6 g0 g1 g2 g3 g4 g5 g6 res h
  unfold m_heardOf_b0 at h
  refine eE_bipush (v := 7) lk291_0 (by decide) ?_
  refine eE_iload_n lk291_2 g1 ?_
  refine eE_imul lk291_3 ?_
  refine eE_iload_n lk291_4 g2 ?_
  refine eE_iadd lk291_5 ?_
  refine eE_stI (j := 7) lk291_6 (Or.inl rfl) (by decide) (fun vq108 gq109 kq110 => ?_)
  have gq111 := kq110 1 _ (by decide) (fun _ => rfl) g1
  have gq112 := kq110 2 _ (by decide) (fun _ => rfl) g2
  have gq113 := kq110 3 _ (by decide) (fun _ => rfl) g3
  have gq114 := kq110 4 _ (by decide) (fun _ => rfl) g4
  have gq115 := kq110 5 _ (by decide) (fun _ => rfl) g5
  have gq116 := kq110 6 _ (by decide) (fun _ => rfl) g6
  have gq117 := kq110 0 _ (by decide) (fun _ => rfl) g0
  refine eE_aload_n lk291_8 gq117 ?_
  refine eR_getA lk291_9 rf_242 rfl ?_
  refine eE_iload lk291_12 gq109 ?_
  refine eE_aload_n lk291_14 gq117 ?_
  refine eR_get lk291_15 rf_431 rfl ?_
  obtain ⟨σ118, h119, h⟩ := Option.bind_eq_some_iff.mp h
  refine eR_iast lk291_18 rfl rfl h119 ?_
  refine eE_aload_n lk291_19 gq117 ?_
  refine eR_getA lk291_20 rf_245 rfl ?_
  refine eE_iload lk291_23 gq109 ?_
  refine eE_iconst (v := 1) lk291_25 (by decide) ?_
  obtain ⟨σ120, h121, h⟩ := Option.bind_eq_some_iff.mp h
  refine eR_zast lk291_26 rfl rfl rfl h121 ?_
  refine eE_iload lk291_27 gq116 ?_
  refine eE_aload_n lk291_29 gq117 ?_
  refine eR_getA lk291_30 rf_239 rfl ?_
  refine eE_iload lk291_33 gq109 ?_
  obtain ⟨x122, h123, h⟩ := Option.bind_eq_some_iff.mp h
  refine eR_iald lk291_35 rfl rfl h123 ?_
  refine eE_icmp (t := 48) lk291_36 (by decide) (fun c124 => ?_) (fun c124 => ?_)
  · rw [if_pos c124] at h
    exact m_heardOf_b48_ok hp0  vq108 σ120 l1 l2 l3 l4 l5 ((((7 : Int32)) * l1) + l2) gq117 gq111 gq112 gq113 gq114 gq115 gq109 _ h
  · rw [if_neg c124] at h
    refine eE_aload_n lk291_39 gq117 ?_
    refine eR_getA lk291_40 rf_239 rfl ?_
    refine eE_iload lk291_43 gq109 ?_
    refine eE_iload lk291_45 gq116 ?_
    obtain ⟨σ125, h126, h⟩ := Option.bind_eq_some_iff.mp h
    refine eR_iast lk291_47 rfl rfl h126 ?_
    exact m_heardOf_b48_ok hp0  vq108 σ125 l1 l2 l3 l4 l5 ((((7 : Int32)) * l1) + l2) gq117 gq111 gq112 gq113 gq114 gq115 gq109 _ h
def m_heardOf (F : Nat) (σ : RS) (l1 : Int32) (l2 : Int32) (l3 : Int32) (l4 : Int32) (l5 : Int32) (l6 : Int32) : Option (RS) := m_heardOf_b0 F σ l1 l2 l3 l4 l5 l6
theorem m_heardOf_ok {pF : Nat → List Value → xH → Option (Option Value × xH)} (hp0 : xNP pF) {d : Nat} {aR : Nat} {G : Nat → xC} {T : Nat × Nat} {σ : RS} {F : Nat} {l1 : Int32} {l2 : Int32} {l3 : Int32} {l4 : Int32} {l5 : Int32} {l6 : Int32} {res : RS} (h : m_heardOf F σ l1 l2 l3 l4 l5 l6 = some res) : xCo pF (d + 10) 291 [.ref aR, .int l1, .int l2, .int l3, .int l4, .int l5, .int l6] (layR aR σ G, T) none (layR aR res G, T) := by
  unfold m_heardOf at h
  exact xCo_R kk_291 mo_291 ni_291 xm_291 (Nat.le_of_ble_eq_true rfl) (hp0 _ (by decide) (by decide) _ _) (m_heardOf_b0_ok hp0 _ σ l1 l2 l3 l4 l5 l6 rfl rfl rfl rfl rfl rfl rfl _ h)
