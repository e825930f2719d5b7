/-! printed by wip/whole/gen_ref.py -/
/-! add (240), depth 1 -/
def m_add_b3 (F : Nat)  : Nat → RS → Int32 → Int32 → Option (RS)
  | 0, _, _, _ => none
  | n + 1, σ, l1, l2 =>
    let KK := m_add_b3 F  n
    if xc0 .lt l2 = true then (
      some σ
    ) else (
      (rst σ 4 (σ.1 5 0) (((l1 >>> (l2 &&& 31)).toInt8.toInt32).toInt8.toInt32)).bind fun σ2 =>
      (some (setI σ2 5 0 ((σ2.1 5 0) + ((1 : Int32))))).bind fun σ4 =>
      KK σ4 l1 (l2 + (-8 : Int32))
    )
set_option maxRecDepth 4000 in
theorem m_add_b3_ok {pF : Nat → List Value → xH → Option (Option Value × xH)} {d : Nat} {aR : Nat} {G : Nat → xC} {T : Nat × Nat} {F : Nat} (hp0 : xNP pF)  : ∀ (n : Nat) (lv : xL) (σ : RS) (l1 : Int32) (l2 : Int32), xg lv 0 = some (.ref aR) → xg lv 1 = some (.int l1) → xg lv 2 = some (.int l2) → ∀ res, m_add_b3 F  n σ l1 l2 = some res → xR pF (d + 0) kT240 16 3 false none none (layR aR res G, T) (3, lv, [], (layR aR σ G, T)) := by
  intro n
  induction n with
  | zero => intro lv σ l1 l2 g0 g1 g2 res h; simp [m_add_b3] at h
  | succ n hKK =>
    intro lv σ l1 l2 g0 g1 g2 res h
    unfold m_add_b3 at h
    dsimp only at h
    refine eE_iload_n lk240_3 g2 ?_
    refine eE_if (t := 36) lk240_4 (by decide) (fun c1 => ?_) (fun c1 => ?_)
    · rw [if_pos c1] at h
      cases h
      exact eE_end lk240_36 rfl rfl rfl
    · rw [if_neg c1] at h
      refine eE_aload_n lk240_7 g0 ?_
      refine eR_getA lk240_8 rf_7 rfl ?_
      refine eE_aload_n lk240_11 g0 ?_
      refine eR_get lk240_12 rf_791 rfl ?_
      refine eE_iload_n lk240_15 g1 ?_
      refine eE_iload_n lk240_16 g2 ?_
      refine eE_ishr lk240_17 ?_
      refine eE_i2b lk240_18 ?_
      obtain ⟨σ2, h3, h⟩ := Option.bind_eq_some_iff.mp h
      refine eR_bast lk240_19 rfl rfl rfl h3 ?_
      refine eE_aload_n lk240_20 g0 ?_
      refine eE_dup lk240_21 rfl ?_
      refine eR_get lk240_22 rf_791 rfl ?_
      refine eE_iconst (v := 1) lk240_25 (by decide) ?_
      refine eE_iadd lk240_26 ?_
      obtain ⟨σ4, h5, h⟩ := Option.bind_eq_some_iff.mp h
      refine eR_putS lk240_27 rf_791 rfl (by decide) pf_5.1 pf_5.2 h5 ?_
      refine eE_inc (j := 2) (v := l2 + (-8 : Int32)) lk240_30 g2 rfl (by decide) (fun vq6 gq7 kq8 => ?_)
      have gq9 := kq8 1 _ (by decide) (fun _ => rfl) g1
      have gq10 := kq8 0 _ (by decide) (fun _ => rfl) g0
      refine eE_goto (t := 3) lk240_33 (by decide) ?_
      exact hKK vq6 σ4 l1 (l2 + (-8 : Int32)) gq10 gq9 gq7 _ h
def m_add_b0 (F : Nat)  (σ : RS) (l1 : Int32) : Option (RS) :=
  m_add_b3 F  F σ l1 ((24 : Int32))
set_option maxRecDepth 4000 in
theorem m_add_b0_ok {pF : Nat → List Value → xH → Option (Option Value × xH)} {d : Nat} {aR : Nat} {G : Nat → xC} {T : Nat × Nat} {F : Nat} (hp0 : xNP pF)  : ∀ (lv : xL) (σ : RS) (l1 : Int32), xg lv 0 = some (.ref aR) → xg lv 1 = some (.int l1) → ∀ res, m_add_b0 F  σ l1 = some res → xR pF (d + 0) kT240 16 3 false none none (layR aR res G, T) (0, lv, [], (layR aR σ G, T)) := by
  intro lv σ l1 g0 g1 res h
  unfold m_add_b0 at h
  refine eE_bipush (v := 24) lk240_0 (by decide) ?_
  refine eE_stI (j := 2) lk240_2 (Or.inr ⟨_, rfl, rfl⟩) (by decide) (fun vq11 gq12 kq13 => ?_)
  have gq14 := kq13 1 _ (by decide) (fun _ => rfl) g1
  have gq15 := kq13 0 _ (by decide) (fun _ => rfl) g0
  exact m_add_b3_ok hp0  F vq11 σ l1 ((24 : Int32)) gq15 gq14 gq12 _ h
def m_add (F : Nat) (σ : RS) (l1 : Int32) : Option (RS) := m_add_b0 F σ l1
theorem m_add_ok {pF : Nat → List Value → xH → Option (Option Value × xH)} (hp0 : xNP pF) {d : Nat} {aR : Nat} {G : Nat → xC} {T : Nat × Nat} {σ : RS} {F : Nat} {l1 : Int32} {res : RS} (h : m_add F σ l1 = some res) : xCo pF (d + 1) 240 [.ref aR, .int l1] (layR aR σ G, T) none (layR aR res G, T) := by
  unfold m_add at h
  exact xCo_R kk_240 mo_240 ni_240 xm_240 (Nat.le_of_ble_eq_true rfl) (hp0 _ (by decide) (by decide) _ _) (m_add_b0_ok hp0 _ σ l1 rfl rfl _ h)
/-! alarm (241), depth 1 -/
def m_alarm  (σ : RS) (l1 : Int32) (l2 : Int32) : Option (RS) :=
  (rst σ 30 l1 l2).bind fun σ1 =>
  (rst σ1 29 l1 ((σ1.1 2 0))).bind fun σ3 =>
  (some (setI σ3 2 0 ((σ3.1 2 0) + ((1 : Int32))))).bind fun σ5 =>
  some σ5
set_option maxRecDepth 4000 in
theorem m_alarm_run {pF : Nat → List Value → xH → Option (Option Value × xH)} {d : Nat} {aR : Nat} {G : Nat → xC} {T : Nat × Nat} (hp0 : xNP pF)  : ∀ (lv : xL) (σ : RS) (l1 : Int32) (l2 : Int32), xg lv 0 = some (.ref aR) → xg lv 1 = some (.int l1) → xg lv 2 = some (.int l2) → ∀ res, m_alarm  σ l1 l2 = some res → xR pF (d + 0) kT241 16 3 false none none (layR aR res G, T) (0, lv, [], (layR aR σ G, T)) := by
  intro lv σ l1 l2 g0 g1 g2 res h
  unfold m_alarm at h
  refine eE_aload_n lk241_0 g0 ?_
  refine eR_getA lk241_1 rf_65 rfl ?_
  refine eE_iload_n lk241_4 g1 ?_
  refine eE_iload_n lk241_5 g2 ?_
  obtain ⟨σ1, h2, h⟩ := Option.bind_eq_some_iff.mp h
  refine eR_iast lk241_6 rfl rfl h2 ?_
  refine eE_aload_n lk241_7 g0 ?_
  refine eR_getA lk241_8 rf_62 rfl ?_
  refine eE_iload_n lk241_11 g1 ?_
  refine eE_aload_n lk241_12 g0 ?_
  refine eR_get lk241_13 rf_421 rfl ?_
  obtain ⟨σ3, h4, h⟩ := Option.bind_eq_some_iff.mp h
  refine eR_iast lk241_16 rfl rfl h4 ?_
  refine eE_aload_n lk241_17 g0 ?_
  refine eE_dup lk241_18 rfl ?_
  refine eR_get lk241_19 rf_421 rfl ?_
  refine eE_iconst (v := 1) lk241_22 (by decide) ?_
  refine eE_iadd lk241_23 ?_
  obtain ⟨σ5, h6, h⟩ := Option.bind_eq_some_iff.mp h
  refine eR_putS lk241_24 rf_421 rfl (by decide) pf_2.1 pf_2.2 h6 ?_
  cases h
  exact eE_end lk241_27 rfl rfl rfl
theorem m_alarm_ok {pF : Nat → List Value → xH → Option (Option Value × xH)} (hp0 : xNP pF) {d : Nat} {aR : Nat} {G : Nat → xC} {T : Nat × Nat} {σ : RS} {l1 : Int32} {l2 : Int32} {res : RS} (h : m_alarm σ l1 l2 = some res) : xCo pF (d + 1) 241 [.ref aR, .int l1, .int l2] (layR aR σ G, T) none (layR aR res G, T) := by
  exact xCo_R kk_241 mo_241 ni_241 xm_241 (Nat.le_of_ble_eq_true rfl) (hp0 _ (by decide) (by decide) _ _) (m_alarm_run hp0 _ σ l1 l2 rfl rfl rfl _ h)
/-! in (294), depth 1 -/
def m_in_b18  (s0 : Int32) : Option (Int32) :=
  if s0 = 0 ∨ s0 = 1 then some s0 else none
set_option maxRecDepth 4000 in
theorem m_in_b18_ok {pF : Nat → List Value → xH → Option (Option Value × xH)} {d : Nat} {hp : xH} (hp0 : xNP pF)  : ∀ (lv : xL) (s0 : Int32), ∀ res, m_in_b18  s0 = some res → xR pF (d + 0) kT294 16 6 false (some .boolean) (some (.int res)) hp (18, lv, [.int s0], hp) := by
  intro lv s0  res h
  unfold m_in_b18 at h
  by_cases z1 : s0 = 0 ∨ s0 = 1
  · rw [if_pos z1] at h; cases h
    exact eE_end lk294_18 rfl rfl (by first | (simp only [xfin, if_true, if_pos z1]; done) | simp [xfin, z1])
  · rw [if_neg z1] at h; cases h
def m_in_b17   : Option (Int32) :=
  m_in_b18  ((0 : Int32))
set_option maxRecDepth 4000 in
theorem m_in_b17_ok {pF : Nat → List Value → xH → Option (Option Value × xH)} {d : Nat} {hp : xH} (hp0 : xNP pF)  : ∀ (lv : xL), ∀ res, m_in_b17   = some res → xR pF (d + 0) kT294 16 6 false (some .boolean) (some (.int res)) hp (17, lv, [], hp) := by
  intro lv   res h
  unfold m_in_b17 at h
  refine eE_iconst (v := 0) lk294_17 (by decide) ?_
  exact m_in_b18_ok hp0  lv ((0 : Int32))  _ h
def m_in_b0  (l0 : Int64) (l2 : Int64) (l4 : Int64) : Option (Int32) :=
  if xc0 .lt (lg_cmp l0 l2) = true then (
    m_in_b17  
  ) else (
    if xc0 .gt (lg_cmp l0 l4) = true then (
      m_in_b17  
    ) else (
      m_in_b18  ((1 : Int32))
    )
  )
set_option maxRecDepth 4000 in
theorem m_in_b0_ok {pF : Nat → List Value → xH → Option (Option Value × xH)} {d : Nat} {hp : xH} (hp0 : xNP pF)  : ∀ (lv : xL) (l0 : Int64) (l2 : Int64) (l4 : Int64), xg lv 0 = some (.long l0) → xg lv 2 = some (.long l2) → xg lv 4 = some (.long l4) → ∀ res, m_in_b0  l0 l2 l4 = some res → xR pF (d + 0) kT294 16 6 false (some .boolean) (some (.int res)) hp (0, lv, [], hp) := by
  intro lv l0 l2 l4 g0 g2 g4 res h
  unfold m_in_b0 at h
  refine eE_lload_n lk294_0 g0 ?_
  refine eE_lload_n lk294_1 g2 ?_
  refine eE_lcmp lk294_2 ?_
  refine eE_if (t := 17) lk294_3 (by decide) (fun c2 => ?_) (fun c2 => ?_)
  · rw [if_pos c2] at h
    exact m_in_b17_ok hp0  lv   _ h
  · rw [if_neg c2] at h
    refine eE_lload_n lk294_6 g0 ?_
    refine eE_lload lk294_7 g4 ?_
    refine eE_lcmp lk294_9 ?_
    refine eE_if (t := 17) lk294_10 (by decide) (fun c3 => ?_) (fun c3 => ?_)
    · rw [if_pos c3] at h
      exact m_in_b17_ok hp0  lv   _ h
    · rw [if_neg c3] at h
      refine eE_iconst (v := 1) lk294_13 (by decide) ?_
      refine eE_goto (t := 18) lk294_14 (by decide) ?_
      exact m_in_b18_ok hp0  lv ((1 : Int32))  _ h
def m_in (l0 : Int64) (l2 : Int64) (l4 : Int64) : Option (Int32) := m_in_b0 l0 l2 l4
theorem m_in_ok {pF : Nat → List Value → xH → Option (Option Value × xH)} (hp0 : xNP pF) {d : Nat} {hp : xH} {l0 : Int64} {l2 : Int64} {l4 : Int64} {res : Int32} (h : m_in l0 l2 l4 = some res) : xCo pF (d + 1) 294 [.long l0, .long l2, .long l4] hp (some (.int res)) hp := by
  unfold m_in at h
  exact xCo_R kk_294 mo_294 ni_294 xm_294 (Nat.le_of_ble_eq_true rfl) (hp0 _ (by decide) (by decide) _ _) (m_in_b0_ok hp0 _ l0 l2 l4 rfl rfl rfl _ h)
/-! answer (242), depth 2 -/
def m_answer_b42 (F : Nat)  : Nat → RS → Int32 → Int32 → Option (Int32 × RS)
  | 0, _, _, _ => none
  | n + 1, σ, l1, l2 =>
    let KK := m_answer_b42 F  n
    if xc2 .ge l2 (σ.1 144 0) = true then (
      some (σ.1 144 0, σ)
    ) else (
      (rld σ 138 ((((160 : Int32)) * l1) + l2)).bind fun x2 =>
      (rst σ 143 l2 (x2.toInt8.toInt32)).bind fun σ4 =>
      KK σ4 l1 (l2 + (1 : Int32))
    )
set_option maxRecDepth 4000 in
theorem m_answer_b42_ok {pF : Nat → List Value → xH → Option (Option Value × xH)} {d : Nat} {aR : Nat} {G : Nat → xC} {T : Nat × Nat} {F : Nat} (hp0 : xNP pF)  : ∀ (n : Nat) (lv : xL) (σ : RS) (l1 : Int32) (l2 : Int32), xg lv 0 = some (.ref aR) → xg lv 1 = some (.int l1) → xg lv 2 = some (.int l2) → ∀ res, m_answer_b42 F  n σ l1 l2 = some res → xR pF (d + 1) kT242 16 3 false (some .int) (some (.int res.1)) (layR aR res.2 G, T) (42, lv, [], (layR aR σ G, T)) := by
  intro n
  induction n with
  | zero => intro lv σ l1 l2 g0 g1 g2 res h; simp [m_answer_b42] at h
  | succ n hKK =>
    intro lv σ l1 l2 g0 g1 g2 res h
    unfold m_answer_b42 at h
    dsimp only at h
    refine eE_iload_n lk242_42 g2 ?_
    refine eE_aload_n lk242_43 g0 ?_
    refine eR_get lk242_44 rf_863 rfl ?_
    refine eE_icmp (t := 74) lk242_47 (by decide) (fun c1 => ?_) (fun c1 => ?_)
    · rw [if_pos c1] at h
      refine eE_aload_n lk242_74 g0 ?_
      refine eR_get lk242_75 rf_863 rfl ?_
      cases h
      exact eE_end lk242_78 rfl rfl rfl
    · rw [if_neg c1] at h
      refine eE_aload_n lk242_50 g0 ?_
      refine eR_getA lk242_51 rf_381 rfl ?_
      refine eE_iload_n lk242_54 g2 ?_
      refine eE_aload_n lk242_55 g0 ?_
      refine eR_getA lk242_56 rf_372 rfl ?_
      refine eE_sipush (v := 160) lk242_59 (by decide) ?_
      refine eE_iload_n lk242_62 g1 ?_
      refine eE_imul lk242_63 ?_
      refine eE_iload_n lk242_64 g2 ?_
      refine eE_iadd lk242_65 ?_
      obtain ⟨x2, h3, h⟩ := Option.bind_eq_some_iff.mp h
      refine eR_bald lk242_66 rfl (Or.inl rfl) h3 ?_
      obtain ⟨σ4, h5, h⟩ := Option.bind_eq_some_iff.mp h
      refine eR_bast lk242_67 rfl rfl rfl h5 ?_
      refine eE_inc (j := 2) (v := l2 + (1 : Int32)) lk242_68 g2 rfl (by decide) (fun vq6 gq7 kq8 => ?_)
      have gq9 := kq8 1 _ (by decide) (fun _ => rfl) g1
      have gq10 := kq8 0 _ (by decide) (fun _ => rfl) g0
      refine eE_goto (t := 42) lk242_71 (by decide) ?_
      exact hKK vq6 σ4 l1 (l2 + (1 : Int32)) gq10 gq9 gq7 _ h
def m_answer_b18 (F : Nat)  (σ : RS) (s1 : Int32) (l1 : Int32) : Option (Int32 × RS) :=
  (some (setI σ 0 0 s1)).bind fun σ11 =>
  if xc0 .le (σ11.1 0 0) = true then (
    (rld σ11 139 l1).bind fun x14 =>
    (some (setI σ11 144 0 x14)).bind fun σ16 =>
    m_answer_b42 F  F σ16 l1 ((0 : Int32))
  ) else (
    some ((0 : Int32), σ11)
  )
set_option maxRecDepth 4000 in
theorem m_answer_b18_ok {pF : Nat → List Value → xH → Option (Option Value × xH)} {d : Nat} {aR : Nat} {G : Nat → xC} {T : Nat × Nat} {F : Nat} (hp0 : xNP pF)  : ∀ (lv : xL) (σ : RS) (s1 : Int32) (l1 : Int32), xg lv 0 = some (.ref aR) → xg lv 1 = some (.int l1) → ∀ res, m_answer_b18 F  σ s1 l1 = some res → xR pF (d + 1) kT242 16 3 false (some .int) (some (.int res.1)) (layR aR res.2 G, T) (18, lv, [.int s1, .ref aR], (layR aR σ G, T)) := by
  intro lv σ s1 l1 g0 g1 res h
  unfold m_answer_b18 at h
  obtain ⟨σ11, h12, h⟩ := Option.bind_eq_some_iff.mp h
  refine eR_putS lk242_18 rf_393 rfl (by decide) pf_0.1 pf_0.2 h12 ?_
  refine eE_aload_n lk242_21 g0 ?_
  refine eR_get lk242_22 rf_393 rfl ?_
  refine eE_if (t := 30) lk242_25 (by decide) (fun c13 => ?_) (fun c13 => ?_)
  · rw [if_pos c13] at h
    refine eE_aload_n lk242_30 g0 ?_
    refine eE_aload_n lk242_31 g0 ?_
    refine eR_getA lk242_32 rf_375 rfl ?_
    refine eE_iload_n lk242_35 g1 ?_
    obtain ⟨x14, h15, h⟩ := Option.bind_eq_some_iff.mp h
    refine eR_iald lk242_36 rfl rfl h15 ?_
    obtain ⟨σ16, h17, h⟩ := Option.bind_eq_some_iff.mp h
    refine eR_putS lk242_37 rf_863 rfl (by decide) pf_144.1 pf_144.2 h17 ?_
    refine eE_iconst (v := 0) lk242_40 (by decide) ?_
    refine eE_stI (j := 2) lk242_41 (Or.inr ⟨_, rfl, rfl⟩) (by decide) (fun vq18 gq19 kq20 => ?_)
    have gq21 := kq20 1 _ (by decide) (fun _ => rfl) g1
    have gq22 := kq20 0 _ (by decide) (fun _ => rfl) g0
    exact m_answer_b42_ok hp0  F vq18 σ16 l1 ((0 : Int32)) gq22 gq21 gq19 _ h
  · rw [if_neg c13] at h
    refine eE_iconst (v := 0) lk242_28 (by decide) ?_
    cases h
    exact eE_end lk242_29 rfl rfl rfl
def m_answer_b0 (F : Nat)  (σ : RS) (l1 : Int32) : Option (Int32 × RS) :=
  (m_in (l1.toInt64) ((0 : Int64)) ((7 : Int64))).bind fun p23 =>
  if xc0 .eq p23 = true then (
    m_answer_b18 F  σ ((1 : Int32)) l1
  ) else (
    m_answer_b18 F  σ ((0 : Int32)) l1
  )
set_option maxRecDepth 4000 in
theorem m_answer_b0_ok {pF : Nat → List Value → xH → Option (Option Value × xH)} {d : Nat} {aR : Nat} {G : Nat → xC} {T : Nat × Nat} {F : Nat} (hp0 : xNP pF)  : ∀ (lv : xL) (σ : RS) (l1 : Int32), xg lv 0 = some (.ref aR) → xg lv 1 = some (.int l1) → ∀ res, m_answer_b0 F  σ l1 = some res → xR pF (d + 1) kT242 16 3 false (some .int) (some (.int res.1)) (layR aR res.2 G, T) (0, lv, [], (layR aR σ G, T)) := by
  intro lv σ l1 g0 g1 res h
  unfold m_answer_b0 at h
  refine eE_aload_n lk242_0 g0 ?_
  refine eE_iload_n lk242_1 g1 ?_
  refine eE_i2l lk242_2 ?_
  refine eE_lconst (v := 0) lk242_3 (by decide) ?_
  refine eE_ldc2_w (v := 7) lk242_4 xl_809 ?_
  obtain ⟨p23, h24, h⟩ := Option.bind_eq_some_iff.mp h
  refine eE_stat (as := [.long (l1.toInt64), .long ((0 : Int64)), .long ((7 : Int64))]) lk242_7 mr_799 na_294 rfl rfl (Nat.le_of_ble_eq_true rfl) mm_294 ws_294 (m_in_ok hp0 (d := d + 0) h24) ?_
  refine eE_if (t := 17) lk242_10 (by decide) (fun c25 => ?_) (fun c25 => ?_)
  · rw [if_pos c25] at h
    refine eE_iconst (v := 1) lk242_17 (by decide) ?_
    exact m_answer_b18_ok hp0  lv σ ((1 : Int32)) l1 g0 g1 _ h
  · rw [if_neg c25] at h
    refine eE_iconst (v := 0) lk242_13 (by decide) ?_
    refine eE_goto (t := 18) lk242_14 (by decide) ?_
    exact m_answer_b18_ok hp0  lv σ ((0 : Int32)) l1 g0 g1 _ h
def m_answer (F : Nat) (σ : RS) (l1 : Int32) : Option (Int32 × RS) := m_answer_b0 F σ l1
theorem m_answer_ok {pF : Nat → List Value → xH → Option (Option Value × xH)} (hp0 : xNP pF) {d : Nat} {aR : Nat} {G : Nat → xC} {T : Nat × Nat} {σ : RS} {F : Nat} {l1 : Int32} {res : Int32 × RS} (h : m_answer F σ l1 = some res) : xCo pF (d + 2) 242 [.ref aR, .int l1] (layR aR σ G, T) (some (.int res.1)) (layR aR res.2 G, T) := by
  unfold m_answer at h
  exact xCo_R kk_242 mo_242 ni_242 xm_242 (Nat.le_of_ble_eq_true rfl) (hp0 _ (by decide) (by decide) _ _) (m_answer_b0_ok hp0 _ σ l1 rfl rfl _ h)
/-! fresh (287), depth 1 -/
def m_fresh  (σ : RS) (l1 : Int32) : Option (Int32 × RS) :=
  (rld σ 65 l1).bind fun x1 =>
  some ((x1 >>> (((7 : Int32)) &&& 31)) &&& ((127 : Int32)), σ)
set_option maxRecDepth 4000 in
theorem m_fresh_run {pF : Nat → List Value → xH → Option (Option Value × xH)} {d : Nat} {aR : Nat} {G : Nat → xC} {T : Nat × Nat} (hp0 : xNP pF)  : ∀ (lv : xL) (σ : RS) (l1 : Int32), xg lv 0 = some (.ref aR) → xg lv 1 = some (.int l1) → ∀ res, m_fresh  σ l1 = some res → xR pF (d + 0) kT287 16 2 false (some .int) (some (.int res.1)) (layR aR res.2 G, T) (0, lv, [], (layR aR σ G, T)) := by
  intro lv σ l1 g0 g1 res h
  unfold m_fresh at h
  refine eE_aload_n lk287_0 g0 ?_
  refine eR_getA lk287_1 rf_160 rfl ?_
  refine eE_iload_n lk287_4 g1 ?_
  obtain ⟨x1, h2, h⟩ := Option.bind_eq_some_iff.mp h
  refine eR_iald lk287_5 rfl rfl h2 ?_
  refine eE_bipush (v := 7) lk287_6 (by decide) ?_
  refine eE_ishr lk287_8 ?_
  refine eE_bipush (v := 127) lk287_9 (by decide) ?_
  refine eE_iand lk287_11 ?_
  cases h
  exact eE_end lk287_12 rfl rfl rfl
theorem m_fresh_ok {pF : Nat → List Value → xH → Option (Option Value × xH)} (hp0 : xNP pF) {d : Nat} {aR : Nat} {G : Nat → xC} {T : Nat × Nat} {σ : RS} {l1 : Int32} {res : Int32 × RS} (h : m_fresh σ l1 = some res) : xCo pF (d + 1) 287 [.ref aR, .int l1] (layR aR σ G, T) (some (.int res.1)) (layR aR res.2 G, T) := by
  exact xCo_R kk_287 mo_287 ni_287 xm_287 (Nat.le_of_ble_eq_true rfl) (hp0 _ (by decide) (by decide) _ _) (m_fresh_run hp0 _ σ l1 rfl rfl _ h)
/-! old (330), depth 1 -/
def m_old  (σ : RS) (l1 : Int32) : Option (Int32 × RS) :=
  (rld σ 65 l1).bind fun x1 =>
  some (x1 &&& ((127 : Int32)), σ)
set_option maxRecDepth 4000 in
theorem m_old_run {pF : Nat → List Value → xH → Option (Option Value × xH)} {d : Nat} {aR : Nat} {G : Nat → xC} {T : Nat × Nat} (hp0 : xNP pF)  : ∀ (lv : xL) (σ : RS) (l1 : Int32), xg lv 0 = some (.ref aR) → xg lv 1 = some (.int l1) → ∀ res, m_old  σ l1 = some res → xR pF (d + 0) kT330 16 2 false (some .int) (some (.int res.1)) (layR aR res.2 G, T) (0, lv, [], (layR aR σ G, T)) := by
  intro lv σ l1 g0 g1 res h
  unfold m_old at h
  refine eE_aload_n lk330_0 g0 ?_
  refine eR_getA lk330_1 rf_160 rfl ?_
  refine eE_iload_n lk330_4 g1 ?_
  obtain ⟨x1, h2, h⟩ := Option.bind_eq_some_iff.mp h
  refine eR_iald lk330_5 rfl rfl h2 ?_
  refine eE_bipush (v := 127) lk330_6 (by decide) ?_
  refine eE_iand lk330_8 ?_
  cases h
  exact eE_end lk330_9 rfl rfl rfl
theorem m_old_ok {pF : Nat → List Value → xH → Option (Option Value × xH)} (hp0 : xNP pF) {d : Nat} {aR : Nat} {G : Nat → xC} {T : Nat × Nat} {σ : RS} {l1 : Int32} {res : Int32 × RS} (h : m_old σ l1 = some res) : xCo pF (d + 1) 330 [.ref aR, .int l1] (layR aR σ G, T) (some (.int res.1)) (layR aR res.2 G, T) := by
  exact xCo_R kk_330 mo_330 ni_330 xm_330 (Nat.le_of_ble_eq_true rfl) (hp0 _ (by decide) (by decide) _ _) (m_old_run hp0 _ σ l1 rfl rfl _ h)
/-! size (359), depth 1 -/
def m_size_b4 (F : Nat)  : Nat → Int32 → Int32 → Int32 → Option (Int32)
  | 0, _, _, _ => none
  | n + 1, l0, l1, l2 =>
    let KK := m_size_b4 F  n
    if xc2 .ge l2 ((7 : Int32)) = true then (
      some l1
    ) else (
      KK l0 (l1 + ((l0 >>> (l2 &&& 31)) &&& ((1 : Int32)))) (l2 + (1 : Int32))
    )
set_option maxRecDepth 4000 in
theorem m_size_b4_ok {pF : Nat → List Value → xH → Option (Option Value × xH)} {d : Nat} {hp : xH} {F : Nat} (hp0 : xNP pF)  : ∀ (n : Nat) (lv : xL) (l0 : Int32) (l1 : Int32) (l2 : Int32), xg lv 0 = some (.int l0) → xg lv 1 = some (.int l1) → xg lv 2 = some (.int l2) → ∀ res, m_size_b4 F  n l0 l1 l2 = some res → xR pF (d + 0) kT359 16 3 false (some .int) (some (.int res)) hp (4, lv, [], hp) := by
  intro n
  induction n with
  | zero => intro lv l0 l1 l2 g0 g1 g2 res h; simp [m_size_b4] at h
  | succ n hKK =>
    intro lv l0 l1 l2 g0 g1 g2 res h
    unfold m_size_b4 at h
    dsimp only at h
    refine eE_iload_n lk359_4 g2 ?_
    refine eE_bipush (v := 7) lk359_5 (by decide) ?_
    refine eE_icmp (t := 24) lk359_7 (by decide) (fun c1 => ?_) (fun c1 => ?_)
    · rw [if_pos c1] at h
      refine eE_iload_n lk359_24 g1 ?_
      cases h
      exact eE_end lk359_25 rfl rfl rfl
    · rw [if_neg c1] at h
      refine eE_iload_n lk359_10 g1 ?_
      refine eE_iload_n lk359_11 g0 ?_
      refine eE_iload_n lk359_12 g2 ?_
      refine eE_ishr lk359_13 ?_
      refine eE_iconst (v := 1) lk359_14 (by decide) ?_
      refine eE_iand lk359_15 ?_
      refine eE_iadd lk359_16 ?_
      refine eE_stI (j := 1) lk359_17 (Or.inr ⟨_, rfl, rfl⟩) (by decide) (fun vq2 gq3 kq4 => ?_)
      have gq5 := kq4 0 _ (by decide) (fun _ => rfl) g0
      have gq6 := kq4 2 _ (by decide) (fun _ => rfl) g2
      refine eE_inc (j := 2) (v := l2 + (1 : Int32)) lk359_18 gq6 rfl (by decide) (fun vq7 gq8 kq9 => ?_)
      have gq10 := kq9 0 _ (by decide) (fun _ => rfl) gq5
      have gq11 := kq9 1 _ (by decide) (fun _ => rfl) gq3
      refine eE_goto (t := 4) lk359_21 (by decide) ?_
      exact hKK vq7 l0 (l1 + ((l0 >>> (l2 &&& 31)) &&& ((1 : Int32)))) (l2 + (1 : Int32)) gq10 gq11 gq8 _ h
def m_size_b0 (F : Nat)  (l0 : Int32) : Option (Int32) :=
  m_size_b4 F  F l0 ((0 : Int32)) ((0 : Int32))
set_option maxRecDepth 4000 in
theorem m_size_b0_ok {pF : Nat → List Value → xH → Option (Option Value × xH)} {d : Nat} {hp : xH} {F : Nat} (hp0 : xNP pF)  : ∀ (lv : xL) (l0 : Int32), xg lv 0 = some (.int l0) → ∀ res, m_size_b0 F  l0 = some res → xR pF (d + 0) kT359 16 3 false (some .int) (some (.int res)) hp (0, lv, [], hp) := by
  intro lv l0 g0 res h
  unfold m_size_b0 at h
  refine eE_iconst (v := 0) lk359_0 (by decide) ?_
  refine eE_stI (j := 1) lk359_1 (Or.inr ⟨_, rfl, rfl⟩) (by decide) (fun vq12 gq13 kq14 => ?_)
  have gq15 := kq14 0 _ (by decide) (fun _ => rfl) g0
  refine eE_iconst (v := 0) lk359_2 (by decide) ?_
  refine eE_stI (j := 2) lk359_3 (Or.inr ⟨_, rfl, rfl⟩) (by decide) (fun vq16 gq17 kq18 => ?_)
  have gq19 := kq18 0 _ (by decide) (fun _ => rfl) gq15
  have gq20 := kq18 1 _ (by decide) (fun _ => rfl) gq13
  exact m_size_b4_ok hp0  F vq16 l0 ((0 : Int32)) ((0 : Int32)) gq19 gq20 gq17 _ h
def m_size (F : Nat) (l0 : Int32) : Option (Int32) := m_size_b0 F l0
theorem m_size_ok {pF : Nat → List Value → xH → Option (Option Value × xH)} (hp0 : xNP pF) {d : Nat} {hp : xH} {F : Nat} {l0 : Int32} {res : Int32} (h : m_size F l0 = some res) : xCo pF (d + 1) 359 [.int l0] hp (some (.int res)) hp := by
  unfold m_size at h
  exact xCo_R kk_359 mo_359 ni_359 xm_359 (Nat.le_of_ble_eq_true rfl) (hp0 _ (by decide) (by decide) _ _) (m_size_b0_ok hp0 _ l0 rfl _ h)
/-! isMajority (303), depth 2 -/
def m_isMajority_b55 (F : Nat)  (σ : RS) (s0 : Int32) : Option (Int32 × RS) :=
  if s0 = 0 ∨ s0 = 1 then some (s0, σ) else none
set_option maxRecDepth 4000 in
theorem m_isMajority_b55_ok {pF : Nat → List Value → xH → Option (Option Value × xH)} {d : Nat} {aR : Nat} {G : Nat → xC} {T : Nat × Nat} {F : Nat} (hp0 : xNP pF)  : ∀ (lv : xL) (σ : RS) (s0 : Int32), xg lv 0 = some (.ref aR) → ∀ res, m_isMajority_b55 F  σ s0 = some res → xR pF (d + 1) kT303 16 5 false (some .boolean) (some (.int res.1)) (layR aR res.2 G, T) (55, lv, [.int s0], (layR aR σ G, T)) := by
  intro lv σ s0 g0 res h
  unfold m_isMajority_b55 at h
  by_cases z1 : s0 = 0 ∨ s0 = 1
  · rw [if_pos z1] at h; cases h
    exact eE_end lk303_55 rfl rfl (by first | (simp only [xfin, if_true, if_pos z1]; done) | simp [xfin, z1])
  · rw [if_neg z1] at h; cases h
def m_isMajority_b50 (F : Nat)  (σ : RS) : Option (Int32 × RS) :=
  m_isMajority_b55 F  σ ((1 : Int32))
set_option maxRecDepth 4000 in
theorem m_isMajority_b50_ok {pF : Nat → List Value → xH → Option (Option Value × xH)} {d : Nat} {aR : Nat} {G : Nat → xC} {T : Nat × Nat} {F : Nat} (hp0 : xNP pF)  : ∀ (lv : xL) (σ : RS), xg lv 0 = some (.ref aR) → ∀ res, m_isMajority_b50 F  σ = some res → xR pF (d + 1) kT303 16 5 false (some .boolean) (some (.int res.1)) (layR aR res.2 G, T) (50, lv, [], (layR aR σ G, T)) := by
  intro lv σ g0 res h
  unfold m_isMajority_b50 at h
  refine eE_iconst (v := 1) lk303_50 (by decide) ?_
  refine eE_goto (t := 55) lk303_51 (by decide) ?_
  exact m_isMajority_b55_ok hp0  lv σ ((1 : Int32)) g0 _ h
def m_isMajority_b54 (F : Nat)  (σ : RS) : Option (Int32 × RS) :=
  m_isMajority_b55 F  σ ((0 : Int32))
set_option maxRecDepth 4000 in
theorem m_isMajority_b54_ok {pF : Nat → List Value → xH → Option (Option Value × xH)} {d : Nat} {aR : Nat} {G : Nat → xC} {T : Nat × Nat} {F : Nat} (hp0 : xNP pF)  : ∀ (lv : xL) (σ : RS), xg lv 0 = some (.ref aR) → ∀ res, m_isMajority_b54 F  σ = some res → xR pF (d + 1) kT303 16 5 false (some .boolean) (some (.int res.1)) (layR aR res.2 G, T) (54, lv, [], (layR aR σ G, T)) := by
  intro lv σ g0 res h
  unfold m_isMajority_b54 at h
  refine eE_iconst (v := 0) lk303_54 (by decide) ?_
  exact m_isMajority_b55_ok hp0  lv σ ((0 : Int32)) g0 _ h
def m_isMajority_b0 (F : Nat)  (σ : RS) (l1 : Int32) (l2 : Int32) : Option (Int32 × RS) :=
  (m_old σ l1).bind fun p2 =>
  (m_fresh p2.2 l1).bind fun p10 =>
  (m_size F (l2 &&& p2.1)).bind fun p18 =>
  (m_size F p2.1).bind fun p20 =>
  if xc2 .le (((2 : Int32)) * p18) p20 = true then (
    m_isMajority_b54 F  p10.2
  ) else (
    if xc0 .eq p10.1 = true then (
      m_isMajority_b50 F  p10.2
    ) else (
      (m_size F (l2 &&& p10.1)).bind fun p24 =>
      (m_size F p10.1).bind fun p26 =>
      if xc2 .le (((2 : Int32)) * p24) p26 = true then (
        m_isMajority_b54 F  p10.2
      ) else (
        m_isMajority_b50 F  p10.2
      )
    )
  )
set_option maxRecDepth 4000 in
theorem m_isMajority_b0_ok {pF : Nat → List Value → xH → Option (Option Value × xH)} {d : Nat} {aR : Nat} {G : Nat → xC} {T : Nat × Nat} {F : Nat} (hp0 : xNP pF)  : ∀ (lv : xL) (σ : RS) (l1 : Int32) (l2 : Int32), xg lv 0 = some (.ref aR) → xg lv 1 = some (.int l1) → xg lv 2 = some (.int l2) → ∀ res, m_isMajority_b0 F  σ l1 l2 = some res → xR pF (d + 1) kT303 16 5 false (some .boolean) (some (.int res.1)) (layR aR res.2 G, T) (0, lv, [], (layR aR σ G, T)) := by
  intro lv σ l1 l2 g0 g1 g2 res h
  unfold m_isMajority_b0 at h
  refine eE_aload_n lk303_0 g0 ?_
  refine eE_iload_n lk303_1 g1 ?_
  obtain ⟨p2, h3, h⟩ := Option.bind_eq_some_iff.mp h
  refine eR_call (as := [.int l1]) lk303_2 mr_622 na_330 rfl rfl (Nat.le_of_ble_eq_true rfl) wv_330 wc_330 (m_old_ok hp0 (d := d + 0) h3) ?_
  refine eE_stI (j := 3) lk303_5 (Or.inr ⟨_, rfl, rfl⟩) (by decide) (fun vq4 gq5 kq6 => ?_)
  have gq7 := kq6 1 _ (by decide) (fun _ => rfl) g1
  have gq8 := kq6 2 _ (by decide) (fun _ => rfl) g2
  have gq9 := kq6 0 _ (by decide) (fun _ => rfl) g0
  refine eE_aload_n lk303_6 gq9 ?_
  refine eE_iload_n lk303_7 gq7 ?_
  obtain ⟨p10, h11, h⟩ := Option.bind_eq_some_iff.mp h
  refine eR_call (as := [.int l1]) lk303_8 mr_625 na_287 rfl rfl (Nat.le_of_ble_eq_true rfl) wv_287 wc_287 (m_fresh_ok hp0 (d := d + 0) h11) ?_
  refine eE_stI (j := 4) lk303_11 (Or.inl rfl) (by decide) (fun vq12 gq13 kq14 => ?_)
  have gq15 := kq14 2 _ (by decide) (fun _ => rfl) gq8
  have gq16 := kq14 0 _ (by decide) (fun _ => rfl) gq9
  have gq17 := kq14 3 _ (by decide) (fun _ => rfl) gq5
  refine eE_iconst (v := 2) lk303_13 (by decide) ?_
  refine eE_iload_n lk303_14 gq15 ?_
  refine eE_iload_n lk303_15 gq17 ?_
  refine eE_iand lk303_16 ?_
  obtain ⟨p18, h19, h⟩ := Option.bind_eq_some_iff.mp h
  refine eE_stat (as := [.int (l2 &&& p2.1)]) lk303_17 mr_634 na_359 rfl rfl (Nat.le_of_ble_eq_true rfl) mm_359 ws_359 (m_size_ok hp0 (d := d + 0) h19) ?_
  refine eE_imul lk303_20 ?_
  refine eE_iload_n lk303_21 gq17 ?_
  obtain ⟨p20, h21, h⟩ := Option.bind_eq_some_iff.mp h
  refine eE_stat (as := [.int p2.1]) lk303_22 mr_634 na_359 rfl rfl (Nat.le_of_ble_eq_true rfl) mm_359 ws_359 (m_size_ok hp0 (d := d + 0) h21) ?_
  refine eE_icmp (t := 54) lk303_25 (by decide) (fun c22 => ?_) (fun c22 => ?_)
  · rw [if_pos c22] at h
    exact m_isMajority_b54_ok hp0  vq12 p10.2 gq16 _ h
  · rw [if_neg c22] at h
    refine eE_iload lk303_28 gq13 ?_
    refine eE_if (t := 50) lk303_30 (by decide) (fun c23 => ?_) (fun c23 => ?_)
    · rw [if_pos c23] at h
      exact m_isMajority_b50_ok hp0  vq12 p10.2 gq16 _ h
    · rw [if_neg c23] at h
      refine eE_iconst (v := 2) lk303_33 (by decide) ?_
      refine eE_iload_n lk303_34 gq15 ?_
      refine eE_iload lk303_35 gq13 ?_
      refine eE_iand lk303_37 ?_
      obtain ⟨p24, h25, h⟩ := Option.bind_eq_some_iff.mp h
      refine eE_stat (as := [.int (l2 &&& p10.1)]) lk303_38 mr_634 na_359 rfl rfl (Nat.le_of_ble_eq_true rfl) mm_359 ws_359 (m_size_ok hp0 (d := d + 0) h25) ?_
      refine eE_imul lk303_41 ?_
      refine eE_iload lk303_42 gq13 ?_
      obtain ⟨p26, h27, h⟩ := Option.bind_eq_some_iff.mp h
      refine eE_stat (as := [.int p10.1]) lk303_44 mr_634 na_359 rfl rfl (Nat.le_of_ble_eq_true rfl) mm_359 ws_359 (m_size_ok hp0 (d := d + 0) h27) ?_
      refine eE_icmp (t := 54) lk303_47 (by decide) (fun c28 => ?_) (fun c28 => ?_)
      · rw [if_pos c28] at h
        exact m_isMajority_b54_ok hp0  vq12 p10.2 gq16 _ h
      · rw [if_neg c28] at h
        exact m_isMajority_b50_ok hp0  vq12 p10.2 gq16 _ h
def m_isMajority (F : Nat) (σ : RS) (l1 : Int32) (l2 : Int32) : Option (Int32 × RS) := m_isMajority_b0 F σ l1 l2
theorem m_isMajority_ok {pF : Nat → List Value → xH → Option (Option Value × xH)} (hp0 : xNP pF) {d : Nat} {aR : Nat} {G : Nat → xC} {T : Nat × Nat} {σ : RS} {F : Nat} {l1 : Int32} {l2 : Int32} {res : Int32 × RS} (h : m_isMajority F σ l1 l2 = some res) : xCo pF (d + 2) 303 [.ref aR, .int l1, .int l2] (layR aR σ G, T) (some (.int res.1)) (layR aR res.2 G, T) := by
  unfold m_isMajority at h
  exact xCo_R kk_303 mo_303 ni_303 xm_303 (Nat.le_of_ble_eq_true rfl) (hp0 _ (by decide) (by decide) _ _) (m_isMajority_b0_ok hp0 _ σ l1 l2 rfl rfl rfl _ h)
/-! common (258), depth 3 -/
def m_common_b150 (F : Nat) (K7 : RS → Int32 → Int32 → Int32 → Int32 → Option (Int32 × RS)) (K73 : RS → Int32 → Int32 → Int32 → Int32 → Int32 → Int32 → Int32 → Option (Int32 × RS)) (σ : RS) (s0 : Int32) (s1 : Int32) (l1 : Int32) (l2 : Int32) (l3 : Int32) (l4 : Int32) (l5 : Int32) (l7 : Int32) : Option (Int32 × RS) :=
  K73 σ l1 l2 l3 l4 l5 (s0 ||| s1) (l7 + (1 : Int32))
set_option maxRecDepth 4000 in
theorem m_common_b150_ok {pF : Nat → List Value → xH → Option (Option Value × xH)} {d : Nat} {aR : Nat} {G : Nat → xC} {T : Nat × Nat} {F : Nat} {K7 : RS → Int32 → Int32 → Int32 → Int32 → Option (Int32 × RS)} {K73 : RS → Int32 → Int32 → Int32 → Int32 → Int32 → Int32 → Int32 → Option (Int32 × RS)} (hp0 : xNP pF) (hK7 : ∀ (lv : xL) (σ : RS) (l1 : Int32) (l2 : Int32) (l3 : Int32) (l4 : Int32), xg lv 0 = some (.ref aR) → xg lv 1 = some (.int l1) → xg lv 2 = some (.int l2) → xg lv 3 = some (.int l3) → xg lv 4 = some (.int l4) → ∀ res, K7 σ l1 l2 l3 l4 = some res → xR pF (d + 2) kT258 16 9 false (some .int) (some (.int res.1)) (layR aR res.2 G, T) (7, lv, [], (layR aR σ G, T))) (hK73 : ∀ (lv : xL) (σ : RS) (l1 : Int32) (l2 : Int32) (l3 : Int32) (l4 : Int32) (l5 : Int32) (l6 : Int32) (l7 : Int32), xg lv 0 = some (.ref aR) → xg lv 1 = some (.int l1) → xg lv 2 = some (.int l2) → xg lv 3 = some (.int l3) → xg lv 4 = some (.int l4) → xg lv 5 = some (.int l5) → xg lv 6 = some (.int l6) → xg lv 7 = some (.int l7) → ∀ res, K73 σ l1 l2 l3 l4 l5 l6 l7 = some res → xR pF (d + 2) kT258 16 9 false (some .int) (some (.int res.1)) (layR aR res.2 G, T) (73, lv, [], (layR aR σ G, T))) : ∀ (lv : xL) (σ : RS) (s0 : Int32) (s1 : Int32) (l1 : Int32) (l2 : Int32) (l3 : Int32) (l4 : Int32) (l5 : Int32) (l7 : Int32), xg lv 0 = some (.ref aR) → xg lv 1 = some (.int l1) → xg lv 2 = some (.int l2) → xg lv 3 = some (.int l3) → xg lv 4 = some (.int l4) → xg lv 5 = some (.int l5) → xg lv 7 = some (.int l7) → ∀ res, m_common_b150 F K7 K73 σ s0 s1 l1 l2 l3 l4 l5 l7 = some res → xR pF (d + 2) kT258 16 9 false (some .int) (some (.int res.1)) (layR aR res.2 G, T) (150, lv, [.int s1, .int s0], (layR aR σ G, T)) := by
  intro lv σ s0 s1 l1 l2 l3 l4 l5 l7 g0 g1 g2 g3 g4 g5 g7 res h
  unfold m_common_b150 at h
  refine eE_ior lk258_150 ?_
  refine eE_stI (j := 6) lk258_151 (Or.inl rfl) (by decide) (fun vq1 gq2 kq3 => ?_)
  have gq4 := kq3 1 _ (by decide) (fun _ => rfl) g1
  have gq5 := kq3 2 _ (by decide) (fun _ => rfl) g2
  have gq6 := kq3 3 _ (by decide) (fun _ => rfl) g3
  have gq7 := kq3 4 _ (by decide) (fun _ => rfl) g4
  have gq8 := kq3 5 _ (by decide) (fun _ => rfl) g5
  have gq9 := kq3 7 _ (by decide) (fun _ => rfl) g7
  have gq10 := kq3 0 _ (by decide) (fun _ => rfl) g0
  refine eE_inc (j := 7) (v := l7 + (1 : Int32)) lk258_153 gq9 rfl (by decide) (fun vq11 gq12 kq13 => ?_)
  have gq14 := kq13 1 _ (by decide) (fun _ => rfl) gq4
  have gq15 := kq13 2 _ (by decide) (fun _ => rfl) gq5
  have gq16 := kq13 3 _ (by decide) (fun _ => rfl) gq6
  have gq17 := kq13 4 _ (by decide) (fun _ => rfl) gq7
  have gq18 := kq13 5 _ (by decide) (fun _ => rfl) gq8
  have gq19 := kq13 0 _ (by decide) (fun _ => rfl) gq10
  have gq20 := kq13 6 _ (by decide) (fun _ => rfl) gq2
  refine eE_goto (t := 73) lk258_156 (by decide) ?_
  exact hK73 vq11 σ l1 l2 l3 l4 l5 (s0 ||| s1) (l7 + (1 : Int32)) gq19 gq14 gq15 gq16 gq17 gq18 gq20 gq12 _ h
def m_common_b131 (F : Nat) (K7 : RS → Int32 → Int32 → Int32 → Int32 → Option (Int32 × RS)) (K73 : RS → Int32 → Int32 → Int32 → Int32 → Int32 → Int32 → Int32 → Option (Int32 × RS)) (σ : RS) (s0 : Int32) (l1 : Int32) (l2 : Int32) (l3 : Int32) (l4 : Int32) (l5 : Int32) (l6 : Int32) (l7 : Int32) : Option (Int32 × RS) :=
  if xc2 .lt s0 l5 = true then (
    m_common_b150 F K7 K73 σ l6 ((0 : Int32)) l1 l2 l3 l4 l5 l7
  ) else (
    m_common_b150 F K7 K73 σ l6 (((1 : Int32)) <<< (l7 &&& 31)) l1 l2 l3 l4 l5 l7
  )
set_option maxRecDepth 4000 in
theorem m_common_b131_ok {pF : Nat → List Value → xH → Option (Option Value × xH)} {d : Nat} {aR : Nat} {G : Nat → xC} {T : Nat × Nat} {F : Nat} {K7 : RS → Int32 → Int32 → Int32 → Int32 → Option (Int32 × RS)} {K73 : RS → Int32 → Int32 → Int32 → Int32 → Int32 → Int32 → Int32 → Option (Int32 × RS)} (hp0 : xNP pF) (hK7 : ∀ (lv : xL) (σ : RS) (l1 : Int32) (l2 : Int32) (l3 : Int32) (l4 : Int32), xg lv 0 = some (.ref aR) → xg lv 1 = some (.int l1) → xg lv 2 = some (.int l2) → xg lv 3 = some (.int l3) → xg lv 4 = some (.int l4) → ∀ res, K7 σ l1 l2 l3 l4 = some res → xR pF (d + 2) kT258 16 9 false (some .int) (some (.int res.1)) (layR aR res.2 G, T) (7, lv, [], (layR aR σ G, T))) (hK73 : ∀ (lv : xL) (σ : RS) (l1 : Int32) (l2 : Int32) (l3 : Int32) (l4 : Int32) (l5 : Int32) (l6 : Int32) (l7 : Int32), xg lv 0 = some (.ref aR) → xg lv 1 = some (.int l1) → xg lv 2 = some (.int l2) → xg lv 3 = some (.int l3) → xg lv 4 = some (.int l4) → xg lv 5 = some (.int l5) → xg lv 6 = some (.int l6) → xg lv 7 = some (.int l7) → ∀ res, K73 σ l1 l2 l3 l4 l5 l6 l7 = some res → xR pF (d + 2) kT258 16 9 false (some .int) (some (.int res.1)) (layR aR res.2 G, T) (73, lv, [], (layR aR σ G, T))) : ∀ (lv : xL) (σ : RS) (s0 : Int32) (l1 : Int32) (l2 : Int32) (l3 : Int32) (l4 : Int32) (l5 : Int32) (l6 : Int32) (l7 : Int32), xg lv 0 = some (.ref aR) → xg lv 1 = some (.int l1) → xg lv 2 = some (.int l2) → xg lv 3 = some (.int l3) → xg lv 4 = some (.int l4) → xg lv 5 = some (.int l5) → xg lv 6 = some (.int l6) → xg lv 7 = some (.int l7) → ∀ res, m_common_b131 F K7 K73 σ s0 l1 l2 l3 l4 l5 l6 l7 = some res → xR pF (d + 2) kT258 16 9 false (some .int) (some (.int res.1)) (layR aR res.2 G, T) (131, lv, [.int s0], (layR aR σ G, T)) := by
  intro lv σ s0 l1 l2 l3 l4 l5 l6 l7 g0 g1 g2 g3 g4 g5 g6 g7 res h
  unfold m_common_b131 at h
  refine eE_stI (j := 8) lk258_131 (Or.inl rfl) (by decide) (fun vq21 gq22 kq23 => ?_)
  have gq24 := kq23 1 _ (by decide) (fun _ => rfl) g1
  have gq25 := kq23 2 _ (by decide) (fun _ => rfl) g2
  have gq26 := kq23 3 _ (by decide) (fun _ => rfl) g3
  have gq27 := kq23 4 _ (by decide) (fun _ => rfl) g4
  have gq28 := kq23 5 _ (by decide) (fun _ => rfl) g5
  have gq29 := kq23 6 _ (by decide) (fun _ => rfl) g6
  have gq30 := kq23 7 _ (by decide) (fun _ => rfl) g7
  have gq31 := kq23 0 _ (by decide) (fun _ => rfl) g0
  refine eE_iload lk258_133 gq29 ?_
  refine eE_iload lk258_135 gq22 ?_
  refine eE_iload lk258_137 gq28 ?_
  refine eE_icmp (t := 149) lk258_139 (by decide) (fun c32 => ?_) (fun c32 => ?_)
  · rw [if_pos c32] at h
    refine eE_iconst (v := 0) lk258_149 (by decide) ?_
    exact m_common_b150_ok hp0 hK7 hK73 vq21 σ l6 ((0 : Int32)) l1 l2 l3 l4 l5 l7 gq31 gq24 gq25 gq26 gq27 gq28 gq30 _ h
  · rw [if_neg c32] at h
    refine eE_iconst (v := 1) lk258_142 (by decide) ?_
    refine eE_iload lk258_143 gq30 ?_
    refine eE_ishl lk258_145 ?_
    refine eE_goto (t := 150) lk258_146 (by decide) ?_
    exact m_common_b150_ok hp0 hK7 hK73 vq21 σ l6 (((1 : Int32)) <<< (l7 &&& 31)) l1 l2 l3 l4 l5 l7 gq31 gq24 gq25 gq26 gq27 gq28 gq30 _ h
def m_common_b178 (F : Nat) (K7 : RS → Int32 → Int32 → Int32 → Int32 → Option (Int32 × RS)) (σ : RS) (l1 : Int32) (l2 : Int32) (l3 : Int32) (l4 : Int32) : Option (Int32 × RS) :=
  K7 σ l1 l2 l3 (l4 + (1 : Int32))
set_option maxRecDepth 4000 in
theorem m_common_b178_ok {pF : Nat → List Value → xH → Option (Option Value × xH)} {d : Nat} {aR : Nat} {G : Nat → xC} {T : Nat × Nat} {F : Nat} {K7 : RS → Int32 → Int32 → Int32 → Int32 → Option (Int32 × RS)} (hp0 : xNP pF) (hK7 : ∀ (lv : xL) (σ : RS) (l1 : Int32) (l2 : Int32) (l3 : Int32) (l4 : Int32), xg lv 0 = some (.ref aR) → xg lv 1 = some (.int l1) → xg lv 2 = some (.int l2) → xg lv 3 = some (.int l3) → xg lv 4 = some (.int l4) → ∀ res, K7 σ l1 l2 l3 l4 = some res → xR pF (d + 2) kT258 16 9 false (some .int) (some (.int res.1)) (layR aR res.2 G, T) (7, lv, [], (layR aR σ G, T))) : ∀ (lv : xL) (σ : RS) (l1 : Int32) (l2 : Int32) (l3 : Int32) (l4 : Int32), xg lv 0 = some (.ref aR) → xg lv 1 = some (.int l1) → xg lv 2 = some (.int l2) → xg lv 3 = some (.int l3) → xg lv 4 = some (.int l4) → ∀ res, m_common_b178 F K7 σ l1 l2 l3 l4 = some res → xR pF (d + 2) kT258 16 9 false (some .int) (some (.int res.1)) (layR aR res.2 G, T) (178, lv, [], (layR aR σ G, T)) := by
  intro lv σ l1 l2 l3 l4 g0 g1 g2 g3 g4 res h
  unfold m_common_b178 at h
  refine eE_inc (j := 4) (v := l4 + (1 : Int32)) lk258_178 g4 rfl (by decide) (fun vq33 gq34 kq35 => ?_)
  have gq36 := kq35 1 _ (by decide) (fun _ => rfl) g1
  have gq37 := kq35 2 _ (by decide) (fun _ => rfl) g2
  have gq38 := kq35 3 _ (by decide) (fun _ => rfl) g3
  have gq39 := kq35 0 _ (by decide) (fun _ => rfl) g0
  refine eE_goto (t := 7) lk258_181 (by decide) ?_
  exact hK7 vq33 σ l1 l2 l3 (l4 + (1 : Int32)) gq39 gq36 gq37 gq38 gq34 _ h
def m_common_b73 (F : Nat) (K7 : RS → Int32 → Int32 → Int32 → Int32 → Option (Int32 × RS)) : Nat → RS → Int32 → Int32 → Int32 → Int32 → Int32 → Int32 → Int32 → Option (Int32 × RS)
  | 0, _, _, _, _, _, _, _, _ => none
  | n + 1, σ, l1, l2, l3, l4, l5, l6, l7 =>
    let KK := m_common_b73 F K7 n
    if xc2 .ge l7 ((7 : Int32)) = true then (
      if xc2 .le l5 l3 = true then (
        m_common_b178 F K7 σ l1 l2 l3 l4
      ) else (
        (m_isMajority F σ l1 l6).bind fun p42 =>
        if xc0 .eq p42.1 = true then (
          m_common_b178 F K7 p42.2 l1 l2 l3 l4
        ) else (
          m_common_b178 F K7 p42.2 l1 l2 l5 l4
        )
      )
    ) else (
      if xc0 .ne l2 = true then (
        if xc2 .ne l2 ((1 : Int32)) = true then (
          (rld σ 91 ((((7 : Int32)) * l1) + l7)).bind fun x54 =>
          m_common_b131 F K7 KK σ x54 l1 l2 l3 l4 l5 l6 l7
        ) else (
          (rld σ 92 ((((7 : Int32)) * l1) + l7)).bind fun x56 =>
          m_common_b131 F K7 KK σ x56 l1 l2 l3 l4 l5 l6 l7
        )
      ) else (
        (rld σ 87 ((((7 : Int32)) * l1) + l7)).bind fun x58 =>
        m_common_b131 F K7 KK σ x58 l1 l2 l3 l4 l5 l6 l7
      )
    )
set_option maxRecDepth 4000 in
theorem m_common_b73_ok {pF : Nat → List Value → xH → Option (Option Value × xH)} {d : Nat} {aR : Nat} {G : Nat → xC} {T : Nat × Nat} {F : Nat} {K7 : RS → Int32 → Int32 → Int32 → Int32 → Option (Int32 × RS)} (hp0 : xNP pF) (hK7 : ∀ (lv : xL) (σ : RS) (l1 : Int32) (l2 : Int32) (l3 : Int32) (l4 : Int32), xg lv 0 = some (.ref aR) → xg lv 1 = some (.int l1) → xg lv 2 = some (.int l2) → xg lv 3 = some (.int l3) → xg lv 4 = some (.int l4) → ∀ res, K7 σ l1 l2 l3 l4 = some res → xR pF (d + 2) kT258 16 9 false (some .int) (some (.int res.1)) (layR aR res.2 G, T) (7, lv, [], (layR aR σ G, T))) : ∀ (n : Nat) (lv : xL) (σ : RS) (l1 : Int32) (l2 : Int32) (l3 : Int32) (l4 : Int32) (l5 : Int32) (l6 : Int32) (l7 : Int32), xg lv 0 = some (.ref aR) → xg lv 1 = some (.int l1) → xg lv 2 = some (.int l2) → xg lv 3 = some (.int l3) → xg lv 4 = some (.int l4) → xg lv 5 = some (.int l5) → xg lv 6 = some (.int l6) → xg lv 7 = some (.int l7) → ∀ res, m_common_b73 F K7 n σ l1 l2 l3 l4 l5 l6 l7 = some res → xR pF (d + 2) kT258 16 9 false (some .int) (some (.int res.1)) (layR aR res.2 G, T) (73, lv, [], (layR aR σ G, T)) := by
  intro n
  induction n with
  | zero => intro lv σ l1 l2 l3 l4 l5 l6 l7 g0 g1 g2 g3 g4 g5 g6 g7 res h; simp [m_common_b73] at h
  | succ n hKK =>
    intro lv σ l1 l2 l3 l4 l5 l6 l7 g0 g1 g2 g3 g4 g5 g6 g7 res h
    unfold m_common_b73 at h
    dsimp only at h
    refine eE_iload lk258_73 g7 ?_
    refine eE_bipush (v := 7) lk258_75 (by decide) ?_
    refine eE_icmp (t := 159) lk258_77 (by decide) (fun c40 => ?_) (fun c40 => ?_)
    · rw [if_pos c40] at h
      refine eE_iload lk258_159 g5 ?_
      refine eE_iload_n lk258_161 g3 ?_
      refine eE_icmp (t := 178) lk258_162 (by decide) (fun c41 => ?_) (fun c41 => ?_)
      · rw [if_pos c41] at h
        exact m_common_b178_ok hp0 hK7 lv σ l1 l2 l3 l4 g0 g1 g2 g3 g4 _ h
      · rw [if_neg c41] at h
        refine eE_aload_n lk258_165 g0 ?_
        refine eE_iload_n lk258_166 g1 ?_
        refine eE_iload lk258_167 g6 ?_
        obtain ⟨p42, h43, h⟩ := Option.bind_eq_some_iff.mp h
        refine eR_call (as := [.int l1, .int l6]) lk258_169 mr_638 na_303 rfl rfl (Nat.le_of_ble_eq_true rfl) wv_303 wc_303 (m_isMajority_ok hp0 (d := d + 0) h43) ?_
        refine eE_if (t := 178) lk258_172 (by decide) (fun c44 => ?_) (fun c44 => ?_)
        · rw [if_pos c44] at h
          exact m_common_b178_ok hp0 hK7 lv p42.2 l1 l2 l3 l4 g0 g1 g2 g3 g4 _ h
        · rw [if_neg c44] at h
          refine eE_iload lk258_175 g5 ?_
          refine eE_stI (j := 3) lk258_177 (Or.inr ⟨_, rfl, rfl⟩) (by decide) (fun vq45 gq46 kq47 => ?_)
          have gq48 := kq47 1 _ (by decide) (fun _ => rfl) g1
          have gq49 := kq47 2 _ (by decide) (fun _ => rfl) g2
          have gq50 := kq47 4 _ (by decide) (fun _ => rfl) g4
          have gq51 := kq47 0 _ (by decide) (fun _ => rfl) g0
          exact m_common_b178_ok hp0 hK7 vq45 p42.2 l1 l2 l5 l4 gq51 gq48 gq49 gq46 gq50 _ h
    · rw [if_neg c40] at h
      refine eE_iload_n lk258_80 g2 ?_
      refine eE_if (t := 99) lk258_81 (by decide) (fun c52 => ?_) (fun c52 => ?_)
      · rw [if_pos c52] at h
        refine eE_iload_n lk258_99 g2 ?_
        refine eE_iconst (v := 1) lk258_100 (by decide) ?_
        refine eE_icmp (t := 119) lk258_101 (by decide) (fun c53 => ?_) (fun c53 => ?_)
        · rw [if_pos c53] at h
          refine eE_aload_n lk258_119 g0 ?_
          refine eR_getA lk258_120 rf_239 rfl ?_
          refine eE_bipush (v := 7) lk258_123 (by decide) ?_
          refine eE_iload_n lk258_125 g1 ?_
          refine eE_imul lk258_126 ?_
          refine eE_iload lk258_127 g7 ?_
          refine eE_iadd lk258_129 ?_
          obtain ⟨x54, h55, h⟩ := Option.bind_eq_some_iff.mp h
          refine eR_iald lk258_130 rfl rfl h55 ?_
          exact m_common_b131_ok hp0 hK7 hKK lv σ x54 l1 l2 l3 l4 l5 l6 l7 g0 g1 g2 g3 g4 g5 g6 g7 _ h
        · rw [if_neg c53] at h
          refine eE_aload_n lk258_104 g0 ?_
          refine eR_getA lk258_105 rf_242 rfl ?_
          refine eE_bipush (v := 7) lk258_108 (by decide) ?_
          refine eE_iload_n lk258_110 g1 ?_
          refine eE_imul lk258_111 ?_
          refine eE_iload lk258_112 g7 ?_
          refine eE_iadd lk258_114 ?_
          obtain ⟨x56, h57, h⟩ := Option.bind_eq_some_iff.mp h
          refine eR_iald lk258_115 rfl rfl h57 ?_
          refine eE_goto (t := 131) lk258_116 (by decide) ?_
          exact m_common_b131_ok hp0 hK7 hKK lv σ x56 l1 l2 l3 l4 l5 l6 l7 g0 g1 g2 g3 g4 g5 g6 g7 _ h
      · rw [if_neg c52] at h
        refine eE_aload_n lk258_84 g0 ?_
        refine eR_getA lk258_85 rf_227 rfl ?_
        refine eE_bipush (v := 7) lk258_88 (by decide) ?_
        refine eE_iload_n lk258_90 g1 ?_
        refine eE_imul lk258_91 ?_
        refine eE_iload lk258_92 g7 ?_
        refine eE_iadd lk258_94 ?_
        obtain ⟨x58, h59, h⟩ := Option.bind_eq_some_iff.mp h
        refine eR_iald lk258_95 rfl rfl h59 ?_
        refine eE_goto (t := 131) lk258_96 (by decide) ?_
        exact m_common_b131_ok hp0 hK7 hKK lv σ x58 l1 l2 l3 l4 l5 l6 l7 g0 g1 g2 g3 g4 g5 g6 g7 _ h
def m_common_b65 (F : Nat) (K7 : RS → Int32 → Int32 → Int32 → Int32 → Option (Int32 × RS)) (σ : RS) (s0 : Int32) (l1 : Int32) (l2 : Int32) (l3 : Int32) (l4 : Int32) : Option (Int32 × RS) :=
  m_common_b73 F K7 F σ l1 l2 l3 l4 s0 ((0 : Int32)) ((0 : Int32))
set_option maxRecDepth 4000 in
theorem m_common_b65_ok {pF : Nat → List Value → xH → Option (Option Value × xH)} {d : Nat} {aR : Nat} {G : Nat → xC} {T : Nat × Nat} {F : Nat} {K7 : RS → Int32 → Int32 → Int32 → Int32 → Option (Int32 × RS)} (hp0 : xNP pF) (hK7 : ∀ (lv : xL) (σ : RS) (l1 : Int32) (l2 : Int32) (l3 : Int32) (l4 : Int32), xg lv 0 = some (.ref aR) → xg lv 1 = some (.int l1) → xg lv 2 = some (.int l2) → xg lv 3 = some (.int l3) → xg lv 4 = some (.int l4) → ∀ res, K7 σ l1 l2 l3 l4 = some res → xR pF (d + 2) kT258 16 9 false (some .int) (some (.int res.1)) (layR aR res.2 G, T) (7, lv, [], (layR aR σ G, T))) : ∀ (lv : xL) (σ : RS) (s0 : Int32) (l1 : Int32) (l2 : Int32) (l3 : Int32) (l4 : Int32), xg lv 0 = some (.ref aR) → xg lv 1 = some (.int l1) → xg lv 2 = some (.int l2) → xg lv 3 = some (.int l3) → xg lv 4 = some (.int l4) → ∀ res, m_common_b65 F K7 σ s0 l1 l2 l3 l4 = some res → xR pF (d + 2) kT258 16 9 false (some .int) (some (.int res.1)) (layR aR res.2 G, T) (65, lv, [.int s0], (layR aR σ G, T)) := by
  intro lv σ s0 l1 l2 l3 l4 g0 g1 g2 g3 g4 res h
  unfold m_common_b65 at h
  refine eE_stI (j := 5) lk258_65 (Or.inl rfl) (by decide) (fun vq60 gq61 kq62 => ?_)
  have gq63 := kq62 1 _ (by decide) (fun _ => rfl) g1
  have gq64 := kq62 2 _ (by decide) (fun _ => rfl) g2
  have gq65 := kq62 3 _ (by decide) (fun _ => rfl) g3
  have gq66 := kq62 4 _ (by decide) (fun _ => rfl) g4
  have gq67 := kq62 0 _ (by decide) (fun _ => rfl) g0
  refine eE_iconst (v := 0) lk258_67 (by decide) ?_
  refine eE_stI (j := 6) lk258_68 (Or.inl rfl) (by decide) (fun vq68 gq69 kq70 => ?_)
  have gq71 := kq70 1 _ (by decide) (fun _ => rfl) gq63
  have gq72 := kq70 2 _ (by decide) (fun _ => rfl) gq64
  have gq73 := kq70 3 _ (by decide) (fun _ => rfl) gq65
  have gq74 := kq70 4 _ (by decide) (fun _ => rfl) gq66
  have gq75 := kq70 0 _ (by decide) (fun _ => rfl) gq67
  have gq76 := kq70 5 _ (by decide) (fun _ => rfl) gq61
  refine eE_iconst (v := 0) lk258_70 (by decide) ?_
  refine eE_stI (j := 7) lk258_71 (Or.inl rfl) (by decide) (fun vq77 gq78 kq79 => ?_)
  have gq80 := kq79 1 _ (by decide) (fun _ => rfl) gq71
  have gq81 := kq79 2 _ (by decide) (fun _ => rfl) gq72
  have gq82 := kq79 3 _ (by decide) (fun _ => rfl) gq73
  have gq83 := kq79 4 _ (by decide) (fun _ => rfl) gq74
  have gq84 := kq79 0 _ (by decide) (fun _ => rfl) gq75
  have gq85 := kq79 5 _ (by decide) (fun _ => rfl) gq76
  have gq86 := kq79 6 _ (by decide) (fun _ => rfl) gq69
  exact m_common_b73_ok hp0 hK7 F vq77 σ l1 l2 l3 l4 s0 ((0 : Int32)) ((0 : Int32)) gq84 gq80 gq81 gq82 gq83 gq85 gq86 gq78 _ h
def m_common_b7 (F : Nat)  : Nat → RS → Int32 → Int32 → Int32 → Int32 → Option (Int32 × RS)
  | 0, _, _, _, _, _ => none
  | n + 1, σ, l1, l2, l3, l4 =>
    let KK := m_common_b7 F  n
    if xc2 .ge l4 ((7 : Int32)) = true then (
      some (l3, σ)
    ) else (
      if xc0 .ne l2 = true then (
        if xc2 .ne l2 ((1 : Int32)) = true then (
          (rld σ 91 ((((7 : Int32)) * l1) + l4)).bind fun x90 =>
          m_common_b65 F KK σ x90 l1 l2 l3 l4
        ) else (
          (rld σ 92 ((((7 : Int32)) * l1) + l4)).bind fun x92 =>
          m_common_b65 F KK σ x92 l1 l2 l3 l4
        )
      ) else (
        (rld σ 87 ((((7 : Int32)) * l1) + l4)).bind fun x94 =>
        m_common_b65 F KK σ x94 l1 l2 l3 l4
      )
    )
set_option maxRecDepth 4000 in
theorem m_common_b7_ok {pF : Nat → List Value → xH → Option (Option Value × xH)} {d : Nat} {aR : Nat} {G : Nat → xC} {T : Nat × Nat} {F : Nat} (hp0 : xNP pF)  : ∀ (n : Nat) (lv : xL) (σ : RS) (l1 : Int32) (l2 : Int32) (l3 : Int32) (l4 : Int32), xg lv 0 = some (.ref aR) → xg lv 1 = some (.int l1) → xg lv 2 = some (.int l2) → xg lv 3 = some (.int l3) → xg lv 4 = some (.int l4) → ∀ res, m_common_b7 F  n σ l1 l2 l3 l4 = some res → xR pF (d + 2) kT258 16 9 false (some .int) (some (.int res.1)) (layR aR res.2 G, T) (7, lv, [], (layR aR σ G, T)) := by
  intro n
  induction n with
  | zero => intro lv σ l1 l2 l3 l4 g0 g1 g2 g3 g4 res h; simp [m_common_b7] at h
  | succ n hKK =>
    intro lv σ l1 l2 l3 l4 g0 g1 g2 g3 g4 res h
    unfold m_common_b7 at h
    dsimp only at h
    refine eE_iload lk258_7 g4 ?_
    refine eE_bipush (v := 7) lk258_9 (by decide) ?_
    refine eE_icmp (t := 184) lk258_11 (by decide) (fun c87 => ?_) (fun c87 => ?_)
    · rw [if_pos c87] at h
      refine eE_iload_n lk258_184 g3 ?_
      cases h
      exact eE_end lk258_185 rfl rfl rfl
    · rw [if_neg c87] at h
      refine eE_iload_n lk258_14 g2 ?_
      refine eE_if (t := 33) lk258_15 (by decide) (fun c88 => ?_) (fun c88 => ?_)
      · rw [if_pos c88] at h
        refine eE_iload_n lk258_33 g2 ?_
        refine eE_iconst (v := 1) lk258_34 (by decide) ?_
        refine eE_icmp (t := 53) lk258_35 (by decide) (fun c89 => ?_) (fun c89 => ?_)
        · rw [if_pos c89] at h
          refine eE_aload_n lk258_53 g0 ?_
          refine eR_getA lk258_54 rf_239 rfl ?_
          refine eE_bipush (v := 7) lk258_57 (by decide) ?_
          refine eE_iload_n lk258_59 g1 ?_
          refine eE_imul lk258_60 ?_
          refine eE_iload lk258_61 g4 ?_
          refine eE_iadd lk258_63 ?_
          obtain ⟨x90, h91, h⟩ := Option.bind_eq_some_iff.mp h
          refine eR_iald lk258_64 rfl rfl h91 ?_
          exact m_common_b65_ok hp0 hKK lv σ x90 l1 l2 l3 l4 g0 g1 g2 g3 g4 _ h
        · rw [if_neg c89] at h
          refine eE_aload_n lk258_38 g0 ?_
          refine eR_getA lk258_39 rf_242 rfl ?_
          refine eE_bipush (v := 7) lk258_42 (by decide) ?_
          refine eE_iload_n lk258_44 g1 ?_
          refine eE_imul lk258_45 ?_
          refine eE_iload lk258_46 g4 ?_
          refine eE_iadd lk258_48 ?_
          obtain ⟨x92, h93, h⟩ := Option.bind_eq_some_iff.mp h
          refine eR_iald lk258_49 rfl rfl h93 ?_
          refine eE_goto (t := 65) lk258_50 (by decide) ?_
          exact m_common_b65_ok hp0 hKK lv σ x92 l1 l2 l3 l4 g0 g1 g2 g3 g4 _ h
      · rw [if_neg c88] at h
        refine eE_aload_n lk258_18 g0 ?_
        refine eR_getA lk258_19 rf_227 rfl ?_
        refine eE_bipush (v := 7) lk258_22 (by decide) ?_
        refine eE_iload_n lk258_24 g1 ?_
        refine eE_imul lk258_25 ?_
        refine eE_iload lk258_26 g4 ?_
        refine eE_iadd lk258_28 ?_
        obtain ⟨x94, h95, h⟩ := Option.bind_eq_some_iff.mp h
        refine eR_iald lk258_29 rfl rfl h95 ?_
        refine eE_goto (t := 65) lk258_30 (by decide) ?_
        exact m_common_b65_ok hp0 hKK lv σ x94 l1 l2 l3 l4 g0 g1 g2 g3 g4 _ h
def m_common_b0 (F : Nat)  (σ : RS) (l1 : Int32) (l2 : Int32) : Option (Int32 × RS) :=
  m_common_b7 F  F σ l1 l2 ((-2147483647 : Int32)) ((0 : Int32))
set_option maxRecDepth 4000 in
theorem m_common_b0_ok {pF : Nat → List Value → xH → Option (Option Value × xH)} {d : Nat} {aR : Nat} {G : Nat → xC} {T : Nat × Nat} {F : Nat} (hp0 : xNP pF)  : ∀ (lv : xL) (σ : RS) (l1 : Int32) (l2 : Int32), xg lv 0 = some (.ref aR) → xg lv 1 = some (.int l1) → xg lv 2 = some (.int l2) → ∀ res, m_common_b0 F  σ l1 l2 = some res → xR pF (d + 2) kT258 16 9 false (some .int) (some (.int res.1)) (layR aR res.2 G, T) (0, lv, [], (layR aR σ G, T)) := by
  intro lv σ l1 l2 g0 g1 g2 res h
  unfold m_common_b0 at h
  refine eE_ldc_w (v := (-2147483647)) lk258_0 xc_637 ?_
  refine eE_stI (j := 3) lk258_3 (Or.inr ⟨_, rfl, rfl⟩) (by decide) (fun vq96 gq97 kq98 => ?_)
  have gq99 := kq98 1 _ (by decide) (fun _ => rfl) g1
  have gq100 := kq98 2 _ (by decide) (fun _ => rfl) g2
  have gq101 := kq98 0 _ (by decide) (fun _ => rfl) g0
  refine eE_iconst (v := 0) lk258_4 (by decide) ?_
  refine eE_stI (j := 4) lk258_5 (Or.inl rfl) (by decide) (fun vq102 gq103 kq104 => ?_)
  have gq105 := kq104 1 _ (by decide) (fun _ => rfl) gq99
  have gq106 := kq104 2 _ (by decide) (fun _ => rfl) gq100
  have gq107 := kq104 0 _ (by decide) (fun _ => rfl) gq101
  have gq108 := kq104 3 _ (by decide) (fun _ => rfl) gq97
  exact m_common_b7_ok hp0  F vq102 σ l1 l2 ((-2147483647 : Int32)) ((0 : Int32)) gq107 gq105 gq106 gq108 gq103 _ h
def m_common (F : Nat) (σ : RS) (l1 : Int32) (l2 : Int32) : Option (Int32 × RS) := m_common_b0 F σ l1 l2
theorem m_common_ok {pF : Nat → List Value → xH → Option (Option Value × xH)} (hp0 : xNP pF) {d : Nat} {aR : Nat} {G : Nat → xC} {T : Nat × Nat} {σ : RS} {F : Nat} {l1 : Int32} {l2 : Int32} {res : Int32 × RS} (h : m_common F σ l1 l2 = some res) : xCo pF (d + 3) 258 [.ref aR, .int l1, .int l2] (layR aR σ G, T) (some (.int res.1)) (layR aR res.2 G, T) := by
  unfold m_common at h
  exact xCo_R kk_258 mo_258 ni_258 xm_258 (Nat.le_of_ble_eq_true rfl) (hp0 _ (by decide) (by decide) _ _) (m_common_b0_ok hp0 _ σ l1 l2 rfl rfl rfl _ h)
/-! layLetter (315), depth 1 -/
def m_layLetter  (σ : RS) (l1 : Int32) (l2 : Int32) : Option (RS) :=
  (rldL σ 16 (l1 >>> (((3 : Int32)) &&& 31))).bind fun x7 =>
  (rstL σ 16 (l1 >>> (((3 : Int32)) &&& 31)) (((x7 &&& ((((255 : Int64)) <<< ((((8 : Int32)) * (l1 &&& ((7 : Int32)))).toInt64 &&& 63)) ^^^ ((-1 : Int64)))) ||| (((l2.toInt64) &&& ((255 : Int64))) <<< ((((8 : Int32)) * (l1 &&& ((7 : Int32)))).toInt64 &&& 63))))).bind fun σ9 =>
  some σ9
set_option maxRecDepth 4000 in
theorem m_layLetter_run {pF : Nat → List Value → xH → Option (Option Value × xH)} {d : Nat} {aR : Nat} {G : Nat → xC} {T : Nat × Nat} (hp0 : xNP pF)  : ∀ (lv : xL) (σ : RS) (l1 : Int32) (l2 : Int32), xg lv 0 = some (.ref aR) → xg lv 1 = some (.int l1) → xg lv 2 = some (.int l2) → ∀ res, m_layLetter  σ l1 l2 = some res → xR pF (d + 0) kT315 16 4 false none none (layR aR res G, T) (0, lv, [], (layR aR σ G, T)) := by
  intro lv σ l1 l2 g0 g1 g2 res h
  unfold m_layLetter at h
  refine eE_bipush (v := 8) lk315_0 (by decide) ?_
  refine eE_iload_n lk315_2 g1 ?_
  refine eE_bipush (v := 7) lk315_3 (by decide) ?_
  refine eE_iand lk315_5 ?_
  refine eE_imul lk315_6 ?_
  refine eE_stI (j := 3) lk315_7 (Or.inr ⟨_, rfl, rfl⟩) (by decide) (fun vq1 gq2 kq3 => ?_)
  have gq4 := kq3 1 _ (by decide) (fun _ => rfl) g1
  have gq5 := kq3 2 _ (by decide) (fun _ => rfl) g2
  have gq6 := kq3 0 _ (by decide) (fun _ => rfl) g0
  refine eE_aload_n lk315_8 gq6 ?_
  refine eR_getA lk315_9 rf_45 rfl ?_
  refine eE_iload_n lk315_12 gq4 ?_
  refine eE_iconst (v := 3) lk315_13 (by decide) ?_
  refine eE_ishr lk315_14 ?_
  refine eE_aload_n lk315_15 gq6 ?_
  refine eR_getA lk315_16 rf_45 rfl ?_
  refine eE_iload_n lk315_19 gq4 ?_
  refine eE_iconst (v := 3) lk315_20 (by decide) ?_
  refine eE_ishr lk315_21 ?_
  obtain ⟨x7, h8, h⟩ := Option.bind_eq_some_iff.mp h
  refine eR_lald lk315_22 rfl rfl h8 ?_
  refine eE_ldc2_w (v := 255) lk315_23 xl_396 ?_
  refine eE_iload_n lk315_26 gq2 ?_
  refine eE_lshl lk315_27 ?_
  refine eE_ldc2_w (v := (-1)) lk315_28 xl_398 ?_
  refine eE_lxor lk315_31 ?_
  refine eE_land lk315_32 ?_
  refine eE_iload_n lk315_33 gq5 ?_
  refine eE_i2l lk315_34 ?_
  refine eE_ldc2_w (v := 255) lk315_35 xl_396 ?_
  refine eE_land lk315_38 ?_
  refine eE_iload_n lk315_39 gq2 ?_
  refine eE_lshl lk315_40 ?_
  refine eE_lor lk315_41 ?_
  obtain ⟨σ9, h10, h⟩ := Option.bind_eq_some_iff.mp h
  refine eR_last lk315_42 rfl rfl h10 ?_
  cases h
  exact eE_end lk315_43 rfl rfl rfl
theorem m_layLetter_ok {pF : Nat → List Value → xH → Option (Option Value × xH)} (hp0 : xNP pF) {d : Nat} {aR : Nat} {G : Nat → xC} {T : Nat × Nat} {σ : RS} {l1 : Int32} {l2 : Int32} {res : RS} (h : m_layLetter σ l1 l2 = some res) : xCo pF (d + 1) 315 [.ref aR, .int l1, .int l2] (layR aR σ G, T) none (layR aR res G, T) := by
  exact xCo_R kk_315 mo_315 ni_315 xm_315 (Nat.le_of_ble_eq_true rfl) (hp0 _ (by decide) (by decide) _ _) (m_layLetter_run hp0 _ σ l1 l2 rfl rfl rfl _ h)
/-! copyLetter (262), depth 1 -/
def m_copyLetter_b194 (F : Nat)  : Nat → RS → Int32 → Int32 → Int32 → Option (RS)
  | 0, _, _, _, _ => none
  | n + 1, σ, l1, l2, l3 =>
    let KK := m_copyLetter_b194 F  n
    (rld σ 11 l1).bind fun x1 =>
    if xc2 .ge (((8 : Int32)) * l3) x1 = true then (
      some σ
    ) else (
      (rldL σ 16 ((((192 : Int32)) * l1) + l3)).bind fun x4 =>
      (rstL σ 16 ((((192 : Int32)) * l2) + l3) x4).bind fun σ6 =>
      KK σ6 l1 l2 (l3 + (1 : Int32))
    )
set_option maxRecDepth 4000 in
theorem m_copyLetter_b194_ok {pF : Nat → List Value → xH → Option (Option Value × xH)} {d : Nat} {aR : Nat} {G : Nat → xC} {T : Nat × Nat} {F : Nat} (hp0 : xNP pF)  : ∀ (n : Nat) (lv : xL) (σ : RS) (l1 : Int32) (l2 : Int32) (l3 : Int32), xg lv 0 = some (.ref aR) → xg lv 1 = some (.int l1) → xg lv 2 = some (.int l2) → xg lv 3 = some (.int l3) → ∀ res, m_copyLetter_b194 F  n σ l1 l2 l3 = some res → xR pF (d + 0) kT262 16 4 false none none (layR aR res G, T) (194, lv, [], (layR aR σ G, T)) := by
  intro n
  induction n with
  | zero => intro lv σ l1 l2 l3 g0 g1 g2 g3 res h; simp [m_copyLetter_b194] at h
  | succ n hKK =>
    intro lv σ l1 l2 l3 g0 g1 g2 g3 res h
    unfold m_copyLetter_b194 at h
    dsimp only at h
    refine eE_bipush (v := 8) lk262_194 (by decide) ?_
    refine eE_iload_n lk262_196 g3 ?_
    refine eE_imul lk262_197 ?_
    refine eE_aload_n lk262_198 g0 ?_
    refine eR_getA lk262_199 rf_29 rfl ?_
    refine eE_iload_n lk262_202 g1 ?_
    obtain ⟨x1, h2, h⟩ := Option.bind_eq_some_iff.mp h
    refine eR_iald lk262_203 rfl rfl h2 ?_
    refine eE_icmp (t := 237) lk262_204 (by decide) (fun c3 => ?_) (fun c3 => ?_)
    · rw [if_pos c3] at h
      cases h
      exact eE_end lk262_237 rfl rfl rfl
    · rw [if_neg c3] at h
      refine eE_aload_n lk262_207 g0 ?_
      refine eR_getA lk262_208 rf_45 rfl ?_
      refine eE_sipush (v := 192) lk262_211 (by decide) ?_
      refine eE_iload_n lk262_214 g2 ?_
      refine eE_imul lk262_215 ?_
      refine eE_iload_n lk262_216 g3 ?_
      refine eE_iadd lk262_217 ?_
      refine eE_aload_n lk262_218 g0 ?_
      refine eR_getA lk262_219 rf_45 rfl ?_
      refine eE_sipush (v := 192) lk262_222 (by decide) ?_
      refine eE_iload_n lk262_225 g1 ?_
      refine eE_imul lk262_226 ?_
      refine eE_iload_n lk262_227 g3 ?_
      refine eE_iadd lk262_228 ?_
      obtain ⟨x4, h5, h⟩ := Option.bind_eq_some_iff.mp h
      refine eR_lald lk262_229 rfl rfl h5 ?_
      obtain ⟨σ6, h7, h⟩ := Option.bind_eq_some_iff.mp h
      refine eR_last lk262_230 rfl rfl h7 ?_
      refine eE_inc (j := 3) (v := l3 + (1 : Int32)) lk262_231 g3 rfl (by decide) (fun vq8 gq9 kq10 => ?_)
      have gq11 := kq10 1 _ (by decide) (fun _ => rfl) g1
      have gq12 := kq10 2 _ (by decide) (fun _ => rfl) g2
      have gq13 := kq10 0 _ (by decide) (fun _ => rfl) g0
      refine eE_goto (t := 194) lk262_234 (by decide) ?_
      exact hKK vq8 σ6 l1 l2 (l3 + (1 : Int32)) gq13 gq11 gq12 gq9 _ h
def m_copyLetter_b110 (F : Nat)  : Nat → RS → Int32 → Int32 → Int32 → Option (RS)
  | 0, _, _, _, _ => none
  | n + 1, σ, l1, l2, l3 =>
    let KK := m_copyLetter_b110 F  n
    (rld σ 10 l1).bind fun x14 =>
    if xc2 .ge l3 x14 = true then (
      m_copyLetter_b194 F  F σ l1 l2 ((0 : Int32))
    ) else (
      (rld σ 13 ((((6 : Int32)) * l1) + l3)).bind fun x23 =>
      (rst σ 13 ((((6 : Int32)) * l2) + l3) x23).bind fun σ25 =>
      (rld σ25 14 ((((6 : Int32)) * l1) + l3)).bind fun x27 =>
      (rst σ25 14 ((((6 : Int32)) * l2) + l3) x27).bind fun σ29 =>
      (rld σ29 15 ((((6 : Int32)) * l1) + l3)).bind fun x31 =>
      (rst σ29 15 ((((6 : Int32)) * l2) + l3) x31).bind fun σ33 =>
      KK σ33 l1 l2 (l3 + (1 : Int32))
    )
set_option maxRecDepth 4000 in
theorem m_copyLetter_b110_ok {pF : Nat → List Value → xH → Option (Option Value × xH)} {d : Nat} {aR : Nat} {G : Nat → xC} {T : Nat × Nat} {F : Nat} (hp0 : xNP pF)  : ∀ (n : Nat) (lv : xL) (σ : RS) (l1 : Int32) (l2 : Int32) (l3 : Int32), xg lv 0 = some (.ref aR) → xg lv 1 = some (.int l1) → xg lv 2 = some (.int l2) → xg lv 3 = some (.int l3) → ∀ res, m_copyLetter_b110 F  n σ l1 l2 l3 = some res → xR pF (d + 0) kT262 16 4 false none none (layR aR res G, T) (110, lv, [], (layR aR σ G, T)) := by
  intro n
  induction n with
  | zero => intro lv σ l1 l2 l3 g0 g1 g2 g3 res h; simp [m_copyLetter_b110] at h
  | succ n hKK =>
    intro lv σ l1 l2 l3 g0 g1 g2 g3 res h
    unfold m_copyLetter_b110 at h
    dsimp only at h
    refine eE_iload_n lk262_110 g3 ?_
    refine eE_aload_n lk262_111 g0 ?_
    refine eR_getA lk262_112 rf_26 rfl ?_
    refine eE_iload_n lk262_115 g1 ?_
    obtain ⟨x14, h15, h⟩ := Option.bind_eq_some_iff.mp h
    refine eR_iald lk262_116 rfl rfl h15 ?_
    refine eE_icmp (t := 192) lk262_117 (by decide) (fun c16 => ?_) (fun c16 => ?_)
    · rw [if_pos c16] at h
      refine eE_iconst (v := 0) lk262_192 (by decide) ?_
      refine eE_stI (j := 3) lk262_193 (Or.inr ⟨_, rfl, rfl⟩) (by decide) (fun vq17 gq18 kq19 => ?_)
      have gq20 := kq19 1 _ (by decide) (fun _ => rfl) g1
      have gq21 := kq19 2 _ (by decide) (fun _ => rfl) g2
      have gq22 := kq19 0 _ (by decide) (fun _ => rfl) g0
      exact m_copyLetter_b194_ok hp0  F vq17 σ l1 l2 ((0 : Int32)) gq22 gq20 gq21 gq18 _ h
    · rw [if_neg c16] at h
      refine eE_aload_n lk262_120 g0 ?_
      refine eR_getA lk262_121 rf_35 rfl ?_
      refine eE_bipush (v := 6) lk262_124 (by decide) ?_
      refine eE_iload_n lk262_126 g2 ?_
      refine eE_imul lk262_127 ?_
      refine eE_iload_n lk262_128 g3 ?_
      refine eE_iadd lk262_129 ?_
      refine eE_aload_n lk262_130 g0 ?_
      refine eR_getA lk262_131 rf_35 rfl ?_
      refine eE_bipush (v := 6) lk262_134 (by decide) ?_
      refine eE_iload_n lk262_136 g1 ?_
      refine eE_imul lk262_137 ?_
      refine eE_iload_n lk262_138 g3 ?_
      refine eE_iadd lk262_139 ?_
      obtain ⟨x23, h24, h⟩ := Option.bind_eq_some_iff.mp h
      refine eR_iald lk262_140 rfl rfl h24 ?_
      obtain ⟨σ25, h26, h⟩ := Option.bind_eq_some_iff.mp h
      refine eR_iast lk262_141 rfl rfl h26 ?_
      refine eE_aload_n lk262_142 g0 ?_
      refine eR_getA lk262_143 rf_38 rfl ?_
      refine eE_bipush (v := 6) lk262_146 (by decide) ?_
      refine eE_iload_n lk262_148 g2 ?_
      refine eE_imul lk262_149 ?_
      refine eE_iload_n lk262_150 g3 ?_
      refine eE_iadd lk262_151 ?_
      refine eE_aload_n lk262_152 g0 ?_
      refine eR_getA lk262_153 rf_38 rfl ?_
      refine eE_bipush (v := 6) lk262_156 (by decide) ?_
      refine eE_iload_n lk262_158 g1 ?_
      refine eE_imul lk262_159 ?_
      refine eE_iload_n lk262_160 g3 ?_
      refine eE_iadd lk262_161 ?_
      obtain ⟨x27, h28, h⟩ := Option.bind_eq_some_iff.mp h
      refine eR_iald lk262_162 rfl rfl h28 ?_
      obtain ⟨σ29, h30, h⟩ := Option.bind_eq_some_iff.mp h
      refine eR_iast lk262_163 rfl rfl h30 ?_
      refine eE_aload_n lk262_164 g0 ?_
      refine eR_getA lk262_165 rf_41 rfl ?_
      refine eE_bipush (v := 6) lk262_168 (by decide) ?_
      refine eE_iload_n lk262_170 g2 ?_
      refine eE_imul lk262_171 ?_
      refine eE_iload_n lk262_172 g3 ?_
      refine eE_iadd lk262_173 ?_
      refine eE_aload_n lk262_174 g0 ?_
      refine eR_getA lk262_175 rf_41 rfl ?_
      refine eE_bipush (v := 6) lk262_178 (by decide) ?_
      refine eE_iload_n lk262_180 g1 ?_
      refine eE_imul lk262_181 ?_
      refine eE_iload_n lk262_182 g3 ?_
      refine eE_iadd lk262_183 ?_
      obtain ⟨x31, h32, h⟩ := Option.bind_eq_some_iff.mp h
      refine eR_iald lk262_184 rfl rfl h32 ?_
      obtain ⟨σ33, h34, h⟩ := Option.bind_eq_some_iff.mp h
      refine eR_iast lk262_185 rfl rfl h34 ?_
      refine eE_inc (j := 3) (v := l3 + (1 : Int32)) lk262_186 g3 rfl (by decide) (fun vq35 gq36 kq37 => ?_)
      have gq38 := kq37 1 _ (by decide) (fun _ => rfl) g1
      have gq39 := kq37 2 _ (by decide) (fun _ => rfl) g2
      have gq40 := kq37 0 _ (by decide) (fun _ => rfl) g0
      refine eE_goto (t := 110) lk262_189 (by decide) ?_
      exact hKK vq35 σ33 l1 l2 (l3 + (1 : Int32)) gq40 gq38 gq39 gq36 _ h
def m_copyLetter_b74 (F : Nat)  : Nat → RS → Int32 → Int32 → Int32 → Option (RS)
  | 0, _, _, _, _ => none
  | n + 1, σ, l1, l2, l3 =>
    let KK := m_copyLetter_b74 F  n
    if xc2 .ge l3 ((8 : Int32)) = true then (
      m_copyLetter_b110 F  F σ l1 l2 ((0 : Int32))
    ) else (
      (rld σ 12 ((((8 : Int32)) * l1) + l3)).bind fun x48 =>
      (rst σ 12 ((((8 : Int32)) * l2) + l3) x48).bind fun σ50 =>
      KK σ50 l1 l2 (l3 + (1 : Int32))
    )
set_option maxRecDepth 4000 in
theorem m_copyLetter_b74_ok {pF : Nat → List Value → xH → Option (Option Value × xH)} {d : Nat} {aR : Nat} {G : Nat → xC} {T : Nat × Nat} {F : Nat} (hp0 : xNP pF)  : ∀ (n : Nat) (lv : xL) (σ : RS) (l1 : Int32) (l2 : Int32) (l3 : Int32), xg lv 0 = some (.ref aR) → xg lv 1 = some (.int l1) → xg lv 2 = some (.int l2) → xg lv 3 = some (.int l3) → ∀ res, m_copyLetter_b74 F  n σ l1 l2 l3 = some res → xR pF (d + 0) kT262 16 4 false none none (layR aR res G, T) (74, lv, [], (layR aR σ G, T)) := by
  intro n
  induction n with
  | zero => intro lv σ l1 l2 l3 g0 g1 g2 g3 res h; simp [m_copyLetter_b74] at h
  | succ n hKK =>
    intro lv σ l1 l2 l3 g0 g1 g2 g3 res h
    unfold m_copyLetter_b74 at h
    dsimp only at h
    refine eE_iload_n lk262_74 g3 ?_
    refine eE_bipush (v := 8) lk262_75 (by decide) ?_
    refine eE_icmp (t := 108) lk262_77 (by decide) (fun c41 => ?_) (fun c41 => ?_)
    · rw [if_pos c41] at h
      refine eE_iconst (v := 0) lk262_108 (by decide) ?_
      refine eE_stI (j := 3) lk262_109 (Or.inr ⟨_, rfl, rfl⟩) (by decide) (fun vq42 gq43 kq44 => ?_)
      have gq45 := kq44 1 _ (by decide) (fun _ => rfl) g1
      have gq46 := kq44 2 _ (by decide) (fun _ => rfl) g2
      have gq47 := kq44 0 _ (by decide) (fun _ => rfl) g0
      exact m_copyLetter_b110_ok hp0  F vq42 σ l1 l2 ((0 : Int32)) gq47 gq45 gq46 gq43 _ h
    · rw [if_neg c41] at h
      refine eE_aload_n lk262_80 g0 ?_
      refine eR_getA lk262_81 rf_32 rfl ?_
      refine eE_bipush (v := 8) lk262_84 (by decide) ?_
      refine eE_iload_n lk262_86 g2 ?_
      refine eE_imul lk262_87 ?_
      refine eE_iload_n lk262_88 g3 ?_
      refine eE_iadd lk262_89 ?_
      refine eE_aload_n lk262_90 g0 ?_
      refine eR_getA lk262_91 rf_32 rfl ?_
      refine eE_bipush (v := 8) lk262_94 (by decide) ?_
      refine eE_iload_n lk262_96 g1 ?_
      refine eE_imul lk262_97 ?_
      refine eE_iload_n lk262_98 g3 ?_
      refine eE_iadd lk262_99 ?_
      obtain ⟨x48, h49, h⟩ := Option.bind_eq_some_iff.mp h
      refine eR_iald lk262_100 rfl rfl h49 ?_
      obtain ⟨σ50, h51, h⟩ := Option.bind_eq_some_iff.mp h
      refine eR_iast lk262_101 rfl rfl h51 ?_
      refine eE_inc (j := 3) (v := l3 + (1 : Int32)) lk262_102 g3 rfl (by decide) (fun vq52 gq53 kq54 => ?_)
      have gq55 := kq54 1 _ (by decide) (fun _ => rfl) g1
      have gq56 := kq54 2 _ (by decide) (fun _ => rfl) g2
      have gq57 := kq54 0 _ (by decide) (fun _ => rfl) g0
      refine eE_goto (t := 74) lk262_105 (by decide) ?_
      exact hKK vq52 σ50 l1 l2 (l3 + (1 : Int32)) gq57 gq55 gq56 gq53 _ h
def m_copyLetter_b0 (F : Nat)  (σ : RS) (l1 : Int32) (l2 : Int32) : Option (RS) :=
  (rld σ 6 l1).bind fun x58 =>
  (rst σ 6 l2 x58).bind fun σ60 =>
  (rld σ60 7 l1).bind fun x62 =>
  (rst σ60 7 l2 x62).bind fun σ64 =>
  (rld σ64 8 l1).bind fun x66 =>
  (rst σ64 8 l2 x66).bind fun σ68 =>
  (rld σ68 9 l1).bind fun x70 =>
  (rst σ68 9 l2 x70).bind fun σ72 =>
  (rld σ72 10 l1).bind fun x74 =>
  (rst σ72 10 l2 x74).bind fun σ76 =>
  (rld σ76 11 l1).bind fun x78 =>
  (rst σ76 11 l2 x78).bind fun σ80 =>
  m_copyLetter_b74 F  F σ80 l1 l2 ((0 : Int32))
set_option maxRecDepth 4000 in
theorem m_copyLetter_b0_ok {pF : Nat → List Value → xH → Option (Option Value × xH)} {d : Nat} {aR : Nat} {G : Nat → xC} {T : Nat × Nat} {F : Nat} (hp0 : xNP pF)  : ∀ (lv : xL) (σ : RS) (l1 : Int32) (l2 : Int32), xg lv 0 = some (.ref aR) → xg lv 1 = some (.int l1) → xg lv 2 = some (.int l2) → ∀ res, m_copyLetter_b0 F  σ l1 l2 = some res → xR pF (d + 0) kT262 16 4 false none none (layR aR res G, T) (0, lv, [], (layR aR σ G, T)) := by
  intro lv σ l1 l2 g0 g1 g2 res h
  unfold m_copyLetter_b0 at h
  refine eE_aload_n lk262_0 g0 ?_
  refine eR_getA lk262_1 rf_13 rfl ?_
  refine eE_iload_n lk262_4 g2 ?_
  refine eE_aload_n lk262_5 g0 ?_
  refine eR_getA lk262_6 rf_13 rfl ?_
  refine eE_iload_n lk262_9 g1 ?_
  obtain ⟨x58, h59, h⟩ := Option.bind_eq_some_iff.mp h
  refine eR_iald lk262_10 rfl rfl h59 ?_
  obtain ⟨σ60, h61, h⟩ := Option.bind_eq_some_iff.mp h
  refine eR_iast lk262_11 rfl rfl h61 ?_
  refine eE_aload_n lk262_12 g0 ?_
  refine eR_getA lk262_13 rf_17 rfl ?_
  refine eE_iload_n lk262_16 g2 ?_
  refine eE_aload_n lk262_17 g0 ?_
  refine eR_getA lk262_18 rf_17 rfl ?_
  refine eE_iload_n lk262_21 g1 ?_
  obtain ⟨x62, h63, h⟩ := Option.bind_eq_some_iff.mp h
  refine eR_iald lk262_22 rfl rfl h63 ?_
  obtain ⟨σ64, h65, h⟩ := Option.bind_eq_some_iff.mp h
  refine eR_iast lk262_23 rfl rfl h65 ?_
  refine eE_aload_n lk262_24 g0 ?_
  refine eR_getA lk262_25 rf_20 rfl ?_
  refine eE_iload_n lk262_28 g2 ?_
  refine eE_aload_n lk262_29 g0 ?_
  refine eR_getA lk262_30 rf_20 rfl ?_
  refine eE_iload_n lk262_33 g1 ?_
  obtain ⟨x66, h67, h⟩ := Option.bind_eq_some_iff.mp h
  refine eR_iald lk262_34 rfl rfl h67 ?_
  obtain ⟨σ68, h69, h⟩ := Option.bind_eq_some_iff.mp h
  refine eR_iast lk262_35 rfl rfl h69 ?_
  refine eE_aload_n lk262_36 g0 ?_
  refine eR_getA lk262_37 rf_23 rfl ?_
  refine eE_iload_n lk262_40 g2 ?_
  refine eE_aload_n lk262_41 g0 ?_
  refine eR_getA lk262_42 rf_23 rfl ?_
  refine eE_iload_n lk262_45 g1 ?_
  obtain ⟨x70, h71, h⟩ := Option.bind_eq_some_iff.mp h
  refine eR_iald lk262_46 rfl rfl h71 ?_
  obtain ⟨σ72, h73, h⟩ := Option.bind_eq_some_iff.mp h
  refine eR_iast lk262_47 rfl rfl h73 ?_
  refine eE_aload_n lk262_48 g0 ?_
  refine eR_getA lk262_49 rf_26 rfl ?_
  refine eE_iload_n lk262_52 g2 ?_
  refine eE_aload_n lk262_53 g0 ?_
  refine eR_getA lk262_54 rf_26 rfl ?_
  refine eE_iload_n lk262_57 g1 ?_
  obtain ⟨x74, h75, h⟩ := Option.bind_eq_some_iff.mp h
  refine eR_iald lk262_58 rfl rfl h75 ?_
  obtain ⟨σ76, h77, h⟩ := Option.bind_eq_some_iff.mp h
  refine eR_iast lk262_59 rfl rfl h77 ?_
  refine eE_aload_n lk262_60 g0 ?_
  refine eR_getA lk262_61 rf_29 rfl ?_
  refine eE_iload_n lk262_64 g2 ?_
  refine eE_aload_n lk262_65 g0 ?_
  refine eR_getA lk262_66 rf_29 rfl ?_
  refine eE_iload_n lk262_69 g1 ?_
  obtain ⟨x78, h79, h⟩ := Option.bind_eq_some_iff.mp h
  refine eR_iald lk262_70 rfl rfl h79 ?_
  obtain ⟨σ80, h81, h⟩ := Option.bind_eq_some_iff.mp h
  refine eR_iast lk262_71 rfl rfl h81 ?_
  refine eE_iconst (v := 0) lk262_72 (by decide) ?_
  refine eE_stI (j := 3) lk262_73 (Or.inr ⟨_, rfl, rfl⟩) (by decide) (fun vq82 gq83 kq84 => ?_)
  have gq85 := kq84 1 _ (by decide) (fun _ => rfl) g1
  have gq86 := kq84 2 _ (by decide) (fun _ => rfl) g2
  have gq87 := kq84 0 _ (by decide) (fun _ => rfl) g0
  exact m_copyLetter_b74_ok hp0  F vq82 σ80 l1 l2 ((0 : Int32)) gq87 gq85 gq86 gq83 _ h
def m_copyLetter (F : Nat) (σ : RS) (l1 : Int32) (l2 : Int32) : Option (RS) := m_copyLetter_b0 F σ l1 l2
theorem m_copyLetter_ok {pF : Nat → List Value → xH → Option (Option Value × xH)} (hp0 : xNP pF) {d : Nat} {aR : Nat} {G : Nat → xC} {T : Nat × Nat} {σ : RS} {F : Nat} {l1 : Int32} {l2 : Int32} {res : RS} (h : m_copyLetter F σ l1 l2 = some res) : xCo pF (d + 1) 262 [.ref aR, .int l1, .int l2] (layR aR σ G, T) none (layR aR res G, T) := by
  unfold m_copyLetter at h
  exact xCo_R kk_262 mo_262 ni_262 xm_262 (Nat.le_of_ble_eq_true rfl) (hp0 _ (by decide) (by decide) _ _) (m_copyLetter_b0_ok hp0 _ σ l1 l2 rfl rfl rfl _ h)
/-! areParted (247), depth 1 -/
def m_areParted_b24  (σ : RS) (s0 : Int32) : Option (Int32 × RS) :=
  if s0 = 0 ∨ s0 = 1 then some (s0, σ) else none
set_option maxRecDepth 4000 in
theorem m_areParted_b24_ok {pF : Nat → List Value → xH → Option (Option Value × xH)} {d : Nat} {aR : Nat} {G : Nat → xC} {T : Nat × Nat} (hp0 : xNP pF)  : ∀ (lv : xL) (σ : RS) (s0 : Int32), xg lv 0 = some (.ref aR) → ∀ res, m_areParted_b24  σ s0 = some res → xR pF (d + 0) kT247 16 3 false (some .boolean) (some (.int res.1)) (layR aR res.2 G, T) (24, lv, [.int s0], (layR aR σ G, T)) := by
  intro lv σ s0 g0 res h
  unfold m_areParted_b24 at h
  by_cases z1 : s0 = 0 ∨ s0 = 1
  · rw [if_pos z1] at h; cases h
    exact eE_end lk247_24 rfl rfl (by first | (simp only [xfin, if_true, if_pos z1]; done) | simp [xfin, z1])
  · rw [if_neg z1] at h; cases h
def m_areParted_b0  (σ : RS) (l1 : Int32) (l2 : Int32) : Option (Int32 × RS) :=
  if xc2 .eq (((σ.1 24 0) >>> (l1 &&& 31)) &&& ((1 : Int32))) (((σ.1 24 0) >>> (l2 &&& 31)) &&& ((1 : Int32))) = true then (
    m_areParted_b24  σ ((0 : Int32))
  ) else (
    m_areParted_b24  σ ((1 : Int32))
  )
set_option maxRecDepth 4000 in
theorem m_areParted_b0_ok {pF : Nat → List Value → xH → Option (Option Value × xH)} {d : Nat} {aR : Nat} {G : Nat → xC} {T : Nat × Nat} (hp0 : xNP pF)  : ∀ (lv : xL) (σ : RS) (l1 : Int32) (l2 : Int32), xg lv 0 = some (.ref aR) → xg lv 1 = some (.int l1) → xg lv 2 = some (.int l2) → ∀ res, m_areParted_b0  σ l1 l2 = some res → xR pF (d + 0) kT247 16 3 false (some .boolean) (some (.int res.1)) (layR aR res.2 G, T) (0, lv, [], (layR aR σ G, T)) := by
  intro lv σ l1 l2 g0 g1 g2 res h
  unfold m_areParted_b0 at h
  refine eE_aload_n lk247_0 g0 ?_
  refine eR_get lk247_1 rf_400 rfl ?_
  refine eE_iload_n lk247_4 g1 ?_
  refine eE_ishr lk247_5 ?_
  refine eE_iconst (v := 1) lk247_6 (by decide) ?_
  refine eE_iand lk247_7 ?_
  refine eE_aload_n lk247_8 g0 ?_
  refine eR_get lk247_9 rf_400 rfl ?_
  refine eE_iload_n lk247_12 g2 ?_
  refine eE_ishr lk247_13 ?_
  refine eE_iconst (v := 1) lk247_14 (by decide) ?_
  refine eE_iand lk247_15 ?_
  refine eE_icmp (t := 23) lk247_16 (by decide) (fun c2 => ?_) (fun c2 => ?_)
  · rw [if_pos c2] at h
    refine eE_iconst (v := 0) lk247_23 (by decide) ?_
    exact m_areParted_b24_ok hp0  lv σ ((0 : Int32)) g0 _ h
  · rw [if_neg c2] at h
    refine eE_iconst (v := 1) lk247_19 (by decide) ?_
    refine eE_goto (t := 24) lk247_20 (by decide) ?_
    exact m_areParted_b24_ok hp0  lv σ ((1 : Int32)) g0 _ h
def m_areParted (σ : RS) (l1 : Int32) (l2 : Int32) : Option (Int32 × RS) := m_areParted_b0 σ l1 l2
theorem m_areParted_ok {pF : Nat → List Value → xH → Option (Option Value × xH)} (hp0 : xNP pF) {d : Nat} {aR : Nat} {G : Nat → xC} {T : Nat × Nat} {σ : RS} {l1 : Int32} {l2 : Int32} {res : Int32 × RS} (h : m_areParted σ l1 l2 = some res) : xCo pF (d + 1) 247 [.ref aR, .int l1, .int l2] (layR aR σ G, T) (some (.int res.1)) (layR aR res.2 G, T) := by
  unfold m_areParted at h
  exact xCo_R kk_247 mo_247 ni_247 xm_247 (Nat.le_of_ble_eq_true rfl) (hp0 _ (by decide) (by decide) _ _) (m_areParted_b0_ok hp0 _ σ l1 l2 rfl rfl rfl _ h)
/-! draw (273), depth 1 -/
def m_draw  (σ : RS) (l1 : Int32) : Option (Int32 × RS) :=
  (some (setL σ 28 0 (((σ.2 28 0) * ((6364136223846793005 : Int64))) + ((1442695040888963407 : Int64))))).bind fun σ1 =>
  if (l1.toInt64) = 0 then none else
  some (((((σ1.2 28 0).toUInt64 >>> (((33 : Int32)).toInt64.toUInt64 &&& Int64.toUInt64 63)).toInt64) - (((σ1.2 28 0).toUInt64 >>> (((33 : Int32)).toInt64.toUInt64 &&& Int64.toUInt64 63)).toInt64) / (l1.toInt64) * (l1.toInt64)).toInt32, σ1)
set_option maxRecDepth 4000 in
theorem m_draw_run {pF : Nat → List Value → xH → Option (Option Value × xH)} {d : Nat} {aR : Nat} {G : Nat → xC} {T : Nat × Nat} (hp0 : xNP pF)  : ∀ (lv : xL) (σ : RS) (l1 : Int32), xg lv 0 = some (.ref aR) → xg lv 1 = some (.int l1) → ∀ res, m_draw  σ l1 = some res → xR pF (d + 0) kT273 16 2 false (some .int) (some (.int res.1)) (layR aR res.2 G, T) (0, lv, [], (layR aR σ G, T)) := by
  intro lv σ l1 g0 g1 res h
  unfold m_draw at h
  refine eE_aload_n lk273_0 g0 ?_
  refine eE_aload_n lk273_1 g0 ?_
  refine eR_getL lk273_2 rf_403 rfl ?_
  refine eE_ldc2_w (v := 6364136223846793005) lk273_5 xl_407 ?_
  refine eE_lmul lk273_8 ?_
  refine eE_ldc2_w (v := 1442695040888963407) lk273_9 xl_409 ?_
  refine eE_ladd lk273_12 ?_
  obtain ⟨σ1, h2, h⟩ := Option.bind_eq_some_iff.mp h
  refine eR_putLS lk273_13 rf_403 rfl (by decide) pf_28.1 pf_28.2 h2 ?_
  refine eE_aload_n lk273_16 g0 ?_
  refine eR_getL lk273_17 rf_403 rfl ?_
  refine eE_bipush (v := 33) lk273_20 (by decide) ?_
  refine eE_lushr lk273_22 ?_
  refine eE_iload_n lk273_23 g1 ?_
  refine eE_i2l lk273_24 ?_
  by_cases z3 : (l1.toInt64) = 0
  · rw [if_pos z3] at h; cases h
  rw [if_neg z3] at h
  refine eE_lrem lk273_25 z3 ?_
  refine eE_l2i lk273_26 ?_
  cases h
  exact eE_end lk273_27 rfl rfl rfl
theorem m_draw_ok {pF : Nat → List Value → xH → Option (Option Value × xH)} (hp0 : xNP pF) {d : Nat} {aR : Nat} {G : Nat → xC} {T : Nat × Nat} {σ : RS} {l1 : Int32} {res : Int32 × RS} (h : m_draw σ l1 = some res) : xCo pF (d + 1) 273 [.ref aR, .int l1] (layR aR σ G, T) (some (.int res.1)) (layR aR res.2 G, T) := by
  exact xCo_R kk_273 mo_273 ni_273 xm_273 (Nat.le_of_ble_eq_true rfl) (hp0 _ (by decide) (by decide) _ _) (m_draw_run hp0 _ σ l1 rfl rfl _ h)
/-! fly (284), depth 2 -/
def m_fly_b23 (F : Nat)  : Nat → RS → Int32 → Int32 → Int32 → Option (RS)
  | 0, _, _, _, _ => none
  | n + 1, σ, l1, l2, l3 =>
    let KK := m_fly_b23 F  n
    (rld σ 17 l3).bind fun x1 =>
    if xc0 .eq x1 = true then (
      (m_copyLetter F σ l1 l3).bind fun p4 =>
      (rst p4 17 l3 ((((1 : Int32)) &&& 1))).bind fun σ6 =>
      (rst σ6 18 l3 l2).bind fun σ8 =>
      (rst σ8 19 l3 ((σ8.1 2 0))).bind fun σ10 =>
      (some (setI σ10 2 0 ((σ10.1 2 0) + ((1 : Int32))))).bind fun σ12 =>
      (some (setI σ12 20 0 ((σ12.1 20 0) + ((1 : Int32))))).bind fun σ14 =>
      (some (setI σ14 21 0 ((σ14.1 21 0) + ((1 : Int32))))).bind fun σ16 =>
      some σ16
    ) else (
      KK σ l1 l2 (l3 + (1 : Int32))
    )
set_option maxRecDepth 4000 in
theorem m_fly_b23_ok {pF : Nat → List Value → xH → Option (Option Value × xH)} {d : Nat} {aR : Nat} {G : Nat → xC} {T : Nat × Nat} {F : Nat} (hp0 : xNP pF)  : ∀ (n : Nat) (lv : xL) (σ : RS) (l1 : Int32) (l2 : Int32) (l3 : Int32), xg lv 0 = some (.ref aR) → xg lv 1 = some (.int l1) → xg lv 2 = some (.int l2) → xg lv 3 = some (.int l3) → ∀ res, m_fly_b23 F  n σ l1 l2 l3 = some res → xR pF (d + 1) kT284 16 4 false none none (layR aR res G, T) (23, lv, [], (layR aR σ G, T)) := by
  intro n
  induction n with
  | zero => intro lv σ l1 l2 l3 g0 g1 g2 g3 res h; simp [m_fly_b23] at h
  | succ n hKK =>
    intro lv σ l1 l2 l3 g0 g1 g2 g3 res h
    unfold m_fly_b23 at h
    dsimp only at h
    refine eE_aload_n lk284_23 g0 ?_
    refine eR_getA lk284_24 rf_49 rfl ?_
    refine eE_iload_n lk284_27 g3 ?_
    obtain ⟨x1, h2, h⟩ := Option.bind_eq_some_iff.mp h
    refine eR_bald lk284_28 rfl (Or.inr rfl) h2 ?_
    refine eE_if (t := 38) lk284_29 (by decide) (fun c3 => ?_) (fun c3 => ?_)
    · rw [if_pos c3] at h
      refine eE_aload_n lk284_38 g0 ?_
      refine eE_iload_n lk284_39 g1 ?_
      refine eE_iload_n lk284_40 g3 ?_
      obtain ⟨p4, h5, h⟩ := Option.bind_eq_some_iff.mp h
      refine eR_call (as := [.int l1, .int l3]) lk284_41 mr_417 na_262 rfl rfl (Nat.le_of_ble_eq_true rfl) wv_262 wc_262 (m_copyLetter_ok hp0 (d := d + 0) h5) ?_
      refine eE_aload_n lk284_44 g0 ?_
      refine eR_getA lk284_45 rf_49 rfl ?_
      refine eE_iload_n lk284_48 g3 ?_
      refine eE_iconst (v := 1) lk284_49 (by decide) ?_
      obtain ⟨σ6, h7, h⟩ := Option.bind_eq_some_iff.mp h
      refine eR_zast lk284_50 rfl rfl rfl h7 ?_
      refine eE_aload_n lk284_51 g0 ?_
      refine eR_getA lk284_52 rf_53 rfl ?_
      refine eE_iload_n lk284_55 g3 ?_
      refine eE_iload_n lk284_56 g2 ?_
      obtain ⟨σ8, h9, h⟩ := Option.bind_eq_some_iff.mp h
      refine eR_iast lk284_57 rfl rfl h9 ?_
      refine eE_aload_n lk284_58 g0 ?_
      refine eR_getA lk284_59 rf_56 rfl ?_
      refine eE_iload_n lk284_62 g3 ?_
      refine eE_aload_n lk284_63 g0 ?_
      refine eR_get lk284_64 rf_421 rfl ?_
      obtain ⟨σ10, h11, h⟩ := Option.bind_eq_some_iff.mp h
      refine eR_iast lk284_67 rfl rfl h11 ?_
      refine eE_aload_n lk284_68 g0 ?_
      refine eE_dup lk284_69 rfl ?_
      refine eR_get lk284_70 rf_421 rfl ?_
      refine eE_iconst (v := 1) lk284_73 (by decide) ?_
      refine eE_iadd lk284_74 ?_
      obtain ⟨σ12, h13, h⟩ := Option.bind_eq_some_iff.mp h
      refine eR_putS lk284_75 rf_421 rfl (by decide) pf_2.1 pf_2.2 h13 ?_
      refine eE_aload_n lk284_78 g0 ?_
      refine eE_dup lk284_79 rfl ?_
      refine eR_get lk284_80 rf_411 rfl ?_
      refine eE_iconst (v := 1) lk284_83 (by decide) ?_
      refine eE_iadd lk284_84 ?_
      obtain ⟨σ14, h15, h⟩ := Option.bind_eq_some_iff.mp h
      refine eR_putS lk284_85 rf_411 rfl (by decide) pf_20.1 pf_20.2 h15 ?_
      refine eE_aload_n lk284_88 g0 ?_
      refine eE_dup lk284_89 rfl ?_
      refine eR_get lk284_90 rf_424 rfl ?_
      refine eE_iconst (v := 1) lk284_93 (by decide) ?_
      refine eE_iadd lk284_94 ?_
      obtain ⟨σ16, h17, h⟩ := Option.bind_eq_some_iff.mp h
      refine eR_putS lk284_95 rf_424 rfl (by decide) pf_21.1 pf_21.2 h17 ?_
      cases h
      exact eE_end lk284_98 rfl rfl rfl
    · rw [if_neg c3] at h
      refine eE_inc (j := 3) (v := l3 + (1 : Int32)) lk284_32 g3 rfl (by decide) (fun vq18 gq19 kq20 => ?_)
      have gq21 := kq20 1 _ (by decide) (fun _ => rfl) g1
      have gq22 := kq20 2 _ (by decide) (fun _ => rfl) g2
      have gq23 := kq20 0 _ (by decide) (fun _ => rfl) g0
      refine eE_goto (t := 23) lk284_35 (by decide) ?_
      exact hKK vq18 σ l1 l2 (l3 + (1 : Int32)) gq23 gq21 gq22 gq19 _ h
def m_fly_b0 (F : Nat)  (σ : RS) (l1 : Int32) (l2 : Int32) : Option (RS) :=
  if xc2 .ne (σ.1 20 0) ((128 : Int32)) = true then (
    m_fly_b23 F  F σ l1 l2 ((0 : Int32))
  ) else (
    (some (setI σ 22 0 ((σ.1 22 0) + ((1 : Int32))))).bind fun σ31 =>
    some σ31
  )
set_option maxRecDepth 4000 in
theorem m_fly_b0_ok {pF : Nat → List Value → xH → Option (Option Value × xH)} {d : Nat} {aR : Nat} {G : Nat → xC} {T : Nat × Nat} {F : Nat} (hp0 : xNP pF)  : ∀ (lv : xL) (σ : RS) (l1 : Int32) (l2 : Int32), xg lv 0 = some (.ref aR) → xg lv 1 = some (.int l1) → xg lv 2 = some (.int l2) → ∀ res, m_fly_b0 F  σ l1 l2 = some res → xR pF (d + 1) kT284 16 4 false none none (layR aR res G, T) (0, lv, [], (layR aR σ G, T)) := by
  intro lv σ l1 l2 g0 g1 g2 res h
  unfold m_fly_b0 at h
  refine eE_aload_n lk284_0 g0 ?_
  refine eR_get lk284_1 rf_411 rfl ?_
  refine eE_sipush (v := 128) lk284_4 (by decide) ?_
  refine eE_icmp (t := 21) lk284_7 (by decide) (fun c24 => ?_) (fun c24 => ?_)
  · rw [if_pos c24] at h
    refine eE_iconst (v := 0) lk284_21 (by decide) ?_
    refine eE_stI (j := 3) lk284_22 (Or.inr ⟨_, rfl, rfl⟩) (by decide) (fun vq25 gq26 kq27 => ?_)
    have gq28 := kq27 1 _ (by decide) (fun _ => rfl) g1
    have gq29 := kq27 2 _ (by decide) (fun _ => rfl) g2
    have gq30 := kq27 0 _ (by decide) (fun _ => rfl) g0
    exact m_fly_b23_ok hp0  F vq25 σ l1 l2 ((0 : Int32)) gq30 gq28 gq29 gq26 _ h
  · rw [if_neg c24] at h
    refine eE_aload_n lk284_10 g0 ?_
    refine eE_dup lk284_11 rfl ?_
    refine eR_get lk284_12 rf_414 rfl ?_
    refine eE_iconst (v := 1) lk284_15 (by decide) ?_
    refine eE_iadd lk284_16 ?_
    obtain ⟨σ31, h32, h⟩ := Option.bind_eq_some_iff.mp h
    refine eR_putS lk284_17 rf_414 rfl (by decide) pf_22.1 pf_22.2 h32 ?_
    cases h
    exact eE_end lk284_20 rfl rfl rfl
def m_fly (F : Nat) (σ : RS) (l1 : Int32) (l2 : Int32) : Option (RS) := m_fly_b0 F σ l1 l2
theorem m_fly_ok {pF : Nat → List Value → xH → Option (Option Value × xH)} (hp0 : xNP pF) {d : Nat} {aR : Nat} {G : Nat → xC} {T : Nat × Nat} {σ : RS} {F : Nat} {l1 : Int32} {l2 : Int32} {res : RS} (h : m_fly F σ l1 l2 = some res) : xCo pF (d + 2) 284 [.ref aR, .int l1, .int l2] (layR aR σ G, T) none (layR aR res G, T) := by
  unfold m_fly at h
  exact xCo_R kk_284 mo_284 ni_284 xm_284 (Nat.le_of_ble_eq_true rfl) (hp0 _ (by decide) (by decide) _ _) (m_fly_b0_ok hp0 _ σ l1 l2 rfl rfl rfl _ h)
/-! sendOut (356), depth 3 -/
def m_sendOut_b168 (F : Nat)  (σ : RS) : Option (RS) :=
  some σ
set_option maxRecDepth 4000 in
theorem m_sendOut_b168_ok {pF : Nat → List Value → xH → Option (Option Value × xH)} {d : Nat} {aR : Nat} {G : Nat → xC} {T : Nat × Nat} {F : Nat} (hp0 : xNP pF)  : ∀ (lv : xL) (σ : RS), xg lv 0 = some (.ref aR) → ∀ res, m_sendOut_b168 F  σ = some res → xR pF (d + 2) kT356 16 6 false none none (layR aR res G, T) (168, lv, [], (layR aR σ G, T)) := by
  intro lv σ g0 res h
  unfold m_sendOut_b168 at h
  cases h
  exact eE_end lk356_168 rfl rfl rfl
def m_sendOut_b125 (F : Nat)  (σ : RS) (s0 : Int32) (l1 : Int32) (l4 : Int32) : Option (RS) :=
  (m_draw σ ((σ.1 27 0) + ((1 : Int32)))).bind fun p7 =>
  (m_fly F p7.2 l1 (l4 + p7.1)).bind fun p9 =>
  if xc0 .eq s0 = true then (
    m_sendOut_b168 F  p9
  ) else (
    (m_draw p9 ((p9.1 27 0) + ((1 : Int32)))).bind fun p12 =>
    (m_fly F p12.2 l1 (l4 + p12.1)).bind fun p14 =>
    m_sendOut_b168 F  p14
  )
set_option maxRecDepth 4000 in
theorem m_sendOut_b125_ok {pF : Nat → List Value → xH → Option (Option Value × xH)} {d : Nat} {aR : Nat} {G : Nat → xC} {T : Nat × Nat} {F : Nat} (hp0 : xNP pF)  : ∀ (lv : xL) (σ : RS) (s0 : Int32) (l1 : Int32) (l4 : Int32), xg lv 0 = some (.ref aR) → xg lv 1 = some (.int l1) → xg lv 4 = some (.int l4) → ∀ res, m_sendOut_b125 F  σ s0 l1 l4 = some res → xR pF (d + 2) kT356 16 6 false none none (layR aR res G, T) (125, lv, [.int s0], (layR aR σ G, T)) := by
  intro lv σ s0 l1 l4 g0 g1 g4 res h
  unfold m_sendOut_b125 at h
  refine eE_stI (j := 5) lk356_125 (Or.inl rfl) (by decide) (fun vq1 gq2 kq3 => ?_)
  have gq4 := kq3 1 _ (by decide) (fun _ => rfl) g1
  have gq5 := kq3 4 _ (by decide) (fun _ => rfl) g4
  have gq6 := kq3 0 _ (by decide) (fun _ => rfl) g0
  refine eE_aload_n lk356_127 gq6 ?_
  refine eE_iload_n lk356_128 gq4 ?_
  refine eE_iload lk356_129 gq5 ?_
  refine eE_aload_n lk356_131 gq6 ?_
  refine eE_aload_n lk356_132 gq6 ?_
  refine eR_get lk356_133 rf_440 rfl ?_
  refine eE_iconst (v := 1) lk356_136 (by decide) ?_
  refine eE_iadd lk356_137 ?_
  obtain ⟨p7, h8, h⟩ := Option.bind_eq_some_iff.mp h
  refine eR_call (as := [.int ((σ.1 27 0) + ((1 : Int32)))]) lk356_138 mr_446 na_273 rfl rfl (Nat.le_of_ble_eq_true rfl) wv_273 wc_273 (m_draw_ok hp0 (d := d + 1) h8) ?_
  refine eE_iadd lk356_141 ?_
  obtain ⟨p9, h10, h⟩ := Option.bind_eq_some_iff.mp h
  refine eR_call (as := [.int l1, .int (l4 + p7.1)]) lk356_142 mr_443 na_284 rfl rfl (Nat.le_of_ble_eq_true rfl) wv_284 wc_284 (m_fly_ok hp0 (d := d + 0) h10) ?_
  refine eE_iload lk356_145 gq2 ?_
  refine eE_if (t := 168) lk356_147 (by decide) (fun c11 => ?_) (fun c11 => ?_)
  · rw [if_pos c11] at h
    exact m_sendOut_b168_ok hp0  vq1 p9 gq6 _ h
  · rw [if_neg c11] at h
    refine eE_aload_n lk356_150 gq6 ?_
    refine eE_iload_n lk356_151 gq4 ?_
    refine eE_iload lk356_152 gq5 ?_
    refine eE_aload_n lk356_154 gq6 ?_
    refine eE_aload_n lk356_155 gq6 ?_
    refine eR_get lk356_156 rf_440 rfl ?_
    refine eE_iconst (v := 1) lk356_159 (by decide) ?_
    refine eE_iadd lk356_160 ?_
    obtain ⟨p12, h13, h⟩ := Option.bind_eq_some_iff.mp h
    refine eR_call (as := [.int ((p9.1 27 0) + ((1 : Int32)))]) lk356_161 mr_446 na_273 rfl rfl (Nat.le_of_ble_eq_true rfl) wv_273 wc_273 (m_draw_ok hp0 (d := d + 1) h13) ?_
    refine eE_iadd lk356_164 ?_
    obtain ⟨p14, h15, h⟩ := Option.bind_eq_some_iff.mp h
    refine eR_call (as := [.int l1, .int (l4 + p12.1)]) lk356_165 mr_443 na_284 rfl rfl (Nat.le_of_ble_eq_true rfl) wv_284 wc_284 (m_fly_ok hp0 (d := d + 0) h15) ?_
    exact m_sendOut_b168_ok hp0  vq1 p14 gq6 _ h
def m_sendOut_b81 (F : Nat)  (σ : RS) (l1 : Int32) (l4 : Int32) : Option (RS) :=
  (m_draw σ ((1000 : Int32))).bind fun p16 =>
  if xc2 .ge p16.1 (p16.2.1 25 0) = true then (
    (m_draw p16.2 ((1000 : Int32))).bind fun p19 =>
    if xc2 .ge p19.1 (p19.2.1 26 0) = true then (
      m_sendOut_b125 F  p19.2 ((0 : Int32)) l1 l4
    ) else (
      m_sendOut_b125 F  p19.2 ((1 : Int32)) l1 l4
    )
  ) else (
    (some (setI p16.2 22 0 ((p16.2.1 22 0) + ((1 : Int32))))).bind fun σ22 =>
    some σ22
  )
set_option maxRecDepth 4000 in
theorem m_sendOut_b81_ok {pF : Nat → List Value → xH → Option (Option Value × xH)} {d : Nat} {aR : Nat} {G : Nat → xC} {T : Nat × Nat} {F : Nat} (hp0 : xNP pF)  : ∀ (lv : xL) (σ : RS) (l1 : Int32) (l4 : Int32), xg lv 0 = some (.ref aR) → xg lv 1 = some (.int l1) → xg lv 4 = some (.int l4) → ∀ res, m_sendOut_b81 F  σ l1 l4 = some res → xR pF (d + 2) kT356 16 6 false none none (layR aR res G, T) (81, lv, [], (layR aR σ G, T)) := by
  intro lv σ l1 l4 g0 g1 g4 res h
  unfold m_sendOut_b81 at h
  refine eE_aload_n lk356_81 g0 ?_
  refine eE_sipush (v := 1000) lk356_82 (by decide) ?_
  obtain ⟨p16, h17, h⟩ := Option.bind_eq_some_iff.mp h
  refine eR_call (as := [.int ((1000 : Int32))]) lk356_85 mr_446 na_273 rfl rfl (Nat.le_of_ble_eq_true rfl) wv_273 wc_273 (m_draw_ok hp0 (d := d + 1) h17) ?_
  refine eE_aload_n lk356_88 g0 ?_
  refine eR_get lk356_89 rf_434 rfl ?_
  refine eE_icmp (t := 106) lk356_92 (by decide) (fun c18 => ?_) (fun c18 => ?_)
  · rw [if_pos c18] at h
    refine eE_aload_n lk356_106 g0 ?_
    refine eE_sipush (v := 1000) lk356_107 (by decide) ?_
    obtain ⟨p19, h20, h⟩ := Option.bind_eq_some_iff.mp h
    refine eR_call (as := [.int ((1000 : Int32))]) lk356_110 mr_446 na_273 rfl rfl (Nat.le_of_ble_eq_true rfl) wv_273 wc_273 (m_draw_ok hp0 (d := d + 1) h20) ?_
    refine eE_aload_n lk356_113 g0 ?_
    refine eR_get lk356_114 rf_437 rfl ?_
    refine eE_icmp (t := 124) lk356_117 (by decide) (fun c21 => ?_) (fun c21 => ?_)
    · rw [if_pos c21] at h
      refine eE_iconst (v := 0) lk356_124 (by decide) ?_
      exact m_sendOut_b125_ok hp0  lv p19.2 ((0 : Int32)) l1 l4 g0 g1 g4 _ h
    · rw [if_neg c21] at h
      refine eE_iconst (v := 1) lk356_120 (by decide) ?_
      refine eE_goto (t := 125) lk356_121 (by decide) ?_
      exact m_sendOut_b125_ok hp0  lv p19.2 ((1 : Int32)) l1 l4 g0 g1 g4 _ h
  · rw [if_neg c18] at h
    refine eE_aload_n lk356_95 g0 ?_
    refine eE_dup lk356_96 rfl ?_
    refine eR_get lk356_97 rf_414 rfl ?_
    refine eE_iconst (v := 1) lk356_100 (by decide) ?_
    refine eE_iadd lk356_101 ?_
    obtain ⟨σ22, h23, h⟩ := Option.bind_eq_some_iff.mp h
    refine eR_putS lk356_102 rf_414 rfl (by decide) pf_22.1 pf_22.2 h23 ?_
    cases h
    exact eE_end lk356_105 rfl rfl rfl
def m_sendOut_b0 (F : Nat)  (σ : RS) (l1 : Int32) : Option (RS) :=
  (rld σ 6 l1).bind fun x24 =>
  (rld σ 7 l1).bind fun x31 =>
  (m_areParted σ x24 x31).bind fun p39 =>
  if xc0 .eq p39.1 = true then (
    (rld p39.2 23 ((((16 : Int32)) * x24) + x31)).bind fun x42 =>
    if xc0 .ne (p39.2.1 25 0) = true then (
      m_sendOut_b81 F  p39.2 l1 ((p39.2.1 1 0) + x42)
    ) else (
      if xc0 .ne (p39.2.1 26 0) = true then (
        m_sendOut_b81 F  p39.2 l1 ((p39.2.1 1 0) + x42)
      ) else (
        if xc0 .ne (p39.2.1 27 0) = true then (
          m_sendOut_b81 F  p39.2 l1 ((p39.2.1 1 0) + x42)
        ) else (
          (m_fly F p39.2 l1 ((p39.2.1 1 0) + x42)).bind fun p52 =>
          some p52
        )
      )
    )
  ) else (
    (some (setI p39.2 22 0 ((p39.2.1 22 0) + ((1 : Int32))))).bind fun σ54 =>
    some σ54
  )
set_option maxRecDepth 4000 in
theorem m_sendOut_b0_ok {pF : Nat → List Value → xH → Option (Option Value × xH)} {d : Nat} {aR : Nat} {G : Nat → xC} {T : Nat × Nat} {F : Nat} (hp0 : xNP pF)  : ∀ (lv : xL) (σ : RS) (l1 : Int32), xg lv 0 = some (.ref aR) → xg lv 1 = some (.int l1) → ∀ res, m_sendOut_b0 F  σ l1 = some res → xR pF (d + 2) kT356 16 6 false none none (layR aR res G, T) (0, lv, [], (layR aR σ G, T)) := by
  intro lv σ l1 g0 g1 res h
  unfold m_sendOut_b0 at h
  refine eE_aload_n lk356_0 g0 ?_
  refine eR_getA lk356_1 rf_13 rfl ?_
  refine eE_iload_n lk356_4 g1 ?_
  obtain ⟨x24, h25, h⟩ := Option.bind_eq_some_iff.mp h
  refine eR_iald lk356_5 rfl rfl h25 ?_
  refine eE_stI (j := 2) lk356_6 (Or.inr ⟨_, rfl, rfl⟩) (by decide) (fun vq26 gq27 kq28 => ?_)
  have gq29 := kq28 1 _ (by decide) (fun _ => rfl) g1
  have gq30 := kq28 0 _ (by decide) (fun _ => rfl) g0
  refine eE_aload_n lk356_7 gq30 ?_
  refine eR_getA lk356_8 rf_17 rfl ?_
  refine eE_iload_n lk356_11 gq29 ?_
  obtain ⟨x31, h32, h⟩ := Option.bind_eq_some_iff.mp h
  refine eR_iald lk356_12 rfl rfl h32 ?_
  refine eE_stI (j := 3) lk356_13 (Or.inr ⟨_, rfl, rfl⟩) (by decide) (fun vq33 gq34 kq35 => ?_)
  have gq36 := kq35 1 _ (by decide) (fun _ => rfl) gq29
  have gq37 := kq35 0 _ (by decide) (fun _ => rfl) gq30
  have gq38 := kq35 2 _ (by decide) (fun _ => rfl) gq27
  refine eE_aload_n lk356_14 gq37 ?_
  refine eE_iload_n lk356_15 gq38 ?_
  refine eE_iload_n lk356_16 gq34 ?_
  obtain ⟨p39, h40, h⟩ := Option.bind_eq_some_iff.mp h
  refine eR_call (as := [.int x24, .int x31]) lk356_17 mr_427 na_247 rfl rfl (Nat.le_of_ble_eq_true rfl) wv_247 wc_247 (m_areParted_ok hp0 (d := d + 1) h40) ?_
  refine eE_if (t := 34) lk356_20 (by decide) (fun c41 => ?_) (fun c41 => ?_)
  · rw [if_pos c41] at h
    refine eE_aload_n lk356_34 gq37 ?_
    refine eR_get lk356_35 rf_431 rfl ?_
    refine eE_aload_n lk356_38 gq37 ?_
    refine eR_getA lk356_39 rf_59 rfl ?_
    refine eE_bipush (v := 16) lk356_42 (by decide) ?_
    refine eE_iload_n lk356_44 gq38 ?_
    refine eE_imul lk356_45 ?_
    refine eE_iload_n lk356_46 gq34 ?_
    refine eE_iadd lk356_47 ?_
    obtain ⟨x42, h43, h⟩ := Option.bind_eq_some_iff.mp h
    refine eR_iald lk356_48 rfl rfl h43 ?_
    refine eE_iadd lk356_49 ?_
    refine eE_stI (j := 4) lk356_50 (Or.inl rfl) (by decide) (fun vq44 gq45 kq46 => ?_)
    have gq47 := kq46 1 _ (by decide) (fun _ => rfl) gq36
    have gq48 := kq46 0 _ (by decide) (fun _ => rfl) gq37
    refine eE_aload_n lk356_52 gq48 ?_
    refine eR_get lk356_53 rf_434 rfl ?_
    refine eE_if (t := 81) lk356_56 (by decide) (fun c49 => ?_) (fun c49 => ?_)
    · rw [if_pos c49] at h
      exact m_sendOut_b81_ok hp0  vq44 p39.2 l1 ((p39.2.1 1 0) + x42) gq48 gq47 gq45 _ h
    · rw [if_neg c49] at h
      refine eE_aload_n lk356_59 gq48 ?_
      refine eR_get lk356_60 rf_437 rfl ?_
      refine eE_if (t := 81) lk356_63 (by decide) (fun c50 => ?_) (fun c50 => ?_)
      · rw [if_pos c50] at h
        exact m_sendOut_b81_ok hp0  vq44 p39.2 l1 ((p39.2.1 1 0) + x42) gq48 gq47 gq45 _ h
      · rw [if_neg c50] at h
        refine eE_aload_n lk356_66 gq48 ?_
        refine eR_get lk356_67 rf_440 rfl ?_
        refine eE_if (t := 81) lk356_70 (by decide) (fun c51 => ?_) (fun c51 => ?_)
        · rw [if_pos c51] at h
          exact m_sendOut_b81_ok hp0  vq44 p39.2 l1 ((p39.2.1 1 0) + x42) gq48 gq47 gq45 _ h
        · rw [if_neg c51] at h
          refine eE_aload_n lk356_73 gq48 ?_
          refine eE_iload_n lk356_74 gq47 ?_
          refine eE_iload lk356_75 gq45 ?_
          obtain ⟨p52, h53, h⟩ := Option.bind_eq_some_iff.mp h
          refine eR_call (as := [.int l1, .int ((p39.2.1 1 0) + x42)]) lk356_77 mr_443 na_284 rfl rfl (Nat.le_of_ble_eq_true rfl) wv_284 wc_284 (m_fly_ok hp0 (d := d + 0) h53) ?_
          cases h
          exact eE_end lk356_80 rfl rfl rfl
  · rw [if_neg c41] at h
    refine eE_aload_n lk356_23 gq37 ?_
    refine eE_dup lk356_24 rfl ?_
    refine eR_get lk356_25 rf_414 rfl ?_
    refine eE_iconst (v := 1) lk356_28 (by decide) ?_
    refine eE_iadd lk356_29 ?_
    obtain ⟨σ54, h55, h⟩ := Option.bind_eq_some_iff.mp h
    refine eR_putS lk356_30 rf_414 rfl (by decide) pf_22.1 pf_22.2 h55 ?_
    cases h
    exact eE_end lk356_33 rfl rfl rfl
def m_sendOut (F : Nat) (σ : RS) (l1 : Int32) : Option (RS) := m_sendOut_b0 F σ l1
theorem m_sendOut_ok {pF : Nat → List Value → xH → Option (Option Value × xH)} (hp0 : xNP pF) {d : Nat} {aR : Nat} {G : Nat → xC} {T : Nat × Nat} {σ : RS} {F : Nat} {l1 : Int32} {res : RS} (h : m_sendOut F σ l1 = some res) : xCo pF (d + 3) 356 [.ref aR, .int l1] (layR aR σ G, T) none (layR aR res G, T) := by
  unfold m_sendOut at h
  exact xCo_R kk_356 mo_356 ni_356 xm_356 (Nat.le_of_ble_eq_true rfl) (hp0 _ (by decide) (by decide) _ _) (m_sendOut_b0_ok hp0 _ σ l1 rfl rfl _ h)
/-! post (339), depth 4 -/
def m_post_b80 (F : Nat)  (σ : RS) : Option (RS) :=
  some σ
set_option maxRecDepth 4000 in
theorem m_post_b80_ok {pF : Nat → List Value → xH → Option (Option Value × xH)} {d : Nat} {aR : Nat} {G : Nat → xC} {T : Nat × Nat} {F : Nat} (hp0 : xNP pF)  : ∀ (lv : xL) (σ : RS), xg lv 0 = some (.ref aR) → ∀ res, m_post_b80 F  σ = some res → xR pF (d + 3) kT339 16 3 false none none (layR aR res G, T) (80, lv, [], (layR aR σ G, T)) := by
  intro lv σ g0 res h
  unfold m_post_b80 at h
  cases h
  exact eE_end lk339_80 rfl rfl rfl
def m_post_b0 (F : Nat)  (σ : RS) (l1 : Int32) (l2 : Int32) : Option (RS) :=
  (rst σ 6 ((352 : Int32)) l1).bind fun σ1 =>
  (rst σ1 7 ((352 : Int32)) l2).bind fun σ3 =>
  (rld σ3 71 l1).bind fun x5 =>
  if xc0 .ne x5 = true then (
    (rld σ3 85 l1).bind fun x8 =>
    if xc2 .ge x8 ((32 : Int32)) = true then (
      m_post_b80 F  σ3
    ) else (
      (rld σ3 85 l1).bind fun x11 =>
      (m_copyLetter F σ3 ((352 : Int32)) ((((128 : Int32)) + (((32 : Int32)) * l1)) + x11)).bind fun p13 =>
      (rld p13 85 l1).bind fun x15 =>
      (rst p13 85 l1 ((x15 + ((1 : Int32))))).bind fun σ17 =>
      m_post_b80 F  σ17
    )
  ) else (
    (m_sendOut F σ3 ((352 : Int32))).bind fun p19 =>
    m_post_b80 F  p19
  )
set_option maxRecDepth 4000 in
theorem m_post_b0_ok {pF : Nat → List Value → xH → Option (Option Value × xH)} {d : Nat} {aR : Nat} {G : Nat → xC} {T : Nat × Nat} {F : Nat} (hp0 : xNP pF)  : ∀ (lv : xL) (σ : RS) (l1 : Int32) (l2 : Int32), xg lv 0 = some (.ref aR) → xg lv 1 = some (.int l1) → xg lv 2 = some (.int l2) → ∀ res, m_post_b0 F  σ l1 l2 = some res → xR pF (d + 3) kT339 16 3 false none none (layR aR res G, T) (0, lv, [], (layR aR σ G, T)) := by
  intro lv σ l1 l2 g0 g1 g2 res h
  unfold m_post_b0 at h
  refine eE_aload_n lk339_0 g0 ?_
  refine eR_getA lk339_1 rf_13 rfl ?_
  refine eE_sipush (v := 352) lk339_4 (by decide) ?_
  refine eE_iload_n lk339_7 g1 ?_
  obtain ⟨σ1, h2, h⟩ := Option.bind_eq_some_iff.mp h
  refine eR_iast lk339_8 rfl rfl h2 ?_
  refine eE_aload_n lk339_9 g0 ?_
  refine eR_getA lk339_10 rf_17 rfl ?_
  refine eE_sipush (v := 352) lk339_13 (by decide) ?_
  refine eE_iload_n lk339_16 g2 ?_
  obtain ⟨σ3, h4, h⟩ := Option.bind_eq_some_iff.mp h
  refine eR_iast lk339_17 rfl rfl h4 ?_
  refine eE_aload_n lk339_18 g0 ?_
  refine eR_getA lk339_19 rf_179 rfl ?_
  refine eE_iload_n lk339_22 g1 ?_
  obtain ⟨x5, h6, h⟩ := Option.bind_eq_some_iff.mp h
  refine eR_bald lk339_23 rfl (Or.inr rfl) h6 ?_
  refine eE_if (t := 37) lk339_24 (by decide) (fun c7 => ?_) (fun c7 => ?_)
  · rw [if_pos c7] at h
    refine eE_aload_n lk339_37 g0 ?_
    refine eR_getA lk339_38 rf_221 rfl ?_
    refine eE_iload_n lk339_41 g1 ?_
    obtain ⟨x8, h9, h⟩ := Option.bind_eq_some_iff.mp h
    refine eR_iald lk339_42 rfl rfl h9 ?_
    refine eE_bipush (v := 32) lk339_43 (by decide) ?_
    refine eE_icmp (t := 80) lk339_45 (by decide) (fun c10 => ?_) (fun c10 => ?_)
    · rw [if_pos c10] at h
      exact m_post_b80_ok hp0  lv σ3 g0 _ h
    · rw [if_neg c10] at h
      refine eE_aload_n lk339_48 g0 ?_
      refine eE_sipush (v := 352) lk339_49 (by decide) ?_
      refine eE_sipush (v := 128) lk339_52 (by decide) ?_
      refine eE_bipush (v := 32) lk339_55 (by decide) ?_
      refine eE_iload_n lk339_57 g1 ?_
      refine eE_imul lk339_58 ?_
      refine eE_iadd lk339_59 ?_
      refine eE_aload_n lk339_60 g0 ?_
      refine eR_getA lk339_61 rf_221 rfl ?_
      refine eE_iload_n lk339_64 g1 ?_
      obtain ⟨x11, h12, h⟩ := Option.bind_eq_some_iff.mp h
      refine eR_iald lk339_65 rfl rfl h12 ?_
      refine eE_iadd lk339_66 ?_
      obtain ⟨p13, h14, h⟩ := Option.bind_eq_some_iff.mp h
      refine eR_call (as := [.int ((352 : Int32)), .int ((((128 : Int32)) + (((32 : Int32)) * l1)) + x11)]) lk339_67 mr_417 na_262 rfl rfl (Nat.le_of_ble_eq_true rfl) wv_262 wc_262 (m_copyLetter_ok hp0 (d := d + 2) h14) ?_
      refine eE_aload_n lk339_70 g0 ?_
      refine eR_getA lk339_71 rf_221 rfl ?_
      refine eE_iload_n lk339_74 g1 ?_
      refine eE_dup2 lk339_75 rfl rfl ?_
      obtain ⟨x15, h16, h⟩ := Option.bind_eq_some_iff.mp h
      refine eR_iald lk339_76 rfl rfl h16 ?_
      refine eE_iconst (v := 1) lk339_77 (by decide) ?_
      refine eE_iadd lk339_78 ?_
      obtain ⟨σ17, h18, h⟩ := Option.bind_eq_some_iff.mp h
      refine eR_iast lk339_79 rfl rfl h18 ?_
      exact m_post_b80_ok hp0  lv σ17 g0 _ h
  · rw [if_neg c7] at h
    refine eE_aload_n lk339_27 g0 ?_
    refine eE_sipush (v := 352) lk339_28 (by decide) ?_
    obtain ⟨p19, h20, h⟩ := Option.bind_eq_some_iff.mp h
    refine eR_call (as := [.int ((352 : Int32))]) lk339_31 mr_450 na_356 rfl rfl (Nat.le_of_ble_eq_true rfl) wv_356 wc_356 (m_sendOut_ok hp0 (d := d + 0) h20) ?_
    refine eE_goto (t := 80) lk339_34 (by decide) ?_
    exact m_post_b80_ok hp0  lv p19 g0 _ h
def m_post (F : Nat) (σ : RS) (l1 : Int32) (l2 : Int32) : Option (RS) := m_post_b0 F σ l1 l2
theorem m_post_ok {pF : Nat → List Value → xH → Option (Option Value × xH)} (hp0 : xNP pF) {d : Nat} {aR : Nat} {G : Nat → xC} {T : Nat × Nat} {σ : RS} {F : Nat} {l1 : Int32} {l2 : Int32} {res : RS} (h : m_post F σ l1 l2 = some res) : xCo pF (d + 4) 339 [.ref aR, .int l1, .int l2] (layR aR σ G, T) none (layR aR res G, T) := by
  unfold m_post at h
  exact xCo_R kk_339 mo_339 ni_339 xm_339 (Nat.le_of_ble_eq_true rfl) (hp0 _ (by decide) (by decide) _ _) (m_post_b0_ok hp0 _ σ l1 l2 rfl rfl rfl _ h)
/-! write (381), depth 1 -/
def m_write  (σ : RS) (l1 : Int32) (l2 : Int32) (l3 : Int32) (l4 : Int32) (l5 : Int32) : Option (RS) :=
  (rst σ 8 ((352 : Int32)) l1).bind fun σ1 =>
  (rst σ1 9 ((352 : Int32)) l2).bind fun σ3 =>
  (rst σ3 10 ((352 : Int32)) (((0 : Int32)))).bind fun σ5 =>
  (rst σ5 11 ((352 : Int32)) (((0 : Int32)))).bind fun σ7 =>
  (rst σ7 12 ((2816 : Int32)) l3).bind fun σ9 =>
  (rst σ9 12 ((2817 : Int32)) l4).bind fun σ11 =>
  (rst σ11 12 ((2818 : Int32)) l5).bind fun σ13 =>
  some σ13
set_option maxRecDepth 4000 in
theorem m_write_run {pF : Nat → List Value → xH → Option (Option Value × xH)} {d : Nat} {aR : Nat} {G : Nat → xC} {T : Nat × Nat} (hp0 : xNP pF)  : ∀ (lv : xL) (σ : RS) (l1 : Int32) (l2 : Int32) (l3 : Int32) (l4 : Int32) (l5 : Int32), xg lv 0 = some (.ref aR) → xg lv 1 = some (.int l1) → xg lv 2 = some (.int l2) → xg lv 3 = some (.int l3) → xg lv 4 = some (.int l4) → xg lv 5 = some (.int l5) → ∀ res, m_write  σ l1 l2 l3 l4 l5 = some res → xR pF (d + 0) kT381 16 6 false none none (layR aR res G, T) (0, lv, [], (layR aR σ G, T)) := by
  intro lv σ l1 l2 l3 l4 l5 g0 g1 g2 g3 g4 g5 res h
  unfold m_write at h
  refine eE_aload_n lk381_0 g0 ?_
  refine eR_getA lk381_1 rf_20 rfl ?_
  refine eE_sipush (v := 352) lk381_4 (by decide) ?_
  refine eE_iload_n lk381_7 g1 ?_
  obtain ⟨σ1, h2, h⟩ := Option.bind_eq_some_iff.mp h
  refine eR_iast lk381_8 rfl rfl h2 ?_
  refine eE_aload_n lk381_9 g0 ?_
  refine eR_getA lk381_10 rf_23 rfl ?_
  refine eE_sipush (v := 352) lk381_13 (by decide) ?_
  refine eE_iload_n lk381_16 g2 ?_
  obtain ⟨σ3, h4, h⟩ := Option.bind_eq_some_iff.mp h
  refine eR_iast lk381_17 rfl rfl h4 ?_
  refine eE_aload_n lk381_18 g0 ?_
  refine eR_getA lk381_19 rf_26 rfl ?_
  refine eE_sipush (v := 352) lk381_22 (by decide) ?_
  refine eE_iconst (v := 0) lk381_25 (by decide) ?_
  obtain ⟨σ5, h6, h⟩ := Option.bind_eq_some_iff.mp h
  refine eR_iast lk381_26 rfl rfl h6 ?_
  refine eE_aload_n lk381_27 g0 ?_
  refine eR_getA lk381_28 rf_29 rfl ?_
  refine eE_sipush (v := 352) lk381_31 (by decide) ?_
  refine eE_iconst (v := 0) lk381_34 (by decide) ?_
  obtain ⟨σ7, h8, h⟩ := Option.bind_eq_some_iff.mp h
  refine eR_iast lk381_35 rfl rfl h8 ?_
  refine eE_aload_n lk381_36 g0 ?_
  refine eR_getA lk381_37 rf_32 rfl ?_
  refine eE_sipush (v := 2816) lk381_40 (by decide) ?_
  refine eE_iload_n lk381_43 g3 ?_
  obtain ⟨σ9, h10, h⟩ := Option.bind_eq_some_iff.mp h
  refine eR_iast lk381_44 rfl rfl h10 ?_
  refine eE_aload_n lk381_45 g0 ?_
  refine eR_getA lk381_46 rf_32 rfl ?_
  refine eE_sipush (v := 2817) lk381_49 (by decide) ?_
  refine eE_iload lk381_52 g4 ?_
  obtain ⟨σ11, h12, h⟩ := Option.bind_eq_some_iff.mp h
  refine eR_iast lk381_54 rfl rfl h12 ?_
  refine eE_aload_n lk381_55 g0 ?_
  refine eR_getA lk381_56 rf_32 rfl ?_
  refine eE_sipush (v := 2818) lk381_59 (by decide) ?_
  refine eE_iload lk381_62 g5 ?_
  obtain ⟨σ13, h14, h⟩ := Option.bind_eq_some_iff.mp h
  refine eR_iast lk381_64 rfl rfl h14 ?_
  cases h
  exact eE_end lk381_65 rfl rfl rfl
theorem m_write_ok {pF : Nat → List Value → xH → Option (Option Value × xH)} (hp0 : xNP pF) {d : Nat} {aR : Nat} {G : Nat → xC} {T : Nat × Nat} {σ : RS} {l1 : Int32} {l2 : Int32} {l3 : Int32} {l4 : Int32} {l5 : Int32} {res : RS} (h : m_write σ l1 l2 l3 l4 l5 = some res) : xCo pF (d + 1) 381 [.ref aR, .int l1, .int l2, .int l3, .int l4, .int l5] (layR aR σ G, T) none (layR aR res G, T) := by
  exact xCo_R kk_381 mo_381 ni_381 xm_381 (Nat.le_of_ble_eq_true rfl) (hp0 _ (by decide) (by decide) _ _) (m_write_run hp0 _ σ l1 l2 l3 l4 l5 rfl rfl rfl rfl rfl rfl _ h)
/-! postReply (340), depth 5 -/
def m_postReply_b79 (F : Nat)  (σ : RS) (l1 : Int32) (l2 : Int32) : Option (RS) :=
  (rld σ 100 l2).bind fun x1 =>
  (m_post F σ l1 x1).bind fun p3 =>
  some p3
set_option maxRecDepth 4000 in
theorem m_postReply_b79_ok {pF : Nat → List Value → xH → Option (Option Value × xH)} {d : Nat} {aR : Nat} {G : Nat → xC} {T : Nat × Nat} {F : Nat} (hp0 : xNP pF)  : ∀ (lv : xL) (σ : RS) (l1 : Int32) (l2 : Int32), xg lv 0 = some (.ref aR) → xg lv 1 = some (.int l1) → xg lv 2 = some (.int l2) → ∀ res, m_postReply_b79 F  σ l1 l2 = some res → xR pF (d + 4) kT340 16 6 false none none (layR aR res G, T) (79, lv, [], (layR aR σ G, T)) := by
  intro lv σ l1 l2 g0 g1 g2 res h
  unfold m_postReply_b79 at h
  refine eE_aload_n lk340_79 g0 ?_
  refine eE_iload_n lk340_80 g1 ?_
  refine eE_aload_n lk340_81 g0 ?_
  refine eR_getA lk340_82 rf_266 rfl ?_
  refine eE_iload_n lk340_85 g2 ?_
  obtain ⟨x1, h2, h⟩ := Option.bind_eq_some_iff.mp h
  refine eR_iald lk340_86 rfl rfl h2 ?_
  obtain ⟨p3, h4, h⟩ := Option.bind_eq_some_iff.mp h
  refine eR_call (as := [.int l1, .int x1]) lk340_87 mr_651 na_339 rfl rfl (Nat.le_of_ble_eq_true rfl) wv_339 wc_339 (m_post_ok hp0 (d := d + 0) h4) ?_
  cases h
  exact eE_end lk340_90 rfl rfl rfl
def m_postReply_b47 (F : Nat)  : Nat → RS → Int32 → Int32 → Int32 → Option (RS)
  | 0, _, _, _, _ => none
  | n + 1, σ, l1, l2, l5 =>
    let KK := m_postReply_b47 F  n
    if xc2 .ge l5 (σ.1 122 0) = true then (
      m_postReply_b79 F  σ l1 l2
    ) else (
      (rld σ 121 l5).bind fun x6 =>
      (m_layLetter σ (((540672 : Int32)) + l5) x6).bind fun p8 =>
      KK p8 l1 l2 (l5 + (1 : Int32))
    )
set_option maxRecDepth 4000 in
theorem m_postReply_b47_ok {pF : Nat → List Value → xH → Option (Option Value × xH)} {d : Nat} {aR : Nat} {G : Nat → xC} {T : Nat × Nat} {F : Nat} (hp0 : xNP pF)  : ∀ (n : Nat) (lv : xL) (σ : RS) (l1 : Int32) (l2 : Int32) (l5 : Int32), xg lv 0 = some (.ref aR) → xg lv 1 = some (.int l1) → xg lv 2 = some (.int l2) → xg lv 5 = some (.int l5) → ∀ res, m_postReply_b47 F  n σ l1 l2 l5 = some res → xR pF (d + 4) kT340 16 6 false none none (layR aR res G, T) (47, lv, [], (layR aR σ G, T)) := by
  intro n
  induction n with
  | zero => intro lv σ l1 l2 l5 g0 g1 g2 g5 res h; simp [m_postReply_b47] at h
  | succ n hKK =>
    intro lv σ l1 l2 l5 g0 g1 g2 g5 res h
    unfold m_postReply_b47 at h
    dsimp only at h
    refine eE_iload lk340_47 g5 ?_
    refine eE_aload_n lk340_49 g0 ?_
    refine eR_get lk340_50 rf_570 rfl ?_
    refine eE_icmp (t := 79) lk340_53 (by decide) (fun c5 => ?_) (fun c5 => ?_)
    · rw [if_pos c5] at h
      exact m_postReply_b79_ok hp0  lv σ l1 l2 g0 g1 g2 _ h
    · rw [if_neg c5] at h
      refine eE_aload_n lk340_56 g0 ?_
      refine eE_ldc_w (v := 540672) lk340_57 xc_690 ?_
      refine eE_iload lk340_60 g5 ?_
      refine eE_iadd lk340_62 ?_
      refine eE_aload_n lk340_63 g0 ?_
      refine eR_getA lk340_64 rf_327 rfl ?_
      refine eE_iload lk340_67 g5 ?_
      obtain ⟨x6, h7, h⟩ := Option.bind_eq_some_iff.mp h
      refine eR_bald lk340_69 rfl (Or.inl rfl) h7 ?_
      obtain ⟨p8, h9, h⟩ := Option.bind_eq_some_iff.mp h
      refine eR_call (as := [.int (((540672 : Int32)) + l5), .int x6]) lk340_70 mr_691 na_315 rfl rfl (Nat.le_of_ble_eq_true rfl) wv_315 wc_315 (m_layLetter_ok hp0 (d := d + 3) h9) ?_
      refine eE_inc (j := 5) (v := l5 + (1 : Int32)) lk340_73 g5 rfl (by decide) (fun vq10 gq11 kq12 => ?_)
      have gq13 := kq12 1 _ (by decide) (fun _ => rfl) g1
      have gq14 := kq12 2 _ (by decide) (fun _ => rfl) g2
      have gq15 := kq12 0 _ (by decide) (fun _ => rfl) g0
      refine eE_goto (t := 47) lk340_76 (by decide) ?_
      exact hKK vq10 p8 l1 l2 (l5 + (1 : Int32)) gq15 gq13 gq14 gq11 _ h
def m_postReply_b0 (F : Nat)  (σ : RS) (l1 : Int32) (l2 : Int32) (l3 : Int32) (l4 : Int32) : Option (RS) :=
  (rld σ 101 l2).bind fun x16 =>
  (m_write σ ((11 : Int32)) x16 l3 l4 ((0 : Int32))).bind fun p18 =>
  if xc0 .ne l3 = true then (
    m_postReply_b79 F  p18 l1 l2
  ) else (
    (rst p18 12 ((2818 : Int32)) ((p18.1 122 0))).bind fun σ21 =>
    (rst σ21 11 ((352 : Int32)) ((σ21.1 122 0))).bind fun σ23 =>
    m_postReply_b47 F  F σ23 l1 l2 ((0 : Int32))
  )
set_option maxRecDepth 4000 in
theorem m_postReply_b0_ok {pF : Nat → List Value → xH → Option (Option Value × xH)} {d : Nat} {aR : Nat} {G : Nat → xC} {T : Nat × Nat} {F : Nat} (hp0 : xNP pF)  : ∀ (lv : xL) (σ : RS) (l1 : Int32) (l2 : Int32) (l3 : Int32) (l4 : Int32), xg lv 0 = some (.ref aR) → xg lv 1 = some (.int l1) → xg lv 2 = some (.int l2) → xg lv 3 = some (.int l3) → xg lv 4 = some (.int l4) → ∀ res, m_postReply_b0 F  σ l1 l2 l3 l4 = some res → xR pF (d + 4) kT340 16 6 false none none (layR aR res G, T) (0, lv, [], (layR aR σ G, T)) := by
  intro lv σ l1 l2 l3 l4 g0 g1 g2 g3 g4 res h
  unfold m_postReply_b0 at h
  refine eE_aload_n lk340_0 g0 ?_
  refine eE_bipush (v := 11) lk340_1 (by decide) ?_
  refine eE_aload_n lk340_3 g0 ?_
  refine eR_getA lk340_4 rf_269 rfl ?_
  refine eE_iload_n lk340_7 g2 ?_
  obtain ⟨x16, h17, h⟩ := Option.bind_eq_some_iff.mp h
  refine eR_iald lk340_8 rfl rfl h17 ?_
  refine eE_iload_n lk340_9 g3 ?_
  refine eE_iload lk340_10 g4 ?_
  refine eE_iconst (v := 0) lk340_12 (by decide) ?_
  obtain ⟨p18, h19, h⟩ := Option.bind_eq_some_iff.mp h
  refine eR_call (as := [.int ((11 : Int32)), .int x16, .int l3, .int l4, .int ((0 : Int32))]) lk340_13 mr_647 na_381 rfl rfl (Nat.le_of_ble_eq_true rfl) wv_381 wc_381 (m_write_ok hp0 (d := d + 3) h19) ?_
  refine eE_iload_n lk340_16 g3 ?_
  refine eE_if (t := 79) lk340_17 (by decide) (fun c20 => ?_) (fun c20 => ?_)
  · rw [if_pos c20] at h
    exact m_postReply_b79_ok hp0  lv p18 l1 l2 g0 g1 g2 _ h
  · rw [if_neg c20] at h
    refine eE_aload_n lk340_20 g0 ?_
    refine eR_getA lk340_21 rf_32 rfl ?_
    refine eE_sipush (v := 2818) lk340_24 (by decide) ?_
    refine eE_aload_n lk340_27 g0 ?_
    refine eR_get lk340_28 rf_570 rfl ?_
    obtain ⟨σ21, h22, h⟩ := Option.bind_eq_some_iff.mp h
    refine eR_iast lk340_31 rfl rfl h22 ?_
    refine eE_aload_n lk340_32 g0 ?_
    refine eR_getA lk340_33 rf_29 rfl ?_
    refine eE_sipush (v := 352) lk340_36 (by decide) ?_
    refine eE_aload_n lk340_39 g0 ?_
    refine eR_get lk340_40 rf_570 rfl ?_
    obtain ⟨σ23, h24, h⟩ := Option.bind_eq_some_iff.mp h
    refine eR_iast lk340_43 rfl rfl h24 ?_
    refine eE_iconst (v := 0) lk340_44 (by decide) ?_
    refine eE_stI (j := 5) lk340_45 (Or.inl rfl) (by decide) (fun vq25 gq26 kq27 => ?_)
    have gq28 := kq27 1 _ (by decide) (fun _ => rfl) g1
    have gq29 := kq27 2 _ (by decide) (fun _ => rfl) g2
    have gq30 := kq27 0 _ (by decide) (fun _ => rfl) g0
    exact m_postReply_b47_ok hp0  F vq25 σ23 l1 l2 ((0 : Int32)) gq30 gq28 gq29 gq26 _ h
def m_postReply (F : Nat) (σ : RS) (l1 : Int32) (l2 : Int32) (l3 : Int32) (l4 : Int32) : Option (RS) := m_postReply_b0 F σ l1 l2 l3 l4
theorem m_postReply_ok {pF : Nat → List Value → xH → Option (Option Value × xH)} (hp0 : xNP pF) {d : Nat} {aR : Nat} {G : Nat → xC} {T : Nat × Nat} {σ : RS} {F : Nat} {l1 : Int32} {l2 : Int32} {l3 : Int32} {l4 : Int32} {res : RS} (h : m_postReply F σ l1 l2 l3 l4 = some res) : xCo pF (d + 5) 340 [.ref aR, .int l1, .int l2, .int l3, .int l4] (layR aR σ G, T) none (layR aR res G, T) := by
  unfold m_postReply at h
  exact xCo_R kk_340 mo_340 ni_340 xm_340 (Nat.le_of_ble_eq_true rfl) (hp0 _ (by decide) (by decide) _ _) (m_postReply_b0_ok hp0 _ σ l1 l2 l3 l4 rfl rfl rfl rfl rfl _ h)
/-! inLog (296), depth 1 -/
def m_inLog  (σ : RS) (l1 : Int32) : Option (Int32 × RS) :=
  (rldL σ 63 (l1 >>> (((3 : Int32)) &&& 31))).bind fun x1 =>
  if (((x1 >>> ((((8 : Int32)) * (l1 &&& ((7 : Int32)))).toInt64 &&& 63)).toInt32).toInt8.toInt32).toInt8.toInt32 = (((x1 >>> ((((8 : Int32)) * (l1 &&& ((7 : Int32)))).toInt64 &&& 63)).toInt32).toInt8.toInt32) then some (((x1 >>> ((((8 : Int32)) * (l1 &&& ((7 : Int32)))).toInt64 &&& 63)).toInt32).toInt8.toInt32, σ) else none
set_option maxRecDepth 4000 in
theorem m_inLog_run {pF : Nat → List Value → xH → Option (Option Value × xH)} {d : Nat} {aR : Nat} {G : Nat → xC} {T : Nat × Nat} (hp0 : xNP pF)  : ∀ (lv : xL) (σ : RS) (l1 : Int32), xg lv 0 = some (.ref aR) → xg lv 1 = some (.int l1) → ∀ res, m_inLog  σ l1 = some res → xR pF (d + 0) kT296 16 2 false (some .byte) (some (.int res.1)) (layR aR res.2 G, T) (0, lv, [], (layR aR σ G, T)) := by
  intro lv σ l1 g0 g1 res h
  unfold m_inLog at h
  refine eE_aload_n lk296_0 g0 ?_
  refine eR_getA lk296_1 rf_154 rfl ?_
  refine eE_iload_n lk296_4 g1 ?_
  refine eE_iconst (v := 3) lk296_5 (by decide) ?_
  refine eE_ishr lk296_6 ?_
  obtain ⟨x1, h2, h⟩ := Option.bind_eq_some_iff.mp h
  refine eR_lald lk296_7 rfl rfl h2 ?_
  refine eE_bipush (v := 8) lk296_8 (by decide) ?_
  refine eE_iload_n lk296_10 g1 ?_
  refine eE_bipush (v := 7) lk296_11 (by decide) ?_
  refine eE_iand lk296_13 ?_
  refine eE_imul lk296_14 ?_
  refine eE_lshr lk296_15 ?_
  refine eE_l2i lk296_16 ?_
  refine eE_i2b lk296_17 ?_
  by_cases z3 : (((x1 >>> ((((8 : Int32)) * (l1 &&& ((7 : Int32)))).toInt64 &&& 63)).toInt32).toInt8.toInt32).toInt8.toInt32 = (((x1 >>> ((((8 : Int32)) * (l1 &&& ((7 : Int32)))).toInt64 &&& 63)).toInt32).toInt8.toInt32)
  · rw [if_pos z3] at h; cases h
    exact eE_end lk296_18 rfl rfl (by first | (simp only [xfin, if_true, if_pos z3]; done) | simp [xfin, z3])
  · rw [if_neg z3] at h; cases h
theorem m_inLog_ok {pF : Nat → List Value → xH → Option (Option Value × xH)} (hp0 : xNP pF) {d : Nat} {aR : Nat} {G : Nat → xC} {T : Nat × Nat} {σ : RS} {l1 : Int32} {res : Int32 × RS} (h : m_inLog σ l1 = some res) : xCo pF (d + 1) 296 [.ref aR, .int l1] (layR aR σ G, T) (some (.int res.1)) (layR aR res.2 G, T) := by
  exact xCo_R kk_296 mo_296 ni_296 xm_296 (Nat.le_of_ble_eq_true rfl) (hp0 _ (by decide) (by decide) _ _) (m_inLog_run hp0 _ σ l1 rfl rfl _ h)
/-! compare (260), depth 2 -/
def m_compare_b63 (F : Nat) (K3 : RS → Int32 → Int32 → Int32 → Int32 → Int32 → Option (Int32 × RS)) (σ : RS) (s0 : Int32) (l1 : Int32) (l2 : Int32) (l3 : Int32) (l4 : Int32) (l5 : Int32) (l6 : Int32) : Option (Int32 × RS) :=
  if xc2 .eq l6 (s0 &&& ((255 : Int32))) = true then (
    K3 σ l1 l2 l3 l4 (l5 + (1 : Int32))
  ) else (
    some (l6 - (s0 &&& ((255 : Int32))), σ)
  )
set_option maxRecDepth 4000 in
theorem m_compare_b63_ok {pF : Nat → List Value → xH → Option (Option Value × xH)} {d : Nat} {aR : Nat} {G : Nat → xC} {T : Nat × Nat} {F : Nat} {K3 : RS → Int32 → Int32 → Int32 → Int32 → Int32 → Option (Int32 × RS)} (hp0 : xNP pF) (hK3 : ∀ (lv : xL) (σ : RS) (l1 : Int32) (l2 : Int32) (l3 : Int32) (l4 : Int32) (l5 : Int32), xg lv 0 = some (.ref aR) → xg lv 1 = some (.int l1) → xg lv 2 = some (.int l2) → xg lv 3 = some (.int l3) → xg lv 4 = some (.int l4) → xg lv 5 = some (.int l5) → ∀ res, K3 σ l1 l2 l3 l4 l5 = some res → xR pF (d + 1) kT260 16 8 false (some .int) (some (.int res.1)) (layR aR res.2 G, T) (3, lv, [], (layR aR σ G, T))) : ∀ (lv : xL) (σ : RS) (s0 : Int32) (l1 : Int32) (l2 : Int32) (l3 : Int32) (l4 : Int32) (l5 : Int32) (l6 : Int32), xg lv 0 = some (.ref aR) → xg lv 1 = some (.int l1) → xg lv 2 = some (.int l2) → xg lv 3 = some (.int l3) → xg lv 4 = some (.int l4) → xg lv 5 = some (.int l5) → xg lv 6 = some (.int l6) → ∀ res, m_compare_b63 F K3 σ s0 l1 l2 l3 l4 l5 l6 = some res → xR pF (d + 1) kT260 16 8 false (some .int) (some (.int res.1)) (layR aR res.2 G, T) (63, lv, [.int s0], (layR aR σ G, T)) := by
  intro lv σ s0 l1 l2 l3 l4 l5 l6 g0 g1 g2 g3 g4 g5 g6 res h
  unfold m_compare_b63 at h
  refine eE_sipush (v := 255) lk260_63 (by decide) ?_
  refine eE_iand lk260_66 ?_
  refine eE_stI (j := 7) lk260_67 (Or.inl rfl) (by decide) (fun vq1 gq2 kq3 => ?_)
  have gq4 := kq3 1 _ (by decide) (fun _ => rfl) g1
  have gq5 := kq3 2 _ (by decide) (fun _ => rfl) g2
  have gq6 := kq3 3 _ (by decide) (fun _ => rfl) g3
  have gq7 := kq3 4 _ (by decide) (fun _ => rfl) g4
  have gq8 := kq3 5 _ (by decide) (fun _ => rfl) g5
  have gq9 := kq3 6 _ (by decide) (fun _ => rfl) g6
  have gq10 := kq3 0 _ (by decide) (fun _ => rfl) g0
  refine eE_iload lk260_69 gq9 ?_
  refine eE_iload lk260_71 gq2 ?_
  refine eE_icmp (t := 82) lk260_73 (by decide) (fun c11 => ?_) (fun c11 => ?_)
  · rw [if_pos c11] at h
    refine eE_inc (j := 5) (v := l5 + (1 : Int32)) lk260_82 gq8 rfl (by decide) (fun vq12 gq13 kq14 => ?_)
    have gq15 := kq14 1 _ (by decide) (fun _ => rfl) gq4
    have gq16 := kq14 2 _ (by decide) (fun _ => rfl) gq5
    have gq17 := kq14 3 _ (by decide) (fun _ => rfl) gq6
    have gq18 := kq14 4 _ (by decide) (fun _ => rfl) gq7
    have gq19 := kq14 0 _ (by decide) (fun _ => rfl) gq10
    refine eE_goto (t := 3) lk260_85 (by decide) ?_
    exact hK3 vq12 σ l1 l2 l3 l4 (l5 + (1 : Int32)) gq19 gq15 gq16 gq17 gq18 gq13 _ h
  · rw [if_neg c11] at h
    refine eE_iload lk260_76 gq9 ?_
    refine eE_iload lk260_78 gq2 ?_
    refine eE_isub lk260_80 ?_
    cases h
    exact eE_end lk260_81 rfl rfl rfl
def m_compare_b88 (F : Nat)  (σ : RS) (l1 : Int32) (l4 : Int32) : Option (Int32 × RS) :=
  (rld σ 114 l1).bind fun x20 =>
  some (x20 - l4, σ)
set_option maxRecDepth 4000 in
theorem m_compare_b88_ok {pF : Nat → List Value → xH → Option (Option Value × xH)} {d : Nat} {aR : Nat} {G : Nat → xC} {T : Nat × Nat} {F : Nat} (hp0 : xNP pF)  : ∀ (lv : xL) (σ : RS) (l1 : Int32) (l4 : Int32), xg lv 0 = some (.ref aR) → xg lv 1 = some (.int l1) → xg lv 4 = some (.int l4) → ∀ res, m_compare_b88 F  σ l1 l4 = some res → xR pF (d + 1) kT260 16 8 false (some .int) (some (.int res.1)) (layR aR res.2 G, T) (88, lv, [], (layR aR σ G, T)) := by
  intro lv σ l1 l4 g0 g1 g4 res h
  unfold m_compare_b88 at h
  refine eE_aload_n lk260_88 g0 ?_
  refine eR_getA lk260_89 rf_308 rfl ?_
  refine eE_iload_n lk260_92 g1 ?_
  obtain ⟨x20, h21, h⟩ := Option.bind_eq_some_iff.mp h
  refine eR_iald lk260_93 rfl rfl h21 ?_
  refine eE_iload lk260_94 g4 ?_
  refine eE_isub lk260_96 ?_
  cases h
  exact eE_end lk260_97 rfl rfl rfl
def m_compare_b3 (F : Nat)  : Nat → RS → Int32 → Int32 → Int32 → Int32 → Int32 → Option (Int32 × RS)
  | 0, _, _, _, _, _, _ => none
  | n + 1, σ, l1, l2, l3, l4, l5 =>
    let KK := m_compare_b3 F  n
    (rld σ 114 l1).bind fun x22 =>
    if xc2 .ge l5 x22 = true then (
      m_compare_b88 F  σ l1 l4
    ) else (
      if xc2 .ge l5 l4 = true then (
        m_compare_b88 F  σ l1 l4
      ) else (
        (rld σ 116 ((((32 : Int32)) * l1) + l5)).bind fun x26 =>
        if xc0 .ne l2 = true then (
          (rld σ 105 (l3 + l5)).bind fun x38 =>
          m_compare_b63 F KK σ x38 l1 l2 l3 l4 l5 (x26 &&& ((255 : Int32)))
        ) else (
          (m_inLog σ (l3 + l5)).bind fun p40 =>
          m_compare_b63 F KK p40.2 (p40.1) l1 l2 l3 l4 l5 (x26 &&& ((255 : Int32)))
        )
      )
    )
set_option maxRecDepth 4000 in
theorem m_compare_b3_ok {pF : Nat → List Value → xH → Option (Option Value × xH)} {d : Nat} {aR : Nat} {G : Nat → xC} {T : Nat × Nat} {F : Nat} (hp0 : xNP pF)  : ∀ (n : Nat) (lv : xL) (σ : RS) (l1 : Int32) (l2 : Int32) (l3 : Int32) (l4 : Int32) (l5 : Int32), xg lv 0 = some (.ref aR) → xg lv 1 = some (.int l1) → xg lv 2 = some (.int l2) → xg lv 3 = some (.int l3) → xg lv 4 = some (.int l4) → xg lv 5 = some (.int l5) → ∀ res, m_compare_b3 F  n σ l1 l2 l3 l4 l5 = some res → xR pF (d + 1) kT260 16 8 false (some .int) (some (.int res.1)) (layR aR res.2 G, T) (3, lv, [], (layR aR σ G, T)) := by
  intro n
  induction n with
  | zero => intro lv σ l1 l2 l3 l4 l5 g0 g1 g2 g3 g4 g5 res h; simp [m_compare_b3] at h
  | succ n hKK =>
    intro lv σ l1 l2 l3 l4 l5 g0 g1 g2 g3 g4 g5 res h
    unfold m_compare_b3 at h
    dsimp only at h
    refine eE_iload lk260_3 g5 ?_
    refine eE_aload_n lk260_5 g0 ?_
    refine eR_getA lk260_6 rf_308 rfl ?_
    refine eE_iload_n lk260_9 g1 ?_
    obtain ⟨x22, h23, h⟩ := Option.bind_eq_some_iff.mp h
    refine eR_iald lk260_10 rfl rfl h23 ?_
    refine eE_icmp (t := 88) lk260_11 (by decide) (fun c24 => ?_) (fun c24 => ?_)
    · rw [if_pos c24] at h
      exact m_compare_b88_ok hp0  lv σ l1 l4 g0 g1 g4 _ h
    · rw [if_neg c24] at h
      refine eE_iload lk260_14 g5 ?_
      refine eE_iload lk260_16 g4 ?_
      refine eE_icmp (t := 88) lk260_18 (by decide) (fun c25 => ?_) (fun c25 => ?_)
      · rw [if_pos c25] at h
        exact m_compare_b88_ok hp0  lv σ l1 l4 g0 g1 g4 _ h
      · rw [if_neg c25] at h
        refine eE_aload_n lk260_21 g0 ?_
        refine eR_getA lk260_22 rf_314 rfl ?_
        refine eE_bipush (v := 32) lk260_25 (by decide) ?_
        refine eE_iload_n lk260_27 g1 ?_
        refine eE_imul lk260_28 ?_
        refine eE_iload lk260_29 g5 ?_
        refine eE_iadd lk260_31 ?_
        obtain ⟨x26, h27, h⟩ := Option.bind_eq_some_iff.mp h
        refine eR_bald lk260_32 rfl (Or.inl rfl) h27 ?_
        refine eE_sipush (v := 255) lk260_33 (by decide) ?_
        refine eE_iand lk260_36 ?_
        refine eE_stI (j := 6) lk260_37 (Or.inl rfl) (by decide) (fun vq28 gq29 kq30 => ?_)
        have gq31 := kq30 1 _ (by decide) (fun _ => rfl) g1
        have gq32 := kq30 2 _ (by decide) (fun _ => rfl) g2
        have gq33 := kq30 3 _ (by decide) (fun _ => rfl) g3
        have gq34 := kq30 4 _ (by decide) (fun _ => rfl) g4
        have gq35 := kq30 5 _ (by decide) (fun _ => rfl) g5
        have gq36 := kq30 0 _ (by decide) (fun _ => rfl) g0
        refine eE_iload_n lk260_39 gq32 ?_
        refine eE_if (t := 54) lk260_40 (by decide) (fun c37 => ?_) (fun c37 => ?_)
        · rw [if_pos c37] at h
          refine eE_aload_n lk260_54 gq36 ?_
          refine eR_getA lk260_55 rf_281 rfl ?_
          refine eE_iload_n lk260_58 gq33 ?_
          refine eE_iload lk260_59 gq35 ?_
          refine eE_iadd lk260_61 ?_
          obtain ⟨x38, h39, h⟩ := Option.bind_eq_some_iff.mp h
          refine eR_bald lk260_62 rfl (Or.inl rfl) h39 ?_
          exact m_compare_b63_ok hp0 hKK vq28 σ x38 l1 l2 l3 l4 l5 (x26 &&& ((255 : Int32))) gq36 gq31 gq32 gq33 gq34 gq35 gq29 _ h
        · rw [if_neg c37] at h
          refine eE_aload_n lk260_43 gq36 ?_
          refine eE_iload_n lk260_44 gq33 ?_
          refine eE_iload lk260_45 gq35 ?_
          refine eE_iadd lk260_47 ?_
          obtain ⟨p40, h41, h⟩ := Option.bind_eq_some_iff.mp h
          refine eR_call (as := [.int (l3 + l5)]) lk260_48 mr_530 na_296 rfl rfl (Nat.le_of_ble_eq_true rfl) wv_296 wc_296 (m_inLog_ok hp0 (d := d + 0) h41) ?_
          refine eE_goto (t := 63) lk260_51 (by decide) ?_
          exact m_compare_b63_ok hp0 hKK vq28 p40.2 (p40.1) l1 l2 l3 l4 l5 (x26 &&& ((255 : Int32))) gq36 gq31 gq32 gq33 gq34 gq35 gq29 _ h
def m_compare_b0 (F : Nat)  (σ : RS) (l1 : Int32) (l2 : Int32) (l3 : Int32) (l4 : Int32) : Option (Int32 × RS) :=
  m_compare_b3 F  F σ l1 l2 l3 l4 ((0 : Int32))
set_option maxRecDepth 4000 in
theorem m_compare_b0_ok {pF : Nat → List Value → xH → Option (Option Value × xH)} {d : Nat} {aR : Nat} {G : Nat → xC} {T : Nat × Nat} {F : Nat} (hp0 : xNP pF)  : ∀ (lv : xL) (σ : RS) (l1 : Int32) (l2 : Int32) (l3 : Int32) (l4 : Int32), xg lv 0 = some (.ref aR) → xg lv 1 = some (.int l1) → xg lv 2 = some (.int l2) → xg lv 3 = some (.int l3) → xg lv 4 = some (.int l4) → ∀ res, m_compare_b0 F  σ l1 l2 l3 l4 = some res → xR pF (d + 1) kT260 16 8 false (some .int) (some (.int res.1)) (layR aR res.2 G, T) (0, lv, [], (layR aR σ G, T)) := by
  intro lv σ l1 l2 l3 l4 g0 g1 g2 g3 g4 res h
  unfold m_compare_b0 at h
  refine eE_iconst (v := 0) lk260_0 (by decide) ?_
  refine eE_stI (j := 5) lk260_1 (Or.inl rfl) (by decide) (fun vq42 gq43 kq44 => ?_)
  have gq45 := kq44 1 _ (by decide) (fun _ => rfl) g1
  have gq46 := kq44 2 _ (by decide) (fun _ => rfl) g2
  have gq47 := kq44 3 _ (by decide) (fun _ => rfl) g3
  have gq48 := kq44 4 _ (by decide) (fun _ => rfl) g4
  have gq49 := kq44 0 _ (by decide) (fun _ => rfl) g0
  exact m_compare_b3_ok hp0  F vq42 σ l1 l2 l3 l4 ((0 : Int32)) gq49 gq45 gq46 gq47 gq48 gq43 _ h
def m_compare (F : Nat) (σ : RS) (l1 : Int32) (l2 : Int32) (l3 : Int32) (l4 : Int32) : Option (Int32 × RS) := m_compare_b0 F σ l1 l2 l3 l4
theorem m_compare_ok {pF : Nat → List Value → xH → Option (Option Value × xH)} (hp0 : xNP pF) {d : Nat} {aR : Nat} {G : Nat → xC} {T : Nat × Nat} {σ : RS} {F : Nat} {l1 : Int32} {l2 : Int32} {l3 : Int32} {l4 : Int32} {res : Int32 × RS} (h : m_compare F σ l1 l2 l3 l4 = some res) : xCo pF (d + 2) 260 [.ref aR, .int l1, .int l2, .int l3, .int l4] (layR aR σ G, T) (some (.int res.1)) (layR aR res.2 G, T) := by
  unfold m_compare at h
  exact xCo_R kk_260 mo_260 ni_260 xm_260 (Nat.le_of_ble_eq_true rfl) (hp0 _ (by decide) (by decide) _ _) (m_compare_b0_ok hp0 _ σ l1 l2 l3 l4 rfl rfl rfl rfl rfl _ h)
/-! rank (343), depth 3 -/
def m_rank_b50 (F : Nat)  (σ : RS) (l5 : Int32) : Option (Int32 × RS) :=
  some (l5, σ)
set_option maxRecDepth 4000 in
theorem m_rank_b50_ok {pF : Nat → List Value → xH → Option (Option Value × xH)} {d : Nat} {aR : Nat} {G : Nat → xC} {T : Nat × Nat} {F : Nat} (hp0 : xNP pF)  : ∀ (lv : xL) (σ : RS) (l5 : Int32), xg lv 0 = some (.ref aR) → xg lv 5 = some (.int l5) → ∀ res, m_rank_b50 F  σ l5 = some res → xR pF (d + 2) kT343 16 6 false (some .int) (some (.int res.1)) (layR aR res.2 G, T) (50, lv, [], (layR aR σ G, T)) := by
  intro lv σ l5 g0 g5 res h
  unfold m_rank_b50 at h
  refine eE_iload lk343_50 g5 ?_
  cases h
  exact eE_end lk343_52 rfl rfl rfl
def m_rank_b3 (F : Nat)  : Nat → RS → Int32 → Int32 → Int32 → Int32 → Int32 → Option (Int32 × RS)
  | 0, _, _, _, _, _, _ => none
  | n + 1, σ, l1, l2, l3, l4, l5 =>
    let KK := m_rank_b3 F  n
    (rld σ 113 l1).bind fun x1 =>
    if xc2 .ge l5 x1 = true then (
      m_rank_b50 F  σ l5
    ) else (
      (rld σ 118 ((((128 : Int32)) * l1) + l5)).bind fun x4 =>
      (m_compare F σ ((((128 : Int32)) * l1) + x4) l2 l3 l4).bind fun p6 =>
      if xc0 .ge p6.1 = true then (
        m_rank_b50 F  p6.2 l5
      ) else (
        KK p6.2 l1 l2 l3 l4 (l5 + (1 : Int32))
      )
    )
set_option maxRecDepth 4000 in
theorem m_rank_b3_ok {pF : Nat → List Value → xH → Option (Option Value × xH)} {d : Nat} {aR : Nat} {G : Nat → xC} {T : Nat × Nat} {F : Nat} (hp0 : xNP pF)  : ∀ (n : Nat) (lv : xL) (σ : RS) (l1 : Int32) (l2 : Int32) (l3 : Int32) (l4 : Int32) (l5 : Int32), xg lv 0 = some (.ref aR) → xg lv 1 = some (.int l1) → xg lv 2 = some (.int l2) → xg lv 3 = some (.int l3) → xg lv 4 = some (.int l4) → xg lv 5 = some (.int l5) → ∀ res, m_rank_b3 F  n σ l1 l2 l3 l4 l5 = some res → xR pF (d + 2) kT343 16 6 false (some .int) (some (.int res.1)) (layR aR res.2 G, T) (3, lv, [], (layR aR σ G, T)) := by
  intro n
  induction n with
  | zero => intro lv σ l1 l2 l3 l4 l5 g0 g1 g2 g3 g4 g5 res h; simp [m_rank_b3] at h
  | succ n hKK =>
    intro lv σ l1 l2 l3 l4 l5 g0 g1 g2 g3 g4 g5 res h
    unfold m_rank_b3 at h
    dsimp only at h
    refine eE_iload lk343_3 g5 ?_
    refine eE_aload_n lk343_5 g0 ?_
    refine eR_getA lk343_6 rf_305 rfl ?_
    refine eE_iload_n lk343_9 g1 ?_
    obtain ⟨x1, h2, h⟩ := Option.bind_eq_some_iff.mp h
    refine eR_iald lk343_10 rfl rfl h2 ?_
    refine eE_icmp (t := 50) lk343_11 (by decide) (fun c3 => ?_) (fun c3 => ?_)
    · rw [if_pos c3] at h
      exact m_rank_b50_ok hp0  lv σ l5 g0 g5 _ h
    · rw [if_neg c3] at h
      refine eE_aload_n lk343_14 g0 ?_
      refine eE_sipush (v := 128) lk343_15 (by decide) ?_
      refine eE_iload_n lk343_18 g1 ?_
      refine eE_imul lk343_19 ?_
      refine eE_aload_n lk343_20 g0 ?_
      refine eR_getA lk343_21 rf_321 rfl ?_
      refine eE_sipush (v := 128) lk343_24 (by decide) ?_
      refine eE_iload_n lk343_27 g1 ?_
      refine eE_imul lk343_28 ?_
      refine eE_iload lk343_29 g5 ?_
      refine eE_iadd lk343_31 ?_
      obtain ⟨x4, h5, h⟩ := Option.bind_eq_some_iff.mp h
      refine eR_iald lk343_32 rfl rfl h5 ?_
      refine eE_iadd lk343_33 ?_
      refine eE_iload_n lk343_34 g2 ?_
      refine eE_iload_n lk343_35 g3 ?_
      refine eE_iload lk343_36 g4 ?_
      obtain ⟨p6, h7, h⟩ := Option.bind_eq_some_iff.mp h
      refine eR_call (as := [.int ((((128 : Int32)) * l1) + x4), .int l2, .int l3, .int l4]) lk343_38 mr_563 na_260 rfl rfl (Nat.le_of_ble_eq_true rfl) wv_260 wc_260 (m_compare_ok hp0 (d := d + 0) h7) ?_
      refine eE_if (t := 50) lk343_41 (by decide) (fun c8 => ?_) (fun c8 => ?_)
      · rw [if_pos c8] at h
        exact m_rank_b50_ok hp0  lv p6.2 l5 g0 g5 _ h
      · rw [if_neg c8] at h
        refine eE_inc (j := 5) (v := l5 + (1 : Int32)) lk343_44 g5 rfl (by decide) (fun vq9 gq10 kq11 => ?_)
        have gq12 := kq11 1 _ (by decide) (fun _ => rfl) g1
        have gq13 := kq11 2 _ (by decide) (fun _ => rfl) g2
        have gq14 := kq11 3 _ (by decide) (fun _ => rfl) g3
        have gq15 := kq11 4 _ (by decide) (fun _ => rfl) g4
        have gq16 := kq11 0 _ (by decide) (fun _ => rfl) g0
        refine eE_goto (t := 3) lk343_47 (by decide) ?_
        exact hKK vq9 p6.2 l1 l2 l3 l4 (l5 + (1 : Int32)) gq16 gq12 gq13 gq14 gq15 gq10 _ h
def m_rank_b0 (F : Nat)  (σ : RS) (l1 : Int32) (l2 : Int32) (l3 : Int32) (l4 : Int32) : Option (Int32 × RS) :=
  m_rank_b3 F  F σ l1 l2 l3 l4 ((0 : Int32))
set_option maxRecDepth 4000 in
theorem m_rank_b0_ok {pF : Nat → List Value → xH → Option (Option Value × xH)} {d : Nat} {aR : Nat} {G : Nat → xC} {T : Nat × Nat} {F : Nat} (hp0 : xNP pF)  : ∀ (lv : xL) (σ : RS) (l1 : Int32) (l2 : Int32) (l3 : Int32) (l4 : Int32), xg lv 0 = some (.ref aR) → xg lv 1 = some (.int l1) → xg lv 2 = some (.int l2) → xg lv 3 = some (.int l3) → xg lv 4 = some (.int l4) → ∀ res, m_rank_b0 F  σ l1 l2 l3 l4 = some res → xR pF (d + 2) kT343 16 6 false (some .int) (some (.int res.1)) (layR aR res.2 G, T) (0, lv, [], (layR aR σ G, T)) := by
  intro lv σ l1 l2 l3 l4 g0 g1 g2 g3 g4 res h
  unfold m_rank_b0 at h
  refine eE_iconst (v := 0) lk343_0 (by decide) ?_
  refine eE_stI (j := 5) lk343_1 (Or.inl rfl) (by decide) (fun vq17 gq18 kq19 => ?_)
  have gq20 := kq19 1 _ (by decide) (fun _ => rfl) g1
  have gq21 := kq19 2 _ (by decide) (fun _ => rfl) g2
  have gq22 := kq19 3 _ (by decide) (fun _ => rfl) g3
  have gq23 := kq19 4 _ (by decide) (fun _ => rfl) g4
  have gq24 := kq19 0 _ (by decide) (fun _ => rfl) g0
  exact m_rank_b3_ok hp0  F vq17 σ l1 l2 l3 l4 ((0 : Int32)) gq24 gq20 gq21 gq22 gq23 gq18 _ h
def m_rank (F : Nat) (σ : RS) (l1 : Int32) (l2 : Int32) (l3 : Int32) (l4 : Int32) : Option (Int32 × RS) := m_rank_b0 F σ l1 l2 l3 l4
theorem m_rank_ok {pF : Nat → List Value → xH → Option (Option Value × xH)} (hp0 : xNP pF) {d : Nat} {aR : Nat} {G : Nat → xC} {T : Nat × Nat} {σ : RS} {F : Nat} {l1 : Int32} {l2 : Int32} {l3 : Int32} {l4 : Int32} {res : Int32 × RS} (h : m_rank F σ l1 l2 l3 l4 = some res) : xCo pF (d + 3) 343 [.ref aR, .int l1, .int l2, .int l3, .int l4] (layR aR σ G, T) (some (.int res.1)) (layR aR res.2 G, T) := by
  unfold m_rank at h
  exact xCo_R kk_343 mo_343 ni_343 xm_343 (Nat.le_of_ble_eq_true rfl) (hp0 _ (by decide) (by decide) _ _) (m_rank_b0_ok hp0 _ σ l1 l2 l3 l4 rfl rfl rfl rfl rfl _ h)
/-! find (281), depth 4 -/
def m_find_b64 (F : Nat)  (σ : RS) (s0 : Int32) : Option (Int32 × RS) :=
  some (s0, σ)
set_option maxRecDepth 4000 in
theorem m_find_b64_ok {pF : Nat → List Value → xH → Option (Option Value × xH)} {d : Nat} {aR : Nat} {G : Nat → xC} {T : Nat × Nat} {F : Nat} (hp0 : xNP pF)  : ∀ (lv : xL) (σ : RS) (s0 : Int32), xg lv 0 = some (.ref aR) → ∀ res, m_find_b64 F  σ s0 = some res → xR pF (d + 3) kT281 16 7 false (some .int) (some (.int res.1)) (layR aR res.2 G, T) (64, lv, [.int s0], (layR aR σ G, T)) := by
  intro lv σ s0 g0 res h
  unfold m_find_b64 at h
  cases h
  exact eE_end lk281_64 rfl rfl rfl
def m_find_b0 (F : Nat)  (σ : RS) (l1 : Int32) (l2 : Int32) (l3 : Int32) (l4 : Int32) : Option (Int32 × RS) :=
  (m_rank F σ l1 l2 l3 l4).bind fun p1 =>
  (rld p1.2 113 l1).bind fun x11 =>
  if xc2 .ne p1.1 x11 = true then (
    (rld p1.2 118 ((((128 : Int32)) * l1) + p1.1)).bind fun x14 =>
    (m_compare F p1.2 ((((128 : Int32)) * l1) + x14) l2 l3 l4).bind fun p23 =>
    if xc0 .ne p23.1 = true then (
      m_find_b64 F  p23.2 ((-1 : Int32))
    ) else (
      m_find_b64 F  p23.2 ((((128 : Int32)) * l1) + x14)
    )
  ) else (
    some ((-1 : Int32), p1.2)
  )
set_option maxRecDepth 4000 in
theorem m_find_b0_ok {pF : Nat → List Value → xH → Option (Option Value × xH)} {d : Nat} {aR : Nat} {G : Nat → xC} {T : Nat × Nat} {F : Nat} (hp0 : xNP pF)  : ∀ (lv : xL) (σ : RS) (l1 : Int32) (l2 : Int32) (l3 : Int32) (l4 : Int32), xg lv 0 = some (.ref aR) → xg lv 1 = some (.int l1) → xg lv 2 = some (.int l2) → xg lv 3 = some (.int l3) → xg lv 4 = some (.int l4) → ∀ res, m_find_b0 F  σ l1 l2 l3 l4 = some res → xR pF (d + 3) kT281 16 7 false (some .int) (some (.int res.1)) (layR aR res.2 G, T) (0, lv, [], (layR aR σ G, T)) := by
  intro lv σ l1 l2 l3 l4 g0 g1 g2 g3 g4 res h
  unfold m_find_b0 at h
  refine eE_aload_n lk281_0 g0 ?_
  refine eE_iload_n lk281_1 g1 ?_
  refine eE_iload_n lk281_2 g2 ?_
  refine eE_iload_n lk281_3 g3 ?_
  refine eE_iload lk281_4 g4 ?_
  obtain ⟨p1, h2, h⟩ := Option.bind_eq_some_iff.mp h
  refine eR_call (as := [.int l1, .int l2, .int l3, .int l4]) lk281_6 mr_567 na_343 rfl rfl (Nat.le_of_ble_eq_true rfl) wv_343 wc_343 (m_rank_ok hp0 (d := d + 0) h2) ?_
  refine eE_stI (j := 5) lk281_9 (Or.inl rfl) (by decide) (fun vq3 gq4 kq5 => ?_)
  have gq6 := kq5 1 _ (by decide) (fun _ => rfl) g1
  have gq7 := kq5 2 _ (by decide) (fun _ => rfl) g2
  have gq8 := kq5 3 _ (by decide) (fun _ => rfl) g3
  have gq9 := kq5 4 _ (by decide) (fun _ => rfl) g4
  have gq10 := kq5 0 _ (by decide) (fun _ => rfl) g0
  refine eE_iload lk281_11 gq4 ?_
  refine eE_aload_n lk281_13 gq10 ?_
  refine eR_getA lk281_14 rf_305 rfl ?_
  refine eE_iload_n lk281_17 gq6 ?_
  obtain ⟨x11, h12, h⟩ := Option.bind_eq_some_iff.mp h
  refine eR_iald lk281_18 rfl rfl h12 ?_
  refine eE_icmp (t := 24) lk281_19 (by decide) (fun c13 => ?_) (fun c13 => ?_)
  · rw [if_pos c13] at h
    refine eE_sipush (v := 128) lk281_24 (by decide) ?_
    refine eE_iload_n lk281_27 gq6 ?_
    refine eE_imul lk281_28 ?_
    refine eE_aload_n lk281_29 gq10 ?_
    refine eR_getA lk281_30 rf_321 rfl ?_
    refine eE_sipush (v := 128) lk281_33 (by decide) ?_
    refine eE_iload_n lk281_36 gq6 ?_
    refine eE_imul lk281_37 ?_
    refine eE_iload lk281_38 gq4 ?_
    refine eE_iadd lk281_40 ?_
    obtain ⟨x14, h15, h⟩ := Option.bind_eq_some_iff.mp h
    refine eR_iald lk281_41 rfl rfl h15 ?_
    refine eE_iadd lk281_42 ?_
    refine eE_stI (j := 6) lk281_43 (Or.inl rfl) (by decide) (fun vq16 gq17 kq18 => ?_)
    have gq19 := kq18 2 _ (by decide) (fun _ => rfl) gq7
    have gq20 := kq18 3 _ (by decide) (fun _ => rfl) gq8
    have gq21 := kq18 4 _ (by decide) (fun _ => rfl) gq9
    have gq22 := kq18 0 _ (by decide) (fun _ => rfl) gq10
    refine eE_aload_n lk281_45 gq22 ?_
    refine eE_iload lk281_46 gq17 ?_
    refine eE_iload_n lk281_48 gq19 ?_
    refine eE_iload_n lk281_49 gq20 ?_
    refine eE_iload lk281_50 gq21 ?_
    obtain ⟨p23, h24, h⟩ := Option.bind_eq_some_iff.mp h
    refine eR_call (as := [.int ((((128 : Int32)) * l1) + x14), .int l2, .int l3, .int l4]) lk281_52 mr_563 na_260 rfl rfl (Nat.le_of_ble_eq_true rfl) wv_260 wc_260 (m_compare_ok hp0 (d := d + 1) h24) ?_
    refine eE_if (t := 63) lk281_55 (by decide) (fun c25 => ?_) (fun c25 => ?_)
    · rw [if_pos c25] at h
      refine eE_iconst (v := (-1)) lk281_63 (by decide) ?_
      exact m_find_b64_ok hp0  vq16 p23.2 ((-1 : Int32)) gq22 _ h
    · rw [if_neg c25] at h
      refine eE_iload lk281_58 gq17 ?_
      refine eE_goto (t := 64) lk281_60 (by decide) ?_
      exact m_find_b64_ok hp0  vq16 p23.2 ((((128 : Int32)) * l1) + x14) gq22 _ h
  · rw [if_neg c13] at h
    refine eE_iconst (v := (-1)) lk281_22 (by decide) ?_
    cases h
    exact eE_end lk281_23 rfl rfl rfl
def m_find (F : Nat) (σ : RS) (l1 : Int32) (l2 : Int32) (l3 : Int32) (l4 : Int32) : Option (Int32 × RS) := m_find_b0 F σ l1 l2 l3 l4
theorem m_find_ok {pF : Nat → List Value → xH → Option (Option Value × xH)} (hp0 : xNP pF) {d : Nat} {aR : Nat} {G : Nat → xC} {T : Nat × Nat} {σ : RS} {F : Nat} {l1 : Int32} {l2 : Int32} {l3 : Int32} {l4 : Int32} {res : Int32 × RS} (h : m_find F σ l1 l2 l3 l4 = some res) : xCo pF (d + 4) 281 [.ref aR, .int l1, .int l2, .int l3, .int l4] (layR aR σ G, T) (some (.int res.1)) (layR aR res.2 G, T) := by
  unfold m_find at h
  exact xCo_R kk_281 mo_281 ni_281 xm_281 (Nat.le_of_ble_eq_true rfl) (hp0 _ (by decide) (by decide) _ _) (m_find_b0_ok hp0 _ σ l1 l2 l3 l4 rfl rfl rfl rfl rfl _ h)
/-! say (353), depth 1 -/
def m_say  (σ : RS) (l1 : Int32) : Option (RS) :=
  (rst σ 121 (σ.1 122 0) ((l1.toInt8.toInt32).toInt8.toInt32)).bind fun σ1 =>
  (some (setI σ1 122 0 ((σ1.1 122 0) + ((1 : Int32))))).bind fun σ3 =>
  some σ3
set_option maxRecDepth 4000 in
theorem m_say_run {pF : Nat → List Value → xH → Option (Option Value × xH)} {d : Nat} {aR : Nat} {G : Nat → xC} {T : Nat × Nat} (hp0 : xNP pF)  : ∀ (lv : xL) (σ : RS) (l1 : Int32), xg lv 0 = some (.ref aR) → xg lv 1 = some (.int l1) → ∀ res, m_say  σ l1 = some res → xR pF (d + 0) kT353 16 2 false none none (layR aR res G, T) (0, lv, [], (layR aR σ G, T)) := by
  intro lv σ l1 g0 g1 res h
  unfold m_say at h
  refine eE_aload_n lk353_0 g0 ?_
  refine eR_getA lk353_1 rf_327 rfl ?_
  refine eE_aload_n lk353_4 g0 ?_
  refine eR_get lk353_5 rf_570 rfl ?_
  refine eE_iload_n lk353_8 g1 ?_
  refine eE_i2b lk353_9 ?_
  obtain ⟨σ1, h2, h⟩ := Option.bind_eq_some_iff.mp h
  refine eR_bast lk353_10 rfl rfl rfl h2 ?_
  refine eE_aload_n lk353_11 g0 ?_
  refine eE_dup lk353_12 rfl ?_
  refine eR_get lk353_13 rf_570 rfl ?_
  refine eE_iconst (v := 1) lk353_16 (by decide) ?_
  refine eE_iadd lk353_17 ?_
  obtain ⟨σ3, h4, h⟩ := Option.bind_eq_some_iff.mp h
  refine eR_putS lk353_18 rf_570 rfl (by decide) pf_122.1 pf_122.2 h4 ?_
  cases h
  exact eE_end lk353_21 rfl rfl rfl
theorem m_say_ok {pF : Nat → List Value → xH → Option (Option Value × xH)} (hp0 : xNP pF) {d : Nat} {aR : Nat} {G : Nat → xC} {T : Nat × Nat} {σ : RS} {l1 : Int32} {res : RS} (h : m_say σ l1 = some res) : xCo pF (d + 1) 353 [.ref aR, .int l1] (layR aR σ G, T) none (layR aR res G, T) := by
  exact xCo_R kk_353 mo_353 ni_353 xm_353 (Nat.le_of_ble_eq_true rfl) (hp0 _ (by decide) (by decide) _ _) (m_say_run hp0 _ σ l1 rfl rfl _ h)
/-! tellValue (371), depth 1 -/
def m_tellValue_b2 (F : Nat)  : Nat → RS → Int32 → Int32 → Option (RS)
  | 0, _, _, _ => none
  | n + 1, σ, l1, l2 =>
    let KK := m_tellValue_b2 F  n
    (rld σ 115 l1).bind fun x1 =>
    if xc2 .ge l2 x1 = true then (
      (rld σ 115 l1).bind fun x4 =>
      (some (setI σ 122 0 ((σ.1 122 0) + x4))).bind fun σ6 =>
      some σ6
    ) else (
      (rld σ 117 ((((100 : Int32)) * l1) + l2)).bind fun x8 =>
      (rst σ 121 ((σ.1 122 0) + l2) (x8.toInt8.toInt32)).bind fun σ10 =>
      KK σ10 l1 (l2 + (1 : Int32))
    )
set_option maxRecDepth 4000 in
theorem m_tellValue_b2_ok {pF : Nat → List Value → xH → Option (Option Value × xH)} {d : Nat} {aR : Nat} {G : Nat → xC} {T : Nat × Nat} {F : Nat} (hp0 : xNP pF)  : ∀ (n : Nat) (lv : xL) (σ : RS) (l1 : Int32) (l2 : Int32), xg lv 0 = some (.ref aR) → xg lv 1 = some (.int l1) → xg lv 2 = some (.int l2) → ∀ res, m_tellValue_b2 F  n σ l1 l2 = some res → xR pF (d + 0) kT371 16 3 false none none (layR aR res G, T) (2, lv, [], (layR aR σ G, T)) := by
  intro n
  induction n with
  | zero => intro lv σ l1 l2 g0 g1 g2 res h; simp [m_tellValue_b2] at h
  | succ n hKK =>
    intro lv σ l1 l2 g0 g1 g2 res h
    unfold m_tellValue_b2 at h
    dsimp only at h
    refine eE_iload_n lk371_2 g2 ?_
    refine eE_aload_n lk371_3 g0 ?_
    refine eR_getA lk371_4 rf_311 rfl ?_
    refine eE_iload_n lk371_7 g1 ?_
    obtain ⟨x1, h2, h⟩ := Option.bind_eq_some_iff.mp h
    refine eR_iald lk371_8 rfl rfl h2 ?_
    refine eE_icmp (t := 40) lk371_9 (by decide) (fun c3 => ?_) (fun c3 => ?_)
    · rw [if_pos c3] at h
      refine eE_aload_n lk371_40 g0 ?_
      refine eE_dup lk371_41 rfl ?_
      refine eR_get lk371_42 rf_570 rfl ?_
      refine eE_aload_n lk371_45 g0 ?_
      refine eR_getA lk371_46 rf_311 rfl ?_
      refine eE_iload_n lk371_49 g1 ?_
      obtain ⟨x4, h5, h⟩ := Option.bind_eq_some_iff.mp h
      refine eR_iald lk371_50 rfl rfl h5 ?_
      refine eE_iadd lk371_51 ?_
      obtain ⟨σ6, h7, h⟩ := Option.bind_eq_some_iff.mp h
      refine eR_putS lk371_52 rf_570 rfl (by decide) pf_122.1 pf_122.2 h7 ?_
      cases h
      exact eE_end lk371_55 rfl rfl rfl
    · rw [if_neg c3] at h
      refine eE_aload_n lk371_12 g0 ?_
      refine eR_getA lk371_13 rf_327 rfl ?_
      refine eE_aload_n lk371_16 g0 ?_
      refine eR_get lk371_17 rf_570 rfl ?_
      refine eE_iload_n lk371_20 g2 ?_
      refine eE_iadd lk371_21 ?_
      refine eE_aload_n lk371_22 g0 ?_
      refine eR_getA lk371_23 rf_318 rfl ?_
      refine eE_bipush (v := 100) lk371_26 (by decide) ?_
      refine eE_iload_n lk371_28 g1 ?_
      refine eE_imul lk371_29 ?_
      refine eE_iload_n lk371_30 g2 ?_
      refine eE_iadd lk371_31 ?_
      obtain ⟨x8, h9, h⟩ := Option.bind_eq_some_iff.mp h
      refine eR_bald lk371_32 rfl (Or.inl rfl) h9 ?_
      obtain ⟨σ10, h11, h⟩ := Option.bind_eq_some_iff.mp h
      refine eR_bast lk371_33 rfl rfl rfl h11 ?_
      refine eE_inc (j := 2) (v := l2 + (1 : Int32)) lk371_34 g2 rfl (by decide) (fun vq12 gq13 kq14 => ?_)
      have gq15 := kq14 1 _ (by decide) (fun _ => rfl) g1
      have gq16 := kq14 0 _ (by decide) (fun _ => rfl) g0
      refine eE_goto (t := 2) lk371_37 (by decide) ?_
      exact hKK vq12 σ10 l1 (l2 + (1 : Int32)) gq16 gq15 gq13 _ h
def m_tellValue_b0 (F : Nat)  (σ : RS) (l1 : Int32) : Option (RS) :=
  m_tellValue_b2 F  F σ l1 ((0 : Int32))
set_option maxRecDepth 4000 in
theorem m_tellValue_b0_ok {pF : Nat → List Value → xH → Option (Option Value × xH)} {d : Nat} {aR : Nat} {G : Nat → xC} {T : Nat × Nat} {F : Nat} (hp0 : xNP pF)  : ∀ (lv : xL) (σ : RS) (l1 : Int32), xg lv 0 = some (.ref aR) → xg lv 1 = some (.int l1) → ∀ res, m_tellValue_b0 F  σ l1 = some res → xR pF (d + 0) kT371 16 3 false none none (layR aR res G, T) (0, lv, [], (layR aR σ G, T)) := by
  intro lv σ l1 g0 g1 res h
  unfold m_tellValue_b0 at h
  refine eE_iconst (v := 0) lk371_0 (by decide) ?_
  refine eE_stI (j := 2) lk371_1 (Or.inr ⟨_, rfl, rfl⟩) (by decide) (fun vq17 gq18 kq19 => ?_)
  have gq20 := kq19 1 _ (by decide) (fun _ => rfl) g1
  have gq21 := kq19 0 _ (by decide) (fun _ => rfl) g0
  exact m_tellValue_b2_ok hp0  F vq17 σ l1 ((0 : Int32)) gq21 gq20 gq18 _ h
def m_tellValue (F : Nat) (σ : RS) (l1 : Int32) : Option (RS) := m_tellValue_b0 F σ l1
theorem m_tellValue_ok {pF : Nat → List Value → xH → Option (Option Value × xH)} (hp0 : xNP pF) {d : Nat} {aR : Nat} {G : Nat → xC} {T : Nat × Nat} {σ : RS} {F : Nat} {l1 : Int32} {res : RS} (h : m_tellValue F σ l1 = some res) : xCo pF (d + 1) 371 [.ref aR, .int l1] (layR aR σ G, T) none (layR aR res G, T) := by
  unfold m_tellValue at h
  exact xCo_R kk_371 mo_371 ni_371 xm_371 (Nat.le_of_ble_eq_true rfl) (hp0 _ (by decide) (by decide) _ _) (m_tellValue_b0_ok hp0 _ σ l1 rfl rfl _ h)
/-! query (342), depth 5 -/
def m_query_b264 (F : Nat)  (σ : RS) : Option (RS) :=
  some σ
set_option maxRecDepth 4000 in
theorem m_query_b264_ok {pF : Nat → List Value → xH → Option (Option Value × xH)} {d : Nat} {aR : Nat} {G : Nat → xC} {T : Nat × Nat} {F : Nat} (hp0 : xNP pF)  : ∀ (lv : xL) (σ : RS), xg lv 0 = some (.ref aR) → ∀ res, m_query_b264 F  σ = some res → xR pF (d + 4) kT342 16 8 false none none (layR aR res G, T) (264, lv, [], (layR aR σ G, T)) := by
  intro lv σ g0 res h
  unfold m_query_b264 at h
  cases h
  exact eE_end lk342_264 rfl rfl rfl
def m_query_b90 (F : Nat)  (σ : RS) : Option (RS) :=
  m_query_b264 F  σ
set_option maxRecDepth 4000 in
theorem m_query_b90_ok {pF : Nat → List Value → xH → Option (Option Value × xH)} {d : Nat} {aR : Nat} {G : Nat → xC} {T : Nat × Nat} {F : Nat} (hp0 : xNP pF)  : ∀ (lv : xL) (σ : RS), xg lv 0 = some (.ref aR) → ∀ res, m_query_b90 F  σ = some res → xR pF (d + 4) kT342 16 8 false none none (layR aR res G, T) (90, lv, [], (layR aR σ G, T)) := by
  intro lv σ g0 res h
  unfold m_query_b90 at h
  refine eE_goto (t := 264) lk342_90 (by decide) ?_
  exact m_query_b264_ok hp0  lv σ g0 _ h
def m_query_b76 (F : Nat)  (σ : RS) (s1 : Int32) (l6 : Int32) : Option (RS) :=
  (m_say σ s1).bind fun p1 =>
  if xc0 .lt l6 = true then (
    m_query_b90 F  p1
  ) else (
    (m_tellValue F p1 l6).bind fun p4 =>
    m_query_b90 F  p4
  )
set_option maxRecDepth 4000 in
theorem m_query_b76_ok {pF : Nat → List Value → xH → Option (Option Value × xH)} {d : Nat} {aR : Nat} {G : Nat → xC} {T : Nat × Nat} {F : Nat} (hp0 : xNP pF)  : ∀ (lv : xL) (σ : RS) (s1 : Int32) (l6 : Int32), xg lv 0 = some (.ref aR) → xg lv 6 = some (.int l6) → ∀ res, m_query_b76 F  σ s1 l6 = some res → xR pF (d + 4) kT342 16 8 false none none (layR aR res G, T) (76, lv, [.int s1, .ref aR], (layR aR σ G, T)) := by
  intro lv σ s1 l6 g0 g6 res h
  unfold m_query_b76 at h
  obtain ⟨p1, h2, h⟩ := Option.bind_eq_some_iff.mp h
  refine eR_call (as := [.int s1]) lk342_76 mr_579 na_353 rfl rfl (Nat.le_of_ble_eq_true rfl) wv_353 wc_353 (m_say_ok hp0 (d := d + 3) h2) ?_
  refine eE_iload lk342_79 g6 ?_
  refine eE_if (t := 90) lk342_81 (by decide) (fun c3 => ?_) (fun c3 => ?_)
  · rw [if_pos c3] at h
    exact m_query_b90_ok hp0  lv p1 g0 _ h
  · rw [if_neg c3] at h
    refine eE_aload_n lk342_84 g0 ?_
    refine eE_iload lk342_85 g6 ?_
    obtain ⟨p4, h5, h⟩ := Option.bind_eq_some_iff.mp h
    refine eR_call (as := [.int l6]) lk342_87 mr_582 na_371 rfl rfl (Nat.le_of_ble_eq_true rfl) wv_371 wc_371 (m_tellValue_ok hp0 (d := d + 3) h5) ?_
    exact m_query_b90_ok hp0  lv p4 g0 _ h
def m_query_b140 (F : Nat)  (σ : RS) (s0 : Int32) : Option (RS) :=
  (m_say σ (s0 &&& ((255 : Int32)))).bind fun p10 =>
  (m_say p10 (s0 >>> (((8 : Int32)) &&& 31))).bind fun p12 =>
  m_query_b264 F  p12
set_option maxRecDepth 4000 in
theorem m_query_b140_ok {pF : Nat → List Value → xH → Option (Option Value × xH)} {d : Nat} {aR : Nat} {G : Nat → xC} {T : Nat × Nat} {F : Nat} (hp0 : xNP pF)  : ∀ (lv : xL) (σ : RS) (s0 : Int32), xg lv 0 = some (.ref aR) → ∀ res, m_query_b140 F  σ s0 = some res → xR pF (d + 4) kT342 16 8 false none none (layR aR res G, T) (140, lv, [.int s0], (layR aR σ G, T)) := by
  intro lv σ s0 g0 res h
  unfold m_query_b140 at h
  refine eE_stI (j := 7) lk342_140 (Or.inl rfl) (by decide) (fun vq6 gq7 kq8 => ?_)
  have gq9 := kq8 0 _ (by decide) (fun _ => rfl) g0
  refine eE_aload_n lk342_142 gq9 ?_
  refine eE_iload lk342_143 gq7 ?_
  refine eE_sipush (v := 255) lk342_145 (by decide) ?_
  refine eE_iand lk342_148 ?_
  obtain ⟨p10, h11, h⟩ := Option.bind_eq_some_iff.mp h
  refine eR_call (as := [.int (s0 &&& ((255 : Int32)))]) lk342_149 mr_579 na_353 rfl rfl (Nat.le_of_ble_eq_true rfl) wv_353 wc_353 (m_say_ok hp0 (d := d + 3) h11) ?_
  refine eE_aload_n lk342_152 gq9 ?_
  refine eE_iload lk342_153 gq7 ?_
  refine eE_bipush (v := 8) lk342_155 (by decide) ?_
  refine eE_ishr lk342_157 ?_
  obtain ⟨p12, h13, h⟩ := Option.bind_eq_some_iff.mp h
  refine eR_call (as := [.int (s0 >>> (((8 : Int32)) &&& 31))]) lk342_158 mr_579 na_353 rfl rfl (Nat.le_of_ble_eq_true rfl) wv_353 wc_353 (m_say_ok hp0 (d := d + 3) h13) ?_
  refine eE_goto (t := 264) lk342_161 (by decide) ?_
  exact m_query_b264_ok hp0  vq6 p12 gq9 _ h
def m_query_b223 (F : Nat)  : Nat → RS → Int32 → Int32 → Option (RS)
  | 0, _, _, _ => none
  | n + 1, σ, l6, l7 =>
    let KK := m_query_b223 F  n
    (rld σ 114 l6).bind fun x14 =>
    if xc2 .ge l7 x14 = true then (
      (m_tellValue F σ l6).bind fun p17 =>
      m_query_b264 F  p17
    ) else (
      (rld σ 116 ((((32 : Int32)) * l6) + l7)).bind fun x19 =>
      (m_say σ x19).bind fun p21 =>
      KK p21 l6 (l7 + (1 : Int32))
    )
set_option maxRecDepth 4000 in
theorem m_query_b223_ok {pF : Nat → List Value → xH → Option (Option Value × xH)} {d : Nat} {aR : Nat} {G : Nat → xC} {T : Nat × Nat} {F : Nat} (hp0 : xNP pF)  : ∀ (n : Nat) (lv : xL) (σ : RS) (l6 : Int32) (l7 : Int32), xg lv 0 = some (.ref aR) → xg lv 6 = some (.int l6) → xg lv 7 = some (.int l7) → ∀ res, m_query_b223 F  n σ l6 l7 = some res → xR pF (d + 4) kT342 16 8 false none none (layR aR res G, T) (223, lv, [], (layR aR σ G, T)) := by
  intro n
  induction n with
  | zero => intro lv σ l6 l7 g0 g6 g7 res h; simp [m_query_b223] at h
  | succ n hKK =>
    intro lv σ l6 l7 g0 g6 g7 res h
    unfold m_query_b223 at h
    dsimp only at h
    refine eE_iload lk342_223 g7 ?_
    refine eE_aload_n lk342_225 g0 ?_
    refine eR_getA lk342_226 rf_308 rfl ?_
    refine eE_iload lk342_229 g6 ?_
    obtain ⟨x14, h15, h⟩ := Option.bind_eq_some_iff.mp h
    refine eR_iald lk342_231 rfl rfl h15 ?_
    refine eE_icmp (t := 258) lk342_232 (by decide) (fun c16 => ?_) (fun c16 => ?_)
    · rw [if_pos c16] at h
      refine eE_aload_n lk342_258 g0 ?_
      refine eE_iload lk342_259 g6 ?_
      obtain ⟨p17, h18, h⟩ := Option.bind_eq_some_iff.mp h
      refine eR_call (as := [.int l6]) lk342_261 mr_582 na_371 rfl rfl (Nat.le_of_ble_eq_true rfl) wv_371 wc_371 (m_tellValue_ok hp0 (d := d + 3) h18) ?_
      exact m_query_b264_ok hp0  lv p17 g0 _ h
    · rw [if_neg c16] at h
      refine eE_aload_n lk342_235 g0 ?_
      refine eE_aload_n lk342_236 g0 ?_
      refine eR_getA lk342_237 rf_314 rfl ?_
      refine eE_bipush (v := 32) lk342_240 (by decide) ?_
      refine eE_iload lk342_242 g6 ?_
      refine eE_imul lk342_244 ?_
      refine eE_iload lk342_245 g7 ?_
      refine eE_iadd lk342_247 ?_
      obtain ⟨x19, h20, h⟩ := Option.bind_eq_some_iff.mp h
      refine eR_bald lk342_248 rfl (Or.inl rfl) h20 ?_
      obtain ⟨p21, h22, h⟩ := Option.bind_eq_some_iff.mp h
      refine eR_call (as := [.int x19]) lk342_249 mr_579 na_353 rfl rfl (Nat.le_of_ble_eq_true rfl) wv_353 wc_353 (m_say_ok hp0 (d := d + 3) h22) ?_
      refine eE_inc (j := 7) (v := l7 + (1 : Int32)) lk342_252 g7 rfl (by decide) (fun vq23 gq24 kq25 => ?_)
      have gq26 := kq25 6 _ (by decide) (fun _ => rfl) g6
      have gq27 := kq25 0 _ (by decide) (fun _ => rfl) g0
      refine eE_goto (t := 223) lk342_255 (by decide) ?_
      exact hKK vq23 p21 l6 (l7 + (1 : Int32)) gq27 gq26 gq24 _ h
def m_query_b0 (F : Nat)  (σ : RS) (l1 : Int32) (l2 : Int32) : Option (RS) :=
  (some (setI σ 122 0 ((0 : Int32)))).bind fun σ28 =>
  (rld σ28 76 l1).bind fun x30 =>
  (some (setI σ28 123 0 x30)).bind fun σ32 =>
  (some (setI σ32 120 0 ((0 : Int32)))).bind fun σ34 =>
  (rld σ34 103 l2).bind fun x42 =>
  (m_rank F σ34 l1 ((1 : Int32)) (((64 : Int32)) * l2) x42).bind fun p51 =>
  (rld p51.2 102 l2).bind fun x61 =>
  if xc2 .ne x61 ((3 : Int32)) = true then (
    (rld p51.2 102 l2).bind fun x64 =>
    if xc2 .ne x64 ((4 : Int32)) = true then (
      (rld p51.2 113 l1).bind fun x67 =>
      if xc2 .ne p51.1 x67 = true then (
        (rld p51.2 118 ((((128 : Int32)) * l1) + p51.1)).bind fun x70 =>
        (m_say p51.2 ((1 : Int32))).bind fun p76 =>
        (rld p76 114 ((((128 : Int32)) * l1) + x70)).bind fun x78 =>
        (m_say p76 x78).bind fun p80 =>
        m_query_b223 F  F p80 ((((128 : Int32)) * l1) + x70) ((0 : Int32))
      ) else (
        (m_say p51.2 ((0 : Int32))).bind fun p87 =>
        m_query_b264 F  p87
      )
    ) else (
      (rld p51.2 104 l2).bind fun x89 =>
      (m_rank F p51.2 l1 ((1 : Int32)) ((((64 : Int32)) * l2) + x42) (x89 - x42)).bind fun p91 =>
      if xc2 .le p91.1 p51.1 = true then (
        m_query_b140 F  p91.2 ((0 : Int32))
      ) else (
        m_query_b140 F  p91.2 (p91.1 - p51.1)
      )
    )
  ) else (
    (m_find F p51.2 l1 ((1 : Int32)) (((64 : Int32)) * l2) x42).bind fun p99 =>
    if xc0 .ge p99.1 = true then (
      m_query_b76 F  p99.2 ((1 : Int32)) (p99.1)
    ) else (
      m_query_b76 F  p99.2 ((0 : Int32)) (p99.1)
    )
  )
set_option maxRecDepth 4000 in
theorem m_query_b0_ok {pF : Nat → List Value → xH → Option (Option Value × xH)} {d : Nat} {aR : Nat} {G : Nat → xC} {T : Nat × Nat} {F : Nat} (hp0 : xNP pF)  : ∀ (lv : xL) (σ : RS) (l1 : Int32) (l2 : Int32), xg lv 0 = some (.ref aR) → xg lv 1 = some (.int l1) → xg lv 2 = some (.int l2) → ∀ res, m_query_b0 F  σ l1 l2 = some res → xR pF (d + 4) kT342 16 8 false none none (layR aR res G, T) (0, lv, [], (layR aR σ G, T)) := by
  intro lv σ l1 l2 g0 g1 g2 res h
  unfold m_query_b0 at h
  refine eE_aload_n lk342_0 g0 ?_
  refine eE_iconst (v := 0) lk342_1 (by decide) ?_
  obtain ⟨σ28, h29, h⟩ := Option.bind_eq_some_iff.mp h
  refine eR_putS lk342_2 rf_570 rfl (by decide) pf_122.1 pf_122.2 h29 ?_
  refine eE_aload_n lk342_5 g0 ?_
  refine eE_aload_n lk342_6 g0 ?_
  refine eR_getA lk342_7 rf_194 rfl ?_
  refine eE_iload_n lk342_10 g1 ?_
  obtain ⟨x30, h31, h⟩ := Option.bind_eq_some_iff.mp h
  refine eR_iald lk342_11 rfl rfl h31 ?_
  obtain ⟨σ32, h33, h⟩ := Option.bind_eq_some_iff.mp h
  refine eR_putS lk342_12 rf_595 rfl (by decide) pf_123.1 pf_123.2 h33 ?_
  refine eE_aload_n lk342_15 g0 ?_
  refine eE_iconst (v := 0) lk342_16 (by decide) ?_
  obtain ⟨σ34, h35, h⟩ := Option.bind_eq_some_iff.mp h
  refine eR_putS lk342_17 rf_598 rfl (by decide) pf_120.1 pf_120.2 h35 ?_
  refine eE_bipush (v := 64) lk342_20 (by decide) ?_
  refine eE_iload_n lk342_22 g2 ?_
  refine eE_imul lk342_23 ?_
  refine eE_stI (j := 3) lk342_24 (Or.inr ⟨_, rfl, rfl⟩) (by decide) (fun vq36 gq37 kq38 => ?_)
  have gq39 := kq38 1 _ (by decide) (fun _ => rfl) g1
  have gq40 := kq38 2 _ (by decide) (fun _ => rfl) g2
  have gq41 := kq38 0 _ (by decide) (fun _ => rfl) g0
  refine eE_aload_n lk342_25 gq41 ?_
  refine eR_getA lk342_26 rf_275 rfl ?_
  refine eE_iload_n lk342_29 gq40 ?_
  obtain ⟨x42, h43, h⟩ := Option.bind_eq_some_iff.mp h
  refine eR_iald lk342_30 rfl rfl h43 ?_
  refine eE_stI (j := 4) lk342_31 (Or.inl rfl) (by decide) (fun vq44 gq45 kq46 => ?_)
  have gq47 := kq46 1 _ (by decide) (fun _ => rfl) gq39
  have gq48 := kq46 2 _ (by decide) (fun _ => rfl) gq40
  have gq49 := kq46 0 _ (by decide) (fun _ => rfl) gq41
  have gq50 := kq46 3 _ (by decide) (fun _ => rfl) gq37
  refine eE_aload_n lk342_33 gq49 ?_
  refine eE_iload_n lk342_34 gq47 ?_
  refine eE_iconst (v := 1) lk342_35 (by decide) ?_
  refine eE_iload_n lk342_36 gq50 ?_
  refine eE_iload lk342_37 gq45 ?_
  obtain ⟨p51, h52, h⟩ := Option.bind_eq_some_iff.mp h
  refine eR_call (as := [.int l1, .int ((1 : Int32)), .int (((64 : Int32)) * l2), .int x42]) lk342_39 mr_567 na_343 rfl rfl (Nat.le_of_ble_eq_true rfl) wv_343 wc_343 (m_rank_ok hp0 (d := d + 1) h52) ?_
  refine eE_stI (j := 5) lk342_42 (Or.inl rfl) (by decide) (fun vq53 gq54 kq55 => ?_)
  have gq56 := kq55 1 _ (by decide) (fun _ => rfl) gq47
  have gq57 := kq55 2 _ (by decide) (fun _ => rfl) gq48
  have gq58 := kq55 0 _ (by decide) (fun _ => rfl) gq49
  have gq59 := kq55 3 _ (by decide) (fun _ => rfl) gq50
  have gq60 := kq55 4 _ (by decide) (fun _ => rfl) gq45
  refine eE_aload_n lk342_44 gq58 ?_
  refine eR_getA lk342_45 rf_272 rfl ?_
  refine eE_iload_n lk342_48 gq57 ?_
  obtain ⟨x61, h62, h⟩ := Option.bind_eq_some_iff.mp h
  refine eR_iald lk342_49 rfl rfl h62 ?_
  refine eE_iconst (v := 3) lk342_50 (by decide) ?_
  refine eE_icmp (t := 93) lk342_51 (by decide) (fun c63 => ?_) (fun c63 => ?_)
  · rw [if_pos c63] at h
    refine eE_aload_n lk342_93 gq58 ?_
    refine eR_getA lk342_94 rf_272 rfl ?_
    refine eE_iload_n lk342_97 gq57 ?_
    obtain ⟨x64, h65, h⟩ := Option.bind_eq_some_iff.mp h
    refine eR_iald lk342_98 rfl rfl h65 ?_
    refine eE_iconst (v := 4) lk342_99 (by decide) ?_
    refine eE_icmp (t := 164) lk342_100 (by decide) (fun c66 => ?_) (fun c66 => ?_)
    · rw [if_pos c66] at h
      refine eE_iload lk342_164 gq54 ?_
      refine eE_aload_n lk342_166 gq58 ?_
      refine eR_getA lk342_167 rf_305 rfl ?_
      refine eE_iload_n lk342_170 gq56 ?_
      obtain ⟨x67, h68, h⟩ := Option.bind_eq_some_iff.mp h
      refine eR_iald lk342_171 rfl rfl h68 ?_
      refine eE_icmp (t := 183) lk342_172 (by decide) (fun c69 => ?_) (fun c69 => ?_)
      · rw [if_pos c69] at h
        refine eE_sipush (v := 128) lk342_183 (by decide) ?_
        refine eE_iload_n lk342_186 gq56 ?_
        refine eE_imul lk342_187 ?_
        refine eE_aload_n lk342_188 gq58 ?_
        refine eR_getA lk342_189 rf_321 rfl ?_
        refine eE_sipush (v := 128) lk342_192 (by decide) ?_
        refine eE_iload_n lk342_195 gq56 ?_
        refine eE_imul lk342_196 ?_
        refine eE_iload lk342_197 gq54 ?_
        refine eE_iadd lk342_199 ?_
        obtain ⟨x70, h71, h⟩ := Option.bind_eq_some_iff.mp h
        refine eR_iald lk342_200 rfl rfl h71 ?_
        refine eE_iadd lk342_201 ?_
        refine eE_stI (j := 6) lk342_202 (Or.inl rfl) (by decide) (fun vq72 gq73 kq74 => ?_)
        have gq75 := kq74 0 _ (by decide) (fun _ => rfl) gq58
        refine eE_aload_n lk342_204 gq75 ?_
        refine eE_iconst (v := 1) lk342_205 (by decide) ?_
        obtain ⟨p76, h77, h⟩ := Option.bind_eq_some_iff.mp h
        refine eR_call (as := [.int ((1 : Int32))]) lk342_206 mr_579 na_353 rfl rfl (Nat.le_of_ble_eq_true rfl) wv_353 wc_353 (m_say_ok hp0 (d := d + 3) h77) ?_
        refine eE_aload_n lk342_209 gq75 ?_
        refine eE_aload_n lk342_210 gq75 ?_
        refine eR_getA lk342_211 rf_308 rfl ?_
        refine eE_iload lk342_214 gq73 ?_
        obtain ⟨x78, h79, h⟩ := Option.bind_eq_some_iff.mp h
        refine eR_iald lk342_216 rfl rfl h79 ?_
        obtain ⟨p80, h81, h⟩ := Option.bind_eq_some_iff.mp h
        refine eR_call (as := [.int x78]) lk342_217 mr_579 na_353 rfl rfl (Nat.le_of_ble_eq_true rfl) wv_353 wc_353 (m_say_ok hp0 (d := d + 3) h81) ?_
        refine eE_iconst (v := 0) lk342_220 (by decide) ?_
        refine eE_stI (j := 7) lk342_221 (Or.inl rfl) (by decide) (fun vq82 gq83 kq84 => ?_)
        have gq85 := kq84 0 _ (by decide) (fun _ => rfl) gq75
        have gq86 := kq84 6 _ (by decide) (fun _ => rfl) gq73
        exact m_query_b223_ok hp0  F vq82 p80 ((((128 : Int32)) * l1) + x70) ((0 : Int32)) gq85 gq86 gq83 _ h
      · rw [if_neg c69] at h
        refine eE_aload_n lk342_175 gq58 ?_
        refine eE_iconst (v := 0) lk342_176 (by decide) ?_
        obtain ⟨p87, h88, h⟩ := Option.bind_eq_some_iff.mp h
        refine eR_call (as := [.int ((0 : Int32))]) lk342_177 mr_579 na_353 rfl rfl (Nat.le_of_ble_eq_true rfl) wv_353 wc_353 (m_say_ok hp0 (d := d + 3) h88) ?_
        refine eE_goto (t := 264) lk342_180 (by decide) ?_
        exact m_query_b264_ok hp0  vq53 p87 gq58 _ h
    · rw [if_neg c66] at h
      refine eE_aload_n lk342_103 gq58 ?_
      refine eE_iload_n lk342_104 gq56 ?_
      refine eE_iconst (v := 1) lk342_105 (by decide) ?_
      refine eE_iload_n lk342_106 gq59 ?_
      refine eE_iload lk342_107 gq60 ?_
      refine eE_iadd lk342_109 ?_
      refine eE_aload_n lk342_110 gq58 ?_
      refine eR_getA lk342_111 rf_278 rfl ?_
      refine eE_iload_n lk342_114 gq57 ?_
      obtain ⟨x89, h90, h⟩ := Option.bind_eq_some_iff.mp h
      refine eR_iald lk342_115 rfl rfl h90 ?_
      refine eE_iload lk342_116 gq60 ?_
      refine eE_isub lk342_118 ?_
      obtain ⟨p91, h92, h⟩ := Option.bind_eq_some_iff.mp h
      refine eR_call (as := [.int l1, .int ((1 : Int32)), .int ((((64 : Int32)) * l2) + x42), .int (x89 - x42)]) lk342_119 mr_567 na_343 rfl rfl (Nat.le_of_ble_eq_true rfl) wv_343 wc_343 (m_rank_ok hp0 (d := d + 1) h92) ?_
      refine eE_stI (j := 6) lk342_122 (Or.inl rfl) (by decide) (fun vq93 gq94 kq95 => ?_)
      have gq96 := kq95 0 _ (by decide) (fun _ => rfl) gq58
      have gq97 := kq95 5 _ (by decide) (fun _ => rfl) gq54
      refine eE_iload lk342_124 gq94 ?_
      refine eE_iload lk342_126 gq97 ?_
      refine eE_icmp (t := 139) lk342_128 (by decide) (fun c98 => ?_) (fun c98 => ?_)
      · rw [if_pos c98] at h
        refine eE_iconst (v := 0) lk342_139 (by decide) ?_
        exact m_query_b140_ok hp0  vq93 p91.2 ((0 : Int32)) gq96 _ h
      · rw [if_neg c98] at h
        refine eE_iload lk342_131 gq94 ?_
        refine eE_iload lk342_133 gq97 ?_
        refine eE_isub lk342_135 ?_
        refine eE_goto (t := 140) lk342_136 (by decide) ?_
        exact m_query_b140_ok hp0  vq93 p91.2 (p91.1 - p51.1) gq96 _ h
  · rw [if_neg c63] at h
    refine eE_aload_n lk342_54 gq58 ?_
    refine eE_iload_n lk342_55 gq56 ?_
    refine eE_iconst (v := 1) lk342_56 (by decide) ?_
    refine eE_iload_n lk342_57 gq59 ?_
    refine eE_iload lk342_58 gq60 ?_
    obtain ⟨p99, h100, h⟩ := Option.bind_eq_some_iff.mp h
    refine eR_call (as := [.int l1, .int ((1 : Int32)), .int (((64 : Int32)) * l2), .int x42]) lk342_60 mr_573 na_281 rfl rfl (Nat.le_of_ble_eq_true rfl) wv_281 wc_281 (m_find_ok hp0 (d := d + 0) h100) ?_
    refine eE_stI (j := 6) lk342_63 (Or.inl rfl) (by decide) (fun vq101 gq102 kq103 => ?_)
    have gq104 := kq103 0 _ (by decide) (fun _ => rfl) gq58
    refine eE_aload_n lk342_65 gq104 ?_
    refine eE_iload lk342_66 gq102 ?_
    refine eE_if (t := 75) lk342_68 (by decide) (fun c105 => ?_) (fun c105 => ?_)
    · rw [if_pos c105] at h
      refine eE_iconst (v := 1) lk342_75 (by decide) ?_
      exact m_query_b76_ok hp0  vq101 p99.2 ((1 : Int32)) (p99.1) gq104 gq102 _ h
    · rw [if_neg c105] at h
      refine eE_iconst (v := 0) lk342_71 (by decide) ?_
      refine eE_goto (t := 76) lk342_72 (by decide) ?_
      exact m_query_b76_ok hp0  vq101 p99.2 ((0 : Int32)) (p99.1) gq104 gq102 _ h
def m_query (F : Nat) (σ : RS) (l1 : Int32) (l2 : Int32) : Option (RS) := m_query_b0 F σ l1 l2
theorem m_query_ok {pF : Nat → List Value → xH → Option (Option Value × xH)} (hp0 : xNP pF) {d : Nat} {aR : Nat} {G : Nat → xC} {T : Nat × Nat} {σ : RS} {F : Nat} {l1 : Int32} {l2 : Int32} {res : RS} (h : m_query F σ l1 l2 = some res) : xCo pF (d + 5) 342 [.ref aR, .int l1, .int l2] (layR aR σ G, T) none (layR aR res G, T) := by
  unfold m_query at h
  exact xCo_R kk_342 mo_342 ni_342 xm_342 (Nat.le_of_ble_eq_true rfl) (hp0 _ (by decide) (by decide) _ _) (m_query_b0_ok hp0 _ σ l1 l2 rfl rfl rfl _ h)
