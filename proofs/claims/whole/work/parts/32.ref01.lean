/-! printed by wip/whole/gen_ref.py -/
/-! alarm (241), depth 1 -/
def m_alarm  (σ : RS) (l1 : Int32) (l2 : Int32) : Option (RS) :=
  (rst σ 30 l1 l2).bind fun σ1 =>
  (rst σ1 29 l1 ((σ1.1 2 0))).bind fun σ3 =>
  (some (setI σ3 2 0 ((σ3.1 2 0) + ((1 : Int32))))).bind fun σ5 =>
  some σ5
set_option maxRecDepth 4000 in
theorem m_alarm_run {pF : Nat → List Value → xH → Option (Option Value × xH)} {d : Nat} {aR : Nat} {G : Nat → xC} {T : Nat × Nat} (hp0 : xNP pF)  : ∀ (lv : xL) (σ : RS) (l1 : Int32) (l2 : Int32), xg lv 0 = some (.ref aR) → xg lv 1 = some (.int l1) → xg lv 2 = some (.int l2) → ∀ res, m_alarm  σ l1 l2 = some res → xR pF (d + 0) kT241 16 3 false none none (layR aR res G, T) (0, lv, [], (layR aR σ G, T)) := by
  intro lv σ l1 l2 g0 g1 g2 res h
  unfold m_alarm at h
  refine eE_aload_n lk241_0 g0 ?_
  refine eR_getA lk241_1 rf_65 rfl ?_
  refine eE_iload_n lk241_4 g1 ?_
  refine eE_iload_n lk241_5 g2 ?_
  obtain ⟨σ1, h2, h⟩ := Option.bind_eq_some_iff.mp h
  refine eR_iast lk241_6 rfl rfl h2 ?_
  refine eE_aload_n lk241_7 g0 ?_
  refine eR_getA lk241_8 rf_62 rfl ?_
  refine eE_iload_n lk241_11 g1 ?_
  refine eE_aload_n lk241_12 g0 ?_
  refine eR_get lk241_13 rf_421 rfl ?_
  obtain ⟨σ3, h4, h⟩ := Option.bind_eq_some_iff.mp h
  refine eR_iast lk241_16 rfl rfl h4 ?_
  refine eE_aload_n lk241_17 g0 ?_
  refine eE_dup lk241_18 rfl ?_
  refine eR_get lk241_19 rf_421 rfl ?_
  refine eE_iconst (v := 1) lk241_22 (by decide) ?_
  refine eE_iadd lk241_23 ?_
  obtain ⟨σ5, h6, h⟩ := Option.bind_eq_some_iff.mp h
  refine eR_putS lk241_24 rf_421 rfl (by decide) pf_2.1 pf_2.2 h6 ?_
  cases h
  exact eE_end lk241_27 rfl rfl rfl
theorem m_alarm_ok {pF : Nat → List Value → xH → Option (Option Value × xH)} (hp0 : xNP pF) {d : Nat} {aR : Nat} {G : Nat → xC} {T : Nat × Nat} {σ : RS} {l1 : Int32} {l2 : Int32} {res : RS} (h : m_alarm σ l1 l2 = some res) : xCo pF (d + 1) 241 [.ref aR, .int l1, .int l2] (layR aR σ G, T) none (layR aR res G, T) := by
  exact xCo_R kk_241 mo_241 ni_241 xm_241 (Nat.le_of_ble_eq_true rfl) (hp0 _ (by decide) (by decide) _ _) (m_alarm_run hp0 _ σ l1 l2 rfl rfl rfl _ h)
/-! in (294), depth 1 -/
def m_in_b18  (s0 : Int32) : Option (Int32) :=
  if s0 = 0 ∨ s0 = 1 then some s0 else none
set_option maxRecDepth 4000 in
theorem m_in_b18_ok {pF : Nat → List Value → xH → Option (Option Value × xH)} {d : Nat} {hp : xH} (hp0 : xNP pF)  : ∀ (lv : xL) (s0 : Int32), ∀ res, m_in_b18  s0 = some res → xR pF (d + 0) kT294 16 6 false (some .boolean) (some (.int res)) hp (18, lv, [.int s0], hp) := by
  intro lv s0  res h
  unfold m_in_b18 at h
  by_cases z1 : s0 = 0 ∨ s0 = 1
  · rw [if_pos z1] at h; cases h
    exact eE_end lk294_18 rfl rfl (by simp only [xfin, if_true, if_pos z1])
  · rw [if_neg z1] at h; cases h
def m_in_b17   : Option (Int32) :=
  m_in_b18  ((0 : Int32))
set_option maxRecDepth 4000 in
theorem m_in_b17_ok {pF : Nat → List Value → xH → Option (Option Value × xH)} {d : Nat} {hp : xH} (hp0 : xNP pF)  : ∀ (lv : xL), ∀ res, m_in_b17   = some res → xR pF (d + 0) kT294 16 6 false (some .boolean) (some (.int res)) hp (17, lv, [], hp) := by
  intro lv   res h
  unfold m_in_b17 at h
  refine eE_iconst (v := 0) lk294_17 (by decide) ?_
  exact m_in_b18_ok hp0  lv ((0 : Int32))  _ h
def m_in_b0  (l0 : Int64) (l2 : Int64) (l4 : Int64) : Option (Int32) :=
  if xc0 .lt (lg_cmp l0 l2) = true then (
    m_in_b17  
  ) else (
    if xc0 .gt (lg_cmp l0 l4) = true then (
      m_in_b17  
    ) else (
      m_in_b18  ((1 : Int32))
    )
  )
set_option maxRecDepth 4000 in
theorem m_in_b0_ok {pF : Nat → List Value → xH → Option (Option Value × xH)} {d : Nat} {hp : xH} (hp0 : xNP pF)  : ∀ (lv : xL) (l0 : Int64) (l2 : Int64) (l4 : Int64), xg lv 0 = some (.long l0) → xg lv 2 = some (.long l2) → xg lv 4 = some (.long l4) → ∀ res, m_in_b0  l0 l2 l4 = some res → xR pF (d + 0) kT294 16 6 false (some .boolean) (some (.int res)) hp (0, lv, [], hp) := by
  intro lv l0 l2 l4 g0 g2 g4 res h
  unfold m_in_b0 at h
  refine eE_lload_n lk294_0 g0 ?_
  refine eE_lload_n lk294_1 g2 ?_
  refine eE_lcmp lk294_2 ?_
  refine eE_if (t := 17) lk294_3 (by decide) (fun c2 => ?_) (fun c2 => ?_)
  · rw [if_pos c2] at h
    exact m_in_b17_ok hp0  lv   _ h
  · rw [if_neg c2] at h
    refine eE_lload_n lk294_6 g0 ?_
    refine eE_lload lk294_7 g4 ?_
    refine eE_lcmp lk294_9 ?_
    refine eE_if (t := 17) lk294_10 (by decide) (fun c3 => ?_) (fun c3 => ?_)
    · rw [if_pos c3] at h
      exact m_in_b17_ok hp0  lv   _ h
    · rw [if_neg c3] at h
      refine eE_iconst (v := 1) lk294_13 (by decide) ?_
      refine eE_goto (t := 18) lk294_14 (by decide) ?_
      exact m_in_b18_ok hp0  lv ((1 : Int32))  _ h
def m_in (l0 : Int64) (l2 : Int64) (l4 : Int64) : Option (Int32) := m_in_b0 l0 l2 l4
theorem m_in_ok {pF : Nat → List Value → xH → Option (Option Value × xH)} (hp0 : xNP pF) {d : Nat} {hp : xH} {l0 : Int64} {l2 : Int64} {l4 : Int64} {res : Int32} (h : m_in l0 l2 l4 = some res) : xCo pF (d + 1) 294 [.long l0, .long l2, .long l4] hp (some (.int res)) hp := by
  unfold m_in at h
  exact xCo_R kk_294 mo_294 ni_294 xm_294 (Nat.le_of_ble_eq_true rfl) (hp0 _ (by decide) (by decide) _ _) (m_in_b0_ok hp0 _ l0 l2 l4 rfl rfl rfl _ h)
/-! size (359), depth 1 -/
def m_size_b4 (F : Nat)  : Nat → Int32 → Int32 → Int32 → Option (Int32)
  | 0, _, _, _ => none
  | n + 1, l0, l1, l2 =>
    let KK := m_size_b4 F  n
    if xc2 .ge l2 ((7 : Int32)) = true then (
      some l1
    ) else (
      KK l0 (l1 + ((l0 >>> (l2 &&& 31)) &&& ((1 : Int32)))) (l2 + (1 : Int32))
    )
set_option maxRecDepth 4000 in
theorem m_size_b4_ok {pF : Nat → List Value → xH → Option (Option Value × xH)} {d : Nat} {hp : xH} {F : Nat} (hp0 : xNP pF)  : ∀ (n : Nat) (lv : xL) (l0 : Int32) (l1 : Int32) (l2 : Int32), xg lv 0 = some (.int l0) → xg lv 1 = some (.int l1) → xg lv 2 = some (.int l2) → ∀ res, m_size_b4 F  n l0 l1 l2 = some res → xR pF (d + 0) kT359 16 3 false (some .int) (some (.int res)) hp (4, lv, [], hp) := by
  intro n
  induction n with
  | zero => intro lv l0 l1 l2 g0 g1 g2 res h; simp [m_size_b4] at h
  | succ n hKK =>
    intro lv l0 l1 l2 g0 g1 g2 res h
    unfold m_size_b4 at h
    dsimp only at h
    refine eE_iload_n lk359_4 g2 ?_
    refine eE_bipush (v := 7) lk359_5 (by decide) ?_
    refine eE_icmp (t := 24) lk359_7 (by decide) (fun c1 => ?_) (fun c1 => ?_)
    · rw [if_pos c1] at h
      refine eE_iload_n lk359_24 g1 ?_
      cases h
      exact eE_end lk359_25 rfl rfl rfl
    · rw [if_neg c1] at h
      refine eE_iload_n lk359_10 g1 ?_
      refine eE_iload_n lk359_11 g0 ?_
      refine eE_iload_n lk359_12 g2 ?_
      refine eE_ishr lk359_13 ?_
      refine eE_iconst (v := 1) lk359_14 (by decide) ?_
      refine eE_iand lk359_15 ?_
      refine eE_iadd lk359_16 ?_
      refine eE_stI (j := 1) lk359_17 (Or.inr ⟨_, rfl, rfl⟩) (by decide) (fun vq2 gq3 kq4 => ?_)
      have gq5 := kq4 0 _ (by decide) (fun _ => rfl) g0
      have gq6 := kq4 2 _ (by decide) (fun _ => rfl) g2
      refine eE_inc (j := 2) (v := l2 + (1 : Int32)) lk359_18 gq6 rfl (by decide) (fun vq7 gq8 kq9 => ?_)
      have gq10 := kq9 0 _ (by decide) (fun _ => rfl) gq5
      have gq11 := kq9 1 _ (by decide) (fun _ => rfl) gq3
      refine eE_goto (t := 4) lk359_21 (by decide) ?_
      exact hKK vq7 l0 (l1 + ((l0 >>> (l2 &&& 31)) &&& ((1 : Int32)))) (l2 + (1 : Int32)) gq10 gq11 gq8 _ h
def m_size_b0 (F : Nat)  (l0 : Int32) : Option (Int32) :=
  m_size_b4 F  F l0 ((0 : Int32)) ((0 : Int32))
set_option maxRecDepth 4000 in
theorem m_size_b0_ok {pF : Nat → List Value → xH → Option (Option Value × xH)} {d : Nat} {hp : xH} {F : Nat} (hp0 : xNP pF)  : ∀ (lv : xL) (l0 : Int32), xg lv 0 = some (.int l0) → ∀ res, m_size_b0 F  l0 = some res → xR pF (d + 0) kT359 16 3 false (some .int) (some (.int res)) hp (0, lv, [], hp) := by
  intro lv l0 g0 res h
  unfold m_size_b0 at h
  refine eE_iconst (v := 0) lk359_0 (by decide) ?_
  refine eE_stI (j := 1) lk359_1 (Or.inr ⟨_, rfl, rfl⟩) (by decide) (fun vq12 gq13 kq14 => ?_)
  have gq15 := kq14 0 _ (by decide) (fun _ => rfl) g0
  refine eE_iconst (v := 0) lk359_2 (by decide) ?_
  refine eE_stI (j := 2) lk359_3 (Or.inr ⟨_, rfl, rfl⟩) (by decide) (fun vq16 gq17 kq18 => ?_)
  have gq19 := kq18 0 _ (by decide) (fun _ => rfl) gq15
  have gq20 := kq18 1 _ (by decide) (fun _ => rfl) gq13
  exact m_size_b4_ok hp0  F vq16 l0 ((0 : Int32)) ((0 : Int32)) gq19 gq20 gq17 _ h
def m_size (F : Nat) (l0 : Int32) : Option (Int32) := m_size_b0 F l0
theorem m_size_ok {pF : Nat → List Value → xH → Option (Option Value × xH)} (hp0 : xNP pF) {d : Nat} {hp : xH} {F : Nat} {l0 : Int32} {res : Int32} (h : m_size F l0 = some res) : xCo pF (d + 1) 359 [.int l0] hp (some (.int res)) hp := by
  unfold m_size at h
  exact xCo_R kk_359 mo_359 ni_359 xm_359 (Nat.le_of_ble_eq_true rfl) (hp0 _ (by decide) (by decide) _ _) (m_size_b0_ok hp0 _ l0 rfl _ h)
/-! areParted (247), depth 1 -/
def m_areParted_b24  (σ : RS) (s0 : Int32) : Option (Int32 × RS) :=
  if s0 = 0 ∨ s0 = 1 then some (s0, σ) else none
set_option maxRecDepth 4000 in
theorem m_areParted_b24_ok {pF : Nat → List Value → xH → Option (Option Value × xH)} {d : Nat} {aR : Nat} {G : Nat → xC} {T : Nat × Nat} (hp0 : xNP pF)  : ∀ (lv : xL) (σ : RS) (s0 : Int32), xg lv 0 = some (.ref aR) → ∀ res, m_areParted_b24  σ s0 = some res → xR pF (d + 0) kT247 16 3 false (some .boolean) (some (.int res.1)) (layR aR res.2 G, T) (24, lv, [.int s0], (layR aR σ G, T)) := by
  intro lv σ s0 g0 res h
  unfold m_areParted_b24 at h
  by_cases z1 : s0 = 0 ∨ s0 = 1
  · rw [if_pos z1] at h; cases h
    exact eE_end lk247_24 rfl rfl (by simp only [xfin, if_true, if_pos z1])
  · rw [if_neg z1] at h; cases h
def m_areParted_b0  (σ : RS) (l1 : Int32) (l2 : Int32) : Option (Int32 × RS) :=
  if xc2 .eq (((σ.1 24 0) >>> (l1 &&& 31)) &&& ((1 : Int32))) (((σ.1 24 0) >>> (l2 &&& 31)) &&& ((1 : Int32))) = true then (
    m_areParted_b24  σ ((0 : Int32))
  ) else (
    m_areParted_b24  σ ((1 : Int32))
  )
set_option maxRecDepth 4000 in
theorem m_areParted_b0_ok {pF : Nat → List Value → xH → Option (Option Value × xH)} {d : Nat} {aR : Nat} {G : Nat → xC} {T : Nat × Nat} (hp0 : xNP pF)  : ∀ (lv : xL) (σ : RS) (l1 : Int32) (l2 : Int32), xg lv 0 = some (.ref aR) → xg lv 1 = some (.int l1) → xg lv 2 = some (.int l2) → ∀ res, m_areParted_b0  σ l1 l2 = some res → xR pF (d + 0) kT247 16 3 false (some .boolean) (some (.int res.1)) (layR aR res.2 G, T) (0, lv, [], (layR aR σ G, T)) := by
  intro lv σ l1 l2 g0 g1 g2 res h
  unfold m_areParted_b0 at h
  refine eE_aload_n lk247_0 g0 ?_
  refine eR_get lk247_1 rf_400 rfl ?_
  refine eE_iload_n lk247_4 g1 ?_
  refine eE_ishr lk247_5 ?_
  refine eE_iconst (v := 1) lk247_6 (by decide) ?_
  refine eE_iand lk247_7 ?_
  refine eE_aload_n lk247_8 g0 ?_
  refine eR_get lk247_9 rf_400 rfl ?_
  refine eE_iload_n lk247_12 g2 ?_
  refine eE_ishr lk247_13 ?_
  refine eE_iconst (v := 1) lk247_14 (by decide) ?_
  refine eE_iand lk247_15 ?_
  refine eE_icmp (t := 23) lk247_16 (by decide) (fun c2 => ?_) (fun c2 => ?_)
  · rw [if_pos c2] at h
    refine eE_iconst (v := 0) lk247_23 (by decide) ?_
    exact m_areParted_b24_ok hp0  lv σ ((0 : Int32)) g0 _ h
  · rw [if_neg c2] at h
    refine eE_iconst (v := 1) lk247_19 (by decide) ?_
    refine eE_goto (t := 24) lk247_20 (by decide) ?_
    exact m_areParted_b24_ok hp0  lv σ ((1 : Int32)) g0 _ h
def m_areParted (σ : RS) (l1 : Int32) (l2 : Int32) : Option (Int32 × RS) := m_areParted_b0 σ l1 l2
theorem m_areParted_ok {pF : Nat → List Value → xH → Option (Option Value × xH)} (hp0 : xNP pF) {d : Nat} {aR : Nat} {G : Nat → xC} {T : Nat × Nat} {σ : RS} {l1 : Int32} {l2 : Int32} {res : Int32 × RS} (h : m_areParted σ l1 l2 = some res) : xCo pF (d + 1) 247 [.ref aR, .int l1, .int l2] (layR aR σ G, T) (some (.int res.1)) (layR aR res.2 G, T) := by
  unfold m_areParted at h
  exact xCo_R kk_247 mo_247 ni_247 xm_247 (Nat.le_of_ble_eq_true rfl) (hp0 _ (by decide) (by decide) _ _) (m_areParted_b0_ok hp0 _ σ l1 l2 rfl rfl rfl _ h)
/-! draw (273), depth 1 -/
def m_draw  (σ : RS) (l1 : Int32) : Option (Int32 × RS) :=
  (some (setL σ 28 0 (((σ.2 28 0) * ((6364136223846793005 : Int64))) + ((1442695040888963407 : Int64))))).bind fun σ1 =>
  if (l1.toInt64) = 0 then none else
  some (((((σ1.2 28 0).toUInt64 >>> (((33 : Int32)).toInt64.toUInt64 &&& Int64.toUInt64 63)).toInt64) - (((σ1.2 28 0).toUInt64 >>> (((33 : Int32)).toInt64.toUInt64 &&& Int64.toUInt64 63)).toInt64) / (l1.toInt64) * (l1.toInt64)).toInt32, σ1)
set_option maxRecDepth 4000 in
theorem m_draw_run {pF : Nat → List Value → xH → Option (Option Value × xH)} {d : Nat} {aR : Nat} {G : Nat → xC} {T : Nat × Nat} (hp0 : xNP pF)  : ∀ (lv : xL) (σ : RS) (l1 : Int32), xg lv 0 = some (.ref aR) → xg lv 1 = some (.int l1) → ∀ res, m_draw  σ l1 = some res → xR pF (d + 0) kT273 16 2 false (some .int) (some (.int res.1)) (layR aR res.2 G, T) (0, lv, [], (layR aR σ G, T)) := by
  intro lv σ l1 g0 g1 res h
  unfold m_draw at h
  refine eE_aload_n lk273_0 g0 ?_
  refine eE_aload_n lk273_1 g0 ?_
  refine eR_getL lk273_2 rf_403 rfl ?_
  refine eE_ldc2_w (v := 6364136223846793005) lk273_5 xl_407 ?_
  refine eE_lmul lk273_8 ?_
  refine eE_ldc2_w (v := 1442695040888963407) lk273_9 xl_409 ?_
  refine eE_ladd lk273_12 ?_
  obtain ⟨σ1, h2, h⟩ := Option.bind_eq_some_iff.mp h
  refine eR_putLS lk273_13 rf_403 rfl (by decide) pf_28.1 pf_28.2 h2 ?_
  refine eE_aload_n lk273_16 g0 ?_
  refine eR_getL lk273_17 rf_403 rfl ?_
  refine eE_bipush (v := 33) lk273_20 (by decide) ?_
  refine eE_lushr lk273_22 ?_
  refine eE_iload_n lk273_23 g1 ?_
  refine eE_i2l lk273_24 ?_
  by_cases z3 : (l1.toInt64) = 0
  · rw [if_pos z3] at h; cases h
  rw [if_neg z3] at h
  refine eE_lrem lk273_25 z3 ?_
  refine eE_l2i lk273_26 ?_
  cases h
  exact eE_end lk273_27 rfl rfl rfl
theorem m_draw_ok {pF : Nat → List Value → xH → Option (Option Value × xH)} (hp0 : xNP pF) {d : Nat} {aR : Nat} {G : Nat → xC} {T : Nat × Nat} {σ : RS} {l1 : Int32} {res : Int32 × RS} (h : m_draw σ l1 = some res) : xCo pF (d + 1) 273 [.ref aR, .int l1] (layR aR σ G, T) (some (.int res.1)) (layR aR res.2 G, T) := by
  exact xCo_R kk_273 mo_273 ni_273 xm_273 (Nat.le_of_ble_eq_true rfl) (hp0 _ (by decide) (by decide) _ _) (m_draw_run hp0 _ σ l1 rfl rfl _ h)
/-! fileOf (280), depth 1 -/
def m_fileOf  (l0 : Int32) (l1 : Int32) : Option (Int32) :=
  some (((2 : Int32)) * ((((16 : Int32)) * l0) + l1))
set_option maxRecDepth 4000 in
theorem m_fileOf_run {pF : Nat → List Value → xH → Option (Option Value × xH)} {d : Nat} {hp : xH} (hp0 : xNP pF)  : ∀ (lv : xL) (l0 : Int32) (l1 : Int32), xg lv 0 = some (.int l0) → xg lv 1 = some (.int l1) → ∀ res, m_fileOf  l0 l1 = some res → xR pF (d + 0) kT280 16 2 false (some .int) (some (.int res)) hp (0, lv, [], hp) := by
  intro lv l0 l1 g0 g1 res h
  unfold m_fileOf at h
  refine eE_iconst (v := 2) lk280_0 (by decide) ?_
  refine eE_bipush (v := 16) lk280_1 (by decide) ?_
  refine eE_iload_n lk280_3 g0 ?_
  refine eE_imul lk280_4 ?_
  refine eE_iload_n lk280_5 g1 ?_
  refine eE_iadd lk280_6 ?_
  refine eE_imul lk280_7 ?_
  cases h
  exact eE_end lk280_8 rfl rfl rfl
theorem m_fileOf_ok {pF : Nat → List Value → xH → Option (Option Value × xH)} (hp0 : xNP pF) {d : Nat} {hp : xH} {l0 : Int32} {l1 : Int32} {res : Int32} (h : m_fileOf l0 l1 = some res) : xCo pF (d + 1) 280 [.int l0, .int l1] hp (some (.int res)) hp := by
  exact xCo_R kk_280 mo_280 ni_280 xm_280 (Nat.le_of_ble_eq_true rfl) (hp0 _ (by decide) (by decide) _ _) (m_fileOf_run hp0 _ l0 l1 rfl rfl _ h)
/-! layDisk (314), depth 1 -/
def m_layDisk  (σ : RS) (l1 : Int32) (l2 : Int32) : Option (RS) :=
  (rldL σ 36 (l1 >>> (((3 : Int32)) &&& 31))).bind fun x7 =>
  (rstL σ 36 (l1 >>> (((3 : Int32)) &&& 31)) (((x7 &&& ((((255 : Int64)) <<< ((((8 : Int32)) * (l1 &&& ((7 : Int32)))).toInt64 &&& 63)) ^^^ ((-1 : Int64)))) ||| (((l2.toInt64) &&& ((255 : Int64))) <<< ((((8 : Int32)) * (l1 &&& ((7 : Int32)))).toInt64 &&& 63))))).bind fun σ9 =>
  some σ9
set_option maxRecDepth 4000 in
theorem m_layDisk_run {pF : Nat → List Value → xH → Option (Option Value × xH)} {d : Nat} {aR : Nat} {G : Nat → xC} {T : Nat × Nat} (hp0 : xNP pF)  : ∀ (lv : xL) (σ : RS) (l1 : Int32) (l2 : Int32), xg lv 0 = some (.ref aR) → xg lv 1 = some (.int l1) → xg lv 2 = some (.int l2) → ∀ res, m_layDisk  σ l1 l2 = some res → xR pF (d + 0) kT314 16 4 false none none (layR aR res G, T) (0, lv, [], (layR aR σ G, T)) := by
  intro lv σ l1 l2 g0 g1 g2 res h
  unfold m_layDisk at h
  refine eE_bipush (v := 8) lk314_0 (by decide) ?_
  refine eE_iload_n lk314_2 g1 ?_
  refine eE_bipush (v := 7) lk314_3 (by decide) ?_
  refine eE_iand lk314_5 ?_
  refine eE_imul lk314_6 ?_
  refine eE_stI (j := 3) lk314_7 (Or.inr ⟨_, rfl, rfl⟩) (by decide) (fun vq1 gq2 kq3 => ?_)
  have gq4 := kq3 1 _ (by decide) (fun _ => rfl) g1
  have gq5 := kq3 2 _ (by decide) (fun _ => rfl) g2
  have gq6 := kq3 0 _ (by decide) (fun _ => rfl) g0
  refine eE_aload_n lk314_8 gq6 ?_
  refine eR_getA lk314_9 rf_75 rfl ?_
  refine eE_iload_n lk314_12 gq4 ?_
  refine eE_iconst (v := 3) lk314_13 (by decide) ?_
  refine eE_ishr lk314_14 ?_
  refine eE_aload_n lk314_15 gq6 ?_
  refine eR_getA lk314_16 rf_75 rfl ?_
  refine eE_iload_n lk314_19 gq4 ?_
  refine eE_iconst (v := 3) lk314_20 (by decide) ?_
  refine eE_ishr lk314_21 ?_
  obtain ⟨x7, h8, h⟩ := Option.bind_eq_some_iff.mp h
  refine eR_lald lk314_22 rfl rfl h8 ?_
  refine eE_ldc2_w (v := 255) lk314_23 xl_396 ?_
  refine eE_iload_n lk314_26 gq2 ?_
  refine eE_lshl lk314_27 ?_
  refine eE_ldc2_w (v := (-1)) lk314_28 xl_398 ?_
  refine eE_lxor lk314_31 ?_
  refine eE_land lk314_32 ?_
  refine eE_iload_n lk314_33 gq5 ?_
  refine eE_i2l lk314_34 ?_
  refine eE_ldc2_w (v := 255) lk314_35 xl_396 ?_
  refine eE_land lk314_38 ?_
  refine eE_iload_n lk314_39 gq2 ?_
  refine eE_lshl lk314_40 ?_
  refine eE_lor lk314_41 ?_
  obtain ⟨σ9, h10, h⟩ := Option.bind_eq_some_iff.mp h
  refine eR_last lk314_42 rfl rfl h10 ?_
  cases h
  exact eE_end lk314_43 rfl rfl rfl
theorem m_layDisk_ok {pF : Nat → List Value → xH → Option (Option Value × xH)} (hp0 : xNP pF) {d : Nat} {aR : Nat} {G : Nat → xC} {T : Nat × Nat} {σ : RS} {l1 : Int32} {l2 : Int32} {res : RS} (h : m_layDisk σ l1 l2 = some res) : xCo pF (d + 1) 314 [.ref aR, .int l1, .int l2] (layR aR σ G, T) none (layR aR res G, T) := by
  exact xCo_R kk_314 mo_314 ni_314 xm_314 (Nat.le_of_ble_eq_true rfl) (hp0 _ (by decide) (by decide) _ _) (m_layDisk_run hp0 _ σ l1 l2 rfl rfl rfl _ h)
/-! soil (360), depth 1 -/
def m_soil  (σ : RS) (l1 : Int32) : Option (RS) :=
  (rld σ 71 l1).bind fun x1 =>
  if xc0 .eq x1 = true then (
    (rst σ 71 l1 ((((1 : Int32)) &&& 1))).bind fun σ4 =>
    (rld σ4 72 l1).bind fun x6 =>
    (rst σ4 32 l1 (((σ4.1 1 0) + x6))).bind fun σ8 =>
    (rst σ8 31 l1 ((σ8.1 2 0))).bind fun σ10 =>
    (some (setI σ10 2 0 ((σ10.1 2 0) + ((1 : Int32))))).bind fun σ12 =>
    some σ12
  ) else (
    some σ
  )
set_option maxRecDepth 4000 in
theorem m_soil_run {pF : Nat → List Value → xH → Option (Option Value × xH)} {d : Nat} {aR : Nat} {G : Nat → xC} {T : Nat × Nat} (hp0 : xNP pF)  : ∀ (lv : xL) (σ : RS) (l1 : Int32), xg lv 0 = some (.ref aR) → xg lv 1 = some (.int l1) → ∀ res, m_soil  σ l1 = some res → xR pF (d + 0) kT360 16 2 false none none (layR aR res G, T) (0, lv, [], (layR aR σ G, T)) := by
  intro lv σ l1 g0 g1 res h
  unfold m_soil at h
  refine eE_aload_n lk360_0 g0 ?_
  refine eR_getA lk360_1 rf_179 rfl ?_
  refine eE_iload_n lk360_4 g1 ?_
  obtain ⟨x1, h2, h⟩ := Option.bind_eq_some_iff.mp h
  refine eR_bald lk360_5 rfl (Or.inr rfl) h2 ?_
  refine eE_if (t := 10) lk360_6 (by decide) (fun c3 => ?_) (fun c3 => ?_)
  · rw [if_pos c3] at h
    refine eE_aload_n lk360_10 g0 ?_
    refine eR_getA lk360_11 rf_179 rfl ?_
    refine eE_iload_n lk360_14 g1 ?_
    refine eE_iconst (v := 1) lk360_15 (by decide) ?_
    obtain ⟨σ4, h5, h⟩ := Option.bind_eq_some_iff.mp h
    refine eR_zast lk360_16 rfl rfl rfl h5 ?_
    refine eE_aload_n lk360_17 g0 ?_
    refine eR_getA lk360_18 rf_71 rfl ?_
    refine eE_iload_n lk360_21 g1 ?_
    refine eE_aload_n lk360_22 g0 ?_
    refine eR_get lk360_23 rf_431 rfl ?_
    refine eE_aload_n lk360_26 g0 ?_
    refine eR_getA lk360_27 rf_182 rfl ?_
    refine eE_iload_n lk360_30 g1 ?_
    obtain ⟨x6, h7, h⟩ := Option.bind_eq_some_iff.mp h
    refine eR_iald lk360_31 rfl rfl h7 ?_
    refine eE_iadd lk360_32 ?_
    obtain ⟨σ8, h9, h⟩ := Option.bind_eq_some_iff.mp h
    refine eR_iast lk360_33 rfl rfl h9 ?_
    refine eE_aload_n lk360_34 g0 ?_
    refine eR_getA lk360_35 rf_68 rfl ?_
    refine eE_iload_n lk360_38 g1 ?_
    refine eE_aload_n lk360_39 g0 ?_
    refine eR_get lk360_40 rf_421 rfl ?_
    obtain ⟨σ10, h11, h⟩ := Option.bind_eq_some_iff.mp h
    refine eR_iast lk360_43 rfl rfl h11 ?_
    refine eE_aload_n lk360_44 g0 ?_
    refine eE_dup lk360_45 rfl ?_
    refine eR_get lk360_46 rf_421 rfl ?_
    refine eE_iconst (v := 1) lk360_49 (by decide) ?_
    refine eE_iadd lk360_50 ?_
    obtain ⟨σ12, h13, h⟩ := Option.bind_eq_some_iff.mp h
    refine eR_putS lk360_51 rf_421 rfl (by decide) pf_2.1 pf_2.2 h13 ?_
    cases h
    exact eE_end lk360_54 rfl rfl rfl
  · rw [if_neg c3] at h
    cases h
    exact eE_end lk360_9 rfl rfl rfl
theorem m_soil_ok {pF : Nat → List Value → xH → Option (Option Value × xH)} (hp0 : xNP pF) {d : Nat} {aR : Nat} {G : Nat → xC} {T : Nat × Nat} {σ : RS} {l1 : Int32} {res : RS} (h : m_soil σ l1 = some res) : xCo pF (d + 1) 360 [.ref aR, .int l1] (layR aR σ G, T) none (layR aR res G, T) := by
  exact xCo_R kk_360 mo_360 ni_360 xm_360 (Nat.le_of_ble_eq_true rfl) (hp0 _ (by decide) (by decide) _ _) (m_soil_run hp0 _ σ l1 rfl rfl _ h)
/-! drawAlarm (274), depth 2 -/
def m_drawAlarm  (σ : RS) (l1 : Int32) : Option (RS) :=
  (rldL σ 84 l1).bind fun x1 =>
  (rstL σ 84 l1 (((x1 * ((6364136223846793005 : Int64))) + ((1442695040888963407 : Int64))))).bind fun σ3 =>
  (rldL σ3 84 l1).bind fun x5 =>
  if ((50 : Int64)) = 0 then none else
  (m_alarm σ3 l1 (((σ3.1 1 0) + ((50 : Int32))) + ((((x5.toUInt64 >>> (((33 : Int32)).toInt64.toUInt64 &&& Int64.toUInt64 63)).toInt64) - ((x5.toUInt64 >>> (((33 : Int32)).toInt64.toUInt64 &&& Int64.toUInt64 63)).toInt64) / ((50 : Int64)) * ((50 : Int64))).toInt32))).bind fun p8 =>
  some p8
set_option maxRecDepth 4000 in
theorem m_drawAlarm_run {pF : Nat → List Value → xH → Option (Option Value × xH)} {d : Nat} {aR : Nat} {G : Nat → xC} {T : Nat × Nat} (hp0 : xNP pF)  : ∀ (lv : xL) (σ : RS) (l1 : Int32), xg lv 0 = some (.ref aR) → xg lv 1 = some (.int l1) → ∀ res, m_drawAlarm  σ l1 = some res → xR pF (d + 1) kT274 16 2 false none none (layR aR res G, T) (0, lv, [], (layR aR σ G, T)) := by
  intro lv σ l1 g0 g1 res h
  unfold m_drawAlarm at h
  refine eE_aload_n lk274_0 g0 ?_
  refine eR_getA lk274_1 rf_218 rfl ?_
  refine eE_iload_n lk274_4 g1 ?_
  refine eE_aload_n lk274_5 g0 ?_
  refine eR_getA lk274_6 rf_218 rfl ?_
  refine eE_iload_n lk274_9 g1 ?_
  obtain ⟨x1, h2, h⟩ := Option.bind_eq_some_iff.mp h
  refine eR_lald lk274_10 rfl rfl h2 ?_
  refine eE_ldc2_w (v := 6364136223846793005) lk274_11 xl_407 ?_
  refine eE_lmul lk274_14 ?_
  refine eE_ldc2_w (v := 1442695040888963407) lk274_15 xl_409 ?_
  refine eE_ladd lk274_18 ?_
  obtain ⟨σ3, h4, h⟩ := Option.bind_eq_some_iff.mp h
  refine eR_last lk274_19 rfl rfl h4 ?_
  refine eE_aload_n lk274_20 g0 ?_
  refine eE_iload_n lk274_21 g1 ?_
  refine eE_aload_n lk274_22 g0 ?_
  refine eR_get lk274_23 rf_431 rfl ?_
  refine eE_bipush (v := 50) lk274_26 (by decide) ?_
  refine eE_iadd lk274_28 ?_
  refine eE_aload_n lk274_29 g0 ?_
  refine eR_getA lk274_30 rf_218 rfl ?_
  refine eE_iload_n lk274_33 g1 ?_
  obtain ⟨x5, h6, h⟩ := Option.bind_eq_some_iff.mp h
  refine eR_lald lk274_34 rfl rfl h6 ?_
  refine eE_bipush (v := 33) lk274_35 (by decide) ?_
  refine eE_lushr lk274_37 ?_
  refine eE_ldc2_w (v := 50) lk274_38 xl_453 ?_
  by_cases z7 : ((50 : Int64)) = 0
  · rw [if_pos z7] at h; cases h
  rw [if_neg z7] at h
  refine eE_lrem lk274_41 z7 ?_
  refine eE_l2i lk274_42 ?_
  refine eE_iadd lk274_43 ?_
  obtain ⟨p8, h9, h⟩ := Option.bind_eq_some_iff.mp h
  refine eR_call (as := [.int l1, .int (((σ3.1 1 0) + ((50 : Int32))) + ((((x5.toUInt64 >>> (((33 : Int32)).toInt64.toUInt64 &&& Int64.toUInt64 63)).toInt64) - ((x5.toUInt64 >>> (((33 : Int32)).toInt64.toUInt64 &&& Int64.toUInt64 63)).toInt64) / ((50 : Int64)) * ((50 : Int64))).toInt32))]) lk274_44 mr_455 na_241 rfl rfl (Nat.le_of_ble_eq_true rfl) wv_241 wc_241 (m_alarm_ok hp0 (d := d + 0) h9) ?_
  cases h
  exact eE_end lk274_47 rfl rfl rfl
theorem m_drawAlarm_ok {pF : Nat → List Value → xH → Option (Option Value × xH)} (hp0 : xNP pF) {d : Nat} {aR : Nat} {G : Nat → xC} {T : Nat × Nat} {σ : RS} {l1 : Int32} {res : RS} (h : m_drawAlarm σ l1 = some res) : xCo pF (d + 2) 274 [.ref aR, .int l1] (layR aR σ G, T) none (layR aR res G, T) := by
  exact xCo_R kk_274 mo_274 ni_274 xm_274 (Nat.le_of_ble_eq_true rfl) (hp0 _ (by decide) (by decide) _ _) (m_drawAlarm_run hp0 _ σ l1 rfl rfl _ h)
/-! dropRequests (275), depth 1 -/
def m_dropRequests_b5 (F : Nat)  : Nat → RS → Int32 → Int32 → Option (RS)
  | 0, _, _, _ => none
  | n + 1, σ, l1, l2 =>
    let KK := m_dropRequests_b5 F  n
    if xc2 .ge l2 ((((32 : Int32)) * l1) + ((32 : Int32))) = true then (
      some σ
    ) else (
      (rst σ 95 l2 ((((0 : Int32)) &&& 1))).bind fun σ2 =>
      KK σ2 l1 (l2 + (1 : Int32))
    )
set_option maxRecDepth 4000 in
theorem m_dropRequests_b5_ok {pF : Nat → List Value → xH → Option (Option Value × xH)} {d : Nat} {aR : Nat} {G : Nat → xC} {T : Nat × Nat} {F : Nat} (hp0 : xNP pF)  : ∀ (n : Nat) (lv : xL) (σ : RS) (l1 : Int32) (l2 : Int32), xg lv 0 = some (.ref aR) → xg lv 1 = some (.int l1) → xg lv 2 = some (.int l2) → ∀ res, m_dropRequests_b5 F  n σ l1 l2 = some res → xR pF (d + 0) kT275 16 3 false none none (layR aR res G, T) (5, lv, [], (layR aR σ G, T)) := by
  intro n
  induction n with
  | zero => intro lv σ l1 l2 g0 g1 g2 res h; simp [m_dropRequests_b5] at h
  | succ n hKK =>
    intro lv σ l1 l2 g0 g1 g2 res h
    unfold m_dropRequests_b5 at h
    dsimp only at h
    refine eE_iload_n lk275_5 g2 ?_
    refine eE_bipush (v := 32) lk275_6 (by decide) ?_
    refine eE_iload_n lk275_8 g1 ?_
    refine eE_imul lk275_9 ?_
    refine eE_bipush (v := 32) lk275_10 (by decide) ?_
    refine eE_iadd lk275_12 ?_
    refine eE_icmp (t := 29) lk275_13 (by decide) (fun c1 => ?_) (fun c1 => ?_)
    · rw [if_pos c1] at h
      cases h
      exact eE_end lk275_29 rfl rfl rfl
    · rw [if_neg c1] at h
      refine eE_aload_n lk275_16 g0 ?_
      refine eR_getA lk275_17 rf_251 rfl ?_
      refine eE_iload_n lk275_20 g2 ?_
      refine eE_iconst (v := 0) lk275_21 (by decide) ?_
      obtain ⟨σ2, h3, h⟩ := Option.bind_eq_some_iff.mp h
      refine eR_zast lk275_22 rfl rfl rfl h3 ?_
      refine eE_inc (j := 2) (v := l2 + (1 : Int32)) lk275_23 g2 rfl (by decide) (fun vq4 gq5 kq6 => ?_)
      have gq7 := kq6 1 _ (by decide) (fun _ => rfl) g1
      have gq8 := kq6 0 _ (by decide) (fun _ => rfl) g0
      refine eE_goto (t := 5) lk275_26 (by decide) ?_
      exact hKK vq4 σ2 l1 (l2 + (1 : Int32)) gq8 gq7 gq5 _ h
def m_dropRequests_b0 (F : Nat)  (σ : RS) (l1 : Int32) : Option (RS) :=
  m_dropRequests_b5 F  F σ l1 (((32 : Int32)) * l1)
set_option maxRecDepth 4000 in
theorem m_dropRequests_b0_ok {pF : Nat → List Value → xH → Option (Option Value × xH)} {d : Nat} {aR : Nat} {G : Nat → xC} {T : Nat × Nat} {F : Nat} (hp0 : xNP pF)  : ∀ (lv : xL) (σ : RS) (l1 : Int32), xg lv 0 = some (.ref aR) → xg lv 1 = some (.int l1) → ∀ res, m_dropRequests_b0 F  σ l1 = some res → xR pF (d + 0) kT275 16 3 false none none (layR aR res G, T) (0, lv, [], (layR aR σ G, T)) := by
  intro lv σ l1 g0 g1 res h
  unfold m_dropRequests_b0 at h
  refine eE_bipush (v := 32) lk275_0 (by decide) ?_
  refine eE_iload_n lk275_2 g1 ?_
  refine eE_imul lk275_3 ?_
  refine eE_stI (j := 2) lk275_4 (Or.inr ⟨_, rfl, rfl⟩) (by decide) (fun vq9 gq10 kq11 => ?_)
  have gq12 := kq11 1 _ (by decide) (fun _ => rfl) g1
  have gq13 := kq11 0 _ (by decide) (fun _ => rfl) g0
  exact m_dropRequests_b5_ok hp0  F vq9 σ l1 (((32 : Int32)) * l1) gq13 gq12 gq10 _ h
def m_dropRequests (F : Nat) (σ : RS) (l1 : Int32) : Option (RS) := m_dropRequests_b0 F σ l1
theorem m_dropRequests_ok {pF : Nat → List Value → xH → Option (Option Value × xH)} (hp0 : xNP pF) {d : Nat} {aR : Nat} {G : Nat → xC} {T : Nat × Nat} {σ : RS} {F : Nat} {l1 : Int32} {res : RS} (h : m_dropRequests F σ l1 = some res) : xCo pF (d + 1) 275 [.ref aR, .int l1] (layR aR σ G, T) none (layR aR res G, T) := by
  unfold m_dropRequests at h
  exact xCo_R kk_275 mo_275 ni_275 xm_275 (Nat.le_of_ble_eq_true rfl) (hp0 _ (by decide) (by decide) _ _) (m_dropRequests_b0_ok hp0 _ σ l1 rfl rfl _ h)
