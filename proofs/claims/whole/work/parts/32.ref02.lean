/-! printed by wip/whole/gen_ref.py -/
/-! answerReads (243), depth 6 -/
def m_answerReads_b119 (F : Nat) (K17 : RS → Int32 → Int32 → Int32 → Option (RS)) (σ : RS) (l1 : Int32) (l2 : Int32) (l3 : Int32) : Option (RS) :=
  K17 σ l1 l2 (l3 + (1 : Int32))
set_option maxRecDepth 4000 in
theorem m_answerReads_b119_ok {pF : Nat → List Value → xH → Option (Option Value × xH)} {d : Nat} {aR : Nat} {G : Nat → xC} {T : Nat × Nat} {F : Nat} {K17 : RS → Int32 → Int32 → Int32 → Option (RS)} (hp0 : xNP pF) (hK17 : ∀ (lv : xL) (σ : RS) (l1 : Int32) (l2 : Int32) (l3 : Int32), xg lv 0 = some (.ref aR) → xg lv 1 = some (.int l1) → xg lv 2 = some (.int l2) → xg lv 3 = some (.int l3) → ∀ res, K17 σ l1 l2 l3 = some res → xR pF (d + 5) kT243 16 5 false none none (layR aR res G, T) (17, lv, [], (layR aR σ G, T))) : ∀ (lv : xL) (σ : RS) (l1 : Int32) (l2 : Int32) (l3 : Int32), xg lv 0 = some (.ref aR) → xg lv 1 = some (.int l1) → xg lv 2 = some (.int l2) → xg lv 3 = some (.int l3) → ∀ res, m_answerReads_b119 F K17 σ l1 l2 l3 = some res → xR pF (d + 5) kT243 16 5 false none none (layR aR res G, T) (119, lv, [], (layR aR σ G, T)) := by
  intro lv σ l1 l2 l3 g0 g1 g2 g3 res h
  unfold m_answerReads_b119 at h
  refine eE_inc (j := 3) (v := l3 + (1 : Int32)) lk243_119 g3 rfl (by decide) (fun vq1 gq2 kq3 => ?_)
  have gq4 := kq3 1 _ (by decide) (fun _ => rfl) g1
  have gq5 := kq3 2 _ (by decide) (fun _ => rfl) g2
  have gq6 := kq3 0 _ (by decide) (fun _ => rfl) g0
  refine eE_goto (t := 17) lk243_122 (by decide) ?_
  exact hK17 vq1 σ l1 l2 (l3 + (1 : Int32)) gq6 gq4 gq5 gq2 _ h
def m_answerReads_b17 (F : Nat)  : Nat → RS → Int32 → Int32 → Int32 → Option (RS)
  | 0, _, _, _, _ => none
  | n + 1, σ, l1, l2, l3 =>
    let KK := m_answerReads_b17 F  n
    (rld σ 94 l1).bind fun x7 =>
    if xc2 .ge l3 x7 = true then (
      some σ
    ) else (
      if xc0 .lt l3 = true then (
        m_answerReads_b119 F KK σ l1 l2 l3
      ) else (
        (rld σ 95 ((((32 : Int32)) * l1) + (l3 &&& ((31 : Int32))))).bind fun x18 =>
        if xc0 .eq x18 = true then (
          m_answerReads_b119 F KK σ l1 l2 l3
        ) else (
          (rld σ 96 ((((32 : Int32)) * l1) + (l3 &&& ((31 : Int32))))).bind fun x21 =>
          if xc0 .eq x21 = true then (
            m_answerReads_b119 F KK σ l1 l2 l3
          ) else (
            (rld σ 76 l1).bind fun x24 =>
            (rld σ 97 ((((32 : Int32)) * l1) + (l3 &&& ((31 : Int32))))).bind fun x26 =>
            if xc2 .lt x24 x26 = true then (
              m_answerReads_b119 F KK σ l1 l2 l3
            ) else (
              (rld σ 99 ((((32 : Int32)) * l1) + (l3 &&& ((31 : Int32))))).bind fun x29 =>
              if xc2 .ge l2 x29 = true then (
                (rst σ 95 ((((32 : Int32)) * l1) + (l3 &&& ((31 : Int32)))) ((((0 : Int32)) &&& 1))).bind fun σ32 =>
                (m_query F σ32 l1 ((((32 : Int32)) * l1) + (l3 &&& ((31 : Int32))))).bind fun p34 =>
                (m_postReply F p34 l1 ((((32 : Int32)) * l1) + (l3 &&& ((31 : Int32)))) ((0 : Int32)) (p34.1 123 0)).bind fun p36 =>
                m_answerReads_b119 F KK p36 l1 l2 l3
              ) else (
                m_answerReads_b119 F KK σ l1 l2 l3
              )
            )
          )
        )
      )
    )
set_option maxRecDepth 4000 in
theorem m_answerReads_b17_ok {pF : Nat → List Value → xH → Option (Option Value × xH)} {d : Nat} {aR : Nat} {G : Nat → xC} {T : Nat × Nat} {F : Nat} (hp0 : xNP pF)  : ∀ (n : Nat) (lv : xL) (σ : RS) (l1 : Int32) (l2 : Int32) (l3 : Int32), xg lv 0 = some (.ref aR) → xg lv 1 = some (.int l1) → xg lv 2 = some (.int l2) → xg lv 3 = some (.int l3) → ∀ res, m_answerReads_b17 F  n σ l1 l2 l3 = some res → xR pF (d + 5) kT243 16 5 false none none (layR aR res G, T) (17, lv, [], (layR aR σ G, T)) := by
  intro n
  induction n with
  | zero => intro lv σ l1 l2 l3 g0 g1 g2 g3 res h; simp [m_answerReads_b17] at h
  | succ n hKK =>
    intro lv σ l1 l2 l3 g0 g1 g2 g3 res h
    unfold m_answerReads_b17 at h
    dsimp only at h
    refine eE_iload_n lk243_17 g3 ?_
    refine eE_aload_n lk243_18 g0 ?_
    refine eR_getA lk243_19 rf_248 rfl ?_
    refine eE_iload_n lk243_22 g1 ?_
    obtain ⟨x7, h8, h⟩ := Option.bind_eq_some_iff.mp h
    refine eR_iald lk243_23 rfl rfl h8 ?_
    refine eE_icmp (t := 125) lk243_24 (by decide) (fun c9 => ?_) (fun c9 => ?_)
    · rw [if_pos c9] at h
      cases h
      exact eE_end lk243_125 rfl rfl rfl
    · rw [if_neg c9] at h
      refine eE_bipush (v := 32) lk243_27 (by decide) ?_
      refine eE_iload_n lk243_29 g1 ?_
      refine eE_imul lk243_30 ?_
      refine eE_iload_n lk243_31 g3 ?_
      refine eE_bipush (v := 31) lk243_32 (by decide) ?_
      refine eE_iand lk243_34 ?_
      refine eE_iadd lk243_35 ?_
      refine eE_stI (j := 4) lk243_36 (Or.inl rfl) (by decide) (fun vq10 gq11 kq12 => ?_)
      have gq13 := kq12 1 _ (by decide) (fun _ => rfl) g1
      have gq14 := kq12 2 _ (by decide) (fun _ => rfl) g2
      have gq15 := kq12 3 _ (by decide) (fun _ => rfl) g3
      have gq16 := kq12 0 _ (by decide) (fun _ => rfl) g0
      refine eE_iload_n lk243_38 gq15 ?_
      refine eE_if (t := 119) lk243_39 (by decide) (fun c17 => ?_) (fun c17 => ?_)
      · rw [if_pos c17] at h
        exact m_answerReads_b119_ok hp0 hKK vq10 σ l1 l2 l3 gq16 gq13 gq14 gq15 _ h
      · rw [if_neg c17] at h
        refine eE_aload_n lk243_42 gq16 ?_
        refine eR_getA lk243_43 rf_251 rfl ?_
        refine eE_iload lk243_46 gq11 ?_
        obtain ⟨x18, h19, h⟩ := Option.bind_eq_some_iff.mp h
        refine eR_bald lk243_48 rfl (Or.inr rfl) h19 ?_
        refine eE_if (t := 119) lk243_49 (by decide) (fun c20 => ?_) (fun c20 => ?_)
        · rw [if_pos c20] at h
          exact m_answerReads_b119_ok hp0 hKK vq10 σ l1 l2 l3 gq16 gq13 gq14 gq15 _ h
        · rw [if_neg c20] at h
          refine eE_aload_n lk243_52 gq16 ?_
          refine eR_getA lk243_53 rf_254 rfl ?_
          refine eE_iload lk243_56 gq11 ?_
          obtain ⟨x21, h22, h⟩ := Option.bind_eq_some_iff.mp h
          refine eR_bald lk243_58 rfl (Or.inr rfl) h22 ?_
          refine eE_if (t := 119) lk243_59 (by decide) (fun c23 => ?_) (fun c23 => ?_)
          · rw [if_pos c23] at h
            exact m_answerReads_b119_ok hp0 hKK vq10 σ l1 l2 l3 gq16 gq13 gq14 gq15 _ h
          · rw [if_neg c23] at h
            refine eE_aload_n lk243_62 gq16 ?_
            refine eR_getA lk243_63 rf_194 rfl ?_
            refine eE_iload_n lk243_66 gq13 ?_
            obtain ⟨x24, h25, h⟩ := Option.bind_eq_some_iff.mp h
            refine eR_iald lk243_67 rfl rfl h25 ?_
            refine eE_aload_n lk243_68 gq16 ?_
            refine eR_getA lk243_69 rf_257 rfl ?_
            refine eE_iload lk243_72 gq11 ?_
            obtain ⟨x26, h27, h⟩ := Option.bind_eq_some_iff.mp h
            refine eR_iald lk243_74 rfl rfl h27 ?_
            refine eE_icmp (t := 119) lk243_75 (by decide) (fun c28 => ?_) (fun c28 => ?_)
            · rw [if_pos c28] at h
              exact m_answerReads_b119_ok hp0 hKK vq10 σ l1 l2 l3 gq16 gq13 gq14 gq15 _ h
            · rw [if_neg c28] at h
              refine eE_iload_n lk243_78 gq14 ?_
              refine eE_aload_n lk243_79 gq16 ?_
              refine eR_getA lk243_80 rf_263 rfl ?_
              refine eE_iload lk243_83 gq11 ?_
              obtain ⟨x29, h30, h⟩ := Option.bind_eq_some_iff.mp h
              refine eR_iald lk243_85 rfl rfl h30 ?_
              refine eE_icmp (t := 92) lk243_86 (by decide) (fun c31 => ?_) (fun c31 => ?_)
              · rw [if_pos c31] at h
                refine eE_aload_n lk243_92 gq16 ?_
                refine eR_getA lk243_93 rf_251 rfl ?_
                refine eE_iload lk243_96 gq11 ?_
                refine eE_iconst (v := 0) lk243_98 (by decide) ?_
                obtain ⟨σ32, h33, h⟩ := Option.bind_eq_some_iff.mp h
                refine eR_zast lk243_99 rfl rfl rfl h33 ?_
                refine eE_aload_n lk243_100 gq16 ?_
                refine eE_iload_n lk243_101 gq13 ?_
                refine eE_iload lk243_102 gq11 ?_
                obtain ⟨p34, h35, h⟩ := Option.bind_eq_some_iff.mp h
                refine eR_call (as := [.int l1, .int ((((32 : Int32)) * l1) + (l3 &&& ((31 : Int32))))]) lk243_104 mr_724 na_342 rfl rfl (Nat.le_of_ble_eq_true rfl) wv_342 wc_342 (m_query_ok hp0 (d := d + 0) h35) ?_
                refine eE_aload_n lk243_107 gq16 ?_
                refine eE_iload_n lk243_108 gq13 ?_
                refine eE_iload lk243_109 gq11 ?_
                refine eE_iconst (v := 0) lk243_111 (by decide) ?_
                refine eE_aload_n lk243_112 gq16 ?_
                refine eR_get lk243_113 rf_595 rfl ?_
                obtain ⟨p36, h37, h⟩ := Option.bind_eq_some_iff.mp h
                refine eR_call (as := [.int l1, .int ((((32 : Int32)) * l1) + (l3 &&& ((31 : Int32)))), .int ((0 : Int32)), .int (p34.1 123 0)]) lk243_116 mr_709 na_340 rfl rfl (Nat.le_of_ble_eq_true rfl) wv_340 wc_340 (m_postReply_ok hp0 (d := d + 0) h37) ?_
                exact m_answerReads_b119_ok hp0 hKK vq10 p36 l1 l2 l3 gq16 gq13 gq14 gq15 _ h
              · rw [if_neg c31] at h
                refine eE_goto (t := 119) lk243_89 (by decide) ?_
                exact m_answerReads_b119_ok hp0 hKK vq10 σ l1 l2 l3 gq16 gq13 gq14 gq15 _ h
def m_answerReads_b0 (F : Nat)  (σ : RS) (l1 : Int32) : Option (RS) :=
  (m_common F σ l1 ((2 : Int32))).bind fun p38 =>
  (rld p38.2 94 l1).bind fun x45 =>
  m_answerReads_b17 F  F p38.2 l1 (p38.1) (x45 - ((32 : Int32)))
set_option maxRecDepth 4000 in
theorem m_answerReads_b0_ok {pF : Nat → List Value → xH → Option (Option Value × xH)} {d : Nat} {aR : Nat} {G : Nat → xC} {T : Nat × Nat} {F : Nat} (hp0 : xNP pF)  : ∀ (lv : xL) (σ : RS) (l1 : Int32), xg lv 0 = some (.ref aR) → xg lv 1 = some (.int l1) → ∀ res, m_answerReads_b0 F  σ l1 = some res → xR pF (d + 5) kT243 16 5 false none none (layR aR res G, T) (0, lv, [], (layR aR σ G, T)) := by
  intro lv σ l1 g0 g1 res h
  unfold m_answerReads_b0 at h
  refine eE_aload_n lk243_0 g0 ?_
  refine eE_iload_n lk243_1 g1 ?_
  refine eE_iconst (v := 2) lk243_2 (by decide) ?_
  obtain ⟨p38, h39, h⟩ := Option.bind_eq_some_iff.mp h
  refine eR_call (as := [.int l1, .int ((2 : Int32))]) lk243_3 mr_654 na_258 rfl rfl (Nat.le_of_ble_eq_true rfl) wv_258 wc_258 (m_common_ok hp0 (d := d + 2) h39) ?_
  refine eE_stI (j := 2) lk243_6 (Or.inr ⟨_, rfl, rfl⟩) (by decide) (fun vq40 gq41 kq42 => ?_)
  have gq43 := kq42 1 _ (by decide) (fun _ => rfl) g1
  have gq44 := kq42 0 _ (by decide) (fun _ => rfl) g0
  refine eE_aload_n lk243_7 gq44 ?_
  refine eR_getA lk243_8 rf_248 rfl ?_
  refine eE_iload_n lk243_11 gq43 ?_
  obtain ⟨x45, h46, h⟩ := Option.bind_eq_some_iff.mp h
  refine eR_iald lk243_12 rfl rfl h46 ?_
  refine eE_bipush (v := 32) lk243_13 (by decide) ?_
  refine eE_isub lk243_15 ?_
  refine eE_stI (j := 3) lk243_16 (Or.inr ⟨_, rfl, rfl⟩) (by decide) (fun vq47 gq48 kq49 => ?_)
  have gq50 := kq49 1 _ (by decide) (fun _ => rfl) gq43
  have gq51 := kq49 0 _ (by decide) (fun _ => rfl) gq44
  have gq52 := kq49 2 _ (by decide) (fun _ => rfl) gq41
  exact m_answerReads_b17_ok hp0  F vq47 p38.2 l1 (p38.1) (x45 - ((32 : Int32))) gq51 gq50 gq52 gq48 _ h
def m_answerReads (F : Nat) (σ : RS) (l1 : Int32) : Option (RS) := m_answerReads_b0 F σ l1
theorem m_answerReads_ok {pF : Nat → List Value → xH → Option (Option Value × xH)} (hp0 : xNP pF) {d : Nat} {aR : Nat} {G : Nat → xC} {T : Nat × Nat} {σ : RS} {F : Nat} {l1 : Int32} {res : RS} (h : m_answerReads F σ l1 = some res) : xCo pF (d + 6) 243 [.ref aR, .int l1] (layR aR σ G, T) none (layR aR res G, T) := by
  unfold m_answerReads at h
  exact xCo_R kk_243 mo_243 ni_243 xm_243 (Nat.le_of_ble_eq_true rfl) (hp0 _ (by decide) (by decide) _ _) (m_answerReads_b0_ok hp0 _ σ l1 rfl rfl _ h)
/-! fileOf (280), depth 1 -/
def m_fileOf  (l0 : Int32) (l1 : Int32) : Option (Int32) :=
  some (((2 : Int32)) * ((((16 : Int32)) * l0) + l1))
set_option maxRecDepth 4000 in
theorem m_fileOf_run {pF : Nat → List Value → xH → Option (Option Value × xH)} {d : Nat} {hp : xH} (hp0 : xNP pF)  : ∀ (lv : xL) (l0 : Int32) (l1 : Int32), xg lv 0 = some (.int l0) → xg lv 1 = some (.int l1) → ∀ res, m_fileOf  l0 l1 = some res → xR pF (d + 0) kT280 16 2 false (some .int) (some (.int res)) hp (0, lv, [], hp) := by
  intro lv l0 l1 g0 g1 res h
  unfold m_fileOf at h
  refine eE_iconst (v := 2) lk280_0 (by decide) ?_
  refine eE_bipush (v := 16) lk280_1 (by decide) ?_
  refine eE_iload_n lk280_3 g0 ?_
  refine eE_imul lk280_4 ?_
  refine eE_iload_n lk280_5 g1 ?_
  refine eE_iadd lk280_6 ?_
  refine eE_imul lk280_7 ?_
  cases h
  exact eE_end lk280_8 rfl rfl rfl
theorem m_fileOf_ok {pF : Nat → List Value → xH → Option (Option Value × xH)} (hp0 : xNP pF) {d : Nat} {hp : xH} {l0 : Int32} {l1 : Int32} {res : Int32} (h : m_fileOf l0 l1 = some res) : xCo pF (d + 1) 280 [.int l0, .int l1] hp (some (.int res)) hp := by
  exact xCo_R kk_280 mo_280 ni_280 xm_280 (Nat.le_of_ble_eq_true rfl) (hp0 _ (by decide) (by decide) _ _) (m_fileOf_run hp0 _ l0 l1 rfl rfl _ h)
/-! logOf (322), depth 1 -/
def m_logOf  (l0 : Int32) (l1 : Int32) : Option (Int32) :=
  some ((((512 : Int32)) * l0) + (l1 &&& ((511 : Int32))))
set_option maxRecDepth 4000 in
theorem m_logOf_run {pF : Nat → List Value → xH → Option (Option Value × xH)} {d : Nat} {hp : xH} (hp0 : xNP pF)  : ∀ (lv : xL) (l0 : Int32) (l1 : Int32), xg lv 0 = some (.int l0) → xg lv 1 = some (.int l1) → ∀ res, m_logOf  l0 l1 = some res → xR pF (d + 0) kT322 16 2 false (some .int) (some (.int res)) hp (0, lv, [], hp) := by
  intro lv l0 l1 g0 g1 res h
  unfold m_logOf at h
  refine eE_sipush (v := 512) lk322_0 (by decide) ?_
  refine eE_iload_n lk322_3 g0 ?_
  refine eE_imul lk322_4 ?_
  refine eE_iload_n lk322_5 g1 ?_
  refine eE_sipush (v := 511) lk322_6 (by decide) ?_
  refine eE_iand lk322_9 ?_
  refine eE_iadd lk322_10 ?_
  cases h
  exact eE_end lk322_11 rfl rfl rfl
theorem m_logOf_ok {pF : Nat → List Value → xH → Option (Option Value × xH)} (hp0 : xNP pF) {d : Nat} {hp : xH} {l0 : Int32} {l1 : Int32} {res : Int32} (h : m_logOf l0 l1 = some res) : xCo pF (d + 1) 322 [.int l0, .int l1] hp (some (.int res)) hp := by
  exact xCo_R kk_322 mo_322 ni_322 xm_322 (Nat.le_of_ble_eq_true rfl) (hp0 _ (by decide) (by decide) _ _) (m_logOf_run hp0 _ l0 l1 rfl rfl _ h)
/-! codeIn (257), depth 2 -/
def m_codeIn  (σ : RS) (l1 : Int32) (l2 : Int32) : Option (Int32 × RS) :=
  (m_logOf l1 l2).bind fun p1 =>
  (m_inLog σ (((256 : Int32)) * p1)).bind fun p7 =>
  (m_inLog p7.2 ((((256 : Int32)) * p1) + ((1 : Int32)))).bind fun p9 =>
  (m_inLog p9.2 ((((256 : Int32)) * p1) + ((2 : Int32)))).bind fun p11 =>
  (m_inLog p11.2 ((((256 : Int32)) * p1) + ((3 : Int32)))).bind fun p13 =>
  some ((((p7.1 <<< (((24 : Int32)) &&& 31)) ||| ((p9.1 &&& ((255 : Int32))) <<< (((16 : Int32)) &&& 31))) ||| ((p11.1 &&& ((255 : Int32))) <<< (((8 : Int32)) &&& 31))) ||| (p13.1 &&& ((255 : Int32))), p13.2)
set_option maxRecDepth 4000 in
theorem m_codeIn_run {pF : Nat → List Value → xH → Option (Option Value × xH)} {d : Nat} {aR : Nat} {G : Nat → xC} {T : Nat × Nat} (hp0 : xNP pF)  : ∀ (lv : xL) (σ : RS) (l1 : Int32) (l2 : Int32), xg lv 0 = some (.ref aR) → xg lv 1 = some (.int l1) → xg lv 2 = some (.int l2) → ∀ res, m_codeIn  σ l1 l2 = some res → xR pF (d + 1) kT257 16 4 false (some .int) (some (.int res.1)) (layR aR res.2 G, T) (0, lv, [], (layR aR σ G, T)) := by
  intro lv σ l1 l2 g0 g1 g2 res h
  unfold m_codeIn at h
  refine eE_sipush (v := 256) lk257_0 (by decide) ?_
  refine eE_iload_n lk257_3 g1 ?_
  refine eE_iload_n lk257_4 g2 ?_
  obtain ⟨p1, h2, h⟩ := Option.bind_eq_some_iff.mp h
  refine eE_stat (as := [.int l1, .int l2]) lk257_5 mr_521 na_322 rfl rfl (Nat.le_of_ble_eq_true rfl) mm_322 ws_322 (m_logOf_ok hp0 (d := d + 0) h2) ?_
  refine eE_imul lk257_8 ?_
  refine eE_stI (j := 3) lk257_9 (Or.inr ⟨_, rfl, rfl⟩) (by decide) (fun vq3 gq4 kq5 => ?_)
  have gq6 := kq5 0 _ (by decide) (fun _ => rfl) g0
  refine eE_aload_n lk257_10 gq6 ?_
  refine eE_iload_n lk257_11 gq4 ?_
  obtain ⟨p7, h8, h⟩ := Option.bind_eq_some_iff.mp h
  refine eR_call (as := [.int (((256 : Int32)) * p1)]) lk257_12 mr_530 na_296 rfl rfl (Nat.le_of_ble_eq_true rfl) wv_296 wc_296 (m_inLog_ok hp0 (d := d + 0) h8) ?_
  refine eE_bipush (v := 24) lk257_15 (by decide) ?_
  refine eE_ishl lk257_17 ?_
  refine eE_aload_n lk257_18 gq6 ?_
  refine eE_iload_n lk257_19 gq4 ?_
  refine eE_iconst (v := 1) lk257_20 (by decide) ?_
  refine eE_iadd lk257_21 ?_
  obtain ⟨p9, h10, h⟩ := Option.bind_eq_some_iff.mp h
  refine eR_call (as := [.int ((((256 : Int32)) * p1) + ((1 : Int32)))]) lk257_22 mr_530 na_296 rfl rfl (Nat.le_of_ble_eq_true rfl) wv_296 wc_296 (m_inLog_ok hp0 (d := d + 0) h10) ?_
  refine eE_sipush (v := 255) lk257_25 (by decide) ?_
  refine eE_iand lk257_28 ?_
  refine eE_bipush (v := 16) lk257_29 (by decide) ?_
  refine eE_ishl lk257_31 ?_
  refine eE_ior lk257_32 ?_
  refine eE_aload_n lk257_33 gq6 ?_
  refine eE_iload_n lk257_34 gq4 ?_
  refine eE_iconst (v := 2) lk257_35 (by decide) ?_
  refine eE_iadd lk257_36 ?_
  obtain ⟨p11, h12, h⟩ := Option.bind_eq_some_iff.mp h
  refine eR_call (as := [.int ((((256 : Int32)) * p1) + ((2 : Int32)))]) lk257_37 mr_530 na_296 rfl rfl (Nat.le_of_ble_eq_true rfl) wv_296 wc_296 (m_inLog_ok hp0 (d := d + 0) h12) ?_
  refine eE_sipush (v := 255) lk257_40 (by decide) ?_
  refine eE_iand lk257_43 ?_
  refine eE_bipush (v := 8) lk257_44 (by decide) ?_
  refine eE_ishl lk257_46 ?_
  refine eE_ior lk257_47 ?_
  refine eE_aload_n lk257_48 gq6 ?_
  refine eE_iload_n lk257_49 gq4 ?_
  refine eE_iconst (v := 3) lk257_50 (by decide) ?_
  refine eE_iadd lk257_51 ?_
  obtain ⟨p13, h14, h⟩ := Option.bind_eq_some_iff.mp h
  refine eR_call (as := [.int ((((256 : Int32)) * p1) + ((3 : Int32)))]) lk257_52 mr_530 na_296 rfl rfl (Nat.le_of_ble_eq_true rfl) wv_296 wc_296 (m_inLog_ok hp0 (d := d + 0) h14) ?_
  refine eE_sipush (v := 255) lk257_55 (by decide) ?_
  refine eE_iand lk257_58 ?_
  refine eE_ior lk257_59 ?_
  cases h
  exact eE_end lk257_60 rfl rfl rfl
theorem m_codeIn_ok {pF : Nat → List Value → xH → Option (Option Value × xH)} (hp0 : xNP pF) {d : Nat} {aR : Nat} {G : Nat → xC} {T : Nat × Nat} {σ : RS} {l1 : Int32} {l2 : Int32} {res : Int32 × RS} (h : m_codeIn σ l1 l2 = some res) : xCo pF (d + 2) 257 [.ref aR, .int l1, .int l2] (layR aR σ G, T) (some (.int res.1)) (layR aR res.2 G, T) := by
  exact xCo_R kk_257 mo_257 ni_257 xm_257 (Nat.le_of_ble_eq_true rfl) (hp0 _ (by decide) (by decide) _ _) (m_codeIn_run hp0 _ σ l1 l2 rfl rfl rfl _ h)
/-! findCode (282), depth 3 -/
def m_findCode_b81 (F : Nat) (K33 : RS → Int32 → Int32 → Option (RS)) (σ : RS) (l1 : Int32) (l2 : Int32) : Option (RS) :=
  K33 σ l1 (l2 + (1 : Int32))
set_option maxRecDepth 4000 in
theorem m_findCode_b81_ok {pF : Nat → List Value → xH → Option (Option Value × xH)} {d : Nat} {aR : Nat} {G : Nat → xC} {T : Nat × Nat} {F : Nat} {K33 : RS → Int32 → Int32 → Option (RS)} (hp0 : xNP pF) (hK33 : ∀ (lv : xL) (σ : RS) (l1 : Int32) (l2 : Int32), xg lv 0 = some (.ref aR) → xg lv 1 = some (.int l1) → xg lv 2 = some (.int l2) → ∀ res, K33 σ l1 l2 = some res → xR pF (d + 2) kT282 16 4 false none none (layR aR res G, T) (33, lv, [], (layR aR σ G, T))) : ∀ (lv : xL) (σ : RS) (l1 : Int32) (l2 : Int32), xg lv 0 = some (.ref aR) → xg lv 1 = some (.int l1) → xg lv 2 = some (.int l2) → ∀ res, m_findCode_b81 F K33 σ l1 l2 = some res → xR pF (d + 2) kT282 16 4 false none none (layR aR res G, T) (81, lv, [], (layR aR σ G, T)) := by
  intro lv σ l1 l2 g0 g1 g2 res h
  unfold m_findCode_b81 at h
  refine eE_inc (j := 2) (v := l2 + (1 : Int32)) lk282_81 g2 rfl (by decide) (fun vq1 gq2 kq3 => ?_)
  have gq4 := kq3 1 _ (by decide) (fun _ => rfl) g1
  have gq5 := kq3 0 _ (by decide) (fun _ => rfl) g0
  refine eE_goto (t := 33) lk282_84 (by decide) ?_
  exact hK33 vq1 σ l1 (l2 + (1 : Int32)) gq5 gq4 gq2 _ h
def m_findCode_b33 (F : Nat)  : Nat → RS → Int32 → Int32 → Option (RS)
  | 0, _, _, _ => none
  | n + 1, σ, l1, l2 =>
    let KK := m_findCode_b33 F  n
    (rld σ 56 l1).bind fun x6 =>
    if xc2 .gt l2 x6 = true then (
      some σ
    ) else (
      (m_logOf l1 l2).bind fun p9 =>
      (rld σ 60 p9).bind fun x17 =>
      if xc2 .eq x17 ((1 : Int32)) = true then (
        (rst σ 64 l1 l2).bind fun σ20 =>
        (m_codeIn σ20 l1 l2).bind fun p22 =>
        (rst p22.2 65 l1 p22.1).bind fun σ24 =>
        m_findCode_b81 F KK σ24 l1 l2
      ) else (
        m_findCode_b81 F KK σ l1 l2
      )
    )
set_option maxRecDepth 4000 in
theorem m_findCode_b33_ok {pF : Nat → List Value → xH → Option (Option Value × xH)} {d : Nat} {aR : Nat} {G : Nat → xC} {T : Nat × Nat} {F : Nat} (hp0 : xNP pF)  : ∀ (n : Nat) (lv : xL) (σ : RS) (l1 : Int32) (l2 : Int32), xg lv 0 = some (.ref aR) → xg lv 1 = some (.int l1) → xg lv 2 = some (.int l2) → ∀ res, m_findCode_b33 F  n σ l1 l2 = some res → xR pF (d + 2) kT282 16 4 false none none (layR aR res G, T) (33, lv, [], (layR aR σ G, T)) := by
  intro n
  induction n with
  | zero => intro lv σ l1 l2 g0 g1 g2 res h; simp [m_findCode_b33] at h
  | succ n hKK =>
    intro lv σ l1 l2 g0 g1 g2 res h
    unfold m_findCode_b33 at h
    dsimp only at h
    refine eE_iload_n lk282_33 g2 ?_
    refine eE_aload_n lk282_34 g0 ?_
    refine eR_getA lk282_35 rf_132 rfl ?_
    refine eE_iload_n lk282_38 g1 ?_
    obtain ⟨x6, h7, h⟩ := Option.bind_eq_some_iff.mp h
    refine eR_iald lk282_39 rfl rfl h7 ?_
    refine eE_icmp (t := 87) lk282_40 (by decide) (fun c8 => ?_) (fun c8 => ?_)
    · rw [if_pos c8] at h
      cases h
      exact eE_end lk282_87 rfl rfl rfl
    · rw [if_neg c8] at h
      refine eE_iload_n lk282_43 g1 ?_
      refine eE_iload_n lk282_44 g2 ?_
      obtain ⟨p9, h10, h⟩ := Option.bind_eq_some_iff.mp h
      refine eE_stat (as := [.int l1, .int l2]) lk282_45 mr_521 na_322 rfl rfl (Nat.le_of_ble_eq_true rfl) mm_322 ws_322 (m_logOf_ok hp0 (d := d + 1) h10) ?_
      refine eE_stI (j := 3) lk282_48 (Or.inr ⟨_, rfl, rfl⟩) (by decide) (fun vq11 gq12 kq13 => ?_)
      have gq14 := kq13 1 _ (by decide) (fun _ => rfl) g1
      have gq15 := kq13 2 _ (by decide) (fun _ => rfl) g2
      have gq16 := kq13 0 _ (by decide) (fun _ => rfl) g0
      refine eE_aload_n lk282_49 gq16 ?_
      refine eR_getA lk282_50 rf_144 rfl ?_
      refine eE_iload_n lk282_53 gq12 ?_
      obtain ⟨x17, h18, h⟩ := Option.bind_eq_some_iff.mp h
      refine eR_iald lk282_54 rfl rfl h18 ?_
      refine eE_iconst (v := 1) lk282_55 (by decide) ?_
      refine eE_icmp (t := 62) lk282_56 (by decide) (fun c19 => ?_) (fun c19 => ?_)
      · rw [if_pos c19] at h
        refine eE_aload_n lk282_62 gq16 ?_
        refine eR_getA lk282_63 rf_157 rfl ?_
        refine eE_iload_n lk282_66 gq14 ?_
        refine eE_iload_n lk282_67 gq15 ?_
        obtain ⟨σ20, h21, h⟩ := Option.bind_eq_some_iff.mp h
        refine eR_iast lk282_68 rfl rfl h21 ?_
        refine eE_aload_n lk282_69 gq16 ?_
        refine eR_getA lk282_70 rf_160 rfl ?_
        refine eE_iload_n lk282_73 gq14 ?_
        refine eE_aload_n lk282_74 gq16 ?_
        refine eE_iload_n lk282_75 gq14 ?_
        refine eE_iload_n lk282_76 gq15 ?_
        obtain ⟨p22, h23, h⟩ := Option.bind_eq_some_iff.mp h
        refine eR_call (as := [.int l1, .int l2]) lk282_77 mr_536 na_257 rfl rfl (Nat.le_of_ble_eq_true rfl) wv_257 wc_257 (m_codeIn_ok hp0 (d := d + 0) h23) ?_
        obtain ⟨σ24, h25, h⟩ := Option.bind_eq_some_iff.mp h
        refine eR_iast lk282_80 rfl rfl h25 ?_
        exact m_findCode_b81_ok hp0 hKK vq11 σ24 l1 l2 gq16 gq14 gq15 _ h
      · rw [if_neg c19] at h
        refine eE_goto (t := 81) lk282_59 (by decide) ?_
        exact m_findCode_b81_ok hp0 hKK vq11 σ l1 l2 gq16 gq14 gq15 _ h
def m_findCode_b0 (F : Nat)  (σ : RS) (l1 : Int32) : Option (RS) :=
  (rld σ 55 l1).bind fun x26 =>
  (rst σ 64 l1 x26).bind fun σ28 =>
  (rld σ28 58 l1).bind fun x30 =>
  (rst σ28 65 l1 x30).bind fun σ32 =>
  (rld σ32 55 l1).bind fun x34 =>
  m_findCode_b33 F  F σ32 l1 (x34 + ((1 : Int32)))
set_option maxRecDepth 4000 in
theorem m_findCode_b0_ok {pF : Nat → List Value → xH → Option (Option Value × xH)} {d : Nat} {aR : Nat} {G : Nat → xC} {T : Nat × Nat} {F : Nat} (hp0 : xNP pF)  : ∀ (lv : xL) (σ : RS) (l1 : Int32), xg lv 0 = some (.ref aR) → xg lv 1 = some (.int l1) → ∀ res, m_findCode_b0 F  σ l1 = some res → xR pF (d + 2) kT282 16 4 false none none (layR aR res G, T) (0, lv, [], (layR aR σ G, T)) := by
  intro lv σ l1 g0 g1 res h
  unfold m_findCode_b0 at h
  refine eE_aload_n lk282_0 g0 ?_
  refine eR_getA lk282_1 rf_157 rfl ?_
  refine eE_iload_n lk282_4 g1 ?_
  refine eE_aload_n lk282_5 g0 ?_
  refine eR_getA lk282_6 rf_129 rfl ?_
  refine eE_iload_n lk282_9 g1 ?_
  obtain ⟨x26, h27, h⟩ := Option.bind_eq_some_iff.mp h
  refine eR_iald lk282_10 rfl rfl h27 ?_
  obtain ⟨σ28, h29, h⟩ := Option.bind_eq_some_iff.mp h
  refine eR_iast lk282_11 rfl rfl h29 ?_
  refine eE_aload_n lk282_12 g0 ?_
  refine eR_getA lk282_13 rf_160 rfl ?_
  refine eE_iload_n lk282_16 g1 ?_
  refine eE_aload_n lk282_17 g0 ?_
  refine eR_getA lk282_18 rf_138 rfl ?_
  refine eE_iload_n lk282_21 g1 ?_
  obtain ⟨x30, h31, h⟩ := Option.bind_eq_some_iff.mp h
  refine eR_iald lk282_22 rfl rfl h31 ?_
  obtain ⟨σ32, h33, h⟩ := Option.bind_eq_some_iff.mp h
  refine eR_iast lk282_23 rfl rfl h33 ?_
  refine eE_aload_n lk282_24 g0 ?_
  refine eR_getA lk282_25 rf_129 rfl ?_
  refine eE_iload_n lk282_28 g1 ?_
  obtain ⟨x34, h35, h⟩ := Option.bind_eq_some_iff.mp h
  refine eR_iald lk282_29 rfl rfl h35 ?_
  refine eE_iconst (v := 1) lk282_30 (by decide) ?_
  refine eE_iadd lk282_31 ?_
  refine eE_stI (j := 2) lk282_32 (Or.inr ⟨_, rfl, rfl⟩) (by decide) (fun vq36 gq37 kq38 => ?_)
  have gq39 := kq38 1 _ (by decide) (fun _ => rfl) g1
  have gq40 := kq38 0 _ (by decide) (fun _ => rfl) g0
  exact m_findCode_b33_ok hp0  F vq36 σ32 l1 (x34 + ((1 : Int32))) gq40 gq39 gq37 _ h
def m_findCode (F : Nat) (σ : RS) (l1 : Int32) : Option (RS) := m_findCode_b0 F σ l1
theorem m_findCode_ok {pF : Nat → List Value → xH → Option (Option Value × xH)} (hp0 : xNP pF) {d : Nat} {aR : Nat} {G : Nat → xC} {T : Nat × Nat} {σ : RS} {F : Nat} {l1 : Int32} {res : RS} (h : m_findCode F σ l1 = some res) : xCo pF (d + 3) 282 [.ref aR, .int l1] (layR aR σ G, T) none (layR aR res G, T) := by
  unfold m_findCode at h
  exact xCo_R kk_282 mo_282 ni_282 xm_282 (Nat.le_of_ble_eq_true rfl) (hp0 _ (by decide) (by decide) _ _) (m_findCode_b0_ok hp0 _ σ l1 rfl rfl _ h)
/-! layDisk (314), depth 1 -/
def m_layDisk  (σ : RS) (l1 : Int32) (l2 : Int32) : Option (RS) :=
  (rldL σ 36 (l1 >>> (((3 : Int32)) &&& 31))).bind fun x7 =>
  (rstL σ 36 (l1 >>> (((3 : Int32)) &&& 31)) (((x7 &&& ((((255 : Int64)) <<< ((((8 : Int32)) * (l1 &&& ((7 : Int32)))).toInt64 &&& 63)) ^^^ ((-1 : Int64)))) ||| (((l2.toInt64) &&& ((255 : Int64))) <<< ((((8 : Int32)) * (l1 &&& ((7 : Int32)))).toInt64 &&& 63))))).bind fun σ9 =>
  some σ9
set_option maxRecDepth 4000 in
theorem m_layDisk_run {pF : Nat → List Value → xH → Option (Option Value × xH)} {d : Nat} {aR : Nat} {G : Nat → xC} {T : Nat × Nat} (hp0 : xNP pF)  : ∀ (lv : xL) (σ : RS) (l1 : Int32) (l2 : Int32), xg lv 0 = some (.ref aR) → xg lv 1 = some (.int l1) → xg lv 2 = some (.int l2) → ∀ res, m_layDisk  σ l1 l2 = some res → xR pF (d + 0) kT314 16 4 false none none (layR aR res G, T) (0, lv, [], (layR aR σ G, T)) := by
  intro lv σ l1 l2 g0 g1 g2 res h
  unfold m_layDisk at h
  refine eE_bipush (v := 8) lk314_0 (by decide) ?_
  refine eE_iload_n lk314_2 g1 ?_
  refine eE_bipush (v := 7) lk314_3 (by decide) ?_
  refine eE_iand lk314_5 ?_
  refine eE_imul lk314_6 ?_
  refine eE_stI (j := 3) lk314_7 (Or.inr ⟨_, rfl, rfl⟩) (by decide) (fun vq1 gq2 kq3 => ?_)
  have gq4 := kq3 1 _ (by decide) (fun _ => rfl) g1
  have gq5 := kq3 2 _ (by decide) (fun _ => rfl) g2
  have gq6 := kq3 0 _ (by decide) (fun _ => rfl) g0
  refine eE_aload_n lk314_8 gq6 ?_
  refine eR_getA lk314_9 rf_75 rfl ?_
  refine eE_iload_n lk314_12 gq4 ?_
  refine eE_iconst (v := 3) lk314_13 (by decide) ?_
  refine eE_ishr lk314_14 ?_
  refine eE_aload_n lk314_15 gq6 ?_
  refine eR_getA lk314_16 rf_75 rfl ?_
  refine eE_iload_n lk314_19 gq4 ?_
  refine eE_iconst (v := 3) lk314_20 (by decide) ?_
  refine eE_ishr lk314_21 ?_
  obtain ⟨x7, h8, h⟩ := Option.bind_eq_some_iff.mp h
  refine eR_lald lk314_22 rfl rfl h8 ?_
  refine eE_ldc2_w (v := 255) lk314_23 xl_396 ?_
  refine eE_iload_n lk314_26 gq2 ?_
  refine eE_lshl lk314_27 ?_
  refine eE_ldc2_w (v := (-1)) lk314_28 xl_398 ?_
  refine eE_lxor lk314_31 ?_
  refine eE_land lk314_32 ?_
  refine eE_iload_n lk314_33 gq5 ?_
  refine eE_i2l lk314_34 ?_
  refine eE_ldc2_w (v := 255) lk314_35 xl_396 ?_
  refine eE_land lk314_38 ?_
  refine eE_iload_n lk314_39 gq2 ?_
  refine eE_lshl lk314_40 ?_
  refine eE_lor lk314_41 ?_
  obtain ⟨σ9, h10, h⟩ := Option.bind_eq_some_iff.mp h
  refine eR_last lk314_42 rfl rfl h10 ?_
  cases h
  exact eE_end lk314_43 rfl rfl rfl
theorem m_layDisk_ok {pF : Nat → List Value → xH → Option (Option Value × xH)} (hp0 : xNP pF) {d : Nat} {aR : Nat} {G : Nat → xC} {T : Nat × Nat} {σ : RS} {l1 : Int32} {l2 : Int32} {res : RS} (h : m_layDisk σ l1 l2 = some res) : xCo pF (d + 1) 314 [.ref aR, .int l1, .int l2] (layR aR σ G, T) none (layR aR res G, T) := by
  exact xCo_R kk_314 mo_314 ni_314 xm_314 (Nat.le_of_ble_eq_true rfl) (hp0 _ (by decide) (by decide) _ _) (m_layDisk_run hp0 _ σ l1 l2 rfl rfl rfl _ h)
/-! lay (312), depth 2 -/
def m_lay  (σ : RS) (l1 : Int32) (l2 : Int32) : Option (RS) :=
  (rld σ 37 l1).bind fun x1 =>
  (m_layDisk σ ((((14000 : Int32)) * l1) + x1) ((l2 >>> (((24 : Int32)) &&& 31)).toInt8.toInt32)).bind fun p9 =>
  (m_layDisk p9 (((((14000 : Int32)) * l1) + x1) + ((1 : Int32))) ((l2 >>> (((16 : Int32)) &&& 31)).toInt8.toInt32)).bind fun p11 =>
  (m_layDisk p11 (((((14000 : Int32)) * l1) + x1) + ((2 : Int32))) ((l2 >>> (((8 : Int32)) &&& 31)).toInt8.toInt32)).bind fun p13 =>
  (m_layDisk p13 (((((14000 : Int32)) * l1) + x1) + ((3 : Int32))) (l2.toInt8.toInt32)).bind fun p15 =>
  (rld p15 37 l1).bind fun x17 =>
  (rst p15 37 l1 ((x17 + ((4 : Int32))))).bind fun σ19 =>
  some σ19
set_option maxRecDepth 4000 in
theorem m_lay_run {pF : Nat → List Value → xH → Option (Option Value × xH)} {d : Nat} {aR : Nat} {G : Nat → xC} {T : Nat × Nat} (hp0 : xNP pF)  : ∀ (lv : xL) (σ : RS) (l1 : Int32) (l2 : Int32), xg lv 0 = some (.ref aR) → xg lv 1 = some (.int l1) → xg lv 2 = some (.int l2) → ∀ res, m_lay  σ l1 l2 = some res → xR pF (d + 1) kT312 16 4 false none none (layR aR res G, T) (0, lv, [], (layR aR σ G, T)) := by
  intro lv σ l1 l2 g0 g1 g2 res h
  unfold m_lay at h
  refine eE_sipush (v := 14000) lk312_0 (by decide) ?_
  refine eE_iload_n lk312_3 g1 ?_
  refine eE_imul lk312_4 ?_
  refine eE_aload_n lk312_5 g0 ?_
  refine eR_getA lk312_6 rf_78 rfl ?_
  refine eE_iload_n lk312_9 g1 ?_
  obtain ⟨x1, h2, h⟩ := Option.bind_eq_some_iff.mp h
  refine eR_iald lk312_10 rfl rfl h2 ?_
  refine eE_iadd lk312_11 ?_
  refine eE_stI (j := 3) lk312_12 (Or.inr ⟨_, rfl, rfl⟩) (by decide) (fun vq3 gq4 kq5 => ?_)
  have gq6 := kq5 1 _ (by decide) (fun _ => rfl) g1
  have gq7 := kq5 2 _ (by decide) (fun _ => rfl) g2
  have gq8 := kq5 0 _ (by decide) (fun _ => rfl) g0
  refine eE_aload_n lk312_13 gq8 ?_
  refine eE_iload_n lk312_14 gq4 ?_
  refine eE_iload_n lk312_15 gq7 ?_
  refine eE_bipush (v := 24) lk312_16 (by decide) ?_
  refine eE_ishr lk312_18 ?_
  refine eE_i2b lk312_19 ?_
  obtain ⟨p9, h10, h⟩ := Option.bind_eq_some_iff.mp h
  refine eR_call (as := [.int ((((14000 : Int32)) * l1) + x1), .int ((l2 >>> (((24 : Int32)) &&& 31)).toInt8.toInt32)]) lk312_20 mr_514 na_314 rfl rfl (Nat.le_of_ble_eq_true rfl) wv_314 wc_314 (m_layDisk_ok hp0 (d := d + 0) h10) ?_
  refine eE_aload_n lk312_23 gq8 ?_
  refine eE_iload_n lk312_24 gq4 ?_
  refine eE_iconst (v := 1) lk312_25 (by decide) ?_
  refine eE_iadd lk312_26 ?_
  refine eE_iload_n lk312_27 gq7 ?_
  refine eE_bipush (v := 16) lk312_28 (by decide) ?_
  refine eE_ishr lk312_30 ?_
  refine eE_i2b lk312_31 ?_
  obtain ⟨p11, h12, h⟩ := Option.bind_eq_some_iff.mp h
  refine eR_call (as := [.int (((((14000 : Int32)) * l1) + x1) + ((1 : Int32))), .int ((l2 >>> (((16 : Int32)) &&& 31)).toInt8.toInt32)]) lk312_32 mr_514 na_314 rfl rfl (Nat.le_of_ble_eq_true rfl) wv_314 wc_314 (m_layDisk_ok hp0 (d := d + 0) h12) ?_
  refine eE_aload_n lk312_35 gq8 ?_
  refine eE_iload_n lk312_36 gq4 ?_
  refine eE_iconst (v := 2) lk312_37 (by decide) ?_
  refine eE_iadd lk312_38 ?_
  refine eE_iload_n lk312_39 gq7 ?_
  refine eE_bipush (v := 8) lk312_40 (by decide) ?_
  refine eE_ishr lk312_42 ?_
  refine eE_i2b lk312_43 ?_
  obtain ⟨p13, h14, h⟩ := Option.bind_eq_some_iff.mp h
  refine eR_call (as := [.int (((((14000 : Int32)) * l1) + x1) + ((2 : Int32))), .int ((l2 >>> (((8 : Int32)) &&& 31)).toInt8.toInt32)]) lk312_44 mr_514 na_314 rfl rfl (Nat.le_of_ble_eq_true rfl) wv_314 wc_314 (m_layDisk_ok hp0 (d := d + 0) h14) ?_
  refine eE_aload_n lk312_47 gq8 ?_
  refine eE_iload_n lk312_48 gq4 ?_
  refine eE_iconst (v := 3) lk312_49 (by decide) ?_
  refine eE_iadd lk312_50 ?_
  refine eE_iload_n lk312_51 gq7 ?_
  refine eE_i2b lk312_52 ?_
  obtain ⟨p15, h16, h⟩ := Option.bind_eq_some_iff.mp h
  refine eR_call (as := [.int (((((14000 : Int32)) * l1) + x1) + ((3 : Int32))), .int (l2.toInt8.toInt32)]) lk312_53 mr_514 na_314 rfl rfl (Nat.le_of_ble_eq_true rfl) wv_314 wc_314 (m_layDisk_ok hp0 (d := d + 0) h16) ?_
  refine eE_aload_n lk312_56 gq8 ?_
  refine eR_getA lk312_57 rf_78 rfl ?_
  refine eE_iload_n lk312_60 gq6 ?_
  refine eE_dup2 lk312_61 rfl rfl ?_
  obtain ⟨x17, h18, h⟩ := Option.bind_eq_some_iff.mp h
  refine eR_iald lk312_62 rfl rfl h18 ?_
  refine eE_iconst (v := 4) lk312_63 (by decide) ?_
  refine eE_iadd lk312_64 ?_
  obtain ⟨σ19, h20, h⟩ := Option.bind_eq_some_iff.mp h
  refine eR_iast lk312_65 rfl rfl h20 ?_
  cases h
  exact eE_end lk312_66 rfl rfl rfl
theorem m_lay_ok {pF : Nat → List Value → xH → Option (Option Value × xH)} (hp0 : xNP pF) {d : Nat} {aR : Nat} {G : Nat → xC} {T : Nat × Nat} {σ : RS} {l1 : Int32} {l2 : Int32} {res : RS} (h : m_lay σ l1 l2 = some res) : xCo pF (d + 2) 312 [.ref aR, .int l1, .int l2] (layR aR σ G, T) none (layR aR res G, T) := by
  exact xCo_R kk_312 mo_312 ni_312 xm_312 (Nat.le_of_ble_eq_true rfl) (hp0 _ (by decide) (by decide) _ _) (m_lay_run hp0 _ σ l1 l2 rfl rfl rfl _ h)
/-! soil (360), depth 1 -/
def m_soil  (σ : RS) (l1 : Int32) : Option (RS) :=
  (rld σ 71 l1).bind fun x1 =>
  if xc0 .eq x1 = true then (
    (rst σ 71 l1 ((((1 : Int32)) &&& 1))).bind fun σ4 =>
    (rld σ4 72 l1).bind fun x6 =>
    (rst σ4 32 l1 (((σ4.1 1 0) + x6))).bind fun σ8 =>
    (rst σ8 31 l1 ((σ8.1 2 0))).bind fun σ10 =>
    (some (setI σ10 2 0 ((σ10.1 2 0) + ((1 : Int32))))).bind fun σ12 =>
    some σ12
  ) else (
    some σ
  )
set_option maxRecDepth 4000 in
theorem m_soil_run {pF : Nat → List Value → xH → Option (Option Value × xH)} {d : Nat} {aR : Nat} {G : Nat → xC} {T : Nat × Nat} (hp0 : xNP pF)  : ∀ (lv : xL) (σ : RS) (l1 : Int32), xg lv 0 = some (.ref aR) → xg lv 1 = some (.int l1) → ∀ res, m_soil  σ l1 = some res → xR pF (d + 0) kT360 16 2 false none none (layR aR res G, T) (0, lv, [], (layR aR σ G, T)) := by
  intro lv σ l1 g0 g1 res h
  unfold m_soil at h
  refine eE_aload_n lk360_0 g0 ?_
  refine eR_getA lk360_1 rf_179 rfl ?_
  refine eE_iload_n lk360_4 g1 ?_
  obtain ⟨x1, h2, h⟩ := Option.bind_eq_some_iff.mp h
  refine eR_bald lk360_5 rfl (Or.inr rfl) h2 ?_
  refine eE_if (t := 10) lk360_6 (by decide) (fun c3 => ?_) (fun c3 => ?_)
  · rw [if_pos c3] at h
    refine eE_aload_n lk360_10 g0 ?_
    refine eR_getA lk360_11 rf_179 rfl ?_
    refine eE_iload_n lk360_14 g1 ?_
    refine eE_iconst (v := 1) lk360_15 (by decide) ?_
    obtain ⟨σ4, h5, h⟩ := Option.bind_eq_some_iff.mp h
    refine eR_zast lk360_16 rfl rfl rfl h5 ?_
    refine eE_aload_n lk360_17 g0 ?_
    refine eR_getA lk360_18 rf_71 rfl ?_
    refine eE_iload_n lk360_21 g1 ?_
    refine eE_aload_n lk360_22 g0 ?_
    refine eR_get lk360_23 rf_431 rfl ?_
    refine eE_aload_n lk360_26 g0 ?_
    refine eR_getA lk360_27 rf_182 rfl ?_
    refine eE_iload_n lk360_30 g1 ?_
    obtain ⟨x6, h7, h⟩ := Option.bind_eq_some_iff.mp h
    refine eR_iald lk360_31 rfl rfl h7 ?_
    refine eE_iadd lk360_32 ?_
    obtain ⟨σ8, h9, h⟩ := Option.bind_eq_some_iff.mp h
    refine eR_iast lk360_33 rfl rfl h9 ?_
    refine eE_aload_n lk360_34 g0 ?_
    refine eR_getA lk360_35 rf_68 rfl ?_
    refine eE_iload_n lk360_38 g1 ?_
    refine eE_aload_n lk360_39 g0 ?_
    refine eR_get lk360_40 rf_421 rfl ?_
    obtain ⟨σ10, h11, h⟩ := Option.bind_eq_some_iff.mp h
    refine eR_iast lk360_43 rfl rfl h11 ?_
    refine eE_aload_n lk360_44 g0 ?_
    refine eE_dup lk360_45 rfl ?_
    refine eR_get lk360_46 rf_421 rfl ?_
    refine eE_iconst (v := 1) lk360_49 (by decide) ?_
    refine eE_iadd lk360_50 ?_
    obtain ⟨σ12, h13, h⟩ := Option.bind_eq_some_iff.mp h
    refine eR_putS lk360_51 rf_421 rfl (by decide) pf_2.1 pf_2.2 h13 ?_
    cases h
    exact eE_end lk360_54 rfl rfl rfl
  · rw [if_neg c3] at h
    cases h
    exact eE_end lk360_9 rfl rfl rfl
theorem m_soil_ok {pF : Nat → List Value → xH → Option (Option Value × xH)} (hp0 : xNP pF) {d : Nat} {aR : Nat} {G : Nat → xC} {T : Nat × Nat} {σ : RS} {l1 : Int32} {res : RS} (h : m_soil σ l1 = some res) : xCo pF (d + 1) 360 [.ref aR, .int l1] (layR aR σ G, T) none (layR aR res G, T) := by
  exact xCo_R kk_360 mo_360 ni_360 xm_360 (Nat.le_of_ble_eq_true rfl) (hp0 _ (by decide) (by decide) _ _) (m_soil_run hp0 _ σ l1 rfl rfl _ h)
/-! termAt (372), depth 2 -/
def m_termAt_b29  (σ : RS) (s0 : Int32) : Option (Int32 × RS) :=
  some (s0, σ)
set_option maxRecDepth 4000 in
theorem m_termAt_b29_ok {pF : Nat → List Value → xH → Option (Option Value × xH)} {d : Nat} {aR : Nat} {G : Nat → xC} {T : Nat × Nat} (hp0 : xNP pF)  : ∀ (lv : xL) (σ : RS) (s0 : Int32), xg lv 0 = some (.ref aR) → ∀ res, m_termAt_b29  σ s0 = some res → xR pF (d + 1) kT372 16 3 false (some .int) (some (.int res.1)) (layR aR res.2 G, T) (29, lv, [.int s0], (layR aR σ G, T)) := by
  intro lv σ s0 g0 res h
  unfold m_termAt_b29 at h
  cases h
  exact eE_end lk372_29 rfl rfl rfl
def m_termAt_b0  (σ : RS) (l1 : Int32) (l2 : Int32) : Option (Int32 × RS) :=
  (rld σ 55 l1).bind fun x1 =>
  if xc2 .ne l2 x1 = true then (
    (m_logOf l1 l2).bind fun p4 =>
    (rld σ 59 p4).bind fun x6 =>
    m_termAt_b29  σ x6
  ) else (
    (rld σ 57 l1).bind fun x8 =>
    m_termAt_b29  σ x8
  )
set_option maxRecDepth 4000 in
theorem m_termAt_b0_ok {pF : Nat → List Value → xH → Option (Option Value × xH)} {d : Nat} {aR : Nat} {G : Nat → xC} {T : Nat × Nat} (hp0 : xNP pF)  : ∀ (lv : xL) (σ : RS) (l1 : Int32) (l2 : Int32), xg lv 0 = some (.ref aR) → xg lv 1 = some (.int l1) → xg lv 2 = some (.int l2) → ∀ res, m_termAt_b0  σ l1 l2 = some res → xR pF (d + 1) kT372 16 3 false (some .int) (some (.int res.1)) (layR aR res.2 G, T) (0, lv, [], (layR aR σ G, T)) := by
  intro lv σ l1 l2 g0 g1 g2 res h
  unfold m_termAt_b0 at h
  refine eE_iload_n lk372_0 g2 ?_
  refine eE_aload_n lk372_1 g0 ?_
  refine eR_getA lk372_2 rf_129 rfl ?_
  refine eE_iload_n lk372_5 g1 ?_
  obtain ⟨x1, h2, h⟩ := Option.bind_eq_some_iff.mp h
  refine eR_iald lk372_6 rfl rfl h2 ?_
  refine eE_icmp (t := 19) lk372_7 (by decide) (fun c3 => ?_) (fun c3 => ?_)
  · rw [if_pos c3] at h
    refine eE_aload_n lk372_19 g0 ?_
    refine eR_getA lk372_20 rf_141 rfl ?_
    refine eE_iload_n lk372_23 g1 ?_
    refine eE_iload_n lk372_24 g2 ?_
    obtain ⟨p4, h5, h⟩ := Option.bind_eq_some_iff.mp h
    refine eE_stat (as := [.int l1, .int l2]) lk372_25 mr_521 na_322 rfl rfl (Nat.le_of_ble_eq_true rfl) mm_322 ws_322 (m_logOf_ok hp0 (d := d + 0) h5) ?_
    obtain ⟨x6, h7, h⟩ := Option.bind_eq_some_iff.mp h
    refine eR_iald lk372_28 rfl rfl h7 ?_
    exact m_termAt_b29_ok hp0  lv σ x6 g0 _ h
  · rw [if_neg c3] at h
    refine eE_aload_n lk372_10 g0 ?_
    refine eR_getA lk372_11 rf_135 rfl ?_
    refine eE_iload_n lk372_14 g1 ?_
    obtain ⟨x8, h9, h⟩ := Option.bind_eq_some_iff.mp h
    refine eR_iald lk372_15 rfl rfl h9 ?_
    refine eE_goto (t := 29) lk372_16 (by decide) ?_
    exact m_termAt_b29_ok hp0  lv σ x8 g0 _ h
def m_termAt (σ : RS) (l1 : Int32) (l2 : Int32) : Option (Int32 × RS) := m_termAt_b0 σ l1 l2
theorem m_termAt_ok {pF : Nat → List Value → xH → Option (Option Value × xH)} (hp0 : xNP pF) {d : Nat} {aR : Nat} {G : Nat → xC} {T : Nat × Nat} {σ : RS} {l1 : Int32} {l2 : Int32} {res : Int32 × RS} (h : m_termAt σ l1 l2 = some res) : xCo pF (d + 2) 372 [.ref aR, .int l1, .int l2] (layR aR σ G, T) (some (.int res.1)) (layR aR res.2 G, T) := by
  unfold m_termAt at h
  exact xCo_R kk_372 mo_372 ni_372 xm_372 (Nat.le_of_ble_eq_true rfl) (hp0 _ (by decide) (by decide) _ _) (m_termAt_b0_ok hp0 _ σ l1 l2 rfl rfl rfl _ h)
/-! append (244), depth 4 -/
def m_append_b453 (F : Nat)  (σ : RS) (l1 : Int32) : Option (RS) :=
  (m_soil σ l1).bind fun p1 =>
  some p1
set_option maxRecDepth 4000 in
theorem m_append_b453_ok {pF : Nat → List Value → xH → Option (Option Value × xH)} {d : Nat} {aR : Nat} {G : Nat → xC} {T : Nat × Nat} {F : Nat} (hp0 : xNP pF)  : ∀ (lv : xL) (σ : RS) (l1 : Int32), xg lv 0 = some (.ref aR) → xg lv 1 = some (.int l1) → ∀ res, m_append_b453 F  σ l1 = some res → xR pF (d + 3) kT244 16 11 false none none (layR aR res G, T) (453, lv, [], (layR aR σ G, T)) := by
  intro lv σ l1 g0 g1 res h
  unfold m_append_b453 at h
  refine eE_aload_n lk244_453 g0 ?_
  refine eE_iload_n lk244_454 g1 ?_
  obtain ⟨p1, h2, h⟩ := Option.bind_eq_some_iff.mp h
  refine eR_call (as := [.int l1]) lk244_455 mr_505 na_360 rfl rfl (Nat.le_of_ble_eq_true rfl) wv_360 wc_360 (m_soil_ok hp0 (d := d + 2) h2) ?_
  cases h
  exact eE_end lk244_458 rfl rfl rfl
def m_append_b384 (F : Nat)  : Nat → RS → Int32 → Int32 → Int32 → Int32 → Int32 → Int32 → Option (RS)
  | 0, _, _, _, _, _, _, _ => none
  | n + 1, σ, l1, l3, l4, l8, l9, l10 =>
    let KK := m_append_b384 F  n
    if xc2 .ge l10 l4 = true then (
      (rld σ 37 l9).bind fun x4 =>
      (rst σ 37 l9 ((x4 + l4))).bind fun σ6 =>
      if xc2 .ne l3 ((1 : Int32)) = true then (
        m_append_b453 F  σ6 l1
      ) else (
        (m_findCode F σ6 l1).bind fun p9 =>
        m_append_b453 F  p9 l1
      )
    ) else (
      (rld σ 37 l9).bind fun x11 =>
      (m_inLog σ ((((256 : Int32)) * l8) + l10)).bind fun p13 =>
      (m_layDisk p13.2 (((((14000 : Int32)) * l9) + x11) + l10) p13.1).bind fun p15 =>
      KK p15 l1 l3 l4 l8 l9 (l10 + (1 : Int32))
    )
set_option maxRecDepth 4000 in
theorem m_append_b384_ok {pF : Nat → List Value → xH → Option (Option Value × xH)} {d : Nat} {aR : Nat} {G : Nat → xC} {T : Nat × Nat} {F : Nat} (hp0 : xNP pF)  : ∀ (n : Nat) (lv : xL) (σ : RS) (l1 : Int32) (l3 : Int32) (l4 : Int32) (l8 : Int32) (l9 : Int32) (l10 : Int32), xg lv 0 = some (.ref aR) → xg lv 1 = some (.int l1) → xg lv 3 = some (.int l3) → xg lv 4 = some (.int l4) → xg lv 8 = some (.int l8) → xg lv 9 = some (.int l9) → xg lv 10 = some (.int l10) → ∀ res, m_append_b384 F  n σ l1 l3 l4 l8 l9 l10 = some res → xR pF (d + 3) kT244 16 11 false none none (layR aR res G, T) (384, lv, [], (layR aR σ G, T)) := by
  intro n
  induction n with
  | zero => intro lv σ l1 l3 l4 l8 l9 l10 g0 g1 g3 g4 g8 g9 g10 res h; simp [m_append_b384] at h
  | succ n hKK =>
    intro lv σ l1 l3 l4 l8 l9 l10 g0 g1 g3 g4 g8 g9 g10 res h
    unfold m_append_b384 at h
    dsimp only at h
    refine eE_iload lk244_384 g10 ?_
    refine eE_iload lk244_386 g4 ?_
    refine eE_icmp (t := 431) lk244_388 (by decide) (fun c3 => ?_) (fun c3 => ?_)
    · rw [if_pos c3] at h
      refine eE_aload_n lk244_431 g0 ?_
      refine eR_getA lk244_432 rf_78 rfl ?_
      refine eE_iload lk244_435 g9 ?_
      refine eE_dup2 lk244_437 rfl rfl ?_
      obtain ⟨x4, h5, h⟩ := Option.bind_eq_some_iff.mp h
      refine eR_iald lk244_438 rfl rfl h5 ?_
      refine eE_iload lk244_439 g4 ?_
      refine eE_iadd lk244_441 ?_
      obtain ⟨σ6, h7, h⟩ := Option.bind_eq_some_iff.mp h
      refine eR_iast lk244_442 rfl rfl h7 ?_
      refine eE_iload_n lk244_443 g3 ?_
      refine eE_iconst (v := 1) lk244_444 (by decide) ?_
      refine eE_icmp (t := 453) lk244_445 (by decide) (fun c8 => ?_) (fun c8 => ?_)
      · rw [if_pos c8] at h
        exact m_append_b453_ok hp0  lv σ6 l1 g0 g1 _ h
      · rw [if_neg c8] at h
        refine eE_aload_n lk244_448 g0 ?_
        refine eE_iload_n lk244_449 g1 ?_
        obtain ⟨p9, h10, h⟩ := Option.bind_eq_some_iff.mp h
        refine eR_call (as := [.int l1]) lk244_450 mr_533 na_282 rfl rfl (Nat.le_of_ble_eq_true rfl) wv_282 wc_282 (m_findCode_ok hp0 (d := d + 0) h10) ?_
        exact m_append_b453_ok hp0  lv p9 l1 g0 g1 _ h
    · rw [if_neg c3] at h
      refine eE_aload_n lk244_391 g0 ?_
      refine eE_sipush (v := 14000) lk244_392 (by decide) ?_
      refine eE_iload lk244_395 g9 ?_
      refine eE_imul lk244_397 ?_
      refine eE_aload_n lk244_398 g0 ?_
      refine eR_getA lk244_399 rf_78 rfl ?_
      refine eE_iload lk244_402 g9 ?_
      obtain ⟨x11, h12, h⟩ := Option.bind_eq_some_iff.mp h
      refine eR_iald lk244_404 rfl rfl h12 ?_
      refine eE_iadd lk244_405 ?_
      refine eE_iload lk244_406 g10 ?_
      refine eE_iadd lk244_408 ?_
      refine eE_aload_n lk244_409 g0 ?_
      refine eE_sipush (v := 256) lk244_410 (by decide) ?_
      refine eE_iload lk244_413 g8 ?_
      refine eE_imul lk244_415 ?_
      refine eE_iload lk244_416 g10 ?_
      refine eE_iadd lk244_418 ?_
      obtain ⟨p13, h14, h⟩ := Option.bind_eq_some_iff.mp h
      refine eR_call (as := [.int ((((256 : Int32)) * l8) + l10)]) lk244_419 mr_530 na_296 rfl rfl (Nat.le_of_ble_eq_true rfl) wv_296 wc_296 (m_inLog_ok hp0 (d := d + 2) h14) ?_
      obtain ⟨p15, h16, h⟩ := Option.bind_eq_some_iff.mp h
      refine eR_call (as := [.int (((((14000 : Int32)) * l9) + x11) + l10), .int p13.1]) lk244_422 mr_514 na_314 rfl rfl (Nat.le_of_ble_eq_true rfl) wv_314 wc_314 (m_layDisk_ok hp0 (d := d + 2) h16) ?_
      refine eE_inc (j := 10) (v := l10 + (1 : Int32)) lk244_425 g10 rfl (by decide) (fun vq17 gq18 kq19 => ?_)
      have gq20 := kq19 1 _ (by decide) (fun _ => rfl) g1
      have gq21 := kq19 3 _ (by decide) (fun _ => rfl) g3
      have gq22 := kq19 4 _ (by decide) (fun _ => rfl) g4
      have gq23 := kq19 8 _ (by decide) (fun _ => rfl) g8
      have gq24 := kq19 9 _ (by decide) (fun _ => rfl) g9
      have gq25 := kq19 0 _ (by decide) (fun _ => rfl) g0
      refine eE_goto (t := 384) lk244_428 (by decide) ?_
      exact hKK vq17 p15 l1 l3 l4 l8 l9 (l10 + (1 : Int32)) gq25 gq20 gq21 gq22 gq23 gq24 gq18 _ h
def m_append_b228 (F : Nat)  (σ : RS) (l1 : Int32) (l2 : Int32) (l3 : Int32) (l4 : Int32) : Option (RS) :=
  (rld σ 56 l1).bind fun x26 =>
  (rst σ 56 l1 ((x26 + ((1 : Int32))))).bind fun σ28 =>
  (rld σ28 56 l1).bind fun x30 =>
  (m_logOf l1 x30).bind fun p32 =>
  (rst σ28 59 p32 l2).bind fun σ42 =>
  (rst σ42 60 p32 l3).bind fun σ44 =>
  (rst σ44 61 p32 l4).bind fun σ46 =>
  (rld σ46 49 l1).bind fun x48 =>
  (rld σ46 50 (((((12 : Int32)) * l1) + x48) - ((1 : Int32)))).bind fun x50 =>
  (m_fileOf l1 x50).bind fun p52 =>
  if ((2 : Int32)) = 0 then none else
  (rst σ46 44 (p52 / ((2 : Int32))) ((((1 : Int32)) &&& 1))).bind fun σ64 =>
  (rld σ64 37 p52).bind fun x66 =>
  (rst σ64 62 p32 x66).bind fun σ68 =>
  (m_lay σ68 p52 (((17 : Int32)) + l4)).bind fun p70 =>
  (m_lay p70 p52 ((0 : Int32))).bind fun p72 =>
  (m_lay p72 p52 l2).bind fun p74 =>
  (m_lay p74 p52 l3).bind fun p76 =>
  (m_lay p76 p52 l4).bind fun p78 =>
  (m_lay p78 p52 ((0 : Int32))).bind fun p80 =>
  (rld p80 37 p52).bind fun x82 =>
  (rst p80 37 p52 ((x82 + ((1 : Int32))))).bind fun σ84 =>
  m_append_b384 F  F σ84 l1 l3 l4 p32 p52 ((0 : Int32))
set_option maxRecDepth 4000 in
theorem m_append_b228_ok {pF : Nat → List Value → xH → Option (Option Value × xH)} {d : Nat} {aR : Nat} {G : Nat → xC} {T : Nat × Nat} {F : Nat} (hp0 : xNP pF)  : ∀ (lv : xL) (σ : RS) (l1 : Int32) (l2 : Int32) (l3 : Int32) (l4 : Int32), xg lv 0 = some (.ref aR) → xg lv 1 = some (.int l1) → xg lv 2 = some (.int l2) → xg lv 3 = some (.int l3) → xg lv 4 = some (.int l4) → ∀ res, m_append_b228 F  σ l1 l2 l3 l4 = some res → xR pF (d + 3) kT244 16 11 false none none (layR aR res G, T) (228, lv, [], (layR aR σ G, T)) := by
  intro lv σ l1 l2 l3 l4 g0 g1 g2 g3 g4 res h
  unfold m_append_b228 at h
  refine eE_aload_n lk244_228 g0 ?_
  refine eR_getA lk244_229 rf_132 rfl ?_
  refine eE_iload_n lk244_232 g1 ?_
  refine eE_dup2 lk244_233 rfl rfl ?_
  obtain ⟨x26, h27, h⟩ := Option.bind_eq_some_iff.mp h
  refine eR_iald lk244_234 rfl rfl h27 ?_
  refine eE_iconst (v := 1) lk244_235 (by decide) ?_
  refine eE_iadd lk244_236 ?_
  obtain ⟨σ28, h29, h⟩ := Option.bind_eq_some_iff.mp h
  refine eR_iast lk244_237 rfl rfl h29 ?_
  refine eE_iload_n lk244_238 g1 ?_
  refine eE_aload_n lk244_239 g0 ?_
  refine eR_getA lk244_240 rf_132 rfl ?_
  refine eE_iload_n lk244_243 g1 ?_
  obtain ⟨x30, h31, h⟩ := Option.bind_eq_some_iff.mp h
  refine eR_iald lk244_244 rfl rfl h31 ?_
  obtain ⟨p32, h33, h⟩ := Option.bind_eq_some_iff.mp h
  refine eE_stat (as := [.int l1, .int x30]) lk244_245 mr_521 na_322 rfl rfl (Nat.le_of_ble_eq_true rfl) mm_322 ws_322 (m_logOf_ok hp0 (d := d + 2) h33) ?_
  refine eE_stI (j := 8) lk244_248 (Or.inl rfl) (by decide) (fun vq34 gq35 kq36 => ?_)
  have gq37 := kq36 1 _ (by decide) (fun _ => rfl) g1
  have gq38 := kq36 2 _ (by decide) (fun _ => rfl) g2
  have gq39 := kq36 3 _ (by decide) (fun _ => rfl) g3
  have gq40 := kq36 4 _ (by decide) (fun _ => rfl) g4
  have gq41 := kq36 0 _ (by decide) (fun _ => rfl) g0
  refine eE_aload_n lk244_250 gq41 ?_
  refine eR_getA lk244_251 rf_141 rfl ?_
  refine eE_iload lk244_254 gq35 ?_
  refine eE_iload_n lk244_256 gq38 ?_
  obtain ⟨σ42, h43, h⟩ := Option.bind_eq_some_iff.mp h
  refine eR_iast lk244_257 rfl rfl h43 ?_
  refine eE_aload_n lk244_258 gq41 ?_
  refine eR_getA lk244_259 rf_144 rfl ?_
  refine eE_iload lk244_262 gq35 ?_
  refine eE_iload_n lk244_264 gq39 ?_
  obtain ⟨σ44, h45, h⟩ := Option.bind_eq_some_iff.mp h
  refine eR_iast lk244_265 rfl rfl h45 ?_
  refine eE_aload_n lk244_266 gq41 ?_
  refine eR_getA lk244_267 rf_147 rfl ?_
  refine eE_iload lk244_270 gq35 ?_
  refine eE_iload lk244_272 gq40 ?_
  obtain ⟨σ46, h47, h⟩ := Option.bind_eq_some_iff.mp h
  refine eR_iast lk244_274 rfl rfl h47 ?_
  refine eE_iload_n lk244_275 gq37 ?_
  refine eE_aload_n lk244_276 gq41 ?_
  refine eR_getA lk244_277 rf_114 rfl ?_
  refine eE_bipush (v := 12) lk244_280 (by decide) ?_
  refine eE_iload_n lk244_282 gq37 ?_
  refine eE_imul lk244_283 ?_
  refine eE_aload_n lk244_284 gq41 ?_
  refine eR_getA lk244_285 rf_111 rfl ?_
  refine eE_iload_n lk244_288 gq37 ?_
  obtain ⟨x48, h49, h⟩ := Option.bind_eq_some_iff.mp h
  refine eR_iald lk244_289 rfl rfl h49 ?_
  refine eE_iadd lk244_290 ?_
  refine eE_iconst (v := 1) lk244_291 (by decide) ?_
  refine eE_isub lk244_292 ?_
  obtain ⟨x50, h51, h⟩ := Option.bind_eq_some_iff.mp h
  refine eR_iald lk244_293 rfl rfl h51 ?_
  obtain ⟨p52, h53, h⟩ := Option.bind_eq_some_iff.mp h
  refine eE_stat (as := [.int l1, .int x50]) lk244_294 mr_492 na_280 rfl rfl (Nat.le_of_ble_eq_true rfl) mm_280 ws_280 (m_fileOf_ok hp0 (d := d + 2) h53) ?_
  refine eE_stI (j := 9) lk244_297 (Or.inl rfl) (by decide) (fun vq54 gq55 kq56 => ?_)
  have gq57 := kq56 1 _ (by decide) (fun _ => rfl) gq37
  have gq58 := kq56 2 _ (by decide) (fun _ => rfl) gq38
  have gq59 := kq56 3 _ (by decide) (fun _ => rfl) gq39
  have gq60 := kq56 4 _ (by decide) (fun _ => rfl) gq40
  have gq61 := kq56 0 _ (by decide) (fun _ => rfl) gq41
  have gq62 := kq56 8 _ (by decide) (fun _ => rfl) gq35
  refine eE_aload_n lk244_299 gq61 ?_
  refine eR_getA lk244_300 rf_99 rfl ?_
  refine eE_iload lk244_303 gq55 ?_
  refine eE_iconst (v := 2) lk244_305 (by decide) ?_
  by_cases z63 : ((2 : Int32)) = 0
  · rw [if_pos z63] at h; cases h
  rw [if_neg z63] at h
  refine eE_idiv lk244_306 z63 ?_
  refine eE_iconst (v := 1) lk244_307 (by decide) ?_
  obtain ⟨σ64, h65, h⟩ := Option.bind_eq_some_iff.mp h
  refine eR_zast lk244_308 rfl rfl rfl h65 ?_
  refine eE_aload_n lk244_309 gq61 ?_
  refine eR_getA lk244_310 rf_150 rfl ?_
  refine eE_iload lk244_313 gq62 ?_
  refine eE_aload_n lk244_315 gq61 ?_
  refine eR_getA lk244_316 rf_78 rfl ?_
  refine eE_iload lk244_319 gq55 ?_
  obtain ⟨x66, h67, h⟩ := Option.bind_eq_some_iff.mp h
  refine eR_iald lk244_321 rfl rfl h67 ?_
  obtain ⟨σ68, h69, h⟩ := Option.bind_eq_some_iff.mp h
  refine eR_iast lk244_322 rfl rfl h69 ?_
  refine eE_aload_n lk244_323 gq61 ?_
  refine eE_iload lk244_324 gq55 ?_
  refine eE_bipush (v := 17) lk244_326 (by decide) ?_
  refine eE_iload lk244_328 gq60 ?_
  refine eE_iadd lk244_330 ?_
  obtain ⟨p70, h71, h⟩ := Option.bind_eq_some_iff.mp h
  refine eR_call (as := [.int p52, .int (((17 : Int32)) + l4)]) lk244_331 mr_527 na_312 rfl rfl (Nat.le_of_ble_eq_true rfl) wv_312 wc_312 (m_lay_ok hp0 (d := d + 1) h71) ?_
  refine eE_aload_n lk244_334 gq61 ?_
  refine eE_iload lk244_335 gq55 ?_
  refine eE_iconst (v := 0) lk244_337 (by decide) ?_
  obtain ⟨p72, h73, h⟩ := Option.bind_eq_some_iff.mp h
  refine eR_call (as := [.int p52, .int ((0 : Int32))]) lk244_338 mr_527 na_312 rfl rfl (Nat.le_of_ble_eq_true rfl) wv_312 wc_312 (m_lay_ok hp0 (d := d + 1) h73) ?_
  refine eE_aload_n lk244_341 gq61 ?_
  refine eE_iload lk244_342 gq55 ?_
  refine eE_iload_n lk244_344 gq58 ?_
  obtain ⟨p74, h75, h⟩ := Option.bind_eq_some_iff.mp h
  refine eR_call (as := [.int p52, .int l2]) lk244_345 mr_527 na_312 rfl rfl (Nat.le_of_ble_eq_true rfl) wv_312 wc_312 (m_lay_ok hp0 (d := d + 1) h75) ?_
  refine eE_aload_n lk244_348 gq61 ?_
  refine eE_iload lk244_349 gq55 ?_
  refine eE_iload_n lk244_351 gq59 ?_
  obtain ⟨p76, h77, h⟩ := Option.bind_eq_some_iff.mp h
  refine eR_call (as := [.int p52, .int l3]) lk244_352 mr_527 na_312 rfl rfl (Nat.le_of_ble_eq_true rfl) wv_312 wc_312 (m_lay_ok hp0 (d := d + 1) h77) ?_
  refine eE_aload_n lk244_355 gq61 ?_
  refine eE_iload lk244_356 gq55 ?_
  refine eE_iload lk244_358 gq60 ?_
  obtain ⟨p78, h79, h⟩ := Option.bind_eq_some_iff.mp h
  refine eR_call (as := [.int p52, .int l4]) lk244_360 mr_527 na_312 rfl rfl (Nat.le_of_ble_eq_true rfl) wv_312 wc_312 (m_lay_ok hp0 (d := d + 1) h79) ?_
  refine eE_aload_n lk244_363 gq61 ?_
  refine eE_iload lk244_364 gq55 ?_
  refine eE_iconst (v := 0) lk244_366 (by decide) ?_
  obtain ⟨p80, h81, h⟩ := Option.bind_eq_some_iff.mp h
  refine eR_call (as := [.int p52, .int ((0 : Int32))]) lk244_367 mr_527 na_312 rfl rfl (Nat.le_of_ble_eq_true rfl) wv_312 wc_312 (m_lay_ok hp0 (d := d + 1) h81) ?_
  refine eE_aload_n lk244_370 gq61 ?_
  refine eR_getA lk244_371 rf_78 rfl ?_
  refine eE_iload lk244_374 gq55 ?_
  refine eE_dup2 lk244_376 rfl rfl ?_
  obtain ⟨x82, h83, h⟩ := Option.bind_eq_some_iff.mp h
  refine eR_iald lk244_377 rfl rfl h83 ?_
  refine eE_iconst (v := 1) lk244_378 (by decide) ?_
  refine eE_iadd lk244_379 ?_
  obtain ⟨σ84, h85, h⟩ := Option.bind_eq_some_iff.mp h
  refine eR_iast lk244_380 rfl rfl h85 ?_
  refine eE_iconst (v := 0) lk244_381 (by decide) ?_
  refine eE_stI (j := 10) lk244_382 (Or.inl rfl) (by decide) (fun vq86 gq87 kq88 => ?_)
  have gq89 := kq88 1 _ (by decide) (fun _ => rfl) gq57
  have gq90 := kq88 3 _ (by decide) (fun _ => rfl) gq59
  have gq91 := kq88 4 _ (by decide) (fun _ => rfl) gq60
  have gq92 := kq88 0 _ (by decide) (fun _ => rfl) gq61
  have gq93 := kq88 8 _ (by decide) (fun _ => rfl) gq62
  have gq94 := kq88 9 _ (by decide) (fun _ => rfl) gq55
  exact m_append_b384_ok hp0  F vq86 σ84 l1 l3 l4 p32 p52 ((0 : Int32)) gq92 gq89 gq90 gq91 gq93 gq94 gq87 _ h
def m_append_b79 (F : Nat)  : Nat → RS → Int32 → Int32 → Int32 → Int32 → Int32 → Int32 → Int32 → Option (RS)
  | 0, _, _, _, _, _, _, _, _ => none
  | n + 1, σ, l1, l2, l3, l4, l5, l6, l8 =>
    let KK := m_append_b79 F  n
    (m_fileOf l1 l8).bind fun p95 =>
    (rld σ 38 p95).bind fun x97 =>
    if xc0 .eq x97 = true then (
      (m_fileOf l1 l8).bind fun p100 =>
      if ((2 : Int32)) = 0 then none else
      (rst σ 44 (p100 / ((2 : Int32))) ((((1 : Int32)) &&& 1))).bind fun σ114 =>
      (rst σ114 38 p100 ((((1 : Int32)) &&& 1))).bind fun σ116 =>
      (rst σ116 37 p100 (((0 : Int32)))).bind fun σ118 =>
      (m_lay σ118 p100 ((16 : Int32))).bind fun p120 =>
      (m_lay p120 p100 ((0 : Int32))).bind fun p122 =>
      (rld p122 56 l1).bind fun x124 =>
      (m_lay p122 p100 (x124 + ((1 : Int32)))).bind fun p126 =>
      (m_lay p126 p100 l5).bind fun p128 =>
      (m_lay p128 p100 ((0 : Int32))).bind fun p130 =>
      (m_lay p130 p100 ((0 : Int32))).bind fun p132 =>
      (rst p132 50 ((((12 : Int32)) * l1) + l6) l8).bind fun σ134 =>
      (rld σ134 56 l1).bind fun x136 =>
      (rst σ134 51 ((((12 : Int32)) * l1) + l6) ((x136 + ((1 : Int32))))).bind fun σ138 =>
      (rld σ138 49 l1).bind fun x140 =>
      (rst σ138 49 l1 ((x140 + ((1 : Int32))))).bind fun σ142 =>
      m_append_b228 F  σ142 l1 l2 l3 l4
    ) else (
      KK σ l1 l2 l3 l4 l5 l6 (l8 + (1 : Int32))
    )
set_option maxRecDepth 4000 in
theorem m_append_b79_ok {pF : Nat → List Value → xH → Option (Option Value × xH)} {d : Nat} {aR : Nat} {G : Nat → xC} {T : Nat × Nat} {F : Nat} (hp0 : xNP pF)  : ∀ (n : Nat) (lv : xL) (σ : RS) (l1 : Int32) (l2 : Int32) (l3 : Int32) (l4 : Int32) (l5 : Int32) (l6 : Int32) (l8 : Int32), xg lv 0 = some (.ref aR) → xg lv 1 = some (.int l1) → xg lv 2 = some (.int l2) → xg lv 3 = some (.int l3) → xg lv 4 = some (.int l4) → xg lv 5 = some (.int l5) → xg lv 6 = some (.int l6) → xg lv 8 = some (.int l8) → ∀ res, m_append_b79 F  n σ l1 l2 l3 l4 l5 l6 l8 = some res → xR pF (d + 3) kT244 16 11 false none none (layR aR res G, T) (79, lv, [], (layR aR σ G, T)) := by
  intro n
  induction n with
  | zero => intro lv σ l1 l2 l3 l4 l5 l6 l8 g0 g1 g2 g3 g4 g5 g6 g8 res h; simp [m_append_b79] at h
  | succ n hKK =>
    intro lv σ l1 l2 l3 l4 l5 l6 l8 g0 g1 g2 g3 g4 g5 g6 g8 res h
    unfold m_append_b79 at h
    dsimp only at h
    refine eE_aload_n lk244_79 g0 ?_
    refine eR_getA lk244_80 rf_81 rfl ?_
    refine eE_iload_n lk244_83 g1 ?_
    refine eE_iload lk244_84 g8 ?_
    obtain ⟨p95, h96, h⟩ := Option.bind_eq_some_iff.mp h
    refine eE_stat (as := [.int l1, .int l8]) lk244_86 mr_492 na_280 rfl rfl (Nat.le_of_ble_eq_true rfl) mm_280 ws_280 (m_fileOf_ok hp0 (d := d + 2) h96) ?_
    obtain ⟨x97, h98, h⟩ := Option.bind_eq_some_iff.mp h
    refine eR_bald lk244_89 rfl (Or.inr rfl) h98 ?_
    refine eE_if (t := 99) lk244_90 (by decide) (fun c99 => ?_) (fun c99 => ?_)
    · rw [if_pos c99] at h
      refine eE_iload_n lk244_99 g1 ?_
      refine eE_iload lk244_100 g8 ?_
      obtain ⟨p100, h101, h⟩ := Option.bind_eq_some_iff.mp h
      refine eE_stat (as := [.int l1, .int l8]) lk244_102 mr_492 na_280 rfl rfl (Nat.le_of_ble_eq_true rfl) mm_280 ws_280 (m_fileOf_ok hp0 (d := d + 2) h101) ?_
      refine eE_stI (j := 9) lk244_105 (Or.inl rfl) (by decide) (fun vq102 gq103 kq104 => ?_)
      have gq105 := kq104 1 _ (by decide) (fun _ => rfl) g1
      have gq106 := kq104 2 _ (by decide) (fun _ => rfl) g2
      have gq107 := kq104 3 _ (by decide) (fun _ => rfl) g3
      have gq108 := kq104 4 _ (by decide) (fun _ => rfl) g4
      have gq109 := kq104 5 _ (by decide) (fun _ => rfl) g5
      have gq110 := kq104 6 _ (by decide) (fun _ => rfl) g6
      have gq111 := kq104 8 _ (by decide) (fun _ => rfl) g8
      have gq112 := kq104 0 _ (by decide) (fun _ => rfl) g0
      refine eE_aload_n lk244_107 gq112 ?_
      refine eR_getA lk244_108 rf_99 rfl ?_
      refine eE_iload lk244_111 gq103 ?_
      refine eE_iconst (v := 2) lk244_113 (by decide) ?_
      by_cases z113 : ((2 : Int32)) = 0
      · rw [if_pos z113] at h; cases h
      rw [if_neg z113] at h
      refine eE_idiv lk244_114 z113 ?_
      refine eE_iconst (v := 1) lk244_115 (by decide) ?_
      obtain ⟨σ114, h115, h⟩ := Option.bind_eq_some_iff.mp h
      refine eR_zast lk244_116 rfl rfl rfl h115 ?_
      refine eE_aload_n lk244_117 gq112 ?_
      refine eR_getA lk244_118 rf_81 rfl ?_
      refine eE_iload lk244_121 gq103 ?_
      refine eE_iconst (v := 1) lk244_123 (by decide) ?_
      obtain ⟨σ116, h117, h⟩ := Option.bind_eq_some_iff.mp h
      refine eR_zast lk244_124 rfl rfl rfl h117 ?_
      refine eE_aload_n lk244_125 gq112 ?_
      refine eR_getA lk244_126 rf_78 rfl ?_
      refine eE_iload lk244_129 gq103 ?_
      refine eE_iconst (v := 0) lk244_131 (by decide) ?_
      obtain ⟨σ118, h119, h⟩ := Option.bind_eq_some_iff.mp h
      refine eR_iast lk244_132 rfl rfl h119 ?_
      refine eE_aload_n lk244_133 gq112 ?_
      refine eE_iload lk244_134 gq103 ?_
      refine eE_bipush (v := 16) lk244_136 (by decide) ?_
      obtain ⟨p120, h121, h⟩ := Option.bind_eq_some_iff.mp h
      refine eR_call (as := [.int p100, .int ((16 : Int32))]) lk244_138 mr_527 na_312 rfl rfl (Nat.le_of_ble_eq_true rfl) wv_312 wc_312 (m_lay_ok hp0 (d := d + 1) h121) ?_
      refine eE_aload_n lk244_141 gq112 ?_
      refine eE_iload lk244_142 gq103 ?_
      refine eE_iconst (v := 0) lk244_144 (by decide) ?_
      obtain ⟨p122, h123, h⟩ := Option.bind_eq_some_iff.mp h
      refine eR_call (as := [.int p100, .int ((0 : Int32))]) lk244_145 mr_527 na_312 rfl rfl (Nat.le_of_ble_eq_true rfl) wv_312 wc_312 (m_lay_ok hp0 (d := d + 1) h123) ?_
      refine eE_aload_n lk244_148 gq112 ?_
      refine eE_iload lk244_149 gq103 ?_
      refine eE_aload_n lk244_151 gq112 ?_
      refine eR_getA lk244_152 rf_132 rfl ?_
      refine eE_iload_n lk244_155 gq105 ?_
      obtain ⟨x124, h125, h⟩ := Option.bind_eq_some_iff.mp h
      refine eR_iald lk244_156 rfl rfl h125 ?_
      refine eE_iconst (v := 1) lk244_157 (by decide) ?_
      refine eE_iadd lk244_158 ?_
      obtain ⟨p126, h127, h⟩ := Option.bind_eq_some_iff.mp h
      refine eR_call (as := [.int p100, .int (x124 + ((1 : Int32)))]) lk244_159 mr_527 na_312 rfl rfl (Nat.le_of_ble_eq_true rfl) wv_312 wc_312 (m_lay_ok hp0 (d := d + 1) h127) ?_
      refine eE_aload_n lk244_162 gq112 ?_
      refine eE_iload lk244_163 gq103 ?_
      refine eE_iload lk244_165 gq109 ?_
      obtain ⟨p128, h129, h⟩ := Option.bind_eq_some_iff.mp h
      refine eR_call (as := [.int p100, .int l5]) lk244_167 mr_527 na_312 rfl rfl (Nat.le_of_ble_eq_true rfl) wv_312 wc_312 (m_lay_ok hp0 (d := d + 1) h129) ?_
      refine eE_aload_n lk244_170 gq112 ?_
      refine eE_iload lk244_171 gq103 ?_
      refine eE_iconst (v := 0) lk244_173 (by decide) ?_
      obtain ⟨p130, h131, h⟩ := Option.bind_eq_some_iff.mp h
      refine eR_call (as := [.int p100, .int ((0 : Int32))]) lk244_174 mr_527 na_312 rfl rfl (Nat.le_of_ble_eq_true rfl) wv_312 wc_312 (m_lay_ok hp0 (d := d + 1) h131) ?_
      refine eE_aload_n lk244_177 gq112 ?_
      refine eE_iload lk244_178 gq103 ?_
      refine eE_iconst (v := 0) lk244_180 (by decide) ?_
      obtain ⟨p132, h133, h⟩ := Option.bind_eq_some_iff.mp h
      refine eR_call (as := [.int p100, .int ((0 : Int32))]) lk244_181 mr_527 na_312 rfl rfl (Nat.le_of_ble_eq_true rfl) wv_312 wc_312 (m_lay_ok hp0 (d := d + 1) h133) ?_
      refine eE_aload_n lk244_184 gq112 ?_
      refine eR_getA lk244_185 rf_114 rfl ?_
      refine eE_bipush (v := 12) lk244_188 (by decide) ?_
      refine eE_iload_n lk244_190 gq105 ?_
      refine eE_imul lk244_191 ?_
      refine eE_iload lk244_192 gq110 ?_
      refine eE_iadd lk244_194 ?_
      refine eE_iload lk244_195 gq111 ?_
      obtain ⟨σ134, h135, h⟩ := Option.bind_eq_some_iff.mp h
      refine eR_iast lk244_197 rfl rfl h135 ?_
      refine eE_aload_n lk244_198 gq112 ?_
      refine eR_getA lk244_199 rf_117 rfl ?_
      refine eE_bipush (v := 12) lk244_202 (by decide) ?_
      refine eE_iload_n lk244_204 gq105 ?_
      refine eE_imul lk244_205 ?_
      refine eE_iload lk244_206 gq110 ?_
      refine eE_iadd lk244_208 ?_
      refine eE_aload_n lk244_209 gq112 ?_
      refine eR_getA lk244_210 rf_132 rfl ?_
      refine eE_iload_n lk244_213 gq105 ?_
      obtain ⟨x136, h137, h⟩ := Option.bind_eq_some_iff.mp h
      refine eR_iald lk244_214 rfl rfl h137 ?_
      refine eE_iconst (v := 1) lk244_215 (by decide) ?_
      refine eE_iadd lk244_216 ?_
      obtain ⟨σ138, h139, h⟩ := Option.bind_eq_some_iff.mp h
      refine eR_iast lk244_217 rfl rfl h139 ?_
      refine eE_aload_n lk244_218 gq112 ?_
      refine eR_getA lk244_219 rf_111 rfl ?_
      refine eE_iload_n lk244_222 gq105 ?_
      refine eE_dup2 lk244_223 rfl rfl ?_
      obtain ⟨x140, h141, h⟩ := Option.bind_eq_some_iff.mp h
      refine eR_iald lk244_224 rfl rfl h141 ?_
      refine eE_iconst (v := 1) lk244_225 (by decide) ?_
      refine eE_iadd lk244_226 ?_
      obtain ⟨σ142, h143, h⟩ := Option.bind_eq_some_iff.mp h
      refine eR_iast lk244_227 rfl rfl h143 ?_
      exact m_append_b228_ok hp0  vq102 σ142 l1 l2 l3 l4 gq112 gq105 gq106 gq107 gq108 _ h
    · rw [if_neg c99] at h
      refine eE_inc (j := 8) (v := l8 + (1 : Int32)) lk244_93 g8 rfl (by decide) (fun vq144 gq145 kq146 => ?_)
      have gq147 := kq146 1 _ (by decide) (fun _ => rfl) g1
      have gq148 := kq146 2 _ (by decide) (fun _ => rfl) g2
      have gq149 := kq146 3 _ (by decide) (fun _ => rfl) g3
      have gq150 := kq146 4 _ (by decide) (fun _ => rfl) g4
      have gq151 := kq146 5 _ (by decide) (fun _ => rfl) g5
      have gq152 := kq146 6 _ (by decide) (fun _ => rfl) g6
      have gq153 := kq146 0 _ (by decide) (fun _ => rfl) g0
      refine eE_goto (t := 79) lk244_96 (by decide) ?_
      exact hKK vq144 σ l1 l2 l3 l4 l5 l6 (l8 + (1 : Int32)) gq153 gq147 gq148 gq149 gq150 gq151 gq152 gq145 _ h
def m_append_b69 (F : Nat)  (σ : RS) (s0 : Int32) (l1 : Int32) (l2 : Int32) (l3 : Int32) (l4 : Int32) (l5 : Int32) (l6 : Int32) : Option (RS) :=
  if xc0 .eq s0 = true then (
    m_append_b228 F  σ l1 l2 l3 l4
  ) else (
    m_append_b79 F  F σ l1 l2 l3 l4 l5 l6 ((4 : Int32))
  )
set_option maxRecDepth 4000 in
theorem m_append_b69_ok {pF : Nat → List Value → xH → Option (Option Value × xH)} {d : Nat} {aR : Nat} {G : Nat → xC} {T : Nat × Nat} {F : Nat} (hp0 : xNP pF)  : ∀ (lv : xL) (σ : RS) (s0 : Int32) (l1 : Int32) (l2 : Int32) (l3 : Int32) (l4 : Int32) (l5 : Int32) (l6 : Int32), xg lv 0 = some (.ref aR) → xg lv 1 = some (.int l1) → xg lv 2 = some (.int l2) → xg lv 3 = some (.int l3) → xg lv 4 = some (.int l4) → xg lv 5 = some (.int l5) → xg lv 6 = some (.int l6) → ∀ res, m_append_b69 F  σ s0 l1 l2 l3 l4 l5 l6 = some res → xR pF (d + 3) kT244 16 11 false none none (layR aR res G, T) (69, lv, [.int s0], (layR aR σ G, T)) := by
  intro lv σ s0 l1 l2 l3 l4 l5 l6 g0 g1 g2 g3 g4 g5 g6 res h
  unfold m_append_b69 at h
  refine eE_stI (j := 7) lk244_69 (Or.inl rfl) (by decide) (fun vq154 gq155 kq156 => ?_)
  have gq157 := kq156 1 _ (by decide) (fun _ => rfl) g1
  have gq158 := kq156 2 _ (by decide) (fun _ => rfl) g2
  have gq159 := kq156 3 _ (by decide) (fun _ => rfl) g3
  have gq160 := kq156 4 _ (by decide) (fun _ => rfl) g4
  have gq161 := kq156 5 _ (by decide) (fun _ => rfl) g5
  have gq162 := kq156 6 _ (by decide) (fun _ => rfl) g6
  have gq163 := kq156 0 _ (by decide) (fun _ => rfl) g0
  refine eE_iload lk244_71 gq155 ?_
  refine eE_if (t := 228) lk244_73 (by decide) (fun c164 => ?_) (fun c164 => ?_)
  · rw [if_pos c164] at h
    exact m_append_b228_ok hp0  vq154 σ l1 l2 l3 l4 gq163 gq157 gq158 gq159 gq160 _ h
  · rw [if_neg c164] at h
    refine eE_iconst (v := 4) lk244_76 (by decide) ?_
    refine eE_stI (j := 8) lk244_77 (Or.inl rfl) (by decide) (fun vq165 gq166 kq167 => ?_)
    have gq168 := kq167 1 _ (by decide) (fun _ => rfl) gq157
    have gq169 := kq167 2 _ (by decide) (fun _ => rfl) gq158
    have gq170 := kq167 3 _ (by decide) (fun _ => rfl) gq159
    have gq171 := kq167 4 _ (by decide) (fun _ => rfl) gq160
    have gq172 := kq167 5 _ (by decide) (fun _ => rfl) gq161
    have gq173 := kq167 6 _ (by decide) (fun _ => rfl) gq162
    have gq174 := kq167 0 _ (by decide) (fun _ => rfl) gq163
    exact m_append_b79_ok hp0  F vq165 σ l1 l2 l3 l4 l5 l6 ((4 : Int32)) gq174 gq168 gq169 gq170 gq171 gq172 gq173 gq166 _ h
def m_append_b64 (F : Nat)  (σ : RS) (l1 : Int32) (l2 : Int32) (l3 : Int32) (l4 : Int32) (l5 : Int32) (l6 : Int32) : Option (RS) :=
  m_append_b69 F  σ ((1 : Int32)) l1 l2 l3 l4 l5 l6
set_option maxRecDepth 4000 in
theorem m_append_b64_ok {pF : Nat → List Value → xH → Option (Option Value × xH)} {d : Nat} {aR : Nat} {G : Nat → xC} {T : Nat × Nat} {F : Nat} (hp0 : xNP pF)  : ∀ (lv : xL) (σ : RS) (l1 : Int32) (l2 : Int32) (l3 : Int32) (l4 : Int32) (l5 : Int32) (l6 : Int32), xg lv 0 = some (.ref aR) → xg lv 1 = some (.int l1) → xg lv 2 = some (.int l2) → xg lv 3 = some (.int l3) → xg lv 4 = some (.int l4) → xg lv 5 = some (.int l5) → xg lv 6 = some (.int l6) → ∀ res, m_append_b64 F  σ l1 l2 l3 l4 l5 l6 = some res → xR pF (d + 3) kT244 16 11 false none none (layR aR res G, T) (64, lv, [], (layR aR σ G, T)) := by
  intro lv σ l1 l2 l3 l4 l5 l6 g0 g1 g2 g3 g4 g5 g6 res h
  unfold m_append_b64 at h
  refine eE_iconst (v := 1) lk244_64 (by decide) ?_
  refine eE_goto (t := 69) lk244_65 (by decide) ?_
  exact m_append_b69_ok hp0  lv σ ((1 : Int32)) l1 l2 l3 l4 l5 l6 g0 g1 g2 g3 g4 g5 g6 _ h
def m_append_b52 (F : Nat)  (σ : RS) (s1 : Int32) (s3 : Int32) (s4 : Int32) (l1 : Int32) (l2 : Int32) (l3 : Int32) (l4 : Int32) (l5 : Int32) (l6 : Int32) : Option (RS) :=
  (rld σ 50 (s3 + s4)).bind fun x175 =>
  (m_fileOf s1 x175).bind fun p177 =>
  (rld σ 37 p177).bind fun x179 =>
  if xc2 .le x179 ((8000 : Int32)) = true then (
    m_append_b69 F  σ ((0 : Int32)) l1 l2 l3 l4 l5 l6
  ) else (
    m_append_b64 F  σ l1 l2 l3 l4 l5 l6
  )
set_option maxRecDepth 4000 in
theorem m_append_b52_ok {pF : Nat → List Value → xH → Option (Option Value × xH)} {d : Nat} {aR : Nat} {G : Nat → xC} {T : Nat × Nat} {F : Nat} (hp0 : xNP pF)  : ∀ (lv : xL) (σ : RS) (s1 : Int32) (s3 : Int32) (s4 : Int32) (l1 : Int32) (l2 : Int32) (l3 : Int32) (l4 : Int32) (l5 : Int32) (l6 : Int32), xg lv 0 = some (.ref aR) → xg lv 1 = some (.int l1) → xg lv 2 = some (.int l2) → xg lv 3 = some (.int l3) → xg lv 4 = some (.int l4) → xg lv 5 = some (.int l5) → xg lv 6 = some (.int l6) → ∀ res, m_append_b52 F  σ s1 s3 s4 l1 l2 l3 l4 l5 l6 = some res → xR pF (d + 3) kT244 16 11 false none none (layR aR res G, T) (52, lv, [.int s4, .int s3, .ref (aR + rpos 50), .int s1, .ref (aR + rpos 37)], (layR aR σ G, T)) := by
  intro lv σ s1 s3 s4 l1 l2 l3 l4 l5 l6 g0 g1 g2 g3 g4 g5 g6 res h
  unfold m_append_b52 at h
  refine eE_iadd lk244_52 ?_
  obtain ⟨x175, h176, h⟩ := Option.bind_eq_some_iff.mp h
  refine eR_iald lk244_53 rfl rfl h176 ?_
  obtain ⟨p177, h178, h⟩ := Option.bind_eq_some_iff.mp h
  refine eE_stat (as := [.int s1, .int x175]) lk244_54 mr_492 na_280 rfl rfl (Nat.le_of_ble_eq_true rfl) mm_280 ws_280 (m_fileOf_ok hp0 (d := d + 2) h178) ?_
  obtain ⟨x179, h180, h⟩ := Option.bind_eq_some_iff.mp h
  refine eR_iald lk244_57 rfl rfl h180 ?_
  refine eE_sipush (v := 8000) lk244_58 (by decide) ?_
  refine eE_icmp (t := 68) lk244_61 (by decide) (fun c181 => ?_) (fun c181 => ?_)
  · rw [if_pos c181] at h
    refine eE_iconst (v := 0) lk244_68 (by decide) ?_
    exact m_append_b69_ok hp0  lv σ ((0 : Int32)) l1 l2 l3 l4 l5 l6 g0 g1 g2 g3 g4 g5 g6 _ h
  · rw [if_neg c181] at h
    exact m_append_b64_ok hp0  lv σ l1 l2 l3 l4 l5 l6 g0 g1 g2 g3 g4 g5 g6 _ h
def m_append_b0 (F : Nat)  (σ : RS) (l1 : Int32) (l2 : Int32) (l3 : Int32) (l4 : Int32) : Option (RS) :=
  (rld σ 56 l1).bind fun x182 =>
  (m_termAt σ l1 x182).bind fun p184 =>
  (rld p184.2 49 l1).bind fun x194 =>
  if xc0 .eq x194 = true then (
    m_append_b64 F  p184.2 l1 l2 l3 l4 (p184.1) x194
  ) else (
    if xc0 .ne x194 = true then (
      m_append_b52 F  p184.2 l1 (((12 : Int32)) * l1) (x194 - ((1 : Int32))) l1 l2 l3 l4 (p184.1) x194
    ) else (
      m_append_b52 F  p184.2 l1 (((12 : Int32)) * l1) ((0 : Int32)) l1 l2 l3 l4 (p184.1) x194
    )
  )
set_option maxRecDepth 4000 in
theorem m_append_b0_ok {pF : Nat → List Value → xH → Option (Option Value × xH)} {d : Nat} {aR : Nat} {G : Nat → xC} {T : Nat × Nat} {F : Nat} (hp0 : xNP pF)  : ∀ (lv : xL) (σ : RS) (l1 : Int32) (l2 : Int32) (l3 : Int32) (l4 : Int32), xg lv 0 = some (.ref aR) → xg lv 1 = some (.int l1) → xg lv 2 = some (.int l2) → xg lv 3 = some (.int l3) → xg lv 4 = some (.int l4) → ∀ res, m_append_b0 F  σ l1 l2 l3 l4 = some res → xR pF (d + 3) kT244 16 11 false none none (layR aR res G, T) (0, lv, [], (layR aR σ G, T)) := by
  intro lv σ l1 l2 l3 l4 g0 g1 g2 g3 g4 res h
  unfold m_append_b0 at h
  refine eE_aload_n lk244_0 g0 ?_
  refine eE_iload_n lk244_1 g1 ?_
  refine eE_aload_n lk244_2 g0 ?_
  refine eR_getA lk244_3 rf_132 rfl ?_
  refine eE_iload_n lk244_6 g1 ?_
  obtain ⟨x182, h183, h⟩ := Option.bind_eq_some_iff.mp h
  refine eR_iald lk244_7 rfl rfl h183 ?_
  obtain ⟨p184, h185, h⟩ := Option.bind_eq_some_iff.mp h
  refine eR_call (as := [.int l1, .int x182]) lk244_8 mr_524 na_372 rfl rfl (Nat.le_of_ble_eq_true rfl) wv_372 wc_372 (m_termAt_ok hp0 (d := d + 1) h185) ?_
  refine eE_stI (j := 5) lk244_11 (Or.inl rfl) (by decide) (fun vq186 gq187 kq188 => ?_)
  have gq189 := kq188 1 _ (by decide) (fun _ => rfl) g1
  have gq190 := kq188 2 _ (by decide) (fun _ => rfl) g2
  have gq191 := kq188 3 _ (by decide) (fun _ => rfl) g3
  have gq192 := kq188 4 _ (by decide) (fun _ => rfl) g4
  have gq193 := kq188 0 _ (by decide) (fun _ => rfl) g0
  refine eE_aload_n lk244_13 gq193 ?_
  refine eR_getA lk244_14 rf_111 rfl ?_
  refine eE_iload_n lk244_17 gq189 ?_
  obtain ⟨x194, h195, h⟩ := Option.bind_eq_some_iff.mp h
  refine eR_iald lk244_18 rfl rfl h195 ?_
  refine eE_stI (j := 6) lk244_19 (Or.inl rfl) (by decide) (fun vq196 gq197 kq198 => ?_)
  have gq199 := kq198 1 _ (by decide) (fun _ => rfl) gq189
  have gq200 := kq198 2 _ (by decide) (fun _ => rfl) gq190
  have gq201 := kq198 3 _ (by decide) (fun _ => rfl) gq191
  have gq202 := kq198 4 _ (by decide) (fun _ => rfl) gq192
  have gq203 := kq198 0 _ (by decide) (fun _ => rfl) gq193
  have gq204 := kq198 5 _ (by decide) (fun _ => rfl) gq187
  refine eE_iload lk244_21 gq197 ?_
  refine eE_if (t := 64) lk244_23 (by decide) (fun c205 => ?_) (fun c205 => ?_)
  · rw [if_pos c205] at h
    exact m_append_b64_ok hp0  vq196 p184.2 l1 l2 l3 l4 (p184.1) x194 gq203 gq199 gq200 gq201 gq202 gq204 gq197 _ h
  · rw [if_neg c205] at h
    refine eE_aload_n lk244_26 gq203 ?_
    refine eR_getA lk244_27 rf_78 rfl ?_
    refine eE_iload_n lk244_30 gq199 ?_
    refine eE_aload_n lk244_31 gq203 ?_
    refine eR_getA lk244_32 rf_114 rfl ?_
    refine eE_bipush (v := 12) lk244_35 (by decide) ?_
    refine eE_iload_n lk244_37 gq199 ?_
    refine eE_imul lk244_38 ?_
    refine eE_iload lk244_39 gq197 ?_
    refine eE_if (t := 48) lk244_41 (by decide) (fun c206 => ?_) (fun c206 => ?_)
    · rw [if_pos c206] at h
      refine eE_iload lk244_48 gq197 ?_
      refine eE_iconst (v := 1) lk244_50 (by decide) ?_
      refine eE_isub lk244_51 ?_
      exact m_append_b52_ok hp0  vq196 p184.2 l1 (((12 : Int32)) * l1) (x194 - ((1 : Int32))) l1 l2 l3 l4 (p184.1) x194 gq203 gq199 gq200 gq201 gq202 gq204 gq197 _ h
    · rw [if_neg c206] at h
      refine eE_iconst (v := 0) lk244_44 (by decide) ?_
      refine eE_goto (t := 52) lk244_45 (by decide) ?_
      exact m_append_b52_ok hp0  vq196 p184.2 l1 (((12 : Int32)) * l1) ((0 : Int32)) l1 l2 l3 l4 (p184.1) x194 gq203 gq199 gq200 gq201 gq202 gq204 gq197 _ h
def m_append (F : Nat) (σ : RS) (l1 : Int32) (l2 : Int32) (l3 : Int32) (l4 : Int32) : Option (RS) := m_append_b0 F σ l1 l2 l3 l4
theorem m_append_ok {pF : Nat → List Value → xH → Option (Option Value × xH)} (hp0 : xNP pF) {d : Nat} {aR : Nat} {G : Nat → xC} {T : Nat × Nat} {σ : RS} {F : Nat} {l1 : Int32} {l2 : Int32} {l3 : Int32} {l4 : Int32} {res : RS} (h : m_append F σ l1 l2 l3 l4 = some res) : xCo pF (d + 4) 244 [.ref aR, .int l1, .int l2, .int l3, .int l4] (layR aR σ G, T) none (layR aR res G, T) := by
  unfold m_append at h
  exact xCo_R kk_244 mo_244 ni_244 xm_244 (Nat.le_of_ble_eq_true rfl) (hp0 _ (by decide) (by decide) _ _) (m_append_b0_ok hp0 _ σ l1 l2 l3 l4 rfl rfl rfl rfl rfl _ h)
/-! layLog (316), depth 1 -/
def m_layLog  (σ : RS) (l1 : Int32) (l2 : Int32) : Option (RS) :=
  (rldL σ 63 (l1 >>> (((3 : Int32)) &&& 31))).bind fun x7 =>
  (rstL σ 63 (l1 >>> (((3 : Int32)) &&& 31)) (((x7 &&& ((((255 : Int64)) <<< ((((8 : Int32)) * (l1 &&& ((7 : Int32)))).toInt64 &&& 63)) ^^^ ((-1 : Int64)))) ||| (((l2.toInt64) &&& ((255 : Int64))) <<< ((((8 : Int32)) * (l1 &&& ((7 : Int32)))).toInt64 &&& 63))))).bind fun σ9 =>
  some σ9
set_option maxRecDepth 4000 in
theorem m_layLog_run {pF : Nat → List Value → xH → Option (Option Value × xH)} {d : Nat} {aR : Nat} {G : Nat → xC} {T : Nat × Nat} (hp0 : xNP pF)  : ∀ (lv : xL) (σ : RS) (l1 : Int32) (l2 : Int32), xg lv 0 = some (.ref aR) → xg lv 1 = some (.int l1) → xg lv 2 = some (.int l2) → ∀ res, m_layLog  σ l1 l2 = some res → xR pF (d + 0) kT316 16 4 false none none (layR aR res G, T) (0, lv, [], (layR aR σ G, T)) := by
  intro lv σ l1 l2 g0 g1 g2 res h
  unfold m_layLog at h
  refine eE_bipush (v := 8) lk316_0 (by decide) ?_
  refine eE_iload_n lk316_2 g1 ?_
  refine eE_bipush (v := 7) lk316_3 (by decide) ?_
  refine eE_iand lk316_5 ?_
  refine eE_imul lk316_6 ?_
  refine eE_stI (j := 3) lk316_7 (Or.inr ⟨_, rfl, rfl⟩) (by decide) (fun vq1 gq2 kq3 => ?_)
  have gq4 := kq3 1 _ (by decide) (fun _ => rfl) g1
  have gq5 := kq3 2 _ (by decide) (fun _ => rfl) g2
  have gq6 := kq3 0 _ (by decide) (fun _ => rfl) g0
  refine eE_aload_n lk316_8 gq6 ?_
  refine eR_getA lk316_9 rf_154 rfl ?_
  refine eE_iload_n lk316_12 gq4 ?_
  refine eE_iconst (v := 3) lk316_13 (by decide) ?_
  refine eE_ishr lk316_14 ?_
  refine eE_aload_n lk316_15 gq6 ?_
  refine eR_getA lk316_16 rf_154 rfl ?_
  refine eE_iload_n lk316_19 gq4 ?_
  refine eE_iconst (v := 3) lk316_20 (by decide) ?_
  refine eE_ishr lk316_21 ?_
  obtain ⟨x7, h8, h⟩ := Option.bind_eq_some_iff.mp h
  refine eR_lald lk316_22 rfl rfl h8 ?_
  refine eE_ldc2_w (v := 255) lk316_23 xl_396 ?_
  refine eE_iload_n lk316_26 gq2 ?_
  refine eE_lshl lk316_27 ?_
  refine eE_ldc2_w (v := (-1)) lk316_28 xl_398 ?_
  refine eE_lxor lk316_31 ?_
  refine eE_land lk316_32 ?_
  refine eE_iload_n lk316_33 gq5 ?_
  refine eE_i2l lk316_34 ?_
  refine eE_ldc2_w (v := 255) lk316_35 xl_396 ?_
  refine eE_land lk316_38 ?_
  refine eE_iload_n lk316_39 gq2 ?_
  refine eE_lshl lk316_40 ?_
  refine eE_lor lk316_41 ?_
  obtain ⟨σ9, h10, h⟩ := Option.bind_eq_some_iff.mp h
  refine eR_last lk316_42 rfl rfl h10 ?_
  cases h
  exact eE_end lk316_43 rfl rfl rfl
theorem m_layLog_ok {pF : Nat → List Value → xH → Option (Option Value × xH)} (hp0 : xNP pF) {d : Nat} {aR : Nat} {G : Nat → xC} {T : Nat × Nat} {σ : RS} {l1 : Int32} {l2 : Int32} {res : RS} (h : m_layLog σ l1 l2 = some res) : xCo pF (d + 1) 316 [.ref aR, .int l1, .int l2] (layR aR σ G, T) none (layR aR res G, T) := by
  exact xCo_R kk_316 mo_316 ni_316 xm_316 (Nat.le_of_ble_eq_true rfl) (hp0 _ (by decide) (by decide) _ _) (m_layLog_run hp0 _ σ l1 l2 rfl rfl rfl _ h)
/-! nextContent (327), depth 2 -/
def m_nextContent  (σ : RS) (l1 : Int32) : Option (Int32 × RS) :=
  (rld σ 56 l1).bind fun x1 =>
  (m_logOf l1 (x1 + ((1 : Int32)))).bind fun p3 =>
  some (((256 : Int32)) * p3, σ)
set_option maxRecDepth 4000 in
theorem m_nextContent_run {pF : Nat → List Value → xH → Option (Option Value × xH)} {d : Nat} {aR : Nat} {G : Nat → xC} {T : Nat × Nat} (hp0 : xNP pF)  : ∀ (lv : xL) (σ : RS) (l1 : Int32), xg lv 0 = some (.ref aR) → xg lv 1 = some (.int l1) → ∀ res, m_nextContent  σ l1 = some res → xR pF (d + 1) kT327 16 2 false (some .int) (some (.int res.1)) (layR aR res.2 G, T) (0, lv, [], (layR aR σ G, T)) := by
  intro lv σ l1 g0 g1 res h
  unfold m_nextContent at h
  refine eE_sipush (v := 256) lk327_0 (by decide) ?_
  refine eE_iload_n lk327_3 g1 ?_
  refine eE_aload_n lk327_4 g0 ?_
  refine eR_getA lk327_5 rf_132 rfl ?_
  refine eE_iload_n lk327_8 g1 ?_
  obtain ⟨x1, h2, h⟩ := Option.bind_eq_some_iff.mp h
  refine eR_iald lk327_9 rfl rfl h2 ?_
  refine eE_iconst (v := 1) lk327_10 (by decide) ?_
  refine eE_iadd lk327_11 ?_
  obtain ⟨p3, h4, h⟩ := Option.bind_eq_some_iff.mp h
  refine eE_stat (as := [.int l1, .int (x1 + ((1 : Int32)))]) lk327_12 mr_521 na_322 rfl rfl (Nat.le_of_ble_eq_true rfl) mm_322 ws_322 (m_logOf_ok hp0 (d := d + 0) h4) ?_
  refine eE_imul lk327_15 ?_
  cases h
  exact eE_end lk327_16 rfl rfl rfl
theorem m_nextContent_ok {pF : Nat → List Value → xH → Option (Option Value × xH)} (hp0 : xNP pF) {d : Nat} {aR : Nat} {G : Nat → xC} {T : Nat × Nat} {σ : RS} {l1 : Int32} {res : Int32 × RS} (h : m_nextContent σ l1 = some res) : xCo pF (d + 2) 327 [.ref aR, .int l1] (layR aR σ G, T) (some (.int res.1)) (layR aR res.2 G, T) := by
  exact xCo_R kk_327 mo_327 ni_327 xm_327 (Nat.le_of_ble_eq_true rfl) (hp0 _ (by decide) (by decide) _ _) (m_nextContent_run hp0 _ σ l1 rfl rfl _ h)
/-! appendCode (245), depth 5 -/
def m_appendCode (F : Nat)  (σ : RS) (l1 : Int32) (l2 : Int32) : Option (RS) :=
  (m_nextContent σ l1).bind fun p1 =>
  (m_layLog p1.2 p1.1 ((l2 >>> (((24 : Int32)) &&& 31)).toInt8.toInt32)).bind fun p9 =>
  (m_layLog p9 (p1.1 + ((1 : Int32))) ((l2 >>> (((16 : Int32)) &&& 31)).toInt8.toInt32)).bind fun p11 =>
  (m_layLog p11 (p1.1 + ((2 : Int32))) ((l2 >>> (((8 : Int32)) &&& 31)).toInt8.toInt32)).bind fun p13 =>
  (m_layLog p13 (p1.1 + ((3 : Int32))) (l2.toInt8.toInt32)).bind fun p15 =>
  (rld p15 53 l1).bind fun x17 =>
  (m_append F p15 l1 x17 ((1 : Int32)) ((4 : Int32))).bind fun p19 =>
  some p19
set_option maxRecDepth 4000 in
theorem m_appendCode_run {pF : Nat → List Value → xH → Option (Option Value × xH)} {d : Nat} {aR : Nat} {G : Nat → xC} {T : Nat × Nat} {F : Nat} (hp0 : xNP pF)  : ∀ (lv : xL) (σ : RS) (l1 : Int32) (l2 : Int32), xg lv 0 = some (.ref aR) → xg lv 1 = some (.int l1) → xg lv 2 = some (.int l2) → ∀ res, m_appendCode F  σ l1 l2 = some res → xR pF (d + 4) kT245 16 4 false none none (layR aR res G, T) (0, lv, [], (layR aR σ G, T)) := by
  intro lv σ l1 l2 g0 g1 g2 res h
  unfold m_appendCode at h
  refine eE_aload_n lk245_0 g0 ?_
  refine eE_iload_n lk245_1 g1 ?_
  obtain ⟨p1, h2, h⟩ := Option.bind_eq_some_iff.mp h
  refine eR_call (as := [.int l1]) lk245_2 mr_703 na_327 rfl rfl (Nat.le_of_ble_eq_true rfl) wv_327 wc_327 (m_nextContent_ok hp0 (d := d + 2) h2) ?_
  refine eE_stI (j := 3) lk245_5 (Or.inr ⟨_, rfl, rfl⟩) (by decide) (fun vq3 gq4 kq5 => ?_)
  have gq6 := kq5 1 _ (by decide) (fun _ => rfl) g1
  have gq7 := kq5 2 _ (by decide) (fun _ => rfl) g2
  have gq8 := kq5 0 _ (by decide) (fun _ => rfl) g0
  refine eE_aload_n lk245_6 gq8 ?_
  refine eE_iload_n lk245_7 gq4 ?_
  refine eE_iload_n lk245_8 gq7 ?_
  refine eE_bipush (v := 24) lk245_9 (by decide) ?_
  refine eE_ishr lk245_11 ?_
  refine eE_i2b lk245_12 ?_
  obtain ⟨p9, h10, h⟩ := Option.bind_eq_some_iff.mp h
  refine eR_call (as := [.int p1.1, .int ((l2 >>> (((24 : Int32)) &&& 31)).toInt8.toInt32)]) lk245_13 mr_553 na_316 rfl rfl (Nat.le_of_ble_eq_true rfl) wv_316 wc_316 (m_layLog_ok hp0 (d := d + 3) h10) ?_
  refine eE_aload_n lk245_16 gq8 ?_
  refine eE_iload_n lk245_17 gq4 ?_
  refine eE_iconst (v := 1) lk245_18 (by decide) ?_
  refine eE_iadd lk245_19 ?_
  refine eE_iload_n lk245_20 gq7 ?_
  refine eE_bipush (v := 16) lk245_21 (by decide) ?_
  refine eE_ishr lk245_23 ?_
  refine eE_i2b lk245_24 ?_
  obtain ⟨p11, h12, h⟩ := Option.bind_eq_some_iff.mp h
  refine eR_call (as := [.int (p1.1 + ((1 : Int32))), .int ((l2 >>> (((16 : Int32)) &&& 31)).toInt8.toInt32)]) lk245_25 mr_553 na_316 rfl rfl (Nat.le_of_ble_eq_true rfl) wv_316 wc_316 (m_layLog_ok hp0 (d := d + 3) h12) ?_
  refine eE_aload_n lk245_28 gq8 ?_
  refine eE_iload_n lk245_29 gq4 ?_
  refine eE_iconst (v := 2) lk245_30 (by decide) ?_
  refine eE_iadd lk245_31 ?_
  refine eE_iload_n lk245_32 gq7 ?_
  refine eE_bipush (v := 8) lk245_33 (by decide) ?_
  refine eE_ishr lk245_35 ?_
  refine eE_i2b lk245_36 ?_
  obtain ⟨p13, h14, h⟩ := Option.bind_eq_some_iff.mp h
  refine eR_call (as := [.int (p1.1 + ((2 : Int32))), .int ((l2 >>> (((8 : Int32)) &&& 31)).toInt8.toInt32)]) lk245_37 mr_553 na_316 rfl rfl (Nat.le_of_ble_eq_true rfl) wv_316 wc_316 (m_layLog_ok hp0 (d := d + 3) h14) ?_
  refine eE_aload_n lk245_40 gq8 ?_
  refine eE_iload_n lk245_41 gq4 ?_
  refine eE_iconst (v := 3) lk245_42 (by decide) ?_
  refine eE_iadd lk245_43 ?_
  refine eE_iload_n lk245_44 gq7 ?_
  refine eE_i2b lk245_45 ?_
  obtain ⟨p15, h16, h⟩ := Option.bind_eq_some_iff.mp h
  refine eR_call (as := [.int (p1.1 + ((3 : Int32))), .int (l2.toInt8.toInt32)]) lk245_46 mr_553 na_316 rfl rfl (Nat.le_of_ble_eq_true rfl) wv_316 wc_316 (m_layLog_ok hp0 (d := d + 3) h16) ?_
  refine eE_aload_n lk245_49 gq8 ?_
  refine eE_iload_n lk245_50 gq6 ?_
  refine eE_aload_n lk245_51 gq8 ?_
  refine eR_getA lk245_52 rf_123 rfl ?_
  refine eE_iload_n lk245_55 gq6 ?_
  obtain ⟨x17, h18, h⟩ := Option.bind_eq_some_iff.mp h
  refine eR_iald lk245_56 rfl rfl h18 ?_
  refine eE_iconst (v := 1) lk245_57 (by decide) ?_
  refine eE_iconst (v := 4) lk245_58 (by decide) ?_
  obtain ⟨p19, h20, h⟩ := Option.bind_eq_some_iff.mp h
  refine eR_call (as := [.int l1, .int x17, .int ((1 : Int32)), .int ((4 : Int32))]) lk245_59 mr_672 na_244 rfl rfl (Nat.le_of_ble_eq_true rfl) wv_244 wc_244 (m_append_ok hp0 (d := d + 0) h20) ?_
  cases h
  exact eE_end lk245_62 rfl rfl rfl
theorem m_appendCode_ok {pF : Nat → List Value → xH → Option (Option Value × xH)} (hp0 : xNP pF) {d : Nat} {aR : Nat} {G : Nat → xC} {T : Nat × Nat} {σ : RS} {F : Nat} {l1 : Int32} {l2 : Int32} {res : RS} (h : m_appendCode F σ l1 l2 = some res) : xCo pF (d + 5) 245 [.ref aR, .int l1, .int l2] (layR aR σ G, T) none (layR aR res G, T) := by
  exact xCo_R kk_245 mo_245 ni_245 xm_245 (Nat.le_of_ble_eq_true rfl) (hp0 _ (by decide) (by decide) _ _) (m_appendCode_run hp0 _ σ l1 l2 rfl rfl rfl _ h)
/-! pack (334), depth 1 -/
def m_pack_b5 (F : Nat)  : Nat → RS → Int32 → Int32 → Int32 → Option (RS)
  | 0, _, _, _, _ => none
  | n + 1, σ, l1, l2, l4 =>
    let KK := m_pack_b5 F  n
    if xc0 .lt l4 = true then (
      some σ
    ) else (
      (rst σ 66 ((((14000 : Int32)) * l1) + (σ.1 146 0)) (((l2 >>> ((((8 : Int32)) * l4) &&& 31)).toInt8.toInt32).toInt8.toInt32)).bind fun σ2 =>
      (some (setI σ2 146 0 ((σ2.1 146 0) + ((1 : Int32))))).bind fun σ4 =>
      KK σ4 l1 l2 (l4 + (-1 : Int32))
    )
set_option maxRecDepth 4000 in
theorem m_pack_b5_ok {pF : Nat → List Value → xH → Option (Option Value × xH)} {d : Nat} {aR : Nat} {G : Nat → xC} {T : Nat × Nat} {F : Nat} (hp0 : xNP pF)  : ∀ (n : Nat) (lv : xL) (σ : RS) (l1 : Int32) (l2 : Int32) (l4 : Int32), xg lv 0 = some (.ref aR) → xg lv 1 = some (.int l1) → xg lv 2 = some (.int l2) → xg lv 4 = some (.int l4) → ∀ res, m_pack_b5 F  n σ l1 l2 l4 = some res → xR pF (d + 0) kT334 16 5 false none none (layR aR res G, T) (5, lv, [], (layR aR σ G, T)) := by
  intro n
  induction n with
  | zero => intro lv σ l1 l2 l4 g0 g1 g2 g4 res h; simp [m_pack_b5] at h
  | succ n hKK =>
    intro lv σ l1 l2 l4 g0 g1 g2 g4 res h
    unfold m_pack_b5 at h
    dsimp only at h
    refine eE_iload lk334_5 g4 ?_
    refine eE_if (t := 49) lk334_7 (by decide) (fun c1 => ?_) (fun c1 => ?_)
    · rw [if_pos c1] at h
      cases h
      exact eE_end lk334_49 rfl rfl rfl
    · rw [if_neg c1] at h
      refine eE_aload_n lk334_10 g0 ?_
      refine eR_getA lk334_11 rf_164 rfl ?_
      refine eE_sipush (v := 14000) lk334_14 (by decide) ?_
      refine eE_iload_n lk334_17 g1 ?_
      refine eE_imul lk334_18 ?_
      refine eE_aload_n lk334_19 g0 ?_
      refine eR_get lk334_20 rf_613 rfl ?_
      refine eE_iadd lk334_23 ?_
      refine eE_iload_n lk334_24 g2 ?_
      refine eE_bipush (v := 8) lk334_25 (by decide) ?_
      refine eE_iload lk334_27 g4 ?_
      refine eE_imul lk334_29 ?_
      refine eE_ishr lk334_30 ?_
      refine eE_i2b lk334_31 ?_
      obtain ⟨σ2, h3, h⟩ := Option.bind_eq_some_iff.mp h
      refine eR_bast lk334_32 rfl rfl rfl h3 ?_
      refine eE_aload_n lk334_33 g0 ?_
      refine eE_dup lk334_34 rfl ?_
      refine eR_get lk334_35 rf_613 rfl ?_
      refine eE_iconst (v := 1) lk334_38 (by decide) ?_
      refine eE_iadd lk334_39 ?_
      obtain ⟨σ4, h5, h⟩ := Option.bind_eq_some_iff.mp h
      refine eR_putS lk334_40 rf_613 rfl (by decide) pf_146.1 pf_146.2 h5 ?_
      refine eE_inc (j := 4) (v := l4 + (-1 : Int32)) lk334_43 g4 rfl (by decide) (fun vq6 gq7 kq8 => ?_)
      have gq9 := kq8 1 _ (by decide) (fun _ => rfl) g1
      have gq10 := kq8 2 _ (by decide) (fun _ => rfl) g2
      have gq11 := kq8 0 _ (by decide) (fun _ => rfl) g0
      refine eE_goto (t := 5) lk334_46 (by decide) ?_
      exact hKK vq6 σ4 l1 l2 (l4 + (-1 : Int32)) gq11 gq9 gq10 gq7 _ h
def m_pack_b0 (F : Nat)  (σ : RS) (l1 : Int32) (l2 : Int32) (l3 : Int32) : Option (RS) :=
  m_pack_b5 F  F σ l1 l2 (l3 - ((1 : Int32)))
set_option maxRecDepth 4000 in
theorem m_pack_b0_ok {pF : Nat → List Value → xH → Option (Option Value × xH)} {d : Nat} {aR : Nat} {G : Nat → xC} {T : Nat × Nat} {F : Nat} (hp0 : xNP pF)  : ∀ (lv : xL) (σ : RS) (l1 : Int32) (l2 : Int32) (l3 : Int32), xg lv 0 = some (.ref aR) → xg lv 1 = some (.int l1) → xg lv 2 = some (.int l2) → xg lv 3 = some (.int l3) → ∀ res, m_pack_b0 F  σ l1 l2 l3 = some res → xR pF (d + 0) kT334 16 5 false none none (layR aR res G, T) (0, lv, [], (layR aR σ G, T)) := by
  intro lv σ l1 l2 l3 g0 g1 g2 g3 res h
  unfold m_pack_b0 at h
  refine eE_iload_n lk334_0 g3 ?_
  refine eE_iconst (v := 1) lk334_1 (by decide) ?_
  refine eE_isub lk334_2 ?_
  refine eE_stI (j := 4) lk334_3 (Or.inl rfl) (by decide) (fun vq12 gq13 kq14 => ?_)
  have gq15 := kq14 1 _ (by decide) (fun _ => rfl) g1
  have gq16 := kq14 2 _ (by decide) (fun _ => rfl) g2
  have gq17 := kq14 0 _ (by decide) (fun _ => rfl) g0
  exact m_pack_b5_ok hp0  F vq12 σ l1 l2 (l3 - ((1 : Int32))) gq17 gq15 gq16 gq13 _ h
def m_pack (F : Nat) (σ : RS) (l1 : Int32) (l2 : Int32) (l3 : Int32) : Option (RS) := m_pack_b0 F σ l1 l2 l3
theorem m_pack_ok {pF : Nat → List Value → xH → Option (Option Value × xH)} (hp0 : xNP pF) {d : Nat} {aR : Nat} {G : Nat → xC} {T : Nat × Nat} {σ : RS} {F : Nat} {l1 : Int32} {l2 : Int32} {l3 : Int32} {res : RS} (h : m_pack F σ l1 l2 l3 = some res) : xCo pF (d + 1) 334 [.ref aR, .int l1, .int l2, .int l3] (layR aR σ G, T) none (layR aR res G, T) := by
  unfold m_pack at h
  exact xCo_R kk_334 mo_334 ni_334 xm_334 (Nat.le_of_ble_eq_true rfl) (hp0 _ (by decide) (by decide) _ _) (m_pack_b0_ok hp0 _ σ l1 l2 l3 rfl rfl rfl rfl _ h)
/-! packAll (335), depth 2 -/
def m_packAll_b99 (F : Nat) (K22 : RS → Int32 → Int32 → Option (RS)) : Nat → RS → Int32 → Int32 → Int32 → Option (RS)
  | 0, _, _, _, _ => none
  | n + 1, σ, l1, l2, l3 =>
    let KK := m_packAll_b99 F K22 n
    (rld σ 111 l2).bind fun x1 =>
    if xc2 .ge l3 x1 = true then (
      K22 σ l1 (l2 + (1 : Int32))
    ) else (
      (rld σ 112 ((((112 : Int32)) * l2) + l3)).bind fun x9 =>
      (m_pack F σ l1 x9 ((1 : Int32))).bind fun p11 =>
      KK p11 l1 l2 (l3 + (1 : Int32))
    )
set_option maxRecDepth 4000 in
theorem m_packAll_b99_ok {pF : Nat → List Value → xH → Option (Option Value × xH)} {d : Nat} {aR : Nat} {G : Nat → xC} {T : Nat × Nat} {F : Nat} {K22 : RS → Int32 → Int32 → Option (RS)} (hp0 : xNP pF) (hK22 : ∀ (lv : xL) (σ : RS) (l1 : Int32) (l2 : Int32), xg lv 0 = some (.ref aR) → xg lv 1 = some (.int l1) → xg lv 2 = some (.int l2) → ∀ res, K22 σ l1 l2 = some res → xR pF (d + 1) kT335 16 5 false none none (layR aR res G, T) (22, lv, [], (layR aR σ G, T))) : ∀ (n : Nat) (lv : xL) (σ : RS) (l1 : Int32) (l2 : Int32) (l3 : Int32), xg lv 0 = some (.ref aR) → xg lv 1 = some (.int l1) → xg lv 2 = some (.int l2) → xg lv 3 = some (.int l3) → ∀ res, m_packAll_b99 F K22 n σ l1 l2 l3 = some res → xR pF (d + 1) kT335 16 5 false none none (layR aR res G, T) (99, lv, [], (layR aR σ G, T)) := by
  intro n
  induction n with
  | zero => intro lv σ l1 l2 l3 g0 g1 g2 g3 res h; simp [m_packAll_b99] at h
  | succ n hKK =>
    intro lv σ l1 l2 l3 g0 g1 g2 g3 res h
    unfold m_packAll_b99 at h
    dsimp only at h
    refine eE_iload_n lk335_99 g3 ?_
    refine eE_aload_n lk335_100 g0 ?_
    refine eR_getA lk335_101 rf_299 rfl ?_
    refine eE_iload_n lk335_104 g2 ?_
    obtain ⟨x1, h2, h⟩ := Option.bind_eq_some_iff.mp h
    refine eR_iald lk335_105 rfl rfl h2 ?_
    refine eE_icmp (t := 132) lk335_106 (by decide) (fun c3 => ?_) (fun c3 => ?_)
    · rw [if_pos c3] at h
      refine eE_inc (j := 2) (v := l2 + (1 : Int32)) lk335_132 g2 rfl (by decide) (fun vq4 gq5 kq6 => ?_)
      have gq7 := kq6 1 _ (by decide) (fun _ => rfl) g1
      have gq8 := kq6 0 _ (by decide) (fun _ => rfl) g0
      refine eE_goto (t := 22) lk335_135 (by decide) ?_
      exact hK22 vq4 σ l1 (l2 + (1 : Int32)) gq8 gq7 gq5 _ h
    · rw [if_neg c3] at h
      refine eE_aload_n lk335_109 g0 ?_
      refine eE_iload_n lk335_110 g1 ?_
      refine eE_aload_n lk335_111 g0 ?_
      refine eR_getA lk335_112 rf_302 rfl ?_
      refine eE_bipush (v := 112) lk335_115 (by decide) ?_
      refine eE_iload_n lk335_117 g2 ?_
      refine eE_imul lk335_118 ?_
      refine eE_iload_n lk335_119 g3 ?_
      refine eE_iadd lk335_120 ?_
      obtain ⟨x9, h10, h⟩ := Option.bind_eq_some_iff.mp h
      refine eR_bald lk335_121 rfl (Or.inl rfl) h10 ?_
      refine eE_iconst (v := 1) lk335_122 (by decide) ?_
      obtain ⟨p11, h12, h⟩ := Option.bind_eq_some_iff.mp h
      refine eR_call (as := [.int l1, .int x9, .int ((1 : Int32))]) lk335_123 mr_616 na_334 rfl rfl (Nat.le_of_ble_eq_true rfl) wv_334 wc_334 (m_pack_ok hp0 (d := d + 0) h12) ?_
      refine eE_inc (j := 3) (v := l3 + (1 : Int32)) lk335_126 g3 rfl (by decide) (fun vq13 gq14 kq15 => ?_)
      have gq16 := kq15 1 _ (by decide) (fun _ => rfl) g1
      have gq17 := kq15 2 _ (by decide) (fun _ => rfl) g2
      have gq18 := kq15 0 _ (by decide) (fun _ => rfl) g0
      refine eE_goto (t := 99) lk335_129 (by decide) ?_
      exact hKK vq13 p11 l1 l2 (l3 + (1 : Int32)) gq18 gq16 gq17 gq14 _ h
def m_packAll_b246 (F : Nat) (K152 : RS → Int32 → Int32 → Option (RS)) : Nat → RS → Int32 → Int32 → Int32 → Int32 → Option (RS)
  | 0, _, _, _, _, _ => none
  | n + 1, σ, l1, l2, l3, l4 =>
    let KK := m_packAll_b246 F K152 n
    (rld σ 115 l3).bind fun x19 =>
    if xc2 .ge l4 x19 = true then (
      K152 σ l1 (l2 + (1 : Int32))
    ) else (
      (rld σ 117 ((((100 : Int32)) * l3) + l4)).bind fun x27 =>
      (m_pack F σ l1 x27 ((1 : Int32))).bind fun p29 =>
      KK p29 l1 l2 l3 (l4 + (1 : Int32))
    )
set_option maxRecDepth 4000 in
theorem m_packAll_b246_ok {pF : Nat → List Value → xH → Option (Option Value × xH)} {d : Nat} {aR : Nat} {G : Nat → xC} {T : Nat × Nat} {F : Nat} {K152 : RS → Int32 → Int32 → Option (RS)} (hp0 : xNP pF) (hK152 : ∀ (lv : xL) (σ : RS) (l1 : Int32) (l2 : Int32), xg lv 0 = some (.ref aR) → xg lv 1 = some (.int l1) → xg lv 2 = some (.int l2) → ∀ res, K152 σ l1 l2 = some res → xR pF (d + 1) kT335 16 5 false none none (layR aR res G, T) (152, lv, [], (layR aR σ G, T))) : ∀ (n : Nat) (lv : xL) (σ : RS) (l1 : Int32) (l2 : Int32) (l3 : Int32) (l4 : Int32), xg lv 0 = some (.ref aR) → xg lv 1 = some (.int l1) → xg lv 2 = some (.int l2) → xg lv 3 = some (.int l3) → xg lv 4 = some (.int l4) → ∀ res, m_packAll_b246 F K152 n σ l1 l2 l3 l4 = some res → xR pF (d + 1) kT335 16 5 false none none (layR aR res G, T) (246, lv, [], (layR aR σ G, T)) := by
  intro n
  induction n with
  | zero => intro lv σ l1 l2 l3 l4 g0 g1 g2 g3 g4 res h; simp [m_packAll_b246] at h
  | succ n hKK =>
    intro lv σ l1 l2 l3 l4 g0 g1 g2 g3 g4 res h
    unfold m_packAll_b246 at h
    dsimp only at h
    refine eE_iload lk335_246 g4 ?_
    refine eE_aload_n lk335_248 g0 ?_
    refine eR_getA lk335_249 rf_311 rfl ?_
    refine eE_iload_n lk335_252 g3 ?_
    obtain ⟨x19, h20, h⟩ := Option.bind_eq_some_iff.mp h
    refine eR_iald lk335_253 rfl rfl h20 ?_
    refine eE_icmp (t := 281) lk335_254 (by decide) (fun c21 => ?_) (fun c21 => ?_)
    · rw [if_pos c21] at h
      refine eE_inc (j := 2) (v := l2 + (1 : Int32)) lk335_281 g2 rfl (by decide) (fun vq22 gq23 kq24 => ?_)
      have gq25 := kq24 1 _ (by decide) (fun _ => rfl) g1
      have gq26 := kq24 0 _ (by decide) (fun _ => rfl) g0
      refine eE_goto (t := 152) lk335_284 (by decide) ?_
      exact hK152 vq22 σ l1 (l2 + (1 : Int32)) gq26 gq25 gq23 _ h
    · rw [if_neg c21] at h
      refine eE_aload_n lk335_257 g0 ?_
      refine eE_iload_n lk335_258 g1 ?_
      refine eE_aload_n lk335_259 g0 ?_
      refine eR_getA lk335_260 rf_318 rfl ?_
      refine eE_bipush (v := 100) lk335_263 (by decide) ?_
      refine eE_iload_n lk335_265 g3 ?_
      refine eE_imul lk335_266 ?_
      refine eE_iload lk335_267 g4 ?_
      refine eE_iadd lk335_269 ?_
      obtain ⟨x27, h28, h⟩ := Option.bind_eq_some_iff.mp h
      refine eR_bald lk335_270 rfl (Or.inl rfl) h28 ?_
      refine eE_iconst (v := 1) lk335_271 (by decide) ?_
      obtain ⟨p29, h30, h⟩ := Option.bind_eq_some_iff.mp h
      refine eR_call (as := [.int l1, .int x27, .int ((1 : Int32))]) lk335_272 mr_616 na_334 rfl rfl (Nat.le_of_ble_eq_true rfl) wv_334 wc_334 (m_pack_ok hp0 (d := d + 0) h30) ?_
      refine eE_inc (j := 4) (v := l4 + (1 : Int32)) lk335_275 g4 rfl (by decide) (fun vq31 gq32 kq33 => ?_)
      have gq34 := kq33 1 _ (by decide) (fun _ => rfl) g1
      have gq35 := kq33 2 _ (by decide) (fun _ => rfl) g2
      have gq36 := kq33 3 _ (by decide) (fun _ => rfl) g3
      have gq37 := kq33 0 _ (by decide) (fun _ => rfl) g0
      refine eE_goto (t := 246) lk335_278 (by decide) ?_
      exact hKK vq31 p29 l1 l2 l3 (l4 + (1 : Int32)) gq37 gq34 gq35 gq36 gq32 _ h
def m_packAll_b208 (F : Nat) (K152 : RS → Int32 → Int32 → Option (RS)) : Nat → RS → Int32 → Int32 → Int32 → Int32 → Option (RS)
  | 0, _, _, _, _, _ => none
  | n + 1, σ, l1, l2, l3, l4 =>
    let KK := m_packAll_b208 F K152 n
    (rld σ 114 l3).bind fun x38 =>
    if xc2 .ge l4 x38 = true then (
      m_packAll_b246 F K152 F σ l1 l2 l3 ((0 : Int32))
    ) else (
      (rld σ 116 ((((32 : Int32)) * l3) + l4)).bind fun x48 =>
      (m_pack F σ l1 x48 ((1 : Int32))).bind fun p50 =>
      KK p50 l1 l2 l3 (l4 + (1 : Int32))
    )
set_option maxRecDepth 4000 in
theorem m_packAll_b208_ok {pF : Nat → List Value → xH → Option (Option Value × xH)} {d : Nat} {aR : Nat} {G : Nat → xC} {T : Nat × Nat} {F : Nat} {K152 : RS → Int32 → Int32 → Option (RS)} (hp0 : xNP pF) (hK152 : ∀ (lv : xL) (σ : RS) (l1 : Int32) (l2 : Int32), xg lv 0 = some (.ref aR) → xg lv 1 = some (.int l1) → xg lv 2 = some (.int l2) → ∀ res, K152 σ l1 l2 = some res → xR pF (d + 1) kT335 16 5 false none none (layR aR res G, T) (152, lv, [], (layR aR σ G, T))) : ∀ (n : Nat) (lv : xL) (σ : RS) (l1 : Int32) (l2 : Int32) (l3 : Int32) (l4 : Int32), xg lv 0 = some (.ref aR) → xg lv 1 = some (.int l1) → xg lv 2 = some (.int l2) → xg lv 3 = some (.int l3) → xg lv 4 = some (.int l4) → ∀ res, m_packAll_b208 F K152 n σ l1 l2 l3 l4 = some res → xR pF (d + 1) kT335 16 5 false none none (layR aR res G, T) (208, lv, [], (layR aR σ G, T)) := by
  intro n
  induction n with
  | zero => intro lv σ l1 l2 l3 l4 g0 g1 g2 g3 g4 res h; simp [m_packAll_b208] at h
  | succ n hKK =>
    intro lv σ l1 l2 l3 l4 g0 g1 g2 g3 g4 res h
    unfold m_packAll_b208 at h
    dsimp only at h
    refine eE_iload lk335_208 g4 ?_
    refine eE_aload_n lk335_210 g0 ?_
    refine eR_getA lk335_211 rf_308 rfl ?_
    refine eE_iload_n lk335_214 g3 ?_
    obtain ⟨x38, h39, h⟩ := Option.bind_eq_some_iff.mp h
    refine eR_iald lk335_215 rfl rfl h39 ?_
    refine eE_icmp (t := 243) lk335_216 (by decide) (fun c40 => ?_) (fun c40 => ?_)
    · rw [if_pos c40] at h
      refine eE_iconst (v := 0) lk335_243 (by decide) ?_
      refine eE_stI (j := 4) lk335_244 (Or.inl rfl) (by decide) (fun vq41 gq42 kq43 => ?_)
      have gq44 := kq43 1 _ (by decide) (fun _ => rfl) g1
      have gq45 := kq43 2 _ (by decide) (fun _ => rfl) g2
      have gq46 := kq43 3 _ (by decide) (fun _ => rfl) g3
      have gq47 := kq43 0 _ (by decide) (fun _ => rfl) g0
      exact m_packAll_b246_ok hp0 hK152 F vq41 σ l1 l2 l3 ((0 : Int32)) gq47 gq44 gq45 gq46 gq42 _ h
    · rw [if_neg c40] at h
      refine eE_aload_n lk335_219 g0 ?_
      refine eE_iload_n lk335_220 g1 ?_
      refine eE_aload_n lk335_221 g0 ?_
      refine eR_getA lk335_222 rf_314 rfl ?_
      refine eE_bipush (v := 32) lk335_225 (by decide) ?_
      refine eE_iload_n lk335_227 g3 ?_
      refine eE_imul lk335_228 ?_
      refine eE_iload lk335_229 g4 ?_
      refine eE_iadd lk335_231 ?_
      obtain ⟨x48, h49, h⟩ := Option.bind_eq_some_iff.mp h
      refine eR_bald lk335_232 rfl (Or.inl rfl) h49 ?_
      refine eE_iconst (v := 1) lk335_233 (by decide) ?_
      obtain ⟨p50, h51, h⟩ := Option.bind_eq_some_iff.mp h
      refine eR_call (as := [.int l1, .int x48, .int ((1 : Int32))]) lk335_234 mr_616 na_334 rfl rfl (Nat.le_of_ble_eq_true rfl) wv_334 wc_334 (m_pack_ok hp0 (d := d + 0) h51) ?_
      refine eE_inc (j := 4) (v := l4 + (1 : Int32)) lk335_237 g4 rfl (by decide) (fun vq52 gq53 kq54 => ?_)
      have gq55 := kq54 1 _ (by decide) (fun _ => rfl) g1
      have gq56 := kq54 2 _ (by decide) (fun _ => rfl) g2
      have gq57 := kq54 3 _ (by decide) (fun _ => rfl) g3
      have gq58 := kq54 0 _ (by decide) (fun _ => rfl) g0
      refine eE_goto (t := 208) lk335_240 (by decide) ?_
      exact hKK vq52 p50 l1 l2 l3 (l4 + (1 : Int32)) gq58 gq55 gq56 gq57 gq53 _ h
def m_packAll_b152 (F : Nat)  : Nat → RS → Int32 → Int32 → Option (RS)
  | 0, _, _, _ => none
  | n + 1, σ, l1, l2 =>
    let KK := m_packAll_b152 F  n
    (rld σ 113 l1).bind fun x59 =>
    if xc2 .ge l2 x59 = true then (
      (rst σ 67 l1 ((σ.1 146 0))).bind fun σ62 =>
      some σ62
    ) else (
      (rld σ 118 ((((128 : Int32)) * l1) + l2)).bind fun x64 =>
      (rld σ 114 ((((128 : Int32)) * l1) + x64)).bind fun x72 =>
      (m_pack F σ l1 x72 ((1 : Int32))).bind fun p74 =>
      (rld p74 115 ((((128 : Int32)) * l1) + x64)).bind fun x76 =>
      (m_pack F p74 l1 x76 ((2 : Int32))).bind fun p78 =>
      m_packAll_b208 F KK F p78 l1 l2 ((((128 : Int32)) * l1) + x64) ((0 : Int32))
    )
set_option maxRecDepth 4000 in
theorem m_packAll_b152_ok {pF : Nat → List Value → xH → Option (Option Value × xH)} {d : Nat} {aR : Nat} {G : Nat → xC} {T : Nat × Nat} {F : Nat} (hp0 : xNP pF)  : ∀ (n : Nat) (lv : xL) (σ : RS) (l1 : Int32) (l2 : Int32), xg lv 0 = some (.ref aR) → xg lv 1 = some (.int l1) → xg lv 2 = some (.int l2) → ∀ res, m_packAll_b152 F  n σ l1 l2 = some res → xR pF (d + 1) kT335 16 5 false none none (layR aR res G, T) (152, lv, [], (layR aR σ G, T)) := by
  intro n
  induction n with
  | zero => intro lv σ l1 l2 g0 g1 g2 res h; simp [m_packAll_b152] at h
  | succ n hKK =>
    intro lv σ l1 l2 g0 g1 g2 res h
    unfold m_packAll_b152 at h
    dsimp only at h
    refine eE_iload_n lk335_152 g2 ?_
    refine eE_aload_n lk335_153 g0 ?_
    refine eR_getA lk335_154 rf_305 rfl ?_
    refine eE_iload_n lk335_157 g1 ?_
    obtain ⟨x59, h60, h⟩ := Option.bind_eq_some_iff.mp h
    refine eR_iald lk335_158 rfl rfl h60 ?_
    refine eE_icmp (t := 287) lk335_159 (by decide) (fun c61 => ?_) (fun c61 => ?_)
    · rw [if_pos c61] at h
      refine eE_aload_n lk335_287 g0 ?_
      refine eR_getA lk335_288 rf_167 rfl ?_
      refine eE_iload_n lk335_291 g1 ?_
      refine eE_aload_n lk335_292 g0 ?_
      refine eR_get lk335_293 rf_613 rfl ?_
      obtain ⟨σ62, h63, h⟩ := Option.bind_eq_some_iff.mp h
      refine eR_iast lk335_296 rfl rfl h63 ?_
      cases h
      exact eE_end lk335_297 rfl rfl rfl
    · rw [if_neg c61] at h
      refine eE_sipush (v := 128) lk335_162 (by decide) ?_
      refine eE_iload_n lk335_165 g1 ?_
      refine eE_imul lk335_166 ?_
      refine eE_aload_n lk335_167 g0 ?_
      refine eR_getA lk335_168 rf_321 rfl ?_
      refine eE_sipush (v := 128) lk335_171 (by decide) ?_
      refine eE_iload_n lk335_174 g1 ?_
      refine eE_imul lk335_175 ?_
      refine eE_iload_n lk335_176 g2 ?_
      refine eE_iadd lk335_177 ?_
      obtain ⟨x64, h65, h⟩ := Option.bind_eq_some_iff.mp h
      refine eR_iald lk335_178 rfl rfl h65 ?_
      refine eE_iadd lk335_179 ?_
      refine eE_stI (j := 3) lk335_180 (Or.inr ⟨_, rfl, rfl⟩) (by decide) (fun vq66 gq67 kq68 => ?_)
      have gq69 := kq68 1 _ (by decide) (fun _ => rfl) g1
      have gq70 := kq68 2 _ (by decide) (fun _ => rfl) g2
      have gq71 := kq68 0 _ (by decide) (fun _ => rfl) g0
      refine eE_aload_n lk335_181 gq71 ?_
      refine eE_iload_n lk335_182 gq69 ?_
      refine eE_aload_n lk335_183 gq71 ?_
      refine eR_getA lk335_184 rf_308 rfl ?_
      refine eE_iload_n lk335_187 gq67 ?_
      obtain ⟨x72, h73, h⟩ := Option.bind_eq_some_iff.mp h
      refine eR_iald lk335_188 rfl rfl h73 ?_
      refine eE_iconst (v := 1) lk335_189 (by decide) ?_
      obtain ⟨p74, h75, h⟩ := Option.bind_eq_some_iff.mp h
      refine eR_call (as := [.int l1, .int x72, .int ((1 : Int32))]) lk335_190 mr_616 na_334 rfl rfl (Nat.le_of_ble_eq_true rfl) wv_334 wc_334 (m_pack_ok hp0 (d := d + 0) h75) ?_
      refine eE_aload_n lk335_193 gq71 ?_
      refine eE_iload_n lk335_194 gq69 ?_
      refine eE_aload_n lk335_195 gq71 ?_
      refine eR_getA lk335_196 rf_311 rfl ?_
      refine eE_iload_n lk335_199 gq67 ?_
      obtain ⟨x76, h77, h⟩ := Option.bind_eq_some_iff.mp h
      refine eR_iald lk335_200 rfl rfl h77 ?_
      refine eE_iconst (v := 2) lk335_201 (by decide) ?_
      obtain ⟨p78, h79, h⟩ := Option.bind_eq_some_iff.mp h
      refine eR_call (as := [.int l1, .int x76, .int ((2 : Int32))]) lk335_202 mr_616 na_334 rfl rfl (Nat.le_of_ble_eq_true rfl) wv_334 wc_334 (m_pack_ok hp0 (d := d + 0) h79) ?_
      refine eE_iconst (v := 0) lk335_205 (by decide) ?_
      refine eE_stI (j := 4) lk335_206 (Or.inl rfl) (by decide) (fun vq80 gq81 kq82 => ?_)
      have gq83 := kq82 1 _ (by decide) (fun _ => rfl) gq69
      have gq84 := kq82 2 _ (by decide) (fun _ => rfl) gq70
      have gq85 := kq82 0 _ (by decide) (fun _ => rfl) gq71
      have gq86 := kq82 3 _ (by decide) (fun _ => rfl) gq67
      exact m_packAll_b208_ok hp0 hKK F vq80 p78 l1 l2 ((((128 : Int32)) * l1) + x64) ((0 : Int32)) gq85 gq83 gq84 gq86 gq81 _ h
def m_packAll_b22 (F : Nat)  : Nat → RS → Int32 → Int32 → Option (RS)
  | 0, _, _, _ => none
  | n + 1, σ, l1, l2 =>
    let KK := m_packAll_b22 F  n
    (rld σ 106 l1).bind fun x87 =>
    if xc2 .ge l2 ((((16 : Int32)) * l1) + x87) = true then (
      (rld σ 113 l1).bind fun x90 =>
      (m_pack F σ l1 x90 ((4 : Int32))).bind fun p92 =>
      m_packAll_b152 F  F p92 l1 ((0 : Int32))
    ) else (
      (rld σ 107 l2).bind fun x99 =>
      (m_pack F σ l1 x99 ((4 : Int32))).bind fun p101 =>
      (rld p101 108 l2).bind fun x103 =>
      (m_pack F p101 l1 x103 ((4 : Int32))).bind fun p105 =>
      (rld p105 109 l2).bind fun x107 =>
      (m_pack F p105 l1 x107 ((4 : Int32))).bind fun p109 =>
      (rld p109 110 l2).bind fun x111 =>
      (m_pack F p109 l1 x111 ((4 : Int32))).bind fun p113 =>
      (rld p113 111 l2).bind fun x115 =>
      (m_pack F p113 l1 x115 ((2 : Int32))).bind fun p117 =>
      m_packAll_b99 F KK F p117 l1 l2 ((0 : Int32))
    )
set_option maxRecDepth 4000 in
theorem m_packAll_b22_ok {pF : Nat → List Value → xH → Option (Option Value × xH)} {d : Nat} {aR : Nat} {G : Nat → xC} {T : Nat × Nat} {F : Nat} (hp0 : xNP pF)  : ∀ (n : Nat) (lv : xL) (σ : RS) (l1 : Int32) (l2 : Int32), xg lv 0 = some (.ref aR) → xg lv 1 = some (.int l1) → xg lv 2 = some (.int l2) → ∀ res, m_packAll_b22 F  n σ l1 l2 = some res → xR pF (d + 1) kT335 16 5 false none none (layR aR res G, T) (22, lv, [], (layR aR σ G, T)) := by
  intro n
  induction n with
  | zero => intro lv σ l1 l2 g0 g1 g2 res h; simp [m_packAll_b22] at h
  | succ n hKK =>
    intro lv σ l1 l2 g0 g1 g2 res h
    unfold m_packAll_b22 at h
    dsimp only at h
    refine eE_iload_n lk335_22 g2 ?_
    refine eE_bipush (v := 16) lk335_23 (by decide) ?_
    refine eE_iload_n lk335_25 g1 ?_
    refine eE_imul lk335_26 ?_
    refine eE_aload_n lk335_27 g0 ?_
    refine eR_getA lk335_28 rf_284 rfl ?_
    refine eE_iload_n lk335_31 g1 ?_
    obtain ⟨x87, h88, h⟩ := Option.bind_eq_some_iff.mp h
    refine eR_iald lk335_32 rfl rfl h88 ?_
    refine eE_iadd lk335_33 ?_
    refine eE_icmp (t := 138) lk335_34 (by decide) (fun c89 => ?_) (fun c89 => ?_)
    · rw [if_pos c89] at h
      refine eE_aload_n lk335_138 g0 ?_
      refine eE_iload_n lk335_139 g1 ?_
      refine eE_aload_n lk335_140 g0 ?_
      refine eR_getA lk335_141 rf_305 rfl ?_
      refine eE_iload_n lk335_144 g1 ?_
      obtain ⟨x90, h91, h⟩ := Option.bind_eq_some_iff.mp h
      refine eR_iald lk335_145 rfl rfl h91 ?_
      refine eE_iconst (v := 4) lk335_146 (by decide) ?_
      obtain ⟨p92, h93, h⟩ := Option.bind_eq_some_iff.mp h
      refine eR_call (as := [.int l1, .int x90, .int ((4 : Int32))]) lk335_147 mr_616 na_334 rfl rfl (Nat.le_of_ble_eq_true rfl) wv_334 wc_334 (m_pack_ok hp0 (d := d + 0) h93) ?_
      refine eE_iconst (v := 0) lk335_150 (by decide) ?_
      refine eE_stI (j := 2) lk335_151 (Or.inr ⟨_, rfl, rfl⟩) (by decide) (fun vq94 gq95 kq96 => ?_)
      have gq97 := kq96 1 _ (by decide) (fun _ => rfl) g1
      have gq98 := kq96 0 _ (by decide) (fun _ => rfl) g0
      exact m_packAll_b152_ok hp0  F vq94 p92 l1 ((0 : Int32)) gq98 gq97 gq95 _ h
    · rw [if_neg c89] at h
      refine eE_aload_n lk335_37 g0 ?_
      refine eE_iload_n lk335_38 g1 ?_
      refine eE_aload_n lk335_39 g0 ?_
      refine eR_getA lk335_40 rf_287 rfl ?_
      refine eE_iload_n lk335_43 g2 ?_
      obtain ⟨x99, h100, h⟩ := Option.bind_eq_some_iff.mp h
      refine eR_iald lk335_44 rfl rfl h100 ?_
      refine eE_iconst (v := 4) lk335_45 (by decide) ?_
      obtain ⟨p101, h102, h⟩ := Option.bind_eq_some_iff.mp h
      refine eR_call (as := [.int l1, .int x99, .int ((4 : Int32))]) lk335_46 mr_616 na_334 rfl rfl (Nat.le_of_ble_eq_true rfl) wv_334 wc_334 (m_pack_ok hp0 (d := d + 0) h102) ?_
      refine eE_aload_n lk335_49 g0 ?_
      refine eE_iload_n lk335_50 g1 ?_
      refine eE_aload_n lk335_51 g0 ?_
      refine eR_getA lk335_52 rf_290 rfl ?_
      refine eE_iload_n lk335_55 g2 ?_
      obtain ⟨x103, h104, h⟩ := Option.bind_eq_some_iff.mp h
      refine eR_iald lk335_56 rfl rfl h104 ?_
      refine eE_iconst (v := 4) lk335_57 (by decide) ?_
      obtain ⟨p105, h106, h⟩ := Option.bind_eq_some_iff.mp h
      refine eR_call (as := [.int l1, .int x103, .int ((4 : Int32))]) lk335_58 mr_616 na_334 rfl rfl (Nat.le_of_ble_eq_true rfl) wv_334 wc_334 (m_pack_ok hp0 (d := d + 0) h106) ?_
      refine eE_aload_n lk335_61 g0 ?_
      refine eE_iload_n lk335_62 g1 ?_
      refine eE_aload_n lk335_63 g0 ?_
      refine eR_getA lk335_64 rf_293 rfl ?_
      refine eE_iload_n lk335_67 g2 ?_
      obtain ⟨x107, h108, h⟩ := Option.bind_eq_some_iff.mp h
      refine eR_iald lk335_68 rfl rfl h108 ?_
      refine eE_iconst (v := 4) lk335_69 (by decide) ?_
      obtain ⟨p109, h110, h⟩ := Option.bind_eq_some_iff.mp h
      refine eR_call (as := [.int l1, .int x107, .int ((4 : Int32))]) lk335_70 mr_616 na_334 rfl rfl (Nat.le_of_ble_eq_true rfl) wv_334 wc_334 (m_pack_ok hp0 (d := d + 0) h110) ?_
      refine eE_aload_n lk335_73 g0 ?_
      refine eE_iload_n lk335_74 g1 ?_
      refine eE_aload_n lk335_75 g0 ?_
      refine eR_getA lk335_76 rf_296 rfl ?_
      refine eE_iload_n lk335_79 g2 ?_
      obtain ⟨x111, h112, h⟩ := Option.bind_eq_some_iff.mp h
      refine eR_iald lk335_80 rfl rfl h112 ?_
      refine eE_iconst (v := 4) lk335_81 (by decide) ?_
      obtain ⟨p113, h114, h⟩ := Option.bind_eq_some_iff.mp h
      refine eR_call (as := [.int l1, .int x111, .int ((4 : Int32))]) lk335_82 mr_616 na_334 rfl rfl (Nat.le_of_ble_eq_true rfl) wv_334 wc_334 (m_pack_ok hp0 (d := d + 0) h114) ?_
      refine eE_aload_n lk335_85 g0 ?_
      refine eE_iload_n lk335_86 g1 ?_
      refine eE_aload_n lk335_87 g0 ?_
      refine eR_getA lk335_88 rf_299 rfl ?_
      refine eE_iload_n lk335_91 g2 ?_
      obtain ⟨x115, h116, h⟩ := Option.bind_eq_some_iff.mp h
      refine eR_iald lk335_92 rfl rfl h116 ?_
      refine eE_iconst (v := 2) lk335_93 (by decide) ?_
      obtain ⟨p117, h118, h⟩ := Option.bind_eq_some_iff.mp h
      refine eR_call (as := [.int l1, .int x115, .int ((2 : Int32))]) lk335_94 mr_616 na_334 rfl rfl (Nat.le_of_ble_eq_true rfl) wv_334 wc_334 (m_pack_ok hp0 (d := d + 0) h118) ?_
      refine eE_iconst (v := 0) lk335_97 (by decide) ?_
      refine eE_stI (j := 3) lk335_98 (Or.inr ⟨_, rfl, rfl⟩) (by decide) (fun vq119 gq120 kq121 => ?_)
      have gq122 := kq121 1 _ (by decide) (fun _ => rfl) g1
      have gq123 := kq121 2 _ (by decide) (fun _ => rfl) g2
      have gq124 := kq121 0 _ (by decide) (fun _ => rfl) g0
      exact m_packAll_b99_ok hp0 hKK F vq119 p117 l1 l2 ((0 : Int32)) gq124 gq122 gq123 gq120 _ h
def m_packAll_b0 (F : Nat)  (σ : RS) (l1 : Int32) : Option (RS) :=
  (some (setI σ 146 0 ((0 : Int32)))).bind fun σ125 =>
  (rld σ125 106 l1).bind fun x127 =>
  (m_pack F σ125 l1 x127 ((4 : Int32))).bind fun p129 =>
  m_packAll_b22 F  F p129 l1 (((16 : Int32)) * l1)
set_option maxRecDepth 4000 in
theorem m_packAll_b0_ok {pF : Nat → List Value → xH → Option (Option Value × xH)} {d : Nat} {aR : Nat} {G : Nat → xC} {T : Nat × Nat} {F : Nat} (hp0 : xNP pF)  : ∀ (lv : xL) (σ : RS) (l1 : Int32), xg lv 0 = some (.ref aR) → xg lv 1 = some (.int l1) → ∀ res, m_packAll_b0 F  σ l1 = some res → xR pF (d + 1) kT335 16 5 false none none (layR aR res G, T) (0, lv, [], (layR aR σ G, T)) := by
  intro lv σ l1 g0 g1 res h
  unfold m_packAll_b0 at h
  refine eE_aload_n lk335_0 g0 ?_
  refine eE_iconst (v := 0) lk335_1 (by decide) ?_
  obtain ⟨σ125, h126, h⟩ := Option.bind_eq_some_iff.mp h
  refine eR_putS lk335_2 rf_613 rfl (by decide) pf_146.1 pf_146.2 h126 ?_
  refine eE_aload_n lk335_5 g0 ?_
  refine eE_iload_n lk335_6 g1 ?_
  refine eE_aload_n lk335_7 g0 ?_
  refine eR_getA lk335_8 rf_284 rfl ?_
  refine eE_iload_n lk335_11 g1 ?_
  obtain ⟨x127, h128, h⟩ := Option.bind_eq_some_iff.mp h
  refine eR_iald lk335_12 rfl rfl h128 ?_
  refine eE_iconst (v := 4) lk335_13 (by decide) ?_
  obtain ⟨p129, h130, h⟩ := Option.bind_eq_some_iff.mp h
  refine eR_call (as := [.int l1, .int x127, .int ((4 : Int32))]) lk335_14 mr_616 na_334 rfl rfl (Nat.le_of_ble_eq_true rfl) wv_334 wc_334 (m_pack_ok hp0 (d := d + 0) h130) ?_
  refine eE_bipush (v := 16) lk335_17 (by decide) ?_
  refine eE_iload_n lk335_19 g1 ?_
  refine eE_imul lk335_20 ?_
  refine eE_stI (j := 2) lk335_21 (Or.inr ⟨_, rfl, rfl⟩) (by decide) (fun vq131 gq132 kq133 => ?_)
  have gq134 := kq133 1 _ (by decide) (fun _ => rfl) g1
  have gq135 := kq133 0 _ (by decide) (fun _ => rfl) g0
  exact m_packAll_b22_ok hp0  F vq131 p129 l1 (((16 : Int32)) * l1) gq135 gq134 gq132 _ h
def m_packAll (F : Nat) (σ : RS) (l1 : Int32) : Option (RS) := m_packAll_b0 F σ l1
theorem m_packAll_ok {pF : Nat → List Value → xH → Option (Option Value × xH)} (hp0 : xNP pF) {d : Nat} {aR : Nat} {G : Nat → xC} {T : Nat × Nat} {σ : RS} {F : Nat} {l1 : Int32} {res : RS} (h : m_packAll F σ l1 = some res) : xCo pF (d + 2) 335 [.ref aR, .int l1] (layR aR σ G, T) none (layR aR res G, T) := by
  unfold m_packAll at h
  exact xCo_R kk_335 mo_335 ni_335 xm_335 (Nat.le_of_ble_eq_true rfl) (hp0 _ (by decide) (by decide) _ _) (m_packAll_b0_ok hp0 _ σ l1 rfl rfl _ h)
/-! removeFile (347), depth 2 -/
def m_removeFile  (σ : RS) (l1 : Int32) (l2 : Int32) : Option (RS) :=
  (m_fileOf l1 l2).bind fun p1 =>
  if ((2 : Int32)) = 0 then none else
  (rst σ 44 (p1 / ((2 : Int32))) ((((1 : Int32)) &&& 1))).bind fun σ8 =>
  (rst σ8 38 p1 ((((0 : Int32)) &&& 1))).bind fun σ10 =>
  (rst σ10 37 p1 (((0 : Int32)))).bind fun σ12 =>
  if ((2 : Int32)) = 0 then none else
  (rst σ12 43 (p1 / ((2 : Int32))) (((0 : Int32)))).bind fun σ15 =>
  some σ15
set_option maxRecDepth 4000 in
theorem m_removeFile_run {pF : Nat → List Value → xH → Option (Option Value × xH)} {d : Nat} {aR : Nat} {G : Nat → xC} {T : Nat × Nat} (hp0 : xNP pF)  : ∀ (lv : xL) (σ : RS) (l1 : Int32) (l2 : Int32), xg lv 0 = some (.ref aR) → xg lv 1 = some (.int l1) → xg lv 2 = some (.int l2) → ∀ res, m_removeFile  σ l1 l2 = some res → xR pF (d + 1) kT347 16 4 false none none (layR aR res G, T) (0, lv, [], (layR aR σ G, T)) := by
  intro lv σ l1 l2 g0 g1 g2 res h
  unfold m_removeFile at h
  refine eE_iload_n lk347_0 g1 ?_
  refine eE_iload_n lk347_1 g2 ?_
  obtain ⟨p1, h2, h⟩ := Option.bind_eq_some_iff.mp h
  refine eE_stat (as := [.int l1, .int l2]) lk347_2 mr_492 na_280 rfl rfl (Nat.le_of_ble_eq_true rfl) mm_280 ws_280 (m_fileOf_ok hp0 (d := d + 0) h2) ?_
  refine eE_stI (j := 3) lk347_5 (Or.inr ⟨_, rfl, rfl⟩) (by decide) (fun vq3 gq4 kq5 => ?_)
  have gq6 := kq5 0 _ (by decide) (fun _ => rfl) g0
  refine eE_aload_n lk347_6 gq6 ?_
  refine eR_getA lk347_7 rf_99 rfl ?_
  refine eE_iload_n lk347_10 gq4 ?_
  refine eE_iconst (v := 2) lk347_11 (by decide) ?_
  by_cases z7 : ((2 : Int32)) = 0
  · rw [if_pos z7] at h; cases h
  rw [if_neg z7] at h
  refine eE_idiv lk347_12 z7 ?_
  refine eE_iconst (v := 1) lk347_13 (by decide) ?_
  obtain ⟨σ8, h9, h⟩ := Option.bind_eq_some_iff.mp h
  refine eR_zast lk347_14 rfl rfl rfl h9 ?_
  refine eE_aload_n lk347_15 gq6 ?_
  refine eR_getA lk347_16 rf_81 rfl ?_
  refine eE_iload_n lk347_19 gq4 ?_
  refine eE_iconst (v := 0) lk347_20 (by decide) ?_
  obtain ⟨σ10, h11, h⟩ := Option.bind_eq_some_iff.mp h
  refine eR_zast lk347_21 rfl rfl rfl h11 ?_
  refine eE_aload_n lk347_22 gq6 ?_
  refine eR_getA lk347_23 rf_78 rfl ?_
  refine eE_iload_n lk347_26 gq4 ?_
  refine eE_iconst (v := 0) lk347_27 (by decide) ?_
  obtain ⟨σ12, h13, h⟩ := Option.bind_eq_some_iff.mp h
  refine eR_iast lk347_28 rfl rfl h13 ?_
  refine eE_aload_n lk347_29 gq6 ?_
  refine eR_getA lk347_30 rf_96 rfl ?_
  refine eE_iload_n lk347_33 gq4 ?_
  refine eE_iconst (v := 2) lk347_34 (by decide) ?_
  by_cases z14 : ((2 : Int32)) = 0
  · rw [if_pos z14] at h; cases h
  rw [if_neg z14] at h
  refine eE_idiv lk347_35 z14 ?_
  refine eE_iconst (v := 0) lk347_36 (by decide) ?_
  obtain ⟨σ15, h16, h⟩ := Option.bind_eq_some_iff.mp h
  refine eR_iast lk347_37 rfl rfl h16 ?_
  cases h
  exact eE_end lk347_38 rfl rfl rfl
theorem m_removeFile_ok {pF : Nat → List Value → xH → Option (Option Value × xH)} (hp0 : xNP pF) {d : Nat} {aR : Nat} {G : Nat → xC} {T : Nat × Nat} {σ : RS} {l1 : Int32} {l2 : Int32} {res : RS} (h : m_removeFile σ l1 l2 = some res) : xCo pF (d + 2) 347 [.ref aR, .int l1, .int l2] (layR aR σ G, T) none (layR aR res G, T) := by
  exact xCo_R kk_347 mo_347 ni_347 xm_347 (Nat.le_of_ble_eq_true rfl) (hp0 _ (by decide) (by decide) _ _) (m_removeFile_run hp0 _ σ l1 l2 rfl rfl rfl _ h)
/-! trim (374), depth 3 -/
def m_trim_b63 (F : Nat) (K2 : RS → Int32 → Int32 → Option (RS)) (σ : RS) (l1 : Int32) (l2 : Int32) : Option (RS) :=
  (rld σ 50 ((((12 : Int32)) * l1) + l2)).bind fun x1 =>
  (m_removeFile σ l1 x1).bind fun p3 =>
  K2 p3 l1 (l2 + (1 : Int32))
set_option maxRecDepth 4000 in
theorem m_trim_b63_ok {pF : Nat → List Value → xH → Option (Option Value × xH)} {d : Nat} {aR : Nat} {G : Nat → xC} {T : Nat × Nat} {F : Nat} {K2 : RS → Int32 → Int32 → Option (RS)} (hp0 : xNP pF) (hK2 : ∀ (lv : xL) (σ : RS) (l1 : Int32) (l2 : Int32), xg lv 0 = some (.ref aR) → xg lv 1 = some (.int l1) → xg lv 2 = some (.int l2) → ∀ res, K2 σ l1 l2 = some res → xR pF (d + 2) kT374 16 4 false none none (layR aR res G, T) (2, lv, [], (layR aR σ G, T))) : ∀ (lv : xL) (σ : RS) (l1 : Int32) (l2 : Int32), xg lv 0 = some (.ref aR) → xg lv 1 = some (.int l1) → xg lv 2 = some (.int l2) → ∀ res, m_trim_b63 F K2 σ l1 l2 = some res → xR pF (d + 2) kT374 16 4 false none none (layR aR res G, T) (63, lv, [], (layR aR σ G, T)) := by
  intro lv σ l1 l2 g0 g1 g2 res h
  unfold m_trim_b63 at h
  refine eE_aload_n lk374_63 g0 ?_
  refine eE_iload_n lk374_64 g1 ?_
  refine eE_aload_n lk374_65 g0 ?_
  refine eR_getA lk374_66 rf_114 rfl ?_
  refine eE_bipush (v := 12) lk374_69 (by decide) ?_
  refine eE_iload_n lk374_71 g1 ?_
  refine eE_imul lk374_72 ?_
  refine eE_iload_n lk374_73 g2 ?_
  refine eE_iadd lk374_74 ?_
  obtain ⟨x1, h2, h⟩ := Option.bind_eq_some_iff.mp h
  refine eR_iald lk374_75 rfl rfl h2 ?_
  obtain ⟨p3, h4, h⟩ := Option.bind_eq_some_iff.mp h
  refine eR_call (as := [.int l1, .int x1]) lk374_76 mr_539 na_347 rfl rfl (Nat.le_of_ble_eq_true rfl) wv_347 wc_347 (m_removeFile_ok hp0 (d := d + 0) h4) ?_
  refine eE_inc (j := 2) (v := l2 + (1 : Int32)) lk374_79 g2 rfl (by decide) (fun vq5 gq6 kq7 => ?_)
  have gq8 := kq7 1 _ (by decide) (fun _ => rfl) g1
  have gq9 := kq7 0 _ (by decide) (fun _ => rfl) g0
  refine eE_goto (t := 2) lk374_82 (by decide) ?_
  exact hK2 vq5 p3 l1 (l2 + (1 : Int32)) gq9 gq8 gq6 _ h
def m_trim_b97 (F : Nat)  : Nat → RS → Int32 → Int32 → Int32 → Option (RS)
  | 0, _, _, _, _ => none
  | n + 1, σ, l1, l2, l3 =>
    let KK := m_trim_b97 F  n
    (rld σ 49 l1).bind fun x10 =>
    if xc2 .ge l3 x10 = true then (
      some σ
    ) else (
      (rld σ 50 (((((12 : Int32)) * l1) + l3) + l2)).bind fun x13 =>
      (rst σ 50 ((((12 : Int32)) * l1) + l3) x13).bind fun σ15 =>
      (rld σ15 51 (((((12 : Int32)) * l1) + l3) + l2)).bind fun x17 =>
      (rst σ15 51 ((((12 : Int32)) * l1) + l3) x17).bind fun σ19 =>
      KK σ19 l1 l2 (l3 + (1 : Int32))
    )
set_option maxRecDepth 4000 in
theorem m_trim_b97_ok {pF : Nat → List Value → xH → Option (Option Value × xH)} {d : Nat} {aR : Nat} {G : Nat → xC} {T : Nat × Nat} {F : Nat} (hp0 : xNP pF)  : ∀ (n : Nat) (lv : xL) (σ : RS) (l1 : Int32) (l2 : Int32) (l3 : Int32), xg lv 0 = some (.ref aR) → xg lv 1 = some (.int l1) → xg lv 2 = some (.int l2) → xg lv 3 = some (.int l3) → ∀ res, m_trim_b97 F  n σ l1 l2 l3 = some res → xR pF (d + 2) kT374 16 4 false none none (layR aR res G, T) (97, lv, [], (layR aR σ G, T)) := by
  intro n
  induction n with
  | zero => intro lv σ l1 l2 l3 g0 g1 g2 g3 res h; simp [m_trim_b97] at h
  | succ n hKK =>
    intro lv σ l1 l2 l3 g0 g1 g2 g3 res h
    unfold m_trim_b97 at h
    dsimp only at h
    refine eE_iload_n lk374_97 g3 ?_
    refine eE_aload_n lk374_98 g0 ?_
    refine eR_getA lk374_99 rf_111 rfl ?_
    refine eE_iload_n lk374_102 g1 ?_
    obtain ⟨x10, h11, h⟩ := Option.bind_eq_some_iff.mp h
    refine eR_iald lk374_103 rfl rfl h11 ?_
    refine eE_icmp (t := 161) lk374_104 (by decide) (fun c12 => ?_) (fun c12 => ?_)
    · rw [if_pos c12] at h
      cases h
      exact eE_end lk374_161 rfl rfl rfl
    · rw [if_neg c12] at h
      refine eE_aload_n lk374_107 g0 ?_
      refine eR_getA lk374_108 rf_114 rfl ?_
      refine eE_bipush (v := 12) lk374_111 (by decide) ?_
      refine eE_iload_n lk374_113 g1 ?_
      refine eE_imul lk374_114 ?_
      refine eE_iload_n lk374_115 g3 ?_
      refine eE_iadd lk374_116 ?_
      refine eE_aload_n lk374_117 g0 ?_
      refine eR_getA lk374_118 rf_114 rfl ?_
      refine eE_bipush (v := 12) lk374_121 (by decide) ?_
      refine eE_iload_n lk374_123 g1 ?_
      refine eE_imul lk374_124 ?_
      refine eE_iload_n lk374_125 g3 ?_
      refine eE_iadd lk374_126 ?_
      refine eE_iload_n lk374_127 g2 ?_
      refine eE_iadd lk374_128 ?_
      obtain ⟨x13, h14, h⟩ := Option.bind_eq_some_iff.mp h
      refine eR_iald lk374_129 rfl rfl h14 ?_
      obtain ⟨σ15, h16, h⟩ := Option.bind_eq_some_iff.mp h
      refine eR_iast lk374_130 rfl rfl h16 ?_
      refine eE_aload_n lk374_131 g0 ?_
      refine eR_getA lk374_132 rf_117 rfl ?_
      refine eE_bipush (v := 12) lk374_135 (by decide) ?_
      refine eE_iload_n lk374_137 g1 ?_
      refine eE_imul lk374_138 ?_
      refine eE_iload_n lk374_139 g3 ?_
      refine eE_iadd lk374_140 ?_
      refine eE_aload_n lk374_141 g0 ?_
      refine eR_getA lk374_142 rf_117 rfl ?_
      refine eE_bipush (v := 12) lk374_145 (by decide) ?_
      refine eE_iload_n lk374_147 g1 ?_
      refine eE_imul lk374_148 ?_
      refine eE_iload_n lk374_149 g3 ?_
      refine eE_iadd lk374_150 ?_
      refine eE_iload_n lk374_151 g2 ?_
      refine eE_iadd lk374_152 ?_
      obtain ⟨x17, h18, h⟩ := Option.bind_eq_some_iff.mp h
      refine eR_iald lk374_153 rfl rfl h18 ?_
      obtain ⟨σ19, h20, h⟩ := Option.bind_eq_some_iff.mp h
      refine eR_iast lk374_154 rfl rfl h20 ?_
      refine eE_inc (j := 3) (v := l3 + (1 : Int32)) lk374_155 g3 rfl (by decide) (fun vq21 gq22 kq23 => ?_)
      have gq24 := kq23 1 _ (by decide) (fun _ => rfl) g1
      have gq25 := kq23 2 _ (by decide) (fun _ => rfl) g2
      have gq26 := kq23 0 _ (by decide) (fun _ => rfl) g0
      refine eE_goto (t := 97) lk374_158 (by decide) ?_
      exact hKK vq21 σ19 l1 l2 (l3 + (1 : Int32)) gq26 gq24 gq25 gq22 _ h
def m_trim_b85 (F : Nat)  (σ : RS) (l1 : Int32) (l2 : Int32) : Option (RS) :=
  (rld σ 49 l1).bind fun x27 =>
  (rst σ 49 l1 ((x27 - l2))).bind fun σ29 =>
  m_trim_b97 F  F σ29 l1 l2 ((0 : Int32))
set_option maxRecDepth 4000 in
theorem m_trim_b85_ok {pF : Nat → List Value → xH → Option (Option Value × xH)} {d : Nat} {aR : Nat} {G : Nat → xC} {T : Nat × Nat} {F : Nat} (hp0 : xNP pF)  : ∀ (lv : xL) (σ : RS) (l1 : Int32) (l2 : Int32), xg lv 0 = some (.ref aR) → xg lv 1 = some (.int l1) → xg lv 2 = some (.int l2) → ∀ res, m_trim_b85 F  σ l1 l2 = some res → xR pF (d + 2) kT374 16 4 false none none (layR aR res G, T) (85, lv, [], (layR aR σ G, T)) := by
  intro lv σ l1 l2 g0 g1 g2 res h
  unfold m_trim_b85 at h
  refine eE_aload_n lk374_85 g0 ?_
  refine eR_getA lk374_86 rf_111 rfl ?_
  refine eE_iload_n lk374_89 g1 ?_
  refine eE_dup2 lk374_90 rfl rfl ?_
  obtain ⟨x27, h28, h⟩ := Option.bind_eq_some_iff.mp h
  refine eR_iald lk374_91 rfl rfl h28 ?_
  refine eE_iload_n lk374_92 g2 ?_
  refine eE_isub lk374_93 ?_
  obtain ⟨σ29, h30, h⟩ := Option.bind_eq_some_iff.mp h
  refine eR_iast lk374_94 rfl rfl h30 ?_
  refine eE_iconst (v := 0) lk374_95 (by decide) ?_
  refine eE_stI (j := 3) lk374_96 (Or.inr ⟨_, rfl, rfl⟩) (by decide) (fun vq31 gq32 kq33 => ?_)
  have gq34 := kq33 1 _ (by decide) (fun _ => rfl) g1
  have gq35 := kq33 2 _ (by decide) (fun _ => rfl) g2
  have gq36 := kq33 0 _ (by decide) (fun _ => rfl) g0
  exact m_trim_b97_ok hp0  F vq31 σ29 l1 l2 ((0 : Int32)) gq36 gq34 gq35 gq32 _ h
def m_trim_b2 (F : Nat)  : Nat → RS → Int32 → Int32 → Option (RS)
  | 0, _, _, _ => none
  | n + 1, σ, l1, l2 =>
    let KK := m_trim_b2 F  n
    (rld σ 49 l1).bind fun x37 =>
    if xc2 .ge l2 x37 = true then (
      m_trim_b85 F  σ l1 l2
    ) else (
      (rld σ 56 l1).bind fun x40 =>
      (rld σ 55 l1).bind fun x42 =>
      if xc2 .eq x40 x42 = true then (
        m_trim_b63 F KK σ l1 l2
      ) else (
        (rld σ 49 l1).bind fun x45 =>
        if xc2 .ge l2 (x45 - ((1 : Int32))) = true then (
          m_trim_b85 F  σ l1 l2
        ) else (
          (rld σ 51 (((((12 : Int32)) * l1) + l2) + ((1 : Int32)))).bind fun x48 =>
          (rld σ 55 l1).bind fun x50 =>
          if xc2 .gt x48 (x50 + ((1 : Int32))) = true then (
            m_trim_b85 F  σ l1 l2
          ) else (
            m_trim_b63 F KK σ l1 l2
          )
        )
      )
    )
set_option maxRecDepth 4000 in
theorem m_trim_b2_ok {pF : Nat → List Value → xH → Option (Option Value × xH)} {d : Nat} {aR : Nat} {G : Nat → xC} {T : Nat × Nat} {F : Nat} (hp0 : xNP pF)  : ∀ (n : Nat) (lv : xL) (σ : RS) (l1 : Int32) (l2 : Int32), xg lv 0 = some (.ref aR) → xg lv 1 = some (.int l1) → xg lv 2 = some (.int l2) → ∀ res, m_trim_b2 F  n σ l1 l2 = some res → xR pF (d + 2) kT374 16 4 false none none (layR aR res G, T) (2, lv, [], (layR aR σ G, T)) := by
  intro n
  induction n with
  | zero => intro lv σ l1 l2 g0 g1 g2 res h; simp [m_trim_b2] at h
  | succ n hKK =>
    intro lv σ l1 l2 g0 g1 g2 res h
    unfold m_trim_b2 at h
    dsimp only at h
    refine eE_iload_n lk374_2 g2 ?_
    refine eE_aload_n lk374_3 g0 ?_
    refine eR_getA lk374_4 rf_111 rfl ?_
    refine eE_iload_n lk374_7 g1 ?_
    obtain ⟨x37, h38, h⟩ := Option.bind_eq_some_iff.mp h
    refine eR_iald lk374_8 rfl rfl h38 ?_
    refine eE_icmp (t := 85) lk374_9 (by decide) (fun c39 => ?_) (fun c39 => ?_)
    · rw [if_pos c39] at h
      exact m_trim_b85_ok hp0  lv σ l1 l2 g0 g1 g2 _ h
    · rw [if_neg c39] at h
      refine eE_aload_n lk374_12 g0 ?_
      refine eR_getA lk374_13 rf_132 rfl ?_
      refine eE_iload_n lk374_16 g1 ?_
      obtain ⟨x40, h41, h⟩ := Option.bind_eq_some_iff.mp h
      refine eR_iald lk374_17 rfl rfl h41 ?_
      refine eE_aload_n lk374_18 g0 ?_
      refine eR_getA lk374_19 rf_129 rfl ?_
      refine eE_iload_n lk374_22 g1 ?_
      obtain ⟨x42, h43, h⟩ := Option.bind_eq_some_iff.mp h
      refine eR_iald lk374_23 rfl rfl h43 ?_
      refine eE_icmp (t := 63) lk374_24 (by decide) (fun c44 => ?_) (fun c44 => ?_)
      · rw [if_pos c44] at h
        exact m_trim_b63_ok hp0 hKK lv σ l1 l2 g0 g1 g2 _ h
      · rw [if_neg c44] at h
        refine eE_iload_n lk374_27 g2 ?_
        refine eE_aload_n lk374_28 g0 ?_
        refine eR_getA lk374_29 rf_111 rfl ?_
        refine eE_iload_n lk374_32 g1 ?_
        obtain ⟨x45, h46, h⟩ := Option.bind_eq_some_iff.mp h
        refine eR_iald lk374_33 rfl rfl h46 ?_
        refine eE_iconst (v := 1) lk374_34 (by decide) ?_
        refine eE_isub lk374_35 ?_
        refine eE_icmp (t := 85) lk374_36 (by decide) (fun c47 => ?_) (fun c47 => ?_)
        · rw [if_pos c47] at h
          exact m_trim_b85_ok hp0  lv σ l1 l2 g0 g1 g2 _ h
        · rw [if_neg c47] at h
          refine eE_aload_n lk374_39 g0 ?_
          refine eR_getA lk374_40 rf_117 rfl ?_
          refine eE_bipush (v := 12) lk374_43 (by decide) ?_
          refine eE_iload_n lk374_45 g1 ?_
          refine eE_imul lk374_46 ?_
          refine eE_iload_n lk374_47 g2 ?_
          refine eE_iadd lk374_48 ?_
          refine eE_iconst (v := 1) lk374_49 (by decide) ?_
          refine eE_iadd lk374_50 ?_
          obtain ⟨x48, h49, h⟩ := Option.bind_eq_some_iff.mp h
          refine eR_iald lk374_51 rfl rfl h49 ?_
          refine eE_aload_n lk374_52 g0 ?_
          refine eR_getA lk374_53 rf_129 rfl ?_
          refine eE_iload_n lk374_56 g1 ?_
          obtain ⟨x50, h51, h⟩ := Option.bind_eq_some_iff.mp h
          refine eR_iald lk374_57 rfl rfl h51 ?_
          refine eE_iconst (v := 1) lk374_58 (by decide) ?_
          refine eE_iadd lk374_59 ?_
          refine eE_icmp (t := 85) lk374_60 (by decide) (fun c52 => ?_) (fun c52 => ?_)
          · rw [if_pos c52] at h
            exact m_trim_b85_ok hp0  lv σ l1 l2 g0 g1 g2 _ h
          · rw [if_neg c52] at h
            exact m_trim_b63_ok hp0 hKK lv σ l1 l2 g0 g1 g2 _ h
def m_trim_b0 (F : Nat)  (σ : RS) (l1 : Int32) : Option (RS) :=
  m_trim_b2 F  F σ l1 ((0 : Int32))
set_option maxRecDepth 4000 in
theorem m_trim_b0_ok {pF : Nat → List Value → xH → Option (Option Value × xH)} {d : Nat} {aR : Nat} {G : Nat → xC} {T : Nat × Nat} {F : Nat} (hp0 : xNP pF)  : ∀ (lv : xL) (σ : RS) (l1 : Int32), xg lv 0 = some (.ref aR) → xg lv 1 = some (.int l1) → ∀ res, m_trim_b0 F  σ l1 = some res → xR pF (d + 2) kT374 16 4 false none none (layR aR res G, T) (0, lv, [], (layR aR σ G, T)) := by
  intro lv σ l1 g0 g1 res h
  unfold m_trim_b0 at h
  refine eE_iconst (v := 0) lk374_0 (by decide) ?_
  refine eE_stI (j := 2) lk374_1 (Or.inr ⟨_, rfl, rfl⟩) (by decide) (fun vq53 gq54 kq55 => ?_)
  have gq56 := kq55 1 _ (by decide) (fun _ => rfl) g1
  have gq57 := kq55 0 _ (by decide) (fun _ => rfl) g0
  exact m_trim_b2_ok hp0  F vq53 σ l1 ((0 : Int32)) gq57 gq56 gq54 _ h
def m_trim (F : Nat) (σ : RS) (l1 : Int32) : Option (RS) := m_trim_b0 F σ l1
theorem m_trim_ok {pF : Nat → List Value → xH → Option (Option Value × xH)} (hp0 : xNP pF) {d : Nat} {aR : Nat} {G : Nat → xC} {T : Nat × Nat} {σ : RS} {F : Nat} {l1 : Int32} {res : RS} (h : m_trim F σ l1 = some res) : xCo pF (d + 3) 374 [.ref aR, .int l1] (layR aR σ G, T) none (layR aR res G, T) := by
  unfold m_trim at h
  exact xCo_R kk_374 mo_374 ni_374 xm_374 (Nat.le_of_ble_eq_true rfl) (hp0 _ (by decide) (by decide) _ _) (m_trim_b0_ok hp0 _ σ l1 rfl rfl _ h)
/-! cut (268), depth 2 -/
def m_cut_b71  (σ : RS) : Option (RS) :=
  some σ
set_option maxRecDepth 4000 in
theorem m_cut_b71_ok {pF : Nat → List Value → xH → Option (Option Value × xH)} {d : Nat} {aR : Nat} {G : Nat → xC} {T : Nat × Nat} (hp0 : xNP pF)  : ∀ (lv : xL) (σ : RS), xg lv 0 = some (.ref aR) → ∀ res, m_cut_b71  σ = some res → xR pF (d + 1) kT268 16 5 false none none (layR aR res G, T) (71, lv, [], (layR aR σ G, T)) := by
  intro lv σ g0 res h
  unfold m_cut_b71 at h
  cases h
  exact eE_end lk268_71 rfl rfl rfl
def m_cut_b36  (σ : RS) (l4 : Int32) : Option (RS) :=
  if ((2 : Int32)) = 0 then none else
  (rld σ 43 (l4 / ((2 : Int32)))).bind fun x2 =>
  (rld σ 37 l4).bind fun x4 =>
  if xc2 .le x2 x4 = true then (
    m_cut_b71  σ
  ) else (
    if ((2 : Int32)) = 0 then none else
    (rld σ 37 l4).bind fun x8 =>
    (rst σ 43 (l4 / ((2 : Int32))) x8).bind fun σ10 =>
    m_cut_b71  σ10
  )
set_option maxRecDepth 4000 in
theorem m_cut_b36_ok {pF : Nat → List Value → xH → Option (Option Value × xH)} {d : Nat} {aR : Nat} {G : Nat → xC} {T : Nat × Nat} (hp0 : xNP pF)  : ∀ (lv : xL) (σ : RS) (l4 : Int32), xg lv 0 = some (.ref aR) → xg lv 4 = some (.int l4) → ∀ res, m_cut_b36  σ l4 = some res → xR pF (d + 1) kT268 16 5 false none none (layR aR res G, T) (36, lv, [], (layR aR σ G, T)) := by
  intro lv σ l4 g0 g4 res h
  unfold m_cut_b36 at h
  refine eE_aload_n lk268_36 g0 ?_
  refine eR_getA lk268_37 rf_96 rfl ?_
  refine eE_iload lk268_40 g4 ?_
  refine eE_iconst (v := 2) lk268_42 (by decide) ?_
  by_cases z1 : ((2 : Int32)) = 0
  · rw [if_pos z1] at h; cases h
  rw [if_neg z1] at h
  refine eE_idiv lk268_43 z1 ?_
  obtain ⟨x2, h3, h⟩ := Option.bind_eq_some_iff.mp h
  refine eR_iald lk268_44 rfl rfl h3 ?_
  refine eE_aload_n lk268_45 g0 ?_
  refine eR_getA lk268_46 rf_78 rfl ?_
  refine eE_iload lk268_49 g4 ?_
  obtain ⟨x4, h5, h⟩ := Option.bind_eq_some_iff.mp h
  refine eR_iald lk268_51 rfl rfl h5 ?_
  refine eE_icmp (t := 71) lk268_52 (by decide) (fun c6 => ?_) (fun c6 => ?_)
  · rw [if_pos c6] at h
    exact m_cut_b71_ok hp0  lv σ g0 _ h
  · rw [if_neg c6] at h
    refine eE_aload_n lk268_55 g0 ?_
    refine eR_getA lk268_56 rf_96 rfl ?_
    refine eE_iload lk268_59 g4 ?_
    refine eE_iconst (v := 2) lk268_61 (by decide) ?_
    by_cases z7 : ((2 : Int32)) = 0
    · rw [if_pos z7] at h; cases h
    rw [if_neg z7] at h
    refine eE_idiv lk268_62 z7 ?_
    refine eE_aload_n lk268_63 g0 ?_
    refine eR_getA lk268_64 rf_78 rfl ?_
    refine eE_iload lk268_67 g4 ?_
    obtain ⟨x8, h9, h⟩ := Option.bind_eq_some_iff.mp h
    refine eR_iald lk268_69 rfl rfl h9 ?_
    obtain ⟨σ10, h11, h⟩ := Option.bind_eq_some_iff.mp h
    refine eR_iast lk268_70 rfl rfl h11 ?_
    exact m_cut_b71_ok hp0  lv σ10 g0 _ h
def m_cut_b0  (σ : RS) (l1 : Int32) (l2 : Int32) (l3 : Int32) : Option (RS) :=
  (m_fileOf l1 l2).bind fun p12 =>
  if ((2 : Int32)) = 0 then none else
  (rst σ 44 (p12 / ((2 : Int32))) ((((1 : Int32)) &&& 1))).bind fun σ20 =>
  (rld σ20 37 p12).bind fun x22 =>
  if xc2 .le x22 l3 = true then (
    m_cut_b36  σ20 p12
  ) else (
    (rst σ20 37 p12 l3).bind fun σ25 =>
    m_cut_b36  σ25 p12
  )
set_option maxRecDepth 4000 in
theorem m_cut_b0_ok {pF : Nat → List Value → xH → Option (Option Value × xH)} {d : Nat} {aR : Nat} {G : Nat → xC} {T : Nat × Nat} (hp0 : xNP pF)  : ∀ (lv : xL) (σ : RS) (l1 : Int32) (l2 : Int32) (l3 : Int32), xg lv 0 = some (.ref aR) → xg lv 1 = some (.int l1) → xg lv 2 = some (.int l2) → xg lv 3 = some (.int l3) → ∀ res, m_cut_b0  σ l1 l2 l3 = some res → xR pF (d + 1) kT268 16 5 false none none (layR aR res G, T) (0, lv, [], (layR aR σ G, T)) := by
  intro lv σ l1 l2 l3 g0 g1 g2 g3 res h
  unfold m_cut_b0 at h
  refine eE_iload_n lk268_0 g1 ?_
  refine eE_iload_n lk268_1 g2 ?_
  obtain ⟨p12, h13, h⟩ := Option.bind_eq_some_iff.mp h
  refine eE_stat (as := [.int l1, .int l2]) lk268_2 mr_492 na_280 rfl rfl (Nat.le_of_ble_eq_true rfl) mm_280 ws_280 (m_fileOf_ok hp0 (d := d + 0) h13) ?_
  refine eE_stI (j := 4) lk268_5 (Or.inl rfl) (by decide) (fun vq14 gq15 kq16 => ?_)
  have gq17 := kq16 3 _ (by decide) (fun _ => rfl) g3
  have gq18 := kq16 0 _ (by decide) (fun _ => rfl) g0
  refine eE_aload_n lk268_7 gq18 ?_
  refine eR_getA lk268_8 rf_99 rfl ?_
  refine eE_iload lk268_11 gq15 ?_
  refine eE_iconst (v := 2) lk268_13 (by decide) ?_
  by_cases z19 : ((2 : Int32)) = 0
  · rw [if_pos z19] at h; cases h
  rw [if_neg z19] at h
  refine eE_idiv lk268_14 z19 ?_
  refine eE_iconst (v := 1) lk268_15 (by decide) ?_
  obtain ⟨σ20, h21, h⟩ := Option.bind_eq_some_iff.mp h
  refine eR_zast lk268_16 rfl rfl rfl h21 ?_
  refine eE_aload_n lk268_17 gq18 ?_
  refine eR_getA lk268_18 rf_78 rfl ?_
  refine eE_iload lk268_21 gq15 ?_
  obtain ⟨x22, h23, h⟩ := Option.bind_eq_some_iff.mp h
  refine eR_iald lk268_23 rfl rfl h23 ?_
  refine eE_iload_n lk268_24 gq17 ?_
  refine eE_icmp (t := 36) lk268_25 (by decide) (fun c24 => ?_) (fun c24 => ?_)
  · rw [if_pos c24] at h
    exact m_cut_b36_ok hp0  vq14 σ20 p12 gq18 gq15 _ h
  · rw [if_neg c24] at h
    refine eE_aload_n lk268_28 gq18 ?_
    refine eR_getA lk268_29 rf_78 rfl ?_
    refine eE_iload lk268_32 gq15 ?_
    refine eE_iload_n lk268_34 gq17 ?_
    obtain ⟨σ25, h26, h⟩ := Option.bind_eq_some_iff.mp h
    refine eR_iast lk268_35 rfl rfl h26 ?_
    exact m_cut_b36_ok hp0  vq14 σ25 p12 gq18 gq15 _ h
def m_cut (σ : RS) (l1 : Int32) (l2 : Int32) (l3 : Int32) : Option (RS) := m_cut_b0 σ l1 l2 l3
theorem m_cut_ok {pF : Nat → List Value → xH → Option (Option Value × xH)} (hp0 : xNP pF) {d : Nat} {aR : Nat} {G : Nat → xC} {T : Nat × Nat} {σ : RS} {l1 : Int32} {l2 : Int32} {l3 : Int32} {res : RS} (h : m_cut σ l1 l2 l3 = some res) : xCo pF (d + 2) 268 [.ref aR, .int l1, .int l2, .int l3] (layR aR σ G, T) none (layR aR res G, T) := by
  unfold m_cut at h
  exact xCo_R kk_268 mo_268 ni_268 xm_268 (Nat.le_of_ble_eq_true rfl) (hp0 _ (by decide) (by decide) _ _) (m_cut_b0_ok hp0 _ σ l1 l2 l3 rfl rfl rfl rfl _ h)
/-! copyFile (261), depth 1 -/
def m_copyFile_b74 (F : Nat)  : Nat → RS → Int32 → Int32 → Int32 → Option (RS)
  | 0, _, _, _, _ => none
  | n + 1, σ, l1, l2, l3 =>
    let KK := m_copyFile_b74 F  n
    (rld σ 37 l1).bind fun x1 =>
    if xc2 .ge (((8 : Int32)) * l3) x1 = true then (
      some σ
    ) else (
      (rldL σ 36 ((((1750 : Int32)) * l1) + l3)).bind fun x4 =>
      (rstL σ 36 ((((1750 : Int32)) * l2) + l3) x4).bind fun σ6 =>
      KK σ6 l1 l2 (l3 + (1 : Int32))
    )
set_option maxRecDepth 4000 in
theorem m_copyFile_b74_ok {pF : Nat → List Value → xH → Option (Option Value × xH)} {d : Nat} {aR : Nat} {G : Nat → xC} {T : Nat × Nat} {F : Nat} (hp0 : xNP pF)  : ∀ (n : Nat) (lv : xL) (σ : RS) (l1 : Int32) (l2 : Int32) (l3 : Int32), xg lv 0 = some (.ref aR) → xg lv 1 = some (.int l1) → xg lv 2 = some (.int l2) → xg lv 3 = some (.int l3) → ∀ res, m_copyFile_b74 F  n σ l1 l2 l3 = some res → xR pF (d + 0) kT261 16 4 false none none (layR aR res G, T) (74, lv, [], (layR aR σ G, T)) := by
  intro n
  induction n with
  | zero => intro lv σ l1 l2 l3 g0 g1 g2 g3 res h; simp [m_copyFile_b74] at h
  | succ n hKK =>
    intro lv σ l1 l2 l3 g0 g1 g2 g3 res h
    unfold m_copyFile_b74 at h
    dsimp only at h
    refine eE_bipush (v := 8) lk261_74 (by decide) ?_
    refine eE_iload_n lk261_76 g3 ?_
    refine eE_imul lk261_77 ?_
    refine eE_aload_n lk261_78 g0 ?_
    refine eR_getA lk261_79 rf_78 rfl ?_
    refine eE_iload_n lk261_82 g1 ?_
    obtain ⟨x1, h2, h⟩ := Option.bind_eq_some_iff.mp h
    refine eR_iald lk261_83 rfl rfl h2 ?_
    refine eE_icmp (t := 117) lk261_84 (by decide) (fun c3 => ?_) (fun c3 => ?_)
    · rw [if_pos c3] at h
      cases h
      exact eE_end lk261_117 rfl rfl rfl
    · rw [if_neg c3] at h
      refine eE_aload_n lk261_87 g0 ?_
      refine eR_getA lk261_88 rf_75 rfl ?_
      refine eE_sipush (v := 1750) lk261_91 (by decide) ?_
      refine eE_iload_n lk261_94 g2 ?_
      refine eE_imul lk261_95 ?_
      refine eE_iload_n lk261_96 g3 ?_
      refine eE_iadd lk261_97 ?_
      refine eE_aload_n lk261_98 g0 ?_
      refine eR_getA lk261_99 rf_75 rfl ?_
      refine eE_sipush (v := 1750) lk261_102 (by decide) ?_
      refine eE_iload_n lk261_105 g1 ?_
      refine eE_imul lk261_106 ?_
      refine eE_iload_n lk261_107 g3 ?_
      refine eE_iadd lk261_108 ?_
      obtain ⟨x4, h5, h⟩ := Option.bind_eq_some_iff.mp h
      refine eR_lald lk261_109 rfl rfl h5 ?_
      obtain ⟨σ6, h7, h⟩ := Option.bind_eq_some_iff.mp h
      refine eR_last lk261_110 rfl rfl h7 ?_
      refine eE_inc (j := 3) (v := l3 + (1 : Int32)) lk261_111 g3 rfl (by decide) (fun vq8 gq9 kq10 => ?_)
      have gq11 := kq10 1 _ (by decide) (fun _ => rfl) g1
      have gq12 := kq10 2 _ (by decide) (fun _ => rfl) g2
      have gq13 := kq10 0 _ (by decide) (fun _ => rfl) g0
      refine eE_goto (t := 74) lk261_114 (by decide) ?_
      exact hKK vq8 σ6 l1 l2 (l3 + (1 : Int32)) gq13 gq11 gq12 gq9 _ h
def m_copyFile_b0 (F : Nat)  (σ : RS) (l1 : Int32) (l2 : Int32) : Option (RS) :=
  (rld σ 38 l1).bind fun x14 =>
  (rst σ 38 l2 ((x14 &&& 1))).bind fun σ16 =>
  (rld σ16 37 l1).bind fun x18 =>
  (rst σ16 37 l2 x18).bind fun σ20 =>
  (rld σ20 39 l1).bind fun x22 =>
  (rst σ20 39 l2 x22).bind fun σ24 =>
  (rld σ24 40 l1).bind fun x26 =>
  (rst σ24 40 l2 x26).bind fun σ28 =>
  (rld σ28 41 l1).bind fun x30 =>
  (rst σ28 41 l2 x30).bind fun σ32 =>
  (rld σ32 42 l1).bind fun x34 =>
  (rst σ32 42 l2 x34).bind fun σ36 =>
  m_copyFile_b74 F  F σ36 l1 l2 ((0 : Int32))
set_option maxRecDepth 4000 in
theorem m_copyFile_b0_ok {pF : Nat → List Value → xH → Option (Option Value × xH)} {d : Nat} {aR : Nat} {G : Nat → xC} {T : Nat × Nat} {F : Nat} (hp0 : xNP pF)  : ∀ (lv : xL) (σ : RS) (l1 : Int32) (l2 : Int32), xg lv 0 = some (.ref aR) → xg lv 1 = some (.int l1) → xg lv 2 = some (.int l2) → ∀ res, m_copyFile_b0 F  σ l1 l2 = some res → xR pF (d + 0) kT261 16 4 false none none (layR aR res G, T) (0, lv, [], (layR aR σ G, T)) := by
  intro lv σ l1 l2 g0 g1 g2 res h
  unfold m_copyFile_b0 at h
  refine eE_aload_n lk261_0 g0 ?_
  refine eR_getA lk261_1 rf_81 rfl ?_
  refine eE_iload_n lk261_4 g2 ?_
  refine eE_aload_n lk261_5 g0 ?_
  refine eR_getA lk261_6 rf_81 rfl ?_
  refine eE_iload_n lk261_9 g1 ?_
  obtain ⟨x14, h15, h⟩ := Option.bind_eq_some_iff.mp h
  refine eR_bald lk261_10 rfl (Or.inr rfl) h15 ?_
  obtain ⟨σ16, h17, h⟩ := Option.bind_eq_some_iff.mp h
  refine eR_zast lk261_11 rfl rfl rfl h17 ?_
  refine eE_aload_n lk261_12 g0 ?_
  refine eR_getA lk261_13 rf_78 rfl ?_
  refine eE_iload_n lk261_16 g2 ?_
  refine eE_aload_n lk261_17 g0 ?_
  refine eR_getA lk261_18 rf_78 rfl ?_
  refine eE_iload_n lk261_21 g1 ?_
  obtain ⟨x18, h19, h⟩ := Option.bind_eq_some_iff.mp h
  refine eR_iald lk261_22 rfl rfl h19 ?_
  obtain ⟨σ20, h21, h⟩ := Option.bind_eq_some_iff.mp h
  refine eR_iast lk261_23 rfl rfl h21 ?_
  refine eE_aload_n lk261_24 g0 ?_
  refine eR_getA lk261_25 rf_84 rfl ?_
  refine eE_iload_n lk261_28 g2 ?_
  refine eE_aload_n lk261_29 g0 ?_
  refine eR_getA lk261_30 rf_84 rfl ?_
  refine eE_iload_n lk261_33 g1 ?_
  obtain ⟨x22, h23, h⟩ := Option.bind_eq_some_iff.mp h
  refine eR_iald lk261_34 rfl rfl h23 ?_
  obtain ⟨σ24, h25, h⟩ := Option.bind_eq_some_iff.mp h
  refine eR_iast lk261_35 rfl rfl h25 ?_
  refine eE_aload_n lk261_36 g0 ?_
  refine eR_getA lk261_37 rf_87 rfl ?_
  refine eE_iload_n lk261_40 g2 ?_
  refine eE_aload_n lk261_41 g0 ?_
  refine eR_getA lk261_42 rf_87 rfl ?_
  refine eE_iload_n lk261_45 g1 ?_
  obtain ⟨x26, h27, h⟩ := Option.bind_eq_some_iff.mp h
  refine eR_iald lk261_46 rfl rfl h27 ?_
  obtain ⟨σ28, h29, h⟩ := Option.bind_eq_some_iff.mp h
  refine eR_iast lk261_47 rfl rfl h29 ?_
  refine eE_aload_n lk261_48 g0 ?_
  refine eR_getA lk261_49 rf_90 rfl ?_
  refine eE_iload_n lk261_52 g2 ?_
  refine eE_aload_n lk261_53 g0 ?_
  refine eR_getA lk261_54 rf_90 rfl ?_
  refine eE_iload_n lk261_57 g1 ?_
  obtain ⟨x30, h31, h⟩ := Option.bind_eq_some_iff.mp h
  refine eR_iald lk261_58 rfl rfl h31 ?_
  obtain ⟨σ32, h33, h⟩ := Option.bind_eq_some_iff.mp h
  refine eR_iast lk261_59 rfl rfl h33 ?_
  refine eE_aload_n lk261_60 g0 ?_
  refine eR_getA lk261_61 rf_93 rfl ?_
  refine eE_iload_n lk261_64 g2 ?_
  refine eE_aload_n lk261_65 g0 ?_
  refine eR_getA lk261_66 rf_93 rfl ?_
  refine eE_iload_n lk261_69 g1 ?_
  obtain ⟨x34, h35, h⟩ := Option.bind_eq_some_iff.mp h
  refine eR_iald lk261_70 rfl rfl h35 ?_
  obtain ⟨σ36, h37, h⟩ := Option.bind_eq_some_iff.mp h
  refine eR_iast lk261_71 rfl rfl h37 ?_
  refine eE_iconst (v := 0) lk261_72 (by decide) ?_
  refine eE_stI (j := 3) lk261_73 (Or.inr ⟨_, rfl, rfl⟩) (by decide) (fun vq38 gq39 kq40 => ?_)
  have gq41 := kq40 1 _ (by decide) (fun _ => rfl) g1
  have gq42 := kq40 2 _ (by decide) (fun _ => rfl) g2
  have gq43 := kq40 0 _ (by decide) (fun _ => rfl) g0
  exact m_copyFile_b74_ok hp0  F vq38 σ36 l1 l2 ((0 : Int32)) gq43 gq41 gq42 gq39 _ h
def m_copyFile (F : Nat) (σ : RS) (l1 : Int32) (l2 : Int32) : Option (RS) := m_copyFile_b0 F σ l1 l2
theorem m_copyFile_ok {pF : Nat → List Value → xH → Option (Option Value × xH)} (hp0 : xNP pF) {d : Nat} {aR : Nat} {G : Nat → xC} {T : Nat × Nat} {σ : RS} {F : Nat} {l1 : Int32} {l2 : Int32} {res : RS} (h : m_copyFile F σ l1 l2 = some res) : xCo pF (d + 1) 261 [.ref aR, .int l1, .int l2] (layR aR σ G, T) none (layR aR res G, T) := by
  unfold m_copyFile at h
  exact xCo_R kk_261 mo_261 ni_261 xm_261 (Nat.le_of_ble_eq_true rfl) (hp0 _ (by decide) (by decide) _ _) (m_copyFile_b0_ok hp0 _ σ l1 l2 rfl rfl rfl _ h)
/-! syncFile (367), depth 2 -/
def m_syncFile_b25 (F : Nat)  (σ : RS) (l3 : Int32) : Option (RS) :=
  if ((2 : Int32)) = 0 then none else
  (rst σ 44 (l3 / ((2 : Int32))) ((((0 : Int32)) &&& 1))).bind fun σ2 =>
  if ((2 : Int32)) = 0 then none else
  (rld σ2 37 l3).bind fun x5 =>
  (rst σ2 43 (l3 / ((2 : Int32))) x5).bind fun σ7 =>
  some σ7
set_option maxRecDepth 4000 in
theorem m_syncFile_b25_ok {pF : Nat → List Value → xH → Option (Option Value × xH)} {d : Nat} {aR : Nat} {G : Nat → xC} {T : Nat × Nat} {F : Nat} (hp0 : xNP pF)  : ∀ (lv : xL) (σ : RS) (l3 : Int32), xg lv 0 = some (.ref aR) → xg lv 3 = some (.int l3) → ∀ res, m_syncFile_b25 F  σ l3 = some res → xR pF (d + 1) kT367 16 4 false none none (layR aR res G, T) (25, lv, [], (layR aR σ G, T)) := by
  intro lv σ l3 g0 g3 res h
  unfold m_syncFile_b25 at h
  refine eE_aload_n lk367_25 g0 ?_
  refine eR_getA lk367_26 rf_99 rfl ?_
  refine eE_iload_n lk367_29 g3 ?_
  refine eE_iconst (v := 2) lk367_30 (by decide) ?_
  by_cases z1 : ((2 : Int32)) = 0
  · rw [if_pos z1] at h; cases h
  rw [if_neg z1] at h
  refine eE_idiv lk367_31 z1 ?_
  refine eE_iconst (v := 0) lk367_32 (by decide) ?_
  obtain ⟨σ2, h3, h⟩ := Option.bind_eq_some_iff.mp h
  refine eR_zast lk367_33 rfl rfl rfl h3 ?_
  refine eE_aload_n lk367_34 g0 ?_
  refine eR_getA lk367_35 rf_96 rfl ?_
  refine eE_iload_n lk367_38 g3 ?_
  refine eE_iconst (v := 2) lk367_39 (by decide) ?_
  by_cases z4 : ((2 : Int32)) = 0
  · rw [if_pos z4] at h; cases h
  rw [if_neg z4] at h
  refine eE_idiv lk367_40 z4 ?_
  refine eE_aload_n lk367_41 g0 ?_
  refine eR_getA lk367_42 rf_78 rfl ?_
  refine eE_iload_n lk367_45 g3 ?_
  obtain ⟨x5, h6, h⟩ := Option.bind_eq_some_iff.mp h
  refine eR_iald lk367_46 rfl rfl h6 ?_
  obtain ⟨σ7, h8, h⟩ := Option.bind_eq_some_iff.mp h
  refine eR_iast lk367_47 rfl rfl h8 ?_
  cases h
  exact eE_end lk367_48 rfl rfl rfl
def m_syncFile_b0 (F : Nat)  (σ : RS) (l1 : Int32) (l2 : Int32) : Option (RS) :=
  (m_fileOf l1 l2).bind fun p9 =>
  if ((2 : Int32)) = 0 then none else
  (rld σ 44 (p9 / ((2 : Int32)))).bind fun x16 =>
  if xc0 .eq x16 = true then (
    m_syncFile_b25 F  σ p9
  ) else (
    (m_copyFile F σ p9 (p9 + ((1 : Int32)))).bind fun p19 =>
    m_syncFile_b25 F  p19 p9
  )
set_option maxRecDepth 4000 in
theorem m_syncFile_b0_ok {pF : Nat → List Value → xH → Option (Option Value × xH)} {d : Nat} {aR : Nat} {G : Nat → xC} {T : Nat × Nat} {F : Nat} (hp0 : xNP pF)  : ∀ (lv : xL) (σ : RS) (l1 : Int32) (l2 : Int32), xg lv 0 = some (.ref aR) → xg lv 1 = some (.int l1) → xg lv 2 = some (.int l2) → ∀ res, m_syncFile_b0 F  σ l1 l2 = some res → xR pF (d + 1) kT367 16 4 false none none (layR aR res G, T) (0, lv, [], (layR aR σ G, T)) := by
  intro lv σ l1 l2 g0 g1 g2 res h
  unfold m_syncFile_b0 at h
  refine eE_iload_n lk367_0 g1 ?_
  refine eE_iload_n lk367_1 g2 ?_
  obtain ⟨p9, h10, h⟩ := Option.bind_eq_some_iff.mp h
  refine eE_stat (as := [.int l1, .int l2]) lk367_2 mr_492 na_280 rfl rfl (Nat.le_of_ble_eq_true rfl) mm_280 ws_280 (m_fileOf_ok hp0 (d := d + 0) h10) ?_
  refine eE_stI (j := 3) lk367_5 (Or.inr ⟨_, rfl, rfl⟩) (by decide) (fun vq11 gq12 kq13 => ?_)
  have gq14 := kq13 0 _ (by decide) (fun _ => rfl) g0
  refine eE_aload_n lk367_6 gq14 ?_
  refine eR_getA lk367_7 rf_99 rfl ?_
  refine eE_iload_n lk367_10 gq12 ?_
  refine eE_iconst (v := 2) lk367_11 (by decide) ?_
  by_cases z15 : ((2 : Int32)) = 0
  · rw [if_pos z15] at h; cases h
  rw [if_neg z15] at h
  refine eE_idiv lk367_12 z15 ?_
  obtain ⟨x16, h17, h⟩ := Option.bind_eq_some_iff.mp h
  refine eR_bald lk367_13 rfl (Or.inr rfl) h17 ?_
  refine eE_if (t := 25) lk367_14 (by decide) (fun c18 => ?_) (fun c18 => ?_)
  · rw [if_pos c18] at h
    exact m_syncFile_b25_ok hp0  vq11 σ p9 gq14 gq12 _ h
  · rw [if_neg c18] at h
    refine eE_aload_n lk367_17 gq14 ?_
    refine eE_iload_n lk367_18 gq12 ?_
    refine eE_iload_n lk367_19 gq12 ?_
    refine eE_iconst (v := 1) lk367_20 (by decide) ?_
    refine eE_iadd lk367_21 ?_
    obtain ⟨p19, h20, h⟩ := Option.bind_eq_some_iff.mp h
    refine eR_call (as := [.int p9, .int (p9 + ((1 : Int32)))]) lk367_22 mr_496 na_261 rfl rfl (Nat.le_of_ble_eq_true rfl) wv_261 wc_261 (m_copyFile_ok hp0 (d := d + 0) h20) ?_
    exact m_syncFile_b25_ok hp0  vq11 p19 p9 gq14 gq12 _ h
def m_syncFile (F : Nat) (σ : RS) (l1 : Int32) (l2 : Int32) : Option (RS) := m_syncFile_b0 F σ l1 l2
theorem m_syncFile_ok {pF : Nat → List Value → xH → Option (Option Value × xH)} (hp0 : xNP pF) {d : Nat} {aR : Nat} {G : Nat → xC} {T : Nat × Nat} {σ : RS} {F : Nat} {l1 : Int32} {l2 : Int32} {res : RS} (h : m_syncFile F σ l1 l2 = some res) : xCo pF (d + 2) 367 [.ref aR, .int l1, .int l2] (layR aR σ G, T) none (layR aR res G, T) := by
  unfold m_syncFile at h
  exact xCo_R kk_367 mo_367 ni_367 xm_367 (Nat.le_of_ble_eq_true rfl) (hp0 _ (by decide) (by decide) _ _) (m_syncFile_b0_ok hp0 _ σ l1 l2 rfl rfl rfl _ h)
/-! writeShot (383), depth 3 -/
def m_writeShot_b102 (F : Nat)  : Nat → RS → Int32 → Int32 → Int32 → Int32 → Option (RS)
  | 0, _, _, _, _, _ => none
  | n + 1, σ, l1, l2, l3, l4 =>
    let KK := m_writeShot_b102 F  n
    (rld σ 67 l1).bind fun x1 =>
    if xc2 .ge l4 x1 = true then (
      (m_syncFile F σ l1 l2).bind fun p4 =>
      (rst p4 47 l1 l2).bind fun σ6 =>
      some σ6
    ) else (
      (rld σ 66 ((((14000 : Int32)) * l1) + l4)).bind fun x8 =>
      (m_layDisk σ (((((14000 : Int32)) * l3) + ((20 : Int32))) + l4) x8).bind fun p10 =>
      KK p10 l1 l2 l3 (l4 + (1 : Int32))
    )
set_option maxRecDepth 4000 in
theorem m_writeShot_b102_ok {pF : Nat → List Value → xH → Option (Option Value × xH)} {d : Nat} {aR : Nat} {G : Nat → xC} {T : Nat × Nat} {F : Nat} (hp0 : xNP pF)  : ∀ (n : Nat) (lv : xL) (σ : RS) (l1 : Int32) (l2 : Int32) (l3 : Int32) (l4 : Int32), xg lv 0 = some (.ref aR) → xg lv 1 = some (.int l1) → xg lv 2 = some (.int l2) → xg lv 3 = some (.int l3) → xg lv 4 = some (.int l4) → ∀ res, m_writeShot_b102 F  n σ l1 l2 l3 l4 = some res → xR pF (d + 2) kT383 16 5 false none none (layR aR res G, T) (102, lv, [], (layR aR σ G, T)) := by
  intro n
  induction n with
  | zero => intro lv σ l1 l2 l3 l4 g0 g1 g2 g3 g4 res h; simp [m_writeShot_b102] at h
  | succ n hKK =>
    intro lv σ l1 l2 l3 l4 g0 g1 g2 g3 g4 res h
    unfold m_writeShot_b102 at h
    dsimp only at h
    refine eE_iload lk383_102 g4 ?_
    refine eE_aload_n lk383_104 g0 ?_
    refine eR_getA lk383_105 rf_167 rfl ?_
    refine eE_iload_n lk383_108 g1 ?_
    obtain ⟨x1, h2, h⟩ := Option.bind_eq_some_iff.mp h
    refine eR_iald lk383_109 rfl rfl h2 ?_
    refine eE_icmp (t := 147) lk383_110 (by decide) (fun c3 => ?_) (fun c3 => ?_)
    · rw [if_pos c3] at h
      refine eE_aload_n lk383_147 g0 ?_
      refine eE_iload_n lk383_148 g1 ?_
      refine eE_iload_n lk383_149 g2 ?_
      obtain ⟨p4, h5, h⟩ := Option.bind_eq_some_iff.mp h
      refine eR_call (as := [.int l1, .int l2]) lk383_150 mr_499 na_367 rfl rfl (Nat.le_of_ble_eq_true rfl) wv_367 wc_367 (m_syncFile_ok hp0 (d := d + 0) h5) ?_
      refine eE_aload_n lk383_153 g0 ?_
      refine eR_getA lk383_154 rf_108 rfl ?_
      refine eE_iload_n lk383_157 g1 ?_
      refine eE_iload_n lk383_158 g2 ?_
      obtain ⟨σ6, h7, h⟩ := Option.bind_eq_some_iff.mp h
      refine eR_iast lk383_159 rfl rfl h7 ?_
      cases h
      exact eE_end lk383_160 rfl rfl rfl
    · rw [if_neg c3] at h
      refine eE_aload_n lk383_113 g0 ?_
      refine eE_sipush (v := 14000) lk383_114 (by decide) ?_
      refine eE_iload_n lk383_117 g3 ?_
      refine eE_imul lk383_118 ?_
      refine eE_bipush (v := 20) lk383_119 (by decide) ?_
      refine eE_iadd lk383_121 ?_
      refine eE_iload lk383_122 g4 ?_
      refine eE_iadd lk383_124 ?_
      refine eE_aload_n lk383_125 g0 ?_
      refine eR_getA lk383_126 rf_164 rfl ?_
      refine eE_sipush (v := 14000) lk383_129 (by decide) ?_
      refine eE_iload_n lk383_132 g1 ?_
      refine eE_imul lk383_133 ?_
      refine eE_iload lk383_134 g4 ?_
      refine eE_iadd lk383_136 ?_
      obtain ⟨x8, h9, h⟩ := Option.bind_eq_some_iff.mp h
      refine eR_bald lk383_137 rfl (Or.inl rfl) h9 ?_
      obtain ⟨p10, h11, h⟩ := Option.bind_eq_some_iff.mp h
      refine eR_call (as := [.int (((((14000 : Int32)) * l3) + ((20 : Int32))) + l4), .int x8]) lk383_138 mr_514 na_314 rfl rfl (Nat.le_of_ble_eq_true rfl) wv_314 wc_314 (m_layDisk_ok hp0 (d := d + 1) h11) ?_
      refine eE_inc (j := 4) (v := l4 + (1 : Int32)) lk383_141 g4 rfl (by decide) (fun vq12 gq13 kq14 => ?_)
      have gq15 := kq14 1 _ (by decide) (fun _ => rfl) g1
      have gq16 := kq14 2 _ (by decide) (fun _ => rfl) g2
      have gq17 := kq14 3 _ (by decide) (fun _ => rfl) g3
      have gq18 := kq14 0 _ (by decide) (fun _ => rfl) g0
      refine eE_goto (t := 102) lk383_144 (by decide) ?_
      exact hKK vq12 p10 l1 l2 l3 (l4 + (1 : Int32)) gq18 gq15 gq16 gq17 gq13 _ h
def m_writeShot_b15 (F : Nat)  (σ : RS) (s0 : Int32) (l1 : Int32) : Option (RS) :=
  (m_fileOf l1 s0).bind fun p24 =>
  (m_cut σ l1 s0 ((0 : Int32))).bind fun p32 =>
  (rst p32 38 p24 ((((1 : Int32)) &&& 1))).bind fun σ34 =>
  (rld σ34 67 l1).bind fun x36 =>
  (rst σ34 37 p24 ((((20 : Int32)) + x36))).bind fun σ38 =>
  (rld σ38 55 l1).bind fun x40 =>
  (rst σ38 39 p24 x40).bind fun σ42 =>
  (rld σ42 57 l1).bind fun x44 =>
  (rst σ42 40 p24 x44).bind fun σ46 =>
  (rld σ46 58 l1).bind fun x48 =>
  (rst σ46 41 p24 x48).bind fun σ50 =>
  (rld σ50 67 l1).bind fun x52 =>
  (rst σ50 42 p24 x52).bind fun σ54 =>
  m_writeShot_b102 F  F σ54 l1 s0 p24 ((0 : Int32))
set_option maxRecDepth 4000 in
theorem m_writeShot_b15_ok {pF : Nat → List Value → xH → Option (Option Value × xH)} {d : Nat} {aR : Nat} {G : Nat → xC} {T : Nat × Nat} {F : Nat} (hp0 : xNP pF)  : ∀ (lv : xL) (σ : RS) (s0 : Int32) (l1 : Int32), xg lv 0 = some (.ref aR) → xg lv 1 = some (.int l1) → ∀ res, m_writeShot_b15 F  σ s0 l1 = some res → xR pF (d + 2) kT383 16 5 false none none (layR aR res G, T) (15, lv, [.int s0], (layR aR σ G, T)) := by
  intro lv σ s0 l1 g0 g1 res h
  unfold m_writeShot_b15 at h
  refine eE_stI (j := 2) lk383_15 (Or.inr ⟨_, rfl, rfl⟩) (by decide) (fun vq19 gq20 kq21 => ?_)
  have gq22 := kq21 1 _ (by decide) (fun _ => rfl) g1
  have gq23 := kq21 0 _ (by decide) (fun _ => rfl) g0
  refine eE_iload_n lk383_16 gq22 ?_
  refine eE_iload_n lk383_17 gq20 ?_
  obtain ⟨p24, h25, h⟩ := Option.bind_eq_some_iff.mp h
  refine eE_stat (as := [.int l1, .int s0]) lk383_18 mr_492 na_280 rfl rfl (Nat.le_of_ble_eq_true rfl) mm_280 ws_280 (m_fileOf_ok hp0 (d := d + 1) h25) ?_
  refine eE_stI (j := 3) lk383_21 (Or.inr ⟨_, rfl, rfl⟩) (by decide) (fun vq26 gq27 kq28 => ?_)
  have gq29 := kq28 1 _ (by decide) (fun _ => rfl) gq22
  have gq30 := kq28 0 _ (by decide) (fun _ => rfl) gq23
  have gq31 := kq28 2 _ (by decide) (fun _ => rfl) gq20
  refine eE_aload_n lk383_22 gq30 ?_
  refine eE_iload_n lk383_23 gq29 ?_
  refine eE_iload_n lk383_24 gq31 ?_
  refine eE_iconst (v := 0) lk383_25 (by decide) ?_
  obtain ⟨p32, h33, h⟩ := Option.bind_eq_some_iff.mp h
  refine eR_call (as := [.int l1, .int s0, .int ((0 : Int32))]) lk383_26 mr_508 na_268 rfl rfl (Nat.le_of_ble_eq_true rfl) wv_268 wc_268 (m_cut_ok hp0 (d := d + 0) h33) ?_
  refine eE_aload_n lk383_29 gq30 ?_
  refine eR_getA lk383_30 rf_81 rfl ?_
  refine eE_iload_n lk383_33 gq27 ?_
  refine eE_iconst (v := 1) lk383_34 (by decide) ?_
  obtain ⟨σ34, h35, h⟩ := Option.bind_eq_some_iff.mp h
  refine eR_zast lk383_35 rfl rfl rfl h35 ?_
  refine eE_aload_n lk383_36 gq30 ?_
  refine eR_getA lk383_37 rf_78 rfl ?_
  refine eE_iload_n lk383_40 gq27 ?_
  refine eE_bipush (v := 20) lk383_41 (by decide) ?_
  refine eE_aload_n lk383_43 gq30 ?_
  refine eR_getA lk383_44 rf_167 rfl ?_
  refine eE_iload_n lk383_47 gq29 ?_
  obtain ⟨x36, h37, h⟩ := Option.bind_eq_some_iff.mp h
  refine eR_iald lk383_48 rfl rfl h37 ?_
  refine eE_iadd lk383_49 ?_
  obtain ⟨σ38, h39, h⟩ := Option.bind_eq_some_iff.mp h
  refine eR_iast lk383_50 rfl rfl h39 ?_
  refine eE_aload_n lk383_51 gq30 ?_
  refine eR_getA lk383_52 rf_84 rfl ?_
  refine eE_iload_n lk383_55 gq27 ?_
  refine eE_aload_n lk383_56 gq30 ?_
  refine eR_getA lk383_57 rf_129 rfl ?_
  refine eE_iload_n lk383_60 gq29 ?_
  obtain ⟨x40, h41, h⟩ := Option.bind_eq_some_iff.mp h
  refine eR_iald lk383_61 rfl rfl h41 ?_
  obtain ⟨σ42, h43, h⟩ := Option.bind_eq_some_iff.mp h
  refine eR_iast lk383_62 rfl rfl h43 ?_
  refine eE_aload_n lk383_63 gq30 ?_
  refine eR_getA lk383_64 rf_87 rfl ?_
  refine eE_iload_n lk383_67 gq27 ?_
  refine eE_aload_n lk383_68 gq30 ?_
  refine eR_getA lk383_69 rf_135 rfl ?_
  refine eE_iload_n lk383_72 gq29 ?_
  obtain ⟨x44, h45, h⟩ := Option.bind_eq_some_iff.mp h
  refine eR_iald lk383_73 rfl rfl h45 ?_
  obtain ⟨σ46, h47, h⟩ := Option.bind_eq_some_iff.mp h
  refine eR_iast lk383_74 rfl rfl h47 ?_
  refine eE_aload_n lk383_75 gq30 ?_
  refine eR_getA lk383_76 rf_90 rfl ?_
  refine eE_iload_n lk383_79 gq27 ?_
  refine eE_aload_n lk383_80 gq30 ?_
  refine eR_getA lk383_81 rf_138 rfl ?_
  refine eE_iload_n lk383_84 gq29 ?_
  obtain ⟨x48, h49, h⟩ := Option.bind_eq_some_iff.mp h
  refine eR_iald lk383_85 rfl rfl h49 ?_
  obtain ⟨σ50, h51, h⟩ := Option.bind_eq_some_iff.mp h
  refine eR_iast lk383_86 rfl rfl h51 ?_
  refine eE_aload_n lk383_87 gq30 ?_
  refine eR_getA lk383_88 rf_93 rfl ?_
  refine eE_iload_n lk383_91 gq27 ?_
  refine eE_aload_n lk383_92 gq30 ?_
  refine eR_getA lk383_93 rf_167 rfl ?_
  refine eE_iload_n lk383_96 gq29 ?_
  obtain ⟨x52, h53, h⟩ := Option.bind_eq_some_iff.mp h
  refine eR_iald lk383_97 rfl rfl h53 ?_
  obtain ⟨σ54, h55, h⟩ := Option.bind_eq_some_iff.mp h
  refine eR_iast lk383_98 rfl rfl h55 ?_
  refine eE_iconst (v := 0) lk383_99 (by decide) ?_
  refine eE_stI (j := 4) lk383_100 (Or.inl rfl) (by decide) (fun vq56 gq57 kq58 => ?_)
  have gq59 := kq58 1 _ (by decide) (fun _ => rfl) gq29
  have gq60 := kq58 0 _ (by decide) (fun _ => rfl) gq30
  have gq61 := kq58 2 _ (by decide) (fun _ => rfl) gq31
  have gq62 := kq58 3 _ (by decide) (fun _ => rfl) gq27
  exact m_writeShot_b102_ok hp0  F vq56 σ54 l1 s0 p24 ((0 : Int32)) gq60 gq59 gq61 gq62 gq57 _ h
def m_writeShot_b0 (F : Nat)  (σ : RS) (l1 : Int32) : Option (RS) :=
  (rld σ 47 l1).bind fun x63 =>
  if xc2 .ne x63 ((2 : Int32)) = true then (
    m_writeShot_b15 F  σ ((2 : Int32)) l1
  ) else (
    m_writeShot_b15 F  σ ((3 : Int32)) l1
  )
set_option maxRecDepth 4000 in
theorem m_writeShot_b0_ok {pF : Nat → List Value → xH → Option (Option Value × xH)} {d : Nat} {aR : Nat} {G : Nat → xC} {T : Nat × Nat} {F : Nat} (hp0 : xNP pF)  : ∀ (lv : xL) (σ : RS) (l1 : Int32), xg lv 0 = some (.ref aR) → xg lv 1 = some (.int l1) → ∀ res, m_writeShot_b0 F  σ l1 = some res → xR pF (d + 2) kT383 16 5 false none none (layR aR res G, T) (0, lv, [], (layR aR σ G, T)) := by
  intro lv σ l1 g0 g1 res h
  unfold m_writeShot_b0 at h
  refine eE_aload_n lk383_0 g0 ?_
  refine eR_getA lk383_1 rf_108 rfl ?_
  refine eE_iload_n lk383_4 g1 ?_
  obtain ⟨x63, h64, h⟩ := Option.bind_eq_some_iff.mp h
  refine eR_iald lk383_5 rfl rfl h64 ?_
  refine eE_iconst (v := 2) lk383_6 (by decide) ?_
  refine eE_icmp (t := 14) lk383_7 (by decide) (fun c65 => ?_) (fun c65 => ?_)
  · rw [if_pos c65] at h
    refine eE_iconst (v := 2) lk383_14 (by decide) ?_
    exact m_writeShot_b15_ok hp0  lv σ ((2 : Int32)) l1 g0 g1 _ h
  · rw [if_neg c65] at h
    refine eE_iconst (v := 3) lk383_10 (by decide) ?_
    refine eE_goto (t := 15) lk383_11 (by decide) ?_
    exact m_writeShot_b15_ok hp0  lv σ ((3 : Int32)) l1 g0 g1 _ h
def m_writeShot (F : Nat) (σ : RS) (l1 : Int32) : Option (RS) := m_writeShot_b0 F σ l1
theorem m_writeShot_ok {pF : Nat → List Value → xH → Option (Option Value × xH)} (hp0 : xNP pF) {d : Nat} {aR : Nat} {G : Nat → xC} {T : Nat × Nat} {σ : RS} {F : Nat} {l1 : Int32} {res : RS} (h : m_writeShot F σ l1 = some res) : xCo pF (d + 3) 383 [.ref aR, .int l1] (layR aR σ G, T) none (layR aR res G, T) := by
  unfold m_writeShot at h
  exact xCo_R kk_383 mo_383 ni_383 xm_383 (Nat.le_of_ble_eq_true rfl) (hp0 _ (by decide) (by decide) _ _) (m_writeShot_b0_ok hp0 _ σ l1 rfl rfl _ h)
