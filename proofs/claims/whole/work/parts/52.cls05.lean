/-! printed by wip/whole/gen_cls.py -/
/-! k_Machine_loadSessions_11_8 (88), depth 2 -/
def k_Machine_loadSessions_11_8_b70 (F : Nat)  (σ : CS) (l2 : Int32) : Option ((Int32) × CS) :=
  some (l2, σ)
set_option maxRecDepth 4000 in
theorem k_Machine_loadSessions_11_8_b70_ok {E : CE} {pF : Nat → List Value → xH → Option (Option Value × xH)} (hp0 : xNPc pF) (hL : lcAll E pF) (hF : lcF pF) {d : Nat} {F : Nat}   : ∀ (g : CG) (lv : xL) (σ : CS) (l2 : Int32), (xg lv 2 = some (.int l2)) → ∀ res, k_Machine_loadSessions_11_8_b70 F  σ l2 = some res → cR E cQ1 pF (d + 1) kT88 10 9 (some FieldType.int) (some (.int res.1)) res.2 g σ (70, lv, []) := by
  intro g lv σ l2 g2 res h
  unfold k_Machine_loadSessions_11_8_b70 at h
  refine cR_lift (fun _ _ kk => eE_iload_n lk88_70 g2 kk) ?_
  cases h
  exact cR_end lk88_71 rfl rfl rfl
def k_Machine_loadSessions_11_8_b81 (F : Nat) (K14 : CS → Nat → Nat → Int32 → Int32 → Int32 → Int32 → Option ((Int32) × CS)) : Nat → CS → Nat → Nat → Int32 → Int32 → Int32 → Int32 → Int32 → Int32 → Int32 → Option ((Int32) × CS)
  | 0, _, _, _, _, _, _, _, _, _, _ => none
  | n + 1, σ, l0, l1, l2, l3, l4, l5, l6, l7, l8 =>
    let KK := k_Machine_loadSessions_11_8_b81 F K14 n
    if xc2 .ge l8 ((4 : Int32)) = true then (
      (cwr σ 10 l0 2 (l7 + ((4 : Int32))) l6).bind fun σ2 =>
      (ccpy σ2 11 l1 8 (l4 + ((18 : Int32))) 10 l0 3 (l5 * ((101 : Int32))) l6).bind fun σ4 =>
      (some (csI σ4 10 l0 1 0 ((cI σ4 10 l0 1 0) + ((1 : Int32))))).bind fun σ14 =>
      K14 σ14 l0 l1 l2 l3 (l4 + (((18 : Int32)) + l6)) (l5 + (1 : Int32))
    ) else (
      (k_Machine_numberAt_11_8 F σ l1 (l4 + (((4 : Int32)) * l8)) ((4 : Int32)) l2).bind fun p24 =>
      (cwr σ 10 l0 2 (l7 + l8) p24).bind fun σ27 =>
      KK σ27 l0 l1 l2 l3 l4 l5 l6 l7 (l8 + (1 : Int32))
    )
set_option maxRecDepth 4000 in
theorem k_Machine_loadSessions_11_8_b81_ok {E : CE} {pF : Nat → List Value → xH → Option (Option Value × xH)} (hp0 : xNPc pF) (hL : lcAll E pF) (hF : lcF pF) {d : Nat} {F : Nat} {K14 : CS → Nat → Nat → Int32 → Int32 → Int32 → Int32 → Option ((Int32) × CS)} (hK14 : ∀ (g : CG) (lv : xL) (σ : CS) (l0 : Nat) (l1 : Nat) (l2 : Int32) (l3 : Int32) (l4 : Int32) (l5 : Int32), (cob σ 10 l0) → (cob σ 11 l1) → (xg lv 0 = some (.ref (coa E 10 l0))) → (xg lv 1 = some (.ref (car E g 11 l1 8))) → (xg lv 2 = some (.int l2)) → (xg lv 3 = some (.int l3)) → (xg lv 4 = some (.int l4)) → (xg lv 5 = some (.int l5)) → ∀ res, K14 σ l0 l1 l2 l3 l4 l5 = some res → cR E cQ1 pF (d + 1) kT88 10 9 (some FieldType.int) (some (.int res.1)) res.2 g σ (14, lv, [])) : ∀ (n : Nat) (g : CG) (lv : xL) (σ : CS) (l0 : Nat) (l1 : Nat) (l2 : Int32) (l3 : Int32) (l4 : Int32) (l5 : Int32) (l6 : Int32) (l7 : Int32) (l8 : Int32), (cob σ 10 l0) → (cob σ 11 l1) → (xg lv 0 = some (.ref (coa E 10 l0))) → (xg lv 1 = some (.ref (car E g 11 l1 8))) → (xg lv 2 = some (.int l2)) → (xg lv 3 = some (.int l3)) → (xg lv 4 = some (.int l4)) → (xg lv 5 = some (.int l5)) → (xg lv 6 = some (.int l6)) → (xg lv 7 = some (.int l7)) → (xg lv 8 = some (.int l8)) → ∀ res, k_Machine_loadSessions_11_8_b81 F K14 n σ l0 l1 l2 l3 l4 l5 l6 l7 l8 = some res → cR E cQ1 pF (d + 1) kT88 10 9 (some FieldType.int) (some (.int res.1)) res.2 g σ (81, lv, []) := by
  intro n
  induction n with
  | zero => intro g lv σ l0 l1 l2 l3 l4 l5 l6 l7 l8 bl0 bl1 g0 g1 g2 g3 g4 g5 g6 g7 g8 res h; simp [k_Machine_loadSessions_11_8_b81] at h
  | succ n hKK =>
    intro g lv σ l0 l1 l2 l3 l4 l5 l6 l7 l8 bl0 bl1 g0 g1 g2 g3 g4 g5 g6 g7 g8 res h
    unfold k_Machine_loadSessions_11_8_b81 at h
    dsimp only at h
    refine cR_lift (fun _ _ kk => eE_iload lk88_81 g8 kk) ?_
    refine cR_lift (fun _ _ kk => eE_iconst (v := 4) lk88_83 (by decide) kk) ?_
    refine cR_icmp (t := 116) lk88_84 (by decide) (fun c1 => ?_) (fun c1 => ?_)
    · rw [if_pos c1] at h
      refine cR_lift (fun _ _ kk => eE_aload_n lk88_116 g0 kk) ?_
      refine cR_getA lk88_117 rf_10_11 (by decide) bl0 ?_
      refine cR_lift (fun _ _ kk => eE_iload lk88_120 g7 kk) ?_
      refine cR_lift (fun _ _ kk => eE_iconst (v := 4) lk88_122 (by decide) kk) ?_
      refine cR_lift (fun _ _ kk => eE_iadd lk88_123 kk) ?_
      refine cR_lift (fun _ _ kk => eE_iload lk88_124 g6 kk) ?_
      obtain ⟨σ2, h3, h⟩ := Option.bind_eq_some_iff.mp h
      refine cR_iast (cl := 10) (i := l0) (f := 2) lk88_126 (by decide) rfl bl0 h3 ?_
      refine cR_lift (fun _ _ kk => eE_aload_n lk88_127 g1 kk) ?_
      refine cR_lift (fun _ _ kk => eE_iload lk88_128 g4 kk) ?_
      refine cR_lift (fun _ _ kk => eE_bipush (v := 18) lk88_130 (by decide) kk) ?_
      refine cR_lift (fun _ _ kk => eE_iadd lk88_132 kk) ?_
      refine cR_lift (fun _ _ kk => eE_aload_n lk88_133 g0 kk) ?_
      refine cR_getA lk88_134 rf_10_15 (by decide) (cob_any rfl bl0) ?_
      refine cR_lift (fun _ _ kk => eE_iload lk88_137 g5 kk) ?_
      refine cR_lift (fun _ _ kk => eE_bipush (v := 101) lk88_139 (by decide) kk) ?_
      refine cR_lift (fun _ _ kk => eE_imul lk88_141 kk) ?_
      refine cR_lift (fun _ _ kk => eE_iload lk88_142 g6 kk) ?_
      obtain ⟨σ4, h5, h⟩ := Option.bind_eq_some_iff.mp h
      refine cR_cpy (a := 11) (i := l1) (f := 8) (a' := 10) (i' := l0) (f' := 3) lk88_144 yc_10_68.1 yc_10_68.2 (by decide) (by decide) (by decide) (cob_any rfl bl1) (cob_any rfl bl0) (by first | exact Nat.le_of_ble_eq_true rfl | (simp [xcat, cvo_cat, cat_i, cat_j, cat_r]; done)) h5 ?_
      refine cR_lift (fun _ _ kk => eE_iload lk88_147 g4 kk) ?_
      refine cR_lift (fun _ _ kk => eE_bipush (v := 18) lk88_149 (by decide) kk) ?_
      refine cR_lift (fun _ _ kk => eE_iload lk88_151 g6 kk) ?_
      refine cR_lift (fun _ _ kk => eE_iadd lk88_153 kk) ?_
      refine cR_lift (fun _ _ kk => eE_iadd lk88_154 kk) ?_
      refine cR_stI (j := 4) lk88_155 (Or.inl rfl) (by decide) (fun vq6 gq7 kq8 => ?_)
      have gq9 := kq8 0 _ (by decide) (fun e => absurd e (by decide)) g0
      have gq10 := kq8 1 _ (by decide) (fun e => absurd e (by decide)) g1
      have gq11 := kq8 2 _ (by decide) (fun e => absurd e (by decide)) g2
      have gq12 := kq8 3 _ (by decide) (fun _ => rfl) g3
      have gq13 := kq8 5 _ (by decide) (fun e => absurd e (by decide)) g5
      refine cR_lift (fun _ _ kk => eE_aload_n lk88_157 gq9 kk) ?_
      refine cR_lift (fun _ _ kk => eE_dup lk88_158 rfl kk) ?_
      refine cR_getI lk88_159 rf_10_41 rfl (cob_any rfl bl0) ?_
      refine cR_lift (fun _ _ kk => eE_iconst (v := 1) lk88_162 (by decide) kk) ?_
      refine cR_lift (fun _ _ kk => eE_iadd lk88_163 kk) ?_
      obtain ⟨σ14, h15, h⟩ := Option.bind_eq_some_iff.mp h
      refine cR_putI lk88_164 rf_10_41 rfl (cob_any rfl bl0) pf_10_1 rfl h15 ?_
      refine cR_inc (j := 5) (v := l5 + (1 : Int32)) lk88_167 gq13 rfl (by decide) (fun vq16 gq17 kq18 => ?_)
      have gq19 := kq18 0 _ (by decide) (fun e => absurd e (by decide)) gq9
      have gq20 := kq18 1 _ (by decide) (fun e => absurd e (by decide)) gq10
      have gq21 := kq18 2 _ (by decide) (fun e => absurd e (by decide)) gq11
      have gq22 := kq18 3 _ (by decide) (fun e => absurd e (by decide)) gq12
      have gq23 := kq18 4 _ (by decide) (fun _ => rfl) gq7
      refine cR_lift (fun _ _ kk => eE_goto (t := 14) lk88_170 (by decide) kk) ?_
      exact hK14 g vq16 σ14 l0 l1 l2 l3 (l4 + (((18 : Int32)) + l6)) (l5 + (1 : Int32)) (cob_any rfl bl0) (cob_any rfl bl1) gq19 gq20 gq21 gq22 gq23 gq17 _ h
    · rw [if_neg c1] at h
      refine cR_lift (fun _ _ kk => eE_aload_n lk88_87 g0 kk) ?_
      refine cR_getA lk88_88 rf_10_11 (by decide) bl0 ?_
      refine cR_lift (fun _ _ kk => eE_iload lk88_91 g7 kk) ?_
      refine cR_lift (fun _ _ kk => eE_iload lk88_93 g8 kk) ?_
      refine cR_lift (fun _ _ kk => eE_iadd lk88_95 kk) ?_
      refine cR_lift (fun _ _ kk => eE_aload_n lk88_96 g1 kk) ?_
      refine cR_lift (fun _ _ kk => eE_iload lk88_97 g4 kk) ?_
      refine cR_lift (fun _ _ kk => eE_iconst (v := 4) lk88_99 (by decide) kk) ?_
      refine cR_lift (fun _ _ kk => eE_iload lk88_100 g8 kk) ?_
      refine cR_lift (fun _ _ kk => eE_imul lk88_102 kk) ?_
      refine cR_lift (fun _ _ kk => eE_iadd lk88_103 kk) ?_
      refine cR_lift (fun _ _ kk => eE_iconst (v := 4) lk88_104 (by decide) kk) ?_
      refine cR_lift (fun _ _ kk => eE_iload_n lk88_105 g2 kk) ?_
      obtain ⟨p24, h25, h⟩ := Option.bind_eq_some_iff.mp h
      refine cR_stat (as := [.ref (car E g 11 l1 8), .int (l4 + (((4 : Int32)) * l8)), .int ((4 : Int32)), .int l2]) lk88_106 mr_10_156 na_92 rfl rfl (by first | exact Nat.le_of_ble_eq_true rfl | (simp [xcat, cvo_cat, cat_i, cat_j, cat_r]; done)) mm_92 ws_92 (k_Machine_numberAt_11_8_ok hp0 hL hF (d := d + 0) bl1 h25) (fun m26 => ?_)
      obtain ⟨σ27, h28, h⟩ := Option.bind_eq_some_iff.mp h
      refine cR_iast (cl := 10) (i := l0) (f := 2) lk88_109 (by decide) rfl bl0 h28 ?_
      refine cR_inc (j := 8) (v := l8 + (1 : Int32)) lk88_110 g8 rfl (by decide) (fun vq29 gq30 kq31 => ?_)
      have gq32 := kq31 0 _ (by decide) (fun e => absurd e (by decide)) g0
      have gq33 := kq31 1 _ (by decide) (fun e => absurd e (by decide)) g1
      have gq34 := kq31 2 _ (by decide) (fun e => absurd e (by decide)) g2
      have gq35 := kq31 3 _ (by decide) (fun e => absurd e (by decide)) g3
      have gq36 := kq31 4 _ (by decide) (fun e => absurd e (by decide)) g4
      have gq37 := kq31 5 _ (by decide) (fun e => absurd e (by decide)) g5
      have gq38 := kq31 6 _ (by decide) (fun e => absurd e (by decide)) g6
      have gq39 := kq31 7 _ (by decide) (fun _ => rfl) g7
      refine cR_lift (fun _ _ kk => eE_goto (t := 81) lk88_113 (by decide) kk) ?_
      exact hKK g vq29 σ27 l0 l1 l2 l3 l4 l5 l6 l7 (l8 + (1 : Int32)) (cob_any rfl bl0) (cob_any rfl bl1) gq32 gq33 gq34 gq35 gq36 gq37 gq38 gq39 gq30 _ h
def k_Machine_loadSessions_11_8_b173 (F : Nat)  (σ : CS) (l4 : Int32) : Option ((Int32) × CS) :=
  some (l4, σ)
set_option maxRecDepth 4000 in
theorem k_Machine_loadSessions_11_8_b173_ok {E : CE} {pF : Nat → List Value → xH → Option (Option Value × xH)} (hp0 : xNPc pF) (hL : lcAll E pF) (hF : lcF pF) {d : Nat} {F : Nat}   : ∀ (g : CG) (lv : xL) (σ : CS) (l4 : Int32), (xg lv 4 = some (.int l4)) → ∀ res, k_Machine_loadSessions_11_8_b173 F  σ l4 = some res → cR E cQ1 pF (d + 1) kT88 10 9 (some FieldType.int) (some (.int res.1)) res.2 g σ (173, lv, []) := by
  intro g lv σ l4 g4 res h
  unfold k_Machine_loadSessions_11_8_b173 at h
  refine cR_lift (fun _ _ kk => eE_iload lk88_173 g4 kk) ?_
  cases h
  exact cR_end lk88_175 rfl rfl rfl
def k_Machine_loadSessions_11_8_b14 (F : Nat)  : Nat → CS → Nat → Nat → Int32 → Int32 → Int32 → Int32 → Option ((Int32) × CS)
  | 0, _, _, _, _, _, _, _ => none
  | n + 1, σ, l0, l1, l2, l3, l4, l5 =>
    let KK := k_Machine_loadSessions_11_8_b14 F  n
    if xc2 .ge l5 l3 = true then (
      k_Machine_loadSessions_11_8_b173 F  σ l4
    ) else (
      if xc2 .ge l5 ((16 : Int32)) = true then (
        k_Machine_loadSessions_11_8_b173 F  σ l4
      ) else (
        if xc2 .gt (l4 + ((18 : Int32))) l2 = true then (
          k_Machine_loadSessions_11_8_b173 F  σ l4
        ) else (
          (k_Machine_numberAt_11_8 F σ l1 ((l4 + ((18 : Int32))) - ((2 : Int32))) ((2 : Int32)) l2).bind fun p43 =>
          if xc2 .gt p43 ((101 : Int32)) = true then (
            k_Machine_loadSessions_11_8_b70 F  σ l2
          ) else (
            if xc2 .le ((l4 + ((18 : Int32))) + p43) l2 = true then (
              k_Machine_loadSessions_11_8_b81 F KK F σ l0 l1 l2 l3 l4 l5 p43 (l5 * ((5 : Int32))) ((0 : Int32))
            ) else (
              k_Machine_loadSessions_11_8_b70 F  σ l2
            )
          )
        )
      )
    )
set_option maxRecDepth 4000 in
theorem k_Machine_loadSessions_11_8_b14_ok {E : CE} {pF : Nat → List Value → xH → Option (Option Value × xH)} (hp0 : xNPc pF) (hL : lcAll E pF) (hF : lcF pF) {d : Nat} {F : Nat}   : ∀ (n : Nat) (g : CG) (lv : xL) (σ : CS) (l0 : Nat) (l1 : Nat) (l2 : Int32) (l3 : Int32) (l4 : Int32) (l5 : Int32), (cob σ 10 l0) → (cob σ 11 l1) → (xg lv 0 = some (.ref (coa E 10 l0))) → (xg lv 1 = some (.ref (car E g 11 l1 8))) → (xg lv 2 = some (.int l2)) → (xg lv 3 = some (.int l3)) → (xg lv 4 = some (.int l4)) → (xg lv 5 = some (.int l5)) → ∀ res, k_Machine_loadSessions_11_8_b14 F  n σ l0 l1 l2 l3 l4 l5 = some res → cR E cQ1 pF (d + 1) kT88 10 9 (some FieldType.int) (some (.int res.1)) res.2 g σ (14, lv, []) := by
  intro n
  induction n with
  | zero => intro g lv σ l0 l1 l2 l3 l4 l5 bl0 bl1 g0 g1 g2 g3 g4 g5 res h; simp [k_Machine_loadSessions_11_8_b14] at h
  | succ n hKK =>
    intro g lv σ l0 l1 l2 l3 l4 l5 bl0 bl1 g0 g1 g2 g3 g4 g5 res h
    unfold k_Machine_loadSessions_11_8_b14 at h
    dsimp only at h
    refine cR_lift (fun _ _ kk => eE_iload lk88_14 g5 kk) ?_
    refine cR_lift (fun _ _ kk => eE_iload_n lk88_16 g3 kk) ?_
    refine cR_icmp (t := 173) lk88_17 (by decide) (fun c40 => ?_) (fun c40 => ?_)
    · rw [if_pos c40] at h
      exact k_Machine_loadSessions_11_8_b173_ok hp0 hL hF  g lv σ l4 g4 _ h
    · rw [if_neg c40] at h
      refine cR_lift (fun _ _ kk => eE_iload lk88_20 g5 kk) ?_
      refine cR_lift (fun _ _ kk => eE_bipush (v := 16) lk88_22 (by decide) kk) ?_
      refine cR_icmp (t := 173) lk88_24 (by decide) (fun c41 => ?_) (fun c41 => ?_)
      · rw [if_pos c41] at h
        exact k_Machine_loadSessions_11_8_b173_ok hp0 hL hF  g lv σ l4 g4 _ h
      · rw [if_neg c41] at h
        refine cR_lift (fun _ _ kk => eE_iload lk88_27 g4 kk) ?_
        refine cR_lift (fun _ _ kk => eE_bipush (v := 18) lk88_29 (by decide) kk) ?_
        refine cR_lift (fun _ _ kk => eE_iadd lk88_31 kk) ?_
        refine cR_lift (fun _ _ kk => eE_iload_n lk88_32 g2 kk) ?_
        refine cR_icmp (t := 173) lk88_33 (by decide) (fun c42 => ?_) (fun c42 => ?_)
        · rw [if_pos c42] at h
          exact k_Machine_loadSessions_11_8_b173_ok hp0 hL hF  g lv σ l4 g4 _ h
        · rw [if_neg c42] at h
          refine cR_lift (fun _ _ kk => eE_aload_n lk88_36 g1 kk) ?_
          refine cR_lift (fun _ _ kk => eE_iload lk88_37 g4 kk) ?_
          refine cR_lift (fun _ _ kk => eE_bipush (v := 18) lk88_39 (by decide) kk) ?_
          refine cR_lift (fun _ _ kk => eE_iadd lk88_41 kk) ?_
          refine cR_lift (fun _ _ kk => eE_iconst (v := 2) lk88_42 (by decide) kk) ?_
          refine cR_lift (fun _ _ kk => eE_isub lk88_43 kk) ?_
          refine cR_lift (fun _ _ kk => eE_iconst (v := 2) lk88_44 (by decide) kk) ?_
          refine cR_lift (fun _ _ kk => eE_iload_n lk88_45 g2 kk) ?_
          obtain ⟨p43, h44, h⟩ := Option.bind_eq_some_iff.mp h
          refine cR_stat (as := [.ref (car E g 11 l1 8), .int ((l4 + ((18 : Int32))) - ((2 : Int32))), .int ((2 : Int32)), .int l2]) lk88_46 mr_10_156 na_92 rfl rfl (by first | exact Nat.le_of_ble_eq_true rfl | (simp [xcat, cvo_cat, cat_i, cat_j, cat_r]; done)) mm_92 ws_92 (k_Machine_numberAt_11_8_ok hp0 hL hF (d := d + 0) bl1 h44) (fun m45 => ?_)
          refine cR_stI (j := 6) lk88_49 (Or.inl rfl) (by decide) (fun vq46 gq47 kq48 => ?_)
          have gq49 := kq48 0 _ (by decide) (fun e => absurd e (by decide)) g0
          have gq50 := kq48 1 _ (by decide) (fun e => absurd e (by decide)) g1
          have gq51 := kq48 2 _ (by decide) (fun e => absurd e (by decide)) g2
          have gq52 := kq48 3 _ (by decide) (fun e => absurd e (by decide)) g3
          have gq53 := kq48 4 _ (by decide) (fun e => absurd e (by decide)) g4
          have gq54 := kq48 5 _ (by decide) (fun _ => rfl) g5
          refine cR_lift (fun _ _ kk => eE_iload lk88_51 gq47 kk) ?_
          refine cR_lift (fun _ _ kk => eE_bipush (v := 101) lk88_53 (by decide) kk) ?_
          refine cR_icmp (t := 70) lk88_55 (by decide) (fun c55 => ?_) (fun c55 => ?_)
          · rw [if_pos c55] at h
            exact k_Machine_loadSessions_11_8_b70_ok hp0 hL hF  g vq46 σ l2 gq51 _ h
          · rw [if_neg c55] at h
            refine cR_lift (fun _ _ kk => eE_iload lk88_58 gq53 kk) ?_
            refine cR_lift (fun _ _ kk => eE_bipush (v := 18) lk88_60 (by decide) kk) ?_
            refine cR_lift (fun _ _ kk => eE_iadd lk88_62 kk) ?_
            refine cR_lift (fun _ _ kk => eE_iload lk88_63 gq47 kk) ?_
            refine cR_lift (fun _ _ kk => eE_iadd lk88_65 kk) ?_
            refine cR_lift (fun _ _ kk => eE_iload_n lk88_66 gq51 kk) ?_
            refine cR_icmp (t := 72) lk88_67 (by decide) (fun c56 => ?_) (fun c56 => ?_)
            · rw [if_pos c56] at h
              refine cR_lift (fun _ _ kk => eE_iload lk88_72 gq54 kk) ?_
              refine cR_lift (fun _ _ kk => eE_iconst (v := 5) lk88_74 (by decide) kk) ?_
              refine cR_lift (fun _ _ kk => eE_imul lk88_75 kk) ?_
              refine cR_stI (j := 7) lk88_76 (Or.inl rfl) (by decide) (fun vq57 gq58 kq59 => ?_)
              have gq60 := kq59 0 _ (by decide) (fun e => absurd e (by decide)) gq49
              have gq61 := kq59 1 _ (by decide) (fun e => absurd e (by decide)) gq50
              have gq62 := kq59 2 _ (by decide) (fun e => absurd e (by decide)) gq51
              have gq63 := kq59 3 _ (by decide) (fun e => absurd e (by decide)) gq52
              have gq64 := kq59 4 _ (by decide) (fun e => absurd e (by decide)) gq53
              have gq65 := kq59 5 _ (by decide) (fun e => absurd e (by decide)) gq54
              have gq66 := kq59 6 _ (by decide) (fun _ => rfl) gq47
              refine cR_lift (fun _ _ kk => eE_iconst (v := 0) lk88_78 (by decide) kk) ?_
              refine cR_stI (j := 8) lk88_79 (Or.inl rfl) (by decide) (fun vq67 gq68 kq69 => ?_)
              have gq70 := kq69 0 _ (by decide) (fun e => absurd e (by decide)) gq60
              have gq71 := kq69 1 _ (by decide) (fun e => absurd e (by decide)) gq61
              have gq72 := kq69 2 _ (by decide) (fun e => absurd e (by decide)) gq62
              have gq73 := kq69 3 _ (by decide) (fun e => absurd e (by decide)) gq63
              have gq74 := kq69 4 _ (by decide) (fun e => absurd e (by decide)) gq64
              have gq75 := kq69 5 _ (by decide) (fun e => absurd e (by decide)) gq65
              have gq76 := kq69 6 _ (by decide) (fun e => absurd e (by decide)) gq66
              have gq77 := kq69 7 _ (by decide) (fun _ => rfl) gq58
              exact k_Machine_loadSessions_11_8_b81_ok hp0 hL hF hKK F g vq67 σ l0 l1 l2 l3 l4 l5 p43 (l5 * ((5 : Int32))) ((0 : Int32)) bl0 bl1 gq70 gq71 gq72 gq73 gq74 gq75 gq76 gq77 gq68 _ h
            · rw [if_neg c56] at h
              exact k_Machine_loadSessions_11_8_b70_ok hp0 hL hF  g vq46 σ l2 gq51 _ h
def k_Machine_loadSessions_11_8_b0 (F : Nat)  (σ : CS) (l0 : Nat) (l1 : Nat) (l2 : Int32) : Option ((Int32) × CS) :=
  (k_Machine_numberAt_11_8 F σ l1 ((0 : Int32)) ((4 : Int32)) l2).bind fun p78 =>
  k_Machine_loadSessions_11_8_b14 F  F σ l0 l1 l2 p78 ((4 : Int32)) ((0 : Int32))
set_option maxRecDepth 4000 in
theorem k_Machine_loadSessions_11_8_b0_ok {E : CE} {pF : Nat → List Value → xH → Option (Option Value × xH)} (hp0 : xNPc pF) (hL : lcAll E pF) (hF : lcF pF) {d : Nat} {F : Nat}   : ∀ (g : CG) (lv : xL) (σ : CS) (l0 : Nat) (l1 : Nat) (l2 : Int32), (cob σ 10 l0) → (cob σ 11 l1) → (xg lv 0 = some (.ref (coa E 10 l0))) → (xg lv 1 = some (.ref (car E g 11 l1 8))) → (xg lv 2 = some (.int l2)) → ∀ res, k_Machine_loadSessions_11_8_b0 F  σ l0 l1 l2 = some res → cR E cQ1 pF (d + 1) kT88 10 9 (some FieldType.int) (some (.int res.1)) res.2 g σ (0, lv, []) := by
  intro g lv σ l0 l1 l2 bl0 bl1 g0 g1 g2 res h
  unfold k_Machine_loadSessions_11_8_b0 at h
  refine cR_lift (fun _ _ kk => eE_aload_n lk88_0 g1 kk) ?_
  refine cR_lift (fun _ _ kk => eE_iconst (v := 0) lk88_1 (by decide) kk) ?_
  refine cR_lift (fun _ _ kk => eE_iconst (v := 4) lk88_2 (by decide) kk) ?_
  refine cR_lift (fun _ _ kk => eE_iload_n lk88_3 g2 kk) ?_
  obtain ⟨p78, h79, h⟩ := Option.bind_eq_some_iff.mp h
  refine cR_stat (as := [.ref (car E g 11 l1 8), .int ((0 : Int32)), .int ((4 : Int32)), .int l2]) lk88_4 mr_10_156 na_92 rfl rfl (by first | exact Nat.le_of_ble_eq_true rfl | (simp [xcat, cvo_cat, cat_i, cat_j, cat_r]; done)) mm_92 ws_92 (k_Machine_numberAt_11_8_ok hp0 hL hF (d := d + 0) bl1 h79) (fun m80 => ?_)
  refine cR_stI (j := 3) lk88_7 (Or.inr ⟨_, rfl, rfl⟩) (by decide) (fun vq81 gq82 kq83 => ?_)
  have gq84 := kq83 0 _ (by decide) (fun e => absurd e (by decide)) g0
  have gq85 := kq83 1 _ (by decide) (fun e => absurd e (by decide)) g1
  have gq86 := kq83 2 _ (by decide) (fun _ => rfl) g2
  refine cR_lift (fun _ _ kk => eE_iconst (v := 4) lk88_8 (by decide) kk) ?_
  refine cR_stI (j := 4) lk88_9 (Or.inl rfl) (by decide) (fun vq87 gq88 kq89 => ?_)
  have gq90 := kq89 0 _ (by decide) (fun e => absurd e (by decide)) gq84
  have gq91 := kq89 1 _ (by decide) (fun e => absurd e (by decide)) gq85
  have gq92 := kq89 2 _ (by decide) (fun e => absurd e (by decide)) gq86
  have gq93 := kq89 3 _ (by decide) (fun _ => rfl) gq82
  refine cR_lift (fun _ _ kk => eE_iconst (v := 0) lk88_11 (by decide) kk) ?_
  refine cR_stI (j := 5) lk88_12 (Or.inl rfl) (by decide) (fun vq94 gq95 kq96 => ?_)
  have gq97 := kq96 0 _ (by decide) (fun e => absurd e (by decide)) gq90
  have gq98 := kq96 1 _ (by decide) (fun e => absurd e (by decide)) gq91
  have gq99 := kq96 2 _ (by decide) (fun e => absurd e (by decide)) gq92
  have gq100 := kq96 3 _ (by decide) (fun e => absurd e (by decide)) gq93
  have gq101 := kq96 4 _ (by decide) (fun _ => rfl) gq88
  exact k_Machine_loadSessions_11_8_b14_ok hp0 hL hF  F g vq94 σ l0 l1 l2 p78 ((4 : Int32)) ((0 : Int32)) bl0 bl1 gq97 gq98 gq99 gq100 gq101 gq95 _ h
def k_Machine_loadSessions_11_8 (F : Nat) (σ : CS) (l0 : Nat) (l1 : Nat) (l2 : Int32) : Option ((Int32) × CS) := k_Machine_loadSessions_11_8_b0 F σ l0 l1 l2
theorem k_Machine_loadSessions_11_8_ok {E : CE} {pF : Nat → List Value → xH → Option (Option Value × xH)} (hp0 : xNPc pF) (hL : lcAll E pF) (hF : lcF pF) {d : Nat} {g : CG} {σ : CS} {F : Nat} {l0 : Nat} {l1 : Nat} {l2 : Int32} {res : (Int32) × CS} (bl0 : cob σ 10 l0) (bl1 : cob σ 11 l1) (h : k_Machine_loadSessions_11_8 F σ l0 l1 l2 = some res) : cCo E cQ1 pF (d + 2) 88 [.ref (coa E 10 l0), .ref (car E g 11 l1 8), .int l2] (some (.int res.1)) res.2 g σ :=
  cCo_R kk_88 mo_88 ni_88 xm_88 (Nat.le_of_ble_eq_true rfl) (hp0 88 (by decide) _) (k_Machine_loadSessions_11_8_b0_ok hp0 hL hF g _ σ l0 l1 l2 bl0 bl1 rfl rfl rfl _ h)
/-! k_Machine_load_11_8 (87), depth 3 -/
def k_Machine_load_11_8_b96 (F : Nat)  (σ : CS) : Option (CS) :=
  some σ
set_option maxRecDepth 4000 in
theorem k_Machine_load_11_8_b96_ok {E : CE} {pF : Nat → List Value → xH → Option (Option Value × xH)} (hp0 : xNPc pF) (hL : lcAll E pF) (hF : lcF pF) {d : Nat} {F : Nat}   : ∀ (g : CG) (lv : xL) (σ : CS), ∀ res, k_Machine_load_11_8_b96 F  σ = some res → cR E cQ1 pF (d + 2) kT87 10 9 none none res g σ (96, lv, []) := by
  intro g lv σ res h
  unfold k_Machine_load_11_8_b96 at h
  cases h
  exact cR_end lk87_96 rfl rfl rfl
def k_Machine_load_11_8_b203 (F : Nat)  (σ : CS) : Option (CS) :=
  some σ
set_option maxRecDepth 4000 in
theorem k_Machine_load_11_8_b203_ok {E : CE} {pF : Nat → List Value → xH → Option (Option Value × xH)} (hp0 : xNPc pF) (hL : lcAll E pF) (hF : lcF pF) {d : Nat} {F : Nat}   : ∀ (g : CG) (lv : xL) (σ : CS), ∀ res, k_Machine_load_11_8_b203 F  σ = some res → cR E cQ1 pF (d + 2) kT87 10 9 none none res g σ (203, lv, []) := by
  intro g lv σ res h
  unfold k_Machine_load_11_8_b203 at h
  cases h
  exact cR_end lk87_203 rfl rfl rfl
def k_Machine_load_11_8_b26 (F : Nat)  : Nat → CS → Nat → Nat → Int32 → Int32 → Int32 → Int32 → Option (CS)
  | 0, _, _, _, _, _, _, _ => none
  | n + 1, σ, l0, l1, l2, l3, l4, l5 =>
    let KK := k_Machine_load_11_8_b26 F  n
    if xc2 .ge l5 l4 = true then (
      k_Machine_load_11_8_b203 F  σ
    ) else (
      if xc2 .ge l5 ((128 : Int32)) = true then (
        k_Machine_load_11_8_b203 F  σ
      ) else (
        if xc2 .gt (l3 + ((3 : Int32))) l2 = true then (
          k_Machine_load_11_8_b203 F  σ
        ) else (
          (k_Machine_numberAt_11_8 F σ l1 l3 ((1 : Int32)) l2).bind fun p4 =>
          (k_Machine_numberAt_11_8 F σ l1 (l3 + ((1 : Int32))) ((2 : Int32)) l2).bind fun p16 =>
          if xc2 .gt p4 ((32 : Int32)) = true then (
            k_Machine_load_11_8_b96 F  σ
          ) else (
            if xc2 .gt p16 ((100 : Int32)) = true then (
              k_Machine_load_11_8_b96 F  σ
            ) else (
              if xc2 .le (((l3 + (3 : Int32)) + p4) + p16) l2 = true then (
                (crd σ 10 l0 6 l5).bind fun x42 =>
                (cwr σ 10 l0 7 x42 p4).bind fun σ55 =>
                (cwr σ55 10 l0 8 x42 p16).bind fun σ57 =>
                (ccpy σ57 11 l1 8 (l3 + (3 : Int32)) 10 l0 9 (x42 * ((132 : Int32))) p4).bind fun σ59 =>
                (ccpy σ59 11 l1 8 ((l3 + (3 : Int32)) + p4) 10 l0 9 ((x42 * ((132 : Int32))) + ((32 : Int32))) p16).bind fun σ61 =>
                (some (csI σ61 10 l0 4 0 ((cI σ61 10 l0 4 0) + ((1 : Int32))))).bind fun σ71 =>
                (k_Machine_unitsOf σ71 l0 l5).bind fun p73 =>
                (some (csI σ71 10 l0 5 0 ((cI σ71 10 l0 5 0) + p73))).bind fun σ76 =>
                KK σ76 l0 l1 l2 ((l3 + (3 : Int32)) + (p4 + p16)) l4 (l5 + (1 : Int32))
              ) else (
                k_Machine_load_11_8_b96 F  σ
              )
            )
          )
        )
      )
    )
set_option maxRecDepth 4000 in
theorem k_Machine_load_11_8_b26_ok {E : CE} {pF : Nat → List Value → xH → Option (Option Value × xH)} (hp0 : xNPc pF) (hL : lcAll E pF) (hF : lcF pF) {d : Nat} {F : Nat}   : ∀ (n : Nat) (g : CG) (lv : xL) (σ : CS) (l0 : Nat) (l1 : Nat) (l2 : Int32) (l3 : Int32) (l4 : Int32) (l5 : Int32), (cob σ 10 l0) → (cob σ 11 l1) → (xg lv 0 = some (.ref (coa E 10 l0))) → (xg lv 1 = some (.ref (car E g 11 l1 8))) → (xg lv 2 = some (.int l2)) → (xg lv 3 = some (.int l3)) → (xg lv 4 = some (.int l4)) → (xg lv 5 = some (.int l5)) → ∀ res, k_Machine_load_11_8_b26 F  n σ l0 l1 l2 l3 l4 l5 = some res → cR E cQ1 pF (d + 2) kT87 10 9 none none res g σ (26, lv, []) := by
  intro n
  induction n with
  | zero => intro g lv σ l0 l1 l2 l3 l4 l5 bl0 bl1 g0 g1 g2 g3 g4 g5 res h; simp [k_Machine_load_11_8_b26] at h
  | succ n hKK =>
    intro g lv σ l0 l1 l2 l3 l4 l5 bl0 bl1 g0 g1 g2 g3 g4 g5 res h
    unfold k_Machine_load_11_8_b26 at h
    dsimp only at h
    refine cR_lift (fun _ _ kk => eE_iload lk87_26 g5 kk) ?_
    refine cR_lift (fun _ _ kk => eE_iload lk87_28 g4 kk) ?_
    refine cR_icmp (t := 203) lk87_30 (by decide) (fun c1 => ?_) (fun c1 => ?_)
    · rw [if_pos c1] at h
      exact k_Machine_load_11_8_b203_ok hp0 hL hF  g lv σ  _ h
    · rw [if_neg c1] at h
      refine cR_lift (fun _ _ kk => eE_iload lk87_33 g5 kk) ?_
      refine cR_lift (fun _ _ kk => eE_sipush (v := 128) lk87_35 (by decide) kk) ?_
      refine cR_icmp (t := 203) lk87_38 (by decide) (fun c2 => ?_) (fun c2 => ?_)
      · rw [if_pos c2] at h
        exact k_Machine_load_11_8_b203_ok hp0 hL hF  g lv σ  _ h
      · rw [if_neg c2] at h
        refine cR_lift (fun _ _ kk => eE_iload_n lk87_41 g3 kk) ?_
        refine cR_lift (fun _ _ kk => eE_iconst (v := 3) lk87_42 (by decide) kk) ?_
        refine cR_lift (fun _ _ kk => eE_iadd lk87_43 kk) ?_
        refine cR_lift (fun _ _ kk => eE_iload_n lk87_44 g2 kk) ?_
        refine cR_icmp (t := 203) lk87_45 (by decide) (fun c3 => ?_) (fun c3 => ?_)
        · rw [if_pos c3] at h
          exact k_Machine_load_11_8_b203_ok hp0 hL hF  g lv σ  _ h
        · rw [if_neg c3] at h
          refine cR_lift (fun _ _ kk => eE_aload_n lk87_48 g1 kk) ?_
          refine cR_lift (fun _ _ kk => eE_iload_n lk87_49 g3 kk) ?_
          refine cR_lift (fun _ _ kk => eE_iconst (v := 1) lk87_50 (by decide) kk) ?_
          refine cR_lift (fun _ _ kk => eE_iload_n lk87_51 g2 kk) ?_
          obtain ⟨p4, h5, h⟩ := Option.bind_eq_some_iff.mp h
          refine cR_stat (as := [.ref (car E g 11 l1 8), .int l3, .int ((1 : Int32)), .int l2]) lk87_52 mr_10_156 na_92 rfl rfl (by first | exact Nat.le_of_ble_eq_true rfl | (simp [xcat, cvo_cat, cat_i, cat_j, cat_r]; done)) mm_92 ws_92 (k_Machine_numberAt_11_8_ok hp0 hL hF (d := d + 1) bl1 h5) (fun m6 => ?_)
          refine cR_stI (j := 6) lk87_55 (Or.inl rfl) (by decide) (fun vq7 gq8 kq9 => ?_)
          have gq10 := kq9 0 _ (by decide) (fun e => absurd e (by decide)) g0
          have gq11 := kq9 1 _ (by decide) (fun e => absurd e (by decide)) g1
          have gq12 := kq9 2 _ (by decide) (fun e => absurd e (by decide)) g2
          have gq13 := kq9 3 _ (by decide) (fun e => absurd e (by decide)) g3
          have gq14 := kq9 4 _ (by decide) (fun e => absurd e (by decide)) g4
          have gq15 := kq9 5 _ (by decide) (fun _ => rfl) g5
          refine cR_lift (fun _ _ kk => eE_aload_n lk87_57 gq11 kk) ?_
          refine cR_lift (fun _ _ kk => eE_iload_n lk87_58 gq13 kk) ?_
          refine cR_lift (fun _ _ kk => eE_iconst (v := 1) lk87_59 (by decide) kk) ?_
          refine cR_lift (fun _ _ kk => eE_iadd lk87_60 kk) ?_
          refine cR_lift (fun _ _ kk => eE_iconst (v := 2) lk87_61 (by decide) kk) ?_
          refine cR_lift (fun _ _ kk => eE_iload_n lk87_62 gq12 kk) ?_
          obtain ⟨p16, h17, h⟩ := Option.bind_eq_some_iff.mp h
          refine cR_stat (as := [.ref (car E g 11 l1 8), .int (l3 + ((1 : Int32))), .int ((2 : Int32)), .int l2]) lk87_63 mr_10_156 na_92 rfl rfl (by first | exact Nat.le_of_ble_eq_true rfl | (simp [xcat, cvo_cat, cat_i, cat_j, cat_r]; done)) mm_92 ws_92 (k_Machine_numberAt_11_8_ok hp0 hL hF (d := d + 1) bl1 h17) (fun m18 => ?_)
          refine cR_stI (j := 7) lk87_66 (Or.inl rfl) (by decide) (fun vq19 gq20 kq21 => ?_)
          have gq22 := kq21 0 _ (by decide) (fun e => absurd e (by decide)) gq10
          have gq23 := kq21 1 _ (by decide) (fun e => absurd e (by decide)) gq11
          have gq24 := kq21 2 _ (by decide) (fun e => absurd e (by decide)) gq12
          have gq25 := kq21 3 _ (by decide) (fun e => absurd e (by decide)) gq13
          have gq26 := kq21 4 _ (by decide) (fun e => absurd e (by decide)) gq14
          have gq27 := kq21 5 _ (by decide) (fun e => absurd e (by decide)) gq15
          have gq28 := kq21 6 _ (by decide) (fun _ => rfl) gq8
          refine cR_inc (j := 3) (v := l3 + (3 : Int32)) lk87_68 gq25 rfl (by decide) (fun vq29 gq30 kq31 => ?_)
          have gq32 := kq31 0 _ (by decide) (fun e => absurd e (by decide)) gq22
          have gq33 := kq31 1 _ (by decide) (fun e => absurd e (by decide)) gq23
          have gq34 := kq31 2 _ (by decide) (fun _ => rfl) gq24
          have gq35 := kq31 4 _ (by decide) (fun e => absurd e (by decide)) gq26
          have gq36 := kq31 5 _ (by decide) (fun e => absurd e (by decide)) gq27
          have gq37 := kq31 6 _ (by decide) (fun e => absurd e (by decide)) gq28
          have gq38 := kq31 7 _ (by decide) (fun e => absurd e (by decide)) gq20
          refine cR_lift (fun _ _ kk => eE_iload lk87_71 gq37 kk) ?_
          refine cR_lift (fun _ _ kk => eE_bipush (v := 32) lk87_73 (by decide) kk) ?_
          refine cR_icmp (t := 96) lk87_75 (by decide) (fun c39 => ?_) (fun c39 => ?_)
          · rw [if_pos c39] at h
            exact k_Machine_load_11_8_b96_ok hp0 hL hF  g vq29 σ  _ h
          · rw [if_neg c39] at h
            refine cR_lift (fun _ _ kk => eE_iload lk87_78 gq38 kk) ?_
            refine cR_lift (fun _ _ kk => eE_bipush (v := 100) lk87_80 (by decide) kk) ?_
            refine cR_icmp (t := 96) lk87_82 (by decide) (fun c40 => ?_) (fun c40 => ?_)
            · rw [if_pos c40] at h
              exact k_Machine_load_11_8_b96_ok hp0 hL hF  g vq29 σ  _ h
            · rw [if_neg c40] at h
              refine cR_lift (fun _ _ kk => eE_iload_n lk87_85 gq30 kk) ?_
              refine cR_lift (fun _ _ kk => eE_iload lk87_86 gq37 kk) ?_
              refine cR_lift (fun _ _ kk => eE_iadd lk87_88 kk) ?_
              refine cR_lift (fun _ _ kk => eE_iload lk87_89 gq38 kk) ?_
              refine cR_lift (fun _ _ kk => eE_iadd lk87_91 kk) ?_
              refine cR_lift (fun _ _ kk => eE_iload_n lk87_92 gq34 kk) ?_
              refine cR_icmp (t := 97) lk87_93 (by decide) (fun c41 => ?_) (fun c41 => ?_)
              · rw [if_pos c41] at h
                refine cR_lift (fun _ _ kk => eE_aload_n lk87_97 gq32 kk) ?_
                refine cR_getA lk87_98 rf_10_19 (by decide) bl0 ?_
                refine cR_lift (fun _ _ kk => eE_iload lk87_101 gq36 kk) ?_
                obtain ⟨x42, h43, h⟩ := Option.bind_eq_some_iff.mp h
                refine cR_iald (cl := 10) (i := l0) (f := 6) lk87_103 (by decide) rfl bl0 h43 ?_
                refine cR_stI (j := 8) lk87_104 (Or.inl rfl) (by decide) (fun vq44 gq45 kq46 => ?_)
                have gq47 := kq46 0 _ (by decide) (fun e => absurd e (by decide)) gq32
                have gq48 := kq46 1 _ (by decide) (fun e => absurd e (by decide)) gq33
                have gq49 := kq46 2 _ (by decide) (fun e => absurd e (by decide)) gq34
                have gq50 := kq46 4 _ (by decide) (fun e => absurd e (by decide)) gq35
                have gq51 := kq46 5 _ (by decide) (fun e => absurd e (by decide)) gq36
                have gq52 := kq46 6 _ (by decide) (fun e => absurd e (by decide)) gq37
                have gq53 := kq46 7 _ (by decide) (fun _ => rfl) gq38
                have gq54 := kq46 3 _ (by decide) (fun e => absurd e (by decide)) gq30
                refine cR_lift (fun _ _ kk => eE_aload_n lk87_106 gq47 kk) ?_
                refine cR_getA lk87_107 rf_10_22 (by decide) bl0 ?_
                refine cR_lift (fun _ _ kk => eE_iload lk87_110 gq45 kk) ?_
                refine cR_lift (fun _ _ kk => eE_iload lk87_112 gq52 kk) ?_
                obtain ⟨σ55, h56, h⟩ := Option.bind_eq_some_iff.mp h
                refine cR_iast (cl := 10) (i := l0) (f := 7) lk87_114 (by decide) rfl bl0 h56 ?_
                refine cR_lift (fun _ _ kk => eE_aload_n lk87_115 gq47 kk) ?_
                refine cR_getA lk87_116 rf_10_25 (by decide) (cob_any rfl bl0) ?_
                refine cR_lift (fun _ _ kk => eE_iload lk87_119 gq45 kk) ?_
                refine cR_lift (fun _ _ kk => eE_iload lk87_121 gq53 kk) ?_
                obtain ⟨σ57, h58, h⟩ := Option.bind_eq_some_iff.mp h
                refine cR_iast (cl := 10) (i := l0) (f := 8) lk87_123 (by decide) rfl (cob_any rfl bl0) h58 ?_
                refine cR_lift (fun _ _ kk => eE_aload_n lk87_124 gq48 kk) ?_
                refine cR_lift (fun _ _ kk => eE_iload_n lk87_125 gq54 kk) ?_
                refine cR_lift (fun _ _ kk => eE_aload_n lk87_126 gq47 kk) ?_
                refine cR_getA lk87_127 rf_10_28 (by decide) (cob_any rfl bl0) ?_
                refine cR_lift (fun _ _ kk => eE_iload lk87_130 gq45 kk) ?_
                refine cR_lift (fun _ _ kk => eE_sipush (v := 132) lk87_132 (by decide) kk) ?_
                refine cR_lift (fun _ _ kk => eE_imul lk87_135 kk) ?_
                refine cR_lift (fun _ _ kk => eE_iload lk87_136 gq52 kk) ?_
                obtain ⟨σ59, h60, h⟩ := Option.bind_eq_some_iff.mp h
                refine cR_cpy (a := 11) (i := l1) (f := 8) (a' := 10) (i' := l0) (f' := 9) lk87_138 yc_10_68.1 yc_10_68.2 (by decide) (by decide) (by decide) (cob_any rfl bl1) (cob_any rfl bl0) (by first | exact Nat.le_of_ble_eq_true rfl | (simp [xcat, cvo_cat, cat_i, cat_j, cat_r]; done)) h60 ?_
                refine cR_lift (fun _ _ kk => eE_aload_n lk87_141 gq48 kk) ?_
                refine cR_lift (fun _ _ kk => eE_iload_n lk87_142 gq54 kk) ?_
                refine cR_lift (fun _ _ kk => eE_iload lk87_143 gq52 kk) ?_
                refine cR_lift (fun _ _ kk => eE_iadd lk87_145 kk) ?_
                refine cR_lift (fun _ _ kk => eE_aload_n lk87_146 gq47 kk) ?_
                refine cR_getA lk87_147 rf_10_28 (by decide) (cob_any rfl bl0) ?_
                refine cR_lift (fun _ _ kk => eE_iload lk87_150 gq45 kk) ?_
                refine cR_lift (fun _ _ kk => eE_sipush (v := 132) lk87_152 (by decide) kk) ?_
                refine cR_lift (fun _ _ kk => eE_imul lk87_155 kk) ?_
                refine cR_lift (fun _ _ kk => eE_bipush (v := 32) lk87_156 (by decide) kk) ?_
                refine cR_lift (fun _ _ kk => eE_iadd lk87_158 kk) ?_
                refine cR_lift (fun _ _ kk => eE_iload lk87_159 gq53 kk) ?_
                obtain ⟨σ61, h62, h⟩ := Option.bind_eq_some_iff.mp h
                refine cR_cpy (a := 11) (i := l1) (f := 8) (a' := 10) (i' := l0) (f' := 9) lk87_161 yc_10_68.1 yc_10_68.2 (by decide) (by decide) (by decide) (cob_any rfl bl1) (cob_any rfl bl0) (by first | exact Nat.le_of_ble_eq_true rfl | (simp [xcat, cvo_cat, cat_i, cat_j, cat_r]; done)) h62 ?_
                refine cR_lift (fun _ _ kk => eE_iload_n lk87_164 gq54 kk) ?_
                refine cR_lift (fun _ _ kk => eE_iload lk87_165 gq52 kk) ?_
                refine cR_lift (fun _ _ kk => eE_iload lk87_167 gq53 kk) ?_
                refine cR_lift (fun _ _ kk => eE_iadd lk87_169 kk) ?_
                refine cR_lift (fun _ _ kk => eE_iadd lk87_170 kk) ?_
                refine cR_stI (j := 3) lk87_171 (Or.inr ⟨_, rfl, rfl⟩) (by decide) (fun vq63 gq64 kq65 => ?_)
                have gq66 := kq65 0 _ (by decide) (fun e => absurd e (by decide)) gq47
                have gq67 := kq65 1 _ (by decide) (fun e => absurd e (by decide)) gq48
                have gq68 := kq65 2 _ (by decide) (fun _ => rfl) gq49
                have gq69 := kq65 4 _ (by decide) (fun e => absurd e (by decide)) gq50
                have gq70 := kq65 5 _ (by decide) (fun e => absurd e (by decide)) gq51
                refine cR_lift (fun _ _ kk => eE_aload_n lk87_172 gq66 kk) ?_
                refine cR_lift (fun _ _ kk => eE_dup lk87_173 rfl kk) ?_
                refine cR_getI lk87_174 rf_10_45 rfl (cob_any rfl bl0) ?_
                refine cR_lift (fun _ _ kk => eE_iconst (v := 1) lk87_177 (by decide) kk) ?_
                refine cR_lift (fun _ _ kk => eE_iadd lk87_178 kk) ?_
                obtain ⟨σ71, h72, h⟩ := Option.bind_eq_some_iff.mp h
                refine cR_putI lk87_179 rf_10_45 rfl (cob_any rfl bl0) pf_10_4 rfl h72 ?_
                refine cR_lift (fun _ _ kk => eE_aload_n lk87_182 gq66 kk) ?_
                refine cR_lift (fun _ _ kk => eE_dup lk87_183 rfl kk) ?_
                refine cR_getI lk87_184 rf_10_48 rfl (cob_any rfl bl0) ?_
                refine cR_lift (fun _ _ kk => eE_aload_n lk87_187 gq66 kk) ?_
                refine cR_lift (fun _ _ kk => eE_iload lk87_188 gq70 kk) ?_
                obtain ⟨p73, h74, h⟩ := Option.bind_eq_some_iff.mp h
                refine cR_virt (cl := 10) (i := l0) (as := [.int l5]) lk87_190 mr_10_124 na_104 rfl rfl (by first | exact Nat.le_of_ble_eq_true rfl | (simp [xcat, cvo_cat, cat_i, cat_j, cat_r]; done)) wv_104 wc_104 (cob_any rfl bl0) (k_Machine_unitsOf_ok hp0 hL hF (d := d + 1) (cob_any rfl bl0) h74) (fun m75  => ?_)
                refine cR_lift (fun _ _ kk => eE_iadd lk87_193 kk) ?_
                obtain ⟨σ76, h77, h⟩ := Option.bind_eq_some_iff.mp h
                refine cR_putI lk87_194 rf_10_48 rfl (cob_any rfl bl0) pf_10_5 rfl h77 ?_
                refine cR_inc (j := 5) (v := l5 + (1 : Int32)) lk87_197 gq70 rfl (by decide) (fun vq78 gq79 kq80 => ?_)
                have gq81 := kq80 0 _ (by decide) (fun e => absurd e (by decide)) gq66
                have gq82 := kq80 1 _ (by decide) (fun e => absurd e (by decide)) gq67
                have gq83 := kq80 2 _ (by decide) (fun e => absurd e (by decide)) gq68
                have gq84 := kq80 4 _ (by decide) (fun _ => rfl) gq69
                have gq85 := kq80 3 _ (by decide) (fun e => absurd e (by decide)) gq64
                refine cR_lift (fun _ _ kk => eE_goto (t := 26) lk87_200 (by decide) kk) ?_
                exact hKK g vq78 σ76 l0 l1 l2 ((l3 + (3 : Int32)) + (p4 + p16)) l4 (l5 + (1 : Int32)) (cob_any rfl bl0) (cob_any rfl bl1) gq81 gq82 gq83 gq85 gq84 gq79 _ h
              · rw [if_neg c41] at h
                exact k_Machine_load_11_8_b96_ok hp0 hL hF  g vq29 σ  _ h
def k_Machine_load_11_8_b0 (F : Nat)  (σ : CS) (l0 : Nat) (l1 : Nat) (l2 : Int32) : Option (CS) :=
  (k_Machine_clear σ l0).bind fun p86 =>
  (k_Machine_loadSessions_11_8 F p86 l0 l1 l2).bind fun p89 =>
  (k_Machine_numberAt_11_8 F p89.2 l1 p89.1 ((4 : Int32)) l2).bind fun p98 =>
  k_Machine_load_11_8_b26 F  F p89.2 l0 l1 l2 (p89.1 + (4 : Int32)) p98 ((0 : Int32))
set_option maxRecDepth 4000 in
theorem k_Machine_load_11_8_b0_ok {E : CE} {pF : Nat → List Value → xH → Option (Option Value × xH)} (hp0 : xNPc pF) (hL : lcAll E pF) (hF : lcF pF) {d : Nat} {F : Nat}   : ∀ (g : CG) (lv : xL) (σ : CS) (l0 : Nat) (l1 : Nat) (l2 : Int32), (cob σ 10 l0) → (cob σ 11 l1) → (xg lv 0 = some (.ref (coa E 10 l0))) → (xg lv 1 = some (.ref (car E g 11 l1 8))) → (xg lv 2 = some (.int l2)) → ∀ res, k_Machine_load_11_8_b0 F  σ l0 l1 l2 = some res → cR E cQ1 pF (d + 2) kT87 10 9 none none res g σ (0, lv, []) := by
  intro g lv σ l0 l1 l2 bl0 bl1 g0 g1 g2 res h
  unfold k_Machine_load_11_8_b0 at h
  refine cR_lift (fun _ _ kk => eE_aload_n lk87_0 g0 kk) ?_
  obtain ⟨p86, h87, h⟩ := Option.bind_eq_some_iff.mp h
  refine cR_virt (cl := 10) (i := l0) (as := []) lk87_1 mr_10_149 na_77 rfl rfl (by first | exact Nat.le_of_ble_eq_true rfl | (simp [xcat, cvo_cat, cat_i, cat_j, cat_r]; done)) wv_77 wc_77 bl0 (k_Machine_clear_ok hp0 hL hF (d := d + 1) bl0 h87) (fun m88  => ?_)
  refine cR_lift (fun _ _ kk => eE_aload_n lk87_4 g0 kk) ?_
  refine cR_lift (fun _ _ kk => eE_aload_n lk87_5 g1 kk) ?_
  refine cR_lift (fun _ _ kk => eE_iload_n lk87_6 g2 kk) ?_
  obtain ⟨p89, h90, h⟩ := Option.bind_eq_some_iff.mp h
  refine cR_virt (cl := 10) (i := l0) (as := [.ref (car E g 11 l1 8), .int l2]) lk87_7 mr_10_152 na_88 rfl rfl (by first | exact Nat.le_of_ble_eq_true rfl | (simp [xcat, cvo_cat, cat_i, cat_j, cat_r]; done)) wv_88 wc_88 (cob_any rfl bl0) (k_Machine_loadSessions_11_8_ok hp0 hL hF (d := d + 0) (cob_any rfl bl0) (cob_any rfl bl1) h90) (fun m91  => ?_)
  refine cR_stI (j := 3) lk87_10 (Or.inr ⟨_, rfl, rfl⟩) (by decide) (fun vq92 gq93 kq94 => ?_)
  have gq95 := kq94 0 _ (by decide) (fun e => absurd e (by decide)) g0
  have gq96 := kq94 1 _ (by decide) (fun e => absurd e (by decide)) g1
  have gq97 := kq94 2 _ (by decide) (fun _ => rfl) g2
  refine cR_lift (fun _ _ kk => eE_aload_n lk87_11 gq96 kk) ?_
  refine cR_lift (fun _ _ kk => eE_iload_n lk87_12 gq93 kk) ?_
  refine cR_lift (fun _ _ kk => eE_iconst (v := 4) lk87_13 (by decide) kk) ?_
  refine cR_lift (fun _ _ kk => eE_iload_n lk87_14 gq97 kk) ?_
  obtain ⟨p98, h99, h⟩ := Option.bind_eq_some_iff.mp h
  refine cR_stat (as := [.ref (car E g 11 l1 8), .int p89.1, .int ((4 : Int32)), .int l2]) lk87_15 mr_10_156 na_92 rfl rfl (by first | exact Nat.le_of_ble_eq_true rfl | (simp [xcat, cvo_cat, cat_i, cat_j, cat_r]; done)) mm_92 ws_92 (k_Machine_numberAt_11_8_ok hp0 hL hF (d := d + 1) (cob_any rfl bl1) h99) (fun m100 => ?_)
  refine cR_stI (j := 4) lk87_18 (Or.inl rfl) (by decide) (fun vq101 gq102 kq103 => ?_)
  have gq104 := kq103 0 _ (by decide) (fun e => absurd e (by decide)) gq95
  have gq105 := kq103 1 _ (by decide) (fun e => absurd e (by decide)) gq96
  have gq106 := kq103 2 _ (by decide) (fun e => absurd e (by decide)) gq97
  have gq107 := kq103 3 _ (by decide) (fun _ => rfl) gq93
  refine cR_inc (j := 3) (v := p89.1 + (4 : Int32)) lk87_20 gq107 rfl (by decide) (fun vq108 gq109 kq110 => ?_)
  have gq111 := kq110 0 _ (by decide) (fun e => absurd e (by decide)) gq104
  have gq112 := kq110 1 _ (by decide) (fun e => absurd e (by decide)) gq105
  have gq113 := kq110 2 _ (by decide) (fun _ => rfl) gq106
  have gq114 := kq110 4 _ (by decide) (fun e => absurd e (by decide)) gq102
  refine cR_lift (fun _ _ kk => eE_iconst (v := 0) lk87_23 (by decide) kk) ?_
  refine cR_stI (j := 5) lk87_24 (Or.inl rfl) (by decide) (fun vq115 gq116 kq117 => ?_)
  have gq118 := kq117 0 _ (by decide) (fun e => absurd e (by decide)) gq111
  have gq119 := kq117 1 _ (by decide) (fun e => absurd e (by decide)) gq112
  have gq120 := kq117 2 _ (by decide) (fun e => absurd e (by decide)) gq113
  have gq121 := kq117 4 _ (by decide) (fun _ => rfl) gq114
  have gq122 := kq117 3 _ (by decide) (fun e => absurd e (by decide)) gq109
  exact k_Machine_load_11_8_b26_ok hp0 hL hF  F g vq115 p89.2 l0 l1 l2 (p89.1 + (4 : Int32)) p98 ((0 : Int32)) (cob_any rfl bl0) (cob_any rfl bl1) gq118 gq119 gq120 gq122 gq121 gq116 _ h
def k_Machine_load_11_8 (F : Nat) (σ : CS) (l0 : Nat) (l1 : Nat) (l2 : Int32) : Option (CS) := k_Machine_load_11_8_b0 F σ l0 l1 l2
theorem k_Machine_load_11_8_ok {E : CE} {pF : Nat → List Value → xH → Option (Option Value × xH)} (hp0 : xNPc pF) (hL : lcAll E pF) (hF : lcF pF) {d : Nat} {g : CG} {σ : CS} {F : Nat} {l0 : Nat} {l1 : Nat} {l2 : Int32} {res : CS} (bl0 : cob σ 10 l0) (bl1 : cob σ 11 l1) (h : k_Machine_load_11_8 F σ l0 l1 l2 = some res) : cCo E cQ1 pF (d + 3) 87 [.ref (coa E 10 l0), .ref (car E g 11 l1 8), .int l2] none res g σ :=
  cCo_R kk_87 mo_87 ni_87 xm_87 (Nat.le_of_ble_eq_true rfl) (hp0 87 (by decide) _) (k_Machine_load_11_8_b0_ok hp0 hL hF g _ σ l0 l1 l2 bl0 bl1 rfl rfl rfl _ h)
/-! k_Log_add_11_6 (62), depth 2 -/
def k_Log_add_11_6_b65  (σ : CS) : Option (CS) :=
  some σ
set_option maxRecDepth 4000 in
theorem k_Log_add_11_6_b65_ok {E : CE} {pF : Nat → List Value → xH → Option (Option Value × xH)} (hp0 : xNPc pF) (hL : lcAll E pF) (hF : lcF pF) {d : Nat}   : ∀ (g : CG) (lv : xL) (σ : CS), ∀ res, k_Log_add_11_6_b65  σ = some res → cR E cQ1 pF (d + 1) kT62 9 3 none none res g σ (65, lv, []) := by
  intro g lv σ res h
  unfold k_Log_add_11_6_b65 at h
  cases h
  exact cR_end lk62_65 rfl rfl rfl
def k_Log_add_11_6_b0  (σ : CS) (l0 : Nat) (l1 : Nat) (l2 : Int32) : Option (CS) :=
  (k_Log_length σ l0).bind fun p1 =>
  if xc2 .lt p1 ((300 : Int32)) = true then (
    (k_Log_length σ l0).bind fun p5 =>
    (ccpy σ 11 l1 6 l2 9 l0 1 (p5 * ((6 : Int32))) ((6 : Int32))).bind fun σ8 =>
    (some (csI σ8 9 l0 6 0 ((cI σ8 9 l0 6 0) + ((1 : Int32))))).bind fun σ10 =>
    (crd σ10 11 l1 6 (l2 + ((1 : Int32)))).bind fun x12 =>
    if xc2 .ne x12 ((1 : Int32)) = true then (
      k_Log_add_11_6_b65  σ10
    ) else (
      (crd σ10 11 l1 6 (l2 + ((3 : Int32)))).bind fun x15 =>
      (some (csI σ10 9 l0 7 0 x15)).bind fun σ17 =>
      (some (csI σ17 9 l0 8 0 (cI σ17 9 l0 6 0))).bind fun σ19 =>
      k_Log_add_11_6_b65  σ19
    )
  ) else (
    some σ
  )
set_option maxRecDepth 4000 in
theorem k_Log_add_11_6_b0_ok {E : CE} {pF : Nat → List Value → xH → Option (Option Value × xH)} (hp0 : xNPc pF) (hL : lcAll E pF) (hF : lcF pF) {d : Nat}   : ∀ (g : CG) (lv : xL) (σ : CS) (l0 : Nat) (l1 : Nat) (l2 : Int32), (cob σ 9 l0) → (cob σ 11 l1) → (xg lv 0 = some (.ref (coa E 9 l0))) → (xg lv 1 = some (.ref (car E g 11 l1 6))) → (xg lv 2 = some (.int l2)) → ∀ res, k_Log_add_11_6_b0  σ l0 l1 l2 = some res → cR E cQ1 pF (d + 1) kT62 9 3 none none res g σ (0, lv, []) := by
  intro g lv σ l0 l1 l2 bl0 bl1 g0 g1 g2 res h
  unfold k_Log_add_11_6_b0 at h
  refine cR_lift (fun _ _ kk => eE_aload_n lk62_0 g0 kk) ?_
  obtain ⟨p1, h2, h⟩ := Option.bind_eq_some_iff.mp h
  refine cR_virt (cl := 9) (i := l0) (as := []) lk62_1 mr_9_57 na_69 rfl rfl (by first | exact Nat.le_of_ble_eq_true rfl | (simp [xcat, cvo_cat, cat_i, cat_j, cat_r]; done)) wv_69 wc_69 bl0 (k_Log_length_ok hp0 hL hF (d := d + 0) bl0 h2) (fun m3  => ?_)
  refine cR_lift (fun _ _ kk => eE_sipush (v := 300) lk62_4 (by decide) kk) ?_
  refine cR_icmp (t := 11) lk62_7 (by decide) (fun c4 => ?_) (fun c4 => ?_)
  · rw [if_pos c4] at h
    refine cR_lift (fun _ _ kk => eE_aload_n lk62_11 g1 kk) ?_
    refine cR_lift (fun _ _ kk => eE_iload_n lk62_12 g2 kk) ?_
    refine cR_lift (fun _ _ kk => eE_aload_n lk62_13 g0 kk) ?_
    refine cR_getA lk62_14 rf_9_9 (by decide) bl0 ?_
    refine cR_lift (fun _ _ kk => eE_aload_n lk62_17 g0 kk) ?_
    obtain ⟨p5, h6, h⟩ := Option.bind_eq_some_iff.mp h
    refine cR_virt (cl := 9) (i := l0) (as := []) lk62_18 mr_9_57 na_69 rfl rfl (by first | exact Nat.le_of_ble_eq_true rfl | (simp [xcat, cvo_cat, cat_i, cat_j, cat_r]; done)) wv_69 wc_69 bl0 (k_Log_length_ok hp0 hL hF (d := d + 0) bl0 h6) (fun m7  => ?_)
    refine cR_lift (fun _ _ kk => eE_bipush (v := 6) lk62_21 (by decide) kk) ?_
    refine cR_lift (fun _ _ kk => eE_imul lk62_23 kk) ?_
    refine cR_lift (fun _ _ kk => eE_bipush (v := 6) lk62_24 (by decide) kk) ?_
    obtain ⟨σ8, h9, h⟩ := Option.bind_eq_some_iff.mp h
    refine cR_cpy (a := 11) (i := l1) (f := 6) (a' := 9) (i' := l0) (f' := 1) lk62_26 yc_9_61.1 yc_9_61.2 (by decide) (by decide) (by decide) bl1 bl0 (by first | exact Nat.le_of_ble_eq_true rfl | (simp [xcat, cvo_cat, cat_i, cat_j, cat_r]; done)) h9 ?_
    refine cR_lift (fun _ _ kk => eE_aload_n lk62_29 g0 kk) ?_
    refine cR_lift (fun _ _ kk => eE_dup lk62_30 rfl kk) ?_
    refine cR_getI lk62_31 rf_9_34 rfl (cob_any rfl bl0) ?_
    refine cR_lift (fun _ _ kk => eE_iconst (v := 1) lk62_34 (by decide) kk) ?_
    refine cR_lift (fun _ _ kk => eE_iadd lk62_35 kk) ?_
    obtain ⟨σ10, h11, h⟩ := Option.bind_eq_some_iff.mp h
    refine cR_putI lk62_36 rf_9_34 rfl (cob_any rfl bl0) pf_9_6 rfl h11 ?_
    refine cR_lift (fun _ _ kk => eE_aload_n lk62_39 g1 kk) ?_
    refine cR_lift (fun _ _ kk => eE_iload_n lk62_40 g2 kk) ?_
    refine cR_lift (fun _ _ kk => eE_iconst (v := 1) lk62_41 (by decide) kk) ?_
    refine cR_lift (fun _ _ kk => eE_iadd lk62_42 kk) ?_
    obtain ⟨x12, h13, h⟩ := Option.bind_eq_some_iff.mp h
    refine cR_iald (cl := 11) (i := l1) (f := 6) lk62_43 (by decide) rfl (cob_any rfl bl1) h13 ?_
    refine cR_lift (fun _ _ kk => eE_iconst (v := 1) lk62_44 (by decide) kk) ?_
    refine cR_icmp (t := 65) lk62_45 (by decide) (fun c14 => ?_) (fun c14 => ?_)
    · rw [if_pos c14] at h
      exact k_Log_add_11_6_b65_ok hp0 hL hF  g lv σ10  _ h
    · rw [if_neg c14] at h
      refine cR_lift (fun _ _ kk => eE_aload_n lk62_48 g0 kk) ?_
      refine cR_lift (fun _ _ kk => eE_aload_n lk62_49 g1 kk) ?_
      refine cR_lift (fun _ _ kk => eE_iload_n lk62_50 g2 kk) ?_
      refine cR_lift (fun _ _ kk => eE_iconst (v := 3) lk62_51 (by decide) kk) ?_
      refine cR_lift (fun _ _ kk => eE_iadd lk62_52 kk) ?_
      obtain ⟨x15, h16, h⟩ := Option.bind_eq_some_iff.mp h
      refine cR_iald (cl := 11) (i := l1) (f := 6) lk62_53 (by decide) rfl (cob_any rfl bl1) h16 ?_
      obtain ⟨σ17, h18, h⟩ := Option.bind_eq_some_iff.mp h
      refine cR_putI lk62_54 rf_9_25 rfl (cob_any rfl bl0) pf_9_7 rfl h18 ?_
      refine cR_lift (fun _ _ kk => eE_aload_n lk62_57 g0 kk) ?_
      refine cR_lift (fun _ _ kk => eE_aload_n lk62_58 g0 kk) ?_
      refine cR_getI lk62_59 rf_9_34 rfl (cob_any rfl bl0) ?_
      obtain ⟨σ19, h20, h⟩ := Option.bind_eq_some_iff.mp h
      refine cR_putI lk62_62 rf_9_67 rfl (cob_any rfl bl0) pf_9_8 rfl h20 ?_
      exact k_Log_add_11_6_b65_ok hp0 hL hF  g lv σ19  _ h
  · rw [if_neg c4] at h
    cases h
    exact cR_end lk62_10 rfl rfl rfl
def k_Log_add_11_6 (σ : CS) (l0 : Nat) (l1 : Nat) (l2 : Int32) : Option (CS) := k_Log_add_11_6_b0 σ l0 l1 l2
theorem k_Log_add_11_6_ok {E : CE} {pF : Nat → List Value → xH → Option (Option Value × xH)} (hp0 : xNPc pF) (hL : lcAll E pF) (hF : lcF pF) {d : Nat} {g : CG} {σ : CS} {l0 : Nat} {l1 : Nat} {l2 : Int32} {res : CS} (bl0 : cob σ 9 l0) (bl1 : cob σ 11 l1) (h : k_Log_add_11_6 σ l0 l1 l2 = some res) : cCo E cQ1 pF (d + 2) 62 [.ref (coa E 9 l0), .ref (car E g 11 l1 6), .int l2] none res g σ :=
  cCo_R kk_62 mo_62 ni_62 xm_62 (Nat.le_of_ble_eq_true rfl) (hp0 62 (by decide) _) (k_Log_add_11_6_b0_ok hp0 hL hF g _ σ l0 l1 l2 bl0 bl1 rfl rfl rfl _ h)
/-! k_Server_loadLog (145), depth 4 -/
def k_Server_loadLog_b153 (F : Nat) (K105 : CS → Nat → Int32 → Option (CS)) : Nat → CS → Nat → Int32 → Nat → Int32 → Option (CS)
  | 0, _, _, _, _, _ => none
  | n + 1, σ, l0, l1, l2, l3 =>
    let KK := k_Server_loadLog_b153 F K105 n
    if xc2 .ge l3 (cI σ 11 l2 5 0) = true then (
      K105 σ l0 (l1 + (1 : Int32))
    ) else (
      (k_Log_add_11_6 σ l0 l2 (l3 * ((6 : Int32)))).bind fun p6 =>
      KK p6 l0 l1 l2 (l3 + (1 : Int32))
    )
set_option maxRecDepth 4000 in
theorem k_Server_loadLog_b153_ok {E : CE} {pF : Nat → List Value → xH → Option (Option Value × xH)} (hp0 : xNPc pF) (hL : lcAll E pF) (hF : lcF pF) {d : Nat} {F : Nat} {K105 : CS → Nat → Int32 → Option (CS)} (hK105 : ∀ (g : CG) (lv : xL) (σ : CS) (l0 : Nat) (l1 : Int32), (cob σ 13 l0) → (xg lv 0 = some (.ref (coa E 13 l0))) → (xg lv 1 = some (.int l1)) → ∀ res, K105 σ l0 l1 = some res → cR E cQ1 pF (d + 3) kT145 13 4 none none res g σ (105, lv, [])) : ∀ (n : Nat) (g : CG) (lv : xL) (σ : CS) (l0 : Nat) (l1 : Int32) (l2 : Nat) (l3 : Int32), (cob σ 13 l0) → (cob σ 11 l2) → (xg lv 0 = some (.ref (coa E 13 l0))) → (xg lv 1 = some (.int l1)) → (xg lv 2 = some (.ref (coa E 11 l2))) → (xg lv 3 = some (.int l3)) → ∀ res, k_Server_loadLog_b153 F K105 n σ l0 l1 l2 l3 = some res → cR E cQ1 pF (d + 3) kT145 13 4 none none res g σ (153, lv, []) := by
  intro n
  induction n with
  | zero => intro g lv σ l0 l1 l2 l3 bl0 bl2 g0 g1 g2 g3 res h; simp [k_Server_loadLog_b153] at h
  | succ n hKK =>
    intro g lv σ l0 l1 l2 l3 bl0 bl2 g0 g1 g2 g3 res h
    unfold k_Server_loadLog_b153 at h
    dsimp only at h
    refine cR_lift (fun _ _ kk => eE_iload_n lk145_153 g3 kk) ?_
    refine cR_lift (fun _ _ kk => eE_aload_n lk145_154 g2 kk) ?_
    refine cR_getI lk145_155 rf_13_299 rfl bl2 ?_
    refine cR_icmp (t := 182) lk145_158 (by decide) (fun c1 => ?_) (fun c1 => ?_)
    · rw [if_pos c1] at h
      refine cR_inc (j := 1) (v := l1 + (1 : Int32)) lk145_182 g1 rfl (by decide) (fun vq2 gq3 kq4 => ?_)
      have gq5 := kq4 0 _ (by decide) (fun _ => rfl) g0
      refine cR_lift (fun _ _ kk => eE_goto (t := 105) lk145_185 (by decide) kk) ?_
      exact hK105 g vq2 σ l0 (l1 + (1 : Int32)) bl0 gq5 gq3 _ h
    · rw [if_neg c1] at h
      refine cR_lift (fun _ _ kk => eE_aload_n lk145_161 g0 kk) ?_
      refine cR_getO (cl' := 9) (i' := l0) lk145_162 rf_13_72 rfl rfl bl0 ?_
      refine cR_lift (fun _ _ kk => eE_aload_n lk145_165 g2 kk) ?_
      refine cR_getA lk145_166 rf_13_302 (by decide) bl2 ?_
      refine cR_lift (fun _ _ kk => eE_iload_n lk145_169 g3 kk) ?_
      refine cR_lift (fun _ _ kk => eE_bipush (v := 6) lk145_170 (by decide) kk) ?_
      refine cR_lift (fun _ _ kk => eE_imul lk145_172 kk) ?_
      obtain ⟨p6, h7, h⟩ := Option.bind_eq_some_iff.mp h
      refine cR_virt (cl := 9) (i := l0) (as := [.ref (car E g 11 l2 6), .int (l3 * ((6 : Int32)))]) lk145_173 mr_13_305 na_62 rfl rfl (by first | exact Nat.le_of_ble_eq_true rfl | (simp [xcat, cvo_cat, cat_i, cat_j, cat_r]; done)) wv_62 wc_62 (cob_s (cl := 9) bl0 (by decide) rfl rfl) (k_Log_add_11_6_ok hp0 hL hF (d := d + 1) (cob_s (cl := 9) bl0 (by decide) rfl rfl) bl2 h7) (fun m8  => ?_)
      refine cR_inc (j := 3) (v := l3 + (1 : Int32)) lk145_176 g3 rfl (by decide) (fun vq9 gq10 kq11 => ?_)
      have gq12 := kq11 0 _ (by decide) (fun e => absurd e (by decide)) g0
      have gq13 := kq11 1 _ (by decide) (fun e => absurd e (by decide)) g1
      have gq14 := kq11 2 _ (by decide) (fun _ => rfl) g2
      refine cR_lift (fun _ _ kk => eE_goto (t := 153) lk145_179 (by decide) kk) ?_
      exact hKK g vq9 p6 l0 l1 l2 (l3 + (1 : Int32)) (cob_any rfl bl0) (cob_any rfl bl2) gq12 gq13 gq14 gq10 _ h
def k_Server_loadLog_b105 (F : Nat)  : Nat → CS → Nat → Int32 → Option (CS)
  | 0, _, _, _ => none
  | n + 1, σ, l0, l1 =>
    let KK := k_Server_loadLog_b105 F  n
    if xc2 .ge l1 (cI σ 6 l0 5 0) = true then (
      (some (csI σ 9 l0 11 0 (cI σ 9 l0 6 0))).bind fun σ16 =>
      some σ16
    ) else (
      (crd σ 6 l0 4 l1).bind fun x18 =>
      (cix 6 0 x18).bind fun n20 =>
      k_Server_loadLog_b153 F KK F σ l0 l1 (30 * l0 + cpg n20) (cmax ((0 : Int32)) (((cI σ 9 l0 3 0) + ((1 : Int32))) - (cI σ 11 (30 * l0 + cpg n20) 2 0)))
    )
set_option maxRecDepth 4000 in
theorem k_Server_loadLog_b105_ok {E : CE} {pF : Nat → List Value → xH → Option (Option Value × xH)} (hp0 : xNPc pF) (hL : lcAll E pF) (hF : lcF pF) {d : Nat} {F : Nat}   : ∀ (n : Nat) (g : CG) (lv : xL) (σ : CS) (l0 : Nat) (l1 : Int32), (cob σ 13 l0) → (xg lv 0 = some (.ref (coa E 13 l0))) → (xg lv 1 = some (.int l1)) → ∀ res, k_Server_loadLog_b105 F  n σ l0 l1 = some res → cR E cQ1 pF (d + 3) kT145 13 4 none none res g σ (105, lv, []) := by
  intro n
  induction n with
  | zero => intro g lv σ l0 l1 bl0 g0 g1 res h; simp [k_Server_loadLog_b105] at h
  | succ n hKK =>
    intro g lv σ l0 l1 bl0 g0 g1 res h
    unfold k_Server_loadLog_b105 at h
    dsimp only at h
    refine cR_lift (fun _ _ kk => eE_iload_n lk145_105 g1 kk) ?_
    refine cR_lift (fun _ _ kk => eE_aload_n lk145_106 g0 kk) ?_
    refine cR_getO (cl' := 6) (i' := l0) lk145_107 rf_13_12 rfl rfl bl0 ?_
    refine cR_getI lk145_110 rf_13_286 rfl (cob_s (cl := 6) bl0 (by decide) rfl rfl) ?_
    refine cR_icmp (t := 188) lk145_113 (by decide) (fun c15 => ?_) (fun c15 => ?_)
    · rw [if_pos c15] at h
      refine cR_lift (fun _ _ kk => eE_aload_n lk145_188 g0 kk) ?_
      refine cR_getO (cl' := 9) (i' := l0) lk145_189 rf_13_72 rfl rfl bl0 ?_
      refine cR_lift (fun _ _ kk => eE_aload_n lk145_192 g0 kk) ?_
      refine cR_getO (cl' := 9) (i' := l0) lk145_193 rf_13_72 rfl rfl bl0 ?_
      refine cR_getI lk145_196 rf_13_103 rfl (cob_s (cl := 9) bl0 (by decide) rfl rfl) ?_
      obtain ⟨σ16, h17, h⟩ := Option.bind_eq_some_iff.mp h
      refine cR_putI lk145_199 rf_13_97 rfl (cob_s (cl := 9) bl0 (by decide) rfl rfl) pf_9_11 rfl h17 ?_
      cases h
      exact cR_end lk145_202 rfl rfl rfl
    · rw [if_neg c15] at h
      refine cR_lift (fun _ _ kk => eE_aload_n lk145_116 g0 kk) ?_
      refine cR_getO (cl' := 6) (i' := l0) lk145_117 rf_13_12 rfl rfl bl0 ?_
      refine cR_getA lk145_120 rf_13_259 (by decide) (cob_s (cl := 6) bl0 (by decide) rfl rfl) ?_
      refine cR_lift (fun _ _ kk => eE_aload_n lk145_123 g0 kk) ?_
      refine cR_getO (cl' := 6) (i' := l0) lk145_124 rf_13_12 rfl rfl bl0 ?_
      refine cR_getA lk145_127 rf_13_289 (by decide) (cob_s (cl := 6) bl0 (by decide) rfl rfl) ?_
      refine cR_lift (fun _ _ kk => eE_iload_n lk145_130 g1 kk) ?_
      obtain ⟨x18, h19, h⟩ := Option.bind_eq_some_iff.mp h
      refine cR_iald (cl := 6) (i := l0) (f := 4) lk145_131 (by decide) rfl (cob_s (cl := 6) bl0 (by decide) rfl rfl) h19 ?_
      obtain ⟨n20, h21, h⟩ := Option.bind_eq_some_iff.mp h
      refine cR_aald (cl := 6) (i := l0) (f := 0) (cl' := 11) (i' := 30 * l0 + cpg n20) lk145_132 rfl (by decide) (cob_s (cl := 6) bl0 (by decide) rfl rfl) h21 rfl ?_
      refine cR_stA (j := 2) lk145_133 (Or.inr ⟨_, rfl, rfl⟩) (by decide) (fun vq22 gq23 kq24 => ?_)
      have gq25 := kq24 0 _ (by decide) (fun e => absurd e (by decide)) g0
      have gq26 := kq24 1 _ (by decide) (fun _ => rfl) g1
      refine cR_lift (fun _ _ kk => eE_iconst (v := 0) lk145_134 (by decide) kk) ?_
      refine cR_lift (fun _ _ kk => eE_aload_n lk145_135 gq25 kk) ?_
      refine cR_getO (cl' := 9) (i' := l0) lk145_136 rf_13_72 rfl rfl bl0 ?_
      refine cR_getI lk145_139 rf_13_100 rfl (cob_s (cl := 9) bl0 (by decide) rfl rfl) ?_
      refine cR_lift (fun _ _ kk => eE_iconst (v := 1) lk145_142 (by decide) kk) ?_
      refine cR_lift (fun _ _ kk => eE_iadd lk145_143 kk) ?_
      refine cR_lift (fun _ _ kk => eE_aload_n lk145_144 gq23 kk) ?_
      refine cR_getI lk145_145 rf_13_263 rfl (cob_pg (c := σ) (cob_s (cl := 6) bl0 (by decide) rfl rfl) (cix_lt h21)).1 ?_
      refine cR_lift (fun _ _ kk => eE_isub lk145_148 kk) ?_
      refine cR_max lk145_149 mr_13_293 (by first | exact Nat.le_of_ble_eq_true rfl | (simp [xcat, cvo_cat, cat_i, cat_j, cat_r]; done)) ?_
      refine cR_stI (j := 3) lk145_152 (Or.inr ⟨_, rfl, rfl⟩) (by decide) (fun vq27 gq28 kq29 => ?_)
      have gq30 := kq29 0 _ (by decide) (fun e => absurd e (by decide)) gq25
      have gq31 := kq29 1 _ (by decide) (fun e => absurd e (by decide)) gq26
      have gq32 := kq29 2 _ (by decide) (fun _ => rfl) gq23
      exact k_Server_loadLog_b153_ok hp0 hL hF hKK F g vq27 σ l0 l1 (30 * l0 + cpg n20) (cmax ((0 : Int32)) (((cI σ 9 l0 3 0) + ((1 : Int32))) - (cI σ 11 (30 * l0 + cpg n20) 2 0))) bl0 (cob_pg (c := σ) (cob_s (cl := 6) bl0 (by decide) rfl rfl) (cix_lt h21)).1 gq30 gq31 gq32 gq28 _ h
def k_Server_loadLog_b75 (F : Nat)  (σ : CS) (l0 : Nat) : Option (CS) :=
  (some (csI σ 9 l0 9 0 (cI σ 9 l0 3 0))).bind fun σ33 =>
  (some (csI σ33 9 l0 10 0 (cI σ33 9 l0 3 0))).bind fun σ35 =>
  k_Server_loadLog_b105 F  F σ35 l0 ((0 : Int32))
set_option maxRecDepth 4000 in
theorem k_Server_loadLog_b75_ok {E : CE} {pF : Nat → List Value → xH → Option (Option Value × xH)} (hp0 : xNPc pF) (hL : lcAll E pF) (hF : lcF pF) {d : Nat} {F : Nat}   : ∀ (g : CG) (lv : xL) (σ : CS) (l0 : Nat), (cob σ 13 l0) → (xg lv 0 = some (.ref (coa E 13 l0))) → ∀ res, k_Server_loadLog_b75 F  σ l0 = some res → cR E cQ1 pF (d + 3) kT145 13 4 none none res g σ (75, lv, []) := by
  intro g lv σ l0 bl0 g0 res h
  unfold k_Server_loadLog_b75 at h
  refine cR_lift (fun _ _ kk => eE_aload_n lk145_75 g0 kk) ?_
  refine cR_getO (cl' := 9) (i' := l0) lk145_76 rf_13_72 rfl rfl bl0 ?_
  refine cR_lift (fun _ _ kk => eE_aload_n lk145_79 g0 kk) ?_
  refine cR_getO (cl' := 9) (i' := l0) lk145_80 rf_13_72 rfl rfl bl0 ?_
  refine cR_getI lk145_83 rf_13_100 rfl (cob_s (cl := 9) bl0 (by decide) rfl rfl) ?_
  obtain ⟨σ33, h34, h⟩ := Option.bind_eq_some_iff.mp h
  refine cR_putI lk145_86 rf_13_91 rfl (cob_s (cl := 9) bl0 (by decide) rfl rfl) pf_9_9 rfl h34 ?_
  refine cR_lift (fun _ _ kk => eE_aload_n lk145_89 g0 kk) ?_
  refine cR_getO (cl' := 9) (i' := l0) lk145_90 rf_13_72 rfl rfl (cob_any rfl bl0) ?_
  refine cR_lift (fun _ _ kk => eE_aload_n lk145_93 g0 kk) ?_
  refine cR_getO (cl' := 9) (i' := l0) lk145_94 rf_13_72 rfl rfl (cob_any rfl bl0) ?_
  refine cR_getI lk145_97 rf_13_100 rfl (cob_s (cl := 9) (cob_any rfl bl0) (by decide) rfl rfl) ?_
  obtain ⟨σ35, h36, h⟩ := Option.bind_eq_some_iff.mp h
  refine cR_putI lk145_100 rf_13_94 rfl (cob_s (cl := 9) (cob_any rfl bl0) (by decide) rfl rfl) pf_9_10 rfl h36 ?_
  refine cR_lift (fun _ _ kk => eE_iconst (v := 0) lk145_103 (by decide) kk) ?_
  refine cR_stI (j := 1) lk145_104 (Or.inr ⟨_, rfl, rfl⟩) (by decide) (fun vq37 gq38 kq39 => ?_)
  have gq40 := kq39 0 _ (by decide) (fun _ => rfl) g0
  exact k_Server_loadLog_b105_ok hp0 hL hF  F g vq37 σ35 l0 ((0 : Int32)) (cob_any rfl bl0) gq40 gq38 _ h
def k_Server_loadLog_b0 (F : Nat)  (σ : CS) (l0 : Nat) : Option (CS) :=
  (k_Log_clear F σ l0).bind fun p41 =>
  (k_Machine_clear p41 l0).bind fun p44 =>
  if xc2 .eq (cI p44 6 l0 9 0) ((-1 : Int32)) = true then (
    k_Server_loadLog_b75 F  p44 l0
  ) else (
    (cix 6 0 (cI p44 6 l0 9 0)).bind fun n48 =>
    (k_Log_moveBase F p44 l0 (cI p44 11 (30 * l0 + cpg n48) 2 0) (cI p44 11 (30 * l0 + cpg n48) 3 0) (cI p44 11 (30 * l0 + cpg n48) 4 0)).bind fun p54 =>
    (k_Machine_load_11_8 F p54 l0 (30 * l0 + cpg n48) (cI p54 11 (30 * l0 + cpg n48) 9 0)).bind fun p57 =>
    k_Server_loadLog_b75 F  p57 l0
  )
set_option maxRecDepth 4000 in
theorem k_Server_loadLog_b0_ok {E : CE} {pF : Nat → List Value → xH → Option (Option Value × xH)} (hp0 : xNPc pF) (hL : lcAll E pF) (hF : lcF pF) {d : Nat} {F : Nat}   : ∀ (g : CG) (lv : xL) (σ : CS) (l0 : Nat), (cob σ 13 l0) → (xg lv 0 = some (.ref (coa E 13 l0))) → ∀ res, k_Server_loadLog_b0 F  σ l0 = some res → cR E cQ1 pF (d + 3) kT145 13 4 none none res g σ (0, lv, []) := by
  intro g lv σ l0 bl0 g0 res h
  unfold k_Server_loadLog_b0 at h
  refine cR_lift (fun _ _ kk => eE_aload_n lk145_0 g0 kk) ?_
  refine cR_getO (cl' := 9) (i' := l0) lk145_1 rf_13_72 rfl rfl bl0 ?_
  obtain ⟨p41, h42, h⟩ := Option.bind_eq_some_iff.mp h
  refine cR_virt (cl := 9) (i := l0) (as := []) lk145_4 mr_13_254 na_64 rfl rfl (by first | exact Nat.le_of_ble_eq_true rfl | (simp [xcat, cvo_cat, cat_i, cat_j, cat_r]; done)) wv_64 wc_64 (cob_s (cl := 9) bl0 (by decide) rfl rfl) (k_Log_clear_ok hp0 hL hF (d := d + 0) (cob_s (cl := 9) bl0 (by decide) rfl rfl) h42) (fun m43  => ?_)
  refine cR_lift (fun _ _ kk => eE_aload_n lk145_7 g0 kk) ?_
  refine cR_getO (cl' := 10) (i' := l0) lk145_8 rf_13_81 rfl rfl (cob_any rfl bl0) ?_
  obtain ⟨p44, h45, h⟩ := Option.bind_eq_some_iff.mp h
  refine cR_virt (cl := 10) (i := l0) (as := []) lk145_11 mr_13_255 na_77 rfl rfl (by first | exact Nat.le_of_ble_eq_true rfl | (simp [xcat, cvo_cat, cat_i, cat_j, cat_r]; done)) wv_77 wc_77 (cob_s (cl := 10) (cob_any rfl bl0) (by decide) rfl rfl) (k_Machine_clear_ok hp0 hL hF (d := d + 2) (cob_s (cl := 10) (cob_any rfl bl0) (by decide) rfl rfl) h45) (fun m46  => ?_)
  refine cR_lift (fun _ _ kk => eE_aload_n lk145_14 g0 kk) ?_
  refine cR_getO (cl' := 6) (i' := l0) lk145_15 rf_13_12 rfl rfl (cob_any rfl bl0) ?_
  refine cR_getI lk145_18 rf_13_256 rfl (cob_s (cl := 6) (cob_any rfl bl0) (by decide) rfl rfl) ?_
  refine cR_lift (fun _ _ kk => eE_iconst (v := (-1)) lk145_21 (by decide) kk) ?_
  refine cR_icmp (t := 75) lk145_22 (by decide) (fun c47 => ?_) (fun c47 => ?_)
  · rw [if_pos c47] at h
    exact k_Server_loadLog_b75_ok hp0 hL hF  g lv p44 l0 (cob_any rfl bl0) g0 _ h
  · rw [if_neg c47] at h
    refine cR_lift (fun _ _ kk => eE_aload_n lk145_25 g0 kk) ?_
    refine cR_getO (cl' := 6) (i' := l0) lk145_26 rf_13_12 rfl rfl (cob_any rfl bl0) ?_
    refine cR_getA lk145_29 rf_13_259 (by decide) (cob_s (cl := 6) (cob_any rfl bl0) (by decide) rfl rfl) ?_
    refine cR_lift (fun _ _ kk => eE_aload_n lk145_32 g0 kk) ?_
    refine cR_getO (cl' := 6) (i' := l0) lk145_33 rf_13_12 rfl rfl (cob_any rfl bl0) ?_
    refine cR_getI lk145_36 rf_13_256 rfl (cob_s (cl := 6) (cob_any rfl bl0) (by decide) rfl rfl) ?_
    obtain ⟨n48, h49, h⟩ := Option.bind_eq_some_iff.mp h
    refine cR_aald (cl := 6) (i := l0) (f := 0) (cl' := 11) (i' := 30 * l0 + cpg n48) lk145_39 rfl (by decide) (cob_s (cl := 6) (cob_any rfl bl0) (by decide) rfl rfl) h49 rfl ?_
    refine cR_stA (j := 1) lk145_40 (Or.inr ⟨_, rfl, rfl⟩) (by decide) (fun vq50 gq51 kq52 => ?_)
    have gq53 := kq52 0 _ (by decide) (fun _ => rfl) g0
    refine cR_lift (fun _ _ kk => eE_aload_n lk145_41 gq53 kk) ?_
    refine cR_getO (cl' := 9) (i' := l0) lk145_42 rf_13_72 rfl rfl (cob_any rfl bl0) ?_
    refine cR_lift (fun _ _ kk => eE_aload_n lk145_45 gq51 kk) ?_
    refine cR_getI lk145_46 rf_13_263 rfl (cob_pg (c := p44) (cob_s (cl := 6) (cob_any rfl bl0) (by decide) rfl rfl) (cix_lt h49)).1 ?_
    refine cR_lift (fun _ _ kk => eE_aload_n lk145_49 gq51 kk) ?_
    refine cR_getI lk145_50 rf_13_268 rfl (cob_pg (c := p44) (cob_s (cl := 6) (cob_any rfl bl0) (by decide) rfl rfl) (cix_lt h49)).1 ?_
    refine cR_lift (fun _ _ kk => eE_aload_n lk145_53 gq51 kk) ?_
    refine cR_getI lk145_54 rf_13_269 rfl (cob_pg (c := p44) (cob_s (cl := 6) (cob_any rfl bl0) (by decide) rfl rfl) (cix_lt h49)).1 ?_
    obtain ⟨p54, h55, h⟩ := Option.bind_eq_some_iff.mp h
    refine cR_virt (cl := 9) (i := l0) (as := [.int (cI p44 11 (30 * l0 + cpg n48) 2 0), .int (cI p44 11 (30 * l0 + cpg n48) 3 0), .int (cI p44 11 (30 * l0 + cpg n48) 4 0)]) lk145_57 mr_13_272 na_72 rfl rfl (by first | exact Nat.le_of_ble_eq_true rfl | (simp [xcat, cvo_cat, cat_i, cat_j, cat_r]; done)) wv_72 wc_72 (cob_s (cl := 9) (cob_any rfl bl0) (by decide) rfl rfl) (k_Log_moveBase_ok hp0 hL hF (d := d + 0) (cob_s (cl := 9) (cob_any rfl bl0) (by decide) rfl rfl) h55) (fun m56  => ?_)
    refine cR_lift (fun _ _ kk => eE_aload_n lk145_60 gq53 kk) ?_
    refine cR_getO (cl' := 10) (i' := l0) lk145_61 rf_13_81 rfl rfl (cob_any rfl bl0) ?_
    refine cR_lift (fun _ _ kk => eE_aload_n lk145_64 gq51 kk) ?_
    refine cR_getA lk145_65 rf_13_276 (by decide) (cob_any rfl (cob_pg (c := p44) (cob_s (cl := 6) (cob_any rfl bl0) (by decide) rfl rfl) (cix_lt h49)).1) ?_
    refine cR_lift (fun _ _ kk => eE_aload_n lk145_68 gq51 kk) ?_
    refine cR_getI lk145_69 rf_13_279 rfl (cob_any rfl (cob_pg (c := p44) (cob_s (cl := 6) (cob_any rfl bl0) (by decide) rfl rfl) (cix_lt h49)).1) ?_
    obtain ⟨p57, h58, h⟩ := Option.bind_eq_some_iff.mp h
    refine cR_virt (cl := 10) (i := l0) (as := [.ref (car E g 11 (30 * l0 + cpg n48) 8), .int (cI p54 11 (30 * l0 + cpg n48) 9 0)]) lk145_72 mr_13_282 na_87 rfl rfl (by first | exact Nat.le_of_ble_eq_true rfl | (simp [xcat, cvo_cat, cat_i, cat_j, cat_r]; done)) wv_87 wc_87 (cob_s (cl := 10) (cob_any rfl bl0) (by decide) rfl rfl) (k_Machine_load_11_8_ok hp0 hL hF (d := d + 0) (cob_s (cl := 10) (cob_any rfl bl0) (by decide) rfl rfl) (cob_any rfl (cob_pg (c := p44) (cob_s (cl := 6) (cob_any rfl bl0) (by decide) rfl rfl) (cix_lt h49)).1) h58) (fun m59  => ?_)
    exact k_Server_loadLog_b75_ok hp0 hL hF  g vq50 p57 l0 (cob_any rfl bl0) gq53 _ h
def k_Server_loadLog (F : Nat) (σ : CS) (l0 : Nat) : Option (CS) := k_Server_loadLog_b0 F σ l0
theorem k_Server_loadLog_ok {E : CE} {pF : Nat → List Value → xH → Option (Option Value × xH)} (hp0 : xNPc pF) (hL : lcAll E pF) (hF : lcF pF) {d : Nat} {g : CG} {σ : CS} {F : Nat} {l0 : Nat} {res : CS} (bl0 : cob σ 13 l0) (h : k_Server_loadLog F σ l0 = some res) : cCo E cQ1 pF (d + 4) 145 [.ref (coa E 13 l0)] none res g σ :=
  cCo_R kk_145 mo_145 ni_145 xm_145 (Nat.le_of_ble_eq_true rfl) (hp0 145 (by decide) _) (k_Server_loadLog_b0_ok hp0 hL hF g _ σ l0 bl0 rfl _ h)
/-! k_Server_loadTerm (146), depth 3 -/
def k_Server_loadTerm_b125  (σ : CS) : Option (CS) :=
  some σ
set_option maxRecDepth 4000 in
theorem k_Server_loadTerm_b125_ok {E : CE} {pF : Nat → List Value → xH → Option (Option Value × xH)} (hp0 : xNPc pF) (hL : lcAll E pF) (hF : lcF pF) {d : Nat}   : ∀ (g : CG) (lv : xL) (σ : CS), ∀ res, k_Server_loadTerm_b125  σ = some res → cR E cQ1 pF (d + 2) kT146 13 3 none none res g σ (125, lv, []) := by
  intro g lv σ res h
  unfold k_Server_loadTerm_b125 at h
  cases h
  exact cR_end lk146_125 rfl rfl rfl
def k_Server_loadTerm_b74  (σ : CS) (s0 : Nat) (s1 : Int32) (l0 : Nat) : Option (CS) :=
  (some (csI σ 13 s0 11 0 s1)).bind fun σ1 =>
  (k_Log_termAt σ1 l0 (cI σ1 9 l0 6 0)).bind fun p3 =>
  if xc2 .le p3 (cI σ1 13 l0 10 0) = true then (
    k_Server_loadTerm_b125  σ1
  ) else (
    (some (csI σ1 13 l0 10 0 p3)).bind fun σ11 =>
    (some (csI σ11 13 l0 11 0 ((-1 : Int32)))).bind fun σ13 =>
    (k_Disk_writeSlot σ13 l0 (cI σ13 13 l0 10 0) (cI σ13 13 l0 11 0)).bind fun p15 =>
    k_Server_loadTerm_b125  p15
  )
set_option maxRecDepth 4000 in
theorem k_Server_loadTerm_b74_ok {E : CE} {pF : Nat → List Value → xH → Option (Option Value × xH)} (hp0 : xNPc pF) (hL : lcAll E pF) (hF : lcF pF) {d : Nat}   : ∀ (g : CG) (lv : xL) (σ : CS) (s0 : Nat) (s1 : Int32) (l0 : Nat), (cob σ 13 s0) → (cob σ 13 l0) → (xg lv 0 = some (.ref (coa E 13 l0))) → ∀ res, k_Server_loadTerm_b74  σ s0 s1 l0 = some res → cR E cQ1 pF (d + 2) kT146 13 3 none none res g σ (74, lv, [.int s1, .ref (coa E 13 s0)]) := by
  intro g lv σ s0 s1 l0 bs0 bl0 g0 res h
  unfold k_Server_loadTerm_b74 at h
  obtain ⟨σ1, h2, h⟩ := Option.bind_eq_some_iff.mp h
  refine cR_putI lk146_74 rf_13_43 rfl bs0 pf_13_11 rfl h2 ?_
  refine cR_lift (fun _ _ kk => eE_aload_n lk146_77 g0 kk) ?_
  refine cR_getO (cl' := 9) (i' := l0) lk146_78 rf_13_72 rfl rfl (cob_any rfl bl0) ?_
  refine cR_lift (fun _ _ kk => eE_aload_n lk146_81 g0 kk) ?_
  refine cR_getO (cl' := 9) (i' := l0) lk146_82 rf_13_72 rfl rfl (cob_any rfl bl0) ?_
  refine cR_getI lk146_85 rf_13_103 rfl (cob_s (cl := 9) (cob_any rfl bl0) (by decide) rfl rfl) ?_
  obtain ⟨p3, h4, h⟩ := Option.bind_eq_some_iff.mp h
  refine cR_virt (cl := 9) (i := l0) (as := [.int (cI σ1 9 l0 6 0)]) lk146_88 mr_13_311 na_75 rfl rfl (by first | exact Nat.le_of_ble_eq_true rfl | (simp [xcat, cvo_cat, cat_i, cat_j, cat_r]; done)) wv_75 wc_75 (cob_s (cl := 9) (cob_any rfl bl0) (by decide) rfl rfl) (k_Log_termAt_ok hp0 hL hF (d := d + 0) (cob_s (cl := 9) (cob_any rfl bl0) (by decide) rfl rfl) h4) (fun m5  => ?_)
  refine cR_stI (j := 2) lk146_91 (Or.inr ⟨_, rfl, rfl⟩) (by decide) (fun vq6 gq7 kq8 => ?_)
  have gq9 := kq8 0 _ (by decide) (fun e => absurd e (by decide)) g0
  refine cR_lift (fun _ _ kk => eE_iload_n lk146_92 gq7 kk) ?_
  refine cR_lift (fun _ _ kk => eE_aload_n lk146_93 gq9 kk) ?_
  refine cR_getI lk146_94 rf_13_88 rfl (cob_any rfl bl0) ?_
  refine cR_icmp (t := 125) lk146_97 (by decide) (fun c10 => ?_) (fun c10 => ?_)
  · rw [if_pos c10] at h
    exact k_Server_loadTerm_b125_ok hp0 hL hF  g vq6 σ1  _ h
  · rw [if_neg c10] at h
    refine cR_lift (fun _ _ kk => eE_aload_n lk146_100 gq9 kk) ?_
    refine cR_lift (fun _ _ kk => eE_iload_n lk146_101 gq7 kk) ?_
    obtain ⟨σ11, h12, h⟩ := Option.bind_eq_some_iff.mp h
    refine cR_putI lk146_102 rf_13_88 rfl (cob_any rfl bl0) pf_13_10 rfl h12 ?_
    refine cR_lift (fun _ _ kk => eE_aload_n lk146_105 gq9 kk) ?_
    refine cR_lift (fun _ _ kk => eE_iconst (v := (-1)) lk146_106 (by decide) kk) ?_
    obtain ⟨σ13, h14, h⟩ := Option.bind_eq_some_iff.mp h
    refine cR_putI lk146_107 rf_13_43 rfl (cob_any rfl bl0) pf_13_11 rfl h14 ?_
    refine cR_lift (fun _ _ kk => eE_aload_n lk146_110 gq9 kk) ?_
    refine cR_getO (cl' := 6) (i' := l0) lk146_111 rf_13_12 rfl rfl (cob_any rfl bl0) ?_
    refine cR_lift (fun _ _ kk => eE_aload_n lk146_114 gq9 kk) ?_
    refine cR_getI lk146_115 rf_13_88 rfl (cob_any rfl bl0) ?_
    refine cR_lift (fun _ _ kk => eE_aload_n lk146_118 gq9 kk) ?_
    refine cR_getI lk146_119 rf_13_43 rfl (cob_any rfl bl0) ?_
    obtain ⟨p15, h16, h⟩ := Option.bind_eq_some_iff.mp h
    refine cR_virt (cl := 6) (i := l0) (as := [.int (cI σ13 13 l0 10 0), .int (cI σ13 13 l0 11 0)]) lk146_122 mr_13_314 na_52 rfl rfl (by first | exact Nat.le_of_ble_eq_true rfl | (simp [xcat, cvo_cat, cat_i, cat_j, cat_r]; done)) wv_52 wc_52 (cob_s (cl := 6) (cob_any rfl bl0) (by decide) rfl rfl) (k_Disk_writeSlot_ok hp0 hL hF (d := d + 0) (cob_s (cl := 6) (cob_any rfl bl0) (by decide) rfl rfl) h16) (fun m17  => ?_)
    exact k_Server_loadTerm_b125_ok hp0 hL hF  g vq6 p15  _ h
def k_Server_loadTerm_b44  (σ : CS) (s0 : Nat) (s1 : Int32) (l0 : Nat) (l1 : Int32) : Option (CS) :=
  (some (csI σ 13 s0 10 0 s1)).bind fun σ18 =>
  if xc0 .eq l1 = true then (
    k_Server_loadTerm_b74  σ18 l0 ((-1 : Int32)) l0
  ) else (
    (cix 6 0 (cI σ18 6 l0 6 0)).bind fun n21 =>
    k_Server_loadTerm_b74  σ18 l0 (cI σ18 11 (30 * l0 + cpg n21) 4 0) l0
  )
set_option maxRecDepth 4000 in
theorem k_Server_loadTerm_b44_ok {E : CE} {pF : Nat → List Value → xH → Option (Option Value × xH)} (hp0 : xNPc pF) (hL : lcAll E pF) (hF : lcF pF) {d : Nat}   : ∀ (g : CG) (lv : xL) (σ : CS) (s0 : Nat) (s1 : Int32) (l0 : Nat) (l1 : Int32), (cob σ 13 s0) → (cob σ 13 l0) → (xg lv 0 = some (.ref (coa E 13 l0))) → (xg lv 1 = some (.int l1)) → ∀ res, k_Server_loadTerm_b44  σ s0 s1 l0 l1 = some res → cR E cQ1 pF (d + 2) kT146 13 3 none none res g σ (44, lv, [.int s1, .ref (coa E 13 s0)]) := by
  intro g lv σ s0 s1 l0 l1 bs0 bl0 g0 g1 res h
  unfold k_Server_loadTerm_b44 at h
  obtain ⟨σ18, h19, h⟩ := Option.bind_eq_some_iff.mp h
  refine cR_putI lk146_44 rf_13_88 rfl bs0 pf_13_10 rfl h19 ?_
  refine cR_lift (fun _ _ kk => eE_aload_n lk146_47 g0 kk) ?_
  refine cR_lift (fun _ _ kk => eE_iload_n lk146_48 g1 kk) ?_
  refine cR_if (t := 73) lk146_49 (by decide) (fun c20 => ?_) (fun c20 => ?_)
  · rw [if_pos c20] at h
    refine cR_lift (fun _ _ kk => eE_iconst (v := (-1)) lk146_73 (by decide) kk) ?_
    exact k_Server_loadTerm_b74_ok hp0 hL hF  g lv σ18 l0 ((-1 : Int32)) l0 (cob_any rfl bl0) (cob_any rfl bl0) g0 _ h
  · rw [if_neg c20] at h
    refine cR_lift (fun _ _ kk => eE_aload_n lk146_52 g0 kk) ?_
    refine cR_getO (cl' := 6) (i' := l0) lk146_53 rf_13_12 rfl rfl (cob_any rfl bl0) ?_
    refine cR_getA lk146_56 rf_13_259 (by decide) (cob_s (cl := 6) (cob_any rfl bl0) (by decide) rfl rfl) ?_
    refine cR_lift (fun _ _ kk => eE_aload_n lk146_59 g0 kk) ?_
    refine cR_getO (cl' := 6) (i' := l0) lk146_60 rf_13_12 rfl rfl (cob_any rfl bl0) ?_
    refine cR_getI lk146_63 rf_13_308 rfl (cob_s (cl := 6) (cob_any rfl bl0) (by decide) rfl rfl) ?_
    obtain ⟨n21, h22, h⟩ := Option.bind_eq_some_iff.mp h
    refine cR_aald (cl := 6) (i := l0) (f := 0) (cl' := 11) (i' := 30 * l0 + cpg n21) lk146_66 rfl (by decide) (cob_s (cl := 6) (cob_any rfl bl0) (by decide) rfl rfl) h22 rfl ?_
    refine cR_getI lk146_67 rf_13_269 rfl (cob_pg (c := σ18) (cob_s (cl := 6) (cob_any rfl bl0) (by decide) rfl rfl) (cix_lt h22)).1 ?_
    refine cR_lift (fun _ _ kk => eE_goto (t := 74) lk146_70 (by decide) kk) ?_
    exact k_Server_loadTerm_b74_ok hp0 hL hF  g lv σ18 l0 (cI σ18 11 (30 * l0 + cpg n21) 4 0) l0 (cob_any rfl bl0) (cob_any rfl bl0) g0 _ h
def k_Server_loadTerm_b16  (σ : CS) (s0 : Int32) (l0 : Nat) : Option (CS) :=
  if xc0 .eq s0 = true then (
    k_Server_loadTerm_b44  σ l0 ((0 : Int32)) l0 s0
  ) else (
    (cix 6 0 (cI σ 6 l0 6 0)).bind fun n28 =>
    k_Server_loadTerm_b44  σ l0 (cI σ 11 (30 * l0 + cpg n28) 3 0) l0 s0
  )
set_option maxRecDepth 4000 in
theorem k_Server_loadTerm_b16_ok {E : CE} {pF : Nat → List Value → xH → Option (Option Value × xH)} (hp0 : xNPc pF) (hL : lcAll E pF) (hF : lcF pF) {d : Nat}   : ∀ (g : CG) (lv : xL) (σ : CS) (s0 : Int32) (l0 : Nat), (cob σ 13 l0) → (xg lv 0 = some (.ref (coa E 13 l0))) → ∀ res, k_Server_loadTerm_b16  σ s0 l0 = some res → cR E cQ1 pF (d + 2) kT146 13 3 none none res g σ (16, lv, [.int s0]) := by
  intro g lv σ s0 l0 bl0 g0 res h
  unfold k_Server_loadTerm_b16 at h
  refine cR_stI (j := 1) lk146_16 (Or.inr ⟨_, rfl, rfl⟩) (by decide) (fun vq23 gq24 kq25 => ?_)
  have gq26 := kq25 0 _ (by decide) (fun _ => rfl) g0
  refine cR_lift (fun _ _ kk => eE_aload_n lk146_17 gq26 kk) ?_
  refine cR_lift (fun _ _ kk => eE_iload_n lk146_18 gq24 kk) ?_
  refine cR_if (t := 43) lk146_19 (by decide) (fun c27 => ?_) (fun c27 => ?_)
  · rw [if_pos c27] at h
    refine cR_lift (fun _ _ kk => eE_iconst (v := 0) lk146_43 (by decide) kk) ?_
    exact k_Server_loadTerm_b44_ok hp0 hL hF  g vq23 σ l0 ((0 : Int32)) l0 s0 bl0 bl0 gq26 gq24 _ h
  · rw [if_neg c27] at h
    refine cR_lift (fun _ _ kk => eE_aload_n lk146_22 gq26 kk) ?_
    refine cR_getO (cl' := 6) (i' := l0) lk146_23 rf_13_12 rfl rfl bl0 ?_
    refine cR_getA lk146_26 rf_13_259 (by decide) (cob_s (cl := 6) bl0 (by decide) rfl rfl) ?_
    refine cR_lift (fun _ _ kk => eE_aload_n lk146_29 gq26 kk) ?_
    refine cR_getO (cl' := 6) (i' := l0) lk146_30 rf_13_12 rfl rfl bl0 ?_
    refine cR_getI lk146_33 rf_13_308 rfl (cob_s (cl := 6) bl0 (by decide) rfl rfl) ?_
    obtain ⟨n28, h29, h⟩ := Option.bind_eq_some_iff.mp h
    refine cR_aald (cl := 6) (i := l0) (f := 0) (cl' := 11) (i' := 30 * l0 + cpg n28) lk146_36 rfl (by decide) (cob_s (cl := 6) bl0 (by decide) rfl rfl) h29 rfl ?_
    refine cR_getI lk146_37 rf_13_268 rfl (cob_pg (c := σ) (cob_s (cl := 6) bl0 (by decide) rfl rfl) (cix_lt h29)).1 ?_
    refine cR_lift (fun _ _ kk => eE_goto (t := 44) lk146_40 (by decide) kk) ?_
    exact k_Server_loadTerm_b44_ok hp0 hL hF  g vq23 σ l0 (cI σ 11 (30 * l0 + cpg n28) 3 0) l0 s0 bl0 bl0 gq26 gq24 _ h
def k_Server_loadTerm_b0  (σ : CS) (l0 : Nat) : Option (CS) :=
  if xc2 .eq (cI σ 6 l0 6 0) ((-1 : Int32)) = true then (
    k_Server_loadTerm_b16  σ ((0 : Int32)) l0
  ) else (
    k_Server_loadTerm_b16  σ ((1 : Int32)) l0
  )
set_option maxRecDepth 4000 in
theorem k_Server_loadTerm_b0_ok {E : CE} {pF : Nat → List Value → xH → Option (Option Value × xH)} (hp0 : xNPc pF) (hL : lcAll E pF) (hF : lcF pF) {d : Nat}   : ∀ (g : CG) (lv : xL) (σ : CS) (l0 : Nat), (cob σ 13 l0) → (xg lv 0 = some (.ref (coa E 13 l0))) → ∀ res, k_Server_loadTerm_b0  σ l0 = some res → cR E cQ1 pF (d + 2) kT146 13 3 none none res g σ (0, lv, []) := by
  intro g lv σ l0 bl0 g0 res h
  unfold k_Server_loadTerm_b0 at h
  refine cR_lift (fun _ _ kk => eE_aload_n lk146_0 g0 kk) ?_
  refine cR_getO (cl' := 6) (i' := l0) lk146_1 rf_13_12 rfl rfl bl0 ?_
  refine cR_getI lk146_4 rf_13_308 rfl (cob_s (cl := 6) bl0 (by decide) rfl rfl) ?_
  refine cR_lift (fun _ _ kk => eE_iconst (v := (-1)) lk146_7 (by decide) kk) ?_
  refine cR_icmp (t := 15) lk146_8 (by decide) (fun c30 => ?_) (fun c30 => ?_)
  · rw [if_pos c30] at h
    refine cR_lift (fun _ _ kk => eE_iconst (v := 0) lk146_15 (by decide) kk) ?_
    exact k_Server_loadTerm_b16_ok hp0 hL hF  g lv σ ((0 : Int32)) l0 bl0 g0 _ h
  · rw [if_neg c30] at h
    refine cR_lift (fun _ _ kk => eE_iconst (v := 1) lk146_11 (by decide) kk) ?_
    refine cR_lift (fun _ _ kk => eE_goto (t := 16) lk146_12 (by decide) kk) ?_
    exact k_Server_loadTerm_b16_ok hp0 hL hF  g lv σ ((1 : Int32)) l0 bl0 g0 _ h
def k_Server_loadTerm (σ : CS) (l0 : Nat) : Option (CS) := k_Server_loadTerm_b0 σ l0
theorem k_Server_loadTerm_ok {E : CE} {pF : Nat → List Value → xH → Option (Option Value × xH)} (hp0 : xNPc pF) (hL : lcAll E pF) (hF : lcF pF) {d : Nat} {g : CG} {σ : CS} {l0 : Nat} {res : CS} (bl0 : cob σ 13 l0) (h : k_Server_loadTerm σ l0 = some res) : cCo E cQ1 pF (d + 3) 146 [.ref (coa E 13 l0)] none res g σ :=
  cCo_R kk_146 mo_146 ni_146 xm_146 (Nat.le_of_ble_eq_true rfl) (hp0 146 (by decide) _) (k_Server_loadTerm_b0_ok hp0 hL hF g _ σ l0 bl0 rfl _ h)
/-! k_Server_comeUp (129), depth 11 -/
def k_Server_comeUp_b0 (F : Nat)  (σ : CS) (l0 : Nat) : Option (CS) :=
  (k_Disk_find F σ l0).bind fun p1 =>
  (k_Server_loadLog F p1 l0).bind fun p4 =>
  (k_Server_loadTerm p4 l0).bind fun p7 =>
  (k_Disk_syncAll F p7 l0).bind fun p10 =>
  (cputZ p10 13 l0 8 ((1 : Int32))).bind fun σ14 =>
  (cputZ σ14 13 l0 9 ((0 : Int32))).bind fun σ16 =>
  (some (csI σ16 13 l0 12 0 ((0 : Int32)))).bind fun σ18 =>
  (some (csI σ18 13 l0 13 0 ((-1 : Int32)))).bind fun σ20 =>
  (some (csI σ20 13 l0 14 0 ((-1 : Int32)))).bind fun σ22 =>
  (some (csI σ22 13 l0 15 0 ((0 : Int32)))).bind fun σ24 =>
  (some (csI σ24 13 l0 16 0 ((-1 : Int32)))).bind fun σ26 =>
  (some (csI σ26 13 l0 17 0 ((0 : Int32)))).bind fun σ28 =>
  (some (csI σ28 13 l0 19 0 ((0 : Int32)))).bind fun σ30 =>
  (k_Lead_begin F σ30 l0 (cI σ30 9 l0 6 0) (cI σ30 14 0 0 0)).bind fun p32 =>
  (k_Requests_dropAll F p32 l0).bind fun p35 =>
  (k_World_drawAlarm p35 0 (cI p35 13 l0 0 0)).bind fun p38 =>
  some p38
set_option maxRecDepth 4000 in
theorem k_Server_comeUp_b0_ok {E : CE} {pF : Nat → List Value → xH → Option (Option Value × xH)} (hp0 : xNPc pF) (hL : lcAll E pF) (hF : lcF pF) {d : Nat} {F : Nat}   : ∀ (g : CG) (lv : xL) (σ : CS) (l0 : Nat), (cob σ 13 l0) → (xg lv 0 = some (.ref (coa E 13 l0))) → ∀ res, k_Server_comeUp_b0 F  σ l0 = some res → cR E (cQx [11]) pF (d + 10) kT129 13 1 none none res g σ (0, lv, []) := by
  intro g lv σ l0 bl0 g0 res h
  unfold k_Server_comeUp_b0 at h
  refine cR_lift (fun _ _ kk => eE_aload_n lk129_0 g0 kk) ?_
  refine cR_getO (cl' := 6) (i' := l0) lk129_1 rf_13_12 rfl rfl bl0 ?_
  obtain ⟨p1, h2, h⟩ := Option.bind_eq_some_iff.mp h
  refine cR_virt (cl := 6) (i := l0) (as := []) lk129_4 mr_13_229 na_37 rfl rfl (by first | exact Nat.le_of_ble_eq_true rfl | (simp [xcat, cvo_cat, cat_i, cat_j, cat_r]; done)) wv_37 wc_37 (cob_s (cl := 6) bl0 (by decide) rfl rfl) (k_Disk_find_ok hp0 hL hF (d := d + 6) (cob_s (cl := 6) bl0 (by decide) rfl rfl) h2) (fun m3  => ?_)
  refine cR_lift (fun _ _ kk => eE_aload_n lk129_7 g0 kk) ?_
  obtain ⟨p4, h5, h⟩ := Option.bind_eq_some_iff.mp h
  refine cR_virt (cl := 13) (i := l0) (as := []) lk129_8 mr_13_232 na_145 rfl rfl (by first | exact Nat.le_of_ble_eq_true rfl | (simp [xcat, cvo_cat, cat_i, cat_j, cat_r]; done)) wv_145 wc_145 (cob_any rfl bl0) (k_Server_loadLog_ok hp0 hL hF (d := d + 6) (cob_any rfl bl0) h5) (fun m6  => ?_)
  refine cR_lift (fun _ _ kk => eE_aload_n lk129_11 g0 kk) ?_
  obtain ⟨p7, h8, h⟩ := Option.bind_eq_some_iff.mp h
  refine cR_virt (cl := 13) (i := l0) (as := []) lk129_12 mr_13_235 na_146 rfl rfl (by first | exact Nat.le_of_ble_eq_true rfl | (simp [xcat, cvo_cat, cat_i, cat_j, cat_r]; done)) wv_146 wc_146 (cob_any rfl bl0) (k_Server_loadTerm_ok hp0 hL hF (d := d + 7) (cob_any rfl bl0) h8) (fun m9  => ?_)
  refine cR_lift (fun _ _ kk => eE_aload_n lk129_15 g0 kk) ?_
  refine cR_getO (cl' := 6) (i' := l0) lk129_16 rf_13_12 rfl rfl (cob_any rfl bl0) ?_
  obtain ⟨p10, h11, h⟩ := Option.bind_eq_some_iff.mp h
  refine cR_virtG (by exact cQx_sub rfl) (cl := 6) (i := l0) (as := []) lk129_19 mr_13_220 na_48 rfl rfl (by first | exact Nat.le_of_ble_eq_true rfl | (simp [xcat, cvo_cat, cat_i, cat_j, cat_r]; done)) wv_48 wc_48 (cob_s (cl := 6) (cob_any rfl bl0) (by decide) rfl rfl) (k_Disk_syncAll_ok hp0 hL hF (d := d + 5) (cob_s (cl := 6) (cob_any rfl bl0) (by decide) rfl rfl) h11) (fun m12 g_13 g_13e => ?_)
  refine cR_lift (fun _ _ kk => eE_aload_n lk129_22 g0 kk) ?_
  refine cR_lift (fun _ _ kk => eE_iconst (v := 1) lk129_23 (by decide) kk) ?_
  obtain ⟨σ14, h15, h⟩ := Option.bind_eq_some_iff.mp h
  refine cR_putZ lk129_24 rf_13_39 rfl (cob_any rfl bl0) pf_13_8 h15 ?_
  refine cR_lift (fun _ _ kk => eE_aload_n lk129_27 g0 kk) ?_
  refine cR_lift (fun _ _ kk => eE_iconst (v := 0) lk129_28 (by decide) kk) ?_
  obtain ⟨σ16, h17, h⟩ := Option.bind_eq_some_iff.mp h
  refine cR_putZ lk129_29 rf_13_115 rfl (cob_any rfl bl0) pf_13_9 h17 ?_
  refine cR_lift (fun _ _ kk => eE_aload_n lk129_32 g0 kk) ?_
  refine cR_lift (fun _ _ kk => eE_iconst (v := 0) lk129_33 (by decide) kk) ?_
  obtain ⟨σ18, h19, h⟩ := Option.bind_eq_some_iff.mp h
  refine cR_putI lk129_34 rf_13_85 rfl (cob_any rfl bl0) pf_13_12 rfl h19 ?_
  refine cR_lift (fun _ _ kk => eE_aload_n lk129_37 g0 kk) ?_
  refine cR_lift (fun _ _ kk => eE_iconst (v := (-1)) lk129_38 (by decide) kk) ?_
  obtain ⟨σ20, h21, h⟩ := Option.bind_eq_some_iff.mp h
  refine cR_putI lk129_39 rf_13_47 rfl (cob_any rfl bl0) pf_13_13 rfl h21 ?_
  refine cR_lift (fun _ _ kk => eE_aload_n lk129_42 g0 kk) ?_
  refine cR_lift (fun _ _ kk => eE_iconst (v := (-1)) lk129_43 (by decide) kk) ?_
  obtain ⟨σ22, h23, h⟩ := Option.bind_eq_some_iff.mp h
  refine cR_putI lk129_44 rf_13_50 rfl (cob_any rfl bl0) pf_13_14 rfl h23 ?_
  refine cR_lift (fun _ _ kk => eE_aload_n lk129_47 g0 kk) ?_
  refine cR_lift (fun _ _ kk => eE_iconst (v := 0) lk129_48 (by decide) kk) ?_
  obtain ⟨σ24, h25, h⟩ := Option.bind_eq_some_iff.mp h
  refine cR_putI lk129_49 rf_13_109 rfl (cob_any rfl bl0) pf_13_15 rfl h25 ?_
  refine cR_lift (fun _ _ kk => eE_aload_n lk129_52 g0 kk) ?_
  refine cR_lift (fun _ _ kk => eE_iconst (v := (-1)) lk129_53 (by decide) kk) ?_
  obtain ⟨σ26, h27, h⟩ := Option.bind_eq_some_iff.mp h
  refine cR_putI lk129_54 rf_13_53 rfl (cob_any rfl bl0) pf_13_16 rfl h27 ?_
  refine cR_lift (fun _ _ kk => eE_aload_n lk129_57 g0 kk) ?_
  refine cR_lift (fun _ _ kk => eE_iconst (v := 0) lk129_58 (by decide) kk) ?_
  obtain ⟨σ28, h29, h⟩ := Option.bind_eq_some_iff.mp h
  refine cR_putI lk129_59 rf_13_238 rfl (cob_any rfl bl0) pf_13_17 rfl h29 ?_
  refine cR_lift (fun _ _ kk => eE_aload_n lk129_62 g0 kk) ?_
  refine cR_lift (fun _ _ kk => eE_iconst (v := 0) lk129_63 (by decide) kk) ?_
  obtain ⟨σ30, h31, h⟩ := Option.bind_eq_some_iff.mp h
  refine cR_putI lk129_64 rf_13_146 rfl (cob_any rfl bl0) pf_13_19 rfl h31 ?_
  refine cR_lift (fun _ _ kk => eE_aload_n lk129_67 g0 kk) ?_
  refine cR_getO (cl' := 7) (i' := l0) lk129_68 rf_13_21 rfl rfl (cob_any rfl bl0) ?_
  refine cR_lift (fun _ _ kk => eE_aload_n lk129_71 g0 kk) ?_
  refine cR_getO (cl' := 9) (i' := l0) lk129_72 rf_13_72 rfl rfl (cob_any rfl bl0) ?_
  refine cR_getI lk129_75 rf_13_103 rfl (cob_s (cl := 9) (cob_any rfl bl0) (by decide) rfl rfl) ?_
  refine cR_lift (fun _ _ kk => eE_aload_n lk129_78 g0 kk) ?_
  refine cR_getO (cl' := 14) (i' := 0) lk129_79 rf_13_63 rfl rfl (cob_any rfl bl0) ?_
  refine cR_getI lk129_82 rf_13_241 rfl (cob_0 (c := σ30) (cl := 14) (by decide) rfl rfl) ?_
  obtain ⟨p32, h33, h⟩ := Option.bind_eq_some_iff.mp h
  refine cR_virt (cl := 7) (i := l0) (as := [.int (cI σ30 9 l0 6 0), .int (cI σ30 14 0 0 0)]) lk129_85 mr_13_244 na_54 rfl rfl (by first | exact Nat.le_of_ble_eq_true rfl | (simp [xcat, cvo_cat, cat_i, cat_j, cat_r]; done)) wv_54 wc_54 (cob_s (cl := 7) (cob_any rfl bl0) (by decide) rfl rfl) (k_Lead_begin_ok hp0 hL hF (d := d + 0) (cob_s (cl := 7) (cob_any rfl bl0) (by decide) rfl rfl) h33) (fun m34  => ?_)
  refine cR_lift (fun _ _ kk => eE_aload_n lk129_88 g0 kk) ?_
  refine cR_getO (cl' := 12) (i' := l0) lk129_89 rf_13_28 rfl rfl (cob_any rfl bl0) ?_
  obtain ⟨p35, h36, h⟩ := Option.bind_eq_some_iff.mp h
  refine cR_virt (cl := 12) (i := l0) (as := []) lk129_92 mr_13_248 na_117 rfl rfl (by first | exact Nat.le_of_ble_eq_true rfl | (simp [xcat, cvo_cat, cat_i, cat_j, cat_r]; done)) wv_117 wc_117 (cob_s (cl := 12) (cob_any rfl bl0) (by decide) rfl rfl) (k_Requests_dropAll_ok hp0 hL hF (d := d + 9) (cob_s (cl := 12) (cob_any rfl bl0) (by decide) rfl rfl) h36) (fun m37  => ?_)
  refine cR_lift (fun _ _ kk => eE_aload_n lk129_95 g0 kk) ?_
  refine cR_getO (cl' := 14) (i' := 0) lk129_96 rf_13_63 rfl rfl (cob_any rfl bl0) ?_
  refine cR_lift (fun _ _ kk => eE_aload_n lk129_99 g0 kk) ?_
  refine cR_getI lk129_100 rf_13_60 rfl (cob_any rfl bl0) ?_
  obtain ⟨p38, h39, h⟩ := Option.bind_eq_some_iff.mp h
  refine cR_virt (cl := 14) (i := 0) (as := [.int (cI p35 13 l0 0 0)]) lk129_103 mr_13_251 na_188 rfl rfl (by first | exact Nat.le_of_ble_eq_true rfl | (simp [xcat, cvo_cat, cat_i, cat_j, cat_r]; done)) wv_188 wc_188 (cob_0 (c := p35) (cl := 14) (by decide) rfl rfl) (k_World_drawAlarm_ok hp0 hL hF (d := d + 8) (cob_0 (c := p35) (cl := 14) (by decide) rfl rfl) h39) (fun m40  => ?_)
  cases h
  exact cR_end lk129_106 rfl rfl rfl
def k_Server_comeUp (F : Nat) (σ : CS) (l0 : Nat) : Option (CS) := k_Server_comeUp_b0 F σ l0
theorem k_Server_comeUp_ok {E : CE} {pF : Nat → List Value → xH → Option (Option Value × xH)} (hp0 : xNPc pF) (hL : lcAll E pF) (hF : lcF pF) {d : Nat} {g : CG} {σ : CS} {F : Nat} {l0 : Nat} {res : CS} (bl0 : cob σ 13 l0) (h : k_Server_comeUp F σ l0 = some res) : cCo E (cQx [11]) pF (d + 11) 129 [.ref (coa E 13 l0)] none res g σ :=
  cCo_R kk_129 mo_129 ni_129 xm_129 (Nat.le_of_ble_eq_true rfl) (hp0 129 (by decide) _) (k_Server_comeUp_b0_ok hp0 hL hF g _ σ l0 bl0 rfl _ h)
/-! k_Disk_writeSnapshot_10_14 (53), depth 2 -/
def k_Disk_writeSnapshot_10_14_b14  (σ : CS) (s0 : Nat) (s1 : Int32) (l0 : Nat) (l1 : Int32) (l2 : Int32) (l3 : Int32) (l4 : Nat) (l5 : Int32) : Option (CS) :=
  (some (csI σ 6 s0 9 0 s1)).bind fun σ1 =>
  (cix 6 0 (cI σ1 6 l0 9 0)).bind fun n3 =>
  (k_Page_write σ1 (30 * l0 + cpg n3) (((20 : Int32)) + l5) l1 l2 l3).bind fun p14 =>
  (k_Page_makeRoomForBytes p14 (30 * l0 + cpg n3) l5).bind fun p17 =>
  (ccpy p17 10 l4 14 ((0 : Int32)) 11 (30 * l0 + cpg n3) 8 ((0 : Int32)) l5).bind fun σ22 =>
  (some (csI σ22 11 (30 * l0 + cpg n3) 9 0 l5)).bind fun σ24 =>
  (cwr σ24 6 l0 2 (cI σ24 6 l0 9 0) (cI σ24 11 (30 * l0 + cpg n3) 1 0)).bind fun σ26 =>
  some σ26
set_option maxRecDepth 4000 in
theorem k_Disk_writeSnapshot_10_14_b14_ok {E : CE} {pF : Nat → List Value → xH → Option (Option Value × xH)} (hp0 : xNPc pF) (hL : lcAll E pF) (hF : lcF pF) {d : Nat}   : ∀ (g : CG) (lv : xL) (σ : CS) (s0 : Nat) (s1 : Int32) (l0 : Nat) (l1 : Int32) (l2 : Int32) (l3 : Int32) (l4 : Nat) (l5 : Int32), (cob σ 6 s0) → (cob σ 6 l0) → (cob σ 10 l4) → (xg lv 0 = some (.ref (coa E 6 l0))) → (xg lv 1 = some (.int l1)) → (xg lv 2 = some (.int l2)) → (xg lv 3 = some (.int l3)) → (xg lv 4 = some (.ref (car E g 10 l4 14))) → (xg lv 5 = some (.int l5)) → ∀ res, k_Disk_writeSnapshot_10_14_b14  σ s0 s1 l0 l1 l2 l3 l4 l5 = some res → cR E (cQx [11]) pF (d + 1) kT53 6 7 none none res g σ (14, lv, [.int s1, .ref (coa E 6 s0)]) := by
  intro g lv σ s0 s1 l0 l1 l2 l3 l4 l5 bs0 bl0 bl4 g0 g1 g2 g3 g4 g5 res h
  unfold k_Disk_writeSnapshot_10_14_b14 at h
  obtain ⟨σ1, h2, h⟩ := Option.bind_eq_some_iff.mp h
  refine cR_putI lk53_14 rf_6_34 rfl bs0 pf_6_9 rfl h2 ?_
  refine cR_lift (fun _ _ kk => eE_aload_n lk53_17 g0 kk) ?_
  refine cR_getA lk53_18 rf_6_11 (by decide) (cob_any rfl bl0) ?_
  refine cR_lift (fun _ _ kk => eE_aload_n lk53_21 g0 kk) ?_
  refine cR_getI lk53_22 rf_6_34 rfl (cob_any rfl bl0) ?_
  obtain ⟨n3, h4, h⟩ := Option.bind_eq_some_iff.mp h
  refine cR_aald (cl := 6) (i := l0) (f := 0) (cl' := 11) (i' := 30 * l0 + cpg n3) lk53_25 rfl (by decide) (cob_any rfl bl0) h4 rfl ?_
  refine cR_stA (j := 6) lk53_26 (Or.inl rfl) (by decide) (fun vq5 gq6 kq7 => ?_)
  have gq8 := kq7 0 _ (by decide) (fun e => absurd e (by decide)) g0
  have gq9 := kq7 1 _ (by decide) (fun e => absurd e (by decide)) g1
  have gq10 := kq7 2 _ (by decide) (fun e => absurd e (by decide)) g2
  have gq11 := kq7 3 _ (by decide) (fun e => absurd e (by decide)) g3
  have gq12 := kq7 4 _ (by decide) (fun e => absurd e (by decide)) g4
  have gq13 := kq7 5 _ (by decide) (fun _ => rfl) g5
  refine cR_lift (fun _ _ kk => eE_aload lk53_28 gq6 kk) ?_
  refine cR_lift (fun _ _ kk => eE_bipush (v := 20) lk53_30 (by decide) kk) ?_
  refine cR_lift (fun _ _ kk => eE_iload lk53_32 gq13 kk) ?_
  refine cR_lift (fun _ _ kk => eE_iadd lk53_34 kk) ?_
  refine cR_lift (fun _ _ kk => eE_iload_n lk53_35 gq9 kk) ?_
  refine cR_lift (fun _ _ kk => eE_iload_n lk53_36 gq10 kk) ?_
  refine cR_lift (fun _ _ kk => eE_iload_n lk53_37 gq11 kk) ?_
  obtain ⟨p14, h15, h⟩ := Option.bind_eq_some_iff.mp h
  refine cR_virt (cl := 11) (i := 30 * l0 + cpg n3) (as := [.int (((20 : Int32)) + l5), .int l1, .int l2, .int l3]) lk53_38 mr_6_51 na_114 rfl rfl (by first | exact Nat.le_of_ble_eq_true rfl | (simp [xcat, cvo_cat, cat_i, cat_j, cat_r]; done)) wv_114 wc_114 (cob_pg (c := σ1) (cob_any rfl bl0) (cix_lt h4)).1 (k_Page_write_ok hp0 hL hF (d := d + 0) (cob_pg (c := σ1) (cob_any rfl bl0) (cix_lt h4)).1 h15) (fun m16  => ?_)
  refine cR_lift (fun _ _ kk => eE_aload lk53_41 gq6 kk) ?_
  refine cR_lift (fun _ _ kk => eE_iload lk53_43 gq13 kk) ?_
  obtain ⟨p17, h18, h⟩ := Option.bind_eq_some_iff.mp h
  refine cR_virtG (by exact cQx_sub rfl) (cl := 11) (i := 30 * l0 + cpg n3) (as := [.int l5]) lk53_45 mr_6_55 na_111 rfl rfl (by first | exact Nat.le_of_ble_eq_true rfl | (simp [xcat, cvo_cat, cat_i, cat_j, cat_r]; done)) wv_111 wc_111 (cob_any rfl (cob_pg (c := σ1) (cob_any rfl bl0) (cix_lt h4)).1) (k_Page_makeRoomForBytes_ok hp0 hL hF (d := d + 0) (cob_any rfl (cob_pg (c := σ1) (cob_any rfl bl0) (cix_lt h4)).1) h18) (fun m19 g_20 g_20e => ?_)
  have gq21 : xg vq5 4 = some (.ref (car E g_20 10 l4 14)) := by rw [car_keep (g_20e 10 (by decide))]; exact gq12
  refine cR_lift (fun _ _ kk => eE_aload lk53_48 gq21 kk) ?_
  refine cR_lift (fun _ _ kk => eE_iconst (v := 0) lk53_50 (by decide) kk) ?_
  refine cR_lift (fun _ _ kk => eE_aload lk53_51 gq6 kk) ?_
  refine cR_getA lk53_53 rf_6_59 (by decide) (cob_any rfl (cob_pg (c := σ1) (cob_any rfl bl0) (cix_lt h4)).1) ?_
  refine cR_lift (fun _ _ kk => eE_iconst (v := 0) lk53_56 (by decide) kk) ?_
  refine cR_lift (fun _ _ kk => eE_iload lk53_57 gq13 kk) ?_
  obtain ⟨σ22, h23, h⟩ := Option.bind_eq_some_iff.mp h
  refine cR_cpy (a := 10) (i := l4) (f := 14) (a' := 11) (i' := 30 * l0 + cpg n3) (f' := 8) lk53_59 yc_6_63.1 yc_6_63.2 (by decide) (by decide) (by decide) (cob_any rfl bl4) (cob_any rfl (cob_pg (c := σ1) (cob_any rfl bl0) (cix_lt h4)).1) (by first | exact Nat.le_of_ble_eq_true rfl | (simp [xcat, cvo_cat, cat_i, cat_j, cat_r]; done)) h23 ?_
  refine cR_lift (fun _ _ kk => eE_aload lk53_62 gq6 kk) ?_
  refine cR_lift (fun _ _ kk => eE_iload lk53_64 gq13 kk) ?_
  obtain ⟨σ24, h25, h⟩ := Option.bind_eq_some_iff.mp h
  refine cR_putI lk53_66 rf_6_69 rfl (cob_any rfl (cob_pg (c := σ1) (cob_any rfl bl0) (cix_lt h4)).1) pf_11_9 rfl h25 ?_
  refine cR_lift (fun _ _ kk => eE_aload_n lk53_69 gq8 kk) ?_
  refine cR_getA lk53_70 rf_6_20 (by decide) (cob_any rfl bl0) ?_
  refine cR_lift (fun _ _ kk => eE_aload_n lk53_73 gq8 kk) ?_
  refine cR_getI lk53_74 rf_6_34 rfl (cob_any rfl bl0) ?_
  refine cR_lift (fun _ _ kk => eE_aload lk53_77 gq6 kk) ?_
  refine cR_getI lk53_79 rf_6_38 rfl (cob_any rfl (cob_pg (c := σ1) (cob_any rfl bl0) (cix_lt h4)).1) ?_
  obtain ⟨σ26, h27, h⟩ := Option.bind_eq_some_iff.mp h
  refine cR_iast (cl := 6) (i := l0) (f := 2) lk53_82 (by decide) rfl (cob_any rfl bl0) h27 ?_
  cases h
  exact cR_end lk53_83 rfl rfl rfl
def k_Disk_writeSnapshot_10_14_b0  (σ : CS) (l0 : Nat) (l1 : Int32) (l2 : Int32) (l3 : Int32) (l4 : Nat) (l5 : Int32) : Option (CS) :=
  if xc2 .ne (cI σ 6 l0 9 0) ((2 : Int32)) = true then (
    k_Disk_writeSnapshot_10_14_b14  σ l0 ((2 : Int32)) l0 l1 l2 l3 l4 l5
  ) else (
    k_Disk_writeSnapshot_10_14_b14  σ l0 ((3 : Int32)) l0 l1 l2 l3 l4 l5
  )
set_option maxRecDepth 4000 in
theorem k_Disk_writeSnapshot_10_14_b0_ok {E : CE} {pF : Nat → List Value → xH → Option (Option Value × xH)} (hp0 : xNPc pF) (hL : lcAll E pF) (hF : lcF pF) {d : Nat}   : ∀ (g : CG) (lv : xL) (σ : CS) (l0 : Nat) (l1 : Int32) (l2 : Int32) (l3 : Int32) (l4 : Nat) (l5 : Int32), (cob σ 6 l0) → (cob σ 10 l4) → (xg lv 0 = some (.ref (coa E 6 l0))) → (xg lv 1 = some (.int l1)) → (xg lv 2 = some (.int l2)) → (xg lv 3 = some (.int l3)) → (xg lv 4 = some (.ref (car E g 10 l4 14))) → (xg lv 5 = some (.int l5)) → ∀ res, k_Disk_writeSnapshot_10_14_b0  σ l0 l1 l2 l3 l4 l5 = some res → cR E (cQx [11]) pF (d + 1) kT53 6 7 none none res g σ (0, lv, []) := by
  intro g lv σ l0 l1 l2 l3 l4 l5 bl0 bl4 g0 g1 g2 g3 g4 g5 res h
  unfold k_Disk_writeSnapshot_10_14_b0 at h
  refine cR_lift (fun _ _ kk => eE_aload_n lk53_0 g0 kk) ?_
  refine cR_lift (fun _ _ kk => eE_aload_n lk53_1 g0 kk) ?_
  refine cR_getI lk53_2 rf_6_34 rfl bl0 ?_
  refine cR_lift (fun _ _ kk => eE_iconst (v := 2) lk53_5 (by decide) kk) ?_
  refine cR_icmp (t := 13) lk53_6 (by decide) (fun c28 => ?_) (fun c28 => ?_)
  · rw [if_pos c28] at h
    refine cR_lift (fun _ _ kk => eE_iconst (v := 2) lk53_13 (by decide) kk) ?_
    exact k_Disk_writeSnapshot_10_14_b14_ok hp0 hL hF  g lv σ l0 ((2 : Int32)) l0 l1 l2 l3 l4 l5 bl0 bl0 bl4 g0 g1 g2 g3 g4 g5 _ h
  · rw [if_neg c28] at h
    refine cR_lift (fun _ _ kk => eE_iconst (v := 3) lk53_9 (by decide) kk) ?_
    refine cR_lift (fun _ _ kk => eE_goto (t := 14) lk53_10 (by decide) kk) ?_
    exact k_Disk_writeSnapshot_10_14_b14_ok hp0 hL hF  g lv σ l0 ((3 : Int32)) l0 l1 l2 l3 l4 l5 bl0 bl0 bl4 g0 g1 g2 g3 g4 g5 _ h
def k_Disk_writeSnapshot_10_14 (σ : CS) (l0 : Nat) (l1 : Int32) (l2 : Int32) (l3 : Int32) (l4 : Nat) (l5 : Int32) : Option (CS) := k_Disk_writeSnapshot_10_14_b0 σ l0 l1 l2 l3 l4 l5
theorem k_Disk_writeSnapshot_10_14_ok {E : CE} {pF : Nat → List Value → xH → Option (Option Value × xH)} (hp0 : xNPc pF) (hL : lcAll E pF) (hF : lcF pF) {d : Nat} {g : CG} {σ : CS} {l0 : Nat} {l1 : Int32} {l2 : Int32} {l3 : Int32} {l4 : Nat} {l5 : Int32} {res : CS} (bl0 : cob σ 6 l0) (bl4 : cob σ 10 l4) (h : k_Disk_writeSnapshot_10_14 σ l0 l1 l2 l3 l4 l5 = some res) : cCo E (cQx [11]) pF (d + 2) 53 [.ref (coa E 6 l0), .int l1, .int l2, .int l3, .ref (car E g 10 l4 14), .int l5] none res g σ :=
  cCo_R kk_53 mo_53 ni_53 xm_53 (Nat.le_of_ble_eq_true rfl) (hp0 53 (by decide) _) (k_Disk_writeSnapshot_10_14_b0_ok hp0 hL hF g _ σ l0 l1 l2 l3 l4 l5 bl0 bl4 rfl rfl rfl rfl rfl rfl _ h)
/-! k_Server_compact (130), depth 10 -/
def k_Server_compact_b0 (F : Nat)  (σ : CS) (l0 : Nat) : Option (CS) :=
  if xc2 .ge ((cI σ 9 l0 10 0) - (cI σ 9 l0 3 0)) ((24 : Int32)) = true then (
    (k_Log_termAt σ l0 (cI σ 9 l0 10 0)).bind fun p2 =>
    (k_Log_membersUpTo F σ l0 (cI σ 9 l0 10 0)).bind fun p9 =>
    (k_Machine_save F σ l0).bind fun p17 =>
    (k_Disk_writeSnapshot_10_14 p17.2 l0 (cI p17.2 9 l0 10 0) p2 p9 l0 p17.1).bind fun p27 =>
    (k_Log_moveBase F p27 l0 (cI p27 9 l0 10 0) p2 p9).bind fun p31 =>
    (k_Disk_baseMoved F p31 l0 (cI p31 9 l0 3 0) (cI p31 9 l0 6 0)).bind fun p34 =>
    (k_Server_soil p34 l0).bind fun p37 =>
    (some (csfill p37 7 l0 3 ((0 : Int32)))).bind fun σ40 =>
    some σ40
  ) else (
    some σ
  )
set_option maxRecDepth 4000 in
theorem k_Server_compact_b0_ok {E : CE} {pF : Nat → List Value → xH → Option (Option Value × xH)} (hp0 : xNPc pF) (hL : lcAll E pF) (hF : lcF pF) {d : Nat} {F : Nat}   : ∀ (g : CG) (lv : xL) (σ : CS) (l0 : Nat), (cob σ 13 l0) → (xg lv 0 = some (.ref (coa E 13 l0))) → ∀ res, k_Server_compact_b0 F  σ l0 = some res → cR E (cQx [10, 11]) pF (d + 9) kT130 13 4 none none res g σ (0, lv, []) := by
  intro g lv σ l0 bl0 g0 res h
  unfold k_Server_compact_b0 at h
  refine cR_lift (fun _ _ kk => eE_aload_n lk130_0 g0 kk) ?_
  refine cR_getO (cl' := 9) (i' := l0) lk130_1 rf_13_72 rfl rfl bl0 ?_
  refine cR_getI lk130_4 rf_13_94 rfl (cob_s (cl := 9) bl0 (by decide) rfl rfl) ?_
  refine cR_lift (fun _ _ kk => eE_aload_n lk130_7 g0 kk) ?_
  refine cR_getO (cl' := 9) (i' := l0) lk130_8 rf_13_72 rfl rfl bl0 ?_
  refine cR_getI lk130_11 rf_13_100 rfl (cob_s (cl := 9) bl0 (by decide) rfl rfl) ?_
  refine cR_lift (fun _ _ kk => eE_isub lk130_14 kk) ?_
  refine cR_lift (fun _ _ kk => eE_bipush (v := 24) lk130_15 (by decide) kk) ?_
  refine cR_icmp (t := 21) lk130_17 (by decide) (fun c1 => ?_) (fun c1 => ?_)
  · rw [if_pos c1] at h
    refine cR_lift (fun _ _ kk => eE_aload_n lk130_21 g0 kk) ?_
    refine cR_getO (cl' := 9) (i' := l0) lk130_22 rf_13_72 rfl rfl bl0 ?_
    refine cR_lift (fun _ _ kk => eE_aload_n lk130_25 g0 kk) ?_
    refine cR_getO (cl' := 9) (i' := l0) lk130_26 rf_13_72 rfl rfl bl0 ?_
    refine cR_getI lk130_29 rf_13_94 rfl (cob_s (cl := 9) bl0 (by decide) rfl rfl) ?_
    obtain ⟨p2, h3, h⟩ := Option.bind_eq_some_iff.mp h
    refine cR_virt (cl := 9) (i := l0) (as := [.int (cI σ 9 l0 10 0)]) lk130_32 mr_13_311 na_75 rfl rfl (by first | exact Nat.le_of_ble_eq_true rfl | (simp [xcat, cvo_cat, cat_i, cat_j, cat_r]; done)) wv_75 wc_75 (cob_s (cl := 9) bl0 (by decide) rfl rfl) (k_Log_termAt_ok hp0 hL hF (d := d + 7) (cob_s (cl := 9) bl0 (by decide) rfl rfl) h3) (fun m4  => ?_)
    refine cR_stI (j := 1) lk130_35 (Or.inr ⟨_, rfl, rfl⟩) (by decide) (fun vq5 gq6 kq7 => ?_)
    have gq8 := kq7 0 _ (by decide) (fun _ => rfl) g0
    refine cR_lift (fun _ _ kk => eE_aload_n lk130_36 gq8 kk) ?_
    refine cR_getO (cl' := 9) (i' := l0) lk130_37 rf_13_72 rfl rfl bl0 ?_
    refine cR_lift (fun _ _ kk => eE_aload_n lk130_40 gq8 kk) ?_
    refine cR_getO (cl' := 9) (i' := l0) lk130_41 rf_13_72 rfl rfl bl0 ?_
    refine cR_getI lk130_44 rf_13_94 rfl (cob_s (cl := 9) bl0 (by decide) rfl rfl) ?_
    obtain ⟨p9, h10, h⟩ := Option.bind_eq_some_iff.mp h
    refine cR_virt (cl := 9) (i := l0) (as := [.int (cI σ 9 l0 10 0)]) lk130_47 mr_13_614 na_71 rfl rfl (by first | exact Nat.le_of_ble_eq_true rfl | (simp [xcat, cvo_cat, cat_i, cat_j, cat_r]; done)) wv_71 wc_71 (cob_s (cl := 9) bl0 (by decide) rfl rfl) (k_Log_membersUpTo_ok hp0 hL hF (d := d + 7) (cob_s (cl := 9) bl0 (by decide) rfl rfl) h10) (fun m11  => ?_)
    refine cR_stI (j := 2) lk130_50 (Or.inr ⟨_, rfl, rfl⟩) (by decide) (fun vq12 gq13 kq14 => ?_)
    have gq15 := kq14 0 _ (by decide) (fun e => absurd e (by decide)) gq8
    have gq16 := kq14 1 _ (by decide) (fun _ => rfl) gq6
    refine cR_lift (fun _ _ kk => eE_aload_n lk130_51 gq15 kk) ?_
    refine cR_getO (cl' := 10) (i' := l0) lk130_52 rf_13_81 rfl rfl bl0 ?_
    obtain ⟨p17, h18, h⟩ := Option.bind_eq_some_iff.mp h
    refine cR_virtG (by exact cQx_sub rfl) (cl := 10) (i := l0) (as := []) lk130_55 mr_13_617 na_97 rfl rfl (by first | exact Nat.le_of_ble_eq_true rfl | (simp [xcat, cvo_cat, cat_i, cat_j, cat_r]; done)) wv_97 wc_97 (cob_s (cl := 10) bl0 (by decide) rfl rfl) (k_Machine_save_ok hp0 hL hF (d := d + 7) (cob_s (cl := 10) bl0 (by decide) rfl rfl) h18) (fun m19 g_20 g_20e => ?_)
    refine cR_stI (j := 3) lk130_58 (Or.inr ⟨_, rfl, rfl⟩) (by decide) (fun vq21 gq22 kq23 => ?_)
    have gq24 := kq23 0 _ (by decide) (fun e => absurd e (by decide)) gq15
    have gq25 := kq23 1 _ (by decide) (fun e => absurd e (by decide)) gq16
    have gq26 := kq23 2 _ (by decide) (fun _ => rfl) gq13
    refine cR_lift (fun _ _ kk => eE_aload_n lk130_59 gq24 kk) ?_
    refine cR_getO (cl' := 6) (i' := l0) lk130_60 rf_13_12 rfl rfl (cob_any rfl bl0) ?_
    refine cR_lift (fun _ _ kk => eE_aload_n lk130_63 gq24 kk) ?_
    refine cR_getO (cl' := 9) (i' := l0) lk130_64 rf_13_72 rfl rfl (cob_any rfl bl0) ?_
    refine cR_getI lk130_67 rf_13_94 rfl (cob_s (cl := 9) (cob_any rfl bl0) (by decide) rfl rfl) ?_
    refine cR_lift (fun _ _ kk => eE_iload_n lk130_70 gq25 kk) ?_
    refine cR_lift (fun _ _ kk => eE_iload_n lk130_71 gq26 kk) ?_
    refine cR_lift (fun _ _ kk => eE_aload_n lk130_72 gq24 kk) ?_
    refine cR_getO (cl' := 10) (i' := l0) lk130_73 rf_13_81 rfl rfl (cob_any rfl bl0) ?_
    refine cR_getA lk130_76 rf_13_620 (by decide) (cob_s (cl := 10) (cob_any rfl bl0) (by decide) rfl rfl) ?_
    refine cR_lift (fun _ _ kk => eE_iload_n lk130_79 gq22 kk) ?_
    obtain ⟨p27, h28, h⟩ := Option.bind_eq_some_iff.mp h
    refine cR_virtG (by exact cQx_sub rfl) (cl := 6) (i := l0) (as := [.int (cI p17.2 9 l0 10 0), .int p2, .int p9, .ref (car E g_20 10 l0 14), .int p17.1]) lk130_80 mr_13_532 na_53 rfl rfl (by first | exact Nat.le_of_ble_eq_true rfl | (simp [xcat, cvo_cat, cat_i, cat_j, cat_r]; done)) wv_53 wc_53 (cob_s (cl := 6) (cob_any rfl bl0) (by decide) rfl rfl) (k_Disk_writeSnapshot_10_14_ok hp0 hL hF (d := d + 7) (cob_s (cl := 6) (cob_any rfl bl0) (by decide) rfl rfl) (cob_s (cl := 10) (cob_any rfl bl0) (by decide) rfl rfl) h28) (fun m29 g_30 g_30e => ?_)
    refine cR_lift (fun _ _ kk => eE_aload_n lk130_83 gq24 kk) ?_
    refine cR_getO (cl' := 9) (i' := l0) lk130_84 rf_13_72 rfl rfl (cob_any rfl bl0) ?_
    refine cR_lift (fun _ _ kk => eE_aload_n lk130_87 gq24 kk) ?_
    refine cR_getO (cl' := 9) (i' := l0) lk130_88 rf_13_72 rfl rfl (cob_any rfl bl0) ?_
    refine cR_getI lk130_91 rf_13_94 rfl (cob_s (cl := 9) (cob_any rfl bl0) (by decide) rfl rfl) ?_
    refine cR_lift (fun _ _ kk => eE_iload_n lk130_94 gq25 kk) ?_
    refine cR_lift (fun _ _ kk => eE_iload_n lk130_95 gq26 kk) ?_
    obtain ⟨p31, h32, h⟩ := Option.bind_eq_some_iff.mp h
    refine cR_virt (cl := 9) (i := l0) (as := [.int (cI p27 9 l0 10 0), .int p2, .int p9]) lk130_96 mr_13_272 na_72 rfl rfl (by first | exact Nat.le_of_ble_eq_true rfl | (simp [xcat, cvo_cat, cat_i, cat_j, cat_r]; done)) wv_72 wc_72 (cob_s (cl := 9) (cob_any rfl bl0) (by decide) rfl rfl) (k_Log_moveBase_ok hp0 hL hF (d := d + 6) (cob_s (cl := 9) (cob_any rfl bl0) (by decide) rfl rfl) h32) (fun m33  => ?_)
    refine cR_lift (fun _ _ kk => eE_aload_n lk130_99 gq24 kk) ?_
    refine cR_getO (cl' := 6) (i' := l0) lk130_100 rf_13_12 rfl rfl (cob_any rfl bl0) ?_
    refine cR_lift (fun _ _ kk => eE_aload_n lk130_103 gq24 kk) ?_
    refine cR_getO (cl' := 9) (i' := l0) lk130_104 rf_13_72 rfl rfl (cob_any rfl bl0) ?_
    refine cR_getI lk130_107 rf_13_100 rfl (cob_s (cl := 9) (cob_any rfl bl0) (by decide) rfl rfl) ?_
    refine cR_lift (fun _ _ kk => eE_aload_n lk130_110 gq24 kk) ?_
    refine cR_getO (cl' := 9) (i' := l0) lk130_111 rf_13_72 rfl rfl (cob_any rfl bl0) ?_
    refine cR_getI lk130_114 rf_13_103 rfl (cob_s (cl := 9) (cob_any rfl bl0) (by decide) rfl rfl) ?_
    obtain ⟨p34, h35, h⟩ := Option.bind_eq_some_iff.mp h
    refine cR_virt (cl := 6) (i := l0) (as := [.int (cI p31 9 l0 3 0), .int (cI p31 9 l0 6 0)]) lk130_117 mr_13_536 na_33 rfl rfl (by first | exact Nat.le_of_ble_eq_true rfl | (simp [xcat, cvo_cat, cat_i, cat_j, cat_r]; done)) wv_33 wc_33 (cob_s (cl := 6) (cob_any rfl bl0) (by decide) rfl rfl) (k_Disk_baseMoved_ok hp0 hL hF (d := d + 6) (cob_s (cl := 6) (cob_any rfl bl0) (by decide) rfl rfl) h35) (fun m36  => ?_)
    refine cR_lift (fun _ _ kk => eE_aload_n lk130_120 gq24 kk) ?_
    obtain ⟨p37, h38, h⟩ := Option.bind_eq_some_iff.mp h
    refine cR_virt (cl := 13) (i := l0) (as := []) lk130_121 mr_13_323 na_165 rfl rfl (by first | exact Nat.le_of_ble_eq_true rfl | (simp [xcat, cvo_cat, cat_i, cat_j, cat_r]; done)) wv_165 wc_165 (cob_any rfl bl0) (k_Server_soil_ok hp0 hL hF (d := d + 7) (cob_any rfl bl0) h38) (fun m39  => ?_)
    refine cR_lift (fun _ _ kk => eE_aload_n lk130_124 gq24 kk) ?_
    refine cR_getO (cl' := 7) (i' := l0) lk130_125 rf_13_21 rfl rfl (cob_any rfl bl0) ?_
    refine cR_getA lk130_128 rf_13_386 (by decide) (cob_s (cl := 7) (cob_any rfl bl0) (by decide) rfl rfl) ?_
    refine cR_lift (fun _ _ kk => eE_iconst (v := 0) lk130_131 (by decide) kk) ?_
    obtain ⟨σ40, h41, h⟩ := Option.bind_eq_some_iff.mp h
    refine cR_stat (as := [.ref (caa E 7 l0 3), .int ((0 : Int32))]) lk130_132 mr_13_623 na_393 rfl rfl (by first | exact Nat.le_of_ble_eq_true rfl | (simp [xcat, cvo_cat, cat_i, cat_j, cat_r]; done)) mm_393 ws_393 ((hF (d + 0)).1 E g_30 _ _ 7 l0 3 ((0 : Int32)) (by decide) rfl (cob_s (cl := 7) (cob_any rfl bl0) (by decide) rfl rfl) h41) (fun _ => ?_)
    cases h
    exact cR_end lk130_135 rfl rfl rfl
  · rw [if_neg c1] at h
    cases h
    exact cR_end lk130_20 rfl rfl rfl
def k_Server_compact (F : Nat) (σ : CS) (l0 : Nat) : Option (CS) := k_Server_compact_b0 F σ l0
theorem k_Server_compact_ok {E : CE} {pF : Nat → List Value → xH → Option (Option Value × xH)} (hp0 : xNPc pF) (hL : lcAll E pF) (hF : lcF pF) {d : Nat} {g : CG} {σ : CS} {F : Nat} {l0 : Nat} {res : CS} (bl0 : cob σ 13 l0) (h : k_Server_compact F σ l0 = some res) : cCo E (cQx [10, 11]) pF (d + 10) 130 [.ref (coa E 13 l0)] none res g σ :=
  cCo_R kk_130 mo_130 ni_130 xm_130 (Nat.le_of_ble_eq_true rfl) (hp0 130 (by decide) _) (k_Server_compact_b0_ok hp0 hL hF g _ σ l0 bl0 rfl _ h)
/-! k_Lead_isReached_7_1 (56), depth 2 -/
def k_Lead_isReached_7_1_b32 (F : Nat) (K5 : CS → Nat → Int32 → Int32 → Int32 → Int32 → Option (Int32)) (σ : CS) (l0 : Nat) (l1 : Int32) (l2 : Int32) (l3 : Int32) (l4 : Int32) : Option (Int32) :=
  K5 σ l0 l1 l2 l3 (l4 + (1 : Int32))
set_option maxRecDepth 4000 in
theorem k_Lead_isReached_7_1_b32_ok {E : CE} {pF : Nat → List Value → xH → Option (Option Value × xH)} (hp0 : xNPc pF) (hL : lcAll E pF) (hF : lcF pF) {d : Nat} {F : Nat} {K5 : CS → Nat → Int32 → Int32 → Int32 → Int32 → Option (Int32)} (hK5 : ∀ (g : CG) (lv : xL) (σ : CS) (l0 : Nat) (l1 : Int32) (l2 : Int32) (l3 : Int32) (l4 : Int32), (cob σ 7 l0) → (xg lv 0 = some (.ref (caa E 7 l0 1))) → (xg lv 1 = some (.int l1)) → (xg lv 2 = some (.int l2)) → (xg lv 3 = some (.int l3)) → (xg lv 4 = some (.int l4)) → ∀ res, K5 σ l0 l1 l2 l3 l4 = some res → cR E cQ1 pF (d + 1) kT56 7 5 (some FieldType.boolean) (some (.int res)) σ g σ (5, lv, [])) : ∀ (g : CG) (lv : xL) (σ : CS) (l0 : Nat) (l1 : Int32) (l2 : Int32) (l3 : Int32) (l4 : Int32), (cob σ 7 l0) → (xg lv 0 = some (.ref (caa E 7 l0 1))) → (xg lv 1 = some (.int l1)) → (xg lv 2 = some (.int l2)) → (xg lv 3 = some (.int l3)) → (xg lv 4 = some (.int l4)) → ∀ res, k_Lead_isReached_7_1_b32 F K5 σ l0 l1 l2 l3 l4 = some res → cR E cQ1 pF (d + 1) kT56 7 5 (some FieldType.boolean) (some (.int res)) σ g σ (32, lv, []) := by
  intro g lv σ l0 l1 l2 l3 l4 bl0 g0 g1 g2 g3 g4 res h
  unfold k_Lead_isReached_7_1_b32 at h
  refine cR_inc (j := 4) (v := l4 + (1 : Int32)) lk56_32 g4 rfl (by decide) (fun vq1 gq2 kq3 => ?_)
  have gq4 := kq3 0 _ (by decide) (fun e => absurd e (by decide)) g0
  have gq5 := kq3 1 _ (by decide) (fun e => absurd e (by decide)) g1
  have gq6 := kq3 2 _ (by decide) (fun e => absurd e (by decide)) g2
  have gq7 := kq3 3 _ (by decide) (fun _ => rfl) g3
  refine cR_lift (fun _ _ kk => eE_goto (t := 5) lk56_35 (by decide) kk) ?_
  exact hK5 g vq1 σ l0 l1 l2 l3 (l4 + (1 : Int32)) bl0 gq4 gq5 gq6 gq7 gq2 _ h
def k_Lead_isReached_7_1_b53 (F : Nat)  (σ : CS) (s0 : Int32) : Option (Int32) :=
  if s0 = 0 ∨ s0 = 1 then some s0 else none
set_option maxRecDepth 4000 in
theorem k_Lead_isReached_7_1_b53_ok {E : CE} {pF : Nat → List Value → xH → Option (Option Value × xH)} (hp0 : xNPc pF) (hL : lcAll E pF) (hF : lcF pF) {d : Nat} {F : Nat}   : ∀ (g : CG) (lv : xL) (σ : CS) (s0 : Int32), ∀ res, k_Lead_isReached_7_1_b53 F  σ s0 = some res → cR E cQ1 pF (d + 1) kT56 7 5 (some FieldType.boolean) (some (.int res)) σ g σ (53, lv, [.int s0]) := by
  intro g lv σ s0 res h
  unfold k_Lead_isReached_7_1_b53 at h
  by_cases z8 : s0 = 0 ∨ s0 = 1
  · rw [if_pos z8] at h; cases h
    exact cR_end lk56_53 rfl rfl (by first | (simp only [xfin, if_true, if_pos z8]; done) | simp [xfin, z8])
  · rw [if_neg z8] at h; cases h
def k_Lead_isReached_7_1_b5 (F : Nat)  : Nat → CS → Nat → Int32 → Int32 → Int32 → Int32 → Option (Int32)
  | 0, _, _, _, _, _, _ => none
  | n + 1, σ, l0, l1, l2, l3, l4 =>
    let KK := k_Lead_isReached_7_1_b5 F  n
    if xc2 .ge l4 ((7 : Int32)) = true then (
      (k_Integer_bitCount σ l1).bind fun p10 =>
      if xc2 .le (((2 : Int32)) * l3) p10 = true then (
        k_Lead_isReached_7_1_b53 F  σ ((0 : Int32))
      ) else (
        k_Lead_isReached_7_1_b53 F  σ ((1 : Int32))
      )
    ) else (
      if xc0 .eq ((l1 >>> (l4 &&& 31)) &&& ((1 : Int32))) = true then (
        k_Lead_isReached_7_1_b32 F KK σ l0 l1 l2 l3 l4
      ) else (
        (crd σ 7 l0 1 l4).bind fun x15 =>
        if xc2 .lt x15 l2 = true then (
          k_Lead_isReached_7_1_b32 F KK σ l0 l1 l2 l3 l4
        ) else (
          k_Lead_isReached_7_1_b32 F KK σ l0 l1 l2 (l3 + (1 : Int32)) l4
        )
      )
    )
set_option maxRecDepth 4000 in
theorem k_Lead_isReached_7_1_b5_ok {E : CE} {pF : Nat → List Value → xH → Option (Option Value × xH)} (hp0 : xNPc pF) (hL : lcAll E pF) (hF : lcF pF) {d : Nat} {F : Nat}   : ∀ (n : Nat) (g : CG) (lv : xL) (σ : CS) (l0 : Nat) (l1 : Int32) (l2 : Int32) (l3 : Int32) (l4 : Int32), (cob σ 7 l0) → (xg lv 0 = some (.ref (caa E 7 l0 1))) → (xg lv 1 = some (.int l1)) → (xg lv 2 = some (.int l2)) → (xg lv 3 = some (.int l3)) → (xg lv 4 = some (.int l4)) → ∀ res, k_Lead_isReached_7_1_b5 F  n σ l0 l1 l2 l3 l4 = some res → cR E cQ1 pF (d + 1) kT56 7 5 (some FieldType.boolean) (some (.int res)) σ g σ (5, lv, []) := by
  intro n
  induction n with
  | zero => intro g lv σ l0 l1 l2 l3 l4 bl0 g0 g1 g2 g3 g4 res h; simp [k_Lead_isReached_7_1_b5] at h
  | succ n hKK =>
    intro g lv σ l0 l1 l2 l3 l4 bl0 g0 g1 g2 g3 g4 res h
    unfold k_Lead_isReached_7_1_b5 at h
    dsimp only at h
    refine cR_lift (fun _ _ kk => eE_iload lk56_5 g4 kk) ?_
    refine cR_lift (fun _ _ kk => eE_bipush (v := 7) lk56_7 (by decide) kk) ?_
    refine cR_icmp (t := 38) lk56_9 (by decide) (fun c9 => ?_) (fun c9 => ?_)
    · rw [if_pos c9] at h
      refine cR_lift (fun _ _ kk => eE_iconst (v := 2) lk56_38 (by decide) kk) ?_
      refine cR_lift (fun _ _ kk => eE_iload_n lk56_39 g3 kk) ?_
      refine cR_lift (fun _ _ kk => eE_imul lk56_40 kk) ?_
      refine cR_lift (fun _ _ kk => eE_iload_n lk56_41 g1 kk) ?_
      obtain ⟨p10, h11, h⟩ := Option.bind_eq_some_iff.mp h
      refine cR_stat (as := [.int l1]) lk56_42 mr_7_68 na_398 rfl rfl (by first | exact Nat.le_of_ble_eq_true rfl | (simp [xcat, cvo_cat, cat_i, cat_j, cat_r]; done)) mm_398 ws_398 (k_Integer_bitCount_ok hp0 hL hF (d := d + 0)  h11) (fun m12 => ?_)
      refine cR_icmp (t := 52) lk56_45 (by decide) (fun c13 => ?_) (fun c13 => ?_)
      · rw [if_pos c13] at h
        refine cR_lift (fun _ _ kk => eE_iconst (v := 0) lk56_52 (by decide) kk) ?_
        exact k_Lead_isReached_7_1_b53_ok hp0 hL hF  g lv σ ((0 : Int32))  _ h
      · rw [if_neg c13] at h
        refine cR_lift (fun _ _ kk => eE_iconst (v := 1) lk56_48 (by decide) kk) ?_
        refine cR_lift (fun _ _ kk => eE_goto (t := 53) lk56_49 (by decide) kk) ?_
        exact k_Lead_isReached_7_1_b53_ok hp0 hL hF  g lv σ ((1 : Int32))  _ h
    · rw [if_neg c9] at h
      refine cR_lift (fun _ _ kk => eE_iload_n lk56_12 g1 kk) ?_
      refine cR_lift (fun _ _ kk => eE_iload lk56_13 g4 kk) ?_
      refine cR_lift (fun _ _ kk => eE_ishr lk56_15 kk) ?_
      refine cR_lift (fun _ _ kk => eE_iconst (v := 1) lk56_16 (by decide) kk) ?_
      refine cR_lift (fun _ _ kk => eE_iand lk56_17 kk) ?_
      refine cR_if (t := 32) lk56_18 (by decide) (fun c14 => ?_) (fun c14 => ?_)
      · rw [if_pos c14] at h
        exact k_Lead_isReached_7_1_b32_ok hp0 hL hF hKK g lv σ l0 l1 l2 l3 l4 bl0 g0 g1 g2 g3 g4 _ h
      · rw [if_neg c14] at h
        refine cR_lift (fun _ _ kk => eE_aload_n lk56_21 g0 kk) ?_
        refine cR_lift (fun _ _ kk => eE_iload lk56_22 g4 kk) ?_
        obtain ⟨x15, h16, h⟩ := Option.bind_eq_some_iff.mp h
        refine cR_iald (cl := 7) (i := l0) (f := 1) lk56_24 (by decide) rfl bl0 h16 ?_
        refine cR_lift (fun _ _ kk => eE_iload_n lk56_25 g2 kk) ?_
        refine cR_icmp (t := 32) lk56_26 (by decide) (fun c17 => ?_) (fun c17 => ?_)
        · rw [if_pos c17] at h
          exact k_Lead_isReached_7_1_b32_ok hp0 hL hF hKK g lv σ l0 l1 l2 l3 l4 bl0 g0 g1 g2 g3 g4 _ h
        · rw [if_neg c17] at h
          refine cR_inc (j := 3) (v := l3 + (1 : Int32)) lk56_29 g3 rfl (by decide) (fun vq18 gq19 kq20 => ?_)
          have gq21 := kq20 0 _ (by decide) (fun e => absurd e (by decide)) g0
          have gq22 := kq20 1 _ (by decide) (fun e => absurd e (by decide)) g1
          have gq23 := kq20 2 _ (by decide) (fun _ => rfl) g2
          have gq24 := kq20 4 _ (by decide) (fun e => absurd e (by decide)) g4
          exact k_Lead_isReached_7_1_b32_ok hp0 hL hF hKK g vq18 σ l0 l1 l2 (l3 + (1 : Int32)) l4 bl0 gq21 gq22 gq23 gq19 gq24 _ h
def k_Lead_isReached_7_1_b0 (F : Nat)  (σ : CS) (l0 : Nat) (l1 : Int32) (l2 : Int32) : Option (Int32) :=
  k_Lead_isReached_7_1_b5 F  F σ l0 l1 l2 ((0 : Int32)) ((0 : Int32))
set_option maxRecDepth 4000 in
theorem k_Lead_isReached_7_1_b0_ok {E : CE} {pF : Nat → List Value → xH → Option (Option Value × xH)} (hp0 : xNPc pF) (hL : lcAll E pF) (hF : lcF pF) {d : Nat} {F : Nat}   : ∀ (g : CG) (lv : xL) (σ : CS) (l0 : Nat) (l1 : Int32) (l2 : Int32), (cob σ 7 l0) → (xg lv 0 = some (.ref (caa E 7 l0 1))) → (xg lv 1 = some (.int l1)) → (xg lv 2 = some (.int l2)) → ∀ res, k_Lead_isReached_7_1_b0 F  σ l0 l1 l2 = some res → cR E cQ1 pF (d + 1) kT56 7 5 (some FieldType.boolean) (some (.int res)) σ g σ (0, lv, []) := by
  intro g lv σ l0 l1 l2 bl0 g0 g1 g2 res h
  unfold k_Lead_isReached_7_1_b0 at h
  refine cR_lift (fun _ _ kk => eE_iconst (v := 0) lk56_0 (by decide) kk) ?_
  refine cR_stI (j := 3) lk56_1 (Or.inr ⟨_, rfl, rfl⟩) (by decide) (fun vq25 gq26 kq27 => ?_)
  have gq28 := kq27 0 _ (by decide) (fun e => absurd e (by decide)) g0
  have gq29 := kq27 1 _ (by decide) (fun e => absurd e (by decide)) g1
  have gq30 := kq27 2 _ (by decide) (fun _ => rfl) g2
  refine cR_lift (fun _ _ kk => eE_iconst (v := 0) lk56_2 (by decide) kk) ?_
  refine cR_stI (j := 4) lk56_3 (Or.inl rfl) (by decide) (fun vq31 gq32 kq33 => ?_)
  have gq34 := kq33 0 _ (by decide) (fun e => absurd e (by decide)) gq28
  have gq35 := kq33 1 _ (by decide) (fun e => absurd e (by decide)) gq29
  have gq36 := kq33 2 _ (by decide) (fun e => absurd e (by decide)) gq30
  have gq37 := kq33 3 _ (by decide) (fun _ => rfl) gq26
  exact k_Lead_isReached_7_1_b5_ok hp0 hL hF  F g vq31 σ l0 l1 l2 ((0 : Int32)) ((0 : Int32)) bl0 gq34 gq35 gq36 gq37 gq32 _ h
def k_Lead_isReached_7_1 (F : Nat) (σ : CS) (l0 : Nat) (l1 : Int32) (l2 : Int32) : Option (Int32) := k_Lead_isReached_7_1_b0 F σ l0 l1 l2
theorem k_Lead_isReached_7_1_ok {E : CE} {pF : Nat → List Value → xH → Option (Option Value × xH)} (hp0 : xNPc pF) (hL : lcAll E pF) (hF : lcF pF) {d : Nat} {g : CG} {σ : CS} {F : Nat} {l0 : Nat} {l1 : Int32} {l2 : Int32} {res : Int32} (bl0 : cob σ 7 l0) (h : k_Lead_isReached_7_1 F σ l0 l1 l2 = some res) : cCo E cQ1 pF (d + 2) 56 [.ref (caa E 7 l0 1), .int l1, .int l2] (some (.int res)) σ g σ :=
  cCo_R kk_56 mo_56 ni_56 xm_56 (Nat.le_of_ble_eq_true rfl) (hp0 56 (by decide) _) (k_Lead_isReached_7_1_b0_ok hp0 hL hF g _ σ l0 l1 l2 bl0 rfl rfl rfl _ h)
/-! k_Lead_mostOf_7_1 (58), depth 3 -/
def k_Lead_mostOf_7_1_b41 (F : Nat) (K5 : CS → Nat → Int32 → Int32 → Int32 → Option (Int32)) (σ : CS) (l0 : Nat) (l1 : Int32) (l2 : Int32) (l3 : Int32) : Option (Int32) :=
  K5 σ l0 l1 l2 (l3 + (1 : Int32))
set_option maxRecDepth 4000 in
theorem k_Lead_mostOf_7_1_b41_ok {E : CE} {pF : Nat → List Value → xH → Option (Option Value × xH)} (hp0 : xNPc pF) (hL : lcAll E pF) (hF : lcF pF) {d : Nat} {F : Nat} {K5 : CS → Nat → Int32 → Int32 → Int32 → Option (Int32)} (hK5 : ∀ (g : CG) (lv : xL) (σ : CS) (l0 : Nat) (l1 : Int32) (l2 : Int32) (l3 : Int32), (cob σ 7 l0) → (xg lv 0 = some (.ref (caa E 7 l0 1))) → (xg lv 1 = some (.int l1)) → (xg lv 2 = some (.int l2)) → (xg lv 3 = some (.int l3)) → ∀ res, K5 σ l0 l1 l2 l3 = some res → cR E cQ1 pF (d + 2) kT58 7 4 (some FieldType.int) (some (.int res)) σ g σ (5, lv, [])) : ∀ (g : CG) (lv : xL) (σ : CS) (l0 : Nat) (l1 : Int32) (l2 : Int32) (l3 : Int32), (cob σ 7 l0) → (xg lv 0 = some (.ref (caa E 7 l0 1))) → (xg lv 1 = some (.int l1)) → (xg lv 2 = some (.int l2)) → (xg lv 3 = some (.int l3)) → ∀ res, k_Lead_mostOf_7_1_b41 F K5 σ l0 l1 l2 l3 = some res → cR E cQ1 pF (d + 2) kT58 7 4 (some FieldType.int) (some (.int res)) σ g σ (41, lv, []) := by
  intro g lv σ l0 l1 l2 l3 bl0 g0 g1 g2 g3 res h
  unfold k_Lead_mostOf_7_1_b41 at h
  refine cR_inc (j := 3) (v := l3 + (1 : Int32)) lk58_41 g3 rfl (by decide) (fun vq1 gq2 kq3 => ?_)
  have gq4 := kq3 0 _ (by decide) (fun e => absurd e (by decide)) g0
  have gq5 := kq3 1 _ (by decide) (fun e => absurd e (by decide)) g1
  have gq6 := kq3 2 _ (by decide) (fun _ => rfl) g2
  refine cR_lift (fun _ _ kk => eE_goto (t := 5) lk58_44 (by decide) kk) ?_
  exact hK5 g vq1 σ l0 l1 l2 (l3 + (1 : Int32)) bl0 gq4 gq5 gq6 gq2 _ h
def k_Lead_mostOf_7_1_b5 (F : Nat)  : Nat → CS → Nat → Int32 → Int32 → Int32 → Option (Int32)
  | 0, _, _, _, _, _ => none
  | n + 1, σ, l0, l1, l2, l3 =>
    let KK := k_Lead_mostOf_7_1_b5 F  n
    if xc2 .ge l3 ((7 : Int32)) = true then (
      some l2
    ) else (
      if xc0 .eq ((l1 >>> (l3 &&& 31)) &&& ((1 : Int32))) = true then (
        k_Lead_mostOf_7_1_b41 F KK σ l0 l1 l2 l3
      ) else (
        (crd σ 7 l0 1 l3).bind fun x9 =>
        if xc2 .le x9 l2 = true then (
          k_Lead_mostOf_7_1_b41 F KK σ l0 l1 l2 l3
        ) else (
          (crd σ 7 l0 1 l3).bind fun x12 =>
          (k_Lead_isReached_7_1 F σ l0 l1 x12).bind fun p14 =>
          if xc0 .eq p14 = true then (
            k_Lead_mostOf_7_1_b41 F KK σ l0 l1 l2 l3
          ) else (
            (crd σ 7 l0 1 l3).bind fun x18 =>
            k_Lead_mostOf_7_1_b41 F KK σ l0 l1 x18 l3
          )
        )
      )
    )
set_option maxRecDepth 4000 in
theorem k_Lead_mostOf_7_1_b5_ok {E : CE} {pF : Nat → List Value → xH → Option (Option Value × xH)} (hp0 : xNPc pF) (hL : lcAll E pF) (hF : lcF pF) {d : Nat} {F : Nat}   : ∀ (n : Nat) (g : CG) (lv : xL) (σ : CS) (l0 : Nat) (l1 : Int32) (l2 : Int32) (l3 : Int32), (cob σ 7 l0) → (xg lv 0 = some (.ref (caa E 7 l0 1))) → (xg lv 1 = some (.int l1)) → (xg lv 2 = some (.int l2)) → (xg lv 3 = some (.int l3)) → ∀ res, k_Lead_mostOf_7_1_b5 F  n σ l0 l1 l2 l3 = some res → cR E cQ1 pF (d + 2) kT58 7 4 (some FieldType.int) (some (.int res)) σ g σ (5, lv, []) := by
  intro n
  induction n with
  | zero => intro g lv σ l0 l1 l2 l3 bl0 g0 g1 g2 g3 res h; simp [k_Lead_mostOf_7_1_b5] at h
  | succ n hKK =>
    intro g lv σ l0 l1 l2 l3 bl0 g0 g1 g2 g3 res h
    unfold k_Lead_mostOf_7_1_b5 at h
    dsimp only at h
    refine cR_lift (fun _ _ kk => eE_iload_n lk58_5 g3 kk) ?_
    refine cR_lift (fun _ _ kk => eE_bipush (v := 7) lk58_6 (by decide) kk) ?_
    refine cR_icmp (t := 47) lk58_8 (by decide) (fun c7 => ?_) (fun c7 => ?_)
    · rw [if_pos c7] at h
      refine cR_lift (fun _ _ kk => eE_iload_n lk58_47 g2 kk) ?_
      cases h
      exact cR_end lk58_48 rfl rfl rfl
    · rw [if_neg c7] at h
      refine cR_lift (fun _ _ kk => eE_iload_n lk58_11 g1 kk) ?_
      refine cR_lift (fun _ _ kk => eE_iload_n lk58_12 g3 kk) ?_
      refine cR_lift (fun _ _ kk => eE_ishr lk58_13 kk) ?_
      refine cR_lift (fun _ _ kk => eE_iconst (v := 1) lk58_14 (by decide) kk) ?_
      refine cR_lift (fun _ _ kk => eE_iand lk58_15 kk) ?_
      refine cR_if (t := 41) lk58_16 (by decide) (fun c8 => ?_) (fun c8 => ?_)
      · rw [if_pos c8] at h
        exact k_Lead_mostOf_7_1_b41_ok hp0 hL hF hKK g lv σ l0 l1 l2 l3 bl0 g0 g1 g2 g3 _ h
      · rw [if_neg c8] at h
        refine cR_lift (fun _ _ kk => eE_aload_n lk58_19 g0 kk) ?_
        refine cR_lift (fun _ _ kk => eE_iload_n lk58_20 g3 kk) ?_
        obtain ⟨x9, h10, h⟩ := Option.bind_eq_some_iff.mp h
        refine cR_iald (cl := 7) (i := l0) (f := 1) lk58_21 (by decide) rfl bl0 h10 ?_
        refine cR_lift (fun _ _ kk => eE_iload_n lk58_22 g2 kk) ?_
        refine cR_icmp (t := 41) lk58_23 (by decide) (fun c11 => ?_) (fun c11 => ?_)
        · rw [if_pos c11] at h
          exact k_Lead_mostOf_7_1_b41_ok hp0 hL hF hKK g lv σ l0 l1 l2 l3 bl0 g0 g1 g2 g3 _ h
        · rw [if_neg c11] at h
          refine cR_lift (fun _ _ kk => eE_aload_n lk58_26 g0 kk) ?_
          refine cR_lift (fun _ _ kk => eE_iload_n lk58_27 g1 kk) ?_
          refine cR_lift (fun _ _ kk => eE_aload_n lk58_28 g0 kk) ?_
          refine cR_lift (fun _ _ kk => eE_iload_n lk58_29 g3 kk) ?_
          obtain ⟨x12, h13, h⟩ := Option.bind_eq_some_iff.mp h
          refine cR_iald (cl := 7) (i := l0) (f := 1) lk58_30 (by decide) rfl bl0 h13 ?_
          obtain ⟨p14, h15, h⟩ := Option.bind_eq_some_iff.mp h
          refine cR_stat (as := [.ref (caa E 7 l0 1), .int l1, .int x12]) lk58_31 mr_7_64 na_56 rfl rfl (by first | exact Nat.le_of_ble_eq_true rfl | (simp [xcat, cvo_cat, cat_i, cat_j, cat_r]; done)) mm_56 ws_56 (k_Lead_isReached_7_1_ok hp0 hL hF (d := d + 0) bl0 h15) (fun m16 => ?_)
          refine cR_if (t := 41) lk58_34 (by decide) (fun c17 => ?_) (fun c17 => ?_)
          · rw [if_pos c17] at h
            exact k_Lead_mostOf_7_1_b41_ok hp0 hL hF hKK g lv σ l0 l1 l2 l3 bl0 g0 g1 g2 g3 _ h
          · rw [if_neg c17] at h
            refine cR_lift (fun _ _ kk => eE_aload_n lk58_37 g0 kk) ?_
            refine cR_lift (fun _ _ kk => eE_iload_n lk58_38 g3 kk) ?_
            obtain ⟨x18, h19, h⟩ := Option.bind_eq_some_iff.mp h
            refine cR_iald (cl := 7) (i := l0) (f := 1) lk58_39 (by decide) rfl bl0 h19 ?_
            refine cR_stI (j := 2) lk58_40 (Or.inr ⟨_, rfl, rfl⟩) (by decide) (fun vq20 gq21 kq22 => ?_)
            have gq23 := kq22 0 _ (by decide) (fun e => absurd e (by decide)) g0
            have gq24 := kq22 1 _ (by decide) (fun _ => rfl) g1
            have gq25 := kq22 3 _ (by decide) (fun e => absurd e (by decide)) g3
            exact k_Lead_mostOf_7_1_b41_ok hp0 hL hF hKK g vq20 σ l0 l1 x18 l3 bl0 gq23 gq24 gq21 gq25 _ h
def k_Lead_mostOf_7_1_b0 (F : Nat)  (σ : CS) (l0 : Nat) (l1 : Int32) : Option (Int32) :=
  k_Lead_mostOf_7_1_b5 F  F σ l0 l1 ((-2147483648 : Int32)) ((0 : Int32))
set_option maxRecDepth 4000 in
theorem k_Lead_mostOf_7_1_b0_ok {E : CE} {pF : Nat → List Value → xH → Option (Option Value × xH)} (hp0 : xNPc pF) (hL : lcAll E pF) (hF : lcF pF) {d : Nat} {F : Nat}   : ∀ (g : CG) (lv : xL) (σ : CS) (l0 : Nat) (l1 : Int32), (cob σ 7 l0) → (xg lv 0 = some (.ref (caa E 7 l0 1))) → (xg lv 1 = some (.int l1)) → ∀ res, k_Lead_mostOf_7_1_b0 F  σ l0 l1 = some res → cR E cQ1 pF (d + 2) kT58 7 4 (some FieldType.int) (some (.int res)) σ g σ (0, lv, []) := by
  intro g lv σ l0 l1 bl0 g0 g1 res h
  unfold k_Lead_mostOf_7_1_b0 at h
  refine cR_lift (fun _ _ kk => eE_ldc (v := (-2147483648)) lk58_0 xc_7_63 kk) ?_
  refine cR_stI (j := 2) lk58_2 (Or.inr ⟨_, rfl, rfl⟩) (by decide) (fun vq26 gq27 kq28 => ?_)
  have gq29 := kq28 0 _ (by decide) (fun e => absurd e (by decide)) g0
  have gq30 := kq28 1 _ (by decide) (fun _ => rfl) g1
  refine cR_lift (fun _ _ kk => eE_iconst (v := 0) lk58_3 (by decide) kk) ?_
  refine cR_stI (j := 3) lk58_4 (Or.inr ⟨_, rfl, rfl⟩) (by decide) (fun vq31 gq32 kq33 => ?_)
  have gq34 := kq33 0 _ (by decide) (fun e => absurd e (by decide)) gq29
  have gq35 := kq33 1 _ (by decide) (fun e => absurd e (by decide)) gq30
  have gq36 := kq33 2 _ (by decide) (fun _ => rfl) gq27
  exact k_Lead_mostOf_7_1_b5_ok hp0 hL hF  F g vq31 σ l0 l1 ((-2147483648 : Int32)) ((0 : Int32)) bl0 gq34 gq35 gq36 gq32 _ h
def k_Lead_mostOf_7_1 (F : Nat) (σ : CS) (l0 : Nat) (l1 : Int32) : Option (Int32) := k_Lead_mostOf_7_1_b0 F σ l0 l1
theorem k_Lead_mostOf_7_1_ok {E : CE} {pF : Nat → List Value → xH → Option (Option Value × xH)} (hp0 : xNPc pF) (hL : lcAll E pF) (hF : lcF pF) {d : Nat} {g : CG} {σ : CS} {F : Nat} {l0 : Nat} {l1 : Int32} {res : Int32} (bl0 : cob σ 7 l0) (h : k_Lead_mostOf_7_1 F σ l0 l1 = some res) : cCo E cQ1 pF (d + 3) 58 [.ref (caa E 7 l0 1), .int l1] (some (.int res)) σ g σ :=
  cCo_R kk_58 mo_58 ni_58 xm_58 (Nat.le_of_ble_eq_true rfl) (hp0 58 (by decide) _) (k_Lead_mostOf_7_1_b0_ok hp0 hL hF g _ σ l0 l1 bl0 rfl rfl _ h)
/-! k_Lead_most_7_1 (57), depth 4 -/
def k_Lead_most_7_1_b34 (F : Nat)  (σ : CS) (s0 : Int32) : Option (Int32) :=
  some s0
set_option maxRecDepth 4000 in
theorem k_Lead_most_7_1_b34_ok {E : CE} {pF : Nat → List Value → xH → Option (Option Value × xH)} (hp0 : xNPc pF) (hL : lcAll E pF) (hF : lcF pF) {d : Nat} {F : Nat}   : ∀ (g : CG) (lv : xL) (σ : CS) (s0 : Int32), ∀ res, k_Lead_most_7_1_b34 F  σ s0 = some res → cR E cQ1 pF (d + 3) kT57 7 4 (some FieldType.int) (some (.int res)) σ g σ (34, lv, [.int s0]) := by
  intro g lv σ s0 res h
  unfold k_Lead_most_7_1_b34 at h
  cases h
  exact cR_end lk57_34 rfl rfl rfl
def k_Lead_most_7_1_b0 (F : Nat)  (σ : CS) (l0 : Nat) (l1 : Int32) : Option (Int32) :=
  (k_Lead_mostOf_7_1 F σ l0 (l1 &&& ((127 : Int32)))).bind fun p1 =>
  if xc0 .ne ((l1 >>> (((7 : Int32)) &&& 31)) &&& ((127 : Int32))) = true then (
    (k_Lead_mostOf_7_1 F σ l0 ((l1 >>> (((7 : Int32)) &&& 31)) &&& ((127 : Int32)))).bind fun p15 =>
    k_Lead_most_7_1_b34 F  σ (cmin p1 p15)
  ) else (
    k_Lead_most_7_1_b34 F  σ p1
  )
set_option maxRecDepth 4000 in
theorem k_Lead_most_7_1_b0_ok {E : CE} {pF : Nat → List Value → xH → Option (Option Value × xH)} (hp0 : xNPc pF) (hL : lcAll E pF) (hF : lcF pF) {d : Nat} {F : Nat}   : ∀ (g : CG) (lv : xL) (σ : CS) (l0 : Nat) (l1 : Int32), (cob σ 7 l0) → (xg lv 0 = some (.ref (caa E 7 l0 1))) → (xg lv 1 = some (.int l1)) → ∀ res, k_Lead_most_7_1_b0 F  σ l0 l1 = some res → cR E cQ1 pF (d + 3) kT57 7 4 (some FieldType.int) (some (.int res)) σ g σ (0, lv, []) := by
  intro g lv σ l0 l1 bl0 g0 g1 res h
  unfold k_Lead_most_7_1_b0 at h
  refine cR_lift (fun _ _ kk => eE_aload_n lk57_0 g0 kk) ?_
  refine cR_lift (fun _ _ kk => eE_iload_n lk57_1 g1 kk) ?_
  refine cR_lift (fun _ _ kk => eE_bipush (v := 127) lk57_2 (by decide) kk) ?_
  refine cR_lift (fun _ _ kk => eE_iand lk57_4 kk) ?_
  obtain ⟨p1, h2, h⟩ := Option.bind_eq_some_iff.mp h
  refine cR_stat (as := [.ref (caa E 7 l0 1), .int (l1 &&& ((127 : Int32)))]) lk57_5 mr_7_53 na_58 rfl rfl (by first | exact Nat.le_of_ble_eq_true rfl | (simp [xcat, cvo_cat, cat_i, cat_j, cat_r]; done)) mm_58 ws_58 (k_Lead_mostOf_7_1_ok hp0 hL hF (d := d + 0) bl0 h2) (fun m3 => ?_)
  refine cR_stI (j := 2) lk57_8 (Or.inr ⟨_, rfl, rfl⟩) (by decide) (fun vq4 gq5 kq6 => ?_)
  have gq7 := kq6 0 _ (by decide) (fun e => absurd e (by decide)) g0
  have gq8 := kq6 1 _ (by decide) (fun _ => rfl) g1
  refine cR_lift (fun _ _ kk => eE_iload_n lk57_9 gq8 kk) ?_
  refine cR_lift (fun _ _ kk => eE_bipush (v := 7) lk57_10 (by decide) kk) ?_
  refine cR_lift (fun _ _ kk => eE_ishr lk57_12 kk) ?_
  refine cR_lift (fun _ _ kk => eE_bipush (v := 127) lk57_13 (by decide) kk) ?_
  refine cR_lift (fun _ _ kk => eE_iand lk57_15 kk) ?_
  refine cR_stI (j := 3) lk57_16 (Or.inr ⟨_, rfl, rfl⟩) (by decide) (fun vq9 gq10 kq11 => ?_)
  have gq12 := kq11 0 _ (by decide) (fun e => absurd e (by decide)) gq7
  have gq13 := kq11 2 _ (by decide) (fun _ => rfl) gq5
  refine cR_lift (fun _ _ kk => eE_iload_n lk57_17 gq10 kk) ?_
  refine cR_if (t := 25) lk57_18 (by decide) (fun c14 => ?_) (fun c14 => ?_)
  · rw [if_pos c14] at h
    refine cR_lift (fun _ _ kk => eE_iload_n lk57_25 gq13 kk) ?_
    refine cR_lift (fun _ _ kk => eE_aload_n lk57_26 gq12 kk) ?_
    refine cR_lift (fun _ _ kk => eE_iload_n lk57_27 gq10 kk) ?_
    obtain ⟨p15, h16, h⟩ := Option.bind_eq_some_iff.mp h
    refine cR_stat (as := [.ref (caa E 7 l0 1), .int ((l1 >>> (((7 : Int32)) &&& 31)) &&& ((127 : Int32)))]) lk57_28 mr_7_53 na_58 rfl rfl (by first | exact Nat.le_of_ble_eq_true rfl | (simp [xcat, cvo_cat, cat_i, cat_j, cat_r]; done)) mm_58 ws_58 (k_Lead_mostOf_7_1_ok hp0 hL hF (d := d + 0) bl0 h16) (fun m17 => ?_)
    refine cR_min lk57_31 mr_7_57 (by first | exact Nat.le_of_ble_eq_true rfl | (simp [xcat, cvo_cat, cat_i, cat_j, cat_r]; done)) ?_
    exact k_Lead_most_7_1_b34_ok hp0 hL hF  g vq9 σ (cmin p1 p15)  _ h
  · rw [if_neg c14] at h
    refine cR_lift (fun _ _ kk => eE_iload_n lk57_21 gq13 kk) ?_
    refine cR_lift (fun _ _ kk => eE_goto (t := 34) lk57_22 (by decide) kk) ?_
    exact k_Lead_most_7_1_b34_ok hp0 hL hF  g vq9 σ p1  _ h
def k_Lead_most_7_1 (F : Nat) (σ : CS) (l0 : Nat) (l1 : Int32) : Option (Int32) := k_Lead_most_7_1_b0 F σ l0 l1
theorem k_Lead_most_7_1_ok {E : CE} {pF : Nat → List Value → xH → Option (Option Value × xH)} (hp0 : xNPc pF) (hL : lcAll E pF) (hF : lcF pF) {d : Nat} {g : CG} {σ : CS} {F : Nat} {l0 : Nat} {l1 : Int32} {res : Int32} (bl0 : cob σ 7 l0) (h : k_Lead_most_7_1 F σ l0 l1 = some res) : cCo E cQ1 pF (d + 4) 57 [.ref (caa E 7 l0 1), .int l1] (some (.int res)) σ g σ :=
  cCo_R kk_57 mo_57 ni_57 xm_57 (Nat.le_of_ble_eq_true rfl) (hp0 57 (by decide) _) (k_Lead_most_7_1_b0_ok hp0 hL hF g _ σ l0 l1 bl0 rfl rfl _ h)
/-! k_Server_countMatches (131), depth 5 -/
def k_Server_countMatches_b72 (F : Nat)  (σ : CS) (l0 : Nat) : Option (CS) :=
  (some (csI σ 13 l0 19 0 ((cI σ 13 l0 19 0) ||| ((32 : Int32))))).bind fun σ1 =>
  some σ1
set_option maxRecDepth 4000 in
theorem k_Server_countMatches_b72_ok {E : CE} {pF : Nat → List Value → xH → Option (Option Value × xH)} (hp0 : xNPc pF) (hL : lcAll E pF) (hF : lcF pF) {d : Nat} {F : Nat}   : ∀ (g : CG) (lv : xL) (σ : CS) (l0 : Nat), (cob σ 13 l0) → (xg lv 0 = some (.ref (coa E 13 l0))) → ∀ res, k_Server_countMatches_b72 F  σ l0 = some res → cR E cQ1 pF (d + 4) kT131 13 2 none none res g σ (72, lv, []) := by
  intro g lv σ l0 bl0 g0 res h
  unfold k_Server_countMatches_b72 at h
  refine cR_lift (fun _ _ kk => eE_aload_n lk131_72 g0 kk) ?_
  refine cR_lift (fun _ _ kk => eE_dup lk131_73 rfl kk) ?_
  refine cR_getI lk131_74 rf_13_146 rfl bl0 ?_
  refine cR_lift (fun _ _ kk => eE_bipush (v := 32) lk131_77 (by decide) kk) ?_
  refine cR_lift (fun _ _ kk => eE_ior lk131_79 kk) ?_
  obtain ⟨σ1, h2, h⟩ := Option.bind_eq_some_iff.mp h
  refine cR_putI lk131_80 rf_13_146 rfl bl0 pf_13_19 rfl h2 ?_
  cases h
  exact cR_end lk131_83 rfl rfl rfl
def k_Server_countMatches_b0 (F : Nat)  (σ : CS) (l0 : Nat) : Option (CS) :=
  if xc2 .eq (cI σ 13 l0 12 0) ((3 : Int32)) = true then (
    (k_Lead_most_7_1 F σ l0 (cI σ 9 l0 7 0)).bind fun p4 =>
    if xc2 .le p4 (cI σ 9 l0 9 0) = true then (
      k_Server_countMatches_b72 F  σ l0
    ) else (
      (k_Log_termAt σ l0 p4).bind fun p12 =>
      if xc2 .ne p12 (cI σ 13 l0 10 0) = true then (
        k_Server_countMatches_b72 F  σ l0
      ) else (
        (some (csI σ 9 l0 9 0 p4)).bind fun σ16 =>
        (some (csI σ16 13 l0 19 0 ((cI σ16 13 l0 19 0) ||| ((16 : Int32))))).bind fun σ18 =>
        k_Server_countMatches_b72 F  σ18 l0
      )
    )
  ) else (
    some σ
  )
set_option maxRecDepth 4000 in
theorem k_Server_countMatches_b0_ok {E : CE} {pF : Nat → List Value → xH → Option (Option Value × xH)} (hp0 : xNPc pF) (hL : lcAll E pF) (hF : lcF pF) {d : Nat} {F : Nat}   : ∀ (g : CG) (lv : xL) (σ : CS) (l0 : Nat), (cob σ 13 l0) → (xg lv 0 = some (.ref (coa E 13 l0))) → ∀ res, k_Server_countMatches_b0 F  σ l0 = some res → cR E cQ1 pF (d + 4) kT131 13 2 none none res g σ (0, lv, []) := by
  intro g lv σ l0 bl0 g0 res h
  unfold k_Server_countMatches_b0 at h
  refine cR_lift (fun _ _ kk => eE_aload_n lk131_0 g0 kk) ?_
  refine cR_getI lk131_1 rf_13_85 rfl bl0 ?_
  refine cR_lift (fun _ _ kk => eE_iconst (v := 3) lk131_4 (by decide) kk) ?_
  refine cR_icmp (t := 9) lk131_5 (by decide) (fun c3 => ?_) (fun c3 => ?_)
  · rw [if_pos c3] at h
    refine cR_lift (fun _ _ kk => eE_aload_n lk131_9 g0 kk) ?_
    refine cR_getO (cl' := 7) (i' := l0) lk131_10 rf_13_21 rfl rfl bl0 ?_
    refine cR_getA lk131_13 rf_13_459 (by decide) (cob_s (cl := 7) bl0 (by decide) rfl rfl) ?_
    refine cR_lift (fun _ _ kk => eE_aload_n lk131_16 g0 kk) ?_
    refine cR_getO (cl' := 9) (i' := l0) lk131_17 rf_13_72 rfl rfl bl0 ?_
    refine cR_getI lk131_20 rf_13_106 rfl (cob_s (cl := 9) bl0 (by decide) rfl rfl) ?_
    obtain ⟨p4, h5, h⟩ := Option.bind_eq_some_iff.mp h
    refine cR_stat (as := [.ref (caa E 7 l0 1), .int (cI σ 9 l0 7 0)]) lk131_23 mr_13_434 na_57 rfl rfl (by first | exact Nat.le_of_ble_eq_true rfl | (simp [xcat, cvo_cat, cat_i, cat_j, cat_r]; done)) mm_57 ws_57 (k_Lead_most_7_1_ok hp0 hL hF (d := d + 0) (cob_s (cl := 7) bl0 (by decide) rfl rfl) h5) (fun m6 => ?_)
    refine cR_stI (j := 1) lk131_26 (Or.inr ⟨_, rfl, rfl⟩) (by decide) (fun vq7 gq8 kq9 => ?_)
    have gq10 := kq9 0 _ (by decide) (fun _ => rfl) g0
    refine cR_lift (fun _ _ kk => eE_iload_n lk131_27 gq8 kk) ?_
    refine cR_lift (fun _ _ kk => eE_aload_n lk131_28 gq10 kk) ?_
    refine cR_getO (cl' := 9) (i' := l0) lk131_29 rf_13_72 rfl rfl bl0 ?_
    refine cR_getI lk131_32 rf_13_91 rfl (cob_s (cl := 9) bl0 (by decide) rfl rfl) ?_
    refine cR_icmp (t := 72) lk131_35 (by decide) (fun c11 => ?_) (fun c11 => ?_)
    · rw [if_pos c11] at h
      exact k_Server_countMatches_b72_ok hp0 hL hF  g vq7 σ l0 bl0 gq10 _ h
    · rw [if_neg c11] at h
      refine cR_lift (fun _ _ kk => eE_aload_n lk131_38 gq10 kk) ?_
      refine cR_getO (cl' := 9) (i' := l0) lk131_39 rf_13_72 rfl rfl bl0 ?_
      refine cR_lift (fun _ _ kk => eE_iload_n lk131_42 gq8 kk) ?_
      obtain ⟨p12, h13, h⟩ := Option.bind_eq_some_iff.mp h
      refine cR_virt (cl := 9) (i := l0) (as := [.int p4]) lk131_43 mr_13_311 na_75 rfl rfl (by first | exact Nat.le_of_ble_eq_true rfl | (simp [xcat, cvo_cat, cat_i, cat_j, cat_r]; done)) wv_75 wc_75 (cob_s (cl := 9) bl0 (by decide) rfl rfl) (k_Log_termAt_ok hp0 hL hF (d := d + 2) (cob_s (cl := 9) bl0 (by decide) rfl rfl) h13) (fun m14  => ?_)
      refine cR_lift (fun _ _ kk => eE_aload_n lk131_46 gq10 kk) ?_
      refine cR_getI lk131_47 rf_13_88 rfl bl0 ?_
      refine cR_icmp (t := 72) lk131_50 (by decide) (fun c15 => ?_) (fun c15 => ?_)
      · rw [if_pos c15] at h
        exact k_Server_countMatches_b72_ok hp0 hL hF  g vq7 σ l0 bl0 gq10 _ h
      · rw [if_neg c15] at h
        refine cR_lift (fun _ _ kk => eE_aload_n lk131_53 gq10 kk) ?_
        refine cR_getO (cl' := 9) (i' := l0) lk131_54 rf_13_72 rfl rfl bl0 ?_
        refine cR_lift (fun _ _ kk => eE_iload_n lk131_57 gq8 kk) ?_
        obtain ⟨σ16, h17, h⟩ := Option.bind_eq_some_iff.mp h
        refine cR_putI lk131_58 rf_13_91 rfl (cob_s (cl := 9) bl0 (by decide) rfl rfl) pf_9_9 rfl h17 ?_
        refine cR_lift (fun _ _ kk => eE_aload_n lk131_61 gq10 kk) ?_
        refine cR_lift (fun _ _ kk => eE_dup lk131_62 rfl kk) ?_
        refine cR_getI lk131_63 rf_13_146 rfl (cob_any rfl bl0) ?_
        refine cR_lift (fun _ _ kk => eE_bipush (v := 16) lk131_66 (by decide) kk) ?_
        refine cR_lift (fun _ _ kk => eE_ior lk131_68 kk) ?_
        obtain ⟨σ18, h19, h⟩ := Option.bind_eq_some_iff.mp h
        refine cR_putI lk131_69 rf_13_146 rfl (cob_any rfl bl0) pf_13_19 rfl h19 ?_
        exact k_Server_countMatches_b72_ok hp0 hL hF  g vq7 σ18 l0 (cob_any rfl bl0) gq10 _ h
  · rw [if_neg c3] at h
    cases h
    exact cR_end lk131_8 rfl rfl rfl
def k_Server_countMatches (F : Nat) (σ : CS) (l0 : Nat) : Option (CS) := k_Server_countMatches_b0 F σ l0
theorem k_Server_countMatches_ok {E : CE} {pF : Nat → List Value → xH → Option (Option Value × xH)} (hp0 : xNPc pF) (hL : lcAll E pF) (hF : lcF pF) {d : Nat} {g : CG} {σ : CS} {F : Nat} {l0 : Nat} {res : CS} (bl0 : cob σ 13 l0) (h : k_Server_countMatches F σ l0 = some res) : cCo E cQ1 pF (d + 5) 131 [.ref (coa E 13 l0)] none res g σ :=
  cCo_R kk_131 mo_131 ni_131 xm_131 (Nat.le_of_ble_eq_true rfl) (hp0 131 (by decide) _) (k_Server_countMatches_b0_ok hp0 hL hF g _ σ l0 bl0 rfl _ h)
/-! k_Server_fall (133), depth 10 -/
def k_Server_fall_b10 (F : Nat)  : Nat → CS → Nat → Int32 → Option (CS)
  | 0, _, _, _ => none
  | n + 1, σ, l0, l3 =>
    let KK := k_Server_fall_b10 F  n
    if xc2 .ge l3 (clsz σ 13 l0 7) = true then (
      (some (clclr σ 13 l0 7)).bind fun σ2 =>
      (k_Server_beDown σ2 l0).bind fun p4 =>
      some p4
    ) else (
      (clget σ 13 l0 7 l3).bind fun a8 =>
      (cladd σ 14 0 16 a8).bind fun σ11 =>
      KK σ11 l0 (l3 + (1 : Int32))
    )
set_option maxRecDepth 4000 in
theorem k_Server_fall_b10_ok {E : CE} {pF : Nat → List Value → xH → Option (Option Value × xH)} (hp0 : xNPc pF) (hL : lcAll E pF) (hF : lcF pF) {d : Nat} {F : Nat}   : ∀ (n : Nat) (g : CG) (lv : xL) (σ : CS) (l0 : Nat) (l3 : Int32), (cob σ 13 l0) → (xg lv 0 = some (.ref (coa E 13 l0))) → (xg lv 3 = some (.int l3)) → ∀ res, k_Server_fall_b10 F  n σ l0 l3 = some res → cR E (cQx [11, 14]) pF (d + 9) kT133 13 4 none none res g σ (10, lv, []) := by
  intro n
  induction n with
  | zero => intro g lv σ l0 l3 bl0 g0 g3 res h; simp [k_Server_fall_b10] at h
  | succ n hKK =>
    intro g lv σ l0 l3 bl0 g0 g3 res h
    unfold k_Server_fall_b10 at h
    dsimp only at h
    refine cR_lift (fun _ _ kk => eE_iload_n lk133_10 g3 kk) ?_
    refine cR_lift (fun _ _ kk => eE_aload_n lk133_11 g0 kk) ?_
    refine cR_getA lk133_12 rf_13_35 (by decide) bl0 ?_
    refine cR_virtL (cl := 13) (i := l0) (f := 7) (as := []) lk133_15 mr_13_121 na_14 rfl rfl (by first | exact Nat.le_of_ble_eq_true rfl | (simp [xcat, cvo_cat, cat_i, cat_j, cat_r]; done)) wv_14 wc_14 rfl bl0 ((hL (d + 0)).1 E g _ 13 l0 7 rfl bl0) (fun _ => ?_)
    refine cR_icmp (t := 49) lk133_18 (by decide) (fun c1 => ?_) (fun c1 => ?_)
    · rw [if_pos c1] at h
      refine cR_lift (fun _ _ kk => eE_aload_n lk133_49 g0 kk) ?_
      refine cR_getA lk133_50 rf_13_35 (by decide) bl0 ?_
      obtain ⟨σ2, h3, h⟩ := Option.bind_eq_some_iff.mp h
      refine cR_virtL (cl := 13) (i := l0) (f := 7) (as := []) lk133_53 mr_13_214 na_3 rfl rfl (by first | exact Nat.le_of_ble_eq_true rfl | (simp [xcat, cvo_cat, cat_i, cat_j, cat_r]; done)) wv_3 wc_3 rfl bl0 (lcClr_s (hL (d + 0)).2.2.2.2.2.2 rfl bl0 h3) (fun _ => ?_)
      refine cR_lift (fun _ _ kk => eE_aload_n lk133_56 g0 kk) ?_
      obtain ⟨p4, h5, h⟩ := Option.bind_eq_some_iff.mp h
      refine cR_virt (cl := 13) (i := l0) (as := []) lk133_57 mr_13_217 na_126 rfl rfl (by first | exact Nat.le_of_ble_eq_true rfl | (simp [xcat, cvo_cat, cat_i, cat_j, cat_r]; done)) wv_126 wc_126 (cob_any rfl bl0) (k_Server_beDown_ok hp0 hL hF (d := d + 7) (cob_any rfl bl0) h5) (fun m6  => ?_)
      cases h
      exact cR_end lk133_60 rfl rfl rfl
    · rw [if_neg c1] at h
      refine cR_lift (fun _ _ kk => eE_aload_n lk133_21 g0 kk) ?_
      refine cR_getO (cl' := 14) (i' := 0) lk133_22 rf_13_63 rfl rfl bl0 ?_
      refine cR_getA lk133_25 rf_13_201 (by decide) (cob_0 (c := σ) (cl := 14) (by decide) rfl rfl) ?_
      refine cR_lift (fun _ _ kk => eE_aload_n lk133_28 g0 kk) ?_
      refine cR_getA lk133_29 rf_13_35 (by decide) bl0 ?_
      refine cR_lift (fun _ _ kk => eE_iload_n lk133_32 g3 kk) ?_
      obtain ⟨a8, h9, h⟩ := Option.bind_eq_some_iff.mp h
      refine cR_rep (fun _ hc => cob8 (clget_lt hc h9)) (fun b7 => ?_)
      refine cR_virtL (cl := 13) (i := l0) (f := 7) (as := [.int l3]) lk133_33 mr_13_206 na_6 rfl rfl (by first | exact Nat.le_of_ble_eq_true rfl | (simp [xcat, cvo_cat, cat_i, cat_j, cat_r]; done)) wv_6 wc_6 rfl bl0 ((hL (d + 0)).2.2.1 E g _ 13 l0 7 _ _ rfl bl0 h9) (fun _ => ?_)
      refine cR_cast lk133_36 xk_13_182 b7 ?_
      obtain ⟨σ11, h12, h⟩ := Option.bind_eq_some_iff.mp h
      refine cR_virtLG (by exact cQx_sub rfl) (cl := 14) (i := 0) (f := 16) (as := [.ref a8]) lk133_39 mr_13_210 na_2 rfl rfl (by first | exact Nat.le_of_ble_eq_true rfl | (simp [xcat, cvo_cat, cat_i, cat_j, cat_r]; done)) wv_2 wc_2 rfl (cob_0 (c := σ) (cl := 14) (by decide) rfl rfl) ((hL (d + 0)).2.2.2.1 E g _ 14 0 16 a8 _ rfl rfl (cob_0 (c := σ) (cl := 14) (by decide) rfl rfl) (clt8 b7) h12) (fun _ g_10 g_10e => ?_)
      refine cR_lift (fun _ _ kk => eE_pop lk133_42 rfl kk) ?_
      refine cR_inc (j := 3) (v := l3 + (1 : Int32)) lk133_43 g3 rfl (by decide) (fun vq13 gq14 kq15 => ?_)
      have gq16 := kq15 0 _ (by decide) (fun e => absurd e (by decide)) g0
      refine cR_lift (fun _ _ kk => eE_goto (t := 10) lk133_46 (by decide) kk) ?_
      exact hKK g_10 vq13 σ11 l0 (l3 + (1 : Int32)) (cob_any rfl bl0) gq16 gq14 _ h
def k_Server_fall_b0 (F : Nat)  (σ : CS) (l0 : Nat) (l1 : Int64) : Option (CS) :=
  (k_Disk_fall F σ l0 l1).bind fun p17 =>
  k_Server_fall_b10 F  F p17 l0 ((0 : Int32))
set_option maxRecDepth 4000 in
theorem k_Server_fall_b0_ok {E : CE} {pF : Nat → List Value → xH → Option (Option Value × xH)} (hp0 : xNPc pF) (hL : lcAll E pF) (hF : lcF pF) {d : Nat} {F : Nat}   : ∀ (g : CG) (lv : xL) (σ : CS) (l0 : Nat) (l1 : Int64), (cob σ 13 l0) → (xg lv 0 = some (.ref (coa E 13 l0))) → (xg lv 1 = some (.long l1)) → ∀ res, k_Server_fall_b0 F  σ l0 l1 = some res → cR E (cQx [11, 14]) pF (d + 9) kT133 13 4 none none res g σ (0, lv, []) := by
  intro g lv σ l0 l1 bl0 g0 g1 res h
  unfold k_Server_fall_b0 at h
  refine cR_lift (fun _ _ kk => eE_aload_n lk133_0 g0 kk) ?_
  refine cR_getO (cl' := 6) (i' := l0) lk133_1 rf_13_12 rfl rfl bl0 ?_
  refine cR_lift (fun _ _ kk => eE_lload_n lk133_4 g1 kk) ?_
  obtain ⟨p17, h18, h⟩ := Option.bind_eq_some_iff.mp h
  refine cR_virtG (by exact cQx_sub rfl) (cl := 6) (i := l0) (as := [.long l1]) lk133_5 mr_13_197 na_36 rfl rfl (by first | exact Nat.le_of_ble_eq_true rfl | (simp [xcat, cvo_cat, cat_i, cat_j, cat_r]; done)) wv_36 wc_36 (cob_s (cl := 6) bl0 (by decide) rfl rfl) (k_Disk_fall_ok hp0 hL hF (d := d + 4) (cob_s (cl := 6) bl0 (by decide) rfl rfl) h18) (fun m19 g_20 g_20e => ?_)
  refine cR_lift (fun _ _ kk => eE_iconst (v := 0) lk133_8 (by decide) kk) ?_
  refine cR_stI (j := 3) lk133_9 (Or.inr ⟨_, rfl, rfl⟩) (by decide) (fun vq21 gq22 kq23 => ?_)
  have gq24 := kq23 0 _ (by decide) (fun e => absurd e (by decide)) g0
  exact k_Server_fall_b10_ok hp0 hL hF  F g_20 vq21 p17 l0 ((0 : Int32)) (cob_any rfl bl0) gq24 gq22 _ h
def k_Server_fall (F : Nat) (σ : CS) (l0 : Nat) (l1 : Int64) : Option (CS) := k_Server_fall_b0 F σ l0 l1
theorem k_Server_fall_ok {E : CE} {pF : Nat → List Value → xH → Option (Option Value × xH)} (hp0 : xNPc pF) (hL : lcAll E pF) (hF : lcF pF) {d : Nat} {g : CG} {σ : CS} {F : Nat} {l0 : Nat} {l1 : Int64} {res : CS} (bl0 : cob σ 13 l0) (h : k_Server_fall F σ l0 l1 = some res) : cCo E (cQx [11, 14]) pF (d + 10) 133 [.ref (coa E 13 l0), .long l1] none res g σ :=
  cCo_R kk_133 mo_133 ni_133 xm_133 (Nat.le_of_ble_eq_true rfl) (hp0 133 (by decide) _) (k_Server_fall_b0_ok hp0 hL hF g _ σ l0 l1 bl0 rfl rfl _ h)
/-! k_Server_sendAppended (157), depth 13 -/
def k_Server_sendAppended_b0 (F : Nat)  (σ : CS) (l0 : Nat) (l1 : Int32) (l2 : Int32) (l3 : Int32) (l4 : Int32) : Option (CS) :=
  (k_Server_letterTo σ l0 l1 ((6 : Int32))).bind fun p1 =>
  (some (csI p1.2 8 p1.1 6 0 l2)).bind fun σ12 =>
  (some (csI σ12 8 p1.1 7 0 l3)).bind fun σ14 =>
  (some (csI σ14 8 p1.1 10 0 l4)).bind fun σ16 =>
  (k_Server_dispatch F σ16 l0 p1.1).bind fun p18 =>
  some p18
set_option maxRecDepth 4000 in
theorem k_Server_sendAppended_b0_ok {E : CE} {pF : Nat → List Value → xH → Option (Option Value × xH)} (hp0 : xNPc pF) (hL : lcAll E pF) (hF : lcF pF) {d : Nat} {F : Nat}   : ∀ (g : CG) (lv : xL) (σ : CS) (l0 : Nat) (l1 : Int32) (l2 : Int32) (l3 : Int32) (l4 : Int32), (cob σ 13 l0) → (xg lv 0 = some (.ref (coa E 13 l0))) → (xg lv 1 = some (.int l1)) → (xg lv 2 = some (.int l2)) → (xg lv 3 = some (.int l3)) → (xg lv 4 = some (.int l4)) → ∀ res, k_Server_sendAppended_b0 F  σ l0 l1 l2 l3 l4 = some res → cR E (cQx [13, 14]) pF (d + 12) kT157 13 6 none none res g σ (0, lv, []) := by
  intro g lv σ l0 l1 l2 l3 l4 bl0 g0 g1 g2 g3 g4 res h
  unfold k_Server_sendAppended_b0 at h
  refine cR_lift (fun _ _ kk => eE_aload_n lk157_0 g0 kk) ?_
  refine cR_lift (fun _ _ kk => eE_iload_n lk157_1 g1 kk) ?_
  refine cR_lift (fun _ _ kk => eE_bipush (v := 6) lk157_2 (by decide) kk) ?_
  obtain ⟨p1, h2, h⟩ := Option.bind_eq_some_iff.mp h
  refine cR_rep (fun _ hc => k_Server_letterTo_lt hc bl0 h2) (fun b3 => ?_)
  refine cR_virt (cl := 13) (i := l0) (as := [.int l1, .int ((6 : Int32))]) lk157_4 mr_13_351 na_144 rfl rfl (by first | exact Nat.le_of_ble_eq_true rfl | (simp [xcat, cvo_cat, cat_i, cat_j, cat_r]; done)) wv_144 wc_144 bl0 (k_Server_letterTo_ok hp0 hL hF (d := d + 1) bl0 h2) (fun m4  => ?_)
  refine cR_stA (j := 5) lk157_7 (Or.inl rfl) (by decide) (fun vq5 gq6 kq7 => ?_)
  have gq8 := kq7 0 _ (by decide) (fun e => absurd e (by decide)) g0
  have gq9 := kq7 2 _ (by decide) (fun e => absurd e (by decide)) g2
  have gq10 := kq7 3 _ (by decide) (fun e => absurd e (by decide)) g3
  have gq11 := kq7 4 _ (by decide) (fun _ => rfl) g4
  refine cR_lift (fun _ _ kk => eE_aload lk157_9 gq6 kk) ?_
  refine cR_lift (fun _ _ kk => eE_iload_n lk157_11 gq9 kk) ?_
  obtain ⟨σ12, h13, h⟩ := Option.bind_eq_some_iff.mp h
  refine cR_putI lk157_12 rf_13_343 rfl b3 pf_8_6 rfl h13 ?_
  refine cR_lift (fun _ _ kk => eE_aload lk157_15 gq6 kk) ?_
  refine cR_lift (fun _ _ kk => eE_iload_n lk157_17 gq10 kk) ?_
  obtain ⟨σ14, h15, h⟩ := Option.bind_eq_some_iff.mp h
  refine cR_putI lk157_18 rf_13_189 rfl (cob_mon (cput_mon h13) b3) pf_8_7 rfl h15 ?_
  refine cR_lift (fun _ _ kk => eE_aload lk157_21 gq6 kk) ?_
  refine cR_lift (fun _ _ kk => eE_iload lk157_23 gq11 kk) ?_
  obtain ⟨σ16, h17, h⟩ := Option.bind_eq_some_iff.mp h
  refine cR_putI lk157_25 rf_13_192 rfl (cob_mon (cput_mon h15) (cob_mon (cput_mon h13) b3)) pf_8_10 rfl h17 ?_
  refine cR_lift (fun _ _ kk => eE_aload_n lk157_28 gq8 kk) ?_
  refine cR_lift (fun _ _ kk => eE_aload lk157_29 gq6 kk) ?_
  obtain ⟨p18, h19, h⟩ := Option.bind_eq_some_iff.mp h
  refine cR_virtG (by exact cQx_sub rfl) (cl := 13) (i := l0) (as := [.ref (coa E 8 p1.1)]) lk157_31 mr_13_362 na_132 rfl rfl (by first | exact Nat.le_of_ble_eq_true rfl | (simp [xcat, cvo_cat, cat_i, cat_j, cat_r]; done)) wv_132 wc_132 (cob_any rfl bl0) (k_Server_dispatch_ok hp0 hL hF (d := d + 0) (cob_any rfl bl0) (cob_mon (cput_mon h17) (cob_mon (cput_mon h15) (cob_mon (cput_mon h13) b3))) h19) (fun m20 g_21 g_21e => ?_)
  cases h
  exact cR_end lk157_34 rfl rfl rfl
def k_Server_sendAppended (F : Nat) (σ : CS) (l0 : Nat) (l1 : Int32) (l2 : Int32) (l3 : Int32) (l4 : Int32) : Option (CS) := k_Server_sendAppended_b0 F σ l0 l1 l2 l3 l4
theorem k_Server_sendAppended_ok {E : CE} {pF : Nat → List Value → xH → Option (Option Value × xH)} (hp0 : xNPc pF) (hL : lcAll E pF) (hF : lcF pF) {d : Nat} {g : CG} {σ : CS} {F : Nat} {l0 : Nat} {l1 : Int32} {l2 : Int32} {l3 : Int32} {l4 : Int32} {res : CS} (bl0 : cob σ 13 l0) (h : k_Server_sendAppended F σ l0 l1 l2 l3 l4 = some res) : cCo E (cQx [13, 14]) pF (d + 13) 157 [.ref (coa E 13 l0), .int l1, .int l2, .int l3, .int l4] none res g σ :=
  cCo_R kk_157 mo_157 ni_157 xm_157 (Nat.le_of_ble_eq_true rfl) (hp0 157 (by decide) _) (k_Server_sendAppended_b0_ok hp0 hL hF g _ σ l0 l1 l2 l3 l4 bl0 rfl rfl rfl rfl rfl _ h)
/-! k_Server_follow (135), depth 1 -/
def k_Server_follow_b0  (σ : CS) (l0 : Nat) (l1 : Int32) : Option (CS) :=
  (some (csI σ 13 l0 12 0 ((0 : Int32)))).bind fun σ1 =>
  (some (csI σ1 13 l0 13 0 l1)).bind fun σ3 =>
  some σ3
set_option maxRecDepth 4000 in
theorem k_Server_follow_b0_ok {E : CE} {pF : Nat → List Value → xH → Option (Option Value × xH)} (hp0 : xNPc pF) (hL : lcAll E pF) (hF : lcF pF) {d : Nat}   : ∀ (g : CG) (lv : xL) (σ : CS) (l0 : Nat) (l1 : Int32), (cob σ 13 l0) → (xg lv 0 = some (.ref (coa E 13 l0))) → (xg lv 1 = some (.int l1)) → ∀ res, k_Server_follow_b0  σ l0 l1 = some res → cR E cQ1 pF (d + 0) kT135 13 2 none none res g σ (0, lv, []) := by
  intro g lv σ l0 l1 bl0 g0 g1 res h
  unfold k_Server_follow_b0 at h
  refine cR_lift (fun _ _ kk => eE_aload_n lk135_0 g0 kk) ?_
  refine cR_lift (fun _ _ kk => eE_iconst (v := 0) lk135_1 (by decide) kk) ?_
  obtain ⟨σ1, h2, h⟩ := Option.bind_eq_some_iff.mp h
  refine cR_putI lk135_2 rf_13_85 rfl bl0 pf_13_12 rfl h2 ?_
  refine cR_lift (fun _ _ kk => eE_aload_n lk135_5 g0 kk) ?_
  refine cR_lift (fun _ _ kk => eE_iload_n lk135_6 g1 kk) ?_
  obtain ⟨σ3, h4, h⟩ := Option.bind_eq_some_iff.mp h
  refine cR_putI lk135_7 rf_13_47 rfl (cob_any rfl bl0) pf_13_13 rfl h4 ?_
  cases h
  exact cR_end lk135_10 rfl rfl rfl
def k_Server_follow (σ : CS) (l0 : Nat) (l1 : Int32) : Option (CS) := k_Server_follow_b0 σ l0 l1
theorem k_Server_follow_ok {E : CE} {pF : Nat → List Value → xH → Option (Option Value × xH)} (hp0 : xNPc pF) (hL : lcAll E pF) (hF : lcF pF) {d : Nat} {g : CG} {σ : CS} {l0 : Nat} {l1 : Int32} {res : CS} (bl0 : cob σ 13 l0) (h : k_Server_follow σ l0 l1 = some res) : cCo E cQ1 pF (d + 1) 135 [.ref (coa E 13 l0), .int l1] none res g σ :=
  cCo_R kk_135 mo_135 ni_135 xm_135 (Nat.le_of_ble_eq_true rfl) (hp0 135 (by decide) _) (k_Server_follow_b0_ok hp0 hL hF g _ σ l0 l1 bl0 rfl rfl _ h)
/-! k_Server_heeds (139), depth 3 -/
def k_Server_heeds_b0  (σ : CS) (l0 : Nat) (l1 : Nat) : Option ((Int32) × CS) :=
  if xc2 .ne (cI σ 13 l0 12 0) ((3 : Int32)) = true then (
    (k_Server_follow σ l0 (cI σ 8 l1 2 0)).bind fun p2 =>
    (some (csI p2 13 l0 14 0 (cI p2 14 0 0 0))).bind fun σ5 =>
    (k_World_drawAlarm σ5 0 (cI σ5 13 l0 0 0)).bind fun p7 =>
    if ((1 : Int32)) = 0 ∨ ((1 : Int32)) = 1 then some ((1 : Int32), p7) else none
  ) else (
    if ((0 : Int32)) = 0 ∨ ((0 : Int32)) = 1 then some ((0 : Int32), σ) else none
  )
set_option maxRecDepth 4000 in
theorem k_Server_heeds_b0_ok {E : CE} {pF : Nat → List Value → xH → Option (Option Value × xH)} (hp0 : xNPc pF) (hL : lcAll E pF) (hF : lcF pF) {d : Nat}   : ∀ (g : CG) (lv : xL) (σ : CS) (l0 : Nat) (l1 : Nat), (cob σ 13 l0) → (cob σ 8 l1) → (xg lv 0 = some (.ref (coa E 13 l0))) → (xg lv 1 = some (.ref (coa E 8 l1))) → ∀ res, k_Server_heeds_b0  σ l0 l1 = some res → cR E cQ1 pF (d + 2) kT139 13 2 (some FieldType.boolean) (some (.int res.1)) res.2 g σ (0, lv, []) := by
  intro g lv σ l0 l1 bl0 bl1 g0 g1 res h
  unfold k_Server_heeds_b0 at h
  refine cR_lift (fun _ _ kk => eE_aload_n lk139_0 g0 kk) ?_
  refine cR_getI lk139_1 rf_13_85 rfl bl0 ?_
  refine cR_lift (fun _ _ kk => eE_iconst (v := 3) lk139_4 (by decide) kk) ?_
  refine cR_icmp (t := 10) lk139_5 (by decide) (fun c1 => ?_) (fun c1 => ?_)
  · rw [if_pos c1] at h
    refine cR_lift (fun _ _ kk => eE_aload_n lk139_10 g0 kk) ?_
    refine cR_lift (fun _ _ kk => eE_aload_n lk139_11 g1 kk) ?_
    refine cR_getI lk139_12 rf_13_181 rfl bl1 ?_
    obtain ⟨p2, h3, h⟩ := Option.bind_eq_some_iff.mp h
    refine cR_virt (cl := 13) (i := l0) (as := [.int (cI σ 8 l1 2 0)]) lk139_15 mr_13_428 na_135 rfl rfl (by first | exact Nat.le_of_ble_eq_true rfl | (simp [xcat, cvo_cat, cat_i, cat_j, cat_r]; done)) wv_135 wc_135 bl0 (k_Server_follow_ok hp0 hL hF (d := d + 1) bl0 h3) (fun m4  => ?_)
    refine cR_lift (fun _ _ kk => eE_aload_n lk139_18 g0 kk) ?_
    refine cR_lift (fun _ _ kk => eE_aload_n lk139_19 g0 kk) ?_
    refine cR_getO (cl' := 14) (i' := 0) lk139_20 rf_13_63 rfl rfl (cob_any rfl bl0) ?_
    refine cR_getI lk139_23 rf_13_241 rfl (cob_0 (c := p2) (cl := 14) (by decide) rfl rfl) ?_
    obtain ⟨σ5, h6, h⟩ := Option.bind_eq_some_iff.mp h
    refine cR_putI lk139_26 rf_13_50 rfl (cob_any rfl bl0) pf_13_14 rfl h6 ?_
    refine cR_lift (fun _ _ kk => eE_aload_n lk139_29 g0 kk) ?_
    refine cR_getO (cl' := 14) (i' := 0) lk139_30 rf_13_63 rfl rfl (cob_any rfl bl0) ?_
    refine cR_lift (fun _ _ kk => eE_aload_n lk139_33 g0 kk) ?_
    refine cR_getI lk139_34 rf_13_60 rfl (cob_any rfl bl0) ?_
    obtain ⟨p7, h8, h⟩ := Option.bind_eq_some_iff.mp h
    refine cR_virt (cl := 14) (i := 0) (as := [.int (cI σ5 13 l0 0 0)]) lk139_37 mr_13_251 na_188 rfl rfl (by first | exact Nat.le_of_ble_eq_true rfl | (simp [xcat, cvo_cat, cat_i, cat_j, cat_r]; done)) wv_188 wc_188 (cob_0 (c := σ5) (cl := 14) (by decide) rfl rfl) (k_World_drawAlarm_ok hp0 hL hF (d := d + 0) (cob_0 (c := σ5) (cl := 14) (by decide) rfl rfl) h8) (fun m9  => ?_)
    refine cR_lift (fun _ _ kk => eE_iconst (v := 1) lk139_40 (by decide) kk) ?_
    by_cases z10 : ((1 : Int32)) = 0 ∨ ((1 : Int32)) = 1
    · rw [if_pos z10] at h; cases h
      exact cR_end lk139_41 rfl rfl (by first | (simp only [xfin, if_true, if_pos z10]; done) | simp [xfin, z10])
    · rw [if_neg z10] at h; cases h
  · rw [if_neg c1] at h
    refine cR_lift (fun _ _ kk => eE_iconst (v := 0) lk139_8 (by decide) kk) ?_
    by_cases z11 : ((0 : Int32)) = 0 ∨ ((0 : Int32)) = 1
    · rw [if_pos z11] at h; cases h
      exact cR_end lk139_9 rfl rfl (by first | (simp only [xfin, if_true, if_pos z11]; done) | simp [xfin, z11])
    · rw [if_neg z11] at h; cases h
def k_Server_heeds (σ : CS) (l0 : Nat) (l1 : Nat) : Option ((Int32) × CS) := k_Server_heeds_b0 σ l0 l1
theorem k_Server_heeds_ok {E : CE} {pF : Nat → List Value → xH → Option (Option Value × xH)} (hp0 : xNPc pF) (hL : lcAll E pF) (hF : lcF pF) {d : Nat} {g : CG} {σ : CS} {l0 : Nat} {l1 : Nat} {res : (Int32) × CS} (bl0 : cob σ 13 l0) (bl1 : cob σ 8 l1) (h : k_Server_heeds σ l0 l1 = some res) : cCo E cQ1 pF (d + 3) 139 [.ref (coa E 13 l0), .ref (coa E 8 l1)] (some (.int res.1)) res.2 g σ :=
  cCo_R kk_139 mo_139 ni_139 xm_139 (Nat.le_of_ble_eq_true rfl) (hp0 139 (by decide) _) (k_Server_heeds_b0_ok hp0 hL hF g _ σ l0 l1 bl0 bl1 rfl rfl _ h)
/-! k_Server_fits (134), depth 14 -/
def k_Server_fits_b128 (F : Nat)  (σ : CS) : Option ((Int32) × CS) :=
  if ((0 : Int32)) = 0 ∨ ((0 : Int32)) = 1 then some ((0 : Int32), σ) else none
set_option maxRecDepth 4000 in
theorem k_Server_fits_b128_ok {E : CE} {pF : Nat → List Value → xH → Option (Option Value × xH)} (hp0 : xNPc pF) (hL : lcAll E pF) (hF : lcF pF) {d : Nat} {F : Nat}   : ∀ (g : CG) (lv : xL) (σ : CS), ∀ res, k_Server_fits_b128 F  σ = some res → cR E (cQx [13, 14]) pF (d + 13) kT134 13 3 (some FieldType.boolean) (some (.int res.1)) res.2 g σ (128, lv, []) := by
  intro g lv σ res h
  unfold k_Server_fits_b128 at h
  refine cR_lift (fun _ _ kk => eE_iconst (v := 0) lk134_128 (by decide) kk) ?_
  by_cases z1 : ((0 : Int32)) = 0 ∨ ((0 : Int32)) = 1
  · rw [if_pos z1] at h; cases h
    exact cR_end lk134_129 rfl rfl (by first | (simp only [xfin, if_true, if_pos z1]; done) | simp [xfin, z1])
  · rw [if_neg z1] at h; cases h
def k_Server_fits_b126 (F : Nat)  (σ : CS) : Option ((Int32) × CS) :=
  if ((1 : Int32)) = 0 ∨ ((1 : Int32)) = 1 then some ((1 : Int32), σ) else none
set_option maxRecDepth 4000 in
theorem k_Server_fits_b126_ok {E : CE} {pF : Nat → List Value → xH → Option (Option Value × xH)} (hp0 : xNPc pF) (hL : lcAll E pF) (hF : lcF pF) {d : Nat} {F : Nat}   : ∀ (g : CG) (lv : xL) (σ : CS), ∀ res, k_Server_fits_b126 F  σ = some res → cR E (cQx [13, 14]) pF (d + 13) kT134 13 3 (some FieldType.boolean) (some (.int res.1)) res.2 g σ (126, lv, []) := by
  intro g lv σ res h
  unfold k_Server_fits_b126 at h
  refine cR_lift (fun _ _ kk => eE_iconst (v := 1) lk134_126 (by decide) kk) ?_
  by_cases z2 : ((1 : Int32)) = 0 ∨ ((1 : Int32)) = 1
  · rw [if_pos z2] at h; cases h
    exact cR_end lk134_127 rfl rfl (by first | (simp only [xfin, if_true, if_pos z2]; done) | simp [xfin, z2])
  · rw [if_neg z2] at h; cases h
def k_Server_fits_b0 (F : Nat)  (σ : CS) (l0 : Nat) (l1 : Nat) : Option ((Int32) × CS) :=
  if xc2 .ge (cI σ 8 l1 5 0) (cI σ 13 l0 10 0) = true then (
    (k_Server_heeds σ l0 l1).bind fun p9 =>
    if xc0 .ne p9.1 = true then (
      if xc2 .le (cI σ 8 l1 7 0) (cI p9.2 9 l0 6 0) = true then (
        if xc2 .lt (cI σ 8 l1 7 0) (cI p9.2 9 l0 3 0) = true then (
          k_Server_fits_b126 F  p9.2
        ) else (
          (k_Log_termAt p9.2 l0 (cI σ 8 l1 7 0)).bind fun p15 =>
          if xc2 .eq p15 (cI p9.2 8 l1 8 0) = true then (
            k_Server_fits_b126 F  p9.2
          ) else (
            (k_Log_runStart F p9.2 l0 (cI σ 8 l1 7 0)).bind fun p19 =>
            (k_Server_sendAppended F p9.2 l0 (cI p9.2 8 l1 2 0) ((0 : Int32)) p19 (cI p9.2 8 l1 10 0)).bind fun p22 =>
            k_Server_fits_b128 F  p22
          )
        )
      ) else (
        (k_Server_sendAppended F p9.2 l0 (cI p9.2 8 l1 2 0) ((0 : Int32)) ((cI p9.2 9 l0 6 0) + ((1 : Int32))) (cI p9.2 8 l1 10 0)).bind fun p26 =>
        k_Server_fits_b128 F  p26
      )
    ) else (
      if ((0 : Int32)) = 0 ∨ ((0 : Int32)) = 1 then some ((0 : Int32), p9.2) else none
    )
  ) else (
    (k_Server_sendAppended F σ l0 (cI σ 8 l1 2 0) ((0 : Int32)) ((0 : Int32)) ((0 : Int32))).bind fun p31 =>
    k_Server_fits_b128 F  p31
  )
set_option maxRecDepth 4000 in
theorem k_Server_fits_b0_ok {E : CE} {pF : Nat → List Value → xH → Option (Option Value × xH)} (hp0 : xNPc pF) (hL : lcAll E pF) (hF : lcF pF) {d : Nat} {F : Nat}   : ∀ (g : CG) (lv : xL) (σ : CS) (l0 : Nat) (l1 : Nat), (cob σ 13 l0) → (cob σ 8 l1) → (xg lv 0 = some (.ref (coa E 13 l0))) → (xg lv 1 = some (.ref (coa E 8 l1))) → ∀ res, k_Server_fits_b0 F  σ l0 l1 = some res → cR E (cQx [13, 14]) pF (d + 13) kT134 13 3 (some FieldType.boolean) (some (.int res.1)) res.2 g σ (0, lv, []) := by
  intro g lv σ l0 l1 bl0 bl1 g0 g1 res h
  unfold k_Server_fits_b0 at h
  refine cR_lift (fun _ _ kk => eE_aload_n lk134_0 g1 kk) ?_
  refine cR_getI lk134_1 rf_13_189 rfl bl1 ?_
  refine cR_stI (j := 2) lk134_4 (Or.inr ⟨_, rfl, rfl⟩) (by decide) (fun vq3 gq4 kq5 => ?_)
  have gq6 := kq5 0 _ (by decide) (fun e => absurd e (by decide)) g0
  have gq7 := kq5 1 _ (by decide) (fun _ => rfl) g1
  refine cR_lift (fun _ _ kk => eE_aload_n lk134_5 gq7 kk) ?_
  refine cR_getI lk134_6 rf_13_342 rfl bl1 ?_
  refine cR_lift (fun _ _ kk => eE_aload_n lk134_9 gq6 kk) ?_
  refine cR_getI lk134_10 rf_13_88 rfl bl0 ?_
  refine cR_icmp (t := 30) lk134_13 (by decide) (fun c8 => ?_) (fun c8 => ?_)
  · rw [if_pos c8] at h
    refine cR_lift (fun _ _ kk => eE_aload_n lk134_30 gq6 kk) ?_
    refine cR_lift (fun _ _ kk => eE_aload_n lk134_31 gq7 kk) ?_
    obtain ⟨p9, h10, h⟩ := Option.bind_eq_some_iff.mp h
    refine cR_virt (cl := 13) (i := l0) (as := [.ref (coa E 8 l1)]) lk134_32 mr_13_506 na_139 rfl rfl (by first | exact Nat.le_of_ble_eq_true rfl | (simp [xcat, cvo_cat, cat_i, cat_j, cat_r]; done)) wv_139 wc_139 bl0 (k_Server_heeds_ok hp0 hL hF (d := d + 10) bl0 bl1 h10) (fun m11  => ?_)
    refine cR_if (t := 40) lk134_35 (by decide) (fun c12 => ?_) (fun c12 => ?_)
    · rw [if_pos c12] at h
      refine cR_lift (fun _ _ kk => eE_iload_n lk134_40 gq4 kk) ?_
      refine cR_lift (fun _ _ kk => eE_aload_n lk134_41 gq6 kk) ?_
      refine cR_getO (cl' := 9) (i' := l0) lk134_42 rf_13_72 rfl rfl (cob_any rfl bl0) ?_
      refine cR_getI lk134_45 rf_13_103 rfl (cob_s (cl := 9) (cob_any rfl bl0) (by decide) rfl rfl) ?_
      refine cR_icmp (t := 76) lk134_48 (by decide) (fun c13 => ?_) (fun c13 => ?_)
      · rw [if_pos c13] at h
        refine cR_lift (fun _ _ kk => eE_iload_n lk134_76 gq4 kk) ?_
        refine cR_lift (fun _ _ kk => eE_aload_n lk134_77 gq6 kk) ?_
        refine cR_getO (cl' := 9) (i' := l0) lk134_78 rf_13_72 rfl rfl (cob_any rfl bl0) ?_
        refine cR_getI lk134_81 rf_13_100 rfl (cob_s (cl := 9) (cob_any rfl bl0) (by decide) rfl rfl) ?_
        refine cR_icmp (t := 126) lk134_84 (by decide) (fun c14 => ?_) (fun c14 => ?_)
        · rw [if_pos c14] at h
          exact k_Server_fits_b126_ok hp0 hL hF  g vq3 p9.2  _ h
        · rw [if_neg c14] at h
          refine cR_lift (fun _ _ kk => eE_aload_n lk134_87 gq6 kk) ?_
          refine cR_getO (cl' := 9) (i' := l0) lk134_88 rf_13_72 rfl rfl (cob_any rfl bl0) ?_
          refine cR_lift (fun _ _ kk => eE_iload_n lk134_91 gq4 kk) ?_
          obtain ⟨p15, h16, h⟩ := Option.bind_eq_some_iff.mp h
          refine cR_virt (cl := 9) (i := l0) (as := [.int (cI σ 8 l1 7 0)]) lk134_92 mr_13_311 na_75 rfl rfl (by first | exact Nat.le_of_ble_eq_true rfl | (simp [xcat, cvo_cat, cat_i, cat_j, cat_r]; done)) wv_75 wc_75 (cob_s (cl := 9) (cob_any rfl bl0) (by decide) rfl rfl) (k_Log_termAt_ok hp0 hL hF (d := d + 11) (cob_s (cl := 9) (cob_any rfl bl0) (by decide) rfl rfl) h16) (fun m17  => ?_)
          refine cR_lift (fun _ _ kk => eE_aload_n lk134_95 gq7 kk) ?_
          refine cR_getI lk134_96 rf_13_370 rfl (cob_mon m11 bl1) ?_
          refine cR_icmp (t := 126) lk134_99 (by decide) (fun c18 => ?_) (fun c18 => ?_)
          · rw [if_pos c18] at h
            exact k_Server_fits_b126_ok hp0 hL hF  g vq3 p9.2  _ h
          · rw [if_neg c18] at h
            refine cR_lift (fun _ _ kk => eE_aload_n lk134_102 gq6 kk) ?_
            refine cR_lift (fun _ _ kk => eE_aload_n lk134_103 gq7 kk) ?_
            refine cR_getI lk134_104 rf_13_181 rfl (cob_mon m11 bl1) ?_
            refine cR_lift (fun _ _ kk => eE_iconst (v := 0) lk134_107 (by decide) kk) ?_
            refine cR_lift (fun _ _ kk => eE_aload_n lk134_108 gq6 kk) ?_
            refine cR_getO (cl' := 9) (i' := l0) lk134_109 rf_13_72 rfl rfl (cob_any rfl bl0) ?_
            refine cR_lift (fun _ _ kk => eE_iload_n lk134_112 gq4 kk) ?_
            obtain ⟨p19, h20, h⟩ := Option.bind_eq_some_iff.mp h
            refine cR_virt (cl := 9) (i := l0) (as := [.int (cI σ 8 l1 7 0)]) lk134_113 mr_13_509 na_74 rfl rfl (by first | exact Nat.le_of_ble_eq_true rfl | (simp [xcat, cvo_cat, cat_i, cat_j, cat_r]; done)) wv_74 wc_74 (cob_s (cl := 9) (cob_any rfl bl0) (by decide) rfl rfl) (k_Log_runStart_ok hp0 hL hF (d := d + 10) (cob_s (cl := 9) (cob_any rfl bl0) (by decide) rfl rfl) h20) (fun m21  => ?_)
            refine cR_lift (fun _ _ kk => eE_aload_n lk134_116 gq7 kk) ?_
            refine cR_getI lk134_117 rf_13_192 rfl (cob_mon m11 bl1) ?_
            obtain ⟨p22, h23, h⟩ := Option.bind_eq_some_iff.mp h
            refine cR_virtG (by exact cQx_sub rfl) (cl := 13) (i := l0) (as := [.int (cI p9.2 8 l1 2 0), .int ((0 : Int32)), .int p19, .int (cI p9.2 8 l1 10 0)]) lk134_120 mr_13_193 na_157 rfl rfl (by first | exact Nat.le_of_ble_eq_true rfl | (simp [xcat, cvo_cat, cat_i, cat_j, cat_r]; done)) wv_157 wc_157 (cob_any rfl bl0) (k_Server_sendAppended_ok hp0 hL hF (d := d + 0) (cob_any rfl bl0) h23) (fun m24 g_25 g_25e => ?_)
            refine cR_lift (fun _ _ kk => eE_goto (t := 128) lk134_123 (by decide) kk) ?_
            exact k_Server_fits_b128_ok hp0 hL hF  g_25 vq3 p22  _ h
      · rw [if_neg c13] at h
        refine cR_lift (fun _ _ kk => eE_aload_n lk134_51 gq6 kk) ?_
        refine cR_lift (fun _ _ kk => eE_aload_n lk134_52 gq7 kk) ?_
        refine cR_getI lk134_53 rf_13_181 rfl (cob_mon m11 bl1) ?_
        refine cR_lift (fun _ _ kk => eE_iconst (v := 0) lk134_56 (by decide) kk) ?_
        refine cR_lift (fun _ _ kk => eE_aload_n lk134_57 gq6 kk) ?_
        refine cR_getO (cl' := 9) (i' := l0) lk134_58 rf_13_72 rfl rfl (cob_any rfl bl0) ?_
        refine cR_getI lk134_61 rf_13_103 rfl (cob_s (cl := 9) (cob_any rfl bl0) (by decide) rfl rfl) ?_
        refine cR_lift (fun _ _ kk => eE_iconst (v := 1) lk134_64 (by decide) kk) ?_
        refine cR_lift (fun _ _ kk => eE_iadd lk134_65 kk) ?_
        refine cR_lift (fun _ _ kk => eE_aload_n lk134_66 gq7 kk) ?_
        refine cR_getI lk134_67 rf_13_192 rfl (cob_mon m11 bl1) ?_
        obtain ⟨p26, h27, h⟩ := Option.bind_eq_some_iff.mp h
        refine cR_virtG (by exact cQx_sub rfl) (cl := 13) (i := l0) (as := [.int (cI p9.2 8 l1 2 0), .int ((0 : Int32)), .int ((cI p9.2 9 l0 6 0) + ((1 : Int32))), .int (cI p9.2 8 l1 10 0)]) lk134_70 mr_13_193 na_157 rfl rfl (by first | exact Nat.le_of_ble_eq_true rfl | (simp [xcat, cvo_cat, cat_i, cat_j, cat_r]; done)) wv_157 wc_157 (cob_any rfl bl0) (k_Server_sendAppended_ok hp0 hL hF (d := d + 0) (cob_any rfl bl0) h27) (fun m28 g_29 g_29e => ?_)
        refine cR_lift (fun _ _ kk => eE_goto (t := 128) lk134_73 (by decide) kk) ?_
        exact k_Server_fits_b128_ok hp0 hL hF  g_29 vq3 p26  _ h
    · rw [if_neg c12] at h
      refine cR_lift (fun _ _ kk => eE_iconst (v := 0) lk134_38 (by decide) kk) ?_
      by_cases z30 : ((0 : Int32)) = 0 ∨ ((0 : Int32)) = 1
      · rw [if_pos z30] at h; cases h
        exact cR_end lk134_39 rfl rfl (by first | (simp only [xfin, if_true, if_pos z30]; done) | simp [xfin, z30])
      · rw [if_neg z30] at h; cases h
  · rw [if_neg c8] at h
    refine cR_lift (fun _ _ kk => eE_aload_n lk134_16 gq6 kk) ?_
    refine cR_lift (fun _ _ kk => eE_aload_n lk134_17 gq7 kk) ?_
    refine cR_getI lk134_18 rf_13_181 rfl bl1 ?_
    refine cR_lift (fun _ _ kk => eE_iconst (v := 0) lk134_21 (by decide) kk) ?_
    refine cR_lift (fun _ _ kk => eE_iconst (v := 0) lk134_22 (by decide) kk) ?_
    refine cR_lift (fun _ _ kk => eE_iconst (v := 0) lk134_23 (by decide) kk) ?_
    obtain ⟨p31, h32, h⟩ := Option.bind_eq_some_iff.mp h
    refine cR_virtG (by exact cQx_sub rfl) (cl := 13) (i := l0) (as := [.int (cI σ 8 l1 2 0), .int ((0 : Int32)), .int ((0 : Int32)), .int ((0 : Int32))]) lk134_24 mr_13_193 na_157 rfl rfl (by first | exact Nat.le_of_ble_eq_true rfl | (simp [xcat, cvo_cat, cat_i, cat_j, cat_r]; done)) wv_157 wc_157 bl0 (k_Server_sendAppended_ok hp0 hL hF (d := d + 0) bl0 h32) (fun m33 g_34 g_34e => ?_)
    refine cR_lift (fun _ _ kk => eE_goto (t := 128) lk134_27 (by decide) kk) ?_
    exact k_Server_fits_b128_ok hp0 hL hF  g_34 vq3 p31  _ h
def k_Server_fits (F : Nat) (σ : CS) (l0 : Nat) (l1 : Nat) : Option ((Int32) × CS) := k_Server_fits_b0 F σ l0 l1
theorem k_Server_fits_ok {E : CE} {pF : Nat → List Value → xH → Option (Option Value × xH)} (hp0 : xNPc pF) (hL : lcAll E pF) (hF : lcF pF) {d : Nat} {g : CG} {σ : CS} {F : Nat} {l0 : Nat} {l1 : Nat} {res : (Int32) × CS} (bl0 : cob σ 13 l0) (bl1 : cob σ 8 l1) (h : k_Server_fits F σ l0 l1 = some res) : cCo E (cQx [13, 14]) pF (d + 14) 134 [.ref (coa E 13 l0), .ref (coa E 8 l1)] (some (.int res.1)) res.2 g σ :=
  cCo_R kk_134 mo_134 ni_134 xm_134 (Nat.le_of_ble_eq_true rfl) (hp0 134 (by decide) _) (k_Server_fits_b0_ok hp0 hL hF g _ σ l0 l1 bl0 bl1 rfl rfl _ h)
/-! k_Server_postWaiting (151), depth 12 -/
def k_Server_postWaiting_b2 (F : Nat)  : Nat → CS → Nat → Int32 → Option (CS)
  | 0, _, _, _ => none
  | n + 1, σ, l0, l1 =>
    let KK := k_Server_postWaiting_b2 F  n
    if xc2 .ge l1 (clsz σ 13 l0 7) = true then (
      (some (clclr σ 13 l0 7)).bind fun σ2 =>
      some σ2
    ) else (
      (clget σ 13 l0 7 l1).bind fun a5 =>
      (k_World_post F σ 0 a5).bind fun p7 =>
      KK p7 l0 (l1 + (1 : Int32))
    )
set_option maxRecDepth 4000 in
theorem k_Server_postWaiting_b2_ok {E : CE} {pF : Nat → List Value → xH → Option (Option Value × xH)} (hp0 : xNPc pF) (hL : lcAll E pF) (hF : lcF pF) {d : Nat} {F : Nat}   : ∀ (n : Nat) (g : CG) (lv : xL) (σ : CS) (l0 : Nat) (l1 : Int32), (cob σ 13 l0) → (xg lv 0 = some (.ref (coa E 13 l0))) → (xg lv 1 = some (.int l1)) → ∀ res, k_Server_postWaiting_b2 F  n σ l0 l1 = some res → cR E (cQx [14]) pF (d + 11) kT151 13 2 none none res g σ (2, lv, []) := by
  intro n
  induction n with
  | zero => intro g lv σ l0 l1 bl0 g0 g1 res h; simp [k_Server_postWaiting_b2] at h
  | succ n hKK =>
    intro g lv σ l0 l1 bl0 g0 g1 res h
    unfold k_Server_postWaiting_b2 at h
    dsimp only at h
    refine cR_lift (fun _ _ kk => eE_iload_n lk151_2 g1 kk) ?_
    refine cR_lift (fun _ _ kk => eE_aload_n lk151_3 g0 kk) ?_
    refine cR_getA lk151_4 rf_13_35 (by decide) bl0 ?_
    refine cR_virtL (cl := 13) (i := l0) (f := 7) (as := []) lk151_7 mr_13_121 na_14 rfl rfl (by first | exact Nat.le_of_ble_eq_true rfl | (simp [xcat, cvo_cat, cat_i, cat_j, cat_r]; done)) wv_14 wc_14 rfl bl0 ((hL (d + 2)).1 E g _ 13 l0 7 rfl bl0) (fun _ => ?_)
    refine cR_icmp (t := 37) lk151_10 (by decide) (fun c1 => ?_) (fun c1 => ?_)
    · rw [if_pos c1] at h
      refine cR_lift (fun _ _ kk => eE_aload_n lk151_37 g0 kk) ?_
      refine cR_getA lk151_38 rf_13_35 (by decide) bl0 ?_
      obtain ⟨σ2, h3, h⟩ := Option.bind_eq_some_iff.mp h
      refine cR_virtL (cl := 13) (i := l0) (f := 7) (as := []) lk151_41 mr_13_214 na_3 rfl rfl (by first | exact Nat.le_of_ble_eq_true rfl | (simp [xcat, cvo_cat, cat_i, cat_j, cat_r]; done)) wv_3 wc_3 rfl bl0 (lcClr_s (hL (d + 2)).2.2.2.2.2.2 rfl bl0 h3) (fun _ => ?_)
      cases h
      exact cR_end lk151_44 rfl rfl rfl
    · rw [if_neg c1] at h
      refine cR_lift (fun _ _ kk => eE_aload_n lk151_13 g0 kk) ?_
      refine cR_getO (cl' := 14) (i' := 0) lk151_14 rf_13_63 rfl rfl bl0 ?_
      refine cR_lift (fun _ _ kk => eE_aload_n lk151_17 g0 kk) ?_
      refine cR_getA lk151_18 rf_13_35 (by decide) bl0 ?_
      refine cR_lift (fun _ _ kk => eE_iload_n lk151_21 g1 kk) ?_
      obtain ⟨a5, h6, h⟩ := Option.bind_eq_some_iff.mp h
      refine cR_rep (fun _ hc => cob8 (clget_lt hc h6)) (fun b4 => ?_)
      refine cR_virtL (cl := 13) (i := l0) (f := 7) (as := [.int l1]) lk151_22 mr_13_206 na_6 rfl rfl (by first | exact Nat.le_of_ble_eq_true rfl | (simp [xcat, cvo_cat, cat_i, cat_j, cat_r]; done)) wv_6 wc_6 rfl bl0 ((hL (d + 2)).2.2.1 E g _ 13 l0 7 _ _ rfl bl0 h6) (fun _ => ?_)
      refine cR_cast lk151_25 xk_13_182 b4 ?_
      obtain ⟨p7, h8, h⟩ := Option.bind_eq_some_iff.mp h
      refine cR_virtG (by exact cQx_sub rfl) (cl := 14) (i := 0) (as := [.ref (coa E 8 a5)]) lk151_28 mr_13_347 na_199 rfl rfl (by first | exact Nat.le_of_ble_eq_true rfl | (simp [xcat, cvo_cat, cat_i, cat_j, cat_r]; done)) wv_199 wc_199 (cob_0 (c := σ) (cl := 14) (by decide) rfl rfl) (k_World_post_ok hp0 hL hF (d := d + 0) (cob_0 (c := σ) (cl := 14) (by decide) rfl rfl) b4 h8) (fun m9 g_10 g_10e => ?_)
      refine cR_inc (j := 1) (v := l1 + (1 : Int32)) lk151_31 g1 rfl (by decide) (fun vq11 gq12 kq13 => ?_)
      have gq14 := kq13 0 _ (by decide) (fun _ => rfl) g0
      refine cR_lift (fun _ _ kk => eE_goto (t := 2) lk151_34 (by decide) kk) ?_
      exact hKK g_10 vq11 p7 l0 (l1 + (1 : Int32)) (cob_any rfl bl0) gq14 gq12 _ h
def k_Server_postWaiting_b0 (F : Nat)  (σ : CS) (l0 : Nat) : Option (CS) :=
  k_Server_postWaiting_b2 F  F σ l0 ((0 : Int32))
set_option maxRecDepth 4000 in
theorem k_Server_postWaiting_b0_ok {E : CE} {pF : Nat → List Value → xH → Option (Option Value × xH)} (hp0 : xNPc pF) (hL : lcAll E pF) (hF : lcF pF) {d : Nat} {F : Nat}   : ∀ (g : CG) (lv : xL) (σ : CS) (l0 : Nat), (cob σ 13 l0) → (xg lv 0 = some (.ref (coa E 13 l0))) → ∀ res, k_Server_postWaiting_b0 F  σ l0 = some res → cR E (cQx [14]) pF (d + 11) kT151 13 2 none none res g σ (0, lv, []) := by
  intro g lv σ l0 bl0 g0 res h
  unfold k_Server_postWaiting_b0 at h
  refine cR_lift (fun _ _ kk => eE_iconst (v := 0) lk151_0 (by decide) kk) ?_
  refine cR_stI (j := 1) lk151_1 (Or.inr ⟨_, rfl, rfl⟩) (by decide) (fun vq15 gq16 kq17 => ?_)
  have gq18 := kq17 0 _ (by decide) (fun _ => rfl) g0
  exact k_Server_postWaiting_b2_ok hp0 hL hF  F g vq15 σ l0 ((0 : Int32)) bl0 gq18 gq16 _ h
def k_Server_postWaiting (F : Nat) (σ : CS) (l0 : Nat) : Option (CS) := k_Server_postWaiting_b0 F σ l0
theorem k_Server_postWaiting_ok {E : CE} {pF : Nat → List Value → xH → Option (Option Value × xH)} (hp0 : xNPc pF) (hL : lcAll E pF) (hF : lcF pF) {d : Nat} {g : CG} {σ : CS} {F : Nat} {l0 : Nat} {res : CS} (bl0 : cob σ 13 l0) (h : k_Server_postWaiting F σ l0 = some res) : cCo E (cQx [14]) pF (d + 12) 151 [.ref (coa E 13 l0)] none res g σ :=
  cCo_R kk_151 mo_151 ni_151 xm_151 (Nat.le_of_ble_eq_true rfl) (hp0 151 (by decide) _) (k_Server_postWaiting_b0_ok hp0 hL hF g _ σ l0 bl0 rfl _ h)
/-! k_Server_goDown (136), depth 13 -/
def k_Server_goDown_b0 (F : Nat)  (σ : CS) (l0 : Nat) : Option (CS) :=
  (k_Disk_syncAll F σ l0).bind fun p1 =>
  (k_Server_postWaiting F p1 l0).bind fun p5 =>
  (k_Server_beDown p5 l0).bind fun p9 =>
  some p9
set_option maxRecDepth 4000 in
theorem k_Server_goDown_b0_ok {E : CE} {pF : Nat → List Value → xH → Option (Option Value × xH)} (hp0 : xNPc pF) (hL : lcAll E pF) (hF : lcF pF) {d : Nat} {F : Nat}   : ∀ (g : CG) (lv : xL) (σ : CS) (l0 : Nat), (cob σ 13 l0) → (xg lv 0 = some (.ref (coa E 13 l0))) → ∀ res, k_Server_goDown_b0 F  σ l0 = some res → cR E (cQx [11, 14]) pF (d + 12) kT136 13 1 none none res g σ (0, lv, []) := by
  intro g lv σ l0 bl0 g0 res h
  unfold k_Server_goDown_b0 at h
  refine cR_lift (fun _ _ kk => eE_aload_n lk136_0 g0 kk) ?_
  refine cR_getO (cl' := 6) (i' := l0) lk136_1 rf_13_12 rfl rfl bl0 ?_
  obtain ⟨p1, h2, h⟩ := Option.bind_eq_some_iff.mp h
  refine cR_virtG (by exact cQx_sub rfl) (cl := 6) (i := l0) (as := []) lk136_4 mr_13_220 na_48 rfl rfl (by first | exact Nat.le_of_ble_eq_true rfl | (simp [xcat, cvo_cat, cat_i, cat_j, cat_r]; done)) wv_48 wc_48 (cob_s (cl := 6) bl0 (by decide) rfl rfl) (k_Disk_syncAll_ok hp0 hL hF (d := d + 7) (cob_s (cl := 6) bl0 (by decide) rfl rfl) h2) (fun m3 g_4 g_4e => ?_)
  refine cR_lift (fun _ _ kk => eE_aload_n lk136_7 g0 kk) ?_
  obtain ⟨p5, h6, h⟩ := Option.bind_eq_some_iff.mp h
  refine cR_virtG (by exact cQx_sub rfl) (cl := 13) (i := l0) (as := []) lk136_8 mr_13_223 na_151 rfl rfl (by first | exact Nat.le_of_ble_eq_true rfl | (simp [xcat, cvo_cat, cat_i, cat_j, cat_r]; done)) wv_151 wc_151 (cob_any rfl bl0) (k_Server_postWaiting_ok hp0 hL hF (d := d + 0) (cob_any rfl bl0) h6) (fun m7 g_8 g_8e => ?_)
  refine cR_lift (fun _ _ kk => eE_aload_n lk136_11 g0 kk) ?_
  obtain ⟨p9, h10, h⟩ := Option.bind_eq_some_iff.mp h
  refine cR_virt (cl := 13) (i := l0) (as := []) lk136_12 mr_13_217 na_126 rfl rfl (by first | exact Nat.le_of_ble_eq_true rfl | (simp [xcat, cvo_cat, cat_i, cat_j, cat_r]; done)) wv_126 wc_126 (cob_any rfl bl0) (k_Server_beDown_ok hp0 hL hF (d := d + 10) (cob_any rfl bl0) h10) (fun m11  => ?_)
  cases h
  exact cR_end lk136_15 rfl rfl rfl
def k_Server_goDown (F : Nat) (σ : CS) (l0 : Nat) : Option (CS) := k_Server_goDown_b0 F σ l0
theorem k_Server_goDown_ok {E : CE} {pF : Nat → List Value → xH → Option (Option Value × xH)} (hp0 : xNPc pF) (hL : lcAll E pF) (hF : lcF pF) {d : Nat} {g : CG} {σ : CS} {F : Nat} {l0 : Nat} {res : CS} (bl0 : cob σ 13 l0) (h : k_Server_goDown F σ l0 = some res) : cCo E (cQx [11, 14]) pF (d + 13) 136 [.ref (coa E 13 l0)] none res g σ :=
  cCo_R kk_136 mo_136 ni_136 xm_136 (Nat.le_of_ble_eq_true rfl) (hp0 136 (by decide) _) (k_Server_goDown_b0_ok hp0 hL hF g _ σ l0 bl0 rfl _ h)
/-! k_Letter_fill_11_8 (60), depth 1 -/
def k_Letter_fill_11_8_b45  (σ : CS) : Option (CS) :=
  some σ
set_option maxRecDepth 4000 in
theorem k_Letter_fill_11_8_b45_ok {E : CE} {pF : Nat → List Value → xH → Option (Option Value × xH)} (hp0 : xNPc pF) (hL : lcAll E pF) (hF : lcF pF) {d : Nat}   : ∀ (g : CG) (lv : xL) (σ : CS), ∀ res, k_Letter_fill_11_8_b45  σ = some res → cR E cQ1 pF (d + 0) kT60 8 4 none none res g σ (45, lv, []) := by
  intro g lv σ res h
  unfold k_Letter_fill_11_8_b45 at h
  cases h
  exact cR_end lk60_45 rfl rfl rfl
def k_Letter_fill_11_8_b0  (σ : CS) (l0 : Nat) (l1 : Nat) (l2 : Int32) (l3 : Int32) : Option (CS) :=
  (some (csI σ 8 l0 17 0 (cmax ((0 : Int32)) (cmin (cmin l3 (Int32.ofNat (cal σ 8 l0 19))) ((Int32.ofNat (cal σ 11 l1 8)) - l2))))).bind fun σ1 =>
  if xc0 .le (cI σ1 8 l0 17 0) = true then (
    k_Letter_fill_11_8_b45  σ1
  ) else (
    (ccpy σ1 11 l1 8 l2 8 l0 19 ((0 : Int32)) (cI σ1 8 l0 17 0)).bind fun σ4 =>
    k_Letter_fill_11_8_b45  σ4
  )
set_option maxRecDepth 4000 in
theorem k_Letter_fill_11_8_b0_ok {E : CE} {pF : Nat → List Value → xH → Option (Option Value × xH)} (hp0 : xNPc pF) (hL : lcAll E pF) (hF : lcF pF) {d : Nat}   : ∀ (g : CG) (lv : xL) (σ : CS) (l0 : Nat) (l1 : Nat) (l2 : Int32) (l3 : Int32), (cob σ 8 l0) → (cob σ 11 l1) → (xg lv 0 = some (.ref (coa E 8 l0))) → (xg lv 1 = some (.ref (car E g 11 l1 8))) → (xg lv 2 = some (.int l2)) → (xg lv 3 = some (.int l3)) → ∀ res, k_Letter_fill_11_8_b0  σ l0 l1 l2 l3 = some res → cR E cQ1 pF (d + 0) kT60 8 4 none none res g σ (0, lv, []) := by
  intro g lv σ l0 l1 l2 l3 bl0 bl1 g0 g1 g2 g3 res h
  unfold k_Letter_fill_11_8_b0 at h
  refine cR_lift (fun _ _ kk => eE_aload_n lk60_0 g0 kk) ?_
  refine cR_lift (fun _ _ kk => eE_iconst (v := 0) lk60_1 (by decide) kk) ?_
  refine cR_lift (fun _ _ kk => eE_iload_n lk60_2 g3 kk) ?_
  refine cR_lift (fun _ _ kk => eE_aload_n lk60_3 g0 kk) ?_
  refine cR_getA lk60_4 rf_8_15 (by decide) bl0 ?_
  refine cR_alen (cl := 8) (i := l0) (f := 19) lk60_7 (by decide) (by decide) bl0 ?_
  refine cR_min lk60_8 mr_8_74 (by first | exact Nat.le_of_ble_eq_true rfl | (simp [xcat, cvo_cat, cat_i, cat_j, cat_r]; done)) ?_
  refine cR_lift (fun _ _ kk => eE_aload_n lk60_11 g1 kk) ?_
  refine cR_alen (cl := 11) (i := l1) (f := 8) lk60_12 (by decide) (by decide) bl1 ?_
  refine cR_lift (fun _ _ kk => eE_iload_n lk60_13 g2 kk) ?_
  refine cR_lift (fun _ _ kk => eE_isub lk60_14 kk) ?_
  refine cR_min lk60_15 mr_8_74 (by first | exact Nat.le_of_ble_eq_true rfl | (simp [xcat, cvo_cat, cat_i, cat_j, cat_r]; done)) ?_
  refine cR_max lk60_18 mr_8_80 (by first | exact Nat.le_of_ble_eq_true rfl | (simp [xcat, cvo_cat, cat_i, cat_j, cat_r]; done)) ?_
  obtain ⟨σ1, h2, h⟩ := Option.bind_eq_some_iff.mp h
  refine cR_putI lk60_21 rf_8_65 rfl bl0 pf_8_17 rfl h2 ?_
  refine cR_lift (fun _ _ kk => eE_aload_n lk60_24 g0 kk) ?_
  refine cR_getI lk60_25 rf_8_65 rfl (cob_mon (cput_mon h2) bl0) ?_
  refine cR_if (t := 45) lk60_28 (by decide) (fun c3 => ?_) (fun c3 => ?_)
  · rw [if_pos c3] at h
    exact k_Letter_fill_11_8_b45_ok hp0 hL hF  g lv σ1  _ h
  · rw [if_neg c3] at h
    refine cR_lift (fun _ _ kk => eE_aload_n lk60_31 g1 kk) ?_
    refine cR_lift (fun _ _ kk => eE_iload_n lk60_32 g2 kk) ?_
    refine cR_lift (fun _ _ kk => eE_aload_n lk60_33 g0 kk) ?_
    refine cR_getA lk60_34 rf_8_15 (by decide) (cob_mon (cput_mon h2) bl0) ?_
    refine cR_lift (fun _ _ kk => eE_iconst (v := 0) lk60_37 (by decide) kk) ?_
    refine cR_lift (fun _ _ kk => eE_aload_n lk60_38 g0 kk) ?_
    refine cR_getI lk60_39 rf_8_65 rfl (cob_mon (cput_mon h2) bl0) ?_
    obtain ⟨σ4, h5, h⟩ := Option.bind_eq_some_iff.mp h
    refine cR_cpy (a := 11) (i := l1) (f := 8) (a' := 8) (i' := l0) (f' := 19) lk60_42 yc_8_68.1 yc_8_68.2 (by decide) (by decide) (by decide) (cob_any rfl bl1) (cob_mon (cput_mon h2) bl0) (by first | exact Nat.le_of_ble_eq_true rfl | (simp [xcat, cvo_cat, cat_i, cat_j, cat_r]; done)) h5 ?_
    exact k_Letter_fill_11_8_b45_ok hp0 hL hF  g lv σ4  _ h
def k_Letter_fill_11_8 (σ : CS) (l0 : Nat) (l1 : Nat) (l2 : Int32) (l3 : Int32) : Option (CS) := k_Letter_fill_11_8_b0 σ l0 l1 l2 l3
theorem k_Letter_fill_11_8_ok {E : CE} {pF : Nat → List Value → xH → Option (Option Value × xH)} (hp0 : xNPc pF) (hL : lcAll E pF) (hF : lcF pF) {d : Nat} {g : CG} {σ : CS} {l0 : Nat} {l1 : Nat} {l2 : Int32} {l3 : Int32} {res : CS} (bl0 : cob σ 8 l0) (bl1 : cob σ 11 l1) (h : k_Letter_fill_11_8 σ l0 l1 l2 l3 = some res) : cCo E cQ1 pF (d + 1) 60 [.ref (coa E 8 l0), .ref (car E g 11 l1 8), .int l2, .int l3] none res g σ :=
  cCo_R kk_60 mo_60 ni_60 xm_60 (Nat.le_of_ble_eq_true rfl) (hp0 60 (by decide) _) (k_Letter_fill_11_8_b0_ok hp0 hL hF g _ σ l0 l1 l2 l3 bl0 bl1 rfl rfl rfl rfl _ h)
/-! k_Server_putPiece (153), depth 2 -/
def k_Server_putPiece_b100  (σ : CS) : Option (CS) :=
  some σ
set_option maxRecDepth 4000 in
theorem k_Server_putPiece_b100_ok {E : CE} {pF : Nat → List Value → xH → Option (Option Value × xH)} (hp0 : xNPc pF) (hL : lcAll E pF) (hF : lcF pF) {d : Nat}   : ∀ (g : CG) (lv : xL) (σ : CS), ∀ res, k_Server_putPiece_b100  σ = some res → cR E cQ1 pF (d + 1) kT153 13 3 none none res g σ (100, lv, []) := by
  intro g lv σ res h
  unfold k_Server_putPiece_b100 at h
  cases h
  exact cR_end lk153_100 rfl rfl rfl
def k_Server_putPiece_b0  (σ : CS) (l0 : Nat) (l1 : Nat) (l2 : Int32) : Option (CS) :=
  (some (csI σ 8 l1 7 0 (cI σ 9 l0 3 0))).bind fun σ1 =>
  (some (csI σ1 8 l1 8 0 (cI σ1 9 l0 4 0))).bind fun σ3 =>
  (some (csI σ3 8 l1 11 0 (cI σ3 9 l0 5 0))).bind fun σ5 =>
  (k_Disk_snapshotSize σ5 l0).bind fun p7 =>
  (some (csI σ5 8 l1 12 0 p7)).bind fun σ10 =>
  (some (csI σ10 8 l1 13 0 l2)).bind fun σ12 =>
  (some (csI σ12 8 l1 10 0 (cI σ12 7 l0 9 0))).bind fun σ14 =>
  if xc2 .eq (cI σ14 6 l0 9 0) ((-1 : Int32)) = true then (
    k_Server_putPiece_b100  σ14
  ) else (
    (cix 6 0 (cI σ14 6 l0 9 0)).bind fun n17 =>
    (k_Letter_fill_11_8 σ14 l1 (30 * l0 + cpg n17) l2 ((cI σ14 8 l1 12 0) - l2)).bind fun p19 =>
    k_Server_putPiece_b100  p19
  )
set_option maxRecDepth 4000 in
theorem k_Server_putPiece_b0_ok {E : CE} {pF : Nat → List Value → xH → Option (Option Value × xH)} (hp0 : xNPc pF) (hL : lcAll E pF) (hF : lcF pF) {d : Nat}   : ∀ (g : CG) (lv : xL) (σ : CS) (l0 : Nat) (l1 : Nat) (l2 : Int32), (cob σ 13 l0) → (cob σ 8 l1) → (xg lv 0 = some (.ref (coa E 13 l0))) → (xg lv 1 = some (.ref (coa E 8 l1))) → (xg lv 2 = some (.int l2)) → ∀ res, k_Server_putPiece_b0  σ l0 l1 l2 = some res → cR E cQ1 pF (d + 1) kT153 13 3 none none res g σ (0, lv, []) := by
  intro g lv σ l0 l1 l2 bl0 bl1 g0 g1 g2 res h
  unfold k_Server_putPiece_b0 at h
  refine cR_lift (fun _ _ kk => eE_aload_n lk153_0 g1 kk) ?_
  refine cR_lift (fun _ _ kk => eE_aload_n lk153_1 g0 kk) ?_
  refine cR_getO (cl' := 9) (i' := l0) lk153_2 rf_13_72 rfl rfl bl0 ?_
  refine cR_getI lk153_5 rf_13_100 rfl (cob_s (cl := 9) bl0 (by decide) rfl rfl) ?_
  obtain ⟨σ1, h2, h⟩ := Option.bind_eq_some_iff.mp h
  refine cR_putI lk153_8 rf_13_189 rfl bl1 pf_8_7 rfl h2 ?_
  refine cR_lift (fun _ _ kk => eE_aload_n lk153_11 g1 kk) ?_
  refine cR_lift (fun _ _ kk => eE_aload_n lk153_12 g0 kk) ?_
  refine cR_getO (cl' := 9) (i' := l0) lk153_13 rf_13_72 rfl rfl (cob_any rfl bl0) ?_
  refine cR_getI lk153_16 rf_13_416 rfl (cob_s (cl := 9) (cob_any rfl bl0) (by decide) rfl rfl) ?_
  obtain ⟨σ3, h4, h⟩ := Option.bind_eq_some_iff.mp h
  refine cR_putI lk153_19 rf_13_370 rfl (cob_mon (cput_mon h2) bl1) pf_8_8 rfl h4 ?_
  refine cR_lift (fun _ _ kk => eE_aload_n lk153_22 g1 kk) ?_
  refine cR_lift (fun _ _ kk => eE_aload_n lk153_23 g0 kk) ?_
  refine cR_getO (cl' := 9) (i' := l0) lk153_24 rf_13_72 rfl rfl (cob_any rfl bl0) ?_
  refine cR_getI lk153_27 rf_13_419 rfl (cob_s (cl := 9) (cob_any rfl bl0) (by decide) rfl rfl) ?_
  obtain ⟨σ5, h6, h⟩ := Option.bind_eq_some_iff.mp h
  refine cR_putI lk153_30 rf_13_422 rfl (cob_mon (cput_mon h4) (cob_mon (cput_mon h2) bl1)) pf_8_11 rfl h6 ?_
  refine cR_lift (fun _ _ kk => eE_aload_n lk153_33 g1 kk) ?_
  refine cR_lift (fun _ _ kk => eE_aload_n lk153_34 g0 kk) ?_
  refine cR_getO (cl' := 6) (i' := l0) lk153_35 rf_13_12 rfl rfl (cob_any rfl bl0) ?_
  obtain ⟨p7, h8, h⟩ := Option.bind_eq_some_iff.mp h
  refine cR_virt (cl := 6) (i := l0) (as := []) lk153_38 mr_13_137 na_47 rfl rfl (by first | exact Nat.le_of_ble_eq_true rfl | (simp [xcat, cvo_cat, cat_i, cat_j, cat_r]; done)) wv_47 wc_47 (cob_s (cl := 6) (cob_any rfl bl0) (by decide) rfl rfl) (k_Disk_snapshotSize_ok hp0 hL hF (d := d + 0) (cob_s (cl := 6) (cob_any rfl bl0) (by decide) rfl rfl) h8) (fun m9  => ?_)
  obtain ⟨σ10, h11, h⟩ := Option.bind_eq_some_iff.mp h
  refine cR_putI lk153_41 rf_13_365 rfl (cob_mon (cput_mon h6) (cob_mon (cput_mon h4) (cob_mon (cput_mon h2) bl1))) pf_8_12 rfl h11 ?_
  refine cR_lift (fun _ _ kk => eE_aload_n lk153_44 g1 kk) ?_
  refine cR_lift (fun _ _ kk => eE_iload_n lk153_45 g2 kk) ?_
  obtain ⟨σ12, h13, h⟩ := Option.bind_eq_some_iff.mp h
  refine cR_putI lk153_46 rf_13_423 rfl (cob_mon (cput_mon h11) (cob_mon (cput_mon h6) (cob_mon (cput_mon h4) (cob_mon (cput_mon h2) bl1)))) pf_8_13 rfl h13 ?_
  refine cR_lift (fun _ _ kk => eE_aload_n lk153_49 g1 kk) ?_
  refine cR_lift (fun _ _ kk => eE_aload_n lk153_50 g0 kk) ?_
  refine cR_getO (cl' := 7) (i' := l0) lk153_51 rf_13_21 rfl rfl (cob_any rfl bl0) ?_
  refine cR_getI lk153_54 rf_13_118 rfl (cob_s (cl := 7) (cob_any rfl bl0) (by decide) rfl rfl) ?_
  obtain ⟨σ14, h15, h⟩ := Option.bind_eq_some_iff.mp h
  refine cR_putI lk153_57 rf_13_192 rfl (cob_mon (cput_mon h13) (cob_mon (cput_mon h11) (cob_mon (cput_mon h6) (cob_mon (cput_mon h4) (cob_mon (cput_mon h2) bl1))))) pf_8_10 rfl h15 ?_
  refine cR_lift (fun _ _ kk => eE_aload_n lk153_60 g0 kk) ?_
  refine cR_getO (cl' := 6) (i' := l0) lk153_61 rf_13_12 rfl rfl (cob_any rfl bl0) ?_
  refine cR_getI lk153_64 rf_13_256 rfl (cob_s (cl := 6) (cob_any rfl bl0) (by decide) rfl rfl) ?_
  refine cR_lift (fun _ _ kk => eE_iconst (v := (-1)) lk153_67 (by decide) kk) ?_
  refine cR_icmp (t := 100) lk153_68 (by decide) (fun c16 => ?_) (fun c16 => ?_)
  · rw [if_pos c16] at h
    exact k_Server_putPiece_b100_ok hp0 hL hF  g lv σ14  _ h
  · rw [if_neg c16] at h
    refine cR_lift (fun _ _ kk => eE_aload_n lk153_71 g1 kk) ?_
    refine cR_lift (fun _ _ kk => eE_aload_n lk153_72 g0 kk) ?_
    refine cR_getO (cl' := 6) (i' := l0) lk153_73 rf_13_12 rfl rfl (cob_any rfl bl0) ?_
    refine cR_getA lk153_76 rf_13_259 (by decide) (cob_s (cl := 6) (cob_any rfl bl0) (by decide) rfl rfl) ?_
    refine cR_lift (fun _ _ kk => eE_aload_n lk153_79 g0 kk) ?_
    refine cR_getO (cl' := 6) (i' := l0) lk153_80 rf_13_12 rfl rfl (cob_any rfl bl0) ?_
    refine cR_getI lk153_83 rf_13_256 rfl (cob_s (cl := 6) (cob_any rfl bl0) (by decide) rfl rfl) ?_
    obtain ⟨n17, h18, h⟩ := Option.bind_eq_some_iff.mp h
    refine cR_aald (cl := 6) (i := l0) (f := 0) (cl' := 11) (i' := 30 * l0 + cpg n17) lk153_86 rfl (by decide) (cob_s (cl := 6) (cob_any rfl bl0) (by decide) rfl rfl) h18 rfl ?_
    refine cR_getA lk153_87 rf_13_276 (by decide) (cob_pg (c := σ14) (cob_s (cl := 6) (cob_any rfl bl0) (by decide) rfl rfl) (cix_lt h18)).1 ?_
    refine cR_lift (fun _ _ kk => eE_iload_n lk153_90 g2 kk) ?_
    refine cR_lift (fun _ _ kk => eE_aload_n lk153_91 g1 kk) ?_
    refine cR_getI lk153_92 rf_13_365 rfl (cob_mon (cput_mon h15) (cob_mon (cput_mon h13) (cob_mon (cput_mon h11) (cob_mon (cput_mon h6) (cob_mon (cput_mon h4) (cob_mon (cput_mon h2) bl1)))))) ?_
    refine cR_lift (fun _ _ kk => eE_iload_n lk153_95 g2 kk) ?_
    refine cR_lift (fun _ _ kk => eE_isub lk153_96 kk) ?_
    obtain ⟨p19, h20, h⟩ := Option.bind_eq_some_iff.mp h
    refine cR_virt (cl := 8) (i := l1) (as := [.ref (car E g 11 (30 * l0 + cpg n17) 8), .int l2, .int ((cI σ14 8 l1 12 0) - l2)]) lk153_97 mr_13_358 na_60 rfl rfl (by first | exact Nat.le_of_ble_eq_true rfl | (simp [xcat, cvo_cat, cat_i, cat_j, cat_r]; done)) wv_60 wc_60 (cob_mon (cput_mon h15) (cob_mon (cput_mon h13) (cob_mon (cput_mon h11) (cob_mon (cput_mon h6) (cob_mon (cput_mon h4) (cob_mon (cput_mon h2) bl1)))))) (k_Letter_fill_11_8_ok hp0 hL hF (d := d + 0) (cob_mon (cput_mon h15) (cob_mon (cput_mon h13) (cob_mon (cput_mon h11) (cob_mon (cput_mon h6) (cob_mon (cput_mon h4) (cob_mon (cput_mon h2) bl1)))))) (cob_pg (c := σ14) (cob_s (cl := 6) (cob_any rfl bl0) (by decide) rfl rfl) (cix_lt h18)).1 h20) (fun m21  => ?_)
    exact k_Server_putPiece_b100_ok hp0 hL hF  g lv p19  _ h
def k_Server_putPiece (σ : CS) (l0 : Nat) (l1 : Nat) (l2 : Int32) : Option (CS) := k_Server_putPiece_b0 σ l0 l1 l2
theorem k_Server_putPiece_ok {E : CE} {pF : Nat → List Value → xH → Option (Option Value × xH)} (hp0 : xNPc pF) (hL : lcAll E pF) (hF : lcF pF) {d : Nat} {g : CG} {σ : CS} {l0 : Nat} {l1 : Nat} {l2 : Int32} {res : CS} (bl0 : cob σ 13 l0) (bl1 : cob σ 8 l1) (h : k_Server_putPiece σ l0 l1 l2 = some res) : cCo E cQ1 pF (d + 2) 153 [.ref (coa E 13 l0), .ref (coa E 8 l1), .int l2] none res g σ :=
  cCo_R kk_153 mo_153 ni_153 xm_153 (Nat.le_of_ble_eq_true rfl) (hp0 153 (by decide) _) (k_Server_putPiece_b0_ok hp0 hL hF g _ σ l0 l1 l2 bl0 bl1 rfl rfl rfl _ h)
/-! k_Server_putEntries (152), depth 3 -/
def k_Server_putEntries_b79  (σ : CS) : Option (CS) :=
  some σ
set_option maxRecDepth 4000 in
theorem k_Server_putEntries_b79_ok {E : CE} {pF : Nat → List Value → xH → Option (Option Value × xH)} (hp0 : xNPc pF) (hL : lcAll E pF) (hF : lcF pF) {d : Nat}   : ∀ (g : CG) (lv : xL) (σ : CS), ∀ res, k_Server_putEntries_b79  σ = some res → cR E cQ1 pF (d + 2) kT152 13 4 none none res g σ (79, lv, []) := by
  intro g lv σ res h
  unfold k_Server_putEntries_b79 at h
  cases h
  exact cR_end lk152_79 rfl rfl rfl
def k_Server_putEntries_b0  (σ : CS) (l0 : Nat) (l1 : Nat) (l2 : Int32) (l3 : Int32) : Option (CS) :=
  (some (csI σ 8 l1 7 0 (l2 - ((1 : Int32))))).bind fun σ1 =>
  (k_Log_termAt σ1 l0 (l2 - ((1 : Int32)))).bind fun p3 =>
  (some (csI σ1 8 l1 8 0 p3)).bind fun σ6 =>
  (some (csI σ6 8 l1 9 0 (cI σ6 9 l0 9 0))).bind fun σ8 =>
  (some (csI σ8 8 l1 10 0 (cI σ8 7 l0 9 0))).bind fun σ10 =>
  (some (csI σ10 8 l1 17 0 l3)).bind fun σ12 =>
  if xc0 .le l3 = true then (
    k_Server_putEntries_b79  σ12
  ) else (
    (k_Log_at σ12 l0 l2).bind fun p15 =>
    (ccpy σ12 9 l0 1 p15 8 l1 18 ((0 : Int32)) (l3 * ((6 : Int32)))).bind fun σ18 =>
    k_Server_putEntries_b79  σ18
  )
set_option maxRecDepth 4000 in
theorem k_Server_putEntries_b0_ok {E : CE} {pF : Nat → List Value → xH → Option (Option Value × xH)} (hp0 : xNPc pF) (hL : lcAll E pF) (hF : lcF pF) {d : Nat}   : ∀ (g : CG) (lv : xL) (σ : CS) (l0 : Nat) (l1 : Nat) (l2 : Int32) (l3 : Int32), (cob σ 13 l0) → (cob σ 8 l1) → (xg lv 0 = some (.ref (coa E 13 l0))) → (xg lv 1 = some (.ref (coa E 8 l1))) → (xg lv 2 = some (.int l2)) → (xg lv 3 = some (.int l3)) → ∀ res, k_Server_putEntries_b0  σ l0 l1 l2 l3 = some res → cR E cQ1 pF (d + 2) kT152 13 4 none none res g σ (0, lv, []) := by
  intro g lv σ l0 l1 l2 l3 bl0 bl1 g0 g1 g2 g3 res h
  unfold k_Server_putEntries_b0 at h
  refine cR_lift (fun _ _ kk => eE_aload_n lk152_0 g1 kk) ?_
  refine cR_lift (fun _ _ kk => eE_iload_n lk152_1 g2 kk) ?_
  refine cR_lift (fun _ _ kk => eE_iconst (v := 1) lk152_2 (by decide) kk) ?_
  refine cR_lift (fun _ _ kk => eE_isub lk152_3 kk) ?_
  obtain ⟨σ1, h2, h⟩ := Option.bind_eq_some_iff.mp h
  refine cR_putI lk152_4 rf_13_189 rfl bl1 pf_8_7 rfl h2 ?_
  refine cR_lift (fun _ _ kk => eE_aload_n lk152_7 g1 kk) ?_
  refine cR_lift (fun _ _ kk => eE_aload_n lk152_8 g0 kk) ?_
  refine cR_getO (cl' := 9) (i' := l0) lk152_9 rf_13_72 rfl rfl (cob_any rfl bl0) ?_
  refine cR_lift (fun _ _ kk => eE_iload_n lk152_12 g2 kk) ?_
  refine cR_lift (fun _ _ kk => eE_iconst (v := 1) lk152_13 (by decide) kk) ?_
  refine cR_lift (fun _ _ kk => eE_isub lk152_14 kk) ?_
  obtain ⟨p3, h4, h⟩ := Option.bind_eq_some_iff.mp h
  refine cR_virt (cl := 9) (i := l0) (as := [.int (l2 - ((1 : Int32)))]) lk152_15 mr_13_311 na_75 rfl rfl (by first | exact Nat.le_of_ble_eq_true rfl | (simp [xcat, cvo_cat, cat_i, cat_j, cat_r]; done)) wv_75 wc_75 (cob_s (cl := 9) (cob_any rfl bl0) (by decide) rfl rfl) (k_Log_termAt_ok hp0 hL hF (d := d + 0) (cob_s (cl := 9) (cob_any rfl bl0) (by decide) rfl rfl) h4) (fun m5  => ?_)
  obtain ⟨σ6, h7, h⟩ := Option.bind_eq_some_iff.mp h
  refine cR_putI lk152_18 rf_13_370 rfl (cob_mon (cput_mon h2) bl1) pf_8_8 rfl h7 ?_
  refine cR_lift (fun _ _ kk => eE_aload_n lk152_21 g1 kk) ?_
  refine cR_lift (fun _ _ kk => eE_aload_n lk152_22 g0 kk) ?_
  refine cR_getO (cl' := 9) (i' := l0) lk152_23 rf_13_72 rfl rfl (cob_any rfl bl0) ?_
  refine cR_getI lk152_26 rf_13_91 rfl (cob_s (cl := 9) (cob_any rfl bl0) (by decide) rfl rfl) ?_
  obtain ⟨σ8, h9, h⟩ := Option.bind_eq_some_iff.mp h
  refine cR_putI lk152_29 rf_13_404 rfl (cob_mon (cput_mon h7) (cob_mon (cput_mon h2) bl1)) pf_8_9 rfl h9 ?_
  refine cR_lift (fun _ _ kk => eE_aload_n lk152_32 g1 kk) ?_
  refine cR_lift (fun _ _ kk => eE_aload_n lk152_33 g0 kk) ?_
  refine cR_getO (cl' := 7) (i' := l0) lk152_34 rf_13_21 rfl rfl (cob_any rfl bl0) ?_
  refine cR_getI lk152_37 rf_13_118 rfl (cob_s (cl := 7) (cob_any rfl bl0) (by decide) rfl rfl) ?_
  obtain ⟨σ10, h11, h⟩ := Option.bind_eq_some_iff.mp h
  refine cR_putI lk152_40 rf_13_192 rfl (cob_mon (cput_mon h9) (cob_mon (cput_mon h7) (cob_mon (cput_mon h2) bl1))) pf_8_10 rfl h11 ?_
  refine cR_lift (fun _ _ kk => eE_aload_n lk152_43 g1 kk) ?_
  refine cR_lift (fun _ _ kk => eE_iload_n lk152_44 g3 kk) ?_
  obtain ⟨σ12, h13, h⟩ := Option.bind_eq_some_iff.mp h
  refine cR_putI lk152_45 rf_13_346 rfl (cob_mon (cput_mon h11) (cob_mon (cput_mon h9) (cob_mon (cput_mon h7) (cob_mon (cput_mon h2) bl1)))) pf_8_17 rfl h13 ?_
  refine cR_lift (fun _ _ kk => eE_iload_n lk152_48 g3 kk) ?_
  refine cR_if (t := 79) lk152_49 (by decide) (fun c14 => ?_) (fun c14 => ?_)
  · rw [if_pos c14] at h
    exact k_Server_putEntries_b79_ok hp0 hL hF  g lv σ12  _ h
  · rw [if_neg c14] at h
    refine cR_lift (fun _ _ kk => eE_aload_n lk152_52 g0 kk) ?_
    refine cR_getO (cl' := 9) (i' := l0) lk152_53 rf_13_72 rfl rfl (cob_any rfl bl0) ?_
    refine cR_getA lk152_56 rf_13_405 (by decide) (cob_s (cl := 9) (cob_any rfl bl0) (by decide) rfl rfl) ?_
    refine cR_lift (fun _ _ kk => eE_aload_n lk152_59 g0 kk) ?_
    refine cR_getO (cl' := 9) (i' := l0) lk152_60 rf_13_72 rfl rfl (cob_any rfl bl0) ?_
    refine cR_lift (fun _ _ kk => eE_iload_n lk152_63 g2 kk) ?_
    obtain ⟨p15, h16, h⟩ := Option.bind_eq_some_iff.mp h
    refine cR_virt (cl := 9) (i := l0) (as := [.int l2]) lk152_64 mr_13_406 na_63 rfl rfl (by first | exact Nat.le_of_ble_eq_true rfl | (simp [xcat, cvo_cat, cat_i, cat_j, cat_r]; done)) wv_63 wc_63 (cob_s (cl := 9) (cob_any rfl bl0) (by decide) rfl rfl) (k_Log_at_ok hp0 hL hF (d := d + 1) (cob_s (cl := 9) (cob_any rfl bl0) (by decide) rfl rfl) h16) (fun m17  => ?_)
    refine cR_lift (fun _ _ kk => eE_aload_n lk152_67 g1 kk) ?_
    refine cR_getA lk152_68 rf_13_409 (by decide) (cob_mon (cput_mon h13) (cob_mon (cput_mon h11) (cob_mon (cput_mon h9) (cob_mon (cput_mon h7) (cob_mon (cput_mon h2) bl1))))) ?_
    refine cR_lift (fun _ _ kk => eE_iconst (v := 0) lk152_71 (by decide) kk) ?_
    refine cR_lift (fun _ _ kk => eE_iload_n lk152_72 g3 kk) ?_
    refine cR_lift (fun _ _ kk => eE_bipush (v := 6) lk152_73 (by decide) kk) ?_
    refine cR_lift (fun _ _ kk => eE_imul lk152_75 kk) ?_
    obtain ⟨σ18, h19, h⟩ := Option.bind_eq_some_iff.mp h
    refine cR_cpy (a := 9) (i := l0) (f := 1) (a' := 8) (i' := l1) (f' := 18) lk152_76 yc_13_410.1 yc_13_410.2 (by decide) (by decide) (by decide) (cob_s (cl := 9) (cob_any rfl bl0) (by decide) rfl rfl) (cob_mon (cput_mon h13) (cob_mon (cput_mon h11) (cob_mon (cput_mon h9) (cob_mon (cput_mon h7) (cob_mon (cput_mon h2) bl1))))) (by first | exact Nat.le_of_ble_eq_true rfl | (simp [xcat, cvo_cat, cat_i, cat_j, cat_r]; done)) h19 ?_
    exact k_Server_putEntries_b79_ok hp0 hL hF  g lv σ18  _ h
def k_Server_putEntries (σ : CS) (l0 : Nat) (l1 : Nat) (l2 : Int32) (l3 : Int32) : Option (CS) := k_Server_putEntries_b0 σ l0 l1 l2 l3
theorem k_Server_putEntries_ok {E : CE} {pF : Nat → List Value → xH → Option (Option Value × xH)} (hp0 : xNPc pF) (hL : lcAll E pF) (hF : lcF pF) {d : Nat} {g : CG} {σ : CS} {l0 : Nat} {l1 : Nat} {l2 : Int32} {l3 : Int32} {res : CS} (bl0 : cob σ 13 l0) (bl1 : cob σ 8 l1) (h : k_Server_putEntries σ l0 l1 l2 l3 = some res) : cCo E cQ1 pF (d + 3) 152 [.ref (coa E 13 l0), .ref (coa E 8 l1), .int l2, .int l3] none res g σ :=
  cCo_R kk_152 mo_152 ni_152 xm_152 (Nat.le_of_ble_eq_true rfl) (hp0 152 (by decide) _) (k_Server_putEntries_b0_ok hp0 hL hF g _ σ l0 l1 l2 l3 bl0 bl1 rfl rfl rfl rfl _ h)
/-! k_Server_sendTo (160), depth 13 -/
def k_Server_sendTo_b68 (F : Nat)  (σ : CS) : Option (CS) :=
  some σ
set_option maxRecDepth 4000 in
theorem k_Server_sendTo_b68_ok {E : CE} {pF : Nat → List Value → xH → Option (Option Value × xH)} (hp0 : xNPc pF) (hL : lcAll E pF) (hF : lcF pF) {d : Nat} {F : Nat}   : ∀ (g : CG) (lv : xL) (σ : CS), ∀ res, k_Server_sendTo_b68 F  σ = some res → cR E (cQx [13, 14]) pF (d + 12) kT160 13 8 none none res g σ (68, lv, []) := by
  intro g lv σ res h
  unfold k_Server_sendTo_b68 at h
  cases h
  exact cR_end lk160_68 rfl rfl rfl
def k_Server_sendTo_b247 (F : Nat)  (σ : CS) : Option (CS) :=
  some σ
set_option maxRecDepth 4000 in
theorem k_Server_sendTo_b247_ok {E : CE} {pF : Nat → List Value → xH → Option (Option Value × xH)} (hp0 : xNPc pF) (hL : lcAll E pF) (hF : lcF pF) {d : Nat} {F : Nat}   : ∀ (g : CG) (lv : xL) (σ : CS), ∀ res, k_Server_sendTo_b247 F  σ = some res → cR E (cQx [13, 14]) pF (d + 12) kT160 13 8 none none res g σ (247, lv, []) := by
  intro g lv σ res h
  unfold k_Server_sendTo_b247 at h
  cases h
  exact cR_end lk160_247 rfl rfl rfl
def k_Server_sendTo_b209 (F : Nat)  (σ : CS) (l0 : Nat) (l1 : Int32) (l2 : Int32) (l3 : Int32) : Option (CS) :=
  if xc0 .eq l3 = true then (
    k_Server_sendTo_b247 F  σ
  ) else (
    if xc0 .eq l2 = true then (
      k_Server_sendTo_b247 F  σ
    ) else (
      (k_Server_letterTo σ l0 l1 ((5 : Int32))).bind fun p3 =>
      (crd p3.2 7 l0 0 l1).bind fun x12 =>
      (k_Server_putEntries p3.2 l0 p3.1 x12 ((0 : Int32))).bind fun p14 =>
      (k_Server_dispatch F p14 l0 p3.1).bind fun p17 =>
      k_Server_sendTo_b247 F  p17
    )
  )
set_option maxRecDepth 4000 in
theorem k_Server_sendTo_b209_ok {E : CE} {pF : Nat → List Value → xH → Option (Option Value × xH)} (hp0 : xNPc pF) (hL : lcAll E pF) (hF : lcF pF) {d : Nat} {F : Nat}   : ∀ (g : CG) (lv : xL) (σ : CS) (l0 : Nat) (l1 : Int32) (l2 : Int32) (l3 : Int32), (cob σ 13 l0) → (xg lv 0 = some (.ref (coa E 13 l0))) → (xg lv 1 = some (.int l1)) → (xg lv 2 = some (.int l2)) → (xg lv 3 = some (.int l3)) → ∀ res, k_Server_sendTo_b209 F  σ l0 l1 l2 l3 = some res → cR E (cQx [13, 14]) pF (d + 12) kT160 13 8 none none res g σ (209, lv, []) := by
  intro g lv σ l0 l1 l2 l3 bl0 g0 g1 g2 g3 res h
  unfold k_Server_sendTo_b209 at h
  refine cR_lift (fun _ _ kk => eE_iload_n lk160_209 g3 kk) ?_
  refine cR_if (t := 247) lk160_210 (by decide) (fun c1 => ?_) (fun c1 => ?_)
  · rw [if_pos c1] at h
    exact k_Server_sendTo_b247_ok hp0 hL hF  g lv σ  _ h
  · rw [if_neg c1] at h
    refine cR_lift (fun _ _ kk => eE_iload_n lk160_213 g2 kk) ?_
    refine cR_if (t := 247) lk160_214 (by decide) (fun c2 => ?_) (fun c2 => ?_)
    · rw [if_pos c2] at h
      exact k_Server_sendTo_b247_ok hp0 hL hF  g lv σ  _ h
    · rw [if_neg c2] at h
      refine cR_lift (fun _ _ kk => eE_aload_n lk160_217 g0 kk) ?_
      refine cR_lift (fun _ _ kk => eE_iload_n lk160_218 g1 kk) ?_
      refine cR_lift (fun _ _ kk => eE_iconst (v := 5) lk160_219 (by decide) kk) ?_
      obtain ⟨p3, h4, h⟩ := Option.bind_eq_some_iff.mp h
      refine cR_rep (fun _ hc => k_Server_letterTo_lt hc bl0 h4) (fun b5 => ?_)
      refine cR_virt (cl := 13) (i := l0) (as := [.int l1, .int ((5 : Int32))]) lk160_220 mr_13_351 na_144 rfl rfl (by first | exact Nat.le_of_ble_eq_true rfl | (simp [xcat, cvo_cat, cat_i, cat_j, cat_r]; done)) wv_144 wc_144 bl0 (k_Server_letterTo_ok hp0 hL hF (d := d + 1) bl0 h4) (fun m6  => ?_)
      refine cR_stA (j := 5) lk160_223 (Or.inl rfl) (by decide) (fun vq7 gq8 kq9 => ?_)
      have gq10 := kq9 0 _ (by decide) (fun e => absurd e (by decide)) g0
      have gq11 := kq9 1 _ (by decide) (fun e => absurd e (by decide)) g1
      refine cR_lift (fun _ _ kk => eE_aload_n lk160_225 gq10 kk) ?_
      refine cR_lift (fun _ _ kk => eE_aload lk160_226 gq8 kk) ?_
      refine cR_lift (fun _ _ kk => eE_aload_n lk160_228 gq10 kk) ?_
      refine cR_getO (cl' := 7) (i' := l0) lk160_229 rf_13_21 rfl rfl (cob_any rfl bl0) ?_
      refine cR_getA lk160_232 rf_13_380 (by decide) (cob_s (cl := 7) (cob_any rfl bl0) (by decide) rfl rfl) ?_
      refine cR_lift (fun _ _ kk => eE_iload_n lk160_235 gq11 kk) ?_
      obtain ⟨x12, h13, h⟩ := Option.bind_eq_some_iff.mp h
      refine cR_iald (cl := 7) (i := l0) (f := 0) lk160_236 (by decide) rfl (cob_s (cl := 7) (cob_any rfl bl0) (by decide) rfl rfl) h13 ?_
      refine cR_lift (fun _ _ kk => eE_iconst (v := 0) lk160_237 (by decide) kk) ?_
      obtain ⟨p14, h15, h⟩ := Option.bind_eq_some_iff.mp h
      refine cR_virt (cl := 13) (i := l0) (as := [.ref (coa E 8 p3.1), .int x12, .int ((0 : Int32))]) lk160_238 mr_13_400 na_152 rfl rfl (by first | exact Nat.le_of_ble_eq_true rfl | (simp [xcat, cvo_cat, cat_i, cat_j, cat_r]; done)) wv_152 wc_152 (cob_any rfl bl0) (k_Server_putEntries_ok hp0 hL hF (d := d + 9) (cob_any rfl bl0) b5 h15) (fun m16  => ?_)
      refine cR_lift (fun _ _ kk => eE_aload_n lk160_241 gq10 kk) ?_
      refine cR_lift (fun _ _ kk => eE_aload lk160_242 gq8 kk) ?_
      obtain ⟨p17, h18, h⟩ := Option.bind_eq_some_iff.mp h
      refine cR_virtG (by exact cQx_sub rfl) (cl := 13) (i := l0) (as := [.ref (coa E 8 p3.1)]) lk160_244 mr_13_362 na_132 rfl rfl (by first | exact Nat.le_of_ble_eq_true rfl | (simp [xcat, cvo_cat, cat_i, cat_j, cat_r]; done)) wv_132 wc_132 (cob_any rfl bl0) (k_Server_dispatch_ok hp0 hL hF (d := d + 0) (cob_any rfl bl0) (cob_mon m16 b5) h18) (fun m19 g_20 g_20e => ?_)
      exact k_Server_sendTo_b247_ok hp0 hL hF  g_20 vq7 p17  _ h
def k_Server_sendTo_b90 (F : Nat)  : Nat → CS → Nat → Int32 → Int32 → Int32 → Int32 → Option (CS)
  | 0, _, _, _, _, _, _ => none
  | n + 1, σ, l0, l1, l2, l3, l4 =>
    let KK := k_Server_sendTo_b90 F  n
    (crd σ 7 l0 0 l1).bind fun x21 =>
    if xc2 .gt x21 (cI σ 9 l0 6 0) = true then (
      k_Server_sendTo_b209 F  σ l0 l1 l2 l3
    ) else (
      (crd σ 7 l0 2 l1).bind fun x24 =>
      if xc2 .ge x24 l4 = true then (
        k_Server_sendTo_b209 F  σ l0 l1 l2 l3
      ) else (
        (crd σ 7 l0 0 l1).bind fun x27 =>
        (crd σ 7 l0 2 l1).bind fun x44 =>
        (cwr σ 7 l0 2 l1 (x44 + ((1 : Int32)))).bind fun σ46 =>
        (cwr σ46 7 l0 0 l1 (x27 + (cmin ((6 : Int32)) (((cI σ 9 l0 6 0) - x27) + ((1 : Int32)))))).bind fun σ48 =>
        (k_Server_letterTo σ48 l0 l1 ((5 : Int32))).bind fun p50 =>
        (k_Server_putEntries p50.2 l0 p50.1 x27 (cmin ((6 : Int32)) (((cI σ 9 l0 6 0) - x27) + ((1 : Int32))))).bind fun p63 =>
        (k_Server_dispatch F p63 l0 p50.1).bind fun p66 =>
        KK p66 l0 l1 l2 ((0 : Int32)) l4
      )
    )
set_option maxRecDepth 4000 in
theorem k_Server_sendTo_b90_ok {E : CE} {pF : Nat → List Value → xH → Option (Option Value × xH)} (hp0 : xNPc pF) (hL : lcAll E pF) (hF : lcF pF) {d : Nat} {F : Nat}   : ∀ (n : Nat) (g : CG) (lv : xL) (σ : CS) (l0 : Nat) (l1 : Int32) (l2 : Int32) (l3 : Int32) (l4 : Int32), (cob σ 13 l0) → (xg lv 0 = some (.ref (coa E 13 l0))) → (xg lv 1 = some (.int l1)) → (xg lv 2 = some (.int l2)) → (xg lv 3 = some (.int l3)) → (xg lv 4 = some (.int l4)) → ∀ res, k_Server_sendTo_b90 F  n σ l0 l1 l2 l3 l4 = some res → cR E (cQx [13, 14]) pF (d + 12) kT160 13 8 none none res g σ (90, lv, []) := by
  intro n
  induction n with
  | zero => intro g lv σ l0 l1 l2 l3 l4 bl0 g0 g1 g2 g3 g4 res h; simp [k_Server_sendTo_b90] at h
  | succ n hKK =>
    intro g lv σ l0 l1 l2 l3 l4 bl0 g0 g1 g2 g3 g4 res h
    unfold k_Server_sendTo_b90 at h
    dsimp only at h
    refine cR_lift (fun _ _ kk => eE_aload_n lk160_90 g0 kk) ?_
    refine cR_getO (cl' := 7) (i' := l0) lk160_91 rf_13_21 rfl rfl bl0 ?_
    refine cR_getA lk160_94 rf_13_380 (by decide) (cob_s (cl := 7) bl0 (by decide) rfl rfl) ?_
    refine cR_lift (fun _ _ kk => eE_iload_n lk160_97 g1 kk) ?_
    obtain ⟨x21, h22, h⟩ := Option.bind_eq_some_iff.mp h
    refine cR_iald (cl := 7) (i := l0) (f := 0) lk160_98 (by decide) rfl (cob_s (cl := 7) bl0 (by decide) rfl rfl) h22 ?_
    refine cR_lift (fun _ _ kk => eE_aload_n lk160_99 g0 kk) ?_
    refine cR_getO (cl' := 9) (i' := l0) lk160_100 rf_13_72 rfl rfl bl0 ?_
    refine cR_getI lk160_103 rf_13_103 rfl (cob_s (cl := 9) bl0 (by decide) rfl rfl) ?_
    refine cR_icmp (t := 209) lk160_106 (by decide) (fun c23 => ?_) (fun c23 => ?_)
    · rw [if_pos c23] at h
      exact k_Server_sendTo_b209_ok hp0 hL hF  g lv σ l0 l1 l2 l3 bl0 g0 g1 g2 g3 _ h
    · rw [if_neg c23] at h
      refine cR_lift (fun _ _ kk => eE_aload_n lk160_109 g0 kk) ?_
      refine cR_getO (cl' := 7) (i' := l0) lk160_110 rf_13_21 rfl rfl bl0 ?_
      refine cR_getA lk160_113 rf_13_383 (by decide) (cob_s (cl := 7) bl0 (by decide) rfl rfl) ?_
      refine cR_lift (fun _ _ kk => eE_iload_n lk160_116 g1 kk) ?_
      obtain ⟨x24, h25, h⟩ := Option.bind_eq_some_iff.mp h
      refine cR_iald (cl := 7) (i := l0) (f := 2) lk160_117 (by decide) rfl (cob_s (cl := 7) bl0 (by decide) rfl rfl) h25 ?_
      refine cR_lift (fun _ _ kk => eE_iload lk160_118 g4 kk) ?_
      refine cR_icmp (t := 209) lk160_120 (by decide) (fun c26 => ?_) (fun c26 => ?_)
      · rw [if_pos c26] at h
        exact k_Server_sendTo_b209_ok hp0 hL hF  g lv σ l0 l1 l2 l3 bl0 g0 g1 g2 g3 _ h
      · rw [if_neg c26] at h
        refine cR_lift (fun _ _ kk => eE_aload_n lk160_123 g0 kk) ?_
        refine cR_getO (cl' := 7) (i' := l0) lk160_124 rf_13_21 rfl rfl bl0 ?_
        refine cR_getA lk160_127 rf_13_380 (by decide) (cob_s (cl := 7) bl0 (by decide) rfl rfl) ?_
        refine cR_lift (fun _ _ kk => eE_iload_n lk160_130 g1 kk) ?_
        obtain ⟨x27, h28, h⟩ := Option.bind_eq_some_iff.mp h
        refine cR_iald (cl := 7) (i := l0) (f := 0) lk160_131 (by decide) rfl (cob_s (cl := 7) bl0 (by decide) rfl rfl) h28 ?_
        refine cR_stI (j := 5) lk160_132 (Or.inl rfl) (by decide) (fun vq29 gq30 kq31 => ?_)
        have gq32 := kq31 0 _ (by decide) (fun e => absurd e (by decide)) g0
        have gq33 := kq31 1 _ (by decide) (fun e => absurd e (by decide)) g1
        have gq34 := kq31 2 _ (by decide) (fun e => absurd e (by decide)) g2
        have gq35 := kq31 4 _ (by decide) (fun _ => rfl) g4
        refine cR_lift (fun _ _ kk => eE_bipush (v := 6) lk160_134 (by decide) kk) ?_
        refine cR_lift (fun _ _ kk => eE_aload_n lk160_136 gq32 kk) ?_
        refine cR_getO (cl' := 9) (i' := l0) lk160_137 rf_13_72 rfl rfl bl0 ?_
        refine cR_getI lk160_140 rf_13_103 rfl (cob_s (cl := 9) bl0 (by decide) rfl rfl) ?_
        refine cR_lift (fun _ _ kk => eE_iload lk160_143 gq30 kk) ?_
        refine cR_lift (fun _ _ kk => eE_isub lk160_145 kk) ?_
        refine cR_lift (fun _ _ kk => eE_iconst (v := 1) lk160_146 (by decide) kk) ?_
        refine cR_lift (fun _ _ kk => eE_iadd lk160_147 kk) ?_
        refine cR_min lk160_148 mr_13_397 (by first | exact Nat.le_of_ble_eq_true rfl | (simp [xcat, cvo_cat, cat_i, cat_j, cat_r]; done)) ?_
        refine cR_stI (j := 6) lk160_151 (Or.inl rfl) (by decide) (fun vq36 gq37 kq38 => ?_)
        have gq39 := kq38 0 _ (by decide) (fun e => absurd e (by decide)) gq32
        have gq40 := kq38 1 _ (by decide) (fun e => absurd e (by decide)) gq33
        have gq41 := kq38 2 _ (by decide) (fun e => absurd e (by decide)) gq34
        have gq42 := kq38 4 _ (by decide) (fun e => absurd e (by decide)) gq35
        have gq43 := kq38 5 _ (by decide) (fun _ => rfl) gq30
        refine cR_lift (fun _ _ kk => eE_aload_n lk160_153 gq39 kk) ?_
        refine cR_getO (cl' := 7) (i' := l0) lk160_154 rf_13_21 rfl rfl bl0 ?_
        refine cR_getA lk160_157 rf_13_383 (by decide) (cob_s (cl := 7) bl0 (by decide) rfl rfl) ?_
        refine cR_lift (fun _ _ kk => eE_iload_n lk160_160 gq40 kk) ?_
        refine cR_lift (fun _ _ kk => eE_dup2 lk160_161 rfl rfl kk) ?_
        obtain ⟨x44, h45, h⟩ := Option.bind_eq_some_iff.mp h
        refine cR_iald (cl := 7) (i := l0) (f := 2) lk160_162 (by decide) rfl (cob_s (cl := 7) bl0 (by decide) rfl rfl) h45 ?_
        refine cR_lift (fun _ _ kk => eE_iconst (v := 1) lk160_163 (by decide) kk) ?_
        refine cR_lift (fun _ _ kk => eE_iadd lk160_164 kk) ?_
        obtain ⟨σ46, h47, h⟩ := Option.bind_eq_some_iff.mp h
        refine cR_iast (cl := 7) (i := l0) (f := 2) lk160_165 (by decide) rfl (cob_s (cl := 7) bl0 (by decide) rfl rfl) h47 ?_
        refine cR_lift (fun _ _ kk => eE_aload_n lk160_166 gq39 kk) ?_
        refine cR_getO (cl' := 7) (i' := l0) lk160_167 rf_13_21 rfl rfl (cob_any rfl bl0) ?_
        refine cR_getA lk160_170 rf_13_380 (by decide) (cob_s (cl := 7) (cob_any rfl bl0) (by decide) rfl rfl) ?_
        refine cR_lift (fun _ _ kk => eE_iload_n lk160_173 gq40 kk) ?_
        refine cR_lift (fun _ _ kk => eE_iload lk160_174 gq43 kk) ?_
        refine cR_lift (fun _ _ kk => eE_iload lk160_176 gq37 kk) ?_
        refine cR_lift (fun _ _ kk => eE_iadd lk160_178 kk) ?_
        obtain ⟨σ48, h49, h⟩ := Option.bind_eq_some_iff.mp h
        refine cR_iast (cl := 7) (i := l0) (f := 0) lk160_179 (by decide) rfl (cob_s (cl := 7) (cob_any rfl bl0) (by decide) rfl rfl) h49 ?_
        refine cR_lift (fun _ _ kk => eE_aload_n lk160_180 gq39 kk) ?_
        refine cR_lift (fun _ _ kk => eE_iload_n lk160_181 gq40 kk) ?_
        refine cR_lift (fun _ _ kk => eE_iconst (v := 5) lk160_182 (by decide) kk) ?_
        obtain ⟨p50, h51, h⟩ := Option.bind_eq_some_iff.mp h
        refine cR_rep (fun _ hc => k_Server_letterTo_lt hc (cob_any rfl bl0) h51) (fun b52 => ?_)
        refine cR_virt (cl := 13) (i := l0) (as := [.int l1, .int ((5 : Int32))]) lk160_183 mr_13_351 na_144 rfl rfl (by first | exact Nat.le_of_ble_eq_true rfl | (simp [xcat, cvo_cat, cat_i, cat_j, cat_r]; done)) wv_144 wc_144 (cob_any rfl bl0) (k_Server_letterTo_ok hp0 hL hF (d := d + 1) (cob_any rfl bl0) h51) (fun m53  => ?_)
        refine cR_stA (j := 7) lk160_186 (Or.inl rfl) (by decide) (fun vq54 gq55 kq56 => ?_)
        have gq57 := kq56 0 _ (by decide) (fun e => absurd e (by decide)) gq39
        have gq58 := kq56 1 _ (by decide) (fun e => absurd e (by decide)) gq40
        have gq59 := kq56 2 _ (by decide) (fun e => absurd e (by decide)) gq41
        have gq60 := kq56 4 _ (by decide) (fun e => absurd e (by decide)) gq42
        have gq61 := kq56 5 _ (by decide) (fun e => absurd e (by decide)) gq43
        have gq62 := kq56 6 _ (by decide) (fun _ => rfl) gq37
        refine cR_lift (fun _ _ kk => eE_aload_n lk160_188 gq57 kk) ?_
        refine cR_lift (fun _ _ kk => eE_aload lk160_189 gq55 kk) ?_
        refine cR_lift (fun _ _ kk => eE_iload lk160_191 gq61 kk) ?_
        refine cR_lift (fun _ _ kk => eE_iload lk160_193 gq62 kk) ?_
        obtain ⟨p63, h64, h⟩ := Option.bind_eq_some_iff.mp h
        refine cR_virt (cl := 13) (i := l0) (as := [.ref (coa E 8 p50.1), .int x27, .int (cmin ((6 : Int32)) (((cI σ 9 l0 6 0) - x27) + ((1 : Int32))))]) lk160_195 mr_13_400 na_152 rfl rfl (by first | exact Nat.le_of_ble_eq_true rfl | (simp [xcat, cvo_cat, cat_i, cat_j, cat_r]; done)) wv_152 wc_152 (cob_any rfl bl0) (k_Server_putEntries_ok hp0 hL hF (d := d + 9) (cob_any rfl bl0) b52 h64) (fun m65  => ?_)
        refine cR_lift (fun _ _ kk => eE_aload_n lk160_198 gq57 kk) ?_
        refine cR_lift (fun _ _ kk => eE_aload lk160_199 gq55 kk) ?_
        obtain ⟨p66, h67, h⟩ := Option.bind_eq_some_iff.mp h
        refine cR_virtG (by exact cQx_sub rfl) (cl := 13) (i := l0) (as := [.ref (coa E 8 p50.1)]) lk160_201 mr_13_362 na_132 rfl rfl (by first | exact Nat.le_of_ble_eq_true rfl | (simp [xcat, cvo_cat, cat_i, cat_j, cat_r]; done)) wv_132 wc_132 (cob_any rfl bl0) (k_Server_dispatch_ok hp0 hL hF (d := d + 0) (cob_any rfl bl0) (cob_mon m65 b52) h67) (fun m68 g_69 g_69e => ?_)
        refine cR_lift (fun _ _ kk => eE_iconst (v := 0) lk160_204 (by decide) kk) ?_
        refine cR_stI (j := 3) lk160_205 (Or.inr ⟨_, rfl, rfl⟩) (by decide) (fun vq70 gq71 kq72 => ?_)
        have gq73 := kq72 0 _ (by decide) (fun e => absurd e (by decide)) gq57
        have gq74 := kq72 1 _ (by decide) (fun e => absurd e (by decide)) gq58
        have gq75 := kq72 2 _ (by decide) (fun _ => rfl) gq59
        have gq76 := kq72 4 _ (by decide) (fun e => absurd e (by decide)) gq60
        refine cR_lift (fun _ _ kk => eE_goto (t := 90) lk160_206 (by decide) kk) ?_
        exact hKK g_69 vq70 p66 l0 l1 l2 ((0 : Int32)) l4 (cob_any rfl bl0) gq73 gq74 gq75 gq71 gq76 _ h
def k_Server_sendTo_b88 (F : Nat)  (σ : CS) (s0 : Int32) (l0 : Nat) (l1 : Int32) (l2 : Int32) (l3 : Int32) : Option (CS) :=
  k_Server_sendTo_b90 F  F σ l0 l1 l2 l3 s0
set_option maxRecDepth 4000 in
theorem k_Server_sendTo_b88_ok {E : CE} {pF : Nat → List Value → xH → Option (Option Value × xH)} (hp0 : xNPc pF) (hL : lcAll E pF) (hF : lcF pF) {d : Nat} {F : Nat}   : ∀ (g : CG) (lv : xL) (σ : CS) (s0 : Int32) (l0 : Nat) (l1 : Int32) (l2 : Int32) (l3 : Int32), (cob σ 13 l0) → (xg lv 0 = some (.ref (coa E 13 l0))) → (xg lv 1 = some (.int l1)) → (xg lv 2 = some (.int l2)) → (xg lv 3 = some (.int l3)) → ∀ res, k_Server_sendTo_b88 F  σ s0 l0 l1 l2 l3 = some res → cR E (cQx [13, 14]) pF (d + 12) kT160 13 8 none none res g σ (88, lv, [.int s0]) := by
  intro g lv σ s0 l0 l1 l2 l3 bl0 g0 g1 g2 g3 res h
  unfold k_Server_sendTo_b88 at h
  refine cR_stI (j := 4) lk160_88 (Or.inl rfl) (by decide) (fun vq77 gq78 kq79 => ?_)
  have gq80 := kq79 0 _ (by decide) (fun e => absurd e (by decide)) g0
  have gq81 := kq79 1 _ (by decide) (fun e => absurd e (by decide)) g1
  have gq82 := kq79 2 _ (by decide) (fun e => absurd e (by decide)) g2
  have gq83 := kq79 3 _ (by decide) (fun _ => rfl) g3
  exact k_Server_sendTo_b90_ok hp0 hL hF  F g vq77 σ l0 l1 l2 l3 s0 bl0 gq80 gq81 gq82 gq83 gq78 _ h
def k_Server_sendTo_b0 (F : Nat)  (σ : CS) (l0 : Nat) (l1 : Int32) (l2 : Int32) : Option (CS) :=
  (crd σ 7 l0 0 l1).bind fun x84 =>
  if xc2 .gt x84 (cI σ 9 l0 3 0) = true then (
    (crd σ 7 l0 6 l1).bind fun x93 =>
    if xc0 .eq x93 = true then (
      k_Server_sendTo_b88 F  σ ((4 : Int32)) l0 l1 l2 ((1 : Int32))
    ) else (
      k_Server_sendTo_b88 F  σ ((1 : Int32)) l0 l1 l2 ((1 : Int32))
    )
  ) else (
    (crd σ 7 l0 2 l1).bind fun x96 =>
    if xc0 .ne x96 = true then (
      k_Server_sendTo_b68 F  σ
    ) else (
      (cwr σ 7 l0 2 l1 ((1 : Int32))).bind fun σ99 =>
      (k_Server_letterTo σ99 l0 l1 ((7 : Int32))).bind fun p101 =>
      (crd p101.2 7 l0 3 l1).bind fun x110 =>
      (k_Server_putPiece p101.2 l0 p101.1 x110).bind fun p112 =>
      (k_Server_dispatch F p112 l0 p101.1).bind fun p115 =>
      k_Server_sendTo_b68 F  p115
    )
  )
set_option maxRecDepth 4000 in
theorem k_Server_sendTo_b0_ok {E : CE} {pF : Nat → List Value → xH → Option (Option Value × xH)} (hp0 : xNPc pF) (hL : lcAll E pF) (hF : lcF pF) {d : Nat} {F : Nat}   : ∀ (g : CG) (lv : xL) (σ : CS) (l0 : Nat) (l1 : Int32) (l2 : Int32), (cob σ 13 l0) → (xg lv 0 = some (.ref (coa E 13 l0))) → (xg lv 1 = some (.int l1)) → (xg lv 2 = some (.int l2)) → ∀ res, k_Server_sendTo_b0 F  σ l0 l1 l2 = some res → cR E (cQx [13, 14]) pF (d + 12) kT160 13 8 none none res g σ (0, lv, []) := by
  intro g lv σ l0 l1 l2 bl0 g0 g1 g2 res h
  unfold k_Server_sendTo_b0 at h
  refine cR_lift (fun _ _ kk => eE_aload_n lk160_0 g0 kk) ?_
  refine cR_getO (cl' := 7) (i' := l0) lk160_1 rf_13_21 rfl rfl bl0 ?_
  refine cR_getA lk160_4 rf_13_380 (by decide) (cob_s (cl := 7) bl0 (by decide) rfl rfl) ?_
  refine cR_lift (fun _ _ kk => eE_iload_n lk160_7 g1 kk) ?_
  obtain ⟨x84, h85, h⟩ := Option.bind_eq_some_iff.mp h
  refine cR_iald (cl := 7) (i := l0) (f := 0) lk160_8 (by decide) rfl (cob_s (cl := 7) bl0 (by decide) rfl rfl) h85 ?_
  refine cR_lift (fun _ _ kk => eE_aload_n lk160_9 g0 kk) ?_
  refine cR_getO (cl' := 9) (i' := l0) lk160_10 rf_13_72 rfl rfl bl0 ?_
  refine cR_getI lk160_13 rf_13_100 rfl (cob_s (cl := 9) bl0 (by decide) rfl rfl) ?_
  refine cR_icmp (t := 69) lk160_16 (by decide) (fun c86 => ?_) (fun c86 => ?_)
  · rw [if_pos c86] at h
    refine cR_lift (fun _ _ kk => eE_iconst (v := 1) lk160_69 (by decide) kk) ?_
    refine cR_stI (j := 3) lk160_70 (Or.inr ⟨_, rfl, rfl⟩) (by decide) (fun vq87 gq88 kq89 => ?_)
    have gq90 := kq89 0 _ (by decide) (fun e => absurd e (by decide)) g0
    have gq91 := kq89 1 _ (by decide) (fun e => absurd e (by decide)) g1
    have gq92 := kq89 2 _ (by decide) (fun _ => rfl) g2
    refine cR_lift (fun _ _ kk => eE_aload_n lk160_71 gq90 kk) ?_
    refine cR_getO (cl' := 7) (i' := l0) lk160_72 rf_13_21 rfl rfl bl0 ?_
    refine cR_getA lk160_75 rf_13_393 (by decide) (cob_s (cl := 7) bl0 (by decide) rfl rfl) ?_
    refine cR_lift (fun _ _ kk => eE_iload_n lk160_78 gq91 kk) ?_
    obtain ⟨x93, h94, h⟩ := Option.bind_eq_some_iff.mp h
    refine cR_bald (cl := 7) (i := l0) (f := 6) lk160_79 (by decide) (Or.inr rfl) (cob_s (cl := 7) bl0 (by decide) rfl rfl) h94 ?_
    refine cR_if (t := 87) lk160_80 (by decide) (fun c95 => ?_) (fun c95 => ?_)
    · rw [if_pos c95] at h
      refine cR_lift (fun _ _ kk => eE_iconst (v := 4) lk160_87 (by decide) kk) ?_
      exact k_Server_sendTo_b88_ok hp0 hL hF  g vq87 σ ((4 : Int32)) l0 l1 l2 ((1 : Int32)) bl0 gq90 gq91 gq92 gq88 _ h
    · rw [if_neg c95] at h
      refine cR_lift (fun _ _ kk => eE_iconst (v := 1) lk160_83 (by decide) kk) ?_
      refine cR_lift (fun _ _ kk => eE_goto (t := 88) lk160_84 (by decide) kk) ?_
      exact k_Server_sendTo_b88_ok hp0 hL hF  g vq87 σ ((1 : Int32)) l0 l1 l2 ((1 : Int32)) bl0 gq90 gq91 gq92 gq88 _ h
  · rw [if_neg c86] at h
    refine cR_lift (fun _ _ kk => eE_aload_n lk160_19 g0 kk) ?_
    refine cR_getO (cl' := 7) (i' := l0) lk160_20 rf_13_21 rfl rfl bl0 ?_
    refine cR_getA lk160_23 rf_13_383 (by decide) (cob_s (cl := 7) bl0 (by decide) rfl rfl) ?_
    refine cR_lift (fun _ _ kk => eE_iload_n lk160_26 g1 kk) ?_
    obtain ⟨x96, h97, h⟩ := Option.bind_eq_some_iff.mp h
    refine cR_iald (cl := 7) (i := l0) (f := 2) lk160_27 (by decide) rfl (cob_s (cl := 7) bl0 (by decide) rfl rfl) h97 ?_
    refine cR_if (t := 68) lk160_28 (by decide) (fun c98 => ?_) (fun c98 => ?_)
    · rw [if_pos c98] at h
      exact k_Server_sendTo_b68_ok hp0 hL hF  g lv σ  _ h
    · rw [if_neg c98] at h
      refine cR_lift (fun _ _ kk => eE_aload_n lk160_31 g0 kk) ?_
      refine cR_getO (cl' := 7) (i' := l0) lk160_32 rf_13_21 rfl rfl bl0 ?_
      refine cR_getA lk160_35 rf_13_383 (by decide) (cob_s (cl := 7) bl0 (by decide) rfl rfl) ?_
      refine cR_lift (fun _ _ kk => eE_iload_n lk160_38 g1 kk) ?_
      refine cR_lift (fun _ _ kk => eE_iconst (v := 1) lk160_39 (by decide) kk) ?_
      obtain ⟨σ99, h100, h⟩ := Option.bind_eq_some_iff.mp h
      refine cR_iast (cl := 7) (i := l0) (f := 2) lk160_40 (by decide) rfl (cob_s (cl := 7) bl0 (by decide) rfl rfl) h100 ?_
      refine cR_lift (fun _ _ kk => eE_aload_n lk160_41 g0 kk) ?_
      refine cR_lift (fun _ _ kk => eE_iload_n lk160_42 g1 kk) ?_
      refine cR_lift (fun _ _ kk => eE_bipush (v := 7) lk160_43 (by decide) kk) ?_
      obtain ⟨p101, h102, h⟩ := Option.bind_eq_some_iff.mp h
      refine cR_rep (fun _ hc => k_Server_letterTo_lt hc (cob_any rfl bl0) h102) (fun b103 => ?_)
      refine cR_virt (cl := 13) (i := l0) (as := [.int l1, .int ((7 : Int32))]) lk160_45 mr_13_351 na_144 rfl rfl (by first | exact Nat.le_of_ble_eq_true rfl | (simp [xcat, cvo_cat, cat_i, cat_j, cat_r]; done)) wv_144 wc_144 (cob_any rfl bl0) (k_Server_letterTo_ok hp0 hL hF (d := d + 1) (cob_any rfl bl0) h102) (fun m104  => ?_)
      refine cR_stA (j := 3) lk160_48 (Or.inr ⟨_, rfl, rfl⟩) (by decide) (fun vq105 gq106 kq107 => ?_)
      have gq108 := kq107 0 _ (by decide) (fun e => absurd e (by decide)) g0
      have gq109 := kq107 1 _ (by decide) (fun e => absurd e (by decide)) g1
      refine cR_lift (fun _ _ kk => eE_aload_n lk160_49 gq108 kk) ?_
      refine cR_lift (fun _ _ kk => eE_aload_n lk160_50 gq106 kk) ?_
      refine cR_lift (fun _ _ kk => eE_aload_n lk160_51 gq108 kk) ?_
      refine cR_getO (cl' := 7) (i' := l0) lk160_52 rf_13_21 rfl rfl (cob_any rfl bl0) ?_
      refine cR_getA lk160_55 rf_13_386 (by decide) (cob_s (cl := 7) (cob_any rfl bl0) (by decide) rfl rfl) ?_
      refine cR_lift (fun _ _ kk => eE_iload_n lk160_58 gq109 kk) ?_
      obtain ⟨x110, h111, h⟩ := Option.bind_eq_some_iff.mp h
      refine cR_iald (cl := 7) (i := l0) (f := 3) lk160_59 (by decide) rfl (cob_s (cl := 7) (cob_any rfl bl0) (by decide) rfl rfl) h111 ?_
      obtain ⟨p112, h113, h⟩ := Option.bind_eq_some_iff.mp h
      refine cR_virt (cl := 13) (i := l0) (as := [.ref (coa E 8 p101.1), .int x110]) lk160_60 mr_13_389 na_153 rfl rfl (by first | exact Nat.le_of_ble_eq_true rfl | (simp [xcat, cvo_cat, cat_i, cat_j, cat_r]; done)) wv_153 wc_153 (cob_any rfl bl0) (k_Server_putPiece_ok hp0 hL hF (d := d + 10) (cob_any rfl bl0) b103 h113) (fun m114  => ?_)
      refine cR_lift (fun _ _ kk => eE_aload_n lk160_63 gq108 kk) ?_
      refine cR_lift (fun _ _ kk => eE_aload_n lk160_64 gq106 kk) ?_
      obtain ⟨p115, h116, h⟩ := Option.bind_eq_some_iff.mp h
      refine cR_virtG (by exact cQx_sub rfl) (cl := 13) (i := l0) (as := [.ref (coa E 8 p101.1)]) lk160_65 mr_13_362 na_132 rfl rfl (by first | exact Nat.le_of_ble_eq_true rfl | (simp [xcat, cvo_cat, cat_i, cat_j, cat_r]; done)) wv_132 wc_132 (cob_any rfl bl0) (k_Server_dispatch_ok hp0 hL hF (d := d + 0) (cob_any rfl bl0) (cob_mon m114 b103) h116) (fun m117 g_118 g_118e => ?_)
      exact k_Server_sendTo_b68_ok hp0 hL hF  g_118 vq105 p115  _ h
def k_Server_sendTo (F : Nat) (σ : CS) (l0 : Nat) (l1 : Int32) (l2 : Int32) : Option (CS) := k_Server_sendTo_b0 F σ l0 l1 l2
theorem k_Server_sendTo_ok {E : CE} {pF : Nat → List Value → xH → Option (Option Value × xH)} (hp0 : xNPc pF) (hL : lcAll E pF) (hF : lcF pF) {d : Nat} {g : CG} {σ : CS} {F : Nat} {l0 : Nat} {l1 : Int32} {l2 : Int32} {res : CS} (bl0 : cob σ 13 l0) (h : k_Server_sendTo F σ l0 l1 l2 = some res) : cCo E (cQx [13, 14]) pF (d + 13) 160 [.ref (coa E 13 l0), .int l1, .int l2] none res g σ :=
  cCo_R kk_160 mo_160 ni_160 xm_160 (Nat.le_of_ble_eq_true rfl) (hp0 160 (by decide) _) (k_Server_sendTo_b0_ok hp0 hL hF g _ σ l0 l1 l2 bl0 rfl rfl rfl _ h)
