/-! printed by wip/whole/gen_cls.py -/
/-! k_Askings_add (15), depth 2 -/
def k_Askings_add_b40  (σ : CS) (l0 : Nat) (l1 : Int32) (l2 : Int32) (l3 : Int32) (l4 : Int32) (l5 : Int32) : Option ((Int32) × CS) :=
  (cwr σ 4 l0 2 l5 l1).bind fun σ1 =>
  (cwr σ1 4 l0 2 (l5 + ((1 : Int32))) l2).bind fun σ3 =>
  (cwr σ3 4 l0 2 (l5 + ((2 : Int32))) (cI σ3 4 l0 1 0)).bind fun σ5 =>
  (cwr σ5 4 l0 2 (l5 + ((3 : Int32))) ((-1 : Int32))).bind fun σ7 =>
  (cwr σ7 4 l0 2 (l5 + ((4 : Int32))) ((0 : Int32))).bind fun σ9 =>
  (cwr σ9 4 l0 2 (l5 + ((5 : Int32))) ((-1 : Int32))).bind fun σ11 =>
  (cwr σ11 4 l0 2 (l5 + ((6 : Int32))) (cI σ11 4 l0 4 0)).bind fun σ13 =>
  (cwr σ13 4 l0 2 (l5 + ((7 : Int32))) l3).bind fun σ15 =>
  (cwr σ15 4 l0 2 (l5 + ((8 : Int32))) l4).bind fun σ17 =>
  (cwr σ17 4 l0 2 (l5 + ((9 : Int32))) ((0 : Int32))).bind fun σ19 =>
  (some (csI σ19 4 l0 1 0 ((cI σ19 4 l0 1 0) + ((1 : Int32))))).bind fun σ21 =>
  (some (csI σ21 4 l0 0 0 ((cI σ21 4 l0 0 0) + ((1 : Int32))))).bind fun σ23 =>
  some ((cI σ23 4 l0 0 0) - ((1 : Int32)), σ23)
set_option maxRecDepth 4000 in
theorem k_Askings_add_b40_ok {E : CE} {pF : Nat → List Value → xH → Option (Option Value × xH)} (hp0 : xNPc pF) (hL : lcAll pF) (hF : lcF pF) {d : Nat}   : ∀ (g : CG) (lv : xL) (σ : CS) (l0 : Nat) (l1 : Int32) (l2 : Int32) (l3 : Int32) (l4 : Int32) (l5 : Int32), (cob σ 4 l0) → (xg lv 0 = some (.ref (coa E 4 l0))) → (xg lv 1 = some (.int l1)) → (xg lv 2 = some (.int l2)) → (xg lv 3 = some (.int l3)) → (xg lv 4 = some (.int l4)) → (xg lv 5 = some (.int l5)) → ∀ res, k_Askings_add_b40  σ l0 l1 l2 l3 l4 l5 = some res → cR E false pF (d + 1) kT15 4 6 (some FieldType.int) (some (.int res.1)) res.2 g σ (40, lv, []) := by
  intro g lv σ l0 l1 l2 l3 l4 l5 bl0 g0 g1 g2 g3 g4 g5 res h
  unfold k_Askings_add_b40 at h
  refine cR_lift (fun _ _ kk => eE_aload_n lk15_40 g0 kk) ?_
  refine cR_getA lk15_41 rf_4_11 (by decide) bl0 ?_
  refine cR_lift (fun _ _ kk => eE_iload lk15_44 g5 kk) ?_
  refine cR_lift (fun _ _ kk => eE_iload_n lk15_46 g1 kk) ?_
  obtain ⟨σ1, h2, h⟩ := Option.bind_eq_some_iff.mp h
  refine cR_iast (cl := 4) (i := l0) (f := 2) lk15_47 (by decide) rfl bl0 h2 ?_
  refine cR_lift (fun _ _ kk => eE_aload_n lk15_48 g0 kk) ?_
  refine cR_getA lk15_49 rf_4_11 (by decide) (cob_any rfl bl0) ?_
  refine cR_lift (fun _ _ kk => eE_iload lk15_52 g5 kk) ?_
  refine cR_lift (fun _ _ kk => eE_iconst (v := 1) lk15_54 (by decide) kk) ?_
  refine cR_lift (fun _ _ kk => eE_iadd lk15_55 kk) ?_
  refine cR_lift (fun _ _ kk => eE_iload_n lk15_56 g2 kk) ?_
  obtain ⟨σ3, h4, h⟩ := Option.bind_eq_some_iff.mp h
  refine cR_iast (cl := 4) (i := l0) (f := 2) lk15_57 (by decide) rfl (cob_any rfl bl0) h4 ?_
  refine cR_lift (fun _ _ kk => eE_aload_n lk15_58 g0 kk) ?_
  refine cR_getA lk15_59 rf_4_11 (by decide) (cob_any rfl bl0) ?_
  refine cR_lift (fun _ _ kk => eE_iload lk15_62 g5 kk) ?_
  refine cR_lift (fun _ _ kk => eE_iconst (v := 2) lk15_64 (by decide) kk) ?_
  refine cR_lift (fun _ _ kk => eE_iadd lk15_65 kk) ?_
  refine cR_lift (fun _ _ kk => eE_aload_n lk15_66 g0 kk) ?_
  refine cR_getI lk15_67 rf_4_29 rfl (cob_any rfl bl0) ?_
  obtain ⟨σ5, h6, h⟩ := Option.bind_eq_some_iff.mp h
  refine cR_iast (cl := 4) (i := l0) (f := 2) lk15_70 (by decide) rfl (cob_any rfl bl0) h6 ?_
  refine cR_lift (fun _ _ kk => eE_aload_n lk15_71 g0 kk) ?_
  refine cR_getA lk15_72 rf_4_11 (by decide) (cob_any rfl bl0) ?_
  refine cR_lift (fun _ _ kk => eE_iload lk15_75 g5 kk) ?_
  refine cR_lift (fun _ _ kk => eE_iconst (v := 3) lk15_77 (by decide) kk) ?_
  refine cR_lift (fun _ _ kk => eE_iadd lk15_78 kk) ?_
  refine cR_lift (fun _ _ kk => eE_iconst (v := (-1)) lk15_79 (by decide) kk) ?_
  obtain ⟨σ7, h8, h⟩ := Option.bind_eq_some_iff.mp h
  refine cR_iast (cl := 4) (i := l0) (f := 2) lk15_80 (by decide) rfl (cob_any rfl bl0) h8 ?_
  refine cR_lift (fun _ _ kk => eE_aload_n lk15_81 g0 kk) ?_
  refine cR_getA lk15_82 rf_4_11 (by decide) (cob_any rfl bl0) ?_
  refine cR_lift (fun _ _ kk => eE_iload lk15_85 g5 kk) ?_
  refine cR_lift (fun _ _ kk => eE_iconst (v := 4) lk15_87 (by decide) kk) ?_
  refine cR_lift (fun _ _ kk => eE_iadd lk15_88 kk) ?_
  refine cR_lift (fun _ _ kk => eE_iconst (v := 0) lk15_89 (by decide) kk) ?_
  obtain ⟨σ9, h10, h⟩ := Option.bind_eq_some_iff.mp h
  refine cR_iast (cl := 4) (i := l0) (f := 2) lk15_90 (by decide) rfl (cob_any rfl bl0) h10 ?_
  refine cR_lift (fun _ _ kk => eE_aload_n lk15_91 g0 kk) ?_
  refine cR_getA lk15_92 rf_4_11 (by decide) (cob_any rfl bl0) ?_
  refine cR_lift (fun _ _ kk => eE_iload lk15_95 g5 kk) ?_
  refine cR_lift (fun _ _ kk => eE_iconst (v := 5) lk15_97 (by decide) kk) ?_
  refine cR_lift (fun _ _ kk => eE_iadd lk15_98 kk) ?_
  refine cR_lift (fun _ _ kk => eE_iconst (v := (-1)) lk15_99 (by decide) kk) ?_
  obtain ⟨σ11, h12, h⟩ := Option.bind_eq_some_iff.mp h
  refine cR_iast (cl := 4) (i := l0) (f := 2) lk15_100 (by decide) rfl (cob_any rfl bl0) h12 ?_
  refine cR_lift (fun _ _ kk => eE_aload_n lk15_101 g0 kk) ?_
  refine cR_getA lk15_102 rf_4_11 (by decide) (cob_any rfl bl0) ?_
  refine cR_lift (fun _ _ kk => eE_iload lk15_105 g5 kk) ?_
  refine cR_lift (fun _ _ kk => eE_bipush (v := 6) lk15_107 (by decide) kk) ?_
  refine cR_lift (fun _ _ kk => eE_iadd lk15_109 kk) ?_
  refine cR_lift (fun _ _ kk => eE_aload_n lk15_110 g0 kk) ?_
  refine cR_getI lk15_111 rf_4_32 rfl (cob_any rfl bl0) ?_
  obtain ⟨σ13, h14, h⟩ := Option.bind_eq_some_iff.mp h
  refine cR_iast (cl := 4) (i := l0) (f := 2) lk15_114 (by decide) rfl (cob_any rfl bl0) h14 ?_
  refine cR_lift (fun _ _ kk => eE_aload_n lk15_115 g0 kk) ?_
  refine cR_getA lk15_116 rf_4_11 (by decide) (cob_any rfl bl0) ?_
  refine cR_lift (fun _ _ kk => eE_iload lk15_119 g5 kk) ?_
  refine cR_lift (fun _ _ kk => eE_bipush (v := 7) lk15_121 (by decide) kk) ?_
  refine cR_lift (fun _ _ kk => eE_iadd lk15_123 kk) ?_
  refine cR_lift (fun _ _ kk => eE_iload_n lk15_124 g3 kk) ?_
  obtain ⟨σ15, h16, h⟩ := Option.bind_eq_some_iff.mp h
  refine cR_iast (cl := 4) (i := l0) (f := 2) lk15_125 (by decide) rfl (cob_any rfl bl0) h16 ?_
  refine cR_lift (fun _ _ kk => eE_aload_n lk15_126 g0 kk) ?_
  refine cR_getA lk15_127 rf_4_11 (by decide) (cob_any rfl bl0) ?_
  refine cR_lift (fun _ _ kk => eE_iload lk15_130 g5 kk) ?_
  refine cR_lift (fun _ _ kk => eE_bipush (v := 8) lk15_132 (by decide) kk) ?_
  refine cR_lift (fun _ _ kk => eE_iadd lk15_134 kk) ?_
  refine cR_lift (fun _ _ kk => eE_iload lk15_135 g4 kk) ?_
  obtain ⟨σ17, h18, h⟩ := Option.bind_eq_some_iff.mp h
  refine cR_iast (cl := 4) (i := l0) (f := 2) lk15_137 (by decide) rfl (cob_any rfl bl0) h18 ?_
  refine cR_lift (fun _ _ kk => eE_aload_n lk15_138 g0 kk) ?_
  refine cR_getA lk15_139 rf_4_11 (by decide) (cob_any rfl bl0) ?_
  refine cR_lift (fun _ _ kk => eE_iload lk15_142 g5 kk) ?_
  refine cR_lift (fun _ _ kk => eE_bipush (v := 9) lk15_144 (by decide) kk) ?_
  refine cR_lift (fun _ _ kk => eE_iadd lk15_146 kk) ?_
  refine cR_lift (fun _ _ kk => eE_iconst (v := 0) lk15_147 (by decide) kk) ?_
  obtain ⟨σ19, h20, h⟩ := Option.bind_eq_some_iff.mp h
  refine cR_iast (cl := 4) (i := l0) (f := 2) lk15_148 (by decide) rfl (cob_any rfl bl0) h20 ?_
  refine cR_lift (fun _ _ kk => eE_aload_n lk15_149 g0 kk) ?_
  refine cR_lift (fun _ _ kk => eE_dup lk15_150 rfl kk) ?_
  refine cR_getI lk15_151 rf_4_29 rfl (cob_any rfl bl0) ?_
  refine cR_lift (fun _ _ kk => eE_iconst (v := 1) lk15_154 (by decide) kk) ?_
  refine cR_lift (fun _ _ kk => eE_iadd lk15_155 kk) ?_
  obtain ⟨σ21, h22, h⟩ := Option.bind_eq_some_iff.mp h
  refine cR_putI lk15_156 rf_4_29 rfl (cob_any rfl bl0) pf_4_1 rfl h22 ?_
  refine cR_lift (fun _ _ kk => eE_aload_n lk15_159 g0 kk) ?_
  refine cR_lift (fun _ _ kk => eE_dup lk15_160 rfl kk) ?_
  refine cR_getI lk15_161 rf_4_19 rfl (cob_any rfl bl0) ?_
  refine cR_lift (fun _ _ kk => eE_iconst (v := 1) lk15_164 (by decide) kk) ?_
  refine cR_lift (fun _ _ kk => eE_iadd lk15_165 kk) ?_
  obtain ⟨σ23, h24, h⟩ := Option.bind_eq_some_iff.mp h
  refine cR_putI lk15_166 rf_4_19 rfl (cob_any rfl bl0) pf_4_0 rfl h24 ?_
  refine cR_lift (fun _ _ kk => eE_aload_n lk15_169 g0 kk) ?_
  refine cR_getI lk15_170 rf_4_19 rfl (cob_any rfl bl0) ?_
  refine cR_lift (fun _ _ kk => eE_iconst (v := 1) lk15_173 (by decide) kk) ?_
  refine cR_lift (fun _ _ kk => eE_isub lk15_174 kk) ?_
  cases h
  exact cR_end lk15_175 rfl rfl rfl
def k_Askings_add_b0  (σ : CS) (l0 : Nat) (l1 : Int32) (l2 : Int32) (l3 : Int32) (l4 : Int32) : Option ((Int32) × CS) :=
  if xc2 .ge (Int32.ofNat (cal σ 4 l0 2)) (((cI σ 4 l0 0 0) * ((10 : Int32))) + ((10 : Int32))) = true then (
    k_Askings_add_b40  σ l0 l1 l2 l3 l4 ((cI σ 4 l0 0 0) * ((10 : Int32)))
  ) else (
    (cext σ 4 l0 2 (((2 : Int32)) * (((cI σ 4 l0 0 0) * ((10 : Int32))) + ((10 : Int32))))).bind fun σ34 =>
    k_Askings_add_b40  σ34 l0 l1 l2 l3 l4 ((cI σ 4 l0 0 0) * ((10 : Int32)))
  )
set_option maxRecDepth 4000 in
theorem k_Askings_add_b0_ok {E : CE} {pF : Nat → List Value → xH → Option (Option Value × xH)} (hp0 : xNPc pF) (hL : lcAll pF) (hF : lcF pF) {d : Nat}   : ∀ (g : CG) (lv : xL) (σ : CS) (l0 : Nat) (l1 : Int32) (l2 : Int32) (l3 : Int32) (l4 : Int32), (cob σ 4 l0) → (xg lv 0 = some (.ref (coa E 4 l0))) → (xg lv 1 = some (.int l1)) → (xg lv 2 = some (.int l2)) → (xg lv 3 = some (.int l3)) → (xg lv 4 = some (.int l4)) → ∀ res, k_Askings_add_b0  σ l0 l1 l2 l3 l4 = some res → cR E false pF (d + 1) kT15 4 6 (some FieldType.int) (some (.int res.1)) res.2 g σ (0, lv, []) := by
  intro g lv σ l0 l1 l2 l3 l4 bl0 g0 g1 g2 g3 g4 res h
  unfold k_Askings_add_b0 at h
  refine cR_lift (fun _ _ kk => eE_aload_n lk15_0 g0 kk) ?_
  refine cR_getI lk15_1 rf_4_19 rfl bl0 ?_
  refine cR_lift (fun _ _ kk => eE_bipush (v := 10) lk15_4 (by decide) kk) ?_
  refine cR_lift (fun _ _ kk => eE_imul lk15_6 kk) ?_
  refine cR_stI (j := 5) lk15_7 (Or.inl rfl) (by decide) (fun vq25 gq26 kq27 => ?_)
  have gq28 := kq27 0 _ (by decide) (fun e => absurd e (by decide)) g0
  have gq29 := kq27 1 _ (by decide) (fun e => absurd e (by decide)) g1
  have gq30 := kq27 2 _ (by decide) (fun e => absurd e (by decide)) g2
  have gq31 := kq27 3 _ (by decide) (fun e => absurd e (by decide)) g3
  have gq32 := kq27 4 _ (by decide) (fun _ => rfl) g4
  refine cR_lift (fun _ _ kk => eE_aload_n lk15_9 gq28 kk) ?_
  refine cR_getA lk15_10 rf_4_11 (by decide) bl0 ?_
  refine cR_alen (cl := 4) (i := l0) (f := 2) lk15_13 (by decide) (by decide) bl0 ?_
  refine cR_lift (fun _ _ kk => eE_iload lk15_14 gq26 kk) ?_
  refine cR_lift (fun _ _ kk => eE_bipush (v := 10) lk15_16 (by decide) kk) ?_
  refine cR_lift (fun _ _ kk => eE_iadd lk15_18 kk) ?_
  refine cR_icmp (t := 40) lk15_19 (by decide) (fun c33 => ?_) (fun c33 => ?_)
  · rw [if_pos c33] at h
    exact k_Askings_add_b40_ok hp0 hL hF  g vq25 σ l0 l1 l2 l3 l4 ((cI σ 4 l0 0 0) * ((10 : Int32))) bl0 gq28 gq29 gq30 gq31 gq32 gq26 _ h
  · rw [if_neg c33] at h
    refine cR_lift (fun _ _ kk => eE_aload_n lk15_22 gq28 kk) ?_
    refine cR_lift (fun _ _ kk => eE_aload_n lk15_23 gq28 kk) ?_
    refine cR_getA lk15_24 rf_4_11 (by decide) bl0 ?_
    refine cR_lift (fun _ _ kk => eE_iconst (v := 2) lk15_27 (by decide) kk) ?_
    refine cR_lift (fun _ _ kk => eE_iload lk15_28 gq26 kk) ?_
    refine cR_lift (fun _ _ kk => eE_bipush (v := 10) lk15_30 (by decide) kk) ?_
    refine cR_lift (fun _ _ kk => eE_iadd lk15_32 kk) ?_
    refine cR_lift (fun _ _ kk => eE_imul lk15_33 kk) ?_
    obtain ⟨σ34, h35, h⟩ := Option.bind_eq_some_iff.mp h
    refine cR_cpyG390 (d := d + 0) (cl := 4) (i := l0) (f := 2) lk15_34 lk15_37 mr_4_23 (by first | exact Nat.le_of_ble_eq_true rfl | (simp [xcat, cvo_cat, cat_i, cat_j, cat_r]; done)) (hp0 390 (by decide)) rfl rf_4_11 rfl bl0 pf_4_2 h35 (fun g_36 => ?_)
    exact k_Askings_add_b40_ok hp0 hL hF  g_36 vq25 σ34 l0 l1 l2 l3 l4 ((cI σ 4 l0 0 0) * ((10 : Int32))) (cob_any rfl bl0) gq28 gq29 gq30 gq31 gq32 gq26 _ h
def k_Askings_add (σ : CS) (l0 : Nat) (l1 : Int32) (l2 : Int32) (l3 : Int32) (l4 : Int32) : Option ((Int32) × CS) := k_Askings_add_b0 σ l0 l1 l2 l3 l4
theorem k_Askings_add_ok {E : CE} {pF : Nat → List Value → xH → Option (Option Value × xH)} (hp0 : xNPc pF) (hL : lcAll pF) (hF : lcF pF) {d : Nat} {g : CG} {σ : CS} {l0 : Nat} {l1 : Int32} {l2 : Int32} {l3 : Int32} {l4 : Int32} {res : (Int32) × CS} (bl0 : cob σ 4 l0) (h : k_Askings_add σ l0 l1 l2 l3 l4 = some res) : cCo E false pF (d + 2) 15 [.ref (coa E 4 l0), .int l1, .int l2, .int l3, .int l4] (some (.int res.1)) res.2 g σ :=
  cCo_R kk_15 mo_15 ni_15 xm_15 (Nat.le_of_ble_eq_true rfl) (hp0 15 (by decide) _) (k_Askings_add_b0_ok hp0 hL hF g _ σ l0 l1 l2 l3 l4 bl0 rfl rfl rfl rfl rfl _ h)
/-! k_Askings_setTold (18), depth 1 -/
def k_Askings_setTold_b0  (σ : CS) (l0 : Nat) (l1 : Int32) (l2 : Int32) (l3 : Int32) : Option (CS) :=
  (cwr σ 4 l0 2 ((l1 * ((10 : Int32))) + ((3 : Int32))) (cI σ 4 l0 1 0)).bind fun σ7 =>
  (cwr σ7 4 l0 2 ((l1 * ((10 : Int32))) + ((4 : Int32))) l2).bind fun σ9 =>
  (cwr σ9 4 l0 2 ((l1 * ((10 : Int32))) + ((5 : Int32))) l3).bind fun σ11 =>
  (some (csI σ11 4 l0 1 0 ((cI σ11 4 l0 1 0) + ((1 : Int32))))).bind fun σ13 =>
  some σ13
set_option maxRecDepth 4000 in
theorem k_Askings_setTold_b0_ok {E : CE} {pF : Nat → List Value → xH → Option (Option Value × xH)} (hp0 : xNPc pF) (hL : lcAll pF) (hF : lcF pF) {d : Nat}   : ∀ (g : CG) (lv : xL) (σ : CS) (l0 : Nat) (l1 : Int32) (l2 : Int32) (l3 : Int32), (cob σ 4 l0) → (xg lv 0 = some (.ref (coa E 4 l0))) → (xg lv 1 = some (.int l1)) → (xg lv 2 = some (.int l2)) → (xg lv 3 = some (.int l3)) → ∀ res, k_Askings_setTold_b0  σ l0 l1 l2 l3 = some res → cR E true pF (d + 0) kT18 4 5 none none res g σ (0, lv, []) := by
  intro g lv σ l0 l1 l2 l3 bl0 g0 g1 g2 g3 res h
  unfold k_Askings_setTold_b0 at h
  refine cR_lift (fun _ _ kk => eE_iload_n lk18_0 g1 kk) ?_
  refine cR_lift (fun _ _ kk => eE_bipush (v := 10) lk18_1 (by decide) kk) ?_
  refine cR_lift (fun _ _ kk => eE_imul lk18_3 kk) ?_
  refine cR_stI (j := 4) lk18_4 (Or.inl rfl) (by decide) (fun vq1 gq2 kq3 => ?_)
  have gq4 := kq3 0 _ (by decide) (fun e => absurd e (by decide)) g0
  have gq5 := kq3 2 _ (by decide) (fun e => absurd e (by decide)) g2
  have gq6 := kq3 3 _ (by decide) (fun _ => rfl) g3
  refine cR_lift (fun _ _ kk => eE_aload_n lk18_6 gq4 kk) ?_
  refine cR_getA lk18_7 rf_4_11 (by decide) bl0 ?_
  refine cR_lift (fun _ _ kk => eE_iload lk18_10 gq2 kk) ?_
  refine cR_lift (fun _ _ kk => eE_iconst (v := 3) lk18_12 (by decide) kk) ?_
  refine cR_lift (fun _ _ kk => eE_iadd lk18_13 kk) ?_
  refine cR_lift (fun _ _ kk => eE_aload_n lk18_14 gq4 kk) ?_
  refine cR_getI lk18_15 rf_4_29 rfl bl0 ?_
  obtain ⟨σ7, h8, h⟩ := Option.bind_eq_some_iff.mp h
  refine cR_iast (cl := 4) (i := l0) (f := 2) lk18_18 (by decide) rfl bl0 h8 ?_
  refine cR_lift (fun _ _ kk => eE_aload_n lk18_19 gq4 kk) ?_
  refine cR_getA lk18_20 rf_4_11 (by decide) (cob_any rfl bl0) ?_
  refine cR_lift (fun _ _ kk => eE_iload lk18_23 gq2 kk) ?_
  refine cR_lift (fun _ _ kk => eE_iconst (v := 4) lk18_25 (by decide) kk) ?_
  refine cR_lift (fun _ _ kk => eE_iadd lk18_26 kk) ?_
  refine cR_lift (fun _ _ kk => eE_iload_n lk18_27 gq5 kk) ?_
  obtain ⟨σ9, h10, h⟩ := Option.bind_eq_some_iff.mp h
  refine cR_iast (cl := 4) (i := l0) (f := 2) lk18_28 (by decide) rfl (cob_any rfl bl0) h10 ?_
  refine cR_lift (fun _ _ kk => eE_aload_n lk18_29 gq4 kk) ?_
  refine cR_getA lk18_30 rf_4_11 (by decide) (cob_any rfl bl0) ?_
  refine cR_lift (fun _ _ kk => eE_iload lk18_33 gq2 kk) ?_
  refine cR_lift (fun _ _ kk => eE_iconst (v := 5) lk18_35 (by decide) kk) ?_
  refine cR_lift (fun _ _ kk => eE_iadd lk18_36 kk) ?_
  refine cR_lift (fun _ _ kk => eE_iload_n lk18_37 gq6 kk) ?_
  obtain ⟨σ11, h12, h⟩ := Option.bind_eq_some_iff.mp h
  refine cR_iast (cl := 4) (i := l0) (f := 2) lk18_38 (by decide) rfl (cob_any rfl bl0) h12 ?_
  refine cR_lift (fun _ _ kk => eE_aload_n lk18_39 gq4 kk) ?_
  refine cR_lift (fun _ _ kk => eE_dup lk18_40 rfl kk) ?_
  refine cR_getI lk18_41 rf_4_29 rfl (cob_any rfl bl0) ?_
  refine cR_lift (fun _ _ kk => eE_iconst (v := 1) lk18_44 (by decide) kk) ?_
  refine cR_lift (fun _ _ kk => eE_iadd lk18_45 kk) ?_
  obtain ⟨σ13, h14, h⟩ := Option.bind_eq_some_iff.mp h
  refine cR_putI lk18_46 rf_4_29 rfl (cob_any rfl bl0) pf_4_1 rfl h14 ?_
  cases h
  exact cR_end lk18_49 rfl rfl rfl
def k_Askings_setTold (σ : CS) (l0 : Nat) (l1 : Int32) (l2 : Int32) (l3 : Int32) : Option (CS) := k_Askings_setTold_b0 σ l0 l1 l2 l3
theorem k_Askings_setTold_ok {E : CE} {pF : Nat → List Value → xH → Option (Option Value × xH)} (hp0 : xNPc pF) (hL : lcAll pF) (hF : lcF pF) {d : Nat} {g : CG} {σ : CS} {l0 : Nat} {l1 : Int32} {l2 : Int32} {l3 : Int32} {res : CS} (bl0 : cob σ 4 l0) (h : k_Askings_setTold σ l0 l1 l2 l3 = some res) : cCo E true pF (d + 1) 18 [.ref (coa E 4 l0), .int l1, .int l2, .int l3] none res g σ :=
  cCo_R kk_18 mo_18 ni_18 xm_18 (Nat.le_of_ble_eq_true rfl) (hp0 18 (by decide) _) (k_Askings_setTold_b0_ok hp0 hL hF g _ σ l0 l1 l2 l3 bl0 rfl rfl rfl rfl _ h)
/-! k_Askings_tell (19), depth 1 -/
def k_Askings_tell_b27  (σ : CS) (s0 : Int32) : Option (Int32) :=
  some s0
set_option maxRecDepth 4000 in
theorem k_Askings_tell_b27_ok {E : CE} {pF : Nat → List Value → xH → Option (Option Value × xH)} (hp0 : xNPc pF) (hL : lcAll pF) (hF : lcF pF) {d : Nat}   : ∀ (g : CG) (lv : xL) (σ : CS) (s0 : Int32), ∀ res, k_Askings_tell_b27  σ s0 = some res → cR E true pF (d + 0) kT19 4 3 (some FieldType.int) (some (.int res)) σ g σ (27, lv, [.int s0]) := by
  intro g lv σ s0 res h
  unfold k_Askings_tell_b27 at h
  cases h
  exact cR_end lk19_27 rfl rfl rfl
def k_Askings_tell_b12  (σ : CS) : Option (Int32) :=
  k_Askings_tell_b27  σ ((0 : Int32))
set_option maxRecDepth 4000 in
theorem k_Askings_tell_b12_ok {E : CE} {pF : Nat → List Value → xH → Option (Option Value × xH)} (hp0 : xNPc pF) (hL : lcAll pF) (hF : lcF pF) {d : Nat}   : ∀ (g : CG) (lv : xL) (σ : CS), ∀ res, k_Askings_tell_b12  σ = some res → cR E true pF (d + 0) kT19 4 3 (some FieldType.int) (some (.int res)) σ g σ (12, lv, []) := by
  intro g lv σ res h
  unfold k_Askings_tell_b12 at h
  refine cR_lift (fun _ _ kk => eE_iconst (v := 0) lk19_12 (by decide) kk) ?_
  refine cR_lift (fun _ _ kk => eE_goto (t := 27) lk19_13 (by decide) kk) ?_
  exact k_Askings_tell_b27_ok hp0 hL hF  g lv σ ((0 : Int32))  _ h
def k_Askings_tell_b0  (σ : CS) (l0 : Nat) (l1 : Int32) (l2 : Int32) : Option (Int32) :=
  if xc0 .lt l1 = true then (
    k_Askings_tell_b12  σ
  ) else (
    if xc2 .lt l1 (cI σ 4 l0 0 0) = true then (
      (crd σ 4 l0 2 ((l1 * ((10 : Int32))) + l2)).bind fun x3 =>
      k_Askings_tell_b27  σ x3
    ) else (
      k_Askings_tell_b12  σ
    )
  )
set_option maxRecDepth 4000 in
theorem k_Askings_tell_b0_ok {E : CE} {pF : Nat → List Value → xH → Option (Option Value × xH)} (hp0 : xNPc pF) (hL : lcAll pF) (hF : lcF pF) {d : Nat}   : ∀ (g : CG) (lv : xL) (σ : CS) (l0 : Nat) (l1 : Int32) (l2 : Int32), (cob σ 4 l0) → (xg lv 0 = some (.ref (coa E 4 l0))) → (xg lv 1 = some (.int l1)) → (xg lv 2 = some (.int l2)) → ∀ res, k_Askings_tell_b0  σ l0 l1 l2 = some res → cR E true pF (d + 0) kT19 4 3 (some FieldType.int) (some (.int res)) σ g σ (0, lv, []) := by
  intro g lv σ l0 l1 l2 bl0 g0 g1 g2 res h
  unfold k_Askings_tell_b0 at h
  refine cR_lift (fun _ _ kk => eE_iload_n lk19_0 g1 kk) ?_
  refine cR_if (t := 12) lk19_1 (by decide) (fun c1 => ?_) (fun c1 => ?_)
  · rw [if_pos c1] at h
    exact k_Askings_tell_b12_ok hp0 hL hF  g lv σ  _ h
  · rw [if_neg c1] at h
    refine cR_lift (fun _ _ kk => eE_iload_n lk19_4 g1 kk) ?_
    refine cR_lift (fun _ _ kk => eE_aload_n lk19_5 g0 kk) ?_
    refine cR_getI lk19_6 rf_4_19 rfl bl0 ?_
    refine cR_icmp (t := 16) lk19_9 (by decide) (fun c2 => ?_) (fun c2 => ?_)
    · rw [if_pos c2] at h
      refine cR_lift (fun _ _ kk => eE_aload_n lk19_16 g0 kk) ?_
      refine cR_getA lk19_17 rf_4_11 (by decide) bl0 ?_
      refine cR_lift (fun _ _ kk => eE_iload_n lk19_20 g1 kk) ?_
      refine cR_lift (fun _ _ kk => eE_bipush (v := 10) lk19_21 (by decide) kk) ?_
      refine cR_lift (fun _ _ kk => eE_imul lk19_23 kk) ?_
      refine cR_lift (fun _ _ kk => eE_iload_n lk19_24 g2 kk) ?_
      refine cR_lift (fun _ _ kk => eE_iadd lk19_25 kk) ?_
      obtain ⟨x3, h4, h⟩ := Option.bind_eq_some_iff.mp h
      refine cR_iald (cl := 4) (i := l0) (f := 2) lk19_26 (by decide) rfl bl0 h4 ?_
      exact k_Askings_tell_b27_ok hp0 hL hF  g lv σ x3  _ h
    · rw [if_neg c2] at h
      exact k_Askings_tell_b12_ok hp0 hL hF  g lv σ  _ h
def k_Askings_tell (σ : CS) (l0 : Nat) (l1 : Int32) (l2 : Int32) : Option (Int32) := k_Askings_tell_b0 σ l0 l1 l2
theorem k_Askings_tell_ok {E : CE} {pF : Nat → List Value → xH → Option (Option Value × xH)} (hp0 : xNPc pF) (hL : lcAll pF) (hF : lcF pF) {d : Nat} {g : CG} {σ : CS} {l0 : Nat} {l1 : Int32} {l2 : Int32} {res : Int32} (bl0 : cob σ 4 l0) (h : k_Askings_tell σ l0 l1 l2 = some res) : cCo E true pF (d + 1) 19 [.ref (coa E 4 l0), .int l1, .int l2] (some (.int res)) σ g σ :=
  cCo_R kk_19 mo_19 ni_19 xm_19 (Nat.le_of_ble_eq_true rfl) (hp0 19 (by decide) _) (k_Askings_tell_b0_ok hp0 hL hF g _ σ l0 l1 l2 bl0 rfl rfl rfl _ h)
/-! k_World_hush (194), depth 1 -/
def k_World_hush_b0  (σ : CS) (l0 : Nat) (l1 : Int32) : Option (CS) :=
  (cwr σ 14 l0 10 l1 ((-1 : Int32))).bind fun σ1 =>
  some σ1
set_option maxRecDepth 4000 in
theorem k_World_hush_b0_ok {E : CE} {pF : Nat → List Value → xH → Option (Option Value × xH)} (hp0 : xNPc pF) (hL : lcAll pF) (hF : lcF pF) {d : Nat}   : ∀ (g : CG) (lv : xL) (σ : CS) (l0 : Nat) (l1 : Int32), (cob σ 14 l0) → (xg lv 0 = some (.ref (coa E 14 l0))) → (xg lv 1 = some (.int l1)) → ∀ res, k_World_hush_b0  σ l0 l1 = some res → cR E true pF (d + 0) kT194 14 2 none none res g σ (0, lv, []) := by
  intro g lv σ l0 l1 bl0 g0 g1 res h
  unfold k_World_hush_b0 at h
  refine cR_lift (fun _ _ kk => eE_aload_n lk194_0 g0 kk) ?_
  refine cR_getA lk194_1 rf_14_9 (by decide) bl0 ?_
  refine cR_lift (fun _ _ kk => eE_iload_n lk194_4 g1 kk) ?_
  refine cR_lift (fun _ _ kk => eE_iconst (v := (-1)) lk194_5 (by decide) kk) ?_
  obtain ⟨σ1, h2, h⟩ := Option.bind_eq_some_iff.mp h
  refine cR_iast (cl := 14) (i := l0) (f := 10) lk194_6 (by decide) rfl bl0 h2 ?_
  cases h
  exact cR_end lk194_7 rfl rfl rfl
def k_World_hush (σ : CS) (l0 : Nat) (l1 : Int32) : Option (CS) := k_World_hush_b0 σ l0 l1
theorem k_World_hush_ok {E : CE} {pF : Nat → List Value → xH → Option (Option Value × xH)} (hp0 : xNPc pF) (hL : lcAll pF) (hF : lcF pF) {d : Nat} {g : CG} {σ : CS} {l0 : Nat} {l1 : Int32} {res : CS} (bl0 : cob σ 14 l0) (h : k_World_hush σ l0 l1 = some res) : cCo E true pF (d + 1) 194 [.ref (coa E 14 l0), .int l1] none res g σ :=
  cCo_R kk_194 mo_194 ni_194 xm_194 (Nat.le_of_ble_eq_true rfl) (hp0 194 (by decide) _) (k_World_hush_b0_ok hp0 hL hF g _ σ l0 l1 bl0 rfl rfl _ h)
/-! k_World_blank (185), depth 9 -/
def k_World_blank_b39  (σ : CS) (s0 : Nat) : Option ((Nat) × CS) :=
  some (s0, σ)
set_option maxRecDepth 4000 in
theorem k_World_blank_b39_ok {E : CE} {pF : Nat → List Value → xH → Option (Option Value × xH)} (hp0 : xNPc pF) (hL : lcAll pF) (hF : lcF pF) {d : Nat}   : ∀ (g : CG) (lv : xL) (σ : CS) (s0 : Nat), (cob σ 8 s0) → ∀ res, k_World_blank_b39  σ s0 = some res → cR E false pF (d + 8) kT185 14 1 (some (FieldType.object "AgreedStore$Letter")) (some (.ref (coa E 8 res.1))) res.2 g σ (39, lv, [.ref (coa E 8 s0)]) := by
  intro g lv σ s0 bs0 res h
  unfold k_World_blank_b39 at h
  cases h
  exact cR_end lk185_39 rfl rfl rfl
def k_World_blank_b0  (σ : CS) (l0 : Nat) : Option ((Nat) × CS) :=
  if xc0 .eq (clemp σ 14 l0 16) = true then (
    (clrem σ 14 l0 16 ((clsz σ 14 l0 16) - ((1 : Int32)))).bind fun p3 =>
    k_World_blank_b39  p3.2 p3.1
  ) else (
    (some (csN σ)).bind fun σ5 =>
    k_World_blank_b39  σ5 ((cT σ).1)
  )
set_option maxRecDepth 4000 in
theorem k_World_blank_b0_ok {E : CE} {pF : Nat → List Value → xH → Option (Option Value × xH)} (hp0 : xNPc pF) (hL : lcAll pF) (hF : lcF pF) {d : Nat}   : ∀ (g : CG) (lv : xL) (σ : CS) (l0 : Nat), (cob σ 14 l0) → (xg lv 0 = some (.ref (coa E 14 l0))) → ∀ res, k_World_blank_b0  σ l0 = some res → cR E false pF (d + 8) kT185 14 1 (some (FieldType.object "AgreedStore$Letter")) (some (.ref (coa E 8 res.1))) res.2 g σ (0, lv, []) := by
  intro g lv σ l0 bl0 g0 res h
  unfold k_World_blank_b0 at h
  refine cR_lift (fun _ _ kk => eE_aload_n lk185_0 g0 kk) ?_
  refine cR_getA lk185_1 rf_14_35 (by decide) bl0 ?_
  refine cR_virtL (cl := 14) (i := l0) (f := 16) (as := []) lk185_4 mr_14_48 na_10 rfl rfl (by first | exact Nat.le_of_ble_eq_true rfl | (simp [xcat, cvo_cat, cat_i, cat_j, cat_r]; done)) wv_10 wc_10 rfl bl0 ((hL (d + 0)).2.1 E g _ 14 l0 16 rfl bl0) (fun _ => ?_)
  refine cR_if (t := 20) lk185_7 (by decide) (fun c1 => ?_) (fun c1 => ?_)
  · rw [if_pos c1] at h
    refine cR_lift (fun _ _ kk => eE_aload_n lk185_20 g0 kk) ?_
    refine cR_getA lk185_21 rf_14_35 (by decide) bl0 ?_
    refine cR_lift (fun _ _ kk => eE_aload_n lk185_24 g0 kk) ?_
    refine cR_getA lk185_25 rf_14_35 (by decide) bl0 ?_
    refine cR_virtL (cl := 14) (i := l0) (f := 16) (as := []) lk185_28 mr_14_55 na_14 rfl rfl (by first | exact Nat.le_of_ble_eq_true rfl | (simp [xcat, cvo_cat, cat_i, cat_j, cat_r]; done)) wv_14 wc_14 rfl bl0 ((hL (d + 0)).1 E g _ 14 l0 16 rfl bl0) (fun _ => ?_)
    refine cR_lift (fun _ _ kk => eE_iconst (v := 1) lk185_31 (by decide) kk) ?_
    refine cR_lift (fun _ _ kk => eE_isub lk185_32 kk) ?_
    obtain ⟨p3, h4, h⟩ := Option.bind_eq_some_iff.mp h
    refine cR_rep (fun _ hc => clrem_lt hc h4) (fun b2 => ?_)
    refine cR_virtL (cl := 14) (i := l0) (f := 16) (c1 := p3.2) (r := some (.ref p3.1)) (as := [.int ((clsz σ 14 l0 16) - ((1 : Int32)))]) lk185_33 mr_14_59 na_13 rfl rfl (by first | exact Nat.le_of_ble_eq_true rfl | (simp [xcat, cvo_cat, cat_i, cat_j, cat_r]; done)) wv_13 wc_13 rfl bl0 ((hL (d + 0)).2.2.2.2.2.1 E g _ 14 l0 16 _ p3.1 p3.2 rfl bl0 h4) (fun _ => ?_)
    refine cR_cast lk185_36 xk_14_52 b2 ?_
    exact k_World_blank_b39_ok hp0 hL hF  g lv p3.2 p3.1 b2 _ h
  · rw [if_neg c1] at h
    obtain ⟨σ5, h6, h⟩ := Option.bind_eq_some_iff.mp h
    refine cR_newL (d := d + 7) lk185_10 lk185_13 lk185_14 xk_14_52 xn_14_54 (hp0 61 (by decide)) (fun _ => (by first | exact Nat.le_of_ble_eq_true rfl | (simp [xcat, cvo_cat, cat_i, cat_j, cat_r]; done))) h6 (fun a7 e8 b9 m10 g_11 => ?_)
    subst e8
    refine cR_lift (fun _ _ kk => eE_goto (t := 39) lk185_17 (by decide) kk) ?_
    exact k_World_blank_b39_ok hp0 hL hF  g_11 lv σ5 ((cT σ).1) b9 _ h
def k_World_blank (σ : CS) (l0 : Nat) : Option ((Nat) × CS) := k_World_blank_b0 σ l0
theorem k_World_blank_ok {E : CE} {pF : Nat → List Value → xH → Option (Option Value × xH)} (hp0 : xNPc pF) (hL : lcAll pF) (hF : lcF pF) {d : Nat} {g : CG} {σ : CS} {l0 : Nat} {res : (Nat) × CS} (bl0 : cob σ 14 l0) (h : k_World_blank σ l0 = some res) : cCo E false pF (d + 9) 185 [.ref (coa E 14 l0)] (some (.ref (coa E 8 res.1))) res.2 g σ :=
  cCo_R kk_185 mo_185 ni_185 xm_185 (Nat.le_of_ble_eq_true rfl) (hp0 185 (by decide) _) (k_World_blank_b0_ok hp0 hL hF g _ σ l0 bl0 rfl _ h)
theorem k_World_blank_lt {E : CE} {g : CG} {σ : CS} {h0 : xH} {l0 : Nat} {res : Nat × CS} (hc : CRep E g σ h0) (_ : cob σ 14 l0) (h : k_World_blank σ l0 = some res) : cob res.2 8 res.1 := by
  unfold k_World_blank k_World_blank_b0 at h
  split at h
  · obtain ⟨x, hx, h⟩ := Option.bind_eq_some_iff.mp h
    unfold k_World_blank_b39 at h
    cases h
    exact clrem_lt hc hx
  · obtain ⟨x, hx, h⟩ := Option.bind_eq_some_iff.mp h
    unfold k_World_blank_b39 at h
    cases h
    cases hx
    exact cob8 (by simp [clt, csN, cT])
/-! k_World_areParted (184), depth 1 -/
def k_World_areParted_b23  (σ : CS) (s0 : Int32) : Option (Int32) :=
  if s0 = 0 ∨ s0 = 1 then some s0 else none
set_option maxRecDepth 4000 in
theorem k_World_areParted_b23_ok {E : CE} {pF : Nat → List Value → xH → Option (Option Value × xH)} (hp0 : xNPc pF) (hL : lcAll pF) (hF : lcF pF) {d : Nat}   : ∀ (g : CG) (lv : xL) (σ : CS) (s0 : Int32), ∀ res, k_World_areParted_b23  σ s0 = some res → cR E true pF (d + 0) kT184 14 3 (some FieldType.boolean) (some (.int res)) σ g σ (23, lv, [.int s0]) := by
  intro g lv σ s0 res h
  unfold k_World_areParted_b23 at h
  by_cases z1 : s0 = 0 ∨ s0 = 1
  · rw [if_pos z1] at h; cases h
    exact cR_end lk184_23 rfl rfl (by first | (simp only [xfin, if_true, if_pos z1]; done) | simp [xfin, z1])
  · rw [if_neg z1] at h; cases h
def k_World_areParted_b0  (σ : CS) (l0 : Nat) (l1 : Int32) (l2 : Int32) : Option (Int32) :=
  if xc0 .eq ((((cI σ 14 l0 5 0) >>> (l1 &&& 31)) ^^^ ((cI σ 14 l0 5 0) >>> (l2 &&& 31))) &&& ((1 : Int32))) = true then (
    k_World_areParted_b23  σ ((0 : Int32))
  ) else (
    k_World_areParted_b23  σ ((1 : Int32))
  )
set_option maxRecDepth 4000 in
theorem k_World_areParted_b0_ok {E : CE} {pF : Nat → List Value → xH → Option (Option Value × xH)} (hp0 : xNPc pF) (hL : lcAll pF) (hF : lcF pF) {d : Nat}   : ∀ (g : CG) (lv : xL) (σ : CS) (l0 : Nat) (l1 : Int32) (l2 : Int32), (cob σ 14 l0) → (xg lv 0 = some (.ref (coa E 14 l0))) → (xg lv 1 = some (.int l1)) → (xg lv 2 = some (.int l2)) → ∀ res, k_World_areParted_b0  σ l0 l1 l2 = some res → cR E true pF (d + 0) kT184 14 3 (some FieldType.boolean) (some (.int res)) σ g σ (0, lv, []) := by
  intro g lv σ l0 l1 l2 bl0 g0 g1 g2 res h
  unfold k_World_areParted_b0 at h
  refine cR_lift (fun _ _ kk => eE_aload_n lk184_0 g0 kk) ?_
  refine cR_getI lk184_1 rf_14_44 rfl bl0 ?_
  refine cR_lift (fun _ _ kk => eE_iload_n lk184_4 g1 kk) ?_
  refine cR_lift (fun _ _ kk => eE_ishr lk184_5 kk) ?_
  refine cR_lift (fun _ _ kk => eE_aload_n lk184_6 g0 kk) ?_
  refine cR_getI lk184_7 rf_14_44 rfl bl0 ?_
  refine cR_lift (fun _ _ kk => eE_iload_n lk184_10 g2 kk) ?_
  refine cR_lift (fun _ _ kk => eE_ishr lk184_11 kk) ?_
  refine cR_lift (fun _ _ kk => eE_ixor lk184_12 kk) ?_
  refine cR_lift (fun _ _ kk => eE_iconst (v := 1) lk184_13 (by decide) kk) ?_
  refine cR_lift (fun _ _ kk => eE_iand lk184_14 kk) ?_
  refine cR_if (t := 22) lk184_15 (by decide) (fun c2 => ?_) (fun c2 => ?_)
  · rw [if_pos c2] at h
    refine cR_lift (fun _ _ kk => eE_iconst (v := 0) lk184_22 (by decide) kk) ?_
    exact k_World_areParted_b23_ok hp0 hL hF  g lv σ ((0 : Int32))  _ h
  · rw [if_neg c2] at h
    refine cR_lift (fun _ _ kk => eE_iconst (v := 1) lk184_18 (by decide) kk) ?_
    refine cR_lift (fun _ _ kk => eE_goto (t := 23) lk184_19 (by decide) kk) ?_
    exact k_World_areParted_b23_ok hp0 hL hF  g lv σ ((1 : Int32))  _ h
def k_World_areParted (σ : CS) (l0 : Nat) (l1 : Int32) (l2 : Int32) : Option (Int32) := k_World_areParted_b0 σ l0 l1 l2
theorem k_World_areParted_ok {E : CE} {pF : Nat → List Value → xH → Option (Option Value × xH)} (hp0 : xNPc pF) (hL : lcAll pF) (hF : lcF pF) {d : Nat} {g : CG} {σ : CS} {l0 : Nat} {l1 : Int32} {l2 : Int32} {res : Int32} (bl0 : cob σ 14 l0) (h : k_World_areParted σ l0 l1 l2 = some res) : cCo E true pF (d + 1) 184 [.ref (coa E 14 l0), .int l1, .int l2] (some (.int res)) σ g σ :=
  cCo_R kk_184 mo_184 ni_184 xm_184 (Nat.le_of_ble_eq_true rfl) (hp0 184 (by decide) _) (k_World_areParted_b0_ok hp0 hL hF g _ σ l0 l1 l2 bl0 rfl rfl rfl _ h)
/-! k_World_lose (198), depth 9 -/
def k_World_lose_b0  (σ : CS) (l0 : Nat) (l1 : Nat) : Option (CS) :=
  (some (csI σ 14 l0 4 0 ((cI σ 14 l0 4 0) + ((1 : Int32))))).bind fun σ1 =>
  (cladd σ1 14 l0 16 l1).bind fun σ4 =>
  some σ4
set_option maxRecDepth 4000 in
theorem k_World_lose_b0_ok {E : CE} {pF : Nat → List Value → xH → Option (Option Value × xH)} (hp0 : xNPc pF) (hL : lcAll pF) (hF : lcF pF) {d : Nat}   : ∀ (g : CG) (lv : xL) (σ : CS) (l0 : Nat) (l1 : Nat), (cob σ 14 l0) → (cob σ 8 l1) → (xg lv 0 = some (.ref (coa E 14 l0))) → (xg lv 1 = some (.ref (coa E 8 l1))) → ∀ res, k_World_lose_b0  σ l0 l1 = some res → cR E false pF (d + 8) kT198 14 2 none none res g σ (0, lv, []) := by
  intro g lv σ l0 l1 bl0 bl1 g0 g1 res h
  unfold k_World_lose_b0 at h
  refine cR_lift (fun _ _ kk => eE_aload_n lk198_0 g0 kk) ?_
  refine cR_lift (fun _ _ kk => eE_dup lk198_1 rfl kk) ?_
  refine cR_getI lk198_2 rf_14_108 rfl bl0 ?_
  refine cR_lift (fun _ _ kk => eE_iconst (v := 1) lk198_5 (by decide) kk) ?_
  refine cR_lift (fun _ _ kk => eE_iadd lk198_6 kk) ?_
  obtain ⟨σ1, h2, h⟩ := Option.bind_eq_some_iff.mp h
  refine cR_putI lk198_7 rf_14_108 rfl bl0 pf_14_4 rfl h2 ?_
  refine cR_lift (fun _ _ kk => eE_aload_n lk198_10 g0 kk) ?_
  refine cR_getA lk198_11 rf_14_35 (by decide) (cob_any rfl bl0) ?_
  refine cR_lift (fun _ _ kk => eE_aload_n lk198_14 g1 kk) ?_
  obtain ⟨σ4, h5, h⟩ := Option.bind_eq_some_iff.mp h
  refine cR_virtLG (cl := 14) (i := l0) (f := 16) (as := [.ref l1]) lk198_15 mr_14_111 na_2 rfl rfl (by first | exact Nat.le_of_ble_eq_true rfl | (simp [xcat, cvo_cat, cat_i, cat_j, cat_r]; done)) wv_2 wc_2 rfl (cob_any rfl bl0) ((hL (d + 0)).2.2.2.1 E g _ 14 l0 16 l1 _ rfl (cob_any rfl bl0) (clt8 (cob_mon (cput_mon h2) bl1)) h5) (fun _ g_3 => ?_)
  refine cR_lift (fun _ _ kk => eE_pop lk198_18 rfl kk) ?_
  cases h
  exact cR_end lk198_19 rfl rfl rfl
def k_World_lose (σ : CS) (l0 : Nat) (l1 : Nat) : Option (CS) := k_World_lose_b0 σ l0 l1
theorem k_World_lose_ok {E : CE} {pF : Nat → List Value → xH → Option (Option Value × xH)} (hp0 : xNPc pF) (hL : lcAll pF) (hF : lcF pF) {d : Nat} {g : CG} {σ : CS} {l0 : Nat} {l1 : Nat} {res : CS} (bl0 : cob σ 14 l0) (bl1 : cob σ 8 l1) (h : k_World_lose σ l0 l1 = some res) : cCo E false pF (d + 9) 198 [.ref (coa E 14 l0), .ref (coa E 8 l1)] none res g σ :=
  cCo_R kk_198 mo_198 ni_198 xm_198 (Nat.le_of_ble_eq_true rfl) (hp0 198 (by decide) _) (k_World_lose_b0_ok hp0 hL hF g _ σ l0 l1 bl0 bl1 rfl rfl _ h)
/-! k_World_launch (197), depth 9 -/
def k_World_launch_b104 (F : Nat)  (σ : CS) (l0 : Nat) (l1 : Nat) (l3 : Int32) : Option (CS) :=
  (clins σ 14 l0 15 l3 l1).bind fun σ2 =>
  some σ2
set_option maxRecDepth 4000 in
theorem k_World_launch_b104_ok {E : CE} {pF : Nat → List Value → xH → Option (Option Value × xH)} (hp0 : xNPc pF) (hL : lcAll pF) (hF : lcF pF) {d : Nat} {F : Nat}   : ∀ (g : CG) (lv : xL) (σ : CS) (l0 : Nat) (l1 : Nat) (l3 : Int32), (cob σ 14 l0) → (cob σ 8 l1) → (xg lv 0 = some (.ref (coa E 14 l0))) → (xg lv 1 = some (.ref (coa E 8 l1))) → (xg lv 3 = some (.int l3)) → ∀ res, k_World_launch_b104 F  σ l0 l1 l3 = some res → cR E false pF (d + 8) kT197 14 4 none none res g σ (104, lv, []) := by
  intro g lv σ l0 l1 l3 bl0 bl1 g0 g1 g3 res h
  unfold k_World_launch_b104 at h
  refine cR_lift (fun _ _ kk => eE_aload_n lk197_104 g0 kk) ?_
  refine cR_getA lk197_105 rf_14_31 (by decide) bl0 ?_
  refine cR_lift (fun _ _ kk => eE_iload_n lk197_108 g3 kk) ?_
  refine cR_lift (fun _ _ kk => eE_aload_n lk197_109 g1 kk) ?_
  obtain ⟨σ2, h3, h⟩ := Option.bind_eq_some_iff.mp h
  refine cR_virtLG (cl := 14) (i := l0) (f := 15) (as := [.int l3, .ref l1]) lk197_110 mr_14_130 na_1 rfl rfl (by first | exact Nat.le_of_ble_eq_true rfl | (simp [xcat, cvo_cat, cat_i, cat_j, cat_r]; done)) wv_1 wc_1 rfl bl0 ((hL (d + 0)).2.2.2.2.1 E g _ 14 l0 15 _ l1 _ rfl bl0 (clt8 bl1) h3) (fun _ g_1 => ?_)
  cases h
  exact cR_end lk197_113 rfl rfl rfl
def k_World_launch_b74 (F : Nat)  : Nat → CS → Nat → Nat → Int32 → Int32 → Option (CS)
  | 0, _, _, _, _, _ => none
  | n + 1, σ, l0, l1, l2, l3 =>
    let KK := k_World_launch_b74 F  n
    if xc0 .le l3 = true then (
      k_World_launch_b104 F  σ l0 l1 l3
    ) else (
      (clget σ 14 l0 15 (l3 - ((1 : Int32)))).bind fun a6 =>
      if xc2 .le (cI σ 8 a6 0 0) l2 = true then (
        k_World_launch_b104 F  σ l0 l1 l3
      ) else (
        KK σ l0 l1 l2 (l3 + (-1 : Int32))
      )
    )
set_option maxRecDepth 4000 in
theorem k_World_launch_b74_ok {E : CE} {pF : Nat → List Value → xH → Option (Option Value × xH)} (hp0 : xNPc pF) (hL : lcAll pF) (hF : lcF pF) {d : Nat} {F : Nat}   : ∀ (n : Nat) (g : CG) (lv : xL) (σ : CS) (l0 : Nat) (l1 : Nat) (l2 : Int32) (l3 : Int32), (cob σ 14 l0) → (cob σ 8 l1) → (xg lv 0 = some (.ref (coa E 14 l0))) → (xg lv 1 = some (.ref (coa E 8 l1))) → (xg lv 2 = some (.int l2)) → (xg lv 3 = some (.int l3)) → ∀ res, k_World_launch_b74 F  n σ l0 l1 l2 l3 = some res → cR E false pF (d + 8) kT197 14 4 none none res g σ (74, lv, []) := by
  intro n
  induction n with
  | zero => intro g lv σ l0 l1 l2 l3 bl0 bl1 g0 g1 g2 g3 res h; simp [k_World_launch_b74] at h
  | succ n hKK =>
    intro g lv σ l0 l1 l2 l3 bl0 bl1 g0 g1 g2 g3 res h
    unfold k_World_launch_b74 at h
    dsimp only at h
    refine cR_lift (fun _ _ kk => eE_iload_n lk197_74 g3 kk) ?_
    refine cR_if (t := 104) lk197_75 (by decide) (fun c4 => ?_) (fun c4 => ?_)
    · rw [if_pos c4] at h
      exact k_World_launch_b104_ok hp0 hL hF  g lv σ l0 l1 l3 bl0 bl1 g0 g1 g3 _ h
    · rw [if_neg c4] at h
      refine cR_lift (fun _ _ kk => eE_aload_n lk197_78 g0 kk) ?_
      refine cR_getA lk197_79 rf_14_31 (by decide) bl0 ?_
      refine cR_lift (fun _ _ kk => eE_iload_n lk197_82 g3 kk) ?_
      refine cR_lift (fun _ _ kk => eE_iconst (v := 1) lk197_83 (by decide) kk) ?_
      refine cR_lift (fun _ _ kk => eE_isub lk197_84 kk) ?_
      obtain ⟨a6, h7, h⟩ := Option.bind_eq_some_iff.mp h
      refine cR_rep (fun _ hc => cob8 (clget_lt hc h7)) (fun b5 => ?_)
      refine cR_virtL (cl := 14) (i := l0) (f := 15) (as := [.int (l3 - ((1 : Int32)))]) lk197_85 mr_14_127 na_6 rfl rfl (by first | exact Nat.le_of_ble_eq_true rfl | (simp [xcat, cvo_cat, cat_i, cat_j, cat_r]; done)) wv_6 wc_6 rfl bl0 ((hL (d + 0)).2.2.1 E g _ 14 l0 15 _ _ rfl bl0 h7) (fun _ => ?_)
      refine cR_cast lk197_88 xk_14_52 b5 ?_
      refine cR_getI lk197_91 rf_14_115 rfl b5 ?_
      refine cR_lift (fun _ _ kk => eE_iload_n lk197_94 g2 kk) ?_
      refine cR_icmp (t := 104) lk197_95 (by decide) (fun c8 => ?_) (fun c8 => ?_)
      · rw [if_pos c8] at h
        exact k_World_launch_b104_ok hp0 hL hF  g lv σ l0 l1 l3 bl0 bl1 g0 g1 g3 _ h
      · rw [if_neg c8] at h
        refine cR_inc (j := 3) (v := l3 + (-1 : Int32)) lk197_98 g3 rfl (by decide) (fun vq9 gq10 kq11 => ?_)
        have gq12 := kq11 0 _ (by decide) (fun e => absurd e (by decide)) g0
        have gq13 := kq11 1 _ (by decide) (fun e => absurd e (by decide)) g1
        have gq14 := kq11 2 _ (by decide) (fun _ => rfl) g2
        refine cR_lift (fun _ _ kk => eE_goto (t := 74) lk197_101 (by decide) kk) ?_
        exact hKK g vq9 σ l0 l1 l2 (l3 + (-1 : Int32)) bl0 bl1 gq12 gq13 gq14 gq10 _ h
def k_World_launch_b0 (F : Nat)  (σ : CS) (l0 : Nat) (l1 : Nat) (l2 : Int32) : Option (CS) :=
  if xc2 .lt (clsz σ 14 l0 15) ((128 : Int32)) = true then (
    (some (csI σ 8 l1 0 0 l2)).bind fun σ16 =>
    (some (csI σ16 8 l1 1 0 (cI σ16 14 l0 1 0))).bind fun σ18 =>
    (some (csI σ18 14 l0 1 0 ((cI σ18 14 l0 1 0) + ((1 : Int32))))).bind fun σ20 =>
    (some (csI σ20 14 l0 3 0 ((cI σ20 14 l0 3 0) + ((1 : Int32))))).bind fun σ22 =>
    k_World_launch_b74 F  F σ22 l0 l1 l2 (clsz σ22 14 l0 15)
  ) else (
    (some (csI σ 14 l0 4 0 ((cI σ 14 l0 4 0) + ((1 : Int32))))).bind fun σ30 =>
    (cladd σ30 14 l0 16 l1).bind fun σ33 =>
    some σ33
  )
set_option maxRecDepth 4000 in
theorem k_World_launch_b0_ok {E : CE} {pF : Nat → List Value → xH → Option (Option Value × xH)} (hp0 : xNPc pF) (hL : lcAll pF) (hF : lcF pF) {d : Nat} {F : Nat}   : ∀ (g : CG) (lv : xL) (σ : CS) (l0 : Nat) (l1 : Nat) (l2 : Int32), (cob σ 14 l0) → (cob σ 8 l1) → (xg lv 0 = some (.ref (coa E 14 l0))) → (xg lv 1 = some (.ref (coa E 8 l1))) → (xg lv 2 = some (.int l2)) → ∀ res, k_World_launch_b0 F  σ l0 l1 l2 = some res → cR E false pF (d + 8) kT197 14 4 none none res g σ (0, lv, []) := by
  intro g lv σ l0 l1 l2 bl0 bl1 g0 g1 g2 res h
  unfold k_World_launch_b0 at h
  refine cR_lift (fun _ _ kk => eE_aload_n lk197_0 g0 kk) ?_
  refine cR_getA lk197_1 rf_14_31 (by decide) bl0 ?_
  refine cR_virtL (cl := 14) (i := l0) (f := 15) (as := []) lk197_4 mr_14_55 na_14 rfl rfl (by first | exact Nat.le_of_ble_eq_true rfl | (simp [xcat, cvo_cat, cat_i, cat_j, cat_r]; done)) wv_14 wc_14 rfl bl0 ((hL (d + 0)).1 E g _ 14 l0 15 rfl bl0) (fun _ => ?_)
  refine cR_lift (fun _ _ kk => eE_sipush (v := 128) lk197_7 (by decide) kk) ?_
  refine cR_icmp (t := 33) lk197_10 (by decide) (fun c15 => ?_) (fun c15 => ?_)
  · rw [if_pos c15] at h
    refine cR_lift (fun _ _ kk => eE_aload_n lk197_33 g1 kk) ?_
    refine cR_lift (fun _ _ kk => eE_iload_n lk197_34 g2 kk) ?_
    obtain ⟨σ16, h17, h⟩ := Option.bind_eq_some_iff.mp h
    refine cR_putI lk197_35 rf_14_115 rfl bl1 pf_8_0 rfl h17 ?_
    refine cR_lift (fun _ _ kk => eE_aload_n lk197_38 g1 kk) ?_
    refine cR_lift (fun _ _ kk => eE_aload_n lk197_39 g0 kk) ?_
    refine cR_getI lk197_40 rf_14_118 rfl (cob_any rfl bl0) ?_
    obtain ⟨σ18, h19, h⟩ := Option.bind_eq_some_iff.mp h
    refine cR_putI lk197_43 rf_14_121 rfl (cob_mon (cput_mon h17) bl1) pf_8_1 rfl h19 ?_
    refine cR_lift (fun _ _ kk => eE_aload_n lk197_46 g0 kk) ?_
    refine cR_lift (fun _ _ kk => eE_dup lk197_47 rfl kk) ?_
    refine cR_getI lk197_48 rf_14_118 rfl (cob_any rfl bl0) ?_
    refine cR_lift (fun _ _ kk => eE_iconst (v := 1) lk197_51 (by decide) kk) ?_
    refine cR_lift (fun _ _ kk => eE_iadd lk197_52 kk) ?_
    obtain ⟨σ20, h21, h⟩ := Option.bind_eq_some_iff.mp h
    refine cR_putI lk197_53 rf_14_118 rfl (cob_any rfl bl0) pf_14_1 rfl h21 ?_
    refine cR_lift (fun _ _ kk => eE_aload_n lk197_56 g0 kk) ?_
    refine cR_lift (fun _ _ kk => eE_dup lk197_57 rfl kk) ?_
    refine cR_getI lk197_58 rf_14_124 rfl (cob_any rfl bl0) ?_
    refine cR_lift (fun _ _ kk => eE_iconst (v := 1) lk197_61 (by decide) kk) ?_
    refine cR_lift (fun _ _ kk => eE_iadd lk197_62 kk) ?_
    obtain ⟨σ22, h23, h⟩ := Option.bind_eq_some_iff.mp h
    refine cR_putI lk197_63 rf_14_124 rfl (cob_any rfl bl0) pf_14_3 rfl h23 ?_
    refine cR_lift (fun _ _ kk => eE_aload_n lk197_66 g0 kk) ?_
    refine cR_getA lk197_67 rf_14_31 (by decide) (cob_any rfl bl0) ?_
    refine cR_virtL (cl := 14) (i := l0) (f := 15) (as := []) lk197_70 mr_14_55 na_14 rfl rfl (by first | exact Nat.le_of_ble_eq_true rfl | (simp [xcat, cvo_cat, cat_i, cat_j, cat_r]; done)) wv_14 wc_14 rfl (cob_any rfl bl0) ((hL (d + 0)).1 E g _ 14 l0 15 rfl (cob_any rfl bl0)) (fun _ => ?_)
    refine cR_stI (j := 3) lk197_73 (Or.inr ⟨_, rfl, rfl⟩) (by decide) (fun vq24 gq25 kq26 => ?_)
    have gq27 := kq26 0 _ (by decide) (fun e => absurd e (by decide)) g0
    have gq28 := kq26 1 _ (by decide) (fun e => absurd e (by decide)) g1
    have gq29 := kq26 2 _ (by decide) (fun _ => rfl) g2
    exact k_World_launch_b74_ok hp0 hL hF  F g vq24 σ22 l0 l1 l2 (clsz σ22 14 l0 15) (cob_any rfl bl0) (cob_mon (cput_mon h23) (cob_mon (cput_mon h21) (cob_mon (cput_mon h19) (cob_mon (cput_mon h17) bl1)))) gq27 gq28 gq29 gq25 _ h
  · rw [if_neg c15] at h
    refine cR_lift (fun _ _ kk => eE_aload_n lk197_13 g0 kk) ?_
    refine cR_lift (fun _ _ kk => eE_dup lk197_14 rfl kk) ?_
    refine cR_getI lk197_15 rf_14_108 rfl bl0 ?_
    refine cR_lift (fun _ _ kk => eE_iconst (v := 1) lk197_18 (by decide) kk) ?_
    refine cR_lift (fun _ _ kk => eE_iadd lk197_19 kk) ?_
    obtain ⟨σ30, h31, h⟩ := Option.bind_eq_some_iff.mp h
    refine cR_putI lk197_20 rf_14_108 rfl bl0 pf_14_4 rfl h31 ?_
    refine cR_lift (fun _ _ kk => eE_aload_n lk197_23 g0 kk) ?_
    refine cR_getA lk197_24 rf_14_35 (by decide) (cob_any rfl bl0) ?_
    refine cR_lift (fun _ _ kk => eE_aload_n lk197_27 g1 kk) ?_
    obtain ⟨σ33, h34, h⟩ := Option.bind_eq_some_iff.mp h
    refine cR_virtLG (cl := 14) (i := l0) (f := 16) (as := [.ref l1]) lk197_28 mr_14_111 na_2 rfl rfl (by first | exact Nat.le_of_ble_eq_true rfl | (simp [xcat, cvo_cat, cat_i, cat_j, cat_r]; done)) wv_2 wc_2 rfl (cob_any rfl bl0) ((hL (d + 0)).2.2.2.1 E g _ 14 l0 16 l1 _ rfl (cob_any rfl bl0) (clt8 (cob_mon (cput_mon h31) bl1)) h34) (fun _ g_32 => ?_)
    refine cR_lift (fun _ _ kk => eE_pop lk197_31 rfl kk) ?_
    cases h
    exact cR_end lk197_32 rfl rfl rfl
def k_World_launch (F : Nat) (σ : CS) (l0 : Nat) (l1 : Nat) (l2 : Int32) : Option (CS) := k_World_launch_b0 F σ l0 l1 l2
theorem k_World_launch_ok {E : CE} {pF : Nat → List Value → xH → Option (Option Value × xH)} (hp0 : xNPc pF) (hL : lcAll pF) (hF : lcF pF) {d : Nat} {g : CG} {σ : CS} {F : Nat} {l0 : Nat} {l1 : Nat} {l2 : Int32} {res : CS} (bl0 : cob σ 14 l0) (bl1 : cob σ 8 l1) (h : k_World_launch F σ l0 l1 l2 = some res) : cCo E false pF (d + 9) 197 [.ref (coa E 14 l0), .ref (coa E 8 l1), .int l2] none res g σ :=
  cCo_R kk_197 mo_197 ni_197 xm_197 (Nat.le_of_ble_eq_true rfl) (hp0 197 (by decide) _) (k_World_launch_b0_ok hp0 hL hF g _ σ l0 l1 l2 bl0 bl1 rfl rfl rfl _ h)
/-! k_World_drawn (189), depth 1 -/
def k_World_drawn_b36  (σ : CS) (s0 : Int32) : Option ((Int32) × CS) :=
  some (s0, σ)
set_option maxRecDepth 4000 in
theorem k_World_drawn_b36_ok {E : CE} {pF : Nat → List Value → xH → Option (Option Value × xH)} (hp0 : xNPc pF) (hL : lcAll pF) (hF : lcF pF) {d : Nat}   : ∀ (g : CG) (lv : xL) (σ : CS) (s0 : Int32), ∀ res, k_World_drawn_b36  σ s0 = some res → cR E true pF (d + 0) kT189 14 2 (some FieldType.int) (some (.int res.1)) res.2 g σ (36, lv, [.int s0]) := by
  intro g lv σ s0 res h
  unfold k_World_drawn_b36 at h
  cases h
  exact cR_end lk189_36 rfl rfl rfl
def k_World_drawn_b0  (σ : CS) (l0 : Nat) (l1 : Int32) : Option ((Int32) × CS) :=
  (some (csJ σ 14 l0 9 0 (((cJ σ 14 l0 9 0) * ((6364136223846793005 : Int64))) + ((1442695040888963407 : Int64))))).bind fun σ1 =>
  if xc2 .ge l1 ((1 : Int32)) = true then (
    if (l1.toInt64) = 0 then none else
    k_World_drawn_b36  σ1 (((((cJ σ1 14 l0 9 0).toUInt64 >>> (((33 : Int32)).toInt64.toUInt64 &&& Int64.toUInt64 63)).toInt64) - (((cJ σ1 14 l0 9 0).toUInt64 >>> (((33 : Int32)).toInt64.toUInt64 &&& Int64.toUInt64 63)).toInt64) / (l1.toInt64) * (l1.toInt64)).toInt32)
  ) else (
    k_World_drawn_b36  σ1 ((0 : Int32))
  )
set_option maxRecDepth 4000 in
theorem k_World_drawn_b0_ok {E : CE} {pF : Nat → List Value → xH → Option (Option Value × xH)} (hp0 : xNPc pF) (hL : lcAll pF) (hF : lcF pF) {d : Nat}   : ∀ (g : CG) (lv : xL) (σ : CS) (l0 : Nat) (l1 : Int32), (cob σ 14 l0) → (xg lv 0 = some (.ref (coa E 14 l0))) → (xg lv 1 = some (.int l1)) → ∀ res, k_World_drawn_b0  σ l0 l1 = some res → cR E true pF (d + 0) kT189 14 2 (some FieldType.int) (some (.int res.1)) res.2 g σ (0, lv, []) := by
  intro g lv σ l0 l1 bl0 g0 g1 res h
  unfold k_World_drawn_b0 at h
  refine cR_lift (fun _ _ kk => eE_aload_n lk189_0 g0 kk) ?_
  refine cR_lift (fun _ _ kk => eE_aload_n lk189_1 g0 kk) ?_
  refine cR_getJ lk189_2 rf_14_100 rfl bl0 ?_
  refine cR_lift (fun _ _ kk => eE_ldc2_w (v := 6364136223846793005) lk189_5 xl_14_104 kk) ?_
  refine cR_lift (fun _ _ kk => eE_lmul lk189_8 kk) ?_
  refine cR_lift (fun _ _ kk => eE_ldc2_w (v := 1442695040888963407) lk189_9 xl_14_106 kk) ?_
  refine cR_lift (fun _ _ kk => eE_ladd lk189_12 kk) ?_
  obtain ⟨σ1, h2, h⟩ := Option.bind_eq_some_iff.mp h
  refine cR_putJ lk189_13 rf_14_100 rfl bl0 pf_14_9 h2 ?_
  refine cR_lift (fun _ _ kk => eE_iload_n lk189_16 g1 kk) ?_
  refine cR_lift (fun _ _ kk => eE_iconst (v := 1) lk189_17 (by decide) kk) ?_
  refine cR_icmp (t := 25) lk189_18 (by decide) (fun c3 => ?_) (fun c3 => ?_)
  · rw [if_pos c3] at h
    refine cR_lift (fun _ _ kk => eE_aload_n lk189_25 g0 kk) ?_
    refine cR_getJ lk189_26 rf_14_100 rfl (cob_any rfl bl0) ?_
    refine cR_lift (fun _ _ kk => eE_bipush (v := 33) lk189_29 (by decide) kk) ?_
    refine cR_lift (fun _ _ kk => eE_lushr lk189_31 kk) ?_
    refine cR_lift (fun _ _ kk => eE_iload_n lk189_32 g1 kk) ?_
    refine cR_lift (fun _ _ kk => eE_i2l lk189_33 kk) ?_
    by_cases z4 : (l1.toInt64) = 0
    · rw [if_pos z4] at h; cases h
    rw [if_neg z4] at h
    refine cR_lift (fun _ _ kk => eE_lrem lk189_34 z4 kk) ?_
    refine cR_lift (fun _ _ kk => eE_l2i lk189_35 kk) ?_
    exact k_World_drawn_b36_ok hp0 hL hF  g lv σ1 (((((cJ σ1 14 l0 9 0).toUInt64 >>> (((33 : Int32)).toInt64.toUInt64 &&& Int64.toUInt64 63)).toInt64) - (((cJ σ1 14 l0 9 0).toUInt64 >>> (((33 : Int32)).toInt64.toUInt64 &&& Int64.toUInt64 63)).toInt64) / (l1.toInt64) * (l1.toInt64)).toInt32)  _ h
  · rw [if_neg c3] at h
    refine cR_lift (fun _ _ kk => eE_iconst (v := 0) lk189_21 (by decide) kk) ?_
    refine cR_lift (fun _ _ kk => eE_goto (t := 36) lk189_22 (by decide) kk) ?_
    exact k_World_drawn_b36_ok hp0 hL hF  g lv σ1 ((0 : Int32))  _ h
def k_World_drawn (σ : CS) (l0 : Nat) (l1 : Int32) : Option ((Int32) × CS) := k_World_drawn_b0 σ l0 l1
theorem k_World_drawn_ok {E : CE} {pF : Nat → List Value → xH → Option (Option Value × xH)} (hp0 : xNPc pF) (hL : lcAll pF) (hF : lcF pF) {d : Nat} {g : CG} {σ : CS} {l0 : Nat} {l1 : Int32} {res : (Int32) × CS} (bl0 : cob σ 14 l0) (h : k_World_drawn σ l0 l1 = some res) : cCo E true pF (d + 1) 189 [.ref (coa E 14 l0), .int l1] (some (.int res.1)) res.2 g σ :=
  cCo_R kk_189 mo_189 ni_189 xm_189 (Nat.le_of_ble_eq_true rfl) (hp0 189 (by decide) _) (k_World_drawn_b0_ok hp0 hL hF g _ σ l0 l1 bl0 rfl rfl _ h)
/-! k_Letter_copyFrom (59), depth 1 -/
def k_Letter_copyFrom_b0  (σ : CS) (l0 : Nat) (l1 : Nat) : Option (CS) :=
  (some (csI σ 8 l0 2 0 (cI σ 8 l1 2 0))).bind fun σ1 =>
  (some (csI σ1 8 l0 3 0 (cI σ1 8 l1 3 0))).bind fun σ3 =>
  (some (csI σ3 8 l0 4 0 (cI σ3 8 l1 4 0))).bind fun σ5 =>
  (some (csI σ5 8 l0 5 0 (cI σ5 8 l1 5 0))).bind fun σ7 =>
  (some (csI σ7 8 l0 6 0 (cI σ7 8 l1 6 0))).bind fun σ9 =>
  (some (csI σ9 8 l0 7 0 (cI σ9 8 l1 7 0))).bind fun σ11 =>
  (some (csI σ11 8 l0 8 0 (cI σ11 8 l1 8 0))).bind fun σ13 =>
  (some (csI σ13 8 l0 9 0 (cI σ13 8 l1 9 0))).bind fun σ15 =>
  (some (csI σ15 8 l0 10 0 (cI σ15 8 l1 10 0))).bind fun σ17 =>
  (some (csI σ17 8 l0 11 0 (cI σ17 8 l1 11 0))).bind fun σ19 =>
  (some (csI σ19 8 l0 12 0 (cI σ19 8 l1 12 0))).bind fun σ21 =>
  (some (csI σ21 8 l0 13 0 (cI σ21 8 l1 13 0))).bind fun σ23 =>
  (some (csI σ23 8 l0 14 0 (cI σ23 8 l1 14 0))).bind fun σ25 =>
  (some (csI σ25 8 l0 15 0 (cI σ25 8 l1 15 0))).bind fun σ27 =>
  (some (csI σ27 8 l0 16 0 (cI σ27 8 l1 16 0))).bind fun σ29 =>
  (some (csI σ29 8 l0 17 0 (cI σ29 8 l1 17 0))).bind fun σ31 =>
  (ccpy σ31 8 l1 18 ((0 : Int32)) 8 l0 18 ((0 : Int32)) (Int32.ofNat (cal σ31 8 l0 18))).bind fun σ33 =>
  (ccpy σ33 8 l1 19 ((0 : Int32)) 8 l0 19 ((0 : Int32)) (Int32.ofNat (cal σ33 8 l0 19))).bind fun σ35 =>
  some σ35
set_option maxRecDepth 4000 in
theorem k_Letter_copyFrom_b0_ok {E : CE} {pF : Nat → List Value → xH → Option (Option Value × xH)} (hp0 : xNPc pF) (hL : lcAll pF) (hF : lcF pF) {d : Nat}   : ∀ (g : CG) (lv : xL) (σ : CS) (l0 : Nat) (l1 : Nat), (cob σ 8 l0) → (cob σ 8 l1) → (xg lv 0 = some (.ref (coa E 8 l0))) → (xg lv 1 = some (.ref (coa E 8 l1))) → ∀ res, k_Letter_copyFrom_b0  σ l0 l1 = some res → cR E true pF (d + 0) kT59 8 2 none none res g σ (0, lv, []) := by
  intro g lv σ l0 l1 bl0 bl1 g0 g1 res h
  unfold k_Letter_copyFrom_b0 at h
  refine cR_lift (fun _ _ kk => eE_aload_n lk59_0 g0 kk) ?_
  refine cR_lift (fun _ _ kk => eE_aload_n lk59_1 g1 kk) ?_
  refine cR_getI lk59_2 rf_8_19 rfl bl1 ?_
  obtain ⟨σ1, h2, h⟩ := Option.bind_eq_some_iff.mp h
  refine cR_putI lk59_5 rf_8_19 rfl bl0 pf_8_2 rfl h2 ?_
  refine cR_lift (fun _ _ kk => eE_aload_n lk59_8 g0 kk) ?_
  refine cR_lift (fun _ _ kk => eE_aload_n lk59_9 g1 kk) ?_
  refine cR_getI lk59_10 rf_8_23 rfl (cob_mon (cput_mon h2) bl1) ?_
  obtain ⟨σ3, h4, h⟩ := Option.bind_eq_some_iff.mp h
  refine cR_putI lk59_13 rf_8_23 rfl (cob_mon (cput_mon h2) bl0) pf_8_3 rfl h4 ?_
  refine cR_lift (fun _ _ kk => eE_aload_n lk59_16 g0 kk) ?_
  refine cR_lift (fun _ _ kk => eE_aload_n lk59_17 g1 kk) ?_
  refine cR_getI lk59_18 rf_8_26 rfl (cob_mon (cput_mon h4) (cob_mon (cput_mon h2) bl1)) ?_
  obtain ⟨σ5, h6, h⟩ := Option.bind_eq_some_iff.mp h
  refine cR_putI lk59_21 rf_8_26 rfl (cob_mon (cput_mon h4) (cob_mon (cput_mon h2) bl0)) pf_8_4 rfl h6 ?_
  refine cR_lift (fun _ _ kk => eE_aload_n lk59_24 g0 kk) ?_
  refine cR_lift (fun _ _ kk => eE_aload_n lk59_25 g1 kk) ?_
  refine cR_getI lk59_26 rf_8_29 rfl (cob_mon (cput_mon h6) (cob_mon (cput_mon h4) (cob_mon (cput_mon h2) bl1))) ?_
  obtain ⟨σ7, h8, h⟩ := Option.bind_eq_some_iff.mp h
  refine cR_putI lk59_29 rf_8_29 rfl (cob_mon (cput_mon h6) (cob_mon (cput_mon h4) (cob_mon (cput_mon h2) bl0))) pf_8_5 rfl h8 ?_
  refine cR_lift (fun _ _ kk => eE_aload_n lk59_32 g0 kk) ?_
  refine cR_lift (fun _ _ kk => eE_aload_n lk59_33 g1 kk) ?_
  refine cR_getI lk59_34 rf_8_32 rfl (cob_mon (cput_mon h8) (cob_mon (cput_mon h6) (cob_mon (cput_mon h4) (cob_mon (cput_mon h2) bl1)))) ?_
  obtain ⟨σ9, h10, h⟩ := Option.bind_eq_some_iff.mp h
  refine cR_putI lk59_37 rf_8_32 rfl (cob_mon (cput_mon h8) (cob_mon (cput_mon h6) (cob_mon (cput_mon h4) (cob_mon (cput_mon h2) bl0)))) pf_8_6 rfl h10 ?_
  refine cR_lift (fun _ _ kk => eE_aload_n lk59_40 g0 kk) ?_
  refine cR_lift (fun _ _ kk => eE_aload_n lk59_41 g1 kk) ?_
  refine cR_getI lk59_42 rf_8_35 rfl (cob_mon (cput_mon h10) (cob_mon (cput_mon h8) (cob_mon (cput_mon h6) (cob_mon (cput_mon h4) (cob_mon (cput_mon h2) bl1))))) ?_
  obtain ⟨σ11, h12, h⟩ := Option.bind_eq_some_iff.mp h
  refine cR_putI lk59_45 rf_8_35 rfl (cob_mon (cput_mon h10) (cob_mon (cput_mon h8) (cob_mon (cput_mon h6) (cob_mon (cput_mon h4) (cob_mon (cput_mon h2) bl0))))) pf_8_7 rfl h12 ?_
  refine cR_lift (fun _ _ kk => eE_aload_n lk59_48 g0 kk) ?_
  refine cR_lift (fun _ _ kk => eE_aload_n lk59_49 g1 kk) ?_
  refine cR_getI lk59_50 rf_8_38 rfl (cob_mon (cput_mon h12) (cob_mon (cput_mon h10) (cob_mon (cput_mon h8) (cob_mon (cput_mon h6) (cob_mon (cput_mon h4) (cob_mon (cput_mon h2) bl1)))))) ?_
  obtain ⟨σ13, h14, h⟩ := Option.bind_eq_some_iff.mp h
  refine cR_putI lk59_53 rf_8_38 rfl (cob_mon (cput_mon h12) (cob_mon (cput_mon h10) (cob_mon (cput_mon h8) (cob_mon (cput_mon h6) (cob_mon (cput_mon h4) (cob_mon (cput_mon h2) bl0)))))) pf_8_8 rfl h14 ?_
  refine cR_lift (fun _ _ kk => eE_aload_n lk59_56 g0 kk) ?_
  refine cR_lift (fun _ _ kk => eE_aload_n lk59_57 g1 kk) ?_
  refine cR_getI lk59_58 rf_8_41 rfl (cob_mon (cput_mon h14) (cob_mon (cput_mon h12) (cob_mon (cput_mon h10) (cob_mon (cput_mon h8) (cob_mon (cput_mon h6) (cob_mon (cput_mon h4) (cob_mon (cput_mon h2) bl1))))))) ?_
  obtain ⟨σ15, h16, h⟩ := Option.bind_eq_some_iff.mp h
  refine cR_putI lk59_61 rf_8_41 rfl (cob_mon (cput_mon h14) (cob_mon (cput_mon h12) (cob_mon (cput_mon h10) (cob_mon (cput_mon h8) (cob_mon (cput_mon h6) (cob_mon (cput_mon h4) (cob_mon (cput_mon h2) bl0))))))) pf_8_9 rfl h16 ?_
  refine cR_lift (fun _ _ kk => eE_aload_n lk59_64 g0 kk) ?_
  refine cR_lift (fun _ _ kk => eE_aload_n lk59_65 g1 kk) ?_
  refine cR_getI lk59_66 rf_8_44 rfl (cob_mon (cput_mon h16) (cob_mon (cput_mon h14) (cob_mon (cput_mon h12) (cob_mon (cput_mon h10) (cob_mon (cput_mon h8) (cob_mon (cput_mon h6) (cob_mon (cput_mon h4) (cob_mon (cput_mon h2) bl1)))))))) ?_
  obtain ⟨σ17, h18, h⟩ := Option.bind_eq_some_iff.mp h
  refine cR_putI lk59_69 rf_8_44 rfl (cob_mon (cput_mon h16) (cob_mon (cput_mon h14) (cob_mon (cput_mon h12) (cob_mon (cput_mon h10) (cob_mon (cput_mon h8) (cob_mon (cput_mon h6) (cob_mon (cput_mon h4) (cob_mon (cput_mon h2) bl0)))))))) pf_8_10 rfl h18 ?_
  refine cR_lift (fun _ _ kk => eE_aload_n lk59_72 g0 kk) ?_
  refine cR_lift (fun _ _ kk => eE_aload_n lk59_73 g1 kk) ?_
  refine cR_getI lk59_74 rf_8_47 rfl (cob_mon (cput_mon h18) (cob_mon (cput_mon h16) (cob_mon (cput_mon h14) (cob_mon (cput_mon h12) (cob_mon (cput_mon h10) (cob_mon (cput_mon h8) (cob_mon (cput_mon h6) (cob_mon (cput_mon h4) (cob_mon (cput_mon h2) bl1))))))))) ?_
  obtain ⟨σ19, h20, h⟩ := Option.bind_eq_some_iff.mp h
  refine cR_putI lk59_77 rf_8_47 rfl (cob_mon (cput_mon h18) (cob_mon (cput_mon h16) (cob_mon (cput_mon h14) (cob_mon (cput_mon h12) (cob_mon (cput_mon h10) (cob_mon (cput_mon h8) (cob_mon (cput_mon h6) (cob_mon (cput_mon h4) (cob_mon (cput_mon h2) bl0))))))))) pf_8_11 rfl h20 ?_
  refine cR_lift (fun _ _ kk => eE_aload_n lk59_80 g0 kk) ?_
  refine cR_lift (fun _ _ kk => eE_aload_n lk59_81 g1 kk) ?_
  refine cR_getI lk59_82 rf_8_50 rfl (cob_mon (cput_mon h20) (cob_mon (cput_mon h18) (cob_mon (cput_mon h16) (cob_mon (cput_mon h14) (cob_mon (cput_mon h12) (cob_mon (cput_mon h10) (cob_mon (cput_mon h8) (cob_mon (cput_mon h6) (cob_mon (cput_mon h4) (cob_mon (cput_mon h2) bl1)))))))))) ?_
  obtain ⟨σ21, h22, h⟩ := Option.bind_eq_some_iff.mp h
  refine cR_putI lk59_85 rf_8_50 rfl (cob_mon (cput_mon h20) (cob_mon (cput_mon h18) (cob_mon (cput_mon h16) (cob_mon (cput_mon h14) (cob_mon (cput_mon h12) (cob_mon (cput_mon h10) (cob_mon (cput_mon h8) (cob_mon (cput_mon h6) (cob_mon (cput_mon h4) (cob_mon (cput_mon h2) bl0)))))))))) pf_8_12 rfl h22 ?_
  refine cR_lift (fun _ _ kk => eE_aload_n lk59_88 g0 kk) ?_
  refine cR_lift (fun _ _ kk => eE_aload_n lk59_89 g1 kk) ?_
  refine cR_getI lk59_90 rf_8_53 rfl (cob_mon (cput_mon h22) (cob_mon (cput_mon h20) (cob_mon (cput_mon h18) (cob_mon (cput_mon h16) (cob_mon (cput_mon h14) (cob_mon (cput_mon h12) (cob_mon (cput_mon h10) (cob_mon (cput_mon h8) (cob_mon (cput_mon h6) (cob_mon (cput_mon h4) (cob_mon (cput_mon h2) bl1))))))))))) ?_
  obtain ⟨σ23, h24, h⟩ := Option.bind_eq_some_iff.mp h
  refine cR_putI lk59_93 rf_8_53 rfl (cob_mon (cput_mon h22) (cob_mon (cput_mon h20) (cob_mon (cput_mon h18) (cob_mon (cput_mon h16) (cob_mon (cput_mon h14) (cob_mon (cput_mon h12) (cob_mon (cput_mon h10) (cob_mon (cput_mon h8) (cob_mon (cput_mon h6) (cob_mon (cput_mon h4) (cob_mon (cput_mon h2) bl0))))))))))) pf_8_13 rfl h24 ?_
  refine cR_lift (fun _ _ kk => eE_aload_n lk59_96 g0 kk) ?_
  refine cR_lift (fun _ _ kk => eE_aload_n lk59_97 g1 kk) ?_
  refine cR_getI lk59_98 rf_8_56 rfl (cob_mon (cput_mon h24) (cob_mon (cput_mon h22) (cob_mon (cput_mon h20) (cob_mon (cput_mon h18) (cob_mon (cput_mon h16) (cob_mon (cput_mon h14) (cob_mon (cput_mon h12) (cob_mon (cput_mon h10) (cob_mon (cput_mon h8) (cob_mon (cput_mon h6) (cob_mon (cput_mon h4) (cob_mon (cput_mon h2) bl1)))))))))))) ?_
  obtain ⟨σ25, h26, h⟩ := Option.bind_eq_some_iff.mp h
  refine cR_putI lk59_101 rf_8_56 rfl (cob_mon (cput_mon h24) (cob_mon (cput_mon h22) (cob_mon (cput_mon h20) (cob_mon (cput_mon h18) (cob_mon (cput_mon h16) (cob_mon (cput_mon h14) (cob_mon (cput_mon h12) (cob_mon (cput_mon h10) (cob_mon (cput_mon h8) (cob_mon (cput_mon h6) (cob_mon (cput_mon h4) (cob_mon (cput_mon h2) bl0)))))))))))) pf_8_14 rfl h26 ?_
  refine cR_lift (fun _ _ kk => eE_aload_n lk59_104 g0 kk) ?_
  refine cR_lift (fun _ _ kk => eE_aload_n lk59_105 g1 kk) ?_
  refine cR_getI lk59_106 rf_8_59 rfl (cob_mon (cput_mon h26) (cob_mon (cput_mon h24) (cob_mon (cput_mon h22) (cob_mon (cput_mon h20) (cob_mon (cput_mon h18) (cob_mon (cput_mon h16) (cob_mon (cput_mon h14) (cob_mon (cput_mon h12) (cob_mon (cput_mon h10) (cob_mon (cput_mon h8) (cob_mon (cput_mon h6) (cob_mon (cput_mon h4) (cob_mon (cput_mon h2) bl1))))))))))))) ?_
  obtain ⟨σ27, h28, h⟩ := Option.bind_eq_some_iff.mp h
  refine cR_putI lk59_109 rf_8_59 rfl (cob_mon (cput_mon h26) (cob_mon (cput_mon h24) (cob_mon (cput_mon h22) (cob_mon (cput_mon h20) (cob_mon (cput_mon h18) (cob_mon (cput_mon h16) (cob_mon (cput_mon h14) (cob_mon (cput_mon h12) (cob_mon (cput_mon h10) (cob_mon (cput_mon h8) (cob_mon (cput_mon h6) (cob_mon (cput_mon h4) (cob_mon (cput_mon h2) bl0))))))))))))) pf_8_15 rfl h28 ?_
  refine cR_lift (fun _ _ kk => eE_aload_n lk59_112 g0 kk) ?_
  refine cR_lift (fun _ _ kk => eE_aload_n lk59_113 g1 kk) ?_
  refine cR_getI lk59_114 rf_8_62 rfl (cob_mon (cput_mon h28) (cob_mon (cput_mon h26) (cob_mon (cput_mon h24) (cob_mon (cput_mon h22) (cob_mon (cput_mon h20) (cob_mon (cput_mon h18) (cob_mon (cput_mon h16) (cob_mon (cput_mon h14) (cob_mon (cput_mon h12) (cob_mon (cput_mon h10) (cob_mon (cput_mon h8) (cob_mon (cput_mon h6) (cob_mon (cput_mon h4) (cob_mon (cput_mon h2) bl1)))))))))))))) ?_
  obtain ⟨σ29, h30, h⟩ := Option.bind_eq_some_iff.mp h
  refine cR_putI lk59_117 rf_8_62 rfl (cob_mon (cput_mon h28) (cob_mon (cput_mon h26) (cob_mon (cput_mon h24) (cob_mon (cput_mon h22) (cob_mon (cput_mon h20) (cob_mon (cput_mon h18) (cob_mon (cput_mon h16) (cob_mon (cput_mon h14) (cob_mon (cput_mon h12) (cob_mon (cput_mon h10) (cob_mon (cput_mon h8) (cob_mon (cput_mon h6) (cob_mon (cput_mon h4) (cob_mon (cput_mon h2) bl0)))))))))))))) pf_8_16 rfl h30 ?_
  refine cR_lift (fun _ _ kk => eE_aload_n lk59_120 g0 kk) ?_
  refine cR_lift (fun _ _ kk => eE_aload_n lk59_121 g1 kk) ?_
  refine cR_getI lk59_122 rf_8_65 rfl (cob_mon (cput_mon h30) (cob_mon (cput_mon h28) (cob_mon (cput_mon h26) (cob_mon (cput_mon h24) (cob_mon (cput_mon h22) (cob_mon (cput_mon h20) (cob_mon (cput_mon h18) (cob_mon (cput_mon h16) (cob_mon (cput_mon h14) (cob_mon (cput_mon h12) (cob_mon (cput_mon h10) (cob_mon (cput_mon h8) (cob_mon (cput_mon h6) (cob_mon (cput_mon h4) (cob_mon (cput_mon h2) bl1))))))))))))))) ?_
  obtain ⟨σ31, h32, h⟩ := Option.bind_eq_some_iff.mp h
  refine cR_putI lk59_125 rf_8_65 rfl (cob_mon (cput_mon h30) (cob_mon (cput_mon h28) (cob_mon (cput_mon h26) (cob_mon (cput_mon h24) (cob_mon (cput_mon h22) (cob_mon (cput_mon h20) (cob_mon (cput_mon h18) (cob_mon (cput_mon h16) (cob_mon (cput_mon h14) (cob_mon (cput_mon h12) (cob_mon (cput_mon h10) (cob_mon (cput_mon h8) (cob_mon (cput_mon h6) (cob_mon (cput_mon h4) (cob_mon (cput_mon h2) bl0))))))))))))))) pf_8_17 rfl h32 ?_
  refine cR_lift (fun _ _ kk => eE_aload_n lk59_128 g1 kk) ?_
  refine cR_getA lk59_129 rf_8_9 (by decide) (cob_mon (cput_mon h32) (cob_mon (cput_mon h30) (cob_mon (cput_mon h28) (cob_mon (cput_mon h26) (cob_mon (cput_mon h24) (cob_mon (cput_mon h22) (cob_mon (cput_mon h20) (cob_mon (cput_mon h18) (cob_mon (cput_mon h16) (cob_mon (cput_mon h14) (cob_mon (cput_mon h12) (cob_mon (cput_mon h10) (cob_mon (cput_mon h8) (cob_mon (cput_mon h6) (cob_mon (cput_mon h4) (cob_mon (cput_mon h2) bl1)))))))))))))))) ?_
  refine cR_lift (fun _ _ kk => eE_iconst (v := 0) lk59_132 (by decide) kk) ?_
  refine cR_lift (fun _ _ kk => eE_aload_n lk59_133 g0 kk) ?_
  refine cR_getA lk59_134 rf_8_9 (by decide) (cob_mon (cput_mon h32) (cob_mon (cput_mon h30) (cob_mon (cput_mon h28) (cob_mon (cput_mon h26) (cob_mon (cput_mon h24) (cob_mon (cput_mon h22) (cob_mon (cput_mon h20) (cob_mon (cput_mon h18) (cob_mon (cput_mon h16) (cob_mon (cput_mon h14) (cob_mon (cput_mon h12) (cob_mon (cput_mon h10) (cob_mon (cput_mon h8) (cob_mon (cput_mon h6) (cob_mon (cput_mon h4) (cob_mon (cput_mon h2) bl0)))))))))))))))) ?_
  refine cR_lift (fun _ _ kk => eE_iconst (v := 0) lk59_137 (by decide) kk) ?_
  refine cR_lift (fun _ _ kk => eE_aload_n lk59_138 g0 kk) ?_
  refine cR_getA lk59_139 rf_8_9 (by decide) (cob_mon (cput_mon h32) (cob_mon (cput_mon h30) (cob_mon (cput_mon h28) (cob_mon (cput_mon h26) (cob_mon (cput_mon h24) (cob_mon (cput_mon h22) (cob_mon (cput_mon h20) (cob_mon (cput_mon h18) (cob_mon (cput_mon h16) (cob_mon (cput_mon h14) (cob_mon (cput_mon h12) (cob_mon (cput_mon h10) (cob_mon (cput_mon h8) (cob_mon (cput_mon h6) (cob_mon (cput_mon h4) (cob_mon (cput_mon h2) bl0)))))))))))))))) ?_
  refine cR_alen (cl := 8) (i := l0) (f := 18) lk59_142 (by decide) (by decide) (cob_mon (cput_mon h32) (cob_mon (cput_mon h30) (cob_mon (cput_mon h28) (cob_mon (cput_mon h26) (cob_mon (cput_mon h24) (cob_mon (cput_mon h22) (cob_mon (cput_mon h20) (cob_mon (cput_mon h18) (cob_mon (cput_mon h16) (cob_mon (cput_mon h14) (cob_mon (cput_mon h12) (cob_mon (cput_mon h10) (cob_mon (cput_mon h8) (cob_mon (cput_mon h6) (cob_mon (cput_mon h4) (cob_mon (cput_mon h2) bl0)))))))))))))))) ?_
  obtain ⟨σ33, h34, h⟩ := Option.bind_eq_some_iff.mp h
  refine cR_cpy (a := 8) (i := l1) (f := 18) (a' := 8) (i' := l0) (f' := 18) lk59_143 yc_8_68.1 yc_8_68.2 (by decide) (by decide) (by decide) (cob_mon (cput_mon h32) (cob_mon (cput_mon h30) (cob_mon (cput_mon h28) (cob_mon (cput_mon h26) (cob_mon (cput_mon h24) (cob_mon (cput_mon h22) (cob_mon (cput_mon h20) (cob_mon (cput_mon h18) (cob_mon (cput_mon h16) (cob_mon (cput_mon h14) (cob_mon (cput_mon h12) (cob_mon (cput_mon h10) (cob_mon (cput_mon h8) (cob_mon (cput_mon h6) (cob_mon (cput_mon h4) (cob_mon (cput_mon h2) bl1)))))))))))))))) (cob_mon (cput_mon h32) (cob_mon (cput_mon h30) (cob_mon (cput_mon h28) (cob_mon (cput_mon h26) (cob_mon (cput_mon h24) (cob_mon (cput_mon h22) (cob_mon (cput_mon h20) (cob_mon (cput_mon h18) (cob_mon (cput_mon h16) (cob_mon (cput_mon h14) (cob_mon (cput_mon h12) (cob_mon (cput_mon h10) (cob_mon (cput_mon h8) (cob_mon (cput_mon h6) (cob_mon (cput_mon h4) (cob_mon (cput_mon h2) bl0)))))))))))))))) (by first | exact Nat.le_of_ble_eq_true rfl | (simp [xcat, cvo_cat, cat_i, cat_j, cat_r]; done)) h34 ?_
  refine cR_lift (fun _ _ kk => eE_aload_n lk59_146 g1 kk) ?_
  refine cR_getA lk59_147 rf_8_15 (by decide) (cob_mon (ccpy_mon h34) (cob_mon (cput_mon h32) (cob_mon (cput_mon h30) (cob_mon (cput_mon h28) (cob_mon (cput_mon h26) (cob_mon (cput_mon h24) (cob_mon (cput_mon h22) (cob_mon (cput_mon h20) (cob_mon (cput_mon h18) (cob_mon (cput_mon h16) (cob_mon (cput_mon h14) (cob_mon (cput_mon h12) (cob_mon (cput_mon h10) (cob_mon (cput_mon h8) (cob_mon (cput_mon h6) (cob_mon (cput_mon h4) (cob_mon (cput_mon h2) bl1))))))))))))))))) ?_
  refine cR_lift (fun _ _ kk => eE_iconst (v := 0) lk59_150 (by decide) kk) ?_
  refine cR_lift (fun _ _ kk => eE_aload_n lk59_151 g0 kk) ?_
  refine cR_getA lk59_152 rf_8_15 (by decide) (cob_mon (ccpy_mon h34) (cob_mon (cput_mon h32) (cob_mon (cput_mon h30) (cob_mon (cput_mon h28) (cob_mon (cput_mon h26) (cob_mon (cput_mon h24) (cob_mon (cput_mon h22) (cob_mon (cput_mon h20) (cob_mon (cput_mon h18) (cob_mon (cput_mon h16) (cob_mon (cput_mon h14) (cob_mon (cput_mon h12) (cob_mon (cput_mon h10) (cob_mon (cput_mon h8) (cob_mon (cput_mon h6) (cob_mon (cput_mon h4) (cob_mon (cput_mon h2) bl0))))))))))))))))) ?_
  refine cR_lift (fun _ _ kk => eE_iconst (v := 0) lk59_155 (by decide) kk) ?_
  refine cR_lift (fun _ _ kk => eE_aload_n lk59_156 g0 kk) ?_
  refine cR_getA lk59_157 rf_8_15 (by decide) (cob_mon (ccpy_mon h34) (cob_mon (cput_mon h32) (cob_mon (cput_mon h30) (cob_mon (cput_mon h28) (cob_mon (cput_mon h26) (cob_mon (cput_mon h24) (cob_mon (cput_mon h22) (cob_mon (cput_mon h20) (cob_mon (cput_mon h18) (cob_mon (cput_mon h16) (cob_mon (cput_mon h14) (cob_mon (cput_mon h12) (cob_mon (cput_mon h10) (cob_mon (cput_mon h8) (cob_mon (cput_mon h6) (cob_mon (cput_mon h4) (cob_mon (cput_mon h2) bl0))))))))))))))))) ?_
  refine cR_alen (cl := 8) (i := l0) (f := 19) lk59_160 (by decide) (by decide) (cob_mon (ccpy_mon h34) (cob_mon (cput_mon h32) (cob_mon (cput_mon h30) (cob_mon (cput_mon h28) (cob_mon (cput_mon h26) (cob_mon (cput_mon h24) (cob_mon (cput_mon h22) (cob_mon (cput_mon h20) (cob_mon (cput_mon h18) (cob_mon (cput_mon h16) (cob_mon (cput_mon h14) (cob_mon (cput_mon h12) (cob_mon (cput_mon h10) (cob_mon (cput_mon h8) (cob_mon (cput_mon h6) (cob_mon (cput_mon h4) (cob_mon (cput_mon h2) bl0))))))))))))))))) ?_
  obtain ⟨σ35, h36, h⟩ := Option.bind_eq_some_iff.mp h
  refine cR_cpy (a := 8) (i := l1) (f := 19) (a' := 8) (i' := l0) (f' := 19) lk59_161 yc_8_68.1 yc_8_68.2 (by decide) (by decide) (by decide) (cob_mon (ccpy_mon h34) (cob_mon (cput_mon h32) (cob_mon (cput_mon h30) (cob_mon (cput_mon h28) (cob_mon (cput_mon h26) (cob_mon (cput_mon h24) (cob_mon (cput_mon h22) (cob_mon (cput_mon h20) (cob_mon (cput_mon h18) (cob_mon (cput_mon h16) (cob_mon (cput_mon h14) (cob_mon (cput_mon h12) (cob_mon (cput_mon h10) (cob_mon (cput_mon h8) (cob_mon (cput_mon h6) (cob_mon (cput_mon h4) (cob_mon (cput_mon h2) bl1))))))))))))))))) (cob_mon (ccpy_mon h34) (cob_mon (cput_mon h32) (cob_mon (cput_mon h30) (cob_mon (cput_mon h28) (cob_mon (cput_mon h26) (cob_mon (cput_mon h24) (cob_mon (cput_mon h22) (cob_mon (cput_mon h20) (cob_mon (cput_mon h18) (cob_mon (cput_mon h16) (cob_mon (cput_mon h14) (cob_mon (cput_mon h12) (cob_mon (cput_mon h10) (cob_mon (cput_mon h8) (cob_mon (cput_mon h6) (cob_mon (cput_mon h4) (cob_mon (cput_mon h2) bl0))))))))))))))))) (by first | exact Nat.le_of_ble_eq_true rfl | (simp [xcat, cvo_cat, cat_i, cat_j, cat_r]; done)) h36 ?_
  cases h
  exact cR_end lk59_164 rfl rfl rfl
def k_Letter_copyFrom (σ : CS) (l0 : Nat) (l1 : Nat) : Option (CS) := k_Letter_copyFrom_b0 σ l0 l1
theorem k_Letter_copyFrom_ok {E : CE} {pF : Nat → List Value → xH → Option (Option Value × xH)} (hp0 : xNPc pF) (hL : lcAll pF) (hF : lcF pF) {d : Nat} {g : CG} {σ : CS} {l0 : Nat} {l1 : Nat} {res : CS} (bl0 : cob σ 8 l0) (bl1 : cob σ 8 l1) (h : k_Letter_copyFrom σ l0 l1 = some res) : cCo E true pF (d + 1) 59 [.ref (coa E 8 l0), .ref (coa E 8 l1)] none res g σ :=
  cCo_R kk_59 mo_59 ni_59 xm_59 (Nat.le_of_ble_eq_true rfl) (hp0 59 (by decide) _) (k_Letter_copyFrom_b0_ok hp0 hL hF g _ σ l0 l1 bl0 bl1 rfl rfl _ h)
/-! k_World_post (199), depth 10 -/
def k_World_post_b212 (F : Nat)  (σ : CS) : Option (CS) :=
  some σ
set_option maxRecDepth 4000 in
theorem k_World_post_b212_ok {E : CE} {pF : Nat → List Value → xH → Option (Option Value × xH)} (hp0 : xNPc pF) (hL : lcAll pF) (hF : lcF pF) {d : Nat} {F : Nat}   : ∀ (g : CG) (lv : xL) (σ : CS), ∀ res, k_World_post_b212 F  σ = some res → cR E false pF (d + 9) kT199 14 5 none none res g σ (212, lv, []) := by
  intro g lv σ res h
  unfold k_World_post_b212 at h
  cases h
  exact cR_end lk199_212 rfl rfl rfl
def k_World_post_b172 (F : Nat)  (σ : CS) (l0 : Nat) (l1 : Nat) (l2 : Int32) (l4 : Option Nat) : Option (CS) :=
  (k_World_drawn σ l0 ((cI σ 14 l0 8 0) + ((1 : Int32)))).bind fun p1 =>
  (k_World_launch F p1.2 l0 l1 (l2 + p1.1)).bind fun p4 =>
  if l4 = none then (
    k_World_post_b212 F  p4
  ) else (
    (k_World_drawn p4 l0 ((cI p4 14 l0 8 0) + ((1 : Int32)))).bind fun p10 =>
    (l4).bind fun a13 =>
    (k_World_launch F p10.2 l0 a13 (l2 + p10.1)).bind fun p15 =>
    k_World_post_b212 F  p15
  )
set_option maxRecDepth 4000 in
theorem k_World_post_b172_ok {E : CE} {pF : Nat → List Value → xH → Option (Option Value × xH)} (hp0 : xNPc pF) (hL : lcAll pF) (hF : lcF pF) {d : Nat} {F : Nat}   : ∀ (g : CG) (lv : xL) (σ : CS) (l0 : Nat) (l1 : Nat) (l2 : Int32) (l4 : Option Nat), (cob σ 14 l0) → (cob σ 8 l1) → (∀ a, l4 = some a → cob σ 8 a) → (xg lv 0 = some (.ref (coa E 14 l0))) → (xg lv 1 = some (.ref (coa E 8 l1))) → (xg lv 2 = some (.int l2)) → (xg lv 4 = some (cvo l4)) → ∀ res, k_World_post_b172 F  σ l0 l1 l2 l4 = some res → cR E false pF (d + 9) kT199 14 5 none none res g σ (172, lv, []) := by
  intro g lv σ l0 l1 l2 l4 bl0 bl1 bl4 g0 g1 g2 g4 res h
  unfold k_World_post_b172 at h
  refine cR_lift (fun _ _ kk => eE_aload_n lk199_172 g0 kk) ?_
  refine cR_lift (fun _ _ kk => eE_aload_n lk199_173 g1 kk) ?_
  refine cR_lift (fun _ _ kk => eE_iload_n lk199_174 g2 kk) ?_
  refine cR_lift (fun _ _ kk => eE_aload_n lk199_175 g0 kk) ?_
  refine cR_lift (fun _ _ kk => eE_aload_n lk199_176 g0 kk) ?_
  refine cR_getI lk199_177 rf_14_86 rfl bl0 ?_
  refine cR_lift (fun _ _ kk => eE_iconst (v := 1) lk199_180 (by decide) kk) ?_
  refine cR_lift (fun _ _ kk => eE_iadd lk199_181 kk) ?_
  obtain ⟨p1, h2, h⟩ := Option.bind_eq_some_iff.mp h
  refine cR_virt (cl := 14) (i := l0) (as := [.int ((cI σ 14 l0 8 0) + ((1 : Int32)))]) lk199_182 mr_14_93 na_189 rfl rfl (by first | exact Nat.le_of_ble_eq_true rfl | (simp [xcat, cvo_cat, cat_i, cat_j, cat_r]; done)) wv_189 wc_189 bl0 (k_World_drawn_ok hp0 hL hF (d := d + 8) bl0 h2) (fun m3  => ?_)
  refine cR_lift (fun _ _ kk => eE_iadd lk199_185 kk) ?_
  obtain ⟨p4, h5, h⟩ := Option.bind_eq_some_iff.mp h
  refine cR_virtG (cl := 14) (i := l0) (as := [.ref (coa E 8 l1), .int (l2 + p1.1)]) lk199_186 mr_14_89 na_197 rfl rfl (by first | exact Nat.le_of_ble_eq_true rfl | (simp [xcat, cvo_cat, cat_i, cat_j, cat_r]; done)) wv_197 wc_197 (cob_any rfl bl0) (k_World_launch_ok hp0 hL hF (d := d + 0) (cob_any rfl bl0) (cob_mon m3 bl1) h5) (fun m6 g_7 => ?_)
  refine cR_ldO (j := 4) lk199_189 (Or.inl rfl) g4 ?_
  refine cR_ifnull (t := 212) lk199_191 (by decide) (fun c8 => ?_) (fun a9 c8s => ?_)
  · rw [if_pos c8] at h
    exact k_World_post_b212_ok hp0 hL hF  g_7 lv p4  _ h
  · have c8 : ¬ l4 = none := by rw [c8s]; exact fun e => nomatch e
    rw [if_neg c8] at h
    refine cR_lift (fun _ _ kk => eE_aload_n lk199_194 g0 kk) ?_
    refine cR_ldO (j := 4) lk199_195 (Or.inl rfl) g4 ?_
    refine cR_lift (fun _ _ kk => eE_iload_n lk199_197 g2 kk) ?_
    refine cR_lift (fun _ _ kk => eE_aload_n lk199_198 g0 kk) ?_
    refine cR_lift (fun _ _ kk => eE_aload_n lk199_199 g0 kk) ?_
    refine cR_getI lk199_200 rf_14_86 rfl (cob_any rfl bl0) ?_
    refine cR_lift (fun _ _ kk => eE_iconst (v := 1) lk199_203 (by decide) kk) ?_
    refine cR_lift (fun _ _ kk => eE_iadd lk199_204 kk) ?_
    obtain ⟨p10, h11, h⟩ := Option.bind_eq_some_iff.mp h
    refine cR_virt (cl := 14) (i := l0) (as := [.int ((cI p4 14 l0 8 0) + ((1 : Int32)))]) lk199_205 mr_14_93 na_189 rfl rfl (by first | exact Nat.le_of_ble_eq_true rfl | (simp [xcat, cvo_cat, cat_i, cat_j, cat_r]; done)) wv_189 wc_189 (cob_any rfl bl0) (k_World_drawn_ok hp0 hL hF (d := d + 8) (cob_any rfl bl0) h11) (fun m12  => ?_)
    refine cR_lift (fun _ _ kk => eE_iadd lk199_208 kk) ?_
    obtain ⟨a13, h14, h⟩ := Option.bind_eq_some_iff.mp h
    rw [h14]
    obtain ⟨p15, h16, h⟩ := Option.bind_eq_some_iff.mp h
    refine cR_virtG (cl := 14) (i := l0) (as := [.ref (coa E 8 a13), .int (l2 + p10.1)]) lk199_209 mr_14_89 na_197 rfl rfl (by first | exact Nat.le_of_ble_eq_true rfl | (simp [xcat, cvo_cat, cat_i, cat_j, cat_r]; done)) wv_197 wc_197 (cob_any rfl bl0) (k_World_launch_ok hp0 hL hF (d := d + 0) (cob_any rfl bl0) ((fun a e => cob_mon m12 ((fun a e => cob_mon m6 ((fun a e => cob_mon m3 (bl4 a e)) a e)) a e)) _ h14) h16) (fun m17 g_18 => ?_)
    exact k_World_post_b212_ok hp0 hL hF  g_18 lv p15  _ h
def k_World_post_b159 (F : Nat)  (σ : CS) (s0 : Option Nat) (l0 : Nat) (l1 : Nat) (l2 : Int32) : Option (CS) :=
  if s0 = none then (
    k_World_post_b172 F  σ l0 l1 l2 s0
  ) else (
    (s0).bind fun a27 =>
    (k_Letter_copyFrom σ a27 l1).bind fun p29 =>
    k_World_post_b172 F  p29 l0 l1 l2 s0
  )
set_option maxRecDepth 4000 in
theorem k_World_post_b159_ok {E : CE} {pF : Nat → List Value → xH → Option (Option Value × xH)} (hp0 : xNPc pF) (hL : lcAll pF) (hF : lcF pF) {d : Nat} {F : Nat}   : ∀ (g : CG) (lv : xL) (σ : CS) (s0 : Option Nat) (l0 : Nat) (l1 : Nat) (l2 : Int32), (∀ a, s0 = some a → cob σ 8 a) → (cob σ 14 l0) → (cob σ 8 l1) → (xg lv 0 = some (.ref (coa E 14 l0))) → (xg lv 1 = some (.ref (coa E 8 l1))) → (xg lv 2 = some (.int l2)) → ∀ res, k_World_post_b159 F  σ s0 l0 l1 l2 = some res → cR E false pF (d + 9) kT199 14 5 none none res g σ (159, lv, [cvo s0]) := by
  intro g lv σ s0 l0 l1 l2 bs0 bl0 bl1 g0 g1 g2 res h
  unfold k_World_post_b159 at h
  refine cR_stO (j := 4) lk199_159 (Or.inl rfl) (by decide) (fun vq19 gq20 kq21 => ?_)
  have gq22 := kq21 0 _ (by decide) (fun e => absurd e (by decide)) g0
  have gq23 := kq21 1 _ (by decide) (fun e => absurd e (by decide)) g1
  have gq24 := kq21 2 _ (by decide) (fun e => absurd e (by decide)) g2
  refine cR_ldO (j := 4) lk199_161 (Or.inl rfl) gq20 ?_
  refine cR_ifnull (t := 172) lk199_163 (by decide) (fun c25 => ?_) (fun a26 c25s => ?_)
  · rw [if_pos c25] at h
    exact k_World_post_b172_ok hp0 hL hF  g vq19 σ l0 l1 l2 s0 bl0 bl1 bs0 gq22 gq23 gq24 gq20 _ h
  · have c25 : ¬ s0 = none := by rw [c25s]; exact fun e => nomatch e
    rw [if_neg c25] at h
    refine cR_ldO (j := 4) lk199_166 (Or.inl rfl) gq20 ?_
    refine cR_lift (fun _ _ kk => eE_aload_n lk199_168 gq23 kk) ?_
    obtain ⟨a27, h28, h⟩ := Option.bind_eq_some_iff.mp h
    rw [h28]
    obtain ⟨p29, h30, h⟩ := Option.bind_eq_some_iff.mp h
    refine cR_virt (cl := 8) (i := a27) (as := [.ref (coa E 8 l1)]) lk199_169 mr_14_97 na_59 rfl rfl (by first | exact Nat.le_of_ble_eq_true rfl | (simp [xcat, cvo_cat, cat_i, cat_j, cat_r]; done)) wv_59 wc_59 (bs0 _ h28) (k_Letter_copyFrom_ok hp0 hL hF (d := d + 8) (bs0 _ h28) bl1 h30) (fun m31  => ?_)
    exact k_World_post_b172_ok hp0 hL hF  g vq19 p29 l0 l1 l2 s0 (cob_any rfl bl0) (cob_mon m31 bl1) (fun a e => cob_mon m31 (bs0 a e)) gq22 gq23 gq24 gq20 _ h
def k_World_post_b111 (F : Nat)  (σ : CS) (s0 : Int32) (l0 : Nat) (l1 : Nat) (l2 : Int32) : Option (CS) :=
  if xc0 .ne s0 = true then (
    if xc0 .eq (clemp σ 14 l0 16) = true then (
      (clrem σ 14 l0 16 ((clsz σ 14 l0 16) - ((1 : Int32)))).bind fun p41 =>
      k_World_post_b159 F  p41.2 (some p41.1) l0 l1 l2
    ) else (
      (some (csN σ)).bind fun σ43 =>
      k_World_post_b159 F  σ43 (some ((cT σ).1)) l0 l1 l2
    )
  ) else (
    k_World_post_b159 F  σ none l0 l1 l2
  )
set_option maxRecDepth 4000 in
theorem k_World_post_b111_ok {E : CE} {pF : Nat → List Value → xH → Option (Option Value × xH)} (hp0 : xNPc pF) (hL : lcAll pF) (hF : lcF pF) {d : Nat} {F : Nat}   : ∀ (g : CG) (lv : xL) (σ : CS) (s0 : Int32) (l0 : Nat) (l1 : Nat) (l2 : Int32), (cob σ 14 l0) → (cob σ 8 l1) → (xg lv 0 = some (.ref (coa E 14 l0))) → (xg lv 1 = some (.ref (coa E 8 l1))) → (xg lv 2 = some (.int l2)) → ∀ res, k_World_post_b111 F  σ s0 l0 l1 l2 = some res → cR E false pF (d + 9) kT199 14 5 none none res g σ (111, lv, [.int s0]) := by
  intro g lv σ s0 l0 l1 l2 bl0 bl1 g0 g1 g2 res h
  unfold k_World_post_b111 at h
  refine cR_stI (j := 3) lk199_111 (Or.inr ⟨_, rfl, rfl⟩) (by decide) (fun vq32 gq33 kq34 => ?_)
  have gq35 := kq34 0 _ (by decide) (fun e => absurd e (by decide)) g0
  have gq36 := kq34 1 _ (by decide) (fun e => absurd e (by decide)) g1
  have gq37 := kq34 2 _ (by decide) (fun _ => rfl) g2
  refine cR_lift (fun _ _ kk => eE_iload_n lk199_112 gq33 kk) ?_
  refine cR_if (t := 120) lk199_113 (by decide) (fun c38 => ?_) (fun c38 => ?_)
  · rw [if_pos c38] at h
    refine cR_lift (fun _ _ kk => eE_aload_n lk199_120 gq35 kk) ?_
    refine cR_getA lk199_121 rf_14_35 (by decide) bl0 ?_
    refine cR_virtL (cl := 14) (i := l0) (f := 16) (as := []) lk199_124 mr_14_48 na_10 rfl rfl (by first | exact Nat.le_of_ble_eq_true rfl | (simp [xcat, cvo_cat, cat_i, cat_j, cat_r]; done)) wv_10 wc_10 rfl bl0 ((hL (d + 1)).2.1 E g _ 14 l0 16 rfl bl0) (fun _ => ?_)
    refine cR_if (t := 140) lk199_127 (by decide) (fun c39 => ?_) (fun c39 => ?_)
    · rw [if_pos c39] at h
      refine cR_lift (fun _ _ kk => eE_aload_n lk199_140 gq35 kk) ?_
      refine cR_getA lk199_141 rf_14_35 (by decide) bl0 ?_
      refine cR_lift (fun _ _ kk => eE_aload_n lk199_144 gq35 kk) ?_
      refine cR_getA lk199_145 rf_14_35 (by decide) bl0 ?_
      refine cR_virtL (cl := 14) (i := l0) (f := 16) (as := []) lk199_148 mr_14_55 na_14 rfl rfl (by first | exact Nat.le_of_ble_eq_true rfl | (simp [xcat, cvo_cat, cat_i, cat_j, cat_r]; done)) wv_14 wc_14 rfl bl0 ((hL (d + 1)).1 E g _ 14 l0 16 rfl bl0) (fun _ => ?_)
      refine cR_lift (fun _ _ kk => eE_iconst (v := 1) lk199_151 (by decide) kk) ?_
      refine cR_lift (fun _ _ kk => eE_isub lk199_152 kk) ?_
      obtain ⟨p41, h42, h⟩ := Option.bind_eq_some_iff.mp h
      refine cR_rep (fun _ hc => clrem_lt hc h42) (fun b40 => ?_)
      refine cR_virtL (cl := 14) (i := l0) (f := 16) (c1 := p41.2) (r := some (.ref p41.1)) (as := [.int ((clsz σ 14 l0 16) - ((1 : Int32)))]) lk199_153 mr_14_59 na_13 rfl rfl (by first | exact Nat.le_of_ble_eq_true rfl | (simp [xcat, cvo_cat, cat_i, cat_j, cat_r]; done)) wv_13 wc_13 rfl bl0 ((hL (d + 1)).2.2.2.2.2.1 E g _ 14 l0 16 _ p41.1 p41.2 rfl bl0 h42) (fun _ => ?_)
      refine cR_cast lk199_156 xk_14_52 b40 ?_
      exact k_World_post_b159_ok hp0 hL hF  g vq32 p41.2 (some p41.1) l0 l1 l2 (fun _ e => Option.some.inj e ▸ b40) (cob_any rfl bl0) (cob_mon (clrem_mon h42) bl1) gq35 gq36 gq37 _ h
    · rw [if_neg c39] at h
      obtain ⟨σ43, h44, h⟩ := Option.bind_eq_some_iff.mp h
      refine cR_newL (d := d + 8) lk199_130 lk199_133 lk199_134 xk_14_52 xn_14_54 (hp0 61 (by decide)) (fun _ => (by first | exact Nat.le_of_ble_eq_true rfl | (simp [xcat, cvo_cat, cat_i, cat_j, cat_r]; done))) h44 (fun a45 e46 b47 m48 g_49 => ?_)
      subst e46
      refine cR_lift (fun _ _ kk => eE_goto (t := 159) lk199_137 (by decide) kk) ?_
      exact k_World_post_b159_ok hp0 hL hF  g_49 vq32 σ43 (some ((cT σ).1)) l0 l1 l2 (fun _ e => Option.some.inj e ▸ b47) (cob_any rfl bl0) (cob_mon m48 bl1) gq35 gq36 gq37 _ h
  · rw [if_neg c38] at h
    refine cR_null lk199_116 ?_
    refine cR_lift (fun _ _ kk => eE_goto (t := 159) lk199_117 (by decide) kk) ?_
    exact k_World_post_b159_ok hp0 hL hF  g vq32 σ none l0 l1 l2 (fun _ e => nomatch e) bl0 bl1 gq35 gq36 gq37 _ h
def k_World_post_b72 (F : Nat)  (σ : CS) (l0 : Nat) (l1 : Nat) (l2 : Int32) : Option (CS) :=
  (k_World_drawn σ l0 ((1000 : Int32))).bind fun p50 =>
  if xc2 .ge p50.1 (cI p50.2 14 l0 6 0) = true then (
    (k_World_drawn p50.2 l0 ((1000 : Int32))).bind fun p54 =>
    if xc2 .ge p54.1 (cI p54.2 14 l0 7 0) = true then (
      k_World_post_b111 F  p54.2 ((0 : Int32)) l0 l1 l2
    ) else (
      k_World_post_b111 F  p54.2 ((1 : Int32)) l0 l1 l2
    )
  ) else (
    (k_World_lose p50.2 l0 l1).bind fun p58 =>
    some p58
  )
set_option maxRecDepth 4000 in
theorem k_World_post_b72_ok {E : CE} {pF : Nat → List Value → xH → Option (Option Value × xH)} (hp0 : xNPc pF) (hL : lcAll pF) (hF : lcF pF) {d : Nat} {F : Nat}   : ∀ (g : CG) (lv : xL) (σ : CS) (l0 : Nat) (l1 : Nat) (l2 : Int32), (cob σ 14 l0) → (cob σ 8 l1) → (xg lv 0 = some (.ref (coa E 14 l0))) → (xg lv 1 = some (.ref (coa E 8 l1))) → (xg lv 2 = some (.int l2)) → ∀ res, k_World_post_b72 F  σ l0 l1 l2 = some res → cR E false pF (d + 9) kT199 14 5 none none res g σ (72, lv, []) := by
  intro g lv σ l0 l1 l2 bl0 bl1 g0 g1 g2 res h
  unfold k_World_post_b72 at h
  refine cR_lift (fun _ _ kk => eE_aload_n lk199_72 g0 kk) ?_
  refine cR_lift (fun _ _ kk => eE_sipush (v := 1000) lk199_73 (by decide) kk) ?_
  obtain ⟨p50, h51, h⟩ := Option.bind_eq_some_iff.mp h
  refine cR_virt (cl := 14) (i := l0) (as := [.int ((1000 : Int32))]) lk199_76 mr_14_93 na_189 rfl rfl (by first | exact Nat.le_of_ble_eq_true rfl | (simp [xcat, cvo_cat, cat_i, cat_j, cat_r]; done)) wv_189 wc_189 bl0 (k_World_drawn_ok hp0 hL hF (d := d + 8) bl0 h51) (fun m52  => ?_)
  refine cR_lift (fun _ _ kk => eE_aload_n lk199_79 g0 kk) ?_
  refine cR_getI lk199_80 rf_14_80 rfl (cob_any rfl bl0) ?_
  refine cR_icmp (t := 92) lk199_83 (by decide) (fun c53 => ?_) (fun c53 => ?_)
  · rw [if_pos c53] at h
    refine cR_lift (fun _ _ kk => eE_aload_n lk199_92 g0 kk) ?_
    refine cR_lift (fun _ _ kk => eE_sipush (v := 1000) lk199_93 (by decide) kk) ?_
    obtain ⟨p54, h55, h⟩ := Option.bind_eq_some_iff.mp h
    refine cR_virt (cl := 14) (i := l0) (as := [.int ((1000 : Int32))]) lk199_96 mr_14_93 na_189 rfl rfl (by first | exact Nat.le_of_ble_eq_true rfl | (simp [xcat, cvo_cat, cat_i, cat_j, cat_r]; done)) wv_189 wc_189 (cob_any rfl bl0) (k_World_drawn_ok hp0 hL hF (d := d + 8) (cob_any rfl bl0) h55) (fun m56  => ?_)
    refine cR_lift (fun _ _ kk => eE_aload_n lk199_99 g0 kk) ?_
    refine cR_getI lk199_100 rf_14_83 rfl (cob_any rfl bl0) ?_
    refine cR_icmp (t := 110) lk199_103 (by decide) (fun c57 => ?_) (fun c57 => ?_)
    · rw [if_pos c57] at h
      refine cR_lift (fun _ _ kk => eE_iconst (v := 0) lk199_110 (by decide) kk) ?_
      exact k_World_post_b111_ok hp0 hL hF  g lv p54.2 ((0 : Int32)) l0 l1 l2 (cob_any rfl bl0) (cob_mon m56 (cob_mon m52 bl1)) g0 g1 g2 _ h
    · rw [if_neg c57] at h
      refine cR_lift (fun _ _ kk => eE_iconst (v := 1) lk199_106 (by decide) kk) ?_
      refine cR_lift (fun _ _ kk => eE_goto (t := 111) lk199_107 (by decide) kk) ?_
      exact k_World_post_b111_ok hp0 hL hF  g lv p54.2 ((1 : Int32)) l0 l1 l2 (cob_any rfl bl0) (cob_mon m56 (cob_mon m52 bl1)) g0 g1 g2 _ h
  · rw [if_neg c53] at h
    refine cR_lift (fun _ _ kk => eE_aload_n lk199_86 g0 kk) ?_
    refine cR_lift (fun _ _ kk => eE_aload_n lk199_87 g1 kk) ?_
    obtain ⟨p58, h59, h⟩ := Option.bind_eq_some_iff.mp h
    refine cR_virtG (cl := 14) (i := l0) (as := [.ref (coa E 8 l1)]) lk199_88 mr_14_73 na_198 rfl rfl (by first | exact Nat.le_of_ble_eq_true rfl | (simp [xcat, cvo_cat, cat_i, cat_j, cat_r]; done)) wv_198 wc_198 (cob_any rfl bl0) (k_World_lose_ok hp0 hL hF (d := d + 0) (cob_any rfl bl0) (cob_mon m52 bl1) h59) (fun m60 g_61 => ?_)
    cases h
    exact cR_end lk199_91 rfl rfl rfl
def k_World_post_b0 (F : Nat)  (σ : CS) (l0 : Nat) (l1 : Nat) : Option (CS) :=
  (k_World_areParted σ l0 (cI σ 8 l1 2 0) (cI σ 8 l1 3 0)).bind fun p62 =>
  if xc0 .eq p62 = true then (
    (crd σ 14 l0 12 (((cI σ 8 l1 2 0) * ((16 : Int32))) + (cI σ 8 l1 3 0))).bind fun x66 =>
    if xc0 .ne (cI σ 14 l0 6 0) = true then (
      k_World_post_b72 F  σ l0 l1 ((cI σ 14 l0 0 0) + x66)
    ) else (
      if xc0 .ne (cI σ 14 l0 7 0) = true then (
        k_World_post_b72 F  σ l0 l1 ((cI σ 14 l0 0 0) + x66)
      ) else (
        if xc0 .ne (cI σ 14 l0 8 0) = true then (
          k_World_post_b72 F  σ l0 l1 ((cI σ 14 l0 0 0) + x66)
        ) else (
          (k_World_launch F σ l0 l1 ((cI σ 14 l0 0 0) + x66)).bind fun p76 =>
          some p76
        )
      )
    )
  ) else (
    (k_World_lose σ l0 l1).bind fun p80 =>
    some p80
  )
set_option maxRecDepth 4000 in
theorem k_World_post_b0_ok {E : CE} {pF : Nat → List Value → xH → Option (Option Value × xH)} (hp0 : xNPc pF) (hL : lcAll pF) (hF : lcF pF) {d : Nat} {F : Nat}   : ∀ (g : CG) (lv : xL) (σ : CS) (l0 : Nat) (l1 : Nat), (cob σ 14 l0) → (cob σ 8 l1) → (xg lv 0 = some (.ref (coa E 14 l0))) → (xg lv 1 = some (.ref (coa E 8 l1))) → ∀ res, k_World_post_b0 F  σ l0 l1 = some res → cR E false pF (d + 9) kT199 14 5 none none res g σ (0, lv, []) := by
  intro g lv σ l0 l1 bl0 bl1 g0 g1 res h
  unfold k_World_post_b0 at h
  refine cR_lift (fun _ _ kk => eE_aload_n lk199_0 g0 kk) ?_
  refine cR_lift (fun _ _ kk => eE_aload_n lk199_1 g1 kk) ?_
  refine cR_getI lk199_2 rf_14_63 rfl bl1 ?_
  refine cR_lift (fun _ _ kk => eE_aload_n lk199_5 g1 kk) ?_
  refine cR_getI lk199_6 rf_14_66 rfl bl1 ?_
  obtain ⟨p62, h63, h⟩ := Option.bind_eq_some_iff.mp h
  refine cR_virt (cl := 14) (i := l0) (as := [.int (cI σ 8 l1 2 0), .int (cI σ 8 l1 3 0)]) lk199_9 mr_14_69 na_184 rfl rfl (by first | exact Nat.le_of_ble_eq_true rfl | (simp [xcat, cvo_cat, cat_i, cat_j, cat_r]; done)) wv_184 wc_184 bl0 (k_World_areParted_ok hp0 hL hF (d := d + 8) bl0 h63) (fun m64  => ?_)
  refine cR_if (t := 21) lk199_12 (by decide) (fun c65 => ?_) (fun c65 => ?_)
  · rw [if_pos c65] at h
    refine cR_lift (fun _ _ kk => eE_aload_n lk199_21 g0 kk) ?_
    refine cR_getI lk199_22 rf_14_77 rfl bl0 ?_
    refine cR_lift (fun _ _ kk => eE_aload_n lk199_25 g0 kk) ?_
    refine cR_getA lk199_26 rf_14_18 (by decide) bl0 ?_
    refine cR_lift (fun _ _ kk => eE_aload_n lk199_29 g1 kk) ?_
    refine cR_getI lk199_30 rf_14_63 rfl bl1 ?_
    refine cR_lift (fun _ _ kk => eE_bipush (v := 16) lk199_33 (by decide) kk) ?_
    refine cR_lift (fun _ _ kk => eE_imul lk199_35 kk) ?_
    refine cR_lift (fun _ _ kk => eE_aload_n lk199_36 g1 kk) ?_
    refine cR_getI lk199_37 rf_14_66 rfl bl1 ?_
    refine cR_lift (fun _ _ kk => eE_iadd lk199_40 kk) ?_
    obtain ⟨x66, h67, h⟩ := Option.bind_eq_some_iff.mp h
    refine cR_iald (cl := 14) (i := l0) (f := 12) lk199_41 (by decide) rfl bl0 h67 ?_
    refine cR_lift (fun _ _ kk => eE_iadd lk199_42 kk) ?_
    refine cR_stI (j := 2) lk199_43 (Or.inr ⟨_, rfl, rfl⟩) (by decide) (fun vq68 gq69 kq70 => ?_)
    have gq71 := kq70 0 _ (by decide) (fun e => absurd e (by decide)) g0
    have gq72 := kq70 1 _ (by decide) (fun _ => rfl) g1
    refine cR_lift (fun _ _ kk => eE_aload_n lk199_44 gq71 kk) ?_
    refine cR_getI lk199_45 rf_14_80 rfl bl0 ?_
    refine cR_if (t := 72) lk199_48 (by decide) (fun c73 => ?_) (fun c73 => ?_)
    · rw [if_pos c73] at h
      exact k_World_post_b72_ok hp0 hL hF  g vq68 σ l0 l1 ((cI σ 14 l0 0 0) + x66) bl0 bl1 gq71 gq72 gq69 _ h
    · rw [if_neg c73] at h
      refine cR_lift (fun _ _ kk => eE_aload_n lk199_51 gq71 kk) ?_
      refine cR_getI lk199_52 rf_14_83 rfl bl0 ?_
      refine cR_if (t := 72) lk199_55 (by decide) (fun c74 => ?_) (fun c74 => ?_)
      · rw [if_pos c74] at h
        exact k_World_post_b72_ok hp0 hL hF  g vq68 σ l0 l1 ((cI σ 14 l0 0 0) + x66) bl0 bl1 gq71 gq72 gq69 _ h
      · rw [if_neg c74] at h
        refine cR_lift (fun _ _ kk => eE_aload_n lk199_58 gq71 kk) ?_
        refine cR_getI lk199_59 rf_14_86 rfl bl0 ?_
        refine cR_if (t := 72) lk199_62 (by decide) (fun c75 => ?_) (fun c75 => ?_)
        · rw [if_pos c75] at h
          exact k_World_post_b72_ok hp0 hL hF  g vq68 σ l0 l1 ((cI σ 14 l0 0 0) + x66) bl0 bl1 gq71 gq72 gq69 _ h
        · rw [if_neg c75] at h
          refine cR_lift (fun _ _ kk => eE_aload_n lk199_65 gq71 kk) ?_
          refine cR_lift (fun _ _ kk => eE_aload_n lk199_66 gq72 kk) ?_
          refine cR_lift (fun _ _ kk => eE_iload_n lk199_67 gq69 kk) ?_
          obtain ⟨p76, h77, h⟩ := Option.bind_eq_some_iff.mp h
          refine cR_virtG (cl := 14) (i := l0) (as := [.ref (coa E 8 l1), .int ((cI σ 14 l0 0 0) + x66)]) lk199_68 mr_14_89 na_197 rfl rfl (by first | exact Nat.le_of_ble_eq_true rfl | (simp [xcat, cvo_cat, cat_i, cat_j, cat_r]; done)) wv_197 wc_197 bl0 (k_World_launch_ok hp0 hL hF (d := d + 0) bl0 bl1 h77) (fun m78 g_79 => ?_)
          cases h
          exact cR_end lk199_71 rfl rfl rfl
  · rw [if_neg c65] at h
    refine cR_lift (fun _ _ kk => eE_aload_n lk199_15 g0 kk) ?_
    refine cR_lift (fun _ _ kk => eE_aload_n lk199_16 g1 kk) ?_
    obtain ⟨p80, h81, h⟩ := Option.bind_eq_some_iff.mp h
    refine cR_virtG (cl := 14) (i := l0) (as := [.ref (coa E 8 l1)]) lk199_17 mr_14_73 na_198 rfl rfl (by first | exact Nat.le_of_ble_eq_true rfl | (simp [xcat, cvo_cat, cat_i, cat_j, cat_r]; done)) wv_198 wc_198 bl0 (k_World_lose_ok hp0 hL hF (d := d + 0) bl0 bl1 h81) (fun m82 g_83 => ?_)
    cases h
    exact cR_end lk199_20 rfl rfl rfl
def k_World_post (F : Nat) (σ : CS) (l0 : Nat) (l1 : Nat) : Option (CS) := k_World_post_b0 F σ l0 l1
theorem k_World_post_ok {E : CE} {pF : Nat → List Value → xH → Option (Option Value × xH)} (hp0 : xNPc pF) (hL : lcAll pF) (hF : lcF pF) {d : Nat} {g : CG} {σ : CS} {F : Nat} {l0 : Nat} {l1 : Nat} {res : CS} (bl0 : cob σ 14 l0) (bl1 : cob σ 8 l1) (h : k_World_post F σ l0 l1 = some res) : cCo E false pF (d + 10) 199 [.ref (coa E 14 l0), .ref (coa E 8 l1)] none res g σ :=
  cCo_R kk_199 mo_199 ni_199 xm_199 (Nat.le_of_ble_eq_true rfl) (hp0 199 (by decide) _) (k_World_post_b0_ok hp0 hL hF g _ σ l0 l1 bl0 bl1 rfl rfl _ h)
/-! k_World_setBell (200), depth 1 -/
def k_World_setBell_b0  (σ : CS) (l0 : Nat) (l1 : Int32) (l2 : Int32) : Option (CS) :=
  (cwr σ 14 l0 10 l1 l2).bind fun σ1 =>
  (cwr σ1 14 l0 11 l1 (cI σ1 14 l0 1 0)).bind fun σ3 =>
  (some (csI σ3 14 l0 1 0 ((cI σ3 14 l0 1 0) + ((1 : Int32))))).bind fun σ5 =>
  some σ5
set_option maxRecDepth 4000 in
theorem k_World_setBell_b0_ok {E : CE} {pF : Nat → List Value → xH → Option (Option Value × xH)} (hp0 : xNPc pF) (hL : lcAll pF) (hF : lcF pF) {d : Nat}   : ∀ (g : CG) (lv : xL) (σ : CS) (l0 : Nat) (l1 : Int32) (l2 : Int32), (cob σ 14 l0) → (xg lv 0 = some (.ref (coa E 14 l0))) → (xg lv 1 = some (.int l1)) → (xg lv 2 = some (.int l2)) → ∀ res, k_World_setBell_b0  σ l0 l1 l2 = some res → cR E true pF (d + 0) kT200 14 3 none none res g σ (0, lv, []) := by
  intro g lv σ l0 l1 l2 bl0 g0 g1 g2 res h
  unfold k_World_setBell_b0 at h
  refine cR_lift (fun _ _ kk => eE_aload_n lk200_0 g0 kk) ?_
  refine cR_getA lk200_1 rf_14_9 (by decide) bl0 ?_
  refine cR_lift (fun _ _ kk => eE_iload_n lk200_4 g1 kk) ?_
  refine cR_lift (fun _ _ kk => eE_iload_n lk200_5 g2 kk) ?_
  obtain ⟨σ1, h2, h⟩ := Option.bind_eq_some_iff.mp h
  refine cR_iast (cl := 14) (i := l0) (f := 10) lk200_6 (by decide) rfl bl0 h2 ?_
  refine cR_lift (fun _ _ kk => eE_aload_n lk200_7 g0 kk) ?_
  refine cR_getA lk200_8 rf_14_15 (by decide) (cob_any rfl bl0) ?_
  refine cR_lift (fun _ _ kk => eE_iload_n lk200_11 g1 kk) ?_
  refine cR_lift (fun _ _ kk => eE_aload_n lk200_12 g0 kk) ?_
  refine cR_getI lk200_13 rf_14_118 rfl (cob_any rfl bl0) ?_
  obtain ⟨σ3, h4, h⟩ := Option.bind_eq_some_iff.mp h
  refine cR_iast (cl := 14) (i := l0) (f := 11) lk200_16 (by decide) rfl (cob_any rfl bl0) h4 ?_
  refine cR_lift (fun _ _ kk => eE_aload_n lk200_17 g0 kk) ?_
  refine cR_lift (fun _ _ kk => eE_dup lk200_18 rfl kk) ?_
  refine cR_getI lk200_19 rf_14_118 rfl (cob_any rfl bl0) ?_
  refine cR_lift (fun _ _ kk => eE_iconst (v := 1) lk200_22 (by decide) kk) ?_
  refine cR_lift (fun _ _ kk => eE_iadd lk200_23 kk) ?_
  obtain ⟨σ5, h6, h⟩ := Option.bind_eq_some_iff.mp h
  refine cR_putI lk200_24 rf_14_118 rfl (cob_any rfl bl0) pf_14_1 rfl h6 ?_
  cases h
  exact cR_end lk200_27 rfl rfl rfl
def k_World_setBell (σ : CS) (l0 : Nat) (l1 : Int32) (l2 : Int32) : Option (CS) := k_World_setBell_b0 σ l0 l1 l2
theorem k_World_setBell_ok {E : CE} {pF : Nat → List Value → xH → Option (Option Value × xH)} (hp0 : xNPc pF) (hL : lcAll pF) (hF : lcF pF) {d : Nat} {g : CG} {σ : CS} {l0 : Nat} {l1 : Int32} {l2 : Int32} {res : CS} (bl0 : cob σ 14 l0) (h : k_World_setBell σ l0 l1 l2 = some res) : cCo E true pF (d + 1) 200 [.ref (coa E 14 l0), .int l1, .int l2] none res g σ :=
  cCo_R kk_200 mo_200 ni_200 xm_200 (Nat.le_of_ble_eq_true rfl) (hp0 200 (by decide) _) (k_World_setBell_b0_ok hp0 hL hF g _ σ l0 l1 l2 bl0 rfl rfl rfl _ h)
/-! k_Page_remove (112), depth 1 -/
def k_Page_remove_b0  (σ : CS) (l0 : Nat) : Option (CS) :=
  (cputZ σ 11 l0 0 ((0 : Int32))).bind fun σ1 =>
  (some (csI σ1 11 l0 1 0 ((0 : Int32)))).bind fun σ3 =>
  (some (csI σ3 11 l0 5 0 ((0 : Int32)))).bind fun σ5 =>
  some σ5
set_option maxRecDepth 4000 in
theorem k_Page_remove_b0_ok {E : CE} {pF : Nat → List Value → xH → Option (Option Value × xH)} (hp0 : xNPc pF) (hL : lcAll pF) (hF : lcF pF) {d : Nat}   : ∀ (g : CG) (lv : xL) (σ : CS) (l0 : Nat), (cob σ 11 l0) → (xg lv 0 = some (.ref (coa E 11 l0))) → ∀ res, k_Page_remove_b0  σ l0 = some res → cR E true pF (d + 0) kT112 11 1 none none res g σ (0, lv, []) := by
  intro g lv σ l0 bl0 g0 res h
  unfold k_Page_remove_b0 at h
  refine cR_lift (fun _ _ kk => eE_aload_n lk112_0 g0 kk) ?_
  refine cR_lift (fun _ _ kk => eE_iconst (v := 0) lk112_1 (by decide) kk) ?_
  obtain ⟨σ1, h2, h⟩ := Option.bind_eq_some_iff.mp h
  refine cR_putZ lk112_2 rf_11_22 rfl bl0 pf_11_0 h2 ?_
  refine cR_lift (fun _ _ kk => eE_aload_n lk112_5 g0 kk) ?_
  refine cR_lift (fun _ _ kk => eE_iconst (v := 0) lk112_6 (by decide) kk) ?_
  obtain ⟨σ3, h4, h⟩ := Option.bind_eq_some_iff.mp h
  refine cR_putI lk112_7 rf_11_26 rfl (cob_any rfl bl0) pf_11_1 rfl h4 ?_
  refine cR_lift (fun _ _ kk => eE_aload_n lk112_10 g0 kk) ?_
  refine cR_lift (fun _ _ kk => eE_iconst (v := 0) lk112_11 (by decide) kk) ?_
  obtain ⟨σ5, h6, h⟩ := Option.bind_eq_some_iff.mp h
  refine cR_putI lk112_12 rf_11_39 rfl (cob_any rfl bl0) pf_11_5 rfl h6 ?_
  cases h
  exact cR_end lk112_15 rfl rfl rfl
def k_Page_remove (σ : CS) (l0 : Nat) : Option (CS) := k_Page_remove_b0 σ l0
theorem k_Page_remove_ok {E : CE} {pF : Nat → List Value → xH → Option (Option Value × xH)} (hp0 : xNPc pF) (hL : lcAll pF) (hF : lcF pF) {d : Nat} {g : CG} {σ : CS} {l0 : Nat} {res : CS} (bl0 : cob σ 11 l0) (h : k_Page_remove σ l0 = some res) : cCo E true pF (d + 1) 112 [.ref (coa E 11 l0)] none res g σ :=
  cCo_R kk_112 mo_112 ni_112 xm_112 (Nat.le_of_ble_eq_true rfl) (hp0 112 (by decide) _) (k_Page_remove_b0_ok hp0 hL hF g _ σ l0 bl0 rfl _ h)
/-! k_Page_frameStart (107), depth 1 -/
def k_Page_frameStart_b25  (σ : CS) (s0 : Int32) : Option (Int32) :=
  some s0
set_option maxRecDepth 4000 in
theorem k_Page_frameStart_b25_ok {E : CE} {pF : Nat → List Value → xH → Option (Option Value × xH)} (hp0 : xNPc pF) (hL : lcAll pF) (hF : lcF pF) {d : Nat}   : ∀ (g : CG) (lv : xL) (σ : CS) (s0 : Int32), ∀ res, k_Page_frameStart_b25  σ s0 = some res → cR E true pF (d + 0) kT107 11 2 (some FieldType.int) (some (.int res)) σ g σ (25, lv, [.int s0]) := by
  intro g lv σ s0 res h
  unfold k_Page_frameStart_b25 at h
  cases h
  exact cR_end lk107_25 rfl rfl rfl
def k_Page_frameStart_b23  (σ : CS) : Option (Int32) :=
  k_Page_frameStart_b25  σ ((24 : Int32))
set_option maxRecDepth 4000 in
theorem k_Page_frameStart_b23_ok {E : CE} {pF : Nat → List Value → xH → Option (Option Value × xH)} (hp0 : xNPc pF) (hL : lcAll pF) (hF : lcF pF) {d : Nat}   : ∀ (g : CG) (lv : xL) (σ : CS), ∀ res, k_Page_frameStart_b23  σ = some res → cR E true pF (d + 0) kT107 11 2 (some FieldType.int) (some (.int res)) σ g σ (23, lv, []) := by
  intro g lv σ res h
  unfold k_Page_frameStart_b23 at h
  refine cR_lift (fun _ _ kk => eE_bipush (v := 24) lk107_23 (by decide) kk) ?_
  exact k_Page_frameStart_b25_ok hp0 hL hF  g lv σ ((24 : Int32))  _ h
def k_Page_frameStart_b0  (σ : CS) (l0 : Nat) (l1 : Int32) : Option (Int32) :=
  if xc0 .le l1 = true then (
    k_Page_frameStart_b23  σ
  ) else (
    if xc2 .gt l1 (cI σ 11 l0 5 0) = true then (
      k_Page_frameStart_b23  σ
    ) else (
      (crd σ 11 l0 7 (l1 - ((1 : Int32)))).bind fun x3 =>
      k_Page_frameStart_b25  σ x3
    )
  )
set_option maxRecDepth 4000 in
theorem k_Page_frameStart_b0_ok {E : CE} {pF : Nat → List Value → xH → Option (Option Value × xH)} (hp0 : xNPc pF) (hL : lcAll pF) (hF : lcF pF) {d : Nat}   : ∀ (g : CG) (lv : xL) (σ : CS) (l0 : Nat) (l1 : Int32), (cob σ 11 l0) → (xg lv 0 = some (.ref (coa E 11 l0))) → (xg lv 1 = some (.int l1)) → ∀ res, k_Page_frameStart_b0  σ l0 l1 = some res → cR E true pF (d + 0) kT107 11 2 (some FieldType.int) (some (.int res)) σ g σ (0, lv, []) := by
  intro g lv σ l0 l1 bl0 g0 g1 res h
  unfold k_Page_frameStart_b0 at h
  refine cR_lift (fun _ _ kk => eE_iload_n lk107_0 g1 kk) ?_
  refine cR_if (t := 23) lk107_1 (by decide) (fun c1 => ?_) (fun c1 => ?_)
  · rw [if_pos c1] at h
    exact k_Page_frameStart_b23_ok hp0 hL hF  g lv σ  _ h
  · rw [if_neg c1] at h
    refine cR_lift (fun _ _ kk => eE_iload_n lk107_4 g1 kk) ?_
    refine cR_lift (fun _ _ kk => eE_aload_n lk107_5 g0 kk) ?_
    refine cR_getI lk107_6 rf_11_39 rfl bl0 ?_
    refine cR_icmp (t := 23) lk107_9 (by decide) (fun c2 => ?_) (fun c2 => ?_)
    · rw [if_pos c2] at h
      exact k_Page_frameStart_b23_ok hp0 hL hF  g lv σ  _ h
    · rw [if_neg c2] at h
      refine cR_lift (fun _ _ kk => eE_aload_n lk107_12 g0 kk) ?_
      refine cR_getA lk107_13 rf_11_15 (by decide) bl0 ?_
      refine cR_lift (fun _ _ kk => eE_iload_n lk107_16 g1 kk) ?_
      refine cR_lift (fun _ _ kk => eE_iconst (v := 1) lk107_17 (by decide) kk) ?_
      refine cR_lift (fun _ _ kk => eE_isub lk107_18 kk) ?_
      obtain ⟨x3, h4, h⟩ := Option.bind_eq_some_iff.mp h
      refine cR_iald (cl := 11) (i := l0) (f := 7) lk107_19 (by decide) rfl bl0 h4 ?_
      refine cR_lift (fun _ _ kk => eE_goto (t := 25) lk107_20 (by decide) kk) ?_
      exact k_Page_frameStart_b25_ok hp0 hL hF  g lv σ x3  _ h
def k_Page_frameStart (σ : CS) (l0 : Nat) (l1 : Int32) : Option (Int32) := k_Page_frameStart_b0 σ l0 l1
theorem k_Page_frameStart_ok {E : CE} {pF : Nat → List Value → xH → Option (Option Value × xH)} (hp0 : xNPc pF) (hL : lcAll pF) (hF : lcF pF) {d : Nat} {g : CG} {σ : CS} {l0 : Nat} {l1 : Int32} {res : Int32} (bl0 : cob σ 11 l0) (h : k_Page_frameStart σ l0 l1 = some res) : cCo E true pF (d + 1) 107 [.ref (coa E 11 l0), .int l1] (some (.int res)) σ g σ :=
  cCo_R kk_107 mo_107 ni_107 xm_107 (Nat.le_of_ble_eq_true rfl) (hp0 107 (by decide) _) (k_Page_frameStart_b0_ok hp0 hL hF g _ σ l0 l1 bl0 rfl rfl _ h)
/-! k_Page_cutTo (106), depth 1 -/
def k_Page_cutTo_b48 (F : Nat)  (σ : CS) : Option (CS) :=
  some σ
set_option maxRecDepth 4000 in
theorem k_Page_cutTo_b48_ok {E : CE} {pF : Nat → List Value → xH → Option (Option Value × xH)} (hp0 : xNPc pF) (hL : lcAll pF) (hF : lcF pF) {d : Nat} {F : Nat}   : ∀ (g : CG) (lv : xL) (σ : CS), ∀ res, k_Page_cutTo_b48 F  σ = some res → cR E true pF (d + 0) kT106 11 2 none none res g σ (48, lv, []) := by
  intro g lv σ res h
  unfold k_Page_cutTo_b48 at h
  cases h
  exact cR_end lk106_48 rfl rfl rfl
def k_Page_cutTo_b13 (F : Nat)  : Nat → CS → Nat → Int32 → Option (CS)
  | 0, _, _, _ => none
  | n + 1, σ, l0, l1 =>
    let KK := k_Page_cutTo_b13 F  n
    if xc0 .le (cI σ 11 l0 5 0) = true then (
      k_Page_cutTo_b48 F  σ
    ) else (
      (crd σ 11 l0 7 ((cI σ 11 l0 5 0) - ((1 : Int32)))).bind fun x2 =>
      if xc2 .le x2 l1 = true then (
        k_Page_cutTo_b48 F  σ
      ) else (
        (some (csI σ 11 l0 5 0 ((cI σ 11 l0 5 0) - ((1 : Int32))))).bind fun σ5 =>
        KK σ5 l0 l1
      )
    )
set_option maxRecDepth 4000 in
theorem k_Page_cutTo_b13_ok {E : CE} {pF : Nat → List Value → xH → Option (Option Value × xH)} (hp0 : xNPc pF) (hL : lcAll pF) (hF : lcF pF) {d : Nat} {F : Nat}   : ∀ (n : Nat) (g : CG) (lv : xL) (σ : CS) (l0 : Nat) (l1 : Int32), (cob σ 11 l0) → (xg lv 0 = some (.ref (coa E 11 l0))) → (xg lv 1 = some (.int l1)) → ∀ res, k_Page_cutTo_b13 F  n σ l0 l1 = some res → cR E true pF (d + 0) kT106 11 2 none none res g σ (13, lv, []) := by
  intro n
  induction n with
  | zero => intro g lv σ l0 l1 bl0 g0 g1 res h; simp [k_Page_cutTo_b13] at h
  | succ n hKK =>
    intro g lv σ l0 l1 bl0 g0 g1 res h
    unfold k_Page_cutTo_b13 at h
    dsimp only at h
    refine cR_lift (fun _ _ kk => eE_aload_n lk106_13 g0 kk) ?_
    refine cR_getI lk106_14 rf_11_39 rfl bl0 ?_
    refine cR_if (t := 48) lk106_17 (by decide) (fun c1 => ?_) (fun c1 => ?_)
    · rw [if_pos c1] at h
      exact k_Page_cutTo_b48_ok hp0 hL hF  g lv σ  _ h
    · rw [if_neg c1] at h
      refine cR_lift (fun _ _ kk => eE_aload_n lk106_20 g0 kk) ?_
      refine cR_getA lk106_21 rf_11_15 (by decide) bl0 ?_
      refine cR_lift (fun _ _ kk => eE_aload_n lk106_24 g0 kk) ?_
      refine cR_getI lk106_25 rf_11_39 rfl bl0 ?_
      refine cR_lift (fun _ _ kk => eE_iconst (v := 1) lk106_28 (by decide) kk) ?_
      refine cR_lift (fun _ _ kk => eE_isub lk106_29 kk) ?_
      obtain ⟨x2, h3, h⟩ := Option.bind_eq_some_iff.mp h
      refine cR_iald (cl := 11) (i := l0) (f := 7) lk106_30 (by decide) rfl bl0 h3 ?_
      refine cR_lift (fun _ _ kk => eE_iload_n lk106_31 g1 kk) ?_
      refine cR_icmp (t := 48) lk106_32 (by decide) (fun c4 => ?_) (fun c4 => ?_)
      · rw [if_pos c4] at h
        exact k_Page_cutTo_b48_ok hp0 hL hF  g lv σ  _ h
      · rw [if_neg c4] at h
        refine cR_lift (fun _ _ kk => eE_aload_n lk106_35 g0 kk) ?_
        refine cR_lift (fun _ _ kk => eE_dup lk106_36 rfl kk) ?_
        refine cR_getI lk106_37 rf_11_39 rfl bl0 ?_
        refine cR_lift (fun _ _ kk => eE_iconst (v := 1) lk106_40 (by decide) kk) ?_
        refine cR_lift (fun _ _ kk => eE_isub lk106_41 kk) ?_
        obtain ⟨σ5, h6, h⟩ := Option.bind_eq_some_iff.mp h
        refine cR_putI lk106_42 rf_11_39 rfl bl0 pf_11_5 rfl h6 ?_
        refine cR_lift (fun _ _ kk => eE_goto (t := 13) lk106_45 (by decide) kk) ?_
        exact hKK g lv σ5 l0 l1 (cob_any rfl bl0) g0 g1 _ h
def k_Page_cutTo_b0 (F : Nat)  (σ : CS) (l0 : Nat) (l1 : Int32) : Option (CS) :=
  if xc2 .le (cI σ 11 l0 1 0) l1 = true then (
    k_Page_cutTo_b48 F  σ
  ) else (
    (some (csI σ 11 l0 1 0 l1)).bind fun σ8 =>
    k_Page_cutTo_b13 F  F σ8 l0 l1
  )
set_option maxRecDepth 4000 in
theorem k_Page_cutTo_b0_ok {E : CE} {pF : Nat → List Value → xH → Option (Option Value × xH)} (hp0 : xNPc pF) (hL : lcAll pF) (hF : lcF pF) {d : Nat} {F : Nat}   : ∀ (g : CG) (lv : xL) (σ : CS) (l0 : Nat) (l1 : Int32), (cob σ 11 l0) → (xg lv 0 = some (.ref (coa E 11 l0))) → (xg lv 1 = some (.int l1)) → ∀ res, k_Page_cutTo_b0 F  σ l0 l1 = some res → cR E true pF (d + 0) kT106 11 2 none none res g σ (0, lv, []) := by
  intro g lv σ l0 l1 bl0 g0 g1 res h
  unfold k_Page_cutTo_b0 at h
  refine cR_lift (fun _ _ kk => eE_aload_n lk106_0 g0 kk) ?_
  refine cR_getI lk106_1 rf_11_26 rfl bl0 ?_
  refine cR_lift (fun _ _ kk => eE_iload_n lk106_4 g1 kk) ?_
  refine cR_icmp (t := 48) lk106_5 (by decide) (fun c7 => ?_) (fun c7 => ?_)
  · rw [if_pos c7] at h
    exact k_Page_cutTo_b48_ok hp0 hL hF  g lv σ  _ h
  · rw [if_neg c7] at h
    refine cR_lift (fun _ _ kk => eE_aload_n lk106_8 g0 kk) ?_
    refine cR_lift (fun _ _ kk => eE_iload_n lk106_9 g1 kk) ?_
    obtain ⟨σ8, h9, h⟩ := Option.bind_eq_some_iff.mp h
    refine cR_putI lk106_10 rf_11_26 rfl bl0 pf_11_1 rfl h9 ?_
    exact k_Page_cutTo_b13_ok hp0 hL hF  F g lv σ8 l0 l1 (cob_any rfl bl0) g0 g1 _ h
def k_Page_cutTo (F : Nat) (σ : CS) (l0 : Nat) (l1 : Int32) : Option (CS) := k_Page_cutTo_b0 F σ l0 l1
theorem k_Page_cutTo_ok {E : CE} {pF : Nat → List Value → xH → Option (Option Value × xH)} (hp0 : xNPc pF) (hL : lcAll pF) (hF : lcF pF) {d : Nat} {g : CG} {σ : CS} {F : Nat} {l0 : Nat} {l1 : Int32} {res : CS} (bl0 : cob σ 11 l0) (h : k_Page_cutTo F σ l0 l1 = some res) : cCo E true pF (d + 1) 106 [.ref (coa E 11 l0), .int l1] none res g σ :=
  cCo_R kk_106 mo_106 ni_106 xm_106 (Nat.le_of_ble_eq_true rfl) (hp0 106 (by decide) _) (k_Page_cutTo_b0_ok hp0 hL hF g _ σ l0 l1 bl0 rfl rfl _ h)
/-! k_Page_makeRoom (110), depth 2 -/
def k_Page_makeRoom_b45  (σ : CS) : Option (CS) :=
  some σ
set_option maxRecDepth 4000 in
theorem k_Page_makeRoom_b45_ok {E : CE} {pF : Nat → List Value → xH → Option (Option Value × xH)} (hp0 : xNPc pF) (hL : lcAll pF) (hF : lcF pF) {d : Nat}   : ∀ (g : CG) (lv : xL) (σ : CS), ∀ res, k_Page_makeRoom_b45  σ = some res → cR E false pF (d + 1) kT110 11 3 none none res g σ (45, lv, []) := by
  intro g lv σ res h
  unfold k_Page_makeRoom_b45 at h
  cases h
  exact cR_end lk110_45 rfl rfl rfl
def k_Page_makeRoom_b0  (σ : CS) (l0 : Nat) (l1 : Int32) : Option (CS) :=
  if xc2 .ge (Int32.ofNat (cal σ 11 l0 7)) l1 = true then (
    k_Page_makeRoom_b45  σ
  ) else (
    (cext σ 11 l0 7 (cmax ((16 : Int32)) (((2 : Int32)) * l1))).bind fun σ6 =>
    (cext σ6 11 l0 6 ((cmax ((16 : Int32)) (((2 : Int32)) * l1)) * ((6 : Int32)))).bind fun σ9 =>
    k_Page_makeRoom_b45  σ9
  )
set_option maxRecDepth 4000 in
theorem k_Page_makeRoom_b0_ok {E : CE} {pF : Nat → List Value → xH → Option (Option Value × xH)} (hp0 : xNPc pF) (hL : lcAll pF) (hF : lcF pF) {d : Nat}   : ∀ (g : CG) (lv : xL) (σ : CS) (l0 : Nat) (l1 : Int32), (cob σ 11 l0) → (xg lv 0 = some (.ref (coa E 11 l0))) → (xg lv 1 = some (.int l1)) → ∀ res, k_Page_makeRoom_b0  σ l0 l1 = some res → cR E false pF (d + 1) kT110 11 3 none none res g σ (0, lv, []) := by
  intro g lv σ l0 l1 bl0 g0 g1 res h
  unfold k_Page_makeRoom_b0 at h
  refine cR_lift (fun _ _ kk => eE_aload_n lk110_0 g0 kk) ?_
  refine cR_getA lk110_1 rf_11_15 (by decide) bl0 ?_
  refine cR_alen (cl := 11) (i := l0) (f := 7) lk110_4 (by decide) (by decide) bl0 ?_
  refine cR_lift (fun _ _ kk => eE_iload_n lk110_5 g1 kk) ?_
  refine cR_icmp (t := 45) lk110_6 (by decide) (fun c1 => ?_) (fun c1 => ?_)
  · rw [if_pos c1] at h
    exact k_Page_makeRoom_b45_ok hp0 hL hF  g lv σ  _ h
  · rw [if_neg c1] at h
    refine cR_lift (fun _ _ kk => eE_bipush (v := 16) lk110_9 (by decide) kk) ?_
    refine cR_lift (fun _ _ kk => eE_iconst (v := 2) lk110_11 (by decide) kk) ?_
    refine cR_lift (fun _ _ kk => eE_iload_n lk110_12 g1 kk) ?_
    refine cR_lift (fun _ _ kk => eE_imul lk110_13 kk) ?_
    refine cR_max lk110_14 mr_11_55 (by first | exact Nat.le_of_ble_eq_true rfl | (simp [xcat, cvo_cat, cat_i, cat_j, cat_r]; done)) ?_
    refine cR_stI (j := 2) lk110_17 (Or.inr ⟨_, rfl, rfl⟩) (by decide) (fun vq2 gq3 kq4 => ?_)
    have gq5 := kq4 0 _ (by decide) (fun e => absurd e (by decide)) g0
    refine cR_lift (fun _ _ kk => eE_aload_n lk110_18 gq5 kk) ?_
    refine cR_lift (fun _ _ kk => eE_aload_n lk110_19 gq5 kk) ?_
    refine cR_getA lk110_20 rf_11_15 (by decide) bl0 ?_
    refine cR_lift (fun _ _ kk => eE_iload_n lk110_23 gq3 kk) ?_
    obtain ⟨σ6, h7, h⟩ := Option.bind_eq_some_iff.mp h
    refine cR_cpyG390 (d := d + 0) (cl := 11) (i := l0) (f := 7) lk110_24 lk110_27 mr_11_61 (by first | exact Nat.le_of_ble_eq_true rfl | (simp [xcat, cvo_cat, cat_i, cat_j, cat_r]; done)) (hp0 390 (by decide)) rfl rf_11_15 rfl bl0 pf_11_7 h7 (fun g_8 => ?_)
    refine cR_lift (fun _ _ kk => eE_aload_n lk110_30 gq5 kk) ?_
    refine cR_lift (fun _ _ kk => eE_aload_n lk110_31 gq5 kk) ?_
    refine cR_getA lk110_32 rf_11_9 (by decide) (cob_any rfl bl0) ?_
    refine cR_lift (fun _ _ kk => eE_iload_n lk110_35 gq3 kk) ?_
    refine cR_lift (fun _ _ kk => eE_bipush (v := 6) lk110_36 (by decide) kk) ?_
    refine cR_lift (fun _ _ kk => eE_imul lk110_38 kk) ?_
    obtain ⟨σ9, h10, h⟩ := Option.bind_eq_some_iff.mp h
    refine cR_cpyG390 (d := d + 0) (cl := 11) (i := l0) (f := 6) lk110_39 lk110_42 mr_11_61 (by first | exact Nat.le_of_ble_eq_true rfl | (simp [xcat, cvo_cat, cat_i, cat_j, cat_r]; done)) (hp0 390 (by decide)) rfl rf_11_9 rfl (cob_any rfl bl0) pf_11_6 h10 (fun g_11 => ?_)
    exact k_Page_makeRoom_b45_ok hp0 hL hF  g_11 vq2 σ9  _ h
def k_Page_makeRoom (σ : CS) (l0 : Nat) (l1 : Int32) : Option (CS) := k_Page_makeRoom_b0 σ l0 l1
theorem k_Page_makeRoom_ok {E : CE} {pF : Nat → List Value → xH → Option (Option Value × xH)} (hp0 : xNPc pF) (hL : lcAll pF) (hF : lcF pF) {d : Nat} {g : CG} {σ : CS} {l0 : Nat} {l1 : Int32} {res : CS} (bl0 : cob σ 11 l0) (h : k_Page_makeRoom σ l0 l1 = some res) : cCo E false pF (d + 2) 110 [.ref (coa E 11 l0), .int l1] none res g σ :=
  cCo_R kk_110 mo_110 ni_110 xm_110 (Nat.le_of_ble_eq_true rfl) (hp0 110 (by decide) _) (k_Page_makeRoom_b0_ok hp0 hL hF g _ σ l0 l1 bl0 rfl rfl _ h)
/-! k_Page_takeOver (113), depth 3 -/
def k_Page_takeOver_b96  (σ : CS) (l0 : Nat) (l1 : Nat) : Option (CS) :=
  (some (csI σ 11 l0 5 0 (cI σ 11 l1 5 0))).bind fun σ1 =>
  some σ1
set_option maxRecDepth 4000 in
theorem k_Page_takeOver_b96_ok {E : CE} {pF : Nat → List Value → xH → Option (Option Value × xH)} (hp0 : xNPc pF) (hL : lcAll pF) (hF : lcF pF) {d : Nat}   : ∀ (g : CG) (lv : xL) (σ : CS) (l0 : Nat) (l1 : Nat), (cob σ 11 l0) → (cob σ 11 l1) → (xg lv 0 = some (.ref (coa E 11 l0))) → (xg lv 1 = some (.ref (coa E 11 l1))) → ∀ res, k_Page_takeOver_b96  σ l0 l1 = some res → cR E false pF (d + 2) kT113 11 4 none none res g σ (96, lv, []) := by
  intro g lv σ l0 l1 bl0 bl1 g0 g1 res h
  unfold k_Page_takeOver_b96 at h
  refine cR_lift (fun _ _ kk => eE_aload_n lk113_96 g0 kk) ?_
  refine cR_lift (fun _ _ kk => eE_aload_n lk113_97 g1 kk) ?_
  refine cR_getI lk113_98 rf_11_39 rfl bl1 ?_
  obtain ⟨σ1, h2, h⟩ := Option.bind_eq_some_iff.mp h
  refine cR_putI lk113_101 rf_11_39 rfl bl0 pf_11_5 rfl h2 ?_
  cases h
  exact cR_end lk113_104 rfl rfl rfl
def k_Page_takeOver_b0  (σ : CS) (l0 : Nat) (l1 : Nat) (l2 : Int32) : Option (CS) :=
  (cputZ σ 11 l0 0 (cI σ 11 l1 0 0)).bind fun σ3 =>
  (some (csI σ3 11 l0 1 0 (cI σ3 11 l1 1 0))).bind fun σ5 =>
  (some (csI σ5 11 l0 2 0 (cI σ5 11 l1 2 0))).bind fun σ7 =>
  (some (csI σ7 11 l0 3 0 (cI σ7 11 l1 3 0))).bind fun σ9 =>
  (some (csI σ9 11 l0 4 0 (cI σ9 11 l1 4 0))).bind fun σ11 =>
  (k_Page_makeRoom σ11 l0 (cI σ11 11 l1 5 0)).bind fun p13 =>
  if xc0 .le ((cI p13 11 l1 5 0) - l2) = true then (
    k_Page_takeOver_b96  p13 l0 l1
  ) else (
    (ccpy p13 11 l1 6 (l2 * ((6 : Int32))) 11 l0 6 (l2 * ((6 : Int32))) (((cI p13 11 l1 5 0) - l2) * ((6 : Int32)))).bind fun σ24 =>
    (ccpy σ24 11 l1 7 l2 11 l0 7 l2 ((cI p13 11 l1 5 0) - l2)).bind fun σ26 =>
    k_Page_takeOver_b96  σ26 l0 l1
  )
set_option maxRecDepth 4000 in
theorem k_Page_takeOver_b0_ok {E : CE} {pF : Nat → List Value → xH → Option (Option Value × xH)} (hp0 : xNPc pF) (hL : lcAll pF) (hF : lcF pF) {d : Nat}   : ∀ (g : CG) (lv : xL) (σ : CS) (l0 : Nat) (l1 : Nat) (l2 : Int32), (cob σ 11 l0) → (cob σ 11 l1) → (xg lv 0 = some (.ref (coa E 11 l0))) → (xg lv 1 = some (.ref (coa E 11 l1))) → (xg lv 2 = some (.int l2)) → ∀ res, k_Page_takeOver_b0  σ l0 l1 l2 = some res → cR E false pF (d + 2) kT113 11 4 none none res g σ (0, lv, []) := by
  intro g lv σ l0 l1 l2 bl0 bl1 g0 g1 g2 res h
  unfold k_Page_takeOver_b0 at h
  refine cR_lift (fun _ _ kk => eE_aload_n lk113_0 g0 kk) ?_
  refine cR_lift (fun _ _ kk => eE_aload_n lk113_1 g1 kk) ?_
  refine cR_getI lk113_2 rf_11_22 rfl bl1 ?_
  obtain ⟨σ3, h4, h⟩ := Option.bind_eq_some_iff.mp h
  refine cR_putZ lk113_5 rf_11_22 rfl bl0 pf_11_0 h4 ?_
  refine cR_lift (fun _ _ kk => eE_aload_n lk113_8 g0 kk) ?_
  refine cR_lift (fun _ _ kk => eE_aload_n lk113_9 g1 kk) ?_
  refine cR_getI lk113_10 rf_11_26 rfl (cob_any rfl bl1) ?_
  obtain ⟨σ5, h6, h⟩ := Option.bind_eq_some_iff.mp h
  refine cR_putI lk113_13 rf_11_26 rfl (cob_any rfl bl0) pf_11_1 rfl h6 ?_
  refine cR_lift (fun _ _ kk => eE_aload_n lk113_16 g0 kk) ?_
  refine cR_lift (fun _ _ kk => eE_aload_n lk113_17 g1 kk) ?_
  refine cR_getI lk113_18 rf_11_30 rfl (cob_any rfl bl1) ?_
  obtain ⟨σ7, h8, h⟩ := Option.bind_eq_some_iff.mp h
  refine cR_putI lk113_21 rf_11_30 rfl (cob_any rfl bl0) pf_11_2 rfl h8 ?_
  refine cR_lift (fun _ _ kk => eE_aload_n lk113_24 g0 kk) ?_
  refine cR_lift (fun _ _ kk => eE_aload_n lk113_25 g1 kk) ?_
  refine cR_getI lk113_26 rf_11_33 rfl (cob_any rfl bl1) ?_
  obtain ⟨σ9, h10, h⟩ := Option.bind_eq_some_iff.mp h
  refine cR_putI lk113_29 rf_11_33 rfl (cob_any rfl bl0) pf_11_3 rfl h10 ?_
  refine cR_lift (fun _ _ kk => eE_aload_n lk113_32 g0 kk) ?_
  refine cR_lift (fun _ _ kk => eE_aload_n lk113_33 g1 kk) ?_
  refine cR_getI lk113_34 rf_11_36 rfl (cob_any rfl bl1) ?_
  obtain ⟨σ11, h12, h⟩ := Option.bind_eq_some_iff.mp h
  refine cR_putI lk113_37 rf_11_36 rfl (cob_any rfl bl0) pf_11_4 rfl h12 ?_
  refine cR_lift (fun _ _ kk => eE_aload_n lk113_40 g0 kk) ?_
  refine cR_lift (fun _ _ kk => eE_aload_n lk113_41 g1 kk) ?_
  refine cR_getI lk113_42 rf_11_39 rfl (cob_any rfl bl1) ?_
  obtain ⟨p13, h14, h⟩ := Option.bind_eq_some_iff.mp h
  refine cR_virtG (cl := 11) (i := l0) (as := [.int (cI σ11 11 l1 5 0)]) lk113_45 mr_11_45 na_110 rfl rfl (by first | exact Nat.le_of_ble_eq_true rfl | (simp [xcat, cvo_cat, cat_i, cat_j, cat_r]; done)) wv_110 wc_110 (cob_any rfl bl0) (k_Page_makeRoom_ok hp0 hL hF (d := d + 0) (cob_any rfl bl0) h14) (fun m15 g_16 => ?_)
  refine cR_lift (fun _ _ kk => eE_aload_n lk113_48 g1 kk) ?_
  refine cR_getI lk113_49 rf_11_39 rfl (cob_any rfl bl1) ?_
  refine cR_lift (fun _ _ kk => eE_iload_n lk113_52 g2 kk) ?_
  refine cR_lift (fun _ _ kk => eE_isub lk113_53 kk) ?_
  refine cR_stI (j := 3) lk113_54 (Or.inr ⟨_, rfl, rfl⟩) (by decide) (fun vq17 gq18 kq19 => ?_)
  have gq20 := kq19 0 _ (by decide) (fun e => absurd e (by decide)) g0
  have gq21 := kq19 1 _ (by decide) (fun e => absurd e (by decide)) g1
  have gq22 := kq19 2 _ (by decide) (fun _ => rfl) g2
  refine cR_lift (fun _ _ kk => eE_iload_n lk113_55 gq18 kk) ?_
  refine cR_if (t := 96) lk113_56 (by decide) (fun c23 => ?_) (fun c23 => ?_)
  · rw [if_pos c23] at h
    exact k_Page_takeOver_b96_ok hp0 hL hF  g_16 vq17 p13 l0 l1 (cob_any rfl bl0) (cob_any rfl bl1) gq20 gq21 _ h
  · rw [if_neg c23] at h
    refine cR_lift (fun _ _ kk => eE_aload_n lk113_59 gq21 kk) ?_
    refine cR_getA lk113_60 rf_11_9 (by decide) (cob_any rfl bl1) ?_
    refine cR_lift (fun _ _ kk => eE_iload_n lk113_63 gq22 kk) ?_
    refine cR_lift (fun _ _ kk => eE_bipush (v := 6) lk113_64 (by decide) kk) ?_
    refine cR_lift (fun _ _ kk => eE_imul lk113_66 kk) ?_
    refine cR_lift (fun _ _ kk => eE_aload_n lk113_67 gq20 kk) ?_
    refine cR_getA lk113_68 rf_11_9 (by decide) (cob_any rfl bl0) ?_
    refine cR_lift (fun _ _ kk => eE_iload_n lk113_71 gq22 kk) ?_
    refine cR_lift (fun _ _ kk => eE_bipush (v := 6) lk113_72 (by decide) kk) ?_
    refine cR_lift (fun _ _ kk => eE_imul lk113_74 kk) ?_
    refine cR_lift (fun _ _ kk => eE_iload_n lk113_75 gq18 kk) ?_
    refine cR_lift (fun _ _ kk => eE_bipush (v := 6) lk113_76 (by decide) kk) ?_
    refine cR_lift (fun _ _ kk => eE_imul lk113_78 kk) ?_
    obtain ⟨σ24, h25, h⟩ := Option.bind_eq_some_iff.mp h
    refine cR_cpy (a := 11) (i := l1) (f := 6) (a' := 11) (i' := l0) (f' := 6) lk113_79 yc_11_49.1 yc_11_49.2 (by decide) (by decide) (by decide) (cob_any rfl bl1) (cob_any rfl bl0) (by first | exact Nat.le_of_ble_eq_true rfl | (simp [xcat, cvo_cat, cat_i, cat_j, cat_r]; done)) h25 ?_
    refine cR_lift (fun _ _ kk => eE_aload_n lk113_82 gq21 kk) ?_
    refine cR_getA lk113_83 rf_11_15 (by decide) (cob_any rfl bl1) ?_
    refine cR_lift (fun _ _ kk => eE_iload_n lk113_86 gq22 kk) ?_
    refine cR_lift (fun _ _ kk => eE_aload_n lk113_87 gq20 kk) ?_
    refine cR_getA lk113_88 rf_11_15 (by decide) (cob_any rfl bl0) ?_
    refine cR_lift (fun _ _ kk => eE_iload_n lk113_91 gq22 kk) ?_
    refine cR_lift (fun _ _ kk => eE_iload_n lk113_92 gq18 kk) ?_
    obtain ⟨σ26, h27, h⟩ := Option.bind_eq_some_iff.mp h
    refine cR_cpy (a := 11) (i := l1) (f := 7) (a' := 11) (i' := l0) (f' := 7) lk113_93 yc_11_49.1 yc_11_49.2 (by decide) (by decide) (by decide) (cob_any rfl bl1) (cob_any rfl bl0) (by first | exact Nat.le_of_ble_eq_true rfl | (simp [xcat, cvo_cat, cat_i, cat_j, cat_r]; done)) h27 ?_
    exact k_Page_takeOver_b96_ok hp0 hL hF  g_16 vq17 σ26 l0 l1 (cob_any rfl bl0) (cob_any rfl bl1) gq20 gq21 _ h
def k_Page_takeOver (σ : CS) (l0 : Nat) (l1 : Nat) (l2 : Int32) : Option (CS) := k_Page_takeOver_b0 σ l0 l1 l2
theorem k_Page_takeOver_ok {E : CE} {pF : Nat → List Value → xH → Option (Option Value × xH)} (hp0 : xNPc pF) (hL : lcAll pF) (hF : lcF pF) {d : Nat} {g : CG} {σ : CS} {l0 : Nat} {l1 : Nat} {l2 : Int32} {res : CS} (bl0 : cob σ 11 l0) (bl1 : cob σ 11 l1) (h : k_Page_takeOver σ l0 l1 l2 = some res) : cCo E false pF (d + 3) 113 [.ref (coa E 11 l0), .ref (coa E 11 l1), .int l2] none res g σ :=
  cCo_R kk_113 mo_113 ni_113 xm_113 (Nat.le_of_ble_eq_true rfl) (hp0 113 (by decide) _) (k_Page_takeOver_b0_ok hp0 hL hF g _ σ l0 l1 l2 bl0 bl1 rfl rfl rfl _ h)
/-! k_Page_lastTerm (109), depth 1 -/
def k_Page_lastTerm_b30  (σ : CS) (s0 : Int32) : Option (Int32) :=
  some s0
set_option maxRecDepth 4000 in
theorem k_Page_lastTerm_b30_ok {E : CE} {pF : Nat → List Value → xH → Option (Option Value × xH)} (hp0 : xNPc pF) (hL : lcAll pF) (hF : lcF pF) {d : Nat}   : ∀ (g : CG) (lv : xL) (σ : CS) (s0 : Int32), ∀ res, k_Page_lastTerm_b30  σ s0 = some res → cR E true pF (d + 0) kT109 11 1 (some FieldType.int) (some (.int res)) σ g σ (30, lv, [.int s0]) := by
  intro g lv σ s0 res h
  unfold k_Page_lastTerm_b30 at h
  cases h
  exact cR_end lk109_30 rfl rfl rfl
def k_Page_lastTerm_b0  (σ : CS) (l0 : Nat) : Option (Int32) :=
  if xc0 .le (cI σ 11 l0 5 0) = true then (
    k_Page_lastTerm_b30  σ (cI σ 11 l0 3 0)
  ) else (
    (crd σ 11 l0 6 ((((cI σ 11 l0 5 0) - ((1 : Int32))) * ((6 : Int32))) + ((0 : Int32)))).bind fun x2 =>
    k_Page_lastTerm_b30  σ x2
  )
set_option maxRecDepth 4000 in
theorem k_Page_lastTerm_b0_ok {E : CE} {pF : Nat → List Value → xH → Option (Option Value × xH)} (hp0 : xNPc pF) (hL : lcAll pF) (hF : lcF pF) {d : Nat}   : ∀ (g : CG) (lv : xL) (σ : CS) (l0 : Nat), (cob σ 11 l0) → (xg lv 0 = some (.ref (coa E 11 l0))) → ∀ res, k_Page_lastTerm_b0  σ l0 = some res → cR E true pF (d + 0) kT109 11 1 (some FieldType.int) (some (.int res)) σ g σ (0, lv, []) := by
  intro g lv σ l0 bl0 g0 res h
  unfold k_Page_lastTerm_b0 at h
  refine cR_lift (fun _ _ kk => eE_aload_n lk109_0 g0 kk) ?_
  refine cR_getI lk109_1 rf_11_39 rfl bl0 ?_
  refine cR_if (t := 26) lk109_4 (by decide) (fun c1 => ?_) (fun c1 => ?_)
  · rw [if_pos c1] at h
    refine cR_lift (fun _ _ kk => eE_aload_n lk109_26 g0 kk) ?_
    refine cR_getI lk109_27 rf_11_33 rfl bl0 ?_
    exact k_Page_lastTerm_b30_ok hp0 hL hF  g lv σ (cI σ 11 l0 3 0)  _ h
  · rw [if_neg c1] at h
    refine cR_lift (fun _ _ kk => eE_aload_n lk109_7 g0 kk) ?_
    refine cR_getA lk109_8 rf_11_9 (by decide) bl0 ?_
    refine cR_lift (fun _ _ kk => eE_aload_n lk109_11 g0 kk) ?_
    refine cR_getI lk109_12 rf_11_39 rfl bl0 ?_
    refine cR_lift (fun _ _ kk => eE_iconst (v := 1) lk109_15 (by decide) kk) ?_
    refine cR_lift (fun _ _ kk => eE_isub lk109_16 kk) ?_
    refine cR_lift (fun _ _ kk => eE_bipush (v := 6) lk109_17 (by decide) kk) ?_
    refine cR_lift (fun _ _ kk => eE_imul lk109_19 kk) ?_
    refine cR_lift (fun _ _ kk => eE_iconst (v := 0) lk109_20 (by decide) kk) ?_
    refine cR_lift (fun _ _ kk => eE_iadd lk109_21 kk) ?_
    obtain ⟨x2, h3, h⟩ := Option.bind_eq_some_iff.mp h
    refine cR_iald (cl := 11) (i := l0) (f := 6) lk109_22 (by decide) rfl bl0 h3 ?_
    refine cR_lift (fun _ _ kk => eE_goto (t := 30) lk109_23 (by decide) kk) ?_
    exact k_Page_lastTerm_b30_ok hp0 hL hF  g lv σ x2  _ h
def k_Page_lastTerm (σ : CS) (l0 : Nat) : Option (Int32) := k_Page_lastTerm_b0 σ l0
theorem k_Page_lastTerm_ok {E : CE} {pF : Nat → List Value → xH → Option (Option Value × xH)} (hp0 : xNPc pF) (hL : lcAll pF) (hF : lcF pF) {d : Nat} {g : CG} {σ : CS} {l0 : Nat} {res : Int32} (bl0 : cob σ 11 l0) (h : k_Page_lastTerm σ l0 = some res) : cCo E true pF (d + 1) 109 [.ref (coa E 11 l0)] (some (.int res)) σ g σ :=
  cCo_R kk_109 mo_109 ni_109 xm_109 (Nat.le_of_ble_eq_true rfl) (hp0 109 (by decide) _) (k_Page_lastTerm_b0_ok hp0 hL hF g _ σ l0 bl0 rfl _ h)
/-! k_Page_write (114), depth 1 -/
def k_Page_write_b0  (σ : CS) (l0 : Nat) (l1 : Int32) (l2 : Int32) (l3 : Int32) (l4 : Int32) : Option (CS) :=
  (cputZ σ 11 l0 0 ((1 : Int32))).bind fun σ1 =>
  (some (csI σ1 11 l0 1 0 l1)).bind fun σ3 =>
  (some (csI σ3 11 l0 2 0 l2)).bind fun σ5 =>
  (some (csI σ5 11 l0 3 0 l3)).bind fun σ7 =>
  (some (csI σ7 11 l0 4 0 l4)).bind fun σ9 =>
  (some (csI σ9 11 l0 5 0 ((0 : Int32)))).bind fun σ11 =>
  (some (csI σ11 11 l0 9 0 ((0 : Int32)))).bind fun σ13 =>
  some σ13
set_option maxRecDepth 4000 in
theorem k_Page_write_b0_ok {E : CE} {pF : Nat → List Value → xH → Option (Option Value × xH)} (hp0 : xNPc pF) (hL : lcAll pF) (hF : lcF pF) {d : Nat}   : ∀ (g : CG) (lv : xL) (σ : CS) (l0 : Nat) (l1 : Int32) (l2 : Int32) (l3 : Int32) (l4 : Int32), (cob σ 11 l0) → (xg lv 0 = some (.ref (coa E 11 l0))) → (xg lv 1 = some (.int l1)) → (xg lv 2 = some (.int l2)) → (xg lv 3 = some (.int l3)) → (xg lv 4 = some (.int l4)) → ∀ res, k_Page_write_b0  σ l0 l1 l2 l3 l4 = some res → cR E true pF (d + 0) kT114 11 5 none none res g σ (0, lv, []) := by
  intro g lv σ l0 l1 l2 l3 l4 bl0 g0 g1 g2 g3 g4 res h
  unfold k_Page_write_b0 at h
  refine cR_lift (fun _ _ kk => eE_aload_n lk114_0 g0 kk) ?_
  refine cR_lift (fun _ _ kk => eE_iconst (v := 1) lk114_1 (by decide) kk) ?_
  obtain ⟨σ1, h2, h⟩ := Option.bind_eq_some_iff.mp h
  refine cR_putZ lk114_2 rf_11_22 rfl bl0 pf_11_0 h2 ?_
  refine cR_lift (fun _ _ kk => eE_aload_n lk114_5 g0 kk) ?_
  refine cR_lift (fun _ _ kk => eE_iload_n lk114_6 g1 kk) ?_
  obtain ⟨σ3, h4, h⟩ := Option.bind_eq_some_iff.mp h
  refine cR_putI lk114_7 rf_11_26 rfl (cob_any rfl bl0) pf_11_1 rfl h4 ?_
  refine cR_lift (fun _ _ kk => eE_aload_n lk114_10 g0 kk) ?_
  refine cR_lift (fun _ _ kk => eE_iload_n lk114_11 g2 kk) ?_
  obtain ⟨σ5, h6, h⟩ := Option.bind_eq_some_iff.mp h
  refine cR_putI lk114_12 rf_11_30 rfl (cob_any rfl bl0) pf_11_2 rfl h6 ?_
  refine cR_lift (fun _ _ kk => eE_aload_n lk114_15 g0 kk) ?_
  refine cR_lift (fun _ _ kk => eE_iload_n lk114_16 g3 kk) ?_
  obtain ⟨σ7, h8, h⟩ := Option.bind_eq_some_iff.mp h
  refine cR_putI lk114_17 rf_11_33 rfl (cob_any rfl bl0) pf_11_3 rfl h8 ?_
  refine cR_lift (fun _ _ kk => eE_aload_n lk114_20 g0 kk) ?_
  refine cR_lift (fun _ _ kk => eE_iload lk114_21 g4 kk) ?_
  obtain ⟨σ9, h10, h⟩ := Option.bind_eq_some_iff.mp h
  refine cR_putI lk114_23 rf_11_36 rfl (cob_any rfl bl0) pf_11_4 rfl h10 ?_
  refine cR_lift (fun _ _ kk => eE_aload_n lk114_26 g0 kk) ?_
  refine cR_lift (fun _ _ kk => eE_iconst (v := 0) lk114_27 (by decide) kk) ?_
  obtain ⟨σ11, h12, h⟩ := Option.bind_eq_some_iff.mp h
  refine cR_putI lk114_28 rf_11_39 rfl (cob_any rfl bl0) pf_11_5 rfl h12 ?_
  refine cR_lift (fun _ _ kk => eE_aload_n lk114_31 g0 kk) ?_
  refine cR_lift (fun _ _ kk => eE_iconst (v := 0) lk114_32 (by decide) kk) ?_
  obtain ⟨σ13, h14, h⟩ := Option.bind_eq_some_iff.mp h
  refine cR_putI lk114_33 rf_11_42 rfl (cob_any rfl bl0) pf_11_9 rfl h14 ?_
  cases h
  exact cR_end lk114_36 rfl rfl rfl
def k_Page_write (σ : CS) (l0 : Nat) (l1 : Int32) (l2 : Int32) (l3 : Int32) (l4 : Int32) : Option (CS) := k_Page_write_b0 σ l0 l1 l2 l3 l4
theorem k_Page_write_ok {E : CE} {pF : Nat → List Value → xH → Option (Option Value × xH)} (hp0 : xNPc pF) (hL : lcAll pF) (hF : lcF pF) {d : Nat} {g : CG} {σ : CS} {l0 : Nat} {l1 : Int32} {l2 : Int32} {l3 : Int32} {l4 : Int32} {res : CS} (bl0 : cob σ 11 l0) (h : k_Page_write σ l0 l1 l2 l3 l4 = some res) : cCo E true pF (d + 1) 114 [.ref (coa E 11 l0), .int l1, .int l2, .int l3, .int l4] none res g σ :=
  cCo_R kk_114 mo_114 ni_114 xm_114 (Nat.le_of_ble_eq_true rfl) (hp0 114 (by decide) _) (k_Page_write_b0_ok hp0 hL hF g _ σ l0 l1 l2 l3 l4 bl0 rfl rfl rfl rfl rfl _ h)
/-! k_Lead_begin (54), depth 9 -/
def k_Lead_begin_b52 (F : Nat)  : Nat → CS → Nat → Int32 → Int32 → Option (CS)
  | 0, _, _, _, _ => none
  | n + 1, σ, l0, l1, l3 =>
    let KK := k_Lead_begin_b52 F  n
    if xc2 .ge l3 ((7 : Int32)) = true then (
      (some (csI σ 7 l0 8 0 (l1 + ((1 : Int32))))).bind fun σ2 =>
      (some (csI σ2 7 l0 9 0 ((0 : Int32)))).bind fun σ4 =>
      (some (csI σ4 7 l0 10 0 ((-1 : Int32)))).bind fun σ6 =>
      some σ6
    ) else (
      (cwr σ 7 l0 6 l3 (((1 : Int32)) &&& 1)).bind fun σ8 =>
      (cwr σ8 7 l0 7 l3 (((0 : Int32)) &&& 1)).bind fun σ10 =>
      KK σ10 l0 l1 (l3 + (1 : Int32))
    )
set_option maxRecDepth 4000 in
theorem k_Lead_begin_b52_ok {E : CE} {pF : Nat → List Value → xH → Option (Option Value × xH)} (hp0 : xNPc pF) (hL : lcAll pF) (hF : lcF pF) {d : Nat} {F : Nat}   : ∀ (n : Nat) (g : CG) (lv : xL) (σ : CS) (l0 : Nat) (l1 : Int32) (l3 : Int32), (cob σ 7 l0) → (xg lv 0 = some (.ref (coa E 7 l0))) → (xg lv 1 = some (.int l1)) → (xg lv 3 = some (.int l3)) → ∀ res, k_Lead_begin_b52 F  n σ l0 l1 l3 = some res → cR E true pF (d + 8) kT54 7 4 none none res g σ (52, lv, []) := by
  intro n
  induction n with
  | zero => intro g lv σ l0 l1 l3 bl0 g0 g1 g3 res h; simp [k_Lead_begin_b52] at h
  | succ n hKK =>
    intro g lv σ l0 l1 l3 bl0 g0 g1 g3 res h
    unfold k_Lead_begin_b52 at h
    dsimp only at h
    refine cR_lift (fun _ _ kk => eE_iload_n lk54_52 g3 kk) ?_
    refine cR_lift (fun _ _ kk => eE_bipush (v := 7) lk54_53 (by decide) kk) ?_
    refine cR_icmp (t := 78) lk54_55 (by decide) (fun c1 => ?_) (fun c1 => ?_)
    · rw [if_pos c1] at h
      refine cR_lift (fun _ _ kk => eE_aload_n lk54_78 g0 kk) ?_
      refine cR_lift (fun _ _ kk => eE_iload_n lk54_79 g1 kk) ?_
      refine cR_lift (fun _ _ kk => eE_iconst (v := 1) lk54_80 (by decide) kk) ?_
      refine cR_lift (fun _ _ kk => eE_iadd lk54_81 kk) ?_
      obtain ⟨σ2, h3, h⟩ := Option.bind_eq_some_iff.mp h
      refine cR_putI lk54_82 rf_7_47 rfl bl0 pf_7_8 rfl h3 ?_
      refine cR_lift (fun _ _ kk => eE_aload_n lk54_85 g0 kk) ?_
      refine cR_lift (fun _ _ kk => eE_iconst (v := 0) lk54_86 (by decide) kk) ?_
      obtain ⟨σ4, h5, h⟩ := Option.bind_eq_some_iff.mp h
      refine cR_putI lk54_87 rf_7_50 rfl (cob_any rfl bl0) pf_7_9 rfl h5 ?_
      refine cR_lift (fun _ _ kk => eE_aload_n lk54_90 g0 kk) ?_
      refine cR_lift (fun _ _ kk => eE_iconst (v := (-1)) lk54_91 (by decide) kk) ?_
      obtain ⟨σ6, h7, h⟩ := Option.bind_eq_some_iff.mp h
      refine cR_putI lk54_92 rf_7_37 rfl (cob_any rfl bl0) pf_7_10 rfl h7 ?_
      cases h
      exact cR_end lk54_95 rfl rfl rfl
    · rw [if_neg c1] at h
      refine cR_lift (fun _ _ kk => eE_aload_n lk54_58 g0 kk) ?_
      refine cR_getA lk54_59 rf_7_30 (by decide) bl0 ?_
      refine cR_lift (fun _ _ kk => eE_iload_n lk54_62 g3 kk) ?_
      refine cR_lift (fun _ _ kk => eE_iconst (v := 1) lk54_63 (by decide) kk) ?_
      obtain ⟨σ8, h9, h⟩ := Option.bind_eq_some_iff.mp h
      refine cR_zast (cl := 7) (i := l0) (f := 6) lk54_64 (by decide) rfl rfl bl0 h9 ?_
      refine cR_lift (fun _ _ kk => eE_aload_n lk54_65 g0 kk) ?_
      refine cR_getA lk54_66 rf_7_34 (by decide) (cob_any rfl bl0) ?_
      refine cR_lift (fun _ _ kk => eE_iload_n lk54_69 g3 kk) ?_
      refine cR_lift (fun _ _ kk => eE_iconst (v := 0) lk54_70 (by decide) kk) ?_
      obtain ⟨σ10, h11, h⟩ := Option.bind_eq_some_iff.mp h
      refine cR_zast (cl := 7) (i := l0) (f := 7) lk54_71 (by decide) rfl rfl (cob_any rfl bl0) h11 ?_
      refine cR_inc (j := 3) (v := l3 + (1 : Int32)) lk54_72 g3 rfl (by decide) (fun vq12 gq13 kq14 => ?_)
      have gq15 := kq14 0 _ (by decide) (fun e => absurd e (by decide)) g0
      have gq16 := kq14 1 _ (by decide) (fun e => absurd e (by decide)) g1
      refine cR_lift (fun _ _ kk => eE_goto (t := 52) lk54_75 (by decide) kk) ?_
      exact hKK g vq12 σ10 l0 l1 (l3 + (1 : Int32)) (cob_any rfl bl0) gq15 gq16 gq13 _ h
def k_Lead_begin_b0 (F : Nat)  (σ : CS) (l0 : Nat) (l1 : Int32) (l2 : Int32) : Option (CS) :=
  (some (csfill σ 7 l0 0 (l1 + ((1 : Int32))))).bind fun σ17 =>
  (some (csfill σ17 7 l0 1 ((0 : Int32)))).bind fun σ19 =>
  (some (csfill σ19 7 l0 2 ((0 : Int32)))).bind fun σ21 =>
  (some (csfill σ21 7 l0 3 ((0 : Int32)))).bind fun σ23 =>
  (some (csfill σ23 7 l0 4 ((0 : Int32)))).bind fun σ25 =>
  (some (csfill σ25 7 l0 5 l2)).bind fun σ27 =>
  k_Lead_begin_b52 F  F σ27 l0 l1 ((0 : Int32))
set_option maxRecDepth 4000 in
theorem k_Lead_begin_b0_ok {E : CE} {pF : Nat → List Value → xH → Option (Option Value × xH)} (hp0 : xNPc pF) (hL : lcAll pF) (hF : lcF pF) {d : Nat} {F : Nat}   : ∀ (g : CG) (lv : xL) (σ : CS) (l0 : Nat) (l1 : Int32) (l2 : Int32), (cob σ 7 l0) → (xg lv 0 = some (.ref (coa E 7 l0))) → (xg lv 1 = some (.int l1)) → (xg lv 2 = some (.int l2)) → ∀ res, k_Lead_begin_b0 F  σ l0 l1 l2 = some res → cR E true pF (d + 8) kT54 7 4 none none res g σ (0, lv, []) := by
  intro g lv σ l0 l1 l2 bl0 g0 g1 g2 res h
  unfold k_Lead_begin_b0 at h
  refine cR_lift (fun _ _ kk => eE_aload_n lk54_0 g0 kk) ?_
  refine cR_getA lk54_1 rf_7_9 (by decide) bl0 ?_
  refine cR_lift (fun _ _ kk => eE_iload_n lk54_4 g1 kk) ?_
  refine cR_lift (fun _ _ kk => eE_iconst (v := 1) lk54_5 (by decide) kk) ?_
  refine cR_lift (fun _ _ kk => eE_iadd lk54_6 kk) ?_
  obtain ⟨σ17, h18, h⟩ := Option.bind_eq_some_iff.mp h
  refine cR_stat (as := [.ref (caa E 7 l0 0), .int (l1 + ((1 : Int32)))]) lk54_7 mr_7_41 na_393 rfl rfl (by first | exact Nat.le_of_ble_eq_true rfl | (simp [xcat, cvo_cat, cat_i, cat_j, cat_r]; done)) mm_393 ws_393 ((hF (d + 0)).1 E g _ _ 7 l0 0 (l1 + ((1 : Int32))) (by decide) rfl bl0 h18) (fun _ => ?_)
  refine cR_lift (fun _ _ kk => eE_aload_n lk54_10 g0 kk) ?_
  refine cR_getA lk54_11 rf_7_15 (by decide) (cob_any rfl bl0) ?_
  refine cR_lift (fun _ _ kk => eE_iconst (v := 0) lk54_14 (by decide) kk) ?_
  obtain ⟨σ19, h20, h⟩ := Option.bind_eq_some_iff.mp h
  refine cR_stat (as := [.ref (caa E 7 l0 1), .int ((0 : Int32))]) lk54_15 mr_7_41 na_393 rfl rfl (by first | exact Nat.le_of_ble_eq_true rfl | (simp [xcat, cvo_cat, cat_i, cat_j, cat_r]; done)) mm_393 ws_393 ((hF (d + 0)).1 E g _ _ 7 l0 1 ((0 : Int32)) (by decide) rfl (cob_any rfl bl0) h20) (fun _ => ?_)
  refine cR_lift (fun _ _ kk => eE_aload_n lk54_18 g0 kk) ?_
  refine cR_getA lk54_19 rf_7_18 (by decide) (cob_any rfl bl0) ?_
  refine cR_lift (fun _ _ kk => eE_iconst (v := 0) lk54_22 (by decide) kk) ?_
  obtain ⟨σ21, h22, h⟩ := Option.bind_eq_some_iff.mp h
  refine cR_stat (as := [.ref (caa E 7 l0 2), .int ((0 : Int32))]) lk54_23 mr_7_41 na_393 rfl rfl (by first | exact Nat.le_of_ble_eq_true rfl | (simp [xcat, cvo_cat, cat_i, cat_j, cat_r]; done)) mm_393 ws_393 ((hF (d + 0)).1 E g _ _ 7 l0 2 ((0 : Int32)) (by decide) rfl (cob_any rfl bl0) h22) (fun _ => ?_)
  refine cR_lift (fun _ _ kk => eE_aload_n lk54_26 g0 kk) ?_
  refine cR_getA lk54_27 rf_7_21 (by decide) (cob_any rfl bl0) ?_
  refine cR_lift (fun _ _ kk => eE_iconst (v := 0) lk54_30 (by decide) kk) ?_
  obtain ⟨σ23, h24, h⟩ := Option.bind_eq_some_iff.mp h
  refine cR_stat (as := [.ref (caa E 7 l0 3), .int ((0 : Int32))]) lk54_31 mr_7_41 na_393 rfl rfl (by first | exact Nat.le_of_ble_eq_true rfl | (simp [xcat, cvo_cat, cat_i, cat_j, cat_r]; done)) mm_393 ws_393 ((hF (d + 0)).1 E g _ _ 7 l0 3 ((0 : Int32)) (by decide) rfl (cob_any rfl bl0) h24) (fun _ => ?_)
  refine cR_lift (fun _ _ kk => eE_aload_n lk54_34 g0 kk) ?_
  refine cR_getA lk54_35 rf_7_24 (by decide) (cob_any rfl bl0) ?_
  refine cR_lift (fun _ _ kk => eE_iconst (v := 0) lk54_38 (by decide) kk) ?_
  obtain ⟨σ25, h26, h⟩ := Option.bind_eq_some_iff.mp h
  refine cR_stat (as := [.ref (caa E 7 l0 4), .int ((0 : Int32))]) lk54_39 mr_7_41 na_393 rfl rfl (by first | exact Nat.le_of_ble_eq_true rfl | (simp [xcat, cvo_cat, cat_i, cat_j, cat_r]; done)) mm_393 ws_393 ((hF (d + 0)).1 E g _ _ 7 l0 4 ((0 : Int32)) (by decide) rfl (cob_any rfl bl0) h26) (fun _ => ?_)
  refine cR_lift (fun _ _ kk => eE_aload_n lk54_42 g0 kk) ?_
  refine cR_getA lk54_43 rf_7_27 (by decide) (cob_any rfl bl0) ?_
  refine cR_lift (fun _ _ kk => eE_iload_n lk54_46 g2 kk) ?_
  obtain ⟨σ27, h28, h⟩ := Option.bind_eq_some_iff.mp h
  refine cR_stat (as := [.ref (caa E 7 l0 5), .int l2]) lk54_47 mr_7_41 na_393 rfl rfl (by first | exact Nat.le_of_ble_eq_true rfl | (simp [xcat, cvo_cat, cat_i, cat_j, cat_r]; done)) mm_393 ws_393 ((hF (d + 0)).1 E g _ _ 7 l0 5 l2 (by decide) rfl (cob_any rfl bl0) h28) (fun _ => ?_)
  refine cR_lift (fun _ _ kk => eE_iconst (v := 0) lk54_50 (by decide) kk) ?_
  refine cR_stI (j := 3) lk54_51 (Or.inr ⟨_, rfl, rfl⟩) (by decide) (fun vq29 gq30 kq31 => ?_)
  have gq32 := kq31 0 _ (by decide) (fun e => absurd e (by decide)) g0
  have gq33 := kq31 1 _ (by decide) (fun e => absurd e (by decide)) g1
  exact k_Lead_begin_b52_ok hp0 hL hF  F g vq29 σ27 l0 l1 ((0 : Int32)) (cob_any rfl bl0) gq32 gq33 gq30 _ h
def k_Lead_begin (F : Nat) (σ : CS) (l0 : Nat) (l1 : Int32) (l2 : Int32) : Option (CS) := k_Lead_begin_b0 F σ l0 l1 l2
theorem k_Lead_begin_ok {E : CE} {pF : Nat → List Value → xH → Option (Option Value × xH)} (hp0 : xNPc pF) (hL : lcAll pF) (hF : lcF pF) {d : Nat} {g : CG} {σ : CS} {F : Nat} {l0 : Nat} {l1 : Int32} {l2 : Int32} {res : CS} (bl0 : cob σ 7 l0) (h : k_Lead_begin F σ l0 l1 l2 = some res) : cCo E true pF (d + 9) 54 [.ref (coa E 7 l0), .int l1, .int l2] none res g σ :=
  cCo_R kk_54 mo_54 ni_54 xm_54 (Nat.le_of_ble_eq_true rfl) (hp0 54 (by decide) _) (k_Lead_begin_b0_ok hp0 hL hF g _ σ l0 l1 l2 bl0 rfl rfl rfl _ h)
/-! k_Log_at (63), depth 1 -/
def k_Log_at_b0  (σ : CS) (l0 : Nat) (l1 : Int32) : Option (Int32) :=
  some (((l1 - (cI σ 9 l0 3 0)) - ((1 : Int32))) * ((6 : Int32)))
set_option maxRecDepth 4000 in
theorem k_Log_at_b0_ok {E : CE} {pF : Nat → List Value → xH → Option (Option Value × xH)} (hp0 : xNPc pF) (hL : lcAll pF) (hF : lcF pF) {d : Nat}   : ∀ (g : CG) (lv : xL) (σ : CS) (l0 : Nat) (l1 : Int32), (cob σ 9 l0) → (xg lv 0 = some (.ref (coa E 9 l0))) → (xg lv 1 = some (.int l1)) → ∀ res, k_Log_at_b0  σ l0 l1 = some res → cR E true pF (d + 0) kT63 9 2 (some FieldType.int) (some (.int res)) σ g σ (0, lv, []) := by
  intro g lv σ l0 l1 bl0 g0 g1 res h
  unfold k_Log_at_b0 at h
  refine cR_lift (fun _ _ kk => eE_iload_n lk63_0 g1 kk) ?_
  refine cR_lift (fun _ _ kk => eE_aload_n lk63_1 g0 kk) ?_
  refine cR_getI lk63_2 rf_9_28 rfl bl0 ?_
  refine cR_lift (fun _ _ kk => eE_isub lk63_5 kk) ?_
  refine cR_lift (fun _ _ kk => eE_iconst (v := 1) lk63_6 (by decide) kk) ?_
  refine cR_lift (fun _ _ kk => eE_isub lk63_7 kk) ?_
  refine cR_lift (fun _ _ kk => eE_bipush (v := 6) lk63_8 (by decide) kk) ?_
  refine cR_lift (fun _ _ kk => eE_imul lk63_10 kk) ?_
  cases h
  exact cR_end lk63_11 rfl rfl rfl
def k_Log_at (σ : CS) (l0 : Nat) (l1 : Int32) : Option (Int32) := k_Log_at_b0 σ l0 l1
theorem k_Log_at_ok {E : CE} {pF : Nat → List Value → xH → Option (Option Value × xH)} (hp0 : xNPc pF) (hL : lcAll pF) (hF : lcF pF) {d : Nat} {g : CG} {σ : CS} {l0 : Nat} {l1 : Int32} {res : Int32} (bl0 : cob σ 9 l0) (h : k_Log_at σ l0 l1 = some res) : cCo E true pF (d + 1) 63 [.ref (coa E 9 l0), .int l1] (some (.int res)) σ g σ :=
  cCo_R kk_63 mo_63 ni_63 xm_63 (Nat.le_of_ble_eq_true rfl) (hp0 63 (by decide) _) (k_Log_at_b0_ok hp0 hL hF g _ σ l0 l1 bl0 rfl rfl _ h)
/-! k_Log_membersBehind (70), depth 1 -/
def k_Log_membersBehind_b41 (F : Nat)  (σ : CS) (l0 : Nat) (l2 : Int32) : Option (Int32) :=
  some (((cI σ 9 l0 3 0) + ((1 : Int32))) + (cmax ((-1 : Int32)) l2))
set_option maxRecDepth 4000 in
theorem k_Log_membersBehind_b41_ok {E : CE} {pF : Nat → List Value → xH → Option (Option Value × xH)} (hp0 : xNPc pF) (hL : lcAll pF) (hF : lcF pF) {d : Nat} {F : Nat}   : ∀ (g : CG) (lv : xL) (σ : CS) (l0 : Nat) (l2 : Int32), (cob σ 9 l0) → (xg lv 0 = some (.ref (coa E 9 l0))) → (xg lv 2 = some (.int l2)) → ∀ res, k_Log_membersBehind_b41 F  σ l0 l2 = some res → cR E true pF (d + 0) kT70 9 3 (some FieldType.int) (some (.int res)) σ g σ (41, lv, []) := by
  intro g lv σ l0 l2 bl0 g0 g2 res h
  unfold k_Log_membersBehind_b41 at h
  refine cR_lift (fun _ _ kk => eE_aload_n lk70_41 g0 kk) ?_
  refine cR_getI lk70_42 rf_9_28 rfl bl0 ?_
  refine cR_lift (fun _ _ kk => eE_iconst (v := 1) lk70_45 (by decide) kk) ?_
  refine cR_lift (fun _ _ kk => eE_iadd lk70_46 kk) ?_
  refine cR_lift (fun _ _ kk => eE_iconst (v := (-1)) lk70_47 (by decide) kk) ?_
  refine cR_lift (fun _ _ kk => eE_iload_n lk70_48 g2 kk) ?_
  refine cR_max lk70_49 mr_9_48 (by first | exact Nat.le_of_ble_eq_true rfl | (simp [xcat, cvo_cat, cat_i, cat_j, cat_r]; done)) ?_
  refine cR_lift (fun _ _ kk => eE_iadd lk70_52 kk) ?_
  cases h
  exact cR_end lk70_53 rfl rfl rfl
def k_Log_membersBehind_b16 (F : Nat)  : Nat → CS → Nat → Int32 → Option (Int32)
  | 0, _, _, _ => none
  | n + 1, σ, l0, l2 =>
    let KK := k_Log_membersBehind_b16 F  n
    if xc0 .lt l2 = true then (
      k_Log_membersBehind_b41 F  σ l0 l2
    ) else (
      (crd σ 9 l0 1 ((l2 * ((6 : Int32))) + ((1 : Int32)))).bind fun x2 =>
      if xc2 .eq x2 ((1 : Int32)) = true then (
        k_Log_membersBehind_b41 F  σ l0 l2
      ) else (
        KK σ l0 (l2 + (-1 : Int32))
      )
    )
set_option maxRecDepth 4000 in
theorem k_Log_membersBehind_b16_ok {E : CE} {pF : Nat → List Value → xH → Option (Option Value × xH)} (hp0 : xNPc pF) (hL : lcAll pF) (hF : lcF pF) {d : Nat} {F : Nat}   : ∀ (n : Nat) (g : CG) (lv : xL) (σ : CS) (l0 : Nat) (l2 : Int32), (cob σ 9 l0) → (xg lv 0 = some (.ref (coa E 9 l0))) → (xg lv 2 = some (.int l2)) → ∀ res, k_Log_membersBehind_b16 F  n σ l0 l2 = some res → cR E true pF (d + 0) kT70 9 3 (some FieldType.int) (some (.int res)) σ g σ (16, lv, []) := by
  intro n
  induction n with
  | zero => intro g lv σ l0 l2 bl0 g0 g2 res h; simp [k_Log_membersBehind_b16] at h
  | succ n hKK =>
    intro g lv σ l0 l2 bl0 g0 g2 res h
    unfold k_Log_membersBehind_b16 at h
    dsimp only at h
    refine cR_lift (fun _ _ kk => eE_iload_n lk70_16 g2 kk) ?_
    refine cR_if (t := 41) lk70_17 (by decide) (fun c1 => ?_) (fun c1 => ?_)
    · rw [if_pos c1] at h
      exact k_Log_membersBehind_b41_ok hp0 hL hF  g lv σ l0 l2 bl0 g0 g2 _ h
    · rw [if_neg c1] at h
      refine cR_lift (fun _ _ kk => eE_aload_n lk70_20 g0 kk) ?_
      refine cR_getA lk70_21 rf_9_9 (by decide) bl0 ?_
      refine cR_lift (fun _ _ kk => eE_iload_n lk70_24 g2 kk) ?_
      refine cR_lift (fun _ _ kk => eE_bipush (v := 6) lk70_25 (by decide) kk) ?_
      refine cR_lift (fun _ _ kk => eE_imul lk70_27 kk) ?_
      refine cR_lift (fun _ _ kk => eE_iconst (v := 1) lk70_28 (by decide) kk) ?_
      refine cR_lift (fun _ _ kk => eE_iadd lk70_29 kk) ?_
      obtain ⟨x2, h3, h⟩ := Option.bind_eq_some_iff.mp h
      refine cR_iald (cl := 9) (i := l0) (f := 1) lk70_30 (by decide) rfl bl0 h3 ?_
      refine cR_lift (fun _ _ kk => eE_iconst (v := 1) lk70_31 (by decide) kk) ?_
      refine cR_icmp (t := 41) lk70_32 (by decide) (fun c4 => ?_) (fun c4 => ?_)
      · rw [if_pos c4] at h
        exact k_Log_membersBehind_b41_ok hp0 hL hF  g lv σ l0 l2 bl0 g0 g2 _ h
      · rw [if_neg c4] at h
        refine cR_inc (j := 2) (v := l2 + (-1 : Int32)) lk70_35 g2 rfl (by decide) (fun vq5 gq6 kq7 => ?_)
        have gq8 := kq7 0 _ (by decide) (fun e => absurd e (by decide)) g0
        refine cR_lift (fun _ _ kk => eE_goto (t := 16) lk70_38 (by decide) kk) ?_
        exact hKK g vq5 σ l0 (l2 + (-1 : Int32)) bl0 gq8 gq6 _ h
def k_Log_membersBehind_b0 (F : Nat)  (σ : CS) (l0 : Nat) (l1 : Int32) : Option (Int32) :=
  k_Log_membersBehind_b16 F  F σ l0 (((cmin l1 (cI σ 9 l0 6 0)) - (cI σ 9 l0 3 0)) - ((1 : Int32)))
set_option maxRecDepth 4000 in
theorem k_Log_membersBehind_b0_ok {E : CE} {pF : Nat → List Value → xH → Option (Option Value × xH)} (hp0 : xNPc pF) (hL : lcAll pF) (hF : lcF pF) {d : Nat} {F : Nat}   : ∀ (g : CG) (lv : xL) (σ : CS) (l0 : Nat) (l1 : Int32), (cob σ 9 l0) → (xg lv 0 = some (.ref (coa E 9 l0))) → (xg lv 1 = some (.int l1)) → ∀ res, k_Log_membersBehind_b0 F  σ l0 l1 = some res → cR E true pF (d + 0) kT70 9 3 (some FieldType.int) (some (.int res)) σ g σ (0, lv, []) := by
  intro g lv σ l0 l1 bl0 g0 g1 res h
  unfold k_Log_membersBehind_b0 at h
  refine cR_lift (fun _ _ kk => eE_iload_n lk70_0 g1 kk) ?_
  refine cR_lift (fun _ _ kk => eE_aload_n lk70_1 g0 kk) ?_
  refine cR_getI lk70_2 rf_9_34 rfl bl0 ?_
  refine cR_min lk70_5 mr_9_70 (by first | exact Nat.le_of_ble_eq_true rfl | (simp [xcat, cvo_cat, cat_i, cat_j, cat_r]; done)) ?_
  refine cR_lift (fun _ _ kk => eE_aload_n lk70_8 g0 kk) ?_
  refine cR_getI lk70_9 rf_9_28 rfl bl0 ?_
  refine cR_lift (fun _ _ kk => eE_isub lk70_12 kk) ?_
  refine cR_lift (fun _ _ kk => eE_iconst (v := 1) lk70_13 (by decide) kk) ?_
  refine cR_lift (fun _ _ kk => eE_isub lk70_14 kk) ?_
  refine cR_stI (j := 2) lk70_15 (Or.inr ⟨_, rfl, rfl⟩) (by decide) (fun vq9 gq10 kq11 => ?_)
  have gq12 := kq11 0 _ (by decide) (fun e => absurd e (by decide)) g0
  exact k_Log_membersBehind_b16_ok hp0 hL hF  F g vq9 σ l0 (((cmin l1 (cI σ 9 l0 6 0)) - (cI σ 9 l0 3 0)) - ((1 : Int32))) bl0 gq12 gq10 _ h
def k_Log_membersBehind (F : Nat) (σ : CS) (l0 : Nat) (l1 : Int32) : Option (Int32) := k_Log_membersBehind_b0 F σ l0 l1
theorem k_Log_membersBehind_ok {E : CE} {pF : Nat → List Value → xH → Option (Option Value × xH)} (hp0 : xNPc pF) (hL : lcAll pF) (hF : lcF pF) {d : Nat} {g : CG} {σ : CS} {F : Nat} {l0 : Nat} {l1 : Int32} {res : Int32} (bl0 : cob σ 9 l0) (h : k_Log_membersBehind F σ l0 l1 = some res) : cCo E true pF (d + 1) 70 [.ref (coa E 9 l0), .int l1] (some (.int res)) σ g σ :=
  cCo_R kk_70 mo_70 ni_70 xm_70 (Nat.le_of_ble_eq_true rfl) (hp0 70 (by decide) _) (k_Log_membersBehind_b0_ok hp0 hL hF g _ σ l0 l1 bl0 rfl rfl _ h)
/-! k_Log_findMembers (66), depth 2 -/
def k_Log_findMembers_b46 (F : Nat)  (σ : CS) (s0 : Nat) (s1 : Int32) : Option (CS) :=
  (some (csI σ 9 s0 7 0 s1)).bind fun σ1 =>
  some σ1
set_option maxRecDepth 4000 in
theorem k_Log_findMembers_b46_ok {E : CE} {pF : Nat → List Value → xH → Option (Option Value × xH)} (hp0 : xNPc pF) (hL : lcAll pF) (hF : lcF pF) {d : Nat} {F : Nat}   : ∀ (g : CG) (lv : xL) (σ : CS) (s0 : Nat) (s1 : Int32), (cob σ 9 s0) → ∀ res, k_Log_findMembers_b46 F  σ s0 s1 = some res → cR E true pF (d + 1) kT66 9 1 none none res g σ (46, lv, [.int s1, .ref (coa E 9 s0)]) := by
  intro g lv σ s0 s1 bs0 res h
  unfold k_Log_findMembers_b46 at h
  obtain ⟨σ1, h2, h⟩ := Option.bind_eq_some_iff.mp h
  refine cR_putI lk66_46 rf_9_25 rfl bs0 pf_9_7 rfl h2 ?_
  cases h
  exact cR_end lk66_49 rfl rfl rfl
def k_Log_findMembers_b0 (F : Nat)  (σ : CS) (l0 : Nat) : Option (CS) :=
  (k_Log_membersBehind F σ l0 (cI σ 9 l0 6 0)).bind fun p3 =>
  (some (csI σ 9 l0 8 0 p3)).bind fun σ6 =>
  if xc2 .ne (cI σ6 9 l0 8 0) (cI σ6 9 l0 3 0) = true then (
    (k_Log_at σ6 l0 (cI σ6 9 l0 8 0)).bind fun p9 =>
    (crd σ6 9 l0 1 (p9 + ((3 : Int32)))).bind fun x12 =>
    k_Log_findMembers_b46 F  σ6 l0 x12
  ) else (
    k_Log_findMembers_b46 F  σ6 l0 (cI σ6 9 l0 5 0)
  )
set_option maxRecDepth 4000 in
theorem k_Log_findMembers_b0_ok {E : CE} {pF : Nat → List Value → xH → Option (Option Value × xH)} (hp0 : xNPc pF) (hL : lcAll pF) (hF : lcF pF) {d : Nat} {F : Nat}   : ∀ (g : CG) (lv : xL) (σ : CS) (l0 : Nat), (cob σ 9 l0) → (xg lv 0 = some (.ref (coa E 9 l0))) → ∀ res, k_Log_findMembers_b0 F  σ l0 = some res → cR E true pF (d + 1) kT66 9 1 none none res g σ (0, lv, []) := by
  intro g lv σ l0 bl0 g0 res h
  unfold k_Log_findMembers_b0 at h
  refine cR_lift (fun _ _ kk => eE_aload_n lk66_0 g0 kk) ?_
  refine cR_lift (fun _ _ kk => eE_aload_n lk66_1 g0 kk) ?_
  refine cR_lift (fun _ _ kk => eE_aload_n lk66_2 g0 kk) ?_
  refine cR_getI lk66_3 rf_9_34 rfl bl0 ?_
  obtain ⟨p3, h4, h⟩ := Option.bind_eq_some_iff.mp h
  refine cR_virt (cl := 9) (i := l0) (as := [.int (cI σ 9 l0 6 0)]) lk66_6 mr_9_76 na_70 rfl rfl (by first | exact Nat.le_of_ble_eq_true rfl | (simp [xcat, cvo_cat, cat_i, cat_j, cat_r]; done)) wv_70 wc_70 bl0 (k_Log_membersBehind_ok hp0 hL hF (d := d + 0) bl0 h4) (fun m5  => ?_)
  obtain ⟨σ6, h7, h⟩ := Option.bind_eq_some_iff.mp h
  refine cR_putI lk66_9 rf_9_67 rfl bl0 pf_9_8 rfl h7 ?_
  refine cR_lift (fun _ _ kk => eE_aload_n lk66_12 g0 kk) ?_
  refine cR_lift (fun _ _ kk => eE_aload_n lk66_13 g0 kk) ?_
  refine cR_getI lk66_14 rf_9_67 rfl (cob_any rfl bl0) ?_
  refine cR_lift (fun _ _ kk => eE_aload_n lk66_17 g0 kk) ?_
  refine cR_getI lk66_18 rf_9_28 rfl (cob_any rfl bl0) ?_
  refine cR_icmp (t := 31) lk66_21 (by decide) (fun c8 => ?_) (fun c8 => ?_)
  · rw [if_pos c8] at h
    refine cR_lift (fun _ _ kk => eE_aload_n lk66_31 g0 kk) ?_
    refine cR_getA lk66_32 rf_9_9 (by decide) (cob_any rfl bl0) ?_
    refine cR_lift (fun _ _ kk => eE_aload_n lk66_35 g0 kk) ?_
    refine cR_lift (fun _ _ kk => eE_aload_n lk66_36 g0 kk) ?_
    refine cR_getI lk66_37 rf_9_67 rfl (cob_any rfl bl0) ?_
    obtain ⟨p9, h10, h⟩ := Option.bind_eq_some_iff.mp h
    refine cR_virt (cl := 9) (i := l0) (as := [.int (cI σ6 9 l0 8 0)]) lk66_40 mr_9_44 na_63 rfl rfl (by first | exact Nat.le_of_ble_eq_true rfl | (simp [xcat, cvo_cat, cat_i, cat_j, cat_r]; done)) wv_63 wc_63 (cob_any rfl bl0) (k_Log_at_ok hp0 hL hF (d := d + 0) (cob_any rfl bl0) h10) (fun m11  => ?_)
    refine cR_lift (fun _ _ kk => eE_iconst (v := 3) lk66_43 (by decide) kk) ?_
    refine cR_lift (fun _ _ kk => eE_iadd lk66_44 kk) ?_
    obtain ⟨x12, h13, h⟩ := Option.bind_eq_some_iff.mp h
    refine cR_iald (cl := 9) (i := l0) (f := 1) lk66_45 (by decide) rfl (cob_any rfl bl0) h13 ?_
    exact k_Log_findMembers_b46_ok hp0 hL hF  g lv σ6 l0 x12 (cob_any rfl bl0) _ h
  · rw [if_neg c8] at h
    refine cR_lift (fun _ _ kk => eE_aload_n lk66_24 g0 kk) ?_
    refine cR_getI lk66_25 rf_9_22 rfl (cob_any rfl bl0) ?_
    refine cR_lift (fun _ _ kk => eE_goto (t := 46) lk66_28 (by decide) kk) ?_
    exact k_Log_findMembers_b46_ok hp0 hL hF  g lv σ6 l0 (cI σ6 9 l0 5 0) (cob_any rfl bl0) _ h
def k_Log_findMembers (F : Nat) (σ : CS) (l0 : Nat) : Option (CS) := k_Log_findMembers_b0 F σ l0
theorem k_Log_findMembers_ok {E : CE} {pF : Nat → List Value → xH → Option (Option Value × xH)} (hp0 : xNPc pF) (hL : lcAll pF) (hF : lcF pF) {d : Nat} {g : CG} {σ : CS} {F : Nat} {l0 : Nat} {res : CS} (bl0 : cob σ 9 l0) (h : k_Log_findMembers F σ l0 = some res) : cCo E true pF (d + 2) 66 [.ref (coa E 9 l0)] none res g σ :=
  cCo_R kk_66 mo_66 ni_66 xm_66 (Nat.le_of_ble_eq_true rfl) (hp0 66 (by decide) _) (k_Log_findMembers_b0_ok hp0 hL hF g _ σ l0 bl0 rfl _ h)
/-! k_Log_clear (64), depth 3 -/
def k_Log_clear_b0 (F : Nat)  (σ : CS) (l0 : Nat) : Option (CS) :=
  (some (csI σ 9 l0 3 0 ((0 : Int32)))).bind fun σ1 =>
  (some (csI σ1 9 l0 4 0 ((0 : Int32)))).bind fun σ3 =>
  (some (csI σ3 9 l0 5 0 (cI σ3 9 l0 0 0))).bind fun σ5 =>
  (some (csI σ5 9 l0 6 0 ((0 : Int32)))).bind fun σ7 =>
  (k_Log_findMembers F σ7 l0).bind fun p9 =>
  some p9
set_option maxRecDepth 4000 in
theorem k_Log_clear_b0_ok {E : CE} {pF : Nat → List Value → xH → Option (Option Value × xH)} (hp0 : xNPc pF) (hL : lcAll pF) (hF : lcF pF) {d : Nat} {F : Nat}   : ∀ (g : CG) (lv : xL) (σ : CS) (l0 : Nat), (cob σ 9 l0) → (xg lv 0 = some (.ref (coa E 9 l0))) → ∀ res, k_Log_clear_b0 F  σ l0 = some res → cR E true pF (d + 2) kT64 9 1 none none res g σ (0, lv, []) := by
  intro g lv σ l0 bl0 g0 res h
  unfold k_Log_clear_b0 at h
  refine cR_lift (fun _ _ kk => eE_aload_n lk64_0 g0 kk) ?_
  refine cR_lift (fun _ _ kk => eE_iconst (v := 0) lk64_1 (by decide) kk) ?_
  obtain ⟨σ1, h2, h⟩ := Option.bind_eq_some_iff.mp h
  refine cR_putI lk64_2 rf_9_28 rfl bl0 pf_9_3 rfl h2 ?_
  refine cR_lift (fun _ _ kk => eE_aload_n lk64_5 g0 kk) ?_
  refine cR_lift (fun _ _ kk => eE_iconst (v := 0) lk64_6 (by decide) kk) ?_
  obtain ⟨σ3, h4, h⟩ := Option.bind_eq_some_iff.mp h
  refine cR_putI lk64_7 rf_9_31 rfl (cob_any rfl bl0) pf_9_4 rfl h4 ?_
  refine cR_lift (fun _ _ kk => eE_aload_n lk64_10 g0 kk) ?_
  refine cR_lift (fun _ _ kk => eE_aload_n lk64_11 g0 kk) ?_
  refine cR_getI lk64_12 rf_9_18 rfl (cob_any rfl bl0) ?_
  obtain ⟨σ5, h6, h⟩ := Option.bind_eq_some_iff.mp h
  refine cR_putI lk64_15 rf_9_22 rfl (cob_any rfl bl0) pf_9_5 rfl h6 ?_
  refine cR_lift (fun _ _ kk => eE_aload_n lk64_18 g0 kk) ?_
  refine cR_lift (fun _ _ kk => eE_iconst (v := 0) lk64_19 (by decide) kk) ?_
  obtain ⟨σ7, h8, h⟩ := Option.bind_eq_some_iff.mp h
  refine cR_putI lk64_20 rf_9_34 rfl (cob_any rfl bl0) pf_9_6 rfl h8 ?_
  refine cR_lift (fun _ _ kk => eE_aload_n lk64_23 g0 kk) ?_
  obtain ⟨p9, h10, h⟩ := Option.bind_eq_some_iff.mp h
  refine cR_virt (cl := 9) (i := l0) (as := []) lk64_24 mr_9_37 na_66 rfl rfl (by first | exact Nat.le_of_ble_eq_true rfl | (simp [xcat, cvo_cat, cat_i, cat_j, cat_r]; done)) wv_66 wc_66 (cob_any rfl bl0) (k_Log_findMembers_ok hp0 hL hF (d := d + 0) (cob_any rfl bl0) h10) (fun m11  => ?_)
  cases h
  exact cR_end lk64_27 rfl rfl rfl
def k_Log_clear (F : Nat) (σ : CS) (l0 : Nat) : Option (CS) := k_Log_clear_b0 F σ l0
theorem k_Log_clear_ok {E : CE} {pF : Nat → List Value → xH → Option (Option Value × xH)} (hp0 : xNPc pF) (hL : lcAll pF) (hF : lcF pF) {d : Nat} {g : CG} {σ : CS} {F : Nat} {l0 : Nat} {res : CS} (bl0 : cob σ 9 l0) (h : k_Log_clear F σ l0 = some res) : cCo E true pF (d + 3) 64 [.ref (coa E 9 l0)] none res g σ :=
  cCo_R kk_64 mo_64 ni_64 xm_64 (Nat.le_of_ble_eq_true rfl) (hp0 64 (by decide) _) (k_Log_clear_b0_ok hp0 hL hF g _ σ l0 bl0 rfl _ h)
/-! k_Log_cutFrom (65), depth 3 -/
def k_Log_cutFrom_b0 (F : Nat)  (σ : CS) (l0 : Nat) (l1 : Int32) : Option (CS) :=
  (some (csI σ 9 l0 6 0 (cmax (cI σ 9 l0 3 0) (cmin (cI σ 9 l0 6 0) (l1 - ((1 : Int32))))))).bind fun σ1 =>
  (some (csI σ1 9 l0 11 0 (cmin (cI σ1 9 l0 11 0) (cI σ1 9 l0 6 0)))).bind fun σ3 =>
  (k_Log_findMembers F σ3 l0).bind fun p5 =>
  some p5
set_option maxRecDepth 4000 in
theorem k_Log_cutFrom_b0_ok {E : CE} {pF : Nat → List Value → xH → Option (Option Value × xH)} (hp0 : xNPc pF) (hL : lcAll pF) (hF : lcF pF) {d : Nat} {F : Nat}   : ∀ (g : CG) (lv : xL) (σ : CS) (l0 : Nat) (l1 : Int32), (cob σ 9 l0) → (xg lv 0 = some (.ref (coa E 9 l0))) → (xg lv 1 = some (.int l1)) → ∀ res, k_Log_cutFrom_b0 F  σ l0 l1 = some res → cR E true pF (d + 2) kT65 9 2 none none res g σ (0, lv, []) := by
  intro g lv σ l0 l1 bl0 g0 g1 res h
  unfold k_Log_cutFrom_b0 at h
  refine cR_lift (fun _ _ kk => eE_aload_n lk65_0 g0 kk) ?_
  refine cR_lift (fun _ _ kk => eE_aload_n lk65_1 g0 kk) ?_
  refine cR_getI lk65_2 rf_9_28 rfl bl0 ?_
  refine cR_lift (fun _ _ kk => eE_aload_n lk65_5 g0 kk) ?_
  refine cR_getI lk65_6 rf_9_34 rfl bl0 ?_
  refine cR_lift (fun _ _ kk => eE_iload_n lk65_9 g1 kk) ?_
  refine cR_lift (fun _ _ kk => eE_iconst (v := 1) lk65_10 (by decide) kk) ?_
  refine cR_lift (fun _ _ kk => eE_isub lk65_11 kk) ?_
  refine cR_min lk65_12 mr_9_70 (by first | exact Nat.le_of_ble_eq_true rfl | (simp [xcat, cvo_cat, cat_i, cat_j, cat_r]; done)) ?_
  refine cR_max lk65_15 mr_9_48 (by first | exact Nat.le_of_ble_eq_true rfl | (simp [xcat, cvo_cat, cat_i, cat_j, cat_r]; done)) ?_
  obtain ⟨σ1, h2, h⟩ := Option.bind_eq_some_iff.mp h
  refine cR_putI lk65_18 rf_9_34 rfl bl0 pf_9_6 rfl h2 ?_
  refine cR_lift (fun _ _ kk => eE_aload_n lk65_21 g0 kk) ?_
  refine cR_lift (fun _ _ kk => eE_aload_n lk65_22 g0 kk) ?_
  refine cR_getI lk65_23 rf_9_73 rfl (cob_any rfl bl0) ?_
  refine cR_lift (fun _ _ kk => eE_aload_n lk65_26 g0 kk) ?_
  refine cR_getI lk65_27 rf_9_34 rfl (cob_any rfl bl0) ?_
  refine cR_min lk65_30 mr_9_70 (by first | exact Nat.le_of_ble_eq_true rfl | (simp [xcat, cvo_cat, cat_i, cat_j, cat_r]; done)) ?_
  obtain ⟨σ3, h4, h⟩ := Option.bind_eq_some_iff.mp h
  refine cR_putI lk65_33 rf_9_73 rfl (cob_any rfl bl0) pf_9_11 rfl h4 ?_
  refine cR_lift (fun _ _ kk => eE_aload_n lk65_36 g0 kk) ?_
  obtain ⟨p5, h6, h⟩ := Option.bind_eq_some_iff.mp h
  refine cR_virt (cl := 9) (i := l0) (as := []) lk65_37 mr_9_37 na_66 rfl rfl (by first | exact Nat.le_of_ble_eq_true rfl | (simp [xcat, cvo_cat, cat_i, cat_j, cat_r]; done)) wv_66 wc_66 (cob_any rfl bl0) (k_Log_findMembers_ok hp0 hL hF (d := d + 0) (cob_any rfl bl0) h6) (fun m7  => ?_)
  cases h
  exact cR_end lk65_40 rfl rfl rfl
def k_Log_cutFrom (F : Nat) (σ : CS) (l0 : Nat) (l1 : Int32) : Option (CS) := k_Log_cutFrom_b0 F σ l0 l1
theorem k_Log_cutFrom_ok {E : CE} {pF : Nat → List Value → xH → Option (Option Value × xH)} (hp0 : xNPc pF) (hL : lcAll pF) (hF : lcF pF) {d : Nat} {g : CG} {σ : CS} {F : Nat} {l0 : Nat} {l1 : Int32} {res : CS} (bl0 : cob σ 9 l0) (h : k_Log_cutFrom F σ l0 l1 = some res) : cCo E true pF (d + 3) 65 [.ref (coa E 9 l0), .int l1] none res g σ :=
  cCo_R kk_65 mo_65 ni_65 xm_65 (Nat.le_of_ble_eq_true rfl) (hp0 65 (by decide) _) (k_Log_cutFrom_b0_ok hp0 hL hF g _ σ l0 l1 bl0 rfl rfl _ h)
/-! k_Log_has (67), depth 1 -/
def k_Log_has_b21  (σ : CS) (s0 : Int32) : Option (Int32) :=
  if s0 = 0 ∨ s0 = 1 then some s0 else none
set_option maxRecDepth 4000 in
theorem k_Log_has_b21_ok {E : CE} {pF : Nat → List Value → xH → Option (Option Value × xH)} (hp0 : xNPc pF) (hL : lcAll pF) (hF : lcF pF) {d : Nat}   : ∀ (g : CG) (lv : xL) (σ : CS) (s0 : Int32), ∀ res, k_Log_has_b21  σ s0 = some res → cR E true pF (d + 0) kT67 9 2 (some FieldType.boolean) (some (.int res)) σ g σ (21, lv, [.int s0]) := by
  intro g lv σ s0 res h
  unfold k_Log_has_b21 at h
  by_cases z1 : s0 = 0 ∨ s0 = 1
  · rw [if_pos z1] at h; cases h
    exact cR_end lk67_21 rfl rfl (by first | (simp only [xfin, if_true, if_pos z1]; done) | simp [xfin, z1])
  · rw [if_neg z1] at h; cases h
def k_Log_has_b20  (σ : CS) : Option (Int32) :=
  k_Log_has_b21  σ ((0 : Int32))
set_option maxRecDepth 4000 in
theorem k_Log_has_b20_ok {E : CE} {pF : Nat → List Value → xH → Option (Option Value × xH)} (hp0 : xNPc pF) (hL : lcAll pF) (hF : lcF pF) {d : Nat}   : ∀ (g : CG) (lv : xL) (σ : CS), ∀ res, k_Log_has_b20  σ = some res → cR E true pF (d + 0) kT67 9 2 (some FieldType.boolean) (some (.int res)) σ g σ (20, lv, []) := by
  intro g lv σ res h
  unfold k_Log_has_b20 at h
  refine cR_lift (fun _ _ kk => eE_iconst (v := 0) lk67_20 (by decide) kk) ?_
  exact k_Log_has_b21_ok hp0 hL hF  g lv σ ((0 : Int32))  _ h
def k_Log_has_b0  (σ : CS) (l0 : Nat) (l1 : Int32) : Option (Int32) :=
  if xc2 .le l1 (cI σ 9 l0 3 0) = true then (
    k_Log_has_b20  σ
  ) else (
    if xc2 .gt l1 (cI σ 9 l0 6 0) = true then (
      k_Log_has_b20  σ
    ) else (
      k_Log_has_b21  σ ((1 : Int32))
    )
  )
set_option maxRecDepth 4000 in
theorem k_Log_has_b0_ok {E : CE} {pF : Nat → List Value → xH → Option (Option Value × xH)} (hp0 : xNPc pF) (hL : lcAll pF) (hF : lcF pF) {d : Nat}   : ∀ (g : CG) (lv : xL) (σ : CS) (l0 : Nat) (l1 : Int32), (cob σ 9 l0) → (xg lv 0 = some (.ref (coa E 9 l0))) → (xg lv 1 = some (.int l1)) → ∀ res, k_Log_has_b0  σ l0 l1 = some res → cR E true pF (d + 0) kT67 9 2 (some FieldType.boolean) (some (.int res)) σ g σ (0, lv, []) := by
  intro g lv σ l0 l1 bl0 g0 g1 res h
  unfold k_Log_has_b0 at h
  refine cR_lift (fun _ _ kk => eE_iload_n lk67_0 g1 kk) ?_
  refine cR_lift (fun _ _ kk => eE_aload_n lk67_1 g0 kk) ?_
  refine cR_getI lk67_2 rf_9_28 rfl bl0 ?_
  refine cR_icmp (t := 20) lk67_5 (by decide) (fun c2 => ?_) (fun c2 => ?_)
  · rw [if_pos c2] at h
    exact k_Log_has_b20_ok hp0 hL hF  g lv σ  _ h
  · rw [if_neg c2] at h
    refine cR_lift (fun _ _ kk => eE_iload_n lk67_8 g1 kk) ?_
    refine cR_lift (fun _ _ kk => eE_aload_n lk67_9 g0 kk) ?_
    refine cR_getI lk67_10 rf_9_34 rfl bl0 ?_
    refine cR_icmp (t := 20) lk67_13 (by decide) (fun c3 => ?_) (fun c3 => ?_)
    · rw [if_pos c3] at h
      exact k_Log_has_b20_ok hp0 hL hF  g lv σ  _ h
    · rw [if_neg c3] at h
      refine cR_lift (fun _ _ kk => eE_iconst (v := 1) lk67_16 (by decide) kk) ?_
      refine cR_lift (fun _ _ kk => eE_goto (t := 21) lk67_17 (by decide) kk) ?_
      exact k_Log_has_b21_ok hp0 hL hF  g lv σ ((1 : Int32))  _ h
def k_Log_has (σ : CS) (l0 : Nat) (l1 : Int32) : Option (Int32) := k_Log_has_b0 σ l0 l1
theorem k_Log_has_ok {E : CE} {pF : Nat → List Value → xH → Option (Option Value × xH)} (hp0 : xNPc pF) (hL : lcAll pF) (hF : lcF pF) {d : Nat} {g : CG} {σ : CS} {l0 : Nat} {l1 : Int32} {res : Int32} (bl0 : cob σ 9 l0) (h : k_Log_has σ l0 l1 = some res) : cCo E true pF (d + 1) 67 [.ref (coa E 9 l0), .int l1] (some (.int res)) σ g σ :=
  cCo_R kk_67 mo_67 ni_67 xm_67 (Nat.le_of_ble_eq_true rfl) (hp0 67 (by decide) _) (k_Log_has_b0_ok hp0 hL hF g _ σ l0 l1 bl0 rfl rfl _ h)
/-! k_Log_length (69), depth 1 -/
def k_Log_length_b0  (σ : CS) (l0 : Nat) : Option (Int32) :=
  some ((cI σ 9 l0 6 0) - (cI σ 9 l0 3 0))
set_option maxRecDepth 4000 in
theorem k_Log_length_b0_ok {E : CE} {pF : Nat → List Value → xH → Option (Option Value × xH)} (hp0 : xNPc pF) (hL : lcAll pF) (hF : lcF pF) {d : Nat}   : ∀ (g : CG) (lv : xL) (σ : CS) (l0 : Nat), (cob σ 9 l0) → (xg lv 0 = some (.ref (coa E 9 l0))) → ∀ res, k_Log_length_b0  σ l0 = some res → cR E true pF (d + 0) kT69 9 1 (some FieldType.int) (some (.int res)) σ g σ (0, lv, []) := by
  intro g lv σ l0 bl0 g0 res h
  unfold k_Log_length_b0 at h
  refine cR_lift (fun _ _ kk => eE_aload_n lk69_0 g0 kk) ?_
  refine cR_getI lk69_1 rf_9_34 rfl bl0 ?_
  refine cR_lift (fun _ _ kk => eE_aload_n lk69_4 g0 kk) ?_
  refine cR_getI lk69_5 rf_9_28 rfl bl0 ?_
  refine cR_lift (fun _ _ kk => eE_isub lk69_8 kk) ?_
  cases h
  exact cR_end lk69_9 rfl rfl rfl
def k_Log_length (σ : CS) (l0 : Nat) : Option (Int32) := k_Log_length_b0 σ l0
theorem k_Log_length_ok {E : CE} {pF : Nat → List Value → xH → Option (Option Value × xH)} (hp0 : xNPc pF) (hL : lcAll pF) (hF : lcF pF) {d : Nat} {g : CG} {σ : CS} {l0 : Nat} {res : Int32} (bl0 : cob σ 9 l0) (h : k_Log_length σ l0 = some res) : cCo E true pF (d + 1) 69 [.ref (coa E 9 l0)] (some (.int res)) σ g σ :=
  cCo_R kk_69 mo_69 ni_69 xm_69 (Nat.le_of_ble_eq_true rfl) (hp0 69 (by decide) _) (k_Log_length_b0_ok hp0 hL hF g _ σ l0 bl0 rfl _ h)
/-! k_Log_membersUpTo (71), depth 2 -/
def k_Log_membersUpTo_b33 (F : Nat)  (σ : CS) (s0 : Int32) : Option (Int32) :=
  some s0
set_option maxRecDepth 4000 in
theorem k_Log_membersUpTo_b33_ok {E : CE} {pF : Nat → List Value → xH → Option (Option Value × xH)} (hp0 : xNPc pF) (hL : lcAll pF) (hF : lcF pF) {d : Nat} {F : Nat}   : ∀ (g : CG) (lv : xL) (σ : CS) (s0 : Int32), ∀ res, k_Log_membersUpTo_b33 F  σ s0 = some res → cR E true pF (d + 1) kT71 9 3 (some FieldType.int) (some (.int res)) σ g σ (33, lv, [.int s0]) := by
  intro g lv σ s0 res h
  unfold k_Log_membersUpTo_b33 at h
  cases h
  exact cR_end lk71_33 rfl rfl rfl
def k_Log_membersUpTo_b0 (F : Nat)  (σ : CS) (l0 : Nat) (l1 : Int32) : Option (Int32) :=
  (k_Log_membersBehind F σ l0 l1).bind fun p1 =>
  if xc2 .ne p1 (cI σ 9 l0 3 0) = true then (
    (k_Log_at σ l0 p1).bind fun p9 =>
    (crd σ 9 l0 1 (p9 + ((3 : Int32)))).bind fun x12 =>
    k_Log_membersUpTo_b33 F  σ x12
  ) else (
    k_Log_membersUpTo_b33 F  σ (cI σ 9 l0 5 0)
  )
set_option maxRecDepth 4000 in
theorem k_Log_membersUpTo_b0_ok {E : CE} {pF : Nat → List Value → xH → Option (Option Value × xH)} (hp0 : xNPc pF) (hL : lcAll pF) (hF : lcF pF) {d : Nat} {F : Nat}   : ∀ (g : CG) (lv : xL) (σ : CS) (l0 : Nat) (l1 : Int32), (cob σ 9 l0) → (xg lv 0 = some (.ref (coa E 9 l0))) → (xg lv 1 = some (.int l1)) → ∀ res, k_Log_membersUpTo_b0 F  σ l0 l1 = some res → cR E true pF (d + 1) kT71 9 3 (some FieldType.int) (some (.int res)) σ g σ (0, lv, []) := by
  intro g lv σ l0 l1 bl0 g0 g1 res h
  unfold k_Log_membersUpTo_b0 at h
  refine cR_lift (fun _ _ kk => eE_aload_n lk71_0 g0 kk) ?_
  refine cR_lift (fun _ _ kk => eE_iload_n lk71_1 g1 kk) ?_
  obtain ⟨p1, h2, h⟩ := Option.bind_eq_some_iff.mp h
  refine cR_virt (cl := 9) (i := l0) (as := [.int l1]) lk71_2 mr_9_76 na_70 rfl rfl (by first | exact Nat.le_of_ble_eq_true rfl | (simp [xcat, cvo_cat, cat_i, cat_j, cat_r]; done)) wv_70 wc_70 bl0 (k_Log_membersBehind_ok hp0 hL hF (d := d + 0) bl0 h2) (fun m3  => ?_)
  refine cR_stI (j := 2) lk71_5 (Or.inr ⟨_, rfl, rfl⟩) (by decide) (fun vq4 gq5 kq6 => ?_)
  have gq7 := kq6 0 _ (by decide) (fun e => absurd e (by decide)) g0
  refine cR_lift (fun _ _ kk => eE_iload_n lk71_6 gq5 kk) ?_
  refine cR_lift (fun _ _ kk => eE_aload_n lk71_7 gq7 kk) ?_
  refine cR_getI lk71_8 rf_9_28 rfl bl0 ?_
  refine cR_icmp (t := 21) lk71_11 (by decide) (fun c8 => ?_) (fun c8 => ?_)
  · rw [if_pos c8] at h
    refine cR_lift (fun _ _ kk => eE_aload_n lk71_21 gq7 kk) ?_
    refine cR_getA lk71_22 rf_9_9 (by decide) bl0 ?_
    refine cR_lift (fun _ _ kk => eE_aload_n lk71_25 gq7 kk) ?_
    refine cR_lift (fun _ _ kk => eE_iload_n lk71_26 gq5 kk) ?_
    obtain ⟨p9, h10, h⟩ := Option.bind_eq_some_iff.mp h
    refine cR_virt (cl := 9) (i := l0) (as := [.int p1]) lk71_27 mr_9_44 na_63 rfl rfl (by first | exact Nat.le_of_ble_eq_true rfl | (simp [xcat, cvo_cat, cat_i, cat_j, cat_r]; done)) wv_63 wc_63 bl0 (k_Log_at_ok hp0 hL hF (d := d + 0) bl0 h10) (fun m11  => ?_)
    refine cR_lift (fun _ _ kk => eE_iconst (v := 3) lk71_30 (by decide) kk) ?_
    refine cR_lift (fun _ _ kk => eE_iadd lk71_31 kk) ?_
    obtain ⟨x12, h13, h⟩ := Option.bind_eq_some_iff.mp h
    refine cR_iald (cl := 9) (i := l0) (f := 1) lk71_32 (by decide) rfl bl0 h13 ?_
    exact k_Log_membersUpTo_b33_ok hp0 hL hF  g vq4 σ x12  _ h
  · rw [if_neg c8] at h
    refine cR_lift (fun _ _ kk => eE_aload_n lk71_14 gq7 kk) ?_
    refine cR_getI lk71_15 rf_9_22 rfl bl0 ?_
    refine cR_lift (fun _ _ kk => eE_goto (t := 33) lk71_18 (by decide) kk) ?_
    exact k_Log_membersUpTo_b33_ok hp0 hL hF  g vq4 σ (cI σ 9 l0 5 0)  _ h
def k_Log_membersUpTo (F : Nat) (σ : CS) (l0 : Nat) (l1 : Int32) : Option (Int32) := k_Log_membersUpTo_b0 F σ l0 l1
theorem k_Log_membersUpTo_ok {E : CE} {pF : Nat → List Value → xH → Option (Option Value × xH)} (hp0 : xNPc pF) (hL : lcAll pF) (hF : lcF pF) {d : Nat} {g : CG} {σ : CS} {F : Nat} {l0 : Nat} {l1 : Int32} {res : Int32} (bl0 : cob σ 9 l0) (h : k_Log_membersUpTo F σ l0 l1 = some res) : cCo E true pF (d + 2) 71 [.ref (coa E 9 l0), .int l1] (some (.int res)) σ g σ :=
  cCo_R kk_71 mo_71 ni_71 xm_71 (Nat.le_of_ble_eq_true rfl) (hp0 71 (by decide) _) (k_Log_membersUpTo_b0_ok hp0 hL hF g _ σ l0 l1 bl0 rfl rfl _ h)
/-! k_Log_termAt (75), depth 2 -/
def k_Log_termAt_b37  (σ : CS) (s0 : Int32) : Option (Int32) :=
  some s0
set_option maxRecDepth 4000 in
theorem k_Log_termAt_b37_ok {E : CE} {pF : Nat → List Value → xH → Option (Option Value × xH)} (hp0 : xNPc pF) (hL : lcAll pF) (hF : lcF pF) {d : Nat}   : ∀ (g : CG) (lv : xL) (σ : CS) (s0 : Int32), ∀ res, k_Log_termAt_b37  σ s0 = some res → cR E true pF (d + 1) kT75 9 2 (some FieldType.int) (some (.int res)) σ g σ (37, lv, [.int s0]) := by
  intro g lv σ s0 res h
  unfold k_Log_termAt_b37 at h
  cases h
  exact cR_end lk75_37 rfl rfl rfl
def k_Log_termAt_b0  (σ : CS) (l0 : Nat) (l1 : Int32) : Option (Int32) :=
  if xc2 .ne l1 (cI σ 9 l0 3 0) = true then (
    (k_Log_has σ l0 l1).bind fun p2 =>
    if xc0 .eq p2 = true then (
      k_Log_termAt_b37  σ ((-1 : Int32))
    ) else (
      (k_Log_at σ l0 l1).bind fun p6 =>
      (crd σ 9 l0 1 (p6 + ((0 : Int32)))).bind fun x9 =>
      k_Log_termAt_b37  σ x9
    )
  ) else (
    some (cI σ 9 l0 4 0)
  )
set_option maxRecDepth 4000 in
theorem k_Log_termAt_b0_ok {E : CE} {pF : Nat → List Value → xH → Option (Option Value × xH)} (hp0 : xNPc pF) (hL : lcAll pF) (hF : lcF pF) {d : Nat}   : ∀ (g : CG) (lv : xL) (σ : CS) (l0 : Nat) (l1 : Int32), (cob σ 9 l0) → (xg lv 0 = some (.ref (coa E 9 l0))) → (xg lv 1 = some (.int l1)) → ∀ res, k_Log_termAt_b0  σ l0 l1 = some res → cR E true pF (d + 1) kT75 9 2 (some FieldType.int) (some (.int res)) σ g σ (0, lv, []) := by
  intro g lv σ l0 l1 bl0 g0 g1 res h
  unfold k_Log_termAt_b0 at h
  refine cR_lift (fun _ _ kk => eE_iload_n lk75_0 g1 kk) ?_
  refine cR_lift (fun _ _ kk => eE_aload_n lk75_1 g0 kk) ?_
  refine cR_getI lk75_2 rf_9_28 rfl bl0 ?_
  refine cR_icmp (t := 13) lk75_5 (by decide) (fun c1 => ?_) (fun c1 => ?_)
  · rw [if_pos c1] at h
    refine cR_lift (fun _ _ kk => eE_aload_n lk75_13 g0 kk) ?_
    refine cR_lift (fun _ _ kk => eE_iload_n lk75_14 g1 kk) ?_
    obtain ⟨p2, h3, h⟩ := Option.bind_eq_some_iff.mp h
    refine cR_virt (cl := 9) (i := l0) (as := [.int l1]) lk75_15 mr_9_40 na_67 rfl rfl (by first | exact Nat.le_of_ble_eq_true rfl | (simp [xcat, cvo_cat, cat_i, cat_j, cat_r]; done)) wv_67 wc_67 bl0 (k_Log_has_ok hp0 hL hF (d := d + 0) bl0 h3) (fun m4  => ?_)
    refine cR_if (t := 36) lk75_18 (by decide) (fun c5 => ?_) (fun c5 => ?_)
    · rw [if_pos c5] at h
      refine cR_lift (fun _ _ kk => eE_iconst (v := (-1)) lk75_36 (by decide) kk) ?_
      exact k_Log_termAt_b37_ok hp0 hL hF  g lv σ ((-1 : Int32))  _ h
    · rw [if_neg c5] at h
      refine cR_lift (fun _ _ kk => eE_aload_n lk75_21 g0 kk) ?_
      refine cR_getA lk75_22 rf_9_9 (by decide) bl0 ?_
      refine cR_lift (fun _ _ kk => eE_aload_n lk75_25 g0 kk) ?_
      refine cR_lift (fun _ _ kk => eE_iload_n lk75_26 g1 kk) ?_
      obtain ⟨p6, h7, h⟩ := Option.bind_eq_some_iff.mp h
      refine cR_virt (cl := 9) (i := l0) (as := [.int l1]) lk75_27 mr_9_44 na_63 rfl rfl (by first | exact Nat.le_of_ble_eq_true rfl | (simp [xcat, cvo_cat, cat_i, cat_j, cat_r]; done)) wv_63 wc_63 bl0 (k_Log_at_ok hp0 hL hF (d := d + 0) bl0 h7) (fun m8  => ?_)
      refine cR_lift (fun _ _ kk => eE_iconst (v := 0) lk75_30 (by decide) kk) ?_
      refine cR_lift (fun _ _ kk => eE_iadd lk75_31 kk) ?_
      obtain ⟨x9, h10, h⟩ := Option.bind_eq_some_iff.mp h
      refine cR_iald (cl := 9) (i := l0) (f := 1) lk75_32 (by decide) rfl bl0 h10 ?_
      refine cR_lift (fun _ _ kk => eE_goto (t := 37) lk75_33 (by decide) kk) ?_
      exact k_Log_termAt_b37_ok hp0 hL hF  g lv σ x9  _ h
  · rw [if_neg c1] at h
    refine cR_lift (fun _ _ kk => eE_aload_n lk75_8 g0 kk) ?_
    refine cR_getI lk75_9 rf_9_31 rfl bl0 ?_
    cases h
    exact cR_end lk75_12 rfl rfl rfl
def k_Log_termAt (σ : CS) (l0 : Nat) (l1 : Int32) : Option (Int32) := k_Log_termAt_b0 σ l0 l1
theorem k_Log_termAt_ok {E : CE} {pF : Nat → List Value → xH → Option (Option Value × xH)} (hp0 : xNPc pF) (hL : lcAll pF) (hF : lcF pF) {d : Nat} {g : CG} {σ : CS} {l0 : Nat} {l1 : Int32} {res : Int32} (bl0 : cob σ 9 l0) (h : k_Log_termAt σ l0 l1 = some res) : cCo E true pF (d + 2) 75 [.ref (coa E 9 l0), .int l1] (some (.int res)) σ g σ :=
  cCo_R kk_75 mo_75 ni_75 xm_75 (Nat.le_of_ble_eq_true rfl) (hp0 75 (by decide) _) (k_Log_termAt_b0_ok hp0 hL hF g _ σ l0 l1 bl0 rfl rfl _ h)
/-! k_Log_moveBase (72), depth 3 -/
def k_Log_moveBase_b50 (F : Nat)  (σ : CS) (l0 : Nat) (l1 : Int32) (l2 : Int32) (l3 : Int32) (l4 : Int32) : Option (CS) :=
  (some (csI σ 9 l0 3 0 l1)).bind fun σ1 =>
  (some (csI σ1 9 l0 4 0 l2)).bind fun σ3 =>
  (some (csI σ3 9 l0 5 0 l3)).bind fun σ5 =>
  (some (csI σ5 9 l0 6 0 (l1 + l4))).bind fun σ7 =>
  (some (csI σ7 9 l0 11 0 (cmin (cI σ7 9 l0 11 0) (cI σ7 9 l0 6 0)))).bind fun σ9 =>
  (k_Log_findMembers F σ9 l0).bind fun p11 =>
  some p11
set_option maxRecDepth 4000 in
theorem k_Log_moveBase_b50_ok {E : CE} {pF : Nat → List Value → xH → Option (Option Value × xH)} (hp0 : xNPc pF) (hL : lcAll pF) (hF : lcF pF) {d : Nat} {F : Nat}   : ∀ (g : CG) (lv : xL) (σ : CS) (l0 : Nat) (l1 : Int32) (l2 : Int32) (l3 : Int32) (l4 : Int32), (cob σ 9 l0) → (xg lv 0 = some (.ref (coa E 9 l0))) → (xg lv 1 = some (.int l1)) → (xg lv 2 = some (.int l2)) → (xg lv 3 = some (.int l3)) → (xg lv 4 = some (.int l4)) → ∀ res, k_Log_moveBase_b50 F  σ l0 l1 l2 l3 l4 = some res → cR E true pF (d + 2) kT72 9 5 none none res g σ (50, lv, []) := by
  intro g lv σ l0 l1 l2 l3 l4 bl0 g0 g1 g2 g3 g4 res h
  unfold k_Log_moveBase_b50 at h
  refine cR_lift (fun _ _ kk => eE_aload_n lk72_50 g0 kk) ?_
  refine cR_lift (fun _ _ kk => eE_iload_n lk72_51 g1 kk) ?_
  obtain ⟨σ1, h2, h⟩ := Option.bind_eq_some_iff.mp h
  refine cR_putI lk72_52 rf_9_28 rfl bl0 pf_9_3 rfl h2 ?_
  refine cR_lift (fun _ _ kk => eE_aload_n lk72_55 g0 kk) ?_
  refine cR_lift (fun _ _ kk => eE_iload_n lk72_56 g2 kk) ?_
  obtain ⟨σ3, h4, h⟩ := Option.bind_eq_some_iff.mp h
  refine cR_putI lk72_57 rf_9_31 rfl (cob_any rfl bl0) pf_9_4 rfl h4 ?_
  refine cR_lift (fun _ _ kk => eE_aload_n lk72_60 g0 kk) ?_
  refine cR_lift (fun _ _ kk => eE_iload_n lk72_61 g3 kk) ?_
  obtain ⟨σ5, h6, h⟩ := Option.bind_eq_some_iff.mp h
  refine cR_putI lk72_62 rf_9_22 rfl (cob_any rfl bl0) pf_9_5 rfl h6 ?_
  refine cR_lift (fun _ _ kk => eE_aload_n lk72_65 g0 kk) ?_
  refine cR_lift (fun _ _ kk => eE_iload_n lk72_66 g1 kk) ?_
  refine cR_lift (fun _ _ kk => eE_iload lk72_67 g4 kk) ?_
  refine cR_lift (fun _ _ kk => eE_iadd lk72_69 kk) ?_
  obtain ⟨σ7, h8, h⟩ := Option.bind_eq_some_iff.mp h
  refine cR_putI lk72_70 rf_9_34 rfl (cob_any rfl bl0) pf_9_6 rfl h8 ?_
  refine cR_lift (fun _ _ kk => eE_aload_n lk72_73 g0 kk) ?_
  refine cR_lift (fun _ _ kk => eE_aload_n lk72_74 g0 kk) ?_
  refine cR_getI lk72_75 rf_9_73 rfl (cob_any rfl bl0) ?_
  refine cR_lift (fun _ _ kk => eE_aload_n lk72_78 g0 kk) ?_
  refine cR_getI lk72_79 rf_9_34 rfl (cob_any rfl bl0) ?_
  refine cR_min lk72_82 mr_9_70 (by first | exact Nat.le_of_ble_eq_true rfl | (simp [xcat, cvo_cat, cat_i, cat_j, cat_r]; done)) ?_
  obtain ⟨σ9, h10, h⟩ := Option.bind_eq_some_iff.mp h
  refine cR_putI lk72_85 rf_9_73 rfl (cob_any rfl bl0) pf_9_11 rfl h10 ?_
  refine cR_lift (fun _ _ kk => eE_aload_n lk72_88 g0 kk) ?_
  obtain ⟨p11, h12, h⟩ := Option.bind_eq_some_iff.mp h
  refine cR_virt (cl := 9) (i := l0) (as := []) lk72_89 mr_9_37 na_66 rfl rfl (by first | exact Nat.le_of_ble_eq_true rfl | (simp [xcat, cvo_cat, cat_i, cat_j, cat_r]; done)) wv_66 wc_66 (cob_any rfl bl0) (k_Log_findMembers_ok hp0 hL hF (d := d + 0) (cob_any rfl bl0) h12) (fun m13  => ?_)
  cases h
  exact cR_end lk72_92 rfl rfl rfl
def k_Log_moveBase_b19 (F : Nat)  (σ : CS) (s0 : Int32) (l0 : Nat) (l1 : Int32) (l2 : Int32) (l3 : Int32) : Option (CS) :=
  if xc0 .le s0 = true then (
    k_Log_moveBase_b50 F  σ l0 l1 l2 l3 s0
  ) else (
    (k_Log_at σ l0 (l1 + ((1 : Int32)))).bind fun p22 =>
    (ccpy σ 9 l0 1 p22 9 l0 1 ((0 : Int32)) (s0 * ((6 : Int32)))).bind fun σ25 =>
    k_Log_moveBase_b50 F  σ25 l0 l1 l2 l3 s0
  )
set_option maxRecDepth 4000 in
theorem k_Log_moveBase_b19_ok {E : CE} {pF : Nat → List Value → xH → Option (Option Value × xH)} (hp0 : xNPc pF) (hL : lcAll pF) (hF : lcF pF) {d : Nat} {F : Nat}   : ∀ (g : CG) (lv : xL) (σ : CS) (s0 : Int32) (l0 : Nat) (l1 : Int32) (l2 : Int32) (l3 : Int32), (cob σ 9 l0) → (xg lv 0 = some (.ref (coa E 9 l0))) → (xg lv 1 = some (.int l1)) → (xg lv 2 = some (.int l2)) → (xg lv 3 = some (.int l3)) → ∀ res, k_Log_moveBase_b19 F  σ s0 l0 l1 l2 l3 = some res → cR E true pF (d + 2) kT72 9 5 none none res g σ (19, lv, [.int s0]) := by
  intro g lv σ s0 l0 l1 l2 l3 bl0 g0 g1 g2 g3 res h
  unfold k_Log_moveBase_b19 at h
  refine cR_stI (j := 4) lk72_19 (Or.inl rfl) (by decide) (fun vq14 gq15 kq16 => ?_)
  have gq17 := kq16 0 _ (by decide) (fun e => absurd e (by decide)) g0
  have gq18 := kq16 1 _ (by decide) (fun e => absurd e (by decide)) g1
  have gq19 := kq16 2 _ (by decide) (fun e => absurd e (by decide)) g2
  have gq20 := kq16 3 _ (by decide) (fun _ => rfl) g3
  refine cR_lift (fun _ _ kk => eE_iload lk72_21 gq15 kk) ?_
  refine cR_if (t := 50) lk72_23 (by decide) (fun c21 => ?_) (fun c21 => ?_)
  · rw [if_pos c21] at h
    exact k_Log_moveBase_b50_ok hp0 hL hF  g vq14 σ l0 l1 l2 l3 s0 bl0 gq17 gq18 gq19 gq20 gq15 _ h
  · rw [if_neg c21] at h
    refine cR_lift (fun _ _ kk => eE_aload_n lk72_26 gq17 kk) ?_
    refine cR_getA lk72_27 rf_9_9 (by decide) bl0 ?_
    refine cR_lift (fun _ _ kk => eE_aload_n lk72_30 gq17 kk) ?_
    refine cR_lift (fun _ _ kk => eE_iload_n lk72_31 gq18 kk) ?_
    refine cR_lift (fun _ _ kk => eE_iconst (v := 1) lk72_32 (by decide) kk) ?_
    refine cR_lift (fun _ _ kk => eE_iadd lk72_33 kk) ?_
    obtain ⟨p22, h23, h⟩ := Option.bind_eq_some_iff.mp h
    refine cR_virt (cl := 9) (i := l0) (as := [.int (l1 + ((1 : Int32)))]) lk72_34 mr_9_44 na_63 rfl rfl (by first | exact Nat.le_of_ble_eq_true rfl | (simp [xcat, cvo_cat, cat_i, cat_j, cat_r]; done)) wv_63 wc_63 bl0 (k_Log_at_ok hp0 hL hF (d := d + 1) bl0 h23) (fun m24  => ?_)
    refine cR_lift (fun _ _ kk => eE_aload_n lk72_37 gq17 kk) ?_
    refine cR_getA lk72_38 rf_9_9 (by decide) bl0 ?_
    refine cR_lift (fun _ _ kk => eE_iconst (v := 0) lk72_41 (by decide) kk) ?_
    refine cR_lift (fun _ _ kk => eE_iload lk72_42 gq15 kk) ?_
    refine cR_lift (fun _ _ kk => eE_bipush (v := 6) lk72_44 (by decide) kk) ?_
    refine cR_lift (fun _ _ kk => eE_imul lk72_46 kk) ?_
    obtain ⟨σ25, h26, h⟩ := Option.bind_eq_some_iff.mp h
    refine cR_cpy (a := 9) (i := l0) (f := 1) (a' := 9) (i' := l0) (f' := 1) lk72_47 yc_9_61.1 yc_9_61.2 (by decide) (by decide) (by decide) bl0 bl0 (by first | exact Nat.le_of_ble_eq_true rfl | (simp [xcat, cvo_cat, cat_i, cat_j, cat_r]; done)) h26 ?_
    exact k_Log_moveBase_b50_ok hp0 hL hF  g vq14 σ25 l0 l1 l2 l3 s0 (cob_any rfl bl0) gq17 gq18 gq19 gq20 gq15 _ h
def k_Log_moveBase_b0 (F : Nat)  (σ : CS) (l0 : Nat) (l1 : Int32) (l2 : Int32) (l3 : Int32) : Option (CS) :=
  (k_Log_termAt σ l0 l1).bind fun p27 =>
  if xc2 .ne p27 l2 = true then (
    k_Log_moveBase_b19 F  σ ((0 : Int32)) l0 l1 l2 l3
  ) else (
    k_Log_moveBase_b19 F  σ ((cI σ 9 l0 6 0) - l1) l0 l1 l2 l3
  )
set_option maxRecDepth 4000 in
theorem k_Log_moveBase_b0_ok {E : CE} {pF : Nat → List Value → xH → Option (Option Value × xH)} (hp0 : xNPc pF) (hL : lcAll pF) (hF : lcF pF) {d : Nat} {F : Nat}   : ∀ (g : CG) (lv : xL) (σ : CS) (l0 : Nat) (l1 : Int32) (l2 : Int32) (l3 : Int32), (cob σ 9 l0) → (xg lv 0 = some (.ref (coa E 9 l0))) → (xg lv 1 = some (.int l1)) → (xg lv 2 = some (.int l2)) → (xg lv 3 = some (.int l3)) → ∀ res, k_Log_moveBase_b0 F  σ l0 l1 l2 l3 = some res → cR E true pF (d + 2) kT72 9 5 none none res g σ (0, lv, []) := by
  intro g lv σ l0 l1 l2 l3 bl0 g0 g1 g2 g3 res h
  unfold k_Log_moveBase_b0 at h
  refine cR_lift (fun _ _ kk => eE_aload_n lk72_0 g0 kk) ?_
  refine cR_lift (fun _ _ kk => eE_iload_n lk72_1 g1 kk) ?_
  obtain ⟨p27, h28, h⟩ := Option.bind_eq_some_iff.mp h
  refine cR_virt (cl := 9) (i := l0) (as := [.int l1]) lk72_2 mr_9_54 na_75 rfl rfl (by first | exact Nat.le_of_ble_eq_true rfl | (simp [xcat, cvo_cat, cat_i, cat_j, cat_r]; done)) wv_75 wc_75 bl0 (k_Log_termAt_ok hp0 hL hF (d := d + 0) bl0 h28) (fun m29  => ?_)
  refine cR_lift (fun _ _ kk => eE_iload_n lk72_5 g2 kk) ?_
  refine cR_icmp (t := 18) lk72_6 (by decide) (fun c30 => ?_) (fun c30 => ?_)
  · rw [if_pos c30] at h
    refine cR_lift (fun _ _ kk => eE_iconst (v := 0) lk72_18 (by decide) kk) ?_
    exact k_Log_moveBase_b19_ok hp0 hL hF  g lv σ ((0 : Int32)) l0 l1 l2 l3 bl0 g0 g1 g2 g3 _ h
  · rw [if_neg c30] at h
    refine cR_lift (fun _ _ kk => eE_aload_n lk72_9 g0 kk) ?_
    refine cR_getI lk72_10 rf_9_34 rfl bl0 ?_
    refine cR_lift (fun _ _ kk => eE_iload_n lk72_13 g1 kk) ?_
    refine cR_lift (fun _ _ kk => eE_isub lk72_14 kk) ?_
    refine cR_lift (fun _ _ kk => eE_goto (t := 19) lk72_15 (by decide) kk) ?_
    exact k_Log_moveBase_b19_ok hp0 hL hF  g lv σ ((cI σ 9 l0 6 0) - l1) l0 l1 l2 l3 bl0 g0 g1 g2 g3 _ h
def k_Log_moveBase (F : Nat) (σ : CS) (l0 : Nat) (l1 : Int32) (l2 : Int32) (l3 : Int32) : Option (CS) := k_Log_moveBase_b0 F σ l0 l1 l2 l3
theorem k_Log_moveBase_ok {E : CE} {pF : Nat → List Value → xH → Option (Option Value × xH)} (hp0 : xNPc pF) (hL : lcAll pF) (hF : lcF pF) {d : Nat} {g : CG} {σ : CS} {F : Nat} {l0 : Nat} {l1 : Int32} {l2 : Int32} {l3 : Int32} {res : CS} (bl0 : cob σ 9 l0) (h : k_Log_moveBase F σ l0 l1 l2 l3 = some res) : cCo E true pF (d + 3) 72 [.ref (coa E 9 l0), .int l1, .int l2, .int l3] none res g σ :=
  cCo_R kk_72 mo_72 ni_72 xm_72 (Nat.le_of_ble_eq_true rfl) (hp0 72 (by decide) _) (k_Log_moveBase_b0_ok hp0 hL hF g _ σ l0 l1 l2 l3 bl0 rfl rfl rfl rfl _ h)
/-! k_Log_rowOf (73), depth 1 -/
def k_Log_rowOf_b0  (σ : CS) (l0 : Nat) (l1 : Int32) (l2 : Int32) (l3 : Int32) (l4 : Int32) (l5 : Int32) (l6 : Int32) : Option ((Nat) × CS) :=
  (cwr σ 9 l0 2 ((0 : Int32)) l1).bind fun σ1 =>
  (cwr σ1 9 l0 2 ((1 : Int32)) l2).bind fun σ3 =>
  (cwr σ3 9 l0 2 ((2 : Int32)) l3).bind fun σ5 =>
  (cwr σ5 9 l0 2 ((3 : Int32)) l4).bind fun σ7 =>
  (cwr σ7 9 l0 2 ((4 : Int32)) l5).bind fun σ9 =>
  (cwr σ9 9 l0 2 ((5 : Int32)) l6).bind fun σ11 =>
  some (l0, σ11)
set_option maxRecDepth 4000 in
theorem k_Log_rowOf_b0_ok {E : CE} {pF : Nat → List Value → xH → Option (Option Value × xH)} (hp0 : xNPc pF) (hL : lcAll pF) (hF : lcF pF) {d : Nat}   : ∀ (g : CG) (lv : xL) (σ : CS) (l0 : Nat) (l1 : Int32) (l2 : Int32) (l3 : Int32) (l4 : Int32) (l5 : Int32) (l6 : Int32), (cob σ 9 l0) → (xg lv 0 = some (.ref (coa E 9 l0))) → (xg lv 1 = some (.int l1)) → (xg lv 2 = some (.int l2)) → (xg lv 3 = some (.int l3)) → (xg lv 4 = some (.int l4)) → (xg lv 5 = some (.int l5)) → (xg lv 6 = some (.int l6)) → ∀ res, k_Log_rowOf_b0  σ l0 l1 l2 l3 l4 l5 l6 = some res → cR E true pF (d + 0) kT73 9 7 (some (FieldType.array FieldType.int)) (some (.ref (car E g 9 res.1 2))) res.2 g σ (0, lv, []) := by
  intro g lv σ l0 l1 l2 l3 l4 l5 l6 bl0 g0 g1 g2 g3 g4 g5 g6 res h
  unfold k_Log_rowOf_b0 at h
  refine cR_lift (fun _ _ kk => eE_aload_n lk73_0 g0 kk) ?_
  refine cR_getA lk73_1 rf_9_15 (by decide) bl0 ?_
  refine cR_lift (fun _ _ kk => eE_iconst (v := 0) lk73_4 (by decide) kk) ?_
  refine cR_lift (fun _ _ kk => eE_iload_n lk73_5 g1 kk) ?_
  obtain ⟨σ1, h2, h⟩ := Option.bind_eq_some_iff.mp h
  refine cR_iast (cl := 9) (i := l0) (f := 2) lk73_6 (by decide) rfl bl0 h2 ?_
  refine cR_lift (fun _ _ kk => eE_aload_n lk73_7 g0 kk) ?_
  refine cR_getA lk73_8 rf_9_15 (by decide) (cob_any rfl bl0) ?_
  refine cR_lift (fun _ _ kk => eE_iconst (v := 1) lk73_11 (by decide) kk) ?_
  refine cR_lift (fun _ _ kk => eE_iload_n lk73_12 g2 kk) ?_
  obtain ⟨σ3, h4, h⟩ := Option.bind_eq_some_iff.mp h
  refine cR_iast (cl := 9) (i := l0) (f := 2) lk73_13 (by decide) rfl (cob_any rfl bl0) h4 ?_
  refine cR_lift (fun _ _ kk => eE_aload_n lk73_14 g0 kk) ?_
  refine cR_getA lk73_15 rf_9_15 (by decide) (cob_any rfl bl0) ?_
  refine cR_lift (fun _ _ kk => eE_iconst (v := 2) lk73_18 (by decide) kk) ?_
  refine cR_lift (fun _ _ kk => eE_iload_n lk73_19 g3 kk) ?_
  obtain ⟨σ5, h6, h⟩ := Option.bind_eq_some_iff.mp h
  refine cR_iast (cl := 9) (i := l0) (f := 2) lk73_20 (by decide) rfl (cob_any rfl bl0) h6 ?_
  refine cR_lift (fun _ _ kk => eE_aload_n lk73_21 g0 kk) ?_
  refine cR_getA lk73_22 rf_9_15 (by decide) (cob_any rfl bl0) ?_
  refine cR_lift (fun _ _ kk => eE_iconst (v := 3) lk73_25 (by decide) kk) ?_
  refine cR_lift (fun _ _ kk => eE_iload lk73_26 g4 kk) ?_
  obtain ⟨σ7, h8, h⟩ := Option.bind_eq_some_iff.mp h
  refine cR_iast (cl := 9) (i := l0) (f := 2) lk73_28 (by decide) rfl (cob_any rfl bl0) h8 ?_
  refine cR_lift (fun _ _ kk => eE_aload_n lk73_29 g0 kk) ?_
  refine cR_getA lk73_30 rf_9_15 (by decide) (cob_any rfl bl0) ?_
  refine cR_lift (fun _ _ kk => eE_iconst (v := 4) lk73_33 (by decide) kk) ?_
  refine cR_lift (fun _ _ kk => eE_iload lk73_34 g5 kk) ?_
  obtain ⟨σ9, h10, h⟩ := Option.bind_eq_some_iff.mp h
  refine cR_iast (cl := 9) (i := l0) (f := 2) lk73_36 (by decide) rfl (cob_any rfl bl0) h10 ?_
  refine cR_lift (fun _ _ kk => eE_aload_n lk73_37 g0 kk) ?_
  refine cR_getA lk73_38 rf_9_15 (by decide) (cob_any rfl bl0) ?_
  refine cR_lift (fun _ _ kk => eE_iconst (v := 5) lk73_41 (by decide) kk) ?_
  refine cR_lift (fun _ _ kk => eE_iload lk73_42 g6 kk) ?_
  obtain ⟨σ11, h12, h⟩ := Option.bind_eq_some_iff.mp h
  refine cR_iast (cl := 9) (i := l0) (f := 2) lk73_44 (by decide) rfl (cob_any rfl bl0) h12 ?_
  refine cR_lift (fun _ _ kk => eE_aload_n lk73_45 g0 kk) ?_
  refine cR_getA lk73_46 rf_9_15 (by decide) (cob_any rfl bl0) ?_
  cases h
  exact cR_end lk73_49 rfl rfl rfl
def k_Log_rowOf (σ : CS) (l0 : Nat) (l1 : Int32) (l2 : Int32) (l3 : Int32) (l4 : Int32) (l5 : Int32) (l6 : Int32) : Option ((Nat) × CS) := k_Log_rowOf_b0 σ l0 l1 l2 l3 l4 l5 l6
theorem k_Log_rowOf_ok {E : CE} {pF : Nat → List Value → xH → Option (Option Value × xH)} (hp0 : xNPc pF) (hL : lcAll pF) (hF : lcF pF) {d : Nat} {g : CG} {σ : CS} {l0 : Nat} {l1 : Int32} {l2 : Int32} {l3 : Int32} {l4 : Int32} {l5 : Int32} {l6 : Int32} {res : (Nat) × CS} (bl0 : cob σ 9 l0) (h : k_Log_rowOf σ l0 l1 l2 l3 l4 l5 l6 = some res) : cCo E true pF (d + 1) 73 [.ref (coa E 9 l0), .int l1, .int l2, .int l3, .int l4, .int l5, .int l6] (some (.ref (car E g 9 res.1 2))) res.2 g σ :=
  cCo_R kk_73 mo_73 ni_73 xm_73 (Nat.le_of_ble_eq_true rfl) (hp0 73 (by decide) _) (k_Log_rowOf_b0_ok hp0 hL hF g _ σ l0 l1 l2 l3 l4 l5 l6 bl0 rfl rfl rfl rfl rfl rfl rfl _ h)
theorem k_Log_rowOf_lt {E : CE} {g : CG} {σ : CS} {h0 : xH} {l0 : Nat} {l1 l2 l3 l4 l5 l6 : Int32} {res : Nat × CS} (_ : CRep E g σ h0) (hb : cob σ 9 l0) (h : k_Log_rowOf σ l0 l1 l2 l3 l4 l5 l6 = some res) : cob res.2 9 res.1 := by
  unfold k_Log_rowOf k_Log_rowOf_b0 at h
  obtain ⟨a1, -, h⟩ := Option.bind_eq_some_iff.mp h
  obtain ⟨a2, -, h⟩ := Option.bind_eq_some_iff.mp h
  obtain ⟨a3, -, h⟩ := Option.bind_eq_some_iff.mp h
  obtain ⟨a4, -, h⟩ := Option.bind_eq_some_iff.mp h
  obtain ⟨a5, -, h⟩ := Option.bind_eq_some_iff.mp h
  obtain ⟨a6, -, h⟩ := Option.bind_eq_some_iff.mp h
  cases h
  exact cob_any rfl hb
/-! k_Log_runStart (74), depth 3 -/
def k_Log_runStart_b44 (F : Nat)  (σ : CS) (l2 : Int32) : Option (Int32) :=
  some l2
set_option maxRecDepth 4000 in
theorem k_Log_runStart_b44_ok {E : CE} {pF : Nat → List Value → xH → Option (Option Value × xH)} (hp0 : xNPc pF) (hL : lcAll pF) (hF : lcF pF) {d : Nat} {F : Nat}   : ∀ (g : CG) (lv : xL) (σ : CS) (l2 : Int32), (xg lv 2 = some (.int l2)) → ∀ res, k_Log_runStart_b44 F  σ l2 = some res → cR E true pF (d + 2) kT74 9 4 (some FieldType.int) (some (.int res)) σ g σ (44, lv, []) := by
  intro g lv σ l2 g2 res h
  unfold k_Log_runStart_b44 at h
  refine cR_lift (fun _ _ kk => eE_iload_n lk74_44 g2 kk) ?_
  cases h
  exact cR_end lk74_45 rfl rfl rfl
def k_Log_runStart_b17 (F : Nat)  : Nat → CS → Nat → Int32 → Int32 → Option (Int32)
  | 0, _, _, _, _ => none
  | n + 1, σ, l0, l2, l3 =>
    let KK := k_Log_runStart_b17 F  n
    if xc2 .le l2 ((cI σ 9 l0 3 0) + ((1 : Int32))) = true then (
      k_Log_runStart_b44 F  σ l2
    ) else (
      (k_Log_termAt σ l0 (l2 - ((1 : Int32)))).bind fun p2 =>
      if xc2 .ne p2 l3 = true then (
        k_Log_runStart_b44 F  σ l2
      ) else (
        KK σ l0 (l2 + (-1 : Int32)) l3
      )
    )
set_option maxRecDepth 4000 in
theorem k_Log_runStart_b17_ok {E : CE} {pF : Nat → List Value → xH → Option (Option Value × xH)} (hp0 : xNPc pF) (hL : lcAll pF) (hF : lcF pF) {d : Nat} {F : Nat}   : ∀ (n : Nat) (g : CG) (lv : xL) (σ : CS) (l0 : Nat) (l2 : Int32) (l3 : Int32), (cob σ 9 l0) → (xg lv 0 = some (.ref (coa E 9 l0))) → (xg lv 2 = some (.int l2)) → (xg lv 3 = some (.int l3)) → ∀ res, k_Log_runStart_b17 F  n σ l0 l2 l3 = some res → cR E true pF (d + 2) kT74 9 4 (some FieldType.int) (some (.int res)) σ g σ (17, lv, []) := by
  intro n
  induction n with
  | zero => intro g lv σ l0 l2 l3 bl0 g0 g2 g3 res h; simp [k_Log_runStart_b17] at h
  | succ n hKK =>
    intro g lv σ l0 l2 l3 bl0 g0 g2 g3 res h
    unfold k_Log_runStart_b17 at h
    dsimp only at h
    refine cR_lift (fun _ _ kk => eE_iload_n lk74_17 g2 kk) ?_
    refine cR_lift (fun _ _ kk => eE_aload_n lk74_18 g0 kk) ?_
    refine cR_getI lk74_19 rf_9_28 rfl bl0 ?_
    refine cR_lift (fun _ _ kk => eE_iconst (v := 1) lk74_22 (by decide) kk) ?_
    refine cR_lift (fun _ _ kk => eE_iadd lk74_23 kk) ?_
    refine cR_icmp (t := 44) lk74_24 (by decide) (fun c1 => ?_) (fun c1 => ?_)
    · rw [if_pos c1] at h
      exact k_Log_runStart_b44_ok hp0 hL hF  g lv σ l2 g2 _ h
    · rw [if_neg c1] at h
      refine cR_lift (fun _ _ kk => eE_aload_n lk74_27 g0 kk) ?_
      refine cR_lift (fun _ _ kk => eE_iload_n lk74_28 g2 kk) ?_
      refine cR_lift (fun _ _ kk => eE_iconst (v := 1) lk74_29 (by decide) kk) ?_
      refine cR_lift (fun _ _ kk => eE_isub lk74_30 kk) ?_
      obtain ⟨p2, h3, h⟩ := Option.bind_eq_some_iff.mp h
      refine cR_virt (cl := 9) (i := l0) (as := [.int (l2 - ((1 : Int32)))]) lk74_31 mr_9_54 na_75 rfl rfl (by first | exact Nat.le_of_ble_eq_true rfl | (simp [xcat, cvo_cat, cat_i, cat_j, cat_r]; done)) wv_75 wc_75 bl0 (k_Log_termAt_ok hp0 hL hF (d := d + 0) bl0 h3) (fun m4  => ?_)
      refine cR_lift (fun _ _ kk => eE_iload_n lk74_34 g3 kk) ?_
      refine cR_icmp (t := 44) lk74_35 (by decide) (fun c5 => ?_) (fun c5 => ?_)
      · rw [if_pos c5] at h
        exact k_Log_runStart_b44_ok hp0 hL hF  g lv σ l2 g2 _ h
      · rw [if_neg c5] at h
        refine cR_inc (j := 2) (v := l2 + (-1 : Int32)) lk74_38 g2 rfl (by decide) (fun vq6 gq7 kq8 => ?_)
        have gq9 := kq8 0 _ (by decide) (fun e => absurd e (by decide)) g0
        have gq10 := kq8 3 _ (by decide) (fun e => absurd e (by decide)) g3
        refine cR_lift (fun _ _ kk => eE_goto (t := 17) lk74_41 (by decide) kk) ?_
        exact hKK g vq6 σ l0 (l2 + (-1 : Int32)) l3 bl0 gq9 gq7 gq10 _ h
def k_Log_runStart_b0 (F : Nat)  (σ : CS) (l0 : Nat) (l1 : Int32) : Option (Int32) :=
  (k_Log_termAt σ l0 (cmax l1 ((cI σ 9 l0 3 0) + ((1 : Int32))))).bind fun p15 =>
  k_Log_runStart_b17 F  F σ l0 (cmax l1 ((cI σ 9 l0 3 0) + ((1 : Int32)))) p15
set_option maxRecDepth 4000 in
theorem k_Log_runStart_b0_ok {E : CE} {pF : Nat → List Value → xH → Option (Option Value × xH)} (hp0 : xNPc pF) (hL : lcAll pF) (hF : lcF pF) {d : Nat} {F : Nat}   : ∀ (g : CG) (lv : xL) (σ : CS) (l0 : Nat) (l1 : Int32), (cob σ 9 l0) → (xg lv 0 = some (.ref (coa E 9 l0))) → (xg lv 1 = some (.int l1)) → ∀ res, k_Log_runStart_b0 F  σ l0 l1 = some res → cR E true pF (d + 2) kT74 9 4 (some FieldType.int) (some (.int res)) σ g σ (0, lv, []) := by
  intro g lv σ l0 l1 bl0 g0 g1 res h
  unfold k_Log_runStart_b0 at h
  refine cR_lift (fun _ _ kk => eE_iload_n lk74_0 g1 kk) ?_
  refine cR_lift (fun _ _ kk => eE_aload_n lk74_1 g0 kk) ?_
  refine cR_getI lk74_2 rf_9_28 rfl bl0 ?_
  refine cR_lift (fun _ _ kk => eE_iconst (v := 1) lk74_5 (by decide) kk) ?_
  refine cR_lift (fun _ _ kk => eE_iadd lk74_6 kk) ?_
  refine cR_max lk74_7 mr_9_48 (by first | exact Nat.le_of_ble_eq_true rfl | (simp [xcat, cvo_cat, cat_i, cat_j, cat_r]; done)) ?_
  refine cR_stI (j := 2) lk74_10 (Or.inr ⟨_, rfl, rfl⟩) (by decide) (fun vq11 gq12 kq13 => ?_)
  have gq14 := kq13 0 _ (by decide) (fun e => absurd e (by decide)) g0
  refine cR_lift (fun _ _ kk => eE_aload_n lk74_11 gq14 kk) ?_
  refine cR_lift (fun _ _ kk => eE_iload_n lk74_12 gq12 kk) ?_
  obtain ⟨p15, h16, h⟩ := Option.bind_eq_some_iff.mp h
  refine cR_virt (cl := 9) (i := l0) (as := [.int (cmax l1 ((cI σ 9 l0 3 0) + ((1 : Int32))))]) lk74_13 mr_9_54 na_75 rfl rfl (by first | exact Nat.le_of_ble_eq_true rfl | (simp [xcat, cvo_cat, cat_i, cat_j, cat_r]; done)) wv_75 wc_75 bl0 (k_Log_termAt_ok hp0 hL hF (d := d + 0) bl0 h16) (fun m17  => ?_)
  refine cR_stI (j := 3) lk74_16 (Or.inr ⟨_, rfl, rfl⟩) (by decide) (fun vq18 gq19 kq20 => ?_)
  have gq21 := kq20 0 _ (by decide) (fun e => absurd e (by decide)) gq14
  have gq22 := kq20 2 _ (by decide) (fun _ => rfl) gq12
  exact k_Log_runStart_b17_ok hp0 hL hF  F g vq18 σ l0 (cmax l1 ((cI σ 9 l0 3 0) + ((1 : Int32)))) p15 bl0 gq21 gq22 gq19 _ h
def k_Log_runStart (F : Nat) (σ : CS) (l0 : Nat) (l1 : Int32) : Option (Int32) := k_Log_runStart_b0 F σ l0 l1
theorem k_Log_runStart_ok {E : CE} {pF : Nat → List Value → xH → Option (Option Value × xH)} (hp0 : xNPc pF) (hL : lcAll pF) (hF : lcF pF) {d : Nat} {g : CG} {σ : CS} {F : Nat} {l0 : Nat} {l1 : Int32} {res : Int32} (bl0 : cob σ 9 l0) (h : k_Log_runStart F σ l0 l1 = some res) : cCo E true pF (d + 3) 74 [.ref (coa E 9 l0), .int l1] (some (.int res)) σ g σ :=
  cCo_R kk_74 mo_74 ni_74 xm_74 (Nat.le_of_ble_eq_true rfl) (hp0 74 (by decide) _) (k_Log_runStart_b0_ok hp0 hL hF g _ σ l0 l1 bl0 rfl rfl _ h)
/-! k_Page_makeRoomForBytes (111), depth 1 -/
def k_Page_makeRoomForBytes_b20  (σ : CS) : Option (CS) :=
  some σ
set_option maxRecDepth 4000 in
theorem k_Page_makeRoomForBytes_b20_ok {E : CE} {pF : Nat → List Value → xH → Option (Option Value × xH)} (hp0 : xNPc pF) (hL : lcAll pF) (hF : lcF pF) {d : Nat}   : ∀ (g : CG) (lv : xL) (σ : CS), ∀ res, k_Page_makeRoomForBytes_b20  σ = some res → cR E false pF (d + 0) kT111 11 2 none none res g σ (20, lv, []) := by
  intro g lv σ res h
  unfold k_Page_makeRoomForBytes_b20 at h
  cases h
  exact cR_end lk111_20 rfl rfl rfl
def k_Page_makeRoomForBytes_b0  (σ : CS) (l0 : Nat) (l1 : Int32) : Option (CS) :=
  if xc2 .ge (Int32.ofNat (cal σ 11 l0 8)) l1 = true then (
    k_Page_makeRoomForBytes_b20  σ
  ) else (
    if ((2 : Int32)) = 0 then none else
    (cgrow σ 11 l0 8 (l1 + (l1 / ((2 : Int32))))).bind fun σ3 =>
    k_Page_makeRoomForBytes_b20  σ3
  )
set_option maxRecDepth 4000 in
theorem k_Page_makeRoomForBytes_b0_ok {E : CE} {pF : Nat → List Value → xH → Option (Option Value × xH)} (hp0 : xNPc pF) (hL : lcAll pF) (hF : lcF pF) {d : Nat}   : ∀ (g : CG) (lv : xL) (σ : CS) (l0 : Nat) (l1 : Int32), (cob σ 11 l0) → (xg lv 0 = some (.ref (coa E 11 l0))) → (xg lv 1 = some (.int l1)) → ∀ res, k_Page_makeRoomForBytes_b0  σ l0 l1 = some res → cR E false pF (d + 0) kT111 11 2 none none res g σ (0, lv, []) := by
  intro g lv σ l0 l1 bl0 g0 g1 res h
  unfold k_Page_makeRoomForBytes_b0 at h
  refine cR_lift (fun _ _ kk => eE_aload_n lk111_0 g0 kk) ?_
  refine cR_getA lk111_1 rf_11_18 (by decide) bl0 ?_
  refine cR_alen (cl := 11) (i := l0) (f := 8) lk111_4 (by decide) (by decide) bl0 ?_
  refine cR_lift (fun _ _ kk => eE_iload_n lk111_5 g1 kk) ?_
  refine cR_icmp (t := 20) lk111_6 (by decide) (fun c1 => ?_) (fun c1 => ?_)
  · rw [if_pos c1] at h
    exact k_Page_makeRoomForBytes_b20_ok hp0 hL hF  g lv σ  _ h
  · rw [if_neg c1] at h
    refine cR_lift (fun _ _ kk => eE_aload_n lk111_9 g0 kk) ?_
    refine cR_lift (fun _ _ kk => eE_iload_n lk111_10 g1 kk) ?_
    refine cR_lift (fun _ _ kk => eE_iload_n lk111_11 g1 kk) ?_
    refine cR_lift (fun _ _ kk => eE_iconst (v := 2) lk111_12 (by decide) kk) ?_
    by_cases z2 : ((2 : Int32)) = 0
    · rw [if_pos z2] at h; cases h
    rw [if_neg z2] at h
    refine cR_lift (fun _ _ kk => eE_idiv lk111_13 z2 kk) ?_
    refine cR_lift (fun _ _ kk => eE_iadd lk111_14 kk) ?_
    obtain ⟨σ3, h4, h⟩ := Option.bind_eq_some_iff.mp h
    refine cR_newG (cl := 11) (i := l0) (f := 8) lk111_15 lk111_17 rfl rfl (by decide) rfl rf_11_18 rfl bl0 pf_11_8 h4 (fun g_5 => ?_)
    exact k_Page_makeRoomForBytes_b20_ok hp0 hL hF  g_5 lv σ3  _ h
def k_Page_makeRoomForBytes (σ : CS) (l0 : Nat) (l1 : Int32) : Option (CS) := k_Page_makeRoomForBytes_b0 σ l0 l1
theorem k_Page_makeRoomForBytes_ok {E : CE} {pF : Nat → List Value → xH → Option (Option Value × xH)} (hp0 : xNPc pF) (hL : lcAll pF) (hF : lcF pF) {d : Nat} {g : CG} {σ : CS} {l0 : Nat} {l1 : Int32} {res : CS} (bl0 : cob σ 11 l0) (h : k_Page_makeRoomForBytes σ l0 l1 = some res) : cCo E false pF (d + 1) 111 [.ref (coa E 11 l0), .int l1] none res g σ :=
  cCo_R kk_111 mo_111 ni_111 xm_111 (Nat.le_of_ble_eq_true rfl) (hp0 111 (by decide) _) (k_Page_makeRoomForBytes_b0_ok hp0 hL hF g _ σ l0 l1 bl0 rfl rfl _ h)
/-! k_Integer_bitCount (398), depth 1 -/
def k_Integer_bitCount_b0  (σ : CS) (l0 : Int32) : Option (Int32) :=
  some ((((((((l0 - (((l0.toUInt32 >>> (((1 : Int32)).toUInt32 &&& Int32.toUInt32 31)).toInt32) &&& ((1431655765 : Int32)))) &&& ((858993459 : Int32))) + ((((l0 - (((l0.toUInt32 >>> (((1 : Int32)).toUInt32 &&& Int32.toUInt32 31)).toInt32) &&& ((1431655765 : Int32)))).toUInt32 >>> (((2 : Int32)).toUInt32 &&& Int32.toUInt32 31)).toInt32) &&& ((858993459 : Int32)))) + (((((l0 - (((l0.toUInt32 >>> (((1 : Int32)).toUInt32 &&& Int32.toUInt32 31)).toInt32) &&& ((1431655765 : Int32)))) &&& ((858993459 : Int32))) + ((((l0 - (((l0.toUInt32 >>> (((1 : Int32)).toUInt32 &&& Int32.toUInt32 31)).toInt32) &&& ((1431655765 : Int32)))).toUInt32 >>> (((2 : Int32)).toUInt32 &&& Int32.toUInt32 31)).toInt32) &&& ((858993459 : Int32)))).toUInt32 >>> (((4 : Int32)).toUInt32 &&& Int32.toUInt32 31)).toInt32)) &&& ((252645135 : Int32))) + (((((((l0 - (((l0.toUInt32 >>> (((1 : Int32)).toUInt32 &&& Int32.toUInt32 31)).toInt32) &&& ((1431655765 : Int32)))) &&& ((858993459 : Int32))) + ((((l0 - (((l0.toUInt32 >>> (((1 : Int32)).toUInt32 &&& Int32.toUInt32 31)).toInt32) &&& ((1431655765 : Int32)))).toUInt32 >>> (((2 : Int32)).toUInt32 &&& Int32.toUInt32 31)).toInt32) &&& ((858993459 : Int32)))) + (((((l0 - (((l0.toUInt32 >>> (((1 : Int32)).toUInt32 &&& Int32.toUInt32 31)).toInt32) &&& ((1431655765 : Int32)))) &&& ((858993459 : Int32))) + ((((l0 - (((l0.toUInt32 >>> (((1 : Int32)).toUInt32 &&& Int32.toUInt32 31)).toInt32) &&& ((1431655765 : Int32)))).toUInt32 >>> (((2 : Int32)).toUInt32 &&& Int32.toUInt32 31)).toInt32) &&& ((858993459 : Int32)))).toUInt32 >>> (((4 : Int32)).toUInt32 &&& Int32.toUInt32 31)).toInt32)) &&& ((252645135 : Int32))).toUInt32 >>> (((8 : Int32)).toUInt32 &&& Int32.toUInt32 31)).toInt32)) + ((((((((l0 - (((l0.toUInt32 >>> (((1 : Int32)).toUInt32 &&& Int32.toUInt32 31)).toInt32) &&& ((1431655765 : Int32)))) &&& ((858993459 : Int32))) + ((((l0 - (((l0.toUInt32 >>> (((1 : Int32)).toUInt32 &&& Int32.toUInt32 31)).toInt32) &&& ((1431655765 : Int32)))).toUInt32 >>> (((2 : Int32)).toUInt32 &&& Int32.toUInt32 31)).toInt32) &&& ((858993459 : Int32)))) + (((((l0 - (((l0.toUInt32 >>> (((1 : Int32)).toUInt32 &&& Int32.toUInt32 31)).toInt32) &&& ((1431655765 : Int32)))) &&& ((858993459 : Int32))) + ((((l0 - (((l0.toUInt32 >>> (((1 : Int32)).toUInt32 &&& Int32.toUInt32 31)).toInt32) &&& ((1431655765 : Int32)))).toUInt32 >>> (((2 : Int32)).toUInt32 &&& Int32.toUInt32 31)).toInt32) &&& ((858993459 : Int32)))).toUInt32 >>> (((4 : Int32)).toUInt32 &&& Int32.toUInt32 31)).toInt32)) &&& ((252645135 : Int32))) + (((((((l0 - (((l0.toUInt32 >>> (((1 : Int32)).toUInt32 &&& Int32.toUInt32 31)).toInt32) &&& ((1431655765 : Int32)))) &&& ((858993459 : Int32))) + ((((l0 - (((l0.toUInt32 >>> (((1 : Int32)).toUInt32 &&& Int32.toUInt32 31)).toInt32) &&& ((1431655765 : Int32)))).toUInt32 >>> (((2 : Int32)).toUInt32 &&& Int32.toUInt32 31)).toInt32) &&& ((858993459 : Int32)))) + (((((l0 - (((l0.toUInt32 >>> (((1 : Int32)).toUInt32 &&& Int32.toUInt32 31)).toInt32) &&& ((1431655765 : Int32)))) &&& ((858993459 : Int32))) + ((((l0 - (((l0.toUInt32 >>> (((1 : Int32)).toUInt32 &&& Int32.toUInt32 31)).toInt32) &&& ((1431655765 : Int32)))).toUInt32 >>> (((2 : Int32)).toUInt32 &&& Int32.toUInt32 31)).toInt32) &&& ((858993459 : Int32)))).toUInt32 >>> (((4 : Int32)).toUInt32 &&& Int32.toUInt32 31)).toInt32)) &&& ((252645135 : Int32))).toUInt32 >>> (((8 : Int32)).toUInt32 &&& Int32.toUInt32 31)).toInt32)).toUInt32 >>> (((16 : Int32)).toUInt32 &&& Int32.toUInt32 31)).toInt32)) &&& ((63 : Int32)))
set_option maxRecDepth 4000 in
theorem k_Integer_bitCount_b0_ok {E : CE} {pF : Nat → List Value → xH → Option (Option Value × xH)} (hp0 : xNPc pF) (hL : lcAll pF) (hF : lcF pF) {d : Nat}   : ∀ (g : CG) (lv : xL) (σ : CS) (l0 : Int32), (xg lv 0 = some (.int l0)) → ∀ res, k_Integer_bitCount_b0  σ l0 = some res → cR E true pF (d + 0) kT398 20 1 (some FieldType.int) (some (.int res)) σ g σ (0, lv, []) := by
  intro g lv σ l0 g0 res h
  unfold k_Integer_bitCount_b0 at h
  refine cR_lift (fun _ _ kk => eE_iload_n lk398_0 g0 kk) ?_
  refine cR_lift (fun _ _ kk => eE_iload_n lk398_1 g0 kk) ?_
  refine cR_lift (fun _ _ kk => eE_iconst (v := 1) lk398_2 (by decide) kk) ?_
  refine cR_lift (fun _ _ kk => eE_iushr lk398_3 kk) ?_
  refine cR_lift (fun _ _ kk => eE_ldc_w (v := 1431655765) lk398_4 xc_20_265 kk) ?_
  refine cR_lift (fun _ _ kk => eE_iand lk398_7 kk) ?_
  refine cR_lift (fun _ _ kk => eE_isub lk398_8 kk) ?_
  refine cR_stI (j := 0) lk398_9 (Or.inr ⟨_, rfl, rfl⟩) (by decide) (fun vq1 gq2 kq3 => ?_)
  refine cR_lift (fun _ _ kk => eE_iload_n lk398_10 gq2 kk) ?_
  refine cR_lift (fun _ _ kk => eE_ldc_w (v := 858993459) lk398_11 xc_20_266 kk) ?_
  refine cR_lift (fun _ _ kk => eE_iand lk398_14 kk) ?_
  refine cR_lift (fun _ _ kk => eE_iload_n lk398_15 gq2 kk) ?_
  refine cR_lift (fun _ _ kk => eE_iconst (v := 2) lk398_16 (by decide) kk) ?_
  refine cR_lift (fun _ _ kk => eE_iushr lk398_17 kk) ?_
  refine cR_lift (fun _ _ kk => eE_ldc_w (v := 858993459) lk398_18 xc_20_266 kk) ?_
  refine cR_lift (fun _ _ kk => eE_iand lk398_21 kk) ?_
  refine cR_lift (fun _ _ kk => eE_iadd lk398_22 kk) ?_
  refine cR_stI (j := 0) lk398_23 (Or.inr ⟨_, rfl, rfl⟩) (by decide) (fun vq4 gq5 kq6 => ?_)
  refine cR_lift (fun _ _ kk => eE_iload_n lk398_24 gq5 kk) ?_
  refine cR_lift (fun _ _ kk => eE_iload_n lk398_25 gq5 kk) ?_
  refine cR_lift (fun _ _ kk => eE_iconst (v := 4) lk398_26 (by decide) kk) ?_
  refine cR_lift (fun _ _ kk => eE_iushr lk398_27 kk) ?_
  refine cR_lift (fun _ _ kk => eE_iadd lk398_28 kk) ?_
  refine cR_lift (fun _ _ kk => eE_ldc_w (v := 252645135) lk398_29 xc_20_267 kk) ?_
  refine cR_lift (fun _ _ kk => eE_iand lk398_32 kk) ?_
  refine cR_stI (j := 0) lk398_33 (Or.inr ⟨_, rfl, rfl⟩) (by decide) (fun vq7 gq8 kq9 => ?_)
  refine cR_lift (fun _ _ kk => eE_iload_n lk398_34 gq8 kk) ?_
  refine cR_lift (fun _ _ kk => eE_iload_n lk398_35 gq8 kk) ?_
  refine cR_lift (fun _ _ kk => eE_bipush (v := 8) lk398_36 (by decide) kk) ?_
  refine cR_lift (fun _ _ kk => eE_iushr lk398_38 kk) ?_
  refine cR_lift (fun _ _ kk => eE_iadd lk398_39 kk) ?_
  refine cR_stI (j := 0) lk398_40 (Or.inr ⟨_, rfl, rfl⟩) (by decide) (fun vq10 gq11 kq12 => ?_)
  refine cR_lift (fun _ _ kk => eE_iload_n lk398_41 gq11 kk) ?_
  refine cR_lift (fun _ _ kk => eE_iload_n lk398_42 gq11 kk) ?_
  refine cR_lift (fun _ _ kk => eE_bipush (v := 16) lk398_43 (by decide) kk) ?_
  refine cR_lift (fun _ _ kk => eE_iushr lk398_45 kk) ?_
  refine cR_lift (fun _ _ kk => eE_iadd lk398_46 kk) ?_
  refine cR_stI (j := 0) lk398_47 (Or.inr ⟨_, rfl, rfl⟩) (by decide) (fun vq13 gq14 kq15 => ?_)
  refine cR_lift (fun _ _ kk => eE_iload_n lk398_48 gq14 kk) ?_
  refine cR_lift (fun _ _ kk => eE_bipush (v := 63) lk398_49 (by decide) kk) ?_
  refine cR_lift (fun _ _ kk => eE_iand lk398_51 kk) ?_
  cases h
  exact cR_end lk398_52 rfl rfl rfl
def k_Integer_bitCount (σ : CS) (l0 : Int32) : Option (Int32) := k_Integer_bitCount_b0 σ l0
theorem k_Integer_bitCount_ok {E : CE} {pF : Nat → List Value → xH → Option (Option Value × xH)} (hp0 : xNPc pF) (hL : lcAll pF) (hF : lcF pF) {d : Nat} {g : CG} {σ : CS} {l0 : Int32} {res : Int32}  (h : k_Integer_bitCount σ l0 = some res) : cCo E true pF (d + 1) 398 [.int l0] (some (.int res)) σ g σ :=
  cCo_R kk_398 mo_398 ni_398 xm_398 (Nat.le_of_ble_eq_true rfl) (hp0 398 (by decide) _) (k_Integer_bitCount_b0_ok hp0 hL hF g _ σ l0 rfl _ h)
/-! k_Lead_isReached_7_4 (56), depth 2 -/
def k_Lead_isReached_7_4_b32 (F : Nat) (K5 : CS → Nat → Int32 → Int32 → Int32 → Int32 → Option (Int32)) (σ : CS) (l0 : Nat) (l1 : Int32) (l2 : Int32) (l3 : Int32) (l4 : Int32) : Option (Int32) :=
  K5 σ l0 l1 l2 l3 (l4 + (1 : Int32))
set_option maxRecDepth 4000 in
theorem k_Lead_isReached_7_4_b32_ok {E : CE} {pF : Nat → List Value → xH → Option (Option Value × xH)} (hp0 : xNPc pF) (hL : lcAll pF) (hF : lcF pF) {d : Nat} {F : Nat} {K5 : CS → Nat → Int32 → Int32 → Int32 → Int32 → Option (Int32)} (hK5 : ∀ (g : CG) (lv : xL) (σ : CS) (l0 : Nat) (l1 : Int32) (l2 : Int32) (l3 : Int32) (l4 : Int32), (cob σ 7 l0) → (xg lv 0 = some (.ref (caa E 7 l0 4))) → (xg lv 1 = some (.int l1)) → (xg lv 2 = some (.int l2)) → (xg lv 3 = some (.int l3)) → (xg lv 4 = some (.int l4)) → ∀ res, K5 σ l0 l1 l2 l3 l4 = some res → cR E true pF (d + 1) kT56 7 5 (some FieldType.boolean) (some (.int res)) σ g σ (5, lv, [])) : ∀ (g : CG) (lv : xL) (σ : CS) (l0 : Nat) (l1 : Int32) (l2 : Int32) (l3 : Int32) (l4 : Int32), (cob σ 7 l0) → (xg lv 0 = some (.ref (caa E 7 l0 4))) → (xg lv 1 = some (.int l1)) → (xg lv 2 = some (.int l2)) → (xg lv 3 = some (.int l3)) → (xg lv 4 = some (.int l4)) → ∀ res, k_Lead_isReached_7_4_b32 F K5 σ l0 l1 l2 l3 l4 = some res → cR E true pF (d + 1) kT56 7 5 (some FieldType.boolean) (some (.int res)) σ g σ (32, lv, []) := by
  intro g lv σ l0 l1 l2 l3 l4 bl0 g0 g1 g2 g3 g4 res h
  unfold k_Lead_isReached_7_4_b32 at h
  refine cR_inc (j := 4) (v := l4 + (1 : Int32)) lk56_32 g4 rfl (by decide) (fun vq1 gq2 kq3 => ?_)
  have gq4 := kq3 0 _ (by decide) (fun e => absurd e (by decide)) g0
  have gq5 := kq3 1 _ (by decide) (fun e => absurd e (by decide)) g1
  have gq6 := kq3 2 _ (by decide) (fun e => absurd e (by decide)) g2
  have gq7 := kq3 3 _ (by decide) (fun _ => rfl) g3
  refine cR_lift (fun _ _ kk => eE_goto (t := 5) lk56_35 (by decide) kk) ?_
  exact hK5 g vq1 σ l0 l1 l2 l3 (l4 + (1 : Int32)) bl0 gq4 gq5 gq6 gq7 gq2 _ h
def k_Lead_isReached_7_4_b53 (F : Nat)  (σ : CS) (s0 : Int32) : Option (Int32) :=
  if s0 = 0 ∨ s0 = 1 then some s0 else none
set_option maxRecDepth 4000 in
theorem k_Lead_isReached_7_4_b53_ok {E : CE} {pF : Nat → List Value → xH → Option (Option Value × xH)} (hp0 : xNPc pF) (hL : lcAll pF) (hF : lcF pF) {d : Nat} {F : Nat}   : ∀ (g : CG) (lv : xL) (σ : CS) (s0 : Int32), ∀ res, k_Lead_isReached_7_4_b53 F  σ s0 = some res → cR E true pF (d + 1) kT56 7 5 (some FieldType.boolean) (some (.int res)) σ g σ (53, lv, [.int s0]) := by
  intro g lv σ s0 res h
  unfold k_Lead_isReached_7_4_b53 at h
  by_cases z8 : s0 = 0 ∨ s0 = 1
  · rw [if_pos z8] at h; cases h
    exact cR_end lk56_53 rfl rfl (by first | (simp only [xfin, if_true, if_pos z8]; done) | simp [xfin, z8])
  · rw [if_neg z8] at h; cases h
def k_Lead_isReached_7_4_b5 (F : Nat)  : Nat → CS → Nat → Int32 → Int32 → Int32 → Int32 → Option (Int32)
  | 0, _, _, _, _, _, _ => none
  | n + 1, σ, l0, l1, l2, l3, l4 =>
    let KK := k_Lead_isReached_7_4_b5 F  n
    if xc2 .ge l4 ((7 : Int32)) = true then (
      (k_Integer_bitCount σ l1).bind fun p10 =>
      if xc2 .le (((2 : Int32)) * l3) p10 = true then (
        k_Lead_isReached_7_4_b53 F  σ ((0 : Int32))
      ) else (
        k_Lead_isReached_7_4_b53 F  σ ((1 : Int32))
      )
    ) else (
      if xc0 .eq ((l1 >>> (l4 &&& 31)) &&& ((1 : Int32))) = true then (
        k_Lead_isReached_7_4_b32 F KK σ l0 l1 l2 l3 l4
      ) else (
        (crd σ 7 l0 4 l4).bind fun x15 =>
        if xc2 .lt x15 l2 = true then (
          k_Lead_isReached_7_4_b32 F KK σ l0 l1 l2 l3 l4
        ) else (
          k_Lead_isReached_7_4_b32 F KK σ l0 l1 l2 (l3 + (1 : Int32)) l4
        )
      )
    )
set_option maxRecDepth 4000 in
theorem k_Lead_isReached_7_4_b5_ok {E : CE} {pF : Nat → List Value → xH → Option (Option Value × xH)} (hp0 : xNPc pF) (hL : lcAll pF) (hF : lcF pF) {d : Nat} {F : Nat}   : ∀ (n : Nat) (g : CG) (lv : xL) (σ : CS) (l0 : Nat) (l1 : Int32) (l2 : Int32) (l3 : Int32) (l4 : Int32), (cob σ 7 l0) → (xg lv 0 = some (.ref (caa E 7 l0 4))) → (xg lv 1 = some (.int l1)) → (xg lv 2 = some (.int l2)) → (xg lv 3 = some (.int l3)) → (xg lv 4 = some (.int l4)) → ∀ res, k_Lead_isReached_7_4_b5 F  n σ l0 l1 l2 l3 l4 = some res → cR E true pF (d + 1) kT56 7 5 (some FieldType.boolean) (some (.int res)) σ g σ (5, lv, []) := by
  intro n
  induction n with
  | zero => intro g lv σ l0 l1 l2 l3 l4 bl0 g0 g1 g2 g3 g4 res h; simp [k_Lead_isReached_7_4_b5] at h
  | succ n hKK =>
    intro g lv σ l0 l1 l2 l3 l4 bl0 g0 g1 g2 g3 g4 res h
    unfold k_Lead_isReached_7_4_b5 at h
    dsimp only at h
    refine cR_lift (fun _ _ kk => eE_iload lk56_5 g4 kk) ?_
    refine cR_lift (fun _ _ kk => eE_bipush (v := 7) lk56_7 (by decide) kk) ?_
    refine cR_icmp (t := 38) lk56_9 (by decide) (fun c9 => ?_) (fun c9 => ?_)
    · rw [if_pos c9] at h
      refine cR_lift (fun _ _ kk => eE_iconst (v := 2) lk56_38 (by decide) kk) ?_
      refine cR_lift (fun _ _ kk => eE_iload_n lk56_39 g3 kk) ?_
      refine cR_lift (fun _ _ kk => eE_imul lk56_40 kk) ?_
      refine cR_lift (fun _ _ kk => eE_iload_n lk56_41 g1 kk) ?_
      obtain ⟨p10, h11, h⟩ := Option.bind_eq_some_iff.mp h
      refine cR_stat (as := [.int l1]) lk56_42 mr_7_68 na_398 rfl rfl (by first | exact Nat.le_of_ble_eq_true rfl | (simp [xcat, cvo_cat, cat_i, cat_j, cat_r]; done)) mm_398 ws_398 (k_Integer_bitCount_ok hp0 hL hF (d := d + 0)  h11) (fun m12 => ?_)
      refine cR_icmp (t := 52) lk56_45 (by decide) (fun c13 => ?_) (fun c13 => ?_)
      · rw [if_pos c13] at h
        refine cR_lift (fun _ _ kk => eE_iconst (v := 0) lk56_52 (by decide) kk) ?_
        exact k_Lead_isReached_7_4_b53_ok hp0 hL hF  g lv σ ((0 : Int32))  _ h
      · rw [if_neg c13] at h
        refine cR_lift (fun _ _ kk => eE_iconst (v := 1) lk56_48 (by decide) kk) ?_
        refine cR_lift (fun _ _ kk => eE_goto (t := 53) lk56_49 (by decide) kk) ?_
        exact k_Lead_isReached_7_4_b53_ok hp0 hL hF  g lv σ ((1 : Int32))  _ h
    · rw [if_neg c9] at h
      refine cR_lift (fun _ _ kk => eE_iload_n lk56_12 g1 kk) ?_
      refine cR_lift (fun _ _ kk => eE_iload lk56_13 g4 kk) ?_
      refine cR_lift (fun _ _ kk => eE_ishr lk56_15 kk) ?_
      refine cR_lift (fun _ _ kk => eE_iconst (v := 1) lk56_16 (by decide) kk) ?_
      refine cR_lift (fun _ _ kk => eE_iand lk56_17 kk) ?_
      refine cR_if (t := 32) lk56_18 (by decide) (fun c14 => ?_) (fun c14 => ?_)
      · rw [if_pos c14] at h
        exact k_Lead_isReached_7_4_b32_ok hp0 hL hF hKK g lv σ l0 l1 l2 l3 l4 bl0 g0 g1 g2 g3 g4 _ h
      · rw [if_neg c14] at h
        refine cR_lift (fun _ _ kk => eE_aload_n lk56_21 g0 kk) ?_
        refine cR_lift (fun _ _ kk => eE_iload lk56_22 g4 kk) ?_
        obtain ⟨x15, h16, h⟩ := Option.bind_eq_some_iff.mp h
        refine cR_iald (cl := 7) (i := l0) (f := 4) lk56_24 (by decide) rfl bl0 h16 ?_
        refine cR_lift (fun _ _ kk => eE_iload_n lk56_25 g2 kk) ?_
        refine cR_icmp (t := 32) lk56_26 (by decide) (fun c17 => ?_) (fun c17 => ?_)
        · rw [if_pos c17] at h
          exact k_Lead_isReached_7_4_b32_ok hp0 hL hF hKK g lv σ l0 l1 l2 l3 l4 bl0 g0 g1 g2 g3 g4 _ h
        · rw [if_neg c17] at h
          refine cR_inc (j := 3) (v := l3 + (1 : Int32)) lk56_29 g3 rfl (by decide) (fun vq18 gq19 kq20 => ?_)
          have gq21 := kq20 0 _ (by decide) (fun e => absurd e (by decide)) g0
          have gq22 := kq20 1 _ (by decide) (fun e => absurd e (by decide)) g1
          have gq23 := kq20 2 _ (by decide) (fun _ => rfl) g2
          have gq24 := kq20 4 _ (by decide) (fun e => absurd e (by decide)) g4
          exact k_Lead_isReached_7_4_b32_ok hp0 hL hF hKK g vq18 σ l0 l1 l2 (l3 + (1 : Int32)) l4 bl0 gq21 gq22 gq23 gq19 gq24 _ h
def k_Lead_isReached_7_4_b0 (F : Nat)  (σ : CS) (l0 : Nat) (l1 : Int32) (l2 : Int32) : Option (Int32) :=
  k_Lead_isReached_7_4_b5 F  F σ l0 l1 l2 ((0 : Int32)) ((0 : Int32))
set_option maxRecDepth 4000 in
theorem k_Lead_isReached_7_4_b0_ok {E : CE} {pF : Nat → List Value → xH → Option (Option Value × xH)} (hp0 : xNPc pF) (hL : lcAll pF) (hF : lcF pF) {d : Nat} {F : Nat}   : ∀ (g : CG) (lv : xL) (σ : CS) (l0 : Nat) (l1 : Int32) (l2 : Int32), (cob σ 7 l0) → (xg lv 0 = some (.ref (caa E 7 l0 4))) → (xg lv 1 = some (.int l1)) → (xg lv 2 = some (.int l2)) → ∀ res, k_Lead_isReached_7_4_b0 F  σ l0 l1 l2 = some res → cR E true pF (d + 1) kT56 7 5 (some FieldType.boolean) (some (.int res)) σ g σ (0, lv, []) := by
  intro g lv σ l0 l1 l2 bl0 g0 g1 g2 res h
  unfold k_Lead_isReached_7_4_b0 at h
  refine cR_lift (fun _ _ kk => eE_iconst (v := 0) lk56_0 (by decide) kk) ?_
  refine cR_stI (j := 3) lk56_1 (Or.inr ⟨_, rfl, rfl⟩) (by decide) (fun vq25 gq26 kq27 => ?_)
  have gq28 := kq27 0 _ (by decide) (fun e => absurd e (by decide)) g0
  have gq29 := kq27 1 _ (by decide) (fun e => absurd e (by decide)) g1
  have gq30 := kq27 2 _ (by decide) (fun _ => rfl) g2
  refine cR_lift (fun _ _ kk => eE_iconst (v := 0) lk56_2 (by decide) kk) ?_
  refine cR_stI (j := 4) lk56_3 (Or.inl rfl) (by decide) (fun vq31 gq32 kq33 => ?_)
  have gq34 := kq33 0 _ (by decide) (fun e => absurd e (by decide)) gq28
  have gq35 := kq33 1 _ (by decide) (fun e => absurd e (by decide)) gq29
  have gq36 := kq33 2 _ (by decide) (fun e => absurd e (by decide)) gq30
  have gq37 := kq33 3 _ (by decide) (fun _ => rfl) gq26
  exact k_Lead_isReached_7_4_b5_ok hp0 hL hF  F g vq31 σ l0 l1 l2 ((0 : Int32)) ((0 : Int32)) bl0 gq34 gq35 gq36 gq37 gq32 _ h
def k_Lead_isReached_7_4 (F : Nat) (σ : CS) (l0 : Nat) (l1 : Int32) (l2 : Int32) : Option (Int32) := k_Lead_isReached_7_4_b0 F σ l0 l1 l2
theorem k_Lead_isReached_7_4_ok {E : CE} {pF : Nat → List Value → xH → Option (Option Value × xH)} (hp0 : xNPc pF) (hL : lcAll pF) (hF : lcF pF) {d : Nat} {g : CG} {σ : CS} {F : Nat} {l0 : Nat} {l1 : Int32} {l2 : Int32} {res : Int32} (bl0 : cob σ 7 l0) (h : k_Lead_isReached_7_4 F σ l0 l1 l2 = some res) : cCo E true pF (d + 2) 56 [.ref (caa E 7 l0 4), .int l1, .int l2] (some (.int res)) σ g σ :=
  cCo_R kk_56 mo_56 ni_56 xm_56 (Nat.le_of_ble_eq_true rfl) (hp0 56 (by decide) _) (k_Lead_isReached_7_4_b0_ok hp0 hL hF g _ σ l0 l1 l2 bl0 rfl rfl rfl _ h)
/-! k_Lead_mostOf_7_4 (58), depth 3 -/
def k_Lead_mostOf_7_4_b41 (F : Nat) (K5 : CS → Nat → Int32 → Int32 → Int32 → Option (Int32)) (σ : CS) (l0 : Nat) (l1 : Int32) (l2 : Int32) (l3 : Int32) : Option (Int32) :=
  K5 σ l0 l1 l2 (l3 + (1 : Int32))
set_option maxRecDepth 4000 in
theorem k_Lead_mostOf_7_4_b41_ok {E : CE} {pF : Nat → List Value → xH → Option (Option Value × xH)} (hp0 : xNPc pF) (hL : lcAll pF) (hF : lcF pF) {d : Nat} {F : Nat} {K5 : CS → Nat → Int32 → Int32 → Int32 → Option (Int32)} (hK5 : ∀ (g : CG) (lv : xL) (σ : CS) (l0 : Nat) (l1 : Int32) (l2 : Int32) (l3 : Int32), (cob σ 7 l0) → (xg lv 0 = some (.ref (caa E 7 l0 4))) → (xg lv 1 = some (.int l1)) → (xg lv 2 = some (.int l2)) → (xg lv 3 = some (.int l3)) → ∀ res, K5 σ l0 l1 l2 l3 = some res → cR E true pF (d + 2) kT58 7 4 (some FieldType.int) (some (.int res)) σ g σ (5, lv, [])) : ∀ (g : CG) (lv : xL) (σ : CS) (l0 : Nat) (l1 : Int32) (l2 : Int32) (l3 : Int32), (cob σ 7 l0) → (xg lv 0 = some (.ref (caa E 7 l0 4))) → (xg lv 1 = some (.int l1)) → (xg lv 2 = some (.int l2)) → (xg lv 3 = some (.int l3)) → ∀ res, k_Lead_mostOf_7_4_b41 F K5 σ l0 l1 l2 l3 = some res → cR E true pF (d + 2) kT58 7 4 (some FieldType.int) (some (.int res)) σ g σ (41, lv, []) := by
  intro g lv σ l0 l1 l2 l3 bl0 g0 g1 g2 g3 res h
  unfold k_Lead_mostOf_7_4_b41 at h
  refine cR_inc (j := 3) (v := l3 + (1 : Int32)) lk58_41 g3 rfl (by decide) (fun vq1 gq2 kq3 => ?_)
  have gq4 := kq3 0 _ (by decide) (fun e => absurd e (by decide)) g0
  have gq5 := kq3 1 _ (by decide) (fun e => absurd e (by decide)) g1
  have gq6 := kq3 2 _ (by decide) (fun _ => rfl) g2
  refine cR_lift (fun _ _ kk => eE_goto (t := 5) lk58_44 (by decide) kk) ?_
  exact hK5 g vq1 σ l0 l1 l2 (l3 + (1 : Int32)) bl0 gq4 gq5 gq6 gq2 _ h
def k_Lead_mostOf_7_4_b5 (F : Nat)  : Nat → CS → Nat → Int32 → Int32 → Int32 → Option (Int32)
  | 0, _, _, _, _, _ => none
  | n + 1, σ, l0, l1, l2, l3 =>
    let KK := k_Lead_mostOf_7_4_b5 F  n
    if xc2 .ge l3 ((7 : Int32)) = true then (
      some l2
    ) else (
      if xc0 .eq ((l1 >>> (l3 &&& 31)) &&& ((1 : Int32))) = true then (
        k_Lead_mostOf_7_4_b41 F KK σ l0 l1 l2 l3
      ) else (
        (crd σ 7 l0 4 l3).bind fun x9 =>
        if xc2 .le x9 l2 = true then (
          k_Lead_mostOf_7_4_b41 F KK σ l0 l1 l2 l3
        ) else (
          (crd σ 7 l0 4 l3).bind fun x12 =>
          (k_Lead_isReached_7_4 F σ l0 l1 x12).bind fun p14 =>
          if xc0 .eq p14 = true then (
            k_Lead_mostOf_7_4_b41 F KK σ l0 l1 l2 l3
          ) else (
            (crd σ 7 l0 4 l3).bind fun x18 =>
            k_Lead_mostOf_7_4_b41 F KK σ l0 l1 x18 l3
          )
        )
      )
    )
set_option maxRecDepth 4000 in
theorem k_Lead_mostOf_7_4_b5_ok {E : CE} {pF : Nat → List Value → xH → Option (Option Value × xH)} (hp0 : xNPc pF) (hL : lcAll pF) (hF : lcF pF) {d : Nat} {F : Nat}   : ∀ (n : Nat) (g : CG) (lv : xL) (σ : CS) (l0 : Nat) (l1 : Int32) (l2 : Int32) (l3 : Int32), (cob σ 7 l0) → (xg lv 0 = some (.ref (caa E 7 l0 4))) → (xg lv 1 = some (.int l1)) → (xg lv 2 = some (.int l2)) → (xg lv 3 = some (.int l3)) → ∀ res, k_Lead_mostOf_7_4_b5 F  n σ l0 l1 l2 l3 = some res → cR E true pF (d + 2) kT58 7 4 (some FieldType.int) (some (.int res)) σ g σ (5, lv, []) := by
  intro n
  induction n with
  | zero => intro g lv σ l0 l1 l2 l3 bl0 g0 g1 g2 g3 res h; simp [k_Lead_mostOf_7_4_b5] at h
  | succ n hKK =>
    intro g lv σ l0 l1 l2 l3 bl0 g0 g1 g2 g3 res h
    unfold k_Lead_mostOf_7_4_b5 at h
    dsimp only at h
    refine cR_lift (fun _ _ kk => eE_iload_n lk58_5 g3 kk) ?_
    refine cR_lift (fun _ _ kk => eE_bipush (v := 7) lk58_6 (by decide) kk) ?_
    refine cR_icmp (t := 47) lk58_8 (by decide) (fun c7 => ?_) (fun c7 => ?_)
    · rw [if_pos c7] at h
      refine cR_lift (fun _ _ kk => eE_iload_n lk58_47 g2 kk) ?_
      cases h
      exact cR_end lk58_48 rfl rfl rfl
    · rw [if_neg c7] at h
      refine cR_lift (fun _ _ kk => eE_iload_n lk58_11 g1 kk) ?_
      refine cR_lift (fun _ _ kk => eE_iload_n lk58_12 g3 kk) ?_
      refine cR_lift (fun _ _ kk => eE_ishr lk58_13 kk) ?_
      refine cR_lift (fun _ _ kk => eE_iconst (v := 1) lk58_14 (by decide) kk) ?_
      refine cR_lift (fun _ _ kk => eE_iand lk58_15 kk) ?_
      refine cR_if (t := 41) lk58_16 (by decide) (fun c8 => ?_) (fun c8 => ?_)
      · rw [if_pos c8] at h
        exact k_Lead_mostOf_7_4_b41_ok hp0 hL hF hKK g lv σ l0 l1 l2 l3 bl0 g0 g1 g2 g3 _ h
      · rw [if_neg c8] at h
        refine cR_lift (fun _ _ kk => eE_aload_n lk58_19 g0 kk) ?_
        refine cR_lift (fun _ _ kk => eE_iload_n lk58_20 g3 kk) ?_
        obtain ⟨x9, h10, h⟩ := Option.bind_eq_some_iff.mp h
        refine cR_iald (cl := 7) (i := l0) (f := 4) lk58_21 (by decide) rfl bl0 h10 ?_
        refine cR_lift (fun _ _ kk => eE_iload_n lk58_22 g2 kk) ?_
        refine cR_icmp (t := 41) lk58_23 (by decide) (fun c11 => ?_) (fun c11 => ?_)
        · rw [if_pos c11] at h
          exact k_Lead_mostOf_7_4_b41_ok hp0 hL hF hKK g lv σ l0 l1 l2 l3 bl0 g0 g1 g2 g3 _ h
        · rw [if_neg c11] at h
          refine cR_lift (fun _ _ kk => eE_aload_n lk58_26 g0 kk) ?_
          refine cR_lift (fun _ _ kk => eE_iload_n lk58_27 g1 kk) ?_
          refine cR_lift (fun _ _ kk => eE_aload_n lk58_28 g0 kk) ?_
          refine cR_lift (fun _ _ kk => eE_iload_n lk58_29 g3 kk) ?_
          obtain ⟨x12, h13, h⟩ := Option.bind_eq_some_iff.mp h
          refine cR_iald (cl := 7) (i := l0) (f := 4) lk58_30 (by decide) rfl bl0 h13 ?_
          obtain ⟨p14, h15, h⟩ := Option.bind_eq_some_iff.mp h
          refine cR_stat (as := [.ref (caa E 7 l0 4), .int l1, .int x12]) lk58_31 mr_7_64 na_56 rfl rfl (by first | exact Nat.le_of_ble_eq_true rfl | (simp [xcat, cvo_cat, cat_i, cat_j, cat_r]; done)) mm_56 ws_56 (k_Lead_isReached_7_4_ok hp0 hL hF (d := d + 0) bl0 h15) (fun m16 => ?_)
          refine cR_if (t := 41) lk58_34 (by decide) (fun c17 => ?_) (fun c17 => ?_)
          · rw [if_pos c17] at h
            exact k_Lead_mostOf_7_4_b41_ok hp0 hL hF hKK g lv σ l0 l1 l2 l3 bl0 g0 g1 g2 g3 _ h
          · rw [if_neg c17] at h
            refine cR_lift (fun _ _ kk => eE_aload_n lk58_37 g0 kk) ?_
            refine cR_lift (fun _ _ kk => eE_iload_n lk58_38 g3 kk) ?_
            obtain ⟨x18, h19, h⟩ := Option.bind_eq_some_iff.mp h
            refine cR_iald (cl := 7) (i := l0) (f := 4) lk58_39 (by decide) rfl bl0 h19 ?_
            refine cR_stI (j := 2) lk58_40 (Or.inr ⟨_, rfl, rfl⟩) (by decide) (fun vq20 gq21 kq22 => ?_)
            have gq23 := kq22 0 _ (by decide) (fun e => absurd e (by decide)) g0
            have gq24 := kq22 1 _ (by decide) (fun _ => rfl) g1
            have gq25 := kq22 3 _ (by decide) (fun e => absurd e (by decide)) g3
            exact k_Lead_mostOf_7_4_b41_ok hp0 hL hF hKK g vq20 σ l0 l1 x18 l3 bl0 gq23 gq24 gq21 gq25 _ h
def k_Lead_mostOf_7_4_b0 (F : Nat)  (σ : CS) (l0 : Nat) (l1 : Int32) : Option (Int32) :=
  k_Lead_mostOf_7_4_b5 F  F σ l0 l1 ((-2147483648 : Int32)) ((0 : Int32))
set_option maxRecDepth 4000 in
theorem k_Lead_mostOf_7_4_b0_ok {E : CE} {pF : Nat → List Value → xH → Option (Option Value × xH)} (hp0 : xNPc pF) (hL : lcAll pF) (hF : lcF pF) {d : Nat} {F : Nat}   : ∀ (g : CG) (lv : xL) (σ : CS) (l0 : Nat) (l1 : Int32), (cob σ 7 l0) → (xg lv 0 = some (.ref (caa E 7 l0 4))) → (xg lv 1 = some (.int l1)) → ∀ res, k_Lead_mostOf_7_4_b0 F  σ l0 l1 = some res → cR E true pF (d + 2) kT58 7 4 (some FieldType.int) (some (.int res)) σ g σ (0, lv, []) := by
  intro g lv σ l0 l1 bl0 g0 g1 res h
  unfold k_Lead_mostOf_7_4_b0 at h
  refine cR_lift (fun _ _ kk => eE_ldc (v := (-2147483648)) lk58_0 xc_7_63 kk) ?_
  refine cR_stI (j := 2) lk58_2 (Or.inr ⟨_, rfl, rfl⟩) (by decide) (fun vq26 gq27 kq28 => ?_)
  have gq29 := kq28 0 _ (by decide) (fun e => absurd e (by decide)) g0
  have gq30 := kq28 1 _ (by decide) (fun _ => rfl) g1
  refine cR_lift (fun _ _ kk => eE_iconst (v := 0) lk58_3 (by decide) kk) ?_
  refine cR_stI (j := 3) lk58_4 (Or.inr ⟨_, rfl, rfl⟩) (by decide) (fun vq31 gq32 kq33 => ?_)
  have gq34 := kq33 0 _ (by decide) (fun e => absurd e (by decide)) gq29
  have gq35 := kq33 1 _ (by decide) (fun e => absurd e (by decide)) gq30
  have gq36 := kq33 2 _ (by decide) (fun _ => rfl) gq27
  exact k_Lead_mostOf_7_4_b5_ok hp0 hL hF  F g vq31 σ l0 l1 ((-2147483648 : Int32)) ((0 : Int32)) bl0 gq34 gq35 gq36 gq32 _ h
def k_Lead_mostOf_7_4 (F : Nat) (σ : CS) (l0 : Nat) (l1 : Int32) : Option (Int32) := k_Lead_mostOf_7_4_b0 F σ l0 l1
theorem k_Lead_mostOf_7_4_ok {E : CE} {pF : Nat → List Value → xH → Option (Option Value × xH)} (hp0 : xNPc pF) (hL : lcAll pF) (hF : lcF pF) {d : Nat} {g : CG} {σ : CS} {F : Nat} {l0 : Nat} {l1 : Int32} {res : Int32} (bl0 : cob σ 7 l0) (h : k_Lead_mostOf_7_4 F σ l0 l1 = some res) : cCo E true pF (d + 3) 58 [.ref (caa E 7 l0 4), .int l1] (some (.int res)) σ g σ :=
  cCo_R kk_58 mo_58 ni_58 xm_58 (Nat.le_of_ble_eq_true rfl) (hp0 58 (by decide) _) (k_Lead_mostOf_7_4_b0_ok hp0 hL hF g _ σ l0 l1 bl0 rfl rfl _ h)
