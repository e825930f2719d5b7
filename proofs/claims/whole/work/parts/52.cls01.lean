/-! printed by wip/whole/gen_cls.py -/
/-! k_Askings_add (15), depth 2 -/
def k_Askings_add_b40  (σ : CS) (l0 : Nat) (l1 : Int32) (l2 : Int32) (l3 : Int32) (l4 : Int32) (l5 : Int32) : Option ((Int32) × CS) :=
  (cwr σ 4 l0 2 l5 l1).bind fun σ1 =>
  (cwr σ1 4 l0 2 (l5 + ((1 : Int32))) l2).bind fun σ3 =>
  (cwr σ3 4 l0 2 (l5 + ((2 : Int32))) (cI σ3 4 l0 1 0)).bind fun σ5 =>
  (cwr σ5 4 l0 2 (l5 + ((3 : Int32))) ((-1 : Int32))).bind fun σ7 =>
  (cwr σ7 4 l0 2 (l5 + ((4 : Int32))) ((0 : Int32))).bind fun σ9 =>
  (cwr σ9 4 l0 2 (l5 + ((5 : Int32))) ((-1 : Int32))).bind fun σ11 =>
  (cwr σ11 4 l0 2 (l5 + ((6 : Int32))) (cI σ11 4 l0 4 0)).bind fun σ13 =>
  (cwr σ13 4 l0 2 (l5 + ((7 : Int32))) l3).bind fun σ15 =>
  (cwr σ15 4 l0 2 (l5 + ((8 : Int32))) l4).bind fun σ17 =>
  (cwr σ17 4 l0 2 (l5 + ((9 : Int32))) ((0 : Int32))).bind fun σ19 =>
  (some (csI σ19 4 l0 1 0 ((cI σ19 4 l0 1 0) + ((1 : Int32))))).bind fun σ21 =>
  (some (csI σ21 4 l0 0 0 ((cI σ21 4 l0 0 0) + ((1 : Int32))))).bind fun σ23 =>
  some ((cI σ23 4 l0 0 0) - ((1 : Int32)), σ23)
set_option maxRecDepth 4000 in
theorem k_Askings_add_b40_ok {E : CE} {pF : Nat → List Value → xH → Option (Option Value × xH)} (hp0 : xNPc pF) (hL : lcAll E pF) (hF : lcF pF) {d : Nat}   : ∀ (g : CG) (lv : xL) (σ : CS) (l0 : Nat) (l1 : Int32) (l2 : Int32) (l3 : Int32) (l4 : Int32) (l5 : Int32), (cob σ 4 l0) → (xg lv 0 = some (.ref (coa E 4 l0))) → (xg lv 1 = some (.int l1)) → (xg lv 2 = some (.int l2)) → (xg lv 3 = some (.int l3)) → (xg lv 4 = some (.int l4)) → (xg lv 5 = some (.int l5)) → ∀ res, k_Askings_add_b40  σ l0 l1 l2 l3 l4 l5 = some res → cR E (cQx [4]) pF (d + 1) kT15 4 6 (some FieldType.int) (some (.int res.1)) res.2 g σ (40, lv, []) := by
  intro g lv σ l0 l1 l2 l3 l4 l5 bl0 g0 g1 g2 g3 g4 g5 res h
  unfold k_Askings_add_b40 at h
  refine cR_lift (fun _ _ kk => eE_aload_n lk15_40 g0 kk) ?_
  refine cR_getA lk15_41 rf_4_11 (by decide) bl0 ?_
  refine cR_lift (fun _ _ kk => eE_iload lk15_44 g5 kk) ?_
  refine cR_lift (fun _ _ kk => eE_iload_n lk15_46 g1 kk) ?_
  obtain ⟨σ1, h2, h⟩ := Option.bind_eq_some_iff.mp h
  refine cR_iast (cl := 4) (i := l0) (f := 2) lk15_47 (by decide) rfl bl0 h2 ?_
  refine cR_lift (fun _ _ kk => eE_aload_n lk15_48 g0 kk) ?_
  refine cR_getA lk15_49 rf_4_11 (by decide) (cob_any rfl bl0) ?_
  refine cR_lift (fun _ _ kk => eE_iload lk15_52 g5 kk) ?_
  refine cR_lift (fun _ _ kk => eE_iconst (v := 1) lk15_54 (by decide) kk) ?_
  refine cR_lift (fun _ _ kk => eE_iadd lk15_55 kk) ?_
  refine cR_lift (fun _ _ kk => eE_iload_n lk15_56 g2 kk) ?_
  obtain ⟨σ3, h4, h⟩ := Option.bind_eq_some_iff.mp h
  refine cR_iast (cl := 4) (i := l0) (f := 2) lk15_57 (by decide) rfl (cob_any rfl bl0) h4 ?_
  refine cR_lift (fun _ _ kk => eE_aload_n lk15_58 g0 kk) ?_
  refine cR_getA lk15_59 rf_4_11 (by decide) (cob_any rfl bl0) ?_
  refine cR_lift (fun _ _ kk => eE_iload lk15_62 g5 kk) ?_
  refine cR_lift (fun _ _ kk => eE_iconst (v := 2) lk15_64 (by decide) kk) ?_
  refine cR_lift (fun _ _ kk => eE_iadd lk15_65 kk) ?_
  refine cR_lift (fun _ _ kk => eE_aload_n lk15_66 g0 kk) ?_
  refine cR_getI lk15_67 rf_4_29 rfl (cob_any rfl bl0) ?_
  obtain ⟨σ5, h6, h⟩ := Option.bind_eq_some_iff.mp h
  refine cR_iast (cl := 4) (i := l0) (f := 2) lk15_70 (by decide) rfl (cob_any rfl bl0) h6 ?_
  refine cR_lift (fun _ _ kk => eE_aload_n lk15_71 g0 kk) ?_
  refine cR_getA lk15_72 rf_4_11 (by decide) (cob_any rfl bl0) ?_
  refine cR_lift (fun _ _ kk => eE_iload lk15_75 g5 kk) ?_
  refine cR_lift (fun _ _ kk => eE_iconst (v := 3) lk15_77 (by decide) kk) ?_
  refine cR_lift (fun _ _ kk => eE_iadd lk15_78 kk) ?_
  refine cR_lift (fun _ _ kk => eE_iconst (v := (-1)) lk15_79 (by decide) kk) ?_
  obtain ⟨σ7, h8, h⟩ := Option.bind_eq_some_iff.mp h
  refine cR_iast (cl := 4) (i := l0) (f := 2) lk15_80 (by decide) rfl (cob_any rfl bl0) h8 ?_
  refine cR_lift (fun _ _ kk => eE_aload_n lk15_81 g0 kk) ?_
  refine cR_getA lk15_82 rf_4_11 (by decide) (cob_any rfl bl0) ?_
  refine cR_lift (fun _ _ kk => eE_iload lk15_85 g5 kk) ?_
  refine cR_lift (fun _ _ kk => eE_iconst (v := 4) lk15_87 (by decide) kk) ?_
  refine cR_lift (fun _ _ kk => eE_iadd lk15_88 kk) ?_
  refine cR_lift (fun _ _ kk => eE_iconst (v := 0) lk15_89 (by decide) kk) ?_
  obtain ⟨σ9, h10, h⟩ := Option.bind_eq_some_iff.mp h
  refine cR_iast (cl := 4) (i := l0) (f := 2) lk15_90 (by decide) rfl (cob_any rfl bl0) h10 ?_
  refine cR_lift (fun _ _ kk => eE_aload_n lk15_91 g0 kk) ?_
  refine cR_getA lk15_92 rf_4_11 (by decide) (cob_any rfl bl0) ?_
  refine cR_lift (fun _ _ kk => eE_iload lk15_95 g5 kk) ?_
  refine cR_lift (fun _ _ kk => eE_iconst (v := 5) lk15_97 (by decide) kk) ?_
  refine cR_lift (fun _ _ kk => eE_iadd lk15_98 kk) ?_
  refine cR_lift (fun _ _ kk => eE_iconst (v := (-1)) lk15_99 (by decide) kk) ?_
  obtain ⟨σ11, h12, h⟩ := Option.bind_eq_some_iff.mp h
  refine cR_iast (cl := 4) (i := l0) (f := 2) lk15_100 (by decide) rfl (cob_any rfl bl0) h12 ?_
  refine cR_lift (fun _ _ kk => eE_aload_n lk15_101 g0 kk) ?_
  refine cR_getA lk15_102 rf_4_11 (by decide) (cob_any rfl bl0) ?_
  refine cR_lift (fun _ _ kk => eE_iload lk15_105 g5 kk) ?_
  refine cR_lift (fun _ _ kk => eE_bipush (v := 6) lk15_107 (by decide) kk) ?_
  refine cR_lift (fun _ _ kk => eE_iadd lk15_109 kk) ?_
  refine cR_lift (fun _ _ kk => eE_aload_n lk15_110 g0 kk) ?_
  refine cR_getI lk15_111 rf_4_32 rfl (cob_any rfl bl0) ?_
  obtain ⟨σ13, h14, h⟩ := Option.bind_eq_some_iff.mp h
  refine cR_iast (cl := 4) (i := l0) (f := 2) lk15_114 (by decide) rfl (cob_any rfl bl0) h14 ?_
  refine cR_lift (fun _ _ kk => eE_aload_n lk15_115 g0 kk) ?_
  refine cR_getA lk15_116 rf_4_11 (by decide) (cob_any rfl bl0) ?_
  refine cR_lift (fun _ _ kk => eE_iload lk15_119 g5 kk) ?_
  refine cR_lift (fun _ _ kk => eE_bipush (v := 7) lk15_121 (by decide) kk) ?_
  refine cR_lift (fun _ _ kk => eE_iadd lk15_123 kk) ?_
  refine cR_lift (fun _ _ kk => eE_iload_n lk15_124 g3 kk) ?_
  obtain ⟨σ15, h16, h⟩ := Option.bind_eq_some_iff.mp h
  refine cR_iast (cl := 4) (i := l0) (f := 2) lk15_125 (by decide) rfl (cob_any rfl bl0) h16 ?_
  refine cR_lift (fun _ _ kk => eE_aload_n lk15_126 g0 kk) ?_
  refine cR_getA lk15_127 rf_4_11 (by decide) (cob_any rfl bl0) ?_
  refine cR_lift (fun _ _ kk => eE_iload lk15_130 g5 kk) ?_
  refine cR_lift (fun _ _ kk => eE_bipush (v := 8) lk15_132 (by decide) kk) ?_
  refine cR_lift (fun _ _ kk => eE_iadd lk15_134 kk) ?_
  refine cR_lift (fun _ _ kk => eE_iload lk15_135 g4 kk) ?_
  obtain ⟨σ17, h18, h⟩ := Option.bind_eq_some_iff.mp h
  refine cR_iast (cl := 4) (i := l0) (f := 2) lk15_137 (by decide) rfl (cob_any rfl bl0) h18 ?_
  refine cR_lift (fun _ _ kk => eE_aload_n lk15_138 g0 kk) ?_
  refine cR_getA lk15_139 rf_4_11 (by decide) (cob_any rfl bl0) ?_
  refine cR_lift (fun _ _ kk => eE_iload lk15_142 g5 kk) ?_
  refine cR_lift (fun _ _ kk => eE_bipush (v := 9) lk15_144 (by decide) kk) ?_
  refine cR_lift (fun _ _ kk => eE_iadd lk15_146 kk) ?_
  refine cR_lift (fun _ _ kk => eE_iconst (v := 0) lk15_147 (by decide) kk) ?_
  obtain ⟨σ19, h20, h⟩ := Option.bind_eq_some_iff.mp h
  refine cR_iast (cl := 4) (i := l0) (f := 2) lk15_148 (by decide) rfl (cob_any rfl bl0) h20 ?_
  refine cR_lift (fun _ _ kk => eE_aload_n lk15_149 g0 kk) ?_
  refine cR_lift (fun _ _ kk => eE_dup lk15_150 rfl kk) ?_
  refine cR_getI lk15_151 rf_4_29 rfl (cob_any rfl bl0) ?_
  refine cR_lift (fun _ _ kk => eE_iconst (v := 1) lk15_154 (by decide) kk) ?_
  refine cR_lift (fun _ _ kk => eE_iadd lk15_155 kk) ?_
  obtain ⟨σ21, h22, h⟩ := Option.bind_eq_some_iff.mp h
  refine cR_putI lk15_156 rf_4_29 rfl (cob_any rfl bl0) pf_4_1 rfl h22 ?_
  refine cR_lift (fun _ _ kk => eE_aload_n lk15_159 g0 kk) ?_
  refine cR_lift (fun _ _ kk => eE_dup lk15_160 rfl kk) ?_
  refine cR_getI lk15_161 rf_4_19 rfl (cob_any rfl bl0) ?_
  refine cR_lift (fun _ _ kk => eE_iconst (v := 1) lk15_164 (by decide) kk) ?_
  refine cR_lift (fun _ _ kk => eE_iadd lk15_165 kk) ?_
  obtain ⟨σ23, h24, h⟩ := Option.bind_eq_some_iff.mp h
  refine cR_putI lk15_166 rf_4_19 rfl (cob_any rfl bl0) pf_4_0 rfl h24 ?_
  refine cR_lift (fun _ _ kk => eE_aload_n lk15_169 g0 kk) ?_
  refine cR_getI lk15_170 rf_4_19 rfl (cob_any rfl bl0) ?_
  refine cR_lift (fun _ _ kk => eE_iconst (v := 1) lk15_173 (by decide) kk) ?_
  refine cR_lift (fun _ _ kk => eE_isub lk15_174 kk) ?_
  cases h
  exact cR_end lk15_175 rfl rfl rfl
def k_Askings_add_b0  (σ : CS) (l0 : Nat) (l1 : Int32) (l2 : Int32) (l3 : Int32) (l4 : Int32) : Option ((Int32) × CS) :=
  if xc2 .ge (Int32.ofNat (cal σ 4 l0 2)) (((cI σ 4 l0 0 0) * ((10 : Int32))) + ((10 : Int32))) = true then (
    k_Askings_add_b40  σ l0 l1 l2 l3 l4 ((cI σ 4 l0 0 0) * ((10 : Int32)))
  ) else (
    (cext σ 4 l0 2 (((2 : Int32)) * (((cI σ 4 l0 0 0) * ((10 : Int32))) + ((10 : Int32))))).bind fun σ34 =>
    k_Askings_add_b40  σ34 l0 l1 l2 l3 l4 ((cI σ 4 l0 0 0) * ((10 : Int32)))
  )
set_option maxRecDepth 4000 in
theorem k_Askings_add_b0_ok {E : CE} {pF : Nat → List Value → xH → Option (Option Value × xH)} (hp0 : xNPc pF) (hL : lcAll E pF) (hF : lcF pF) {d : Nat}   : ∀ (g : CG) (lv : xL) (σ : CS) (l0 : Nat) (l1 : Int32) (l2 : Int32) (l3 : Int32) (l4 : Int32), (cob σ 4 l0) → (xg lv 0 = some (.ref (coa E 4 l0))) → (xg lv 1 = some (.int l1)) → (xg lv 2 = some (.int l2)) → (xg lv 3 = some (.int l3)) → (xg lv 4 = some (.int l4)) → ∀ res, k_Askings_add_b0  σ l0 l1 l2 l3 l4 = some res → cR E (cQx [4]) pF (d + 1) kT15 4 6 (some FieldType.int) (some (.int res.1)) res.2 g σ (0, lv, []) := by
  intro g lv σ l0 l1 l2 l3 l4 bl0 g0 g1 g2 g3 g4 res h
  unfold k_Askings_add_b0 at h
  refine cR_lift (fun _ _ kk => eE_aload_n lk15_0 g0 kk) ?_
  refine cR_getI lk15_1 rf_4_19 rfl bl0 ?_
  refine cR_lift (fun _ _ kk => eE_bipush (v := 10) lk15_4 (by decide) kk) ?_
  refine cR_lift (fun _ _ kk => eE_imul lk15_6 kk) ?_
  refine cR_stI (j := 5) lk15_7 (Or.inl rfl) (by decide) (fun vq25 gq26 kq27 => ?_)
  have gq28 := kq27 0 _ (by decide) (fun e => absurd e (by decide)) g0
  have gq29 := kq27 1 _ (by decide) (fun e => absurd e (by decide)) g1
  have gq30 := kq27 2 _ (by decide) (fun e => absurd e (by decide)) g2
  have gq31 := kq27 3 _ (by decide) (fun e => absurd e (by decide)) g3
  have gq32 := kq27 4 _ (by decide) (fun _ => rfl) g4
  refine cR_lift (fun _ _ kk => eE_aload_n lk15_9 gq28 kk) ?_
  refine cR_getA lk15_10 rf_4_11 (by decide) bl0 ?_
  refine cR_alen (cl := 4) (i := l0) (f := 2) lk15_13 (by decide) (by decide) bl0 ?_
  refine cR_lift (fun _ _ kk => eE_iload lk15_14 gq26 kk) ?_
  refine cR_lift (fun _ _ kk => eE_bipush (v := 10) lk15_16 (by decide) kk) ?_
  refine cR_lift (fun _ _ kk => eE_iadd lk15_18 kk) ?_
  refine cR_icmp (t := 40) lk15_19 (by decide) (fun c33 => ?_) (fun c33 => ?_)
  · rw [if_pos c33] at h
    exact k_Askings_add_b40_ok hp0 hL hF  g vq25 σ l0 l1 l2 l3 l4 ((cI σ 4 l0 0 0) * ((10 : Int32))) bl0 gq28 gq29 gq30 gq31 gq32 gq26 _ h
  · rw [if_neg c33] at h
    refine cR_lift (fun _ _ kk => eE_aload_n lk15_22 gq28 kk) ?_
    refine cR_lift (fun _ _ kk => eE_aload_n lk15_23 gq28 kk) ?_
    refine cR_getA lk15_24 rf_4_11 (by decide) bl0 ?_
    refine cR_lift (fun _ _ kk => eE_iconst (v := 2) lk15_27 (by decide) kk) ?_
    refine cR_lift (fun _ _ kk => eE_iload lk15_28 gq26 kk) ?_
    refine cR_lift (fun _ _ kk => eE_bipush (v := 10) lk15_30 (by decide) kk) ?_
    refine cR_lift (fun _ _ kk => eE_iadd lk15_32 kk) ?_
    refine cR_lift (fun _ _ kk => eE_imul lk15_33 kk) ?_
    obtain ⟨σ34, h35, h⟩ := Option.bind_eq_some_iff.mp h
    refine cR_cpyG390 (d := d + 0) (cl := 4) (i := l0) (f := 2) lk15_34 lk15_37 mr_4_23 (by first | exact Nat.le_of_ble_eq_true rfl | (simp [xcat, cvo_cat, cat_i, cat_j, cat_r]; done)) (hp0 390 (by decide)) rfl rf_4_11 rfl bl0 pf_4_2 h35 (by decide) (fun g_36 g_36e => ?_)
    exact k_Askings_add_b40_ok hp0 hL hF  g_36 vq25 σ34 l0 l1 l2 l3 l4 ((cI σ 4 l0 0 0) * ((10 : Int32))) (cob_any rfl bl0) gq28 gq29 gq30 gq31 gq32 gq26 _ h
def k_Askings_add (σ : CS) (l0 : Nat) (l1 : Int32) (l2 : Int32) (l3 : Int32) (l4 : Int32) : Option ((Int32) × CS) := k_Askings_add_b0 σ l0 l1 l2 l3 l4
theorem k_Askings_add_ok {E : CE} {pF : Nat → List Value → xH → Option (Option Value × xH)} (hp0 : xNPc pF) (hL : lcAll E pF) (hF : lcF pF) {d : Nat} {g : CG} {σ : CS} {l0 : Nat} {l1 : Int32} {l2 : Int32} {l3 : Int32} {l4 : Int32} {res : (Int32) × CS} (bl0 : cob σ 4 l0) (h : k_Askings_add σ l0 l1 l2 l3 l4 = some res) : cCo E (cQx [4]) pF (d + 2) 15 [.ref (coa E 4 l0), .int l1, .int l2, .int l3, .int l4] (some (.int res.1)) res.2 g σ :=
  cCo_R kk_15 mo_15 ni_15 xm_15 (Nat.le_of_ble_eq_true rfl) (hp0 15 (by decide) _) (k_Askings_add_b0_ok hp0 hL hF g _ σ l0 l1 l2 l3 l4 bl0 rfl rfl rfl rfl rfl _ h)
/-! k_Askings_setTold (18), depth 1 -/
def k_Askings_setTold_b0  (σ : CS) (l0 : Nat) (l1 : Int32) (l2 : Int32) (l3 : Int32) : Option (CS) :=
  (cwr σ 4 l0 2 ((l1 * ((10 : Int32))) + ((3 : Int32))) (cI σ 4 l0 1 0)).bind fun σ7 =>
  (cwr σ7 4 l0 2 ((l1 * ((10 : Int32))) + ((4 : Int32))) l2).bind fun σ9 =>
  (cwr σ9 4 l0 2 ((l1 * ((10 : Int32))) + ((5 : Int32))) l3).bind fun σ11 =>
  (some (csI σ11 4 l0 1 0 ((cI σ11 4 l0 1 0) + ((1 : Int32))))).bind fun σ13 =>
  some σ13
set_option maxRecDepth 4000 in
theorem k_Askings_setTold_b0_ok {E : CE} {pF : Nat → List Value → xH → Option (Option Value × xH)} (hp0 : xNPc pF) (hL : lcAll E pF) (hF : lcF pF) {d : Nat}   : ∀ (g : CG) (lv : xL) (σ : CS) (l0 : Nat) (l1 : Int32) (l2 : Int32) (l3 : Int32), (cob σ 4 l0) → (xg lv 0 = some (.ref (coa E 4 l0))) → (xg lv 1 = some (.int l1)) → (xg lv 2 = some (.int l2)) → (xg lv 3 = some (.int l3)) → ∀ res, k_Askings_setTold_b0  σ l0 l1 l2 l3 = some res → cR E cQ1 pF (d + 0) kT18 4 5 none none res g σ (0, lv, []) := by
  intro g lv σ l0 l1 l2 l3 bl0 g0 g1 g2 g3 res h
  unfold k_Askings_setTold_b0 at h
  refine cR_lift (fun _ _ kk => eE_iload_n lk18_0 g1 kk) ?_
  refine cR_lift (fun _ _ kk => eE_bipush (v := 10) lk18_1 (by decide) kk) ?_
  refine cR_lift (fun _ _ kk => eE_imul lk18_3 kk) ?_
  refine cR_stI (j := 4) lk18_4 (Or.inl rfl) (by decide) (fun vq1 gq2 kq3 => ?_)
  have gq4 := kq3 0 _ (by decide) (fun e => absurd e (by decide)) g0
  have gq5 := kq3 2 _ (by decide) (fun e => absurd e (by decide)) g2
  have gq6 := kq3 3 _ (by decide) (fun _ => rfl) g3
  refine cR_lift (fun _ _ kk => eE_aload_n lk18_6 gq4 kk) ?_
  refine cR_getA lk18_7 rf_4_11 (by decide) bl0 ?_
  refine cR_lift (fun _ _ kk => eE_iload lk18_10 gq2 kk) ?_
  refine cR_lift (fun _ _ kk => eE_iconst (v := 3) lk18_12 (by decide) kk) ?_
  refine cR_lift (fun _ _ kk => eE_iadd lk18_13 kk) ?_
  refine cR_lift (fun _ _ kk => eE_aload_n lk18_14 gq4 kk) ?_
  refine cR_getI lk18_15 rf_4_29 rfl bl0 ?_
  obtain ⟨σ7, h8, h⟩ := Option.bind_eq_some_iff.mp h
  refine cR_iast (cl := 4) (i := l0) (f := 2) lk18_18 (by decide) rfl bl0 h8 ?_
  refine cR_lift (fun _ _ kk => eE_aload_n lk18_19 gq4 kk) ?_
  refine cR_getA lk18_20 rf_4_11 (by decide) (cob_any rfl bl0) ?_
  refine cR_lift (fun _ _ kk => eE_iload lk18_23 gq2 kk) ?_
  refine cR_lift (fun _ _ kk => eE_iconst (v := 4) lk18_25 (by decide) kk) ?_
  refine cR_lift (fun _ _ kk => eE_iadd lk18_26 kk) ?_
  refine cR_lift (fun _ _ kk => eE_iload_n lk18_27 gq5 kk) ?_
  obtain ⟨σ9, h10, h⟩ := Option.bind_eq_some_iff.mp h
  refine cR_iast (cl := 4) (i := l0) (f := 2) lk18_28 (by decide) rfl (cob_any rfl bl0) h10 ?_
  refine cR_lift (fun _ _ kk => eE_aload_n lk18_29 gq4 kk) ?_
  refine cR_getA lk18_30 rf_4_11 (by decide) (cob_any rfl bl0) ?_
  refine cR_lift (fun _ _ kk => eE_iload lk18_33 gq2 kk) ?_
  refine cR_lift (fun _ _ kk => eE_iconst (v := 5) lk18_35 (by decide) kk) ?_
  refine cR_lift (fun _ _ kk => eE_iadd lk18_36 kk) ?_
  refine cR_lift (fun _ _ kk => eE_iload_n lk18_37 gq6 kk) ?_
  obtain ⟨σ11, h12, h⟩ := Option.bind_eq_some_iff.mp h
  refine cR_iast (cl := 4) (i := l0) (f := 2) lk18_38 (by decide) rfl (cob_any rfl bl0) h12 ?_
  refine cR_lift (fun _ _ kk => eE_aload_n lk18_39 gq4 kk) ?_
  refine cR_lift (fun _ _ kk => eE_dup lk18_40 rfl kk) ?_
  refine cR_getI lk18_41 rf_4_29 rfl (cob_any rfl bl0) ?_
  refine cR_lift (fun _ _ kk => eE_iconst (v := 1) lk18_44 (by decide) kk) ?_
  refine cR_lift (fun _ _ kk => eE_iadd lk18_45 kk) ?_
  obtain ⟨σ13, h14, h⟩ := Option.bind_eq_some_iff.mp h
  refine cR_putI lk18_46 rf_4_29 rfl (cob_any rfl bl0) pf_4_1 rfl h14 ?_
  cases h
  exact cR_end lk18_49 rfl rfl rfl
def k_Askings_setTold (σ : CS) (l0 : Nat) (l1 : Int32) (l2 : Int32) (l3 : Int32) : Option (CS) := k_Askings_setTold_b0 σ l0 l1 l2 l3
theorem k_Askings_setTold_ok {E : CE} {pF : Nat → List Value → xH → Option (Option Value × xH)} (hp0 : xNPc pF) (hL : lcAll E pF) (hF : lcF pF) {d : Nat} {g : CG} {σ : CS} {l0 : Nat} {l1 : Int32} {l2 : Int32} {l3 : Int32} {res : CS} (bl0 : cob σ 4 l0) (h : k_Askings_setTold σ l0 l1 l2 l3 = some res) : cCo E cQ1 pF (d + 1) 18 [.ref (coa E 4 l0), .int l1, .int l2, .int l3] none res g σ :=
  cCo_R kk_18 mo_18 ni_18 xm_18 (Nat.le_of_ble_eq_true rfl) (hp0 18 (by decide) _) (k_Askings_setTold_b0_ok hp0 hL hF g _ σ l0 l1 l2 l3 bl0 rfl rfl rfl rfl _ h)
/-! k_Askings_tell (19), depth 1 -/
def k_Askings_tell_b27  (σ : CS) (s0 : Int32) : Option (Int32) :=
  some s0
set_option maxRecDepth 4000 in
theorem k_Askings_tell_b27_ok {E : CE} {pF : Nat → List Value → xH → Option (Option Value × xH)} (hp0 : xNPc pF) (hL : lcAll E pF) (hF : lcF pF) {d : Nat}   : ∀ (g : CG) (lv : xL) (σ : CS) (s0 : Int32), ∀ res, k_Askings_tell_b27  σ s0 = some res → cR E cQ1 pF (d + 0) kT19 4 3 (some FieldType.int) (some (.int res)) σ g σ (27, lv, [.int s0]) := by
  intro g lv σ s0 res h
  unfold k_Askings_tell_b27 at h
  cases h
  exact cR_end lk19_27 rfl rfl rfl
def k_Askings_tell_b12  (σ : CS) : Option (Int32) :=
  k_Askings_tell_b27  σ ((0 : Int32))
set_option maxRecDepth 4000 in
theorem k_Askings_tell_b12_ok {E : CE} {pF : Nat → List Value → xH → Option (Option Value × xH)} (hp0 : xNPc pF) (hL : lcAll E pF) (hF : lcF pF) {d : Nat}   : ∀ (g : CG) (lv : xL) (σ : CS), ∀ res, k_Askings_tell_b12  σ = some res → cR E cQ1 pF (d + 0) kT19 4 3 (some FieldType.int) (some (.int res)) σ g σ (12, lv, []) := by
  intro g lv σ res h
  unfold k_Askings_tell_b12 at h
  refine cR_lift (fun _ _ kk => eE_iconst (v := 0) lk19_12 (by decide) kk) ?_
  refine cR_lift (fun _ _ kk => eE_goto (t := 27) lk19_13 (by decide) kk) ?_
  exact k_Askings_tell_b27_ok hp0 hL hF  g lv σ ((0 : Int32))  _ h
def k_Askings_tell_b0  (σ : CS) (l0 : Nat) (l1 : Int32) (l2 : Int32) : Option (Int32) :=
  if xc0 .lt l1 = true then (
    k_Askings_tell_b12  σ
  ) else (
    if xc2 .lt l1 (cI σ 4 l0 0 0) = true then (
      (crd σ 4 l0 2 ((l1 * ((10 : Int32))) + l2)).bind fun x3 =>
      k_Askings_tell_b27  σ x3
    ) else (
      k_Askings_tell_b12  σ
    )
  )
set_option maxRecDepth 4000 in
theorem k_Askings_tell_b0_ok {E : CE} {pF : Nat → List Value → xH → Option (Option Value × xH)} (hp0 : xNPc pF) (hL : lcAll E pF) (hF : lcF pF) {d : Nat}   : ∀ (g : CG) (lv : xL) (σ : CS) (l0 : Nat) (l1 : Int32) (l2 : Int32), (cob σ 4 l0) → (xg lv 0 = some (.ref (coa E 4 l0))) → (xg lv 1 = some (.int l1)) → (xg lv 2 = some (.int l2)) → ∀ res, k_Askings_tell_b0  σ l0 l1 l2 = some res → cR E cQ1 pF (d + 0) kT19 4 3 (some FieldType.int) (some (.int res)) σ g σ (0, lv, []) := by
  intro g lv σ l0 l1 l2 bl0 g0 g1 g2 res h
  unfold k_Askings_tell_b0 at h
  refine cR_lift (fun _ _ kk => eE_iload_n lk19_0 g1 kk) ?_
  refine cR_if (t := 12) lk19_1 (by decide) (fun c1 => ?_) (fun c1 => ?_)
  · rw [if_pos c1] at h
    exact k_Askings_tell_b12_ok hp0 hL hF  g lv σ  _ h
  · rw [if_neg c1] at h
    refine cR_lift (fun _ _ kk => eE_iload_n lk19_4 g1 kk) ?_
    refine cR_lift (fun _ _ kk => eE_aload_n lk19_5 g0 kk) ?_
    refine cR_getI lk19_6 rf_4_19 rfl bl0 ?_
    refine cR_icmp (t := 16) lk19_9 (by decide) (fun c2 => ?_) (fun c2 => ?_)
    · rw [if_pos c2] at h
      refine cR_lift (fun _ _ kk => eE_aload_n lk19_16 g0 kk) ?_
      refine cR_getA lk19_17 rf_4_11 (by decide) bl0 ?_
      refine cR_lift (fun _ _ kk => eE_iload_n lk19_20 g1 kk) ?_
      refine cR_lift (fun _ _ kk => eE_bipush (v := 10) lk19_21 (by decide) kk) ?_
      refine cR_lift (fun _ _ kk => eE_imul lk19_23 kk) ?_
      refine cR_lift (fun _ _ kk => eE_iload_n lk19_24 g2 kk) ?_
      refine cR_lift (fun _ _ kk => eE_iadd lk19_25 kk) ?_
      obtain ⟨x3, h4, h⟩ := Option.bind_eq_some_iff.mp h
      refine cR_iald (cl := 4) (i := l0) (f := 2) lk19_26 (by decide) rfl bl0 h4 ?_
      exact k_Askings_tell_b27_ok hp0 hL hF  g lv σ x3  _ h
    · rw [if_neg c2] at h
      exact k_Askings_tell_b12_ok hp0 hL hF  g lv σ  _ h
def k_Askings_tell (σ : CS) (l0 : Nat) (l1 : Int32) (l2 : Int32) : Option (Int32) := k_Askings_tell_b0 σ l0 l1 l2
theorem k_Askings_tell_ok {E : CE} {pF : Nat → List Value → xH → Option (Option Value × xH)} (hp0 : xNPc pF) (hL : lcAll E pF) (hF : lcF pF) {d : Nat} {g : CG} {σ : CS} {l0 : Nat} {l1 : Int32} {l2 : Int32} {res : Int32} (bl0 : cob σ 4 l0) (h : k_Askings_tell σ l0 l1 l2 = some res) : cCo E cQ1 pF (d + 1) 19 [.ref (coa E 4 l0), .int l1, .int l2] (some (.int res)) σ g σ :=
  cCo_R kk_19 mo_19 ni_19 xm_19 (Nat.le_of_ble_eq_true rfl) (hp0 19 (by decide) _) (k_Askings_tell_b0_ok hp0 hL hF g _ σ l0 l1 l2 bl0 rfl rfl rfl _ h)
/-! k_World_hush (194), depth 1 -/
def k_World_hush_b0  (σ : CS) (l0 : Nat) (l1 : Int32) : Option (CS) :=
  (cwr σ 14 l0 10 l1 ((-1 : Int32))).bind fun σ1 =>
  some σ1
set_option maxRecDepth 4000 in
theorem k_World_hush_b0_ok {E : CE} {pF : Nat → List Value → xH → Option (Option Value × xH)} (hp0 : xNPc pF) (hL : lcAll E pF) (hF : lcF pF) {d : Nat}   : ∀ (g : CG) (lv : xL) (σ : CS) (l0 : Nat) (l1 : Int32), (cob σ 14 l0) → (xg lv 0 = some (.ref (coa E 14 l0))) → (xg lv 1 = some (.int l1)) → ∀ res, k_World_hush_b0  σ l0 l1 = some res → cR E cQ1 pF (d + 0) kT194 14 2 none none res g σ (0, lv, []) := by
  intro g lv σ l0 l1 bl0 g0 g1 res h
  unfold k_World_hush_b0 at h
  refine cR_lift (fun _ _ kk => eE_aload_n lk194_0 g0 kk) ?_
  refine cR_getA lk194_1 rf_14_9 (by decide) bl0 ?_
  refine cR_lift (fun _ _ kk => eE_iload_n lk194_4 g1 kk) ?_
  refine cR_lift (fun _ _ kk => eE_iconst (v := (-1)) lk194_5 (by decide) kk) ?_
  obtain ⟨σ1, h2, h⟩ := Option.bind_eq_some_iff.mp h
  refine cR_iast (cl := 14) (i := l0) (f := 10) lk194_6 (by decide) rfl bl0 h2 ?_
  cases h
  exact cR_end lk194_7 rfl rfl rfl
def k_World_hush (σ : CS) (l0 : Nat) (l1 : Int32) : Option (CS) := k_World_hush_b0 σ l0 l1
theorem k_World_hush_ok {E : CE} {pF : Nat → List Value → xH → Option (Option Value × xH)} (hp0 : xNPc pF) (hL : lcAll E pF) (hF : lcF pF) {d : Nat} {g : CG} {σ : CS} {l0 : Nat} {l1 : Int32} {res : CS} (bl0 : cob σ 14 l0) (h : k_World_hush σ l0 l1 = some res) : cCo E cQ1 pF (d + 1) 194 [.ref (coa E 14 l0), .int l1] none res g σ :=
  cCo_R kk_194 mo_194 ni_194 xm_194 (Nat.le_of_ble_eq_true rfl) (hp0 194 (by decide) _) (k_World_hush_b0_ok hp0 hL hF g _ σ l0 l1 bl0 rfl rfl _ h)
/-! k_Client_beTold (20), depth 2 -/
def k_Client_beTold_b0  (σ : CS) (l0 : Nat) (l1 : Int32) (l2 : Int32) : Option (CS) :=
  (cputZ σ 5 l0 3 ((0 : Int32))).bind fun σ1 =>
  (cputZ σ1 5 l0 10 ((0 : Int32))).bind fun σ3 =>
  (cputZ σ3 5 l0 11 ((0 : Int32))).bind fun σ5 =>
  (k_World_hush σ5 0 (cI σ5 5 l0 0 0)).bind fun p7 =>
  (k_Askings_setTold p7 0 (cI p7 5 l0 9 0) l1 l2).bind fun p10 =>
  some p10
set_option maxRecDepth 4000 in
theorem k_Client_beTold_b0_ok {E : CE} {pF : Nat → List Value → xH → Option (Option Value × xH)} (hp0 : xNPc pF) (hL : lcAll E pF) (hF : lcF pF) {d : Nat}   : ∀ (g : CG) (lv : xL) (σ : CS) (l0 : Nat) (l1 : Int32) (l2 : Int32), (cob σ 5 l0) → (xg lv 0 = some (.ref (coa E 5 l0))) → (xg lv 1 = some (.int l1)) → (xg lv 2 = some (.int l2)) → ∀ res, k_Client_beTold_b0  σ l0 l1 l2 = some res → cR E cQ1 pF (d + 1) kT20 5 3 none none res g σ (0, lv, []) := by
  intro g lv σ l0 l1 l2 bl0 g0 g1 g2 res h
  unfold k_Client_beTold_b0 at h
  refine cR_lift (fun _ _ kk => eE_aload_n lk20_0 g0 kk) ?_
  refine cR_lift (fun _ _ kk => eE_iconst (v := 0) lk20_1 (by decide) kk) ?_
  obtain ⟨σ1, h2, h⟩ := Option.bind_eq_some_iff.mp h
  refine cR_putZ lk20_2 rf_5_33 rfl bl0 pf_5_3 h2 ?_
  refine cR_lift (fun _ _ kk => eE_aload_n lk20_5 g0 kk) ?_
  refine cR_lift (fun _ _ kk => eE_iconst (v := 0) lk20_6 (by decide) kk) ?_
  obtain ⟨σ3, h4, h⟩ := Option.bind_eq_some_iff.mp h
  refine cR_putZ lk20_7 rf_5_44 rfl (cob_any rfl bl0) pf_5_10 h4 ?_
  refine cR_lift (fun _ _ kk => eE_aload_n lk20_10 g0 kk) ?_
  refine cR_lift (fun _ _ kk => eE_iconst (v := 0) lk20_11 (by decide) kk) ?_
  obtain ⟨σ5, h6, h⟩ := Option.bind_eq_some_iff.mp h
  refine cR_putZ lk20_12 rf_5_115 rfl (cob_any rfl bl0) pf_5_11 h6 ?_
  refine cR_lift (fun _ _ kk => eE_aload_n lk20_15 g0 kk) ?_
  refine cR_getO (cl' := 14) (i' := 0) lk20_16 rf_5_25 rfl rfl (cob_any rfl bl0) ?_
  refine cR_lift (fun _ _ kk => eE_aload_n lk20_19 g0 kk) ?_
  refine cR_getI lk20_20 rf_5_22 rfl (cob_any rfl bl0) ?_
  obtain ⟨p7, h8, h⟩ := Option.bind_eq_some_iff.mp h
  refine cR_virt (cl := 14) (i := 0) (as := [.int (cI σ5 5 l0 0 0)]) lk20_23 mr_5_151 na_194 rfl rfl (by first | exact Nat.le_of_ble_eq_true rfl | (simp [xcat, cvo_cat, cat_i, cat_j, cat_r]; done)) wv_194 wc_194 (cob_0 (c := σ5) (cl := 14) (by decide) rfl rfl) (k_World_hush_ok hp0 hL hF (d := d + 0) (cob_0 (c := σ5) (cl := 14) (by decide) rfl rfl) h8) (fun m9  => ?_)
  refine cR_lift (fun _ _ kk => eE_aload_n lk20_26 g0 kk) ?_
  refine cR_getO (cl' := 4) (i' := 0) lk20_27 rf_5_29 rfl rfl (cob_any rfl bl0) ?_
  refine cR_lift (fun _ _ kk => eE_aload_n lk20_30 g0 kk) ?_
  refine cR_getI lk20_31 rf_5_15 rfl (cob_any rfl bl0) ?_
  refine cR_lift (fun _ _ kk => eE_iload_n lk20_34 g1 kk) ?_
  refine cR_lift (fun _ _ kk => eE_iload_n lk20_35 g2 kk) ?_
  obtain ⟨p10, h11, h⟩ := Option.bind_eq_some_iff.mp h
  refine cR_virt (cl := 4) (i := 0) (as := [.int (cI p7 5 l0 9 0), .int l1, .int l2]) lk20_36 mr_5_154 na_18 rfl rfl (by first | exact Nat.le_of_ble_eq_true rfl | (simp [xcat, cvo_cat, cat_i, cat_j, cat_r]; done)) wv_18 wc_18 (cob_0 (c := p7) (cl := 4) (by decide) rfl rfl) (k_Askings_setTold_ok hp0 hL hF (d := d + 0) (cob_0 (c := p7) (cl := 4) (by decide) rfl rfl) h11) (fun m12  => ?_)
  cases h
  exact cR_end lk20_39 rfl rfl rfl
def k_Client_beTold (σ : CS) (l0 : Nat) (l1 : Int32) (l2 : Int32) : Option (CS) := k_Client_beTold_b0 σ l0 l1 l2
theorem k_Client_beTold_ok {E : CE} {pF : Nat → List Value → xH → Option (Option Value × xH)} (hp0 : xNPc pF) (hL : lcAll E pF) (hF : lcF pF) {d : Nat} {g : CG} {σ : CS} {l0 : Nat} {l1 : Int32} {l2 : Int32} {res : CS} (bl0 : cob σ 5 l0) (h : k_Client_beTold σ l0 l1 l2 = some res) : cCo E cQ1 pF (d + 2) 20 [.ref (coa E 5 l0), .int l1, .int l2] none res g σ :=
  cCo_R kk_20 mo_20 ni_20 xm_20 (Nat.le_of_ble_eq_true rfl) (hp0 20 (by decide) _) (k_Client_beTold_b0_ok hp0 hL hF g _ σ l0 l1 l2 bl0 rfl rfl rfl _ h)
/-! k_Client_isCommand (27), depth 2 -/
def k_Client_isCommand_b21  (σ : CS) (s0 : Int32) : Option (Int32) :=
  if s0 = 0 ∨ s0 = 1 then some s0 else none
set_option maxRecDepth 4000 in
theorem k_Client_isCommand_b21_ok {E : CE} {pF : Nat → List Value → xH → Option (Option Value × xH)} (hp0 : xNPc pF) (hL : lcAll E pF) (hF : lcF pF) {d : Nat}   : ∀ (g : CG) (lv : xL) (σ : CS) (s0 : Int32), ∀ res, k_Client_isCommand_b21  σ s0 = some res → cR E cQ1 pF (d + 1) kT27 5 1 (some FieldType.boolean) (some (.int res)) σ g σ (21, lv, [.int s0]) := by
  intro g lv σ s0 res h
  unfold k_Client_isCommand_b21 at h
  by_cases z1 : s0 = 0 ∨ s0 = 1
  · rw [if_pos z1] at h; cases h
    exact cR_end lk27_21 rfl rfl (by first | (simp only [xfin, if_true, if_pos z1]; done) | simp [xfin, z1])
  · rw [if_neg z1] at h; cases h
def k_Client_isCommand_b0  (σ : CS) (l0 : Nat) : Option (Int32) :=
  (k_Askings_tell σ 0 (cI σ 5 l0 9 0) ((1 : Int32))).bind fun p2 =>
  if xc2 .gt p2 ((2 : Int32)) = true then (
    k_Client_isCommand_b21  σ ((0 : Int32))
  ) else (
    k_Client_isCommand_b21  σ ((1 : Int32))
  )
set_option maxRecDepth 4000 in
theorem k_Client_isCommand_b0_ok {E : CE} {pF : Nat → List Value → xH → Option (Option Value × xH)} (hp0 : xNPc pF) (hL : lcAll E pF) (hF : lcF pF) {d : Nat}   : ∀ (g : CG) (lv : xL) (σ : CS) (l0 : Nat), (cob σ 5 l0) → (xg lv 0 = some (.ref (coa E 5 l0))) → ∀ res, k_Client_isCommand_b0  σ l0 = some res → cR E cQ1 pF (d + 1) kT27 5 1 (some FieldType.boolean) (some (.int res)) σ g σ (0, lv, []) := by
  intro g lv σ l0 bl0 g0 res h
  unfold k_Client_isCommand_b0 at h
  refine cR_lift (fun _ _ kk => eE_aload_n lk27_0 g0 kk) ?_
  refine cR_getO (cl' := 4) (i' := 0) lk27_1 rf_5_29 rfl rfl bl0 ?_
  refine cR_lift (fun _ _ kk => eE_aload_n lk27_4 g0 kk) ?_
  refine cR_getI lk27_5 rf_5_15 rfl bl0 ?_
  refine cR_lift (fun _ _ kk => eE_iconst (v := 1) lk27_8 (by decide) kk) ?_
  obtain ⟨p2, h3, h⟩ := Option.bind_eq_some_iff.mp h
  refine cR_virt (cl := 4) (i := 0) (as := [.int (cI σ 5 l0 9 0), .int ((1 : Int32))]) lk27_9 mr_5_58 na_19 rfl rfl (by first | exact Nat.le_of_ble_eq_true rfl | (simp [xcat, cvo_cat, cat_i, cat_j, cat_r]; done)) wv_19 wc_19 (cob_0 (c := σ) (cl := 4) (by decide) rfl rfl) (k_Askings_tell_ok hp0 hL hF (d := d + 0) (cob_0 (c := σ) (cl := 4) (by decide) rfl rfl) h3) (fun m4  => ?_)
  refine cR_lift (fun _ _ kk => eE_iconst (v := 2) lk27_12 (by decide) kk) ?_
  refine cR_icmp (t := 20) lk27_13 (by decide) (fun c5 => ?_) (fun c5 => ?_)
  · rw [if_pos c5] at h
    refine cR_lift (fun _ _ kk => eE_iconst (v := 0) lk27_20 (by decide) kk) ?_
    exact k_Client_isCommand_b21_ok hp0 hL hF  g lv σ ((0 : Int32))  _ h
  · rw [if_neg c5] at h
    refine cR_lift (fun _ _ kk => eE_iconst (v := 1) lk27_16 (by decide) kk) ?_
    refine cR_lift (fun _ _ kk => eE_goto (t := 21) lk27_17 (by decide) kk) ?_
    exact k_Client_isCommand_b21_ok hp0 hL hF  g lv σ ((1 : Int32))  _ h
def k_Client_isCommand (σ : CS) (l0 : Nat) : Option (Int32) := k_Client_isCommand_b0 σ l0
theorem k_Client_isCommand_ok {E : CE} {pF : Nat → List Value → xH → Option (Option Value × xH)} (hp0 : xNPc pF) (hL : lcAll E pF) (hF : lcF pF) {d : Nat} {g : CG} {σ : CS} {l0 : Nat} {res : Int32} (bl0 : cob σ 5 l0) (h : k_Client_isCommand σ l0 = some res) : cCo E cQ1 pF (d + 2) 27 [.ref (coa E 5 l0)] (some (.int res)) σ g σ :=
  cCo_R kk_27 mo_27 ni_27 xm_27 (Nat.le_of_ble_eq_true rfl) (hp0 27 (by decide) _) (k_Client_isCommand_b0_ok hp0 hL hF g _ σ l0 bl0 rfl _ h)
/-! k_Client_giveIn (22), depth 3 -/
def k_Client_giveIn_b27  (σ : CS) : Option (CS) :=
  some σ
set_option maxRecDepth 4000 in
theorem k_Client_giveIn_b27_ok {E : CE} {pF : Nat → List Value → xH → Option (Option Value × xH)} (hp0 : xNPc pF) (hL : lcAll E pF) (hF : lcF pF) {d : Nat}   : ∀ (g : CG) (lv : xL) (σ : CS), ∀ res, k_Client_giveIn_b27  σ = some res → cR E cQ1 pF (d + 2) kT22 5 1 none none res g σ (27, lv, []) := by
  intro g lv σ res h
  unfold k_Client_giveIn_b27 at h
  cases h
  exact cR_end lk22_27 rfl rfl rfl
def k_Client_giveIn_b0  (σ : CS) (l0 : Nat) : Option (CS) :=
  (k_Client_isCommand σ l0).bind fun p1 =>
  if xc0 .eq p1 = true then (
    (k_Client_beTold σ l0 ((3 : Int32)) ((-1 : Int32))).bind fun p5 =>
    k_Client_giveIn_b27  p5
  ) else (
    (some (csI σ 5 l0 5 0 ((-1 : Int32)))).bind fun σ8 =>
    (k_Client_beTold σ8 l0 ((2 : Int32)) ((-1 : Int32))).bind fun p10 =>
    k_Client_giveIn_b27  p10
  )
set_option maxRecDepth 4000 in
theorem k_Client_giveIn_b0_ok {E : CE} {pF : Nat → List Value → xH → Option (Option Value × xH)} (hp0 : xNPc pF) (hL : lcAll E pF) (hF : lcF pF) {d : Nat}   : ∀ (g : CG) (lv : xL) (σ : CS) (l0 : Nat), (cob σ 5 l0) → (xg lv 0 = some (.ref (coa E 5 l0))) → ∀ res, k_Client_giveIn_b0  σ l0 = some res → cR E cQ1 pF (d + 2) kT22 5 1 none none res g σ (0, lv, []) := by
  intro g lv σ l0 bl0 g0 res h
  unfold k_Client_giveIn_b0 at h
  refine cR_lift (fun _ _ kk => eE_aload_n lk22_0 g0 kk) ?_
  obtain ⟨p1, h2, h⟩ := Option.bind_eq_some_iff.mp h
  refine cR_virt (cl := 5) (i := l0) (as := []) lk22_1 mr_5_40 na_27 rfl rfl (by first | exact Nat.le_of_ble_eq_true rfl | (simp [xcat, cvo_cat, cat_i, cat_j, cat_r]; done)) wv_27 wc_27 bl0 (k_Client_isCommand_ok hp0 hL hF (d := d + 0) bl0 h2) (fun m3  => ?_)
  refine cR_if (t := 21) lk22_4 (by decide) (fun c4 => ?_) (fun c4 => ?_)
  · rw [if_pos c4] at h
    refine cR_lift (fun _ _ kk => eE_aload_n lk22_21 g0 kk) ?_
    refine cR_lift (fun _ _ kk => eE_iconst (v := 3) lk22_22 (by decide) kk) ?_
    refine cR_lift (fun _ _ kk => eE_iconst (v := (-1)) lk22_23 (by decide) kk) ?_
    obtain ⟨p5, h6, h⟩ := Option.bind_eq_some_iff.mp h
    refine cR_virt (cl := 5) (i := l0) (as := [.int ((3 : Int32)), .int ((-1 : Int32))]) lk22_24 mr_5_148 na_20 rfl rfl (by first | exact Nat.le_of_ble_eq_true rfl | (simp [xcat, cvo_cat, cat_i, cat_j, cat_r]; done)) wv_20 wc_20 bl0 (k_Client_beTold_ok hp0 hL hF (d := d + 0) bl0 h6) (fun m7  => ?_)
    exact k_Client_giveIn_b27_ok hp0 hL hF  g lv p5  _ h
  · rw [if_neg c4] at h
    refine cR_lift (fun _ _ kk => eE_aload_n lk22_7 g0 kk) ?_
    refine cR_lift (fun _ _ kk => eE_iconst (v := (-1)) lk22_8 (by decide) kk) ?_
    obtain ⟨σ8, h9, h⟩ := Option.bind_eq_some_iff.mp h
    refine cR_putI lk22_9 rf_5_9 rfl bl0 pf_5_5 rfl h9 ?_
    refine cR_lift (fun _ _ kk => eE_aload_n lk22_12 g0 kk) ?_
    refine cR_lift (fun _ _ kk => eE_iconst (v := 2) lk22_13 (by decide) kk) ?_
    refine cR_lift (fun _ _ kk => eE_iconst (v := (-1)) lk22_14 (by decide) kk) ?_
    obtain ⟨p10, h11, h⟩ := Option.bind_eq_some_iff.mp h
    refine cR_virt (cl := 5) (i := l0) (as := [.int ((2 : Int32)), .int ((-1 : Int32))]) lk22_15 mr_5_148 na_20 rfl rfl (by first | exact Nat.le_of_ble_eq_true rfl | (simp [xcat, cvo_cat, cat_i, cat_j, cat_r]; done)) wv_20 wc_20 (cob_any rfl bl0) (k_Client_beTold_ok hp0 hL hF (d := d + 0) (cob_any rfl bl0) h11) (fun m12  => ?_)
    refine cR_lift (fun _ _ kk => eE_goto (t := 27) lk22_18 (by decide) kk) ?_
    exact k_Client_giveIn_b27_ok hp0 hL hF  g lv p10  _ h
def k_Client_giveIn (σ : CS) (l0 : Nat) : Option (CS) := k_Client_giveIn_b0 σ l0
theorem k_Client_giveIn_ok {E : CE} {pF : Nat → List Value → xH → Option (Option Value × xH)} (hp0 : xNPc pF) (hL : lcAll E pF) (hF : lcF pF) {d : Nat} {g : CG} {σ : CS} {l0 : Nat} {res : CS} (bl0 : cob σ 5 l0) (h : k_Client_giveIn σ l0 = some res) : cCo E cQ1 pF (d + 3) 22 [.ref (coa E 5 l0)] none res g σ :=
  cCo_R kk_22 mo_22 ni_22 xm_22 (Nat.le_of_ble_eq_true rfl) (hp0 22 (by decide) _) (k_Client_giveIn_b0_ok hp0 hL hF g _ σ l0 bl0 rfl _ h)
/-! k_World_blank (185), depth 10 -/
def k_World_blank_b39  (σ : CS) (s0 : Nat) : Option ((Nat) × CS) :=
  some (s0, σ)
set_option maxRecDepth 4000 in
theorem k_World_blank_b39_ok {E : CE} {pF : Nat → List Value → xH → Option (Option Value × xH)} (hp0 : xNPc pF) (hL : lcAll E pF) (hF : lcF pF) {d : Nat}   : ∀ (g : CG) (lv : xL) (σ : CS) (s0 : Nat), (cob σ 8 s0) → ∀ res, k_World_blank_b39  σ s0 = some res → cR E cQ1 pF (d + 9) kT185 14 1 (some (FieldType.object "AgreedStore$Letter")) (some (.ref (coa E 8 res.1))) res.2 g σ (39, lv, [.ref (coa E 8 s0)]) := by
  intro g lv σ s0 bs0 res h
  unfold k_World_blank_b39 at h
  cases h
  exact cR_end lk185_39 rfl rfl rfl
def k_World_blank_b0  (σ : CS) (l0 : Nat) : Option ((Nat) × CS) :=
  if xc0 .eq (clemp σ 14 l0 16) = true then (
    (clrem σ 14 l0 16 ((clsz σ 14 l0 16) - ((1 : Int32)))).bind fun p3 =>
    k_World_blank_b39  p3.2 p3.1
  ) else (
    (some (csN σ)).bind fun σ5 =>
    k_World_blank_b39  σ5 ((cT σ).1)
  )
set_option maxRecDepth 4000 in
theorem k_World_blank_b0_ok {E : CE} {pF : Nat → List Value → xH → Option (Option Value × xH)} (hp0 : xNPc pF) (hL : lcAll E pF) (hF : lcF pF) {d : Nat}   : ∀ (g : CG) (lv : xL) (σ : CS) (l0 : Nat), (cob σ 14 l0) → (xg lv 0 = some (.ref (coa E 14 l0))) → ∀ res, k_World_blank_b0  σ l0 = some res → cR E cQ1 pF (d + 9) kT185 14 1 (some (FieldType.object "AgreedStore$Letter")) (some (.ref (coa E 8 res.1))) res.2 g σ (0, lv, []) := by
  intro g lv σ l0 bl0 g0 res h
  unfold k_World_blank_b0 at h
  refine cR_lift (fun _ _ kk => eE_aload_n lk185_0 g0 kk) ?_
  refine cR_getA lk185_1 rf_14_35 (by decide) bl0 ?_
  refine cR_virtL (cl := 14) (i := l0) (f := 16) (as := []) lk185_4 mr_14_48 na_10 rfl rfl (by first | exact Nat.le_of_ble_eq_true rfl | (simp [xcat, cvo_cat, cat_i, cat_j, cat_r]; done)) wv_10 wc_10 rfl bl0 ((hL (d + 0)).2.1 E g _ 14 l0 16 rfl bl0) (fun _ => ?_)
  refine cR_if (t := 20) lk185_7 (by decide) (fun c1 => ?_) (fun c1 => ?_)
  · rw [if_pos c1] at h
    refine cR_lift (fun _ _ kk => eE_aload_n lk185_20 g0 kk) ?_
    refine cR_getA lk185_21 rf_14_35 (by decide) bl0 ?_
    refine cR_lift (fun _ _ kk => eE_aload_n lk185_24 g0 kk) ?_
    refine cR_getA lk185_25 rf_14_35 (by decide) bl0 ?_
    refine cR_virtL (cl := 14) (i := l0) (f := 16) (as := []) lk185_28 mr_14_55 na_14 rfl rfl (by first | exact Nat.le_of_ble_eq_true rfl | (simp [xcat, cvo_cat, cat_i, cat_j, cat_r]; done)) wv_14 wc_14 rfl bl0 ((hL (d + 0)).1 E g _ 14 l0 16 rfl bl0) (fun _ => ?_)
    refine cR_lift (fun _ _ kk => eE_iconst (v := 1) lk185_31 (by decide) kk) ?_
    refine cR_lift (fun _ _ kk => eE_isub lk185_32 kk) ?_
    obtain ⟨p3, h4, h⟩ := Option.bind_eq_some_iff.mp h
    refine cR_rep (fun _ hc => clrem_lt hc h4) (fun b2 => ?_)
    refine cR_virtL (cl := 14) (i := l0) (f := 16) (c1 := p3.2) (r := some (.ref p3.1)) (as := [.int ((clsz σ 14 l0 16) - ((1 : Int32)))]) lk185_33 mr_14_59 na_13 rfl rfl (by first | exact Nat.le_of_ble_eq_true rfl | (simp [xcat, cvo_cat, cat_i, cat_j, cat_r]; done)) wv_13 wc_13 rfl bl0 ((hL (d + 0)).2.2.2.2.2.1 E g _ 14 l0 16 _ p3.1 p3.2 rfl bl0 h4) (fun _ => ?_)
    refine cR_cast lk185_36 xk_14_52 b2 ?_
    exact k_World_blank_b39_ok hp0 hL hF  g lv p3.2 p3.1 b2 _ h
  · rw [if_neg c1] at h
    obtain ⟨σ5, h6, h⟩ := Option.bind_eq_some_iff.mp h
    refine cR_newL (d := d + 8) lk185_10 lk185_13 lk185_14 xk_14_52 xn_14_54 (hp0 61 (by decide)) (fun _ => (by first | exact Nat.le_of_ble_eq_true rfl | (simp [xcat, cvo_cat, cat_i, cat_j, cat_r]; done))) h6 (fun a7 e8 b9 m10 => ?_)
    subst e8
    refine cR_lift (fun _ _ kk => eE_goto (t := 39) lk185_17 (by decide) kk) ?_
    exact k_World_blank_b39_ok hp0 hL hF  g lv σ5 ((cT σ).1) b9 _ h
def k_World_blank (σ : CS) (l0 : Nat) : Option ((Nat) × CS) := k_World_blank_b0 σ l0
theorem k_World_blank_ok {E : CE} {pF : Nat → List Value → xH → Option (Option Value × xH)} (hp0 : xNPc pF) (hL : lcAll E pF) (hF : lcF pF) {d : Nat} {g : CG} {σ : CS} {l0 : Nat} {res : (Nat) × CS} (bl0 : cob σ 14 l0) (h : k_World_blank σ l0 = some res) : cCo E cQ1 pF (d + 10) 185 [.ref (coa E 14 l0)] (some (.ref (coa E 8 res.1))) res.2 g σ :=
  cCo_R kk_185 mo_185 ni_185 xm_185 (Nat.le_of_ble_eq_true rfl) (hp0 185 (by decide) _) (k_World_blank_b0_ok hp0 hL hF g _ σ l0 bl0 rfl _ h)
theorem k_World_blank_lt {E : CE} {g : CG} {σ : CS} {h0 : xH} {l0 : Nat} {res : Nat × CS} (hc : CRep E g σ h0) (_ : cob σ 14 l0) (h : k_World_blank σ l0 = some res) : cob res.2 8 res.1 := by
  unfold k_World_blank k_World_blank_b0 at h
  split at h
  · obtain ⟨x, hx, h⟩ := Option.bind_eq_some_iff.mp h
    unfold k_World_blank_b39 at h
    cases h
    exact clrem_lt hc hx
  · obtain ⟨x, hx, h⟩ := Option.bind_eq_some_iff.mp h
    unfold k_World_blank_b39 at h
    cases h
    cases hx
    exact cob8 (by simp [clt, csN, cT])
/-! k_World_areParted (184), depth 1 -/
def k_World_areParted_b23  (σ : CS) (s0 : Int32) : Option (Int32) :=
  if s0 = 0 ∨ s0 = 1 then some s0 else none
set_option maxRecDepth 4000 in
theorem k_World_areParted_b23_ok {E : CE} {pF : Nat → List Value → xH → Option (Option Value × xH)} (hp0 : xNPc pF) (hL : lcAll E pF) (hF : lcF pF) {d : Nat}   : ∀ (g : CG) (lv : xL) (σ : CS) (s0 : Int32), ∀ res, k_World_areParted_b23  σ s0 = some res → cR E cQ1 pF (d + 0) kT184 14 3 (some FieldType.boolean) (some (.int res)) σ g σ (23, lv, [.int s0]) := by
  intro g lv σ s0 res h
  unfold k_World_areParted_b23 at h
  by_cases z1 : s0 = 0 ∨ s0 = 1
  · rw [if_pos z1] at h; cases h
    exact cR_end lk184_23 rfl rfl (by first | (simp only [xfin, if_true, if_pos z1]; done) | simp [xfin, z1])
  · rw [if_neg z1] at h; cases h
def k_World_areParted_b0  (σ : CS) (l0 : Nat) (l1 : Int32) (l2 : Int32) : Option (Int32) :=
  if xc0 .eq ((((cI σ 14 l0 5 0) >>> (l1 &&& 31)) ^^^ ((cI σ 14 l0 5 0) >>> (l2 &&& 31))) &&& ((1 : Int32))) = true then (
    k_World_areParted_b23  σ ((0 : Int32))
  ) else (
    k_World_areParted_b23  σ ((1 : Int32))
  )
set_option maxRecDepth 4000 in
theorem k_World_areParted_b0_ok {E : CE} {pF : Nat → List Value → xH → Option (Option Value × xH)} (hp0 : xNPc pF) (hL : lcAll E pF) (hF : lcF pF) {d : Nat}   : ∀ (g : CG) (lv : xL) (σ : CS) (l0 : Nat) (l1 : Int32) (l2 : Int32), (cob σ 14 l0) → (xg lv 0 = some (.ref (coa E 14 l0))) → (xg lv 1 = some (.int l1)) → (xg lv 2 = some (.int l2)) → ∀ res, k_World_areParted_b0  σ l0 l1 l2 = some res → cR E cQ1 pF (d + 0) kT184 14 3 (some FieldType.boolean) (some (.int res)) σ g σ (0, lv, []) := by
  intro g lv σ l0 l1 l2 bl0 g0 g1 g2 res h
  unfold k_World_areParted_b0 at h
  refine cR_lift (fun _ _ kk => eE_aload_n lk184_0 g0 kk) ?_
  refine cR_getI lk184_1 rf_14_44 rfl bl0 ?_
  refine cR_lift (fun _ _ kk => eE_iload_n lk184_4 g1 kk) ?_
  refine cR_lift (fun _ _ kk => eE_ishr lk184_5 kk) ?_
  refine cR_lift (fun _ _ kk => eE_aload_n lk184_6 g0 kk) ?_
  refine cR_getI lk184_7 rf_14_44 rfl bl0 ?_
  refine cR_lift (fun _ _ kk => eE_iload_n lk184_10 g2 kk) ?_
  refine cR_lift (fun _ _ kk => eE_ishr lk184_11 kk) ?_
  refine cR_lift (fun _ _ kk => eE_ixor lk184_12 kk) ?_
  refine cR_lift (fun _ _ kk => eE_iconst (v := 1) lk184_13 (by decide) kk) ?_
  refine cR_lift (fun _ _ kk => eE_iand lk184_14 kk) ?_
  refine cR_if (t := 22) lk184_15 (by decide) (fun c2 => ?_) (fun c2 => ?_)
  · rw [if_pos c2] at h
    refine cR_lift (fun _ _ kk => eE_iconst (v := 0) lk184_22 (by decide) kk) ?_
    exact k_World_areParted_b23_ok hp0 hL hF  g lv σ ((0 : Int32))  _ h
  · rw [if_neg c2] at h
    refine cR_lift (fun _ _ kk => eE_iconst (v := 1) lk184_18 (by decide) kk) ?_
    refine cR_lift (fun _ _ kk => eE_goto (t := 23) lk184_19 (by decide) kk) ?_
    exact k_World_areParted_b23_ok hp0 hL hF  g lv σ ((1 : Int32))  _ h
def k_World_areParted (σ : CS) (l0 : Nat) (l1 : Int32) (l2 : Int32) : Option (Int32) := k_World_areParted_b0 σ l0 l1 l2
theorem k_World_areParted_ok {E : CE} {pF : Nat → List Value → xH → Option (Option Value × xH)} (hp0 : xNPc pF) (hL : lcAll E pF) (hF : lcF pF) {d : Nat} {g : CG} {σ : CS} {l0 : Nat} {l1 : Int32} {l2 : Int32} {res : Int32} (bl0 : cob σ 14 l0) (h : k_World_areParted σ l0 l1 l2 = some res) : cCo E cQ1 pF (d + 1) 184 [.ref (coa E 14 l0), .int l1, .int l2] (some (.int res)) σ g σ :=
  cCo_R kk_184 mo_184 ni_184 xm_184 (Nat.le_of_ble_eq_true rfl) (hp0 184 (by decide) _) (k_World_areParted_b0_ok hp0 hL hF g _ σ l0 l1 l2 bl0 rfl rfl rfl _ h)
/-! k_World_lose (198), depth 10 -/
def k_World_lose_b0  (σ : CS) (l0 : Nat) (l1 : Nat) : Option (CS) :=
  (some (csI σ 14 l0 4 0 ((cI σ 14 l0 4 0) + ((1 : Int32))))).bind fun σ1 =>
  (cladd σ1 14 l0 16 l1).bind fun σ4 =>
  some σ4
set_option maxRecDepth 4000 in
theorem k_World_lose_b0_ok {E : CE} {pF : Nat → List Value → xH → Option (Option Value × xH)} (hp0 : xNPc pF) (hL : lcAll E pF) (hF : lcF pF) {d : Nat}   : ∀ (g : CG) (lv : xL) (σ : CS) (l0 : Nat) (l1 : Nat), (cob σ 14 l0) → (cob σ 8 l1) → (xg lv 0 = some (.ref (coa E 14 l0))) → (xg lv 1 = some (.ref (coa E 8 l1))) → ∀ res, k_World_lose_b0  σ l0 l1 = some res → cR E (cQx [14]) pF (d + 9) kT198 14 2 none none res g σ (0, lv, []) := by
  intro g lv σ l0 l1 bl0 bl1 g0 g1 res h
  unfold k_World_lose_b0 at h
  refine cR_lift (fun _ _ kk => eE_aload_n lk198_0 g0 kk) ?_
  refine cR_lift (fun _ _ kk => eE_dup lk198_1 rfl kk) ?_
  refine cR_getI lk198_2 rf_14_108 rfl bl0 ?_
  refine cR_lift (fun _ _ kk => eE_iconst (v := 1) lk198_5 (by decide) kk) ?_
  refine cR_lift (fun _ _ kk => eE_iadd lk198_6 kk) ?_
  obtain ⟨σ1, h2, h⟩ := Option.bind_eq_some_iff.mp h
  refine cR_putI lk198_7 rf_14_108 rfl bl0 pf_14_4 rfl h2 ?_
  refine cR_lift (fun _ _ kk => eE_aload_n lk198_10 g0 kk) ?_
  refine cR_getA lk198_11 rf_14_35 (by decide) (cob_any rfl bl0) ?_
  refine cR_lift (fun _ _ kk => eE_aload_n lk198_14 g1 kk) ?_
  obtain ⟨σ4, h5, h⟩ := Option.bind_eq_some_iff.mp h
  refine cR_virtLG (by exact cQx_sub rfl) (cl := 14) (i := l0) (f := 16) (as := [.ref l1]) lk198_15 mr_14_111 na_2 rfl rfl (by first | exact Nat.le_of_ble_eq_true rfl | (simp [xcat, cvo_cat, cat_i, cat_j, cat_r]; done)) wv_2 wc_2 rfl (cob_any rfl bl0) ((hL (d + 0)).2.2.2.1 E g _ 14 l0 16 l1 _ rfl rfl (cob_any rfl bl0) (clt8 (cob_mon (cput_mon h2) bl1)) h5) (fun _ g_3 g_3e => ?_)
  refine cR_lift (fun _ _ kk => eE_pop lk198_18 rfl kk) ?_
  cases h
  exact cR_end lk198_19 rfl rfl rfl
def k_World_lose (σ : CS) (l0 : Nat) (l1 : Nat) : Option (CS) := k_World_lose_b0 σ l0 l1
theorem k_World_lose_ok {E : CE} {pF : Nat → List Value → xH → Option (Option Value × xH)} (hp0 : xNPc pF) (hL : lcAll E pF) (hF : lcF pF) {d : Nat} {g : CG} {σ : CS} {l0 : Nat} {l1 : Nat} {res : CS} (bl0 : cob σ 14 l0) (bl1 : cob σ 8 l1) (h : k_World_lose σ l0 l1 = some res) : cCo E (cQx [14]) pF (d + 10) 198 [.ref (coa E 14 l0), .ref (coa E 8 l1)] none res g σ :=
  cCo_R kk_198 mo_198 ni_198 xm_198 (Nat.le_of_ble_eq_true rfl) (hp0 198 (by decide) _) (k_World_lose_b0_ok hp0 hL hF g _ σ l0 l1 bl0 bl1 rfl rfl _ h)
/-! k_World_launch (197), depth 10 -/
def k_World_launch_b104 (F : Nat)  (σ : CS) (l0 : Nat) (l1 : Nat) (l3 : Int32) : Option (CS) :=
  (clins σ 14 l0 15 l3 l1).bind fun σ2 =>
  some σ2
set_option maxRecDepth 4000 in
theorem k_World_launch_b104_ok {E : CE} {pF : Nat → List Value → xH → Option (Option Value × xH)} (hp0 : xNPc pF) (hL : lcAll E pF) (hF : lcF pF) {d : Nat} {F : Nat}   : ∀ (g : CG) (lv : xL) (σ : CS) (l0 : Nat) (l1 : Nat) (l3 : Int32), (cob σ 14 l0) → (cob σ 8 l1) → (xg lv 0 = some (.ref (coa E 14 l0))) → (xg lv 1 = some (.ref (coa E 8 l1))) → (xg lv 3 = some (.int l3)) → ∀ res, k_World_launch_b104 F  σ l0 l1 l3 = some res → cR E (cQx [14]) pF (d + 9) kT197 14 4 none none res g σ (104, lv, []) := by
  intro g lv σ l0 l1 l3 bl0 bl1 g0 g1 g3 res h
  unfold k_World_launch_b104 at h
  refine cR_lift (fun _ _ kk => eE_aload_n lk197_104 g0 kk) ?_
  refine cR_getA lk197_105 rf_14_31 (by decide) bl0 ?_
  refine cR_lift (fun _ _ kk => eE_iload_n lk197_108 g3 kk) ?_
  refine cR_lift (fun _ _ kk => eE_aload_n lk197_109 g1 kk) ?_
  obtain ⟨σ2, h3, h⟩ := Option.bind_eq_some_iff.mp h
  refine cR_virtLG (by exact cQx_sub rfl) (cl := 14) (i := l0) (f := 15) (as := [.int l3, .ref l1]) lk197_110 mr_14_130 na_1 rfl rfl (by first | exact Nat.le_of_ble_eq_true rfl | (simp [xcat, cvo_cat, cat_i, cat_j, cat_r]; done)) wv_1 wc_1 rfl bl0 ((hL (d + 0)).2.2.2.2.1 E g _ 14 l0 15 _ l1 _ rfl rfl bl0 (clt8 bl1) h3) (fun _ g_1 g_1e => ?_)
  cases h
  exact cR_end lk197_113 rfl rfl rfl
def k_World_launch_b74 (F : Nat)  : Nat → CS → Nat → Nat → Int32 → Int32 → Option (CS)
  | 0, _, _, _, _, _ => none
  | n + 1, σ, l0, l1, l2, l3 =>
    let KK := k_World_launch_b74 F  n
    if xc0 .le l3 = true then (
      k_World_launch_b104 F  σ l0 l1 l3
    ) else (
      (clget σ 14 l0 15 (l3 - ((1 : Int32)))).bind fun a6 =>
      if xc2 .le (cI σ 8 a6 0 0) l2 = true then (
        k_World_launch_b104 F  σ l0 l1 l3
      ) else (
        KK σ l0 l1 l2 (l3 + (-1 : Int32))
      )
    )
set_option maxRecDepth 4000 in
theorem k_World_launch_b74_ok {E : CE} {pF : Nat → List Value → xH → Option (Option Value × xH)} (hp0 : xNPc pF) (hL : lcAll E pF) (hF : lcF pF) {d : Nat} {F : Nat}   : ∀ (n : Nat) (g : CG) (lv : xL) (σ : CS) (l0 : Nat) (l1 : Nat) (l2 : Int32) (l3 : Int32), (cob σ 14 l0) → (cob σ 8 l1) → (xg lv 0 = some (.ref (coa E 14 l0))) → (xg lv 1 = some (.ref (coa E 8 l1))) → (xg lv 2 = some (.int l2)) → (xg lv 3 = some (.int l3)) → ∀ res, k_World_launch_b74 F  n σ l0 l1 l2 l3 = some res → cR E (cQx [14]) pF (d + 9) kT197 14 4 none none res g σ (74, lv, []) := by
  intro n
  induction n with
  | zero => intro g lv σ l0 l1 l2 l3 bl0 bl1 g0 g1 g2 g3 res h; simp [k_World_launch_b74] at h
  | succ n hKK =>
    intro g lv σ l0 l1 l2 l3 bl0 bl1 g0 g1 g2 g3 res h
    unfold k_World_launch_b74 at h
    dsimp only at h
    refine cR_lift (fun _ _ kk => eE_iload_n lk197_74 g3 kk) ?_
    refine cR_if (t := 104) lk197_75 (by decide) (fun c4 => ?_) (fun c4 => ?_)
    · rw [if_pos c4] at h
      exact k_World_launch_b104_ok hp0 hL hF  g lv σ l0 l1 l3 bl0 bl1 g0 g1 g3 _ h
    · rw [if_neg c4] at h
      refine cR_lift (fun _ _ kk => eE_aload_n lk197_78 g0 kk) ?_
      refine cR_getA lk197_79 rf_14_31 (by decide) bl0 ?_
      refine cR_lift (fun _ _ kk => eE_iload_n lk197_82 g3 kk) ?_
      refine cR_lift (fun _ _ kk => eE_iconst (v := 1) lk197_83 (by decide) kk) ?_
      refine cR_lift (fun _ _ kk => eE_isub lk197_84 kk) ?_
      obtain ⟨a6, h7, h⟩ := Option.bind_eq_some_iff.mp h
      refine cR_rep (fun _ hc => cob8 (clget_lt hc h7)) (fun b5 => ?_)
      refine cR_virtL (cl := 14) (i := l0) (f := 15) (as := [.int (l3 - ((1 : Int32)))]) lk197_85 mr_14_127 na_6 rfl rfl (by first | exact Nat.le_of_ble_eq_true rfl | (simp [xcat, cvo_cat, cat_i, cat_j, cat_r]; done)) wv_6 wc_6 rfl bl0 ((hL (d + 0)).2.2.1 E g _ 14 l0 15 _ _ rfl bl0 h7) (fun _ => ?_)
      refine cR_cast lk197_88 xk_14_52 b5 ?_
      refine cR_getI lk197_91 rf_14_115 rfl b5 ?_
      refine cR_lift (fun _ _ kk => eE_iload_n lk197_94 g2 kk) ?_
      refine cR_icmp (t := 104) lk197_95 (by decide) (fun c8 => ?_) (fun c8 => ?_)
      · rw [if_pos c8] at h
        exact k_World_launch_b104_ok hp0 hL hF  g lv σ l0 l1 l3 bl0 bl1 g0 g1 g3 _ h
      · rw [if_neg c8] at h
        refine cR_inc (j := 3) (v := l3 + (-1 : Int32)) lk197_98 g3 rfl (by decide) (fun vq9 gq10 kq11 => ?_)
        have gq12 := kq11 0 _ (by decide) (fun e => absurd e (by decide)) g0
        have gq13 := kq11 1 _ (by decide) (fun e => absurd e (by decide)) g1
        have gq14 := kq11 2 _ (by decide) (fun _ => rfl) g2
        refine cR_lift (fun _ _ kk => eE_goto (t := 74) lk197_101 (by decide) kk) ?_
        exact hKK g vq9 σ l0 l1 l2 (l3 + (-1 : Int32)) bl0 bl1 gq12 gq13 gq14 gq10 _ h
def k_World_launch_b0 (F : Nat)  (σ : CS) (l0 : Nat) (l1 : Nat) (l2 : Int32) : Option (CS) :=
  if xc2 .lt (clsz σ 14 l0 15) ((128 : Int32)) = true then (
    (some (csI σ 8 l1 0 0 l2)).bind fun σ16 =>
    (some (csI σ16 8 l1 1 0 (cI σ16 14 l0 1 0))).bind fun σ18 =>
    (some (csI σ18 14 l0 1 0 ((cI σ18 14 l0 1 0) + ((1 : Int32))))).bind fun σ20 =>
    (some (csI σ20 14 l0 3 0 ((cI σ20 14 l0 3 0) + ((1 : Int32))))).bind fun σ22 =>
    k_World_launch_b74 F  F σ22 l0 l1 l2 (clsz σ22 14 l0 15)
  ) else (
    (some (csI σ 14 l0 4 0 ((cI σ 14 l0 4 0) + ((1 : Int32))))).bind fun σ30 =>
    (cladd σ30 14 l0 16 l1).bind fun σ33 =>
    some σ33
  )
set_option maxRecDepth 4000 in
theorem k_World_launch_b0_ok {E : CE} {pF : Nat → List Value → xH → Option (Option Value × xH)} (hp0 : xNPc pF) (hL : lcAll E pF) (hF : lcF pF) {d : Nat} {F : Nat}   : ∀ (g : CG) (lv : xL) (σ : CS) (l0 : Nat) (l1 : Nat) (l2 : Int32), (cob σ 14 l0) → (cob σ 8 l1) → (xg lv 0 = some (.ref (coa E 14 l0))) → (xg lv 1 = some (.ref (coa E 8 l1))) → (xg lv 2 = some (.int l2)) → ∀ res, k_World_launch_b0 F  σ l0 l1 l2 = some res → cR E (cQx [14]) pF (d + 9) kT197 14 4 none none res g σ (0, lv, []) := by
  intro g lv σ l0 l1 l2 bl0 bl1 g0 g1 g2 res h
  unfold k_World_launch_b0 at h
  refine cR_lift (fun _ _ kk => eE_aload_n lk197_0 g0 kk) ?_
  refine cR_getA lk197_1 rf_14_31 (by decide) bl0 ?_
  refine cR_virtL (cl := 14) (i := l0) (f := 15) (as := []) lk197_4 mr_14_55 na_14 rfl rfl (by first | exact Nat.le_of_ble_eq_true rfl | (simp [xcat, cvo_cat, cat_i, cat_j, cat_r]; done)) wv_14 wc_14 rfl bl0 ((hL (d + 0)).1 E g _ 14 l0 15 rfl bl0) (fun _ => ?_)
  refine cR_lift (fun _ _ kk => eE_sipush (v := 128) lk197_7 (by decide) kk) ?_
  refine cR_icmp (t := 33) lk197_10 (by decide) (fun c15 => ?_) (fun c15 => ?_)
  · rw [if_pos c15] at h
    refine cR_lift (fun _ _ kk => eE_aload_n lk197_33 g1 kk) ?_
    refine cR_lift (fun _ _ kk => eE_iload_n lk197_34 g2 kk) ?_
    obtain ⟨σ16, h17, h⟩ := Option.bind_eq_some_iff.mp h
    refine cR_putI lk197_35 rf_14_115 rfl bl1 pf_8_0 rfl h17 ?_
    refine cR_lift (fun _ _ kk => eE_aload_n lk197_38 g1 kk) ?_
    refine cR_lift (fun _ _ kk => eE_aload_n lk197_39 g0 kk) ?_
    refine cR_getI lk197_40 rf_14_118 rfl (cob_any rfl bl0) ?_
    obtain ⟨σ18, h19, h⟩ := Option.bind_eq_some_iff.mp h
    refine cR_putI lk197_43 rf_14_121 rfl (cob_mon (cput_mon h17) bl1) pf_8_1 rfl h19 ?_
    refine cR_lift (fun _ _ kk => eE_aload_n lk197_46 g0 kk) ?_
    refine cR_lift (fun _ _ kk => eE_dup lk197_47 rfl kk) ?_
    refine cR_getI lk197_48 rf_14_118 rfl (cob_any rfl bl0) ?_
    refine cR_lift (fun _ _ kk => eE_iconst (v := 1) lk197_51 (by decide) kk) ?_
    refine cR_lift (fun _ _ kk => eE_iadd lk197_52 kk) ?_
    obtain ⟨σ20, h21, h⟩ := Option.bind_eq_some_iff.mp h
    refine cR_putI lk197_53 rf_14_118 rfl (cob_any rfl bl0) pf_14_1 rfl h21 ?_
    refine cR_lift (fun _ _ kk => eE_aload_n lk197_56 g0 kk) ?_
    refine cR_lift (fun _ _ kk => eE_dup lk197_57 rfl kk) ?_
    refine cR_getI lk197_58 rf_14_124 rfl (cob_any rfl bl0) ?_
    refine cR_lift (fun _ _ kk => eE_iconst (v := 1) lk197_61 (by decide) kk) ?_
    refine cR_lift (fun _ _ kk => eE_iadd lk197_62 kk) ?_
    obtain ⟨σ22, h23, h⟩ := Option.bind_eq_some_iff.mp h
    refine cR_putI lk197_63 rf_14_124 rfl (cob_any rfl bl0) pf_14_3 rfl h23 ?_
    refine cR_lift (fun _ _ kk => eE_aload_n lk197_66 g0 kk) ?_
    refine cR_getA lk197_67 rf_14_31 (by decide) (cob_any rfl bl0) ?_
    refine cR_virtL (cl := 14) (i := l0) (f := 15) (as := []) lk197_70 mr_14_55 na_14 rfl rfl (by first | exact Nat.le_of_ble_eq_true rfl | (simp [xcat, cvo_cat, cat_i, cat_j, cat_r]; done)) wv_14 wc_14 rfl (cob_any rfl bl0) ((hL (d + 0)).1 E g _ 14 l0 15 rfl (cob_any rfl bl0)) (fun _ => ?_)
    refine cR_stI (j := 3) lk197_73 (Or.inr ⟨_, rfl, rfl⟩) (by decide) (fun vq24 gq25 kq26 => ?_)
    have gq27 := kq26 0 _ (by decide) (fun e => absurd e (by decide)) g0
    have gq28 := kq26 1 _ (by decide) (fun e => absurd e (by decide)) g1
    have gq29 := kq26 2 _ (by decide) (fun _ => rfl) g2
    exact k_World_launch_b74_ok hp0 hL hF  F g vq24 σ22 l0 l1 l2 (clsz σ22 14 l0 15) (cob_any rfl bl0) (cob_mon (cput_mon h23) (cob_mon (cput_mon h21) (cob_mon (cput_mon h19) (cob_mon (cput_mon h17) bl1)))) gq27 gq28 gq29 gq25 _ h
  · rw [if_neg c15] at h
    refine cR_lift (fun _ _ kk => eE_aload_n lk197_13 g0 kk) ?_
    refine cR_lift (fun _ _ kk => eE_dup lk197_14 rfl kk) ?_
    refine cR_getI lk197_15 rf_14_108 rfl bl0 ?_
    refine cR_lift (fun _ _ kk => eE_iconst (v := 1) lk197_18 (by decide) kk) ?_
    refine cR_lift (fun _ _ kk => eE_iadd lk197_19 kk) ?_
    obtain ⟨σ30, h31, h⟩ := Option.bind_eq_some_iff.mp h
    refine cR_putI lk197_20 rf_14_108 rfl bl0 pf_14_4 rfl h31 ?_
    refine cR_lift (fun _ _ kk => eE_aload_n lk197_23 g0 kk) ?_
    refine cR_getA lk197_24 rf_14_35 (by decide) (cob_any rfl bl0) ?_
    refine cR_lift (fun _ _ kk => eE_aload_n lk197_27 g1 kk) ?_
    obtain ⟨σ33, h34, h⟩ := Option.bind_eq_some_iff.mp h
    refine cR_virtLG (by exact cQx_sub rfl) (cl := 14) (i := l0) (f := 16) (as := [.ref l1]) lk197_28 mr_14_111 na_2 rfl rfl (by first | exact Nat.le_of_ble_eq_true rfl | (simp [xcat, cvo_cat, cat_i, cat_j, cat_r]; done)) wv_2 wc_2 rfl (cob_any rfl bl0) ((hL (d + 0)).2.2.2.1 E g _ 14 l0 16 l1 _ rfl rfl (cob_any rfl bl0) (clt8 (cob_mon (cput_mon h31) bl1)) h34) (fun _ g_32 g_32e => ?_)
    refine cR_lift (fun _ _ kk => eE_pop lk197_31 rfl kk) ?_
    cases h
    exact cR_end lk197_32 rfl rfl rfl
def k_World_launch (F : Nat) (σ : CS) (l0 : Nat) (l1 : Nat) (l2 : Int32) : Option (CS) := k_World_launch_b0 F σ l0 l1 l2
theorem k_World_launch_ok {E : CE} {pF : Nat → List Value → xH → Option (Option Value × xH)} (hp0 : xNPc pF) (hL : lcAll E pF) (hF : lcF pF) {d : Nat} {g : CG} {σ : CS} {F : Nat} {l0 : Nat} {l1 : Nat} {l2 : Int32} {res : CS} (bl0 : cob σ 14 l0) (bl1 : cob σ 8 l1) (h : k_World_launch F σ l0 l1 l2 = some res) : cCo E (cQx [14]) pF (d + 10) 197 [.ref (coa E 14 l0), .ref (coa E 8 l1), .int l2] none res g σ :=
  cCo_R kk_197 mo_197 ni_197 xm_197 (Nat.le_of_ble_eq_true rfl) (hp0 197 (by decide) _) (k_World_launch_b0_ok hp0 hL hF g _ σ l0 l1 l2 bl0 bl1 rfl rfl rfl _ h)
/-! k_World_drawn (189), depth 1 -/
def k_World_drawn_b36  (σ : CS) (s0 : Int32) : Option ((Int32) × CS) :=
  some (s0, σ)
set_option maxRecDepth 4000 in
theorem k_World_drawn_b36_ok {E : CE} {pF : Nat → List Value → xH → Option (Option Value × xH)} (hp0 : xNPc pF) (hL : lcAll E pF) (hF : lcF pF) {d : Nat}   : ∀ (g : CG) (lv : xL) (σ : CS) (s0 : Int32), ∀ res, k_World_drawn_b36  σ s0 = some res → cR E cQ1 pF (d + 0) kT189 14 2 (some FieldType.int) (some (.int res.1)) res.2 g σ (36, lv, [.int s0]) := by
  intro g lv σ s0 res h
  unfold k_World_drawn_b36 at h
  cases h
  exact cR_end lk189_36 rfl rfl rfl
def k_World_drawn_b0  (σ : CS) (l0 : Nat) (l1 : Int32) : Option ((Int32) × CS) :=
  (some (csJ σ 14 l0 9 0 (((cJ σ 14 l0 9 0) * ((6364136223846793005 : Int64))) + ((1442695040888963407 : Int64))))).bind fun σ1 =>
  if xc2 .ge l1 ((1 : Int32)) = true then (
    if (l1.toInt64) = 0 then none else
    k_World_drawn_b36  σ1 (((((cJ σ1 14 l0 9 0).toUInt64 >>> (((33 : Int32)).toInt64.toUInt64 &&& Int64.toUInt64 63)).toInt64) - (((cJ σ1 14 l0 9 0).toUInt64 >>> (((33 : Int32)).toInt64.toUInt64 &&& Int64.toUInt64 63)).toInt64) / (l1.toInt64) * (l1.toInt64)).toInt32)
  ) else (
    k_World_drawn_b36  σ1 ((0 : Int32))
  )
set_option maxRecDepth 4000 in
theorem k_World_drawn_b0_ok {E : CE} {pF : Nat → List Value → xH → Option (Option Value × xH)} (hp0 : xNPc pF) (hL : lcAll E pF) (hF : lcF pF) {d : Nat}   : ∀ (g : CG) (lv : xL) (σ : CS) (l0 : Nat) (l1 : Int32), (cob σ 14 l0) → (xg lv 0 = some (.ref (coa E 14 l0))) → (xg lv 1 = some (.int l1)) → ∀ res, k_World_drawn_b0  σ l0 l1 = some res → cR E cQ1 pF (d + 0) kT189 14 2 (some FieldType.int) (some (.int res.1)) res.2 g σ (0, lv, []) := by
  intro g lv σ l0 l1 bl0 g0 g1 res h
  unfold k_World_drawn_b0 at h
  refine cR_lift (fun _ _ kk => eE_aload_n lk189_0 g0 kk) ?_
  refine cR_lift (fun _ _ kk => eE_aload_n lk189_1 g0 kk) ?_
  refine cR_getJ lk189_2 rf_14_100 rfl bl0 ?_
  refine cR_lift (fun _ _ kk => eE_ldc2_w (v := 6364136223846793005) lk189_5 xl_14_104 kk) ?_
  refine cR_lift (fun _ _ kk => eE_lmul lk189_8 kk) ?_
  refine cR_lift (fun _ _ kk => eE_ldc2_w (v := 1442695040888963407) lk189_9 xl_14_106 kk) ?_
  refine cR_lift (fun _ _ kk => eE_ladd lk189_12 kk) ?_
  obtain ⟨σ1, h2, h⟩ := Option.bind_eq_some_iff.mp h
  refine cR_putJ lk189_13 rf_14_100 rfl bl0 pf_14_9 h2 ?_
  refine cR_lift (fun _ _ kk => eE_iload_n lk189_16 g1 kk) ?_
  refine cR_lift (fun _ _ kk => eE_iconst (v := 1) lk189_17 (by decide) kk) ?_
  refine cR_icmp (t := 25) lk189_18 (by decide) (fun c3 => ?_) (fun c3 => ?_)
  · rw [if_pos c3] at h
    refine cR_lift (fun _ _ kk => eE_aload_n lk189_25 g0 kk) ?_
    refine cR_getJ lk189_26 rf_14_100 rfl (cob_any rfl bl0) ?_
    refine cR_lift (fun _ _ kk => eE_bipush (v := 33) lk189_29 (by decide) kk) ?_
    refine cR_lift (fun _ _ kk => eE_lushr lk189_31 kk) ?_
    refine cR_lift (fun _ _ kk => eE_iload_n lk189_32 g1 kk) ?_
    refine cR_lift (fun _ _ kk => eE_i2l lk189_33 kk) ?_
    by_cases z4 : (l1.toInt64) = 0
    · rw [if_pos z4] at h; cases h
    rw [if_neg z4] at h
    refine cR_lift (fun _ _ kk => eE_lrem lk189_34 z4 kk) ?_
    refine cR_lift (fun _ _ kk => eE_l2i lk189_35 kk) ?_
    exact k_World_drawn_b36_ok hp0 hL hF  g lv σ1 (((((cJ σ1 14 l0 9 0).toUInt64 >>> (((33 : Int32)).toInt64.toUInt64 &&& Int64.toUInt64 63)).toInt64) - (((cJ σ1 14 l0 9 0).toUInt64 >>> (((33 : Int32)).toInt64.toUInt64 &&& Int64.toUInt64 63)).toInt64) / (l1.toInt64) * (l1.toInt64)).toInt32)  _ h
  · rw [if_neg c3] at h
    refine cR_lift (fun _ _ kk => eE_iconst (v := 0) lk189_21 (by decide) kk) ?_
    refine cR_lift (fun _ _ kk => eE_goto (t := 36) lk189_22 (by decide) kk) ?_
    exact k_World_drawn_b36_ok hp0 hL hF  g lv σ1 ((0 : Int32))  _ h
def k_World_drawn (σ : CS) (l0 : Nat) (l1 : Int32) : Option ((Int32) × CS) := k_World_drawn_b0 σ l0 l1
theorem k_World_drawn_ok {E : CE} {pF : Nat → List Value → xH → Option (Option Value × xH)} (hp0 : xNPc pF) (hL : lcAll E pF) (hF : lcF pF) {d : Nat} {g : CG} {σ : CS} {l0 : Nat} {l1 : Int32} {res : (Int32) × CS} (bl0 : cob σ 14 l0) (h : k_World_drawn σ l0 l1 = some res) : cCo E cQ1 pF (d + 1) 189 [.ref (coa E 14 l0), .int l1] (some (.int res.1)) res.2 g σ :=
  cCo_R kk_189 mo_189 ni_189 xm_189 (Nat.le_of_ble_eq_true rfl) (hp0 189 (by decide) _) (k_World_drawn_b0_ok hp0 hL hF g _ σ l0 l1 bl0 rfl rfl _ h)
/-! k_Letter_copyFrom (59), depth 1 -/
def k_Letter_copyFrom_b0  (σ : CS) (l0 : Nat) (l1 : Nat) : Option (CS) :=
  (some (csI σ 8 l0 2 0 (cI σ 8 l1 2 0))).bind fun σ1 =>
  (some (csI σ1 8 l0 3 0 (cI σ1 8 l1 3 0))).bind fun σ3 =>
  (some (csI σ3 8 l0 4 0 (cI σ3 8 l1 4 0))).bind fun σ5 =>
  (some (csI σ5 8 l0 5 0 (cI σ5 8 l1 5 0))).bind fun σ7 =>
  (some (csI σ7 8 l0 6 0 (cI σ7 8 l1 6 0))).bind fun σ9 =>
  (some (csI σ9 8 l0 7 0 (cI σ9 8 l1 7 0))).bind fun σ11 =>
  (some (csI σ11 8 l0 8 0 (cI σ11 8 l1 8 0))).bind fun σ13 =>
  (some (csI σ13 8 l0 9 0 (cI σ13 8 l1 9 0))).bind fun σ15 =>
  (some (csI σ15 8 l0 10 0 (cI σ15 8 l1 10 0))).bind fun σ17 =>
  (some (csI σ17 8 l0 11 0 (cI σ17 8 l1 11 0))).bind fun σ19 =>
  (some (csI σ19 8 l0 12 0 (cI σ19 8 l1 12 0))).bind fun σ21 =>
  (some (csI σ21 8 l0 13 0 (cI σ21 8 l1 13 0))).bind fun σ23 =>
  (some (csI σ23 8 l0 14 0 (cI σ23 8 l1 14 0))).bind fun σ25 =>
  (some (csI σ25 8 l0 15 0 (cI σ25 8 l1 15 0))).bind fun σ27 =>
  (some (csI σ27 8 l0 16 0 (cI σ27 8 l1 16 0))).bind fun σ29 =>
  (some (csI σ29 8 l0 17 0 (cI σ29 8 l1 17 0))).bind fun σ31 =>
  (ccpy σ31 8 l1 18 ((0 : Int32)) 8 l0 18 ((0 : Int32)) (Int32.ofNat (cal σ31 8 l0 18))).bind fun σ33 =>
  (ccpy σ33 8 l1 19 ((0 : Int32)) 8 l0 19 ((0 : Int32)) (Int32.ofNat (cal σ33 8 l0 19))).bind fun σ35 =>
  some σ35
set_option maxRecDepth 4000 in
theorem k_Letter_copyFrom_b0_ok {E : CE} {pF : Nat → List Value → xH → Option (Option Value × xH)} (hp0 : xNPc pF) (hL : lcAll E pF) (hF : lcF pF) {d : Nat}   : ∀ (g : CG) (lv : xL) (σ : CS) (l0 : Nat) (l1 : Nat), (cob σ 8 l0) → (cob σ 8 l1) → (xg lv 0 = some (.ref (coa E 8 l0))) → (xg lv 1 = some (.ref (coa E 8 l1))) → ∀ res, k_Letter_copyFrom_b0  σ l0 l1 = some res → cR E cQ1 pF (d + 0) kT59 8 2 none none res g σ (0, lv, []) := by
  intro g lv σ l0 l1 bl0 bl1 g0 g1 res h
  unfold k_Letter_copyFrom_b0 at h
  refine cR_lift (fun _ _ kk => eE_aload_n lk59_0 g0 kk) ?_
  refine cR_lift (fun _ _ kk => eE_aload_n lk59_1 g1 kk) ?_
  refine cR_getI lk59_2 rf_8_19 rfl bl1 ?_
  obtain ⟨σ1, h2, h⟩ := Option.bind_eq_some_iff.mp h
  refine cR_putI lk59_5 rf_8_19 rfl bl0 pf_8_2 rfl h2 ?_
  refine cR_lift (fun _ _ kk => eE_aload_n lk59_8 g0 kk) ?_
  refine cR_lift (fun _ _ kk => eE_aload_n lk59_9 g1 kk) ?_
  refine cR_getI lk59_10 rf_8_23 rfl (cob_mon (cput_mon h2) bl1) ?_
  obtain ⟨σ3, h4, h⟩ := Option.bind_eq_some_iff.mp h
  refine cR_putI lk59_13 rf_8_23 rfl (cob_mon (cput_mon h2) bl0) pf_8_3 rfl h4 ?_
  refine cR_lift (fun _ _ kk => eE_aload_n lk59_16 g0 kk) ?_
  refine cR_lift (fun _ _ kk => eE_aload_n lk59_17 g1 kk) ?_
  refine cR_getI lk59_18 rf_8_26 rfl (cob_mon (cput_mon h4) (cob_mon (cput_mon h2) bl1)) ?_
  obtain ⟨σ5, h6, h⟩ := Option.bind_eq_some_iff.mp h
  refine cR_putI lk59_21 rf_8_26 rfl (cob_mon (cput_mon h4) (cob_mon (cput_mon h2) bl0)) pf_8_4 rfl h6 ?_
  refine cR_lift (fun _ _ kk => eE_aload_n lk59_24 g0 kk) ?_
  refine cR_lift (fun _ _ kk => eE_aload_n lk59_25 g1 kk) ?_
  refine cR_getI lk59_26 rf_8_29 rfl (cob_mon (cput_mon h6) (cob_mon (cput_mon h4) (cob_mon (cput_mon h2) bl1))) ?_
  obtain ⟨σ7, h8, h⟩ := Option.bind_eq_some_iff.mp h
  refine cR_putI lk59_29 rf_8_29 rfl (cob_mon (cput_mon h6) (cob_mon (cput_mon h4) (cob_mon (cput_mon h2) bl0))) pf_8_5 rfl h8 ?_
  refine cR_lift (fun _ _ kk => eE_aload_n lk59_32 g0 kk) ?_
  refine cR_lift (fun _ _ kk => eE_aload_n lk59_33 g1 kk) ?_
  refine cR_getI lk59_34 rf_8_32 rfl (cob_mon (cput_mon h8) (cob_mon (cput_mon h6) (cob_mon (cput_mon h4) (cob_mon (cput_mon h2) bl1)))) ?_
  obtain ⟨σ9, h10, h⟩ := Option.bind_eq_some_iff.mp h
  refine cR_putI lk59_37 rf_8_32 rfl (cob_mon (cput_mon h8) (cob_mon (cput_mon h6) (cob_mon (cput_mon h4) (cob_mon (cput_mon h2) bl0)))) pf_8_6 rfl h10 ?_
  refine cR_lift (fun _ _ kk => eE_aload_n lk59_40 g0 kk) ?_
  refine cR_lift (fun _ _ kk => eE_aload_n lk59_41 g1 kk) ?_
  refine cR_getI lk59_42 rf_8_35 rfl (cob_mon (cput_mon h10) (cob_mon (cput_mon h8) (cob_mon (cput_mon h6) (cob_mon (cput_mon h4) (cob_mon (cput_mon h2) bl1))))) ?_
  obtain ⟨σ11, h12, h⟩ := Option.bind_eq_some_iff.mp h
  refine cR_putI lk59_45 rf_8_35 rfl (cob_mon (cput_mon h10) (cob_mon (cput_mon h8) (cob_mon (cput_mon h6) (cob_mon (cput_mon h4) (cob_mon (cput_mon h2) bl0))))) pf_8_7 rfl h12 ?_
  refine cR_lift (fun _ _ kk => eE_aload_n lk59_48 g0 kk) ?_
  refine cR_lift (fun _ _ kk => eE_aload_n lk59_49 g1 kk) ?_
  refine cR_getI lk59_50 rf_8_38 rfl (cob_mon (cput_mon h12) (cob_mon (cput_mon h10) (cob_mon (cput_mon h8) (cob_mon (cput_mon h6) (cob_mon (cput_mon h4) (cob_mon (cput_mon h2) bl1)))))) ?_
  obtain ⟨σ13, h14, h⟩ := Option.bind_eq_some_iff.mp h
  refine cR_putI lk59_53 rf_8_38 rfl (cob_mon (cput_mon h12) (cob_mon (cput_mon h10) (cob_mon (cput_mon h8) (cob_mon (cput_mon h6) (cob_mon (cput_mon h4) (cob_mon (cput_mon h2) bl0)))))) pf_8_8 rfl h14 ?_
  refine cR_lift (fun _ _ kk => eE_aload_n lk59_56 g0 kk) ?_
  refine cR_lift (fun _ _ kk => eE_aload_n lk59_57 g1 kk) ?_
  refine cR_getI lk59_58 rf_8_41 rfl (cob_mon (cput_mon h14) (cob_mon (cput_mon h12) (cob_mon (cput_mon h10) (cob_mon (cput_mon h8) (cob_mon (cput_mon h6) (cob_mon (cput_mon h4) (cob_mon (cput_mon h2) bl1))))))) ?_
  obtain ⟨σ15, h16, h⟩ := Option.bind_eq_some_iff.mp h
  refine cR_putI lk59_61 rf_8_41 rfl (cob_mon (cput_mon h14) (cob_mon (cput_mon h12) (cob_mon (cput_mon h10) (cob_mon (cput_mon h8) (cob_mon (cput_mon h6) (cob_mon (cput_mon h4) (cob_mon (cput_mon h2) bl0))))))) pf_8_9 rfl h16 ?_
  refine cR_lift (fun _ _ kk => eE_aload_n lk59_64 g0 kk) ?_
  refine cR_lift (fun _ _ kk => eE_aload_n lk59_65 g1 kk) ?_
  refine cR_getI lk59_66 rf_8_44 rfl (cob_mon (cput_mon h16) (cob_mon (cput_mon h14) (cob_mon (cput_mon h12) (cob_mon (cput_mon h10) (cob_mon (cput_mon h8) (cob_mon (cput_mon h6) (cob_mon (cput_mon h4) (cob_mon (cput_mon h2) bl1)))))))) ?_
  obtain ⟨σ17, h18, h⟩ := Option.bind_eq_some_iff.mp h
  refine cR_putI lk59_69 rf_8_44 rfl (cob_mon (cput_mon h16) (cob_mon (cput_mon h14) (cob_mon (cput_mon h12) (cob_mon (cput_mon h10) (cob_mon (cput_mon h8) (cob_mon (cput_mon h6) (cob_mon (cput_mon h4) (cob_mon (cput_mon h2) bl0)))))))) pf_8_10 rfl h18 ?_
  refine cR_lift (fun _ _ kk => eE_aload_n lk59_72 g0 kk) ?_
  refine cR_lift (fun _ _ kk => eE_aload_n lk59_73 g1 kk) ?_
  refine cR_getI lk59_74 rf_8_47 rfl (cob_mon (cput_mon h18) (cob_mon (cput_mon h16) (cob_mon (cput_mon h14) (cob_mon (cput_mon h12) (cob_mon (cput_mon h10) (cob_mon (cput_mon h8) (cob_mon (cput_mon h6) (cob_mon (cput_mon h4) (cob_mon (cput_mon h2) bl1))))))))) ?_
  obtain ⟨σ19, h20, h⟩ := Option.bind_eq_some_iff.mp h
  refine cR_putI lk59_77 rf_8_47 rfl (cob_mon (cput_mon h18) (cob_mon (cput_mon h16) (cob_mon (cput_mon h14) (cob_mon (cput_mon h12) (cob_mon (cput_mon h10) (cob_mon (cput_mon h8) (cob_mon (cput_mon h6) (cob_mon (cput_mon h4) (cob_mon (cput_mon h2) bl0))))))))) pf_8_11 rfl h20 ?_
  refine cR_lift (fun _ _ kk => eE_aload_n lk59_80 g0 kk) ?_
  refine cR_lift (fun _ _ kk => eE_aload_n lk59_81 g1 kk) ?_
  refine cR_getI lk59_82 rf_8_50 rfl (cob_mon (cput_mon h20) (cob_mon (cput_mon h18) (cob_mon (cput_mon h16) (cob_mon (cput_mon h14) (cob_mon (cput_mon h12) (cob_mon (cput_mon h10) (cob_mon (cput_mon h8) (cob_mon (cput_mon h6) (cob_mon (cput_mon h4) (cob_mon (cput_mon h2) bl1)))))))))) ?_
  obtain ⟨σ21, h22, h⟩ := Option.bind_eq_some_iff.mp h
  refine cR_putI lk59_85 rf_8_50 rfl (cob_mon (cput_mon h20) (cob_mon (cput_mon h18) (cob_mon (cput_mon h16) (cob_mon (cput_mon h14) (cob_mon (cput_mon h12) (cob_mon (cput_mon h10) (cob_mon (cput_mon h8) (cob_mon (cput_mon h6) (cob_mon (cput_mon h4) (cob_mon (cput_mon h2) bl0)))))))))) pf_8_12 rfl h22 ?_
  refine cR_lift (fun _ _ kk => eE_aload_n lk59_88 g0 kk) ?_
  refine cR_lift (fun _ _ kk => eE_aload_n lk59_89 g1 kk) ?_
  refine cR_getI lk59_90 rf_8_53 rfl (cob_mon (cput_mon h22) (cob_mon (cput_mon h20) (cob_mon (cput_mon h18) (cob_mon (cput_mon h16) (cob_mon (cput_mon h14) (cob_mon (cput_mon h12) (cob_mon (cput_mon h10) (cob_mon (cput_mon h8) (cob_mon (cput_mon h6) (cob_mon (cput_mon h4) (cob_mon (cput_mon h2) bl1))))))))))) ?_
  obtain ⟨σ23, h24, h⟩ := Option.bind_eq_some_iff.mp h
  refine cR_putI lk59_93 rf_8_53 rfl (cob_mon (cput_mon h22) (cob_mon (cput_mon h20) (cob_mon (cput_mon h18) (cob_mon (cput_mon h16) (cob_mon (cput_mon h14) (cob_mon (cput_mon h12) (cob_mon (cput_mon h10) (cob_mon (cput_mon h8) (cob_mon (cput_mon h6) (cob_mon (cput_mon h4) (cob_mon (cput_mon h2) bl0))))))))))) pf_8_13 rfl h24 ?_
  refine cR_lift (fun _ _ kk => eE_aload_n lk59_96 g0 kk) ?_
  refine cR_lift (fun _ _ kk => eE_aload_n lk59_97 g1 kk) ?_
  refine cR_getI lk59_98 rf_8_56 rfl (cob_mon (cput_mon h24) (cob_mon (cput_mon h22) (cob_mon (cput_mon h20) (cob_mon (cput_mon h18) (cob_mon (cput_mon h16) (cob_mon (cput_mon h14) (cob_mon (cput_mon h12) (cob_mon (cput_mon h10) (cob_mon (cput_mon h8) (cob_mon (cput_mon h6) (cob_mon (cput_mon h4) (cob_mon (cput_mon h2) bl1)))))))))))) ?_
  obtain ⟨σ25, h26, h⟩ := Option.bind_eq_some_iff.mp h
  refine cR_putI lk59_101 rf_8_56 rfl (cob_mon (cput_mon h24) (cob_mon (cput_mon h22) (cob_mon (cput_mon h20) (cob_mon (cput_mon h18) (cob_mon (cput_mon h16) (cob_mon (cput_mon h14) (cob_mon (cput_mon h12) (cob_mon (cput_mon h10) (cob_mon (cput_mon h8) (cob_mon (cput_mon h6) (cob_mon (cput_mon h4) (cob_mon (cput_mon h2) bl0)))))))))))) pf_8_14 rfl h26 ?_
  refine cR_lift (fun _ _ kk => eE_aload_n lk59_104 g0 kk) ?_
  refine cR_lift (fun _ _ kk => eE_aload_n lk59_105 g1 kk) ?_
  refine cR_getI lk59_106 rf_8_59 rfl (cob_mon (cput_mon h26) (cob_mon (cput_mon h24) (cob_mon (cput_mon h22) (cob_mon (cput_mon h20) (cob_mon (cput_mon h18) (cob_mon (cput_mon h16) (cob_mon (cput_mon h14) (cob_mon (cput_mon h12) (cob_mon (cput_mon h10) (cob_mon (cput_mon h8) (cob_mon (cput_mon h6) (cob_mon (cput_mon h4) (cob_mon (cput_mon h2) bl1))))))))))))) ?_
  obtain ⟨σ27, h28, h⟩ := Option.bind_eq_some_iff.mp h
  refine cR_putI lk59_109 rf_8_59 rfl (cob_mon (cput_mon h26) (cob_mon (cput_mon h24) (cob_mon (cput_mon h22) (cob_mon (cput_mon h20) (cob_mon (cput_mon h18) (cob_mon (cput_mon h16) (cob_mon (cput_mon h14) (cob_mon (cput_mon h12) (cob_mon (cput_mon h10) (cob_mon (cput_mon h8) (cob_mon (cput_mon h6) (cob_mon (cput_mon h4) (cob_mon (cput_mon h2) bl0))))))))))))) pf_8_15 rfl h28 ?_
  refine cR_lift (fun _ _ kk => eE_aload_n lk59_112 g0 kk) ?_
  refine cR_lift (fun _ _ kk => eE_aload_n lk59_113 g1 kk) ?_
  refine cR_getI lk59_114 rf_8_62 rfl (cob_mon (cput_mon h28) (cob_mon (cput_mon h26) (cob_mon (cput_mon h24) (cob_mon (cput_mon h22) (cob_mon (cput_mon h20) (cob_mon (cput_mon h18) (cob_mon (cput_mon h16) (cob_mon (cput_mon h14) (cob_mon (cput_mon h12) (cob_mon (cput_mon h10) (cob_mon (cput_mon h8) (cob_mon (cput_mon h6) (cob_mon (cput_mon h4) (cob_mon (cput_mon h2) bl1)))))))))))))) ?_
  obtain ⟨σ29, h30, h⟩ := Option.bind_eq_some_iff.mp h
  refine cR_putI lk59_117 rf_8_62 rfl (cob_mon (cput_mon h28) (cob_mon (cput_mon h26) (cob_mon (cput_mon h24) (cob_mon (cput_mon h22) (cob_mon (cput_mon h20) (cob_mon (cput_mon h18) (cob_mon (cput_mon h16) (cob_mon (cput_mon h14) (cob_mon (cput_mon h12) (cob_mon (cput_mon h10) (cob_mon (cput_mon h8) (cob_mon (cput_mon h6) (cob_mon (cput_mon h4) (cob_mon (cput_mon h2) bl0)))))))))))))) pf_8_16 rfl h30 ?_
  refine cR_lift (fun _ _ kk => eE_aload_n lk59_120 g0 kk) ?_
  refine cR_lift (fun _ _ kk => eE_aload_n lk59_121 g1 kk) ?_
  refine cR_getI lk59_122 rf_8_65 rfl (cob_mon (cput_mon h30) (cob_mon (cput_mon h28) (cob_mon (cput_mon h26) (cob_mon (cput_mon h24) (cob_mon (cput_mon h22) (cob_mon (cput_mon h20) (cob_mon (cput_mon h18) (cob_mon (cput_mon h16) (cob_mon (cput_mon h14) (cob_mon (cput_mon h12) (cob_mon (cput_mon h10) (cob_mon (cput_mon h8) (cob_mon (cput_mon h6) (cob_mon (cput_mon h4) (cob_mon (cput_mon h2) bl1))))))))))))))) ?_
  obtain ⟨σ31, h32, h⟩ := Option.bind_eq_some_iff.mp h
  refine cR_putI lk59_125 rf_8_65 rfl (cob_mon (cput_mon h30) (cob_mon (cput_mon h28) (cob_mon (cput_mon h26) (cob_mon (cput_mon h24) (cob_mon (cput_mon h22) (cob_mon (cput_mon h20) (cob_mon (cput_mon h18) (cob_mon (cput_mon h16) (cob_mon (cput_mon h14) (cob_mon (cput_mon h12) (cob_mon (cput_mon h10) (cob_mon (cput_mon h8) (cob_mon (cput_mon h6) (cob_mon (cput_mon h4) (cob_mon (cput_mon h2) bl0))))))))))))))) pf_8_17 rfl h32 ?_
  refine cR_lift (fun _ _ kk => eE_aload_n lk59_128 g1 kk) ?_
  refine cR_getA lk59_129 rf_8_9 (by decide) (cob_mon (cput_mon h32) (cob_mon (cput_mon h30) (cob_mon (cput_mon h28) (cob_mon (cput_mon h26) (cob_mon (cput_mon h24) (cob_mon (cput_mon h22) (cob_mon (cput_mon h20) (cob_mon (cput_mon h18) (cob_mon (cput_mon h16) (cob_mon (cput_mon h14) (cob_mon (cput_mon h12) (cob_mon (cput_mon h10) (cob_mon (cput_mon h8) (cob_mon (cput_mon h6) (cob_mon (cput_mon h4) (cob_mon (cput_mon h2) bl1)))))))))))))))) ?_
  refine cR_lift (fun _ _ kk => eE_iconst (v := 0) lk59_132 (by decide) kk) ?_
  refine cR_lift (fun _ _ kk => eE_aload_n lk59_133 g0 kk) ?_
  refine cR_getA lk59_134 rf_8_9 (by decide) (cob_mon (cput_mon h32) (cob_mon (cput_mon h30) (cob_mon (cput_mon h28) (cob_mon (cput_mon h26) (cob_mon (cput_mon h24) (cob_mon (cput_mon h22) (cob_mon (cput_mon h20) (cob_mon (cput_mon h18) (cob_mon (cput_mon h16) (cob_mon (cput_mon h14) (cob_mon (cput_mon h12) (cob_mon (cput_mon h10) (cob_mon (cput_mon h8) (cob_mon (cput_mon h6) (cob_mon (cput_mon h4) (cob_mon (cput_mon h2) bl0)))))))))))))))) ?_
  refine cR_lift (fun _ _ kk => eE_iconst (v := 0) lk59_137 (by decide) kk) ?_
  refine cR_lift (fun _ _ kk => eE_aload_n lk59_138 g0 kk) ?_
  refine cR_getA lk59_139 rf_8_9 (by decide) (cob_mon (cput_mon h32) (cob_mon (cput_mon h30) (cob_mon (cput_mon h28) (cob_mon (cput_mon h26) (cob_mon (cput_mon h24) (cob_mon (cput_mon h22) (cob_mon (cput_mon h20) (cob_mon (cput_mon h18) (cob_mon (cput_mon h16) (cob_mon (cput_mon h14) (cob_mon (cput_mon h12) (cob_mon (cput_mon h10) (cob_mon (cput_mon h8) (cob_mon (cput_mon h6) (cob_mon (cput_mon h4) (cob_mon (cput_mon h2) bl0)))))))))))))))) ?_
  refine cR_alen (cl := 8) (i := l0) (f := 18) lk59_142 (by decide) (by decide) (cob_mon (cput_mon h32) (cob_mon (cput_mon h30) (cob_mon (cput_mon h28) (cob_mon (cput_mon h26) (cob_mon (cput_mon h24) (cob_mon (cput_mon h22) (cob_mon (cput_mon h20) (cob_mon (cput_mon h18) (cob_mon (cput_mon h16) (cob_mon (cput_mon h14) (cob_mon (cput_mon h12) (cob_mon (cput_mon h10) (cob_mon (cput_mon h8) (cob_mon (cput_mon h6) (cob_mon (cput_mon h4) (cob_mon (cput_mon h2) bl0)))))))))))))))) ?_
  obtain ⟨σ33, h34, h⟩ := Option.bind_eq_some_iff.mp h
  refine cR_cpy (a := 8) (i := l1) (f := 18) (a' := 8) (i' := l0) (f' := 18) lk59_143 yc_8_68.1 yc_8_68.2 (by decide) (by decide) (by decide) (cob_mon (cput_mon h32) (cob_mon (cput_mon h30) (cob_mon (cput_mon h28) (cob_mon (cput_mon h26) (cob_mon (cput_mon h24) (cob_mon (cput_mon h22) (cob_mon (cput_mon h20) (cob_mon (cput_mon h18) (cob_mon (cput_mon h16) (cob_mon (cput_mon h14) (cob_mon (cput_mon h12) (cob_mon (cput_mon h10) (cob_mon (cput_mon h8) (cob_mon (cput_mon h6) (cob_mon (cput_mon h4) (cob_mon (cput_mon h2) bl1)))))))))))))))) (cob_mon (cput_mon h32) (cob_mon (cput_mon h30) (cob_mon (cput_mon h28) (cob_mon (cput_mon h26) (cob_mon (cput_mon h24) (cob_mon (cput_mon h22) (cob_mon (cput_mon h20) (cob_mon (cput_mon h18) (cob_mon (cput_mon h16) (cob_mon (cput_mon h14) (cob_mon (cput_mon h12) (cob_mon (cput_mon h10) (cob_mon (cput_mon h8) (cob_mon (cput_mon h6) (cob_mon (cput_mon h4) (cob_mon (cput_mon h2) bl0)))))))))))))))) (by first | exact Nat.le_of_ble_eq_true rfl | (simp [xcat, cvo_cat, cat_i, cat_j, cat_r]; done)) h34 ?_
  refine cR_lift (fun _ _ kk => eE_aload_n lk59_146 g1 kk) ?_
  refine cR_getA lk59_147 rf_8_15 (by decide) (cob_mon (ccpy_mon h34) (cob_mon (cput_mon h32) (cob_mon (cput_mon h30) (cob_mon (cput_mon h28) (cob_mon (cput_mon h26) (cob_mon (cput_mon h24) (cob_mon (cput_mon h22) (cob_mon (cput_mon h20) (cob_mon (cput_mon h18) (cob_mon (cput_mon h16) (cob_mon (cput_mon h14) (cob_mon (cput_mon h12) (cob_mon (cput_mon h10) (cob_mon (cput_mon h8) (cob_mon (cput_mon h6) (cob_mon (cput_mon h4) (cob_mon (cput_mon h2) bl1))))))))))))))))) ?_
  refine cR_lift (fun _ _ kk => eE_iconst (v := 0) lk59_150 (by decide) kk) ?_
  refine cR_lift (fun _ _ kk => eE_aload_n lk59_151 g0 kk) ?_
  refine cR_getA lk59_152 rf_8_15 (by decide) (cob_mon (ccpy_mon h34) (cob_mon (cput_mon h32) (cob_mon (cput_mon h30) (cob_mon (cput_mon h28) (cob_mon (cput_mon h26) (cob_mon (cput_mon h24) (cob_mon (cput_mon h22) (cob_mon (cput_mon h20) (cob_mon (cput_mon h18) (cob_mon (cput_mon h16) (cob_mon (cput_mon h14) (cob_mon (cput_mon h12) (cob_mon (cput_mon h10) (cob_mon (cput_mon h8) (cob_mon (cput_mon h6) (cob_mon (cput_mon h4) (cob_mon (cput_mon h2) bl0))))))))))))))))) ?_
  refine cR_lift (fun _ _ kk => eE_iconst (v := 0) lk59_155 (by decide) kk) ?_
  refine cR_lift (fun _ _ kk => eE_aload_n lk59_156 g0 kk) ?_
  refine cR_getA lk59_157 rf_8_15 (by decide) (cob_mon (ccpy_mon h34) (cob_mon (cput_mon h32) (cob_mon (cput_mon h30) (cob_mon (cput_mon h28) (cob_mon (cput_mon h26) (cob_mon (cput_mon h24) (cob_mon (cput_mon h22) (cob_mon (cput_mon h20) (cob_mon (cput_mon h18) (cob_mon (cput_mon h16) (cob_mon (cput_mon h14) (cob_mon (cput_mon h12) (cob_mon (cput_mon h10) (cob_mon (cput_mon h8) (cob_mon (cput_mon h6) (cob_mon (cput_mon h4) (cob_mon (cput_mon h2) bl0))))))))))))))))) ?_
  refine cR_alen (cl := 8) (i := l0) (f := 19) lk59_160 (by decide) (by decide) (cob_mon (ccpy_mon h34) (cob_mon (cput_mon h32) (cob_mon (cput_mon h30) (cob_mon (cput_mon h28) (cob_mon (cput_mon h26) (cob_mon (cput_mon h24) (cob_mon (cput_mon h22) (cob_mon (cput_mon h20) (cob_mon (cput_mon h18) (cob_mon (cput_mon h16) (cob_mon (cput_mon h14) (cob_mon (cput_mon h12) (cob_mon (cput_mon h10) (cob_mon (cput_mon h8) (cob_mon (cput_mon h6) (cob_mon (cput_mon h4) (cob_mon (cput_mon h2) bl0))))))))))))))))) ?_
  obtain ⟨σ35, h36, h⟩ := Option.bind_eq_some_iff.mp h
  refine cR_cpy (a := 8) (i := l1) (f := 19) (a' := 8) (i' := l0) (f' := 19) lk59_161 yc_8_68.1 yc_8_68.2 (by decide) (by decide) (by decide) (cob_mon (ccpy_mon h34) (cob_mon (cput_mon h32) (cob_mon (cput_mon h30) (cob_mon (cput_mon h28) (cob_mon (cput_mon h26) (cob_mon (cput_mon h24) (cob_mon (cput_mon h22) (cob_mon (cput_mon h20) (cob_mon (cput_mon h18) (cob_mon (cput_mon h16) (cob_mon (cput_mon h14) (cob_mon (cput_mon h12) (cob_mon (cput_mon h10) (cob_mon (cput_mon h8) (cob_mon (cput_mon h6) (cob_mon (cput_mon h4) (cob_mon (cput_mon h2) bl1))))))))))))))))) (cob_mon (ccpy_mon h34) (cob_mon (cput_mon h32) (cob_mon (cput_mon h30) (cob_mon (cput_mon h28) (cob_mon (cput_mon h26) (cob_mon (cput_mon h24) (cob_mon (cput_mon h22) (cob_mon (cput_mon h20) (cob_mon (cput_mon h18) (cob_mon (cput_mon h16) (cob_mon (cput_mon h14) (cob_mon (cput_mon h12) (cob_mon (cput_mon h10) (cob_mon (cput_mon h8) (cob_mon (cput_mon h6) (cob_mon (cput_mon h4) (cob_mon (cput_mon h2) bl0))))))))))))))))) (by first | exact Nat.le_of_ble_eq_true rfl | (simp [xcat, cvo_cat, cat_i, cat_j, cat_r]; done)) h36 ?_
  cases h
  exact cR_end lk59_164 rfl rfl rfl
def k_Letter_copyFrom (σ : CS) (l0 : Nat) (l1 : Nat) : Option (CS) := k_Letter_copyFrom_b0 σ l0 l1
theorem k_Letter_copyFrom_ok {E : CE} {pF : Nat → List Value → xH → Option (Option Value × xH)} (hp0 : xNPc pF) (hL : lcAll E pF) (hF : lcF pF) {d : Nat} {g : CG} {σ : CS} {l0 : Nat} {l1 : Nat} {res : CS} (bl0 : cob σ 8 l0) (bl1 : cob σ 8 l1) (h : k_Letter_copyFrom σ l0 l1 = some res) : cCo E cQ1 pF (d + 1) 59 [.ref (coa E 8 l0), .ref (coa E 8 l1)] none res g σ :=
  cCo_R kk_59 mo_59 ni_59 xm_59 (Nat.le_of_ble_eq_true rfl) (hp0 59 (by decide) _) (k_Letter_copyFrom_b0_ok hp0 hL hF g _ σ l0 l1 bl0 bl1 rfl rfl _ h)
/-! k_World_post (199), depth 11 -/
def k_World_post_b212 (F : Nat)  (σ : CS) : Option (CS) :=
  some σ
set_option maxRecDepth 4000 in
theorem k_World_post_b212_ok {E : CE} {pF : Nat → List Value → xH → Option (Option Value × xH)} (hp0 : xNPc pF) (hL : lcAll E pF) (hF : lcF pF) {d : Nat} {F : Nat}   : ∀ (g : CG) (lv : xL) (σ : CS), ∀ res, k_World_post_b212 F  σ = some res → cR E (cQx [14]) pF (d + 10) kT199 14 5 none none res g σ (212, lv, []) := by
  intro g lv σ res h
  unfold k_World_post_b212 at h
  cases h
  exact cR_end lk199_212 rfl rfl rfl
def k_World_post_b172 (F : Nat)  (σ : CS) (l0 : Nat) (l1 : Nat) (l2 : Int32) (l4 : Option Nat) : Option (CS) :=
  (k_World_drawn σ l0 ((cI σ 14 l0 8 0) + ((1 : Int32)))).bind fun p1 =>
  (k_World_launch F p1.2 l0 l1 (l2 + p1.1)).bind fun p4 =>
  if l4 = none then (
    k_World_post_b212 F  p4
  ) else (
    (k_World_drawn p4 l0 ((cI p4 14 l0 8 0) + ((1 : Int32)))).bind fun p10 =>
    (l4).bind fun a13 =>
    (k_World_launch F p10.2 l0 a13 (l2 + p10.1)).bind fun p15 =>
    k_World_post_b212 F  p15
  )
set_option maxRecDepth 4000 in
theorem k_World_post_b172_ok {E : CE} {pF : Nat → List Value → xH → Option (Option Value × xH)} (hp0 : xNPc pF) (hL : lcAll E pF) (hF : lcF pF) {d : Nat} {F : Nat}   : ∀ (g : CG) (lv : xL) (σ : CS) (l0 : Nat) (l1 : Nat) (l2 : Int32) (l4 : Option Nat), (cob σ 14 l0) → (cob σ 8 l1) → (∀ a, l4 = some a → cob σ 8 a) → (xg lv 0 = some (.ref (coa E 14 l0))) → (xg lv 1 = some (.ref (coa E 8 l1))) → (xg lv 2 = some (.int l2)) → (xg lv 4 = some (cvo l4)) → ∀ res, k_World_post_b172 F  σ l0 l1 l2 l4 = some res → cR E (cQx [14]) pF (d + 10) kT199 14 5 none none res g σ (172, lv, []) := by
  intro g lv σ l0 l1 l2 l4 bl0 bl1 bl4 g0 g1 g2 g4 res h
  unfold k_World_post_b172 at h
  refine cR_lift (fun _ _ kk => eE_aload_n lk199_172 g0 kk) ?_
  refine cR_lift (fun _ _ kk => eE_aload_n lk199_173 g1 kk) ?_
  refine cR_lift (fun _ _ kk => eE_iload_n lk199_174 g2 kk) ?_
  refine cR_lift (fun _ _ kk => eE_aload_n lk199_175 g0 kk) ?_
  refine cR_lift (fun _ _ kk => eE_aload_n lk199_176 g0 kk) ?_
  refine cR_getI lk199_177 rf_14_86 rfl bl0 ?_
  refine cR_lift (fun _ _ kk => eE_iconst (v := 1) lk199_180 (by decide) kk) ?_
  refine cR_lift (fun _ _ kk => eE_iadd lk199_181 kk) ?_
  obtain ⟨p1, h2, h⟩ := Option.bind_eq_some_iff.mp h
  refine cR_virt (cl := 14) (i := l0) (as := [.int ((cI σ 14 l0 8 0) + ((1 : Int32)))]) lk199_182 mr_14_93 na_189 rfl rfl (by first | exact Nat.le_of_ble_eq_true rfl | (simp [xcat, cvo_cat, cat_i, cat_j, cat_r]; done)) wv_189 wc_189 bl0 (k_World_drawn_ok hp0 hL hF (d := d + 9) bl0 h2) (fun m3  => ?_)
  refine cR_lift (fun _ _ kk => eE_iadd lk199_185 kk) ?_
  obtain ⟨p4, h5, h⟩ := Option.bind_eq_some_iff.mp h
  refine cR_virtG (by exact cQx_sub rfl) (cl := 14) (i := l0) (as := [.ref (coa E 8 l1), .int (l2 + p1.1)]) lk199_186 mr_14_89 na_197 rfl rfl (by first | exact Nat.le_of_ble_eq_true rfl | (simp [xcat, cvo_cat, cat_i, cat_j, cat_r]; done)) wv_197 wc_197 (cob_any rfl bl0) (k_World_launch_ok hp0 hL hF (d := d + 0) (cob_any rfl bl0) (cob_mon m3 bl1) h5) (fun m6 g_7 g_7e => ?_)
  refine cR_ldO (j := 4) lk199_189 (Or.inl rfl) g4 ?_
  refine cR_ifnull (t := 212) lk199_191 (by decide) (fun c8 => ?_) (fun a9 c8s => ?_)
  · rw [if_pos c8] at h
    exact k_World_post_b212_ok hp0 hL hF  g_7 lv p4  _ h
  · have c8 : ¬ l4 = none := by rw [c8s]; exact fun e => nomatch e
    rw [if_neg c8] at h
    refine cR_lift (fun _ _ kk => eE_aload_n lk199_194 g0 kk) ?_
    refine cR_ldO (j := 4) lk199_195 (Or.inl rfl) g4 ?_
    refine cR_lift (fun _ _ kk => eE_iload_n lk199_197 g2 kk) ?_
    refine cR_lift (fun _ _ kk => eE_aload_n lk199_198 g0 kk) ?_
    refine cR_lift (fun _ _ kk => eE_aload_n lk199_199 g0 kk) ?_
    refine cR_getI lk199_200 rf_14_86 rfl (cob_any rfl bl0) ?_
    refine cR_lift (fun _ _ kk => eE_iconst (v := 1) lk199_203 (by decide) kk) ?_
    refine cR_lift (fun _ _ kk => eE_iadd lk199_204 kk) ?_
    obtain ⟨p10, h11, h⟩ := Option.bind_eq_some_iff.mp h
    refine cR_virt (cl := 14) (i := l0) (as := [.int ((cI p4 14 l0 8 0) + ((1 : Int32)))]) lk199_205 mr_14_93 na_189 rfl rfl (by first | exact Nat.le_of_ble_eq_true rfl | (simp [xcat, cvo_cat, cat_i, cat_j, cat_r]; done)) wv_189 wc_189 (cob_any rfl bl0) (k_World_drawn_ok hp0 hL hF (d := d + 9) (cob_any rfl bl0) h11) (fun m12  => ?_)
    refine cR_lift (fun _ _ kk => eE_iadd lk199_208 kk) ?_
    obtain ⟨a13, h14, h⟩ := Option.bind_eq_some_iff.mp h
    rw [h14]
    obtain ⟨p15, h16, h⟩ := Option.bind_eq_some_iff.mp h
    refine cR_virtG (by exact cQx_sub rfl) (cl := 14) (i := l0) (as := [.ref (coa E 8 a13), .int (l2 + p10.1)]) lk199_209 mr_14_89 na_197 rfl rfl (by first | exact Nat.le_of_ble_eq_true rfl | (simp [xcat, cvo_cat, cat_i, cat_j, cat_r]; done)) wv_197 wc_197 (cob_any rfl bl0) (k_World_launch_ok hp0 hL hF (d := d + 0) (cob_any rfl bl0) ((fun a e => cob_mon m12 ((fun a e => cob_mon m6 ((fun a e => cob_mon m3 (bl4 a e)) a e)) a e)) _ h14) h16) (fun m17 g_18 g_18e => ?_)
    exact k_World_post_b212_ok hp0 hL hF  g_18 lv p15  _ h
def k_World_post_b159 (F : Nat)  (σ : CS) (s0 : Option Nat) (l0 : Nat) (l1 : Nat) (l2 : Int32) : Option (CS) :=
  if s0 = none then (
    k_World_post_b172 F  σ l0 l1 l2 s0
  ) else (
    (s0).bind fun a27 =>
    (k_Letter_copyFrom σ a27 l1).bind fun p29 =>
    k_World_post_b172 F  p29 l0 l1 l2 s0
  )
set_option maxRecDepth 4000 in
theorem k_World_post_b159_ok {E : CE} {pF : Nat → List Value → xH → Option (Option Value × xH)} (hp0 : xNPc pF) (hL : lcAll E pF) (hF : lcF pF) {d : Nat} {F : Nat}   : ∀ (g : CG) (lv : xL) (σ : CS) (s0 : Option Nat) (l0 : Nat) (l1 : Nat) (l2 : Int32), (∀ a, s0 = some a → cob σ 8 a) → (cob σ 14 l0) → (cob σ 8 l1) → (xg lv 0 = some (.ref (coa E 14 l0))) → (xg lv 1 = some (.ref (coa E 8 l1))) → (xg lv 2 = some (.int l2)) → ∀ res, k_World_post_b159 F  σ s0 l0 l1 l2 = some res → cR E (cQx [14]) pF (d + 10) kT199 14 5 none none res g σ (159, lv, [cvo s0]) := by
  intro g lv σ s0 l0 l1 l2 bs0 bl0 bl1 g0 g1 g2 res h
  unfold k_World_post_b159 at h
  refine cR_stO (j := 4) lk199_159 (Or.inl rfl) (by decide) (fun vq19 gq20 kq21 => ?_)
  have gq22 := kq21 0 _ (by decide) (fun e => absurd e (by decide)) g0
  have gq23 := kq21 1 _ (by decide) (fun e => absurd e (by decide)) g1
  have gq24 := kq21 2 _ (by decide) (fun e => absurd e (by decide)) g2
  refine cR_ldO (j := 4) lk199_161 (Or.inl rfl) gq20 ?_
  refine cR_ifnull (t := 172) lk199_163 (by decide) (fun c25 => ?_) (fun a26 c25s => ?_)
  · rw [if_pos c25] at h
    exact k_World_post_b172_ok hp0 hL hF  g vq19 σ l0 l1 l2 s0 bl0 bl1 bs0 gq22 gq23 gq24 gq20 _ h
  · have c25 : ¬ s0 = none := by rw [c25s]; exact fun e => nomatch e
    rw [if_neg c25] at h
    refine cR_ldO (j := 4) lk199_166 (Or.inl rfl) gq20 ?_
    refine cR_lift (fun _ _ kk => eE_aload_n lk199_168 gq23 kk) ?_
    obtain ⟨a27, h28, h⟩ := Option.bind_eq_some_iff.mp h
    rw [h28]
    obtain ⟨p29, h30, h⟩ := Option.bind_eq_some_iff.mp h
    refine cR_virt (cl := 8) (i := a27) (as := [.ref (coa E 8 l1)]) lk199_169 mr_14_97 na_59 rfl rfl (by first | exact Nat.le_of_ble_eq_true rfl | (simp [xcat, cvo_cat, cat_i, cat_j, cat_r]; done)) wv_59 wc_59 (bs0 _ h28) (k_Letter_copyFrom_ok hp0 hL hF (d := d + 9) (bs0 _ h28) bl1 h30) (fun m31  => ?_)
    exact k_World_post_b172_ok hp0 hL hF  g vq19 p29 l0 l1 l2 s0 (cob_any rfl bl0) (cob_mon m31 bl1) (fun a e => cob_mon m31 (bs0 a e)) gq22 gq23 gq24 gq20 _ h
def k_World_post_b111 (F : Nat)  (σ : CS) (s0 : Int32) (l0 : Nat) (l1 : Nat) (l2 : Int32) : Option (CS) :=
  if xc0 .ne s0 = true then (
    if xc0 .eq (clemp σ 14 l0 16) = true then (
      (clrem σ 14 l0 16 ((clsz σ 14 l0 16) - ((1 : Int32)))).bind fun p41 =>
      k_World_post_b159 F  p41.2 (some p41.1) l0 l1 l2
    ) else (
      (some (csN σ)).bind fun σ43 =>
      k_World_post_b159 F  σ43 (some ((cT σ).1)) l0 l1 l2
    )
  ) else (
    k_World_post_b159 F  σ none l0 l1 l2
  )
set_option maxRecDepth 4000 in
theorem k_World_post_b111_ok {E : CE} {pF : Nat → List Value → xH → Option (Option Value × xH)} (hp0 : xNPc pF) (hL : lcAll E pF) (hF : lcF pF) {d : Nat} {F : Nat}   : ∀ (g : CG) (lv : xL) (σ : CS) (s0 : Int32) (l0 : Nat) (l1 : Nat) (l2 : Int32), (cob σ 14 l0) → (cob σ 8 l1) → (xg lv 0 = some (.ref (coa E 14 l0))) → (xg lv 1 = some (.ref (coa E 8 l1))) → (xg lv 2 = some (.int l2)) → ∀ res, k_World_post_b111 F  σ s0 l0 l1 l2 = some res → cR E (cQx [14]) pF (d + 10) kT199 14 5 none none res g σ (111, lv, [.int s0]) := by
  intro g lv σ s0 l0 l1 l2 bl0 bl1 g0 g1 g2 res h
  unfold k_World_post_b111 at h
  refine cR_stI (j := 3) lk199_111 (Or.inr ⟨_, rfl, rfl⟩) (by decide) (fun vq32 gq33 kq34 => ?_)
  have gq35 := kq34 0 _ (by decide) (fun e => absurd e (by decide)) g0
  have gq36 := kq34 1 _ (by decide) (fun e => absurd e (by decide)) g1
  have gq37 := kq34 2 _ (by decide) (fun _ => rfl) g2
  refine cR_lift (fun _ _ kk => eE_iload_n lk199_112 gq33 kk) ?_
  refine cR_if (t := 120) lk199_113 (by decide) (fun c38 => ?_) (fun c38 => ?_)
  · rw [if_pos c38] at h
    refine cR_lift (fun _ _ kk => eE_aload_n lk199_120 gq35 kk) ?_
    refine cR_getA lk199_121 rf_14_35 (by decide) bl0 ?_
    refine cR_virtL (cl := 14) (i := l0) (f := 16) (as := []) lk199_124 mr_14_48 na_10 rfl rfl (by first | exact Nat.le_of_ble_eq_true rfl | (simp [xcat, cvo_cat, cat_i, cat_j, cat_r]; done)) wv_10 wc_10 rfl bl0 ((hL (d + 1)).2.1 E g _ 14 l0 16 rfl bl0) (fun _ => ?_)
    refine cR_if (t := 140) lk199_127 (by decide) (fun c39 => ?_) (fun c39 => ?_)
    · rw [if_pos c39] at h
      refine cR_lift (fun _ _ kk => eE_aload_n lk199_140 gq35 kk) ?_
      refine cR_getA lk199_141 rf_14_35 (by decide) bl0 ?_
      refine cR_lift (fun _ _ kk => eE_aload_n lk199_144 gq35 kk) ?_
      refine cR_getA lk199_145 rf_14_35 (by decide) bl0 ?_
      refine cR_virtL (cl := 14) (i := l0) (f := 16) (as := []) lk199_148 mr_14_55 na_14 rfl rfl (by first | exact Nat.le_of_ble_eq_true rfl | (simp [xcat, cvo_cat, cat_i, cat_j, cat_r]; done)) wv_14 wc_14 rfl bl0 ((hL (d + 1)).1 E g _ 14 l0 16 rfl bl0) (fun _ => ?_)
      refine cR_lift (fun _ _ kk => eE_iconst (v := 1) lk199_151 (by decide) kk) ?_
      refine cR_lift (fun _ _ kk => eE_isub lk199_152 kk) ?_
      obtain ⟨p41, h42, h⟩ := Option.bind_eq_some_iff.mp h
      refine cR_rep (fun _ hc => clrem_lt hc h42) (fun b40 => ?_)
      refine cR_virtL (cl := 14) (i := l0) (f := 16) (c1 := p41.2) (r := some (.ref p41.1)) (as := [.int ((clsz σ 14 l0 16) - ((1 : Int32)))]) lk199_153 mr_14_59 na_13 rfl rfl (by first | exact Nat.le_of_ble_eq_true rfl | (simp [xcat, cvo_cat, cat_i, cat_j, cat_r]; done)) wv_13 wc_13 rfl bl0 ((hL (d + 1)).2.2.2.2.2.1 E g _ 14 l0 16 _ p41.1 p41.2 rfl bl0 h42) (fun _ => ?_)
      refine cR_cast lk199_156 xk_14_52 b40 ?_
      exact k_World_post_b159_ok hp0 hL hF  g vq32 p41.2 (some p41.1) l0 l1 l2 (fun _ e => Option.some.inj e ▸ b40) (cob_any rfl bl0) (cob_mon (clrem_mon h42) bl1) gq35 gq36 gq37 _ h
    · rw [if_neg c39] at h
      obtain ⟨σ43, h44, h⟩ := Option.bind_eq_some_iff.mp h
      refine cR_newL (d := d + 9) lk199_130 lk199_133 lk199_134 xk_14_52 xn_14_54 (hp0 61 (by decide)) (fun _ => (by first | exact Nat.le_of_ble_eq_true rfl | (simp [xcat, cvo_cat, cat_i, cat_j, cat_r]; done))) h44 (fun a45 e46 b47 m48 => ?_)
      subst e46
      refine cR_lift (fun _ _ kk => eE_goto (t := 159) lk199_137 (by decide) kk) ?_
      exact k_World_post_b159_ok hp0 hL hF  g vq32 σ43 (some ((cT σ).1)) l0 l1 l2 (fun _ e => Option.some.inj e ▸ b47) (cob_any rfl bl0) (cob_mon m48 bl1) gq35 gq36 gq37 _ h
  · rw [if_neg c38] at h
    refine cR_null lk199_116 ?_
    refine cR_lift (fun _ _ kk => eE_goto (t := 159) lk199_117 (by decide) kk) ?_
    exact k_World_post_b159_ok hp0 hL hF  g vq32 σ none l0 l1 l2 (fun _ e => nomatch e) bl0 bl1 gq35 gq36 gq37 _ h
def k_World_post_b72 (F : Nat)  (σ : CS) (l0 : Nat) (l1 : Nat) (l2 : Int32) : Option (CS) :=
  (k_World_drawn σ l0 ((1000 : Int32))).bind fun p49 =>
  if xc2 .ge p49.1 (cI p49.2 14 l0 6 0) = true then (
    (k_World_drawn p49.2 l0 ((1000 : Int32))).bind fun p53 =>
    if xc2 .ge p53.1 (cI p53.2 14 l0 7 0) = true then (
      k_World_post_b111 F  p53.2 ((0 : Int32)) l0 l1 l2
    ) else (
      k_World_post_b111 F  p53.2 ((1 : Int32)) l0 l1 l2
    )
  ) else (
    (k_World_lose p49.2 l0 l1).bind fun p57 =>
    some p57
  )
set_option maxRecDepth 4000 in
theorem k_World_post_b72_ok {E : CE} {pF : Nat → List Value → xH → Option (Option Value × xH)} (hp0 : xNPc pF) (hL : lcAll E pF) (hF : lcF pF) {d : Nat} {F : Nat}   : ∀ (g : CG) (lv : xL) (σ : CS) (l0 : Nat) (l1 : Nat) (l2 : Int32), (cob σ 14 l0) → (cob σ 8 l1) → (xg lv 0 = some (.ref (coa E 14 l0))) → (xg lv 1 = some (.ref (coa E 8 l1))) → (xg lv 2 = some (.int l2)) → ∀ res, k_World_post_b72 F  σ l0 l1 l2 = some res → cR E (cQx [14]) pF (d + 10) kT199 14 5 none none res g σ (72, lv, []) := by
  intro g lv σ l0 l1 l2 bl0 bl1 g0 g1 g2 res h
  unfold k_World_post_b72 at h
  refine cR_lift (fun _ _ kk => eE_aload_n lk199_72 g0 kk) ?_
  refine cR_lift (fun _ _ kk => eE_sipush (v := 1000) lk199_73 (by decide) kk) ?_
  obtain ⟨p49, h50, h⟩ := Option.bind_eq_some_iff.mp h
  refine cR_virt (cl := 14) (i := l0) (as := [.int ((1000 : Int32))]) lk199_76 mr_14_93 na_189 rfl rfl (by first | exact Nat.le_of_ble_eq_true rfl | (simp [xcat, cvo_cat, cat_i, cat_j, cat_r]; done)) wv_189 wc_189 bl0 (k_World_drawn_ok hp0 hL hF (d := d + 9) bl0 h50) (fun m51  => ?_)
  refine cR_lift (fun _ _ kk => eE_aload_n lk199_79 g0 kk) ?_
  refine cR_getI lk199_80 rf_14_80 rfl (cob_any rfl bl0) ?_
  refine cR_icmp (t := 92) lk199_83 (by decide) (fun c52 => ?_) (fun c52 => ?_)
  · rw [if_pos c52] at h
    refine cR_lift (fun _ _ kk => eE_aload_n lk199_92 g0 kk) ?_
    refine cR_lift (fun _ _ kk => eE_sipush (v := 1000) lk199_93 (by decide) kk) ?_
    obtain ⟨p53, h54, h⟩ := Option.bind_eq_some_iff.mp h
    refine cR_virt (cl := 14) (i := l0) (as := [.int ((1000 : Int32))]) lk199_96 mr_14_93 na_189 rfl rfl (by first | exact Nat.le_of_ble_eq_true rfl | (simp [xcat, cvo_cat, cat_i, cat_j, cat_r]; done)) wv_189 wc_189 (cob_any rfl bl0) (k_World_drawn_ok hp0 hL hF (d := d + 9) (cob_any rfl bl0) h54) (fun m55  => ?_)
    refine cR_lift (fun _ _ kk => eE_aload_n lk199_99 g0 kk) ?_
    refine cR_getI lk199_100 rf_14_83 rfl (cob_any rfl bl0) ?_
    refine cR_icmp (t := 110) lk199_103 (by decide) (fun c56 => ?_) (fun c56 => ?_)
    · rw [if_pos c56] at h
      refine cR_lift (fun _ _ kk => eE_iconst (v := 0) lk199_110 (by decide) kk) ?_
      exact k_World_post_b111_ok hp0 hL hF  g lv p53.2 ((0 : Int32)) l0 l1 l2 (cob_any rfl bl0) (cob_mon m55 (cob_mon m51 bl1)) g0 g1 g2 _ h
    · rw [if_neg c56] at h
      refine cR_lift (fun _ _ kk => eE_iconst (v := 1) lk199_106 (by decide) kk) ?_
      refine cR_lift (fun _ _ kk => eE_goto (t := 111) lk199_107 (by decide) kk) ?_
      exact k_World_post_b111_ok hp0 hL hF  g lv p53.2 ((1 : Int32)) l0 l1 l2 (cob_any rfl bl0) (cob_mon m55 (cob_mon m51 bl1)) g0 g1 g2 _ h
  · rw [if_neg c52] at h
    refine cR_lift (fun _ _ kk => eE_aload_n lk199_86 g0 kk) ?_
    refine cR_lift (fun _ _ kk => eE_aload_n lk199_87 g1 kk) ?_
    obtain ⟨p57, h58, h⟩ := Option.bind_eq_some_iff.mp h
    refine cR_virtG (by exact cQx_sub rfl) (cl := 14) (i := l0) (as := [.ref (coa E 8 l1)]) lk199_88 mr_14_73 na_198 rfl rfl (by first | exact Nat.le_of_ble_eq_true rfl | (simp [xcat, cvo_cat, cat_i, cat_j, cat_r]; done)) wv_198 wc_198 (cob_any rfl bl0) (k_World_lose_ok hp0 hL hF (d := d + 0) (cob_any rfl bl0) (cob_mon m51 bl1) h58) (fun m59 g_60 g_60e => ?_)
    cases h
    exact cR_end lk199_91 rfl rfl rfl
def k_World_post_b0 (F : Nat)  (σ : CS) (l0 : Nat) (l1 : Nat) : Option (CS) :=
  (k_World_areParted σ l0 (cI σ 8 l1 2 0) (cI σ 8 l1 3 0)).bind fun p61 =>
  if xc0 .eq p61 = true then (
    (crd σ 14 l0 12 (((cI σ 8 l1 2 0) * ((16 : Int32))) + (cI σ 8 l1 3 0))).bind fun x65 =>
    if xc0 .ne (cI σ 14 l0 6 0) = true then (
      k_World_post_b72 F  σ l0 l1 ((cI σ 14 l0 0 0) + x65)
    ) else (
      if xc0 .ne (cI σ 14 l0 7 0) = true then (
        k_World_post_b72 F  σ l0 l1 ((cI σ 14 l0 0 0) + x65)
      ) else (
        if xc0 .ne (cI σ 14 l0 8 0) = true then (
          k_World_post_b72 F  σ l0 l1 ((cI σ 14 l0 0 0) + x65)
        ) else (
          (k_World_launch F σ l0 l1 ((cI σ 14 l0 0 0) + x65)).bind fun p75 =>
          some p75
        )
      )
    )
  ) else (
    (k_World_lose σ l0 l1).bind fun p79 =>
    some p79
  )
set_option maxRecDepth 4000 in
theorem k_World_post_b0_ok {E : CE} {pF : Nat → List Value → xH → Option (Option Value × xH)} (hp0 : xNPc pF) (hL : lcAll E pF) (hF : lcF pF) {d : Nat} {F : Nat}   : ∀ (g : CG) (lv : xL) (σ : CS) (l0 : Nat) (l1 : Nat), (cob σ 14 l0) → (cob σ 8 l1) → (xg lv 0 = some (.ref (coa E 14 l0))) → (xg lv 1 = some (.ref (coa E 8 l1))) → ∀ res, k_World_post_b0 F  σ l0 l1 = some res → cR E (cQx [14]) pF (d + 10) kT199 14 5 none none res g σ (0, lv, []) := by
  intro g lv σ l0 l1 bl0 bl1 g0 g1 res h
  unfold k_World_post_b0 at h
  refine cR_lift (fun _ _ kk => eE_aload_n lk199_0 g0 kk) ?_
  refine cR_lift (fun _ _ kk => eE_aload_n lk199_1 g1 kk) ?_
  refine cR_getI lk199_2 rf_14_63 rfl bl1 ?_
  refine cR_lift (fun _ _ kk => eE_aload_n lk199_5 g1 kk) ?_
  refine cR_getI lk199_6 rf_14_66 rfl bl1 ?_
  obtain ⟨p61, h62, h⟩ := Option.bind_eq_some_iff.mp h
  refine cR_virt (cl := 14) (i := l0) (as := [.int (cI σ 8 l1 2 0), .int (cI σ 8 l1 3 0)]) lk199_9 mr_14_69 na_184 rfl rfl (by first | exact Nat.le_of_ble_eq_true rfl | (simp [xcat, cvo_cat, cat_i, cat_j, cat_r]; done)) wv_184 wc_184 bl0 (k_World_areParted_ok hp0 hL hF (d := d + 9) bl0 h62) (fun m63  => ?_)
  refine cR_if (t := 21) lk199_12 (by decide) (fun c64 => ?_) (fun c64 => ?_)
  · rw [if_pos c64] at h
    refine cR_lift (fun _ _ kk => eE_aload_n lk199_21 g0 kk) ?_
    refine cR_getI lk199_22 rf_14_77 rfl bl0 ?_
    refine cR_lift (fun _ _ kk => eE_aload_n lk199_25 g0 kk) ?_
    refine cR_getA lk199_26 rf_14_18 (by decide) bl0 ?_
    refine cR_lift (fun _ _ kk => eE_aload_n lk199_29 g1 kk) ?_
    refine cR_getI lk199_30 rf_14_63 rfl bl1 ?_
    refine cR_lift (fun _ _ kk => eE_bipush (v := 16) lk199_33 (by decide) kk) ?_
    refine cR_lift (fun _ _ kk => eE_imul lk199_35 kk) ?_
    refine cR_lift (fun _ _ kk => eE_aload_n lk199_36 g1 kk) ?_
    refine cR_getI lk199_37 rf_14_66 rfl bl1 ?_
    refine cR_lift (fun _ _ kk => eE_iadd lk199_40 kk) ?_
    obtain ⟨x65, h66, h⟩ := Option.bind_eq_some_iff.mp h
    refine cR_iald (cl := 14) (i := l0) (f := 12) lk199_41 (by decide) rfl bl0 h66 ?_
    refine cR_lift (fun _ _ kk => eE_iadd lk199_42 kk) ?_
    refine cR_stI (j := 2) lk199_43 (Or.inr ⟨_, rfl, rfl⟩) (by decide) (fun vq67 gq68 kq69 => ?_)
    have gq70 := kq69 0 _ (by decide) (fun e => absurd e (by decide)) g0
    have gq71 := kq69 1 _ (by decide) (fun _ => rfl) g1
    refine cR_lift (fun _ _ kk => eE_aload_n lk199_44 gq70 kk) ?_
    refine cR_getI lk199_45 rf_14_80 rfl bl0 ?_
    refine cR_if (t := 72) lk199_48 (by decide) (fun c72 => ?_) (fun c72 => ?_)
    · rw [if_pos c72] at h
      exact k_World_post_b72_ok hp0 hL hF  g vq67 σ l0 l1 ((cI σ 14 l0 0 0) + x65) bl0 bl1 gq70 gq71 gq68 _ h
    · rw [if_neg c72] at h
      refine cR_lift (fun _ _ kk => eE_aload_n lk199_51 gq70 kk) ?_
      refine cR_getI lk199_52 rf_14_83 rfl bl0 ?_
      refine cR_if (t := 72) lk199_55 (by decide) (fun c73 => ?_) (fun c73 => ?_)
      · rw [if_pos c73] at h
        exact k_World_post_b72_ok hp0 hL hF  g vq67 σ l0 l1 ((cI σ 14 l0 0 0) + x65) bl0 bl1 gq70 gq71 gq68 _ h
      · rw [if_neg c73] at h
        refine cR_lift (fun _ _ kk => eE_aload_n lk199_58 gq70 kk) ?_
        refine cR_getI lk199_59 rf_14_86 rfl bl0 ?_
        refine cR_if (t := 72) lk199_62 (by decide) (fun c74 => ?_) (fun c74 => ?_)
        · rw [if_pos c74] at h
          exact k_World_post_b72_ok hp0 hL hF  g vq67 σ l0 l1 ((cI σ 14 l0 0 0) + x65) bl0 bl1 gq70 gq71 gq68 _ h
        · rw [if_neg c74] at h
          refine cR_lift (fun _ _ kk => eE_aload_n lk199_65 gq70 kk) ?_
          refine cR_lift (fun _ _ kk => eE_aload_n lk199_66 gq71 kk) ?_
          refine cR_lift (fun _ _ kk => eE_iload_n lk199_67 gq68 kk) ?_
          obtain ⟨p75, h76, h⟩ := Option.bind_eq_some_iff.mp h
          refine cR_virtG (by exact cQx_sub rfl) (cl := 14) (i := l0) (as := [.ref (coa E 8 l1), .int ((cI σ 14 l0 0 0) + x65)]) lk199_68 mr_14_89 na_197 rfl rfl (by first | exact Nat.le_of_ble_eq_true rfl | (simp [xcat, cvo_cat, cat_i, cat_j, cat_r]; done)) wv_197 wc_197 bl0 (k_World_launch_ok hp0 hL hF (d := d + 0) bl0 bl1 h76) (fun m77 g_78 g_78e => ?_)
          cases h
          exact cR_end lk199_71 rfl rfl rfl
  · rw [if_neg c64] at h
    refine cR_lift (fun _ _ kk => eE_aload_n lk199_15 g0 kk) ?_
    refine cR_lift (fun _ _ kk => eE_aload_n lk199_16 g1 kk) ?_
    obtain ⟨p79, h80, h⟩ := Option.bind_eq_some_iff.mp h
    refine cR_virtG (by exact cQx_sub rfl) (cl := 14) (i := l0) (as := [.ref (coa E 8 l1)]) lk199_17 mr_14_73 na_198 rfl rfl (by first | exact Nat.le_of_ble_eq_true rfl | (simp [xcat, cvo_cat, cat_i, cat_j, cat_r]; done)) wv_198 wc_198 bl0 (k_World_lose_ok hp0 hL hF (d := d + 0) bl0 bl1 h80) (fun m81 g_82 g_82e => ?_)
    cases h
    exact cR_end lk199_20 rfl rfl rfl
def k_World_post (F : Nat) (σ : CS) (l0 : Nat) (l1 : Nat) : Option (CS) := k_World_post_b0 F σ l0 l1
theorem k_World_post_ok {E : CE} {pF : Nat → List Value → xH → Option (Option Value × xH)} (hp0 : xNPc pF) (hL : lcAll E pF) (hF : lcF pF) {d : Nat} {g : CG} {σ : CS} {F : Nat} {l0 : Nat} {l1 : Nat} {res : CS} (bl0 : cob σ 14 l0) (bl1 : cob σ 8 l1) (h : k_World_post F σ l0 l1 = some res) : cCo E (cQx [14]) pF (d + 11) 199 [.ref (coa E 14 l0), .ref (coa E 8 l1)] none res g σ :=
  cCo_R kk_199 mo_199 ni_199 xm_199 (Nat.le_of_ble_eq_true rfl) (hp0 199 (by decide) _) (k_World_post_b0_ok hp0 hL hF g _ σ l0 l1 bl0 bl1 rfl rfl _ h)
/-! k_World_setBell (200), depth 1 -/
def k_World_setBell_b0  (σ : CS) (l0 : Nat) (l1 : Int32) (l2 : Int32) : Option (CS) :=
  (cwr σ 14 l0 10 l1 l2).bind fun σ1 =>
  (cwr σ1 14 l0 11 l1 (cI σ1 14 l0 1 0)).bind fun σ3 =>
  (some (csI σ3 14 l0 1 0 ((cI σ3 14 l0 1 0) + ((1 : Int32))))).bind fun σ5 =>
  some σ5
set_option maxRecDepth 4000 in
theorem k_World_setBell_b0_ok {E : CE} {pF : Nat → List Value → xH → Option (Option Value × xH)} (hp0 : xNPc pF) (hL : lcAll E pF) (hF : lcF pF) {d : Nat}   : ∀ (g : CG) (lv : xL) (σ : CS) (l0 : Nat) (l1 : Int32) (l2 : Int32), (cob σ 14 l0) → (xg lv 0 = some (.ref (coa E 14 l0))) → (xg lv 1 = some (.int l1)) → (xg lv 2 = some (.int l2)) → ∀ res, k_World_setBell_b0  σ l0 l1 l2 = some res → cR E cQ1 pF (d + 0) kT200 14 3 none none res g σ (0, lv, []) := by
  intro g lv σ l0 l1 l2 bl0 g0 g1 g2 res h
  unfold k_World_setBell_b0 at h
  refine cR_lift (fun _ _ kk => eE_aload_n lk200_0 g0 kk) ?_
  refine cR_getA lk200_1 rf_14_9 (by decide) bl0 ?_
  refine cR_lift (fun _ _ kk => eE_iload_n lk200_4 g1 kk) ?_
  refine cR_lift (fun _ _ kk => eE_iload_n lk200_5 g2 kk) ?_
  obtain ⟨σ1, h2, h⟩ := Option.bind_eq_some_iff.mp h
  refine cR_iast (cl := 14) (i := l0) (f := 10) lk200_6 (by decide) rfl bl0 h2 ?_
  refine cR_lift (fun _ _ kk => eE_aload_n lk200_7 g0 kk) ?_
  refine cR_getA lk200_8 rf_14_15 (by decide) (cob_any rfl bl0) ?_
  refine cR_lift (fun _ _ kk => eE_iload_n lk200_11 g1 kk) ?_
  refine cR_lift (fun _ _ kk => eE_aload_n lk200_12 g0 kk) ?_
  refine cR_getI lk200_13 rf_14_118 rfl (cob_any rfl bl0) ?_
  obtain ⟨σ3, h4, h⟩ := Option.bind_eq_some_iff.mp h
  refine cR_iast (cl := 14) (i := l0) (f := 11) lk200_16 (by decide) rfl (cob_any rfl bl0) h4 ?_
  refine cR_lift (fun _ _ kk => eE_aload_n lk200_17 g0 kk) ?_
  refine cR_lift (fun _ _ kk => eE_dup lk200_18 rfl kk) ?_
  refine cR_getI lk200_19 rf_14_118 rfl (cob_any rfl bl0) ?_
  refine cR_lift (fun _ _ kk => eE_iconst (v := 1) lk200_22 (by decide) kk) ?_
  refine cR_lift (fun _ _ kk => eE_iadd lk200_23 kk) ?_
  obtain ⟨σ5, h6, h⟩ := Option.bind_eq_some_iff.mp h
  refine cR_putI lk200_24 rf_14_118 rfl (cob_any rfl bl0) pf_14_1 rfl h6 ?_
  cases h
  exact cR_end lk200_27 rfl rfl rfl
def k_World_setBell (σ : CS) (l0 : Nat) (l1 : Int32) (l2 : Int32) : Option (CS) := k_World_setBell_b0 σ l0 l1 l2
theorem k_World_setBell_ok {E : CE} {pF : Nat → List Value → xH → Option (Option Value × xH)} (hp0 : xNPc pF) (hL : lcAll E pF) (hF : lcF pF) {d : Nat} {g : CG} {σ : CS} {l0 : Nat} {l1 : Int32} {l2 : Int32} {res : CS} (bl0 : cob σ 14 l0) (h : k_World_setBell σ l0 l1 l2 = some res) : cCo E cQ1 pF (d + 1) 200 [.ref (coa E 14 l0), .int l1, .int l2] none res g σ :=
  cCo_R kk_200 mo_200 ni_200 xm_200 (Nat.le_of_ble_eq_true rfl) (hp0 200 (by decide) _) (k_World_setBell_b0_ok hp0 hL hF g _ σ l0 l1 l2 bl0 rfl rfl rfl _ h)
/-! k_Client_setAlarm (29), depth 2 -/
def k_Client_setAlarm_b0  (σ : CS) (l0 : Nat) (l1 : Int32) (l2 : Int32) : Option (CS) :=
  (k_World_setBell σ 0 (cI σ 5 l0 0 0) ((cI σ 14 0 0 0) + l1)).bind fun p1 =>
  (cputZ p1 5 l0 11 l2).bind fun σ4 =>
  some σ4
set_option maxRecDepth 4000 in
theorem k_Client_setAlarm_b0_ok {E : CE} {pF : Nat → List Value → xH → Option (Option Value × xH)} (hp0 : xNPc pF) (hL : lcAll E pF) (hF : lcF pF) {d : Nat}   : ∀ (g : CG) (lv : xL) (σ : CS) (l0 : Nat) (l1 : Int32) (l2 : Int32), (cob σ 5 l0) → (xg lv 0 = some (.ref (coa E 5 l0))) → (xg lv 1 = some (.int l1)) → (xg lv 2 = some (.int l2)) → ∀ res, k_Client_setAlarm_b0  σ l0 l1 l2 = some res → cR E cQ1 pF (d + 1) kT29 5 3 none none res g σ (0, lv, []) := by
  intro g lv σ l0 l1 l2 bl0 g0 g1 g2 res h
  unfold k_Client_setAlarm_b0 at h
  refine cR_lift (fun _ _ kk => eE_aload_n lk29_0 g0 kk) ?_
  refine cR_getO (cl' := 14) (i' := 0) lk29_1 rf_5_25 rfl rfl bl0 ?_
  refine cR_lift (fun _ _ kk => eE_aload_n lk29_4 g0 kk) ?_
  refine cR_getI lk29_5 rf_5_22 rfl bl0 ?_
  refine cR_lift (fun _ _ kk => eE_aload_n lk29_8 g0 kk) ?_
  refine cR_getO (cl' := 14) (i' := 0) lk29_9 rf_5_25 rfl rfl bl0 ?_
  refine cR_getI lk29_12 rf_5_108 rfl (cob_0 (c := σ) (cl := 14) (by decide) rfl rfl) ?_
  refine cR_lift (fun _ _ kk => eE_iload_n lk29_15 g1 kk) ?_
  refine cR_lift (fun _ _ kk => eE_iadd lk29_16 kk) ?_
  obtain ⟨p1, h2, h⟩ := Option.bind_eq_some_iff.mp h
  refine cR_virt (cl := 14) (i := 0) (as := [.int (cI σ 5 l0 0 0), .int ((cI σ 14 0 0 0) + l1)]) lk29_17 mr_5_111 na_200 rfl rfl (by first | exact Nat.le_of_ble_eq_true rfl | (simp [xcat, cvo_cat, cat_i, cat_j, cat_r]; done)) wv_200 wc_200 (cob_0 (c := σ) (cl := 14) (by decide) rfl rfl) (k_World_setBell_ok hp0 hL hF (d := d + 0) (cob_0 (c := σ) (cl := 14) (by decide) rfl rfl) h2) (fun m3  => ?_)
  refine cR_lift (fun _ _ kk => eE_aload_n lk29_20 g0 kk) ?_
  refine cR_lift (fun _ _ kk => eE_iload_n lk29_21 g2 kk) ?_
  obtain ⟨σ4, h5, h⟩ := Option.bind_eq_some_iff.mp h
  refine cR_putZ lk29_22 rf_5_115 rfl (cob_any rfl bl0) pf_5_11 h5 ?_
  cases h
  exact cR_end lk29_25 rfl rfl rfl
def k_Client_setAlarm (σ : CS) (l0 : Nat) (l1 : Int32) (l2 : Int32) : Option (CS) := k_Client_setAlarm_b0 σ l0 l1 l2
theorem k_Client_setAlarm_ok {E : CE} {pF : Nat → List Value → xH → Option (Option Value × xH)} (hp0 : xNPc pF) (hL : lcAll E pF) (hF : lcF pF) {d : Nat} {g : CG} {σ : CS} {l0 : Nat} {l1 : Int32} {l2 : Int32} {res : CS} (bl0 : cob σ 5 l0) (h : k_Client_setAlarm σ l0 l1 l2 = some res) : cCo E cQ1 pF (d + 2) 29 [.ref (coa E 5 l0), .int l1, .int l2] none res g σ :=
  cCo_R kk_29 mo_29 ni_29 xm_29 (Nat.le_of_ble_eq_true rfl) (hp0 29 (by decide) _) (k_Client_setAlarm_b0_ok hp0 hL hF g _ σ l0 l1 l2 bl0 rfl rfl rfl _ h)
/-! k_Client_sendRequest (28), depth 12 -/
def k_Client_sendRequest_b174 (F : Nat)  (σ : CS) (s0 : Nat) (s1 : Int32) (l0 : Nat) (l1 : Nat) : Option (CS) :=
  (some (csI σ 8 s0 12 0 s1)).bind fun σ1 =>
  (some (csI σ1 8 l1 17 0 ((0 : Int32)))).bind fun σ3 =>
  (k_World_post F σ3 0 l1).bind fun p5 =>
  (k_Client_setAlarm p5 l0 ((60 : Int32)) ((1 : Int32))).bind fun p9 =>
  some p9
set_option maxRecDepth 4000 in
theorem k_Client_sendRequest_b174_ok {E : CE} {pF : Nat → List Value → xH → Option (Option Value × xH)} (hp0 : xNPc pF) (hL : lcAll E pF) (hF : lcF pF) {d : Nat} {F : Nat}   : ∀ (g : CG) (lv : xL) (σ : CS) (s0 : Nat) (s1 : Int32) (l0 : Nat) (l1 : Nat), (cob σ 8 s0) → (cob σ 5 l0) → (cob σ 8 l1) → (xg lv 0 = some (.ref (coa E 5 l0))) → (xg lv 1 = some (.ref (coa E 8 l1))) → ∀ res, k_Client_sendRequest_b174 F  σ s0 s1 l0 l1 = some res → cR E (cQx [14]) pF (d + 11) kT28 5 2 none none res g σ (174, lv, [.int s1, .ref (coa E 8 s0)]) := by
  intro g lv σ s0 s1 l0 l1 bs0 bl0 bl1 g0 g1 res h
  unfold k_Client_sendRequest_b174 at h
  obtain ⟨σ1, h2, h⟩ := Option.bind_eq_some_iff.mp h
  refine cR_putI lk28_174 rf_5_94 rfl bs0 pf_8_12 rfl h2 ?_
  refine cR_lift (fun _ _ kk => eE_aload_n lk28_177 g1 kk) ?_
  refine cR_lift (fun _ _ kk => eE_iconst (v := 0) lk28_178 (by decide) kk) ?_
  obtain ⟨σ3, h4, h⟩ := Option.bind_eq_some_iff.mp h
  refine cR_putI lk28_179 rf_5_97 rfl (cob_mon (cput_mon h2) bl1) pf_8_17 rfl h4 ?_
  refine cR_lift (fun _ _ kk => eE_aload_n lk28_182 g0 kk) ?_
  refine cR_getO (cl' := 14) (i' := 0) lk28_183 rf_5_25 rfl rfl (cob_any rfl bl0) ?_
  refine cR_lift (fun _ _ kk => eE_aload_n lk28_186 g1 kk) ?_
  obtain ⟨p5, h6, h⟩ := Option.bind_eq_some_iff.mp h
  refine cR_virtG (by exact cQx_sub rfl) (cl := 14) (i := 0) (as := [.ref (coa E 8 l1)]) lk28_187 mr_5_100 na_199 rfl rfl (by first | exact Nat.le_of_ble_eq_true rfl | (simp [xcat, cvo_cat, cat_i, cat_j, cat_r]; done)) wv_199 wc_199 (cob_0 (c := σ3) (cl := 14) (by decide) rfl rfl) (k_World_post_ok hp0 hL hF (d := d + 0) (cob_0 (c := σ3) (cl := 14) (by decide) rfl rfl) (cob_mon (cput_mon h4) (cob_mon (cput_mon h2) bl1)) h6) (fun m7 g_8 g_8e => ?_)
  refine cR_lift (fun _ _ kk => eE_aload_n lk28_190 g0 kk) ?_
  refine cR_lift (fun _ _ kk => eE_bipush (v := 60) lk28_191 (by decide) kk) ?_
  refine cR_lift (fun _ _ kk => eE_iconst (v := 1) lk28_193 (by decide) kk) ?_
  obtain ⟨p9, h10, h⟩ := Option.bind_eq_some_iff.mp h
  refine cR_virt (cl := 5) (i := l0) (as := [.int ((60 : Int32)), .int ((1 : Int32))]) lk28_194 mr_5_104 na_29 rfl rfl (by first | exact Nat.le_of_ble_eq_true rfl | (simp [xcat, cvo_cat, cat_i, cat_j, cat_r]; done)) wv_29 wc_29 (cob_any rfl bl0) (k_Client_setAlarm_ok hp0 hL hF (d := d + 9) (cob_any rfl bl0) h10) (fun m11  => ?_)
  cases h
  exact cR_end lk28_197 rfl rfl rfl
def k_Client_sendRequest_b143 (F : Nat)  (σ : CS) (s0 : Nat) (s1 : Int32) (l0 : Nat) (l1 : Nat) : Option (CS) :=
  (some (csI σ 8 s0 16 0 s1)).bind fun σ12 =>
  if xc0 .eq (cI σ12 5 l0 10 0) = true then (
    (k_Askings_tell σ12 0 (cI σ12 5 l0 9 0) ((9 : Int32))).bind fun p15 =>
    k_Client_sendRequest_b174 F  σ12 l1 (((12 : Int32)) + p15) l0 l1
  ) else (
    k_Client_sendRequest_b174 F  σ12 l1 ((2 : Int32)) l0 l1
  )
set_option maxRecDepth 4000 in
theorem k_Client_sendRequest_b143_ok {E : CE} {pF : Nat → List Value → xH → Option (Option Value × xH)} (hp0 : xNPc pF) (hL : lcAll E pF) (hF : lcF pF) {d : Nat} {F : Nat}   : ∀ (g : CG) (lv : xL) (σ : CS) (s0 : Nat) (s1 : Int32) (l0 : Nat) (l1 : Nat), (cob σ 8 s0) → (cob σ 5 l0) → (cob σ 8 l1) → (xg lv 0 = some (.ref (coa E 5 l0))) → (xg lv 1 = some (.ref (coa E 8 l1))) → ∀ res, k_Client_sendRequest_b143 F  σ s0 s1 l0 l1 = some res → cR E (cQx [14]) pF (d + 11) kT28 5 2 none none res g σ (143, lv, [.int s1, .ref (coa E 8 s0)]) := by
  intro g lv σ s0 s1 l0 l1 bs0 bl0 bl1 g0 g1 res h
  unfold k_Client_sendRequest_b143 at h
  obtain ⟨σ12, h13, h⟩ := Option.bind_eq_some_iff.mp h
  refine cR_putI lk28_143 rf_5_93 rfl bs0 pf_8_16 rfl h13 ?_
  refine cR_lift (fun _ _ kk => eE_aload_n lk28_146 g1 kk) ?_
  refine cR_lift (fun _ _ kk => eE_aload_n lk28_147 g0 kk) ?_
  refine cR_getI lk28_148 rf_5_44 rfl (cob_any rfl bl0) ?_
  refine cR_if (t := 158) lk28_151 (by decide) (fun c14 => ?_) (fun c14 => ?_)
  · rw [if_pos c14] at h
    refine cR_lift (fun _ _ kk => eE_bipush (v := 12) lk28_158 (by decide) kk) ?_
    refine cR_lift (fun _ _ kk => eE_aload_n lk28_160 g0 kk) ?_
    refine cR_getO (cl' := 4) (i' := 0) lk28_161 rf_5_29 rfl rfl (cob_any rfl bl0) ?_
    refine cR_lift (fun _ _ kk => eE_aload_n lk28_164 g0 kk) ?_
    refine cR_getI lk28_165 rf_5_15 rfl (cob_any rfl bl0) ?_
    refine cR_lift (fun _ _ kk => eE_bipush (v := 9) lk28_168 (by decide) kk) ?_
    obtain ⟨p15, h16, h⟩ := Option.bind_eq_some_iff.mp h
    refine cR_virt (cl := 4) (i := 0) (as := [.int (cI σ12 5 l0 9 0), .int ((9 : Int32))]) lk28_170 mr_5_58 na_19 rfl rfl (by first | exact Nat.le_of_ble_eq_true rfl | (simp [xcat, cvo_cat, cat_i, cat_j, cat_r]; done)) wv_19 wc_19 (cob_0 (c := σ12) (cl := 4) (by decide) rfl rfl) (k_Askings_tell_ok hp0 hL hF (d := d + 10) (cob_0 (c := σ12) (cl := 4) (by decide) rfl rfl) h16) (fun m17  => ?_)
    refine cR_lift (fun _ _ kk => eE_iadd lk28_173 kk) ?_
    exact k_Client_sendRequest_b174_ok hp0 hL hF  g lv σ12 l1 (((12 : Int32)) + p15) l0 l1 (cob_mon (cput_mon h13) bl1) (cob_any rfl bl0) (cob_mon (cput_mon h13) bl1) g0 g1 _ h
  · rw [if_neg c14] at h
    refine cR_lift (fun _ _ kk => eE_iconst (v := 2) lk28_154 (by decide) kk) ?_
    refine cR_lift (fun _ _ kk => eE_goto (t := 174) lk28_155 (by decide) kk) ?_
    exact k_Client_sendRequest_b174_ok hp0 hL hF  g lv σ12 l1 ((2 : Int32)) l0 l1 (cob_mon (cput_mon h13) bl1) (cob_any rfl bl0) (cob_mon (cput_mon h13) bl1) g0 g1 _ h
def k_Client_sendRequest_b124 (F : Nat)  (σ : CS) (s0 : Nat) (s1 : Int32) (l0 : Nat) (l1 : Nat) : Option (CS) :=
  (some (csI σ 8 s0 15 0 s1)).bind fun σ18 =>
  if xc0 .eq (cI σ18 5 l0 10 0) = true then (
    k_Client_sendRequest_b143 F  σ18 l1 (cI σ18 5 l0 9 0) l0 l1
  ) else (
    k_Client_sendRequest_b143 F  σ18 l1 ((-1 : Int32)) l0 l1
  )
set_option maxRecDepth 4000 in
theorem k_Client_sendRequest_b124_ok {E : CE} {pF : Nat → List Value → xH → Option (Option Value × xH)} (hp0 : xNPc pF) (hL : lcAll E pF) (hF : lcF pF) {d : Nat} {F : Nat}   : ∀ (g : CG) (lv : xL) (σ : CS) (s0 : Nat) (s1 : Int32) (l0 : Nat) (l1 : Nat), (cob σ 8 s0) → (cob σ 5 l0) → (cob σ 8 l1) → (xg lv 0 = some (.ref (coa E 5 l0))) → (xg lv 1 = some (.ref (coa E 8 l1))) → ∀ res, k_Client_sendRequest_b124 F  σ s0 s1 l0 l1 = some res → cR E (cQx [14]) pF (d + 11) kT28 5 2 none none res g σ (124, lv, [.int s1, .ref (coa E 8 s0)]) := by
  intro g lv σ s0 s1 l0 l1 bs0 bl0 bl1 g0 g1 res h
  unfold k_Client_sendRequest_b124 at h
  obtain ⟨σ18, h19, h⟩ := Option.bind_eq_some_iff.mp h
  refine cR_putI lk28_124 rf_5_92 rfl bs0 pf_8_15 rfl h19 ?_
  refine cR_lift (fun _ _ kk => eE_aload_n lk28_127 g1 kk) ?_
  refine cR_lift (fun _ _ kk => eE_aload_n lk28_128 g0 kk) ?_
  refine cR_getI lk28_129 rf_5_44 rfl (cob_any rfl bl0) ?_
  refine cR_if (t := 139) lk28_132 (by decide) (fun c20 => ?_) (fun c20 => ?_)
  · rw [if_pos c20] at h
    refine cR_lift (fun _ _ kk => eE_aload_n lk28_139 g0 kk) ?_
    refine cR_getI lk28_140 rf_5_15 rfl (cob_any rfl bl0) ?_
    exact k_Client_sendRequest_b143_ok hp0 hL hF  g lv σ18 l1 (cI σ18 5 l0 9 0) l0 l1 (cob_mon (cput_mon h19) bl1) (cob_any rfl bl0) (cob_mon (cput_mon h19) bl1) g0 g1 _ h
  · rw [if_neg c20] at h
    refine cR_lift (fun _ _ kk => eE_iconst (v := (-1)) lk28_135 (by decide) kk) ?_
    refine cR_lift (fun _ _ kk => eE_goto (t := 143) lk28_136 (by decide) kk) ?_
    exact k_Client_sendRequest_b143_ok hp0 hL hF  g lv σ18 l1 ((-1 : Int32)) l0 l1 (cob_mon (cput_mon h19) bl1) (cob_any rfl bl0) (cob_mon (cput_mon h19) bl1) g0 g1 _ h
def k_Client_sendRequest_b105 (F : Nat)  (σ : CS) (s0 : Nat) (s1 : Int32) (l0 : Nat) (l1 : Nat) : Option (CS) :=
  (some (csI σ 8 s0 14 0 s1)).bind fun σ21 =>
  if xc0 .eq (cI σ21 5 l0 10 0) = true then (
    k_Client_sendRequest_b124 F  σ21 l1 (cI σ21 5 l0 6 0) l0 l1
  ) else (
    k_Client_sendRequest_b124 F  σ21 l1 ((0 : Int32)) l0 l1
  )
set_option maxRecDepth 4000 in
theorem k_Client_sendRequest_b105_ok {E : CE} {pF : Nat → List Value → xH → Option (Option Value × xH)} (hp0 : xNPc pF) (hL : lcAll E pF) (hF : lcF pF) {d : Nat} {F : Nat}   : ∀ (g : CG) (lv : xL) (σ : CS) (s0 : Nat) (s1 : Int32) (l0 : Nat) (l1 : Nat), (cob σ 8 s0) → (cob σ 5 l0) → (cob σ 8 l1) → (xg lv 0 = some (.ref (coa E 5 l0))) → (xg lv 1 = some (.ref (coa E 8 l1))) → ∀ res, k_Client_sendRequest_b105 F  σ s0 s1 l0 l1 = some res → cR E (cQx [14]) pF (d + 11) kT28 5 2 none none res g σ (105, lv, [.int s1, .ref (coa E 8 s0)]) := by
  intro g lv σ s0 s1 l0 l1 bs0 bl0 bl1 g0 g1 res h
  unfold k_Client_sendRequest_b105 at h
  obtain ⟨σ21, h22, h⟩ := Option.bind_eq_some_iff.mp h
  refine cR_putI lk28_105 rf_5_91 rfl bs0 pf_8_14 rfl h22 ?_
  refine cR_lift (fun _ _ kk => eE_aload_n lk28_108 g1 kk) ?_
  refine cR_lift (fun _ _ kk => eE_aload_n lk28_109 g0 kk) ?_
  refine cR_getI lk28_110 rf_5_44 rfl (cob_any rfl bl0) ?_
  refine cR_if (t := 120) lk28_113 (by decide) (fun c23 => ?_) (fun c23 => ?_)
  · rw [if_pos c23] at h
    refine cR_lift (fun _ _ kk => eE_aload_n lk28_120 g0 kk) ?_
    refine cR_getI lk28_121 rf_5_47 rfl (cob_any rfl bl0) ?_
    exact k_Client_sendRequest_b124_ok hp0 hL hF  g lv σ21 l1 (cI σ21 5 l0 6 0) l0 l1 (cob_mon (cput_mon h22) bl1) (cob_any rfl bl0) (cob_mon (cput_mon h22) bl1) g0 g1 _ h
  · rw [if_neg c23] at h
    refine cR_lift (fun _ _ kk => eE_iconst (v := 0) lk28_116 (by decide) kk) ?_
    refine cR_lift (fun _ _ kk => eE_goto (t := 124) lk28_117 (by decide) kk) ?_
    exact k_Client_sendRequest_b124_ok hp0 hL hF  g lv σ21 l1 ((0 : Int32)) l0 l1 (cob_mon (cput_mon h22) bl1) (cob_any rfl bl0) (cob_mon (cput_mon h22) bl1) g0 g1 _ h
def k_Client_sendRequest_b86 (F : Nat)  (σ : CS) (s0 : Nat) (s1 : Int32) (l0 : Nat) (l1 : Nat) : Option (CS) :=
  (some (csI σ 8 s0 6 0 s1)).bind fun σ24 =>
  if xc0 .eq (cI σ24 5 l0 10 0) = true then (
    k_Client_sendRequest_b105 F  σ24 l1 (cI σ24 5 l0 5 0) l0 l1
  ) else (
    k_Client_sendRequest_b105 F  σ24 l1 ((0 : Int32)) l0 l1
  )
set_option maxRecDepth 4000 in
theorem k_Client_sendRequest_b86_ok {E : CE} {pF : Nat → List Value → xH → Option (Option Value × xH)} (hp0 : xNPc pF) (hL : lcAll E pF) (hF : lcF pF) {d : Nat} {F : Nat}   : ∀ (g : CG) (lv : xL) (σ : CS) (s0 : Nat) (s1 : Int32) (l0 : Nat) (l1 : Nat), (cob σ 8 s0) → (cob σ 5 l0) → (cob σ 8 l1) → (xg lv 0 = some (.ref (coa E 5 l0))) → (xg lv 1 = some (.ref (coa E 8 l1))) → ∀ res, k_Client_sendRequest_b86 F  σ s0 s1 l0 l1 = some res → cR E (cQx [14]) pF (d + 11) kT28 5 2 none none res g σ (86, lv, [.int s1, .ref (coa E 8 s0)]) := by
  intro g lv σ s0 s1 l0 l1 bs0 bl0 bl1 g0 g1 res h
  unfold k_Client_sendRequest_b86 at h
  obtain ⟨σ24, h25, h⟩ := Option.bind_eq_some_iff.mp h
  refine cR_putI lk28_86 rf_5_88 rfl bs0 pf_8_6 rfl h25 ?_
  refine cR_lift (fun _ _ kk => eE_aload_n lk28_89 g1 kk) ?_
  refine cR_lift (fun _ _ kk => eE_aload_n lk28_90 g0 kk) ?_
  refine cR_getI lk28_91 rf_5_44 rfl (cob_any rfl bl0) ?_
  refine cR_if (t := 101) lk28_94 (by decide) (fun c26 => ?_) (fun c26 => ?_)
  · rw [if_pos c26] at h
    refine cR_lift (fun _ _ kk => eE_aload_n lk28_101 g0 kk) ?_
    refine cR_getI lk28_102 rf_5_9 rfl (cob_any rfl bl0) ?_
    exact k_Client_sendRequest_b105_ok hp0 hL hF  g lv σ24 l1 (cI σ24 5 l0 5 0) l0 l1 (cob_mon (cput_mon h25) bl1) (cob_any rfl bl0) (cob_mon (cput_mon h25) bl1) g0 g1 _ h
  · rw [if_neg c26] at h
    refine cR_lift (fun _ _ kk => eE_iconst (v := 0) lk28_97 (by decide) kk) ?_
    refine cR_lift (fun _ _ kk => eE_goto (t := 105) lk28_98 (by decide) kk) ?_
    exact k_Client_sendRequest_b105_ok hp0 hL hF  g lv σ24 l1 ((0 : Int32)) l0 l1 (cob_mon (cput_mon h25) bl1) (cob_any rfl bl0) (cob_mon (cput_mon h25) bl1) g0 g1 _ h
def k_Client_sendRequest_b0 (F : Nat)  (σ : CS) (l0 : Nat) : Option (CS) :=
  (some (csI σ 5 l0 8 0 ((cI σ 5 l0 8 0) + ((1 : Int32))))).bind fun σ27 =>
  if xc2 .le (cI σ27 5 l0 8 0) ((40 : Int32)) = true then (
    (k_World_blank σ27 0).bind fun p30 =>
    (some (csI p30.2 8 p30.1 2 0 (cI p30.2 5 l0 0 0))).bind fun σ38 =>
    (some (csI σ38 8 p30.1 3 0 (cI σ38 5 l0 4 0))).bind fun σ40 =>
    (some (csI σ40 8 p30.1 4 0 ((10 : Int32)))).bind fun σ42 =>
    (some (csI σ42 8 p30.1 5 0 (cI σ42 5 l0 7 0))).bind fun σ44 =>
    if xc0 .eq (cI σ44 5 l0 10 0) = true then (
      (k_Client_isCommand σ44 l0).bind fun p47 =>
      if xc0 .eq p47 = true then (
        k_Client_sendRequest_b86 F  σ44 p30.1 ((2 : Int32)) l0 p30.1
      ) else (
        k_Client_sendRequest_b86 F  σ44 p30.1 ((1 : Int32)) l0 p30.1
      )
    ) else (
      k_Client_sendRequest_b86 F  σ44 p30.1 ((0 : Int32)) l0 p30.1
    )
  ) else (
    (k_Client_giveIn σ27 l0).bind fun p51 =>
    some p51
  )
set_option maxRecDepth 4000 in
theorem k_Client_sendRequest_b0_ok {E : CE} {pF : Nat → List Value → xH → Option (Option Value × xH)} (hp0 : xNPc pF) (hL : lcAll E pF) (hF : lcF pF) {d : Nat} {F : Nat}   : ∀ (g : CG) (lv : xL) (σ : CS) (l0 : Nat), (cob σ 5 l0) → (xg lv 0 = some (.ref (coa E 5 l0))) → ∀ res, k_Client_sendRequest_b0 F  σ l0 = some res → cR E (cQx [14]) pF (d + 11) kT28 5 2 none none res g σ (0, lv, []) := by
  intro g lv σ l0 bl0 g0 res h
  unfold k_Client_sendRequest_b0 at h
  refine cR_lift (fun _ _ kk => eE_aload_n lk28_0 g0 kk) ?_
  refine cR_lift (fun _ _ kk => eE_dup lk28_1 rfl kk) ?_
  refine cR_getI lk28_2 rf_5_37 rfl bl0 ?_
  refine cR_lift (fun _ _ kk => eE_iconst (v := 1) lk28_5 (by decide) kk) ?_
  refine cR_lift (fun _ _ kk => eE_iadd lk28_6 kk) ?_
  obtain ⟨σ27, h28, h⟩ := Option.bind_eq_some_iff.mp h
  refine cR_putI lk28_7 rf_5_37 rfl bl0 pf_5_8 rfl h28 ?_
  refine cR_lift (fun _ _ kk => eE_aload_n lk28_10 g0 kk) ?_
  refine cR_getI lk28_11 rf_5_37 rfl (cob_any rfl bl0) ?_
  refine cR_lift (fun _ _ kk => eE_bipush (v := 40) lk28_14 (by decide) kk) ?_
  refine cR_icmp (t := 24) lk28_16 (by decide) (fun c29 => ?_) (fun c29 => ?_)
  · rw [if_pos c29] at h
    refine cR_lift (fun _ _ kk => eE_aload_n lk28_24 g0 kk) ?_
    refine cR_getO (cl' := 14) (i' := 0) lk28_25 rf_5_25 rfl rfl (cob_any rfl bl0) ?_
    obtain ⟨p30, h31, h⟩ := Option.bind_eq_some_iff.mp h
    refine cR_rep (fun _ hc => k_World_blank_lt hc (cob_0 (c := σ27) (cl := 14) (by decide) rfl rfl) h31) (fun b32 => ?_)
    refine cR_virt (cl := 14) (i := 0) (as := []) lk28_28 mr_5_65 na_185 rfl rfl (by first | exact Nat.le_of_ble_eq_true rfl | (simp [xcat, cvo_cat, cat_i, cat_j, cat_r]; done)) wv_185 wc_185 (cob_0 (c := σ27) (cl := 14) (by decide) rfl rfl) (k_World_blank_ok hp0 hL hF (d := d + 1) (cob_0 (c := σ27) (cl := 14) (by decide) rfl rfl) h31) (fun m33  => ?_)
    refine cR_stA (j := 1) lk28_31 (Or.inr ⟨_, rfl, rfl⟩) (by decide) (fun vq34 gq35 kq36 => ?_)
    have gq37 := kq36 0 _ (by decide) (fun _ => rfl) g0
    refine cR_lift (fun _ _ kk => eE_aload_n lk28_32 gq35 kk) ?_
    refine cR_lift (fun _ _ kk => eE_aload_n lk28_33 gq37 kk) ?_
    refine cR_getI lk28_34 rf_5_22 rfl (cob_any rfl bl0) ?_
    obtain ⟨σ38, h39, h⟩ := Option.bind_eq_some_iff.mp h
    refine cR_putI lk28_37 rf_5_71 rfl b32 pf_8_2 rfl h39 ?_
    refine cR_lift (fun _ _ kk => eE_aload_n lk28_40 gq35 kk) ?_
    refine cR_lift (fun _ _ kk => eE_aload_n lk28_41 gq37 kk) ?_
    refine cR_getI lk28_42 rf_5_76 rfl (cob_any rfl bl0) ?_
    obtain ⟨σ40, h41, h⟩ := Option.bind_eq_some_iff.mp h
    refine cR_putI lk28_45 rf_5_79 rfl (cob_mon (cput_mon h39) b32) pf_8_3 rfl h41 ?_
    refine cR_lift (fun _ _ kk => eE_aload_n lk28_48 gq35 kk) ?_
    refine cR_lift (fun _ _ kk => eE_bipush (v := 10) lk28_49 (by decide) kk) ?_
    obtain ⟨σ42, h43, h⟩ := Option.bind_eq_some_iff.mp h
    refine cR_putI lk28_51 rf_5_82 rfl (cob_mon (cput_mon h41) (cob_mon (cput_mon h39) b32)) pf_8_4 rfl h43 ?_
    refine cR_lift (fun _ _ kk => eE_aload_n lk28_54 gq35 kk) ?_
    refine cR_lift (fun _ _ kk => eE_aload_n lk28_55 gq37 kk) ?_
    refine cR_getI lk28_56 rf_5_50 rfl (cob_any rfl bl0) ?_
    obtain ⟨σ44, h45, h⟩ := Option.bind_eq_some_iff.mp h
    refine cR_putI lk28_59 rf_5_85 rfl (cob_mon (cput_mon h43) (cob_mon (cput_mon h41) (cob_mon (cput_mon h39) b32))) pf_8_5 rfl h45 ?_
    refine cR_lift (fun _ _ kk => eE_aload_n lk28_62 gq35 kk) ?_
    refine cR_lift (fun _ _ kk => eE_aload_n lk28_63 gq37 kk) ?_
    refine cR_getI lk28_64 rf_5_44 rfl (cob_any rfl bl0) ?_
    refine cR_if (t := 74) lk28_67 (by decide) (fun c46 => ?_) (fun c46 => ?_)
    · rw [if_pos c46] at h
      refine cR_lift (fun _ _ kk => eE_aload_n lk28_74 gq37 kk) ?_
      obtain ⟨p47, h48, h⟩ := Option.bind_eq_some_iff.mp h
      refine cR_virt (cl := 5) (i := l0) (as := []) lk28_75 mr_5_40 na_27 rfl rfl (by first | exact Nat.le_of_ble_eq_true rfl | (simp [xcat, cvo_cat, cat_i, cat_j, cat_r]; done)) wv_27 wc_27 (cob_any rfl bl0) (k_Client_isCommand_ok hp0 hL hF (d := d + 9) (cob_any rfl bl0) h48) (fun m49  => ?_)
      refine cR_if (t := 85) lk28_78 (by decide) (fun c50 => ?_) (fun c50 => ?_)
      · rw [if_pos c50] at h
        refine cR_lift (fun _ _ kk => eE_iconst (v := 2) lk28_85 (by decide) kk) ?_
        exact k_Client_sendRequest_b86_ok hp0 hL hF  g vq34 σ44 p30.1 ((2 : Int32)) l0 p30.1 (cob_mon (cput_mon h45) (cob_mon (cput_mon h43) (cob_mon (cput_mon h41) (cob_mon (cput_mon h39) b32)))) (cob_any rfl bl0) (cob_mon (cput_mon h45) (cob_mon (cput_mon h43) (cob_mon (cput_mon h41) (cob_mon (cput_mon h39) b32)))) gq37 gq35 _ h
      · rw [if_neg c50] at h
        refine cR_lift (fun _ _ kk => eE_iconst (v := 1) lk28_81 (by decide) kk) ?_
        refine cR_lift (fun _ _ kk => eE_goto (t := 86) lk28_82 (by decide) kk) ?_
        exact k_Client_sendRequest_b86_ok hp0 hL hF  g vq34 σ44 p30.1 ((1 : Int32)) l0 p30.1 (cob_mon (cput_mon h45) (cob_mon (cput_mon h43) (cob_mon (cput_mon h41) (cob_mon (cput_mon h39) b32)))) (cob_any rfl bl0) (cob_mon (cput_mon h45) (cob_mon (cput_mon h43) (cob_mon (cput_mon h41) (cob_mon (cput_mon h39) b32)))) gq37 gq35 _ h
    · rw [if_neg c46] at h
      refine cR_lift (fun _ _ kk => eE_iconst (v := 0) lk28_70 (by decide) kk) ?_
      refine cR_lift (fun _ _ kk => eE_goto (t := 86) lk28_71 (by decide) kk) ?_
      exact k_Client_sendRequest_b86_ok hp0 hL hF  g vq34 σ44 p30.1 ((0 : Int32)) l0 p30.1 (cob_mon (cput_mon h45) (cob_mon (cput_mon h43) (cob_mon (cput_mon h41) (cob_mon (cput_mon h39) b32)))) (cob_any rfl bl0) (cob_mon (cput_mon h45) (cob_mon (cput_mon h43) (cob_mon (cput_mon h41) (cob_mon (cput_mon h39) b32)))) gq37 gq35 _ h
  · rw [if_neg c29] at h
    refine cR_lift (fun _ _ kk => eE_aload_n lk28_19 g0 kk) ?_
    obtain ⟨p51, h52, h⟩ := Option.bind_eq_some_iff.mp h
    refine cR_virt (cl := 5) (i := l0) (as := []) lk28_20 mr_5_62 na_22 rfl rfl (by first | exact Nat.le_of_ble_eq_true rfl | (simp [xcat, cvo_cat, cat_i, cat_j, cat_r]; done)) wv_22 wc_22 (cob_any rfl bl0) (k_Client_giveIn_ok hp0 hL hF (d := d + 8) (cob_any rfl bl0) h52) (fun m53  => ?_)
    cases h
    exact cR_end lk28_23 rfl rfl rfl
def k_Client_sendRequest (F : Nat) (σ : CS) (l0 : Nat) : Option (CS) := k_Client_sendRequest_b0 F σ l0
theorem k_Client_sendRequest_ok {E : CE} {pF : Nat → List Value → xH → Option (Option Value × xH)} (hp0 : xNPc pF) (hL : lcAll E pF) (hF : lcF pF) {d : Nat} {g : CG} {σ : CS} {F : Nat} {l0 : Nat} {res : CS} (bl0 : cob σ 5 l0) (h : k_Client_sendRequest F σ l0 = some res) : cCo E (cQx [14]) pF (d + 12) 28 [.ref (coa E 5 l0)] none res g σ :=
  cCo_R kk_28 mo_28 ni_28 xm_28 (Nat.le_of_ble_eq_true rfl) (hp0 28 (by decide) _) (k_Client_sendRequest_b0_ok hp0 hL hF g _ σ l0 bl0 rfl _ h)
/-! k_Client_begin (21), depth 13 -/
def k_Client_begin_b63 (F : Nat)  (σ : CS) (l0 : Nat) : Option (CS) :=
  (some (csI σ 5 l0 7 0 ((cI σ 5 l0 7 0) + ((1 : Int32))))).bind fun σ1 =>
  (k_Client_sendRequest F σ1 l0).bind fun p3 =>
  some p3
set_option maxRecDepth 4000 in
theorem k_Client_begin_b63_ok {E : CE} {pF : Nat → List Value → xH → Option (Option Value × xH)} (hp0 : xNPc pF) (hL : lcAll E pF) (hF : lcF pF) {d : Nat} {F : Nat}   : ∀ (g : CG) (lv : xL) (σ : CS) (l0 : Nat), (cob σ 5 l0) → (xg lv 0 = some (.ref (coa E 5 l0))) → ∀ res, k_Client_begin_b63 F  σ l0 = some res → cR E (cQx [14]) pF (d + 12) kT21 5 2 none none res g σ (63, lv, []) := by
  intro g lv σ l0 bl0 g0 res h
  unfold k_Client_begin_b63 at h
  refine cR_lift (fun _ _ kk => eE_aload_n lk21_63 g0 kk) ?_
  refine cR_lift (fun _ _ kk => eE_dup lk21_64 rfl kk) ?_
  refine cR_getI lk21_65 rf_5_50 rfl bl0 ?_
  refine cR_lift (fun _ _ kk => eE_iconst (v := 1) lk21_68 (by decide) kk) ?_
  refine cR_lift (fun _ _ kk => eE_iadd lk21_69 kk) ?_
  obtain ⟨σ1, h2, h⟩ := Option.bind_eq_some_iff.mp h
  refine cR_putI lk21_70 rf_5_50 rfl bl0 pf_5_7 rfl h2 ?_
  refine cR_lift (fun _ _ kk => eE_aload_n lk21_73 g0 kk) ?_
  obtain ⟨p3, h4, h⟩ := Option.bind_eq_some_iff.mp h
  refine cR_virtG (by exact cQx_sub rfl) (cl := 5) (i := l0) (as := []) lk21_74 mr_5_53 na_28 rfl rfl (by first | exact Nat.le_of_ble_eq_true rfl | (simp [xcat, cvo_cat, cat_i, cat_j, cat_r]; done)) wv_28 wc_28 (cob_any rfl bl0) (k_Client_sendRequest_ok hp0 hL hF (d := d + 0) (cob_any rfl bl0) h4) (fun m5 g_6 g_6e => ?_)
  cases h
  exact cR_end lk21_77 rfl rfl rfl
def k_Client_begin_b36 (F : Nat)  (σ : CS) (s0 : Nat) (s1 : Int32) (l0 : Nat) : Option (CS) :=
  (cputZ σ 5 s0 10 s1).bind fun σ7 =>
  (k_Client_isCommand σ7 l0).bind fun p9 =>
  if xc0 .eq p9 = true then (
    k_Client_begin_b63 F  σ7 l0
  ) else (
    if xc0 .ne (cI σ7 5 l0 10 0) = true then (
      k_Client_begin_b63 F  σ7 l0
    ) else (
      (some (csI σ7 5 l0 6 0 ((cI σ7 5 l0 6 0) + ((1 : Int32))))).bind fun σ14 =>
      k_Client_begin_b63 F  σ14 l0
    )
  )
set_option maxRecDepth 4000 in
theorem k_Client_begin_b36_ok {E : CE} {pF : Nat → List Value → xH → Option (Option Value × xH)} (hp0 : xNPc pF) (hL : lcAll E pF) (hF : lcF pF) {d : Nat} {F : Nat}   : ∀ (g : CG) (lv : xL) (σ : CS) (s0 : Nat) (s1 : Int32) (l0 : Nat), (cob σ 5 s0) → (cob σ 5 l0) → (xg lv 0 = some (.ref (coa E 5 l0))) → ∀ res, k_Client_begin_b36 F  σ s0 s1 l0 = some res → cR E (cQx [14]) pF (d + 12) kT21 5 2 none none res g σ (36, lv, [.int s1, .ref (coa E 5 s0)]) := by
  intro g lv σ s0 s1 l0 bs0 bl0 g0 res h
  unfold k_Client_begin_b36 at h
  obtain ⟨σ7, h8, h⟩ := Option.bind_eq_some_iff.mp h
  refine cR_putZ lk21_36 rf_5_44 rfl bs0 pf_5_10 h8 ?_
  refine cR_lift (fun _ _ kk => eE_aload_n lk21_39 g0 kk) ?_
  obtain ⟨p9, h10, h⟩ := Option.bind_eq_some_iff.mp h
  refine cR_virt (cl := 5) (i := l0) (as := []) lk21_40 mr_5_40 na_27 rfl rfl (by first | exact Nat.le_of_ble_eq_true rfl | (simp [xcat, cvo_cat, cat_i, cat_j, cat_r]; done)) wv_27 wc_27 (cob_any rfl bl0) (k_Client_isCommand_ok hp0 hL hF (d := d + 10) (cob_any rfl bl0) h10) (fun m11  => ?_)
  refine cR_if (t := 63) lk21_43 (by decide) (fun c12 => ?_) (fun c12 => ?_)
  · rw [if_pos c12] at h
    exact k_Client_begin_b63_ok hp0 hL hF  g lv σ7 l0 (cob_any rfl bl0) g0 _ h
  · rw [if_neg c12] at h
    refine cR_lift (fun _ _ kk => eE_aload_n lk21_46 g0 kk) ?_
    refine cR_getI lk21_47 rf_5_44 rfl (cob_any rfl bl0) ?_
    refine cR_if (t := 63) lk21_50 (by decide) (fun c13 => ?_) (fun c13 => ?_)
    · rw [if_pos c13] at h
      exact k_Client_begin_b63_ok hp0 hL hF  g lv σ7 l0 (cob_any rfl bl0) g0 _ h
    · rw [if_neg c13] at h
      refine cR_lift (fun _ _ kk => eE_aload_n lk21_53 g0 kk) ?_
      refine cR_lift (fun _ _ kk => eE_dup lk21_54 rfl kk) ?_
      refine cR_getI lk21_55 rf_5_47 rfl (cob_any rfl bl0) ?_
      refine cR_lift (fun _ _ kk => eE_iconst (v := 1) lk21_58 (by decide) kk) ?_
      refine cR_lift (fun _ _ kk => eE_iadd lk21_59 kk) ?_
      obtain ⟨σ14, h15, h⟩ := Option.bind_eq_some_iff.mp h
      refine cR_putI lk21_60 rf_5_47 rfl (cob_any rfl bl0) pf_5_6 rfl h15 ?_
      exact k_Client_begin_b63_ok hp0 hL hF  g lv σ14 l0 (cob_any rfl bl0) g0 _ h
def k_Client_begin_b35 (F : Nat)  (σ : CS) (s0 : Nat) (l0 : Nat) : Option (CS) :=
  k_Client_begin_b36 F  σ s0 ((0 : Int32)) l0
set_option maxRecDepth 4000 in
theorem k_Client_begin_b35_ok {E : CE} {pF : Nat → List Value → xH → Option (Option Value × xH)} (hp0 : xNPc pF) (hL : lcAll E pF) (hF : lcF pF) {d : Nat} {F : Nat}   : ∀ (g : CG) (lv : xL) (σ : CS) (s0 : Nat) (l0 : Nat), (cob σ 5 s0) → (cob σ 5 l0) → (xg lv 0 = some (.ref (coa E 5 l0))) → ∀ res, k_Client_begin_b35 F  σ s0 l0 = some res → cR E (cQx [14]) pF (d + 12) kT21 5 2 none none res g σ (35, lv, [.ref (coa E 5 s0)]) := by
  intro g lv σ s0 l0 bs0 bl0 g0 res h
  unfold k_Client_begin_b35 at h
  refine cR_lift (fun _ _ kk => eE_iconst (v := 0) lk21_35 (by decide) kk) ?_
  exact k_Client_begin_b36_ok hp0 hL hF  g lv σ s0 ((0 : Int32)) l0 bs0 bl0 g0 _ h
def k_Client_begin_b0 (F : Nat)  (σ : CS) (l0 : Nat) (l1 : Int32) : Option (CS) :=
  (cputZ σ 5 l0 3 ((1 : Int32))).bind fun σ16 =>
  (some (csI σ16 5 l0 9 0 l1)).bind fun σ18 =>
  (some (csI σ18 5 l0 8 0 ((0 : Int32)))).bind fun σ20 =>
  (k_Client_isCommand σ20 l0).bind fun p22 =>
  if xc0 .eq p22 = true then (
    k_Client_begin_b35 F  σ20 l0 l0
  ) else (
    if xc2 .ne (cI σ20 5 l0 5 0) ((-1 : Int32)) = true then (
      k_Client_begin_b35 F  σ20 l0 l0
    ) else (
      k_Client_begin_b36 F  σ20 l0 ((1 : Int32)) l0
    )
  )
set_option maxRecDepth 4000 in
theorem k_Client_begin_b0_ok {E : CE} {pF : Nat → List Value → xH → Option (Option Value × xH)} (hp0 : xNPc pF) (hL : lcAll E pF) (hF : lcF pF) {d : Nat} {F : Nat}   : ∀ (g : CG) (lv : xL) (σ : CS) (l0 : Nat) (l1 : Int32), (cob σ 5 l0) → (xg lv 0 = some (.ref (coa E 5 l0))) → (xg lv 1 = some (.int l1)) → ∀ res, k_Client_begin_b0 F  σ l0 l1 = some res → cR E (cQx [14]) pF (d + 12) kT21 5 2 none none res g σ (0, lv, []) := by
  intro g lv σ l0 l1 bl0 g0 g1 res h
  unfold k_Client_begin_b0 at h
  refine cR_lift (fun _ _ kk => eE_aload_n lk21_0 g0 kk) ?_
  refine cR_lift (fun _ _ kk => eE_iconst (v := 1) lk21_1 (by decide) kk) ?_
  obtain ⟨σ16, h17, h⟩ := Option.bind_eq_some_iff.mp h
  refine cR_putZ lk21_2 rf_5_33 rfl bl0 pf_5_3 h17 ?_
  refine cR_lift (fun _ _ kk => eE_aload_n lk21_5 g0 kk) ?_
  refine cR_lift (fun _ _ kk => eE_iload_n lk21_6 g1 kk) ?_
  obtain ⟨σ18, h19, h⟩ := Option.bind_eq_some_iff.mp h
  refine cR_putI lk21_7 rf_5_15 rfl (cob_any rfl bl0) pf_5_9 rfl h19 ?_
  refine cR_lift (fun _ _ kk => eE_aload_n lk21_10 g0 kk) ?_
  refine cR_lift (fun _ _ kk => eE_iconst (v := 0) lk21_11 (by decide) kk) ?_
  obtain ⟨σ20, h21, h⟩ := Option.bind_eq_some_iff.mp h
  refine cR_putI lk21_12 rf_5_37 rfl (cob_any rfl bl0) pf_5_8 rfl h21 ?_
  refine cR_lift (fun _ _ kk => eE_aload_n lk21_15 g0 kk) ?_
  refine cR_lift (fun _ _ kk => eE_aload_n lk21_16 g0 kk) ?_
  obtain ⟨p22, h23, h⟩ := Option.bind_eq_some_iff.mp h
  refine cR_virt (cl := 5) (i := l0) (as := []) lk21_17 mr_5_40 na_27 rfl rfl (by first | exact Nat.le_of_ble_eq_true rfl | (simp [xcat, cvo_cat, cat_i, cat_j, cat_r]; done)) wv_27 wc_27 (cob_any rfl bl0) (k_Client_isCommand_ok hp0 hL hF (d := d + 10) (cob_any rfl bl0) h23) (fun m24  => ?_)
  refine cR_if (t := 35) lk21_20 (by decide) (fun c25 => ?_) (fun c25 => ?_)
  · rw [if_pos c25] at h
    exact k_Client_begin_b35_ok hp0 hL hF  g lv σ20 l0 l0 (cob_any rfl bl0) (cob_any rfl bl0) g0 _ h
  · rw [if_neg c25] at h
    refine cR_lift (fun _ _ kk => eE_aload_n lk21_23 g0 kk) ?_
    refine cR_getI lk21_24 rf_5_9 rfl (cob_any rfl bl0) ?_
    refine cR_lift (fun _ _ kk => eE_iconst (v := (-1)) lk21_27 (by decide) kk) ?_
    refine cR_icmp (t := 35) lk21_28 (by decide) (fun c26 => ?_) (fun c26 => ?_)
    · rw [if_pos c26] at h
      exact k_Client_begin_b35_ok hp0 hL hF  g lv σ20 l0 l0 (cob_any rfl bl0) (cob_any rfl bl0) g0 _ h
    · rw [if_neg c26] at h
      refine cR_lift (fun _ _ kk => eE_iconst (v := 1) lk21_31 (by decide) kk) ?_
      refine cR_lift (fun _ _ kk => eE_goto (t := 36) lk21_32 (by decide) kk) ?_
      exact k_Client_begin_b36_ok hp0 hL hF  g lv σ20 l0 ((1 : Int32)) l0 (cob_any rfl bl0) (cob_any rfl bl0) g0 _ h
def k_Client_begin (F : Nat) (σ : CS) (l0 : Nat) (l1 : Int32) : Option (CS) := k_Client_begin_b0 F σ l0 l1
theorem k_Client_begin_ok {E : CE} {pF : Nat → List Value → xH → Option (Option Value × xH)} (hp0 : xNPc pF) (hL : lcAll E pF) (hF : lcF pF) {d : Nat} {g : CG} {σ : CS} {F : Nat} {l0 : Nat} {l1 : Int32} {res : CS} (bl0 : cob σ 5 l0) (h : k_Client_begin F σ l0 l1 = some res) : cCo E (cQx [14]) pF (d + 13) 21 [.ref (coa E 5 l0), .int l1] none res g σ :=
  cCo_R kk_21 mo_21 ni_21 xm_21 (Nat.le_of_ble_eq_true rfl) (hp0 21 (by decide) _) (k_Client_begin_b0_ok hp0 hL hF g _ σ l0 l1 bl0 rfl rfl _ h)
/-! k_Client_turnToNext (30), depth 1 -/
def k_Client_turnToNext_b22  (σ : CS) (s0 : Nat) (s1 : Int32) : Option (CS) :=
  (some (csI σ 5 s0 4 0 s1)).bind fun σ1 =>
  some σ1
set_option maxRecDepth 4000 in
theorem k_Client_turnToNext_b22_ok {E : CE} {pF : Nat → List Value → xH → Option (Option Value × xH)} (hp0 : xNPc pF) (hL : lcAll E pF) (hF : lcF pF) {d : Nat}   : ∀ (g : CG) (lv : xL) (σ : CS) (s0 : Nat) (s1 : Int32), (cob σ 5 s0) → ∀ res, k_Client_turnToNext_b22  σ s0 s1 = some res → cR E cQ1 pF (d + 0) kT30 5 1 none none res g σ (22, lv, [.int s1, .ref (coa E 5 s0)]) := by
  intro g lv σ s0 s1 bs0 res h
  unfold k_Client_turnToNext_b22 at h
  obtain ⟨σ1, h2, h⟩ := Option.bind_eq_some_iff.mp h
  refine cR_putI lk30_22 rf_5_76 rfl bs0 pf_5_4 rfl h2 ?_
  cases h
  exact cR_end lk30_25 rfl rfl rfl
def k_Client_turnToNext_b0  (σ : CS) (l0 : Nat) : Option (CS) :=
  if xc2 .ge ((cI σ 5 l0 4 0) + ((1 : Int32))) ((7 : Int32)) = true then (
    k_Client_turnToNext_b22  σ l0 ((0 : Int32))
  ) else (
    k_Client_turnToNext_b22  σ l0 ((cI σ 5 l0 4 0) + ((1 : Int32)))
  )
set_option maxRecDepth 4000 in
theorem k_Client_turnToNext_b0_ok {E : CE} {pF : Nat → List Value → xH → Option (Option Value × xH)} (hp0 : xNPc pF) (hL : lcAll E pF) (hF : lcF pF) {d : Nat}   : ∀ (g : CG) (lv : xL) (σ : CS) (l0 : Nat), (cob σ 5 l0) → (xg lv 0 = some (.ref (coa E 5 l0))) → ∀ res, k_Client_turnToNext_b0  σ l0 = some res → cR E cQ1 pF (d + 0) kT30 5 1 none none res g σ (0, lv, []) := by
  intro g lv σ l0 bl0 g0 res h
  unfold k_Client_turnToNext_b0 at h
  refine cR_lift (fun _ _ kk => eE_aload_n lk30_0 g0 kk) ?_
  refine cR_lift (fun _ _ kk => eE_aload_n lk30_1 g0 kk) ?_
  refine cR_getI lk30_2 rf_5_76 rfl bl0 ?_
  refine cR_lift (fun _ _ kk => eE_iconst (v := 1) lk30_5 (by decide) kk) ?_
  refine cR_lift (fun _ _ kk => eE_iadd lk30_6 kk) ?_
  refine cR_lift (fun _ _ kk => eE_bipush (v := 7) lk30_7 (by decide) kk) ?_
  refine cR_icmp (t := 21) lk30_9 (by decide) (fun c3 => ?_) (fun c3 => ?_)
  · rw [if_pos c3] at h
    refine cR_lift (fun _ _ kk => eE_iconst (v := 0) lk30_21 (by decide) kk) ?_
    exact k_Client_turnToNext_b22_ok hp0 hL hF  g lv σ l0 ((0 : Int32)) bl0 _ h
  · rw [if_neg c3] at h
    refine cR_lift (fun _ _ kk => eE_aload_n lk30_12 g0 kk) ?_
    refine cR_getI lk30_13 rf_5_76 rfl bl0 ?_
    refine cR_lift (fun _ _ kk => eE_iconst (v := 1) lk30_16 (by decide) kk) ?_
    refine cR_lift (fun _ _ kk => eE_iadd lk30_17 kk) ?_
    refine cR_lift (fun _ _ kk => eE_goto (t := 22) lk30_18 (by decide) kk) ?_
    exact k_Client_turnToNext_b22_ok hp0 hL hF  g lv σ l0 ((cI σ 5 l0 4 0) + ((1 : Int32))) bl0 _ h
def k_Client_turnToNext (σ : CS) (l0 : Nat) : Option (CS) := k_Client_turnToNext_b0 σ l0
theorem k_Client_turnToNext_ok {E : CE} {pF : Nat → List Value → xH → Option (Option Value × xH)} (hp0 : xNPc pF) (hL : lcAll E pF) (hF : lcF pF) {d : Nat} {g : CG} {σ : CS} {l0 : Nat} {res : CS} (bl0 : cob σ 5 l0) (h : k_Client_turnToNext σ l0 = some res) : cCo E cQ1 pF (d + 1) 30 [.ref (coa E 5 l0)] none res g σ :=
  cCo_R kk_30 mo_30 ni_30 xm_30 (Nat.le_of_ble_eq_true rfl) (hp0 30 (by decide) _) (k_Client_turnToNext_b0_ok hp0 hL hF g _ σ l0 bl0 rfl _ h)
/-! k_Client_hearElsewhere (25), depth 13 -/
def k_Client_hearElsewhere_b32 (F : Nat)  (σ : CS) : Option (CS) :=
  some σ
set_option maxRecDepth 4000 in
theorem k_Client_hearElsewhere_b32_ok {E : CE} {pF : Nat → List Value → xH → Option (Option Value × xH)} (hp0 : xNPc pF) (hL : lcAll E pF) (hF : lcF pF) {d : Nat} {F : Nat}   : ∀ (g : CG) (lv : xL) (σ : CS), ∀ res, k_Client_hearElsewhere_b32 F  σ = some res → cR E (cQx [14]) pF (d + 12) kT25 5 2 none none res g σ (32, lv, []) := by
  intro g lv σ res h
  unfold k_Client_hearElsewhere_b32 at h
  cases h
  exact cR_end lk25_32 rfl rfl rfl
def k_Client_hearElsewhere_b22 (F : Nat)  (σ : CS) (l0 : Nat) : Option (CS) :=
  (k_Client_turnToNext σ l0).bind fun p1 =>
  (k_Client_setAlarm p1 l0 ((5 : Int32)) ((0 : Int32))).bind fun p4 =>
  k_Client_hearElsewhere_b32 F  p4
set_option maxRecDepth 4000 in
theorem k_Client_hearElsewhere_b22_ok {E : CE} {pF : Nat → List Value → xH → Option (Option Value × xH)} (hp0 : xNPc pF) (hL : lcAll E pF) (hF : lcF pF) {d : Nat} {F : Nat}   : ∀ (g : CG) (lv : xL) (σ : CS) (l0 : Nat), (cob σ 5 l0) → (xg lv 0 = some (.ref (coa E 5 l0))) → ∀ res, k_Client_hearElsewhere_b22 F  σ l0 = some res → cR E (cQx [14]) pF (d + 12) kT25 5 2 none none res g σ (22, lv, []) := by
  intro g lv σ l0 bl0 g0 res h
  unfold k_Client_hearElsewhere_b22 at h
  refine cR_lift (fun _ _ kk => eE_aload_n lk25_22 g0 kk) ?_
  obtain ⟨p1, h2, h⟩ := Option.bind_eq_some_iff.mp h
  refine cR_virt (cl := 5) (i := l0) (as := []) lk25_23 mr_5_118 na_30 rfl rfl (by first | exact Nat.le_of_ble_eq_true rfl | (simp [xcat, cvo_cat, cat_i, cat_j, cat_r]; done)) wv_30 wc_30 bl0 (k_Client_turnToNext_ok hp0 hL hF (d := d + 11) bl0 h2) (fun m3  => ?_)
  refine cR_lift (fun _ _ kk => eE_aload_n lk25_26 g0 kk) ?_
  refine cR_lift (fun _ _ kk => eE_iconst (v := 5) lk25_27 (by decide) kk) ?_
  refine cR_lift (fun _ _ kk => eE_iconst (v := 0) lk25_28 (by decide) kk) ?_
  obtain ⟨p4, h5, h⟩ := Option.bind_eq_some_iff.mp h
  refine cR_virt (cl := 5) (i := l0) (as := [.int ((5 : Int32)), .int ((0 : Int32))]) lk25_29 mr_5_104 na_29 rfl rfl (by first | exact Nat.le_of_ble_eq_true rfl | (simp [xcat, cvo_cat, cat_i, cat_j, cat_r]; done)) wv_29 wc_29 (cob_any rfl bl0) (k_Client_setAlarm_ok hp0 hL hF (d := d + 10) (cob_any rfl bl0) h5) (fun m6  => ?_)
  exact k_Client_hearElsewhere_b32_ok hp0 hL hF  g lv p4  _ h
def k_Client_hearElsewhere_b0 (F : Nat)  (σ : CS) (l0 : Nat) (l1 : Int32) : Option (CS) :=
  if xc0 .lt l1 = true then (
    k_Client_hearElsewhere_b22 F  σ l0
  ) else (
    if xc2 .ge l1 ((7 : Int32)) = true then (
      k_Client_hearElsewhere_b22 F  σ l0
    ) else (
      (some (csI σ 5 l0 4 0 l1)).bind fun σ9 =>
      (k_Client_sendRequest F σ9 l0).bind fun p11 =>
      k_Client_hearElsewhere_b32 F  p11
    )
  )
set_option maxRecDepth 4000 in
theorem k_Client_hearElsewhere_b0_ok {E : CE} {pF : Nat → List Value → xH → Option (Option Value × xH)} (hp0 : xNPc pF) (hL : lcAll E pF) (hF : lcF pF) {d : Nat} {F : Nat}   : ∀ (g : CG) (lv : xL) (σ : CS) (l0 : Nat) (l1 : Int32), (cob σ 5 l0) → (xg lv 0 = some (.ref (coa E 5 l0))) → (xg lv 1 = some (.int l1)) → ∀ res, k_Client_hearElsewhere_b0 F  σ l0 l1 = some res → cR E (cQx [14]) pF (d + 12) kT25 5 2 none none res g σ (0, lv, []) := by
  intro g lv σ l0 l1 bl0 g0 g1 res h
  unfold k_Client_hearElsewhere_b0 at h
  refine cR_lift (fun _ _ kk => eE_iload_n lk25_0 g1 kk) ?_
  refine cR_if (t := 22) lk25_1 (by decide) (fun c7 => ?_) (fun c7 => ?_)
  · rw [if_pos c7] at h
    exact k_Client_hearElsewhere_b22_ok hp0 hL hF  g lv σ l0 bl0 g0 _ h
  · rw [if_neg c7] at h
    refine cR_lift (fun _ _ kk => eE_iload_n lk25_4 g1 kk) ?_
    refine cR_lift (fun _ _ kk => eE_bipush (v := 7) lk25_5 (by decide) kk) ?_
    refine cR_icmp (t := 22) lk25_7 (by decide) (fun c8 => ?_) (fun c8 => ?_)
    · rw [if_pos c8] at h
      exact k_Client_hearElsewhere_b22_ok hp0 hL hF  g lv σ l0 bl0 g0 _ h
    · rw [if_neg c8] at h
      refine cR_lift (fun _ _ kk => eE_aload_n lk25_10 g0 kk) ?_
      refine cR_lift (fun _ _ kk => eE_iload_n lk25_11 g1 kk) ?_
      obtain ⟨σ9, h10, h⟩ := Option.bind_eq_some_iff.mp h
      refine cR_putI lk25_12 rf_5_76 rfl bl0 pf_5_4 rfl h10 ?_
      refine cR_lift (fun _ _ kk => eE_aload_n lk25_15 g0 kk) ?_
      obtain ⟨p11, h12, h⟩ := Option.bind_eq_some_iff.mp h
      refine cR_virtG (by exact cQx_sub rfl) (cl := 5) (i := l0) (as := []) lk25_16 mr_5_53 na_28 rfl rfl (by first | exact Nat.le_of_ble_eq_true rfl | (simp [xcat, cvo_cat, cat_i, cat_j, cat_r]; done)) wv_28 wc_28 (cob_any rfl bl0) (k_Client_sendRequest_ok hp0 hL hF (d := d + 0) (cob_any rfl bl0) h12) (fun m13 g_14 g_14e => ?_)
      refine cR_lift (fun _ _ kk => eE_goto (t := 32) lk25_19 (by decide) kk) ?_
      exact k_Client_hearElsewhere_b32_ok hp0 hL hF  g_14 lv p11  _ h
def k_Client_hearElsewhere (F : Nat) (σ : CS) (l0 : Nat) (l1 : Int32) : Option (CS) := k_Client_hearElsewhere_b0 F σ l0 l1
theorem k_Client_hearElsewhere_ok {E : CE} {pF : Nat → List Value → xH → Option (Option Value × xH)} (hp0 : xNPc pF) (hL : lcAll E pF) (hF : lcF pF) {d : Nat} {g : CG} {σ : CS} {F : Nat} {l0 : Nat} {l1 : Int32} {res : CS} (bl0 : cob σ 5 l0) (h : k_Client_hearElsewhere F σ l0 l1 = some res) : cCo E (cQx [14]) pF (d + 13) 25 [.ref (coa E 5 l0), .int l1] none res g σ :=
  cCo_R kk_25 mo_25 ni_25 xm_25 (Nat.le_of_ble_eq_true rfl) (hp0 25 (by decide) _) (k_Client_hearElsewhere_b0_ok hp0 hL hF g _ σ l0 l1 bl0 rfl rfl _ h)
/-! k_Client_hearDone (24), depth 13 -/
def k_Client_hearDone_b0 (F : Nat)  (σ : CS) (l0 : Nat) (l1 : Nat) : Option (CS) :=
  if xc0 .eq (cI σ 5 l0 10 0) = true then (
    (some (csI σ 5 l0 13 0 (cmin (cI σ 8 l1 17 0) (Int32.ofNat (cal σ 5 l0 12))))).bind fun σ2 =>
    (ccpy σ2 8 l1 19 ((0 : Int32)) 5 l0 12 ((0 : Int32)) (cI σ2 5 l0 13 0)).bind fun σ4 =>
    (k_Client_beTold σ4 l0 ((1 : Int32)) (cI σ4 8 l1 7 0)).bind fun p6 =>
    some p6
  ) else (
    (cputZ σ 5 l0 10 ((0 : Int32))).bind fun σ9 =>
    (some (csI σ9 5 l0 5 0 (cI σ9 8 l1 7 0))).bind fun σ11 =>
    (some (csI σ11 5 l0 6 0 ((1 : Int32)))).bind fun σ13 =>
    (some (csI σ13 5 l0 7 0 ((cI σ13 5 l0 7 0) + ((1 : Int32))))).bind fun σ15 =>
    (k_Client_sendRequest F σ15 l0).bind fun p17 =>
    some p17
  )
set_option maxRecDepth 4000 in
theorem k_Client_hearDone_b0_ok {E : CE} {pF : Nat → List Value → xH → Option (Option Value × xH)} (hp0 : xNPc pF) (hL : lcAll E pF) (hF : lcF pF) {d : Nat} {F : Nat}   : ∀ (g : CG) (lv : xL) (σ : CS) (l0 : Nat) (l1 : Nat), (cob σ 5 l0) → (cob σ 8 l1) → (xg lv 0 = some (.ref (coa E 5 l0))) → (xg lv 1 = some (.ref (coa E 8 l1))) → ∀ res, k_Client_hearDone_b0 F  σ l0 l1 = some res → cR E (cQx [14]) pF (d + 12) kT24 5 2 none none res g σ (0, lv, []) := by
  intro g lv σ l0 l1 bl0 bl1 g0 g1 res h
  unfold k_Client_hearDone_b0 at h
  refine cR_lift (fun _ _ kk => eE_aload_n lk24_0 g0 kk) ?_
  refine cR_getI lk24_1 rf_5_44 rfl bl0 ?_
  refine cR_if (t := 40) lk24_4 (by decide) (fun c1 => ?_) (fun c1 => ?_)
  · rw [if_pos c1] at h
    refine cR_lift (fun _ _ kk => eE_aload_n lk24_40 g0 kk) ?_
    refine cR_lift (fun _ _ kk => eE_aload_n lk24_41 g1 kk) ?_
    refine cR_getI lk24_42 rf_5_97 rfl bl1 ?_
    refine cR_lift (fun _ _ kk => eE_aload_n lk24_45 g0 kk) ?_
    refine cR_getA lk24_46 rf_5_18 (by decide) bl0 ?_
    refine cR_alen (cl := 5) (i := l0) (f := 12) lk24_49 (by decide) (by decide) bl0 ?_
    refine cR_min lk24_50 mr_5_131 (by first | exact Nat.le_of_ble_eq_true rfl | (simp [xcat, cvo_cat, cat_i, cat_j, cat_r]; done)) ?_
    obtain ⟨σ2, h3, h⟩ := Option.bind_eq_some_iff.mp h
    refine cR_putI lk24_53 rf_5_136 rfl bl0 pf_5_13 rfl h3 ?_
    refine cR_lift (fun _ _ kk => eE_aload_n lk24_56 g1 kk) ?_
    refine cR_getA lk24_57 rf_5_139 (by decide) (cob_mon (cput_mon h3) bl1) ?_
    refine cR_lift (fun _ _ kk => eE_iconst (v := 0) lk24_60 (by decide) kk) ?_
    refine cR_lift (fun _ _ kk => eE_aload_n lk24_61 g0 kk) ?_
    refine cR_getA lk24_62 rf_5_18 (by decide) (cob_any rfl bl0) ?_
    refine cR_lift (fun _ _ kk => eE_iconst (v := 0) lk24_65 (by decide) kk) ?_
    refine cR_lift (fun _ _ kk => eE_aload_n lk24_66 g0 kk) ?_
    refine cR_getI lk24_67 rf_5_136 rfl (cob_any rfl bl0) ?_
    obtain ⟨σ4, h5, h⟩ := Option.bind_eq_some_iff.mp h
    refine cR_cpy (a := 8) (i := l1) (f := 19) (a' := 5) (i' := l0) (f' := 12) lk24_70 yc_5_142.1 yc_5_142.2 (by decide) (by decide) (by decide) (cob_mon (cput_mon h3) bl1) (cob_any rfl bl0) (by first | exact Nat.le_of_ble_eq_true rfl | (simp [xcat, cvo_cat, cat_i, cat_j, cat_r]; done)) h5 ?_
    refine cR_lift (fun _ _ kk => eE_aload_n lk24_73 g0 kk) ?_
    refine cR_lift (fun _ _ kk => eE_iconst (v := 1) lk24_74 (by decide) kk) ?_
    refine cR_lift (fun _ _ kk => eE_aload_n lk24_75 g1 kk) ?_
    refine cR_getI lk24_76 rf_5_124 rfl (cob_mon (ccpy_mon h5) (cob_mon (cput_mon h3) bl1)) ?_
    obtain ⟨p6, h7, h⟩ := Option.bind_eq_some_iff.mp h
    refine cR_virt (cl := 5) (i := l0) (as := [.int ((1 : Int32)), .int (cI σ4 8 l1 7 0)]) lk24_79 mr_5_148 na_20 rfl rfl (by first | exact Nat.le_of_ble_eq_true rfl | (simp [xcat, cvo_cat, cat_i, cat_j, cat_r]; done)) wv_20 wc_20 (cob_any rfl bl0) (k_Client_beTold_ok hp0 hL hF (d := d + 10) (cob_any rfl bl0) h7) (fun m8  => ?_)
    cases h
    exact cR_end lk24_82 rfl rfl rfl
  · rw [if_neg c1] at h
    refine cR_lift (fun _ _ kk => eE_aload_n lk24_7 g0 kk) ?_
    refine cR_lift (fun _ _ kk => eE_iconst (v := 0) lk24_8 (by decide) kk) ?_
    obtain ⟨σ9, h10, h⟩ := Option.bind_eq_some_iff.mp h
    refine cR_putZ lk24_9 rf_5_44 rfl bl0 pf_5_10 h10 ?_
    refine cR_lift (fun _ _ kk => eE_aload_n lk24_12 g0 kk) ?_
    refine cR_lift (fun _ _ kk => eE_aload_n lk24_13 g1 kk) ?_
    refine cR_getI lk24_14 rf_5_124 rfl (cob_mon (cputZ_mon h10) bl1) ?_
    obtain ⟨σ11, h12, h⟩ := Option.bind_eq_some_iff.mp h
    refine cR_putI lk24_17 rf_5_9 rfl (cob_any rfl bl0) pf_5_5 rfl h12 ?_
    refine cR_lift (fun _ _ kk => eE_aload_n lk24_20 g0 kk) ?_
    refine cR_lift (fun _ _ kk => eE_iconst (v := 1) lk24_21 (by decide) kk) ?_
    obtain ⟨σ13, h14, h⟩ := Option.bind_eq_some_iff.mp h
    refine cR_putI lk24_22 rf_5_47 rfl (cob_any rfl bl0) pf_5_6 rfl h14 ?_
    refine cR_lift (fun _ _ kk => eE_aload_n lk24_25 g0 kk) ?_
    refine cR_lift (fun _ _ kk => eE_dup lk24_26 rfl kk) ?_
    refine cR_getI lk24_27 rf_5_50 rfl (cob_any rfl bl0) ?_
    refine cR_lift (fun _ _ kk => eE_iconst (v := 1) lk24_30 (by decide) kk) ?_
    refine cR_lift (fun _ _ kk => eE_iadd lk24_31 kk) ?_
    obtain ⟨σ15, h16, h⟩ := Option.bind_eq_some_iff.mp h
    refine cR_putI lk24_32 rf_5_50 rfl (cob_any rfl bl0) pf_5_7 rfl h16 ?_
    refine cR_lift (fun _ _ kk => eE_aload_n lk24_35 g0 kk) ?_
    obtain ⟨p17, h18, h⟩ := Option.bind_eq_some_iff.mp h
    refine cR_virtG (by exact cQx_sub rfl) (cl := 5) (i := l0) (as := []) lk24_36 mr_5_53 na_28 rfl rfl (by first | exact Nat.le_of_ble_eq_true rfl | (simp [xcat, cvo_cat, cat_i, cat_j, cat_r]; done)) wv_28 wc_28 (cob_any rfl bl0) (k_Client_sendRequest_ok hp0 hL hF (d := d + 0) (cob_any rfl bl0) h18) (fun m19 g_20 g_20e => ?_)
    cases h
    exact cR_end lk24_39 rfl rfl rfl
def k_Client_hearDone (F : Nat) (σ : CS) (l0 : Nat) (l1 : Nat) : Option (CS) := k_Client_hearDone_b0 F σ l0 l1
theorem k_Client_hearDone_ok {E : CE} {pF : Nat → List Value → xH → Option (Option Value × xH)} (hp0 : xNPc pF) (hL : lcAll E pF) (hF : lcF pF) {d : Nat} {g : CG} {σ : CS} {F : Nat} {l0 : Nat} {l1 : Nat} {res : CS} (bl0 : cob σ 5 l0) (bl1 : cob σ 8 l1) (h : k_Client_hearDone F σ l0 l1 = some res) : cCo E (cQx [14]) pF (d + 13) 24 [.ref (coa E 5 l0), .ref (coa E 8 l1)] none res g σ :=
  cCo_R kk_24 mo_24 ni_24 xm_24 (Nat.le_of_ble_eq_true rfl) (hp0 24 (by decide) _) (k_Client_hearDone_b0_ok hp0 hL hF g _ σ l0 l1 bl0 bl1 rfl rfl _ h)
/-! k_Client_hear (23), depth 14 -/
def k_Client_hear_b18 (F : Nat)  (σ : CS) : Option (CS) :=
  some σ
set_option maxRecDepth 4000 in
theorem k_Client_hear_b18_ok {E : CE} {pF : Nat → List Value → xH → Option (Option Value × xH)} (hp0 : xNPc pF) (hL : lcAll E pF) (hF : lcF pF) {d : Nat} {F : Nat}   : ∀ (g : CG) (lv : xL) (σ : CS), ∀ res, k_Client_hear_b18 F  σ = some res → cR E (cQx [14]) pF (d + 13) kT23 5 2 none none res g σ (18, lv, []) := by
  intro g lv σ res h
  unfold k_Client_hear_b18 at h
  cases h
  exact cR_end lk23_18 rfl rfl rfl
def k_Client_hear_b81 (F : Nat)  (σ : CS) : Option (CS) :=
  some σ
set_option maxRecDepth 4000 in
theorem k_Client_hear_b81_ok {E : CE} {pF : Nat → List Value → xH → Option (Option Value × xH)} (hp0 : xNPc pF) (hL : lcAll E pF) (hF : lcF pF) {d : Nat} {F : Nat}   : ∀ (g : CG) (lv : xL) (σ : CS), ∀ res, k_Client_hear_b81 F  σ = some res → cR E (cQx [14]) pF (d + 13) kT23 5 2 none none res g σ (81, lv, []) := by
  intro g lv σ res h
  unfold k_Client_hear_b81 at h
  cases h
  exact cR_end lk23_81 rfl rfl rfl
def k_Client_hear_b0 (F : Nat)  (σ : CS) (l0 : Nat) (l1 : Nat) : Option (CS) :=
  if xc0 .eq (cI σ 5 l0 3 0) = true then (
    k_Client_hear_b18 F  σ
  ) else (
    if xc2 .eq (cI σ 8 l1 5 0) (cI σ 5 l0 7 0) = true then (
      if (cI σ 8 l1 6 0) = (0 : Int32) then (
        (k_Client_hearDone F σ l0 l1).bind fun p4 =>
        k_Client_hear_b81 F  p4
      ) else (
      if (cI σ 8 l1 6 0) = (1 : Int32) then (
        (k_Client_hearElsewhere F σ l0 (cI σ 8 l1 7 0)).bind fun p9 =>
        k_Client_hear_b81 F  p9
      ) else (
      if (cI σ 8 l1 6 0) = (2 : Int32) then (
        (k_Client_giveIn σ l0).bind fun p14 =>
        k_Client_hear_b81 F  p14
      ) else (
        (k_Client_setAlarm σ l0 ((20 : Int32)) ((0 : Int32))).bind fun p17 =>
        k_Client_hear_b81 F  p17
      )
      )
      )
    ) else (
      k_Client_hear_b18 F  σ
    )
  )
set_option maxRecDepth 4000 in
theorem k_Client_hear_b0_ok {E : CE} {pF : Nat → List Value → xH → Option (Option Value × xH)} (hp0 : xNPc pF) (hL : lcAll E pF) (hF : lcF pF) {d : Nat} {F : Nat}   : ∀ (g : CG) (lv : xL) (σ : CS) (l0 : Nat) (l1 : Nat), (cob σ 5 l0) → (cob σ 8 l1) → (xg lv 0 = some (.ref (coa E 5 l0))) → (xg lv 1 = some (.ref (coa E 8 l1))) → ∀ res, k_Client_hear_b0 F  σ l0 l1 = some res → cR E (cQx [14]) pF (d + 13) kT23 5 2 none none res g σ (0, lv, []) := by
  intro g lv σ l0 l1 bl0 bl1 g0 g1 res h
  unfold k_Client_hear_b0 at h
  refine cR_lift (fun _ _ kk => eE_aload_n lk23_0 g0 kk) ?_
  refine cR_getI lk23_1 rf_5_33 rfl bl0 ?_
  refine cR_if (t := 18) lk23_4 (by decide) (fun c1 => ?_) (fun c1 => ?_)
  · rw [if_pos c1] at h
    exact k_Client_hear_b18_ok hp0 hL hF  g lv σ  _ h
  · rw [if_neg c1] at h
    refine cR_lift (fun _ _ kk => eE_aload_n lk23_7 g1 kk) ?_
    refine cR_getI lk23_8 rf_5_85 rfl bl1 ?_
    refine cR_lift (fun _ _ kk => eE_aload_n lk23_11 g0 kk) ?_
    refine cR_getI lk23_12 rf_5_50 rfl bl0 ?_
    refine cR_icmp (t := 19) lk23_15 (by decide) (fun c2 => ?_) (fun c2 => ?_)
    · rw [if_pos c2] at h
      refine cR_lift (fun _ _ kk => eE_aload_n lk23_19 g1 kk) ?_
      refine cR_getI lk23_20 rf_5_88 rfl bl1 ?_
      by_cases c3 : (cI σ 8 l1 6 0) = (0 : Int32)
      · rw [if_pos c3] at h
        refine cR_tsw (t := 48) (off := 25) lk23_23 (by rw [c3]; decide) (by rw [c3]; rfl) (by decide) ?_
        refine cR_lift (fun _ _ kk => eE_aload_n lk23_48 g0 kk) ?_
        refine cR_lift (fun _ _ kk => eE_aload_n lk23_49 g1 kk) ?_
        obtain ⟨p4, h5, h⟩ := Option.bind_eq_some_iff.mp h
        refine cR_virtG (by exact cQx_sub rfl) (cl := 5) (i := l0) (as := [.ref (coa E 8 l1)]) lk23_50 mr_5_121 na_24 rfl rfl (by first | exact Nat.le_of_ble_eq_true rfl | (simp [xcat, cvo_cat, cat_i, cat_j, cat_r]; done)) wv_24 wc_24 bl0 (k_Client_hearDone_ok hp0 hL hF (d := d + 0) bl0 bl1 h5) (fun m6 g_7 g_7e => ?_)
        refine cR_lift (fun _ _ kk => eE_goto (t := 81) lk23_53 (by decide) kk) ?_
        exact k_Client_hear_b81_ok hp0 hL hF  g_7 lv p4  _ h
      rw [if_neg c3] at h
      by_cases c8 : (cI σ 8 l1 6 0) = (1 : Int32)
      · rw [if_pos c8] at h
        refine cR_tsw (t := 56) (off := 33) lk23_23 (by rw [c8]; decide) (by rw [c8]; rfl) (by decide) ?_
        refine cR_lift (fun _ _ kk => eE_aload_n lk23_56 g0 kk) ?_
        refine cR_lift (fun _ _ kk => eE_aload_n lk23_57 g1 kk) ?_
        refine cR_getI lk23_58 rf_5_124 rfl bl1 ?_
        obtain ⟨p9, h10, h⟩ := Option.bind_eq_some_iff.mp h
        refine cR_virtG (by exact cQx_sub rfl) (cl := 5) (i := l0) (as := [.int (cI σ 8 l1 7 0)]) lk23_61 mr_5_127 na_25 rfl rfl (by first | exact Nat.le_of_ble_eq_true rfl | (simp [xcat, cvo_cat, cat_i, cat_j, cat_r]; done)) wv_25 wc_25 bl0 (k_Client_hearElsewhere_ok hp0 hL hF (d := d + 0) bl0 h10) (fun m11 g_12 g_12e => ?_)
        refine cR_lift (fun _ _ kk => eE_goto (t := 81) lk23_64 (by decide) kk) ?_
        exact k_Client_hear_b81_ok hp0 hL hF  g_12 lv p9  _ h
      rw [if_neg c8] at h
      by_cases c13 : (cI σ 8 l1 6 0) = (2 : Int32)
      · rw [if_pos c13] at h
        refine cR_tsw (t := 67) (off := 44) lk23_23 (by rw [c13]; decide) (by rw [c13]; rfl) (by decide) ?_
        refine cR_lift (fun _ _ kk => eE_aload_n lk23_67 g0 kk) ?_
        obtain ⟨p14, h15, h⟩ := Option.bind_eq_some_iff.mp h
        refine cR_virt (cl := 5) (i := l0) (as := []) lk23_68 mr_5_62 na_22 rfl rfl (by first | exact Nat.le_of_ble_eq_true rfl | (simp [xcat, cvo_cat, cat_i, cat_j, cat_r]; done)) wv_22 wc_22 bl0 (k_Client_giveIn_ok hp0 hL hF (d := d + 10) bl0 h15) (fun m16  => ?_)
        refine cR_lift (fun _ _ kk => eE_goto (t := 81) lk23_71 (by decide) kk) ?_
        exact k_Client_hear_b81_ok hp0 hL hF  g lv p14  _ h
      rw [if_neg c13] at h
      refine cR_tswD (t := 74) lk23_23 (xsw_out (n := 3) (fun j hj => ?_)) (by decide) ?_
      · match j, hj with
        | 0, _ => exact c3
        | 1, _ => exact c8
        | 2, _ => exact c13
        | q + 3, hj => exact absurd hj (by omega)
      refine cR_lift (fun _ _ kk => eE_aload_n lk23_74 g0 kk) ?_
      refine cR_lift (fun _ _ kk => eE_bipush (v := 20) lk23_75 (by decide) kk) ?_
      refine cR_lift (fun _ _ kk => eE_iconst (v := 0) lk23_77 (by decide) kk) ?_
      obtain ⟨p17, h18, h⟩ := Option.bind_eq_some_iff.mp h
      refine cR_virt (cl := 5) (i := l0) (as := [.int ((20 : Int32)), .int ((0 : Int32))]) lk23_78 mr_5_104 na_29 rfl rfl (by first | exact Nat.le_of_ble_eq_true rfl | (simp [xcat, cvo_cat, cat_i, cat_j, cat_r]; done)) wv_29 wc_29 bl0 (k_Client_setAlarm_ok hp0 hL hF (d := d + 11) bl0 h18) (fun m19  => ?_)
      exact k_Client_hear_b81_ok hp0 hL hF  g lv p17  _ h
    · rw [if_neg c2] at h
      exact k_Client_hear_b18_ok hp0 hL hF  g lv σ  _ h
def k_Client_hear (F : Nat) (σ : CS) (l0 : Nat) (l1 : Nat) : Option (CS) := k_Client_hear_b0 F σ l0 l1
theorem k_Client_hear_ok {E : CE} {pF : Nat → List Value → xH → Option (Option Value × xH)} (hp0 : xNPc pF) (hL : lcAll E pF) (hF : lcF pF) {d : Nat} {g : CG} {σ : CS} {F : Nat} {l0 : Nat} {l1 : Nat} {res : CS} (bl0 : cob σ 5 l0) (bl1 : cob σ 8 l1) (h : k_Client_hear F σ l0 l1 = some res) : cCo E (cQx [14]) pF (d + 14) 23 [.ref (coa E 5 l0), .ref (coa E 8 l1)] none res g σ :=
  cCo_R kk_23 mo_23 ni_23 xm_23 (Nat.le_of_ble_eq_true rfl) (hp0 23 (by decide) _) (k_Client_hear_b0_ok hp0 hL hF g _ σ l0 l1 bl0 bl1 rfl rfl _ h)
/-! k_Client_wake (31), depth 13 -/
def k_Client_wake_b11 (F : Nat)  (σ : CS) (l0 : Nat) : Option (CS) :=
  (k_Client_sendRequest F σ l0).bind fun p1 =>
  some p1
set_option maxRecDepth 4000 in
theorem k_Client_wake_b11_ok {E : CE} {pF : Nat → List Value → xH → Option (Option Value × xH)} (hp0 : xNPc pF) (hL : lcAll E pF) (hF : lcF pF) {d : Nat} {F : Nat}   : ∀ (g : CG) (lv : xL) (σ : CS) (l0 : Nat), (cob σ 5 l0) → (xg lv 0 = some (.ref (coa E 5 l0))) → ∀ res, k_Client_wake_b11 F  σ l0 = some res → cR E (cQx [14]) pF (d + 12) kT31 5 1 none none res g σ (11, lv, []) := by
  intro g lv σ l0 bl0 g0 res h
  unfold k_Client_wake_b11 at h
  refine cR_lift (fun _ _ kk => eE_aload_n lk31_11 g0 kk) ?_
  obtain ⟨p1, h2, h⟩ := Option.bind_eq_some_iff.mp h
  refine cR_virtG (by exact cQx_sub rfl) (cl := 5) (i := l0) (as := []) lk31_12 mr_5_53 na_28 rfl rfl (by first | exact Nat.le_of_ble_eq_true rfl | (simp [xcat, cvo_cat, cat_i, cat_j, cat_r]; done)) wv_28 wc_28 bl0 (k_Client_sendRequest_ok hp0 hL hF (d := d + 0) bl0 h2) (fun m3 g_4 g_4e => ?_)
  cases h
  exact cR_end lk31_15 rfl rfl rfl
def k_Client_wake_b0 (F : Nat)  (σ : CS) (l0 : Nat) : Option (CS) :=
  if xc0 .eq (cI σ 5 l0 11 0) = true then (
    k_Client_wake_b11 F  σ l0
  ) else (
    (k_Client_turnToNext σ l0).bind fun p6 =>
    k_Client_wake_b11 F  p6 l0
  )
set_option maxRecDepth 4000 in
theorem k_Client_wake_b0_ok {E : CE} {pF : Nat → List Value → xH → Option (Option Value × xH)} (hp0 : xNPc pF) (hL : lcAll E pF) (hF : lcF pF) {d : Nat} {F : Nat}   : ∀ (g : CG) (lv : xL) (σ : CS) (l0 : Nat), (cob σ 5 l0) → (xg lv 0 = some (.ref (coa E 5 l0))) → ∀ res, k_Client_wake_b0 F  σ l0 = some res → cR E (cQx [14]) pF (d + 12) kT31 5 1 none none res g σ (0, lv, []) := by
  intro g lv σ l0 bl0 g0 res h
  unfold k_Client_wake_b0 at h
  refine cR_lift (fun _ _ kk => eE_aload_n lk31_0 g0 kk) ?_
  refine cR_getI lk31_1 rf_5_115 rfl bl0 ?_
  refine cR_if (t := 11) lk31_4 (by decide) (fun c5 => ?_) (fun c5 => ?_)
  · rw [if_pos c5] at h
    exact k_Client_wake_b11_ok hp0 hL hF  g lv σ l0 bl0 g0 _ h
  · rw [if_neg c5] at h
    refine cR_lift (fun _ _ kk => eE_aload_n lk31_7 g0 kk) ?_
    obtain ⟨p6, h7, h⟩ := Option.bind_eq_some_iff.mp h
    refine cR_virt (cl := 5) (i := l0) (as := []) lk31_8 mr_5_118 na_30 rfl rfl (by first | exact Nat.le_of_ble_eq_true rfl | (simp [xcat, cvo_cat, cat_i, cat_j, cat_r]; done)) wv_30 wc_30 bl0 (k_Client_turnToNext_ok hp0 hL hF (d := d + 11) bl0 h7) (fun m8  => ?_)
    exact k_Client_wake_b11_ok hp0 hL hF  g lv p6 l0 (cob_any rfl bl0) g0 _ h
def k_Client_wake (F : Nat) (σ : CS) (l0 : Nat) : Option (CS) := k_Client_wake_b0 F σ l0
theorem k_Client_wake_ok {E : CE} {pF : Nat → List Value → xH → Option (Option Value × xH)} (hp0 : xNPc pF) (hL : lcAll E pF) (hF : lcF pF) {d : Nat} {g : CG} {σ : CS} {F : Nat} {l0 : Nat} {res : CS} (bl0 : cob σ 5 l0) (h : k_Client_wake F σ l0 = some res) : cCo E (cQx [14]) pF (d + 13) 31 [.ref (coa E 5 l0)] none res g σ :=
  cCo_R kk_31 mo_31 ni_31 xm_31 (Nat.le_of_ble_eq_true rfl) (hp0 31 (by decide) _) (k_Client_wake_b0_ok hp0 hL hF g _ σ l0 bl0 rfl _ h)
/-! k_Page_remove (112), depth 1 -/
def k_Page_remove_b0  (σ : CS) (l0 : Nat) : Option (CS) :=
  (cputZ σ 11 l0 0 ((0 : Int32))).bind fun σ1 =>
  (some (csI σ1 11 l0 1 0 ((0 : Int32)))).bind fun σ3 =>
  (some (csI σ3 11 l0 5 0 ((0 : Int32)))).bind fun σ5 =>
  some σ5
set_option maxRecDepth 4000 in
theorem k_Page_remove_b0_ok {E : CE} {pF : Nat → List Value → xH → Option (Option Value × xH)} (hp0 : xNPc pF) (hL : lcAll E pF) (hF : lcF pF) {d : Nat}   : ∀ (g : CG) (lv : xL) (σ : CS) (l0 : Nat), (cob σ 11 l0) → (xg lv 0 = some (.ref (coa E 11 l0))) → ∀ res, k_Page_remove_b0  σ l0 = some res → cR E cQ1 pF (d + 0) kT112 11 1 none none res g σ (0, lv, []) := by
  intro g lv σ l0 bl0 g0 res h
  unfold k_Page_remove_b0 at h
  refine cR_lift (fun _ _ kk => eE_aload_n lk112_0 g0 kk) ?_
  refine cR_lift (fun _ _ kk => eE_iconst (v := 0) lk112_1 (by decide) kk) ?_
  obtain ⟨σ1, h2, h⟩ := Option.bind_eq_some_iff.mp h
  refine cR_putZ lk112_2 rf_11_22 rfl bl0 pf_11_0 h2 ?_
  refine cR_lift (fun _ _ kk => eE_aload_n lk112_5 g0 kk) ?_
  refine cR_lift (fun _ _ kk => eE_iconst (v := 0) lk112_6 (by decide) kk) ?_
  obtain ⟨σ3, h4, h⟩ := Option.bind_eq_some_iff.mp h
  refine cR_putI lk112_7 rf_11_26 rfl (cob_any rfl bl0) pf_11_1 rfl h4 ?_
  refine cR_lift (fun _ _ kk => eE_aload_n lk112_10 g0 kk) ?_
  refine cR_lift (fun _ _ kk => eE_iconst (v := 0) lk112_11 (by decide) kk) ?_
  obtain ⟨σ5, h6, h⟩ := Option.bind_eq_some_iff.mp h
  refine cR_putI lk112_12 rf_11_39 rfl (cob_any rfl bl0) pf_11_5 rfl h6 ?_
  cases h
  exact cR_end lk112_15 rfl rfl rfl
def k_Page_remove (σ : CS) (l0 : Nat) : Option (CS) := k_Page_remove_b0 σ l0
theorem k_Page_remove_ok {E : CE} {pF : Nat → List Value → xH → Option (Option Value × xH)} (hp0 : xNPc pF) (hL : lcAll E pF) (hF : lcF pF) {d : Nat} {g : CG} {σ : CS} {l0 : Nat} {res : CS} (bl0 : cob σ 11 l0) (h : k_Page_remove σ l0 = some res) : cCo E cQ1 pF (d + 1) 112 [.ref (coa E 11 l0)] none res g σ :=
  cCo_R kk_112 mo_112 ni_112 xm_112 (Nat.le_of_ble_eq_true rfl) (hp0 112 (by decide) _) (k_Page_remove_b0_ok hp0 hL hF g _ σ l0 bl0 rfl _ h)
/-! k_Disk_remove (45), depth 2 -/
def k_Disk_remove_b0  (σ : CS) (l0 : Nat) (l1 : Int32) : Option (CS) :=
  (cix 6 0 l1).bind fun n1 =>
  (k_Page_remove σ (30 * l0 + cpg n1)).bind fun p3 =>
  (cwr p3 6 l0 2 l1 ((0 : Int32))).bind fun σ6 =>
  (cwr σ6 6 l0 3 l1 ((0 : Int32))).bind fun σ8 =>
  some σ8
set_option maxRecDepth 4000 in
theorem k_Disk_remove_b0_ok {E : CE} {pF : Nat → List Value → xH → Option (Option Value × xH)} (hp0 : xNPc pF) (hL : lcAll E pF) (hF : lcF pF) {d : Nat}   : ∀ (g : CG) (lv : xL) (σ : CS) (l0 : Nat) (l1 : Int32), (cob σ 6 l0) → (xg lv 0 = some (.ref (coa E 6 l0))) → (xg lv 1 = some (.int l1)) → ∀ res, k_Disk_remove_b0  σ l0 l1 = some res → cR E cQ1 pF (d + 1) kT45 6 2 none none res g σ (0, lv, []) := by
  intro g lv σ l0 l1 bl0 g0 g1 res h
  unfold k_Disk_remove_b0 at h
  refine cR_lift (fun _ _ kk => eE_aload_n lk45_0 g0 kk) ?_
  refine cR_getA lk45_1 rf_6_11 (by decide) bl0 ?_
  refine cR_lift (fun _ _ kk => eE_iload_n lk45_4 g1 kk) ?_
  obtain ⟨n1, h2, h⟩ := Option.bind_eq_some_iff.mp h
  refine cR_aald (cl := 6) (i := l0) (f := 0) (cl' := 11) (i' := 30 * l0 + cpg n1) lk45_5 rfl (by decide) bl0 h2 rfl ?_
  obtain ⟨p3, h4, h⟩ := Option.bind_eq_some_iff.mp h
  refine cR_virt (cl := 11) (i := 30 * l0 + cpg n1) (as := []) lk45_6 mr_6_99 na_112 rfl rfl (by first | exact Nat.le_of_ble_eq_true rfl | (simp [xcat, cvo_cat, cat_i, cat_j, cat_r]; done)) wv_112 wc_112 (cob_pg (c := σ) bl0 (cix_lt h2)).1 (k_Page_remove_ok hp0 hL hF (d := d + 0) (cob_pg (c := σ) bl0 (cix_lt h2)).1 h4) (fun m5  => ?_)
  refine cR_lift (fun _ _ kk => eE_aload_n lk45_9 g0 kk) ?_
  refine cR_getA lk45_10 rf_6_20 (by decide) (cob_any rfl bl0) ?_
  refine cR_lift (fun _ _ kk => eE_iload_n lk45_13 g1 kk) ?_
  refine cR_lift (fun _ _ kk => eE_iconst (v := 0) lk45_14 (by decide) kk) ?_
  obtain ⟨σ6, h7, h⟩ := Option.bind_eq_some_iff.mp h
  refine cR_iast (cl := 6) (i := l0) (f := 2) lk45_15 (by decide) rfl (cob_any rfl bl0) h7 ?_
  refine cR_lift (fun _ _ kk => eE_aload_n lk45_16 g0 kk) ?_
  refine cR_getA lk45_17 rf_6_24 (by decide) (cob_any rfl bl0) ?_
  refine cR_lift (fun _ _ kk => eE_iload_n lk45_20 g1 kk) ?_
  refine cR_lift (fun _ _ kk => eE_iconst (v := 0) lk45_21 (by decide) kk) ?_
  obtain ⟨σ8, h9, h⟩ := Option.bind_eq_some_iff.mp h
  refine cR_iast (cl := 6) (i := l0) (f := 3) lk45_22 (by decide) rfl (cob_any rfl bl0) h9 ?_
  cases h
  exact cR_end lk45_23 rfl rfl rfl
def k_Disk_remove (σ : CS) (l0 : Nat) (l1 : Int32) : Option (CS) := k_Disk_remove_b0 σ l0 l1
theorem k_Disk_remove_ok {E : CE} {pF : Nat → List Value → xH → Option (Option Value × xH)} (hp0 : xNPc pF) (hL : lcAll E pF) (hF : lcF pF) {d : Nat} {g : CG} {σ : CS} {l0 : Nat} {l1 : Int32} {res : CS} (bl0 : cob σ 6 l0) (h : k_Disk_remove σ l0 l1 = some res) : cCo E cQ1 pF (d + 2) 45 [.ref (coa E 6 l0), .int l1] none res g σ :=
  cCo_R kk_45 mo_45 ni_45 xm_45 (Nat.le_of_ble_eq_true rfl) (hp0 45 (by decide) _) (k_Disk_remove_b0_ok hp0 hL hF g _ σ l0 l1 bl0 rfl rfl _ h)
/-! k_Disk_baseMoved (33), depth 3 -/
def k_Disk_baseMoved_b103 (F : Nat) (K5 : CS → Nat → Int32 → Int32 → Int32 → Int32 → Option (CS)) (σ : CS) (l0 : Nat) (l1 : Int32) (l2 : Int32) (l3 : Int32) (l4 : Int32) : Option (CS) :=
  K5 σ l0 l1 l2 l3 (l4 + (1 : Int32))
set_option maxRecDepth 4000 in
theorem k_Disk_baseMoved_b103_ok {E : CE} {pF : Nat → List Value → xH → Option (Option Value × xH)} (hp0 : xNPc pF) (hL : lcAll E pF) (hF : lcF pF) {d : Nat} {F : Nat} {K5 : CS → Nat → Int32 → Int32 → Int32 → Int32 → Option (CS)} (hK5 : ∀ (g : CG) (lv : xL) (σ : CS) (l0 : Nat) (l1 : Int32) (l2 : Int32) (l3 : Int32) (l4 : Int32), (cob σ 6 l0) → (xg lv 0 = some (.ref (coa E 6 l0))) → (xg lv 1 = some (.int l1)) → (xg lv 2 = some (.int l2)) → (xg lv 3 = some (.int l3)) → (xg lv 4 = some (.int l4)) → ∀ res, K5 σ l0 l1 l2 l3 l4 = some res → cR E cQ1 pF (d + 2) kT33 6 7 none none res g σ (5, lv, [])) : ∀ (g : CG) (lv : xL) (σ : CS) (l0 : Nat) (l1 : Int32) (l2 : Int32) (l3 : Int32) (l4 : Int32), (cob σ 6 l0) → (xg lv 0 = some (.ref (coa E 6 l0))) → (xg lv 1 = some (.int l1)) → (xg lv 2 = some (.int l2)) → (xg lv 3 = some (.int l3)) → (xg lv 4 = some (.int l4)) → ∀ res, k_Disk_baseMoved_b103 F K5 σ l0 l1 l2 l3 l4 = some res → cR E cQ1 pF (d + 2) kT33 6 7 none none res g σ (103, lv, []) := by
  intro g lv σ l0 l1 l2 l3 l4 bl0 g0 g1 g2 g3 g4 res h
  unfold k_Disk_baseMoved_b103 at h
  refine cR_inc (j := 4) (v := l4 + (1 : Int32)) lk33_103 g4 rfl (by decide) (fun vq1 gq2 kq3 => ?_)
  have gq4 := kq3 0 _ (by decide) (fun e => absurd e (by decide)) g0
  have gq5 := kq3 1 _ (by decide) (fun e => absurd e (by decide)) g1
  have gq6 := kq3 2 _ (by decide) (fun e => absurd e (by decide)) g2
  have gq7 := kq3 3 _ (by decide) (fun _ => rfl) g3
  refine cR_lift (fun _ _ kk => eE_goto (t := 5) lk33_106 (by decide) kk) ?_
  exact hK5 g vq1 σ l0 l1 l2 l3 (l4 + (1 : Int32)) bl0 gq4 gq5 gq6 gq7 gq2 _ h
def k_Disk_baseMoved_b66 (F : Nat) (K5 : CS → Nat → Int32 → Int32 → Int32 → Int32 → Option (CS)) (σ : CS) (s0 : Int32) (l0 : Nat) (l1 : Int32) (l2 : Int32) (l3 : Int32) (l4 : Int32) : Option (CS) :=
  if xc0 .eq s0 = true then (
    (crd σ 6 l0 4 l4).bind fun x17 =>
    (k_Disk_remove σ l0 x17).bind fun p19 =>
    k_Disk_baseMoved_b103 F K5 p19 l0 l1 l2 l3 l4
  ) else (
    (crd σ 6 l0 4 l4).bind fun x22 =>
    (cwr σ 6 l0 4 l3 x22).bind fun σ24 =>
    k_Disk_baseMoved_b103 F K5 σ24 l0 l1 l2 (l3 + (1 : Int32)) l4
  )
set_option maxRecDepth 4000 in
theorem k_Disk_baseMoved_b66_ok {E : CE} {pF : Nat → List Value → xH → Option (Option Value × xH)} (hp0 : xNPc pF) (hL : lcAll E pF) (hF : lcF pF) {d : Nat} {F : Nat} {K5 : CS → Nat → Int32 → Int32 → Int32 → Int32 → Option (CS)} (hK5 : ∀ (g : CG) (lv : xL) (σ : CS) (l0 : Nat) (l1 : Int32) (l2 : Int32) (l3 : Int32) (l4 : Int32), (cob σ 6 l0) → (xg lv 0 = some (.ref (coa E 6 l0))) → (xg lv 1 = some (.int l1)) → (xg lv 2 = some (.int l2)) → (xg lv 3 = some (.int l3)) → (xg lv 4 = some (.int l4)) → ∀ res, K5 σ l0 l1 l2 l3 l4 = some res → cR E cQ1 pF (d + 2) kT33 6 7 none none res g σ (5, lv, [])) : ∀ (g : CG) (lv : xL) (σ : CS) (s0 : Int32) (l0 : Nat) (l1 : Int32) (l2 : Int32) (l3 : Int32) (l4 : Int32), (cob σ 6 l0) → (xg lv 0 = some (.ref (coa E 6 l0))) → (xg lv 1 = some (.int l1)) → (xg lv 2 = some (.int l2)) → (xg lv 3 = some (.int l3)) → (xg lv 4 = some (.int l4)) → ∀ res, k_Disk_baseMoved_b66 F K5 σ s0 l0 l1 l2 l3 l4 = some res → cR E cQ1 pF (d + 2) kT33 6 7 none none res g σ (66, lv, [.int s0]) := by
  intro g lv σ s0 l0 l1 l2 l3 l4 bl0 g0 g1 g2 g3 g4 res h
  unfold k_Disk_baseMoved_b66 at h
  refine cR_stI (j := 6) lk33_66 (Or.inl rfl) (by decide) (fun vq8 gq9 kq10 => ?_)
  have gq11 := kq10 0 _ (by decide) (fun e => absurd e (by decide)) g0
  have gq12 := kq10 1 _ (by decide) (fun e => absurd e (by decide)) g1
  have gq13 := kq10 2 _ (by decide) (fun e => absurd e (by decide)) g2
  have gq14 := kq10 3 _ (by decide) (fun e => absurd e (by decide)) g3
  have gq15 := kq10 4 _ (by decide) (fun e => absurd e (by decide)) g4
  refine cR_lift (fun _ _ kk => eE_iload lk33_68 gq9 kk) ?_
  refine cR_if (t := 92) lk33_70 (by decide) (fun c16 => ?_) (fun c16 => ?_)
  · rw [if_pos c16] at h
    refine cR_lift (fun _ _ kk => eE_aload_n lk33_92 gq11 kk) ?_
    refine cR_lift (fun _ _ kk => eE_aload_n lk33_93 gq11 kk) ?_
    refine cR_getA lk33_94 rf_6_27 (by decide) bl0 ?_
    refine cR_lift (fun _ _ kk => eE_iload lk33_97 gq15 kk) ?_
    obtain ⟨x17, h18, h⟩ := Option.bind_eq_some_iff.mp h
    refine cR_iald (cl := 6) (i := l0) (f := 4) lk33_99 (by decide) rfl bl0 h18 ?_
    obtain ⟨p19, h20, h⟩ := Option.bind_eq_some_iff.mp h
    refine cR_virt (cl := 6) (i := l0) (as := [.int x17]) lk33_100 mr_6_86 na_45 rfl rfl (by first | exact Nat.le_of_ble_eq_true rfl | (simp [xcat, cvo_cat, cat_i, cat_j, cat_r]; done)) wv_45 wc_45 bl0 (k_Disk_remove_ok hp0 hL hF (d := d + 0) bl0 h20) (fun m21  => ?_)
    exact k_Disk_baseMoved_b103_ok hp0 hL hF hK5 g vq8 p19 l0 l1 l2 l3 l4 (cob_any rfl bl0) gq11 gq12 gq13 gq14 gq15 _ h
  · rw [if_neg c16] at h
    refine cR_lift (fun _ _ kk => eE_aload_n lk33_73 gq11 kk) ?_
    refine cR_getA lk33_74 rf_6_27 (by decide) bl0 ?_
    refine cR_lift (fun _ _ kk => eE_iload_n lk33_77 gq14 kk) ?_
    refine cR_lift (fun _ _ kk => eE_aload_n lk33_78 gq11 kk) ?_
    refine cR_getA lk33_79 rf_6_27 (by decide) bl0 ?_
    refine cR_lift (fun _ _ kk => eE_iload lk33_82 gq15 kk) ?_
    obtain ⟨x22, h23, h⟩ := Option.bind_eq_some_iff.mp h
    refine cR_iald (cl := 6) (i := l0) (f := 4) lk33_84 (by decide) rfl bl0 h23 ?_
    obtain ⟨σ24, h25, h⟩ := Option.bind_eq_some_iff.mp h
    refine cR_iast (cl := 6) (i := l0) (f := 4) lk33_85 (by decide) rfl bl0 h25 ?_
    refine cR_inc (j := 3) (v := l3 + (1 : Int32)) lk33_86 gq14 rfl (by decide) (fun vq26 gq27 kq28 => ?_)
    have gq29 := kq28 0 _ (by decide) (fun e => absurd e (by decide)) gq11
    have gq30 := kq28 1 _ (by decide) (fun e => absurd e (by decide)) gq12
    have gq31 := kq28 2 _ (by decide) (fun _ => rfl) gq13
    have gq32 := kq28 4 _ (by decide) (fun e => absurd e (by decide)) gq15
    refine cR_lift (fun _ _ kk => eE_goto (t := 103) lk33_89 (by decide) kk) ?_
    exact k_Disk_baseMoved_b103_ok hp0 hL hF hK5 g vq26 σ24 l0 l1 l2 (l3 + (1 : Int32)) l4 (cob_any rfl bl0) gq29 gq30 gq31 gq27 gq32 _ h
def k_Disk_baseMoved_b61 (F : Nat) (K5 : CS → Nat → Int32 → Int32 → Int32 → Int32 → Option (CS)) (σ : CS) (l0 : Nat) (l1 : Int32) (l2 : Int32) (l3 : Int32) (l4 : Int32) : Option (CS) :=
  k_Disk_baseMoved_b66 F K5 σ ((1 : Int32)) l0 l1 l2 l3 l4
set_option maxRecDepth 4000 in
theorem k_Disk_baseMoved_b61_ok {E : CE} {pF : Nat → List Value → xH → Option (Option Value × xH)} (hp0 : xNPc pF) (hL : lcAll E pF) (hF : lcF pF) {d : Nat} {F : Nat} {K5 : CS → Nat → Int32 → Int32 → Int32 → Int32 → Option (CS)} (hK5 : ∀ (g : CG) (lv : xL) (σ : CS) (l0 : Nat) (l1 : Int32) (l2 : Int32) (l3 : Int32) (l4 : Int32), (cob σ 6 l0) → (xg lv 0 = some (.ref (coa E 6 l0))) → (xg lv 1 = some (.int l1)) → (xg lv 2 = some (.int l2)) → (xg lv 3 = some (.int l3)) → (xg lv 4 = some (.int l4)) → ∀ res, K5 σ l0 l1 l2 l3 l4 = some res → cR E cQ1 pF (d + 2) kT33 6 7 none none res g σ (5, lv, [])) : ∀ (g : CG) (lv : xL) (σ : CS) (l0 : Nat) (l1 : Int32) (l2 : Int32) (l3 : Int32) (l4 : Int32), (cob σ 6 l0) → (xg lv 0 = some (.ref (coa E 6 l0))) → (xg lv 1 = some (.int l1)) → (xg lv 2 = some (.int l2)) → (xg lv 3 = some (.int l3)) → (xg lv 4 = some (.int l4)) → ∀ res, k_Disk_baseMoved_b61 F K5 σ l0 l1 l2 l3 l4 = some res → cR E cQ1 pF (d + 2) kT33 6 7 none none res g σ (61, lv, []) := by
  intro g lv σ l0 l1 l2 l3 l4 bl0 g0 g1 g2 g3 g4 res h
  unfold k_Disk_baseMoved_b61 at h
  refine cR_lift (fun _ _ kk => eE_iconst (v := 1) lk33_61 (by decide) kk) ?_
  refine cR_lift (fun _ _ kk => eE_goto (t := 66) lk33_62 (by decide) kk) ?_
  exact k_Disk_baseMoved_b66_ok hp0 hL hF hK5 g lv σ ((1 : Int32)) l0 l1 l2 l3 l4 bl0 g0 g1 g2 g3 g4 _ h
def k_Disk_baseMoved_b65 (F : Nat) (K5 : CS → Nat → Int32 → Int32 → Int32 → Int32 → Option (CS)) (σ : CS) (l0 : Nat) (l1 : Int32) (l2 : Int32) (l3 : Int32) (l4 : Int32) : Option (CS) :=
  k_Disk_baseMoved_b66 F K5 σ ((0 : Int32)) l0 l1 l2 l3 l4
set_option maxRecDepth 4000 in
theorem k_Disk_baseMoved_b65_ok {E : CE} {pF : Nat → List Value → xH → Option (Option Value × xH)} (hp0 : xNPc pF) (hL : lcAll E pF) (hF : lcF pF) {d : Nat} {F : Nat} {K5 : CS → Nat → Int32 → Int32 → Int32 → Int32 → Option (CS)} (hK5 : ∀ (g : CG) (lv : xL) (σ : CS) (l0 : Nat) (l1 : Int32) (l2 : Int32) (l3 : Int32) (l4 : Int32), (cob σ 6 l0) → (xg lv 0 = some (.ref (coa E 6 l0))) → (xg lv 1 = some (.int l1)) → (xg lv 2 = some (.int l2)) → (xg lv 3 = some (.int l3)) → (xg lv 4 = some (.int l4)) → ∀ res, K5 σ l0 l1 l2 l3 l4 = some res → cR E cQ1 pF (d + 2) kT33 6 7 none none res g σ (5, lv, [])) : ∀ (g : CG) (lv : xL) (σ : CS) (l0 : Nat) (l1 : Int32) (l2 : Int32) (l3 : Int32) (l4 : Int32), (cob σ 6 l0) → (xg lv 0 = some (.ref (coa E 6 l0))) → (xg lv 1 = some (.int l1)) → (xg lv 2 = some (.int l2)) → (xg lv 3 = some (.int l3)) → (xg lv 4 = some (.int l4)) → ∀ res, k_Disk_baseMoved_b65 F K5 σ l0 l1 l2 l3 l4 = some res → cR E cQ1 pF (d + 2) kT33 6 7 none none res g σ (65, lv, []) := by
  intro g lv σ l0 l1 l2 l3 l4 bl0 g0 g1 g2 g3 g4 res h
  unfold k_Disk_baseMoved_b65 at h
  refine cR_lift (fun _ _ kk => eE_iconst (v := 0) lk33_65 (by decide) kk) ?_
  exact k_Disk_baseMoved_b66_ok hp0 hL hF hK5 g lv σ ((0 : Int32)) l0 l1 l2 l3 l4 bl0 g0 g1 g2 g3 g4 _ h
def k_Disk_baseMoved_b5 (F : Nat)  : Nat → CS → Nat → Int32 → Int32 → Int32 → Int32 → Option (CS)
  | 0, _, _, _, _, _, _ => none
  | n + 1, σ, l0, l1, l2, l3, l4 =>
    let KK := k_Disk_baseMoved_b5 F  n
    if xc2 .ge l4 (cI σ 6 l0 5 0) = true then (
      (some (csI σ 6 l0 5 0 l3)).bind fun σ34 =>
      some σ34
    ) else (
      (crd σ 6 l0 4 l4).bind fun x36 =>
      (cix 6 0 x36).bind fun n38 =>
      if xc2 .le l2 l1 = true then (
        k_Disk_baseMoved_b65 F KK σ l0 l1 l2 l3 l4
      ) else (
        if xc2 .eq l4 ((cI σ 6 l0 5 0) - ((1 : Int32))) = true then (
          k_Disk_baseMoved_b61 F KK σ l0 l1 l2 l3 l4
        ) else (
          if xc2 .le (((cI σ 11 (30 * l0 + cpg n38) 2 0) + (cI σ 11 (30 * l0 + cpg n38) 5 0)) - ((1 : Int32))) l1 = true then (
            k_Disk_baseMoved_b65 F KK σ l0 l1 l2 l3 l4
          ) else (
            k_Disk_baseMoved_b61 F KK σ l0 l1 l2 l3 l4
          )
        )
      )
    )
set_option maxRecDepth 4000 in
theorem k_Disk_baseMoved_b5_ok {E : CE} {pF : Nat → List Value → xH → Option (Option Value × xH)} (hp0 : xNPc pF) (hL : lcAll E pF) (hF : lcF pF) {d : Nat} {F : Nat}   : ∀ (n : Nat) (g : CG) (lv : xL) (σ : CS) (l0 : Nat) (l1 : Int32) (l2 : Int32) (l3 : Int32) (l4 : Int32), (cob σ 6 l0) → (xg lv 0 = some (.ref (coa E 6 l0))) → (xg lv 1 = some (.int l1)) → (xg lv 2 = some (.int l2)) → (xg lv 3 = some (.int l3)) → (xg lv 4 = some (.int l4)) → ∀ res, k_Disk_baseMoved_b5 F  n σ l0 l1 l2 l3 l4 = some res → cR E cQ1 pF (d + 2) kT33 6 7 none none res g σ (5, lv, []) := by
  intro n
  induction n with
  | zero => intro g lv σ l0 l1 l2 l3 l4 bl0 g0 g1 g2 g3 g4 res h; simp [k_Disk_baseMoved_b5] at h
  | succ n hKK =>
    intro g lv σ l0 l1 l2 l3 l4 bl0 g0 g1 g2 g3 g4 res h
    unfold k_Disk_baseMoved_b5 at h
    dsimp only at h
    refine cR_lift (fun _ _ kk => eE_iload lk33_5 g4 kk) ?_
    refine cR_lift (fun _ _ kk => eE_aload_n lk33_7 g0 kk) ?_
    refine cR_getI lk33_8 rf_6_72 rfl bl0 ?_
    refine cR_icmp (t := 109) lk33_11 (by decide) (fun c33 => ?_) (fun c33 => ?_)
    · rw [if_pos c33] at h
      refine cR_lift (fun _ _ kk => eE_aload_n lk33_109 g0 kk) ?_
      refine cR_lift (fun _ _ kk => eE_iload_n lk33_110 g3 kk) ?_
      obtain ⟨σ34, h35, h⟩ := Option.bind_eq_some_iff.mp h
      refine cR_putI lk33_111 rf_6_72 rfl bl0 pf_6_5 rfl h35 ?_
      cases h
      exact cR_end lk33_114 rfl rfl rfl
    · rw [if_neg c33] at h
      refine cR_lift (fun _ _ kk => eE_aload_n lk33_14 g0 kk) ?_
      refine cR_getA lk33_15 rf_6_11 (by decide) bl0 ?_
      refine cR_lift (fun _ _ kk => eE_aload_n lk33_18 g0 kk) ?_
      refine cR_getA lk33_19 rf_6_27 (by decide) bl0 ?_
      refine cR_lift (fun _ _ kk => eE_iload lk33_22 g4 kk) ?_
      obtain ⟨x36, h37, h⟩ := Option.bind_eq_some_iff.mp h
      refine cR_iald (cl := 6) (i := l0) (f := 4) lk33_24 (by decide) rfl bl0 h37 ?_
      obtain ⟨n38, h39, h⟩ := Option.bind_eq_some_iff.mp h
      refine cR_aald (cl := 6) (i := l0) (f := 0) (cl' := 11) (i' := 30 * l0 + cpg n38) lk33_25 rfl (by decide) bl0 h39 rfl ?_
      refine cR_stA (j := 5) lk33_26 (Or.inl rfl) (by decide) (fun vq40 gq41 kq42 => ?_)
      have gq43 := kq42 0 _ (by decide) (fun e => absurd e (by decide)) g0
      have gq44 := kq42 1 _ (by decide) (fun e => absurd e (by decide)) g1
      have gq45 := kq42 2 _ (by decide) (fun e => absurd e (by decide)) g2
      have gq46 := kq42 3 _ (by decide) (fun e => absurd e (by decide)) g3
      have gq47 := kq42 4 _ (by decide) (fun _ => rfl) g4
      refine cR_lift (fun _ _ kk => eE_iload_n lk33_28 gq45 kk) ?_
      refine cR_lift (fun _ _ kk => eE_iload_n lk33_29 gq44 kk) ?_
      refine cR_icmp (t := 65) lk33_30 (by decide) (fun c48 => ?_) (fun c48 => ?_)
      · rw [if_pos c48] at h
        exact k_Disk_baseMoved_b65_ok hp0 hL hF hKK g vq40 σ l0 l1 l2 l3 l4 bl0 gq43 gq44 gq45 gq46 gq47 _ h
      · rw [if_neg c48] at h
        refine cR_lift (fun _ _ kk => eE_iload lk33_33 gq47 kk) ?_
        refine cR_lift (fun _ _ kk => eE_aload_n lk33_35 gq43 kk) ?_
        refine cR_getI lk33_36 rf_6_72 rfl bl0 ?_
        refine cR_lift (fun _ _ kk => eE_iconst (v := 1) lk33_39 (by decide) kk) ?_
        refine cR_lift (fun _ _ kk => eE_isub lk33_40 kk) ?_
        refine cR_icmp (t := 61) lk33_41 (by decide) (fun c49 => ?_) (fun c49 => ?_)
        · rw [if_pos c49] at h
          exact k_Disk_baseMoved_b61_ok hp0 hL hF hKK g vq40 σ l0 l1 l2 l3 l4 bl0 gq43 gq44 gq45 gq46 gq47 _ h
        · rw [if_neg c49] at h
          refine cR_lift (fun _ _ kk => eE_aload lk33_44 gq41 kk) ?_
          refine cR_getI lk33_46 rf_6_83 rfl (cob_pg (c := σ) bl0 (cix_lt h39)).1 ?_
          refine cR_lift (fun _ _ kk => eE_aload lk33_49 gq41 kk) ?_
          refine cR_getI lk33_51 rf_6_96 rfl (cob_pg (c := σ) bl0 (cix_lt h39)).1 ?_
          refine cR_lift (fun _ _ kk => eE_iadd lk33_54 kk) ?_
          refine cR_lift (fun _ _ kk => eE_iconst (v := 1) lk33_55 (by decide) kk) ?_
          refine cR_lift (fun _ _ kk => eE_isub lk33_56 kk) ?_
          refine cR_lift (fun _ _ kk => eE_iload_n lk33_57 gq44 kk) ?_
          refine cR_icmp (t := 65) lk33_58 (by decide) (fun c50 => ?_) (fun c50 => ?_)
          · rw [if_pos c50] at h
            exact k_Disk_baseMoved_b65_ok hp0 hL hF hKK g vq40 σ l0 l1 l2 l3 l4 bl0 gq43 gq44 gq45 gq46 gq47 _ h
          · rw [if_neg c50] at h
            exact k_Disk_baseMoved_b61_ok hp0 hL hF hKK g vq40 σ l0 l1 l2 l3 l4 bl0 gq43 gq44 gq45 gq46 gq47 _ h
def k_Disk_baseMoved_b0 (F : Nat)  (σ : CS) (l0 : Nat) (l1 : Int32) (l2 : Int32) : Option (CS) :=
  k_Disk_baseMoved_b5 F  F σ l0 l1 l2 ((0 : Int32)) ((0 : Int32))
set_option maxRecDepth 4000 in
theorem k_Disk_baseMoved_b0_ok {E : CE} {pF : Nat → List Value → xH → Option (Option Value × xH)} (hp0 : xNPc pF) (hL : lcAll E pF) (hF : lcF pF) {d : Nat} {F : Nat}   : ∀ (g : CG) (lv : xL) (σ : CS) (l0 : Nat) (l1 : Int32) (l2 : Int32), (cob σ 6 l0) → (xg lv 0 = some (.ref (coa E 6 l0))) → (xg lv 1 = some (.int l1)) → (xg lv 2 = some (.int l2)) → ∀ res, k_Disk_baseMoved_b0 F  σ l0 l1 l2 = some res → cR E cQ1 pF (d + 2) kT33 6 7 none none res g σ (0, lv, []) := by
  intro g lv σ l0 l1 l2 bl0 g0 g1 g2 res h
  unfold k_Disk_baseMoved_b0 at h
  refine cR_lift (fun _ _ kk => eE_iconst (v := 0) lk33_0 (by decide) kk) ?_
  refine cR_stI (j := 3) lk33_1 (Or.inr ⟨_, rfl, rfl⟩) (by decide) (fun vq51 gq52 kq53 => ?_)
  have gq54 := kq53 0 _ (by decide) (fun e => absurd e (by decide)) g0
  have gq55 := kq53 1 _ (by decide) (fun e => absurd e (by decide)) g1
  have gq56 := kq53 2 _ (by decide) (fun _ => rfl) g2
  refine cR_lift (fun _ _ kk => eE_iconst (v := 0) lk33_2 (by decide) kk) ?_
  refine cR_stI (j := 4) lk33_3 (Or.inl rfl) (by decide) (fun vq57 gq58 kq59 => ?_)
  have gq60 := kq59 0 _ (by decide) (fun e => absurd e (by decide)) gq54
  have gq61 := kq59 1 _ (by decide) (fun e => absurd e (by decide)) gq55
  have gq62 := kq59 2 _ (by decide) (fun e => absurd e (by decide)) gq56
  have gq63 := kq59 3 _ (by decide) (fun _ => rfl) gq52
  exact k_Disk_baseMoved_b5_ok hp0 hL hF  F g vq57 σ l0 l1 l2 ((0 : Int32)) ((0 : Int32)) bl0 gq60 gq61 gq62 gq63 gq58 _ h
def k_Disk_baseMoved (F : Nat) (σ : CS) (l0 : Nat) (l1 : Int32) (l2 : Int32) : Option (CS) := k_Disk_baseMoved_b0 F σ l0 l1 l2
theorem k_Disk_baseMoved_ok {E : CE} {pF : Nat → List Value → xH → Option (Option Value × xH)} (hp0 : xNPc pF) (hL : lcAll E pF) (hF : lcF pF) {d : Nat} {g : CG} {σ : CS} {F : Nat} {l0 : Nat} {l1 : Int32} {l2 : Int32} {res : CS} (bl0 : cob σ 6 l0) (h : k_Disk_baseMoved F σ l0 l1 l2 = some res) : cCo E cQ1 pF (d + 3) 33 [.ref (coa E 6 l0), .int l1, .int l2] none res g σ :=
  cCo_R kk_33 mo_33 ni_33 xm_33 (Nat.le_of_ble_eq_true rfl) (hp0 33 (by decide) _) (k_Disk_baseMoved_b0_ok hp0 hL hF g _ σ l0 l1 l2 bl0 rfl rfl rfl _ h)
/-! k_Page_frameStart (107), depth 1 -/
def k_Page_frameStart_b25  (σ : CS) (s0 : Int32) : Option (Int32) :=
  some s0
set_option maxRecDepth 4000 in
theorem k_Page_frameStart_b25_ok {E : CE} {pF : Nat → List Value → xH → Option (Option Value × xH)} (hp0 : xNPc pF) (hL : lcAll E pF) (hF : lcF pF) {d : Nat}   : ∀ (g : CG) (lv : xL) (σ : CS) (s0 : Int32), ∀ res, k_Page_frameStart_b25  σ s0 = some res → cR E cQ1 pF (d + 0) kT107 11 2 (some FieldType.int) (some (.int res)) σ g σ (25, lv, [.int s0]) := by
  intro g lv σ s0 res h
  unfold k_Page_frameStart_b25 at h
  cases h
  exact cR_end lk107_25 rfl rfl rfl
def k_Page_frameStart_b23  (σ : CS) : Option (Int32) :=
  k_Page_frameStart_b25  σ ((24 : Int32))
set_option maxRecDepth 4000 in
theorem k_Page_frameStart_b23_ok {E : CE} {pF : Nat → List Value → xH → Option (Option Value × xH)} (hp0 : xNPc pF) (hL : lcAll E pF) (hF : lcF pF) {d : Nat}   : ∀ (g : CG) (lv : xL) (σ : CS), ∀ res, k_Page_frameStart_b23  σ = some res → cR E cQ1 pF (d + 0) kT107 11 2 (some FieldType.int) (some (.int res)) σ g σ (23, lv, []) := by
  intro g lv σ res h
  unfold k_Page_frameStart_b23 at h
  refine cR_lift (fun _ _ kk => eE_bipush (v := 24) lk107_23 (by decide) kk) ?_
  exact k_Page_frameStart_b25_ok hp0 hL hF  g lv σ ((24 : Int32))  _ h
def k_Page_frameStart_b0  (σ : CS) (l0 : Nat) (l1 : Int32) : Option (Int32) :=
  if xc0 .le l1 = true then (
    k_Page_frameStart_b23  σ
  ) else (
    if xc2 .gt l1 (cI σ 11 l0 5 0) = true then (
      k_Page_frameStart_b23  σ
    ) else (
      (crd σ 11 l0 7 (l1 - ((1 : Int32)))).bind fun x3 =>
      k_Page_frameStart_b25  σ x3
    )
  )
set_option maxRecDepth 4000 in
theorem k_Page_frameStart_b0_ok {E : CE} {pF : Nat → List Value → xH → Option (Option Value × xH)} (hp0 : xNPc pF) (hL : lcAll E pF) (hF : lcF pF) {d : Nat}   : ∀ (g : CG) (lv : xL) (σ : CS) (l0 : Nat) (l1 : Int32), (cob σ 11 l0) → (xg lv 0 = some (.ref (coa E 11 l0))) → (xg lv 1 = some (.int l1)) → ∀ res, k_Page_frameStart_b0  σ l0 l1 = some res → cR E cQ1 pF (d + 0) kT107 11 2 (some FieldType.int) (some (.int res)) σ g σ (0, lv, []) := by
  intro g lv σ l0 l1 bl0 g0 g1 res h
  unfold k_Page_frameStart_b0 at h
  refine cR_lift (fun _ _ kk => eE_iload_n lk107_0 g1 kk) ?_
  refine cR_if (t := 23) lk107_1 (by decide) (fun c1 => ?_) (fun c1 => ?_)
  · rw [if_pos c1] at h
    exact k_Page_frameStart_b23_ok hp0 hL hF  g lv σ  _ h
  · rw [if_neg c1] at h
    refine cR_lift (fun _ _ kk => eE_iload_n lk107_4 g1 kk) ?_
    refine cR_lift (fun _ _ kk => eE_aload_n lk107_5 g0 kk) ?_
    refine cR_getI lk107_6 rf_11_39 rfl bl0 ?_
    refine cR_icmp (t := 23) lk107_9 (by decide) (fun c2 => ?_) (fun c2 => ?_)
    · rw [if_pos c2] at h
      exact k_Page_frameStart_b23_ok hp0 hL hF  g lv σ  _ h
    · rw [if_neg c2] at h
      refine cR_lift (fun _ _ kk => eE_aload_n lk107_12 g0 kk) ?_
      refine cR_getA lk107_13 rf_11_15 (by decide) bl0 ?_
      refine cR_lift (fun _ _ kk => eE_iload_n lk107_16 g1 kk) ?_
      refine cR_lift (fun _ _ kk => eE_iconst (v := 1) lk107_17 (by decide) kk) ?_
      refine cR_lift (fun _ _ kk => eE_isub lk107_18 kk) ?_
      obtain ⟨x3, h4, h⟩ := Option.bind_eq_some_iff.mp h
      refine cR_iald (cl := 11) (i := l0) (f := 7) lk107_19 (by decide) rfl bl0 h4 ?_
      refine cR_lift (fun _ _ kk => eE_goto (t := 25) lk107_20 (by decide) kk) ?_
      exact k_Page_frameStart_b25_ok hp0 hL hF  g lv σ x3  _ h
def k_Page_frameStart (σ : CS) (l0 : Nat) (l1 : Int32) : Option (Int32) := k_Page_frameStart_b0 σ l0 l1
theorem k_Page_frameStart_ok {E : CE} {pF : Nat → List Value → xH → Option (Option Value × xH)} (hp0 : xNPc pF) (hL : lcAll E pF) (hF : lcF pF) {d : Nat} {g : CG} {σ : CS} {l0 : Nat} {l1 : Int32} {res : Int32} (bl0 : cob σ 11 l0) (h : k_Page_frameStart σ l0 l1 = some res) : cCo E cQ1 pF (d + 1) 107 [.ref (coa E 11 l0), .int l1] (some (.int res)) σ g σ :=
  cCo_R kk_107 mo_107 ni_107 xm_107 (Nat.le_of_ble_eq_true rfl) (hp0 107 (by decide) _) (k_Page_frameStart_b0_ok hp0 hL hF g _ σ l0 l1 bl0 rfl rfl _ h)
/-! k_Page_cutTo (106), depth 1 -/
def k_Page_cutTo_b48 (F : Nat)  (σ : CS) : Option (CS) :=
  some σ
set_option maxRecDepth 4000 in
theorem k_Page_cutTo_b48_ok {E : CE} {pF : Nat → List Value → xH → Option (Option Value × xH)} (hp0 : xNPc pF) (hL : lcAll E pF) (hF : lcF pF) {d : Nat} {F : Nat}   : ∀ (g : CG) (lv : xL) (σ : CS), ∀ res, k_Page_cutTo_b48 F  σ = some res → cR E cQ1 pF (d + 0) kT106 11 2 none none res g σ (48, lv, []) := by
  intro g lv σ res h
  unfold k_Page_cutTo_b48 at h
  cases h
  exact cR_end lk106_48 rfl rfl rfl
def k_Page_cutTo_b13 (F : Nat)  : Nat → CS → Nat → Int32 → Option (CS)
  | 0, _, _, _ => none
  | n + 1, σ, l0, l1 =>
    let KK := k_Page_cutTo_b13 F  n
    if xc0 .le (cI σ 11 l0 5 0) = true then (
      k_Page_cutTo_b48 F  σ
    ) else (
      (crd σ 11 l0 7 ((cI σ 11 l0 5 0) - ((1 : Int32)))).bind fun x2 =>
      if xc2 .le x2 l1 = true then (
        k_Page_cutTo_b48 F  σ
      ) else (
        (some (csI σ 11 l0 5 0 ((cI σ 11 l0 5 0) - ((1 : Int32))))).bind fun σ5 =>
        KK σ5 l0 l1
      )
    )
set_option maxRecDepth 4000 in
theorem k_Page_cutTo_b13_ok {E : CE} {pF : Nat → List Value → xH → Option (Option Value × xH)} (hp0 : xNPc pF) (hL : lcAll E pF) (hF : lcF pF) {d : Nat} {F : Nat}   : ∀ (n : Nat) (g : CG) (lv : xL) (σ : CS) (l0 : Nat) (l1 : Int32), (cob σ 11 l0) → (xg lv 0 = some (.ref (coa E 11 l0))) → (xg lv 1 = some (.int l1)) → ∀ res, k_Page_cutTo_b13 F  n σ l0 l1 = some res → cR E cQ1 pF (d + 0) kT106 11 2 none none res g σ (13, lv, []) := by
  intro n
  induction n with
  | zero => intro g lv σ l0 l1 bl0 g0 g1 res h; simp [k_Page_cutTo_b13] at h
  | succ n hKK =>
    intro g lv σ l0 l1 bl0 g0 g1 res h
    unfold k_Page_cutTo_b13 at h
    dsimp only at h
    refine cR_lift (fun _ _ kk => eE_aload_n lk106_13 g0 kk) ?_
    refine cR_getI lk106_14 rf_11_39 rfl bl0 ?_
    refine cR_if (t := 48) lk106_17 (by decide) (fun c1 => ?_) (fun c1 => ?_)
    · rw [if_pos c1] at h
      exact k_Page_cutTo_b48_ok hp0 hL hF  g lv σ  _ h
    · rw [if_neg c1] at h
      refine cR_lift (fun _ _ kk => eE_aload_n lk106_20 g0 kk) ?_
      refine cR_getA lk106_21 rf_11_15 (by decide) bl0 ?_
      refine cR_lift (fun _ _ kk => eE_aload_n lk106_24 g0 kk) ?_
      refine cR_getI lk106_25 rf_11_39 rfl bl0 ?_
      refine cR_lift (fun _ _ kk => eE_iconst (v := 1) lk106_28 (by decide) kk) ?_
      refine cR_lift (fun _ _ kk => eE_isub lk106_29 kk) ?_
      obtain ⟨x2, h3, h⟩ := Option.bind_eq_some_iff.mp h
      refine cR_iald (cl := 11) (i := l0) (f := 7) lk106_30 (by decide) rfl bl0 h3 ?_
      refine cR_lift (fun _ _ kk => eE_iload_n lk106_31 g1 kk) ?_
      refine cR_icmp (t := 48) lk106_32 (by decide) (fun c4 => ?_) (fun c4 => ?_)
      · rw [if_pos c4] at h
        exact k_Page_cutTo_b48_ok hp0 hL hF  g lv σ  _ h
      · rw [if_neg c4] at h
        refine cR_lift (fun _ _ kk => eE_aload_n lk106_35 g0 kk) ?_
        refine cR_lift (fun _ _ kk => eE_dup lk106_36 rfl kk) ?_
        refine cR_getI lk106_37 rf_11_39 rfl bl0 ?_
        refine cR_lift (fun _ _ kk => eE_iconst (v := 1) lk106_40 (by decide) kk) ?_
        refine cR_lift (fun _ _ kk => eE_isub lk106_41 kk) ?_
        obtain ⟨σ5, h6, h⟩ := Option.bind_eq_some_iff.mp h
        refine cR_putI lk106_42 rf_11_39 rfl bl0 pf_11_5 rfl h6 ?_
        refine cR_lift (fun _ _ kk => eE_goto (t := 13) lk106_45 (by decide) kk) ?_
        exact hKK g lv σ5 l0 l1 (cob_any rfl bl0) g0 g1 _ h
def k_Page_cutTo_b0 (F : Nat)  (σ : CS) (l0 : Nat) (l1 : Int32) : Option (CS) :=
  if xc2 .le (cI σ 11 l0 1 0) l1 = true then (
    k_Page_cutTo_b48 F  σ
  ) else (
    (some (csI σ 11 l0 1 0 l1)).bind fun σ8 =>
    k_Page_cutTo_b13 F  F σ8 l0 l1
  )
set_option maxRecDepth 4000 in
theorem k_Page_cutTo_b0_ok {E : CE} {pF : Nat → List Value → xH → Option (Option Value × xH)} (hp0 : xNPc pF) (hL : lcAll E pF) (hF : lcF pF) {d : Nat} {F : Nat}   : ∀ (g : CG) (lv : xL) (σ : CS) (l0 : Nat) (l1 : Int32), (cob σ 11 l0) → (xg lv 0 = some (.ref (coa E 11 l0))) → (xg lv 1 = some (.int l1)) → ∀ res, k_Page_cutTo_b0 F  σ l0 l1 = some res → cR E cQ1 pF (d + 0) kT106 11 2 none none res g σ (0, lv, []) := by
  intro g lv σ l0 l1 bl0 g0 g1 res h
  unfold k_Page_cutTo_b0 at h
  refine cR_lift (fun _ _ kk => eE_aload_n lk106_0 g0 kk) ?_
  refine cR_getI lk106_1 rf_11_26 rfl bl0 ?_
  refine cR_lift (fun _ _ kk => eE_iload_n lk106_4 g1 kk) ?_
  refine cR_icmp (t := 48) lk106_5 (by decide) (fun c7 => ?_) (fun c7 => ?_)
  · rw [if_pos c7] at h
    exact k_Page_cutTo_b48_ok hp0 hL hF  g lv σ  _ h
  · rw [if_neg c7] at h
    refine cR_lift (fun _ _ kk => eE_aload_n lk106_8 g0 kk) ?_
    refine cR_lift (fun _ _ kk => eE_iload_n lk106_9 g1 kk) ?_
    obtain ⟨σ8, h9, h⟩ := Option.bind_eq_some_iff.mp h
    refine cR_putI lk106_10 rf_11_26 rfl bl0 pf_11_1 rfl h9 ?_
    exact k_Page_cutTo_b13_ok hp0 hL hF  F g lv σ8 l0 l1 (cob_any rfl bl0) g0 g1 _ h
def k_Page_cutTo (F : Nat) (σ : CS) (l0 : Nat) (l1 : Int32) : Option (CS) := k_Page_cutTo_b0 F σ l0 l1
theorem k_Page_cutTo_ok {E : CE} {pF : Nat → List Value → xH → Option (Option Value × xH)} (hp0 : xNPc pF) (hL : lcAll E pF) (hF : lcF pF) {d : Nat} {g : CG} {σ : CS} {F : Nat} {l0 : Nat} {l1 : Int32} {res : CS} (bl0 : cob σ 11 l0) (h : k_Page_cutTo F σ l0 l1 = some res) : cCo E cQ1 pF (d + 1) 106 [.ref (coa E 11 l0), .int l1] none res g σ :=
  cCo_R kk_106 mo_106 ni_106 xm_106 (Nat.le_of_ble_eq_true rfl) (hp0 106 (by decide) _) (k_Page_cutTo_b0_ok hp0 hL hF g _ σ l0 l1 bl0 rfl rfl _ h)
/-! k_Disk_cutTo (35), depth 2 -/
def k_Disk_cutTo_b0 (F : Nat)  (σ : CS) (l0 : Nat) (l1 : Int32) (l2 : Int32) : Option (CS) :=
  (cix 6 0 l1).bind fun n1 =>
  (k_Page_cutTo F σ (30 * l0 + cpg n1) l2).bind fun p3 =>
  (crd p3 6 l0 2 l1).bind fun x6 =>
  (cix 6 0 l1).bind fun n8 =>
  (cwr p3 6 l0 2 l1 (cmin x6 (cI p3 11 (30 * l0 + cpg n8) 1 0))).bind fun σ10 =>
  (crd σ10 6 l0 3 l1).bind fun x12 =>
  (cix 6 0 l1).bind fun n14 =>
  (cwr σ10 6 l0 3 l1 (cmin x12 (cI σ10 11 (30 * l0 + cpg n14) 5 0))).bind fun σ16 =>
  some σ16
set_option maxRecDepth 4000 in
theorem k_Disk_cutTo_b0_ok {E : CE} {pF : Nat → List Value → xH → Option (Option Value × xH)} (hp0 : xNPc pF) (hL : lcAll E pF) (hF : lcF pF) {d : Nat} {F : Nat}   : ∀ (g : CG) (lv : xL) (σ : CS) (l0 : Nat) (l1 : Int32) (l2 : Int32), (cob σ 6 l0) → (xg lv 0 = some (.ref (coa E 6 l0))) → (xg lv 1 = some (.int l1)) → (xg lv 2 = some (.int l2)) → ∀ res, k_Disk_cutTo_b0 F  σ l0 l1 l2 = some res → cR E cQ1 pF (d + 1) kT35 6 3 none none res g σ (0, lv, []) := by
  intro g lv σ l0 l1 l2 bl0 g0 g1 g2 res h
  unfold k_Disk_cutTo_b0 at h
  refine cR_lift (fun _ _ kk => eE_aload_n lk35_0 g0 kk) ?_
  refine cR_getA lk35_1 rf_6_11 (by decide) bl0 ?_
  refine cR_lift (fun _ _ kk => eE_iload_n lk35_4 g1 kk) ?_
  obtain ⟨n1, h2, h⟩ := Option.bind_eq_some_iff.mp h
  refine cR_aald (cl := 6) (i := l0) (f := 0) (cl' := 11) (i' := 30 * l0 + cpg n1) lk35_5 rfl (by decide) bl0 h2 rfl ?_
  refine cR_lift (fun _ _ kk => eE_iload_n lk35_6 g2 kk) ?_
  obtain ⟨p3, h4, h⟩ := Option.bind_eq_some_iff.mp h
  refine cR_virt (cl := 11) (i := 30 * l0 + cpg n1) (as := [.int l2]) lk35_7 mr_6_101 na_106 rfl rfl (by first | exact Nat.le_of_ble_eq_true rfl | (simp [xcat, cvo_cat, cat_i, cat_j, cat_r]; done)) wv_106 wc_106 (cob_pg (c := σ) bl0 (cix_lt h2)).1 (k_Page_cutTo_ok hp0 hL hF (d := d + 0) (cob_pg (c := σ) bl0 (cix_lt h2)).1 h4) (fun m5  => ?_)
  refine cR_lift (fun _ _ kk => eE_aload_n lk35_10 g0 kk) ?_
  refine cR_getA lk35_11 rf_6_20 (by decide) (cob_any rfl bl0) ?_
  refine cR_lift (fun _ _ kk => eE_iload_n lk35_14 g1 kk) ?_
  refine cR_lift (fun _ _ kk => eE_aload_n lk35_15 g0 kk) ?_
  refine cR_getA lk35_16 rf_6_20 (by decide) (cob_any rfl bl0) ?_
  refine cR_lift (fun _ _ kk => eE_iload_n lk35_19 g1 kk) ?_
  obtain ⟨x6, h7, h⟩ := Option.bind_eq_some_iff.mp h
  refine cR_iald (cl := 6) (i := l0) (f := 2) lk35_20 (by decide) rfl (cob_any rfl bl0) h7 ?_
  refine cR_lift (fun _ _ kk => eE_aload_n lk35_21 g0 kk) ?_
  refine cR_getA lk35_22 rf_6_11 (by decide) (cob_any rfl bl0) ?_
  refine cR_lift (fun _ _ kk => eE_iload_n lk35_25 g1 kk) ?_
  obtain ⟨n8, h9, h⟩ := Option.bind_eq_some_iff.mp h
  refine cR_aald (cl := 6) (i := l0) (f := 0) (cl' := 11) (i' := 30 * l0 + cpg n8) lk35_26 rfl (by decide) (cob_any rfl bl0) h9 rfl ?_
  refine cR_getI lk35_27 rf_6_38 rfl (cob_pg (c := p3) (cob_any rfl bl0) (cix_lt h9)).1 ?_
  refine cR_min lk35_30 mr_6_103 (by first | exact Nat.le_of_ble_eq_true rfl | (simp [xcat, cvo_cat, cat_i, cat_j, cat_r]; done)) ?_
  obtain ⟨σ10, h11, h⟩ := Option.bind_eq_some_iff.mp h
  refine cR_iast (cl := 6) (i := l0) (f := 2) lk35_33 (by decide) rfl (cob_any rfl bl0) h11 ?_
  refine cR_lift (fun _ _ kk => eE_aload_n lk35_34 g0 kk) ?_
  refine cR_getA lk35_35 rf_6_24 (by decide) (cob_any rfl bl0) ?_
  refine cR_lift (fun _ _ kk => eE_iload_n lk35_38 g1 kk) ?_
  refine cR_lift (fun _ _ kk => eE_aload_n lk35_39 g0 kk) ?_
  refine cR_getA lk35_40 rf_6_24 (by decide) (cob_any rfl bl0) ?_
  refine cR_lift (fun _ _ kk => eE_iload_n lk35_43 g1 kk) ?_
  obtain ⟨x12, h13, h⟩ := Option.bind_eq_some_iff.mp h
  refine cR_iald (cl := 6) (i := l0) (f := 3) lk35_44 (by decide) rfl (cob_any rfl bl0) h13 ?_
  refine cR_lift (fun _ _ kk => eE_aload_n lk35_45 g0 kk) ?_
  refine cR_getA lk35_46 rf_6_11 (by decide) (cob_any rfl bl0) ?_
  refine cR_lift (fun _ _ kk => eE_iload_n lk35_49 g1 kk) ?_
  obtain ⟨n14, h15, h⟩ := Option.bind_eq_some_iff.mp h
  refine cR_aald (cl := 6) (i := l0) (f := 0) (cl' := 11) (i' := 30 * l0 + cpg n14) lk35_50 rfl (by decide) (cob_any rfl bl0) h15 rfl ?_
  refine cR_getI lk35_51 rf_6_96 rfl (cob_pg (c := σ10) (cob_any rfl bl0) (cix_lt h15)).1 ?_
  refine cR_min lk35_54 mr_6_103 (by first | exact Nat.le_of_ble_eq_true rfl | (simp [xcat, cvo_cat, cat_i, cat_j, cat_r]; done)) ?_
  obtain ⟨σ16, h17, h⟩ := Option.bind_eq_some_iff.mp h
  refine cR_iast (cl := 6) (i := l0) (f := 3) lk35_57 (by decide) rfl (cob_any rfl bl0) h17 ?_
  cases h
  exact cR_end lk35_58 rfl rfl rfl
def k_Disk_cutTo (F : Nat) (σ : CS) (l0 : Nat) (l1 : Int32) (l2 : Int32) : Option (CS) := k_Disk_cutTo_b0 F σ l0 l1 l2
theorem k_Disk_cutTo_ok {E : CE} {pF : Nat → List Value → xH → Option (Option Value × xH)} (hp0 : xNPc pF) (hL : lcAll E pF) (hF : lcF pF) {d : Nat} {g : CG} {σ : CS} {F : Nat} {l0 : Nat} {l1 : Int32} {l2 : Int32} {res : CS} (bl0 : cob σ 6 l0) (h : k_Disk_cutTo F σ l0 l1 l2 = some res) : cCo E cQ1 pF (d + 2) 35 [.ref (coa E 6 l0), .int l1, .int l2] none res g σ :=
  cCo_R kk_35 mo_35 ni_35 xm_35 (Nat.le_of_ble_eq_true rfl) (hp0 35 (by decide) _) (k_Disk_cutTo_b0_ok hp0 hL hF g _ σ l0 l1 l2 bl0 rfl rfl rfl _ h)
/-! k_Disk_cutFrom (34), depth 3 -/
def k_Disk_cutFrom_b100 (F : Nat)  (σ : CS) : Option (CS) :=
  some σ
set_option maxRecDepth 4000 in
theorem k_Disk_cutFrom_b100_ok {E : CE} {pF : Nat → List Value → xH → Option (Option Value × xH)} (hp0 : xNPc pF) (hL : lcAll E pF) (hF : lcF pF) {d : Nat} {F : Nat}   : ∀ (g : CG) (lv : xL) (σ : CS), ∀ res, k_Disk_cutFrom_b100 F  σ = some res → cR E cQ1 pF (d + 2) kT34 6 3 none none res g σ (100, lv, []) := by
  intro g lv σ res h
  unfold k_Disk_cutFrom_b100 at h
  cases h
  exact cR_end lk34_100 rfl rfl rfl
def k_Disk_cutFrom_b56 (F : Nat)  (σ : CS) (l0 : Nat) (l1 : Int32) : Option (CS) :=
  if xc0 .le (cI σ 6 l0 5 0) = true then (
    k_Disk_cutFrom_b100 F  σ
  ) else (
    (crd σ 6 l0 4 ((cI σ 6 l0 5 0) - ((1 : Int32)))).bind fun x2 =>
    (cix 6 0 x2).bind fun n9 =>
    (cix 6 0 x2).bind fun n11 =>
    (k_Page_frameStart σ (30 * l0 + cpg n9) (l1 - (cI σ 11 (30 * l0 + cpg n11) 2 0))).bind fun p13 =>
    (k_Disk_cutTo F σ l0 x2 p13).bind fun p16 =>
    k_Disk_cutFrom_b100 F  p16
  )
set_option maxRecDepth 4000 in
theorem k_Disk_cutFrom_b56_ok {E : CE} {pF : Nat → List Value → xH → Option (Option Value × xH)} (hp0 : xNPc pF) (hL : lcAll E pF) (hF : lcF pF) {d : Nat} {F : Nat}   : ∀ (g : CG) (lv : xL) (σ : CS) (l0 : Nat) (l1 : Int32), (cob σ 6 l0) → (xg lv 0 = some (.ref (coa E 6 l0))) → (xg lv 1 = some (.int l1)) → ∀ res, k_Disk_cutFrom_b56 F  σ l0 l1 = some res → cR E cQ1 pF (d + 2) kT34 6 3 none none res g σ (56, lv, []) := by
  intro g lv σ l0 l1 bl0 g0 g1 res h
  unfold k_Disk_cutFrom_b56 at h
  refine cR_lift (fun _ _ kk => eE_aload_n lk34_56 g0 kk) ?_
  refine cR_getI lk34_57 rf_6_72 rfl bl0 ?_
  refine cR_if (t := 100) lk34_60 (by decide) (fun c1 => ?_) (fun c1 => ?_)
  · rw [if_pos c1] at h
    exact k_Disk_cutFrom_b100_ok hp0 hL hF  g lv σ  _ h
  · rw [if_neg c1] at h
    refine cR_lift (fun _ _ kk => eE_aload_n lk34_63 g0 kk) ?_
    refine cR_getA lk34_64 rf_6_27 (by decide) bl0 ?_
    refine cR_lift (fun _ _ kk => eE_aload_n lk34_67 g0 kk) ?_
    refine cR_getI lk34_68 rf_6_72 rfl bl0 ?_
    refine cR_lift (fun _ _ kk => eE_iconst (v := 1) lk34_71 (by decide) kk) ?_
    refine cR_lift (fun _ _ kk => eE_isub lk34_72 kk) ?_
    obtain ⟨x2, h3, h⟩ := Option.bind_eq_some_iff.mp h
    refine cR_iald (cl := 6) (i := l0) (f := 4) lk34_73 (by decide) rfl bl0 h3 ?_
    refine cR_stI (j := 2) lk34_74 (Or.inr ⟨_, rfl, rfl⟩) (by decide) (fun vq4 gq5 kq6 => ?_)
    have gq7 := kq6 0 _ (by decide) (fun e => absurd e (by decide)) g0
    have gq8 := kq6 1 _ (by decide) (fun _ => rfl) g1
    refine cR_lift (fun _ _ kk => eE_aload_n lk34_75 gq7 kk) ?_
    refine cR_lift (fun _ _ kk => eE_iload_n lk34_76 gq5 kk) ?_
    refine cR_lift (fun _ _ kk => eE_aload_n lk34_77 gq7 kk) ?_
    refine cR_getA lk34_78 rf_6_11 (by decide) bl0 ?_
    refine cR_lift (fun _ _ kk => eE_iload_n lk34_81 gq5 kk) ?_
    obtain ⟨n9, h10, h⟩ := Option.bind_eq_some_iff.mp h
    refine cR_aald (cl := 6) (i := l0) (f := 0) (cl' := 11) (i' := 30 * l0 + cpg n9) lk34_82 rfl (by decide) bl0 h10 rfl ?_
    refine cR_lift (fun _ _ kk => eE_iload_n lk34_83 gq8 kk) ?_
    refine cR_lift (fun _ _ kk => eE_aload_n lk34_84 gq7 kk) ?_
    refine cR_getA lk34_85 rf_6_11 (by decide) bl0 ?_
    refine cR_lift (fun _ _ kk => eE_iload_n lk34_88 gq5 kk) ?_
    obtain ⟨n11, h12, h⟩ := Option.bind_eq_some_iff.mp h
    refine cR_aald (cl := 6) (i := l0) (f := 0) (cl' := 11) (i' := 30 * l0 + cpg n11) lk34_89 rfl (by decide) bl0 h12 rfl ?_
    refine cR_getI lk34_90 rf_6_83 rfl (cob_pg (c := σ) bl0 (cix_lt h12)).1 ?_
    refine cR_lift (fun _ _ kk => eE_isub lk34_93 kk) ?_
    obtain ⟨p13, h14, h⟩ := Option.bind_eq_some_iff.mp h
    refine cR_virt (cl := 11) (i := 30 * l0 + cpg n9) (as := [.int (l1 - (cI σ 11 (30 * l0 + cpg n11) 2 0))]) lk34_94 mr_6_89 na_107 rfl rfl (by first | exact Nat.le_of_ble_eq_true rfl | (simp [xcat, cvo_cat, cat_i, cat_j, cat_r]; done)) wv_107 wc_107 (cob_pg (c := σ) bl0 (cix_lt h10)).1 (k_Page_frameStart_ok hp0 hL hF (d := d + 1) (cob_pg (c := σ) bl0 (cix_lt h10)).1 h14) (fun m15  => ?_)
    obtain ⟨p16, h17, h⟩ := Option.bind_eq_some_iff.mp h
    refine cR_virt (cl := 6) (i := l0) (as := [.int x2, .int p13]) lk34_97 mr_6_93 na_35 rfl rfl (by first | exact Nat.le_of_ble_eq_true rfl | (simp [xcat, cvo_cat, cat_i, cat_j, cat_r]; done)) wv_35 wc_35 bl0 (k_Disk_cutTo_ok hp0 hL hF (d := d + 0) bl0 h17) (fun m18  => ?_)
    exact k_Disk_cutFrom_b100_ok hp0 hL hF  g vq4 p16  _ h
def k_Disk_cutFrom_b0 (F : Nat)  : Nat → CS → Nat → Int32 → Option (CS)
  | 0, _, _, _ => none
  | n + 1, σ, l0, l1 =>
    let KK := k_Disk_cutFrom_b0 F  n
    if xc0 .le (cI σ 6 l0 5 0) = true then (
      k_Disk_cutFrom_b56 F  σ l0 l1
    ) else (
      (crd σ 6 l0 4 ((cI σ 6 l0 5 0) - ((1 : Int32)))).bind fun x20 =>
      (cix 6 0 x20).bind fun n22 =>
      if xc2 .lt (cI σ 11 (30 * l0 + cpg n22) 2 0) l1 = true then (
        k_Disk_cutFrom_b56 F  σ l0 l1
      ) else (
        (some (csI σ 6 l0 5 0 ((cI σ 6 l0 5 0) - ((1 : Int32))))).bind fun σ25 =>
        (crd σ25 6 l0 4 (cI σ25 6 l0 5 0)).bind fun x27 =>
        (k_Disk_remove σ25 l0 x27).bind fun p29 =>
        KK p29 l0 l1
      )
    )
set_option maxRecDepth 4000 in
theorem k_Disk_cutFrom_b0_ok {E : CE} {pF : Nat → List Value → xH → Option (Option Value × xH)} (hp0 : xNPc pF) (hL : lcAll E pF) (hF : lcF pF) {d : Nat} {F : Nat}   : ∀ (n : Nat) (g : CG) (lv : xL) (σ : CS) (l0 : Nat) (l1 : Int32), (cob σ 6 l0) → (xg lv 0 = some (.ref (coa E 6 l0))) → (xg lv 1 = some (.int l1)) → ∀ res, k_Disk_cutFrom_b0 F  n σ l0 l1 = some res → cR E cQ1 pF (d + 2) kT34 6 3 none none res g σ (0, lv, []) := by
  intro n
  induction n with
  | zero => intro g lv σ l0 l1 bl0 g0 g1 res h; simp [k_Disk_cutFrom_b0] at h
  | succ n hKK =>
    intro g lv σ l0 l1 bl0 g0 g1 res h
    unfold k_Disk_cutFrom_b0 at h
    dsimp only at h
    refine cR_lift (fun _ _ kk => eE_aload_n lk34_0 g0 kk) ?_
    refine cR_getI lk34_1 rf_6_72 rfl bl0 ?_
    refine cR_if (t := 56) lk34_4 (by decide) (fun c19 => ?_) (fun c19 => ?_)
    · rw [if_pos c19] at h
      exact k_Disk_cutFrom_b56_ok hp0 hL hF  g lv σ l0 l1 bl0 g0 g1 _ h
    · rw [if_neg c19] at h
      refine cR_lift (fun _ _ kk => eE_aload_n lk34_7 g0 kk) ?_
      refine cR_getA lk34_8 rf_6_11 (by decide) bl0 ?_
      refine cR_lift (fun _ _ kk => eE_aload_n lk34_11 g0 kk) ?_
      refine cR_getA lk34_12 rf_6_27 (by decide) bl0 ?_
      refine cR_lift (fun _ _ kk => eE_aload_n lk34_15 g0 kk) ?_
      refine cR_getI lk34_16 rf_6_72 rfl bl0 ?_
      refine cR_lift (fun _ _ kk => eE_iconst (v := 1) lk34_19 (by decide) kk) ?_
      refine cR_lift (fun _ _ kk => eE_isub lk34_20 kk) ?_
      obtain ⟨x20, h21, h⟩ := Option.bind_eq_some_iff.mp h
      refine cR_iald (cl := 6) (i := l0) (f := 4) lk34_21 (by decide) rfl bl0 h21 ?_
      obtain ⟨n22, h23, h⟩ := Option.bind_eq_some_iff.mp h
      refine cR_aald (cl := 6) (i := l0) (f := 0) (cl' := 11) (i' := 30 * l0 + cpg n22) lk34_22 rfl (by decide) bl0 h23 rfl ?_
      refine cR_getI lk34_23 rf_6_83 rfl (cob_pg (c := σ) bl0 (cix_lt h23)).1 ?_
      refine cR_lift (fun _ _ kk => eE_iload_n lk34_26 g1 kk) ?_
      refine cR_icmp (t := 56) lk34_27 (by decide) (fun c24 => ?_) (fun c24 => ?_)
      · rw [if_pos c24] at h
        exact k_Disk_cutFrom_b56_ok hp0 hL hF  g lv σ l0 l1 bl0 g0 g1 _ h
      · rw [if_neg c24] at h
        refine cR_lift (fun _ _ kk => eE_aload_n lk34_30 g0 kk) ?_
        refine cR_lift (fun _ _ kk => eE_dup lk34_31 rfl kk) ?_
        refine cR_getI lk34_32 rf_6_72 rfl bl0 ?_
        refine cR_lift (fun _ _ kk => eE_iconst (v := 1) lk34_35 (by decide) kk) ?_
        refine cR_lift (fun _ _ kk => eE_isub lk34_36 kk) ?_
        obtain ⟨σ25, h26, h⟩ := Option.bind_eq_some_iff.mp h
        refine cR_putI lk34_37 rf_6_72 rfl bl0 pf_6_5 rfl h26 ?_
        refine cR_lift (fun _ _ kk => eE_aload_n lk34_40 g0 kk) ?_
        refine cR_lift (fun _ _ kk => eE_aload_n lk34_41 g0 kk) ?_
        refine cR_getA lk34_42 rf_6_27 (by decide) (cob_any rfl bl0) ?_
        refine cR_lift (fun _ _ kk => eE_aload_n lk34_45 g0 kk) ?_
        refine cR_getI lk34_46 rf_6_72 rfl (cob_any rfl bl0) ?_
        obtain ⟨x27, h28, h⟩ := Option.bind_eq_some_iff.mp h
        refine cR_iald (cl := 6) (i := l0) (f := 4) lk34_49 (by decide) rfl (cob_any rfl bl0) h28 ?_
        obtain ⟨p29, h30, h⟩ := Option.bind_eq_some_iff.mp h
        refine cR_virt (cl := 6) (i := l0) (as := [.int x27]) lk34_50 mr_6_86 na_45 rfl rfl (by first | exact Nat.le_of_ble_eq_true rfl | (simp [xcat, cvo_cat, cat_i, cat_j, cat_r]; done)) wv_45 wc_45 (cob_any rfl bl0) (k_Disk_remove_ok hp0 hL hF (d := d + 0) (cob_any rfl bl0) h30) (fun m31  => ?_)
        refine cR_lift (fun _ _ kk => eE_goto (t := 0) lk34_53 (by decide) kk) ?_
        exact hKK g lv p29 l0 l1 (cob_any rfl bl0) g0 g1 _ h
def k_Disk_cutFrom (F : Nat) (σ : CS) (l0 : Nat) (l1 : Int32) : Option (CS) := k_Disk_cutFrom_b0 F F σ l0 l1
theorem k_Disk_cutFrom_ok {E : CE} {pF : Nat → List Value → xH → Option (Option Value × xH)} (hp0 : xNPc pF) (hL : lcAll E pF) (hF : lcF pF) {d : Nat} {g : CG} {σ : CS} {F : Nat} {l0 : Nat} {l1 : Int32} {res : CS} (bl0 : cob σ 6 l0) (h : k_Disk_cutFrom F σ l0 l1 = some res) : cCo E cQ1 pF (d + 3) 34 [.ref (coa E 6 l0), .int l1] none res g σ :=
  cCo_R kk_34 mo_34 ni_34 xm_34 (Nat.le_of_ble_eq_true rfl) (hp0 34 (by decide) _) (k_Disk_cutFrom_b0_ok hp0 hL hF F g _ σ l0 l1 bl0 rfl rfl _ h)
/-! k_Page_makeRoom (110), depth 2 -/
def k_Page_makeRoom_b45  (σ : CS) : Option (CS) :=
  some σ
set_option maxRecDepth 4000 in
theorem k_Page_makeRoom_b45_ok {E : CE} {pF : Nat → List Value → xH → Option (Option Value × xH)} (hp0 : xNPc pF) (hL : lcAll E pF) (hF : lcF pF) {d : Nat}   : ∀ (g : CG) (lv : xL) (σ : CS), ∀ res, k_Page_makeRoom_b45  σ = some res → cR E (cQx [11]) pF (d + 1) kT110 11 3 none none res g σ (45, lv, []) := by
  intro g lv σ res h
  unfold k_Page_makeRoom_b45 at h
  cases h
  exact cR_end lk110_45 rfl rfl rfl
def k_Page_makeRoom_b0  (σ : CS) (l0 : Nat) (l1 : Int32) : Option (CS) :=
  if xc2 .ge (Int32.ofNat (cal σ 11 l0 7)) l1 = true then (
    k_Page_makeRoom_b45  σ
  ) else (
    (cext σ 11 l0 7 (cmax ((16 : Int32)) (((2 : Int32)) * l1))).bind fun σ6 =>
    (cext σ6 11 l0 6 ((cmax ((16 : Int32)) (((2 : Int32)) * l1)) * ((6 : Int32)))).bind fun σ9 =>
    k_Page_makeRoom_b45  σ9
  )
set_option maxRecDepth 4000 in
theorem k_Page_makeRoom_b0_ok {E : CE} {pF : Nat → List Value → xH → Option (Option Value × xH)} (hp0 : xNPc pF) (hL : lcAll E pF) (hF : lcF pF) {d : Nat}   : ∀ (g : CG) (lv : xL) (σ : CS) (l0 : Nat) (l1 : Int32), (cob σ 11 l0) → (xg lv 0 = some (.ref (coa E 11 l0))) → (xg lv 1 = some (.int l1)) → ∀ res, k_Page_makeRoom_b0  σ l0 l1 = some res → cR E (cQx [11]) pF (d + 1) kT110 11 3 none none res g σ (0, lv, []) := by
  intro g lv σ l0 l1 bl0 g0 g1 res h
  unfold k_Page_makeRoom_b0 at h
  refine cR_lift (fun _ _ kk => eE_aload_n lk110_0 g0 kk) ?_
  refine cR_getA lk110_1 rf_11_15 (by decide) bl0 ?_
  refine cR_alen (cl := 11) (i := l0) (f := 7) lk110_4 (by decide) (by decide) bl0 ?_
  refine cR_lift (fun _ _ kk => eE_iload_n lk110_5 g1 kk) ?_
  refine cR_icmp (t := 45) lk110_6 (by decide) (fun c1 => ?_) (fun c1 => ?_)
  · rw [if_pos c1] at h
    exact k_Page_makeRoom_b45_ok hp0 hL hF  g lv σ  _ h
  · rw [if_neg c1] at h
    refine cR_lift (fun _ _ kk => eE_bipush (v := 16) lk110_9 (by decide) kk) ?_
    refine cR_lift (fun _ _ kk => eE_iconst (v := 2) lk110_11 (by decide) kk) ?_
    refine cR_lift (fun _ _ kk => eE_iload_n lk110_12 g1 kk) ?_
    refine cR_lift (fun _ _ kk => eE_imul lk110_13 kk) ?_
    refine cR_max lk110_14 mr_11_55 (by first | exact Nat.le_of_ble_eq_true rfl | (simp [xcat, cvo_cat, cat_i, cat_j, cat_r]; done)) ?_
    refine cR_stI (j := 2) lk110_17 (Or.inr ⟨_, rfl, rfl⟩) (by decide) (fun vq2 gq3 kq4 => ?_)
    have gq5 := kq4 0 _ (by decide) (fun e => absurd e (by decide)) g0
    refine cR_lift (fun _ _ kk => eE_aload_n lk110_18 gq5 kk) ?_
    refine cR_lift (fun _ _ kk => eE_aload_n lk110_19 gq5 kk) ?_
    refine cR_getA lk110_20 rf_11_15 (by decide) bl0 ?_
    refine cR_lift (fun _ _ kk => eE_iload_n lk110_23 gq3 kk) ?_
    obtain ⟨σ6, h7, h⟩ := Option.bind_eq_some_iff.mp h
    refine cR_cpyG390 (d := d + 0) (cl := 11) (i := l0) (f := 7) lk110_24 lk110_27 mr_11_61 (by first | exact Nat.le_of_ble_eq_true rfl | (simp [xcat, cvo_cat, cat_i, cat_j, cat_r]; done)) (hp0 390 (by decide)) rfl rf_11_15 rfl bl0 pf_11_7 h7 (by decide) (fun g_8 g_8e => ?_)
    refine cR_lift (fun _ _ kk => eE_aload_n lk110_30 gq5 kk) ?_
    refine cR_lift (fun _ _ kk => eE_aload_n lk110_31 gq5 kk) ?_
    refine cR_getA lk110_32 rf_11_9 (by decide) (cob_any rfl bl0) ?_
    refine cR_lift (fun _ _ kk => eE_iload_n lk110_35 gq3 kk) ?_
    refine cR_lift (fun _ _ kk => eE_bipush (v := 6) lk110_36 (by decide) kk) ?_
    refine cR_lift (fun _ _ kk => eE_imul lk110_38 kk) ?_
    obtain ⟨σ9, h10, h⟩ := Option.bind_eq_some_iff.mp h
    refine cR_cpyG390 (d := d + 0) (cl := 11) (i := l0) (f := 6) lk110_39 lk110_42 mr_11_61 (by first | exact Nat.le_of_ble_eq_true rfl | (simp [xcat, cvo_cat, cat_i, cat_j, cat_r]; done)) (hp0 390 (by decide)) rfl rf_11_9 rfl (cob_any rfl bl0) pf_11_6 h10 (by decide) (fun g_11 g_11e => ?_)
    exact k_Page_makeRoom_b45_ok hp0 hL hF  g_11 vq2 σ9  _ h
def k_Page_makeRoom (σ : CS) (l0 : Nat) (l1 : Int32) : Option (CS) := k_Page_makeRoom_b0 σ l0 l1
theorem k_Page_makeRoom_ok {E : CE} {pF : Nat → List Value → xH → Option (Option Value × xH)} (hp0 : xNPc pF) (hL : lcAll E pF) (hF : lcF pF) {d : Nat} {g : CG} {σ : CS} {l0 : Nat} {l1 : Int32} {res : CS} (bl0 : cob σ 11 l0) (h : k_Page_makeRoom σ l0 l1 = some res) : cCo E (cQx [11]) pF (d + 2) 110 [.ref (coa E 11 l0), .int l1] none res g σ :=
  cCo_R kk_110 mo_110 ni_110 xm_110 (Nat.le_of_ble_eq_true rfl) (hp0 110 (by decide) _) (k_Page_makeRoom_b0_ok hp0 hL hF g _ σ l0 l1 bl0 rfl rfl _ h)
/-! k_Page_takeOver (113), depth 3 -/
def k_Page_takeOver_b96  (σ : CS) (l0 : Nat) (l1 : Nat) : Option (CS) :=
  (some (csI σ 11 l0 5 0 (cI σ 11 l1 5 0))).bind fun σ1 =>
  some σ1
set_option maxRecDepth 4000 in
theorem k_Page_takeOver_b96_ok {E : CE} {pF : Nat → List Value → xH → Option (Option Value × xH)} (hp0 : xNPc pF) (hL : lcAll E pF) (hF : lcF pF) {d : Nat}   : ∀ (g : CG) (lv : xL) (σ : CS) (l0 : Nat) (l1 : Nat), (cob σ 11 l0) → (cob σ 11 l1) → (xg lv 0 = some (.ref (coa E 11 l0))) → (xg lv 1 = some (.ref (coa E 11 l1))) → ∀ res, k_Page_takeOver_b96  σ l0 l1 = some res → cR E (cQx [11]) pF (d + 2) kT113 11 4 none none res g σ (96, lv, []) := by
  intro g lv σ l0 l1 bl0 bl1 g0 g1 res h
  unfold k_Page_takeOver_b96 at h
  refine cR_lift (fun _ _ kk => eE_aload_n lk113_96 g0 kk) ?_
  refine cR_lift (fun _ _ kk => eE_aload_n lk113_97 g1 kk) ?_
  refine cR_getI lk113_98 rf_11_39 rfl bl1 ?_
  obtain ⟨σ1, h2, h⟩ := Option.bind_eq_some_iff.mp h
  refine cR_putI lk113_101 rf_11_39 rfl bl0 pf_11_5 rfl h2 ?_
  cases h
  exact cR_end lk113_104 rfl rfl rfl
def k_Page_takeOver_b0  (σ : CS) (l0 : Nat) (l1 : Nat) (l2 : Int32) : Option (CS) :=
  (cputZ σ 11 l0 0 (cI σ 11 l1 0 0)).bind fun σ3 =>
  (some (csI σ3 11 l0 1 0 (cI σ3 11 l1 1 0))).bind fun σ5 =>
  (some (csI σ5 11 l0 2 0 (cI σ5 11 l1 2 0))).bind fun σ7 =>
  (some (csI σ7 11 l0 3 0 (cI σ7 11 l1 3 0))).bind fun σ9 =>
  (some (csI σ9 11 l0 4 0 (cI σ9 11 l1 4 0))).bind fun σ11 =>
  (k_Page_makeRoom σ11 l0 (cI σ11 11 l1 5 0)).bind fun p13 =>
  if xc0 .le ((cI p13 11 l1 5 0) - l2) = true then (
    k_Page_takeOver_b96  p13 l0 l1
  ) else (
    (ccpy p13 11 l1 6 (l2 * ((6 : Int32))) 11 l0 6 (l2 * ((6 : Int32))) (((cI p13 11 l1 5 0) - l2) * ((6 : Int32)))).bind fun σ24 =>
    (ccpy σ24 11 l1 7 l2 11 l0 7 l2 ((cI p13 11 l1 5 0) - l2)).bind fun σ26 =>
    k_Page_takeOver_b96  σ26 l0 l1
  )
set_option maxRecDepth 4000 in
theorem k_Page_takeOver_b0_ok {E : CE} {pF : Nat → List Value → xH → Option (Option Value × xH)} (hp0 : xNPc pF) (hL : lcAll E pF) (hF : lcF pF) {d : Nat}   : ∀ (g : CG) (lv : xL) (σ : CS) (l0 : Nat) (l1 : Nat) (l2 : Int32), (cob σ 11 l0) → (cob σ 11 l1) → (xg lv 0 = some (.ref (coa E 11 l0))) → (xg lv 1 = some (.ref (coa E 11 l1))) → (xg lv 2 = some (.int l2)) → ∀ res, k_Page_takeOver_b0  σ l0 l1 l2 = some res → cR E (cQx [11]) pF (d + 2) kT113 11 4 none none res g σ (0, lv, []) := by
  intro g lv σ l0 l1 l2 bl0 bl1 g0 g1 g2 res h
  unfold k_Page_takeOver_b0 at h
  refine cR_lift (fun _ _ kk => eE_aload_n lk113_0 g0 kk) ?_
  refine cR_lift (fun _ _ kk => eE_aload_n lk113_1 g1 kk) ?_
  refine cR_getI lk113_2 rf_11_22 rfl bl1 ?_
  obtain ⟨σ3, h4, h⟩ := Option.bind_eq_some_iff.mp h
  refine cR_putZ lk113_5 rf_11_22 rfl bl0 pf_11_0 h4 ?_
  refine cR_lift (fun _ _ kk => eE_aload_n lk113_8 g0 kk) ?_
  refine cR_lift (fun _ _ kk => eE_aload_n lk113_9 g1 kk) ?_
  refine cR_getI lk113_10 rf_11_26 rfl (cob_any rfl bl1) ?_
  obtain ⟨σ5, h6, h⟩ := Option.bind_eq_some_iff.mp h
  refine cR_putI lk113_13 rf_11_26 rfl (cob_any rfl bl0) pf_11_1 rfl h6 ?_
  refine cR_lift (fun _ _ kk => eE_aload_n lk113_16 g0 kk) ?_
  refine cR_lift (fun _ _ kk => eE_aload_n lk113_17 g1 kk) ?_
  refine cR_getI lk113_18 rf_11_30 rfl (cob_any rfl bl1) ?_
  obtain ⟨σ7, h8, h⟩ := Option.bind_eq_some_iff.mp h
  refine cR_putI lk113_21 rf_11_30 rfl (cob_any rfl bl0) pf_11_2 rfl h8 ?_
  refine cR_lift (fun _ _ kk => eE_aload_n lk113_24 g0 kk) ?_
  refine cR_lift (fun _ _ kk => eE_aload_n lk113_25 g1 kk) ?_
  refine cR_getI lk113_26 rf_11_33 rfl (cob_any rfl bl1) ?_
  obtain ⟨σ9, h10, h⟩ := Option.bind_eq_some_iff.mp h
  refine cR_putI lk113_29 rf_11_33 rfl (cob_any rfl bl0) pf_11_3 rfl h10 ?_
  refine cR_lift (fun _ _ kk => eE_aload_n lk113_32 g0 kk) ?_
  refine cR_lift (fun _ _ kk => eE_aload_n lk113_33 g1 kk) ?_
  refine cR_getI lk113_34 rf_11_36 rfl (cob_any rfl bl1) ?_
  obtain ⟨σ11, h12, h⟩ := Option.bind_eq_some_iff.mp h
  refine cR_putI lk113_37 rf_11_36 rfl (cob_any rfl bl0) pf_11_4 rfl h12 ?_
  refine cR_lift (fun _ _ kk => eE_aload_n lk113_40 g0 kk) ?_
  refine cR_lift (fun _ _ kk => eE_aload_n lk113_41 g1 kk) ?_
  refine cR_getI lk113_42 rf_11_39 rfl (cob_any rfl bl1) ?_
  obtain ⟨p13, h14, h⟩ := Option.bind_eq_some_iff.mp h
  refine cR_virtG (by exact cQx_sub rfl) (cl := 11) (i := l0) (as := [.int (cI σ11 11 l1 5 0)]) lk113_45 mr_11_45 na_110 rfl rfl (by first | exact Nat.le_of_ble_eq_true rfl | (simp [xcat, cvo_cat, cat_i, cat_j, cat_r]; done)) wv_110 wc_110 (cob_any rfl bl0) (k_Page_makeRoom_ok hp0 hL hF (d := d + 0) (cob_any rfl bl0) h14) (fun m15 g_16 g_16e => ?_)
  refine cR_lift (fun _ _ kk => eE_aload_n lk113_48 g1 kk) ?_
  refine cR_getI lk113_49 rf_11_39 rfl (cob_any rfl bl1) ?_
  refine cR_lift (fun _ _ kk => eE_iload_n lk113_52 g2 kk) ?_
  refine cR_lift (fun _ _ kk => eE_isub lk113_53 kk) ?_
  refine cR_stI (j := 3) lk113_54 (Or.inr ⟨_, rfl, rfl⟩) (by decide) (fun vq17 gq18 kq19 => ?_)
  have gq20 := kq19 0 _ (by decide) (fun e => absurd e (by decide)) g0
  have gq21 := kq19 1 _ (by decide) (fun e => absurd e (by decide)) g1
  have gq22 := kq19 2 _ (by decide) (fun _ => rfl) g2
  refine cR_lift (fun _ _ kk => eE_iload_n lk113_55 gq18 kk) ?_
  refine cR_if (t := 96) lk113_56 (by decide) (fun c23 => ?_) (fun c23 => ?_)
  · rw [if_pos c23] at h
    exact k_Page_takeOver_b96_ok hp0 hL hF  g_16 vq17 p13 l0 l1 (cob_any rfl bl0) (cob_any rfl bl1) gq20 gq21 _ h
  · rw [if_neg c23] at h
    refine cR_lift (fun _ _ kk => eE_aload_n lk113_59 gq21 kk) ?_
    refine cR_getA lk113_60 rf_11_9 (by decide) (cob_any rfl bl1) ?_
    refine cR_lift (fun _ _ kk => eE_iload_n lk113_63 gq22 kk) ?_
    refine cR_lift (fun _ _ kk => eE_bipush (v := 6) lk113_64 (by decide) kk) ?_
    refine cR_lift (fun _ _ kk => eE_imul lk113_66 kk) ?_
    refine cR_lift (fun _ _ kk => eE_aload_n lk113_67 gq20 kk) ?_
    refine cR_getA lk113_68 rf_11_9 (by decide) (cob_any rfl bl0) ?_
    refine cR_lift (fun _ _ kk => eE_iload_n lk113_71 gq22 kk) ?_
    refine cR_lift (fun _ _ kk => eE_bipush (v := 6) lk113_72 (by decide) kk) ?_
    refine cR_lift (fun _ _ kk => eE_imul lk113_74 kk) ?_
    refine cR_lift (fun _ _ kk => eE_iload_n lk113_75 gq18 kk) ?_
    refine cR_lift (fun _ _ kk => eE_bipush (v := 6) lk113_76 (by decide) kk) ?_
    refine cR_lift (fun _ _ kk => eE_imul lk113_78 kk) ?_
    obtain ⟨σ24, h25, h⟩ := Option.bind_eq_some_iff.mp h
    refine cR_cpy (a := 11) (i := l1) (f := 6) (a' := 11) (i' := l0) (f' := 6) lk113_79 yc_11_49.1 yc_11_49.2 (by decide) (by decide) (by decide) (cob_any rfl bl1) (cob_any rfl bl0) (by first | exact Nat.le_of_ble_eq_true rfl | (simp [xcat, cvo_cat, cat_i, cat_j, cat_r]; done)) h25 ?_
    refine cR_lift (fun _ _ kk => eE_aload_n lk113_82 gq21 kk) ?_
    refine cR_getA lk113_83 rf_11_15 (by decide) (cob_any rfl bl1) ?_
    refine cR_lift (fun _ _ kk => eE_iload_n lk113_86 gq22 kk) ?_
    refine cR_lift (fun _ _ kk => eE_aload_n lk113_87 gq20 kk) ?_
    refine cR_getA lk113_88 rf_11_15 (by decide) (cob_any rfl bl0) ?_
    refine cR_lift (fun _ _ kk => eE_iload_n lk113_91 gq22 kk) ?_
    refine cR_lift (fun _ _ kk => eE_iload_n lk113_92 gq18 kk) ?_
    obtain ⟨σ26, h27, h⟩ := Option.bind_eq_some_iff.mp h
    refine cR_cpy (a := 11) (i := l1) (f := 7) (a' := 11) (i' := l0) (f' := 7) lk113_93 yc_11_49.1 yc_11_49.2 (by decide) (by decide) (by decide) (cob_any rfl bl1) (cob_any rfl bl0) (by first | exact Nat.le_of_ble_eq_true rfl | (simp [xcat, cvo_cat, cat_i, cat_j, cat_r]; done)) h27 ?_
    exact k_Page_takeOver_b96_ok hp0 hL hF  g_16 vq17 σ26 l0 l1 (cob_any rfl bl0) (cob_any rfl bl1) gq20 gq21 _ h
def k_Page_takeOver (σ : CS) (l0 : Nat) (l1 : Nat) (l2 : Int32) : Option (CS) := k_Page_takeOver_b0 σ l0 l1 l2
theorem k_Page_takeOver_ok {E : CE} {pF : Nat → List Value → xH → Option (Option Value × xH)} (hp0 : xNPc pF) (hL : lcAll E pF) (hF : lcF pF) {d : Nat} {g : CG} {σ : CS} {l0 : Nat} {l1 : Nat} {l2 : Int32} {res : CS} (bl0 : cob σ 11 l0) (bl1 : cob σ 11 l1) (h : k_Page_takeOver σ l0 l1 l2 = some res) : cCo E (cQx [11]) pF (d + 3) 113 [.ref (coa E 11 l0), .ref (coa E 11 l1), .int l2] none res g σ :=
  cCo_R kk_113 mo_113 ni_113 xm_113 (Nat.le_of_ble_eq_true rfl) (hp0 113 (by decide) _) (k_Page_takeOver_b0_ok hp0 hL hF g _ σ l0 l1 l2 bl0 bl1 rfl rfl rfl _ h)
