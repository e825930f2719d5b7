/-! printed by wip/whole/gen_cls.py -/
/-! k_Server_takeAppended (169), depth 3 -/
def k_Server_takeAppended_b179  (σ : CS) : Option (CS) :=
  some σ
set_option maxRecDepth 4000 in
theorem k_Server_takeAppended_b179_ok {E : CE} {pF : Nat → List Value → xH → Option (Option Value × xH)} (hp0 : xNPc pF) (hL : lcAll E pF) (hF : lcF pF) {d : Nat}   : ∀ (g : CG) (lv : xL) (σ : CS), ∀ res, k_Server_takeAppended_b179  σ = some res → cR E cQ1 pF (d + 2) kT169 13 4 none none res g σ (179, lv, []) := by
  intro g lv σ res h
  unfold k_Server_takeAppended_b179 at h
  cases h
  exact cR_end lk169_179 rfl rfl rfl
def k_Server_takeAppended_b0  (σ : CS) (l0 : Nat) (l1 : Nat) : Option (CS) :=
  (k_Server_hears σ l0 l1).bind fun p1 =>
  if xc0 .ne p1.1 = true then (
    if xc2 .ne (cI p1.2 8 l1 6 0) ((1 : Int32)) = true then (
      (cwr p1.2 7 l0 2 (cI p1.2 8 l1 2 0) ((0 : Int32))).bind fun σ11 =>
      (cwr σ11 7 l0 6 (cI p1.2 8 l1 2 0) (((1 : Int32)) &&& 1)).bind fun σ13 =>
      (crd σ13 7 l0 1 (cI p1.2 8 l1 2 0)).bind fun x15 =>
      (cwr σ13 7 l0 0 (cI p1.2 8 l1 2 0) (cmin (cmax (cI σ13 8 l1 7 0) (x15 + ((1 : Int32)))) ((cI σ13 9 l0 6 0) + ((1 : Int32))))).bind fun σ17 =>
      k_Server_takeAppended_b179  σ17
    ) else (
      (crd p1.2 7 l0 1 (cI p1.2 8 l1 2 0)).bind fun x24 =>
      (cwr p1.2 7 l0 1 (cI p1.2 8 l1 2 0) (cmax x24 (cmin (cI p1.2 8 l1 7 0) (cI p1.2 9 l0 6 0)))).bind fun σ26 =>
      (cwr σ26 7 l0 6 (cI p1.2 8 l1 2 0) (((0 : Int32)) &&& 1)).bind fun σ28 =>
      (crd σ28 7 l0 2 (cI p1.2 8 l1 2 0)).bind fun x30 =>
      (cwr σ28 7 l0 2 (cI p1.2 8 l1 2 0) (cmax ((0 : Int32)) (x30 - ((1 : Int32))))).bind fun σ32 =>
      (crd σ32 7 l0 0 (cI p1.2 8 l1 2 0)).bind fun x34 =>
      (cwr σ32 7 l0 0 (cI p1.2 8 l1 2 0) (cmax x34 ((cmin (cI p1.2 8 l1 7 0) (cI p1.2 9 l0 6 0)) + ((1 : Int32))))).bind fun σ36 =>
      k_Server_takeAppended_b179  σ36
    )
  ) else (
    some p1.2
  )
set_option maxRecDepth 4000 in
theorem k_Server_takeAppended_b0_ok {E : CE} {pF : Nat → List Value → xH → Option (Option Value × xH)} (hp0 : xNPc pF) (hL : lcAll E pF) (hF : lcF pF) {d : Nat}   : ∀ (g : CG) (lv : xL) (σ : CS) (l0 : Nat) (l1 : Nat), (cob σ 13 l0) → (cob σ 8 l1) → (xg lv 0 = some (.ref (coa E 13 l0))) → (xg lv 1 = some (.ref (coa E 8 l1))) → ∀ res, k_Server_takeAppended_b0  σ l0 l1 = some res → cR E cQ1 pF (d + 2) kT169 13 4 none none res g σ (0, lv, []) := by
  intro g lv σ l0 l1 bl0 bl1 g0 g1 res h
  unfold k_Server_takeAppended_b0 at h
  refine cR_lift (fun _ _ kk => eE_aload_n lk169_0 g0 kk) ?_
  refine cR_lift (fun _ _ kk => eE_aload_n lk169_1 g1 kk) ?_
  obtain ⟨p1, h2, h⟩ := Option.bind_eq_some_iff.mp h
  refine cR_virt (cl := 13) (i := l0) (as := [.ref (coa E 8 l1)]) lk169_2 mr_13_539 na_138 rfl rfl (by first | exact Nat.le_of_ble_eq_true rfl | (simp [xcat, cvo_cat, cat_i, cat_j, cat_r]; done)) wv_138 wc_138 bl0 (k_Server_hears_ok hp0 hL hF (d := d + 0) bl0 bl1 h2) (fun m3  => ?_)
  refine cR_if (t := 9) lk169_5 (by decide) (fun c4 => ?_) (fun c4 => ?_)
  · rw [if_pos c4] at h
    refine cR_lift (fun _ _ kk => eE_aload_n lk169_9 g1 kk) ?_
    refine cR_getI lk169_10 rf_13_181 rfl (cob_mon m3 bl1) ?_
    refine cR_stI (j := 2) lk169_13 (Or.inr ⟨_, rfl, rfl⟩) (by decide) (fun vq5 gq6 kq7 => ?_)
    have gq8 := kq7 0 _ (by decide) (fun e => absurd e (by decide)) g0
    have gq9 := kq7 1 _ (by decide) (fun _ => rfl) g1
    refine cR_lift (fun _ _ kk => eE_aload_n lk169_14 gq9 kk) ?_
    refine cR_getI lk169_15 rf_13_343 rfl (cob_mon m3 bl1) ?_
    refine cR_lift (fun _ _ kk => eE_iconst (v := 1) lk169_18 (by decide) kk) ?_
    refine cR_icmp (t := 120) lk169_19 (by decide) (fun c10 => ?_) (fun c10 => ?_)
    · rw [if_pos c10] at h
      refine cR_lift (fun _ _ kk => eE_aload_n lk169_120 gq8 kk) ?_
      refine cR_getO (cl' := 7) (i' := l0) lk169_121 rf_13_21 rfl rfl (cob_any rfl bl0) ?_
      refine cR_getA lk169_124 rf_13_383 (by decide) (cob_s (cl := 7) (cob_any rfl bl0) (by decide) rfl rfl) ?_
      refine cR_lift (fun _ _ kk => eE_iload_n lk169_127 gq6 kk) ?_
      refine cR_lift (fun _ _ kk => eE_iconst (v := 0) lk169_128 (by decide) kk) ?_
      obtain ⟨σ11, h12, h⟩ := Option.bind_eq_some_iff.mp h
      refine cR_iast (cl := 7) (i := l0) (f := 2) lk169_129 (by decide) rfl (cob_s (cl := 7) (cob_any rfl bl0) (by decide) rfl rfl) h12 ?_
      refine cR_lift (fun _ _ kk => eE_aload_n lk169_130 gq8 kk) ?_
      refine cR_getO (cl' := 7) (i' := l0) lk169_131 rf_13_21 rfl rfl (cob_any rfl bl0) ?_
      refine cR_getA lk169_134 rf_13_393 (by decide) (cob_s (cl := 7) (cob_any rfl bl0) (by decide) rfl rfl) ?_
      refine cR_lift (fun _ _ kk => eE_iload_n lk169_137 gq6 kk) ?_
      refine cR_lift (fun _ _ kk => eE_iconst (v := 1) lk169_138 (by decide) kk) ?_
      obtain ⟨σ13, h14, h⟩ := Option.bind_eq_some_iff.mp h
      refine cR_zast (cl := 7) (i := l0) (f := 6) lk169_139 (by decide) rfl rfl (cob_s (cl := 7) (cob_any rfl bl0) (by decide) rfl rfl) h14 ?_
      refine cR_lift (fun _ _ kk => eE_aload_n lk169_140 gq8 kk) ?_
      refine cR_getO (cl' := 7) (i' := l0) lk169_141 rf_13_21 rfl rfl (cob_any rfl bl0) ?_
      refine cR_getA lk169_144 rf_13_380 (by decide) (cob_s (cl := 7) (cob_any rfl bl0) (by decide) rfl rfl) ?_
      refine cR_lift (fun _ _ kk => eE_iload_n lk169_147 gq6 kk) ?_
      refine cR_lift (fun _ _ kk => eE_aload_n lk169_148 gq9 kk) ?_
      refine cR_getI lk169_149 rf_13_189 rfl (cob_mon (cwr_mon h14) (cob_mon (cwr_mon h12) (cob_mon m3 bl1))) ?_
      refine cR_lift (fun _ _ kk => eE_aload_n lk169_152 gq8 kk) ?_
      refine cR_getO (cl' := 7) (i' := l0) lk169_153 rf_13_21 rfl rfl (cob_any rfl bl0) ?_
      refine cR_getA lk169_156 rf_13_459 (by decide) (cob_s (cl := 7) (cob_any rfl bl0) (by decide) rfl rfl) ?_
      refine cR_lift (fun _ _ kk => eE_iload_n lk169_159 gq6 kk) ?_
      obtain ⟨x15, h16, h⟩ := Option.bind_eq_some_iff.mp h
      refine cR_iald (cl := 7) (i := l0) (f := 1) lk169_160 (by decide) rfl (cob_s (cl := 7) (cob_any rfl bl0) (by decide) rfl rfl) h16 ?_
      refine cR_lift (fun _ _ kk => eE_iconst (v := 1) lk169_161 (by decide) kk) ?_
      refine cR_lift (fun _ _ kk => eE_iadd lk169_162 kk) ?_
      refine cR_max lk169_163 mr_13_293 (by first | exact Nat.le_of_ble_eq_true rfl | (simp [xcat, cvo_cat, cat_i, cat_j, cat_r]; done)) ?_
      refine cR_lift (fun _ _ kk => eE_aload_n lk169_166 gq8 kk) ?_
      refine cR_getO (cl' := 9) (i' := l0) lk169_167 rf_13_72 rfl rfl (cob_any rfl bl0) ?_
      refine cR_getI lk169_170 rf_13_103 rfl (cob_s (cl := 9) (cob_any rfl bl0) (by decide) rfl rfl) ?_
      refine cR_lift (fun _ _ kk => eE_iconst (v := 1) lk169_173 (by decide) kk) ?_
      refine cR_lift (fun _ _ kk => eE_iadd lk169_174 kk) ?_
      refine cR_min lk169_175 mr_13_397 (by first | exact Nat.le_of_ble_eq_true rfl | (simp [xcat, cvo_cat, cat_i, cat_j, cat_r]; done)) ?_
      obtain ⟨σ17, h18, h⟩ := Option.bind_eq_some_iff.mp h
      refine cR_iast (cl := 7) (i := l0) (f := 0) lk169_178 (by decide) rfl (cob_s (cl := 7) (cob_any rfl bl0) (by decide) rfl rfl) h18 ?_
      exact k_Server_takeAppended_b179_ok hp0 hL hF  g vq5 σ17  _ h
    · rw [if_neg c10] at h
      refine cR_lift (fun _ _ kk => eE_aload_n lk169_22 gq9 kk) ?_
      refine cR_getI lk169_23 rf_13_189 rfl (cob_mon m3 bl1) ?_
      refine cR_lift (fun _ _ kk => eE_aload_n lk169_26 gq8 kk) ?_
      refine cR_getO (cl' := 9) (i' := l0) lk169_27 rf_13_72 rfl rfl (cob_any rfl bl0) ?_
      refine cR_getI lk169_30 rf_13_103 rfl (cob_s (cl := 9) (cob_any rfl bl0) (by decide) rfl rfl) ?_
      refine cR_min lk169_33 mr_13_397 (by first | exact Nat.le_of_ble_eq_true rfl | (simp [xcat, cvo_cat, cat_i, cat_j, cat_r]; done)) ?_
      refine cR_stI (j := 3) lk169_36 (Or.inr ⟨_, rfl, rfl⟩) (by decide) (fun vq19 gq20 kq21 => ?_)
      have gq22 := kq21 0 _ (by decide) (fun e => absurd e (by decide)) gq8
      have gq23 := kq21 2 _ (by decide) (fun _ => rfl) gq6
      refine cR_lift (fun _ _ kk => eE_aload_n lk169_37 gq22 kk) ?_
      refine cR_getO (cl' := 7) (i' := l0) lk169_38 rf_13_21 rfl rfl (cob_any rfl bl0) ?_
      refine cR_getA lk169_41 rf_13_459 (by decide) (cob_s (cl := 7) (cob_any rfl bl0) (by decide) rfl rfl) ?_
      refine cR_lift (fun _ _ kk => eE_iload_n lk169_44 gq23 kk) ?_
      refine cR_lift (fun _ _ kk => eE_aload_n lk169_45 gq22 kk) ?_
      refine cR_getO (cl' := 7) (i' := l0) lk169_46 rf_13_21 rfl rfl (cob_any rfl bl0) ?_
      refine cR_getA lk169_49 rf_13_459 (by decide) (cob_s (cl := 7) (cob_any rfl bl0) (by decide) rfl rfl) ?_
      refine cR_lift (fun _ _ kk => eE_iload_n lk169_52 gq23 kk) ?_
      obtain ⟨x24, h25, h⟩ := Option.bind_eq_some_iff.mp h
      refine cR_iald (cl := 7) (i := l0) (f := 1) lk169_53 (by decide) rfl (cob_s (cl := 7) (cob_any rfl bl0) (by decide) rfl rfl) h25 ?_
      refine cR_lift (fun _ _ kk => eE_iload_n lk169_54 gq20 kk) ?_
      refine cR_max lk169_55 mr_13_293 (by first | exact Nat.le_of_ble_eq_true rfl | (simp [xcat, cvo_cat, cat_i, cat_j, cat_r]; done)) ?_
      obtain ⟨σ26, h27, h⟩ := Option.bind_eq_some_iff.mp h
      refine cR_iast (cl := 7) (i := l0) (f := 1) lk169_58 (by decide) rfl (cob_s (cl := 7) (cob_any rfl bl0) (by decide) rfl rfl) h27 ?_
      refine cR_lift (fun _ _ kk => eE_aload_n lk169_59 gq22 kk) ?_
      refine cR_getO (cl' := 7) (i' := l0) lk169_60 rf_13_21 rfl rfl (cob_any rfl bl0) ?_
      refine cR_getA lk169_63 rf_13_393 (by decide) (cob_s (cl := 7) (cob_any rfl bl0) (by decide) rfl rfl) ?_
      refine cR_lift (fun _ _ kk => eE_iload_n lk169_66 gq23 kk) ?_
      refine cR_lift (fun _ _ kk => eE_iconst (v := 0) lk169_67 (by decide) kk) ?_
      obtain ⟨σ28, h29, h⟩ := Option.bind_eq_some_iff.mp h
      refine cR_zast (cl := 7) (i := l0) (f := 6) lk169_68 (by decide) rfl rfl (cob_s (cl := 7) (cob_any rfl bl0) (by decide) rfl rfl) h29 ?_
      refine cR_lift (fun _ _ kk => eE_aload_n lk169_69 gq22 kk) ?_
      refine cR_getO (cl' := 7) (i' := l0) lk169_70 rf_13_21 rfl rfl (cob_any rfl bl0) ?_
      refine cR_getA lk169_73 rf_13_383 (by decide) (cob_s (cl := 7) (cob_any rfl bl0) (by decide) rfl rfl) ?_
      refine cR_lift (fun _ _ kk => eE_iload_n lk169_76 gq23 kk) ?_
      refine cR_lift (fun _ _ kk => eE_iconst (v := 0) lk169_77 (by decide) kk) ?_
      refine cR_lift (fun _ _ kk => eE_aload_n lk169_78 gq22 kk) ?_
      refine cR_getO (cl' := 7) (i' := l0) lk169_79 rf_13_21 rfl rfl (cob_any rfl bl0) ?_
      refine cR_getA lk169_82 rf_13_383 (by decide) (cob_s (cl := 7) (cob_any rfl bl0) (by decide) rfl rfl) ?_
      refine cR_lift (fun _ _ kk => eE_iload_n lk169_85 gq23 kk) ?_
      obtain ⟨x30, h31, h⟩ := Option.bind_eq_some_iff.mp h
      refine cR_iald (cl := 7) (i := l0) (f := 2) lk169_86 (by decide) rfl (cob_s (cl := 7) (cob_any rfl bl0) (by decide) rfl rfl) h31 ?_
      refine cR_lift (fun _ _ kk => eE_iconst (v := 1) lk169_87 (by decide) kk) ?_
      refine cR_lift (fun _ _ kk => eE_isub lk169_88 kk) ?_
      refine cR_max lk169_89 mr_13_293 (by first | exact Nat.le_of_ble_eq_true rfl | (simp [xcat, cvo_cat, cat_i, cat_j, cat_r]; done)) ?_
      obtain ⟨σ32, h33, h⟩ := Option.bind_eq_some_iff.mp h
      refine cR_iast (cl := 7) (i := l0) (f := 2) lk169_92 (by decide) rfl (cob_s (cl := 7) (cob_any rfl bl0) (by decide) rfl rfl) h33 ?_
      refine cR_lift (fun _ _ kk => eE_aload_n lk169_93 gq22 kk) ?_
      refine cR_getO (cl' := 7) (i' := l0) lk169_94 rf_13_21 rfl rfl (cob_any rfl bl0) ?_
      refine cR_getA lk169_97 rf_13_380 (by decide) (cob_s (cl := 7) (cob_any rfl bl0) (by decide) rfl rfl) ?_
      refine cR_lift (fun _ _ kk => eE_iload_n lk169_100 gq23 kk) ?_
      refine cR_lift (fun _ _ kk => eE_aload_n lk169_101 gq22 kk) ?_
      refine cR_getO (cl' := 7) (i' := l0) lk169_102 rf_13_21 rfl rfl (cob_any rfl bl0) ?_
      refine cR_getA lk169_105 rf_13_380 (by decide) (cob_s (cl := 7) (cob_any rfl bl0) (by decide) rfl rfl) ?_
      refine cR_lift (fun _ _ kk => eE_iload_n lk169_108 gq23 kk) ?_
      obtain ⟨x34, h35, h⟩ := Option.bind_eq_some_iff.mp h
      refine cR_iald (cl := 7) (i := l0) (f := 0) lk169_109 (by decide) rfl (cob_s (cl := 7) (cob_any rfl bl0) (by decide) rfl rfl) h35 ?_
      refine cR_lift (fun _ _ kk => eE_iload_n lk169_110 gq20 kk) ?_
      refine cR_lift (fun _ _ kk => eE_iconst (v := 1) lk169_111 (by decide) kk) ?_
      refine cR_lift (fun _ _ kk => eE_iadd lk169_112 kk) ?_
      refine cR_max lk169_113 mr_13_293 (by first | exact Nat.le_of_ble_eq_true rfl | (simp [xcat, cvo_cat, cat_i, cat_j, cat_r]; done)) ?_
      obtain ⟨σ36, h37, h⟩ := Option.bind_eq_some_iff.mp h
      refine cR_iast (cl := 7) (i := l0) (f := 0) lk169_116 (by decide) rfl (cob_s (cl := 7) (cob_any rfl bl0) (by decide) rfl rfl) h37 ?_
      refine cR_lift (fun _ _ kk => eE_goto (t := 179) lk169_117 (by decide) kk) ?_
      exact k_Server_takeAppended_b179_ok hp0 hL hF  g vq19 σ36  _ h
  · rw [if_neg c4] at h
    cases h
    exact cR_end lk169_8 rfl rfl rfl
def k_Server_takeAppended (σ : CS) (l0 : Nat) (l1 : Nat) : Option (CS) := k_Server_takeAppended_b0 σ l0 l1
theorem k_Server_takeAppended_ok {E : CE} {pF : Nat → List Value → xH → Option (Option Value × xH)} (hp0 : xNPc pF) (hL : lcAll E pF) (hF : lcF pF) {d : Nat} {g : CG} {σ : CS} {l0 : Nat} {l1 : Nat} {res : CS} (bl0 : cob σ 13 l0) (bl1 : cob σ 8 l1) (h : k_Server_takeAppended σ l0 l1 = some res) : cCo E cQ1 pF (d + 3) 169 [.ref (coa E 13 l0), .ref (coa E 8 l1)] none res g σ :=
  cCo_R kk_169 mo_169 ni_169 xm_169 (Nat.le_of_ble_eq_true rfl) (hp0 169 (by decide) _) (k_Server_takeAppended_b0_ok hp0 hL hF g _ σ l0 l1 bl0 bl1 rfl rfl _ h)
/-! k_Page_add_8_18 (105), depth 3 -/
def k_Page_add_8_18_b0  (σ : CS) (l0 : Nat) (l1 : Nat) (l2 : Int32) : Option (CS) :=
  (k_Page_makeRoom σ l0 ((cI σ 11 l0 5 0) + ((1 : Int32)))).bind fun p1 =>
  (ccpy p1 8 l1 18 l2 11 l0 6 ((cI p1 11 l0 5 0) * ((6 : Int32))) ((6 : Int32))).bind fun σ5 =>
  (crd σ5 8 l1 18 (l2 + ((2 : Int32)))).bind fun x7 =>
  (some (csI σ5 11 l0 1 0 ((cI σ5 11 l0 1 0) + (((25 : Int32)) + x7)))).bind fun σ9 =>
  (cwr σ9 11 l0 7 (cI σ9 11 l0 5 0) (cI σ9 11 l0 1 0)).bind fun σ11 =>
  (some (csI σ11 11 l0 5 0 ((cI σ11 11 l0 5 0) + ((1 : Int32))))).bind fun σ13 =>
  some σ13
set_option maxRecDepth 4000 in
theorem k_Page_add_8_18_b0_ok {E : CE} {pF : Nat → List Value → xH → Option (Option Value × xH)} (hp0 : xNPc pF) (hL : lcAll E pF) (hF : lcF pF) {d : Nat}   : ∀ (g : CG) (lv : xL) (σ : CS) (l0 : Nat) (l1 : Nat) (l2 : Int32), (cob σ 11 l0) → (cob σ 8 l1) → (xg lv 0 = some (.ref (coa E 11 l0))) → (xg lv 1 = some (.ref (caa E 8 l1 18))) → (xg lv 2 = some (.int l2)) → ∀ res, k_Page_add_8_18_b0  σ l0 l1 l2 = some res → cR E (cQx [11]) pF (d + 2) kT105 11 3 none none res g σ (0, lv, []) := by
  intro g lv σ l0 l1 l2 bl0 bl1 g0 g1 g2 res h
  unfold k_Page_add_8_18_b0 at h
  refine cR_lift (fun _ _ kk => eE_aload_n lk105_0 g0 kk) ?_
  refine cR_lift (fun _ _ kk => eE_aload_n lk105_1 g0 kk) ?_
  refine cR_getI lk105_2 rf_11_39 rfl bl0 ?_
  refine cR_lift (fun _ _ kk => eE_iconst (v := 1) lk105_5 (by decide) kk) ?_
  refine cR_lift (fun _ _ kk => eE_iadd lk105_6 kk) ?_
  obtain ⟨p1, h2, h⟩ := Option.bind_eq_some_iff.mp h
  refine cR_virtG (by exact cQx_sub rfl) (cl := 11) (i := l0) (as := [.int ((cI σ 11 l0 5 0) + ((1 : Int32)))]) lk105_7 mr_11_45 na_110 rfl rfl (by first | exact Nat.le_of_ble_eq_true rfl | (simp [xcat, cvo_cat, cat_i, cat_j, cat_r]; done)) wv_110 wc_110 bl0 (k_Page_makeRoom_ok hp0 hL hF (d := d + 0) bl0 h2) (fun m3 g_4 g_4e => ?_)
  refine cR_lift (fun _ _ kk => eE_aload_n lk105_10 g1 kk) ?_
  refine cR_lift (fun _ _ kk => eE_iload_n lk105_11 g2 kk) ?_
  refine cR_lift (fun _ _ kk => eE_aload_n lk105_12 g0 kk) ?_
  refine cR_getA lk105_13 rf_11_9 (by decide) (cob_any rfl bl0) ?_
  refine cR_lift (fun _ _ kk => eE_aload_n lk105_16 g0 kk) ?_
  refine cR_getI lk105_17 rf_11_39 rfl (cob_any rfl bl0) ?_
  refine cR_lift (fun _ _ kk => eE_bipush (v := 6) lk105_20 (by decide) kk) ?_
  refine cR_lift (fun _ _ kk => eE_imul lk105_22 kk) ?_
  refine cR_lift (fun _ _ kk => eE_bipush (v := 6) lk105_23 (by decide) kk) ?_
  obtain ⟨σ5, h6, h⟩ := Option.bind_eq_some_iff.mp h
  refine cR_cpy (a := 8) (i := l1) (f := 18) (a' := 11) (i' := l0) (f' := 6) lk105_25 yc_11_49.1 yc_11_49.2 (by decide) (by decide) (by decide) (cob_mon m3 bl1) (cob_any rfl bl0) (by first | exact Nat.le_of_ble_eq_true rfl | (simp [xcat, cvo_cat, cat_i, cat_j, cat_r]; done)) h6 ?_
  refine cR_lift (fun _ _ kk => eE_aload_n lk105_28 g0 kk) ?_
  refine cR_lift (fun _ _ kk => eE_dup lk105_29 rfl kk) ?_
  refine cR_getI lk105_30 rf_11_26 rfl (cob_any rfl bl0) ?_
  refine cR_lift (fun _ _ kk => eE_bipush (v := 25) lk105_33 (by decide) kk) ?_
  refine cR_lift (fun _ _ kk => eE_aload_n lk105_35 g1 kk) ?_
  refine cR_lift (fun _ _ kk => eE_iload_n lk105_36 g2 kk) ?_
  refine cR_lift (fun _ _ kk => eE_iconst (v := 2) lk105_37 (by decide) kk) ?_
  refine cR_lift (fun _ _ kk => eE_iadd lk105_38 kk) ?_
  obtain ⟨x7, h8, h⟩ := Option.bind_eq_some_iff.mp h
  refine cR_iald (cl := 8) (i := l1) (f := 18) lk105_39 (by decide) rfl (cob_mon (ccpy_mon h6) (cob_mon m3 bl1)) h8 ?_
  refine cR_lift (fun _ _ kk => eE_iadd lk105_40 kk) ?_
  refine cR_lift (fun _ _ kk => eE_iadd lk105_41 kk) ?_
  obtain ⟨σ9, h10, h⟩ := Option.bind_eq_some_iff.mp h
  refine cR_putI lk105_42 rf_11_26 rfl (cob_any rfl bl0) pf_11_1 rfl h10 ?_
  refine cR_lift (fun _ _ kk => eE_aload_n lk105_45 g0 kk) ?_
  refine cR_getA lk105_46 rf_11_15 (by decide) (cob_any rfl bl0) ?_
  refine cR_lift (fun _ _ kk => eE_aload_n lk105_49 g0 kk) ?_
  refine cR_getI lk105_50 rf_11_39 rfl (cob_any rfl bl0) ?_
  refine cR_lift (fun _ _ kk => eE_aload_n lk105_53 g0 kk) ?_
  refine cR_getI lk105_54 rf_11_26 rfl (cob_any rfl bl0) ?_
  obtain ⟨σ11, h12, h⟩ := Option.bind_eq_some_iff.mp h
  refine cR_iast (cl := 11) (i := l0) (f := 7) lk105_57 (by decide) rfl (cob_any rfl bl0) h12 ?_
  refine cR_lift (fun _ _ kk => eE_aload_n lk105_58 g0 kk) ?_
  refine cR_lift (fun _ _ kk => eE_dup lk105_59 rfl kk) ?_
  refine cR_getI lk105_60 rf_11_39 rfl (cob_any rfl bl0) ?_
  refine cR_lift (fun _ _ kk => eE_iconst (v := 1) lk105_63 (by decide) kk) ?_
  refine cR_lift (fun _ _ kk => eE_iadd lk105_64 kk) ?_
  obtain ⟨σ13, h14, h⟩ := Option.bind_eq_some_iff.mp h
  refine cR_putI lk105_65 rf_11_39 rfl (cob_any rfl bl0) pf_11_5 rfl h14 ?_
  cases h
  exact cR_end lk105_68 rfl rfl rfl
def k_Page_add_8_18 (σ : CS) (l0 : Nat) (l1 : Nat) (l2 : Int32) : Option (CS) := k_Page_add_8_18_b0 σ l0 l1 l2
theorem k_Page_add_8_18_ok {E : CE} {pF : Nat → List Value → xH → Option (Option Value × xH)} (hp0 : xNPc pF) (hL : lcAll E pF) (hF : lcF pF) {d : Nat} {g : CG} {σ : CS} {l0 : Nat} {l1 : Nat} {l2 : Int32} {res : CS} (bl0 : cob σ 11 l0) (bl1 : cob σ 8 l1) (h : k_Page_add_8_18 σ l0 l1 l2 = some res) : cCo E (cQx [11]) pF (d + 3) 105 [.ref (coa E 11 l0), .ref (caa E 8 l1 18), .int l2] none res g σ :=
  cCo_R kk_105 mo_105 ni_105 xm_105 (Nat.le_of_ble_eq_true rfl) (hp0 105 (by decide) _) (k_Page_add_8_18_b0_ok hp0 hL hF g _ σ l0 l1 l2 bl0 bl1 rfl rfl rfl _ h)
/-! k_Disk_append_8_18 (32), depth 4 -/
def k_Disk_append_8_18_b67 (F : Nat)  (σ : CS) : Option (CS) :=
  some σ
set_option maxRecDepth 4000 in
theorem k_Disk_append_8_18_b67_ok {E : CE} {pF : Nat → List Value → xH → Option (Option Value × xH)} (hp0 : xNPc pF) (hL : lcAll E pF) (hF : lcF pF) {d : Nat} {F : Nat}   : ∀ (g : CG) (lv : xL) (σ : CS), ∀ res, k_Disk_append_8_18_b67 F  σ = some res → cR E (cQx [11]) pF (d + 3) kT32 6 5 none none res g σ (67, lv, []) := by
  intro g lv σ res h
  unfold k_Disk_append_8_18_b67 at h
  cases h
  exact cR_end lk32_67 rfl rfl rfl
def k_Disk_append_8_18_b39 (F : Nat)  (σ : CS) (l0 : Nat) (l1 : Nat) (l2 : Int32) : Option (CS) :=
  if xc0 .le (cI σ 6 l0 5 0) = true then (
    k_Disk_append_8_18_b67 F  σ
  ) else (
    (crd σ 6 l0 4 ((cI σ 6 l0 5 0) - ((1 : Int32)))).bind fun x2 =>
    (cix 6 0 x2).bind fun n4 =>
    (k_Page_add_8_18 σ (30 * l0 + cpg n4) l1 l2).bind fun p6 =>
    k_Disk_append_8_18_b67 F  p6
  )
set_option maxRecDepth 4000 in
theorem k_Disk_append_8_18_b39_ok {E : CE} {pF : Nat → List Value → xH → Option (Option Value × xH)} (hp0 : xNPc pF) (hL : lcAll E pF) (hF : lcF pF) {d : Nat} {F : Nat}   : ∀ (g : CG) (lv : xL) (σ : CS) (l0 : Nat) (l1 : Nat) (l2 : Int32), (cob σ 6 l0) → (cob σ 8 l1) → (xg lv 0 = some (.ref (coa E 6 l0))) → (xg lv 1 = some (.ref (caa E 8 l1 18))) → (xg lv 2 = some (.int l2)) → ∀ res, k_Disk_append_8_18_b39 F  σ l0 l1 l2 = some res → cR E (cQx [11]) pF (d + 3) kT32 6 5 none none res g σ (39, lv, []) := by
  intro g lv σ l0 l1 l2 bl0 bl1 g0 g1 g2 res h
  unfold k_Disk_append_8_18_b39 at h
  refine cR_lift (fun _ _ kk => eE_aload_n lk32_39 g0 kk) ?_
  refine cR_getI lk32_40 rf_6_72 rfl bl0 ?_
  refine cR_if (t := 67) lk32_43 (by decide) (fun c1 => ?_) (fun c1 => ?_)
  · rw [if_pos c1] at h
    exact k_Disk_append_8_18_b67_ok hp0 hL hF  g lv σ  _ h
  · rw [if_neg c1] at h
    refine cR_lift (fun _ _ kk => eE_aload_n lk32_46 g0 kk) ?_
    refine cR_getA lk32_47 rf_6_11 (by decide) bl0 ?_
    refine cR_lift (fun _ _ kk => eE_aload_n lk32_50 g0 kk) ?_
    refine cR_getA lk32_51 rf_6_27 (by decide) bl0 ?_
    refine cR_lift (fun _ _ kk => eE_aload_n lk32_54 g0 kk) ?_
    refine cR_getI lk32_55 rf_6_72 rfl bl0 ?_
    refine cR_lift (fun _ _ kk => eE_iconst (v := 1) lk32_58 (by decide) kk) ?_
    refine cR_lift (fun _ _ kk => eE_isub lk32_59 kk) ?_
    obtain ⟨x2, h3, h⟩ := Option.bind_eq_some_iff.mp h
    refine cR_iald (cl := 6) (i := l0) (f := 4) lk32_60 (by decide) rfl bl0 h3 ?_
    obtain ⟨n4, h5, h⟩ := Option.bind_eq_some_iff.mp h
    refine cR_aald (cl := 6) (i := l0) (f := 0) (cl' := 11) (i' := 30 * l0 + cpg n4) lk32_61 rfl (by decide) bl0 h5 rfl ?_
    refine cR_lift (fun _ _ kk => eE_aload_n lk32_62 g1 kk) ?_
    refine cR_lift (fun _ _ kk => eE_iload_n lk32_63 g2 kk) ?_
    obtain ⟨p6, h7, h⟩ := Option.bind_eq_some_iff.mp h
    refine cR_virtG (by exact cQx_sub rfl) (cl := 11) (i := 30 * l0 + cpg n4) (as := [.ref (caa E 8 l1 18), .int l2]) lk32_64 mr_6_79 na_105 rfl rfl (by first | exact Nat.le_of_ble_eq_true rfl | (simp [xcat, cvo_cat, cat_i, cat_j, cat_r]; done)) wv_105 wc_105 (cob_pg (c := σ) bl0 (cix_lt h5)).1 (k_Page_add_8_18_ok hp0 hL hF (d := d + 0) (cob_pg (c := σ) bl0 (cix_lt h5)).1 bl1 h7) (fun m8 g_9 g_9e => ?_)
    exact k_Disk_append_8_18_b67_ok hp0 hL hF  g_9 lv p6  _ h
def k_Disk_append_8_18_b32 (F : Nat)  (σ : CS) (l0 : Nat) (l1 : Nat) (l2 : Int32) (l3 : Int32) (l4 : Int32) : Option (CS) :=
  (k_Disk_openSegment F σ l0 l3 l4).bind fun p10 =>
  k_Disk_append_8_18_b39 F  p10 l0 l1 l2
set_option maxRecDepth 4000 in
theorem k_Disk_append_8_18_b32_ok {E : CE} {pF : Nat → List Value → xH → Option (Option Value × xH)} (hp0 : xNPc pF) (hL : lcAll E pF) (hF : lcF pF) {d : Nat} {F : Nat}   : ∀ (g : CG) (lv : xL) (σ : CS) (l0 : Nat) (l1 : Nat) (l2 : Int32) (l3 : Int32) (l4 : Int32), (cob σ 6 l0) → (cob σ 8 l1) → (xg lv 0 = some (.ref (coa E 6 l0))) → (xg lv 1 = some (.ref (caa E 8 l1 18))) → (xg lv 2 = some (.int l2)) → (xg lv 3 = some (.int l3)) → (xg lv 4 = some (.int l4)) → ∀ res, k_Disk_append_8_18_b32 F  σ l0 l1 l2 l3 l4 = some res → cR E (cQx [11]) pF (d + 3) kT32 6 5 none none res g σ (32, lv, []) := by
  intro g lv σ l0 l1 l2 l3 l4 bl0 bl1 g0 g1 g2 g3 g4 res h
  unfold k_Disk_append_8_18_b32 at h
  refine cR_lift (fun _ _ kk => eE_aload_n lk32_32 g0 kk) ?_
  refine cR_lift (fun _ _ kk => eE_iload_n lk32_33 g3 kk) ?_
  refine cR_lift (fun _ _ kk => eE_iload lk32_34 g4 kk) ?_
  obtain ⟨p10, h11, h⟩ := Option.bind_eq_some_iff.mp h
  refine cR_virt (cl := 6) (i := l0) (as := [.int l3, .int l4]) lk32_36 mr_6_75 na_44 rfl rfl (by first | exact Nat.le_of_ble_eq_true rfl | (simp [xcat, cvo_cat, cat_i, cat_j, cat_r]; done)) wv_44 wc_44 bl0 (k_Disk_openSegment_ok hp0 hL hF (d := d + 1) bl0 h11) (fun m12  => ?_)
  exact k_Disk_append_8_18_b39_ok hp0 hL hF  g lv p10 l0 l1 l2 (cob_any rfl bl0) (cob_mon m12 bl1) g0 g1 g2 _ h
def k_Disk_append_8_18_b0 (F : Nat)  (σ : CS) (l0 : Nat) (l1 : Nat) (l2 : Int32) (l3 : Int32) (l4 : Int32) : Option (CS) :=
  if xc0 .eq (cI σ 6 l0 5 0) = true then (
    k_Disk_append_8_18_b32 F  σ l0 l1 l2 l3 l4
  ) else (
    (crd σ 6 l0 4 ((cI σ 6 l0 5 0) - ((1 : Int32)))).bind fun x14 =>
    (cix 6 0 x14).bind fun n16 =>
    if xc2 .le (cI σ 11 (30 * l0 + cpg n16) 1 0) ((8000 : Int32)) = true then (
      k_Disk_append_8_18_b39 F  σ l0 l1 l2
    ) else (
      k_Disk_append_8_18_b32 F  σ l0 l1 l2 l3 l4
    )
  )
set_option maxRecDepth 4000 in
theorem k_Disk_append_8_18_b0_ok {E : CE} {pF : Nat → List Value → xH → Option (Option Value × xH)} (hp0 : xNPc pF) (hL : lcAll E pF) (hF : lcF pF) {d : Nat} {F : Nat}   : ∀ (g : CG) (lv : xL) (σ : CS) (l0 : Nat) (l1 : Nat) (l2 : Int32) (l3 : Int32) (l4 : Int32), (cob σ 6 l0) → (cob σ 8 l1) → (xg lv 0 = some (.ref (coa E 6 l0))) → (xg lv 1 = some (.ref (caa E 8 l1 18))) → (xg lv 2 = some (.int l2)) → (xg lv 3 = some (.int l3)) → (xg lv 4 = some (.int l4)) → ∀ res, k_Disk_append_8_18_b0 F  σ l0 l1 l2 l3 l4 = some res → cR E (cQx [11]) pF (d + 3) kT32 6 5 none none res g σ (0, lv, []) := by
  intro g lv σ l0 l1 l2 l3 l4 bl0 bl1 g0 g1 g2 g3 g4 res h
  unfold k_Disk_append_8_18_b0 at h
  refine cR_lift (fun _ _ kk => eE_aload_n lk32_0 g0 kk) ?_
  refine cR_getI lk32_1 rf_6_72 rfl bl0 ?_
  refine cR_if (t := 32) lk32_4 (by decide) (fun c13 => ?_) (fun c13 => ?_)
  · rw [if_pos c13] at h
    exact k_Disk_append_8_18_b32_ok hp0 hL hF  g lv σ l0 l1 l2 l3 l4 bl0 bl1 g0 g1 g2 g3 g4 _ h
  · rw [if_neg c13] at h
    refine cR_lift (fun _ _ kk => eE_aload_n lk32_7 g0 kk) ?_
    refine cR_getA lk32_8 rf_6_11 (by decide) bl0 ?_
    refine cR_lift (fun _ _ kk => eE_aload_n lk32_11 g0 kk) ?_
    refine cR_getA lk32_12 rf_6_27 (by decide) bl0 ?_
    refine cR_lift (fun _ _ kk => eE_aload_n lk32_15 g0 kk) ?_
    refine cR_getI lk32_16 rf_6_72 rfl bl0 ?_
    refine cR_lift (fun _ _ kk => eE_iconst (v := 1) lk32_19 (by decide) kk) ?_
    refine cR_lift (fun _ _ kk => eE_isub lk32_20 kk) ?_
    obtain ⟨x14, h15, h⟩ := Option.bind_eq_some_iff.mp h
    refine cR_iald (cl := 6) (i := l0) (f := 4) lk32_21 (by decide) rfl bl0 h15 ?_
    obtain ⟨n16, h17, h⟩ := Option.bind_eq_some_iff.mp h
    refine cR_aald (cl := 6) (i := l0) (f := 0) (cl' := 11) (i' := 30 * l0 + cpg n16) lk32_22 rfl (by decide) bl0 h17 rfl ?_
    refine cR_getI lk32_23 rf_6_38 rfl (cob_pg (c := σ) bl0 (cix_lt h17)).1 ?_
    refine cR_lift (fun _ _ kk => eE_sipush (v := 8000) lk32_26 (by decide) kk) ?_
    refine cR_icmp (t := 39) lk32_29 (by decide) (fun c18 => ?_) (fun c18 => ?_)
    · rw [if_pos c18] at h
      exact k_Disk_append_8_18_b39_ok hp0 hL hF  g lv σ l0 l1 l2 bl0 bl1 g0 g1 g2 _ h
    · rw [if_neg c18] at h
      exact k_Disk_append_8_18_b32_ok hp0 hL hF  g lv σ l0 l1 l2 l3 l4 bl0 bl1 g0 g1 g2 g3 g4 _ h
def k_Disk_append_8_18 (F : Nat) (σ : CS) (l0 : Nat) (l1 : Nat) (l2 : Int32) (l3 : Int32) (l4 : Int32) : Option (CS) := k_Disk_append_8_18_b0 F σ l0 l1 l2 l3 l4
theorem k_Disk_append_8_18_ok {E : CE} {pF : Nat → List Value → xH → Option (Option Value × xH)} (hp0 : xNPc pF) (hL : lcAll E pF) (hF : lcF pF) {d : Nat} {g : CG} {σ : CS} {F : Nat} {l0 : Nat} {l1 : Nat} {l2 : Int32} {l3 : Int32} {l4 : Int32} {res : CS} (bl0 : cob σ 6 l0) (bl1 : cob σ 8 l1) (h : k_Disk_append_8_18 F σ l0 l1 l2 l3 l4 = some res) : cCo E (cQx [11]) pF (d + 4) 32 [.ref (coa E 6 l0), .ref (caa E 8 l1 18), .int l2, .int l3, .int l4] none res g σ :=
  cCo_R kk_32 mo_32 ni_32 xm_32 (Nat.le_of_ble_eq_true rfl) (hp0 32 (by decide) _) (k_Disk_append_8_18_b0_ok hp0 hL hF g _ σ l0 l1 l2 l3 l4 bl0 bl1 rfl rfl rfl rfl rfl _ h)
/-! k_Log_add_8_18 (62), depth 2 -/
def k_Log_add_8_18_b65  (σ : CS) : Option (CS) :=
  some σ
set_option maxRecDepth 4000 in
theorem k_Log_add_8_18_b65_ok {E : CE} {pF : Nat → List Value → xH → Option (Option Value × xH)} (hp0 : xNPc pF) (hL : lcAll E pF) (hF : lcF pF) {d : Nat}   : ∀ (g : CG) (lv : xL) (σ : CS), ∀ res, k_Log_add_8_18_b65  σ = some res → cR E cQ1 pF (d + 1) kT62 9 3 none none res g σ (65, lv, []) := by
  intro g lv σ res h
  unfold k_Log_add_8_18_b65 at h
  cases h
  exact cR_end lk62_65 rfl rfl rfl
def k_Log_add_8_18_b0  (σ : CS) (l0 : Nat) (l1 : Nat) (l2 : Int32) : Option (CS) :=
  (k_Log_length σ l0).bind fun p1 =>
  if xc2 .lt p1 ((300 : Int32)) = true then (
    (k_Log_length σ l0).bind fun p5 =>
    (ccpy σ 8 l1 18 l2 9 l0 1 (p5 * ((6 : Int32))) ((6 : Int32))).bind fun σ8 =>
    (some (csI σ8 9 l0 6 0 ((cI σ8 9 l0 6 0) + ((1 : Int32))))).bind fun σ10 =>
    (crd σ10 8 l1 18 (l2 + ((1 : Int32)))).bind fun x12 =>
    if xc2 .ne x12 ((1 : Int32)) = true then (
      k_Log_add_8_18_b65  σ10
    ) else (
      (crd σ10 8 l1 18 (l2 + ((3 : Int32)))).bind fun x15 =>
      (some (csI σ10 9 l0 7 0 x15)).bind fun σ17 =>
      (some (csI σ17 9 l0 8 0 (cI σ17 9 l0 6 0))).bind fun σ19 =>
      k_Log_add_8_18_b65  σ19
    )
  ) else (
    some σ
  )
set_option maxRecDepth 4000 in
theorem k_Log_add_8_18_b0_ok {E : CE} {pF : Nat → List Value → xH → Option (Option Value × xH)} (hp0 : xNPc pF) (hL : lcAll E pF) (hF : lcF pF) {d : Nat}   : ∀ (g : CG) (lv : xL) (σ : CS) (l0 : Nat) (l1 : Nat) (l2 : Int32), (cob σ 9 l0) → (cob σ 8 l1) → (xg lv 0 = some (.ref (coa E 9 l0))) → (xg lv 1 = some (.ref (caa E 8 l1 18))) → (xg lv 2 = some (.int l2)) → ∀ res, k_Log_add_8_18_b0  σ l0 l1 l2 = some res → cR E cQ1 pF (d + 1) kT62 9 3 none none res g σ (0, lv, []) := by
  intro g lv σ l0 l1 l2 bl0 bl1 g0 g1 g2 res h
  unfold k_Log_add_8_18_b0 at h
  refine cR_lift (fun _ _ kk => eE_aload_n lk62_0 g0 kk) ?_
  obtain ⟨p1, h2, h⟩ := Option.bind_eq_some_iff.mp h
  refine cR_virt (cl := 9) (i := l0) (as := []) lk62_1 mr_9_57 na_69 rfl rfl (by first | exact Nat.le_of_ble_eq_true rfl | (simp [xcat, cvo_cat, cat_i, cat_j, cat_r]; done)) wv_69 wc_69 bl0 (k_Log_length_ok hp0 hL hF (d := d + 0) bl0 h2) (fun m3  => ?_)
  refine cR_lift (fun _ _ kk => eE_sipush (v := 300) lk62_4 (by decide) kk) ?_
  refine cR_icmp (t := 11) lk62_7 (by decide) (fun c4 => ?_) (fun c4 => ?_)
  · rw [if_pos c4] at h
    refine cR_lift (fun _ _ kk => eE_aload_n lk62_11 g1 kk) ?_
    refine cR_lift (fun _ _ kk => eE_iload_n lk62_12 g2 kk) ?_
    refine cR_lift (fun _ _ kk => eE_aload_n lk62_13 g0 kk) ?_
    refine cR_getA lk62_14 rf_9_9 (by decide) bl0 ?_
    refine cR_lift (fun _ _ kk => eE_aload_n lk62_17 g0 kk) ?_
    obtain ⟨p5, h6, h⟩ := Option.bind_eq_some_iff.mp h
    refine cR_virt (cl := 9) (i := l0) (as := []) lk62_18 mr_9_57 na_69 rfl rfl (by first | exact Nat.le_of_ble_eq_true rfl | (simp [xcat, cvo_cat, cat_i, cat_j, cat_r]; done)) wv_69 wc_69 bl0 (k_Log_length_ok hp0 hL hF (d := d + 0) bl0 h6) (fun m7  => ?_)
    refine cR_lift (fun _ _ kk => eE_bipush (v := 6) lk62_21 (by decide) kk) ?_
    refine cR_lift (fun _ _ kk => eE_imul lk62_23 kk) ?_
    refine cR_lift (fun _ _ kk => eE_bipush (v := 6) lk62_24 (by decide) kk) ?_
    obtain ⟨σ8, h9, h⟩ := Option.bind_eq_some_iff.mp h
    refine cR_cpy (a := 8) (i := l1) (f := 18) (a' := 9) (i' := l0) (f' := 1) lk62_26 yc_9_61.1 yc_9_61.2 (by decide) (by decide) (by decide) bl1 bl0 (by first | exact Nat.le_of_ble_eq_true rfl | (simp [xcat, cvo_cat, cat_i, cat_j, cat_r]; done)) h9 ?_
    refine cR_lift (fun _ _ kk => eE_aload_n lk62_29 g0 kk) ?_
    refine cR_lift (fun _ _ kk => eE_dup lk62_30 rfl kk) ?_
    refine cR_getI lk62_31 rf_9_34 rfl (cob_any rfl bl0) ?_
    refine cR_lift (fun _ _ kk => eE_iconst (v := 1) lk62_34 (by decide) kk) ?_
    refine cR_lift (fun _ _ kk => eE_iadd lk62_35 kk) ?_
    obtain ⟨σ10, h11, h⟩ := Option.bind_eq_some_iff.mp h
    refine cR_putI lk62_36 rf_9_34 rfl (cob_any rfl bl0) pf_9_6 rfl h11 ?_
    refine cR_lift (fun _ _ kk => eE_aload_n lk62_39 g1 kk) ?_
    refine cR_lift (fun _ _ kk => eE_iload_n lk62_40 g2 kk) ?_
    refine cR_lift (fun _ _ kk => eE_iconst (v := 1) lk62_41 (by decide) kk) ?_
    refine cR_lift (fun _ _ kk => eE_iadd lk62_42 kk) ?_
    obtain ⟨x12, h13, h⟩ := Option.bind_eq_some_iff.mp h
    refine cR_iald (cl := 8) (i := l1) (f := 18) lk62_43 (by decide) rfl (cob_mon (cput_mon h11) (cob_mon (ccpy_mon h9) bl1)) h13 ?_
    refine cR_lift (fun _ _ kk => eE_iconst (v := 1) lk62_44 (by decide) kk) ?_
    refine cR_icmp (t := 65) lk62_45 (by decide) (fun c14 => ?_) (fun c14 => ?_)
    · rw [if_pos c14] at h
      exact k_Log_add_8_18_b65_ok hp0 hL hF  g lv σ10  _ h
    · rw [if_neg c14] at h
      refine cR_lift (fun _ _ kk => eE_aload_n lk62_48 g0 kk) ?_
      refine cR_lift (fun _ _ kk => eE_aload_n lk62_49 g1 kk) ?_
      refine cR_lift (fun _ _ kk => eE_iload_n lk62_50 g2 kk) ?_
      refine cR_lift (fun _ _ kk => eE_iconst (v := 3) lk62_51 (by decide) kk) ?_
      refine cR_lift (fun _ _ kk => eE_iadd lk62_52 kk) ?_
      obtain ⟨x15, h16, h⟩ := Option.bind_eq_some_iff.mp h
      refine cR_iald (cl := 8) (i := l1) (f := 18) lk62_53 (by decide) rfl (cob_mon (cput_mon h11) (cob_mon (ccpy_mon h9) bl1)) h16 ?_
      obtain ⟨σ17, h18, h⟩ := Option.bind_eq_some_iff.mp h
      refine cR_putI lk62_54 rf_9_25 rfl (cob_any rfl bl0) pf_9_7 rfl h18 ?_
      refine cR_lift (fun _ _ kk => eE_aload_n lk62_57 g0 kk) ?_
      refine cR_lift (fun _ _ kk => eE_aload_n lk62_58 g0 kk) ?_
      refine cR_getI lk62_59 rf_9_34 rfl (cob_any rfl bl0) ?_
      obtain ⟨σ19, h20, h⟩ := Option.bind_eq_some_iff.mp h
      refine cR_putI lk62_62 rf_9_67 rfl (cob_any rfl bl0) pf_9_8 rfl h20 ?_
      exact k_Log_add_8_18_b65_ok hp0 hL hF  g lv σ19  _ h
  · rw [if_neg c4] at h
    cases h
    exact cR_end lk62_10 rfl rfl rfl
def k_Log_add_8_18 (σ : CS) (l0 : Nat) (l1 : Nat) (l2 : Int32) : Option (CS) := k_Log_add_8_18_b0 σ l0 l1 l2
theorem k_Log_add_8_18_ok {E : CE} {pF : Nat → List Value → xH → Option (Option Value × xH)} (hp0 : xNPc pF) (hL : lcAll E pF) (hF : lcF pF) {d : Nat} {g : CG} {σ : CS} {l0 : Nat} {l1 : Nat} {l2 : Int32} {res : CS} (bl0 : cob σ 9 l0) (bl1 : cob σ 8 l1) (h : k_Log_add_8_18 σ l0 l1 l2 = some res) : cCo E cQ1 pF (d + 2) 62 [.ref (coa E 9 l0), .ref (caa E 8 l1 18), .int l2] none res g σ :=
  cCo_R kk_62 mo_62 ni_62 xm_62 (Nat.le_of_ble_eq_true rfl) (hp0 62 (by decide) _) (k_Log_add_8_18_b0_ok hp0 hL hF g _ σ l0 l1 l2 bl0 bl1 rfl rfl rfl _ h)
/-! k_Server_append_8_18 (122), depth 5 -/
def k_Server_append_8_18_b58 (F : Nat)  (σ : CS) : Option (CS) :=
  some σ
set_option maxRecDepth 4000 in
theorem k_Server_append_8_18_b58_ok {E : CE} {pF : Nat → List Value → xH → Option (Option Value × xH)} (hp0 : xNPc pF) (hL : lcAll E pF) (hF : lcF pF) {d : Nat} {F : Nat}   : ∀ (g : CG) (lv : xL) (σ : CS), ∀ res, k_Server_append_8_18_b58 F  σ = some res → cR E (cQx [11]) pF (d + 4) kT122 13 3 none none res g σ (58, lv, []) := by
  intro g lv σ res h
  unfold k_Server_append_8_18_b58 at h
  cases h
  exact cR_end lk122_58 rfl rfl rfl
def k_Server_append_8_18_b0 (F : Nat)  (σ : CS) (l0 : Nat) (l1 : Nat) (l2 : Int32) : Option (CS) :=
  (k_Log_length σ l0).bind fun p1 =>
  if xc2 .ge p1 ((300 : Int32)) = true then (
    k_Server_append_8_18_b58 F  σ
  ) else (
    (k_Log_termAt σ l0 (cI σ 9 l0 6 0)).bind fun p5 =>
    (k_Disk_append_8_18 F σ l0 l1 l2 ((cI σ 9 l0 6 0) + ((1 : Int32))) p5).bind fun p8 =>
    (k_Log_add_8_18 p8 l0 l1 l2).bind fun p12 =>
    (k_Server_soil p12 l0).bind fun p15 =>
    k_Server_append_8_18_b58 F  p15
  )
set_option maxRecDepth 4000 in
theorem k_Server_append_8_18_b0_ok {E : CE} {pF : Nat → List Value → xH → Option (Option Value × xH)} (hp0 : xNPc pF) (hL : lcAll E pF) (hF : lcF pF) {d : Nat} {F : Nat}   : ∀ (g : CG) (lv : xL) (σ : CS) (l0 : Nat) (l1 : Nat) (l2 : Int32), (cob σ 13 l0) → (cob σ 8 l1) → (xg lv 0 = some (.ref (coa E 13 l0))) → (xg lv 1 = some (.ref (caa E 8 l1 18))) → (xg lv 2 = some (.int l2)) → ∀ res, k_Server_append_8_18_b0 F  σ l0 l1 l2 = some res → cR E (cQx [11]) pF (d + 4) kT122 13 3 none none res g σ (0, lv, []) := by
  intro g lv σ l0 l1 l2 bl0 bl1 g0 g1 g2 res h
  unfold k_Server_append_8_18_b0 at h
  refine cR_lift (fun _ _ kk => eE_aload_n lk122_0 g0 kk) ?_
  refine cR_getO (cl' := 9) (i' := l0) lk122_1 rf_13_72 rfl rfl bl0 ?_
  obtain ⟨p1, h2, h⟩ := Option.bind_eq_some_iff.mp h
  refine cR_virt (cl := 9) (i := l0) (as := []) lk122_4 mr_13_326 na_69 rfl rfl (by first | exact Nat.le_of_ble_eq_true rfl | (simp [xcat, cvo_cat, cat_i, cat_j, cat_r]; done)) wv_69 wc_69 (cob_s (cl := 9) bl0 (by decide) rfl rfl) (k_Log_length_ok hp0 hL hF (d := d + 3) (cob_s (cl := 9) bl0 (by decide) rfl rfl) h2) (fun m3  => ?_)
  refine cR_lift (fun _ _ kk => eE_sipush (v := 300) lk122_7 (by decide) kk) ?_
  refine cR_icmp (t := 58) lk122_10 (by decide) (fun c4 => ?_) (fun c4 => ?_)
  · rw [if_pos c4] at h
    exact k_Server_append_8_18_b58_ok hp0 hL hF  g lv σ  _ h
  · rw [if_neg c4] at h
    refine cR_lift (fun _ _ kk => eE_aload_n lk122_13 g0 kk) ?_
    refine cR_getO (cl' := 6) (i' := l0) lk122_14 rf_13_12 rfl rfl bl0 ?_
    refine cR_lift (fun _ _ kk => eE_aload_n lk122_17 g1 kk) ?_
    refine cR_lift (fun _ _ kk => eE_iload_n lk122_18 g2 kk) ?_
    refine cR_lift (fun _ _ kk => eE_aload_n lk122_19 g0 kk) ?_
    refine cR_getO (cl' := 9) (i' := l0) lk122_20 rf_13_72 rfl rfl bl0 ?_
    refine cR_getI lk122_23 rf_13_103 rfl (cob_s (cl := 9) bl0 (by decide) rfl rfl) ?_
    refine cR_lift (fun _ _ kk => eE_iconst (v := 1) lk122_26 (by decide) kk) ?_
    refine cR_lift (fun _ _ kk => eE_iadd lk122_27 kk) ?_
    refine cR_lift (fun _ _ kk => eE_aload_n lk122_28 g0 kk) ?_
    refine cR_getO (cl' := 9) (i' := l0) lk122_29 rf_13_72 rfl rfl bl0 ?_
    refine cR_lift (fun _ _ kk => eE_aload_n lk122_32 g0 kk) ?_
    refine cR_getO (cl' := 9) (i' := l0) lk122_33 rf_13_72 rfl rfl bl0 ?_
    refine cR_getI lk122_36 rf_13_103 rfl (cob_s (cl := 9) bl0 (by decide) rfl rfl) ?_
    obtain ⟨p5, h6, h⟩ := Option.bind_eq_some_iff.mp h
    refine cR_virt (cl := 9) (i := l0) (as := [.int (cI σ 9 l0 6 0)]) lk122_39 mr_13_311 na_75 rfl rfl (by first | exact Nat.le_of_ble_eq_true rfl | (simp [xcat, cvo_cat, cat_i, cat_j, cat_r]; done)) wv_75 wc_75 (cob_s (cl := 9) bl0 (by decide) rfl rfl) (k_Log_termAt_ok hp0 hL hF (d := d + 2) (cob_s (cl := 9) bl0 (by decide) rfl rfl) h6) (fun m7  => ?_)
    obtain ⟨p8, h9, h⟩ := Option.bind_eq_some_iff.mp h
    refine cR_virtG (by exact cQx_sub rfl) (cl := 6) (i := l0) (as := [.ref (caa E 8 l1 18), .int l2, .int ((cI σ 9 l0 6 0) + ((1 : Int32))), .int p5]) lk122_42 mr_13_328 na_32 rfl rfl (by first | exact Nat.le_of_ble_eq_true rfl | (simp [xcat, cvo_cat, cat_i, cat_j, cat_r]; done)) wv_32 wc_32 (cob_s (cl := 6) bl0 (by decide) rfl rfl) (k_Disk_append_8_18_ok hp0 hL hF (d := d + 0) (cob_s (cl := 6) bl0 (by decide) rfl rfl) bl1 h9) (fun m10 g_11 g_11e => ?_)
    refine cR_lift (fun _ _ kk => eE_aload_n lk122_45 g0 kk) ?_
    refine cR_getO (cl' := 9) (i' := l0) lk122_46 rf_13_72 rfl rfl (cob_any rfl bl0) ?_
    refine cR_lift (fun _ _ kk => eE_aload_n lk122_49 g1 kk) ?_
    refine cR_lift (fun _ _ kk => eE_iload_n lk122_50 g2 kk) ?_
    obtain ⟨p12, h13, h⟩ := Option.bind_eq_some_iff.mp h
    refine cR_virt (cl := 9) (i := l0) (as := [.ref (caa E 8 l1 18), .int l2]) lk122_51 mr_13_305 na_62 rfl rfl (by first | exact Nat.le_of_ble_eq_true rfl | (simp [xcat, cvo_cat, cat_i, cat_j, cat_r]; done)) wv_62 wc_62 (cob_s (cl := 9) (cob_any rfl bl0) (by decide) rfl rfl) (k_Log_add_8_18_ok hp0 hL hF (d := d + 2) (cob_s (cl := 9) (cob_any rfl bl0) (by decide) rfl rfl) (cob_mon m10 bl1) h13) (fun m14  => ?_)
    refine cR_lift (fun _ _ kk => eE_aload_n lk122_54 g0 kk) ?_
    obtain ⟨p15, h16, h⟩ := Option.bind_eq_some_iff.mp h
    refine cR_virt (cl := 13) (i := l0) (as := []) lk122_55 mr_13_323 na_165 rfl rfl (by first | exact Nat.le_of_ble_eq_true rfl | (simp [xcat, cvo_cat, cat_i, cat_j, cat_r]; done)) wv_165 wc_165 (cob_any rfl bl0) (k_Server_soil_ok hp0 hL hF (d := d + 2) (cob_any rfl bl0) h16) (fun m17  => ?_)
    exact k_Server_append_8_18_b58_ok hp0 hL hF  g_11 lv p15  _ h
def k_Server_append_8_18 (F : Nat) (σ : CS) (l0 : Nat) (l1 : Nat) (l2 : Int32) : Option (CS) := k_Server_append_8_18_b0 F σ l0 l1 l2
theorem k_Server_append_8_18_ok {E : CE} {pF : Nat → List Value → xH → Option (Option Value × xH)} (hp0 : xNPc pF) (hL : lcAll E pF) (hF : lcF pF) {d : Nat} {g : CG} {σ : CS} {F : Nat} {l0 : Nat} {l1 : Nat} {l2 : Int32} {res : CS} (bl0 : cob σ 13 l0) (bl1 : cob σ 8 l1) (h : k_Server_append_8_18 F σ l0 l1 l2 = some res) : cCo E (cQx [11]) pF (d + 5) 122 [.ref (coa E 13 l0), .ref (caa E 8 l1 18), .int l2] none res g σ :=
  cCo_R kk_122 mo_122 ni_122 xm_122 (Nat.le_of_ble_eq_true rfl) (hp0 122 (by decide) _) (k_Server_append_8_18_b0_ok hp0 hL hF g _ σ l0 l1 l2 bl0 bl1 rfl rfl rfl _ h)
/-! k_Server_takeEntries (172), depth 6 -/
def k_Server_takeEntries_b96 (F : Nat) (K33 : CS → Nat → Nat → Int32 → Int32 → Int32 → Option (CS)) (σ : CS) (l0 : Nat) (l1 : Nat) (l2 : Int32) (l3 : Int32) (l4 : Int32) : Option (CS) :=
  K33 σ l0 l1 l2 l3 (l4 + (1 : Int32))
set_option maxRecDepth 4000 in
theorem k_Server_takeEntries_b96_ok {E : CE} {pF : Nat → List Value → xH → Option (Option Value × xH)} (hp0 : xNPc pF) (hL : lcAll E pF) (hF : lcF pF) {d : Nat} {F : Nat} {K33 : CS → Nat → Nat → Int32 → Int32 → Int32 → Option (CS)} (hK33 : ∀ (g : CG) (lv : xL) (σ : CS) (l0 : Nat) (l1 : Nat) (l2 : Int32) (l3 : Int32) (l4 : Int32), (cob σ 13 l0) → (cob σ 8 l1) → (xg lv 0 = some (.ref (coa E 13 l0))) → (xg lv 1 = some (.ref (coa E 8 l1))) → (xg lv 2 = some (.int l2)) → (xg lv 3 = some (.int l3)) → (xg lv 4 = some (.int l4)) → ∀ res, K33 σ l0 l1 l2 l3 l4 = some res → cR E (cQx [11]) pF (d + 5) kT172 13 6 none none res g σ (33, lv, [])) : ∀ (g : CG) (lv : xL) (σ : CS) (l0 : Nat) (l1 : Nat) (l2 : Int32) (l3 : Int32) (l4 : Int32), (cob σ 13 l0) → (cob σ 8 l1) → (xg lv 0 = some (.ref (coa E 13 l0))) → (xg lv 1 = some (.ref (coa E 8 l1))) → (xg lv 2 = some (.int l2)) → (xg lv 3 = some (.int l3)) → (xg lv 4 = some (.int l4)) → ∀ res, k_Server_takeEntries_b96 F K33 σ l0 l1 l2 l3 l4 = some res → cR E (cQx [11]) pF (d + 5) kT172 13 6 none none res g σ (96, lv, []) := by
  intro g lv σ l0 l1 l2 l3 l4 bl0 bl1 g0 g1 g2 g3 g4 res h
  unfold k_Server_takeEntries_b96 at h
  refine cR_inc (j := 4) (v := l4 + (1 : Int32)) lk172_96 g4 rfl (by decide) (fun vq1 gq2 kq3 => ?_)
  have gq4 := kq3 0 _ (by decide) (fun e => absurd e (by decide)) g0
  have gq5 := kq3 1 _ (by decide) (fun e => absurd e (by decide)) g1
  have gq6 := kq3 2 _ (by decide) (fun e => absurd e (by decide)) g2
  have gq7 := kq3 3 _ (by decide) (fun _ => rfl) g3
  refine cR_lift (fun _ _ kk => eE_goto (t := 33) lk172_99 (by decide) kk) ?_
  exact hK33 g vq1 σ l0 l1 l2 l3 (l4 + (1 : Int32)) bl0 bl1 gq4 gq5 gq6 gq7 gq2 _ h
def k_Server_takeEntries_b155 (F : Nat) (K105 : CS → Nat → Nat → Int32 → Int32 → Int32 → Option (CS)) (σ : CS) (l0 : Nat) (l1 : Nat) (l2 : Int32) (l3 : Int32) (l4 : Int32) : Option (CS) :=
  K105 σ l0 l1 l2 l3 (l4 + (1 : Int32))
set_option maxRecDepth 4000 in
theorem k_Server_takeEntries_b155_ok {E : CE} {pF : Nat → List Value → xH → Option (Option Value × xH)} (hp0 : xNPc pF) (hL : lcAll E pF) (hF : lcF pF) {d : Nat} {F : Nat} {K105 : CS → Nat → Nat → Int32 → Int32 → Int32 → Option (CS)} (hK105 : ∀ (g : CG) (lv : xL) (σ : CS) (l0 : Nat) (l1 : Nat) (l2 : Int32) (l3 : Int32) (l4 : Int32), (cob σ 13 l0) → (cob σ 8 l1) → (xg lv 0 = some (.ref (coa E 13 l0))) → (xg lv 1 = some (.ref (coa E 8 l1))) → (xg lv 2 = some (.int l2)) → (xg lv 3 = some (.int l3)) → (xg lv 4 = some (.int l4)) → ∀ res, K105 σ l0 l1 l2 l3 l4 = some res → cR E (cQx [11]) pF (d + 5) kT172 13 6 none none res g σ (105, lv, [])) : ∀ (g : CG) (lv : xL) (σ : CS) (l0 : Nat) (l1 : Nat) (l2 : Int32) (l3 : Int32) (l4 : Int32), (cob σ 13 l0) → (cob σ 8 l1) → (xg lv 0 = some (.ref (coa E 13 l0))) → (xg lv 1 = some (.ref (coa E 8 l1))) → (xg lv 2 = some (.int l2)) → (xg lv 3 = some (.int l3)) → (xg lv 4 = some (.int l4)) → ∀ res, k_Server_takeEntries_b155 F K105 σ l0 l1 l2 l3 l4 = some res → cR E (cQx [11]) pF (d + 5) kT172 13 6 none none res g σ (155, lv, []) := by
  intro g lv σ l0 l1 l2 l3 l4 bl0 bl1 g0 g1 g2 g3 g4 res h
  unfold k_Server_takeEntries_b155 at h
  refine cR_inc (j := 4) (v := l4 + (1 : Int32)) lk172_155 g4 rfl (by decide) (fun vq8 gq9 kq10 => ?_)
  have gq11 := kq10 0 _ (by decide) (fun e => absurd e (by decide)) g0
  have gq12 := kq10 1 _ (by decide) (fun e => absurd e (by decide)) g1
  have gq13 := kq10 2 _ (by decide) (fun e => absurd e (by decide)) g2
  have gq14 := kq10 3 _ (by decide) (fun _ => rfl) g3
  refine cR_lift (fun _ _ kk => eE_goto (t := 105) lk172_158 (by decide) kk) ?_
  exact hK105 g vq8 σ l0 l1 l2 l3 (l4 + (1 : Int32)) bl0 bl1 gq11 gq12 gq13 gq14 gq9 _ h
def k_Server_takeEntries_b213 (F : Nat)  : Nat → CS → Nat → Nat → Int32 → Int32 → Int32 → Option (CS)
  | 0, _, _, _, _, _, _ => none
  | n + 1, σ, l0, l1, l2, l3, l5 =>
    let KK := k_Server_takeEntries_b213 F  n
    if xc2 .ge l5 l3 = true then (
      (some (csI σ 9 l0 9 0 (cmax (cI σ 9 l0 9 0) (cmin (cI σ 8 l1 9 0) (cmax (l2 + l3) (cI σ 9 l0 3 0)))))).bind fun σ21 =>
      (some (csI σ21 8 l1 7 0 (cmax (l2 + l3) (cI σ 9 l0 3 0)))).bind fun σ23 =>
      (some (csI σ23 13 l0 19 0 ((cI σ23 13 l0 19 0) ||| ((528 : Int32))))).bind fun σ25 =>
      some σ25
    ) else (
      (k_Server_append_8_18 F σ l0 l1 (l5 * ((6 : Int32)))).bind fun p27 =>
      KK p27 l0 l1 l2 l3 (l5 + (1 : Int32))
    )
set_option maxRecDepth 4000 in
theorem k_Server_takeEntries_b213_ok {E : CE} {pF : Nat → List Value → xH → Option (Option Value × xH)} (hp0 : xNPc pF) (hL : lcAll E pF) (hF : lcF pF) {d : Nat} {F : Nat}   : ∀ (n : Nat) (g : CG) (lv : xL) (σ : CS) (l0 : Nat) (l1 : Nat) (l2 : Int32) (l3 : Int32) (l5 : Int32), (cob σ 13 l0) → (cob σ 8 l1) → (xg lv 0 = some (.ref (coa E 13 l0))) → (xg lv 1 = some (.ref (coa E 8 l1))) → (xg lv 2 = some (.int l2)) → (xg lv 3 = some (.int l3)) → (xg lv 5 = some (.int l5)) → ∀ res, k_Server_takeEntries_b213 F  n σ l0 l1 l2 l3 l5 = some res → cR E (cQx [11]) pF (d + 5) kT172 13 6 none none res g σ (213, lv, []) := by
  intro n
  induction n with
  | zero => intro g lv σ l0 l1 l2 l3 l5 bl0 bl1 g0 g1 g2 g3 g5 res h; simp [k_Server_takeEntries_b213] at h
  | succ n hKK =>
    intro g lv σ l0 l1 l2 l3 l5 bl0 bl1 g0 g1 g2 g3 g5 res h
    unfold k_Server_takeEntries_b213 at h
    dsimp only at h
    refine cR_lift (fun _ _ kk => eE_iload lk172_213 g5 kk) ?_
    refine cR_lift (fun _ _ kk => eE_iload_n lk172_215 g3 kk) ?_
    refine cR_icmp (t := 238) lk172_216 (by decide) (fun c15 => ?_) (fun c15 => ?_)
    · rw [if_pos c15] at h
      refine cR_lift (fun _ _ kk => eE_iload_n lk172_238 g2 kk) ?_
      refine cR_lift (fun _ _ kk => eE_iload_n lk172_239 g3 kk) ?_
      refine cR_lift (fun _ _ kk => eE_iadd lk172_240 kk) ?_
      refine cR_lift (fun _ _ kk => eE_aload_n lk172_241 g0 kk) ?_
      refine cR_getO (cl' := 9) (i' := l0) lk172_242 rf_13_72 rfl rfl bl0 ?_
      refine cR_getI lk172_245 rf_13_100 rfl (cob_s (cl := 9) bl0 (by decide) rfl rfl) ?_
      refine cR_max lk172_248 mr_13_293 (by first | exact Nat.le_of_ble_eq_true rfl | (simp [xcat, cvo_cat, cat_i, cat_j, cat_r]; done)) ?_
      refine cR_stI (j := 5) lk172_251 (Or.inl rfl) (by decide) (fun vq16 gq17 kq18 => ?_)
      have gq19 := kq18 0 _ (by decide) (fun e => absurd e (by decide)) g0
      have gq20 := kq18 1 _ (by decide) (fun e => absurd e (by decide)) g1
      refine cR_lift (fun _ _ kk => eE_aload_n lk172_253 gq19 kk) ?_
      refine cR_getO (cl' := 9) (i' := l0) lk172_254 rf_13_72 rfl rfl bl0 ?_
      refine cR_lift (fun _ _ kk => eE_aload_n lk172_257 gq19 kk) ?_
      refine cR_getO (cl' := 9) (i' := l0) lk172_258 rf_13_72 rfl rfl bl0 ?_
      refine cR_getI lk172_261 rf_13_91 rfl (cob_s (cl := 9) bl0 (by decide) rfl rfl) ?_
      refine cR_lift (fun _ _ kk => eE_aload_n lk172_264 gq20 kk) ?_
      refine cR_getI lk172_265 rf_13_404 rfl bl1 ?_
      refine cR_lift (fun _ _ kk => eE_iload lk172_268 gq17 kk) ?_
      refine cR_min lk172_270 mr_13_397 (by first | exact Nat.le_of_ble_eq_true rfl | (simp [xcat, cvo_cat, cat_i, cat_j, cat_r]; done)) ?_
      refine cR_max lk172_273 mr_13_293 (by first | exact Nat.le_of_ble_eq_true rfl | (simp [xcat, cvo_cat, cat_i, cat_j, cat_r]; done)) ?_
      obtain ⟨σ21, h22, h⟩ := Option.bind_eq_some_iff.mp h
      refine cR_putI lk172_276 rf_13_91 rfl (cob_s (cl := 9) bl0 (by decide) rfl rfl) pf_9_9 rfl h22 ?_
      refine cR_lift (fun _ _ kk => eE_aload_n lk172_279 gq20 kk) ?_
      refine cR_lift (fun _ _ kk => eE_iload lk172_280 gq17 kk) ?_
      obtain ⟨σ23, h24, h⟩ := Option.bind_eq_some_iff.mp h
      refine cR_putI lk172_282 rf_13_189 rfl (cob_mon (cput_mon h22) bl1) pf_8_7 rfl h24 ?_
      refine cR_lift (fun _ _ kk => eE_aload_n lk172_285 gq19 kk) ?_
      refine cR_lift (fun _ _ kk => eE_dup lk172_286 rfl kk) ?_
      refine cR_getI lk172_287 rf_13_146 rfl (cob_any rfl bl0) ?_
      refine cR_lift (fun _ _ kk => eE_sipush (v := 528) lk172_290 (by decide) kk) ?_
      refine cR_lift (fun _ _ kk => eE_ior lk172_293 kk) ?_
      obtain ⟨σ25, h26, h⟩ := Option.bind_eq_some_iff.mp h
      refine cR_putI lk172_294 rf_13_146 rfl (cob_any rfl bl0) pf_13_19 rfl h26 ?_
      cases h
      exact cR_end lk172_297 rfl rfl rfl
    · rw [if_neg c15] at h
      refine cR_lift (fun _ _ kk => eE_aload_n lk172_219 g0 kk) ?_
      refine cR_lift (fun _ _ kk => eE_aload_n lk172_220 g1 kk) ?_
      refine cR_getA lk172_221 rf_13_409 (by decide) bl1 ?_
      refine cR_lift (fun _ _ kk => eE_iload lk172_224 g5 kk) ?_
      refine cR_lift (fun _ _ kk => eE_bipush (v := 6) lk172_226 (by decide) kk) ?_
      refine cR_lift (fun _ _ kk => eE_imul lk172_228 kk) ?_
      obtain ⟨p27, h28, h⟩ := Option.bind_eq_some_iff.mp h
      refine cR_virtG (by exact cQx_sub rfl) (cl := 13) (i := l0) (as := [.ref (caa E 8 l1 18), .int (l5 * ((6 : Int32)))]) lk172_229 mr_13_451 na_122 rfl rfl (by first | exact Nat.le_of_ble_eq_true rfl | (simp [xcat, cvo_cat, cat_i, cat_j, cat_r]; done)) wv_122 wc_122 bl0 (k_Server_append_8_18_ok hp0 hL hF (d := d + 0) bl0 bl1 h28) (fun m29 g_30 g_30e => ?_)
      refine cR_inc (j := 5) (v := l5 + (1 : Int32)) lk172_232 g5 rfl (by decide) (fun vq31 gq32 kq33 => ?_)
      have gq34 := kq33 0 _ (by decide) (fun e => absurd e (by decide)) g0
      have gq35 := kq33 1 _ (by decide) (fun e => absurd e (by decide)) g1
      have gq36 := kq33 2 _ (by decide) (fun e => absurd e (by decide)) g2
      have gq37 := kq33 3 _ (by decide) (fun e => absurd e (by decide)) g3
      refine cR_lift (fun _ _ kk => eE_goto (t := 213) lk172_235 (by decide) kk) ?_
      exact hKK g_30 vq31 p27 l0 l1 l2 l3 (l5 + (1 : Int32)) (cob_any rfl bl0) (cob_mon m29 bl1) gq34 gq35 gq36 gq37 gq32 _ h
def k_Server_takeEntries_b209 (F : Nat)  (σ : CS) (l0 : Nat) (l1 : Nat) (l2 : Int32) (l3 : Int32) (l4 : Int32) : Option (CS) :=
  k_Server_takeEntries_b213 F  F σ l0 l1 l2 l3 l4
set_option maxRecDepth 4000 in
theorem k_Server_takeEntries_b209_ok {E : CE} {pF : Nat → List Value → xH → Option (Option Value × xH)} (hp0 : xNPc pF) (hL : lcAll E pF) (hF : lcF pF) {d : Nat} {F : Nat}   : ∀ (g : CG) (lv : xL) (σ : CS) (l0 : Nat) (l1 : Nat) (l2 : Int32) (l3 : Int32) (l4 : Int32), (cob σ 13 l0) → (cob σ 8 l1) → (xg lv 0 = some (.ref (coa E 13 l0))) → (xg lv 1 = some (.ref (coa E 8 l1))) → (xg lv 2 = some (.int l2)) → (xg lv 3 = some (.int l3)) → (xg lv 4 = some (.int l4)) → ∀ res, k_Server_takeEntries_b209 F  σ l0 l1 l2 l3 l4 = some res → cR E (cQx [11]) pF (d + 5) kT172 13 6 none none res g σ (209, lv, []) := by
  intro g lv σ l0 l1 l2 l3 l4 bl0 bl1 g0 g1 g2 g3 g4 res h
  unfold k_Server_takeEntries_b209 at h
  refine cR_lift (fun _ _ kk => eE_iload lk172_209 g4 kk) ?_
  refine cR_stI (j := 5) lk172_211 (Or.inl rfl) (by decide) (fun vq38 gq39 kq40 => ?_)
  have gq41 := kq40 0 _ (by decide) (fun e => absurd e (by decide)) g0
  have gq42 := kq40 1 _ (by decide) (fun e => absurd e (by decide)) g1
  have gq43 := kq40 2 _ (by decide) (fun e => absurd e (by decide)) g2
  have gq44 := kq40 3 _ (by decide) (fun e => absurd e (by decide)) g3
  exact k_Server_takeEntries_b213_ok hp0 hL hF  F g vq38 σ l0 l1 l2 l3 l4 bl0 bl1 gq41 gq42 gq43 gq44 gq39 _ h
def k_Server_takeEntries_b161 (F : Nat)  (σ : CS) (l0 : Nat) (l1 : Nat) (l2 : Int32) (l3 : Int32) (l4 : Int32) : Option (CS) :=
  if xc2 .ge l4 l3 = true then (
    k_Server_takeEntries_b209 F  σ l0 l1 l2 l3 l4
  ) else (
    if xc2 .gt ((l2 + ((1 : Int32))) + l4) (cI σ 9 l0 6 0) = true then (
      k_Server_takeEntries_b209 F  σ l0 l1 l2 l3 l4
    ) else (
      (k_Log_cutFrom F σ l0 ((l2 + ((1 : Int32))) + l4)).bind fun p47 =>
      (k_Disk_cutFrom F p47 l0 ((l2 + ((1 : Int32))) + l4)).bind fun p50 =>
      k_Server_takeEntries_b209 F  p50 l0 l1 l2 l3 l4
    )
  )
set_option maxRecDepth 4000 in
theorem k_Server_takeEntries_b161_ok {E : CE} {pF : Nat → List Value → xH → Option (Option Value × xH)} (hp0 : xNPc pF) (hL : lcAll E pF) (hF : lcF pF) {d : Nat} {F : Nat}   : ∀ (g : CG) (lv : xL) (σ : CS) (l0 : Nat) (l1 : Nat) (l2 : Int32) (l3 : Int32) (l4 : Int32), (cob σ 13 l0) → (cob σ 8 l1) → (xg lv 0 = some (.ref (coa E 13 l0))) → (xg lv 1 = some (.ref (coa E 8 l1))) → (xg lv 2 = some (.int l2)) → (xg lv 3 = some (.int l3)) → (xg lv 4 = some (.int l4)) → ∀ res, k_Server_takeEntries_b161 F  σ l0 l1 l2 l3 l4 = some res → cR E (cQx [11]) pF (d + 5) kT172 13 6 none none res g σ (161, lv, []) := by
  intro g lv σ l0 l1 l2 l3 l4 bl0 bl1 g0 g1 g2 g3 g4 res h
  unfold k_Server_takeEntries_b161 at h
  refine cR_lift (fun _ _ kk => eE_iload lk172_161 g4 kk) ?_
  refine cR_lift (fun _ _ kk => eE_iload_n lk172_163 g3 kk) ?_
  refine cR_icmp (t := 209) lk172_164 (by decide) (fun c45 => ?_) (fun c45 => ?_)
  · rw [if_pos c45] at h
    exact k_Server_takeEntries_b209_ok hp0 hL hF  g lv σ l0 l1 l2 l3 l4 bl0 bl1 g0 g1 g2 g3 g4 _ h
  · rw [if_neg c45] at h
    refine cR_lift (fun _ _ kk => eE_iload_n lk172_167 g2 kk) ?_
    refine cR_lift (fun _ _ kk => eE_iconst (v := 1) lk172_168 (by decide) kk) ?_
    refine cR_lift (fun _ _ kk => eE_iadd lk172_169 kk) ?_
    refine cR_lift (fun _ _ kk => eE_iload lk172_170 g4 kk) ?_
    refine cR_lift (fun _ _ kk => eE_iadd lk172_172 kk) ?_
    refine cR_lift (fun _ _ kk => eE_aload_n lk172_173 g0 kk) ?_
    refine cR_getO (cl' := 9) (i' := l0) lk172_174 rf_13_72 rfl rfl bl0 ?_
    refine cR_getI lk172_177 rf_13_103 rfl (cob_s (cl := 9) bl0 (by decide) rfl rfl) ?_
    refine cR_icmp (t := 209) lk172_180 (by decide) (fun c46 => ?_) (fun c46 => ?_)
    · rw [if_pos c46] at h
      exact k_Server_takeEntries_b209_ok hp0 hL hF  g lv σ l0 l1 l2 l3 l4 bl0 bl1 g0 g1 g2 g3 g4 _ h
    · rw [if_neg c46] at h
      refine cR_lift (fun _ _ kk => eE_aload_n lk172_183 g0 kk) ?_
      refine cR_getO (cl' := 9) (i' := l0) lk172_184 rf_13_72 rfl rfl bl0 ?_
      refine cR_lift (fun _ _ kk => eE_iload_n lk172_187 g2 kk) ?_
      refine cR_lift (fun _ _ kk => eE_iconst (v := 1) lk172_188 (by decide) kk) ?_
      refine cR_lift (fun _ _ kk => eE_iadd lk172_189 kk) ?_
      refine cR_lift (fun _ _ kk => eE_iload lk172_190 g4 kk) ?_
      refine cR_lift (fun _ _ kk => eE_iadd lk172_192 kk) ?_
      obtain ⟨p47, h48, h⟩ := Option.bind_eq_some_iff.mp h
      refine cR_virt (cl := 9) (i := l0) (as := [.int ((l2 + ((1 : Int32))) + l4)]) lk172_193 mr_13_512 na_65 rfl rfl (by first | exact Nat.le_of_ble_eq_true rfl | (simp [xcat, cvo_cat, cat_i, cat_j, cat_r]; done)) wv_65 wc_65 (cob_s (cl := 9) bl0 (by decide) rfl rfl) (k_Log_cutFrom_ok hp0 hL hF (d := d + 2) (cob_s (cl := 9) bl0 (by decide) rfl rfl) h48) (fun m49  => ?_)
      refine cR_lift (fun _ _ kk => eE_aload_n lk172_196 g0 kk) ?_
      refine cR_getO (cl' := 6) (i' := l0) lk172_197 rf_13_12 rfl rfl (cob_any rfl bl0) ?_
      refine cR_lift (fun _ _ kk => eE_iload_n lk172_200 g2 kk) ?_
      refine cR_lift (fun _ _ kk => eE_iconst (v := 1) lk172_201 (by decide) kk) ?_
      refine cR_lift (fun _ _ kk => eE_iadd lk172_202 kk) ?_
      refine cR_lift (fun _ _ kk => eE_iload lk172_203 g4 kk) ?_
      refine cR_lift (fun _ _ kk => eE_iadd lk172_205 kk) ?_
      obtain ⟨p50, h51, h⟩ := Option.bind_eq_some_iff.mp h
      refine cR_virt (cl := 6) (i := l0) (as := [.int ((l2 + ((1 : Int32))) + l4)]) lk172_206 mr_13_515 na_34 rfl rfl (by first | exact Nat.le_of_ble_eq_true rfl | (simp [xcat, cvo_cat, cat_i, cat_j, cat_r]; done)) wv_34 wc_34 (cob_s (cl := 6) (cob_any rfl bl0) (by decide) rfl rfl) (k_Disk_cutFrom_ok hp0 hL hF (d := d + 2) (cob_s (cl := 6) (cob_any rfl bl0) (by decide) rfl rfl) h51) (fun m52  => ?_)
      exact k_Server_takeEntries_b209_ok hp0 hL hF  g lv p50 l0 l1 l2 l3 l4 (cob_any rfl bl0) (cob_mon m52 (cob_mon m49 bl1)) g0 g1 g2 g3 g4 _ h
def k_Server_takeEntries_b105 (F : Nat)  : Nat → CS → Nat → Nat → Int32 → Int32 → Int32 → Option (CS)
  | 0, _, _, _, _, _, _ => none
  | n + 1, σ, l0, l1, l2, l3, l4 =>
    let KK := k_Server_takeEntries_b105 F  n
    if xc2 .ge l4 l3 = true then (
      k_Server_takeEntries_b161 F  σ l0 l1 l2 l3 l4
    ) else (
      if xc2 .le ((l2 + ((1 : Int32))) + l4) (cI σ 9 l0 3 0) = true then (
        k_Server_takeEntries_b155 F KK σ l0 l1 l2 l3 l4
      ) else (
        (k_Log_termAt σ l0 ((l2 + ((1 : Int32))) + l4)).bind fun p55 =>
        (crd σ 8 l1 18 ((l4 * ((6 : Int32))) + ((0 : Int32)))).bind fun x58 =>
        if xc2 .ne p55 x58 = true then (
          k_Server_takeEntries_b161 F  σ l0 l1 l2 l3 l4
        ) else (
          k_Server_takeEntries_b155 F KK σ l0 l1 l2 l3 l4
        )
      )
    )
set_option maxRecDepth 4000 in
theorem k_Server_takeEntries_b105_ok {E : CE} {pF : Nat → List Value → xH → Option (Option Value × xH)} (hp0 : xNPc pF) (hL : lcAll E pF) (hF : lcF pF) {d : Nat} {F : Nat}   : ∀ (n : Nat) (g : CG) (lv : xL) (σ : CS) (l0 : Nat) (l1 : Nat) (l2 : Int32) (l3 : Int32) (l4 : Int32), (cob σ 13 l0) → (cob σ 8 l1) → (xg lv 0 = some (.ref (coa E 13 l0))) → (xg lv 1 = some (.ref (coa E 8 l1))) → (xg lv 2 = some (.int l2)) → (xg lv 3 = some (.int l3)) → (xg lv 4 = some (.int l4)) → ∀ res, k_Server_takeEntries_b105 F  n σ l0 l1 l2 l3 l4 = some res → cR E (cQx [11]) pF (d + 5) kT172 13 6 none none res g σ (105, lv, []) := by
  intro n
  induction n with
  | zero => intro g lv σ l0 l1 l2 l3 l4 bl0 bl1 g0 g1 g2 g3 g4 res h; simp [k_Server_takeEntries_b105] at h
  | succ n hKK =>
    intro g lv σ l0 l1 l2 l3 l4 bl0 bl1 g0 g1 g2 g3 g4 res h
    unfold k_Server_takeEntries_b105 at h
    dsimp only at h
    refine cR_lift (fun _ _ kk => eE_iload lk172_105 g4 kk) ?_
    refine cR_lift (fun _ _ kk => eE_iload_n lk172_107 g3 kk) ?_
    refine cR_icmp (t := 161) lk172_108 (by decide) (fun c53 => ?_) (fun c53 => ?_)
    · rw [if_pos c53] at h
      exact k_Server_takeEntries_b161_ok hp0 hL hF  g lv σ l0 l1 l2 l3 l4 bl0 bl1 g0 g1 g2 g3 g4 _ h
    · rw [if_neg c53] at h
      refine cR_lift (fun _ _ kk => eE_iload_n lk172_111 g2 kk) ?_
      refine cR_lift (fun _ _ kk => eE_iconst (v := 1) lk172_112 (by decide) kk) ?_
      refine cR_lift (fun _ _ kk => eE_iadd lk172_113 kk) ?_
      refine cR_lift (fun _ _ kk => eE_iload lk172_114 g4 kk) ?_
      refine cR_lift (fun _ _ kk => eE_iadd lk172_116 kk) ?_
      refine cR_lift (fun _ _ kk => eE_aload_n lk172_117 g0 kk) ?_
      refine cR_getO (cl' := 9) (i' := l0) lk172_118 rf_13_72 rfl rfl bl0 ?_
      refine cR_getI lk172_121 rf_13_100 rfl (cob_s (cl := 9) bl0 (by decide) rfl rfl) ?_
      refine cR_icmp (t := 155) lk172_124 (by decide) (fun c54 => ?_) (fun c54 => ?_)
      · rw [if_pos c54] at h
        exact k_Server_takeEntries_b155_ok hp0 hL hF hKK g lv σ l0 l1 l2 l3 l4 bl0 bl1 g0 g1 g2 g3 g4 _ h
      · rw [if_neg c54] at h
        refine cR_lift (fun _ _ kk => eE_aload_n lk172_127 g0 kk) ?_
        refine cR_getO (cl' := 9) (i' := l0) lk172_128 rf_13_72 rfl rfl bl0 ?_
        refine cR_lift (fun _ _ kk => eE_iload_n lk172_131 g2 kk) ?_
        refine cR_lift (fun _ _ kk => eE_iconst (v := 1) lk172_132 (by decide) kk) ?_
        refine cR_lift (fun _ _ kk => eE_iadd lk172_133 kk) ?_
        refine cR_lift (fun _ _ kk => eE_iload lk172_134 g4 kk) ?_
        refine cR_lift (fun _ _ kk => eE_iadd lk172_136 kk) ?_
        obtain ⟨p55, h56, h⟩ := Option.bind_eq_some_iff.mp h
        refine cR_virt (cl := 9) (i := l0) (as := [.int ((l2 + ((1 : Int32))) + l4)]) lk172_137 mr_13_311 na_75 rfl rfl (by first | exact Nat.le_of_ble_eq_true rfl | (simp [xcat, cvo_cat, cat_i, cat_j, cat_r]; done)) wv_75 wc_75 (cob_s (cl := 9) bl0 (by decide) rfl rfl) (k_Log_termAt_ok hp0 hL hF (d := d + 3) (cob_s (cl := 9) bl0 (by decide) rfl rfl) h56) (fun m57  => ?_)
        refine cR_lift (fun _ _ kk => eE_aload_n lk172_140 g1 kk) ?_
        refine cR_getA lk172_141 rf_13_409 (by decide) bl1 ?_
        refine cR_lift (fun _ _ kk => eE_iload lk172_144 g4 kk) ?_
        refine cR_lift (fun _ _ kk => eE_bipush (v := 6) lk172_146 (by decide) kk) ?_
        refine cR_lift (fun _ _ kk => eE_imul lk172_148 kk) ?_
        refine cR_lift (fun _ _ kk => eE_iconst (v := 0) lk172_149 (by decide) kk) ?_
        refine cR_lift (fun _ _ kk => eE_iadd lk172_150 kk) ?_
        obtain ⟨x58, h59, h⟩ := Option.bind_eq_some_iff.mp h
        refine cR_iald (cl := 8) (i := l1) (f := 18) lk172_151 (by decide) rfl bl1 h59 ?_
        refine cR_icmp (t := 161) lk172_152 (by decide) (fun c60 => ?_) (fun c60 => ?_)
        · rw [if_pos c60] at h
          exact k_Server_takeEntries_b161_ok hp0 hL hF  g lv σ l0 l1 l2 l3 l4 bl0 bl1 g0 g1 g2 g3 g4 _ h
        · rw [if_neg c60] at h
          exact k_Server_takeEntries_b155_ok hp0 hL hF hKK g lv σ l0 l1 l2 l3 l4 bl0 bl1 g0 g1 g2 g3 g4 _ h
def k_Server_takeEntries_b33 (F : Nat)  : Nat → CS → Nat → Nat → Int32 → Int32 → Int32 → Option (CS)
  | 0, _, _, _, _, _, _ => none
  | n + 1, σ, l0, l1, l2, l3, l4 =>
    let KK := k_Server_takeEntries_b33 F  n
    if xc2 .ge l4 l3 = true then (
      k_Server_takeEntries_b105 F  F σ l0 l1 l2 l3 ((0 : Int32))
    ) else (
      if xc2 .lt ((l2 + ((1 : Int32))) + l4) (cI σ 9 l0 3 0) = true then (
        k_Server_takeEntries_b96 F KK σ l0 l1 l2 l3 l4
      ) else (
        if xc2 .gt ((l2 + ((1 : Int32))) + l4) (cI σ 9 l0 9 0) = true then (
          k_Server_takeEntries_b96 F KK σ l0 l1 l2 l3 l4
        ) else (
          (k_Log_termAt σ l0 ((l2 + ((1 : Int32))) + l4)).bind fun p79 =>
          (crd σ 8 l1 18 ((l4 * ((6 : Int32))) + ((0 : Int32)))).bind fun x82 =>
          if xc2 .eq p79 x82 = true then (
            k_Server_takeEntries_b96 F KK σ l0 l1 l2 l3 l4
          ) else (
            some σ
          )
        )
      )
    )
set_option maxRecDepth 4000 in
theorem k_Server_takeEntries_b33_ok {E : CE} {pF : Nat → List Value → xH → Option (Option Value × xH)} (hp0 : xNPc pF) (hL : lcAll E pF) (hF : lcF pF) {d : Nat} {F : Nat}   : ∀ (n : Nat) (g : CG) (lv : xL) (σ : CS) (l0 : Nat) (l1 : Nat) (l2 : Int32) (l3 : Int32) (l4 : Int32), (cob σ 13 l0) → (cob σ 8 l1) → (xg lv 0 = some (.ref (coa E 13 l0))) → (xg lv 1 = some (.ref (coa E 8 l1))) → (xg lv 2 = some (.int l2)) → (xg lv 3 = some (.int l3)) → (xg lv 4 = some (.int l4)) → ∀ res, k_Server_takeEntries_b33 F  n σ l0 l1 l2 l3 l4 = some res → cR E (cQx [11]) pF (d + 5) kT172 13 6 none none res g σ (33, lv, []) := by
  intro n
  induction n with
  | zero => intro g lv σ l0 l1 l2 l3 l4 bl0 bl1 g0 g1 g2 g3 g4 res h; simp [k_Server_takeEntries_b33] at h
  | succ n hKK =>
    intro g lv σ l0 l1 l2 l3 l4 bl0 bl1 g0 g1 g2 g3 g4 res h
    unfold k_Server_takeEntries_b33 at h
    dsimp only at h
    refine cR_lift (fun _ _ kk => eE_iload lk172_33 g4 kk) ?_
    refine cR_lift (fun _ _ kk => eE_iload_n lk172_35 g3 kk) ?_
    refine cR_icmp (t := 102) lk172_36 (by decide) (fun c61 => ?_) (fun c61 => ?_)
    · rw [if_pos c61] at h
      refine cR_lift (fun _ _ kk => eE_iconst (v := 0) lk172_102 (by decide) kk) ?_
      refine cR_stI (j := 4) lk172_103 (Or.inl rfl) (by decide) (fun vq62 gq63 kq64 => ?_)
      have gq65 := kq64 0 _ (by decide) (fun e => absurd e (by decide)) g0
      have gq66 := kq64 1 _ (by decide) (fun e => absurd e (by decide)) g1
      have gq67 := kq64 2 _ (by decide) (fun e => absurd e (by decide)) g2
      have gq68 := kq64 3 _ (by decide) (fun _ => rfl) g3
      exact k_Server_takeEntries_b105_ok hp0 hL hF  F g vq62 σ l0 l1 l2 l3 ((0 : Int32)) bl0 bl1 gq65 gq66 gq67 gq68 gq63 _ h
    · rw [if_neg c61] at h
      refine cR_lift (fun _ _ kk => eE_iload_n lk172_39 g2 kk) ?_
      refine cR_lift (fun _ _ kk => eE_iconst (v := 1) lk172_40 (by decide) kk) ?_
      refine cR_lift (fun _ _ kk => eE_iadd lk172_41 kk) ?_
      refine cR_lift (fun _ _ kk => eE_iload lk172_42 g4 kk) ?_
      refine cR_lift (fun _ _ kk => eE_iadd lk172_44 kk) ?_
      refine cR_stI (j := 5) lk172_45 (Or.inl rfl) (by decide) (fun vq69 gq70 kq71 => ?_)
      have gq72 := kq71 0 _ (by decide) (fun e => absurd e (by decide)) g0
      have gq73 := kq71 1 _ (by decide) (fun e => absurd e (by decide)) g1
      have gq74 := kq71 2 _ (by decide) (fun e => absurd e (by decide)) g2
      have gq75 := kq71 3 _ (by decide) (fun e => absurd e (by decide)) g3
      have gq76 := kq71 4 _ (by decide) (fun _ => rfl) g4
      refine cR_lift (fun _ _ kk => eE_iload lk172_47 gq70 kk) ?_
      refine cR_lift (fun _ _ kk => eE_aload_n lk172_49 gq72 kk) ?_
      refine cR_getO (cl' := 9) (i' := l0) lk172_50 rf_13_72 rfl rfl bl0 ?_
      refine cR_getI lk172_53 rf_13_100 rfl (cob_s (cl := 9) bl0 (by decide) rfl rfl) ?_
      refine cR_icmp (t := 96) lk172_56 (by decide) (fun c77 => ?_) (fun c77 => ?_)
      · rw [if_pos c77] at h
        exact k_Server_takeEntries_b96_ok hp0 hL hF hKK g vq69 σ l0 l1 l2 l3 l4 bl0 bl1 gq72 gq73 gq74 gq75 gq76 _ h
      · rw [if_neg c77] at h
        refine cR_lift (fun _ _ kk => eE_iload lk172_59 gq70 kk) ?_
        refine cR_lift (fun _ _ kk => eE_aload_n lk172_61 gq72 kk) ?_
        refine cR_getO (cl' := 9) (i' := l0) lk172_62 rf_13_72 rfl rfl bl0 ?_
        refine cR_getI lk172_65 rf_13_91 rfl (cob_s (cl := 9) bl0 (by decide) rfl rfl) ?_
        refine cR_icmp (t := 96) lk172_68 (by decide) (fun c78 => ?_) (fun c78 => ?_)
        · rw [if_pos c78] at h
          exact k_Server_takeEntries_b96_ok hp0 hL hF hKK g vq69 σ l0 l1 l2 l3 l4 bl0 bl1 gq72 gq73 gq74 gq75 gq76 _ h
        · rw [if_neg c78] at h
          refine cR_lift (fun _ _ kk => eE_aload_n lk172_71 gq72 kk) ?_
          refine cR_getO (cl' := 9) (i' := l0) lk172_72 rf_13_72 rfl rfl bl0 ?_
          refine cR_lift (fun _ _ kk => eE_iload lk172_75 gq70 kk) ?_
          obtain ⟨p79, h80, h⟩ := Option.bind_eq_some_iff.mp h
          refine cR_virt (cl := 9) (i := l0) (as := [.int ((l2 + ((1 : Int32))) + l4)]) lk172_77 mr_13_311 na_75 rfl rfl (by first | exact Nat.le_of_ble_eq_true rfl | (simp [xcat, cvo_cat, cat_i, cat_j, cat_r]; done)) wv_75 wc_75 (cob_s (cl := 9) bl0 (by decide) rfl rfl) (k_Log_termAt_ok hp0 hL hF (d := d + 3) (cob_s (cl := 9) bl0 (by decide) rfl rfl) h80) (fun m81  => ?_)
          refine cR_lift (fun _ _ kk => eE_aload_n lk172_80 gq73 kk) ?_
          refine cR_getA lk172_81 rf_13_409 (by decide) bl1 ?_
          refine cR_lift (fun _ _ kk => eE_iload lk172_84 gq76 kk) ?_
          refine cR_lift (fun _ _ kk => eE_bipush (v := 6) lk172_86 (by decide) kk) ?_
          refine cR_lift (fun _ _ kk => eE_imul lk172_88 kk) ?_
          refine cR_lift (fun _ _ kk => eE_iconst (v := 0) lk172_89 (by decide) kk) ?_
          refine cR_lift (fun _ _ kk => eE_iadd lk172_90 kk) ?_
          obtain ⟨x82, h83, h⟩ := Option.bind_eq_some_iff.mp h
          refine cR_iald (cl := 8) (i := l1) (f := 18) lk172_91 (by decide) rfl bl1 h83 ?_
          refine cR_icmp (t := 96) lk172_92 (by decide) (fun c84 => ?_) (fun c84 => ?_)
          · rw [if_pos c84] at h
            exact k_Server_takeEntries_b96_ok hp0 hL hF hKK g vq69 σ l0 l1 l2 l3 l4 bl0 bl1 gq72 gq73 gq74 gq75 gq76 _ h
          · rw [if_neg c84] at h
            cases h
            exact cR_end lk172_95 rfl rfl rfl
def k_Server_takeEntries_b0 (F : Nat)  (σ : CS) (l0 : Nat) (l1 : Nat) : Option (CS) :=
  k_Server_takeEntries_b33 F  F σ l0 l1 (cI σ 8 l1 7 0) (cmax ((0 : Int32)) (cmin (cI σ 8 l1 17 0) (((cI σ 9 l0 3 0) + ((250 : Int32))) - (cI σ 8 l1 7 0)))) ((0 : Int32))
set_option maxRecDepth 4000 in
theorem k_Server_takeEntries_b0_ok {E : CE} {pF : Nat → List Value → xH → Option (Option Value × xH)} (hp0 : xNPc pF) (hL : lcAll E pF) (hF : lcF pF) {d : Nat} {F : Nat}   : ∀ (g : CG) (lv : xL) (σ : CS) (l0 : Nat) (l1 : Nat), (cob σ 13 l0) → (cob σ 8 l1) → (xg lv 0 = some (.ref (coa E 13 l0))) → (xg lv 1 = some (.ref (coa E 8 l1))) → ∀ res, k_Server_takeEntries_b0 F  σ l0 l1 = some res → cR E (cQx [11]) pF (d + 5) kT172 13 6 none none res g σ (0, lv, []) := by
  intro g lv σ l0 l1 bl0 bl1 g0 g1 res h
  unfold k_Server_takeEntries_b0 at h
  refine cR_lift (fun _ _ kk => eE_aload_n lk172_0 g1 kk) ?_
  refine cR_getI lk172_1 rf_13_189 rfl bl1 ?_
  refine cR_stI (j := 2) lk172_4 (Or.inr ⟨_, rfl, rfl⟩) (by decide) (fun vq85 gq86 kq87 => ?_)
  have gq88 := kq87 0 _ (by decide) (fun e => absurd e (by decide)) g0
  have gq89 := kq87 1 _ (by decide) (fun _ => rfl) g1
  refine cR_lift (fun _ _ kk => eE_iconst (v := 0) lk172_5 (by decide) kk) ?_
  refine cR_lift (fun _ _ kk => eE_aload_n lk172_6 gq89 kk) ?_
  refine cR_getI lk172_7 rf_13_346 rfl bl1 ?_
  refine cR_lift (fun _ _ kk => eE_aload_n lk172_10 gq88 kk) ?_
  refine cR_getO (cl' := 9) (i' := l0) lk172_11 rf_13_72 rfl rfl bl0 ?_
  refine cR_getI lk172_14 rf_13_100 rfl (cob_s (cl := 9) bl0 (by decide) rfl rfl) ?_
  refine cR_lift (fun _ _ kk => eE_sipush (v := 250) lk172_17 (by decide) kk) ?_
  refine cR_lift (fun _ _ kk => eE_iadd lk172_20 kk) ?_
  refine cR_lift (fun _ _ kk => eE_iload_n lk172_21 gq86 kk) ?_
  refine cR_lift (fun _ _ kk => eE_isub lk172_22 kk) ?_
  refine cR_min lk172_23 mr_13_397 (by first | exact Nat.le_of_ble_eq_true rfl | (simp [xcat, cvo_cat, cat_i, cat_j, cat_r]; done)) ?_
  refine cR_max lk172_26 mr_13_293 (by first | exact Nat.le_of_ble_eq_true rfl | (simp [xcat, cvo_cat, cat_i, cat_j, cat_r]; done)) ?_
  refine cR_stI (j := 3) lk172_29 (Or.inr ⟨_, rfl, rfl⟩) (by decide) (fun vq90 gq91 kq92 => ?_)
  have gq93 := kq92 0 _ (by decide) (fun e => absurd e (by decide)) gq88
  have gq94 := kq92 1 _ (by decide) (fun e => absurd e (by decide)) gq89
  have gq95 := kq92 2 _ (by decide) (fun _ => rfl) gq86
  refine cR_lift (fun _ _ kk => eE_iconst (v := 0) lk172_30 (by decide) kk) ?_
  refine cR_stI (j := 4) lk172_31 (Or.inl rfl) (by decide) (fun vq96 gq97 kq98 => ?_)
  have gq99 := kq98 0 _ (by decide) (fun e => absurd e (by decide)) gq93
  have gq100 := kq98 1 _ (by decide) (fun e => absurd e (by decide)) gq94
  have gq101 := kq98 2 _ (by decide) (fun e => absurd e (by decide)) gq95
  have gq102 := kq98 3 _ (by decide) (fun _ => rfl) gq91
  exact k_Server_takeEntries_b33_ok hp0 hL hF  F g vq96 σ l0 l1 (cI σ 8 l1 7 0) (cmax ((0 : Int32)) (cmin (cI σ 8 l1 17 0) (((cI σ 9 l0 3 0) + ((250 : Int32))) - (cI σ 8 l1 7 0)))) ((0 : Int32)) bl0 bl1 gq99 gq100 gq101 gq102 gq97 _ h
def k_Server_takeEntries (F : Nat) (σ : CS) (l0 : Nat) (l1 : Nat) : Option (CS) := k_Server_takeEntries_b0 F σ l0 l1
theorem k_Server_takeEntries_ok {E : CE} {pF : Nat → List Value → xH → Option (Option Value × xH)} (hp0 : xNPc pF) (hL : lcAll E pF) (hF : lcF pF) {d : Nat} {g : CG} {σ : CS} {F : Nat} {l0 : Nat} {l1 : Nat} {res : CS} (bl0 : cob σ 13 l0) (bl1 : cob σ 8 l1) (h : k_Server_takeEntries F σ l0 l1 = some res) : cCo E (cQx [11]) pF (d + 6) 172 [.ref (coa E 13 l0), .ref (coa E 8 l1)] none res g σ :=
  cCo_R kk_172 mo_172 ni_172 xm_172 (Nat.le_of_ble_eq_true rfl) (hp0 172 (by decide) _) (k_Server_takeEntries_b0_ok hp0 hL hF g _ σ l0 l1 bl0 bl1 rfl rfl _ h)
/-! k_Server_takeAnswer (168), depth 3 -/
def k_Server_takeAnswer_b63  (σ : CS) : Option (CS) :=
  some σ
set_option maxRecDepth 4000 in
theorem k_Server_takeAnswer_b63_ok {E : CE} {pF : Nat → List Value → xH → Option (Option Value × xH)} (hp0 : xNPc pF) (hL : lcAll E pF) (hF : lcF pF) {d : Nat}   : ∀ (g : CG) (lv : xL) (σ : CS), ∀ res, k_Server_takeAnswer_b63  σ = some res → cR E cQ1 pF (d + 2) kT168 13 2 none none res g σ (63, lv, []) := by
  intro g lv σ res h
  unfold k_Server_takeAnswer_b63 at h
  cases h
  exact cR_end lk168_63 rfl rfl rfl
def k_Server_takeAnswer_b0  (σ : CS) (l0 : Nat) (l1 : Nat) : Option (CS) :=
  if xc2 .ne (cI σ 8 l1 6 0) ((1 : Int32)) = true then (
    k_Server_takeAnswer_b63  σ
  ) else (
    if xc2 .ne (cI σ 8 l1 5 0) (cI σ 13 l0 10 0) = true then (
      k_Server_takeAnswer_b63  σ
    ) else (
      if xc2 .ne (cI σ 13 l0 12 0) ((2 : Int32)) = true then (
        k_Server_takeAnswer_b63  σ
      ) else (
        (some (csI σ 13 l0 15 0 ((cI σ 13 l0 15 0) ||| (((1 : Int32)) <<< ((cI σ 8 l1 2 0) &&& 31))))).bind fun σ4 =>
        (k_Server_isMajority σ4 l0 (cI σ4 13 l0 15 0)).bind fun p6 =>
        if xc0 .eq p6 = true then (
          k_Server_takeAnswer_b63  σ4
        ) else (
          (some (csI σ4 13 l0 19 0 ((cI σ4 13 l0 19 0) ||| ((2 : Int32))))).bind fun σ10 =>
          k_Server_takeAnswer_b63  σ10
        )
      )
    )
  )
set_option maxRecDepth 4000 in
theorem k_Server_takeAnswer_b0_ok {E : CE} {pF : Nat → List Value → xH → Option (Option Value × xH)} (hp0 : xNPc pF) (hL : lcAll E pF) (hF : lcF pF) {d : Nat}   : ∀ (g : CG) (lv : xL) (σ : CS) (l0 : Nat) (l1 : Nat), (cob σ 13 l0) → (cob σ 8 l1) → (xg lv 0 = some (.ref (coa E 13 l0))) → (xg lv 1 = some (.ref (coa E 8 l1))) → ∀ res, k_Server_takeAnswer_b0  σ l0 l1 = some res → cR E cQ1 pF (d + 2) kT168 13 2 none none res g σ (0, lv, []) := by
  intro g lv σ l0 l1 bl0 bl1 g0 g1 res h
  unfold k_Server_takeAnswer_b0 at h
  refine cR_lift (fun _ _ kk => eE_aload_n lk168_0 g1 kk) ?_
  refine cR_getI lk168_1 rf_13_343 rfl bl1 ?_
  refine cR_lift (fun _ _ kk => eE_iconst (v := 1) lk168_4 (by decide) kk) ?_
  refine cR_icmp (t := 63) lk168_5 (by decide) (fun c1 => ?_) (fun c1 => ?_)
  · rw [if_pos c1] at h
    exact k_Server_takeAnswer_b63_ok hp0 hL hF  g lv σ  _ h
  · rw [if_neg c1] at h
    refine cR_lift (fun _ _ kk => eE_aload_n lk168_8 g1 kk) ?_
    refine cR_getI lk168_9 rf_13_342 rfl bl1 ?_
    refine cR_lift (fun _ _ kk => eE_aload_n lk168_12 g0 kk) ?_
    refine cR_getI lk168_13 rf_13_88 rfl bl0 ?_
    refine cR_icmp (t := 63) lk168_16 (by decide) (fun c2 => ?_) (fun c2 => ?_)
    · rw [if_pos c2] at h
      exact k_Server_takeAnswer_b63_ok hp0 hL hF  g lv σ  _ h
    · rw [if_neg c2] at h
      refine cR_lift (fun _ _ kk => eE_aload_n lk168_19 g0 kk) ?_
      refine cR_getI lk168_20 rf_13_85 rfl bl0 ?_
      refine cR_lift (fun _ _ kk => eE_iconst (v := 2) lk168_23 (by decide) kk) ?_
      refine cR_icmp (t := 63) lk168_24 (by decide) (fun c3 => ?_) (fun c3 => ?_)
      · rw [if_pos c3] at h
        exact k_Server_takeAnswer_b63_ok hp0 hL hF  g lv σ  _ h
      · rw [if_neg c3] at h
        refine cR_lift (fun _ _ kk => eE_aload_n lk168_27 g0 kk) ?_
        refine cR_lift (fun _ _ kk => eE_dup lk168_28 rfl kk) ?_
        refine cR_getI lk168_29 rf_13_109 rfl bl0 ?_
        refine cR_lift (fun _ _ kk => eE_iconst (v := 1) lk168_32 (by decide) kk) ?_
        refine cR_lift (fun _ _ kk => eE_aload_n lk168_33 g1 kk) ?_
        refine cR_getI lk168_34 rf_13_181 rfl bl1 ?_
        refine cR_lift (fun _ _ kk => eE_ishl lk168_37 kk) ?_
        refine cR_lift (fun _ _ kk => eE_ior lk168_38 kk) ?_
        obtain ⟨σ4, h5, h⟩ := Option.bind_eq_some_iff.mp h
        refine cR_putI lk168_39 rf_13_109 rfl bl0 pf_13_15 rfl h5 ?_
        refine cR_lift (fun _ _ kk => eE_aload_n lk168_42 g0 kk) ?_
        refine cR_lift (fun _ _ kk => eE_aload_n lk168_43 g0 kk) ?_
        refine cR_getI lk168_44 rf_13_109 rfl (cob_any rfl bl0) ?_
        obtain ⟨p6, h7, h⟩ := Option.bind_eq_some_iff.mp h
        refine cR_virt (cl := 13) (i := l0) (as := [.int (cI σ4 13 l0 15 0)]) lk168_47 mr_13_444 na_142 rfl rfl (by first | exact Nat.le_of_ble_eq_true rfl | (simp [xcat, cvo_cat, cat_i, cat_j, cat_r]; done)) wv_142 wc_142 (cob_any rfl bl0) (k_Server_isMajority_ok hp0 hL hF (d := d + 0) (cob_any rfl bl0) h7) (fun m8  => ?_)
        refine cR_if (t := 63) lk168_50 (by decide) (fun c9 => ?_) (fun c9 => ?_)
        · rw [if_pos c9] at h
          exact k_Server_takeAnswer_b63_ok hp0 hL hF  g lv σ4  _ h
        · rw [if_neg c9] at h
          refine cR_lift (fun _ _ kk => eE_aload_n lk168_53 g0 kk) ?_
          refine cR_lift (fun _ _ kk => eE_dup lk168_54 rfl kk) ?_
          refine cR_getI lk168_55 rf_13_146 rfl (cob_any rfl bl0) ?_
          refine cR_lift (fun _ _ kk => eE_iconst (v := 2) lk168_58 (by decide) kk) ?_
          refine cR_lift (fun _ _ kk => eE_ior lk168_59 kk) ?_
          obtain ⟨σ10, h11, h⟩ := Option.bind_eq_some_iff.mp h
          refine cR_putI lk168_60 rf_13_146 rfl (cob_any rfl bl0) pf_13_19 rfl h11 ?_
          exact k_Server_takeAnswer_b63_ok hp0 hL hF  g lv σ10  _ h
def k_Server_takeAnswer (σ : CS) (l0 : Nat) (l1 : Nat) : Option (CS) := k_Server_takeAnswer_b0 σ l0 l1
theorem k_Server_takeAnswer_ok {E : CE} {pF : Nat → List Value → xH → Option (Option Value × xH)} (hp0 : xNPc pF) (hL : lcAll E pF) (hF : lcF pF) {d : Nat} {g : CG} {σ : CS} {l0 : Nat} {l1 : Nat} {res : CS} (bl0 : cob σ 13 l0) (bl1 : cob σ 8 l1) (h : k_Server_takeAnswer σ l0 l1 = some res) : cCo E cQ1 pF (d + 3) 168 [.ref (coa E 13 l0), .ref (coa E 8 l1)] none res g σ :=
  cCo_R kk_168 mo_168 ni_168 xm_168 (Nat.le_of_ble_eq_true rfl) (hp0 168 (by decide) _) (k_Server_takeAnswer_b0_ok hp0 hL hF g _ σ l0 l1 bl0 bl1 rfl rfl _ h)
/-! k_Server_sendVote (162), depth 13 -/
def k_Server_sendVote_b26 (F : Nat)  (σ : CS) (s0 : Nat) (s1 : Int32) (l0 : Nat) (l5 : Nat) : Option (CS) :=
  (some (csI σ 8 s0 6 0 s1)).bind fun σ1 =>
  (k_Server_dispatch F σ1 l0 l5).bind fun p3 =>
  some p3
set_option maxRecDepth 4000 in
theorem k_Server_sendVote_b26_ok {E : CE} {pF : Nat → List Value → xH → Option (Option Value × xH)} (hp0 : xNPc pF) (hL : lcAll E pF) (hF : lcF pF) {d : Nat} {F : Nat}   : ∀ (g : CG) (lv : xL) (σ : CS) (s0 : Nat) (s1 : Int32) (l0 : Nat) (l5 : Nat), (cob σ 8 s0) → (cob σ 13 l0) → (cob σ 8 l5) → (xg lv 0 = some (.ref (coa E 13 l0))) → (xg lv 5 = some (.ref (coa E 8 l5))) → ∀ res, k_Server_sendVote_b26 F  σ s0 s1 l0 l5 = some res → cR E (cQx [13, 14]) pF (d + 12) kT162 13 6 none none res g σ (26, lv, [.int s1, .ref (coa E 8 s0)]) := by
  intro g lv σ s0 s1 l0 l5 bs0 bl0 bl5 g0 g5 res h
  unfold k_Server_sendVote_b26 at h
  obtain ⟨σ1, h2, h⟩ := Option.bind_eq_some_iff.mp h
  refine cR_putI lk162_26 rf_13_343 rfl bs0 pf_8_6 rfl h2 ?_
  refine cR_lift (fun _ _ kk => eE_aload_n lk162_29 g0 kk) ?_
  refine cR_lift (fun _ _ kk => eE_aload lk162_30 g5 kk) ?_
  obtain ⟨p3, h4, h⟩ := Option.bind_eq_some_iff.mp h
  refine cR_virtG (by exact cQx_sub rfl) (cl := 13) (i := l0) (as := [.ref (coa E 8 l5)]) lk162_32 mr_13_362 na_132 rfl rfl (by first | exact Nat.le_of_ble_eq_true rfl | (simp [xcat, cvo_cat, cat_i, cat_j, cat_r]; done)) wv_132 wc_132 (cob_any rfl bl0) (k_Server_dispatch_ok hp0 hL hF (d := d + 0) (cob_any rfl bl0) (cob_mon (cput_mon h2) bl5) h4) (fun m5 g_6 g_6e => ?_)
  cases h
  exact cR_end lk162_35 rfl rfl rfl
def k_Server_sendVote_b0 (F : Nat)  (σ : CS) (l0 : Nat) (l1 : Int32) (l2 : Int32) (l3 : Int32) (l4 : Int32) : Option (CS) :=
  (k_Server_letterTo σ l0 l1 l2).bind fun p7 =>
  (some (csI p7.2 8 p7.1 5 0 l3)).bind fun σ17 =>
  if xc0 .eq l4 = true then (
    k_Server_sendVote_b26 F  σ17 p7.1 ((0 : Int32)) l0 p7.1
  ) else (
    k_Server_sendVote_b26 F  σ17 p7.1 ((1 : Int32)) l0 p7.1
  )
set_option maxRecDepth 4000 in
theorem k_Server_sendVote_b0_ok {E : CE} {pF : Nat → List Value → xH → Option (Option Value × xH)} (hp0 : xNPc pF) (hL : lcAll E pF) (hF : lcF pF) {d : Nat} {F : Nat}   : ∀ (g : CG) (lv : xL) (σ : CS) (l0 : Nat) (l1 : Int32) (l2 : Int32) (l3 : Int32) (l4 : Int32), (cob σ 13 l0) → (xg lv 0 = some (.ref (coa E 13 l0))) → (xg lv 1 = some (.int l1)) → (xg lv 2 = some (.int l2)) → (xg lv 3 = some (.int l3)) → (xg lv 4 = some (.int l4)) → ∀ res, k_Server_sendVote_b0 F  σ l0 l1 l2 l3 l4 = some res → cR E (cQx [13, 14]) pF (d + 12) kT162 13 6 none none res g σ (0, lv, []) := by
  intro g lv σ l0 l1 l2 l3 l4 bl0 g0 g1 g2 g3 g4 res h
  unfold k_Server_sendVote_b0 at h
  refine cR_lift (fun _ _ kk => eE_aload_n lk162_0 g0 kk) ?_
  refine cR_lift (fun _ _ kk => eE_iload_n lk162_1 g1 kk) ?_
  refine cR_lift (fun _ _ kk => eE_iload_n lk162_2 g2 kk) ?_
  obtain ⟨p7, h8, h⟩ := Option.bind_eq_some_iff.mp h
  refine cR_rep (fun _ hc => k_Server_letterTo_lt hc bl0 h8) (fun b9 => ?_)
  refine cR_virt (cl := 13) (i := l0) (as := [.int l1, .int l2]) lk162_3 mr_13_351 na_144 rfl rfl (by first | exact Nat.le_of_ble_eq_true rfl | (simp [xcat, cvo_cat, cat_i, cat_j, cat_r]; done)) wv_144 wc_144 bl0 (k_Server_letterTo_ok hp0 hL hF (d := d + 1) bl0 h8) (fun m10  => ?_)
  refine cR_stA (j := 5) lk162_6 (Or.inl rfl) (by decide) (fun vq11 gq12 kq13 => ?_)
  have gq14 := kq13 0 _ (by decide) (fun e => absurd e (by decide)) g0
  have gq15 := kq13 3 _ (by decide) (fun e => absurd e (by decide)) g3
  have gq16 := kq13 4 _ (by decide) (fun _ => rfl) g4
  refine cR_lift (fun _ _ kk => eE_aload lk162_8 gq12 kk) ?_
  refine cR_lift (fun _ _ kk => eE_iload_n lk162_10 gq15 kk) ?_
  obtain ⟨σ17, h18, h⟩ := Option.bind_eq_some_iff.mp h
  refine cR_putI lk162_11 rf_13_342 rfl b9 pf_8_5 rfl h18 ?_
  refine cR_lift (fun _ _ kk => eE_aload lk162_14 gq12 kk) ?_
  refine cR_lift (fun _ _ kk => eE_iload lk162_16 gq16 kk) ?_
  refine cR_if (t := 25) lk162_18 (by decide) (fun c19 => ?_) (fun c19 => ?_)
  · rw [if_pos c19] at h
    refine cR_lift (fun _ _ kk => eE_iconst (v := 0) lk162_25 (by decide) kk) ?_
    exact k_Server_sendVote_b26_ok hp0 hL hF  g vq11 σ17 p7.1 ((0 : Int32)) l0 p7.1 (cob_mon (cput_mon h18) b9) (cob_any rfl bl0) (cob_mon (cput_mon h18) b9) gq14 gq12 _ h
  · rw [if_neg c19] at h
    refine cR_lift (fun _ _ kk => eE_iconst (v := 1) lk162_21 (by decide) kk) ?_
    refine cR_lift (fun _ _ kk => eE_goto (t := 26) lk162_22 (by decide) kk) ?_
    exact k_Server_sendVote_b26_ok hp0 hL hF  g vq11 σ17 p7.1 ((1 : Int32)) l0 p7.1 (cob_mon (cput_mon h18) b9) (cob_any rfl bl0) (cob_mon (cput_mon h18) b9) gq14 gq12 _ h
def k_Server_sendVote (F : Nat) (σ : CS) (l0 : Nat) (l1 : Int32) (l2 : Int32) (l3 : Int32) (l4 : Int32) : Option (CS) := k_Server_sendVote_b0 F σ l0 l1 l2 l3 l4
theorem k_Server_sendVote_ok {E : CE} {pF : Nat → List Value → xH → Option (Option Value × xH)} (hp0 : xNPc pF) (hL : lcAll E pF) (hF : lcF pF) {d : Nat} {g : CG} {σ : CS} {F : Nat} {l0 : Nat} {l1 : Int32} {l2 : Int32} {l3 : Int32} {l4 : Int32} {res : CS} (bl0 : cob σ 13 l0) (h : k_Server_sendVote F σ l0 l1 l2 l3 l4 = some res) : cCo E (cQx [13, 14]) pF (d + 13) 162 [.ref (coa E 13 l0), .int l1, .int l2, .int l3, .int l4] none res g σ :=
  cCo_R kk_162 mo_162 ni_162 xm_162 (Nat.le_of_ble_eq_true rfl) (hp0 162 (by decide) _) (k_Server_sendVote_b0_ok hp0 hL hF g _ σ l0 l1 l2 l3 l4 bl0 rfl rfl rfl rfl rfl _ h)
/-! k_Server_takeAsk (170), depth 14 -/
def k_Server_takeAsk_b87 (F : Nat)  (σ : CS) (l0 : Nat) (l1 : Nat) (l2 : Int32) : Option (CS) :=
  (k_Server_sendVote F σ l0 (cI σ 8 l1 2 0) ((4 : Int32)) (cI σ 13 l0 10 0) l2).bind fun p1 =>
  some p1
set_option maxRecDepth 4000 in
theorem k_Server_takeAsk_b87_ok {E : CE} {pF : Nat → List Value → xH → Option (Option Value × xH)} (hp0 : xNPc pF) (hL : lcAll E pF) (hF : lcF pF) {d : Nat} {F : Nat}   : ∀ (g : CG) (lv : xL) (σ : CS) (l0 : Nat) (l1 : Nat) (l2 : Int32), (cob σ 13 l0) → (cob σ 8 l1) → (xg lv 0 = some (.ref (coa E 13 l0))) → (xg lv 1 = some (.ref (coa E 8 l1))) → (xg lv 2 = some (.int l2)) → ∀ res, k_Server_takeAsk_b87 F  σ l0 l1 l2 = some res → cR E (cQx [13, 14]) pF (d + 13) kT170 13 3 none none res g σ (87, lv, []) := by
  intro g lv σ l0 l1 l2 bl0 bl1 g0 g1 g2 res h
  unfold k_Server_takeAsk_b87 at h
  refine cR_lift (fun _ _ kk => eE_aload_n lk170_87 g0 kk) ?_
  refine cR_lift (fun _ _ kk => eE_aload_n lk170_88 g1 kk) ?_
  refine cR_getI lk170_89 rf_13_181 rfl bl1 ?_
  refine cR_lift (fun _ _ kk => eE_iconst (v := 4) lk170_92 (by decide) kk) ?_
  refine cR_lift (fun _ _ kk => eE_aload_n lk170_93 g0 kk) ?_
  refine cR_getI lk170_94 rf_13_88 rfl bl0 ?_
  refine cR_lift (fun _ _ kk => eE_iload_n lk170_97 g2 kk) ?_
  obtain ⟨p1, h2, h⟩ := Option.bind_eq_some_iff.mp h
  refine cR_virtG (by exact cQx_sub rfl) (cl := 13) (i := l0) (as := [.int (cI σ 8 l1 2 0), .int ((4 : Int32)), .int (cI σ 13 l0 10 0), .int l2]) lk170_98 mr_13_502 na_162 rfl rfl (by first | exact Nat.le_of_ble_eq_true rfl | (simp [xcat, cvo_cat, cat_i, cat_j, cat_r]; done)) wv_162 wc_162 bl0 (k_Server_sendVote_ok hp0 hL hF (d := d + 0) bl0 h2) (fun m3 g_4 g_4e => ?_)
  cases h
  exact cR_end lk170_101 rfl rfl rfl
def k_Server_takeAsk_b71 (F : Nat)  (σ : CS) (l0 : Nat) (l1 : Nat) (l2 : Int32) : Option (CS) :=
  (some (csI σ 13 l0 12 0 ((0 : Int32)))).bind fun σ5 =>
  (k_World_drawAlarm σ5 0 (cI σ5 13 l0 0 0)).bind fun p7 =>
  k_Server_takeAsk_b87 F  p7 l0 l1 l2
set_option maxRecDepth 4000 in
theorem k_Server_takeAsk_b71_ok {E : CE} {pF : Nat → List Value → xH → Option (Option Value × xH)} (hp0 : xNPc pF) (hL : lcAll E pF) (hF : lcF pF) {d : Nat} {F : Nat}   : ∀ (g : CG) (lv : xL) (σ : CS) (l0 : Nat) (l1 : Nat) (l2 : Int32), (cob σ 13 l0) → (cob σ 8 l1) → (xg lv 0 = some (.ref (coa E 13 l0))) → (xg lv 1 = some (.ref (coa E 8 l1))) → (xg lv 2 = some (.int l2)) → ∀ res, k_Server_takeAsk_b71 F  σ l0 l1 l2 = some res → cR E (cQx [13, 14]) pF (d + 13) kT170 13 3 none none res g σ (71, lv, []) := by
  intro g lv σ l0 l1 l2 bl0 bl1 g0 g1 g2 res h
  unfold k_Server_takeAsk_b71 at h
  refine cR_lift (fun _ _ kk => eE_aload_n lk170_71 g0 kk) ?_
  refine cR_lift (fun _ _ kk => eE_iconst (v := 0) lk170_72 (by decide) kk) ?_
  obtain ⟨σ5, h6, h⟩ := Option.bind_eq_some_iff.mp h
  refine cR_putI lk170_73 rf_13_85 rfl bl0 pf_13_12 rfl h6 ?_
  refine cR_lift (fun _ _ kk => eE_aload_n lk170_76 g0 kk) ?_
  refine cR_getO (cl' := 14) (i' := 0) lk170_77 rf_13_63 rfl rfl (cob_any rfl bl0) ?_
  refine cR_lift (fun _ _ kk => eE_aload_n lk170_80 g0 kk) ?_
  refine cR_getI lk170_81 rf_13_60 rfl (cob_any rfl bl0) ?_
  obtain ⟨p7, h8, h⟩ := Option.bind_eq_some_iff.mp h
  refine cR_virt (cl := 14) (i := 0) (as := [.int (cI σ5 13 l0 0 0)]) lk170_84 mr_13_251 na_188 rfl rfl (by first | exact Nat.le_of_ble_eq_true rfl | (simp [xcat, cvo_cat, cat_i, cat_j, cat_r]; done)) wv_188 wc_188 (cob_0 (c := σ5) (cl := 14) (by decide) rfl rfl) (k_World_drawAlarm_ok hp0 hL hF (d := d + 11) (cob_0 (c := σ5) (cl := 14) (by decide) rfl rfl) h8) (fun m9  => ?_)
  exact k_Server_takeAsk_b87_ok hp0 hL hF  g lv p7 l0 l1 l2 (cob_any rfl bl0) (cob_mon m9 (cob_mon (cput_mon h6) bl1)) g0 g1 g2 _ h
def k_Server_takeAsk_b43 (F : Nat)  (σ : CS) (s0 : Int32) (l0 : Nat) (l1 : Nat) : Option (CS) :=
  if xc0 .eq s0 = true then (
    k_Server_takeAsk_b87 F  σ l0 l1 s0
  ) else (
    if xc2 .eq (cI σ 13 l0 11 0) (cI σ 8 l1 2 0) = true then (
      k_Server_takeAsk_b71 F  σ l0 l1 s0
    ) else (
      (k_Server_saveTerm σ l0 (cI σ 13 l0 10 0) (cI σ 8 l1 2 0)).bind fun p17 =>
      k_Server_takeAsk_b71 F  p17 l0 l1 s0
    )
  )
set_option maxRecDepth 4000 in
theorem k_Server_takeAsk_b43_ok {E : CE} {pF : Nat → List Value → xH → Option (Option Value × xH)} (hp0 : xNPc pF) (hL : lcAll E pF) (hF : lcF pF) {d : Nat} {F : Nat}   : ∀ (g : CG) (lv : xL) (σ : CS) (s0 : Int32) (l0 : Nat) (l1 : Nat), (cob σ 13 l0) → (cob σ 8 l1) → (xg lv 0 = some (.ref (coa E 13 l0))) → (xg lv 1 = some (.ref (coa E 8 l1))) → ∀ res, k_Server_takeAsk_b43 F  σ s0 l0 l1 = some res → cR E (cQx [13, 14]) pF (d + 13) kT170 13 3 none none res g σ (43, lv, [.int s0]) := by
  intro g lv σ s0 l0 l1 bl0 bl1 g0 g1 res h
  unfold k_Server_takeAsk_b43 at h
  refine cR_stI (j := 2) lk170_43 (Or.inr ⟨_, rfl, rfl⟩) (by decide) (fun vq10 gq11 kq12 => ?_)
  have gq13 := kq12 0 _ (by decide) (fun e => absurd e (by decide)) g0
  have gq14 := kq12 1 _ (by decide) (fun _ => rfl) g1
  refine cR_lift (fun _ _ kk => eE_iload_n lk170_44 gq11 kk) ?_
  refine cR_if (t := 87) lk170_45 (by decide) (fun c15 => ?_) (fun c15 => ?_)
  · rw [if_pos c15] at h
    exact k_Server_takeAsk_b87_ok hp0 hL hF  g vq10 σ l0 l1 s0 bl0 bl1 gq13 gq14 gq11 _ h
  · rw [if_neg c15] at h
    refine cR_lift (fun _ _ kk => eE_aload_n lk170_48 gq13 kk) ?_
    refine cR_getI lk170_49 rf_13_43 rfl bl0 ?_
    refine cR_lift (fun _ _ kk => eE_aload_n lk170_52 gq14 kk) ?_
    refine cR_getI lk170_53 rf_13_181 rfl bl1 ?_
    refine cR_icmp (t := 71) lk170_56 (by decide) (fun c16 => ?_) (fun c16 => ?_)
    · rw [if_pos c16] at h
      exact k_Server_takeAsk_b71_ok hp0 hL hF  g vq10 σ l0 l1 s0 bl0 bl1 gq13 gq14 gq11 _ h
    · rw [if_neg c16] at h
      refine cR_lift (fun _ _ kk => eE_aload_n lk170_59 gq13 kk) ?_
      refine cR_lift (fun _ _ kk => eE_aload_n lk170_60 gq13 kk) ?_
      refine cR_getI lk170_61 rf_13_88 rfl bl0 ?_
      refine cR_lift (fun _ _ kk => eE_aload_n lk170_64 gq14 kk) ?_
      refine cR_getI lk170_65 rf_13_181 rfl bl1 ?_
      obtain ⟨p17, h18, h⟩ := Option.bind_eq_some_iff.mp h
      refine cR_virt (cl := 13) (i := l0) (as := [.int (cI σ 13 l0 10 0), .int (cI σ 8 l1 2 0)]) lk170_68 mr_13_425 na_156 rfl rfl (by first | exact Nat.le_of_ble_eq_true rfl | (simp [xcat, cvo_cat, cat_i, cat_j, cat_r]; done)) wv_156 wc_156 bl0 (k_Server_saveTerm_ok hp0 hL hF (d := d + 10) bl0 h18) (fun m19  => ?_)
      exact k_Server_takeAsk_b71_ok hp0 hL hF  g vq10 p17 l0 l1 s0 (cob_any rfl bl0) (cob_mon m19 bl1) gq13 gq14 gq11 _ h
def k_Server_takeAsk_b42 (F : Nat)  (σ : CS) (l0 : Nat) (l1 : Nat) : Option (CS) :=
  k_Server_takeAsk_b43 F  σ ((0 : Int32)) l0 l1
set_option maxRecDepth 4000 in
theorem k_Server_takeAsk_b42_ok {E : CE} {pF : Nat → List Value → xH → Option (Option Value × xH)} (hp0 : xNPc pF) (hL : lcAll E pF) (hF : lcF pF) {d : Nat} {F : Nat}   : ∀ (g : CG) (lv : xL) (σ : CS) (l0 : Nat) (l1 : Nat), (cob σ 13 l0) → (cob σ 8 l1) → (xg lv 0 = some (.ref (coa E 13 l0))) → (xg lv 1 = some (.ref (coa E 8 l1))) → ∀ res, k_Server_takeAsk_b42 F  σ l0 l1 = some res → cR E (cQx [13, 14]) pF (d + 13) kT170 13 3 none none res g σ (42, lv, []) := by
  intro g lv σ l0 l1 bl0 bl1 g0 g1 res h
  unfold k_Server_takeAsk_b42 at h
  refine cR_lift (fun _ _ kk => eE_iconst (v := 0) lk170_42 (by decide) kk) ?_
  exact k_Server_takeAsk_b43_ok hp0 hL hF  g lv σ ((0 : Int32)) l0 l1 bl0 bl1 g0 g1 _ h
def k_Server_takeAsk_b30 (F : Nat)  (σ : CS) (l0 : Nat) (l1 : Nat) : Option (CS) :=
  (k_Server_isAsNew σ l0 l1).bind fun p20 =>
  if xc0 .eq p20 = true then (
    k_Server_takeAsk_b42 F  σ l0 l1
  ) else (
    k_Server_takeAsk_b43 F  σ ((1 : Int32)) l0 l1
  )
set_option maxRecDepth 4000 in
theorem k_Server_takeAsk_b30_ok {E : CE} {pF : Nat → List Value → xH → Option (Option Value × xH)} (hp0 : xNPc pF) (hL : lcAll E pF) (hF : lcF pF) {d : Nat} {F : Nat}   : ∀ (g : CG) (lv : xL) (σ : CS) (l0 : Nat) (l1 : Nat), (cob σ 13 l0) → (cob σ 8 l1) → (xg lv 0 = some (.ref (coa E 13 l0))) → (xg lv 1 = some (.ref (coa E 8 l1))) → ∀ res, k_Server_takeAsk_b30 F  σ l0 l1 = some res → cR E (cQx [13, 14]) pF (d + 13) kT170 13 3 none none res g σ (30, lv, []) := by
  intro g lv σ l0 l1 bl0 bl1 g0 g1 res h
  unfold k_Server_takeAsk_b30 at h
  refine cR_lift (fun _ _ kk => eE_aload_n lk170_30 g0 kk) ?_
  refine cR_lift (fun _ _ kk => eE_aload_n lk170_31 g1 kk) ?_
  obtain ⟨p20, h21, h⟩ := Option.bind_eq_some_iff.mp h
  refine cR_virt (cl := 13) (i := l0) (as := [.ref (coa E 8 l1)]) lk170_32 mr_13_499 na_141 rfl rfl (by first | exact Nat.le_of_ble_eq_true rfl | (simp [xcat, cvo_cat, cat_i, cat_j, cat_r]; done)) wv_141 wc_141 bl0 (k_Server_isAsNew_ok hp0 hL hF (d := d + 10) bl0 bl1 h21) (fun m22  => ?_)
  refine cR_if (t := 42) lk170_35 (by decide) (fun c23 => ?_) (fun c23 => ?_)
  · rw [if_pos c23] at h
    exact k_Server_takeAsk_b42_ok hp0 hL hF  g lv σ l0 l1 bl0 bl1 g0 g1 _ h
  · rw [if_neg c23] at h
    refine cR_lift (fun _ _ kk => eE_iconst (v := 1) lk170_38 (by decide) kk) ?_
    refine cR_lift (fun _ _ kk => eE_goto (t := 43) lk170_39 (by decide) kk) ?_
    exact k_Server_takeAsk_b43_ok hp0 hL hF  g lv σ ((1 : Int32)) l0 l1 bl0 bl1 g0 g1 _ h
def k_Server_takeAsk_b0 (F : Nat)  (σ : CS) (l0 : Nat) (l1 : Nat) : Option (CS) :=
  if xc2 .ne (cI σ 8 l1 5 0) (cI σ 13 l0 10 0) = true then (
    k_Server_takeAsk_b42 F  σ l0 l1
  ) else (
    if xc2 .eq (cI σ 13 l0 11 0) ((-1 : Int32)) = true then (
      k_Server_takeAsk_b30 F  σ l0 l1
    ) else (
      if xc2 .ne (cI σ 13 l0 11 0) (cI σ 8 l1 2 0) = true then (
        k_Server_takeAsk_b42 F  σ l0 l1
      ) else (
        k_Server_takeAsk_b30 F  σ l0 l1
      )
    )
  )
set_option maxRecDepth 4000 in
theorem k_Server_takeAsk_b0_ok {E : CE} {pF : Nat → List Value → xH → Option (Option Value × xH)} (hp0 : xNPc pF) (hL : lcAll E pF) (hF : lcF pF) {d : Nat} {F : Nat}   : ∀ (g : CG) (lv : xL) (σ : CS) (l0 : Nat) (l1 : Nat), (cob σ 13 l0) → (cob σ 8 l1) → (xg lv 0 = some (.ref (coa E 13 l0))) → (xg lv 1 = some (.ref (coa E 8 l1))) → ∀ res, k_Server_takeAsk_b0 F  σ l0 l1 = some res → cR E (cQx [13, 14]) pF (d + 13) kT170 13 3 none none res g σ (0, lv, []) := by
  intro g lv σ l0 l1 bl0 bl1 g0 g1 res h
  unfold k_Server_takeAsk_b0 at h
  refine cR_lift (fun _ _ kk => eE_aload_n lk170_0 g1 kk) ?_
  refine cR_getI lk170_1 rf_13_342 rfl bl1 ?_
  refine cR_lift (fun _ _ kk => eE_aload_n lk170_4 g0 kk) ?_
  refine cR_getI lk170_5 rf_13_88 rfl bl0 ?_
  refine cR_icmp (t := 42) lk170_8 (by decide) (fun c24 => ?_) (fun c24 => ?_)
  · rw [if_pos c24] at h
    exact k_Server_takeAsk_b42_ok hp0 hL hF  g lv σ l0 l1 bl0 bl1 g0 g1 _ h
  · rw [if_neg c24] at h
    refine cR_lift (fun _ _ kk => eE_aload_n lk170_11 g0 kk) ?_
    refine cR_getI lk170_12 rf_13_43 rfl bl0 ?_
    refine cR_lift (fun _ _ kk => eE_iconst (v := (-1)) lk170_15 (by decide) kk) ?_
    refine cR_icmp (t := 30) lk170_16 (by decide) (fun c25 => ?_) (fun c25 => ?_)
    · rw [if_pos c25] at h
      exact k_Server_takeAsk_b30_ok hp0 hL hF  g lv σ l0 l1 bl0 bl1 g0 g1 _ h
    · rw [if_neg c25] at h
      refine cR_lift (fun _ _ kk => eE_aload_n lk170_19 g0 kk) ?_
      refine cR_getI lk170_20 rf_13_43 rfl bl0 ?_
      refine cR_lift (fun _ _ kk => eE_aload_n lk170_23 g1 kk) ?_
      refine cR_getI lk170_24 rf_13_181 rfl bl1 ?_
      refine cR_icmp (t := 42) lk170_27 (by decide) (fun c26 => ?_) (fun c26 => ?_)
      · rw [if_pos c26] at h
        exact k_Server_takeAsk_b42_ok hp0 hL hF  g lv σ l0 l1 bl0 bl1 g0 g1 _ h
      · rw [if_neg c26] at h
        exact k_Server_takeAsk_b30_ok hp0 hL hF  g lv σ l0 l1 bl0 bl1 g0 g1 _ h
def k_Server_takeAsk (F : Nat) (σ : CS) (l0 : Nat) (l1 : Nat) : Option (CS) := k_Server_takeAsk_b0 F σ l0 l1
theorem k_Server_takeAsk_ok {E : CE} {pF : Nat → List Value → xH → Option (Option Value × xH)} (hp0 : xNPc pF) (hL : lcAll E pF) (hF : lcF pF) {d : Nat} {g : CG} {σ : CS} {F : Nat} {l0 : Nat} {l1 : Nat} {res : CS} (bl0 : cob σ 13 l0) (bl1 : cob σ 8 l1) (h : k_Server_takeAsk F σ l0 l1 = some res) : cCo E (cQx [13, 14]) pF (d + 14) 170 [.ref (coa E 13 l0), .ref (coa E 8 l1)] none res g σ :=
  cCo_R kk_170 mo_170 ni_170 xm_170 (Nat.le_of_ble_eq_true rfl) (hp0 170 (by decide) _) (k_Server_takeAsk_b0_ok hp0 hL hF g _ σ l0 l1 bl0 bl1 rfl rfl _ h)
/-! k_Server_takePreanswer (176), depth 3 -/
def k_Server_takePreanswer_b65  (σ : CS) : Option (CS) :=
  some σ
set_option maxRecDepth 4000 in
theorem k_Server_takePreanswer_b65_ok {E : CE} {pF : Nat → List Value → xH → Option (Option Value × xH)} (hp0 : xNPc pF) (hL : lcAll E pF) (hF : lcF pF) {d : Nat}   : ∀ (g : CG) (lv : xL) (σ : CS), ∀ res, k_Server_takePreanswer_b65  σ = some res → cR E cQ1 pF (d + 2) kT176 13 2 none none res g σ (65, lv, []) := by
  intro g lv σ res h
  unfold k_Server_takePreanswer_b65 at h
  cases h
  exact cR_end lk176_65 rfl rfl rfl
def k_Server_takePreanswer_b0  (σ : CS) (l0 : Nat) (l1 : Nat) : Option (CS) :=
  if xc2 .ne (cI σ 8 l1 6 0) ((1 : Int32)) = true then (
    k_Server_takePreanswer_b65  σ
  ) else (
    if xc2 .ne (cI σ 8 l1 5 0) ((cI σ 13 l0 10 0) + ((1 : Int32))) = true then (
      k_Server_takePreanswer_b65  σ
    ) else (
      if xc2 .ne (cI σ 13 l0 12 0) ((1 : Int32)) = true then (
        k_Server_takePreanswer_b65  σ
      ) else (
        (some (csI σ 13 l0 15 0 ((cI σ 13 l0 15 0) ||| (((1 : Int32)) <<< ((cI σ 8 l1 2 0) &&& 31))))).bind fun σ4 =>
        (k_Server_isMajority σ4 l0 (cI σ4 13 l0 15 0)).bind fun p6 =>
        if xc0 .eq p6 = true then (
          k_Server_takePreanswer_b65  σ4
        ) else (
          (some (csI σ4 13 l0 19 0 ((cI σ4 13 l0 19 0) ||| ((1 : Int32))))).bind fun σ10 =>
          k_Server_takePreanswer_b65  σ10
        )
      )
    )
  )
set_option maxRecDepth 4000 in
theorem k_Server_takePreanswer_b0_ok {E : CE} {pF : Nat → List Value → xH → Option (Option Value × xH)} (hp0 : xNPc pF) (hL : lcAll E pF) (hF : lcF pF) {d : Nat}   : ∀ (g : CG) (lv : xL) (σ : CS) (l0 : Nat) (l1 : Nat), (cob σ 13 l0) → (cob σ 8 l1) → (xg lv 0 = some (.ref (coa E 13 l0))) → (xg lv 1 = some (.ref (coa E 8 l1))) → ∀ res, k_Server_takePreanswer_b0  σ l0 l1 = some res → cR E cQ1 pF (d + 2) kT176 13 2 none none res g σ (0, lv, []) := by
  intro g lv σ l0 l1 bl0 bl1 g0 g1 res h
  unfold k_Server_takePreanswer_b0 at h
  refine cR_lift (fun _ _ kk => eE_aload_n lk176_0 g1 kk) ?_
  refine cR_getI lk176_1 rf_13_343 rfl bl1 ?_
  refine cR_lift (fun _ _ kk => eE_iconst (v := 1) lk176_4 (by decide) kk) ?_
  refine cR_icmp (t := 65) lk176_5 (by decide) (fun c1 => ?_) (fun c1 => ?_)
  · rw [if_pos c1] at h
    exact k_Server_takePreanswer_b65_ok hp0 hL hF  g lv σ  _ h
  · rw [if_neg c1] at h
    refine cR_lift (fun _ _ kk => eE_aload_n lk176_8 g1 kk) ?_
    refine cR_getI lk176_9 rf_13_342 rfl bl1 ?_
    refine cR_lift (fun _ _ kk => eE_aload_n lk176_12 g0 kk) ?_
    refine cR_getI lk176_13 rf_13_88 rfl bl0 ?_
    refine cR_lift (fun _ _ kk => eE_iconst (v := 1) lk176_16 (by decide) kk) ?_
    refine cR_lift (fun _ _ kk => eE_iadd lk176_17 kk) ?_
    refine cR_icmp (t := 65) lk176_18 (by decide) (fun c2 => ?_) (fun c2 => ?_)
    · rw [if_pos c2] at h
      exact k_Server_takePreanswer_b65_ok hp0 hL hF  g lv σ  _ h
    · rw [if_neg c2] at h
      refine cR_lift (fun _ _ kk => eE_aload_n lk176_21 g0 kk) ?_
      refine cR_getI lk176_22 rf_13_85 rfl bl0 ?_
      refine cR_lift (fun _ _ kk => eE_iconst (v := 1) lk176_25 (by decide) kk) ?_
      refine cR_icmp (t := 65) lk176_26 (by decide) (fun c3 => ?_) (fun c3 => ?_)
      · rw [if_pos c3] at h
        exact k_Server_takePreanswer_b65_ok hp0 hL hF  g lv σ  _ h
      · rw [if_neg c3] at h
        refine cR_lift (fun _ _ kk => eE_aload_n lk176_29 g0 kk) ?_
        refine cR_lift (fun _ _ kk => eE_dup lk176_30 rfl kk) ?_
        refine cR_getI lk176_31 rf_13_109 rfl bl0 ?_
        refine cR_lift (fun _ _ kk => eE_iconst (v := 1) lk176_34 (by decide) kk) ?_
        refine cR_lift (fun _ _ kk => eE_aload_n lk176_35 g1 kk) ?_
        refine cR_getI lk176_36 rf_13_181 rfl bl1 ?_
        refine cR_lift (fun _ _ kk => eE_ishl lk176_39 kk) ?_
        refine cR_lift (fun _ _ kk => eE_ior lk176_40 kk) ?_
        obtain ⟨σ4, h5, h⟩ := Option.bind_eq_some_iff.mp h
        refine cR_putI lk176_41 rf_13_109 rfl bl0 pf_13_15 rfl h5 ?_
        refine cR_lift (fun _ _ kk => eE_aload_n lk176_44 g0 kk) ?_
        refine cR_lift (fun _ _ kk => eE_aload_n lk176_45 g0 kk) ?_
        refine cR_getI lk176_46 rf_13_109 rfl (cob_any rfl bl0) ?_
        obtain ⟨p6, h7, h⟩ := Option.bind_eq_some_iff.mp h
        refine cR_virt (cl := 13) (i := l0) (as := [.int (cI σ4 13 l0 15 0)]) lk176_49 mr_13_444 na_142 rfl rfl (by first | exact Nat.le_of_ble_eq_true rfl | (simp [xcat, cvo_cat, cat_i, cat_j, cat_r]; done)) wv_142 wc_142 (cob_any rfl bl0) (k_Server_isMajority_ok hp0 hL hF (d := d + 0) (cob_any rfl bl0) h7) (fun m8  => ?_)
        refine cR_if (t := 65) lk176_52 (by decide) (fun c9 => ?_) (fun c9 => ?_)
        · rw [if_pos c9] at h
          exact k_Server_takePreanswer_b65_ok hp0 hL hF  g lv σ4  _ h
        · rw [if_neg c9] at h
          refine cR_lift (fun _ _ kk => eE_aload_n lk176_55 g0 kk) ?_
          refine cR_lift (fun _ _ kk => eE_dup lk176_56 rfl kk) ?_
          refine cR_getI lk176_57 rf_13_146 rfl (cob_any rfl bl0) ?_
          refine cR_lift (fun _ _ kk => eE_iconst (v := 1) lk176_60 (by decide) kk) ?_
          refine cR_lift (fun _ _ kk => eE_ior lk176_61 kk) ?_
          obtain ⟨σ10, h11, h⟩ := Option.bind_eq_some_iff.mp h
          refine cR_putI lk176_62 rf_13_146 rfl (cob_any rfl bl0) pf_13_19 rfl h11 ?_
          exact k_Server_takePreanswer_b65_ok hp0 hL hF  g lv σ10  _ h
def k_Server_takePreanswer (σ : CS) (l0 : Nat) (l1 : Nat) : Option (CS) := k_Server_takePreanswer_b0 σ l0 l1
theorem k_Server_takePreanswer_ok {E : CE} {pF : Nat → List Value → xH → Option (Option Value × xH)} (hp0 : xNPc pF) (hL : lcAll E pF) (hF : lcF pF) {d : Nat} {g : CG} {σ : CS} {l0 : Nat} {l1 : Nat} {res : CS} (bl0 : cob σ 13 l0) (bl1 : cob σ 8 l1) (h : k_Server_takePreanswer σ l0 l1 = some res) : cCo E cQ1 pF (d + 3) 176 [.ref (coa E 13 l0), .ref (coa E 8 l1)] none res g σ :=
  cCo_R kk_176 mo_176 ni_176 xm_176 (Nat.le_of_ble_eq_true rfl) (hp0 176 (by decide) _) (k_Server_takePreanswer_b0_ok hp0 hL hF g _ σ l0 l1 bl0 bl1 rfl rfl _ h)
/-! k_Server_takePreask (177), depth 14 -/
def k_Server_takePreask_b79 (F : Nat)  (σ : CS) (s0 : Nat) (s1 : Int32) (s2 : Int32) (s3 : Int32) (l2 : Int32) : Option (CS) :=
  (k_Server_sendVote F σ s0 s1 s2 s3 l2).bind fun p1 =>
  some p1
set_option maxRecDepth 4000 in
theorem k_Server_takePreask_b79_ok {E : CE} {pF : Nat → List Value → xH → Option (Option Value × xH)} (hp0 : xNPc pF) (hL : lcAll E pF) (hF : lcF pF) {d : Nat} {F : Nat}   : ∀ (g : CG) (lv : xL) (σ : CS) (s0 : Nat) (s1 : Int32) (s2 : Int32) (s3 : Int32) (l2 : Int32), (cob σ 13 s0) → (xg lv 2 = some (.int l2)) → ∀ res, k_Server_takePreask_b79 F  σ s0 s1 s2 s3 l2 = some res → cR E (cQx [13, 14]) pF (d + 13) kT177 13 3 none none res g σ (79, lv, [.int s3, .int s2, .int s1, .ref (coa E 13 s0)]) := by
  intro g lv σ s0 s1 s2 s3 l2 bs0 g2 res h
  unfold k_Server_takePreask_b79 at h
  refine cR_lift (fun _ _ kk => eE_iload_n lk177_79 g2 kk) ?_
  obtain ⟨p1, h2, h⟩ := Option.bind_eq_some_iff.mp h
  refine cR_virtG (by exact cQx_sub rfl) (cl := 13) (i := s0) (as := [.int s1, .int s2, .int s3, .int l2]) lk177_80 mr_13_502 na_162 rfl rfl (by first | exact Nat.le_of_ble_eq_true rfl | (simp [xcat, cvo_cat, cat_i, cat_j, cat_r]; done)) wv_162 wc_162 bs0 (k_Server_sendVote_ok hp0 hL hF (d := d + 0) bs0 h2) (fun m3 g_4 g_4e => ?_)
  cases h
  exact cR_end lk177_83 rfl rfl rfl
def k_Server_takePreask_b57 (F : Nat)  (σ : CS) (s0 : Int32) (l0 : Nat) (l1 : Nat) : Option (CS) :=
  if xc0 .eq s0 = true then (
    k_Server_takePreask_b79 F  σ l0 (cI σ 8 l1 2 0) ((2 : Int32)) (cI σ 13 l0 10 0) s0
  ) else (
    k_Server_takePreask_b79 F  σ l0 (cI σ 8 l1 2 0) ((2 : Int32)) (cI σ 8 l1 5 0) s0
  )
set_option maxRecDepth 4000 in
theorem k_Server_takePreask_b57_ok {E : CE} {pF : Nat → List Value → xH → Option (Option Value × xH)} (hp0 : xNPc pF) (hL : lcAll E pF) (hF : lcF pF) {d : Nat} {F : Nat}   : ∀ (g : CG) (lv : xL) (σ : CS) (s0 : Int32) (l0 : Nat) (l1 : Nat), (cob σ 13 l0) → (cob σ 8 l1) → (xg lv 0 = some (.ref (coa E 13 l0))) → (xg lv 1 = some (.ref (coa E 8 l1))) → ∀ res, k_Server_takePreask_b57 F  σ s0 l0 l1 = some res → cR E (cQx [13, 14]) pF (d + 13) kT177 13 3 none none res g σ (57, lv, [.int s0]) := by
  intro g lv σ s0 l0 l1 bl0 bl1 g0 g1 res h
  unfold k_Server_takePreask_b57 at h
  refine cR_stI (j := 2) lk177_57 (Or.inr ⟨_, rfl, rfl⟩) (by decide) (fun vq5 gq6 kq7 => ?_)
  have gq8 := kq7 0 _ (by decide) (fun e => absurd e (by decide)) g0
  have gq9 := kq7 1 _ (by decide) (fun _ => rfl) g1
  refine cR_lift (fun _ _ kk => eE_aload_n lk177_58 gq8 kk) ?_
  refine cR_lift (fun _ _ kk => eE_aload_n lk177_59 gq9 kk) ?_
  refine cR_getI lk177_60 rf_13_181 rfl bl1 ?_
  refine cR_lift (fun _ _ kk => eE_iconst (v := 2) lk177_63 (by decide) kk) ?_
  refine cR_lift (fun _ _ kk => eE_iload_n lk177_64 gq6 kk) ?_
  refine cR_if (t := 75) lk177_65 (by decide) (fun c10 => ?_) (fun c10 => ?_)
  · rw [if_pos c10] at h
    refine cR_lift (fun _ _ kk => eE_aload_n lk177_75 gq8 kk) ?_
    refine cR_getI lk177_76 rf_13_88 rfl bl0 ?_
    exact k_Server_takePreask_b79_ok hp0 hL hF  g vq5 σ l0 (cI σ 8 l1 2 0) ((2 : Int32)) (cI σ 13 l0 10 0) s0 bl0 gq6 _ h
  · rw [if_neg c10] at h
    refine cR_lift (fun _ _ kk => eE_aload_n lk177_68 gq9 kk) ?_
    refine cR_getI lk177_69 rf_13_342 rfl bl1 ?_
    refine cR_lift (fun _ _ kk => eE_goto (t := 79) lk177_72 (by decide) kk) ?_
    exact k_Server_takePreask_b79_ok hp0 hL hF  g vq5 σ l0 (cI σ 8 l1 2 0) ((2 : Int32)) (cI σ 8 l1 5 0) s0 bl0 gq6 _ h
def k_Server_takePreask_b52 (F : Nat)  (σ : CS) (l0 : Nat) (l1 : Nat) : Option (CS) :=
  k_Server_takePreask_b57 F  σ ((1 : Int32)) l0 l1
set_option maxRecDepth 4000 in
theorem k_Server_takePreask_b52_ok {E : CE} {pF : Nat → List Value → xH → Option (Option Value × xH)} (hp0 : xNPc pF) (hL : lcAll E pF) (hF : lcF pF) {d : Nat} {F : Nat}   : ∀ (g : CG) (lv : xL) (σ : CS) (l0 : Nat) (l1 : Nat), (cob σ 13 l0) → (cob σ 8 l1) → (xg lv 0 = some (.ref (coa E 13 l0))) → (xg lv 1 = some (.ref (coa E 8 l1))) → ∀ res, k_Server_takePreask_b52 F  σ l0 l1 = some res → cR E (cQx [13, 14]) pF (d + 13) kT177 13 3 none none res g σ (52, lv, []) := by
  intro g lv σ l0 l1 bl0 bl1 g0 g1 res h
  unfold k_Server_takePreask_b52 at h
  refine cR_lift (fun _ _ kk => eE_iconst (v := 1) lk177_52 (by decide) kk) ?_
  refine cR_lift (fun _ _ kk => eE_goto (t := 57) lk177_53 (by decide) kk) ?_
  exact k_Server_takePreask_b57_ok hp0 hL hF  g lv σ ((1 : Int32)) l0 l1 bl0 bl1 g0 g1 _ h
def k_Server_takePreask_b56 (F : Nat)  (σ : CS) (l0 : Nat) (l1 : Nat) : Option (CS) :=
  k_Server_takePreask_b57 F  σ ((0 : Int32)) l0 l1
set_option maxRecDepth 4000 in
theorem k_Server_takePreask_b56_ok {E : CE} {pF : Nat → List Value → xH → Option (Option Value × xH)} (hp0 : xNPc pF) (hL : lcAll E pF) (hF : lcF pF) {d : Nat} {F : Nat}   : ∀ (g : CG) (lv : xL) (σ : CS) (l0 : Nat) (l1 : Nat), (cob σ 13 l0) → (cob σ 8 l1) → (xg lv 0 = some (.ref (coa E 13 l0))) → (xg lv 1 = some (.ref (coa E 8 l1))) → ∀ res, k_Server_takePreask_b56 F  σ l0 l1 = some res → cR E (cQx [13, 14]) pF (d + 13) kT177 13 3 none none res g σ (56, lv, []) := by
  intro g lv σ l0 l1 bl0 bl1 g0 g1 res h
  unfold k_Server_takePreask_b56 at h
  refine cR_lift (fun _ _ kk => eE_iconst (v := 0) lk177_56 (by decide) kk) ?_
  exact k_Server_takePreask_b57_ok hp0 hL hF  g lv σ ((0 : Int32)) l0 l1 bl0 bl1 g0 g1 _ h
def k_Server_takePreask_b0 (F : Nat)  (σ : CS) (l0 : Nat) (l1 : Nat) : Option (CS) :=
  if xc2 .le (cI σ 8 l1 5 0) (cI σ 13 l0 10 0) = true then (
    k_Server_takePreask_b56 F  σ l0 l1
  ) else (
    (k_Server_isAsNew σ l0 l1).bind fun p12 =>
    if xc0 .eq p12 = true then (
      k_Server_takePreask_b56 F  σ l0 l1
    ) else (
      if xc2 .eq (cI σ 13 l0 12 0) ((3 : Int32)) = true then (
        k_Server_takePreask_b56 F  σ l0 l1
      ) else (
        if xc2 .eq (cI σ 13 l0 14 0) ((-1 : Int32)) = true then (
          k_Server_takePreask_b52 F  σ l0 l1
        ) else (
          if xc2 .gt (cI σ 13 l0 14 0) ((cI σ 14 0 0 0) - ((50 : Int32))) = true then (
            k_Server_takePreask_b56 F  σ l0 l1
          ) else (
            k_Server_takePreask_b52 F  σ l0 l1
          )
        )
      )
    )
  )
set_option maxRecDepth 4000 in
theorem k_Server_takePreask_b0_ok {E : CE} {pF : Nat → List Value → xH → Option (Option Value × xH)} (hp0 : xNPc pF) (hL : lcAll E pF) (hF : lcF pF) {d : Nat} {F : Nat}   : ∀ (g : CG) (lv : xL) (σ : CS) (l0 : Nat) (l1 : Nat), (cob σ 13 l0) → (cob σ 8 l1) → (xg lv 0 = some (.ref (coa E 13 l0))) → (xg lv 1 = some (.ref (coa E 8 l1))) → ∀ res, k_Server_takePreask_b0 F  σ l0 l1 = some res → cR E (cQx [13, 14]) pF (d + 13) kT177 13 3 none none res g σ (0, lv, []) := by
  intro g lv σ l0 l1 bl0 bl1 g0 g1 res h
  unfold k_Server_takePreask_b0 at h
  refine cR_lift (fun _ _ kk => eE_aload_n lk177_0 g1 kk) ?_
  refine cR_getI lk177_1 rf_13_342 rfl bl1 ?_
  refine cR_lift (fun _ _ kk => eE_aload_n lk177_4 g0 kk) ?_
  refine cR_getI lk177_5 rf_13_88 rfl bl0 ?_
  refine cR_icmp (t := 56) lk177_8 (by decide) (fun c11 => ?_) (fun c11 => ?_)
  · rw [if_pos c11] at h
    exact k_Server_takePreask_b56_ok hp0 hL hF  g lv σ l0 l1 bl0 bl1 g0 g1 _ h
  · rw [if_neg c11] at h
    refine cR_lift (fun _ _ kk => eE_aload_n lk177_11 g0 kk) ?_
    refine cR_lift (fun _ _ kk => eE_aload_n lk177_12 g1 kk) ?_
    obtain ⟨p12, h13, h⟩ := Option.bind_eq_some_iff.mp h
    refine cR_virt (cl := 13) (i := l0) (as := [.ref (coa E 8 l1)]) lk177_13 mr_13_499 na_141 rfl rfl (by first | exact Nat.le_of_ble_eq_true rfl | (simp [xcat, cvo_cat, cat_i, cat_j, cat_r]; done)) wv_141 wc_141 bl0 (k_Server_isAsNew_ok hp0 hL hF (d := d + 10) bl0 bl1 h13) (fun m14  => ?_)
    refine cR_if (t := 56) lk177_16 (by decide) (fun c15 => ?_) (fun c15 => ?_)
    · rw [if_pos c15] at h
      exact k_Server_takePreask_b56_ok hp0 hL hF  g lv σ l0 l1 bl0 bl1 g0 g1 _ h
    · rw [if_neg c15] at h
      refine cR_lift (fun _ _ kk => eE_aload_n lk177_19 g0 kk) ?_
      refine cR_getI lk177_20 rf_13_85 rfl bl0 ?_
      refine cR_lift (fun _ _ kk => eE_iconst (v := 3) lk177_23 (by decide) kk) ?_
      refine cR_icmp (t := 56) lk177_24 (by decide) (fun c16 => ?_) (fun c16 => ?_)
      · rw [if_pos c16] at h
        exact k_Server_takePreask_b56_ok hp0 hL hF  g lv σ l0 l1 bl0 bl1 g0 g1 _ h
      · rw [if_neg c16] at h
        refine cR_lift (fun _ _ kk => eE_aload_n lk177_27 g0 kk) ?_
        refine cR_getI lk177_28 rf_13_50 rfl bl0 ?_
        refine cR_lift (fun _ _ kk => eE_iconst (v := (-1)) lk177_31 (by decide) kk) ?_
        refine cR_icmp (t := 52) lk177_32 (by decide) (fun c17 => ?_) (fun c17 => ?_)
        · rw [if_pos c17] at h
          exact k_Server_takePreask_b52_ok hp0 hL hF  g lv σ l0 l1 bl0 bl1 g0 g1 _ h
        · rw [if_neg c17] at h
          refine cR_lift (fun _ _ kk => eE_aload_n lk177_35 g0 kk) ?_
          refine cR_getI lk177_36 rf_13_50 rfl bl0 ?_
          refine cR_lift (fun _ _ kk => eE_aload_n lk177_39 g0 kk) ?_
          refine cR_getO (cl' := 14) (i' := 0) lk177_40 rf_13_63 rfl rfl bl0 ?_
          refine cR_getI lk177_43 rf_13_241 rfl (cob_0 (c := σ) (cl := 14) (by decide) rfl rfl) ?_
          refine cR_lift (fun _ _ kk => eE_bipush (v := 50) lk177_46 (by decide) kk) ?_
          refine cR_lift (fun _ _ kk => eE_isub lk177_48 kk) ?_
          refine cR_icmp (t := 56) lk177_49 (by decide) (fun c18 => ?_) (fun c18 => ?_)
          · rw [if_pos c18] at h
            exact k_Server_takePreask_b56_ok hp0 hL hF  g lv σ l0 l1 bl0 bl1 g0 g1 _ h
          · rw [if_neg c18] at h
            exact k_Server_takePreask_b52_ok hp0 hL hF  g lv σ l0 l1 bl0 bl1 g0 g1 _ h
def k_Server_takePreask (F : Nat) (σ : CS) (l0 : Nat) (l1 : Nat) : Option (CS) := k_Server_takePreask_b0 F σ l0 l1
theorem k_Server_takePreask_ok {E : CE} {pF : Nat → List Value → xH → Option (Option Value × xH)} (hp0 : xNPc pF) (hL : lcAll E pF) (hF : lcF pF) {d : Nat} {g : CG} {σ : CS} {F : Nat} {l0 : Nat} {l1 : Nat} {res : CS} (bl0 : cob σ 13 l0) (bl1 : cob σ 8 l1) (h : k_Server_takePreask F σ l0 l1 = some res) : cCo E (cQx [13, 14]) pF (d + 14) 177 [.ref (coa E 13 l0), .ref (coa E 8 l1)] none res g σ :=
  cCo_R kk_177 mo_177 ni_177 xm_177 (Nat.le_of_ble_eq_true rfl) (hp0 177 (by decide) _) (k_Server_takePreask_b0_ok hp0 hL hF g _ σ l0 l1 bl0 bl1 rfl rfl _ h)
/-! k_Server_receive (154), depth 15 -/
def k_Server_receive_b204 (F : Nat)  (σ : CS) : Option (CS) :=
  some σ
set_option maxRecDepth 4000 in
theorem k_Server_receive_b204_ok {E : CE} {pF : Nat → List Value → xH → Option (Option Value × xH)} (hp0 : xNPc pF) (hL : lcAll E pF) (hF : lcF pF) {d : Nat} {F : Nat}   : ∀ (g : CG) (lv : xL) (σ : CS), ∀ res, k_Server_receive_b204 F  σ = some res → cR E (cQx [11, 13, 14]) pF (d + 14) kT154 13 3 none none res g σ (204, lv, []) := by
  intro g lv σ res h
  unfold k_Server_receive_b204 at h
  cases h
  exact cR_end lk154_204 rfl rfl rfl
def k_Server_receive_b69 (F : Nat)  (σ : CS) (l0 : Nat) (l1 : Nat) : Option (CS) :=
  if (cI σ 8 l1 4 0) = (1 : Int32) then (
    (k_Server_takePreask F σ l0 l1).bind fun p2 =>
    k_Server_receive_b204 F  p2
  ) else (
  if (cI σ 8 l1 4 0) = (2 : Int32) then (
    (k_Server_takePreanswer σ l0 l1).bind fun p7 =>
    k_Server_receive_b204 F  p7
  ) else (
  if (cI σ 8 l1 4 0) = (3 : Int32) then (
    (k_Server_takeAsk F σ l0 l1).bind fun p11 =>
    k_Server_receive_b204 F  p11
  ) else (
  if (cI σ 8 l1 4 0) = (4 : Int32) then (
    (k_Server_takeAnswer σ l0 l1).bind fun p16 =>
    k_Server_receive_b204 F  p16
  ) else (
  if (cI σ 8 l1 4 0) = (5 : Int32) then (
    (k_Server_fits F σ l0 l1).bind fun p20 =>
    if xc0 .eq p20.1 = true then (
      k_Server_receive_b204 F  p20.2
    ) else (
      (k_Server_takeEntries F p20.2 l0 l1).bind fun p25 =>
      k_Server_receive_b204 F  p25
    )
  ) else (
  if (cI σ 8 l1 4 0) = (6 : Int32) then (
    (k_Server_takeAppended σ l0 l1).bind fun p30 =>
    k_Server_receive_b204 F  p30
  ) else (
  if (cI σ 8 l1 4 0) = (7 : Int32) then (
    (k_Server_takePiece F σ l0 l1).bind fun p34 =>
    k_Server_receive_b204 F  p34
  ) else (
  if (cI σ 8 l1 4 0) = (8 : Int32) then (
    (k_Server_takeStored σ l0 l1).bind fun p39 =>
    k_Server_receive_b204 F  p39
  ) else (
  if (cI σ 8 l1 4 0) = (9 : Int32) then (
    (k_Server_takeGo σ l0 l1).bind fun p43 =>
    k_Server_receive_b204 F  p43
  ) else (
    k_Server_receive_b204 F  σ
  )
  )
  )
  )
  )
  )
  )
  )
  )
set_option maxRecDepth 4000 in
theorem k_Server_receive_b69_ok {E : CE} {pF : Nat → List Value → xH → Option (Option Value × xH)} (hp0 : xNPc pF) (hL : lcAll E pF) (hF : lcF pF) {d : Nat} {F : Nat}   : ∀ (g : CG) (lv : xL) (σ : CS) (l0 : Nat) (l1 : Nat), (cob σ 13 l0) → (cob σ 8 l1) → (xg lv 0 = some (.ref (coa E 13 l0))) → (xg lv 1 = some (.ref (coa E 8 l1))) → ∀ res, k_Server_receive_b69 F  σ l0 l1 = some res → cR E (cQx [11, 13, 14]) pF (d + 14) kT154 13 3 none none res g σ (69, lv, []) := by
  intro g lv σ l0 l1 bl0 bl1 g0 g1 res h
  unfold k_Server_receive_b69 at h
  refine cR_lift (fun _ _ kk => eE_aload_n lk154_69 g1 kk) ?_
  refine cR_getI lk154_70 rf_13_339 rfl bl1 ?_
  by_cases c1 : (cI σ 8 l1 4 0) = (1 : Int32)
  · rw [if_pos c1] at h
    refine cR_tsw (t := 124) (off := 51) lk154_73 (by rw [c1]; decide) (by rw [c1]; rfl) (by decide) ?_
    refine cR_lift (fun _ _ kk => eE_aload_n lk154_124 g0 kk) ?_
    refine cR_lift (fun _ _ kk => eE_aload_n lk154_125 g1 kk) ?_
    obtain ⟨p2, h3, h⟩ := Option.bind_eq_some_iff.mp h
    refine cR_virtG (by exact cQx_sub rfl) (cl := 13) (i := l0) (as := [.ref (coa E 8 l1)]) lk154_126 mr_13_468 na_177 rfl rfl (by first | exact Nat.le_of_ble_eq_true rfl | (simp [xcat, cvo_cat, cat_i, cat_j, cat_r]; done)) wv_177 wc_177 bl0 (k_Server_takePreask_ok hp0 hL hF (d := d + 0) bl0 bl1 h3) (fun m4 g_5 g_5e => ?_)
    refine cR_lift (fun _ _ kk => eE_goto (t := 204) lk154_129 (by decide) kk) ?_
    exact k_Server_receive_b204_ok hp0 hL hF  g_5 lv p2  _ h
  rw [if_neg c1] at h
  by_cases c6 : (cI σ 8 l1 4 0) = (2 : Int32)
  · rw [if_pos c6] at h
    refine cR_tsw (t := 132) (off := 59) lk154_73 (by rw [c6]; decide) (by rw [c6]; rfl) (by decide) ?_
    refine cR_lift (fun _ _ kk => eE_aload_n lk154_132 g0 kk) ?_
    refine cR_lift (fun _ _ kk => eE_aload_n lk154_133 g1 kk) ?_
    obtain ⟨p7, h8, h⟩ := Option.bind_eq_some_iff.mp h
    refine cR_virt (cl := 13) (i := l0) (as := [.ref (coa E 8 l1)]) lk154_134 mr_13_471 na_176 rfl rfl (by first | exact Nat.le_of_ble_eq_true rfl | (simp [xcat, cvo_cat, cat_i, cat_j, cat_r]; done)) wv_176 wc_176 bl0 (k_Server_takePreanswer_ok hp0 hL hF (d := d + 11) bl0 bl1 h8) (fun m9  => ?_)
    refine cR_lift (fun _ _ kk => eE_goto (t := 204) lk154_137 (by decide) kk) ?_
    exact k_Server_receive_b204_ok hp0 hL hF  g lv p7  _ h
  rw [if_neg c6] at h
  by_cases c10 : (cI σ 8 l1 4 0) = (3 : Int32)
  · rw [if_pos c10] at h
    refine cR_tsw (t := 140) (off := 67) lk154_73 (by rw [c10]; decide) (by rw [c10]; rfl) (by decide) ?_
    refine cR_lift (fun _ _ kk => eE_aload_n lk154_140 g0 kk) ?_
    refine cR_lift (fun _ _ kk => eE_aload_n lk154_141 g1 kk) ?_
    obtain ⟨p11, h12, h⟩ := Option.bind_eq_some_iff.mp h
    refine cR_virtG (by exact cQx_sub rfl) (cl := 13) (i := l0) (as := [.ref (coa E 8 l1)]) lk154_142 mr_13_474 na_170 rfl rfl (by first | exact Nat.le_of_ble_eq_true rfl | (simp [xcat, cvo_cat, cat_i, cat_j, cat_r]; done)) wv_170 wc_170 bl0 (k_Server_takeAsk_ok hp0 hL hF (d := d + 0) bl0 bl1 h12) (fun m13 g_14 g_14e => ?_)
    refine cR_lift (fun _ _ kk => eE_goto (t := 204) lk154_145 (by decide) kk) ?_
    exact k_Server_receive_b204_ok hp0 hL hF  g_14 lv p11  _ h
  rw [if_neg c10] at h
  by_cases c15 : (cI σ 8 l1 4 0) = (4 : Int32)
  · rw [if_pos c15] at h
    refine cR_tsw (t := 148) (off := 75) lk154_73 (by rw [c15]; decide) (by rw [c15]; rfl) (by decide) ?_
    refine cR_lift (fun _ _ kk => eE_aload_n lk154_148 g0 kk) ?_
    refine cR_lift (fun _ _ kk => eE_aload_n lk154_149 g1 kk) ?_
    obtain ⟨p16, h17, h⟩ := Option.bind_eq_some_iff.mp h
    refine cR_virt (cl := 13) (i := l0) (as := [.ref (coa E 8 l1)]) lk154_150 mr_13_477 na_168 rfl rfl (by first | exact Nat.le_of_ble_eq_true rfl | (simp [xcat, cvo_cat, cat_i, cat_j, cat_r]; done)) wv_168 wc_168 bl0 (k_Server_takeAnswer_ok hp0 hL hF (d := d + 11) bl0 bl1 h17) (fun m18  => ?_)
    refine cR_lift (fun _ _ kk => eE_goto (t := 204) lk154_153 (by decide) kk) ?_
    exact k_Server_receive_b204_ok hp0 hL hF  g lv p16  _ h
  rw [if_neg c15] at h
  by_cases c19 : (cI σ 8 l1 4 0) = (5 : Int32)
  · rw [if_pos c19] at h
    refine cR_tsw (t := 156) (off := 83) lk154_73 (by rw [c19]; decide) (by rw [c19]; rfl) (by decide) ?_
    refine cR_lift (fun _ _ kk => eE_aload_n lk154_156 g0 kk) ?_
    refine cR_lift (fun _ _ kk => eE_aload_n lk154_157 g1 kk) ?_
    obtain ⟨p20, h21, h⟩ := Option.bind_eq_some_iff.mp h
    refine cR_virtG (by exact cQx_sub rfl) (cl := 13) (i := l0) (as := [.ref (coa E 8 l1)]) lk154_158 mr_13_480 na_134 rfl rfl (by first | exact Nat.le_of_ble_eq_true rfl | (simp [xcat, cvo_cat, cat_i, cat_j, cat_r]; done)) wv_134 wc_134 bl0 (k_Server_fits_ok hp0 hL hF (d := d + 0) bl0 bl1 h21) (fun m22 g_23 g_23e => ?_)
    refine cR_if (t := 204) lk154_161 (by decide) (fun c24 => ?_) (fun c24 => ?_)
    · rw [if_pos c24] at h
      exact k_Server_receive_b204_ok hp0 hL hF  g_23 lv p20.2  _ h
    · rw [if_neg c24] at h
      refine cR_lift (fun _ _ kk => eE_aload_n lk154_164 g0 kk) ?_
      refine cR_lift (fun _ _ kk => eE_aload_n lk154_165 g1 kk) ?_
      obtain ⟨p25, h26, h⟩ := Option.bind_eq_some_iff.mp h
      refine cR_virtG (by exact cQx_sub rfl) (cl := 13) (i := l0) (as := [.ref (coa E 8 l1)]) lk154_166 mr_13_484 na_172 rfl rfl (by first | exact Nat.le_of_ble_eq_true rfl | (simp [xcat, cvo_cat, cat_i, cat_j, cat_r]; done)) wv_172 wc_172 (cob_any rfl bl0) (k_Server_takeEntries_ok hp0 hL hF (d := d + 8) (cob_any rfl bl0) (cob_mon m22 bl1) h26) (fun m27 g_28 g_28e => ?_)
      refine cR_lift (fun _ _ kk => eE_goto (t := 204) lk154_169 (by decide) kk) ?_
      exact k_Server_receive_b204_ok hp0 hL hF  g_28 lv p25  _ h
  rw [if_neg c19] at h
  by_cases c29 : (cI σ 8 l1 4 0) = (6 : Int32)
  · rw [if_pos c29] at h
    refine cR_tsw (t := 172) (off := 99) lk154_73 (by rw [c29]; decide) (by rw [c29]; rfl) (by decide) ?_
    refine cR_lift (fun _ _ kk => eE_aload_n lk154_172 g0 kk) ?_
    refine cR_lift (fun _ _ kk => eE_aload_n lk154_173 g1 kk) ?_
    obtain ⟨p30, h31, h⟩ := Option.bind_eq_some_iff.mp h
    refine cR_virt (cl := 13) (i := l0) (as := [.ref (coa E 8 l1)]) lk154_174 mr_13_487 na_169 rfl rfl (by first | exact Nat.le_of_ble_eq_true rfl | (simp [xcat, cvo_cat, cat_i, cat_j, cat_r]; done)) wv_169 wc_169 bl0 (k_Server_takeAppended_ok hp0 hL hF (d := d + 11) bl0 bl1 h31) (fun m32  => ?_)
    refine cR_lift (fun _ _ kk => eE_goto (t := 204) lk154_177 (by decide) kk) ?_
    exact k_Server_receive_b204_ok hp0 hL hF  g lv p30  _ h
  rw [if_neg c29] at h
  by_cases c33 : (cI σ 8 l1 4 0) = (7 : Int32)
  · rw [if_pos c33] at h
    refine cR_tsw (t := 180) (off := 107) lk154_73 (by rw [c33]; decide) (by rw [c33]; rfl) (by decide) ?_
    refine cR_lift (fun _ _ kk => eE_aload_n lk154_180 g0 kk) ?_
    refine cR_lift (fun _ _ kk => eE_aload_n lk154_181 g1 kk) ?_
    obtain ⟨p34, h35, h⟩ := Option.bind_eq_some_iff.mp h
    refine cR_virtG (by exact cQx_sub rfl) (cl := 13) (i := l0) (as := [.ref (coa E 8 l1)]) lk154_182 mr_13_490 na_175 rfl rfl (by first | exact Nat.le_of_ble_eq_true rfl | (simp [xcat, cvo_cat, cat_i, cat_j, cat_r]; done)) wv_175 wc_175 bl0 (k_Server_takePiece_ok hp0 hL hF (d := d + 0) bl0 bl1 h35) (fun m36 g_37 g_37e => ?_)
    refine cR_lift (fun _ _ kk => eE_goto (t := 204) lk154_185 (by decide) kk) ?_
    exact k_Server_receive_b204_ok hp0 hL hF  g_37 lv p34  _ h
  rw [if_neg c33] at h
  by_cases c38 : (cI σ 8 l1 4 0) = (8 : Int32)
  · rw [if_pos c38] at h
    refine cR_tsw (t := 188) (off := 115) lk154_73 (by rw [c38]; decide) (by rw [c38]; rfl) (by decide) ?_
    refine cR_lift (fun _ _ kk => eE_aload_n lk154_188 g0 kk) ?_
    refine cR_lift (fun _ _ kk => eE_aload_n lk154_189 g1 kk) ?_
    obtain ⟨p39, h40, h⟩ := Option.bind_eq_some_iff.mp h
    refine cR_virt (cl := 13) (i := l0) (as := [.ref (coa E 8 l1)]) lk154_190 mr_13_493 na_180 rfl rfl (by first | exact Nat.le_of_ble_eq_true rfl | (simp [xcat, cvo_cat, cat_i, cat_j, cat_r]; done)) wv_180 wc_180 bl0 (k_Server_takeStored_ok hp0 hL hF (d := d + 11) bl0 bl1 h40) (fun m41  => ?_)
    refine cR_lift (fun _ _ kk => eE_goto (t := 204) lk154_193 (by decide) kk) ?_
    exact k_Server_receive_b204_ok hp0 hL hF  g lv p39  _ h
  rw [if_neg c38] at h
  by_cases c42 : (cI σ 8 l1 4 0) = (9 : Int32)
  · rw [if_pos c42] at h
    refine cR_tsw (t := 196) (off := 123) lk154_73 (by rw [c42]; decide) (by rw [c42]; rfl) (by decide) ?_
    refine cR_lift (fun _ _ kk => eE_aload_n lk154_196 g0 kk) ?_
    refine cR_lift (fun _ _ kk => eE_aload_n lk154_197 g1 kk) ?_
    obtain ⟨p43, h44, h⟩ := Option.bind_eq_some_iff.mp h
    refine cR_virt (cl := 13) (i := l0) (as := [.ref (coa E 8 l1)]) lk154_198 mr_13_496 na_173 rfl rfl (by first | exact Nat.le_of_ble_eq_true rfl | (simp [xcat, cvo_cat, cat_i, cat_j, cat_r]; done)) wv_173 wc_173 bl0 (k_Server_takeGo_ok hp0 hL hF (d := d + 12) bl0 bl1 h44) (fun m45  => ?_)
    refine cR_lift (fun _ _ kk => eE_goto (t := 204) lk154_201 (by decide) kk) ?_
    exact k_Server_receive_b204_ok hp0 hL hF  g lv p43  _ h
  rw [if_neg c42] at h
  refine cR_tswD (t := 204) lk154_73 (xsw_out (n := 9) (fun j hj => ?_)) (by decide) ?_
  · match j, hj with
    | 0, _ => exact c1
    | 1, _ => exact c6
    | 2, _ => exact c10
    | 3, _ => exact c15
    | 4, _ => exact c19
    | 5, _ => exact c29
    | 6, _ => exact c33
    | 7, _ => exact c38
    | 8, _ => exact c42
    | q + 9, hj => exact absurd hj (by omega)
  exact k_Server_receive_b204_ok hp0 hL hF  g lv σ  _ h
def k_Server_receive_b44 (F : Nat)  (σ : CS) (s0 : Int32) (l0 : Nat) (l1 : Nat) : Option (CS) :=
  if xc2 .le (cI σ 8 l1 5 0) (cI σ 13 l0 10 0) = true then (
    k_Server_receive_b69 F  σ l0 l1
  ) else (
    if xc0 .ne s0 = true then (
      k_Server_receive_b69 F  σ l0 l1
    ) else (
      (k_Server_stepDown F σ l0 (cI σ 8 l1 5 0) ((-1 : Int32))).bind fun p53 =>
      k_Server_receive_b69 F  p53 l0 l1
    )
  )
set_option maxRecDepth 4000 in
theorem k_Server_receive_b44_ok {E : CE} {pF : Nat → List Value → xH → Option (Option Value × xH)} (hp0 : xNPc pF) (hL : lcAll E pF) (hF : lcF pF) {d : Nat} {F : Nat}   : ∀ (g : CG) (lv : xL) (σ : CS) (s0 : Int32) (l0 : Nat) (l1 : Nat), (cob σ 13 l0) → (cob σ 8 l1) → (xg lv 0 = some (.ref (coa E 13 l0))) → (xg lv 1 = some (.ref (coa E 8 l1))) → ∀ res, k_Server_receive_b44 F  σ s0 l0 l1 = some res → cR E (cQx [11, 13, 14]) pF (d + 14) kT154 13 3 none none res g σ (44, lv, [.int s0]) := by
  intro g lv σ s0 l0 l1 bl0 bl1 g0 g1 res h
  unfold k_Server_receive_b44 at h
  refine cR_stI (j := 2) lk154_44 (Or.inr ⟨_, rfl, rfl⟩) (by decide) (fun vq46 gq47 kq48 => ?_)
  have gq49 := kq48 0 _ (by decide) (fun e => absurd e (by decide)) g0
  have gq50 := kq48 1 _ (by decide) (fun _ => rfl) g1
  refine cR_lift (fun _ _ kk => eE_aload_n lk154_45 gq50 kk) ?_
  refine cR_getI lk154_46 rf_13_342 rfl bl1 ?_
  refine cR_lift (fun _ _ kk => eE_aload_n lk154_49 gq49 kk) ?_
  refine cR_getI lk154_50 rf_13_88 rfl bl0 ?_
  refine cR_icmp (t := 69) lk154_53 (by decide) (fun c51 => ?_) (fun c51 => ?_)
  · rw [if_pos c51] at h
    exact k_Server_receive_b69_ok hp0 hL hF  g vq46 σ l0 l1 bl0 bl1 gq49 gq50 _ h
  · rw [if_neg c51] at h
    refine cR_lift (fun _ _ kk => eE_iload_n lk154_56 gq47 kk) ?_
    refine cR_if (t := 69) lk154_57 (by decide) (fun c52 => ?_) (fun c52 => ?_)
    · rw [if_pos c52] at h
      exact k_Server_receive_b69_ok hp0 hL hF  g vq46 σ l0 l1 bl0 bl1 gq49 gq50 _ h
    · rw [if_neg c52] at h
      refine cR_lift (fun _ _ kk => eE_aload_n lk154_60 gq49 kk) ?_
      refine cR_lift (fun _ _ kk => eE_aload_n lk154_61 gq50 kk) ?_
      refine cR_getI lk154_62 rf_13_342 rfl bl1 ?_
      refine cR_lift (fun _ _ kk => eE_iconst (v := (-1)) lk154_65 (by decide) kk) ?_
      obtain ⟨p53, h54, h⟩ := Option.bind_eq_some_iff.mp h
      refine cR_virt (cl := 13) (i := l0) (as := [.int (cI σ 8 l1 5 0), .int ((-1 : Int32))]) lk154_66 mr_13_438 na_166 rfl rfl (by first | exact Nat.le_of_ble_eq_true rfl | (simp [xcat, cvo_cat, cat_i, cat_j, cat_r]; done)) wv_166 wc_166 bl0 (k_Server_stepDown_ok hp0 hL hF (d := d + 10) bl0 h54) (fun m55  => ?_)
      exact k_Server_receive_b69_ok hp0 hL hF  g vq46 p53 l0 l1 (cob_any rfl bl0) (cob_mon m55 bl1) gq49 gq50 _ h
def k_Server_receive_b39 (F : Nat)  (σ : CS) (l0 : Nat) (l1 : Nat) : Option (CS) :=
  k_Server_receive_b44 F  σ ((1 : Int32)) l0 l1
set_option maxRecDepth 4000 in
theorem k_Server_receive_b39_ok {E : CE} {pF : Nat → List Value → xH → Option (Option Value × xH)} (hp0 : xNPc pF) (hL : lcAll E pF) (hF : lcF pF) {d : Nat} {F : Nat}   : ∀ (g : CG) (lv : xL) (σ : CS) (l0 : Nat) (l1 : Nat), (cob σ 13 l0) → (cob σ 8 l1) → (xg lv 0 = some (.ref (coa E 13 l0))) → (xg lv 1 = some (.ref (coa E 8 l1))) → ∀ res, k_Server_receive_b39 F  σ l0 l1 = some res → cR E (cQx [11, 13, 14]) pF (d + 14) kT154 13 3 none none res g σ (39, lv, []) := by
  intro g lv σ l0 l1 bl0 bl1 g0 g1 res h
  unfold k_Server_receive_b39 at h
  refine cR_lift (fun _ _ kk => eE_iconst (v := 1) lk154_39 (by decide) kk) ?_
  refine cR_lift (fun _ _ kk => eE_goto (t := 44) lk154_40 (by decide) kk) ?_
  exact k_Server_receive_b44_ok hp0 hL hF  g lv σ ((1 : Int32)) l0 l1 bl0 bl1 g0 g1 _ h
def k_Server_receive_b43 (F : Nat)  (σ : CS) (l0 : Nat) (l1 : Nat) : Option (CS) :=
  k_Server_receive_b44 F  σ ((0 : Int32)) l0 l1
set_option maxRecDepth 4000 in
theorem k_Server_receive_b43_ok {E : CE} {pF : Nat → List Value → xH → Option (Option Value × xH)} (hp0 : xNPc pF) (hL : lcAll E pF) (hF : lcF pF) {d : Nat} {F : Nat}   : ∀ (g : CG) (lv : xL) (σ : CS) (l0 : Nat) (l1 : Nat), (cob σ 13 l0) → (cob σ 8 l1) → (xg lv 0 = some (.ref (coa E 13 l0))) → (xg lv 1 = some (.ref (coa E 8 l1))) → ∀ res, k_Server_receive_b43 F  σ l0 l1 = some res → cR E (cQx [11, 13, 14]) pF (d + 14) kT154 13 3 none none res g σ (43, lv, []) := by
  intro g lv σ l0 l1 bl0 bl1 g0 g1 res h
  unfold k_Server_receive_b43 at h
  refine cR_lift (fun _ _ kk => eE_iconst (v := 0) lk154_43 (by decide) kk) ?_
  exact k_Server_receive_b44_ok hp0 hL hF  g lv σ ((0 : Int32)) l0 l1 bl0 bl1 g0 g1 _ h
def k_Server_receive_b0 (F : Nat)  (σ : CS) (l0 : Nat) (l1 : Nat) : Option (CS) :=
  if xc2 .ne (cI σ 8 l1 4 0) ((10 : Int32)) = true then (
    if xc2 .eq (cI σ 8 l1 4 0) ((1 : Int32)) = true then (
      k_Server_receive_b39 F  σ l0 l1
    ) else (
      if xc2 .ne (cI σ 8 l1 4 0) ((2 : Int32)) = true then (
        k_Server_receive_b43 F  σ l0 l1
      ) else (
        if xc2 .ne (cI σ 8 l1 6 0) ((1 : Int32)) = true then (
          k_Server_receive_b43 F  σ l0 l1
        ) else (
          k_Server_receive_b39 F  σ l0 l1
        )
      )
    )
  ) else (
    (k_Server_takeRequest F σ l0 l1).bind fun p60 =>
    some p60
  )
set_option maxRecDepth 4000 in
theorem k_Server_receive_b0_ok {E : CE} {pF : Nat → List Value → xH → Option (Option Value × xH)} (hp0 : xNPc pF) (hL : lcAll E pF) (hF : lcF pF) {d : Nat} {F : Nat}   : ∀ (g : CG) (lv : xL) (σ : CS) (l0 : Nat) (l1 : Nat), (cob σ 13 l0) → (cob σ 8 l1) → (xg lv 0 = some (.ref (coa E 13 l0))) → (xg lv 1 = some (.ref (coa E 8 l1))) → ∀ res, k_Server_receive_b0 F  σ l0 l1 = some res → cR E (cQx [11, 13, 14]) pF (d + 14) kT154 13 3 none none res g σ (0, lv, []) := by
  intro g lv σ l0 l1 bl0 bl1 g0 g1 res h
  unfold k_Server_receive_b0 at h
  refine cR_lift (fun _ _ kk => eE_aload_n lk154_0 g1 kk) ?_
  refine cR_getI lk154_1 rf_13_339 rfl bl1 ?_
  refine cR_lift (fun _ _ kk => eE_bipush (v := 10) lk154_4 (by decide) kk) ?_
  refine cR_icmp (t := 15) lk154_6 (by decide) (fun c56 => ?_) (fun c56 => ?_)
  · rw [if_pos c56] at h
    refine cR_lift (fun _ _ kk => eE_aload_n lk154_15 g1 kk) ?_
    refine cR_getI lk154_16 rf_13_339 rfl bl1 ?_
    refine cR_lift (fun _ _ kk => eE_iconst (v := 1) lk154_19 (by decide) kk) ?_
    refine cR_icmp (t := 39) lk154_20 (by decide) (fun c57 => ?_) (fun c57 => ?_)
    · rw [if_pos c57] at h
      exact k_Server_receive_b39_ok hp0 hL hF  g lv σ l0 l1 bl0 bl1 g0 g1 _ h
    · rw [if_neg c57] at h
      refine cR_lift (fun _ _ kk => eE_aload_n lk154_23 g1 kk) ?_
      refine cR_getI lk154_24 rf_13_339 rfl bl1 ?_
      refine cR_lift (fun _ _ kk => eE_iconst (v := 2) lk154_27 (by decide) kk) ?_
      refine cR_icmp (t := 43) lk154_28 (by decide) (fun c58 => ?_) (fun c58 => ?_)
      · rw [if_pos c58] at h
        exact k_Server_receive_b43_ok hp0 hL hF  g lv σ l0 l1 bl0 bl1 g0 g1 _ h
      · rw [if_neg c58] at h
        refine cR_lift (fun _ _ kk => eE_aload_n lk154_31 g1 kk) ?_
        refine cR_getI lk154_32 rf_13_343 rfl bl1 ?_
        refine cR_lift (fun _ _ kk => eE_iconst (v := 1) lk154_35 (by decide) kk) ?_
        refine cR_icmp (t := 43) lk154_36 (by decide) (fun c59 => ?_) (fun c59 => ?_)
        · rw [if_pos c59] at h
          exact k_Server_receive_b43_ok hp0 hL hF  g lv σ l0 l1 bl0 bl1 g0 g1 _ h
        · rw [if_neg c59] at h
          exact k_Server_receive_b39_ok hp0 hL hF  g lv σ l0 l1 bl0 bl1 g0 g1 _ h
  · rw [if_neg c56] at h
    refine cR_lift (fun _ _ kk => eE_aload_n lk154_9 g0 kk) ?_
    refine cR_lift (fun _ _ kk => eE_aload_n lk154_10 g1 kk) ?_
    obtain ⟨p60, h61, h⟩ := Option.bind_eq_some_iff.mp h
    refine cR_virtG (by exact cQx_sub rfl) (cl := 13) (i := l0) (as := [.ref (coa E 8 l1)]) lk154_11 mr_13_465 na_178 rfl rfl (by first | exact Nat.le_of_ble_eq_true rfl | (simp [xcat, cvo_cat, cat_i, cat_j, cat_r]; done)) wv_178 wc_178 bl0 (k_Server_takeRequest_ok hp0 hL hF (d := d + 0) bl0 bl1 h61) (fun m62 g_63 g_63e => ?_)
    cases h
    exact cR_end lk154_14 rfl rfl rfl
def k_Server_receive (F : Nat) (σ : CS) (l0 : Nat) (l1 : Nat) : Option (CS) := k_Server_receive_b0 F σ l0 l1
theorem k_Server_receive_ok {E : CE} {pF : Nat → List Value → xH → Option (Option Value × xH)} (hp0 : xNPc pF) (hL : lcAll E pF) (hF : lcF pF) {d : Nat} {g : CG} {σ : CS} {F : Nat} {l0 : Nat} {l1 : Nat} {res : CS} (bl0 : cob σ 13 l0) (bl1 : cob σ 8 l1) (h : k_Server_receive F σ l0 l1 = some res) : cCo E (cQx [11, 13, 14]) pF (d + 15) 154 [.ref (coa E 13 l0), .ref (coa E 8 l1)] none res g σ :=
  cCo_R kk_154 mo_154 ni_154 xm_154 (Nat.le_of_ble_eq_true rfl) (hp0 154 (by decide) _) (k_Server_receive_b0_ok hp0 hL hF g _ σ l0 l1 bl0 bl1 rfl rfl _ h)
/-! k_Server_sendBack (158), depth 14 -/
def k_Server_sendBack_b19 (F : Nat)  (σ : CS) : Option (CS) :=
  some σ
set_option maxRecDepth 4000 in
theorem k_Server_sendBack_b19_ok {E : CE} {pF : Nat → List Value → xH → Option (Option Value × xH)} (hp0 : xNPc pF) (hL : lcAll E pF) (hF : lcF pF) {d : Nat} {F : Nat}   : ∀ (g : CG) (lv : xL) (σ : CS), ∀ res, k_Server_sendBack_b19 F  σ = some res → cR E (cQx [13, 14]) pF (d + 13) kT158 13 2 none none res g σ (19, lv, []) := by
  intro g lv σ res h
  unfold k_Server_sendBack_b19 at h
  cases h
  exact cR_end lk158_19 rfl rfl rfl
def k_Server_sendBack_b67 (F : Nat)  (σ : CS) : Option (CS) :=
  some σ
set_option maxRecDepth 4000 in
theorem k_Server_sendBack_b67_ok {E : CE} {pF : Nat → List Value → xH → Option (Option Value × xH)} (hp0 : xNPc pF) (hL : lcAll E pF) (hF : lcF pF) {d : Nat} {F : Nat}   : ∀ (g : CG) (lv : xL) (σ : CS), ∀ res, k_Server_sendBack_b67 F  σ = some res → cR E (cQx [13, 14]) pF (d + 13) kT158 13 2 none none res g σ (67, lv, []) := by
  intro g lv σ res h
  unfold k_Server_sendBack_b67 at h
  cases h
  exact cR_end lk158_67 rfl rfl rfl
def k_Server_sendBack_b0 (F : Nat)  (σ : CS) (l0 : Nat) (l1 : Int32) : Option (CS) :=
  if xc2 .ne (cI σ 13 l0 12 0) ((3 : Int32)) = true then (
    k_Server_sendBack_b19 F  σ
  ) else (
    (k_Server_peers σ l0).bind fun p2 =>
    if xc0 .ne ((p2 >>> (l1 &&& 31)) &&& ((1 : Int32))) = true then (
      (k_Server_sendTo F σ l0 l1 ((0 : Int32))).bind fun p6 =>
      if xc2 .ne (cI p6 7 l0 10 0) l1 = true then (
        k_Server_sendBack_b67 F  p6
      ) else (
        (crd p6 7 l0 1 l1).bind fun x11 =>
        if xc2 .ne x11 (cI p6 9 l0 6 0) = true then (
          k_Server_sendBack_b67 F  p6
        ) else (
          (k_Server_letterTo p6 l0 l1 ((9 : Int32))).bind fun p14 =>
          (k_Server_dispatch F p14.2 l0 p14.1).bind fun p18 =>
          k_Server_sendBack_b67 F  p18
        )
      )
    ) else (
      k_Server_sendBack_b19 F  σ
    )
  )
set_option maxRecDepth 4000 in
theorem k_Server_sendBack_b0_ok {E : CE} {pF : Nat → List Value → xH → Option (Option Value × xH)} (hp0 : xNPc pF) (hL : lcAll E pF) (hF : lcF pF) {d : Nat} {F : Nat}   : ∀ (g : CG) (lv : xL) (σ : CS) (l0 : Nat) (l1 : Int32), (cob σ 13 l0) → (xg lv 0 = some (.ref (coa E 13 l0))) → (xg lv 1 = some (.int l1)) → ∀ res, k_Server_sendBack_b0 F  σ l0 l1 = some res → cR E (cQx [13, 14]) pF (d + 13) kT158 13 2 none none res g σ (0, lv, []) := by
  intro g lv σ l0 l1 bl0 g0 g1 res h
  unfold k_Server_sendBack_b0 at h
  refine cR_lift (fun _ _ kk => eE_aload_n lk158_0 g0 kk) ?_
  refine cR_getI lk158_1 rf_13_85 rfl bl0 ?_
  refine cR_lift (fun _ _ kk => eE_iconst (v := 3) lk158_4 (by decide) kk) ?_
  refine cR_icmp (t := 19) lk158_5 (by decide) (fun c1 => ?_) (fun c1 => ?_)
  · rw [if_pos c1] at h
    exact k_Server_sendBack_b19_ok hp0 hL hF  g lv σ  _ h
  · rw [if_neg c1] at h
    refine cR_lift (fun _ _ kk => eE_aload_n lk158_8 g0 kk) ?_
    obtain ⟨p2, h3, h⟩ := Option.bind_eq_some_iff.mp h
    refine cR_virt (cl := 13) (i := l0) (as := []) lk158_9 mr_13_373 na_150 rfl rfl (by first | exact Nat.le_of_ble_eq_true rfl | (simp [xcat, cvo_cat, cat_i, cat_j, cat_r]; done)) wv_150 wc_150 bl0 (k_Server_peers_ok hp0 hL hF (d := d + 12) bl0 h3) (fun m4  => ?_)
    refine cR_lift (fun _ _ kk => eE_iload_n lk158_12 g1 kk) ?_
    refine cR_lift (fun _ _ kk => eE_ishr lk158_13 kk) ?_
    refine cR_lift (fun _ _ kk => eE_iconst (v := 1) lk158_14 (by decide) kk) ?_
    refine cR_lift (fun _ _ kk => eE_iand lk158_15 kk) ?_
    refine cR_if (t := 20) lk158_16 (by decide) (fun c5 => ?_) (fun c5 => ?_)
    · rw [if_pos c5] at h
      refine cR_lift (fun _ _ kk => eE_aload_n lk158_20 g0 kk) ?_
      refine cR_lift (fun _ _ kk => eE_iload_n lk158_21 g1 kk) ?_
      refine cR_lift (fun _ _ kk => eE_iconst (v := 0) lk158_22 (by decide) kk) ?_
      obtain ⟨p6, h7, h⟩ := Option.bind_eq_some_iff.mp h
      refine cR_virtG (by exact cQx_sub rfl) (cl := 13) (i := l0) (as := [.int l1, .int ((0 : Int32))]) lk158_23 mr_13_376 na_160 rfl rfl (by first | exact Nat.le_of_ble_eq_true rfl | (simp [xcat, cvo_cat, cat_i, cat_j, cat_r]; done)) wv_160 wc_160 bl0 (k_Server_sendTo_ok hp0 hL hF (d := d + 0) bl0 h7) (fun m8 g_9 g_9e => ?_)
      refine cR_lift (fun _ _ kk => eE_aload_n lk158_26 g0 kk) ?_
      refine cR_getO (cl' := 7) (i' := l0) lk158_27 rf_13_21 rfl rfl (cob_any rfl bl0) ?_
      refine cR_getI lk158_30 rf_13_112 rfl (cob_s (cl := 7) (cob_any rfl bl0) (by decide) rfl rfl) ?_
      refine cR_lift (fun _ _ kk => eE_iload_n lk158_33 g1 kk) ?_
      refine cR_icmp (t := 67) lk158_34 (by decide) (fun c10 => ?_) (fun c10 => ?_)
      · rw [if_pos c10] at h
        exact k_Server_sendBack_b67_ok hp0 hL hF  g_9 lv p6  _ h
      · rw [if_neg c10] at h
        refine cR_lift (fun _ _ kk => eE_aload_n lk158_37 g0 kk) ?_
        refine cR_getO (cl' := 7) (i' := l0) lk158_38 rf_13_21 rfl rfl (cob_any rfl bl0) ?_
        refine cR_getA lk158_41 rf_13_459 (by decide) (cob_s (cl := 7) (cob_any rfl bl0) (by decide) rfl rfl) ?_
        refine cR_lift (fun _ _ kk => eE_iload_n lk158_44 g1 kk) ?_
        obtain ⟨x11, h12, h⟩ := Option.bind_eq_some_iff.mp h
        refine cR_iald (cl := 7) (i := l0) (f := 1) lk158_45 (by decide) rfl (cob_s (cl := 7) (cob_any rfl bl0) (by decide) rfl rfl) h12 ?_
        refine cR_lift (fun _ _ kk => eE_aload_n lk158_46 g0 kk) ?_
        refine cR_getO (cl' := 9) (i' := l0) lk158_47 rf_13_72 rfl rfl (cob_any rfl bl0) ?_
        refine cR_getI lk158_50 rf_13_103 rfl (cob_s (cl := 9) (cob_any rfl bl0) (by decide) rfl rfl) ?_
        refine cR_icmp (t := 67) lk158_53 (by decide) (fun c13 => ?_) (fun c13 => ?_)
        · rw [if_pos c13] at h
          exact k_Server_sendBack_b67_ok hp0 hL hF  g_9 lv p6  _ h
        · rw [if_neg c13] at h
          refine cR_lift (fun _ _ kk => eE_aload_n lk158_56 g0 kk) ?_
          refine cR_lift (fun _ _ kk => eE_aload_n lk158_57 g0 kk) ?_
          refine cR_lift (fun _ _ kk => eE_iload_n lk158_58 g1 kk) ?_
          refine cR_lift (fun _ _ kk => eE_bipush (v := 9) lk158_59 (by decide) kk) ?_
          obtain ⟨p14, h15, h⟩ := Option.bind_eq_some_iff.mp h
          refine cR_rep (fun _ hc => k_Server_letterTo_lt hc (cob_any rfl bl0) h15) (fun b16 => ?_)
          refine cR_virt (cl := 13) (i := l0) (as := [.int l1, .int ((9 : Int32))]) lk158_61 mr_13_351 na_144 rfl rfl (by first | exact Nat.le_of_ble_eq_true rfl | (simp [xcat, cvo_cat, cat_i, cat_j, cat_r]; done)) wv_144 wc_144 (cob_any rfl bl0) (k_Server_letterTo_ok hp0 hL hF (d := d + 2) (cob_any rfl bl0) h15) (fun m17  => ?_)
          obtain ⟨p18, h19, h⟩ := Option.bind_eq_some_iff.mp h
          refine cR_virtG (by exact cQx_sub rfl) (cl := 13) (i := l0) (as := [.ref (coa E 8 p14.1)]) lk158_64 mr_13_362 na_132 rfl rfl (by first | exact Nat.le_of_ble_eq_true rfl | (simp [xcat, cvo_cat, cat_i, cat_j, cat_r]; done)) wv_132 wc_132 (cob_any rfl bl0) (k_Server_dispatch_ok hp0 hL hF (d := d + 1) (cob_any rfl bl0) b16 h19) (fun m20 g_21 g_21e => ?_)
          exact k_Server_sendBack_b67_ok hp0 hL hF  g_21 lv p18  _ h
    · rw [if_neg c5] at h
      exact k_Server_sendBack_b19_ok hp0 hL hF  g lv σ  _ h
def k_Server_sendBack (F : Nat) (σ : CS) (l0 : Nat) (l1 : Int32) : Option (CS) := k_Server_sendBack_b0 F σ l0 l1
theorem k_Server_sendBack_ok {E : CE} {pF : Nat → List Value → xH → Option (Option Value × xH)} (hp0 : xNPc pF) (hL : lcAll E pF) (hF : lcF pF) {d : Nat} {g : CG} {σ : CS} {F : Nat} {l0 : Nat} {l1 : Int32} {res : CS} (bl0 : cob σ 13 l0) (h : k_Server_sendBack F σ l0 l1 = some res) : cCo E (cQx [13, 14]) pF (d + 14) 158 [.ref (coa E 13 l0), .int l1] none res g σ :=
  cCo_R kk_158 mo_158 ni_158 xm_158 (Nat.le_of_ble_eq_true rfl) (hp0 158 (by decide) _) (k_Server_sendBack_b0_ok hp0 hL hF g _ σ l0 l1 bl0 rfl rfl _ h)
/-! k_Server_sendToAll (161), depth 14 -/
def k_Server_sendToAll_b27 (F : Nat) (K7 : CS → Nat → Int32 → Int32 → Int32 → Option (CS)) (σ : CS) (l0 : Nat) (l1 : Int32) (l2 : Int32) (l3 : Int32) : Option (CS) :=
  K7 σ l0 l1 l2 (l3 + (1 : Int32))
set_option maxRecDepth 4000 in
theorem k_Server_sendToAll_b27_ok {E : CE} {pF : Nat → List Value → xH → Option (Option Value × xH)} (hp0 : xNPc pF) (hL : lcAll E pF) (hF : lcF pF) {d : Nat} {F : Nat} {K7 : CS → Nat → Int32 → Int32 → Int32 → Option (CS)} (hK7 : ∀ (g : CG) (lv : xL) (σ : CS) (l0 : Nat) (l1 : Int32) (l2 : Int32) (l3 : Int32), (cob σ 13 l0) → (xg lv 0 = some (.ref (coa E 13 l0))) → (xg lv 1 = some (.int l1)) → (xg lv 2 = some (.int l2)) → (xg lv 3 = some (.int l3)) → ∀ res, K7 σ l0 l1 l2 l3 = some res → cR E (cQx [13, 14]) pF (d + 13) kT161 13 4 none none res g σ (7, lv, [])) : ∀ (g : CG) (lv : xL) (σ : CS) (l0 : Nat) (l1 : Int32) (l2 : Int32) (l3 : Int32), (cob σ 13 l0) → (xg lv 0 = some (.ref (coa E 13 l0))) → (xg lv 1 = some (.int l1)) → (xg lv 2 = some (.int l2)) → (xg lv 3 = some (.int l3)) → ∀ res, k_Server_sendToAll_b27 F K7 σ l0 l1 l2 l3 = some res → cR E (cQx [13, 14]) pF (d + 13) kT161 13 4 none none res g σ (27, lv, []) := by
  intro g lv σ l0 l1 l2 l3 bl0 g0 g1 g2 g3 res h
  unfold k_Server_sendToAll_b27 at h
  refine cR_inc (j := 3) (v := l3 + (1 : Int32)) lk161_27 g3 rfl (by decide) (fun vq1 gq2 kq3 => ?_)
  have gq4 := kq3 0 _ (by decide) (fun e => absurd e (by decide)) g0
  have gq5 := kq3 1 _ (by decide) (fun e => absurd e (by decide)) g1
  have gq6 := kq3 2 _ (by decide) (fun _ => rfl) g2
  refine cR_lift (fun _ _ kk => eE_goto (t := 7) lk161_30 (by decide) kk) ?_
  exact hK7 g vq1 σ l0 l1 l2 (l3 + (1 : Int32)) bl0 gq4 gq5 gq6 gq2 _ h
def k_Server_sendToAll_b7 (F : Nat)  : Nat → CS → Nat → Int32 → Int32 → Int32 → Option (CS)
  | 0, _, _, _, _, _ => none
  | n + 1, σ, l0, l1, l2, l3 =>
    let KK := k_Server_sendToAll_b7 F  n
    if xc2 .ge l3 ((7 : Int32)) = true then (
      some σ
    ) else (
      if xc0 .eq ((l2 >>> (l3 &&& 31)) &&& ((1 : Int32))) = true then (
        k_Server_sendToAll_b27 F KK σ l0 l1 l2 l3
      ) else (
        (k_Server_sendTo F σ l0 l3 l1).bind fun p9 =>
        k_Server_sendToAll_b27 F KK p9 l0 l1 l2 l3
      )
    )
set_option maxRecDepth 4000 in
theorem k_Server_sendToAll_b7_ok {E : CE} {pF : Nat → List Value → xH → Option (Option Value × xH)} (hp0 : xNPc pF) (hL : lcAll E pF) (hF : lcF pF) {d : Nat} {F : Nat}   : ∀ (n : Nat) (g : CG) (lv : xL) (σ : CS) (l0 : Nat) (l1 : Int32) (l2 : Int32) (l3 : Int32), (cob σ 13 l0) → (xg lv 0 = some (.ref (coa E 13 l0))) → (xg lv 1 = some (.int l1)) → (xg lv 2 = some (.int l2)) → (xg lv 3 = some (.int l3)) → ∀ res, k_Server_sendToAll_b7 F  n σ l0 l1 l2 l3 = some res → cR E (cQx [13, 14]) pF (d + 13) kT161 13 4 none none res g σ (7, lv, []) := by
  intro n
  induction n with
  | zero => intro g lv σ l0 l1 l2 l3 bl0 g0 g1 g2 g3 res h; simp [k_Server_sendToAll_b7] at h
  | succ n hKK =>
    intro g lv σ l0 l1 l2 l3 bl0 g0 g1 g2 g3 res h
    unfold k_Server_sendToAll_b7 at h
    dsimp only at h
    refine cR_lift (fun _ _ kk => eE_iload_n lk161_7 g3 kk) ?_
    refine cR_lift (fun _ _ kk => eE_bipush (v := 7) lk161_8 (by decide) kk) ?_
    refine cR_icmp (t := 33) lk161_10 (by decide) (fun c7 => ?_) (fun c7 => ?_)
    · rw [if_pos c7] at h
      cases h
      exact cR_end lk161_33 rfl rfl rfl
    · rw [if_neg c7] at h
      refine cR_lift (fun _ _ kk => eE_iload_n lk161_13 g2 kk) ?_
      refine cR_lift (fun _ _ kk => eE_iload_n lk161_14 g3 kk) ?_
      refine cR_lift (fun _ _ kk => eE_ishr lk161_15 kk) ?_
      refine cR_lift (fun _ _ kk => eE_iconst (v := 1) lk161_16 (by decide) kk) ?_
      refine cR_lift (fun _ _ kk => eE_iand lk161_17 kk) ?_
      refine cR_if (t := 27) lk161_18 (by decide) (fun c8 => ?_) (fun c8 => ?_)
      · rw [if_pos c8] at h
        exact k_Server_sendToAll_b27_ok hp0 hL hF hKK g lv σ l0 l1 l2 l3 bl0 g0 g1 g2 g3 _ h
      · rw [if_neg c8] at h
        refine cR_lift (fun _ _ kk => eE_aload_n lk161_21 g0 kk) ?_
        refine cR_lift (fun _ _ kk => eE_iload_n lk161_22 g3 kk) ?_
        refine cR_lift (fun _ _ kk => eE_iload_n lk161_23 g1 kk) ?_
        obtain ⟨p9, h10, h⟩ := Option.bind_eq_some_iff.mp h
        refine cR_virtG (by exact cQx_sub rfl) (cl := 13) (i := l0) (as := [.int l3, .int l1]) lk161_24 mr_13_376 na_160 rfl rfl (by first | exact Nat.le_of_ble_eq_true rfl | (simp [xcat, cvo_cat, cat_i, cat_j, cat_r]; done)) wv_160 wc_160 bl0 (k_Server_sendTo_ok hp0 hL hF (d := d + 0) bl0 h10) (fun m11 g_12 g_12e => ?_)
        exact k_Server_sendToAll_b27_ok hp0 hL hF hKK g_12 lv p9 l0 l1 l2 l3 (cob_any rfl bl0) g0 g1 g2 g3 _ h
def k_Server_sendToAll_b0 (F : Nat)  (σ : CS) (l0 : Nat) (l1 : Int32) : Option (CS) :=
  (k_Server_peers σ l0).bind fun p13 =>
  k_Server_sendToAll_b7 F  F σ l0 l1 p13 ((0 : Int32))
set_option maxRecDepth 4000 in
theorem k_Server_sendToAll_b0_ok {E : CE} {pF : Nat → List Value → xH → Option (Option Value × xH)} (hp0 : xNPc pF) (hL : lcAll E pF) (hF : lcF pF) {d : Nat} {F : Nat}   : ∀ (g : CG) (lv : xL) (σ : CS) (l0 : Nat) (l1 : Int32), (cob σ 13 l0) → (xg lv 0 = some (.ref (coa E 13 l0))) → (xg lv 1 = some (.int l1)) → ∀ res, k_Server_sendToAll_b0 F  σ l0 l1 = some res → cR E (cQx [13, 14]) pF (d + 13) kT161 13 4 none none res g σ (0, lv, []) := by
  intro g lv σ l0 l1 bl0 g0 g1 res h
  unfold k_Server_sendToAll_b0 at h
  refine cR_lift (fun _ _ kk => eE_aload_n lk161_0 g0 kk) ?_
  obtain ⟨p13, h14, h⟩ := Option.bind_eq_some_iff.mp h
  refine cR_virt (cl := 13) (i := l0) (as := []) lk161_1 mr_13_373 na_150 rfl rfl (by first | exact Nat.le_of_ble_eq_true rfl | (simp [xcat, cvo_cat, cat_i, cat_j, cat_r]; done)) wv_150 wc_150 bl0 (k_Server_peers_ok hp0 hL hF (d := d + 12) bl0 h14) (fun m15  => ?_)
  refine cR_stI (j := 2) lk161_4 (Or.inr ⟨_, rfl, rfl⟩) (by decide) (fun vq16 gq17 kq18 => ?_)
  have gq19 := kq18 0 _ (by decide) (fun e => absurd e (by decide)) g0
  have gq20 := kq18 1 _ (by decide) (fun _ => rfl) g1
  refine cR_lift (fun _ _ kk => eE_iconst (v := 0) lk161_5 (by decide) kk) ?_
  refine cR_stI (j := 3) lk161_6 (Or.inr ⟨_, rfl, rfl⟩) (by decide) (fun vq21 gq22 kq23 => ?_)
  have gq24 := kq23 0 _ (by decide) (fun e => absurd e (by decide)) gq19
  have gq25 := kq23 1 _ (by decide) (fun e => absurd e (by decide)) gq20
  have gq26 := kq23 2 _ (by decide) (fun _ => rfl) gq17
  exact k_Server_sendToAll_b7_ok hp0 hL hF  F g vq21 σ l0 l1 p13 ((0 : Int32)) bl0 gq24 gq25 gq26 gq22 _ h
def k_Server_sendToAll (F : Nat) (σ : CS) (l0 : Nat) (l1 : Int32) : Option (CS) := k_Server_sendToAll_b0 F σ l0 l1
theorem k_Server_sendToAll_ok {E : CE} {pF : Nat → List Value → xH → Option (Option Value × xH)} (hp0 : xNPc pF) (hL : lcAll E pF) (hF : lcF pF) {d : Nat} {g : CG} {σ : CS} {F : Nat} {l0 : Nat} {l1 : Int32} {res : CS} (bl0 : cob σ 13 l0) (h : k_Server_sendToAll F σ l0 l1 = some res) : cCo E (cQx [13, 14]) pF (d + 14) 161 [.ref (coa E 13 l0), .int l1] none res g σ :=
  cCo_R kk_161 mo_161 ni_161 xm_161 (Nat.le_of_ble_eq_true rfl) (hp0 161 (by decide) _) (k_Server_sendToAll_b0_ok hp0 hL hF g _ σ l0 l1 bl0 rfl rfl _ h)
/-! k_Server_setMembers (163), depth 15 -/
def k_Server_setMembers_b0 (F : Nat)  (σ : CS) (l0 : Nat) (l1 : Int32) : Option (CS) :=
  (k_Log_rowOf σ l0 (cI σ 13 l0 10 0) ((1 : Int32)) ((4 : Int32)) l1 ((0 : Int32)) ((-1 : Int32))).bind fun p1 =>
  (k_Server_append_9_2 F p1.2 l0 p1.1 ((0 : Int32))).bind fun p5 =>
  (k_Server_sendToAll F p5 l0 ((0 : Int32))).bind fun p9 =>
  some p9
set_option maxRecDepth 4000 in
theorem k_Server_setMembers_b0_ok {E : CE} {pF : Nat → List Value → xH → Option (Option Value × xH)} (hp0 : xNPc pF) (hL : lcAll E pF) (hF : lcF pF) {d : Nat} {F : Nat}   : ∀ (g : CG) (lv : xL) (σ : CS) (l0 : Nat) (l1 : Int32), (cob σ 13 l0) → (xg lv 0 = some (.ref (coa E 13 l0))) → (xg lv 1 = some (.int l1)) → ∀ res, k_Server_setMembers_b0 F  σ l0 l1 = some res → cR E (cQx [11, 13, 14]) pF (d + 14) kT163 13 2 none none res g σ (0, lv, []) := by
  intro g lv σ l0 l1 bl0 g0 g1 res h
  unfold k_Server_setMembers_b0 at h
  refine cR_lift (fun _ _ kk => eE_aload_n lk163_0 g0 kk) ?_
  refine cR_lift (fun _ _ kk => eE_aload_n lk163_1 g0 kk) ?_
  refine cR_getO (cl' := 9) (i' := l0) lk163_2 rf_13_72 rfl rfl bl0 ?_
  refine cR_lift (fun _ _ kk => eE_aload_n lk163_5 g0 kk) ?_
  refine cR_getI lk163_6 rf_13_88 rfl bl0 ?_
  refine cR_lift (fun _ _ kk => eE_iconst (v := 1) lk163_9 (by decide) kk) ?_
  refine cR_lift (fun _ _ kk => eE_iconst (v := 4) lk163_10 (by decide) kk) ?_
  refine cR_lift (fun _ _ kk => eE_iload_n lk163_11 g1 kk) ?_
  refine cR_lift (fun _ _ kk => eE_iconst (v := 0) lk163_12 (by decide) kk) ?_
  refine cR_lift (fun _ _ kk => eE_iconst (v := (-1)) lk163_13 (by decide) kk) ?_
  obtain ⟨p1, h2, h⟩ := Option.bind_eq_some_iff.mp h
  refine cR_rep (fun _ hc => k_Log_rowOf_lt hc (cob_s (cl := 9) bl0 (by decide) rfl rfl) h2) (fun b3 => ?_)
  refine cR_virt (cl := 9) (i := l0) (as := [.int (cI σ 13 l0 10 0), .int ((1 : Int32)), .int ((4 : Int32)), .int l1, .int ((0 : Int32)), .int ((-1 : Int32))]) lk163_14 mr_13_447 na_73 rfl rfl (by first | exact Nat.le_of_ble_eq_true rfl | (simp [xcat, cvo_cat, cat_i, cat_j, cat_r]; done)) wv_73 wc_73 (cob_s (cl := 9) bl0 (by decide) rfl rfl) (k_Log_rowOf_ok hp0 hL hF (d := d + 13) (cob_s (cl := 9) bl0 (by decide) rfl rfl) h2) (fun m4  => ?_)
  refine cR_lift (fun _ _ kk => eE_iconst (v := 0) lk163_17 (by decide) kk) ?_
  obtain ⟨p5, h6, h⟩ := Option.bind_eq_some_iff.mp h
  refine cR_virtG (by exact cQx_sub rfl) (cl := 13) (i := l0) (as := [.ref (caa E 9 p1.1 2), .int ((0 : Int32))]) lk163_18 mr_13_451 na_122 rfl rfl (by first | exact Nat.le_of_ble_eq_true rfl | (simp [xcat, cvo_cat, cat_i, cat_j, cat_r]; done)) wv_122 wc_122 (cob_any rfl bl0) (k_Server_append_9_2_ok hp0 hL hF (d := d + 9) (cob_any rfl bl0) b3 h6) (fun m7 g_8 g_8e => ?_)
  refine cR_lift (fun _ _ kk => eE_aload_n lk163_21 g0 kk) ?_
  refine cR_lift (fun _ _ kk => eE_iconst (v := 0) lk163_22 (by decide) kk) ?_
  obtain ⟨p9, h10, h⟩ := Option.bind_eq_some_iff.mp h
  refine cR_virtG (by exact cQx_sub rfl) (cl := 13) (i := l0) (as := [.int ((0 : Int32))]) lk163_23 mr_13_162 na_161 rfl rfl (by first | exact Nat.le_of_ble_eq_true rfl | (simp [xcat, cvo_cat, cat_i, cat_j, cat_r]; done)) wv_161 wc_161 (cob_any rfl bl0) (k_Server_sendToAll_ok hp0 hL hF (d := d + 0) (cob_any rfl bl0) h10) (fun m11 g_12 g_12e => ?_)
  cases h
  exact cR_end lk163_26 rfl rfl rfl
def k_Server_setMembers (F : Nat) (σ : CS) (l0 : Nat) (l1 : Int32) : Option (CS) := k_Server_setMembers_b0 F σ l0 l1
theorem k_Server_setMembers_ok {E : CE} {pF : Nat → List Value → xH → Option (Option Value × xH)} (hp0 : xNPc pF) (hL : lcAll E pF) (hF : lcF pF) {d : Nat} {g : CG} {σ : CS} {F : Nat} {l0 : Nat} {l1 : Int32} {res : CS} (bl0 : cob σ 13 l0) (h : k_Server_setMembers F σ l0 l1 = some res) : cCo E (cQx [11, 13, 14]) pF (d + 15) 163 [.ref (coa E 13 l0), .int l1] none res g σ :=
  cCo_R kk_163 mo_163 ni_163 xm_163 (Nat.le_of_ble_eq_true rfl) (hp0 163 (by decide) _) (k_Server_setMembers_b0_ok hp0 hL hF g _ σ l0 l1 bl0 rfl rfl _ h)
/-! k_Server_takeDue (171), depth 1 -/
def k_Server_takeDue_b14  (σ : CS) (s0 : Int32) (l0 : Nat) (l1 : Int32) : Option ((Int32) × CS) :=
  (some (csI σ 13 l0 19 0 ((cI σ 13 l0 19 0) &&& (l1 ^^^ ((-1 : Int32)))))).bind fun σ6 =>
  if s0 = 0 ∨ s0 = 1 then some (s0, σ6) else none
set_option maxRecDepth 4000 in
theorem k_Server_takeDue_b14_ok {E : CE} {pF : Nat → List Value → xH → Option (Option Value × xH)} (hp0 : xNPc pF) (hL : lcAll E pF) (hF : lcF pF) {d : Nat}   : ∀ (g : CG) (lv : xL) (σ : CS) (s0 : Int32) (l0 : Nat) (l1 : Int32), (cob σ 13 l0) → (xg lv 0 = some (.ref (coa E 13 l0))) → (xg lv 1 = some (.int l1)) → ∀ res, k_Server_takeDue_b14  σ s0 l0 l1 = some res → cR E cQ1 pF (d + 0) kT171 13 3 (some FieldType.boolean) (some (.int res.1)) res.2 g σ (14, lv, [.int s0]) := by
  intro g lv σ s0 l0 l1 bl0 g0 g1 res h
  unfold k_Server_takeDue_b14 at h
  refine cR_stI (j := 2) lk171_14 (Or.inr ⟨_, rfl, rfl⟩) (by decide) (fun vq1 gq2 kq3 => ?_)
  have gq4 := kq3 0 _ (by decide) (fun e => absurd e (by decide)) g0
  have gq5 := kq3 1 _ (by decide) (fun _ => rfl) g1
  refine cR_lift (fun _ _ kk => eE_aload_n lk171_15 gq4 kk) ?_
  refine cR_lift (fun _ _ kk => eE_dup lk171_16 rfl kk) ?_
  refine cR_getI lk171_17 rf_13_146 rfl bl0 ?_
  refine cR_lift (fun _ _ kk => eE_iload_n lk171_20 gq5 kk) ?_
  refine cR_lift (fun _ _ kk => eE_iconst (v := (-1)) lk171_21 (by decide) kk) ?_
  refine cR_lift (fun _ _ kk => eE_ixor lk171_22 kk) ?_
  refine cR_lift (fun _ _ kk => eE_iand lk171_23 kk) ?_
  obtain ⟨σ6, h7, h⟩ := Option.bind_eq_some_iff.mp h
  refine cR_putI lk171_24 rf_13_146 rfl bl0 pf_13_19 rfl h7 ?_
  refine cR_lift (fun _ _ kk => eE_iload_n lk171_27 gq2 kk) ?_
  by_cases z8 : s0 = 0 ∨ s0 = 1
  · rw [if_pos z8] at h; cases h
    exact cR_end lk171_28 rfl rfl (by first | (simp only [xfin, if_true, if_pos z8]; done) | simp [xfin, z8])
  · rw [if_neg z8] at h; cases h
def k_Server_takeDue_b0  (σ : CS) (l0 : Nat) (l1 : Int32) : Option ((Int32) × CS) :=
  if xc0 .eq ((cI σ 13 l0 19 0) &&& l1) = true then (
    k_Server_takeDue_b14  σ ((0 : Int32)) l0 l1
  ) else (
    k_Server_takeDue_b14  σ ((1 : Int32)) l0 l1
  )
set_option maxRecDepth 4000 in
theorem k_Server_takeDue_b0_ok {E : CE} {pF : Nat → List Value → xH → Option (Option Value × xH)} (hp0 : xNPc pF) (hL : lcAll E pF) (hF : lcF pF) {d : Nat}   : ∀ (g : CG) (lv : xL) (σ : CS) (l0 : Nat) (l1 : Int32), (cob σ 13 l0) → (xg lv 0 = some (.ref (coa E 13 l0))) → (xg lv 1 = some (.int l1)) → ∀ res, k_Server_takeDue_b0  σ l0 l1 = some res → cR E cQ1 pF (d + 0) kT171 13 3 (some FieldType.boolean) (some (.int res.1)) res.2 g σ (0, lv, []) := by
  intro g lv σ l0 l1 bl0 g0 g1 res h
  unfold k_Server_takeDue_b0 at h
  refine cR_lift (fun _ _ kk => eE_aload_n lk171_0 g0 kk) ?_
  refine cR_getI lk171_1 rf_13_146 rfl bl0 ?_
  refine cR_lift (fun _ _ kk => eE_iload_n lk171_4 g1 kk) ?_
  refine cR_lift (fun _ _ kk => eE_iand lk171_5 kk) ?_
  refine cR_if (t := 13) lk171_6 (by decide) (fun c9 => ?_) (fun c9 => ?_)
  · rw [if_pos c9] at h
    refine cR_lift (fun _ _ kk => eE_iconst (v := 0) lk171_13 (by decide) kk) ?_
    exact k_Server_takeDue_b14_ok hp0 hL hF  g lv σ ((0 : Int32)) l0 l1 bl0 g0 g1 _ h
  · rw [if_neg c9] at h
    refine cR_lift (fun _ _ kk => eE_iconst (v := 1) lk171_9 (by decide) kk) ?_
    refine cR_lift (fun _ _ kk => eE_goto (t := 14) lk171_10 (by decide) kk) ?_
    exact k_Server_takeDue_b14_ok hp0 hL hF  g lv σ ((1 : Int32)) l0 l1 bl0 g0 g1 _ h
def k_Server_takeDue (σ : CS) (l0 : Nat) (l1 : Int32) : Option ((Int32) × CS) := k_Server_takeDue_b0 σ l0 l1
theorem k_Server_takeDue_ok {E : CE} {pF : Nat → List Value → xH → Option (Option Value × xH)} (hp0 : xNPc pF) (hL : lcAll E pF) (hF : lcF pF) {d : Nat} {g : CG} {σ : CS} {l0 : Nat} {l1 : Int32} {res : (Int32) × CS} (bl0 : cob σ 13 l0) (h : k_Server_takeDue σ l0 l1 = some res) : cCo E cQ1 pF (d + 1) 171 [.ref (coa E 13 l0), .int l1] (some (.int res.1)) res.2 g σ :=
  cCo_R kk_171 mo_171 ni_171 xm_171 (Nat.le_of_ble_eq_true rfl) (hp0 171 (by decide) _) (k_Server_takeDue_b0_ok hp0 hL hF g _ σ l0 l1 bl0 rfl rfl _ h)
/-! k_Server_takeLead (174), depth 11 -/
def k_Server_takeLead_b0 (F : Nat)  (σ : CS) (l0 : Nat) : Option (CS) :=
  (k_Log_length σ l0).bind fun p1 =>
  if xc2 .lt p1 ((300 : Int32)) = true then (
    (some (csI σ 13 l0 12 0 ((3 : Int32)))).bind fun σ5 =>
    (some (csI σ5 13 l0 13 0 (cI σ5 13 l0 0 0))).bind fun σ7 =>
    (k_Lead_begin F σ7 l0 (cI σ7 9 l0 6 0) (cI σ7 14 0 0 0)).bind fun p9 =>
    (k_Log_rowOf p9 l0 (cI p9 13 l0 10 0) ((0 : Int32)) ((0 : Int32)) ((0 : Int32)) ((0 : Int32)) ((-1 : Int32))).bind fun p12 =>
    (k_Server_append_9_2 F p12.2 l0 p12.1 ((0 : Int32))).bind fun p16 =>
    (some (csI p16 13 l0 19 0 ((cI p16 13 l0 19 0) ||| ((4 : Int32))))).bind fun σ20 =>
    some σ20
  ) else (
    (k_Server_stepDown F σ l0 (cI σ 13 l0 10 0) ((-1 : Int32))).bind fun p22 =>
    some p22
  )
set_option maxRecDepth 4000 in
theorem k_Server_takeLead_b0_ok {E : CE} {pF : Nat → List Value → xH → Option (Option Value × xH)} (hp0 : xNPc pF) (hL : lcAll E pF) (hF : lcF pF) {d : Nat} {F : Nat}   : ∀ (g : CG) (lv : xL) (σ : CS) (l0 : Nat), (cob σ 13 l0) → (xg lv 0 = some (.ref (coa E 13 l0))) → ∀ res, k_Server_takeLead_b0 F  σ l0 = some res → cR E (cQx [11]) pF (d + 10) kT174 13 1 none none res g σ (0, lv, []) := by
  intro g lv σ l0 bl0 g0 res h
  unfold k_Server_takeLead_b0 at h
  refine cR_lift (fun _ _ kk => eE_aload_n lk174_0 g0 kk) ?_
  refine cR_getO (cl' := 9) (i' := l0) lk174_1 rf_13_72 rfl rfl bl0 ?_
  obtain ⟨p1, h2, h⟩ := Option.bind_eq_some_iff.mp h
  refine cR_virt (cl := 9) (i := l0) (as := []) lk174_4 mr_13_326 na_69 rfl rfl (by first | exact Nat.le_of_ble_eq_true rfl | (simp [xcat, cvo_cat, cat_i, cat_j, cat_r]; done)) wv_69 wc_69 (cob_s (cl := 9) bl0 (by decide) rfl rfl) (k_Log_length_ok hp0 hL hF (d := d + 9) (cob_s (cl := 9) bl0 (by decide) rfl rfl) h2) (fun m3  => ?_)
  refine cR_lift (fun _ _ kk => eE_sipush (v := 300) lk174_7 (by decide) kk) ?_
  refine cR_icmp (t := 23) lk174_10 (by decide) (fun c4 => ?_) (fun c4 => ?_)
  · rw [if_pos c4] at h
    refine cR_lift (fun _ _ kk => eE_aload_n lk174_23 g0 kk) ?_
    refine cR_lift (fun _ _ kk => eE_iconst (v := 3) lk174_24 (by decide) kk) ?_
    obtain ⟨σ5, h6, h⟩ := Option.bind_eq_some_iff.mp h
    refine cR_putI lk174_25 rf_13_85 rfl bl0 pf_13_12 rfl h6 ?_
    refine cR_lift (fun _ _ kk => eE_aload_n lk174_28 g0 kk) ?_
    refine cR_lift (fun _ _ kk => eE_aload_n lk174_29 g0 kk) ?_
    refine cR_getI lk174_30 rf_13_60 rfl (cob_any rfl bl0) ?_
    obtain ⟨σ7, h8, h⟩ := Option.bind_eq_some_iff.mp h
    refine cR_putI lk174_33 rf_13_47 rfl (cob_any rfl bl0) pf_13_13 rfl h8 ?_
    refine cR_lift (fun _ _ kk => eE_aload_n lk174_36 g0 kk) ?_
    refine cR_getO (cl' := 7) (i' := l0) lk174_37 rf_13_21 rfl rfl (cob_any rfl bl0) ?_
    refine cR_lift (fun _ _ kk => eE_aload_n lk174_40 g0 kk) ?_
    refine cR_getO (cl' := 9) (i' := l0) lk174_41 rf_13_72 rfl rfl (cob_any rfl bl0) ?_
    refine cR_getI lk174_44 rf_13_103 rfl (cob_s (cl := 9) (cob_any rfl bl0) (by decide) rfl rfl) ?_
    refine cR_lift (fun _ _ kk => eE_aload_n lk174_47 g0 kk) ?_
    refine cR_getO (cl' := 14) (i' := 0) lk174_48 rf_13_63 rfl rfl (cob_any rfl bl0) ?_
    refine cR_getI lk174_51 rf_13_241 rfl (cob_0 (c := σ7) (cl := 14) (by decide) rfl rfl) ?_
    obtain ⟨p9, h10, h⟩ := Option.bind_eq_some_iff.mp h
    refine cR_virt (cl := 7) (i := l0) (as := [.int (cI σ7 9 l0 6 0), .int (cI σ7 14 0 0 0)]) lk174_54 mr_13_244 na_54 rfl rfl (by first | exact Nat.le_of_ble_eq_true rfl | (simp [xcat, cvo_cat, cat_i, cat_j, cat_r]; done)) wv_54 wc_54 (cob_s (cl := 7) (cob_any rfl bl0) (by decide) rfl rfl) (k_Lead_begin_ok hp0 hL hF (d := d + 0) (cob_s (cl := 7) (cob_any rfl bl0) (by decide) rfl rfl) h10) (fun m11  => ?_)
    refine cR_lift (fun _ _ kk => eE_aload_n lk174_57 g0 kk) ?_
    refine cR_lift (fun _ _ kk => eE_aload_n lk174_58 g0 kk) ?_
    refine cR_getO (cl' := 9) (i' := l0) lk174_59 rf_13_72 rfl rfl (cob_any rfl bl0) ?_
    refine cR_lift (fun _ _ kk => eE_aload_n lk174_62 g0 kk) ?_
    refine cR_getI lk174_63 rf_13_88 rfl (cob_any rfl bl0) ?_
    refine cR_lift (fun _ _ kk => eE_iconst (v := 0) lk174_66 (by decide) kk) ?_
    refine cR_lift (fun _ _ kk => eE_iconst (v := 0) lk174_67 (by decide) kk) ?_
    refine cR_lift (fun _ _ kk => eE_iconst (v := 0) lk174_68 (by decide) kk) ?_
    refine cR_lift (fun _ _ kk => eE_iconst (v := 0) lk174_69 (by decide) kk) ?_
    refine cR_lift (fun _ _ kk => eE_iconst (v := (-1)) lk174_70 (by decide) kk) ?_
    obtain ⟨p12, h13, h⟩ := Option.bind_eq_some_iff.mp h
    refine cR_rep (fun _ hc => k_Log_rowOf_lt hc (cob_s (cl := 9) (cob_any rfl bl0) (by decide) rfl rfl) h13) (fun b14 => ?_)
    refine cR_virt (cl := 9) (i := l0) (as := [.int (cI p9 13 l0 10 0), .int ((0 : Int32)), .int ((0 : Int32)), .int ((0 : Int32)), .int ((0 : Int32)), .int ((-1 : Int32))]) lk174_71 mr_13_447 na_73 rfl rfl (by first | exact Nat.le_of_ble_eq_true rfl | (simp [xcat, cvo_cat, cat_i, cat_j, cat_r]; done)) wv_73 wc_73 (cob_s (cl := 9) (cob_any rfl bl0) (by decide) rfl rfl) (k_Log_rowOf_ok hp0 hL hF (d := d + 9) (cob_s (cl := 9) (cob_any rfl bl0) (by decide) rfl rfl) h13) (fun m15  => ?_)
    refine cR_lift (fun _ _ kk => eE_iconst (v := 0) lk174_74 (by decide) kk) ?_
    obtain ⟨p16, h17, h⟩ := Option.bind_eq_some_iff.mp h
    refine cR_virtG (by exact cQx_sub rfl) (cl := 13) (i := l0) (as := [.ref (caa E 9 p12.1 2), .int ((0 : Int32))]) lk174_75 mr_13_451 na_122 rfl rfl (by first | exact Nat.le_of_ble_eq_true rfl | (simp [xcat, cvo_cat, cat_i, cat_j, cat_r]; done)) wv_122 wc_122 (cob_any rfl bl0) (k_Server_append_9_2_ok hp0 hL hF (d := d + 5) (cob_any rfl bl0) b14 h17) (fun m18 g_19 g_19e => ?_)
    refine cR_lift (fun _ _ kk => eE_aload_n lk174_78 g0 kk) ?_
    refine cR_lift (fun _ _ kk => eE_dup lk174_79 rfl kk) ?_
    refine cR_getI lk174_80 rf_13_146 rfl (cob_any rfl bl0) ?_
    refine cR_lift (fun _ _ kk => eE_iconst (v := 4) lk174_83 (by decide) kk) ?_
    refine cR_lift (fun _ _ kk => eE_ior lk174_84 kk) ?_
    obtain ⟨σ20, h21, h⟩ := Option.bind_eq_some_iff.mp h
    refine cR_putI lk174_85 rf_13_146 rfl (cob_any rfl bl0) pf_13_19 rfl h21 ?_
    cases h
    exact cR_end lk174_88 rfl rfl rfl
  · rw [if_neg c4] at h
    refine cR_lift (fun _ _ kk => eE_aload_n lk174_13 g0 kk) ?_
    refine cR_lift (fun _ _ kk => eE_aload_n lk174_14 g0 kk) ?_
    refine cR_getI lk174_15 rf_13_88 rfl bl0 ?_
    refine cR_lift (fun _ _ kk => eE_iconst (v := (-1)) lk174_18 (by decide) kk) ?_
    obtain ⟨p22, h23, h⟩ := Option.bind_eq_some_iff.mp h
    refine cR_virt (cl := 13) (i := l0) (as := [.int (cI σ 13 l0 10 0), .int ((-1 : Int32))]) lk174_19 mr_13_438 na_166 rfl rfl (by first | exact Nat.le_of_ble_eq_true rfl | (simp [xcat, cvo_cat, cat_i, cat_j, cat_r]; done)) wv_166 wc_166 bl0 (k_Server_stepDown_ok hp0 hL hF (d := d + 6) bl0 h23) (fun m24  => ?_)
    cases h
    exact cR_end lk174_22 rfl rfl rfl
def k_Server_takeLead (F : Nat) (σ : CS) (l0 : Nat) : Option (CS) := k_Server_takeLead_b0 F σ l0
theorem k_Server_takeLead_ok {E : CE} {pF : Nat → List Value → xH → Option (Option Value × xH)} (hp0 : xNPc pF) (hL : lcAll E pF) (hF : lcF pF) {d : Nat} {g : CG} {σ : CS} {F : Nat} {l0 : Nat} {res : CS} (bl0 : cob σ 13 l0) (h : k_Server_takeLead F σ l0 = some res) : cCo E (cQx [11]) pF (d + 11) 174 [.ref (coa E 13 l0)] none res g σ :=
  cCo_R kk_174 mo_174 ni_174 xm_174 (Nat.le_of_ble_eq_true rfl) (hp0 174 (by decide) _) (k_Server_takeLead_b0_ok hp0 hL hF g _ σ l0 bl0 rfl _ h)
/-! k_Server_settle (164), depth 15 -/
def k_Server_settle_b173 (F : Nat)  (σ : CS) : Option (CS) :=
  some σ
set_option maxRecDepth 4000 in
theorem k_Server_settle_b173_ok {E : CE} {pF : Nat → List Value → xH → Option (Option Value × xH)} (hp0 : xNPc pF) (hL : lcAll E pF) (hF : lcF pF) {d : Nat} {F : Nat}   : ∀ (g : CG) (lv : xL) (σ : CS), ∀ res, k_Server_settle_b173 F  σ = some res → cR E (cQx [10, 11, 13, 14]) pF (d + 14) kT164 13 2 none none res g σ (173, lv, []) := by
  intro g lv σ res h
  unfold k_Server_settle_b173 at h
  cases h
  exact cR_end lk164_173 rfl rfl rfl
def k_Server_settle_b142 (F : Nat)  (σ : CS) (l0 : Nat) (l1 : Option Nat) : Option (CS) :=
  (k_Server_takeDue σ l0 ((512 : Int32))).bind fun p1 =>
  if xc0 .eq p1.1 = true then (
    k_Server_settle_b173 F  p1.2
  ) else (
    if l1 = none then (
      k_Server_settle_b173 F  p1.2
    ) else (
      (l1).bind fun a7 =>
      (l1).bind fun a9 =>
      (l1).bind fun a11 =>
      (k_Server_sendAppended F p1.2 l0 (cI p1.2 8 a7 2 0) ((1 : Int32)) (cI p1.2 8 a9 7 0) (cI p1.2 8 a11 10 0)).bind fun p13 =>
      k_Server_settle_b173 F  p13
    )
  )
set_option maxRecDepth 4000 in
theorem k_Server_settle_b142_ok {E : CE} {pF : Nat → List Value → xH → Option (Option Value × xH)} (hp0 : xNPc pF) (hL : lcAll E pF) (hF : lcF pF) {d : Nat} {F : Nat}   : ∀ (g : CG) (lv : xL) (σ : CS) (l0 : Nat) (l1 : Option Nat), (cob σ 13 l0) → (∀ a, l1 = some a → cob σ 8 a) → (xg lv 0 = some (.ref (coa E 13 l0))) → (xg lv 1 = some (cvo l1)) → ∀ res, k_Server_settle_b142 F  σ l0 l1 = some res → cR E (cQx [10, 11, 13, 14]) pF (d + 14) kT164 13 2 none none res g σ (142, lv, []) := by
  intro g lv σ l0 l1 bl0 bl1 g0 g1 res h
  unfold k_Server_settle_b142 at h
  refine cR_lift (fun _ _ kk => eE_aload_n lk164_142 g0 kk) ?_
  refine cR_lift (fun _ _ kk => eE_sipush (v := 512) lk164_143 (by decide) kk) ?_
  obtain ⟨p1, h2, h⟩ := Option.bind_eq_some_iff.mp h
  refine cR_virt (cl := 13) (i := l0) (as := [.int ((512 : Int32))]) lk164_146 mr_13_149 na_171 rfl rfl (by first | exact Nat.le_of_ble_eq_true rfl | (simp [xcat, cvo_cat, cat_i, cat_j, cat_r]; done)) wv_171 wc_171 bl0 (k_Server_takeDue_ok hp0 hL hF (d := d + 13) bl0 h2) (fun m3  => ?_)
  refine cR_if (t := 173) lk164_149 (by decide) (fun c4 => ?_) (fun c4 => ?_)
  · rw [if_pos c4] at h
    exact k_Server_settle_b173_ok hp0 hL hF  g lv p1.2  _ h
  · rw [if_neg c4] at h
    refine cR_ldO (j := 1) lk164_152 (Or.inr ⟨_, rfl, rfl⟩) g1 ?_
    refine cR_ifnull (t := 173) lk164_153 (by decide) (fun c5 => ?_) (fun a6 c5s => ?_)
    · rw [if_pos c5] at h
      exact k_Server_settle_b173_ok hp0 hL hF  g lv p1.2  _ h
    · have c5 : ¬ l1 = none := by rw [c5s]; exact fun e => nomatch e
      rw [if_neg c5] at h
      refine cR_lift (fun _ _ kk => eE_aload_n lk164_156 g0 kk) ?_
      refine cR_ldO (j := 1) lk164_157 (Or.inr ⟨_, rfl, rfl⟩) g1 ?_
      obtain ⟨a7, h8, h⟩ := Option.bind_eq_some_iff.mp h
      rw [h8]
      refine cR_getI lk164_158 rf_13_181 rfl ((fun a e => cob_mon m3 (bl1 a e)) _ h8) ?_
      refine cR_lift (fun _ _ kk => eE_iconst (v := 1) lk164_161 (by decide) kk) ?_
      refine cR_ldO (j := 1) lk164_162 (Or.inr ⟨_, rfl, rfl⟩) g1 ?_
      obtain ⟨a9, h10, h⟩ := Option.bind_eq_some_iff.mp h
      rw [h10]
      refine cR_getI lk164_163 rf_13_189 rfl ((fun a e => cob_mon m3 (bl1 a e)) _ h10) ?_
      refine cR_ldO (j := 1) lk164_166 (Or.inr ⟨_, rfl, rfl⟩) g1 ?_
      obtain ⟨a11, h12, h⟩ := Option.bind_eq_some_iff.mp h
      rw [h12]
      refine cR_getI lk164_167 rf_13_192 rfl ((fun a e => cob_mon m3 (bl1 a e)) _ h12) ?_
      obtain ⟨p13, h14, h⟩ := Option.bind_eq_some_iff.mp h
      refine cR_virtG (by exact cQx_sub rfl) (cl := 13) (i := l0) (as := [.int (cI p1.2 8 a7 2 0), .int ((1 : Int32)), .int (cI p1.2 8 a9 7 0), .int (cI p1.2 8 a11 10 0)]) lk164_170 mr_13_193 na_157 rfl rfl (by first | exact Nat.le_of_ble_eq_true rfl | (simp [xcat, cvo_cat, cat_i, cat_j, cat_r]; done)) wv_157 wc_157 (cob_any rfl bl0) (k_Server_sendAppended_ok hp0 hL hF (d := d + 1) (cob_any rfl bl0) h14) (fun m15 g_16 g_16e => ?_)
      exact k_Server_settle_b173_ok hp0 hL hF  g_16 lv p13  _ h
def k_Server_settle_b120 (F : Nat)  (σ : CS) (l0 : Nat) (l1 : Option Nat) : Option (CS) :=
  (k_Server_takeDue σ l0 ((256 : Int32))).bind fun p17 =>
  if xc0 .eq p17.1 = true then (
    k_Server_settle_b142 F  p17.2 l0 l1
  ) else (
    if l1 = none then (
      k_Server_settle_b142 F  p17.2 l0 l1
    ) else (
      (l1).bind fun a23 =>
      (k_Server_sendBack F p17.2 l0 (cI p17.2 8 a23 2 0)).bind fun p25 =>
      k_Server_settle_b142 F  p25 l0 l1
    )
  )
set_option maxRecDepth 4000 in
theorem k_Server_settle_b120_ok {E : CE} {pF : Nat → List Value → xH → Option (Option Value × xH)} (hp0 : xNPc pF) (hL : lcAll E pF) (hF : lcF pF) {d : Nat} {F : Nat}   : ∀ (g : CG) (lv : xL) (σ : CS) (l0 : Nat) (l1 : Option Nat), (cob σ 13 l0) → (∀ a, l1 = some a → cob σ 8 a) → (xg lv 0 = some (.ref (coa E 13 l0))) → (xg lv 1 = some (cvo l1)) → ∀ res, k_Server_settle_b120 F  σ l0 l1 = some res → cR E (cQx [10, 11, 13, 14]) pF (d + 14) kT164 13 2 none none res g σ (120, lv, []) := by
  intro g lv σ l0 l1 bl0 bl1 g0 g1 res h
  unfold k_Server_settle_b120 at h
  refine cR_lift (fun _ _ kk => eE_aload_n lk164_120 g0 kk) ?_
  refine cR_lift (fun _ _ kk => eE_sipush (v := 256) lk164_121 (by decide) kk) ?_
  obtain ⟨p17, h18, h⟩ := Option.bind_eq_some_iff.mp h
  refine cR_virt (cl := 13) (i := l0) (as := [.int ((256 : Int32))]) lk164_124 mr_13_149 na_171 rfl rfl (by first | exact Nat.le_of_ble_eq_true rfl | (simp [xcat, cvo_cat, cat_i, cat_j, cat_r]; done)) wv_171 wc_171 bl0 (k_Server_takeDue_ok hp0 hL hF (d := d + 13) bl0 h18) (fun m19  => ?_)
  refine cR_if (t := 142) lk164_127 (by decide) (fun c20 => ?_) (fun c20 => ?_)
  · rw [if_pos c20] at h
    exact k_Server_settle_b142_ok hp0 hL hF  g lv p17.2 l0 l1 (cob_any rfl bl0) (fun a e => cob_mon m19 (bl1 a e)) g0 g1 _ h
  · rw [if_neg c20] at h
    refine cR_ldO (j := 1) lk164_130 (Or.inr ⟨_, rfl, rfl⟩) g1 ?_
    refine cR_ifnull (t := 142) lk164_131 (by decide) (fun c21 => ?_) (fun a22 c21s => ?_)
    · rw [if_pos c21] at h
      exact k_Server_settle_b142_ok hp0 hL hF  g lv p17.2 l0 l1 (cob_any rfl bl0) (fun a e => cob_mon m19 (bl1 a e)) g0 g1 _ h
    · have c21 : ¬ l1 = none := by rw [c21s]; exact fun e => nomatch e
      rw [if_neg c21] at h
      refine cR_lift (fun _ _ kk => eE_aload_n lk164_134 g0 kk) ?_
      refine cR_ldO (j := 1) lk164_135 (Or.inr ⟨_, rfl, rfl⟩) g1 ?_
      obtain ⟨a23, h24, h⟩ := Option.bind_eq_some_iff.mp h
      rw [h24]
      refine cR_getI lk164_136 rf_13_181 rfl ((fun a e => cob_mon m19 (bl1 a e)) _ h24) ?_
      obtain ⟨p25, h26, h⟩ := Option.bind_eq_some_iff.mp h
      refine cR_virtG (by exact cQx_sub rfl) (cl := 13) (i := l0) (as := [.int (cI p17.2 8 a23 2 0)]) lk164_139 mr_13_186 na_158 rfl rfl (by first | exact Nat.le_of_ble_eq_true rfl | (simp [xcat, cvo_cat, cat_i, cat_j, cat_r]; done)) wv_158 wc_158 (cob_any rfl bl0) (k_Server_sendBack_ok hp0 hL hF (d := d + 0) (cob_any rfl bl0) h26) (fun m27 g_28 g_28e => ?_)
      exact k_Server_settle_b142_ok hp0 hL hF  g_28 lv p25 l0 l1 (cob_any rfl bl0) (fun a e => cob_mon m27 ((fun a e => cob_mon m19 (bl1 a e)) a e)) g0 g1 _ h
def k_Server_settle_b106 (F : Nat)  (σ : CS) (l0 : Nat) (l1 : Option Nat) : Option (CS) :=
  (k_Server_takeDue σ l0 ((128 : Int32))).bind fun p29 =>
  if xc0 .eq p29.1 = true then (
    k_Server_settle_b120 F  p29.2 l0 l1
  ) else (
    (k_Server_answerReads F p29.2 l0).bind fun p33 =>
    k_Server_settle_b120 F  p33 l0 l1
  )
set_option maxRecDepth 4000 in
theorem k_Server_settle_b106_ok {E : CE} {pF : Nat → List Value → xH → Option (Option Value × xH)} (hp0 : xNPc pF) (hL : lcAll E pF) (hF : lcF pF) {d : Nat} {F : Nat}   : ∀ (g : CG) (lv : xL) (σ : CS) (l0 : Nat) (l1 : Option Nat), (cob σ 13 l0) → (∀ a, l1 = some a → cob σ 8 a) → (xg lv 0 = some (.ref (coa E 13 l0))) → (xg lv 1 = some (cvo l1)) → ∀ res, k_Server_settle_b106 F  σ l0 l1 = some res → cR E (cQx [10, 11, 13, 14]) pF (d + 14) kT164 13 2 none none res g σ (106, lv, []) := by
  intro g lv σ l0 l1 bl0 bl1 g0 g1 res h
  unfold k_Server_settle_b106 at h
  refine cR_lift (fun _ _ kk => eE_aload_n lk164_106 g0 kk) ?_
  refine cR_lift (fun _ _ kk => eE_sipush (v := 128) lk164_107 (by decide) kk) ?_
  obtain ⟨p29, h30, h⟩ := Option.bind_eq_some_iff.mp h
  refine cR_virt (cl := 13) (i := l0) (as := [.int ((128 : Int32))]) lk164_110 mr_13_149 na_171 rfl rfl (by first | exact Nat.le_of_ble_eq_true rfl | (simp [xcat, cvo_cat, cat_i, cat_j, cat_r]; done)) wv_171 wc_171 bl0 (k_Server_takeDue_ok hp0 hL hF (d := d + 13) bl0 h30) (fun m31  => ?_)
  refine cR_if (t := 120) lk164_113 (by decide) (fun c32 => ?_) (fun c32 => ?_)
  · rw [if_pos c32] at h
    exact k_Server_settle_b120_ok hp0 hL hF  g lv p29.2 l0 l1 (cob_any rfl bl0) (fun a e => cob_mon m31 (bl1 a e)) g0 g1 _ h
  · rw [if_neg c32] at h
    refine cR_lift (fun _ _ kk => eE_aload_n lk164_116 g0 kk) ?_
    obtain ⟨p33, h34, h⟩ := Option.bind_eq_some_iff.mp h
    refine cR_virtG (by exact cQx_sub rfl) (cl := 13) (i := l0) (as := []) lk164_117 mr_13_166 na_121 rfl rfl (by first | exact Nat.le_of_ble_eq_true rfl | (simp [xcat, cvo_cat, cat_i, cat_j, cat_r]; done)) wv_121 wc_121 (cob_any rfl bl0) (k_Server_answerReads_ok hp0 hL hF (d := d + 0) (cob_any rfl bl0) h34) (fun m35 g_36 g_36e => ?_)
    exact k_Server_settle_b120_ok hp0 hL hF  g_36 lv p33 l0 l1 (cob_any rfl bl0) (fun a e => cob_mon m35 ((fun a e => cob_mon m31 (bl1 a e)) a e)) g0 g1 _ h
def k_Server_settle_b92 (F : Nat)  (σ : CS) (l0 : Nat) (l1 : Option Nat) : Option (CS) :=
  (k_Server_takeDue σ l0 ((64 : Int32))).bind fun p37 =>
  if xc0 .eq p37.1 = true then (
    k_Server_settle_b106 F  p37.2 l0 l1
  ) else (
    (k_Server_sendToAll F p37.2 l0 ((0 : Int32))).bind fun p41 =>
    k_Server_settle_b106 F  p41 l0 l1
  )
set_option maxRecDepth 4000 in
theorem k_Server_settle_b92_ok {E : CE} {pF : Nat → List Value → xH → Option (Option Value × xH)} (hp0 : xNPc pF) (hL : lcAll E pF) (hF : lcF pF) {d : Nat} {F : Nat}   : ∀ (g : CG) (lv : xL) (σ : CS) (l0 : Nat) (l1 : Option Nat), (cob σ 13 l0) → (∀ a, l1 = some a → cob σ 8 a) → (xg lv 0 = some (.ref (coa E 13 l0))) → (xg lv 1 = some (cvo l1)) → ∀ res, k_Server_settle_b92 F  σ l0 l1 = some res → cR E (cQx [10, 11, 13, 14]) pF (d + 14) kT164 13 2 none none res g σ (92, lv, []) := by
  intro g lv σ l0 l1 bl0 bl1 g0 g1 res h
  unfold k_Server_settle_b92 at h
  refine cR_lift (fun _ _ kk => eE_aload_n lk164_92 g0 kk) ?_
  refine cR_lift (fun _ _ kk => eE_bipush (v := 64) lk164_93 (by decide) kk) ?_
  obtain ⟨p37, h38, h⟩ := Option.bind_eq_some_iff.mp h
  refine cR_virt (cl := 13) (i := l0) (as := [.int ((64 : Int32))]) lk164_95 mr_13_149 na_171 rfl rfl (by first | exact Nat.le_of_ble_eq_true rfl | (simp [xcat, cvo_cat, cat_i, cat_j, cat_r]; done)) wv_171 wc_171 bl0 (k_Server_takeDue_ok hp0 hL hF (d := d + 13) bl0 h38) (fun m39  => ?_)
  refine cR_if (t := 106) lk164_98 (by decide) (fun c40 => ?_) (fun c40 => ?_)
  · rw [if_pos c40] at h
    exact k_Server_settle_b106_ok hp0 hL hF  g lv p37.2 l0 l1 (cob_any rfl bl0) (fun a e => cob_mon m39 (bl1 a e)) g0 g1 _ h
  · rw [if_neg c40] at h
    refine cR_lift (fun _ _ kk => eE_aload_n lk164_101 g0 kk) ?_
    refine cR_lift (fun _ _ kk => eE_iconst (v := 0) lk164_102 (by decide) kk) ?_
    obtain ⟨p41, h42, h⟩ := Option.bind_eq_some_iff.mp h
    refine cR_virtG (by exact cQx_sub rfl) (cl := 13) (i := l0) (as := [.int ((0 : Int32))]) lk164_103 mr_13_162 na_161 rfl rfl (by first | exact Nat.le_of_ble_eq_true rfl | (simp [xcat, cvo_cat, cat_i, cat_j, cat_r]; done)) wv_161 wc_161 (cob_any rfl bl0) (k_Server_sendToAll_ok hp0 hL hF (d := d + 0) (cob_any rfl bl0) h42) (fun m43 g_44 g_44e => ?_)
    exact k_Server_settle_b106_ok hp0 hL hF  g_44 lv p41 l0 l1 (cob_any rfl bl0) (fun a e => cob_mon m43 ((fun a e => cob_mon m39 (bl1 a e)) a e)) g0 g1 _ h
def k_Server_settle_b79 (F : Nat)  (σ : CS) (l0 : Nat) (l1 : Option Nat) : Option (CS) :=
  (k_Server_takeDue σ l0 ((32 : Int32))).bind fun p45 =>
  if xc0 .eq p45.1 = true then (
    k_Server_settle_b92 F  p45.2 l0 l1
  ) else (
    (k_Server_moveMembers F p45.2 l0).bind fun p49 =>
    k_Server_settle_b92 F  p49 l0 l1
  )
set_option maxRecDepth 4000 in
theorem k_Server_settle_b79_ok {E : CE} {pF : Nat → List Value → xH → Option (Option Value × xH)} (hp0 : xNPc pF) (hL : lcAll E pF) (hF : lcF pF) {d : Nat} {F : Nat}   : ∀ (g : CG) (lv : xL) (σ : CS) (l0 : Nat) (l1 : Option Nat), (cob σ 13 l0) → (∀ a, l1 = some a → cob σ 8 a) → (xg lv 0 = some (.ref (coa E 13 l0))) → (xg lv 1 = some (cvo l1)) → ∀ res, k_Server_settle_b79 F  σ l0 l1 = some res → cR E (cQx [10, 11, 13, 14]) pF (d + 14) kT164 13 2 none none res g σ (79, lv, []) := by
  intro g lv σ l0 l1 bl0 bl1 g0 g1 res h
  unfold k_Server_settle_b79 at h
  refine cR_lift (fun _ _ kk => eE_aload_n lk164_79 g0 kk) ?_
  refine cR_lift (fun _ _ kk => eE_bipush (v := 32) lk164_80 (by decide) kk) ?_
  obtain ⟨p45, h46, h⟩ := Option.bind_eq_some_iff.mp h
  refine cR_virt (cl := 13) (i := l0) (as := [.int ((32 : Int32))]) lk164_82 mr_13_149 na_171 rfl rfl (by first | exact Nat.le_of_ble_eq_true rfl | (simp [xcat, cvo_cat, cat_i, cat_j, cat_r]; done)) wv_171 wc_171 bl0 (k_Server_takeDue_ok hp0 hL hF (d := d + 13) bl0 h46) (fun m47  => ?_)
  refine cR_if (t := 92) lk164_85 (by decide) (fun c48 => ?_) (fun c48 => ?_)
  · rw [if_pos c48] at h
    exact k_Server_settle_b92_ok hp0 hL hF  g lv p45.2 l0 l1 (cob_any rfl bl0) (fun a e => cob_mon m47 (bl1 a e)) g0 g1 _ h
  · rw [if_neg c48] at h
    refine cR_lift (fun _ _ kk => eE_aload_n lk164_88 g0 kk) ?_
    obtain ⟨p49, h50, h⟩ := Option.bind_eq_some_iff.mp h
    refine cR_virtG (by exact cQx_sub rfl) (cl := 13) (i := l0) (as := []) lk164_89 mr_13_178 na_149 rfl rfl (by first | exact Nat.le_of_ble_eq_true rfl | (simp [xcat, cvo_cat, cat_i, cat_j, cat_r]; done)) wv_149 wc_149 (cob_any rfl bl0) (k_Server_moveMembers_ok hp0 hL hF (d := d + 8) (cob_any rfl bl0) h50) (fun m51 g_52 g_52e => ?_)
    exact k_Server_settle_b92_ok hp0 hL hF  g_52 lv p49 l0 l1 (cob_any rfl bl0) (fun a e => cob_mon m51 ((fun a e => cob_mon m47 (bl1 a e)) a e)) g0 g1 _ h
def k_Server_settle_b58 (F : Nat)  (σ : CS) (l0 : Nat) (l1 : Option Nat) : Option (CS) :=
  (k_Server_takeDue σ l0 ((16 : Int32))).bind fun p53 =>
  if xc0 .eq p53.1 = true then (
    k_Server_settle_b79 F  p53.2 l0 l1
  ) else (
    (k_Server_apply F p53.2 l0).bind fun p57 =>
    (k_Server_answerReads F p57 l0).bind fun p61 =>
    (k_Server_compact F p61 l0).bind fun p65 =>
    k_Server_settle_b79 F  p65 l0 l1
  )
set_option maxRecDepth 4000 in
theorem k_Server_settle_b58_ok {E : CE} {pF : Nat → List Value → xH → Option (Option Value × xH)} (hp0 : xNPc pF) (hL : lcAll E pF) (hF : lcF pF) {d : Nat} {F : Nat}   : ∀ (g : CG) (lv : xL) (σ : CS) (l0 : Nat) (l1 : Option Nat), (cob σ 13 l0) → (∀ a, l1 = some a → cob σ 8 a) → (xg lv 0 = some (.ref (coa E 13 l0))) → (xg lv 1 = some (cvo l1)) → ∀ res, k_Server_settle_b58 F  σ l0 l1 = some res → cR E (cQx [10, 11, 13, 14]) pF (d + 14) kT164 13 2 none none res g σ (58, lv, []) := by
  intro g lv σ l0 l1 bl0 bl1 g0 g1 res h
  unfold k_Server_settle_b58 at h
  refine cR_lift (fun _ _ kk => eE_aload_n lk164_58 g0 kk) ?_
  refine cR_lift (fun _ _ kk => eE_bipush (v := 16) lk164_59 (by decide) kk) ?_
  obtain ⟨p53, h54, h⟩ := Option.bind_eq_some_iff.mp h
  refine cR_virt (cl := 13) (i := l0) (as := [.int ((16 : Int32))]) lk164_61 mr_13_149 na_171 rfl rfl (by first | exact Nat.le_of_ble_eq_true rfl | (simp [xcat, cvo_cat, cat_i, cat_j, cat_r]; done)) wv_171 wc_171 bl0 (k_Server_takeDue_ok hp0 hL hF (d := d + 13) bl0 h54) (fun m55  => ?_)
  refine cR_if (t := 79) lk164_64 (by decide) (fun c56 => ?_) (fun c56 => ?_)
  · rw [if_pos c56] at h
    exact k_Server_settle_b79_ok hp0 hL hF  g lv p53.2 l0 l1 (cob_any rfl bl0) (fun a e => cob_mon m55 (bl1 a e)) g0 g1 _ h
  · rw [if_neg c56] at h
    refine cR_lift (fun _ _ kk => eE_aload_n lk164_67 g0 kk) ?_
    obtain ⟨p57, h58, h⟩ := Option.bind_eq_some_iff.mp h
    refine cR_virtG (by exact cQx_sub rfl) (cl := 13) (i := l0) (as := []) lk164_68 mr_13_172 na_123 rfl rfl (by first | exact Nat.le_of_ble_eq_true rfl | (simp [xcat, cvo_cat, cat_i, cat_j, cat_r]; done)) wv_123 wc_123 (cob_any rfl bl0) (k_Server_apply_ok hp0 hL hF (d := d + 0) (cob_any rfl bl0) h58) (fun m59 g_60 g_60e => ?_)
    refine cR_lift (fun _ _ kk => eE_aload_n lk164_71 g0 kk) ?_
    obtain ⟨p61, h62, h⟩ := Option.bind_eq_some_iff.mp h
    refine cR_virtG (by exact cQx_sub rfl) (cl := 13) (i := l0) (as := []) lk164_72 mr_13_166 na_121 rfl rfl (by first | exact Nat.le_of_ble_eq_true rfl | (simp [xcat, cvo_cat, cat_i, cat_j, cat_r]; done)) wv_121 wc_121 (cob_any rfl bl0) (k_Server_answerReads_ok hp0 hL hF (d := d + 0) (cob_any rfl bl0) h62) (fun m63 g_64 g_64e => ?_)
    refine cR_lift (fun _ _ kk => eE_aload_n lk164_75 g0 kk) ?_
    obtain ⟨p65, h66, h⟩ := Option.bind_eq_some_iff.mp h
    refine cR_virtG (by exact cQx_sub rfl) (cl := 13) (i := l0) (as := []) lk164_76 mr_13_175 na_130 rfl rfl (by first | exact Nat.le_of_ble_eq_true rfl | (simp [xcat, cvo_cat, cat_i, cat_j, cat_r]; done)) wv_130 wc_130 (cob_any rfl bl0) (k_Server_compact_ok hp0 hL hF (d := d + 4) (cob_any rfl bl0) h66) (fun m67 g_68 g_68e => ?_)
    exact k_Server_settle_b79_ok hp0 hL hF  g_68 lv p65 l0 l1 (cob_any rfl bl0) (fun a e => cob_mon m67 ((fun a e => cob_mon m63 ((fun a e => cob_mon m59 ((fun a e => cob_mon m55 (bl1 a e)) a e)) a e)) a e)) g0 g1 _ h
def k_Server_settle_b45 (F : Nat)  (σ : CS) (l0 : Nat) (l1 : Option Nat) : Option (CS) :=
  (k_Server_takeDue σ l0 ((8 : Int32))).bind fun p69 =>
  if xc0 .eq p69.1 = true then (
    k_Server_settle_b58 F  p69.2 l0 l1
  ) else (
    (k_Server_countMatches F p69.2 l0).bind fun p73 =>
    k_Server_settle_b58 F  p73 l0 l1
  )
set_option maxRecDepth 4000 in
theorem k_Server_settle_b45_ok {E : CE} {pF : Nat → List Value → xH → Option (Option Value × xH)} (hp0 : xNPc pF) (hL : lcAll E pF) (hF : lcF pF) {d : Nat} {F : Nat}   : ∀ (g : CG) (lv : xL) (σ : CS) (l0 : Nat) (l1 : Option Nat), (cob σ 13 l0) → (∀ a, l1 = some a → cob σ 8 a) → (xg lv 0 = some (.ref (coa E 13 l0))) → (xg lv 1 = some (cvo l1)) → ∀ res, k_Server_settle_b45 F  σ l0 l1 = some res → cR E (cQx [10, 11, 13, 14]) pF (d + 14) kT164 13 2 none none res g σ (45, lv, []) := by
  intro g lv σ l0 l1 bl0 bl1 g0 g1 res h
  unfold k_Server_settle_b45 at h
  refine cR_lift (fun _ _ kk => eE_aload_n lk164_45 g0 kk) ?_
  refine cR_lift (fun _ _ kk => eE_bipush (v := 8) lk164_46 (by decide) kk) ?_
  obtain ⟨p69, h70, h⟩ := Option.bind_eq_some_iff.mp h
  refine cR_virt (cl := 13) (i := l0) (as := [.int ((8 : Int32))]) lk164_48 mr_13_149 na_171 rfl rfl (by first | exact Nat.le_of_ble_eq_true rfl | (simp [xcat, cvo_cat, cat_i, cat_j, cat_r]; done)) wv_171 wc_171 bl0 (k_Server_takeDue_ok hp0 hL hF (d := d + 13) bl0 h70) (fun m71  => ?_)
  refine cR_if (t := 58) lk164_51 (by decide) (fun c72 => ?_) (fun c72 => ?_)
  · rw [if_pos c72] at h
    exact k_Server_settle_b58_ok hp0 hL hF  g lv p69.2 l0 l1 (cob_any rfl bl0) (fun a e => cob_mon m71 (bl1 a e)) g0 g1 _ h
  · rw [if_neg c72] at h
    refine cR_lift (fun _ _ kk => eE_aload_n lk164_54 g0 kk) ?_
    obtain ⟨p73, h74, h⟩ := Option.bind_eq_some_iff.mp h
    refine cR_virt (cl := 13) (i := l0) (as := []) lk164_55 mr_13_169 na_131 rfl rfl (by first | exact Nat.le_of_ble_eq_true rfl | (simp [xcat, cvo_cat, cat_i, cat_j, cat_r]; done)) wv_131 wc_131 (cob_any rfl bl0) (k_Server_countMatches_ok hp0 hL hF (d := d + 9) (cob_any rfl bl0) h74) (fun m75  => ?_)
    exact k_Server_settle_b58_ok hp0 hL hF  g lv p73 l0 l1 (cob_any rfl bl0) (fun a e => cob_mon m75 ((fun a e => cob_mon m71 (bl1 a e)) a e)) g0 g1 _ h
def k_Server_settle_b24 (F : Nat)  (σ : CS) (l0 : Nat) (l1 : Option Nat) : Option (CS) :=
  (k_Server_takeDue σ l0 ((4 : Int32))).bind fun p76 =>
  if xc0 .eq p76.1 = true then (
    k_Server_settle_b45 F  p76.2 l0 l1
  ) else (
    (k_Server_beat F p76.2 l0).bind fun p80 =>
    (k_Server_sendToAll F p80 l0 ((1 : Int32))).bind fun p83 =>
    (k_Server_answerReads F p83 l0).bind fun p87 =>
    k_Server_settle_b45 F  p87 l0 l1
  )
set_option maxRecDepth 4000 in
theorem k_Server_settle_b24_ok {E : CE} {pF : Nat → List Value → xH → Option (Option Value × xH)} (hp0 : xNPc pF) (hL : lcAll E pF) (hF : lcF pF) {d : Nat} {F : Nat}   : ∀ (g : CG) (lv : xL) (σ : CS) (l0 : Nat) (l1 : Option Nat), (cob σ 13 l0) → (∀ a, l1 = some a → cob σ 8 a) → (xg lv 0 = some (.ref (coa E 13 l0))) → (xg lv 1 = some (cvo l1)) → ∀ res, k_Server_settle_b24 F  σ l0 l1 = some res → cR E (cQx [10, 11, 13, 14]) pF (d + 14) kT164 13 2 none none res g σ (24, lv, []) := by
  intro g lv σ l0 l1 bl0 bl1 g0 g1 res h
  unfold k_Server_settle_b24 at h
  refine cR_lift (fun _ _ kk => eE_aload_n lk164_24 g0 kk) ?_
  refine cR_lift (fun _ _ kk => eE_iconst (v := 4) lk164_25 (by decide) kk) ?_
  obtain ⟨p76, h77, h⟩ := Option.bind_eq_some_iff.mp h
  refine cR_virt (cl := 13) (i := l0) (as := [.int ((4 : Int32))]) lk164_26 mr_13_149 na_171 rfl rfl (by first | exact Nat.le_of_ble_eq_true rfl | (simp [xcat, cvo_cat, cat_i, cat_j, cat_r]; done)) wv_171 wc_171 bl0 (k_Server_takeDue_ok hp0 hL hF (d := d + 13) bl0 h77) (fun m78  => ?_)
  refine cR_if (t := 45) lk164_29 (by decide) (fun c79 => ?_) (fun c79 => ?_)
  · rw [if_pos c79] at h
    exact k_Server_settle_b45_ok hp0 hL hF  g lv p76.2 l0 l1 (cob_any rfl bl0) (fun a e => cob_mon m78 (bl1 a e)) g0 g1 _ h
  · rw [if_neg c79] at h
    refine cR_lift (fun _ _ kk => eE_aload_n lk164_32 g0 kk) ?_
    obtain ⟨p80, h81, h⟩ := Option.bind_eq_some_iff.mp h
    refine cR_virt (cl := 13) (i := l0) (as := []) lk164_33 mr_13_159 na_127 rfl rfl (by first | exact Nat.le_of_ble_eq_true rfl | (simp [xcat, cvo_cat, cat_i, cat_j, cat_r]; done)) wv_127 wc_127 (cob_any rfl bl0) (k_Server_beat_ok hp0 hL hF (d := d + 12) (cob_any rfl bl0) h81) (fun m82  => ?_)
    refine cR_lift (fun _ _ kk => eE_aload_n lk164_36 g0 kk) ?_
    refine cR_lift (fun _ _ kk => eE_iconst (v := 1) lk164_37 (by decide) kk) ?_
    obtain ⟨p83, h84, h⟩ := Option.bind_eq_some_iff.mp h
    refine cR_virtG (by exact cQx_sub rfl) (cl := 13) (i := l0) (as := [.int ((1 : Int32))]) lk164_38 mr_13_162 na_161 rfl rfl (by first | exact Nat.le_of_ble_eq_true rfl | (simp [xcat, cvo_cat, cat_i, cat_j, cat_r]; done)) wv_161 wc_161 (cob_any rfl bl0) (k_Server_sendToAll_ok hp0 hL hF (d := d + 0) (cob_any rfl bl0) h84) (fun m85 g_86 g_86e => ?_)
    refine cR_lift (fun _ _ kk => eE_aload_n lk164_41 g0 kk) ?_
    obtain ⟨p87, h88, h⟩ := Option.bind_eq_some_iff.mp h
    refine cR_virtG (by exact cQx_sub rfl) (cl := 13) (i := l0) (as := []) lk164_42 mr_13_166 na_121 rfl rfl (by first | exact Nat.le_of_ble_eq_true rfl | (simp [xcat, cvo_cat, cat_i, cat_j, cat_r]; done)) wv_121 wc_121 (cob_any rfl bl0) (k_Server_answerReads_ok hp0 hL hF (d := d + 0) (cob_any rfl bl0) h88) (fun m89 g_90 g_90e => ?_)
    exact k_Server_settle_b45_ok hp0 hL hF  g_90 lv p87 l0 l1 (cob_any rfl bl0) (fun a e => cob_mon m89 ((fun a e => cob_mon m85 ((fun a e => cob_mon m82 ((fun a e => cob_mon m78 (bl1 a e)) a e)) a e)) a e)) g0 g1 _ h
def k_Server_settle_b12 (F : Nat)  (σ : CS) (l0 : Nat) (l1 : Option Nat) : Option (CS) :=
  (k_Server_takeDue σ l0 ((2 : Int32))).bind fun p91 =>
  if xc0 .eq p91.1 = true then (
    k_Server_settle_b24 F  p91.2 l0 l1
  ) else (
    (k_Server_takeLead F p91.2 l0).bind fun p95 =>
    k_Server_settle_b24 F  p95 l0 l1
  )
set_option maxRecDepth 4000 in
theorem k_Server_settle_b12_ok {E : CE} {pF : Nat → List Value → xH → Option (Option Value × xH)} (hp0 : xNPc pF) (hL : lcAll E pF) (hF : lcF pF) {d : Nat} {F : Nat}   : ∀ (g : CG) (lv : xL) (σ : CS) (l0 : Nat) (l1 : Option Nat), (cob σ 13 l0) → (∀ a, l1 = some a → cob σ 8 a) → (xg lv 0 = some (.ref (coa E 13 l0))) → (xg lv 1 = some (cvo l1)) → ∀ res, k_Server_settle_b12 F  σ l0 l1 = some res → cR E (cQx [10, 11, 13, 14]) pF (d + 14) kT164 13 2 none none res g σ (12, lv, []) := by
  intro g lv σ l0 l1 bl0 bl1 g0 g1 res h
  unfold k_Server_settle_b12 at h
  refine cR_lift (fun _ _ kk => eE_aload_n lk164_12 g0 kk) ?_
  refine cR_lift (fun _ _ kk => eE_iconst (v := 2) lk164_13 (by decide) kk) ?_
  obtain ⟨p91, h92, h⟩ := Option.bind_eq_some_iff.mp h
  refine cR_virt (cl := 13) (i := l0) (as := [.int ((2 : Int32))]) lk164_14 mr_13_149 na_171 rfl rfl (by first | exact Nat.le_of_ble_eq_true rfl | (simp [xcat, cvo_cat, cat_i, cat_j, cat_r]; done)) wv_171 wc_171 bl0 (k_Server_takeDue_ok hp0 hL hF (d := d + 13) bl0 h92) (fun m93  => ?_)
  refine cR_if (t := 24) lk164_17 (by decide) (fun c94 => ?_) (fun c94 => ?_)
  · rw [if_pos c94] at h
    exact k_Server_settle_b24_ok hp0 hL hF  g lv p91.2 l0 l1 (cob_any rfl bl0) (fun a e => cob_mon m93 (bl1 a e)) g0 g1 _ h
  · rw [if_neg c94] at h
    refine cR_lift (fun _ _ kk => eE_aload_n lk164_20 g0 kk) ?_
    obtain ⟨p95, h96, h⟩ := Option.bind_eq_some_iff.mp h
    refine cR_virtG (by exact cQx_sub rfl) (cl := 13) (i := l0) (as := []) lk164_21 mr_13_156 na_174 rfl rfl (by first | exact Nat.le_of_ble_eq_true rfl | (simp [xcat, cvo_cat, cat_i, cat_j, cat_r]; done)) wv_174 wc_174 (cob_any rfl bl0) (k_Server_takeLead_ok hp0 hL hF (d := d + 3) (cob_any rfl bl0) h96) (fun m97 g_98 g_98e => ?_)
    exact k_Server_settle_b24_ok hp0 hL hF  g_98 lv p95 l0 l1 (cob_any rfl bl0) (fun a e => cob_mon m97 ((fun a e => cob_mon m93 (bl1 a e)) a e)) g0 g1 _ h
def k_Server_settle_b0 (F : Nat)  (σ : CS) (l0 : Nat) (l1 : Option Nat) : Option (CS) :=
  (k_Server_takeDue σ l0 ((1 : Int32))).bind fun p99 =>
  if xc0 .eq p99.1 = true then (
    k_Server_settle_b12 F  p99.2 l0 l1
  ) else (
    (k_Server_campaign F p99.2 l0).bind fun p103 =>
    k_Server_settle_b12 F  p103 l0 l1
  )
set_option maxRecDepth 4000 in
theorem k_Server_settle_b0_ok {E : CE} {pF : Nat → List Value → xH → Option (Option Value × xH)} (hp0 : xNPc pF) (hL : lcAll E pF) (hF : lcF pF) {d : Nat} {F : Nat}   : ∀ (g : CG) (lv : xL) (σ : CS) (l0 : Nat) (l1 : Option Nat), (cob σ 13 l0) → (∀ a, l1 = some a → cob σ 8 a) → (xg lv 0 = some (.ref (coa E 13 l0))) → (xg lv 1 = some (cvo l1)) → ∀ res, k_Server_settle_b0 F  σ l0 l1 = some res → cR E (cQx [10, 11, 13, 14]) pF (d + 14) kT164 13 2 none none res g σ (0, lv, []) := by
  intro g lv σ l0 l1 bl0 bl1 g0 g1 res h
  unfold k_Server_settle_b0 at h
  refine cR_lift (fun _ _ kk => eE_aload_n lk164_0 g0 kk) ?_
  refine cR_lift (fun _ _ kk => eE_iconst (v := 1) lk164_1 (by decide) kk) ?_
  obtain ⟨p99, h100, h⟩ := Option.bind_eq_some_iff.mp h
  refine cR_virt (cl := 13) (i := l0) (as := [.int ((1 : Int32))]) lk164_2 mr_13_149 na_171 rfl rfl (by first | exact Nat.le_of_ble_eq_true rfl | (simp [xcat, cvo_cat, cat_i, cat_j, cat_r]; done)) wv_171 wc_171 bl0 (k_Server_takeDue_ok hp0 hL hF (d := d + 13) bl0 h100) (fun m101  => ?_)
  refine cR_if (t := 12) lk164_5 (by decide) (fun c102 => ?_) (fun c102 => ?_)
  · rw [if_pos c102] at h
    exact k_Server_settle_b12_ok hp0 hL hF  g lv p99.2 l0 l1 (cob_any rfl bl0) (fun a e => cob_mon m101 (bl1 a e)) g0 g1 _ h
  · rw [if_neg c102] at h
    refine cR_lift (fun _ _ kk => eE_aload_n lk164_8 g0 kk) ?_
    obtain ⟨p103, h104, h⟩ := Option.bind_eq_some_iff.mp h
    refine cR_virtG (by exact cQx_sub rfl) (cl := 13) (i := l0) (as := []) lk164_9 mr_13_153 na_128 rfl rfl (by first | exact Nat.le_of_ble_eq_true rfl | (simp [xcat, cvo_cat, cat_i, cat_j, cat_r]; done)) wv_128 wc_128 (cob_any rfl bl0) (k_Server_campaign_ok hp0 hL hF (d := d + 0) (cob_any rfl bl0) h104) (fun m105 g_106 g_106e => ?_)
    exact k_Server_settle_b12_ok hp0 hL hF  g_106 lv p103 l0 l1 (cob_any rfl bl0) (fun a e => cob_mon m105 ((fun a e => cob_mon m101 (bl1 a e)) a e)) g0 g1 _ h
def k_Server_settle (F : Nat) (σ : CS) (l0 : Nat) (l1 : Option Nat) : Option (CS) := k_Server_settle_b0 F σ l0 l1
theorem k_Server_settle_ok {E : CE} {pF : Nat → List Value → xH → Option (Option Value × xH)} (hp0 : xNPc pF) (hL : lcAll E pF) (hF : lcF pF) {d : Nat} {g : CG} {σ : CS} {F : Nat} {l0 : Nat} {l1 : Option Nat} {res : CS} (bl0 : cob σ 13 l0) (bl1 : ∀ a, l1 = some a → cob σ 8 a) (h : k_Server_settle F σ l0 l1 = some res) : cCo E (cQx [10, 11, 13, 14]) pF (d + 15) 164 [.ref (coa E 13 l0), cvo l1] none res g σ :=
  cCo_R kk_164 mo_164 ni_164 xm_164 (by cases l1 <;> exact Nat.le_of_ble_eq_true rfl) (hp0 164 (by decide) _) (k_Server_settle_b0_ok hp0 hL hF g _ σ l0 l1 bl0 bl1 rfl rfl _ h)
/-! k_Server_sync (167), depth 13 -/
def k_Server_sync_b115 (F : Nat)  (σ : CS) : Option (CS) :=
  some σ
set_option maxRecDepth 4000 in
theorem k_Server_sync_b115_ok {E : CE} {pF : Nat → List Value → xH → Option (Option Value × xH)} (hp0 : xNPc pF) (hL : lcAll E pF) (hF : lcF pF) {d : Nat} {F : Nat}   : ∀ (g : CG) (lv : xL) (σ : CS), ∀ res, k_Server_sync_b115 F  σ = some res → cR E (cQx [11, 14]) pF (d + 12) kT167 13 1 none none res g σ (115, lv, []) := by
  intro g lv σ res h
  unfold k_Server_sync_b115 at h
  cases h
  exact cR_end lk167_115 rfl rfl rfl
def k_Server_sync_b0 (F : Nat)  (σ : CS) (l0 : Nat) : Option (CS) :=
  (k_Disk_syncAll F σ l0).bind fun p1 =>
  (cputZ p1 13 l0 9 ((0 : Int32))).bind fun σ5 =>
  (k_Server_postWaiting F σ5 l0).bind fun p7 =>
  (some (csI p7 9 l0 11 0 (cI p7 9 l0 6 0))).bind fun σ11 =>
  if xc2 .ne (cI σ11 13 l0 12 0) ((2 : Int32)) = true then (
    if xc2 .ne (cI σ11 13 l0 12 0) ((3 : Int32)) = true then (
      k_Server_sync_b115 F  σ11
    ) else (
      (cwr σ11 7 l0 1 (cI σ11 13 l0 0 0) (cI σ11 9 l0 11 0)).bind fun σ15 =>
      (some (csI σ15 13 l0 19 0 ((cI σ15 13 l0 19 0) ||| ((8 : Int32))))).bind fun σ17 =>
      k_Server_sync_b115 F  σ17
    )
  ) else (
    (some (csI σ11 13 l0 15 0 ((cI σ11 13 l0 15 0) ||| (((1 : Int32)) <<< ((cI σ11 13 l0 0 0) &&& 31))))).bind fun σ19 =>
    (k_Server_isMajority σ19 l0 (cI σ19 13 l0 15 0)).bind fun p21 =>
    if xc0 .eq p21 = true then (
      k_Server_sync_b115 F  σ19
    ) else (
      (some (csI σ19 13 l0 19 0 ((cI σ19 13 l0 19 0) ||| ((2 : Int32))))).bind fun σ25 =>
      k_Server_sync_b115 F  σ25
    )
  )
set_option maxRecDepth 4000 in
theorem k_Server_sync_b0_ok {E : CE} {pF : Nat → List Value → xH → Option (Option Value × xH)} (hp0 : xNPc pF) (hL : lcAll E pF) (hF : lcF pF) {d : Nat} {F : Nat}   : ∀ (g : CG) (lv : xL) (σ : CS) (l0 : Nat), (cob σ 13 l0) → (xg lv 0 = some (.ref (coa E 13 l0))) → ∀ res, k_Server_sync_b0 F  σ l0 = some res → cR E (cQx [11, 14]) pF (d + 12) kT167 13 1 none none res g σ (0, lv, []) := by
  intro g lv σ l0 bl0 g0 res h
  unfold k_Server_sync_b0 at h
  refine cR_lift (fun _ _ kk => eE_aload_n lk167_0 g0 kk) ?_
  refine cR_getO (cl' := 6) (i' := l0) lk167_1 rf_13_12 rfl rfl bl0 ?_
  obtain ⟨p1, h2, h⟩ := Option.bind_eq_some_iff.mp h
  refine cR_virtG (by exact cQx_sub rfl) (cl := 6) (i := l0) (as := []) lk167_4 mr_13_220 na_48 rfl rfl (by first | exact Nat.le_of_ble_eq_true rfl | (simp [xcat, cvo_cat, cat_i, cat_j, cat_r]; done)) wv_48 wc_48 (cob_s (cl := 6) bl0 (by decide) rfl rfl) (k_Disk_syncAll_ok hp0 hL hF (d := d + 7) (cob_s (cl := 6) bl0 (by decide) rfl rfl) h2) (fun m3 g_4 g_4e => ?_)
  refine cR_lift (fun _ _ kk => eE_aload_n lk167_7 g0 kk) ?_
  refine cR_lift (fun _ _ kk => eE_iconst (v := 0) lk167_8 (by decide) kk) ?_
  obtain ⟨σ5, h6, h⟩ := Option.bind_eq_some_iff.mp h
  refine cR_putZ lk167_9 rf_13_115 rfl (cob_any rfl bl0) pf_13_9 h6 ?_
  refine cR_lift (fun _ _ kk => eE_aload_n lk167_12 g0 kk) ?_
  obtain ⟨p7, h8, h⟩ := Option.bind_eq_some_iff.mp h
  refine cR_virtG (by exact cQx_sub rfl) (cl := 13) (i := l0) (as := []) lk167_13 mr_13_223 na_151 rfl rfl (by first | exact Nat.le_of_ble_eq_true rfl | (simp [xcat, cvo_cat, cat_i, cat_j, cat_r]; done)) wv_151 wc_151 (cob_any rfl bl0) (k_Server_postWaiting_ok hp0 hL hF (d := d + 0) (cob_any rfl bl0) h8) (fun m9 g_10 g_10e => ?_)
  refine cR_lift (fun _ _ kk => eE_aload_n lk167_16 g0 kk) ?_
  refine cR_getO (cl' := 9) (i' := l0) lk167_17 rf_13_72 rfl rfl (cob_any rfl bl0) ?_
  refine cR_lift (fun _ _ kk => eE_aload_n lk167_20 g0 kk) ?_
  refine cR_getO (cl' := 9) (i' := l0) lk167_21 rf_13_72 rfl rfl (cob_any rfl bl0) ?_
  refine cR_getI lk167_24 rf_13_103 rfl (cob_s (cl := 9) (cob_any rfl bl0) (by decide) rfl rfl) ?_
  obtain ⟨σ11, h12, h⟩ := Option.bind_eq_some_iff.mp h
  refine cR_putI lk167_27 rf_13_97 rfl (cob_s (cl := 9) (cob_any rfl bl0) (by decide) rfl rfl) pf_9_11 rfl h12 ?_
  refine cR_lift (fun _ _ kk => eE_aload_n lk167_30 g0 kk) ?_
  refine cR_getI lk167_31 rf_13_85 rfl (cob_any rfl bl0) ?_
  refine cR_lift (fun _ _ kk => eE_iconst (v := 2) lk167_34 (by decide) kk) ?_
  refine cR_icmp (t := 77) lk167_35 (by decide) (fun c13 => ?_) (fun c13 => ?_)
  · rw [if_pos c13] at h
    refine cR_lift (fun _ _ kk => eE_aload_n lk167_77 g0 kk) ?_
    refine cR_getI lk167_78 rf_13_85 rfl (cob_any rfl bl0) ?_
    refine cR_lift (fun _ _ kk => eE_iconst (v := 3) lk167_81 (by decide) kk) ?_
    refine cR_icmp (t := 115) lk167_82 (by decide) (fun c14 => ?_) (fun c14 => ?_)
    · rw [if_pos c14] at h
      exact k_Server_sync_b115_ok hp0 hL hF  g_10 lv σ11  _ h
    · rw [if_neg c14] at h
      refine cR_lift (fun _ _ kk => eE_aload_n lk167_85 g0 kk) ?_
      refine cR_getO (cl' := 7) (i' := l0) lk167_86 rf_13_21 rfl rfl (cob_any rfl bl0) ?_
      refine cR_getA lk167_89 rf_13_459 (by decide) (cob_s (cl := 7) (cob_any rfl bl0) (by decide) rfl rfl) ?_
      refine cR_lift (fun _ _ kk => eE_aload_n lk167_92 g0 kk) ?_
      refine cR_getI lk167_93 rf_13_60 rfl (cob_any rfl bl0) ?_
      refine cR_lift (fun _ _ kk => eE_aload_n lk167_96 g0 kk) ?_
      refine cR_getO (cl' := 9) (i' := l0) lk167_97 rf_13_72 rfl rfl (cob_any rfl bl0) ?_
      refine cR_getI lk167_100 rf_13_97 rfl (cob_s (cl := 9) (cob_any rfl bl0) (by decide) rfl rfl) ?_
      obtain ⟨σ15, h16, h⟩ := Option.bind_eq_some_iff.mp h
      refine cR_iast (cl := 7) (i := l0) (f := 1) lk167_103 (by decide) rfl (cob_s (cl := 7) (cob_any rfl bl0) (by decide) rfl rfl) h16 ?_
      refine cR_lift (fun _ _ kk => eE_aload_n lk167_104 g0 kk) ?_
      refine cR_lift (fun _ _ kk => eE_dup lk167_105 rfl kk) ?_
      refine cR_getI lk167_106 rf_13_146 rfl (cob_any rfl bl0) ?_
      refine cR_lift (fun _ _ kk => eE_bipush (v := 8) lk167_109 (by decide) kk) ?_
      refine cR_lift (fun _ _ kk => eE_ior lk167_111 kk) ?_
      obtain ⟨σ17, h18, h⟩ := Option.bind_eq_some_iff.mp h
      refine cR_putI lk167_112 rf_13_146 rfl (cob_any rfl bl0) pf_13_19 rfl h18 ?_
      exact k_Server_sync_b115_ok hp0 hL hF  g_10 lv σ17  _ h
  · rw [if_neg c13] at h
    refine cR_lift (fun _ _ kk => eE_aload_n lk167_38 g0 kk) ?_
    refine cR_lift (fun _ _ kk => eE_dup lk167_39 rfl kk) ?_
    refine cR_getI lk167_40 rf_13_109 rfl (cob_any rfl bl0) ?_
    refine cR_lift (fun _ _ kk => eE_iconst (v := 1) lk167_43 (by decide) kk) ?_
    refine cR_lift (fun _ _ kk => eE_aload_n lk167_44 g0 kk) ?_
    refine cR_getI lk167_45 rf_13_60 rfl (cob_any rfl bl0) ?_
    refine cR_lift (fun _ _ kk => eE_ishl lk167_48 kk) ?_
    refine cR_lift (fun _ _ kk => eE_ior lk167_49 kk) ?_
    obtain ⟨σ19, h20, h⟩ := Option.bind_eq_some_iff.mp h
    refine cR_putI lk167_50 rf_13_109 rfl (cob_any rfl bl0) pf_13_15 rfl h20 ?_
    refine cR_lift (fun _ _ kk => eE_aload_n lk167_53 g0 kk) ?_
    refine cR_lift (fun _ _ kk => eE_aload_n lk167_54 g0 kk) ?_
    refine cR_getI lk167_55 rf_13_109 rfl (cob_any rfl bl0) ?_
    obtain ⟨p21, h22, h⟩ := Option.bind_eq_some_iff.mp h
    refine cR_virt (cl := 13) (i := l0) (as := [.int (cI σ19 13 l0 15 0)]) lk167_58 mr_13_444 na_142 rfl rfl (by first | exact Nat.le_of_ble_eq_true rfl | (simp [xcat, cvo_cat, cat_i, cat_j, cat_r]; done)) wv_142 wc_142 (cob_any rfl bl0) (k_Server_isMajority_ok hp0 hL hF (d := d + 10) (cob_any rfl bl0) h22) (fun m23  => ?_)
    refine cR_if (t := 115) lk167_61 (by decide) (fun c24 => ?_) (fun c24 => ?_)
    · rw [if_pos c24] at h
      exact k_Server_sync_b115_ok hp0 hL hF  g_10 lv σ19  _ h
    · rw [if_neg c24] at h
      refine cR_lift (fun _ _ kk => eE_aload_n lk167_64 g0 kk) ?_
      refine cR_lift (fun _ _ kk => eE_dup lk167_65 rfl kk) ?_
      refine cR_getI lk167_66 rf_13_146 rfl (cob_any rfl bl0) ?_
      refine cR_lift (fun _ _ kk => eE_iconst (v := 2) lk167_69 (by decide) kk) ?_
      refine cR_lift (fun _ _ kk => eE_ior lk167_70 kk) ?_
      obtain ⟨σ25, h26, h⟩ := Option.bind_eq_some_iff.mp h
      refine cR_putI lk167_71 rf_13_146 rfl (cob_any rfl bl0) pf_13_19 rfl h26 ?_
      refine cR_lift (fun _ _ kk => eE_goto (t := 115) lk167_74 (by decide) kk) ?_
      exact k_Server_sync_b115_ok hp0 hL hF  g_10 lv σ25  _ h
def k_Server_sync (F : Nat) (σ : CS) (l0 : Nat) : Option (CS) := k_Server_sync_b0 F σ l0
theorem k_Server_sync_ok {E : CE} {pF : Nat → List Value → xH → Option (Option Value × xH)} (hp0 : xNPc pF) (hL : lcAll E pF) (hF : lcF pF) {d : Nat} {g : CG} {σ : CS} {F : Nat} {l0 : Nat} {res : CS} (bl0 : cob σ 13 l0) (h : k_Server_sync F σ l0 = some res) : cCo E (cQx [11, 14]) pF (d + 13) 167 [.ref (coa E 13 l0)] none res g σ :=
  cCo_R kk_167 mo_167 ni_167 xm_167 (Nat.le_of_ble_eq_true rfl) (hp0 167 (by decide) _) (k_Server_sync_b0_ok hp0 hL hF g _ σ l0 bl0 rfl _ h)
/-! k_Server_tell (181), depth 10 -/
def k_Server_tell_b205  (σ : CS) (s0 : Int32) : Option (Int32) :=
  some s0
set_option maxRecDepth 4000 in
theorem k_Server_tell_b205_ok {E : CE} {pF : Nat → List Value → xH → Option (Option Value × xH)} (hp0 : xNPc pF) (hL : lcAll E pF) (hF : lcF pF) {d : Nat}   : ∀ (g : CG) (lv : xL) (σ : CS) (s0 : Int32), ∀ res, k_Server_tell_b205  σ s0 = some res → cR E cQ1 pF (d + 9) kT181 13 2 (some FieldType.int) (some (.int res)) σ g σ (205, lv, [.int s0]) := by
  intro g lv σ s0 res h
  unfold k_Server_tell_b205 at h
  cases h
  exact cR_end lk181_205 rfl rfl rfl
def k_Server_tell_b185  (σ : CS) (s0 : Int32) : Option (Int32) :=
  some s0
set_option maxRecDepth 4000 in
theorem k_Server_tell_b185_ok {E : CE} {pF : Nat → List Value → xH → Option (Option Value × xH)} (hp0 : xNPc pF) (hL : lcAll E pF) (hF : lcF pF) {d : Nat}   : ∀ (g : CG) (lv : xL) (σ : CS) (s0 : Int32), ∀ res, k_Server_tell_b185  σ s0 = some res → cR E cQ1 pF (d + 9) kT181 13 2 (some FieldType.int) (some (.int res)) σ g σ (185, lv, [.int s0]) := by
  intro g lv σ s0 res h
  unfold k_Server_tell_b185 at h
  cases h
  exact cR_end lk181_185 rfl rfl rfl
def k_Server_tell_b0  (σ : CS) (l0 : Nat) (l1 : Int32) : Option (Int32) :=
  if l1 = (1 : Int32) then (
    some (cI σ 13 l0 12 0)
  ) else (
  if l1 = (2 : Int32) then (
    some (cI σ 13 l0 10 0)
  ) else (
  if l1 = (3 : Int32) then (
    some (cI σ 13 l0 11 0)
  ) else (
  if l1 = (4 : Int32) then (
    some (cI σ 13 l0 13 0)
  ) else (
  if l1 = (5 : Int32) then (
    some (cI σ 9 l0 9 0)
  ) else (
  if l1 = (6 : Int32) then (
    some (cI σ 9 l0 10 0)
  ) else (
  if l1 = (7 : Int32) then (
    some (cI σ 9 l0 11 0)
  ) else (
  if l1 = (8 : Int32) then (
    some (cI σ 9 l0 3 0)
  ) else (
  if l1 = (9 : Int32) then (
    some (cI σ 9 l0 6 0)
  ) else (
  if l1 = (10 : Int32) then (
    some (cI σ 9 l0 7 0)
  ) else (
  if l1 = (11 : Int32) then (
    some (cI σ 13 l0 15 0)
  ) else (
  if l1 = (12 : Int32) then (
    some (cI σ 7 l0 10 0)
  ) else (
  if l1 = (13 : Int32) then (
    if xc0 .eq (cI σ 13 l0 9 0) = true then (
      k_Server_tell_b185  σ ((0 : Int32))
    ) else (
      k_Server_tell_b185  σ ((1 : Int32))
    )
  ) else (
  if l1 = (14 : Int32) then (
    if xc2 .ne (cI σ 13 l0 12 0) ((3 : Int32)) = true then (
      k_Server_tell_b205  σ ((0 : Int32))
    ) else (
      k_Server_tell_b205  σ (cI σ 7 l0 9 0)
    )
  ) else (
  if l1 = (15 : Int32) then (
    some (clsz σ 13 l0 7)
  ) else (
  if l1 = (16 : Int32) then (
    some (cI σ 12 l0 8 0)
  ) else (
  if l1 = (17 : Int32) then (
    some (cI σ 10 l0 1 0)
  ) else (
  if l1 = (18 : Int32) then (
    some (cI σ 10 l0 4 0)
  ) else (
  if l1 = (19 : Int32) then (
    some (cI σ 10 l0 5 0)
  ) else (
    (k_Disk_snapshotSize σ l0).bind fun p22 =>
    some p22
  )
  )
  )
  )
  )
  )
  )
  )
  )
  )
  )
  )
  )
  )
  )
  )
  )
  )
  )
set_option maxRecDepth 4000 in
theorem k_Server_tell_b0_ok {E : CE} {pF : Nat → List Value → xH → Option (Option Value × xH)} (hp0 : xNPc pF) (hL : lcAll E pF) (hF : lcF pF) {d : Nat}   : ∀ (g : CG) (lv : xL) (σ : CS) (l0 : Nat) (l1 : Int32), (cob σ 13 l0) → (xg lv 0 = some (.ref (coa E 13 l0))) → (xg lv 1 = some (.int l1)) → ∀ res, k_Server_tell_b0  σ l0 l1 = some res → cR E cQ1 pF (d + 9) kT181 13 2 (some FieldType.int) (some (.int res)) σ g σ (0, lv, []) := by
  intro g lv σ l0 l1 bl0 g0 g1 res h
  unfold k_Server_tell_b0 at h
  refine cR_lift (fun _ _ kk => eE_iload_n lk181_0 g1 kk) ?_
  by_cases c1 : l1 = (1 : Int32)
  · rw [if_pos c1] at h
    refine cR_tsw (t := 92) (off := 91) lk181_1 (by rw [c1]; decide) (by rw [c1]; rfl) (by decide) ?_
    refine cR_lift (fun _ _ kk => eE_aload_n lk181_92 g0 kk) ?_
    refine cR_getI lk181_93 rf_13_85 rfl bl0 ?_
    cases h
    exact cR_end lk181_96 rfl rfl rfl
  rw [if_neg c1] at h
  by_cases c2 : l1 = (2 : Int32)
  · rw [if_pos c2] at h
    refine cR_tsw (t := 97) (off := 96) lk181_1 (by rw [c2]; decide) (by rw [c2]; rfl) (by decide) ?_
    refine cR_lift (fun _ _ kk => eE_aload_n lk181_97 g0 kk) ?_
    refine cR_getI lk181_98 rf_13_88 rfl bl0 ?_
    cases h
    exact cR_end lk181_101 rfl rfl rfl
  rw [if_neg c2] at h
  by_cases c3 : l1 = (3 : Int32)
  · rw [if_pos c3] at h
    refine cR_tsw (t := 102) (off := 101) lk181_1 (by rw [c3]; decide) (by rw [c3]; rfl) (by decide) ?_
    refine cR_lift (fun _ _ kk => eE_aload_n lk181_102 g0 kk) ?_
    refine cR_getI lk181_103 rf_13_43 rfl bl0 ?_
    cases h
    exact cR_end lk181_106 rfl rfl rfl
  rw [if_neg c3] at h
  by_cases c4 : l1 = (4 : Int32)
  · rw [if_pos c4] at h
    refine cR_tsw (t := 107) (off := 106) lk181_1 (by rw [c4]; decide) (by rw [c4]; rfl) (by decide) ?_
    refine cR_lift (fun _ _ kk => eE_aload_n lk181_107 g0 kk) ?_
    refine cR_getI lk181_108 rf_13_47 rfl bl0 ?_
    cases h
    exact cR_end lk181_111 rfl rfl rfl
  rw [if_neg c4] at h
  by_cases c5 : l1 = (5 : Int32)
  · rw [if_pos c5] at h
    refine cR_tsw (t := 112) (off := 111) lk181_1 (by rw [c5]; decide) (by rw [c5]; rfl) (by decide) ?_
    refine cR_lift (fun _ _ kk => eE_aload_n lk181_112 g0 kk) ?_
    refine cR_getO (cl' := 9) (i' := l0) lk181_113 rf_13_72 rfl rfl bl0 ?_
    refine cR_getI lk181_116 rf_13_91 rfl (cob_s (cl := 9) bl0 (by decide) rfl rfl) ?_
    cases h
    exact cR_end lk181_119 rfl rfl rfl
  rw [if_neg c5] at h
  by_cases c6 : l1 = (6 : Int32)
  · rw [if_pos c6] at h
    refine cR_tsw (t := 120) (off := 119) lk181_1 (by rw [c6]; decide) (by rw [c6]; rfl) (by decide) ?_
    refine cR_lift (fun _ _ kk => eE_aload_n lk181_120 g0 kk) ?_
    refine cR_getO (cl' := 9) (i' := l0) lk181_121 rf_13_72 rfl rfl bl0 ?_
    refine cR_getI lk181_124 rf_13_94 rfl (cob_s (cl := 9) bl0 (by decide) rfl rfl) ?_
    cases h
    exact cR_end lk181_127 rfl rfl rfl
  rw [if_neg c6] at h
  by_cases c7 : l1 = (7 : Int32)
  · rw [if_pos c7] at h
    refine cR_tsw (t := 128) (off := 127) lk181_1 (by rw [c7]; decide) (by rw [c7]; rfl) (by decide) ?_
    refine cR_lift (fun _ _ kk => eE_aload_n lk181_128 g0 kk) ?_
    refine cR_getO (cl' := 9) (i' := l0) lk181_129 rf_13_72 rfl rfl bl0 ?_
    refine cR_getI lk181_132 rf_13_97 rfl (cob_s (cl := 9) bl0 (by decide) rfl rfl) ?_
    cases h
    exact cR_end lk181_135 rfl rfl rfl
  rw [if_neg c7] at h
  by_cases c8 : l1 = (8 : Int32)
  · rw [if_pos c8] at h
    refine cR_tsw (t := 136) (off := 135) lk181_1 (by rw [c8]; decide) (by rw [c8]; rfl) (by decide) ?_
    refine cR_lift (fun _ _ kk => eE_aload_n lk181_136 g0 kk) ?_
    refine cR_getO (cl' := 9) (i' := l0) lk181_137 rf_13_72 rfl rfl bl0 ?_
    refine cR_getI lk181_140 rf_13_100 rfl (cob_s (cl := 9) bl0 (by decide) rfl rfl) ?_
    cases h
    exact cR_end lk181_143 rfl rfl rfl
  rw [if_neg c8] at h
  by_cases c9 : l1 = (9 : Int32)
  · rw [if_pos c9] at h
    refine cR_tsw (t := 144) (off := 143) lk181_1 (by rw [c9]; decide) (by rw [c9]; rfl) (by decide) ?_
    refine cR_lift (fun _ _ kk => eE_aload_n lk181_144 g0 kk) ?_
    refine cR_getO (cl' := 9) (i' := l0) lk181_145 rf_13_72 rfl rfl bl0 ?_
    refine cR_getI lk181_148 rf_13_103 rfl (cob_s (cl := 9) bl0 (by decide) rfl rfl) ?_
    cases h
    exact cR_end lk181_151 rfl rfl rfl
  rw [if_neg c9] at h
  by_cases c10 : l1 = (10 : Int32)
  · rw [if_pos c10] at h
    refine cR_tsw (t := 152) (off := 151) lk181_1 (by rw [c10]; decide) (by rw [c10]; rfl) (by decide) ?_
    refine cR_lift (fun _ _ kk => eE_aload_n lk181_152 g0 kk) ?_
    refine cR_getO (cl' := 9) (i' := l0) lk181_153 rf_13_72 rfl rfl bl0 ?_
    refine cR_getI lk181_156 rf_13_106 rfl (cob_s (cl := 9) bl0 (by decide) rfl rfl) ?_
    cases h
    exact cR_end lk181_159 rfl rfl rfl
  rw [if_neg c10] at h
  by_cases c11 : l1 = (11 : Int32)
  · rw [if_pos c11] at h
    refine cR_tsw (t := 160) (off := 159) lk181_1 (by rw [c11]; decide) (by rw [c11]; rfl) (by decide) ?_
    refine cR_lift (fun _ _ kk => eE_aload_n lk181_160 g0 kk) ?_
    refine cR_getI lk181_161 rf_13_109 rfl bl0 ?_
    cases h
    exact cR_end lk181_164 rfl rfl rfl
  rw [if_neg c11] at h
  by_cases c12 : l1 = (12 : Int32)
  · rw [if_pos c12] at h
    refine cR_tsw (t := 165) (off := 164) lk181_1 (by rw [c12]; decide) (by rw [c12]; rfl) (by decide) ?_
    refine cR_lift (fun _ _ kk => eE_aload_n lk181_165 g0 kk) ?_
    refine cR_getO (cl' := 7) (i' := l0) lk181_166 rf_13_21 rfl rfl bl0 ?_
    refine cR_getI lk181_169 rf_13_112 rfl (cob_s (cl := 7) bl0 (by decide) rfl rfl) ?_
    cases h
    exact cR_end lk181_172 rfl rfl rfl
  rw [if_neg c12] at h
  by_cases c13 : l1 = (13 : Int32)
  · rw [if_pos c13] at h
    refine cR_tsw (t := 173) (off := 172) lk181_1 (by rw [c13]; decide) (by rw [c13]; rfl) (by decide) ?_
    refine cR_lift (fun _ _ kk => eE_aload_n lk181_173 g0 kk) ?_
    refine cR_getI lk181_174 rf_13_115 rfl bl0 ?_
    refine cR_if (t := 184) lk181_177 (by decide) (fun c14 => ?_) (fun c14 => ?_)
    · rw [if_pos c14] at h
      refine cR_lift (fun _ _ kk => eE_iconst (v := 0) lk181_184 (by decide) kk) ?_
      exact k_Server_tell_b185_ok hp0 hL hF  g lv σ ((0 : Int32))  _ h
    · rw [if_neg c14] at h
      refine cR_lift (fun _ _ kk => eE_iconst (v := 1) lk181_180 (by decide) kk) ?_
      refine cR_lift (fun _ _ kk => eE_goto (t := 185) lk181_181 (by decide) kk) ?_
      exact k_Server_tell_b185_ok hp0 hL hF  g lv σ ((1 : Int32))  _ h
  rw [if_neg c13] at h
  by_cases c15 : l1 = (14 : Int32)
  · rw [if_pos c15] at h
    refine cR_tsw (t := 186) (off := 185) lk181_1 (by rw [c15]; decide) (by rw [c15]; rfl) (by decide) ?_
    refine cR_lift (fun _ _ kk => eE_aload_n lk181_186 g0 kk) ?_
    refine cR_getI lk181_187 rf_13_85 rfl bl0 ?_
    refine cR_lift (fun _ _ kk => eE_iconst (v := 3) lk181_190 (by decide) kk) ?_
    refine cR_icmp (t := 204) lk181_191 (by decide) (fun c16 => ?_) (fun c16 => ?_)
    · rw [if_pos c16] at h
      refine cR_lift (fun _ _ kk => eE_iconst (v := 0) lk181_204 (by decide) kk) ?_
      exact k_Server_tell_b205_ok hp0 hL hF  g lv σ ((0 : Int32))  _ h
    · rw [if_neg c16] at h
      refine cR_lift (fun _ _ kk => eE_aload_n lk181_194 g0 kk) ?_
      refine cR_getO (cl' := 7) (i' := l0) lk181_195 rf_13_21 rfl rfl bl0 ?_
      refine cR_getI lk181_198 rf_13_118 rfl (cob_s (cl := 7) bl0 (by decide) rfl rfl) ?_
      refine cR_lift (fun _ _ kk => eE_goto (t := 205) lk181_201 (by decide) kk) ?_
      exact k_Server_tell_b205_ok hp0 hL hF  g lv σ (cI σ 7 l0 9 0)  _ h
  rw [if_neg c15] at h
  by_cases c17 : l1 = (15 : Int32)
  · rw [if_pos c17] at h
    refine cR_tsw (t := 206) (off := 205) lk181_1 (by rw [c17]; decide) (by rw [c17]; rfl) (by decide) ?_
    refine cR_lift (fun _ _ kk => eE_aload_n lk181_206 g0 kk) ?_
    refine cR_getA lk181_207 rf_13_35 (by decide) bl0 ?_
    refine cR_virtL (cl := 13) (i := l0) (f := 7) (as := []) lk181_210 mr_13_121 na_14 rfl rfl (by first | exact Nat.le_of_ble_eq_true rfl | (simp [xcat, cvo_cat, cat_i, cat_j, cat_r]; done)) wv_14 wc_14 rfl bl0 ((hL (d + 0)).1 E g _ 13 l0 7 rfl bl0) (fun _ => ?_)
    cases h
    exact cR_end lk181_213 rfl rfl rfl
  rw [if_neg c17] at h
  by_cases c18 : l1 = (16 : Int32)
  · rw [if_pos c18] at h
    refine cR_tsw (t := 214) (off := 213) lk181_1 (by rw [c18]; decide) (by rw [c18]; rfl) (by decide) ?_
    refine cR_lift (fun _ _ kk => eE_aload_n lk181_214 g0 kk) ?_
    refine cR_getO (cl' := 12) (i' := l0) lk181_215 rf_13_28 rfl rfl bl0 ?_
    refine cR_getI lk181_218 rf_13_125 rfl (cob_s (cl := 12) bl0 (by decide) rfl rfl) ?_
    cases h
    exact cR_end lk181_221 rfl rfl rfl
  rw [if_neg c18] at h
  by_cases c19 : l1 = (17 : Int32)
  · rw [if_pos c19] at h
    refine cR_tsw (t := 222) (off := 221) lk181_1 (by rw [c19]; decide) (by rw [c19]; rfl) (by decide) ?_
    refine cR_lift (fun _ _ kk => eE_aload_n lk181_222 g0 kk) ?_
    refine cR_getO (cl' := 10) (i' := l0) lk181_223 rf_13_81 rfl rfl bl0 ?_
    refine cR_getI lk181_226 rf_13_128 rfl (cob_s (cl := 10) bl0 (by decide) rfl rfl) ?_
    cases h
    exact cR_end lk181_229 rfl rfl rfl
  rw [if_neg c19] at h
  by_cases c20 : l1 = (18 : Int32)
  · rw [if_pos c20] at h
    refine cR_tsw (t := 230) (off := 229) lk181_1 (by rw [c20]; decide) (by rw [c20]; rfl) (by decide) ?_
    refine cR_lift (fun _ _ kk => eE_aload_n lk181_230 g0 kk) ?_
    refine cR_getO (cl' := 10) (i' := l0) lk181_231 rf_13_81 rfl rfl bl0 ?_
    refine cR_getI lk181_234 rf_13_131 rfl (cob_s (cl := 10) bl0 (by decide) rfl rfl) ?_
    cases h
    exact cR_end lk181_237 rfl rfl rfl
  rw [if_neg c20] at h
  by_cases c21 : l1 = (19 : Int32)
  · rw [if_pos c21] at h
    refine cR_tsw (t := 238) (off := 237) lk181_1 (by rw [c21]; decide) (by rw [c21]; rfl) (by decide) ?_
    refine cR_lift (fun _ _ kk => eE_aload_n lk181_238 g0 kk) ?_
    refine cR_getO (cl' := 10) (i' := l0) lk181_239 rf_13_81 rfl rfl bl0 ?_
    refine cR_getI lk181_242 rf_13_134 rfl (cob_s (cl := 10) bl0 (by decide) rfl rfl) ?_
    cases h
    exact cR_end lk181_245 rfl rfl rfl
  rw [if_neg c21] at h
  refine cR_tswD (t := 246) lk181_1 (xsw_out (n := 19) (fun j hj => ?_)) (by decide) ?_
  · match j, hj with
    | 0, _ => exact c1
    | 1, _ => exact c2
    | 2, _ => exact c3
    | 3, _ => exact c4
    | 4, _ => exact c5
    | 5, _ => exact c6
    | 6, _ => exact c7
    | 7, _ => exact c8
    | 8, _ => exact c9
    | 9, _ => exact c10
    | 10, _ => exact c11
    | 11, _ => exact c12
    | 12, _ => exact c13
    | 13, _ => exact c15
    | 14, _ => exact c17
    | 15, _ => exact c18
    | 16, _ => exact c19
    | 17, _ => exact c20
    | 18, _ => exact c21
    | q + 19, hj => exact absurd hj (by omega)
  refine cR_lift (fun _ _ kk => eE_aload_n lk181_246 g0 kk) ?_
  refine cR_getO (cl' := 6) (i' := l0) lk181_247 rf_13_12 rfl rfl bl0 ?_
  obtain ⟨p22, h23, h⟩ := Option.bind_eq_some_iff.mp h
  refine cR_virt (cl := 6) (i := l0) (as := []) lk181_250 mr_13_137 na_47 rfl rfl (by first | exact Nat.le_of_ble_eq_true rfl | (simp [xcat, cvo_cat, cat_i, cat_j, cat_r]; done)) wv_47 wc_47 (cob_s (cl := 6) bl0 (by decide) rfl rfl) (k_Disk_snapshotSize_ok hp0 hL hF (d := d + 8) (cob_s (cl := 6) bl0 (by decide) rfl rfl) h23) (fun m24  => ?_)
  cases h
  exact cR_end lk181_253 rfl rfl rfl
def k_Server_tell (σ : CS) (l0 : Nat) (l1 : Int32) : Option (Int32) := k_Server_tell_b0 σ l0 l1
theorem k_Server_tell_ok {E : CE} {pF : Nat → List Value → xH → Option (Option Value × xH)} (hp0 : xNPc pF) (hL : lcAll E pF) (hF : lcF pF) {d : Nat} {g : CG} {σ : CS} {l0 : Nat} {l1 : Int32} {res : Int32} (bl0 : cob σ 13 l0) (h : k_Server_tell σ l0 l1 = some res) : cCo E cQ1 pF (d + 10) 181 [.ref (coa E 13 l0), .int l1] (some (.int res)) σ g σ :=
  cCo_R kk_181 mo_181 ni_181 xm_181 (Nat.le_of_ble_eq_true rfl) (hp0 181 (by decide) _) (k_Server_tell_b0_ok hp0 hL hF g _ σ l0 l1 bl0 rfl rfl _ h)
