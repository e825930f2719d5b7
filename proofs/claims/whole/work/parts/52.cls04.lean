/-! printed by wip/whole/gen_cls.py -/
/-! k_Page_makeRoomForBytes (111), depth 1 -/
def k_Page_makeRoomForBytes_b20  (σ : CS) : Option (CS) :=
  some σ
set_option maxRecDepth 4000 in
theorem k_Page_makeRoomForBytes_b20_ok {E : CE} {pF : Nat → List Value → xH → Option (Option Value × xH)} (hp0 : xNPc pF) (hL : lcAll E pF) (hF : lcF pF) {d : Nat}   : ∀ (g : CG) (lv : xL) (σ : CS), ∀ res, k_Page_makeRoomForBytes_b20  σ = some res → cR E (cQx [11]) pF (d + 0) kT111 11 2 none none res g σ (20, lv, []) := by
  intro g lv σ res h
  unfold k_Page_makeRoomForBytes_b20 at h
  cases h
  exact cR_end lk111_20 rfl rfl rfl
def k_Page_makeRoomForBytes_b0  (σ : CS) (l0 : Nat) (l1 : Int32) : Option (CS) :=
  if xc2 .ge (Int32.ofNat (cal σ 11 l0 8)) l1 = true then (
    k_Page_makeRoomForBytes_b20  σ
  ) else (
    if ((2 : Int32)) = 0 then none else
    (cgrow σ 11 l0 8 (l1 + (l1 / ((2 : Int32))))).bind fun σ3 =>
    k_Page_makeRoomForBytes_b20  σ3
  )
set_option maxRecDepth 4000 in
theorem k_Page_makeRoomForBytes_b0_ok {E : CE} {pF : Nat → List Value → xH → Option (Option Value × xH)} (hp0 : xNPc pF) (hL : lcAll E pF) (hF : lcF pF) {d : Nat}   : ∀ (g : CG) (lv : xL) (σ : CS) (l0 : Nat) (l1 : Int32), (cob σ 11 l0) → (xg lv 0 = some (.ref (coa E 11 l0))) → (xg lv 1 = some (.int l1)) → ∀ res, k_Page_makeRoomForBytes_b0  σ l0 l1 = some res → cR E (cQx [11]) pF (d + 0) kT111 11 2 none none res g σ (0, lv, []) := by
  intro g lv σ l0 l1 bl0 g0 g1 res h
  unfold k_Page_makeRoomForBytes_b0 at h
  refine cR_lift (fun _ _ kk => eE_aload_n lk111_0 g0 kk) ?_
  refine cR_getA lk111_1 rf_11_18 (by decide) bl0 ?_
  refine cR_alen (cl := 11) (i := l0) (f := 8) lk111_4 (by decide) (by decide) bl0 ?_
  refine cR_lift (fun _ _ kk => eE_iload_n lk111_5 g1 kk) ?_
  refine cR_icmp (t := 20) lk111_6 (by decide) (fun c1 => ?_) (fun c1 => ?_)
  · rw [if_pos c1] at h
    exact k_Page_makeRoomForBytes_b20_ok hp0 hL hF  g lv σ  _ h
  · rw [if_neg c1] at h
    refine cR_lift (fun _ _ kk => eE_aload_n lk111_9 g0 kk) ?_
    refine cR_lift (fun _ _ kk => eE_iload_n lk111_10 g1 kk) ?_
    refine cR_lift (fun _ _ kk => eE_iload_n lk111_11 g1 kk) ?_
    refine cR_lift (fun _ _ kk => eE_iconst (v := 2) lk111_12 (by decide) kk) ?_
    by_cases z2 : ((2 : Int32)) = 0
    · rw [if_pos z2] at h; cases h
    rw [if_neg z2] at h
    refine cR_lift (fun _ _ kk => eE_idiv lk111_13 z2 kk) ?_
    refine cR_lift (fun _ _ kk => eE_iadd lk111_14 kk) ?_
    obtain ⟨σ3, h4, h⟩ := Option.bind_eq_some_iff.mp h
    refine cR_newG (cl := 11) (i := l0) (f := 8) lk111_15 lk111_17 rfl rfl (by decide) rfl rf_11_18 rfl bl0 pf_11_8 h4 (by decide) (fun g_5 g_5e => ?_)
    exact k_Page_makeRoomForBytes_b20_ok hp0 hL hF  g_5 lv σ3  _ h
def k_Page_makeRoomForBytes (σ : CS) (l0 : Nat) (l1 : Int32) : Option (CS) := k_Page_makeRoomForBytes_b0 σ l0 l1
theorem k_Page_makeRoomForBytes_ok {E : CE} {pF : Nat → List Value → xH → Option (Option Value × xH)} (hp0 : xNPc pF) (hL : lcAll E pF) (hF : lcF pF) {d : Nat} {g : CG} {σ : CS} {l0 : Nat} {l1 : Int32} {res : CS} (bl0 : cob σ 11 l0) (h : k_Page_makeRoomForBytes σ l0 l1 = some res) : cCo E (cQx [11]) pF (d + 1) 111 [.ref (coa E 11 l0), .int l1] none res g σ :=
  cCo_R kk_111 mo_111 ni_111 xm_111 (Nat.le_of_ble_eq_true rfl) (hp0 111 (by decide) _) (k_Page_makeRoomForBytes_b0_ok hp0 hL hF g _ σ l0 l1 bl0 rfl rfl _ h)
/-! k_Requests_slotOf (119), depth 1 -/
def k_Requests_slotOf_b0  (σ : CS) (l0 : Int32) : Option (Int32) :=
  some (l0 &&& ((31 : Int32)))
set_option maxRecDepth 4000 in
theorem k_Requests_slotOf_b0_ok {E : CE} {pF : Nat → List Value → xH → Option (Option Value × xH)} (hp0 : xNPc pF) (hL : lcAll E pF) (hF : lcF pF) {d : Nat}   : ∀ (g : CG) (lv : xL) (σ : CS) (l0 : Int32), (xg lv 0 = some (.int l0)) → ∀ res, k_Requests_slotOf_b0  σ l0 = some res → cR E cQ1 pF (d + 0) kT119 12 1 (some FieldType.int) (some (.int res)) σ g σ (0, lv, []) := by
  intro g lv σ l0 g0 res h
  unfold k_Requests_slotOf_b0 at h
  refine cR_lift (fun _ _ kk => eE_iload_n lk119_0 g0 kk) ?_
  refine cR_lift (fun _ _ kk => eE_bipush (v := 31) lk119_1 (by decide) kk) ?_
  refine cR_lift (fun _ _ kk => eE_iand lk119_3 kk) ?_
  cases h
  exact cR_end lk119_4 rfl rfl rfl
def k_Requests_slotOf (σ : CS) (l0 : Int32) : Option (Int32) := k_Requests_slotOf_b0 σ l0
theorem k_Requests_slotOf_ok {E : CE} {pF : Nat → List Value → xH → Option (Option Value × xH)} (hp0 : xNPc pF) (hL : lcAll E pF) (hF : lcF pF) {d : Nat} {g : CG} {σ : CS} {l0 : Int32} {res : Int32}  (h : k_Requests_slotOf σ l0 = some res) : cCo E cQ1 pF (d + 1) 119 [.int l0] (some (.int res)) σ g σ :=
  cCo_R kk_119 mo_119 ni_119 xm_119 (Nat.le_of_ble_eq_true rfl) (hp0 119 (by decide) _) (k_Requests_slotOf_b0_ok hp0 hL hF g _ σ l0 rfl _ h)
/-! k_Requests_begin (115), depth 2 -/
def k_Requests_begin_b39  (σ : CS) (l0 : Nat) (l1 : Nat) (l2 : Int32) (l3 : Int32) (l4 : Int32) (l5 : Int32) : Option (CS) :=
  (cwr σ 12 l0 0 l5 (((1 : Int32)) &&& 1)).bind fun σ1 =>
  (cwr σ1 12 l0 1 l5 (cI σ1 8 l1 2 0)).bind fun σ3 =>
  (cwr σ3 12 l0 2 l5 (cI σ3 8 l1 5 0)).bind fun σ5 =>
  (cwr σ5 12 l0 3 l5 (cI σ5 8 l1 16 0)).bind fun σ7 =>
  (cwr σ7 12 l0 4 l5 l2).bind fun σ9 =>
  (cwr σ9 12 l0 5 l5 l3).bind fun σ11 =>
  (cwr σ11 12 l0 6 l5 l4).bind fun σ13 =>
  some σ13
set_option maxRecDepth 4000 in
theorem k_Requests_begin_b39_ok {E : CE} {pF : Nat → List Value → xH → Option (Option Value × xH)} (hp0 : xNPc pF) (hL : lcAll E pF) (hF : lcF pF) {d : Nat}   : ∀ (g : CG) (lv : xL) (σ : CS) (l0 : Nat) (l1 : Nat) (l2 : Int32) (l3 : Int32) (l4 : Int32) (l5 : Int32), (cob σ 12 l0) → (cob σ 8 l1) → (xg lv 0 = some (.ref (coa E 12 l0))) → (xg lv 1 = some (.ref (coa E 8 l1))) → (xg lv 2 = some (.int l2)) → (xg lv 3 = some (.int l3)) → (xg lv 4 = some (.int l4)) → (xg lv 5 = some (.int l5)) → ∀ res, k_Requests_begin_b39  σ l0 l1 l2 l3 l4 l5 = some res → cR E cQ1 pF (d + 1) kT115 12 6 none none res g σ (39, lv, []) := by
  intro g lv σ l0 l1 l2 l3 l4 l5 bl0 bl1 g0 g1 g2 g3 g4 g5 res h
  unfold k_Requests_begin_b39 at h
  refine cR_lift (fun _ _ kk => eE_aload_n lk115_39 g0 kk) ?_
  refine cR_getA lk115_40 rf_12_9 (by decide) bl0 ?_
  refine cR_lift (fun _ _ kk => eE_iload lk115_43 g5 kk) ?_
  refine cR_lift (fun _ _ kk => eE_iconst (v := 1) lk115_45 (by decide) kk) ?_
  obtain ⟨σ1, h2, h⟩ := Option.bind_eq_some_iff.mp h
  refine cR_zast (cl := 12) (i := l0) (f := 0) lk115_46 (by decide) rfl rfl bl0 h2 ?_
  refine cR_lift (fun _ _ kk => eE_aload_n lk115_47 g0 kk) ?_
  refine cR_getA lk115_48 rf_12_15 (by decide) (cob_any rfl bl0) ?_
  refine cR_lift (fun _ _ kk => eE_iload lk115_51 g5 kk) ?_
  refine cR_lift (fun _ _ kk => eE_aload_n lk115_53 g1 kk) ?_
  refine cR_getI lk115_54 rf_12_45 rfl (cob_mon (cwr_mon h2) bl1) ?_
  obtain ⟨σ3, h4, h⟩ := Option.bind_eq_some_iff.mp h
  refine cR_iast (cl := 12) (i := l0) (f := 1) lk115_57 (by decide) rfl (cob_any rfl bl0) h4 ?_
  refine cR_lift (fun _ _ kk => eE_aload_n lk115_58 g0 kk) ?_
  refine cR_getA lk115_59 rf_12_19 (by decide) (cob_any rfl bl0) ?_
  refine cR_lift (fun _ _ kk => eE_iload lk115_62 g5 kk) ?_
  refine cR_lift (fun _ _ kk => eE_aload_n lk115_64 g1 kk) ?_
  refine cR_getI lk115_65 rf_12_50 rfl (cob_mon (cwr_mon h4) (cob_mon (cwr_mon h2) bl1)) ?_
  obtain ⟨σ5, h6, h⟩ := Option.bind_eq_some_iff.mp h
  refine cR_iast (cl := 12) (i := l0) (f := 2) lk115_68 (by decide) rfl (cob_any rfl bl0) h6 ?_
  refine cR_lift (fun _ _ kk => eE_aload_n lk115_69 g0 kk) ?_
  refine cR_getA lk115_70 rf_12_22 (by decide) (cob_any rfl bl0) ?_
  refine cR_lift (fun _ _ kk => eE_iload lk115_73 g5 kk) ?_
  refine cR_lift (fun _ _ kk => eE_aload_n lk115_75 g1 kk) ?_
  refine cR_getI lk115_76 rf_12_52 rfl (cob_mon (cwr_mon h6) (cob_mon (cwr_mon h4) (cob_mon (cwr_mon h2) bl1))) ?_
  obtain ⟨σ7, h8, h⟩ := Option.bind_eq_some_iff.mp h
  refine cR_iast (cl := 12) (i := l0) (f := 3) lk115_79 (by decide) rfl (cob_any rfl bl0) h8 ?_
  refine cR_lift (fun _ _ kk => eE_aload_n lk115_80 g0 kk) ?_
  refine cR_getA lk115_81 rf_12_25 (by decide) (cob_any rfl bl0) ?_
  refine cR_lift (fun _ _ kk => eE_iload lk115_84 g5 kk) ?_
  refine cR_lift (fun _ _ kk => eE_iload_n lk115_86 g2 kk) ?_
  obtain ⟨σ9, h10, h⟩ := Option.bind_eq_some_iff.mp h
  refine cR_iast (cl := 12) (i := l0) (f := 4) lk115_87 (by decide) rfl (cob_any rfl bl0) h10 ?_
  refine cR_lift (fun _ _ kk => eE_aload_n lk115_88 g0 kk) ?_
  refine cR_getA lk115_89 rf_12_28 (by decide) (cob_any rfl bl0) ?_
  refine cR_lift (fun _ _ kk => eE_iload lk115_92 g5 kk) ?_
  refine cR_lift (fun _ _ kk => eE_iload_n lk115_94 g3 kk) ?_
  obtain ⟨σ11, h12, h⟩ := Option.bind_eq_some_iff.mp h
  refine cR_iast (cl := 12) (i := l0) (f := 5) lk115_95 (by decide) rfl (cob_any rfl bl0) h12 ?_
  refine cR_lift (fun _ _ kk => eE_aload_n lk115_96 g0 kk) ?_
  refine cR_getA lk115_97 rf_12_31 (by decide) (cob_any rfl bl0) ?_
  refine cR_lift (fun _ _ kk => eE_iload lk115_100 g5 kk) ?_
  refine cR_lift (fun _ _ kk => eE_iload lk115_102 g4 kk) ?_
  obtain ⟨σ13, h14, h⟩ := Option.bind_eq_some_iff.mp h
  refine cR_iast (cl := 12) (i := l0) (f := 6) lk115_104 (by decide) rfl (cob_any rfl bl0) h14 ?_
  cases h
  exact cR_end lk115_105 rfl rfl rfl
def k_Requests_begin_b0  (σ : CS) (l0 : Nat) (l1 : Nat) (l2 : Int32) (l3 : Int32) (l4 : Int32) : Option (CS) :=
  (k_Requests_slotOf σ (cI σ 12 l0 7 0)).bind fun p15 =>
  (some (csI σ 12 l0 7 0 ((cI σ 12 l0 7 0) + ((1 : Int32))))).bind fun σ26 =>
  (crd σ26 12 l0 0 p15).bind fun x28 =>
  if xc0 .ne x28 = true then (
    k_Requests_begin_b39  σ26 l0 l1 l2 l3 l4 p15
  ) else (
    (some (csI σ26 12 l0 8 0 ((cI σ26 12 l0 8 0) + ((1 : Int32))))).bind fun σ31 =>
    k_Requests_begin_b39  σ31 l0 l1 l2 l3 l4 p15
  )
set_option maxRecDepth 4000 in
theorem k_Requests_begin_b0_ok {E : CE} {pF : Nat → List Value → xH → Option (Option Value × xH)} (hp0 : xNPc pF) (hL : lcAll E pF) (hF : lcF pF) {d : Nat}   : ∀ (g : CG) (lv : xL) (σ : CS) (l0 : Nat) (l1 : Nat) (l2 : Int32) (l3 : Int32) (l4 : Int32), (cob σ 12 l0) → (cob σ 8 l1) → (xg lv 0 = some (.ref (coa E 12 l0))) → (xg lv 1 = some (.ref (coa E 8 l1))) → (xg lv 2 = some (.int l2)) → (xg lv 3 = some (.int l3)) → (xg lv 4 = some (.int l4)) → ∀ res, k_Requests_begin_b0  σ l0 l1 l2 l3 l4 = some res → cR E cQ1 pF (d + 1) kT115 12 6 none none res g σ (0, lv, []) := by
  intro g lv σ l0 l1 l2 l3 l4 bl0 bl1 g0 g1 g2 g3 g4 res h
  unfold k_Requests_begin_b0 at h
  refine cR_lift (fun _ _ kk => eE_aload_n lk115_0 g0 kk) ?_
  refine cR_getI lk115_1 rf_12_34 rfl bl0 ?_
  obtain ⟨p15, h16, h⟩ := Option.bind_eq_some_iff.mp h
  refine cR_stat (as := [.int (cI σ 12 l0 7 0)]) lk115_4 mr_12_38 na_119 rfl rfl (by first | exact Nat.le_of_ble_eq_true rfl | (simp [xcat, cvo_cat, cat_i, cat_j, cat_r]; done)) mm_119 ws_119 (k_Requests_slotOf_ok hp0 hL hF (d := d + 0)  h16) (fun m17 => ?_)
  refine cR_stI (j := 5) lk115_7 (Or.inl rfl) (by decide) (fun vq18 gq19 kq20 => ?_)
  have gq21 := kq20 0 _ (by decide) (fun e => absurd e (by decide)) g0
  have gq22 := kq20 1 _ (by decide) (fun e => absurd e (by decide)) g1
  have gq23 := kq20 2 _ (by decide) (fun e => absurd e (by decide)) g2
  have gq24 := kq20 3 _ (by decide) (fun e => absurd e (by decide)) g3
  have gq25 := kq20 4 _ (by decide) (fun _ => rfl) g4
  refine cR_lift (fun _ _ kk => eE_aload_n lk115_9 gq21 kk) ?_
  refine cR_lift (fun _ _ kk => eE_dup lk115_10 rfl kk) ?_
  refine cR_getI lk115_11 rf_12_34 rfl bl0 ?_
  refine cR_lift (fun _ _ kk => eE_iconst (v := 1) lk115_14 (by decide) kk) ?_
  refine cR_lift (fun _ _ kk => eE_iadd lk115_15 kk) ?_
  obtain ⟨σ26, h27, h⟩ := Option.bind_eq_some_iff.mp h
  refine cR_putI lk115_16 rf_12_34 rfl bl0 pf_12_7 rfl h27 ?_
  refine cR_lift (fun _ _ kk => eE_aload_n lk115_19 gq21 kk) ?_
  refine cR_getA lk115_20 rf_12_9 (by decide) (cob_any rfl bl0) ?_
  refine cR_lift (fun _ _ kk => eE_iload lk115_23 gq19 kk) ?_
  obtain ⟨x28, h29, h⟩ := Option.bind_eq_some_iff.mp h
  refine cR_bald (cl := 12) (i := l0) (f := 0) lk115_25 (by decide) (Or.inr rfl) (cob_any rfl bl0) h29 ?_
  refine cR_if (t := 39) lk115_26 (by decide) (fun c30 => ?_) (fun c30 => ?_)
  · rw [if_pos c30] at h
    exact k_Requests_begin_b39_ok hp0 hL hF  g vq18 σ26 l0 l1 l2 l3 l4 p15 (cob_any rfl bl0) (cob_mon (cput_mon h27) bl1) gq21 gq22 gq23 gq24 gq25 gq19 _ h
  · rw [if_neg c30] at h
    refine cR_lift (fun _ _ kk => eE_aload_n lk115_29 gq21 kk) ?_
    refine cR_lift (fun _ _ kk => eE_dup lk115_30 rfl kk) ?_
    refine cR_getI lk115_31 rf_12_42 rfl (cob_any rfl bl0) ?_
    refine cR_lift (fun _ _ kk => eE_iconst (v := 1) lk115_34 (by decide) kk) ?_
    refine cR_lift (fun _ _ kk => eE_iadd lk115_35 kk) ?_
    obtain ⟨σ31, h32, h⟩ := Option.bind_eq_some_iff.mp h
    refine cR_putI lk115_36 rf_12_42 rfl (cob_any rfl bl0) pf_12_8 rfl h32 ?_
    exact k_Requests_begin_b39_ok hp0 hL hF  g vq18 σ31 l0 l1 l2 l3 l4 p15 (cob_any rfl bl0) (cob_mon (cput_mon h32) (cob_mon (cput_mon h27) bl1)) gq21 gq22 gq23 gq24 gq25 gq19 _ h
def k_Requests_begin (σ : CS) (l0 : Nat) (l1 : Nat) (l2 : Int32) (l3 : Int32) (l4 : Int32) : Option (CS) := k_Requests_begin_b0 σ l0 l1 l2 l3 l4
theorem k_Requests_begin_ok {E : CE} {pF : Nat → List Value → xH → Option (Option Value × xH)} (hp0 : xNPc pF) (hL : lcAll E pF) (hF : lcF pF) {d : Nat} {g : CG} {σ : CS} {l0 : Nat} {l1 : Nat} {l2 : Int32} {l3 : Int32} {l4 : Int32} {res : CS} (bl0 : cob σ 12 l0) (bl1 : cob σ 8 l1) (h : k_Requests_begin σ l0 l1 l2 l3 l4 = some res) : cCo E cQ1 pF (d + 2) 115 [.ref (coa E 12 l0), .ref (coa E 8 l1), .int l2, .int l3, .int l4] none res g σ :=
  cCo_R kk_115 mo_115 ni_115 xm_115 (Nat.le_of_ble_eq_true rfl) (hp0 115 (by decide) _) (k_Requests_begin_b0_ok hp0 hL hF g _ σ l0 l1 l2 l3 l4 bl0 bl1 rfl rfl rfl rfl rfl _ h)
/-! k_Requests_drop (116), depth 1 -/
def k_Requests_drop_b26  (σ : CS) : Option (CS) :=
  some σ
set_option maxRecDepth 4000 in
theorem k_Requests_drop_b26_ok {E : CE} {pF : Nat → List Value → xH → Option (Option Value × xH)} (hp0 : xNPc pF) (hL : lcAll E pF) (hF : lcF pF) {d : Nat}   : ∀ (g : CG) (lv : xL) (σ : CS), ∀ res, k_Requests_drop_b26  σ = some res → cR E cQ1 pF (d + 0) kT116 12 2 none none res g σ (26, lv, []) := by
  intro g lv σ res h
  unfold k_Requests_drop_b26 at h
  cases h
  exact cR_end lk116_26 rfl rfl rfl
def k_Requests_drop_b0  (σ : CS) (l0 : Nat) (l1 : Int32) : Option (CS) :=
  (crd σ 12 l0 0 l1).bind fun x1 =>
  if xc0 .eq x1 = true then (
    k_Requests_drop_b26  σ
  ) else (
    (cwr σ 12 l0 0 l1 (((0 : Int32)) &&& 1)).bind fun σ4 =>
    (some (csI σ4 12 l0 8 0 ((cI σ4 12 l0 8 0) - ((1 : Int32))))).bind fun σ6 =>
    k_Requests_drop_b26  σ6
  )
set_option maxRecDepth 4000 in
theorem k_Requests_drop_b0_ok {E : CE} {pF : Nat → List Value → xH → Option (Option Value × xH)} (hp0 : xNPc pF) (hL : lcAll E pF) (hF : lcF pF) {d : Nat}   : ∀ (g : CG) (lv : xL) (σ : CS) (l0 : Nat) (l1 : Int32), (cob σ 12 l0) → (xg lv 0 = some (.ref (coa E 12 l0))) → (xg lv 1 = some (.int l1)) → ∀ res, k_Requests_drop_b0  σ l0 l1 = some res → cR E cQ1 pF (d + 0) kT116 12 2 none none res g σ (0, lv, []) := by
  intro g lv σ l0 l1 bl0 g0 g1 res h
  unfold k_Requests_drop_b0 at h
  refine cR_lift (fun _ _ kk => eE_aload_n lk116_0 g0 kk) ?_
  refine cR_getA lk116_1 rf_12_9 (by decide) bl0 ?_
  refine cR_lift (fun _ _ kk => eE_iload_n lk116_4 g1 kk) ?_
  obtain ⟨x1, h2, h⟩ := Option.bind_eq_some_iff.mp h
  refine cR_bald (cl := 12) (i := l0) (f := 0) lk116_5 (by decide) (Or.inr rfl) bl0 h2 ?_
  refine cR_if (t := 26) lk116_6 (by decide) (fun c3 => ?_) (fun c3 => ?_)
  · rw [if_pos c3] at h
    exact k_Requests_drop_b26_ok hp0 hL hF  g lv σ  _ h
  · rw [if_neg c3] at h
    refine cR_lift (fun _ _ kk => eE_aload_n lk116_9 g0 kk) ?_
    refine cR_getA lk116_10 rf_12_9 (by decide) bl0 ?_
    refine cR_lift (fun _ _ kk => eE_iload_n lk116_13 g1 kk) ?_
    refine cR_lift (fun _ _ kk => eE_iconst (v := 0) lk116_14 (by decide) kk) ?_
    obtain ⟨σ4, h5, h⟩ := Option.bind_eq_some_iff.mp h
    refine cR_zast (cl := 12) (i := l0) (f := 0) lk116_15 (by decide) rfl rfl bl0 h5 ?_
    refine cR_lift (fun _ _ kk => eE_aload_n lk116_16 g0 kk) ?_
    refine cR_lift (fun _ _ kk => eE_dup lk116_17 rfl kk) ?_
    refine cR_getI lk116_18 rf_12_42 rfl (cob_any rfl bl0) ?_
    refine cR_lift (fun _ _ kk => eE_iconst (v := 1) lk116_21 (by decide) kk) ?_
    refine cR_lift (fun _ _ kk => eE_isub lk116_22 kk) ?_
    obtain ⟨σ6, h7, h⟩ := Option.bind_eq_some_iff.mp h
    refine cR_putI lk116_23 rf_12_42 rfl (cob_any rfl bl0) pf_12_8 rfl h7 ?_
    exact k_Requests_drop_b26_ok hp0 hL hF  g lv σ6  _ h
def k_Requests_drop (σ : CS) (l0 : Nat) (l1 : Int32) : Option (CS) := k_Requests_drop_b0 σ l0 l1
theorem k_Requests_drop_ok {E : CE} {pF : Nat → List Value → xH → Option (Option Value × xH)} (hp0 : xNPc pF) (hL : lcAll E pF) (hF : lcF pF) {d : Nat} {g : CG} {σ : CS} {l0 : Nat} {l1 : Int32} {res : CS} (bl0 : cob σ 12 l0) (h : k_Requests_drop σ l0 l1 = some res) : cCo E cQ1 pF (d + 1) 116 [.ref (coa E 12 l0), .int l1] none res g σ :=
  cCo_R kk_116 mo_116 ni_116 xm_116 (Nat.le_of_ble_eq_true rfl) (hp0 116 (by decide) _) (k_Requests_drop_b0_ok hp0 hL hF g _ σ l0 l1 bl0 rfl rfl _ h)
/-! k_Requests_dropAll (117), depth 1 -/
def k_Requests_dropAll_b2 (F : Nat)  : Nat → CS → Nat → Int32 → Option (CS)
  | 0, _, _, _ => none
  | n + 1, σ, l0, l1 =>
    let KK := k_Requests_dropAll_b2 F  n
    if xc2 .ge l1 ((32 : Int32)) = true then (
      (some (csI σ 12 l0 8 0 ((0 : Int32)))).bind fun σ2 =>
      some σ2
    ) else (
      (cwr σ 12 l0 0 l1 (((0 : Int32)) &&& 1)).bind fun σ4 =>
      KK σ4 l0 (l1 + (1 : Int32))
    )
set_option maxRecDepth 4000 in
theorem k_Requests_dropAll_b2_ok {E : CE} {pF : Nat → List Value → xH → Option (Option Value × xH)} (hp0 : xNPc pF) (hL : lcAll E pF) (hF : lcF pF) {d : Nat} {F : Nat}   : ∀ (n : Nat) (g : CG) (lv : xL) (σ : CS) (l0 : Nat) (l1 : Int32), (cob σ 12 l0) → (xg lv 0 = some (.ref (coa E 12 l0))) → (xg lv 1 = some (.int l1)) → ∀ res, k_Requests_dropAll_b2 F  n σ l0 l1 = some res → cR E cQ1 pF (d + 0) kT117 12 2 none none res g σ (2, lv, []) := by
  intro n
  induction n with
  | zero => intro g lv σ l0 l1 bl0 g0 g1 res h; simp [k_Requests_dropAll_b2] at h
  | succ n hKK =>
    intro g lv σ l0 l1 bl0 g0 g1 res h
    unfold k_Requests_dropAll_b2 at h
    dsimp only at h
    refine cR_lift (fun _ _ kk => eE_iload_n lk117_2 g1 kk) ?_
    refine cR_lift (fun _ _ kk => eE_bipush (v := 32) lk117_3 (by decide) kk) ?_
    refine cR_icmp (t := 21) lk117_5 (by decide) (fun c1 => ?_) (fun c1 => ?_)
    · rw [if_pos c1] at h
      refine cR_lift (fun _ _ kk => eE_aload_n lk117_21 g0 kk) ?_
      refine cR_lift (fun _ _ kk => eE_iconst (v := 0) lk117_22 (by decide) kk) ?_
      obtain ⟨σ2, h3, h⟩ := Option.bind_eq_some_iff.mp h
      refine cR_putI lk117_23 rf_12_42 rfl bl0 pf_12_8 rfl h3 ?_
      cases h
      exact cR_end lk117_26 rfl rfl rfl
    · rw [if_neg c1] at h
      refine cR_lift (fun _ _ kk => eE_aload_n lk117_8 g0 kk) ?_
      refine cR_getA lk117_9 rf_12_9 (by decide) bl0 ?_
      refine cR_lift (fun _ _ kk => eE_iload_n lk117_12 g1 kk) ?_
      refine cR_lift (fun _ _ kk => eE_iconst (v := 0) lk117_13 (by decide) kk) ?_
      obtain ⟨σ4, h5, h⟩ := Option.bind_eq_some_iff.mp h
      refine cR_zast (cl := 12) (i := l0) (f := 0) lk117_14 (by decide) rfl rfl bl0 h5 ?_
      refine cR_inc (j := 1) (v := l1 + (1 : Int32)) lk117_15 g1 rfl (by decide) (fun vq6 gq7 kq8 => ?_)
      have gq9 := kq8 0 _ (by decide) (fun _ => rfl) g0
      refine cR_lift (fun _ _ kk => eE_goto (t := 2) lk117_18 (by decide) kk) ?_
      exact hKK g vq6 σ4 l0 (l1 + (1 : Int32)) (cob_any rfl bl0) gq9 gq7 _ h
def k_Requests_dropAll_b0 (F : Nat)  (σ : CS) (l0 : Nat) : Option (CS) :=
  k_Requests_dropAll_b2 F  F σ l0 ((0 : Int32))
set_option maxRecDepth 4000 in
theorem k_Requests_dropAll_b0_ok {E : CE} {pF : Nat → List Value → xH → Option (Option Value × xH)} (hp0 : xNPc pF) (hL : lcAll E pF) (hF : lcF pF) {d : Nat} {F : Nat}   : ∀ (g : CG) (lv : xL) (σ : CS) (l0 : Nat), (cob σ 12 l0) → (xg lv 0 = some (.ref (coa E 12 l0))) → ∀ res, k_Requests_dropAll_b0 F  σ l0 = some res → cR E cQ1 pF (d + 0) kT117 12 2 none none res g σ (0, lv, []) := by
  intro g lv σ l0 bl0 g0 res h
  unfold k_Requests_dropAll_b0 at h
  refine cR_lift (fun _ _ kk => eE_iconst (v := 0) lk117_0 (by decide) kk) ?_
  refine cR_stI (j := 1) lk117_1 (Or.inr ⟨_, rfl, rfl⟩) (by decide) (fun vq10 gq11 kq12 => ?_)
  have gq13 := kq12 0 _ (by decide) (fun _ => rfl) g0
  exact k_Requests_dropAll_b2_ok hp0 hL hF  F g vq10 σ l0 ((0 : Int32)) bl0 gq13 gq11 _ h
def k_Requests_dropAll (F : Nat) (σ : CS) (l0 : Nat) : Option (CS) := k_Requests_dropAll_b0 F σ l0
theorem k_Requests_dropAll_ok {E : CE} {pF : Nat → List Value → xH → Option (Option Value × xH)} (hp0 : xNPc pF) (hL : lcAll E pF) (hF : lcF pF) {d : Nat} {g : CG} {σ : CS} {F : Nat} {l0 : Nat} {res : CS} (bl0 : cob σ 12 l0) (h : k_Requests_dropAll F σ l0 = some res) : cCo E cQ1 pF (d + 1) 117 [.ref (coa E 12 l0)] none res g σ :=
  cCo_R kk_117 mo_117 ni_117 xm_117 (Nat.le_of_ble_eq_true rfl) (hp0 117 (by decide) _) (k_Requests_dropAll_b0_ok hp0 hL hF g _ σ l0 bl0 rfl _ h)
/-! k_Requests_waitsFor (120), depth 1 -/
def k_Requests_waitsFor_b46 (F : Nat) (K2 : CS → Nat → Int32 → Int32 → Option (Int32)) (σ : CS) (l0 : Nat) (l1 : Int32) (l2 : Int32) : Option (Int32) :=
  K2 σ l0 l1 (l2 + (1 : Int32))
set_option maxRecDepth 4000 in
theorem k_Requests_waitsFor_b46_ok {E : CE} {pF : Nat → List Value → xH → Option (Option Value × xH)} (hp0 : xNPc pF) (hL : lcAll E pF) (hF : lcF pF) {d : Nat} {F : Nat} {K2 : CS → Nat → Int32 → Int32 → Option (Int32)} (hK2 : ∀ (g : CG) (lv : xL) (σ : CS) (l0 : Nat) (l1 : Int32) (l2 : Int32), (cob σ 12 l0) → (xg lv 0 = some (.ref (coa E 12 l0))) → (xg lv 1 = some (.int l1)) → (xg lv 2 = some (.int l2)) → ∀ res, K2 σ l0 l1 l2 = some res → cR E cQ1 pF (d + 0) kT120 12 3 (some FieldType.int) (some (.int res)) σ g σ (2, lv, [])) : ∀ (g : CG) (lv : xL) (σ : CS) (l0 : Nat) (l1 : Int32) (l2 : Int32), (cob σ 12 l0) → (xg lv 0 = some (.ref (coa E 12 l0))) → (xg lv 1 = some (.int l1)) → (xg lv 2 = some (.int l2)) → ∀ res, k_Requests_waitsFor_b46 F K2 σ l0 l1 l2 = some res → cR E cQ1 pF (d + 0) kT120 12 3 (some FieldType.int) (some (.int res)) σ g σ (46, lv, []) := by
  intro g lv σ l0 l1 l2 bl0 g0 g1 g2 res h
  unfold k_Requests_waitsFor_b46 at h
  refine cR_inc (j := 2) (v := l2 + (1 : Int32)) lk120_46 g2 rfl (by decide) (fun vq1 gq2 kq3 => ?_)
  have gq4 := kq3 0 _ (by decide) (fun e => absurd e (by decide)) g0
  have gq5 := kq3 1 _ (by decide) (fun _ => rfl) g1
  refine cR_lift (fun _ _ kk => eE_goto (t := 2) lk120_49 (by decide) kk) ?_
  exact hK2 g vq1 σ l0 l1 (l2 + (1 : Int32)) bl0 gq4 gq5 gq2 _ h
def k_Requests_waitsFor_b52 (F : Nat)  (σ : CS) : Option (Int32) :=
  some ((-1 : Int32))
set_option maxRecDepth 4000 in
theorem k_Requests_waitsFor_b52_ok {E : CE} {pF : Nat → List Value → xH → Option (Option Value × xH)} (hp0 : xNPc pF) (hL : lcAll E pF) (hF : lcF pF) {d : Nat} {F : Nat}   : ∀ (g : CG) (lv : xL) (σ : CS), ∀ res, k_Requests_waitsFor_b52 F  σ = some res → cR E cQ1 pF (d + 0) kT120 12 3 (some FieldType.int) (some (.int res)) σ g σ (52, lv, []) := by
  intro g lv σ res h
  unfold k_Requests_waitsFor_b52 at h
  refine cR_lift (fun _ _ kk => eE_iconst (v := (-1)) lk120_52 (by decide) kk) ?_
  cases h
  exact cR_end lk120_53 rfl rfl rfl
def k_Requests_waitsFor_b2 (F : Nat)  : Nat → CS → Nat → Int32 → Int32 → Option (Int32)
  | 0, _, _, _, _ => none
  | n + 1, σ, l0, l1, l2 =>
    let KK := k_Requests_waitsFor_b2 F  n
    if xc0 .le (cI σ 12 l0 8 0) = true then (
      k_Requests_waitsFor_b52 F  σ
    ) else (
      if xc2 .ge l2 ((32 : Int32)) = true then (
        k_Requests_waitsFor_b52 F  σ
      ) else (
        (crd σ 12 l0 0 l2).bind fun x8 =>
        if xc0 .eq x8 = true then (
          k_Requests_waitsFor_b46 F KK σ l0 l1 l2
        ) else (
          (crd σ 12 l0 6 l2).bind fun x11 =>
          if xc2 .ne x11 ((-1 : Int32)) = true then (
            k_Requests_waitsFor_b46 F KK σ l0 l1 l2
          ) else (
            (crd σ 12 l0 4 l2).bind fun x14 =>
            if xc2 .ne x14 l1 = true then (
              k_Requests_waitsFor_b46 F KK σ l0 l1 l2
            ) else (
              some l2
            )
          )
        )
      )
    )
set_option maxRecDepth 4000 in
theorem k_Requests_waitsFor_b2_ok {E : CE} {pF : Nat → List Value → xH → Option (Option Value × xH)} (hp0 : xNPc pF) (hL : lcAll E pF) (hF : lcF pF) {d : Nat} {F : Nat}   : ∀ (n : Nat) (g : CG) (lv : xL) (σ : CS) (l0 : Nat) (l1 : Int32) (l2 : Int32), (cob σ 12 l0) → (xg lv 0 = some (.ref (coa E 12 l0))) → (xg lv 1 = some (.int l1)) → (xg lv 2 = some (.int l2)) → ∀ res, k_Requests_waitsFor_b2 F  n σ l0 l1 l2 = some res → cR E cQ1 pF (d + 0) kT120 12 3 (some FieldType.int) (some (.int res)) σ g σ (2, lv, []) := by
  intro n
  induction n with
  | zero => intro g lv σ l0 l1 l2 bl0 g0 g1 g2 res h; simp [k_Requests_waitsFor_b2] at h
  | succ n hKK =>
    intro g lv σ l0 l1 l2 bl0 g0 g1 g2 res h
    unfold k_Requests_waitsFor_b2 at h
    dsimp only at h
    refine cR_lift (fun _ _ kk => eE_aload_n lk120_2 g0 kk) ?_
    refine cR_getI lk120_3 rf_12_42 rfl bl0 ?_
    refine cR_if (t := 52) lk120_6 (by decide) (fun c6 => ?_) (fun c6 => ?_)
    · rw [if_pos c6] at h
      exact k_Requests_waitsFor_b52_ok hp0 hL hF  g lv σ  _ h
    · rw [if_neg c6] at h
      refine cR_lift (fun _ _ kk => eE_iload_n lk120_9 g2 kk) ?_
      refine cR_lift (fun _ _ kk => eE_bipush (v := 32) lk120_10 (by decide) kk) ?_
      refine cR_icmp (t := 52) lk120_12 (by decide) (fun c7 => ?_) (fun c7 => ?_)
      · rw [if_pos c7] at h
        exact k_Requests_waitsFor_b52_ok hp0 hL hF  g lv σ  _ h
      · rw [if_neg c7] at h
        refine cR_lift (fun _ _ kk => eE_aload_n lk120_15 g0 kk) ?_
        refine cR_getA lk120_16 rf_12_9 (by decide) bl0 ?_
        refine cR_lift (fun _ _ kk => eE_iload_n lk120_19 g2 kk) ?_
        obtain ⟨x8, h9, h⟩ := Option.bind_eq_some_iff.mp h
        refine cR_bald (cl := 12) (i := l0) (f := 0) lk120_20 (by decide) (Or.inr rfl) bl0 h9 ?_
        refine cR_if (t := 46) lk120_21 (by decide) (fun c10 => ?_) (fun c10 => ?_)
        · rw [if_pos c10] at h
          exact k_Requests_waitsFor_b46_ok hp0 hL hF hKK g lv σ l0 l1 l2 bl0 g0 g1 g2 _ h
        · rw [if_neg c10] at h
          refine cR_lift (fun _ _ kk => eE_aload_n lk120_24 g0 kk) ?_
          refine cR_getA lk120_25 rf_12_31 (by decide) bl0 ?_
          refine cR_lift (fun _ _ kk => eE_iload_n lk120_28 g2 kk) ?_
          obtain ⟨x11, h12, h⟩ := Option.bind_eq_some_iff.mp h
          refine cR_iald (cl := 12) (i := l0) (f := 6) lk120_29 (by decide) rfl bl0 h12 ?_
          refine cR_lift (fun _ _ kk => eE_iconst (v := (-1)) lk120_30 (by decide) kk) ?_
          refine cR_icmp (t := 46) lk120_31 (by decide) (fun c13 => ?_) (fun c13 => ?_)
          · rw [if_pos c13] at h
            exact k_Requests_waitsFor_b46_ok hp0 hL hF hKK g lv σ l0 l1 l2 bl0 g0 g1 g2 _ h
          · rw [if_neg c13] at h
            refine cR_lift (fun _ _ kk => eE_aload_n lk120_34 g0 kk) ?_
            refine cR_getA lk120_35 rf_12_25 (by decide) bl0 ?_
            refine cR_lift (fun _ _ kk => eE_iload_n lk120_38 g2 kk) ?_
            obtain ⟨x14, h15, h⟩ := Option.bind_eq_some_iff.mp h
            refine cR_iald (cl := 12) (i := l0) (f := 4) lk120_39 (by decide) rfl bl0 h15 ?_
            refine cR_lift (fun _ _ kk => eE_iload_n lk120_40 g1 kk) ?_
            refine cR_icmp (t := 46) lk120_41 (by decide) (fun c16 => ?_) (fun c16 => ?_)
            · rw [if_pos c16] at h
              exact k_Requests_waitsFor_b46_ok hp0 hL hF hKK g lv σ l0 l1 l2 bl0 g0 g1 g2 _ h
            · rw [if_neg c16] at h
              refine cR_lift (fun _ _ kk => eE_iload_n lk120_44 g2 kk) ?_
              cases h
              exact cR_end lk120_45 rfl rfl rfl
def k_Requests_waitsFor_b0 (F : Nat)  (σ : CS) (l0 : Nat) (l1 : Int32) : Option (Int32) :=
  k_Requests_waitsFor_b2 F  F σ l0 l1 ((0 : Int32))
set_option maxRecDepth 4000 in
theorem k_Requests_waitsFor_b0_ok {E : CE} {pF : Nat → List Value → xH → Option (Option Value × xH)} (hp0 : xNPc pF) (hL : lcAll E pF) (hF : lcF pF) {d : Nat} {F : Nat}   : ∀ (g : CG) (lv : xL) (σ : CS) (l0 : Nat) (l1 : Int32), (cob σ 12 l0) → (xg lv 0 = some (.ref (coa E 12 l0))) → (xg lv 1 = some (.int l1)) → ∀ res, k_Requests_waitsFor_b0 F  σ l0 l1 = some res → cR E cQ1 pF (d + 0) kT120 12 3 (some FieldType.int) (some (.int res)) σ g σ (0, lv, []) := by
  intro g lv σ l0 l1 bl0 g0 g1 res h
  unfold k_Requests_waitsFor_b0 at h
  refine cR_lift (fun _ _ kk => eE_iconst (v := 0) lk120_0 (by decide) kk) ?_
  refine cR_stI (j := 2) lk120_1 (Or.inr ⟨_, rfl, rfl⟩) (by decide) (fun vq17 gq18 kq19 => ?_)
  have gq20 := kq19 0 _ (by decide) (fun e => absurd e (by decide)) g0
  have gq21 := kq19 1 _ (by decide) (fun _ => rfl) g1
  exact k_Requests_waitsFor_b2_ok hp0 hL hF  F g vq17 σ l0 l1 ((0 : Int32)) bl0 gq20 gq21 gq18 _ h
def k_Requests_waitsFor (F : Nat) (σ : CS) (l0 : Nat) (l1 : Int32) : Option (Int32) := k_Requests_waitsFor_b0 F σ l0 l1
theorem k_Requests_waitsFor_ok {E : CE} {pF : Nat → List Value → xH → Option (Option Value × xH)} (hp0 : xNPc pF) (hL : lcAll E pF) (hF : lcF pF) {d : Nat} {g : CG} {σ : CS} {F : Nat} {l0 : Nat} {l1 : Int32} {res : Int32} (bl0 : cob σ 12 l0) (h : k_Requests_waitsFor F σ l0 l1 = some res) : cCo E cQ1 pF (d + 1) 120 [.ref (coa E 12 l0), .int l1] (some (.int res)) σ g σ :=
  cCo_R kk_120 mo_120 ni_120 xm_120 (Nat.le_of_ble_eq_true rfl) (hp0 120 (by decide) _) (k_Requests_waitsFor_b0_ok hp0 hL hF g _ σ l0 l1 bl0 rfl rfl _ h)
/-! k_Integer_bitCount (398), depth 1 -/
def k_Integer_bitCount_b0  (σ : CS) (l0 : Int32) : Option (Int32) :=
  some ((((((((l0 - (((l0.toUInt32 >>> (((1 : Int32)).toUInt32 &&& Int32.toUInt32 31)).toInt32) &&& ((1431655765 : Int32)))) &&& ((858993459 : Int32))) + ((((l0 - (((l0.toUInt32 >>> (((1 : Int32)).toUInt32 &&& Int32.toUInt32 31)).toInt32) &&& ((1431655765 : Int32)))).toUInt32 >>> (((2 : Int32)).toUInt32 &&& Int32.toUInt32 31)).toInt32) &&& ((858993459 : Int32)))) + (((((l0 - (((l0.toUInt32 >>> (((1 : Int32)).toUInt32 &&& Int32.toUInt32 31)).toInt32) &&& ((1431655765 : Int32)))) &&& ((858993459 : Int32))) + ((((l0 - (((l0.toUInt32 >>> (((1 : Int32)).toUInt32 &&& Int32.toUInt32 31)).toInt32) &&& ((1431655765 : Int32)))).toUInt32 >>> (((2 : Int32)).toUInt32 &&& Int32.toUInt32 31)).toInt32) &&& ((858993459 : Int32)))).toUInt32 >>> (((4 : Int32)).toUInt32 &&& Int32.toUInt32 31)).toInt32)) &&& ((252645135 : Int32))) + (((((((l0 - (((l0.toUInt32 >>> (((1 : Int32)).toUInt32 &&& Int32.toUInt32 31)).toInt32) &&& ((1431655765 : Int32)))) &&& ((858993459 : Int32))) + ((((l0 - (((l0.toUInt32 >>> (((1 : Int32)).toUInt32 &&& Int32.toUInt32 31)).toInt32) &&& ((1431655765 : Int32)))).toUInt32 >>> (((2 : Int32)).toUInt32 &&& Int32.toUInt32 31)).toInt32) &&& ((858993459 : Int32)))) + (((((l0 - (((l0.toUInt32 >>> (((1 : Int32)).toUInt32 &&& Int32.toUInt32 31)).toInt32) &&& ((1431655765 : Int32)))) &&& ((858993459 : Int32))) + ((((l0 - (((l0.toUInt32 >>> (((1 : Int32)).toUInt32 &&& Int32.toUInt32 31)).toInt32) &&& ((1431655765 : Int32)))).toUInt32 >>> (((2 : Int32)).toUInt32 &&& Int32.toUInt32 31)).toInt32) &&& ((858993459 : Int32)))).toUInt32 >>> (((4 : Int32)).toUInt32 &&& Int32.toUInt32 31)).toInt32)) &&& ((252645135 : Int32))).toUInt32 >>> (((8 : Int32)).toUInt32 &&& Int32.toUInt32 31)).toInt32)) + ((((((((l0 - (((l0.toUInt32 >>> (((1 : Int32)).toUInt32 &&& Int32.toUInt32 31)).toInt32) &&& ((1431655765 : Int32)))) &&& ((858993459 : Int32))) + ((((l0 - (((l0.toUInt32 >>> (((1 : Int32)).toUInt32 &&& Int32.toUInt32 31)).toInt32) &&& ((1431655765 : Int32)))).toUInt32 >>> (((2 : Int32)).toUInt32 &&& Int32.toUInt32 31)).toInt32) &&& ((858993459 : Int32)))) + (((((l0 - (((l0.toUInt32 >>> (((1 : Int32)).toUInt32 &&& Int32.toUInt32 31)).toInt32) &&& ((1431655765 : Int32)))) &&& ((858993459 : Int32))) + ((((l0 - (((l0.toUInt32 >>> (((1 : Int32)).toUInt32 &&& Int32.toUInt32 31)).toInt32) &&& ((1431655765 : Int32)))).toUInt32 >>> (((2 : Int32)).toUInt32 &&& Int32.toUInt32 31)).toInt32) &&& ((858993459 : Int32)))).toUInt32 >>> (((4 : Int32)).toUInt32 &&& Int32.toUInt32 31)).toInt32)) &&& ((252645135 : Int32))) + (((((((l0 - (((l0.toUInt32 >>> (((1 : Int32)).toUInt32 &&& Int32.toUInt32 31)).toInt32) &&& ((1431655765 : Int32)))) &&& ((858993459 : Int32))) + ((((l0 - (((l0.toUInt32 >>> (((1 : Int32)).toUInt32 &&& Int32.toUInt32 31)).toInt32) &&& ((1431655765 : Int32)))).toUInt32 >>> (((2 : Int32)).toUInt32 &&& Int32.toUInt32 31)).toInt32) &&& ((858993459 : Int32)))) + (((((l0 - (((l0.toUInt32 >>> (((1 : Int32)).toUInt32 &&& Int32.toUInt32 31)).toInt32) &&& ((1431655765 : Int32)))) &&& ((858993459 : Int32))) + ((((l0 - (((l0.toUInt32 >>> (((1 : Int32)).toUInt32 &&& Int32.toUInt32 31)).toInt32) &&& ((1431655765 : Int32)))).toUInt32 >>> (((2 : Int32)).toUInt32 &&& Int32.toUInt32 31)).toInt32) &&& ((858993459 : Int32)))).toUInt32 >>> (((4 : Int32)).toUInt32 &&& Int32.toUInt32 31)).toInt32)) &&& ((252645135 : Int32))).toUInt32 >>> (((8 : Int32)).toUInt32 &&& Int32.toUInt32 31)).toInt32)).toUInt32 >>> (((16 : Int32)).toUInt32 &&& Int32.toUInt32 31)).toInt32)) &&& ((63 : Int32)))
set_option maxRecDepth 4000 in
theorem k_Integer_bitCount_b0_ok {E : CE} {pF : Nat → List Value → xH → Option (Option Value × xH)} (hp0 : xNPc pF) (hL : lcAll E pF) (hF : lcF pF) {d : Nat}   : ∀ (g : CG) (lv : xL) (σ : CS) (l0 : Int32), (xg lv 0 = some (.int l0)) → ∀ res, k_Integer_bitCount_b0  σ l0 = some res → cR E cQ1 pF (d + 0) kT398 20 1 (some FieldType.int) (some (.int res)) σ g σ (0, lv, []) := by
  intro g lv σ l0 g0 res h
  unfold k_Integer_bitCount_b0 at h
  refine cR_lift (fun _ _ kk => eE_iload_n lk398_0 g0 kk) ?_
  refine cR_lift (fun _ _ kk => eE_iload_n lk398_1 g0 kk) ?_
  refine cR_lift (fun _ _ kk => eE_iconst (v := 1) lk398_2 (by decide) kk) ?_
  refine cR_lift (fun _ _ kk => eE_iushr lk398_3 kk) ?_
  refine cR_lift (fun _ _ kk => eE_ldc_w (v := 1431655765) lk398_4 xc_20_265 kk) ?_
  refine cR_lift (fun _ _ kk => eE_iand lk398_7 kk) ?_
  refine cR_lift (fun _ _ kk => eE_isub lk398_8 kk) ?_
  refine cR_stI (j := 0) lk398_9 (Or.inr ⟨_, rfl, rfl⟩) (by decide) (fun vq1 gq2 kq3 => ?_)
  refine cR_lift (fun _ _ kk => eE_iload_n lk398_10 gq2 kk) ?_
  refine cR_lift (fun _ _ kk => eE_ldc_w (v := 858993459) lk398_11 xc_20_266 kk) ?_
  refine cR_lift (fun _ _ kk => eE_iand lk398_14 kk) ?_
  refine cR_lift (fun _ _ kk => eE_iload_n lk398_15 gq2 kk) ?_
  refine cR_lift (fun _ _ kk => eE_iconst (v := 2) lk398_16 (by decide) kk) ?_
  refine cR_lift (fun _ _ kk => eE_iushr lk398_17 kk) ?_
  refine cR_lift (fun _ _ kk => eE_ldc_w (v := 858993459) lk398_18 xc_20_266 kk) ?_
  refine cR_lift (fun _ _ kk => eE_iand lk398_21 kk) ?_
  refine cR_lift (fun _ _ kk => eE_iadd lk398_22 kk) ?_
  refine cR_stI (j := 0) lk398_23 (Or.inr ⟨_, rfl, rfl⟩) (by decide) (fun vq4 gq5 kq6 => ?_)
  refine cR_lift (fun _ _ kk => eE_iload_n lk398_24 gq5 kk) ?_
  refine cR_lift (fun _ _ kk => eE_iload_n lk398_25 gq5 kk) ?_
  refine cR_lift (fun _ _ kk => eE_iconst (v := 4) lk398_26 (by decide) kk) ?_
  refine cR_lift (fun _ _ kk => eE_iushr lk398_27 kk) ?_
  refine cR_lift (fun _ _ kk => eE_iadd lk398_28 kk) ?_
  refine cR_lift (fun _ _ kk => eE_ldc_w (v := 252645135) lk398_29 xc_20_267 kk) ?_
  refine cR_lift (fun _ _ kk => eE_iand lk398_32 kk) ?_
  refine cR_stI (j := 0) lk398_33 (Or.inr ⟨_, rfl, rfl⟩) (by decide) (fun vq7 gq8 kq9 => ?_)
  refine cR_lift (fun _ _ kk => eE_iload_n lk398_34 gq8 kk) ?_
  refine cR_lift (fun _ _ kk => eE_iload_n lk398_35 gq8 kk) ?_
  refine cR_lift (fun _ _ kk => eE_bipush (v := 8) lk398_36 (by decide) kk) ?_
  refine cR_lift (fun _ _ kk => eE_iushr lk398_38 kk) ?_
  refine cR_lift (fun _ _ kk => eE_iadd lk398_39 kk) ?_
  refine cR_stI (j := 0) lk398_40 (Or.inr ⟨_, rfl, rfl⟩) (by decide) (fun vq10 gq11 kq12 => ?_)
  refine cR_lift (fun _ _ kk => eE_iload_n lk398_41 gq11 kk) ?_
  refine cR_lift (fun _ _ kk => eE_iload_n lk398_42 gq11 kk) ?_
  refine cR_lift (fun _ _ kk => eE_bipush (v := 16) lk398_43 (by decide) kk) ?_
  refine cR_lift (fun _ _ kk => eE_iushr lk398_45 kk) ?_
  refine cR_lift (fun _ _ kk => eE_iadd lk398_46 kk) ?_
  refine cR_stI (j := 0) lk398_47 (Or.inr ⟨_, rfl, rfl⟩) (by decide) (fun vq13 gq14 kq15 => ?_)
  refine cR_lift (fun _ _ kk => eE_iload_n lk398_48 gq14 kk) ?_
  refine cR_lift (fun _ _ kk => eE_bipush (v := 63) lk398_49 (by decide) kk) ?_
  refine cR_lift (fun _ _ kk => eE_iand lk398_51 kk) ?_
  cases h
  exact cR_end lk398_52 rfl rfl rfl
def k_Integer_bitCount (σ : CS) (l0 : Int32) : Option (Int32) := k_Integer_bitCount_b0 σ l0
theorem k_Integer_bitCount_ok {E : CE} {pF : Nat → List Value → xH → Option (Option Value × xH)} (hp0 : xNPc pF) (hL : lcAll E pF) (hF : lcF pF) {d : Nat} {g : CG} {σ : CS} {l0 : Int32} {res : Int32}  (h : k_Integer_bitCount σ l0 = some res) : cCo E cQ1 pF (d + 1) 398 [.int l0] (some (.int res)) σ g σ :=
  cCo_R kk_398 mo_398 ni_398 xm_398 (Nat.le_of_ble_eq_true rfl) (hp0 398 (by decide) _) (k_Integer_bitCount_b0_ok hp0 hL hF g _ σ l0 rfl _ h)
/-! k_Lead_isReached_7_4 (56), depth 2 -/
def k_Lead_isReached_7_4_b32 (F : Nat) (K5 : CS → Nat → Int32 → Int32 → Int32 → Int32 → Option (Int32)) (σ : CS) (l0 : Nat) (l1 : Int32) (l2 : Int32) (l3 : Int32) (l4 : Int32) : Option (Int32) :=
  K5 σ l0 l1 l2 l3 (l4 + (1 : Int32))
set_option maxRecDepth 4000 in
theorem k_Lead_isReached_7_4_b32_ok {E : CE} {pF : Nat → List Value → xH → Option (Option Value × xH)} (hp0 : xNPc pF) (hL : lcAll E pF) (hF : lcF pF) {d : Nat} {F : Nat} {K5 : CS → Nat → Int32 → Int32 → Int32 → Int32 → Option (Int32)} (hK5 : ∀ (g : CG) (lv : xL) (σ : CS) (l0 : Nat) (l1 : Int32) (l2 : Int32) (l3 : Int32) (l4 : Int32), (cob σ 7 l0) → (xg lv 0 = some (.ref (caa E 7 l0 4))) → (xg lv 1 = some (.int l1)) → (xg lv 2 = some (.int l2)) → (xg lv 3 = some (.int l3)) → (xg lv 4 = some (.int l4)) → ∀ res, K5 σ l0 l1 l2 l3 l4 = some res → cR E cQ1 pF (d + 1) kT56 7 5 (some FieldType.boolean) (some (.int res)) σ g σ (5, lv, [])) : ∀ (g : CG) (lv : xL) (σ : CS) (l0 : Nat) (l1 : Int32) (l2 : Int32) (l3 : Int32) (l4 : Int32), (cob σ 7 l0) → (xg lv 0 = some (.ref (caa E 7 l0 4))) → (xg lv 1 = some (.int l1)) → (xg lv 2 = some (.int l2)) → (xg lv 3 = some (.int l3)) → (xg lv 4 = some (.int l4)) → ∀ res, k_Lead_isReached_7_4_b32 F K5 σ l0 l1 l2 l3 l4 = some res → cR E cQ1 pF (d + 1) kT56 7 5 (some FieldType.boolean) (some (.int res)) σ g σ (32, lv, []) := by
  intro g lv σ l0 l1 l2 l3 l4 bl0 g0 g1 g2 g3 g4 res h
  unfold k_Lead_isReached_7_4_b32 at h
  refine cR_inc (j := 4) (v := l4 + (1 : Int32)) lk56_32 g4 rfl (by decide) (fun vq1 gq2 kq3 => ?_)
  have gq4 := kq3 0 _ (by decide) (fun e => absurd e (by decide)) g0
  have gq5 := kq3 1 _ (by decide) (fun e => absurd e (by decide)) g1
  have gq6 := kq3 2 _ (by decide) (fun e => absurd e (by decide)) g2
  have gq7 := kq3 3 _ (by decide) (fun _ => rfl) g3
  refine cR_lift (fun _ _ kk => eE_goto (t := 5) lk56_35 (by decide) kk) ?_
  exact hK5 g vq1 σ l0 l1 l2 l3 (l4 + (1 : Int32)) bl0 gq4 gq5 gq6 gq7 gq2 _ h
def k_Lead_isReached_7_4_b53 (F : Nat)  (σ : CS) (s0 : Int32) : Option (Int32) :=
  if s0 = 0 ∨ s0 = 1 then some s0 else none
set_option maxRecDepth 4000 in
theorem k_Lead_isReached_7_4_b53_ok {E : CE} {pF : Nat → List Value → xH → Option (Option Value × xH)} (hp0 : xNPc pF) (hL : lcAll E pF) (hF : lcF pF) {d : Nat} {F : Nat}   : ∀ (g : CG) (lv : xL) (σ : CS) (s0 : Int32), ∀ res, k_Lead_isReached_7_4_b53 F  σ s0 = some res → cR E cQ1 pF (d + 1) kT56 7 5 (some FieldType.boolean) (some (.int res)) σ g σ (53, lv, [.int s0]) := by
  intro g lv σ s0 res h
  unfold k_Lead_isReached_7_4_b53 at h
  by_cases z8 : s0 = 0 ∨ s0 = 1
  · rw [if_pos z8] at h; cases h
    exact cR_end lk56_53 rfl rfl (by first | (simp only [xfin, if_true, if_pos z8]; done) | simp [xfin, z8])
  · rw [if_neg z8] at h; cases h
def k_Lead_isReached_7_4_b5 (F : Nat)  : Nat → CS → Nat → Int32 → Int32 → Int32 → Int32 → Option (Int32)
  | 0, _, _, _, _, _, _ => none
  | n + 1, σ, l0, l1, l2, l3, l4 =>
    let KK := k_Lead_isReached_7_4_b5 F  n
    if xc2 .ge l4 ((7 : Int32)) = true then (
      (k_Integer_bitCount σ l1).bind fun p10 =>
      if xc2 .le (((2 : Int32)) * l3) p10 = true then (
        k_Lead_isReached_7_4_b53 F  σ ((0 : Int32))
      ) else (
        k_Lead_isReached_7_4_b53 F  σ ((1 : Int32))
      )
    ) else (
      if xc0 .eq ((l1 >>> (l4 &&& 31)) &&& ((1 : Int32))) = true then (
        k_Lead_isReached_7_4_b32 F KK σ l0 l1 l2 l3 l4
      ) else (
        (crd σ 7 l0 4 l4).bind fun x15 =>
        if xc2 .lt x15 l2 = true then (
          k_Lead_isReached_7_4_b32 F KK σ l0 l1 l2 l3 l4
        ) else (
          k_Lead_isReached_7_4_b32 F KK σ l0 l1 l2 (l3 + (1 : Int32)) l4
        )
      )
    )
set_option maxRecDepth 4000 in
theorem k_Lead_isReached_7_4_b5_ok {E : CE} {pF : Nat → List Value → xH → Option (Option Value × xH)} (hp0 : xNPc pF) (hL : lcAll E pF) (hF : lcF pF) {d : Nat} {F : Nat}   : ∀ (n : Nat) (g : CG) (lv : xL) (σ : CS) (l0 : Nat) (l1 : Int32) (l2 : Int32) (l3 : Int32) (l4 : Int32), (cob σ 7 l0) → (xg lv 0 = some (.ref (caa E 7 l0 4))) → (xg lv 1 = some (.int l1)) → (xg lv 2 = some (.int l2)) → (xg lv 3 = some (.int l3)) → (xg lv 4 = some (.int l4)) → ∀ res, k_Lead_isReached_7_4_b5 F  n σ l0 l1 l2 l3 l4 = some res → cR E cQ1 pF (d + 1) kT56 7 5 (some FieldType.boolean) (some (.int res)) σ g σ (5, lv, []) := by
  intro n
  induction n with
  | zero => intro g lv σ l0 l1 l2 l3 l4 bl0 g0 g1 g2 g3 g4 res h; simp [k_Lead_isReached_7_4_b5] at h
  | succ n hKK =>
    intro g lv σ l0 l1 l2 l3 l4 bl0 g0 g1 g2 g3 g4 res h
    unfold k_Lead_isReached_7_4_b5 at h
    dsimp only at h
    refine cR_lift (fun _ _ kk => eE_iload lk56_5 g4 kk) ?_
    refine cR_lift (fun _ _ kk => eE_bipush (v := 7) lk56_7 (by decide) kk) ?_
    refine cR_icmp (t := 38) lk56_9 (by decide) (fun c9 => ?_) (fun c9 => ?_)
    · rw [if_pos c9] at h
      refine cR_lift (fun _ _ kk => eE_iconst (v := 2) lk56_38 (by decide) kk) ?_
      refine cR_lift (fun _ _ kk => eE_iload_n lk56_39 g3 kk) ?_
      refine cR_lift (fun _ _ kk => eE_imul lk56_40 kk) ?_
      refine cR_lift (fun _ _ kk => eE_iload_n lk56_41 g1 kk) ?_
      obtain ⟨p10, h11, h⟩ := Option.bind_eq_some_iff.mp h
      refine cR_stat (as := [.int l1]) lk56_42 mr_7_68 na_398 rfl rfl (by first | exact Nat.le_of_ble_eq_true rfl | (simp [xcat, cvo_cat, cat_i, cat_j, cat_r]; done)) mm_398 ws_398 (k_Integer_bitCount_ok hp0 hL hF (d := d + 0)  h11) (fun m12 => ?_)
      refine cR_icmp (t := 52) lk56_45 (by decide) (fun c13 => ?_) (fun c13 => ?_)
      · rw [if_pos c13] at h
        refine cR_lift (fun _ _ kk => eE_iconst (v := 0) lk56_52 (by decide) kk) ?_
        exact k_Lead_isReached_7_4_b53_ok hp0 hL hF  g lv σ ((0 : Int32))  _ h
      · rw [if_neg c13] at h
        refine cR_lift (fun _ _ kk => eE_iconst (v := 1) lk56_48 (by decide) kk) ?_
        refine cR_lift (fun _ _ kk => eE_goto (t := 53) lk56_49 (by decide) kk) ?_
        exact k_Lead_isReached_7_4_b53_ok hp0 hL hF  g lv σ ((1 : Int32))  _ h
    · rw [if_neg c9] at h
      refine cR_lift (fun _ _ kk => eE_iload_n lk56_12 g1 kk) ?_
      refine cR_lift (fun _ _ kk => eE_iload lk56_13 g4 kk) ?_
      refine cR_lift (fun _ _ kk => eE_ishr lk56_15 kk) ?_
      refine cR_lift (fun _ _ kk => eE_iconst (v := 1) lk56_16 (by decide) kk) ?_
      refine cR_lift (fun _ _ kk => eE_iand lk56_17 kk) ?_
      refine cR_if (t := 32) lk56_18 (by decide) (fun c14 => ?_) (fun c14 => ?_)
      · rw [if_pos c14] at h
        exact k_Lead_isReached_7_4_b32_ok hp0 hL hF hKK g lv σ l0 l1 l2 l3 l4 bl0 g0 g1 g2 g3 g4 _ h
      · rw [if_neg c14] at h
        refine cR_lift (fun _ _ kk => eE_aload_n lk56_21 g0 kk) ?_
        refine cR_lift (fun _ _ kk => eE_iload lk56_22 g4 kk) ?_
        obtain ⟨x15, h16, h⟩ := Option.bind_eq_some_iff.mp h
        refine cR_iald (cl := 7) (i := l0) (f := 4) lk56_24 (by decide) rfl bl0 h16 ?_
        refine cR_lift (fun _ _ kk => eE_iload_n lk56_25 g2 kk) ?_
        refine cR_icmp (t := 32) lk56_26 (by decide) (fun c17 => ?_) (fun c17 => ?_)
        · rw [if_pos c17] at h
          exact k_Lead_isReached_7_4_b32_ok hp0 hL hF hKK g lv σ l0 l1 l2 l3 l4 bl0 g0 g1 g2 g3 g4 _ h
        · rw [if_neg c17] at h
          refine cR_inc (j := 3) (v := l3 + (1 : Int32)) lk56_29 g3 rfl (by decide) (fun vq18 gq19 kq20 => ?_)
          have gq21 := kq20 0 _ (by decide) (fun e => absurd e (by decide)) g0
          have gq22 := kq20 1 _ (by decide) (fun e => absurd e (by decide)) g1
          have gq23 := kq20 2 _ (by decide) (fun _ => rfl) g2
          have gq24 := kq20 4 _ (by decide) (fun e => absurd e (by decide)) g4
          exact k_Lead_isReached_7_4_b32_ok hp0 hL hF hKK g vq18 σ l0 l1 l2 (l3 + (1 : Int32)) l4 bl0 gq21 gq22 gq23 gq19 gq24 _ h
def k_Lead_isReached_7_4_b0 (F : Nat)  (σ : CS) (l0 : Nat) (l1 : Int32) (l2 : Int32) : Option (Int32) :=
  k_Lead_isReached_7_4_b5 F  F σ l0 l1 l2 ((0 : Int32)) ((0 : Int32))
set_option maxRecDepth 4000 in
theorem k_Lead_isReached_7_4_b0_ok {E : CE} {pF : Nat → List Value → xH → Option (Option Value × xH)} (hp0 : xNPc pF) (hL : lcAll E pF) (hF : lcF pF) {d : Nat} {F : Nat}   : ∀ (g : CG) (lv : xL) (σ : CS) (l0 : Nat) (l1 : Int32) (l2 : Int32), (cob σ 7 l0) → (xg lv 0 = some (.ref (caa E 7 l0 4))) → (xg lv 1 = some (.int l1)) → (xg lv 2 = some (.int l2)) → ∀ res, k_Lead_isReached_7_4_b0 F  σ l0 l1 l2 = some res → cR E cQ1 pF (d + 1) kT56 7 5 (some FieldType.boolean) (some (.int res)) σ g σ (0, lv, []) := by
  intro g lv σ l0 l1 l2 bl0 g0 g1 g2 res h
  unfold k_Lead_isReached_7_4_b0 at h
  refine cR_lift (fun _ _ kk => eE_iconst (v := 0) lk56_0 (by decide) kk) ?_
  refine cR_stI (j := 3) lk56_1 (Or.inr ⟨_, rfl, rfl⟩) (by decide) (fun vq25 gq26 kq27 => ?_)
  have gq28 := kq27 0 _ (by decide) (fun e => absurd e (by decide)) g0
  have gq29 := kq27 1 _ (by decide) (fun e => absurd e (by decide)) g1
  have gq30 := kq27 2 _ (by decide) (fun _ => rfl) g2
  refine cR_lift (fun _ _ kk => eE_iconst (v := 0) lk56_2 (by decide) kk) ?_
  refine cR_stI (j := 4) lk56_3 (Or.inl rfl) (by decide) (fun vq31 gq32 kq33 => ?_)
  have gq34 := kq33 0 _ (by decide) (fun e => absurd e (by decide)) gq28
  have gq35 := kq33 1 _ (by decide) (fun e => absurd e (by decide)) gq29
  have gq36 := kq33 2 _ (by decide) (fun e => absurd e (by decide)) gq30
  have gq37 := kq33 3 _ (by decide) (fun _ => rfl) gq26
  exact k_Lead_isReached_7_4_b5_ok hp0 hL hF  F g vq31 σ l0 l1 l2 ((0 : Int32)) ((0 : Int32)) bl0 gq34 gq35 gq36 gq37 gq32 _ h
def k_Lead_isReached_7_4 (F : Nat) (σ : CS) (l0 : Nat) (l1 : Int32) (l2 : Int32) : Option (Int32) := k_Lead_isReached_7_4_b0 F σ l0 l1 l2
theorem k_Lead_isReached_7_4_ok {E : CE} {pF : Nat → List Value → xH → Option (Option Value × xH)} (hp0 : xNPc pF) (hL : lcAll E pF) (hF : lcF pF) {d : Nat} {g : CG} {σ : CS} {F : Nat} {l0 : Nat} {l1 : Int32} {l2 : Int32} {res : Int32} (bl0 : cob σ 7 l0) (h : k_Lead_isReached_7_4 F σ l0 l1 l2 = some res) : cCo E cQ1 pF (d + 2) 56 [.ref (caa E 7 l0 4), .int l1, .int l2] (some (.int res)) σ g σ :=
  cCo_R kk_56 mo_56 ni_56 xm_56 (Nat.le_of_ble_eq_true rfl) (hp0 56 (by decide) _) (k_Lead_isReached_7_4_b0_ok hp0 hL hF g _ σ l0 l1 l2 bl0 rfl rfl rfl _ h)
/-! k_Lead_mostOf_7_4 (58), depth 3 -/
def k_Lead_mostOf_7_4_b41 (F : Nat) (K5 : CS → Nat → Int32 → Int32 → Int32 → Option (Int32)) (σ : CS) (l0 : Nat) (l1 : Int32) (l2 : Int32) (l3 : Int32) : Option (Int32) :=
  K5 σ l0 l1 l2 (l3 + (1 : Int32))
set_option maxRecDepth 4000 in
theorem k_Lead_mostOf_7_4_b41_ok {E : CE} {pF : Nat → List Value → xH → Option (Option Value × xH)} (hp0 : xNPc pF) (hL : lcAll E pF) (hF : lcF pF) {d : Nat} {F : Nat} {K5 : CS → Nat → Int32 → Int32 → Int32 → Option (Int32)} (hK5 : ∀ (g : CG) (lv : xL) (σ : CS) (l0 : Nat) (l1 : Int32) (l2 : Int32) (l3 : Int32), (cob σ 7 l0) → (xg lv 0 = some (.ref (caa E 7 l0 4))) → (xg lv 1 = some (.int l1)) → (xg lv 2 = some (.int l2)) → (xg lv 3 = some (.int l3)) → ∀ res, K5 σ l0 l1 l2 l3 = some res → cR E cQ1 pF (d + 2) kT58 7 4 (some FieldType.int) (some (.int res)) σ g σ (5, lv, [])) : ∀ (g : CG) (lv : xL) (σ : CS) (l0 : Nat) (l1 : Int32) (l2 : Int32) (l3 : Int32), (cob σ 7 l0) → (xg lv 0 = some (.ref (caa E 7 l0 4))) → (xg lv 1 = some (.int l1)) → (xg lv 2 = some (.int l2)) → (xg lv 3 = some (.int l3)) → ∀ res, k_Lead_mostOf_7_4_b41 F K5 σ l0 l1 l2 l3 = some res → cR E cQ1 pF (d + 2) kT58 7 4 (some FieldType.int) (some (.int res)) σ g σ (41, lv, []) := by
  intro g lv σ l0 l1 l2 l3 bl0 g0 g1 g2 g3 res h
  unfold k_Lead_mostOf_7_4_b41 at h
  refine cR_inc (j := 3) (v := l3 + (1 : Int32)) lk58_41 g3 rfl (by decide) (fun vq1 gq2 kq3 => ?_)
  have gq4 := kq3 0 _ (by decide) (fun e => absurd e (by decide)) g0
  have gq5 := kq3 1 _ (by decide) (fun e => absurd e (by decide)) g1
  have gq6 := kq3 2 _ (by decide) (fun _ => rfl) g2
  refine cR_lift (fun _ _ kk => eE_goto (t := 5) lk58_44 (by decide) kk) ?_
  exact hK5 g vq1 σ l0 l1 l2 (l3 + (1 : Int32)) bl0 gq4 gq5 gq6 gq2 _ h
def k_Lead_mostOf_7_4_b5 (F : Nat)  : Nat → CS → Nat → Int32 → Int32 → Int32 → Option (Int32)
  | 0, _, _, _, _, _ => none
  | n + 1, σ, l0, l1, l2, l3 =>
    let KK := k_Lead_mostOf_7_4_b5 F  n
    if xc2 .ge l3 ((7 : Int32)) = true then (
      some l2
    ) else (
      if xc0 .eq ((l1 >>> (l3 &&& 31)) &&& ((1 : Int32))) = true then (
        k_Lead_mostOf_7_4_b41 F KK σ l0 l1 l2 l3
      ) else (
        (crd σ 7 l0 4 l3).bind fun x9 =>
        if xc2 .le x9 l2 = true then (
          k_Lead_mostOf_7_4_b41 F KK σ l0 l1 l2 l3
        ) else (
          (crd σ 7 l0 4 l3).bind fun x12 =>
          (k_Lead_isReached_7_4 F σ l0 l1 x12).bind fun p14 =>
          if xc0 .eq p14 = true then (
            k_Lead_mostOf_7_4_b41 F KK σ l0 l1 l2 l3
          ) else (
            (crd σ 7 l0 4 l3).bind fun x18 =>
            k_Lead_mostOf_7_4_b41 F KK σ l0 l1 x18 l3
          )
        )
      )
    )
set_option maxRecDepth 4000 in
theorem k_Lead_mostOf_7_4_b5_ok {E : CE} {pF : Nat → List Value → xH → Option (Option Value × xH)} (hp0 : xNPc pF) (hL : lcAll E pF) (hF : lcF pF) {d : Nat} {F : Nat}   : ∀ (n : Nat) (g : CG) (lv : xL) (σ : CS) (l0 : Nat) (l1 : Int32) (l2 : Int32) (l3 : Int32), (cob σ 7 l0) → (xg lv 0 = some (.ref (caa E 7 l0 4))) → (xg lv 1 = some (.int l1)) → (xg lv 2 = some (.int l2)) → (xg lv 3 = some (.int l3)) → ∀ res, k_Lead_mostOf_7_4_b5 F  n σ l0 l1 l2 l3 = some res → cR E cQ1 pF (d + 2) kT58 7 4 (some FieldType.int) (some (.int res)) σ g σ (5, lv, []) := by
  intro n
  induction n with
  | zero => intro g lv σ l0 l1 l2 l3 bl0 g0 g1 g2 g3 res h; simp [k_Lead_mostOf_7_4_b5] at h
  | succ n hKK =>
    intro g lv σ l0 l1 l2 l3 bl0 g0 g1 g2 g3 res h
    unfold k_Lead_mostOf_7_4_b5 at h
    dsimp only at h
    refine cR_lift (fun _ _ kk => eE_iload_n lk58_5 g3 kk) ?_
    refine cR_lift (fun _ _ kk => eE_bipush (v := 7) lk58_6 (by decide) kk) ?_
    refine cR_icmp (t := 47) lk58_8 (by decide) (fun c7 => ?_) (fun c7 => ?_)
    · rw [if_pos c7] at h
      refine cR_lift (fun _ _ kk => eE_iload_n lk58_47 g2 kk) ?_
      cases h
      exact cR_end lk58_48 rfl rfl rfl
    · rw [if_neg c7] at h
      refine cR_lift (fun _ _ kk => eE_iload_n lk58_11 g1 kk) ?_
      refine cR_lift (fun _ _ kk => eE_iload_n lk58_12 g3 kk) ?_
      refine cR_lift (fun _ _ kk => eE_ishr lk58_13 kk) ?_
      refine cR_lift (fun _ _ kk => eE_iconst (v := 1) lk58_14 (by decide) kk) ?_
      refine cR_lift (fun _ _ kk => eE_iand lk58_15 kk) ?_
      refine cR_if (t := 41) lk58_16 (by decide) (fun c8 => ?_) (fun c8 => ?_)
      · rw [if_pos c8] at h
        exact k_Lead_mostOf_7_4_b41_ok hp0 hL hF hKK g lv σ l0 l1 l2 l3 bl0 g0 g1 g2 g3 _ h
      · rw [if_neg c8] at h
        refine cR_lift (fun _ _ kk => eE_aload_n lk58_19 g0 kk) ?_
        refine cR_lift (fun _ _ kk => eE_iload_n lk58_20 g3 kk) ?_
        obtain ⟨x9, h10, h⟩ := Option.bind_eq_some_iff.mp h
        refine cR_iald (cl := 7) (i := l0) (f := 4) lk58_21 (by decide) rfl bl0 h10 ?_
        refine cR_lift (fun _ _ kk => eE_iload_n lk58_22 g2 kk) ?_
        refine cR_icmp (t := 41) lk58_23 (by decide) (fun c11 => ?_) (fun c11 => ?_)
        · rw [if_pos c11] at h
          exact k_Lead_mostOf_7_4_b41_ok hp0 hL hF hKK g lv σ l0 l1 l2 l3 bl0 g0 g1 g2 g3 _ h
        · rw [if_neg c11] at h
          refine cR_lift (fun _ _ kk => eE_aload_n lk58_26 g0 kk) ?_
          refine cR_lift (fun _ _ kk => eE_iload_n lk58_27 g1 kk) ?_
          refine cR_lift (fun _ _ kk => eE_aload_n lk58_28 g0 kk) ?_
          refine cR_lift (fun _ _ kk => eE_iload_n lk58_29 g3 kk) ?_
          obtain ⟨x12, h13, h⟩ := Option.bind_eq_some_iff.mp h
          refine cR_iald (cl := 7) (i := l0) (f := 4) lk58_30 (by decide) rfl bl0 h13 ?_
          obtain ⟨p14, h15, h⟩ := Option.bind_eq_some_iff.mp h
          refine cR_stat (as := [.ref (caa E 7 l0 4), .int l1, .int x12]) lk58_31 mr_7_64 na_56 rfl rfl (by first | exact Nat.le_of_ble_eq_true rfl | (simp [xcat, cvo_cat, cat_i, cat_j, cat_r]; done)) mm_56 ws_56 (k_Lead_isReached_7_4_ok hp0 hL hF (d := d + 0) bl0 h15) (fun m16 => ?_)
          refine cR_if (t := 41) lk58_34 (by decide) (fun c17 => ?_) (fun c17 => ?_)
          · rw [if_pos c17] at h
            exact k_Lead_mostOf_7_4_b41_ok hp0 hL hF hKK g lv σ l0 l1 l2 l3 bl0 g0 g1 g2 g3 _ h
          · rw [if_neg c17] at h
            refine cR_lift (fun _ _ kk => eE_aload_n lk58_37 g0 kk) ?_
            refine cR_lift (fun _ _ kk => eE_iload_n lk58_38 g3 kk) ?_
            obtain ⟨x18, h19, h⟩ := Option.bind_eq_some_iff.mp h
            refine cR_iald (cl := 7) (i := l0) (f := 4) lk58_39 (by decide) rfl bl0 h19 ?_
            refine cR_stI (j := 2) lk58_40 (Or.inr ⟨_, rfl, rfl⟩) (by decide) (fun vq20 gq21 kq22 => ?_)
            have gq23 := kq22 0 _ (by decide) (fun e => absurd e (by decide)) g0
            have gq24 := kq22 1 _ (by decide) (fun _ => rfl) g1
            have gq25 := kq22 3 _ (by decide) (fun e => absurd e (by decide)) g3
            exact k_Lead_mostOf_7_4_b41_ok hp0 hL hF hKK g vq20 σ l0 l1 x18 l3 bl0 gq23 gq24 gq21 gq25 _ h
def k_Lead_mostOf_7_4_b0 (F : Nat)  (σ : CS) (l0 : Nat) (l1 : Int32) : Option (Int32) :=
  k_Lead_mostOf_7_4_b5 F  F σ l0 l1 ((-2147483648 : Int32)) ((0 : Int32))
set_option maxRecDepth 4000 in
theorem k_Lead_mostOf_7_4_b0_ok {E : CE} {pF : Nat → List Value → xH → Option (Option Value × xH)} (hp0 : xNPc pF) (hL : lcAll E pF) (hF : lcF pF) {d : Nat} {F : Nat}   : ∀ (g : CG) (lv : xL) (σ : CS) (l0 : Nat) (l1 : Int32), (cob σ 7 l0) → (xg lv 0 = some (.ref (caa E 7 l0 4))) → (xg lv 1 = some (.int l1)) → ∀ res, k_Lead_mostOf_7_4_b0 F  σ l0 l1 = some res → cR E cQ1 pF (d + 2) kT58 7 4 (some FieldType.int) (some (.int res)) σ g σ (0, lv, []) := by
  intro g lv σ l0 l1 bl0 g0 g1 res h
  unfold k_Lead_mostOf_7_4_b0 at h
  refine cR_lift (fun _ _ kk => eE_ldc (v := (-2147483648)) lk58_0 xc_7_63 kk) ?_
  refine cR_stI (j := 2) lk58_2 (Or.inr ⟨_, rfl, rfl⟩) (by decide) (fun vq26 gq27 kq28 => ?_)
  have gq29 := kq28 0 _ (by decide) (fun e => absurd e (by decide)) g0
  have gq30 := kq28 1 _ (by decide) (fun _ => rfl) g1
  refine cR_lift (fun _ _ kk => eE_iconst (v := 0) lk58_3 (by decide) kk) ?_
  refine cR_stI (j := 3) lk58_4 (Or.inr ⟨_, rfl, rfl⟩) (by decide) (fun vq31 gq32 kq33 => ?_)
  have gq34 := kq33 0 _ (by decide) (fun e => absurd e (by decide)) gq29
  have gq35 := kq33 1 _ (by decide) (fun e => absurd e (by decide)) gq30
  have gq36 := kq33 2 _ (by decide) (fun _ => rfl) gq27
  exact k_Lead_mostOf_7_4_b5_ok hp0 hL hF  F g vq31 σ l0 l1 ((-2147483648 : Int32)) ((0 : Int32)) bl0 gq34 gq35 gq36 gq32 _ h
def k_Lead_mostOf_7_4 (F : Nat) (σ : CS) (l0 : Nat) (l1 : Int32) : Option (Int32) := k_Lead_mostOf_7_4_b0 F σ l0 l1
theorem k_Lead_mostOf_7_4_ok {E : CE} {pF : Nat → List Value → xH → Option (Option Value × xH)} (hp0 : xNPc pF) (hL : lcAll E pF) (hF : lcF pF) {d : Nat} {g : CG} {σ : CS} {F : Nat} {l0 : Nat} {l1 : Int32} {res : Int32} (bl0 : cob σ 7 l0) (h : k_Lead_mostOf_7_4 F σ l0 l1 = some res) : cCo E cQ1 pF (d + 3) 58 [.ref (caa E 7 l0 4), .int l1] (some (.int res)) σ g σ :=
  cCo_R kk_58 mo_58 ni_58 xm_58 (Nat.le_of_ble_eq_true rfl) (hp0 58 (by decide) _) (k_Lead_mostOf_7_4_b0_ok hp0 hL hF g _ σ l0 l1 bl0 rfl rfl _ h)
/-! k_Lead_most_7_4 (57), depth 4 -/
def k_Lead_most_7_4_b34 (F : Nat)  (σ : CS) (s0 : Int32) : Option (Int32) :=
  some s0
set_option maxRecDepth 4000 in
theorem k_Lead_most_7_4_b34_ok {E : CE} {pF : Nat → List Value → xH → Option (Option Value × xH)} (hp0 : xNPc pF) (hL : lcAll E pF) (hF : lcF pF) {d : Nat} {F : Nat}   : ∀ (g : CG) (lv : xL) (σ : CS) (s0 : Int32), ∀ res, k_Lead_most_7_4_b34 F  σ s0 = some res → cR E cQ1 pF (d + 3) kT57 7 4 (some FieldType.int) (some (.int res)) σ g σ (34, lv, [.int s0]) := by
  intro g lv σ s0 res h
  unfold k_Lead_most_7_4_b34 at h
  cases h
  exact cR_end lk57_34 rfl rfl rfl
def k_Lead_most_7_4_b0 (F : Nat)  (σ : CS) (l0 : Nat) (l1 : Int32) : Option (Int32) :=
  (k_Lead_mostOf_7_4 F σ l0 (l1 &&& ((127 : Int32)))).bind fun p1 =>
  if xc0 .ne ((l1 >>> (((7 : Int32)) &&& 31)) &&& ((127 : Int32))) = true then (
    (k_Lead_mostOf_7_4 F σ l0 ((l1 >>> (((7 : Int32)) &&& 31)) &&& ((127 : Int32)))).bind fun p15 =>
    k_Lead_most_7_4_b34 F  σ (cmin p1 p15)
  ) else (
    k_Lead_most_7_4_b34 F  σ p1
  )
set_option maxRecDepth 4000 in
theorem k_Lead_most_7_4_b0_ok {E : CE} {pF : Nat → List Value → xH → Option (Option Value × xH)} (hp0 : xNPc pF) (hL : lcAll E pF) (hF : lcF pF) {d : Nat} {F : Nat}   : ∀ (g : CG) (lv : xL) (σ : CS) (l0 : Nat) (l1 : Int32), (cob σ 7 l0) → (xg lv 0 = some (.ref (caa E 7 l0 4))) → (xg lv 1 = some (.int l1)) → ∀ res, k_Lead_most_7_4_b0 F  σ l0 l1 = some res → cR E cQ1 pF (d + 3) kT57 7 4 (some FieldType.int) (some (.int res)) σ g σ (0, lv, []) := by
  intro g lv σ l0 l1 bl0 g0 g1 res h
  unfold k_Lead_most_7_4_b0 at h
  refine cR_lift (fun _ _ kk => eE_aload_n lk57_0 g0 kk) ?_
  refine cR_lift (fun _ _ kk => eE_iload_n lk57_1 g1 kk) ?_
  refine cR_lift (fun _ _ kk => eE_bipush (v := 127) lk57_2 (by decide) kk) ?_
  refine cR_lift (fun _ _ kk => eE_iand lk57_4 kk) ?_
  obtain ⟨p1, h2, h⟩ := Option.bind_eq_some_iff.mp h
  refine cR_stat (as := [.ref (caa E 7 l0 4), .int (l1 &&& ((127 : Int32)))]) lk57_5 mr_7_53 na_58 rfl rfl (by first | exact Nat.le_of_ble_eq_true rfl | (simp [xcat, cvo_cat, cat_i, cat_j, cat_r]; done)) mm_58 ws_58 (k_Lead_mostOf_7_4_ok hp0 hL hF (d := d + 0) bl0 h2) (fun m3 => ?_)
  refine cR_stI (j := 2) lk57_8 (Or.inr ⟨_, rfl, rfl⟩) (by decide) (fun vq4 gq5 kq6 => ?_)
  have gq7 := kq6 0 _ (by decide) (fun e => absurd e (by decide)) g0
  have gq8 := kq6 1 _ (by decide) (fun _ => rfl) g1
  refine cR_lift (fun _ _ kk => eE_iload_n lk57_9 gq8 kk) ?_
  refine cR_lift (fun _ _ kk => eE_bipush (v := 7) lk57_10 (by decide) kk) ?_
  refine cR_lift (fun _ _ kk => eE_ishr lk57_12 kk) ?_
  refine cR_lift (fun _ _ kk => eE_bipush (v := 127) lk57_13 (by decide) kk) ?_
  refine cR_lift (fun _ _ kk => eE_iand lk57_15 kk) ?_
  refine cR_stI (j := 3) lk57_16 (Or.inr ⟨_, rfl, rfl⟩) (by decide) (fun vq9 gq10 kq11 => ?_)
  have gq12 := kq11 0 _ (by decide) (fun e => absurd e (by decide)) gq7
  have gq13 := kq11 2 _ (by decide) (fun _ => rfl) gq5
  refine cR_lift (fun _ _ kk => eE_iload_n lk57_17 gq10 kk) ?_
  refine cR_if (t := 25) lk57_18 (by decide) (fun c14 => ?_) (fun c14 => ?_)
  · rw [if_pos c14] at h
    refine cR_lift (fun _ _ kk => eE_iload_n lk57_25 gq13 kk) ?_
    refine cR_lift (fun _ _ kk => eE_aload_n lk57_26 gq12 kk) ?_
    refine cR_lift (fun _ _ kk => eE_iload_n lk57_27 gq10 kk) ?_
    obtain ⟨p15, h16, h⟩ := Option.bind_eq_some_iff.mp h
    refine cR_stat (as := [.ref (caa E 7 l0 4), .int ((l1 >>> (((7 : Int32)) &&& 31)) &&& ((127 : Int32)))]) lk57_28 mr_7_53 na_58 rfl rfl (by first | exact Nat.le_of_ble_eq_true rfl | (simp [xcat, cvo_cat, cat_i, cat_j, cat_r]; done)) mm_58 ws_58 (k_Lead_mostOf_7_4_ok hp0 hL hF (d := d + 0) bl0 h16) (fun m17 => ?_)
    refine cR_min lk57_31 mr_7_57 (by first | exact Nat.le_of_ble_eq_true rfl | (simp [xcat, cvo_cat, cat_i, cat_j, cat_r]; done)) ?_
    exact k_Lead_most_7_4_b34_ok hp0 hL hF  g vq9 σ (cmin p1 p15)  _ h
  · rw [if_neg c14] at h
    refine cR_lift (fun _ _ kk => eE_iload_n lk57_21 gq13 kk) ?_
    refine cR_lift (fun _ _ kk => eE_goto (t := 34) lk57_22 (by decide) kk) ?_
    exact k_Lead_most_7_4_b34_ok hp0 hL hF  g vq9 σ p1  _ h
def k_Lead_most_7_4 (F : Nat) (σ : CS) (l0 : Nat) (l1 : Int32) : Option (Int32) := k_Lead_most_7_4_b0 F σ l0 l1
theorem k_Lead_most_7_4_ok {E : CE} {pF : Nat → List Value → xH → Option (Option Value × xH)} (hp0 : xNPc pF) (hL : lcAll E pF) (hF : lcF pF) {d : Nat} {g : CG} {σ : CS} {F : Nat} {l0 : Nat} {l1 : Int32} {res : Int32} (bl0 : cob σ 7 l0) (h : k_Lead_most_7_4 F σ l0 l1 = some res) : cCo E cQ1 pF (d + 4) 57 [.ref (caa E 7 l0 4), .int l1] (some (.int res)) σ g σ :=
  cCo_R kk_57 mo_57 ni_57 xm_57 (Nat.le_of_ble_eq_true rfl) (hp0 57 (by decide) _) (k_Lead_most_7_4_b0_ok hp0 hL hF g _ σ l0 l1 bl0 rfl rfl _ h)
/-! k_Server_letterTo (144), depth 11 -/
def k_Server_letterTo_b0  (σ : CS) (l0 : Nat) (l1 : Int32) (l2 : Int32) : Option ((Nat) × CS) :=
  (k_World_blank σ 0).bind fun p1 =>
  (some (csI p1.2 8 p1.1 2 0 (cI p1.2 13 l0 0 0))).bind fun σ11 =>
  (some (csI σ11 8 p1.1 3 0 l1)).bind fun σ13 =>
  (some (csI σ13 8 p1.1 4 0 l2)).bind fun σ15 =>
  (some (csI σ15 8 p1.1 5 0 (cI σ15 13 l0 10 0))).bind fun σ17 =>
  (some (csI σ17 8 p1.1 6 0 ((0 : Int32)))).bind fun σ19 =>
  (some (csI σ19 8 p1.1 17 0 ((0 : Int32)))).bind fun σ21 =>
  some (p1.1, σ21)
set_option maxRecDepth 4000 in
theorem k_Server_letterTo_b0_ok {E : CE} {pF : Nat → List Value → xH → Option (Option Value × xH)} (hp0 : xNPc pF) (hL : lcAll E pF) (hF : lcF pF) {d : Nat}   : ∀ (g : CG) (lv : xL) (σ : CS) (l0 : Nat) (l1 : Int32) (l2 : Int32), (cob σ 13 l0) → (xg lv 0 = some (.ref (coa E 13 l0))) → (xg lv 1 = some (.int l1)) → (xg lv 2 = some (.int l2)) → ∀ res, k_Server_letterTo_b0  σ l0 l1 l2 = some res → cR E cQ1 pF (d + 10) kT144 13 4 (some (FieldType.object "AgreedStore$Letter")) (some (.ref (coa E 8 res.1))) res.2 g σ (0, lv, []) := by
  intro g lv σ l0 l1 l2 bl0 g0 g1 g2 res h
  unfold k_Server_letterTo_b0 at h
  refine cR_lift (fun _ _ kk => eE_aload_n lk144_0 g0 kk) ?_
  refine cR_getO (cl' := 14) (i' := 0) lk144_1 rf_13_63 rfl rfl bl0 ?_
  obtain ⟨p1, h2, h⟩ := Option.bind_eq_some_iff.mp h
  refine cR_rep (fun _ hc => k_World_blank_lt hc (cob_0 (c := σ) (cl := 14) (by decide) rfl rfl) h2) (fun b3 => ?_)
  refine cR_virt (cl := 14) (i := 0) (as := []) lk144_4 mr_13_332 na_185 rfl rfl (by first | exact Nat.le_of_ble_eq_true rfl | (simp [xcat, cvo_cat, cat_i, cat_j, cat_r]; done)) wv_185 wc_185 (cob_0 (c := σ) (cl := 14) (by decide) rfl rfl) (k_World_blank_ok hp0 hL hF (d := d + 0) (cob_0 (c := σ) (cl := 14) (by decide) rfl rfl) h2) (fun m4  => ?_)
  refine cR_stA (j := 3) lk144_7 (Or.inr ⟨_, rfl, rfl⟩) (by decide) (fun vq5 gq6 kq7 => ?_)
  have gq8 := kq7 0 _ (by decide) (fun e => absurd e (by decide)) g0
  have gq9 := kq7 1 _ (by decide) (fun e => absurd e (by decide)) g1
  have gq10 := kq7 2 _ (by decide) (fun _ => rfl) g2
  refine cR_lift (fun _ _ kk => eE_aload_n lk144_8 gq6 kk) ?_
  refine cR_lift (fun _ _ kk => eE_aload_n lk144_9 gq8 kk) ?_
  refine cR_getI lk144_10 rf_13_60 rfl (cob_any rfl bl0) ?_
  obtain ⟨σ11, h12, h⟩ := Option.bind_eq_some_iff.mp h
  refine cR_putI lk144_13 rf_13_181 rfl b3 pf_8_2 rfl h12 ?_
  refine cR_lift (fun _ _ kk => eE_aload_n lk144_16 gq6 kk) ?_
  refine cR_lift (fun _ _ kk => eE_iload_n lk144_17 gq9 kk) ?_
  obtain ⟨σ13, h14, h⟩ := Option.bind_eq_some_iff.mp h
  refine cR_putI lk144_18 rf_13_336 rfl (cob_mon (cput_mon h12) b3) pf_8_3 rfl h14 ?_
  refine cR_lift (fun _ _ kk => eE_aload_n lk144_21 gq6 kk) ?_
  refine cR_lift (fun _ _ kk => eE_iload_n lk144_22 gq10 kk) ?_
  obtain ⟨σ15, h16, h⟩ := Option.bind_eq_some_iff.mp h
  refine cR_putI lk144_23 rf_13_339 rfl (cob_mon (cput_mon h14) (cob_mon (cput_mon h12) b3)) pf_8_4 rfl h16 ?_
  refine cR_lift (fun _ _ kk => eE_aload_n lk144_26 gq6 kk) ?_
  refine cR_lift (fun _ _ kk => eE_aload_n lk144_27 gq8 kk) ?_
  refine cR_getI lk144_28 rf_13_88 rfl (cob_any rfl bl0) ?_
  obtain ⟨σ17, h18, h⟩ := Option.bind_eq_some_iff.mp h
  refine cR_putI lk144_31 rf_13_342 rfl (cob_mon (cput_mon h16) (cob_mon (cput_mon h14) (cob_mon (cput_mon h12) b3))) pf_8_5 rfl h18 ?_
  refine cR_lift (fun _ _ kk => eE_aload_n lk144_34 gq6 kk) ?_
  refine cR_lift (fun _ _ kk => eE_iconst (v := 0) lk144_35 (by decide) kk) ?_
  obtain ⟨σ19, h20, h⟩ := Option.bind_eq_some_iff.mp h
  refine cR_putI lk144_36 rf_13_343 rfl (cob_mon (cput_mon h18) (cob_mon (cput_mon h16) (cob_mon (cput_mon h14) (cob_mon (cput_mon h12) b3)))) pf_8_6 rfl h20 ?_
  refine cR_lift (fun _ _ kk => eE_aload_n lk144_39 gq6 kk) ?_
  refine cR_lift (fun _ _ kk => eE_iconst (v := 0) lk144_40 (by decide) kk) ?_
  obtain ⟨σ21, h22, h⟩ := Option.bind_eq_some_iff.mp h
  refine cR_putI lk144_41 rf_13_346 rfl (cob_mon (cput_mon h20) (cob_mon (cput_mon h18) (cob_mon (cput_mon h16) (cob_mon (cput_mon h14) (cob_mon (cput_mon h12) b3))))) pf_8_17 rfl h22 ?_
  refine cR_lift (fun _ _ kk => eE_aload_n lk144_44 gq6 kk) ?_
  cases h
  exact cR_end lk144_45 rfl rfl rfl
def k_Server_letterTo (σ : CS) (l0 : Nat) (l1 : Int32) (l2 : Int32) : Option ((Nat) × CS) := k_Server_letterTo_b0 σ l0 l1 l2
theorem k_Server_letterTo_ok {E : CE} {pF : Nat → List Value → xH → Option (Option Value × xH)} (hp0 : xNPc pF) (hL : lcAll E pF) (hF : lcF pF) {d : Nat} {g : CG} {σ : CS} {l0 : Nat} {l1 : Int32} {l2 : Int32} {res : (Nat) × CS} (bl0 : cob σ 13 l0) (h : k_Server_letterTo σ l0 l1 l2 = some res) : cCo E cQ1 pF (d + 11) 144 [.ref (coa E 13 l0), .int l1, .int l2] (some (.ref (coa E 8 res.1))) res.2 g σ :=
  cCo_R kk_144 mo_144 ni_144 xm_144 (Nat.le_of_ble_eq_true rfl) (hp0 144 (by decide) _) (k_Server_letterTo_b0_ok hp0 hL hF g _ σ l0 l1 l2 bl0 rfl rfl rfl _ h)
theorem k_Server_letterTo_lt {E : CE} {g : CG} {σ : CS} {h0 : xH} {l0 : Nat} {l1 l2 : Int32} {res : Nat × CS} (hc : CRep E g σ h0) (_ : cob σ 13 l0) (h : k_Server_letterTo σ l0 l1 l2 = some res) : cob res.2 8 res.1 := by
  unfold k_Server_letterTo k_Server_letterTo_b0 at h
  obtain ⟨p, hp, h⟩ := Option.bind_eq_some_iff.mp h
  have hb := k_World_blank_lt hc (cob_0 (c := σ) (cl := 14) (by decide) rfl rfl) hp
  simp only [Option.bind_some, Option.some.injEq] at h
  subst h
  exact hb
/-! k_Letter_fill_10_10 (60), depth 1 -/
def k_Letter_fill_10_10_b45  (σ : CS) : Option (CS) :=
  some σ
set_option maxRecDepth 4000 in
theorem k_Letter_fill_10_10_b45_ok {E : CE} {pF : Nat → List Value → xH → Option (Option Value × xH)} (hp0 : xNPc pF) (hL : lcAll E pF) (hF : lcF pF) {d : Nat}   : ∀ (g : CG) (lv : xL) (σ : CS), ∀ res, k_Letter_fill_10_10_b45  σ = some res → cR E cQ1 pF (d + 0) kT60 8 4 none none res g σ (45, lv, []) := by
  intro g lv σ res h
  unfold k_Letter_fill_10_10_b45 at h
  cases h
  exact cR_end lk60_45 rfl rfl rfl
def k_Letter_fill_10_10_b0  (σ : CS) (l0 : Nat) (l1 : Nat) (l2 : Int32) (l3 : Int32) : Option (CS) :=
  (some (csI σ 8 l0 17 0 (cmax ((0 : Int32)) (cmin (cmin l3 (Int32.ofNat (cal σ 8 l0 19))) ((Int32.ofNat (cal σ 10 l1 10)) - l2))))).bind fun σ1 =>
  if xc0 .le (cI σ1 8 l0 17 0) = true then (
    k_Letter_fill_10_10_b45  σ1
  ) else (
    (ccpy σ1 10 l1 10 l2 8 l0 19 ((0 : Int32)) (cI σ1 8 l0 17 0)).bind fun σ4 =>
    k_Letter_fill_10_10_b45  σ4
  )
set_option maxRecDepth 4000 in
theorem k_Letter_fill_10_10_b0_ok {E : CE} {pF : Nat → List Value → xH → Option (Option Value × xH)} (hp0 : xNPc pF) (hL : lcAll E pF) (hF : lcF pF) {d : Nat}   : ∀ (g : CG) (lv : xL) (σ : CS) (l0 : Nat) (l1 : Nat) (l2 : Int32) (l3 : Int32), (cob σ 8 l0) → (cob σ 10 l1) → (xg lv 0 = some (.ref (coa E 8 l0))) → (xg lv 1 = some (.ref (caa E 10 l1 10))) → (xg lv 2 = some (.int l2)) → (xg lv 3 = some (.int l3)) → ∀ res, k_Letter_fill_10_10_b0  σ l0 l1 l2 l3 = some res → cR E cQ1 pF (d + 0) kT60 8 4 none none res g σ (0, lv, []) := by
  intro g lv σ l0 l1 l2 l3 bl0 bl1 g0 g1 g2 g3 res h
  unfold k_Letter_fill_10_10_b0 at h
  refine cR_lift (fun _ _ kk => eE_aload_n lk60_0 g0 kk) ?_
  refine cR_lift (fun _ _ kk => eE_iconst (v := 0) lk60_1 (by decide) kk) ?_
  refine cR_lift (fun _ _ kk => eE_iload_n lk60_2 g3 kk) ?_
  refine cR_lift (fun _ _ kk => eE_aload_n lk60_3 g0 kk) ?_
  refine cR_getA lk60_4 rf_8_15 (by decide) bl0 ?_
  refine cR_alen (cl := 8) (i := l0) (f := 19) lk60_7 (by decide) (by decide) bl0 ?_
  refine cR_min lk60_8 mr_8_74 (by first | exact Nat.le_of_ble_eq_true rfl | (simp [xcat, cvo_cat, cat_i, cat_j, cat_r]; done)) ?_
  refine cR_lift (fun _ _ kk => eE_aload_n lk60_11 g1 kk) ?_
  refine cR_alen (cl := 10) (i := l1) (f := 10) lk60_12 (by decide) (by decide) bl1 ?_
  refine cR_lift (fun _ _ kk => eE_iload_n lk60_13 g2 kk) ?_
  refine cR_lift (fun _ _ kk => eE_isub lk60_14 kk) ?_
  refine cR_min lk60_15 mr_8_74 (by first | exact Nat.le_of_ble_eq_true rfl | (simp [xcat, cvo_cat, cat_i, cat_j, cat_r]; done)) ?_
  refine cR_max lk60_18 mr_8_80 (by first | exact Nat.le_of_ble_eq_true rfl | (simp [xcat, cvo_cat, cat_i, cat_j, cat_r]; done)) ?_
  obtain ⟨σ1, h2, h⟩ := Option.bind_eq_some_iff.mp h
  refine cR_putI lk60_21 rf_8_65 rfl bl0 pf_8_17 rfl h2 ?_
  refine cR_lift (fun _ _ kk => eE_aload_n lk60_24 g0 kk) ?_
  refine cR_getI lk60_25 rf_8_65 rfl (cob_mon (cput_mon h2) bl0) ?_
  refine cR_if (t := 45) lk60_28 (by decide) (fun c3 => ?_) (fun c3 => ?_)
  · rw [if_pos c3] at h
    exact k_Letter_fill_10_10_b45_ok hp0 hL hF  g lv σ1  _ h
  · rw [if_neg c3] at h
    refine cR_lift (fun _ _ kk => eE_aload_n lk60_31 g1 kk) ?_
    refine cR_lift (fun _ _ kk => eE_iload_n lk60_32 g2 kk) ?_
    refine cR_lift (fun _ _ kk => eE_aload_n lk60_33 g0 kk) ?_
    refine cR_getA lk60_34 rf_8_15 (by decide) (cob_mon (cput_mon h2) bl0) ?_
    refine cR_lift (fun _ _ kk => eE_iconst (v := 0) lk60_37 (by decide) kk) ?_
    refine cR_lift (fun _ _ kk => eE_aload_n lk60_38 g0 kk) ?_
    refine cR_getI lk60_39 rf_8_65 rfl (cob_mon (cput_mon h2) bl0) ?_
    obtain ⟨σ4, h5, h⟩ := Option.bind_eq_some_iff.mp h
    refine cR_cpy (a := 10) (i := l1) (f := 10) (a' := 8) (i' := l0) (f' := 19) lk60_42 yc_8_68.1 yc_8_68.2 (by decide) (by decide) (by decide) (cob_any rfl bl1) (cob_mon (cput_mon h2) bl0) (by first | exact Nat.le_of_ble_eq_true rfl | (simp [xcat, cvo_cat, cat_i, cat_j, cat_r]; done)) h5 ?_
    exact k_Letter_fill_10_10_b45_ok hp0 hL hF  g lv σ4  _ h
def k_Letter_fill_10_10 (σ : CS) (l0 : Nat) (l1 : Nat) (l2 : Int32) (l3 : Int32) : Option (CS) := k_Letter_fill_10_10_b0 σ l0 l1 l2 l3
theorem k_Letter_fill_10_10_ok {E : CE} {pF : Nat → List Value → xH → Option (Option Value × xH)} (hp0 : xNPc pF) (hL : lcAll E pF) (hF : lcF pF) {d : Nat} {g : CG} {σ : CS} {l0 : Nat} {l1 : Nat} {l2 : Int32} {l3 : Int32} {res : CS} (bl0 : cob σ 8 l0) (bl1 : cob σ 10 l1) (h : k_Letter_fill_10_10 σ l0 l1 l2 l3 = some res) : cCo E cQ1 pF (d + 1) 60 [.ref (coa E 8 l0), .ref (caa E 10 l1 10), .int l2, .int l3] none res g σ :=
  cCo_R kk_60 mo_60 ni_60 xm_60 (Nat.le_of_ble_eq_true rfl) (hp0 60 (by decide) _) (k_Letter_fill_10_10_b0_ok hp0 hL hF g _ σ l0 l1 l2 l3 bl0 bl1 rfl rfl rfl rfl _ h)
/-! k_Server_dispatch (132), depth 12 -/
def k_Server_dispatch_b54 (F : Nat)  (σ : CS) : Option (CS) :=
  some σ
set_option maxRecDepth 4000 in
theorem k_Server_dispatch_b54_ok {E : CE} {pF : Nat → List Value → xH → Option (Option Value × xH)} (hp0 : xNPc pF) (hL : lcAll E pF) (hF : lcF pF) {d : Nat} {F : Nat}   : ∀ (g : CG) (lv : xL) (σ : CS), ∀ res, k_Server_dispatch_b54 F  σ = some res → cR E (cQx [13, 14]) pF (d + 11) kT132 13 2 none none res g σ (54, lv, []) := by
  intro g lv σ res h
  unfold k_Server_dispatch_b54 at h
  cases h
  exact cR_end lk132_54 rfl rfl rfl
def k_Server_dispatch_b0 (F : Nat)  (σ : CS) (l0 : Nat) (l1 : Nat) : Option (CS) :=
  if xc0 .ne (cI σ 13 l0 9 0) = true then (
    if xc2 .ge (clsz σ 13 l0 7) ((32 : Int32)) = true then (
      (cladd σ 14 0 16 l1).bind fun σ4 =>
      k_Server_dispatch_b54 F  σ4
    ) else (
      (cladd σ 13 l0 7 l1).bind fun σ7 =>
      k_Server_dispatch_b54 F  σ7
    )
  ) else (
    (k_World_post F σ 0 l1).bind fun p9 =>
    k_Server_dispatch_b54 F  p9
  )
set_option maxRecDepth 4000 in
theorem k_Server_dispatch_b0_ok {E : CE} {pF : Nat → List Value → xH → Option (Option Value × xH)} (hp0 : xNPc pF) (hL : lcAll E pF) (hF : lcF pF) {d : Nat} {F : Nat}   : ∀ (g : CG) (lv : xL) (σ : CS) (l0 : Nat) (l1 : Nat), (cob σ 13 l0) → (cob σ 8 l1) → (xg lv 0 = some (.ref (coa E 13 l0))) → (xg lv 1 = some (.ref (coa E 8 l1))) → ∀ res, k_Server_dispatch_b0 F  σ l0 l1 = some res → cR E (cQx [13, 14]) pF (d + 11) kT132 13 2 none none res g σ (0, lv, []) := by
  intro g lv σ l0 l1 bl0 bl1 g0 g1 res h
  unfold k_Server_dispatch_b0 at h
  refine cR_lift (fun _ _ kk => eE_aload_n lk132_0 g0 kk) ?_
  refine cR_getI lk132_1 rf_13_115 rfl bl0 ?_
  refine cR_if (t := 18) lk132_4 (by decide) (fun c1 => ?_) (fun c1 => ?_)
  · rw [if_pos c1] at h
    refine cR_lift (fun _ _ kk => eE_aload_n lk132_18 g0 kk) ?_
    refine cR_getA lk132_19 rf_13_35 (by decide) bl0 ?_
    refine cR_virtL (cl := 13) (i := l0) (f := 7) (as := []) lk132_22 mr_13_121 na_14 rfl rfl (by first | exact Nat.le_of_ble_eq_true rfl | (simp [xcat, cvo_cat, cat_i, cat_j, cat_r]; done)) wv_14 wc_14 rfl bl0 ((hL (d + 2)).1 E g _ 13 l0 7 rfl bl0) (fun _ => ?_)
    refine cR_lift (fun _ _ kk => eE_bipush (v := 32) lk132_25 (by decide) kk) ?_
    refine cR_icmp (t := 42) lk132_27 (by decide) (fun c2 => ?_) (fun c2 => ?_)
    · rw [if_pos c2] at h
      refine cR_lift (fun _ _ kk => eE_aload_n lk132_42 g0 kk) ?_
      refine cR_getO (cl' := 14) (i' := 0) lk132_43 rf_13_63 rfl rfl bl0 ?_
      refine cR_getA lk132_46 rf_13_201 (by decide) (cob_0 (c := σ) (cl := 14) (by decide) rfl rfl) ?_
      refine cR_lift (fun _ _ kk => eE_aload_n lk132_49 g1 kk) ?_
      obtain ⟨σ4, h5, h⟩ := Option.bind_eq_some_iff.mp h
      refine cR_virtLG (by exact cQx_sub rfl) (cl := 14) (i := 0) (f := 16) (as := [.ref l1]) lk132_50 mr_13_210 na_2 rfl rfl (by first | exact Nat.le_of_ble_eq_true rfl | (simp [xcat, cvo_cat, cat_i, cat_j, cat_r]; done)) wv_2 wc_2 rfl (cob_0 (c := σ) (cl := 14) (by decide) rfl rfl) ((hL (d + 2)).2.2.2.1 E g _ 14 0 16 l1 _ rfl rfl (cob_0 (c := σ) (cl := 14) (by decide) rfl rfl) (clt8 bl1) h5) (fun _ g_3 g_3e => ?_)
      refine cR_lift (fun _ _ kk => eE_pop lk132_53 rfl kk) ?_
      exact k_Server_dispatch_b54_ok hp0 hL hF  g_3 lv σ4  _ h
    · rw [if_neg c2] at h
      refine cR_lift (fun _ _ kk => eE_aload_n lk132_30 g0 kk) ?_
      refine cR_getA lk132_31 rf_13_35 (by decide) bl0 ?_
      refine cR_lift (fun _ _ kk => eE_aload_n lk132_34 g1 kk) ?_
      obtain ⟨σ7, h8, h⟩ := Option.bind_eq_some_iff.mp h
      refine cR_virtLG (by exact cQx_sub rfl) (cl := 13) (i := l0) (f := 7) (as := [.ref l1]) lk132_35 mr_13_210 na_2 rfl rfl (by first | exact Nat.le_of_ble_eq_true rfl | (simp [xcat, cvo_cat, cat_i, cat_j, cat_r]; done)) wv_2 wc_2 rfl bl0 ((hL (d + 2)).2.2.2.1 E g _ 13 l0 7 l1 _ rfl rfl bl0 (clt8 bl1) h8) (fun _ g_6 g_6e => ?_)
      refine cR_lift (fun _ _ kk => eE_pop lk132_38 rfl kk) ?_
      refine cR_lift (fun _ _ kk => eE_goto (t := 54) lk132_39 (by decide) kk) ?_
      exact k_Server_dispatch_b54_ok hp0 hL hF  g_6 lv σ7  _ h
  · rw [if_neg c1] at h
    refine cR_lift (fun _ _ kk => eE_aload_n lk132_7 g0 kk) ?_
    refine cR_getO (cl' := 14) (i' := 0) lk132_8 rf_13_63 rfl rfl bl0 ?_
    refine cR_lift (fun _ _ kk => eE_aload_n lk132_11 g1 kk) ?_
    obtain ⟨p9, h10, h⟩ := Option.bind_eq_some_iff.mp h
    refine cR_virtG (by exact cQx_sub rfl) (cl := 14) (i := 0) (as := [.ref (coa E 8 l1)]) lk132_12 mr_13_347 na_199 rfl rfl (by first | exact Nat.le_of_ble_eq_true rfl | (simp [xcat, cvo_cat, cat_i, cat_j, cat_r]; done)) wv_199 wc_199 (cob_0 (c := σ) (cl := 14) (by decide) rfl rfl) (k_World_post_ok hp0 hL hF (d := d + 0) (cob_0 (c := σ) (cl := 14) (by decide) rfl rfl) bl1 h10) (fun m11 g_12 g_12e => ?_)
    refine cR_lift (fun _ _ kk => eE_goto (t := 54) lk132_15 (by decide) kk) ?_
    exact k_Server_dispatch_b54_ok hp0 hL hF  g_12 lv p9  _ h
def k_Server_dispatch (F : Nat) (σ : CS) (l0 : Nat) (l1 : Nat) : Option (CS) := k_Server_dispatch_b0 F σ l0 l1
theorem k_Server_dispatch_ok {E : CE} {pF : Nat → List Value → xH → Option (Option Value × xH)} (hp0 : xNPc pF) (hL : lcAll E pF) (hF : lcF pF) {d : Nat} {g : CG} {σ : CS} {F : Nat} {l0 : Nat} {l1 : Nat} {res : CS} (bl0 : cob σ 13 l0) (bl1 : cob σ 8 l1) (h : k_Server_dispatch F σ l0 l1 = some res) : cCo E (cQx [13, 14]) pF (d + 12) 132 [.ref (coa E 13 l0), .ref (coa E 8 l1)] none res g σ :=
  cCo_R kk_132 mo_132 ni_132 xm_132 (Nat.le_of_ble_eq_true rfl) (hp0 132 (by decide) _) (k_Server_dispatch_b0_ok hp0 hL hF g _ σ l0 l1 bl0 bl1 rfl rfl _ h)
/-! k_Server_reply (155), depth 13 -/
def k_Server_reply_b0 (F : Nat)  (σ : CS) (l0 : Nat) (l1 : Int32) (l2 : Int32) (l3 : Int32) (l4 : Int32) (l5 : Int32) : Option (CS) :=
  (k_Server_letterTo σ l0 l1 ((11 : Int32))).bind fun p1 =>
  (some (csI p1.2 8 p1.1 5 0 l2)).bind fun σ13 =>
  (some (csI σ13 8 p1.1 6 0 l3)).bind fun σ15 =>
  (some (csI σ15 8 p1.1 7 0 l4)).bind fun σ17 =>
  (k_Letter_fill_10_10 σ17 p1.1 l0 ((0 : Int32)) l5).bind fun p19 =>
  (k_Server_dispatch F p19 l0 p1.1).bind fun p22 =>
  some p22
set_option maxRecDepth 4000 in
theorem k_Server_reply_b0_ok {E : CE} {pF : Nat → List Value → xH → Option (Option Value × xH)} (hp0 : xNPc pF) (hL : lcAll E pF) (hF : lcF pF) {d : Nat} {F : Nat}   : ∀ (g : CG) (lv : xL) (σ : CS) (l0 : Nat) (l1 : Int32) (l2 : Int32) (l3 : Int32) (l4 : Int32) (l5 : Int32), (cob σ 13 l0) → (xg lv 0 = some (.ref (coa E 13 l0))) → (xg lv 1 = some (.int l1)) → (xg lv 2 = some (.int l2)) → (xg lv 3 = some (.int l3)) → (xg lv 4 = some (.int l4)) → (xg lv 5 = some (.int l5)) → ∀ res, k_Server_reply_b0 F  σ l0 l1 l2 l3 l4 l5 = some res → cR E (cQx [13, 14]) pF (d + 12) kT155 13 7 none none res g σ (0, lv, []) := by
  intro g lv σ l0 l1 l2 l3 l4 l5 bl0 g0 g1 g2 g3 g4 g5 res h
  unfold k_Server_reply_b0 at h
  refine cR_lift (fun _ _ kk => eE_aload_n lk155_0 g0 kk) ?_
  refine cR_lift (fun _ _ kk => eE_iload_n lk155_1 g1 kk) ?_
  refine cR_lift (fun _ _ kk => eE_bipush (v := 11) lk155_2 (by decide) kk) ?_
  obtain ⟨p1, h2, h⟩ := Option.bind_eq_some_iff.mp h
  refine cR_rep (fun _ hc => k_Server_letterTo_lt hc bl0 h2) (fun b3 => ?_)
  refine cR_virt (cl := 13) (i := l0) (as := [.int l1, .int ((11 : Int32))]) lk155_4 mr_13_351 na_144 rfl rfl (by first | exact Nat.le_of_ble_eq_true rfl | (simp [xcat, cvo_cat, cat_i, cat_j, cat_r]; done)) wv_144 wc_144 bl0 (k_Server_letterTo_ok hp0 hL hF (d := d + 1) bl0 h2) (fun m4  => ?_)
  refine cR_stA (j := 6) lk155_7 (Or.inl rfl) (by decide) (fun vq5 gq6 kq7 => ?_)
  have gq8 := kq7 0 _ (by decide) (fun e => absurd e (by decide)) g0
  have gq9 := kq7 2 _ (by decide) (fun e => absurd e (by decide)) g2
  have gq10 := kq7 3 _ (by decide) (fun e => absurd e (by decide)) g3
  have gq11 := kq7 4 _ (by decide) (fun e => absurd e (by decide)) g4
  have gq12 := kq7 5 _ (by decide) (fun _ => rfl) g5
  refine cR_lift (fun _ _ kk => eE_aload lk155_9 gq6 kk) ?_
  refine cR_lift (fun _ _ kk => eE_iload_n lk155_11 gq9 kk) ?_
  obtain ⟨σ13, h14, h⟩ := Option.bind_eq_some_iff.mp h
  refine cR_putI lk155_12 rf_13_342 rfl b3 pf_8_5 rfl h14 ?_
  refine cR_lift (fun _ _ kk => eE_aload lk155_15 gq6 kk) ?_
  refine cR_lift (fun _ _ kk => eE_iload_n lk155_17 gq10 kk) ?_
  obtain ⟨σ15, h16, h⟩ := Option.bind_eq_some_iff.mp h
  refine cR_putI lk155_18 rf_13_343 rfl (cob_mon (cput_mon h14) b3) pf_8_6 rfl h16 ?_
  refine cR_lift (fun _ _ kk => eE_aload lk155_21 gq6 kk) ?_
  refine cR_lift (fun _ _ kk => eE_iload lk155_23 gq11 kk) ?_
  obtain ⟨σ17, h18, h⟩ := Option.bind_eq_some_iff.mp h
  refine cR_putI lk155_25 rf_13_189 rfl (cob_mon (cput_mon h16) (cob_mon (cput_mon h14) b3)) pf_8_7 rfl h18 ?_
  refine cR_lift (fun _ _ kk => eE_aload lk155_28 gq6 kk) ?_
  refine cR_lift (fun _ _ kk => eE_aload_n lk155_30 gq8 kk) ?_
  refine cR_getO (cl' := 10) (i' := l0) lk155_31 rf_13_81 rfl rfl (cob_any rfl bl0) ?_
  refine cR_getA lk155_34 rf_13_355 (by decide) (cob_s (cl := 10) (cob_any rfl bl0) (by decide) rfl rfl) ?_
  refine cR_lift (fun _ _ kk => eE_iconst (v := 0) lk155_37 (by decide) kk) ?_
  refine cR_lift (fun _ _ kk => eE_iload lk155_38 gq12 kk) ?_
  obtain ⟨p19, h20, h⟩ := Option.bind_eq_some_iff.mp h
  refine cR_virt (cl := 8) (i := p1.1) (as := [.ref (caa E 10 l0 10), .int ((0 : Int32)), .int l5]) lk155_40 mr_13_358 na_60 rfl rfl (by first | exact Nat.le_of_ble_eq_true rfl | (simp [xcat, cvo_cat, cat_i, cat_j, cat_r]; done)) wv_60 wc_60 (cob_mon (cput_mon h18) (cob_mon (cput_mon h16) (cob_mon (cput_mon h14) b3))) (k_Letter_fill_10_10_ok hp0 hL hF (d := d + 11) (cob_mon (cput_mon h18) (cob_mon (cput_mon h16) (cob_mon (cput_mon h14) b3))) (cob_s (cl := 10) (cob_any rfl bl0) (by decide) rfl rfl) h20) (fun m21  => ?_)
  refine cR_lift (fun _ _ kk => eE_aload_n lk155_43 gq8 kk) ?_
  refine cR_lift (fun _ _ kk => eE_aload lk155_44 gq6 kk) ?_
  obtain ⟨p22, h23, h⟩ := Option.bind_eq_some_iff.mp h
  refine cR_virtG (by exact cQx_sub rfl) (cl := 13) (i := l0) (as := [.ref (coa E 8 p1.1)]) lk155_46 mr_13_362 na_132 rfl rfl (by first | exact Nat.le_of_ble_eq_true rfl | (simp [xcat, cvo_cat, cat_i, cat_j, cat_r]; done)) wv_132 wc_132 (cob_any rfl bl0) (k_Server_dispatch_ok hp0 hL hF (d := d + 0) (cob_any rfl bl0) (cob_mon m21 (cob_mon (cput_mon h18) (cob_mon (cput_mon h16) (cob_mon (cput_mon h14) b3)))) h23) (fun m24 g_25 g_25e => ?_)
  cases h
  exact cR_end lk155_49 rfl rfl rfl
def k_Server_reply (F : Nat) (σ : CS) (l0 : Nat) (l1 : Int32) (l2 : Int32) (l3 : Int32) (l4 : Int32) (l5 : Int32) : Option (CS) := k_Server_reply_b0 F σ l0 l1 l2 l3 l4 l5
theorem k_Server_reply_ok {E : CE} {pF : Nat → List Value → xH → Option (Option Value × xH)} (hp0 : xNPc pF) (hL : lcAll E pF) (hF : lcF pF) {d : Nat} {g : CG} {σ : CS} {F : Nat} {l0 : Nat} {l1 : Int32} {l2 : Int32} {l3 : Int32} {l4 : Int32} {l5 : Int32} {res : CS} (bl0 : cob σ 13 l0) (h : k_Server_reply F σ l0 l1 l2 l3 l4 l5 = some res) : cCo E (cQx [13, 14]) pF (d + 13) 155 [.ref (coa E 13 l0), .int l1, .int l2, .int l3, .int l4, .int l5] none res g σ :=
  cCo_R kk_155 mo_155 ni_155 xm_155 (Nat.le_of_ble_eq_true rfl) (hp0 155 (by decide) _) (k_Server_reply_b0_ok hp0 hL hF g _ σ l0 l1 l2 l3 l4 l5 bl0 rfl rfl rfl rfl rfl rfl _ h)
/-! k_Server_answerReads (121), depth 14 -/
def k_Server_answerReads_b18 (F : Nat)  (σ : CS) : Option (CS) :=
  some σ
set_option maxRecDepth 4000 in
theorem k_Server_answerReads_b18_ok {E : CE} {pF : Nat → List Value → xH → Option (Option Value × xH)} (hp0 : xNPc pF) (hL : lcAll E pF) (hF : lcF pF) {d : Nat} {F : Nat}   : ∀ (g : CG) (lv : xL) (σ : CS), ∀ res, k_Server_answerReads_b18 F  σ = some res → cR E (cQx [13, 14]) pF (d + 13) kT121 13 5 none none res g σ (18, lv, []) := by
  intro g lv σ res h
  unfold k_Server_answerReads_b18 at h
  cases h
  exact cR_end lk121_18 rfl rfl rfl
def k_Server_answerReads_b198 (F : Nat) (K52 : CS → Nat → Int32 → Int32 → Option (CS)) (σ : CS) (l0 : Nat) (l1 : Int32) (l2 : Int32) : Option (CS) :=
  K52 σ l0 l1 (l2 + (1 : Int32))
set_option maxRecDepth 4000 in
theorem k_Server_answerReads_b198_ok {E : CE} {pF : Nat → List Value → xH → Option (Option Value × xH)} (hp0 : xNPc pF) (hL : lcAll E pF) (hF : lcF pF) {d : Nat} {F : Nat} {K52 : CS → Nat → Int32 → Int32 → Option (CS)} (hK52 : ∀ (g : CG) (lv : xL) (σ : CS) (l0 : Nat) (l1 : Int32) (l2 : Int32), (cob σ 13 l0) → (xg lv 0 = some (.ref (coa E 13 l0))) → (xg lv 1 = some (.int l1)) → (xg lv 2 = some (.int l2)) → ∀ res, K52 σ l0 l1 l2 = some res → cR E (cQx [13, 14]) pF (d + 13) kT121 13 5 none none res g σ (52, lv, [])) : ∀ (g : CG) (lv : xL) (σ : CS) (l0 : Nat) (l1 : Int32) (l2 : Int32), (cob σ 13 l0) → (xg lv 0 = some (.ref (coa E 13 l0))) → (xg lv 1 = some (.int l1)) → (xg lv 2 = some (.int l2)) → ∀ res, k_Server_answerReads_b198 F K52 σ l0 l1 l2 = some res → cR E (cQx [13, 14]) pF (d + 13) kT121 13 5 none none res g σ (198, lv, []) := by
  intro g lv σ l0 l1 l2 bl0 g0 g1 g2 res h
  unfold k_Server_answerReads_b198 at h
  refine cR_inc (j := 2) (v := l2 + (1 : Int32)) lk121_198 g2 rfl (by decide) (fun vq1 gq2 kq3 => ?_)
  have gq4 := kq3 0 _ (by decide) (fun e => absurd e (by decide)) g0
  have gq5 := kq3 1 _ (by decide) (fun _ => rfl) g1
  refine cR_lift (fun _ _ kk => eE_goto (t := 52) lk121_201 (by decide) kk) ?_
  exact hK52 g vq1 σ l0 l1 (l2 + (1 : Int32)) bl0 gq4 gq5 gq2 _ h
def k_Server_answerReads_b98 (F : Nat) (K52 : CS → Nat → Int32 → Int32 → Option (CS)) (σ : CS) (s0 : Int32) (l0 : Nat) (l1 : Int32) (l2 : Int32) (l3 : Int32) : Option (CS) :=
  if xc0 .eq s0 = true then (
    k_Server_answerReads_b198 F K52 σ l0 l1 l2
  ) else (
    (crd σ 12 l0 4 l3).bind fun x14 =>
    if xc2 .gt x14 (cI σ 9 l0 10 0) = true then (
      k_Server_answerReads_b198 F K52 σ l0 l1 l2
    ) else (
      (crd σ 12 l0 6 l3).bind fun x17 =>
      if xc2 .gt x17 l1 = true then (
        k_Server_answerReads_b198 F K52 σ l0 l1 l2
      ) else (
        (k_Requests_drop σ l0 l3).bind fun p20 =>
        (crd p20 12 l0 3 l3).bind fun x23 =>
        (k_Machine_look F p20 l0 x23).bind fun p25 =>
        (crd p25 12 l0 1 l3).bind fun x28 =>
        (crd p25 12 l0 2 l3).bind fun x30 =>
        (k_Server_reply F p25 l0 x28 x30 ((0 : Int32)) (cI p25 9 l0 10 0) (cI p25 10 l0 11 0)).bind fun p32 =>
        k_Server_answerReads_b198 F K52 p32 l0 l1 l2
      )
    )
  )
set_option maxRecDepth 4000 in
theorem k_Server_answerReads_b98_ok {E : CE} {pF : Nat → List Value → xH → Option (Option Value × xH)} (hp0 : xNPc pF) (hL : lcAll E pF) (hF : lcF pF) {d : Nat} {F : Nat} {K52 : CS → Nat → Int32 → Int32 → Option (CS)} (hK52 : ∀ (g : CG) (lv : xL) (σ : CS) (l0 : Nat) (l1 : Int32) (l2 : Int32), (cob σ 13 l0) → (xg lv 0 = some (.ref (coa E 13 l0))) → (xg lv 1 = some (.int l1)) → (xg lv 2 = some (.int l2)) → ∀ res, K52 σ l0 l1 l2 = some res → cR E (cQx [13, 14]) pF (d + 13) kT121 13 5 none none res g σ (52, lv, [])) : ∀ (g : CG) (lv : xL) (σ : CS) (s0 : Int32) (l0 : Nat) (l1 : Int32) (l2 : Int32) (l3 : Int32), (cob σ 13 l0) → (xg lv 0 = some (.ref (coa E 13 l0))) → (xg lv 1 = some (.int l1)) → (xg lv 2 = some (.int l2)) → (xg lv 3 = some (.int l3)) → ∀ res, k_Server_answerReads_b98 F K52 σ s0 l0 l1 l2 l3 = some res → cR E (cQx [13, 14]) pF (d + 13) kT121 13 5 none none res g σ (98, lv, [.int s0]) := by
  intro g lv σ s0 l0 l1 l2 l3 bl0 g0 g1 g2 g3 res h
  unfold k_Server_answerReads_b98 at h
  refine cR_stI (j := 4) lk121_98 (Or.inl rfl) (by decide) (fun vq6 gq7 kq8 => ?_)
  have gq9 := kq8 0 _ (by decide) (fun e => absurd e (by decide)) g0
  have gq10 := kq8 1 _ (by decide) (fun e => absurd e (by decide)) g1
  have gq11 := kq8 2 _ (by decide) (fun e => absurd e (by decide)) g2
  have gq12 := kq8 3 _ (by decide) (fun _ => rfl) g3
  refine cR_lift (fun _ _ kk => eE_iload lk121_100 gq7 kk) ?_
  refine cR_if (t := 198) lk121_102 (by decide) (fun c13 => ?_) (fun c13 => ?_)
  · rw [if_pos c13] at h
    exact k_Server_answerReads_b198_ok hp0 hL hF hK52 g vq6 σ l0 l1 l2 bl0 gq9 gq10 gq11 _ h
  · rw [if_neg c13] at h
    refine cR_lift (fun _ _ kk => eE_aload_n lk121_105 gq9 kk) ?_
    refine cR_getO (cl' := 12) (i' := l0) lk121_106 rf_13_28 rfl rfl bl0 ?_
    refine cR_getA lk121_109 rf_13_606 (by decide) (cob_s (cl := 12) bl0 (by decide) rfl rfl) ?_
    refine cR_lift (fun _ _ kk => eE_iload_n lk121_112 gq12 kk) ?_
    obtain ⟨x14, h15, h⟩ := Option.bind_eq_some_iff.mp h
    refine cR_iald (cl := 12) (i := l0) (f := 4) lk121_113 (by decide) rfl (cob_s (cl := 12) bl0 (by decide) rfl rfl) h15 ?_
    refine cR_lift (fun _ _ kk => eE_aload_n lk121_114 gq9 kk) ?_
    refine cR_getO (cl' := 9) (i' := l0) lk121_115 rf_13_72 rfl rfl bl0 ?_
    refine cR_getI lk121_118 rf_13_94 rfl (cob_s (cl := 9) bl0 (by decide) rfl rfl) ?_
    refine cR_icmp (t := 198) lk121_121 (by decide) (fun c16 => ?_) (fun c16 => ?_)
    · rw [if_pos c16] at h
      exact k_Server_answerReads_b198_ok hp0 hL hF hK52 g vq6 σ l0 l1 l2 bl0 gq9 gq10 gq11 _ h
    · rw [if_neg c16] at h
      refine cR_lift (fun _ _ kk => eE_aload_n lk121_124 gq9 kk) ?_
      refine cR_getO (cl' := 12) (i' := l0) lk121_125 rf_13_28 rfl rfl bl0 ?_
      refine cR_getA lk121_128 rf_13_604 (by decide) (cob_s (cl := 12) bl0 (by decide) rfl rfl) ?_
      refine cR_lift (fun _ _ kk => eE_iload_n lk121_131 gq12 kk) ?_
      obtain ⟨x17, h18, h⟩ := Option.bind_eq_some_iff.mp h
      refine cR_iald (cl := 12) (i := l0) (f := 6) lk121_132 (by decide) rfl (cob_s (cl := 12) bl0 (by decide) rfl rfl) h18 ?_
      refine cR_lift (fun _ _ kk => eE_iload_n lk121_133 gq10 kk) ?_
      refine cR_icmp (t := 198) lk121_134 (by decide) (fun c19 => ?_) (fun c19 => ?_)
      · rw [if_pos c19] at h
        exact k_Server_answerReads_b198_ok hp0 hL hF hK52 g vq6 σ l0 l1 l2 bl0 gq9 gq10 gq11 _ h
      · rw [if_neg c19] at h
        refine cR_lift (fun _ _ kk => eE_aload_n lk121_137 gq9 kk) ?_
        refine cR_getO (cl' := 12) (i' := l0) lk121_138 rf_13_28 rfl rfl bl0 ?_
        refine cR_lift (fun _ _ kk => eE_iload_n lk121_141 gq12 kk) ?_
        obtain ⟨p20, h21, h⟩ := Option.bind_eq_some_iff.mp h
        refine cR_virt (cl := 12) (i := l0) (as := [.int l3]) lk121_142 mr_13_570 na_116 rfl rfl (by first | exact Nat.le_of_ble_eq_true rfl | (simp [xcat, cvo_cat, cat_i, cat_j, cat_r]; done)) wv_116 wc_116 (cob_s (cl := 12) bl0 (by decide) rfl rfl) (k_Requests_drop_ok hp0 hL hF (d := d + 12) (cob_s (cl := 12) bl0 (by decide) rfl rfl) h21) (fun m22  => ?_)
        refine cR_lift (fun _ _ kk => eE_aload_n lk121_145 gq9 kk) ?_
        refine cR_getO (cl' := 10) (i' := l0) lk121_146 rf_13_81 rfl rfl (cob_any rfl bl0) ?_
        refine cR_lift (fun _ _ kk => eE_aload_n lk121_149 gq9 kk) ?_
        refine cR_getO (cl' := 12) (i' := l0) lk121_150 rf_13_28 rfl rfl (cob_any rfl bl0) ?_
        refine cR_getA lk121_153 rf_13_609 (by decide) (cob_s (cl := 12) (cob_any rfl bl0) (by decide) rfl rfl) ?_
        refine cR_lift (fun _ _ kk => eE_iload_n lk121_156 gq12 kk) ?_
        obtain ⟨x23, h24, h⟩ := Option.bind_eq_some_iff.mp h
        refine cR_iald (cl := 12) (i := l0) (f := 3) lk121_157 (by decide) rfl (cob_s (cl := 12) (cob_any rfl bl0) (by decide) rfl rfl) h24 ?_
        obtain ⟨p25, h26, h⟩ := Option.bind_eq_some_iff.mp h
        refine cR_virt (cl := 10) (i := l0) (as := [.int x23]) lk121_158 mr_13_611 na_89 rfl rfl (by first | exact Nat.le_of_ble_eq_true rfl | (simp [xcat, cvo_cat, cat_i, cat_j, cat_r]; done)) wv_89 wc_89 (cob_s (cl := 10) (cob_any rfl bl0) (by decide) rfl rfl) (k_Machine_look_ok hp0 hL hF (d := d + 10) (cob_s (cl := 10) (cob_any rfl bl0) (by decide) rfl rfl) h26) (fun m27  => ?_)
        refine cR_lift (fun _ _ kk => eE_aload_n lk121_161 gq9 kk) ?_
        refine cR_lift (fun _ _ kk => eE_aload_n lk121_162 gq9 kk) ?_
        refine cR_getO (cl' := 12) (i' := l0) lk121_163 rf_13_28 rfl rfl (cob_any rfl bl0) ?_
        refine cR_getA lk121_166 rf_13_583 (by decide) (cob_s (cl := 12) (cob_any rfl bl0) (by decide) rfl rfl) ?_
        refine cR_lift (fun _ _ kk => eE_iload_n lk121_169 gq12 kk) ?_
        obtain ⟨x28, h29, h⟩ := Option.bind_eq_some_iff.mp h
        refine cR_iald (cl := 12) (i := l0) (f := 1) lk121_170 (by decide) rfl (cob_s (cl := 12) (cob_any rfl bl0) (by decide) rfl rfl) h29 ?_
        refine cR_lift (fun _ _ kk => eE_aload_n lk121_171 gq9 kk) ?_
        refine cR_getO (cl' := 12) (i' := l0) lk121_172 rf_13_28 rfl rfl (cob_any rfl bl0) ?_
        refine cR_getA lk121_175 rf_13_586 (by decide) (cob_s (cl := 12) (cob_any rfl bl0) (by decide) rfl rfl) ?_
        refine cR_lift (fun _ _ kk => eE_iload_n lk121_178 gq12 kk) ?_
        obtain ⟨x30, h31, h⟩ := Option.bind_eq_some_iff.mp h
        refine cR_iald (cl := 12) (i := l0) (f := 2) lk121_179 (by decide) rfl (cob_s (cl := 12) (cob_any rfl bl0) (by decide) rfl rfl) h31 ?_
        refine cR_lift (fun _ _ kk => eE_iconst (v := 0) lk121_180 (by decide) kk) ?_
        refine cR_lift (fun _ _ kk => eE_aload_n lk121_181 gq9 kk) ?_
        refine cR_getO (cl' := 9) (i' := l0) lk121_182 rf_13_72 rfl rfl (cob_any rfl bl0) ?_
        refine cR_getI lk121_185 rf_13_94 rfl (cob_s (cl := 9) (cob_any rfl bl0) (by decide) rfl rfl) ?_
        refine cR_lift (fun _ _ kk => eE_aload_n lk121_188 gq9 kk) ?_
        refine cR_getO (cl' := 10) (i' := l0) lk121_189 rf_13_81 rfl rfl (cob_any rfl bl0) ?_
        refine cR_getI lk121_192 rf_13_592 rfl (cob_s (cl := 10) (cob_any rfl bl0) (by decide) rfl rfl) ?_
        obtain ⟨p32, h33, h⟩ := Option.bind_eq_some_iff.mp h
        refine cR_virtG (by exact cQx_sub rfl) (cl := 13) (i := l0) (as := [.int x28, .int x30, .int ((0 : Int32)), .int (cI p25 9 l0 10 0), .int (cI p25 10 l0 11 0)]) lk121_195 mr_13_542 na_155 rfl rfl (by first | exact Nat.le_of_ble_eq_true rfl | (simp [xcat, cvo_cat, cat_i, cat_j, cat_r]; done)) wv_155 wc_155 (cob_any rfl bl0) (k_Server_reply_ok hp0 hL hF (d := d + 0) (cob_any rfl bl0) h33) (fun m34 g_35 g_35e => ?_)
        exact k_Server_answerReads_b198_ok hp0 hL hF hK52 g_35 vq6 p32 l0 l1 l2 (cob_any rfl bl0) gq9 gq10 gq11 _ h
def k_Server_answerReads_b97 (F : Nat) (K52 : CS → Nat → Int32 → Int32 → Option (CS)) (σ : CS) (l0 : Nat) (l1 : Int32) (l2 : Int32) (l3 : Int32) : Option (CS) :=
  k_Server_answerReads_b98 F K52 σ ((0 : Int32)) l0 l1 l2 l3
set_option maxRecDepth 4000 in
theorem k_Server_answerReads_b97_ok {E : CE} {pF : Nat → List Value → xH → Option (Option Value × xH)} (hp0 : xNPc pF) (hL : lcAll E pF) (hF : lcF pF) {d : Nat} {F : Nat} {K52 : CS → Nat → Int32 → Int32 → Option (CS)} (hK52 : ∀ (g : CG) (lv : xL) (σ : CS) (l0 : Nat) (l1 : Int32) (l2 : Int32), (cob σ 13 l0) → (xg lv 0 = some (.ref (coa E 13 l0))) → (xg lv 1 = some (.int l1)) → (xg lv 2 = some (.int l2)) → ∀ res, K52 σ l0 l1 l2 = some res → cR E (cQx [13, 14]) pF (d + 13) kT121 13 5 none none res g σ (52, lv, [])) : ∀ (g : CG) (lv : xL) (σ : CS) (l0 : Nat) (l1 : Int32) (l2 : Int32) (l3 : Int32), (cob σ 13 l0) → (xg lv 0 = some (.ref (coa E 13 l0))) → (xg lv 1 = some (.int l1)) → (xg lv 2 = some (.int l2)) → (xg lv 3 = some (.int l3)) → ∀ res, k_Server_answerReads_b97 F K52 σ l0 l1 l2 l3 = some res → cR E (cQx [13, 14]) pF (d + 13) kT121 13 5 none none res g σ (97, lv, []) := by
  intro g lv σ l0 l1 l2 l3 bl0 g0 g1 g2 g3 res h
  unfold k_Server_answerReads_b97 at h
  refine cR_lift (fun _ _ kk => eE_iconst (v := 0) lk121_97 (by decide) kk) ?_
  exact k_Server_answerReads_b98_ok hp0 hL hF hK52 g lv σ ((0 : Int32)) l0 l1 l2 l3 bl0 g0 g1 g2 g3 _ h
def k_Server_answerReads_b52 (F : Nat)  : Nat → CS → Nat → Int32 → Int32 → Option (CS)
  | 0, _, _, _, _ => none
  | n + 1, σ, l0, l1, l2 =>
    let KK := k_Server_answerReads_b52 F  n
    if xc2 .ge l2 (cI σ 12 l0 7 0) = true then (
      some σ
    ) else (
      (k_Requests_slotOf σ l2).bind fun p37 =>
      (crd σ 12 l0 0 p37).bind fun x46 =>
      if xc0 .eq x46 = true then (
        k_Server_answerReads_b97 F KK σ l0 l1 l2 p37
      ) else (
        (crd σ 12 l0 6 p37).bind fun x49 =>
        if xc2 .eq x49 ((-1 : Int32)) = true then (
          k_Server_answerReads_b97 F KK σ l0 l1 l2 p37
        ) else (
          k_Server_answerReads_b98 F KK σ ((1 : Int32)) l0 l1 l2 p37
        )
      )
    )
set_option maxRecDepth 4000 in
theorem k_Server_answerReads_b52_ok {E : CE} {pF : Nat → List Value → xH → Option (Option Value × xH)} (hp0 : xNPc pF) (hL : lcAll E pF) (hF : lcF pF) {d : Nat} {F : Nat}   : ∀ (n : Nat) (g : CG) (lv : xL) (σ : CS) (l0 : Nat) (l1 : Int32) (l2 : Int32), (cob σ 13 l0) → (xg lv 0 = some (.ref (coa E 13 l0))) → (xg lv 1 = some (.int l1)) → (xg lv 2 = some (.int l2)) → ∀ res, k_Server_answerReads_b52 F  n σ l0 l1 l2 = some res → cR E (cQx [13, 14]) pF (d + 13) kT121 13 5 none none res g σ (52, lv, []) := by
  intro n
  induction n with
  | zero => intro g lv σ l0 l1 l2 bl0 g0 g1 g2 res h; simp [k_Server_answerReads_b52] at h
  | succ n hKK =>
    intro g lv σ l0 l1 l2 bl0 g0 g1 g2 res h
    unfold k_Server_answerReads_b52 at h
    dsimp only at h
    refine cR_lift (fun _ _ kk => eE_iload_n lk121_52 g2 kk) ?_
    refine cR_lift (fun _ _ kk => eE_aload_n lk121_53 g0 kk) ?_
    refine cR_getO (cl' := 12) (i' := l0) lk121_54 rf_13_28 rfl rfl bl0 ?_
    refine cR_getI lk121_57 rf_13_595 rfl (cob_s (cl := 12) bl0 (by decide) rfl rfl) ?_
    refine cR_icmp (t := 204) lk121_60 (by decide) (fun c36 => ?_) (fun c36 => ?_)
    · rw [if_pos c36] at h
      cases h
      exact cR_end lk121_204 rfl rfl rfl
    · rw [if_neg c36] at h
      refine cR_lift (fun _ _ kk => eE_iload_n lk121_63 g2 kk) ?_
      obtain ⟨p37, h38, h⟩ := Option.bind_eq_some_iff.mp h
      refine cR_stat (as := [.int l2]) lk121_64 mr_13_598 na_119 rfl rfl (by first | exact Nat.le_of_ble_eq_true rfl | (simp [xcat, cvo_cat, cat_i, cat_j, cat_r]; done)) mm_119 ws_119 (k_Requests_slotOf_ok hp0 hL hF (d := d + 12)  h38) (fun m39 => ?_)
      refine cR_stI (j := 3) lk121_67 (Or.inr ⟨_, rfl, rfl⟩) (by decide) (fun vq40 gq41 kq42 => ?_)
      have gq43 := kq42 0 _ (by decide) (fun e => absurd e (by decide)) g0
      have gq44 := kq42 1 _ (by decide) (fun e => absurd e (by decide)) g1
      have gq45 := kq42 2 _ (by decide) (fun _ => rfl) g2
      refine cR_lift (fun _ _ kk => eE_aload_n lk121_68 gq43 kk) ?_
      refine cR_getO (cl' := 12) (i' := l0) lk121_69 rf_13_28 rfl rfl bl0 ?_
      refine cR_getA lk121_72 rf_13_601 (by decide) (cob_s (cl := 12) bl0 (by decide) rfl rfl) ?_
      refine cR_lift (fun _ _ kk => eE_iload_n lk121_75 gq41 kk) ?_
      obtain ⟨x46, h47, h⟩ := Option.bind_eq_some_iff.mp h
      refine cR_bald (cl := 12) (i := l0) (f := 0) lk121_76 (by decide) (Or.inr rfl) (cob_s (cl := 12) bl0 (by decide) rfl rfl) h47 ?_
      refine cR_if (t := 97) lk121_77 (by decide) (fun c48 => ?_) (fun c48 => ?_)
      · rw [if_pos c48] at h
        exact k_Server_answerReads_b97_ok hp0 hL hF hKK g vq40 σ l0 l1 l2 p37 bl0 gq43 gq44 gq45 gq41 _ h
      · rw [if_neg c48] at h
        refine cR_lift (fun _ _ kk => eE_aload_n lk121_80 gq43 kk) ?_
        refine cR_getO (cl' := 12) (i' := l0) lk121_81 rf_13_28 rfl rfl bl0 ?_
        refine cR_getA lk121_84 rf_13_604 (by decide) (cob_s (cl := 12) bl0 (by decide) rfl rfl) ?_
        refine cR_lift (fun _ _ kk => eE_iload_n lk121_87 gq41 kk) ?_
        obtain ⟨x49, h50, h⟩ := Option.bind_eq_some_iff.mp h
        refine cR_iald (cl := 12) (i := l0) (f := 6) lk121_88 (by decide) rfl (cob_s (cl := 12) bl0 (by decide) rfl rfl) h50 ?_
        refine cR_lift (fun _ _ kk => eE_iconst (v := (-1)) lk121_89 (by decide) kk) ?_
        refine cR_icmp (t := 97) lk121_90 (by decide) (fun c51 => ?_) (fun c51 => ?_)
        · rw [if_pos c51] at h
          exact k_Server_answerReads_b97_ok hp0 hL hF hKK g vq40 σ l0 l1 l2 p37 bl0 gq43 gq44 gq45 gq41 _ h
        · rw [if_neg c51] at h
          refine cR_lift (fun _ _ kk => eE_iconst (v := 1) lk121_93 (by decide) kk) ?_
          refine cR_lift (fun _ _ kk => eE_goto (t := 98) lk121_94 (by decide) kk) ?_
          exact k_Server_answerReads_b98_ok hp0 hL hF hKK g vq40 σ ((1 : Int32)) l0 l1 l2 p37 bl0 gq43 gq44 gq45 gq41 _ h
def k_Server_answerReads_b0 (F : Nat)  (σ : CS) (l0 : Nat) : Option (CS) :=
  if xc2 .ne (cI σ 13 l0 12 0) ((3 : Int32)) = true then (
    k_Server_answerReads_b18 F  σ
  ) else (
    if xc0 .ne (cI σ 12 l0 8 0) = true then (
      (k_Lead_most_7_4 F σ l0 (cI σ 9 l0 7 0)).bind fun p54 =>
      k_Server_answerReads_b52 F  F σ l0 p54 (cmax ((0 : Int32)) ((cI σ 12 l0 7 0) - ((32 : Int32))))
    ) else (
      k_Server_answerReads_b18 F  σ
    )
  )
set_option maxRecDepth 4000 in
theorem k_Server_answerReads_b0_ok {E : CE} {pF : Nat → List Value → xH → Option (Option Value × xH)} (hp0 : xNPc pF) (hL : lcAll E pF) (hF : lcF pF) {d : Nat} {F : Nat}   : ∀ (g : CG) (lv : xL) (σ : CS) (l0 : Nat), (cob σ 13 l0) → (xg lv 0 = some (.ref (coa E 13 l0))) → ∀ res, k_Server_answerReads_b0 F  σ l0 = some res → cR E (cQx [13, 14]) pF (d + 13) kT121 13 5 none none res g σ (0, lv, []) := by
  intro g lv σ l0 bl0 g0 res h
  unfold k_Server_answerReads_b0 at h
  refine cR_lift (fun _ _ kk => eE_aload_n lk121_0 g0 kk) ?_
  refine cR_getI lk121_1 rf_13_85 rfl bl0 ?_
  refine cR_lift (fun _ _ kk => eE_iconst (v := 3) lk121_4 (by decide) kk) ?_
  refine cR_icmp (t := 18) lk121_5 (by decide) (fun c52 => ?_) (fun c52 => ?_)
  · rw [if_pos c52] at h
    exact k_Server_answerReads_b18_ok hp0 hL hF  g lv σ  _ h
  · rw [if_neg c52] at h
    refine cR_lift (fun _ _ kk => eE_aload_n lk121_8 g0 kk) ?_
    refine cR_getO (cl' := 12) (i' := l0) lk121_9 rf_13_28 rfl rfl bl0 ?_
    refine cR_getI lk121_12 rf_13_125 rfl (cob_s (cl := 12) bl0 (by decide) rfl rfl) ?_
    refine cR_if (t := 19) lk121_15 (by decide) (fun c53 => ?_) (fun c53 => ?_)
    · rw [if_pos c53] at h
      refine cR_lift (fun _ _ kk => eE_aload_n lk121_19 g0 kk) ?_
      refine cR_getO (cl' := 7) (i' := l0) lk121_20 rf_13_21 rfl rfl bl0 ?_
      refine cR_getA lk121_23 rf_13_462 (by decide) (cob_s (cl := 7) bl0 (by decide) rfl rfl) ?_
      refine cR_lift (fun _ _ kk => eE_aload_n lk121_26 g0 kk) ?_
      refine cR_getO (cl' := 9) (i' := l0) lk121_27 rf_13_72 rfl rfl bl0 ?_
      refine cR_getI lk121_30 rf_13_106 rfl (cob_s (cl := 9) bl0 (by decide) rfl rfl) ?_
      obtain ⟨p54, h55, h⟩ := Option.bind_eq_some_iff.mp h
      refine cR_stat (as := [.ref (caa E 7 l0 4), .int (cI σ 9 l0 7 0)]) lk121_33 mr_13_434 na_57 rfl rfl (by first | exact Nat.le_of_ble_eq_true rfl | (simp [xcat, cvo_cat, cat_i, cat_j, cat_r]; done)) mm_57 ws_57 (k_Lead_most_7_4_ok hp0 hL hF (d := d + 9) (cob_s (cl := 7) bl0 (by decide) rfl rfl) h55) (fun m56 => ?_)
      refine cR_stI (j := 1) lk121_36 (Or.inr ⟨_, rfl, rfl⟩) (by decide) (fun vq57 gq58 kq59 => ?_)
      have gq60 := kq59 0 _ (by decide) (fun _ => rfl) g0
      refine cR_lift (fun _ _ kk => eE_iconst (v := 0) lk121_37 (by decide) kk) ?_
      refine cR_lift (fun _ _ kk => eE_aload_n lk121_38 gq60 kk) ?_
      refine cR_getO (cl' := 12) (i' := l0) lk121_39 rf_13_28 rfl rfl bl0 ?_
      refine cR_getI lk121_42 rf_13_595 rfl (cob_s (cl := 12) bl0 (by decide) rfl rfl) ?_
      refine cR_lift (fun _ _ kk => eE_bipush (v := 32) lk121_45 (by decide) kk) ?_
      refine cR_lift (fun _ _ kk => eE_isub lk121_47 kk) ?_
      refine cR_max lk121_48 mr_13_293 (by first | exact Nat.le_of_ble_eq_true rfl | (simp [xcat, cvo_cat, cat_i, cat_j, cat_r]; done)) ?_
      refine cR_stI (j := 2) lk121_51 (Or.inr ⟨_, rfl, rfl⟩) (by decide) (fun vq61 gq62 kq63 => ?_)
      have gq64 := kq63 0 _ (by decide) (fun e => absurd e (by decide)) gq60
      have gq65 := kq63 1 _ (by decide) (fun _ => rfl) gq58
      exact k_Server_answerReads_b52_ok hp0 hL hF  F g vq61 σ l0 p54 (cmax ((0 : Int32)) ((cI σ 12 l0 7 0) - ((32 : Int32)))) bl0 gq64 gq65 gq62 _ h
    · rw [if_neg c53] at h
      exact k_Server_answerReads_b18_ok hp0 hL hF  g lv σ  _ h
def k_Server_answerReads (F : Nat) (σ : CS) (l0 : Nat) : Option (CS) := k_Server_answerReads_b0 F σ l0
theorem k_Server_answerReads_ok {E : CE} {pF : Nat → List Value → xH → Option (Option Value × xH)} (hp0 : xNPc pF) (hL : lcAll E pF) (hF : lcF pF) {d : Nat} {g : CG} {σ : CS} {F : Nat} {l0 : Nat} {res : CS} (bl0 : cob σ 13 l0) (h : k_Server_answerReads F σ l0 = some res) : cCo E (cQx [13, 14]) pF (d + 14) 121 [.ref (coa E 13 l0)] none res g σ :=
  cCo_R kk_121 mo_121 ni_121 xm_121 (Nat.le_of_ble_eq_true rfl) (hp0 121 (by decide) _) (k_Server_answerReads_b0_ok hp0 hL hF g _ σ l0 bl0 rfl _ h)
/-! k_Machine_admit_9_1 (76), depth 11 -/
def k_Machine_admit_9_1_b0 (F : Nat)  (σ : CS) (l0 : Nat) (l1 : Int32) (l2 : Nat) (l3 : Int32) : Option ((Int32) × CS) :=
  (some (csI σ 10 l0 12 0 ((0 : Int32)))).bind fun σ1 =>
  (some (csI σ1 10 l0 13 0 l1)).bind fun σ3 =>
  (some (csI σ3 10 l0 11 0 ((0 : Int32)))).bind fun σ5 =>
  (crd σ5 9 l2 1 (l3 + ((5 : Int32)))).bind fun x7 =>
  if xc2 .ne x7 ((-1 : Int32)) = true then (
    (crd σ5 9 l2 1 (l3 + ((3 : Int32)))).bind fun x10 =>
    (k_Machine_findSession F σ5 l0 x10).bind fun p12 =>
    if xc2 .ne p12 ((-1 : Int32)) = true then (
      (crd σ5 10 l0 2 ((p12 * ((5 : Int32))) + ((2 : Int32)))).bind fun x31 =>
      (cwr σ5 10 l0 2 ((p12 * ((5 : Int32))) + ((1 : Int32))) l1).bind fun σ42 =>
      (crd σ42 9 l2 1 (l3 + ((4 : Int32)))).bind fun x44 =>
      if xc2 .le x44 x31 = true then (
        (crd σ42 9 l2 1 (l3 + ((4 : Int32)))).bind fun x47 =>
        if xc2 .ge x47 x31 = true then (
          (crd σ42 10 l0 2 ((p12 * ((5 : Int32))) + ((3 : Int32)))).bind fun x50 =>
          (some (csI σ42 10 l0 13 0 x50)).bind fun σ52 =>
          (crd σ52 10 l0 2 ((p12 * ((5 : Int32))) + ((4 : Int32)))).bind fun x54 =>
          (some (csI σ52 10 l0 11 0 x54)).bind fun σ56 =>
          (ccpy σ56 10 l0 3 (p12 * ((101 : Int32))) 10 l0 10 ((0 : Int32)) (cI σ56 10 l0 11 0)).bind fun σ58 =>
          some ((-1 : Int32), σ58)
        ) else (
          (some (csI σ42 10 l0 12 0 ((-1 : Int32)))).bind fun σ60 =>
          some ((-1 : Int32), σ60)
        )
      ) else (
        some (p12, σ42)
      )
    ) else (
      (some (csI σ5 10 l0 12 0 ((2 : Int32)))).bind fun σ62 =>
      some ((-1 : Int32), σ62)
    )
  ) else (
    (k_Machine_openSession F σ5 l0 l1).bind fun p64 =>
    some ((-1 : Int32), p64)
  )
set_option maxRecDepth 4000 in
theorem k_Machine_admit_9_1_b0_ok {E : CE} {pF : Nat → List Value → xH → Option (Option Value × xH)} (hp0 : xNPc pF) (hL : lcAll E pF) (hF : lcF pF) {d : Nat} {F : Nat}   : ∀ (g : CG) (lv : xL) (σ : CS) (l0 : Nat) (l1 : Int32) (l2 : Nat) (l3 : Int32), (cob σ 10 l0) → (cob σ 9 l2) → (xg lv 0 = some (.ref (coa E 10 l0))) → (xg lv 1 = some (.int l1)) → (xg lv 2 = some (.ref (caa E 9 l2 1))) → (xg lv 3 = some (.int l3)) → ∀ res, k_Machine_admit_9_1_b0 F  σ l0 l1 l2 l3 = some res → cR E cQ1 pF (d + 10) kT76 10 7 (some FieldType.int) (some (.int res.1)) res.2 g σ (0, lv, []) := by
  intro g lv σ l0 l1 l2 l3 bl0 bl2 g0 g1 g2 g3 res h
  unfold k_Machine_admit_9_1_b0 at h
  refine cR_lift (fun _ _ kk => eE_aload_n lk76_0 g0 kk) ?_
  refine cR_lift (fun _ _ kk => eE_iconst (v := 0) lk76_1 (by decide) kk) ?_
  obtain ⟨σ1, h2, h⟩ := Option.bind_eq_some_iff.mp h
  refine cR_putI lk76_2 rf_10_51 rfl bl0 pf_10_12 rfl h2 ?_
  refine cR_lift (fun _ _ kk => eE_aload_n lk76_5 g0 kk) ?_
  refine cR_lift (fun _ _ kk => eE_iload_n lk76_6 g1 kk) ?_
  obtain ⟨σ3, h4, h⟩ := Option.bind_eq_some_iff.mp h
  refine cR_putI lk76_7 rf_10_54 rfl (cob_any rfl bl0) pf_10_13 rfl h4 ?_
  refine cR_lift (fun _ _ kk => eE_aload_n lk76_10 g0 kk) ?_
  refine cR_lift (fun _ _ kk => eE_iconst (v := 0) lk76_11 (by decide) kk) ?_
  obtain ⟨σ5, h6, h⟩ := Option.bind_eq_some_iff.mp h
  refine cR_putI lk76_12 rf_10_57 rfl (cob_any rfl bl0) pf_10_11 rfl h6 ?_
  refine cR_lift (fun _ _ kk => eE_aload_n lk76_15 g2 kk) ?_
  refine cR_lift (fun _ _ kk => eE_iload_n lk76_16 g3 kk) ?_
  refine cR_lift (fun _ _ kk => eE_iconst (v := 5) lk76_17 (by decide) kk) ?_
  refine cR_lift (fun _ _ kk => eE_iadd lk76_18 kk) ?_
  obtain ⟨x7, h8, h⟩ := Option.bind_eq_some_iff.mp h
  refine cR_iald (cl := 9) (i := l2) (f := 1) lk76_19 (by decide) rfl (cob_any rfl bl2) h8 ?_
  refine cR_lift (fun _ _ kk => eE_iconst (v := (-1)) lk76_20 (by decide) kk) ?_
  refine cR_icmp (t := 31) lk76_21 (by decide) (fun c9 => ?_) (fun c9 => ?_)
  · rw [if_pos c9] at h
    refine cR_lift (fun _ _ kk => eE_aload_n lk76_31 g0 kk) ?_
    refine cR_lift (fun _ _ kk => eE_aload_n lk76_32 g2 kk) ?_
    refine cR_lift (fun _ _ kk => eE_iload_n lk76_33 g3 kk) ?_
    refine cR_lift (fun _ _ kk => eE_iconst (v := 3) lk76_34 (by decide) kk) ?_
    refine cR_lift (fun _ _ kk => eE_iadd lk76_35 kk) ?_
    obtain ⟨x10, h11, h⟩ := Option.bind_eq_some_iff.mp h
    refine cR_iald (cl := 9) (i := l2) (f := 1) lk76_36 (by decide) rfl (cob_any rfl bl2) h11 ?_
    obtain ⟨p12, h13, h⟩ := Option.bind_eq_some_iff.mp h
    refine cR_virt (cl := 10) (i := l0) (as := [.int x10]) lk76_37 mr_10_64 na_82 rfl rfl (by first | exact Nat.le_of_ble_eq_true rfl | (simp [xcat, cvo_cat, cat_i, cat_j, cat_r]; done)) wv_82 wc_82 (cob_any rfl bl0) (k_Machine_findSession_ok hp0 hL hF (d := d + 9) (cob_any rfl bl0) h13) (fun m14  => ?_)
    refine cR_stI (j := 4) lk76_40 (Or.inl rfl) (by decide) (fun vq15 gq16 kq17 => ?_)
    have gq18 := kq17 0 _ (by decide) (fun e => absurd e (by decide)) g0
    have gq19 := kq17 1 _ (by decide) (fun e => absurd e (by decide)) g1
    have gq20 := kq17 2 _ (by decide) (fun e => absurd e (by decide)) g2
    have gq21 := kq17 3 _ (by decide) (fun _ => rfl) g3
    refine cR_lift (fun _ _ kk => eE_iload lk76_42 gq16 kk) ?_
    refine cR_lift (fun _ _ kk => eE_iconst (v := (-1)) lk76_44 (by decide) kk) ?_
    refine cR_icmp (t := 55) lk76_45 (by decide) (fun c22 => ?_) (fun c22 => ?_)
    · rw [if_pos c22] at h
      refine cR_lift (fun _ _ kk => eE_iload lk76_55 gq16 kk) ?_
      refine cR_lift (fun _ _ kk => eE_iconst (v := 5) lk76_57 (by decide) kk) ?_
      refine cR_lift (fun _ _ kk => eE_imul lk76_58 kk) ?_
      refine cR_stI (j := 5) lk76_59 (Or.inl rfl) (by decide) (fun vq23 gq24 kq25 => ?_)
      have gq26 := kq25 0 _ (by decide) (fun e => absurd e (by decide)) gq18
      have gq27 := kq25 1 _ (by decide) (fun e => absurd e (by decide)) gq19
      have gq28 := kq25 2 _ (by decide) (fun e => absurd e (by decide)) gq20
      have gq29 := kq25 3 _ (by decide) (fun e => absurd e (by decide)) gq21
      have gq30 := kq25 4 _ (by decide) (fun _ => rfl) gq16
      refine cR_lift (fun _ _ kk => eE_aload_n lk76_61 gq26 kk) ?_
      refine cR_getA lk76_62 rf_10_11 (by decide) (cob_any rfl bl0) ?_
      refine cR_lift (fun _ _ kk => eE_iload lk76_65 gq24 kk) ?_
      refine cR_lift (fun _ _ kk => eE_iconst (v := 2) lk76_67 (by decide) kk) ?_
      refine cR_lift (fun _ _ kk => eE_iadd lk76_68 kk) ?_
      obtain ⟨x31, h32, h⟩ := Option.bind_eq_some_iff.mp h
      refine cR_iald (cl := 10) (i := l0) (f := 2) lk76_69 (by decide) rfl (cob_any rfl bl0) h32 ?_
      refine cR_stI (j := 6) lk76_70 (Or.inl rfl) (by decide) (fun vq33 gq34 kq35 => ?_)
      have gq36 := kq35 0 _ (by decide) (fun e => absurd e (by decide)) gq26
      have gq37 := kq35 1 _ (by decide) (fun e => absurd e (by decide)) gq27
      have gq38 := kq35 2 _ (by decide) (fun e => absurd e (by decide)) gq28
      have gq39 := kq35 3 _ (by decide) (fun e => absurd e (by decide)) gq29
      have gq40 := kq35 4 _ (by decide) (fun e => absurd e (by decide)) gq30
      have gq41 := kq35 5 _ (by decide) (fun _ => rfl) gq24
      refine cR_lift (fun _ _ kk => eE_aload_n lk76_72 gq36 kk) ?_
      refine cR_getA lk76_73 rf_10_11 (by decide) (cob_any rfl bl0) ?_
      refine cR_lift (fun _ _ kk => eE_iload lk76_76 gq41 kk) ?_
      refine cR_lift (fun _ _ kk => eE_iconst (v := 1) lk76_78 (by decide) kk) ?_
      refine cR_lift (fun _ _ kk => eE_iadd lk76_79 kk) ?_
      refine cR_lift (fun _ _ kk => eE_iload_n lk76_80 gq37 kk) ?_
      obtain ⟨σ42, h43, h⟩ := Option.bind_eq_some_iff.mp h
      refine cR_iast (cl := 10) (i := l0) (f := 2) lk76_81 (by decide) rfl (cob_any rfl bl0) h43 ?_
      refine cR_lift (fun _ _ kk => eE_aload_n lk76_82 gq38 kk) ?_
      refine cR_lift (fun _ _ kk => eE_iload_n lk76_83 gq39 kk) ?_
      refine cR_lift (fun _ _ kk => eE_iconst (v := 4) lk76_84 (by decide) kk) ?_
      refine cR_lift (fun _ _ kk => eE_iadd lk76_85 kk) ?_
      obtain ⟨x44, h45, h⟩ := Option.bind_eq_some_iff.mp h
      refine cR_iald (cl := 9) (i := l2) (f := 1) lk76_86 (by decide) rfl (cob_any rfl bl2) h45 ?_
      refine cR_lift (fun _ _ kk => eE_iload lk76_87 gq34 kk) ?_
      refine cR_icmp (t := 95) lk76_89 (by decide) (fun c46 => ?_) (fun c46 => ?_)
      · rw [if_pos c46] at h
        refine cR_lift (fun _ _ kk => eE_aload_n lk76_95 gq38 kk) ?_
        refine cR_lift (fun _ _ kk => eE_iload_n lk76_96 gq39 kk) ?_
        refine cR_lift (fun _ _ kk => eE_iconst (v := 4) lk76_97 (by decide) kk) ?_
        refine cR_lift (fun _ _ kk => eE_iadd lk76_98 kk) ?_
        obtain ⟨x47, h48, h⟩ := Option.bind_eq_some_iff.mp h
        refine cR_iald (cl := 9) (i := l2) (f := 1) lk76_99 (by decide) rfl (cob_any rfl bl2) h48 ?_
        refine cR_lift (fun _ _ kk => eE_iload lk76_100 gq34 kk) ?_
        refine cR_icmp (t := 112) lk76_102 (by decide) (fun c49 => ?_) (fun c49 => ?_)
        · rw [if_pos c49] at h
          refine cR_lift (fun _ _ kk => eE_aload_n lk76_112 gq36 kk) ?_
          refine cR_lift (fun _ _ kk => eE_aload_n lk76_113 gq36 kk) ?_
          refine cR_getA lk76_114 rf_10_11 (by decide) (cob_any rfl bl0) ?_
          refine cR_lift (fun _ _ kk => eE_iload lk76_117 gq41 kk) ?_
          refine cR_lift (fun _ _ kk => eE_iconst (v := 3) lk76_119 (by decide) kk) ?_
          refine cR_lift (fun _ _ kk => eE_iadd lk76_120 kk) ?_
          obtain ⟨x50, h51, h⟩ := Option.bind_eq_some_iff.mp h
          refine cR_iald (cl := 10) (i := l0) (f := 2) lk76_121 (by decide) rfl (cob_any rfl bl0) h51 ?_
          obtain ⟨σ52, h53, h⟩ := Option.bind_eq_some_iff.mp h
          refine cR_putI lk76_122 rf_10_54 rfl (cob_any rfl bl0) pf_10_13 rfl h53 ?_
          refine cR_lift (fun _ _ kk => eE_aload_n lk76_125 gq36 kk) ?_
          refine cR_lift (fun _ _ kk => eE_aload_n lk76_126 gq36 kk) ?_
          refine cR_getA lk76_127 rf_10_11 (by decide) (cob_any rfl bl0) ?_
          refine cR_lift (fun _ _ kk => eE_iload lk76_130 gq41 kk) ?_
          refine cR_lift (fun _ _ kk => eE_iconst (v := 4) lk76_132 (by decide) kk) ?_
          refine cR_lift (fun _ _ kk => eE_iadd lk76_133 kk) ?_
          obtain ⟨x54, h55, h⟩ := Option.bind_eq_some_iff.mp h
          refine cR_iald (cl := 10) (i := l0) (f := 2) lk76_134 (by decide) rfl (cob_any rfl bl0) h55 ?_
          obtain ⟨σ56, h57, h⟩ := Option.bind_eq_some_iff.mp h
          refine cR_putI lk76_135 rf_10_57 rfl (cob_any rfl bl0) pf_10_11 rfl h57 ?_
          refine cR_lift (fun _ _ kk => eE_aload_n lk76_138 gq36 kk) ?_
          refine cR_getA lk76_139 rf_10_15 (by decide) (cob_any rfl bl0) ?_
          refine cR_lift (fun _ _ kk => eE_iload lk76_142 gq40 kk) ?_
          refine cR_lift (fun _ _ kk => eE_bipush (v := 101) lk76_144 (by decide) kk) ?_
          refine cR_lift (fun _ _ kk => eE_imul lk76_146 kk) ?_
          refine cR_lift (fun _ _ kk => eE_aload_n lk76_147 gq36 kk) ?_
          refine cR_getA lk76_148 rf_10_31 (by decide) (cob_any rfl bl0) ?_
          refine cR_lift (fun _ _ kk => eE_iconst (v := 0) lk76_151 (by decide) kk) ?_
          refine cR_lift (fun _ _ kk => eE_aload_n lk76_152 gq36 kk) ?_
          refine cR_getI lk76_153 rf_10_57 rfl (cob_any rfl bl0) ?_
          obtain ⟨σ58, h59, h⟩ := Option.bind_eq_some_iff.mp h
          refine cR_cpy (a := 10) (i := l0) (f := 3) (a' := 10) (i' := l0) (f' := 10) lk76_156 yc_10_68.1 yc_10_68.2 (by decide) (by decide) (by decide) (cob_any rfl bl0) (cob_any rfl bl0) (by first | exact Nat.le_of_ble_eq_true rfl | (simp [xcat, cvo_cat, cat_i, cat_j, cat_r]; done)) h59 ?_
          refine cR_lift (fun _ _ kk => eE_iconst (v := (-1)) lk76_159 (by decide) kk) ?_
          cases h
          exact cR_end lk76_160 rfl rfl rfl
        · rw [if_neg c49] at h
          refine cR_lift (fun _ _ kk => eE_aload_n lk76_105 gq36 kk) ?_
          refine cR_lift (fun _ _ kk => eE_iconst (v := (-1)) lk76_106 (by decide) kk) ?_
          obtain ⟨σ60, h61, h⟩ := Option.bind_eq_some_iff.mp h
          refine cR_putI lk76_107 rf_10_51 rfl (cob_any rfl bl0) pf_10_12 rfl h61 ?_
          refine cR_lift (fun _ _ kk => eE_iconst (v := (-1)) lk76_110 (by decide) kk) ?_
          cases h
          exact cR_end lk76_111 rfl rfl rfl
      · rw [if_neg c46] at h
        refine cR_lift (fun _ _ kk => eE_iload lk76_92 gq40 kk) ?_
        cases h
        exact cR_end lk76_94 rfl rfl rfl
    · rw [if_neg c22] at h
      refine cR_lift (fun _ _ kk => eE_aload_n lk76_48 gq18 kk) ?_
      refine cR_lift (fun _ _ kk => eE_iconst (v := 2) lk76_49 (by decide) kk) ?_
      obtain ⟨σ62, h63, h⟩ := Option.bind_eq_some_iff.mp h
      refine cR_putI lk76_50 rf_10_51 rfl (cob_any rfl bl0) pf_10_12 rfl h63 ?_
      refine cR_lift (fun _ _ kk => eE_iconst (v := (-1)) lk76_53 (by decide) kk) ?_
      cases h
      exact cR_end lk76_54 rfl rfl rfl
  · rw [if_neg c9] at h
    refine cR_lift (fun _ _ kk => eE_aload_n lk76_24 g0 kk) ?_
    refine cR_lift (fun _ _ kk => eE_iload_n lk76_25 g1 kk) ?_
    obtain ⟨p64, h65, h⟩ := Option.bind_eq_some_iff.mp h
    refine cR_virt (cl := 10) (i := l0) (as := [.int l1]) lk76_26 mr_10_60 na_93 rfl rfl (by first | exact Nat.le_of_ble_eq_true rfl | (simp [xcat, cvo_cat, cat_i, cat_j, cat_r]; done)) wv_93 wc_93 (cob_any rfl bl0) (k_Machine_openSession_ok hp0 hL hF (d := d + 0) (cob_any rfl bl0) h65) (fun m66  => ?_)
    refine cR_lift (fun _ _ kk => eE_iconst (v := (-1)) lk76_29 (by decide) kk) ?_
    cases h
    exact cR_end lk76_30 rfl rfl rfl
def k_Machine_admit_9_1 (F : Nat) (σ : CS) (l0 : Nat) (l1 : Int32) (l2 : Nat) (l3 : Int32) : Option ((Int32) × CS) := k_Machine_admit_9_1_b0 F σ l0 l1 l2 l3
theorem k_Machine_admit_9_1_ok {E : CE} {pF : Nat → List Value → xH → Option (Option Value × xH)} (hp0 : xNPc pF) (hL : lcAll E pF) (hF : lcF pF) {d : Nat} {g : CG} {σ : CS} {F : Nat} {l0 : Nat} {l1 : Int32} {l2 : Nat} {l3 : Int32} {res : (Int32) × CS} (bl0 : cob σ 10 l0) (bl2 : cob σ 9 l2) (h : k_Machine_admit_9_1 F σ l0 l1 l2 l3 = some res) : cCo E cQ1 pF (d + 11) 76 [.ref (coa E 10 l0), .int l1, .ref (caa E 9 l2 1), .int l3] (some (.int res.1)) res.2 g σ :=
  cCo_R kk_76 mo_76 ni_76 xm_76 (Nat.le_of_ble_eq_true rfl) (hp0 76 (by decide) _) (k_Machine_admit_9_1_b0_ok hp0 hL hF g _ σ l0 l1 l2 l3 bl0 bl2 rfl rfl rfl rfl _ h)
/-! k_Server_apply (123), depth 14 -/
def k_Server_apply_b235 (F : Nat) (K10 : CS → Nat → Int32 → Option (CS)) (σ : CS) (l0 : Nat) (l1 : Int32) : Option (CS) :=
  K10 σ l0 (l1 + (1 : Int32))
set_option maxRecDepth 4000 in
theorem k_Server_apply_b235_ok {E : CE} {pF : Nat → List Value → xH → Option (Option Value × xH)} (hp0 : xNPc pF) (hL : lcAll E pF) (hF : lcF pF) {d : Nat} {F : Nat} {K10 : CS → Nat → Int32 → Option (CS)} (hK10 : ∀ (g : CG) (lv : xL) (σ : CS) (l0 : Nat) (l1 : Int32), (cob σ 13 l0) → (xg lv 0 = some (.ref (coa E 13 l0))) → (xg lv 1 = some (.int l1)) → ∀ res, K10 σ l0 l1 = some res → cR E (cQx [13, 14]) pF (d + 13) kT123 13 6 none none res g σ (10, lv, [])) : ∀ (g : CG) (lv : xL) (σ : CS) (l0 : Nat) (l1 : Int32), (cob σ 13 l0) → (xg lv 0 = some (.ref (coa E 13 l0))) → (xg lv 1 = some (.int l1)) → ∀ res, k_Server_apply_b235 F K10 σ l0 l1 = some res → cR E (cQx [13, 14]) pF (d + 13) kT123 13 6 none none res g σ (235, lv, []) := by
  intro g lv σ l0 l1 bl0 g0 g1 res h
  unfold k_Server_apply_b235 at h
  refine cR_inc (j := 1) (v := l1 + (1 : Int32)) lk123_235 g1 rfl (by decide) (fun vq1 gq2 kq3 => ?_)
  have gq4 := kq3 0 _ (by decide) (fun _ => rfl) g0
  refine cR_lift (fun _ _ kk => eE_goto (t := 10) lk123_238 (by decide) kk) ?_
  exact hK10 g vq1 σ l0 (l1 + (1 : Int32)) bl0 gq4 gq2 _ h
def k_Server_apply_b176 (F : Nat) (K10 : CS → Nat → Int32 → Option (CS)) (σ : CS) (l0 : Nat) (l1 : Int32) (l3 : Int32) (l4 : Int32) : Option (CS) :=
  if xc0 .eq l4 = true then (
    k_Server_apply_b235 F K10 σ l0 l1
  ) else (
    if xc2 .eq (cI σ 10 l0 12 0) ((-1 : Int32)) = true then (
      k_Server_apply_b235 F K10 σ l0 l1
    ) else (
      (crd σ 12 l0 1 l3).bind fun x7 =>
      (crd σ 12 l0 2 l3).bind fun x9 =>
      (k_Server_reply F σ l0 x7 x9 (cI σ 10 l0 12 0) (cI σ 10 l0 13 0) (cI σ 10 l0 11 0)).bind fun p11 =>
      k_Server_apply_b235 F K10 p11 l0 l1
    )
  )
set_option maxRecDepth 4000 in
theorem k_Server_apply_b176_ok {E : CE} {pF : Nat → List Value → xH → Option (Option Value × xH)} (hp0 : xNPc pF) (hL : lcAll E pF) (hF : lcF pF) {d : Nat} {F : Nat} {K10 : CS → Nat → Int32 → Option (CS)} (hK10 : ∀ (g : CG) (lv : xL) (σ : CS) (l0 : Nat) (l1 : Int32), (cob σ 13 l0) → (xg lv 0 = some (.ref (coa E 13 l0))) → (xg lv 1 = some (.int l1)) → ∀ res, K10 σ l0 l1 = some res → cR E (cQx [13, 14]) pF (d + 13) kT123 13 6 none none res g σ (10, lv, [])) : ∀ (g : CG) (lv : xL) (σ : CS) (l0 : Nat) (l1 : Int32) (l3 : Int32) (l4 : Int32), (cob σ 13 l0) → (xg lv 0 = some (.ref (coa E 13 l0))) → (xg lv 1 = some (.int l1)) → (xg lv 3 = some (.int l3)) → (xg lv 4 = some (.int l4)) → ∀ res, k_Server_apply_b176 F K10 σ l0 l1 l3 l4 = some res → cR E (cQx [13, 14]) pF (d + 13) kT123 13 6 none none res g σ (176, lv, []) := by
  intro g lv σ l0 l1 l3 l4 bl0 g0 g1 g3 g4 res h
  unfold k_Server_apply_b176 at h
  refine cR_lift (fun _ _ kk => eE_iload lk123_176 g4 kk) ?_
  refine cR_if (t := 235) lk123_178 (by decide) (fun c5 => ?_) (fun c5 => ?_)
  · rw [if_pos c5] at h
    exact k_Server_apply_b235_ok hp0 hL hF hK10 g lv σ l0 l1 bl0 g0 g1 _ h
  · rw [if_neg c5] at h
    refine cR_lift (fun _ _ kk => eE_aload_n lk123_181 g0 kk) ?_
    refine cR_getO (cl' := 10) (i' := l0) lk123_182 rf_13_81 rfl rfl bl0 ?_
    refine cR_getI lk123_185 rf_13_580 rfl (cob_s (cl := 10) bl0 (by decide) rfl rfl) ?_
    refine cR_lift (fun _ _ kk => eE_iconst (v := (-1)) lk123_188 (by decide) kk) ?_
    refine cR_icmp (t := 235) lk123_189 (by decide) (fun c6 => ?_) (fun c6 => ?_)
    · rw [if_pos c6] at h
      exact k_Server_apply_b235_ok hp0 hL hF hK10 g lv σ l0 l1 bl0 g0 g1 _ h
    · rw [if_neg c6] at h
      refine cR_lift (fun _ _ kk => eE_aload_n lk123_192 g0 kk) ?_
      refine cR_lift (fun _ _ kk => eE_aload_n lk123_193 g0 kk) ?_
      refine cR_getO (cl' := 12) (i' := l0) lk123_194 rf_13_28 rfl rfl bl0 ?_
      refine cR_getA lk123_197 rf_13_583 (by decide) (cob_s (cl := 12) bl0 (by decide) rfl rfl) ?_
      refine cR_lift (fun _ _ kk => eE_iload_n lk123_200 g3 kk) ?_
      obtain ⟨x7, h8, h⟩ := Option.bind_eq_some_iff.mp h
      refine cR_iald (cl := 12) (i := l0) (f := 1) lk123_201 (by decide) rfl (cob_s (cl := 12) bl0 (by decide) rfl rfl) h8 ?_
      refine cR_lift (fun _ _ kk => eE_aload_n lk123_202 g0 kk) ?_
      refine cR_getO (cl' := 12) (i' := l0) lk123_203 rf_13_28 rfl rfl bl0 ?_
      refine cR_getA lk123_206 rf_13_586 (by decide) (cob_s (cl := 12) bl0 (by decide) rfl rfl) ?_
      refine cR_lift (fun _ _ kk => eE_iload_n lk123_209 g3 kk) ?_
      obtain ⟨x9, h10, h⟩ := Option.bind_eq_some_iff.mp h
      refine cR_iald (cl := 12) (i := l0) (f := 2) lk123_210 (by decide) rfl (cob_s (cl := 12) bl0 (by decide) rfl rfl) h10 ?_
      refine cR_lift (fun _ _ kk => eE_aload_n lk123_211 g0 kk) ?_
      refine cR_getO (cl' := 10) (i' := l0) lk123_212 rf_13_81 rfl rfl bl0 ?_
      refine cR_getI lk123_215 rf_13_580 rfl (cob_s (cl := 10) bl0 (by decide) rfl rfl) ?_
      refine cR_lift (fun _ _ kk => eE_aload_n lk123_218 g0 kk) ?_
      refine cR_getO (cl' := 10) (i' := l0) lk123_219 rf_13_81 rfl rfl bl0 ?_
      refine cR_getI lk123_222 rf_13_589 rfl (cob_s (cl := 10) bl0 (by decide) rfl rfl) ?_
      refine cR_lift (fun _ _ kk => eE_aload_n lk123_225 g0 kk) ?_
      refine cR_getO (cl' := 10) (i' := l0) lk123_226 rf_13_81 rfl rfl bl0 ?_
      refine cR_getI lk123_229 rf_13_592 rfl (cob_s (cl := 10) bl0 (by decide) rfl rfl) ?_
      obtain ⟨p11, h12, h⟩ := Option.bind_eq_some_iff.mp h
      refine cR_virtG (by exact cQx_sub rfl) (cl := 13) (i := l0) (as := [.int x7, .int x9, .int (cI σ 10 l0 12 0), .int (cI σ 10 l0 13 0), .int (cI σ 10 l0 11 0)]) lk123_232 mr_13_542 na_155 rfl rfl (by first | exact Nat.le_of_ble_eq_true rfl | (simp [xcat, cvo_cat, cat_i, cat_j, cat_r]; done)) wv_155 wc_155 bl0 (k_Server_reply_ok hp0 hL hF (d := d + 0) bl0 h12) (fun m13 g_14 g_14e => ?_)
      exact k_Server_apply_b235_ok hp0 hL hF hK10 g_14 lv p11 l0 l1 (cob_any rfl bl0) g0 g1 _ h
def k_Server_apply_b106 (F : Nat) (K10 : CS → Nat → Int32 → Option (CS)) (σ : CS) (l0 : Nat) (l1 : Int32) (l2 : Int32) (l3 : Int32) (l4 : Int32) : Option (CS) :=
  (crd σ 9 l0 1 (l2 + ((1 : Int32)))).bind fun x15 =>
  if xc2 .ne x15 ((2 : Int32)) = true then (
    k_Server_apply_b235 F K10 σ l0 l1
  ) else (
    (k_Machine_admit_9_1 F σ l0 l1 l0 l2).bind fun p18 =>
    if xc2 .eq p18.1 ((-1 : Int32)) = true then (
      k_Server_apply_b176 F K10 p18.2 l0 l1 l3 l4
    ) else (
      (crd p18.2 9 l0 1 (l2 + ((4 : Int32)))).bind fun x30 =>
      (crd p18.2 9 l0 1 (l2 + ((5 : Int32)))).bind fun x32 =>
      (k_Machine_operate F p18.2 l0 p18.1 x30 x32).bind fun p34 =>
      k_Server_apply_b176 F K10 p34 l0 l1 l3 l4
    )
  )
set_option maxRecDepth 4000 in
theorem k_Server_apply_b106_ok {E : CE} {pF : Nat → List Value → xH → Option (Option Value × xH)} (hp0 : xNPc pF) (hL : lcAll E pF) (hF : lcF pF) {d : Nat} {F : Nat} {K10 : CS → Nat → Int32 → Option (CS)} (hK10 : ∀ (g : CG) (lv : xL) (σ : CS) (l0 : Nat) (l1 : Int32), (cob σ 13 l0) → (xg lv 0 = some (.ref (coa E 13 l0))) → (xg lv 1 = some (.int l1)) → ∀ res, K10 σ l0 l1 = some res → cR E (cQx [13, 14]) pF (d + 13) kT123 13 6 none none res g σ (10, lv, [])) : ∀ (g : CG) (lv : xL) (σ : CS) (l0 : Nat) (l1 : Int32) (l2 : Int32) (l3 : Int32) (l4 : Int32), (cob σ 13 l0) → (xg lv 0 = some (.ref (coa E 13 l0))) → (xg lv 1 = some (.int l1)) → (xg lv 2 = some (.int l2)) → (xg lv 3 = some (.int l3)) → (xg lv 4 = some (.int l4)) → ∀ res, k_Server_apply_b106 F K10 σ l0 l1 l2 l3 l4 = some res → cR E (cQx [13, 14]) pF (d + 13) kT123 13 6 none none res g σ (106, lv, []) := by
  intro g lv σ l0 l1 l2 l3 l4 bl0 g0 g1 g2 g3 g4 res h
  unfold k_Server_apply_b106 at h
  refine cR_lift (fun _ _ kk => eE_aload_n lk123_106 g0 kk) ?_
  refine cR_getO (cl' := 9) (i' := l0) lk123_107 rf_13_72 rfl rfl bl0 ?_
  refine cR_getA lk123_110 rf_13_405 (by decide) (cob_s (cl := 9) bl0 (by decide) rfl rfl) ?_
  refine cR_lift (fun _ _ kk => eE_iload_n lk123_113 g2 kk) ?_
  refine cR_lift (fun _ _ kk => eE_iconst (v := 1) lk123_114 (by decide) kk) ?_
  refine cR_lift (fun _ _ kk => eE_iadd lk123_115 kk) ?_
  obtain ⟨x15, h16, h⟩ := Option.bind_eq_some_iff.mp h
  refine cR_iald (cl := 9) (i := l0) (f := 1) lk123_116 (by decide) rfl (cob_s (cl := 9) bl0 (by decide) rfl rfl) h16 ?_
  refine cR_lift (fun _ _ kk => eE_iconst (v := 2) lk123_117 (by decide) kk) ?_
  refine cR_icmp (t := 235) lk123_118 (by decide) (fun c17 => ?_) (fun c17 => ?_)
  · rw [if_pos c17] at h
    exact k_Server_apply_b235_ok hp0 hL hF hK10 g lv σ l0 l1 bl0 g0 g1 _ h
  · rw [if_neg c17] at h
    refine cR_lift (fun _ _ kk => eE_aload_n lk123_121 g0 kk) ?_
    refine cR_getO (cl' := 10) (i' := l0) lk123_122 rf_13_81 rfl rfl bl0 ?_
    refine cR_lift (fun _ _ kk => eE_iload_n lk123_125 g1 kk) ?_
    refine cR_lift (fun _ _ kk => eE_aload_n lk123_126 g0 kk) ?_
    refine cR_getO (cl' := 9) (i' := l0) lk123_127 rf_13_72 rfl rfl bl0 ?_
    refine cR_getA lk123_130 rf_13_405 (by decide) (cob_s (cl := 9) bl0 (by decide) rfl rfl) ?_
    refine cR_lift (fun _ _ kk => eE_iload_n lk123_133 g2 kk) ?_
    obtain ⟨p18, h19, h⟩ := Option.bind_eq_some_iff.mp h
    refine cR_virt (cl := 10) (i := l0) (as := [.int l1, .ref (caa E 9 l0 1), .int l2]) lk123_134 mr_13_573 na_76 rfl rfl (by first | exact Nat.le_of_ble_eq_true rfl | (simp [xcat, cvo_cat, cat_i, cat_j, cat_r]; done)) wv_76 wc_76 (cob_s (cl := 10) bl0 (by decide) rfl rfl) (k_Machine_admit_9_1_ok hp0 hL hF (d := d + 2) (cob_s (cl := 10) bl0 (by decide) rfl rfl) (cob_s (cl := 9) bl0 (by decide) rfl rfl) h19) (fun m20  => ?_)
    refine cR_stI (j := 5) lk123_137 (Or.inl rfl) (by decide) (fun vq21 gq22 kq23 => ?_)
    have gq24 := kq23 0 _ (by decide) (fun e => absurd e (by decide)) g0
    have gq25 := kq23 1 _ (by decide) (fun e => absurd e (by decide)) g1
    have gq26 := kq23 2 _ (by decide) (fun e => absurd e (by decide)) g2
    have gq27 := kq23 3 _ (by decide) (fun e => absurd e (by decide)) g3
    have gq28 := kq23 4 _ (by decide) (fun _ => rfl) g4
    refine cR_lift (fun _ _ kk => eE_iload lk123_139 gq22 kk) ?_
    refine cR_lift (fun _ _ kk => eE_iconst (v := (-1)) lk123_141 (by decide) kk) ?_
    refine cR_icmp (t := 176) lk123_142 (by decide) (fun c29 => ?_) (fun c29 => ?_)
    · rw [if_pos c29] at h
      exact k_Server_apply_b176_ok hp0 hL hF hK10 g vq21 p18.2 l0 l1 l3 l4 (cob_any rfl bl0) gq24 gq25 gq27 gq28 _ h
    · rw [if_neg c29] at h
      refine cR_lift (fun _ _ kk => eE_aload_n lk123_145 gq24 kk) ?_
      refine cR_getO (cl' := 10) (i' := l0) lk123_146 rf_13_81 rfl rfl (cob_any rfl bl0) ?_
      refine cR_lift (fun _ _ kk => eE_iload lk123_149 gq22 kk) ?_
      refine cR_lift (fun _ _ kk => eE_aload_n lk123_151 gq24 kk) ?_
      refine cR_getO (cl' := 9) (i' := l0) lk123_152 rf_13_72 rfl rfl (cob_any rfl bl0) ?_
      refine cR_getA lk123_155 rf_13_405 (by decide) (cob_s (cl := 9) (cob_any rfl bl0) (by decide) rfl rfl) ?_
      refine cR_lift (fun _ _ kk => eE_iload_n lk123_158 gq26 kk) ?_
      refine cR_lift (fun _ _ kk => eE_iconst (v := 4) lk123_159 (by decide) kk) ?_
      refine cR_lift (fun _ _ kk => eE_iadd lk123_160 kk) ?_
      obtain ⟨x30, h31, h⟩ := Option.bind_eq_some_iff.mp h
      refine cR_iald (cl := 9) (i := l0) (f := 1) lk123_161 (by decide) rfl (cob_s (cl := 9) (cob_any rfl bl0) (by decide) rfl rfl) h31 ?_
      refine cR_lift (fun _ _ kk => eE_aload_n lk123_162 gq24 kk) ?_
      refine cR_getO (cl' := 9) (i' := l0) lk123_163 rf_13_72 rfl rfl (cob_any rfl bl0) ?_
      refine cR_getA lk123_166 rf_13_405 (by decide) (cob_s (cl := 9) (cob_any rfl bl0) (by decide) rfl rfl) ?_
      refine cR_lift (fun _ _ kk => eE_iload_n lk123_169 gq26 kk) ?_
      refine cR_lift (fun _ _ kk => eE_iconst (v := 5) lk123_170 (by decide) kk) ?_
      refine cR_lift (fun _ _ kk => eE_iadd lk123_171 kk) ?_
      obtain ⟨x32, h33, h⟩ := Option.bind_eq_some_iff.mp h
      refine cR_iald (cl := 9) (i := l0) (f := 1) lk123_172 (by decide) rfl (cob_s (cl := 9) (cob_any rfl bl0) (by decide) rfl rfl) h33 ?_
      obtain ⟨p34, h35, h⟩ := Option.bind_eq_some_iff.mp h
      refine cR_virt (cl := 10) (i := l0) (as := [.int p18.1, .int x30, .int x32]) lk123_173 mr_13_577 na_94 rfl rfl (by first | exact Nat.le_of_ble_eq_true rfl | (simp [xcat, cvo_cat, cat_i, cat_j, cat_r]; done)) wv_94 wc_94 (cob_s (cl := 10) (cob_any rfl bl0) (by decide) rfl rfl) (k_Machine_operate_ok hp0 hL hF (d := d + 9) (cob_s (cl := 10) (cob_any rfl bl0) (by decide) rfl rfl) h35) (fun m36  => ?_)
      exact k_Server_apply_b176_ok hp0 hL hF hK10 g vq21 p34 l0 l1 l3 l4 (cob_any rfl bl0) gq24 gq25 gq27 gq28 _ h
def k_Server_apply_b91 (F : Nat) (K10 : CS → Nat → Int32 → Option (CS)) (σ : CS) (s0 : Int32) (l0 : Nat) (l1 : Int32) (l2 : Int32) (l3 : Int32) : Option (CS) :=
  if xc2 .eq l3 ((-1 : Int32)) = true then (
    k_Server_apply_b106 F K10 σ l0 l1 l2 l3 s0
  ) else (
    (k_Requests_drop σ l0 l3).bind fun p45 =>
    k_Server_apply_b106 F K10 p45 l0 l1 l2 l3 s0
  )
set_option maxRecDepth 4000 in
theorem k_Server_apply_b91_ok {E : CE} {pF : Nat → List Value → xH → Option (Option Value × xH)} (hp0 : xNPc pF) (hL : lcAll E pF) (hF : lcF pF) {d : Nat} {F : Nat} {K10 : CS → Nat → Int32 → Option (CS)} (hK10 : ∀ (g : CG) (lv : xL) (σ : CS) (l0 : Nat) (l1 : Int32), (cob σ 13 l0) → (xg lv 0 = some (.ref (coa E 13 l0))) → (xg lv 1 = some (.int l1)) → ∀ res, K10 σ l0 l1 = some res → cR E (cQx [13, 14]) pF (d + 13) kT123 13 6 none none res g σ (10, lv, [])) : ∀ (g : CG) (lv : xL) (σ : CS) (s0 : Int32) (l0 : Nat) (l1 : Int32) (l2 : Int32) (l3 : Int32), (cob σ 13 l0) → (xg lv 0 = some (.ref (coa E 13 l0))) → (xg lv 1 = some (.int l1)) → (xg lv 2 = some (.int l2)) → (xg lv 3 = some (.int l3)) → ∀ res, k_Server_apply_b91 F K10 σ s0 l0 l1 l2 l3 = some res → cR E (cQx [13, 14]) pF (d + 13) kT123 13 6 none none res g σ (91, lv, [.int s0]) := by
  intro g lv σ s0 l0 l1 l2 l3 bl0 g0 g1 g2 g3 res h
  unfold k_Server_apply_b91 at h
  refine cR_stI (j := 4) lk123_91 (Or.inl rfl) (by decide) (fun vq37 gq38 kq39 => ?_)
  have gq40 := kq39 0 _ (by decide) (fun e => absurd e (by decide)) g0
  have gq41 := kq39 1 _ (by decide) (fun e => absurd e (by decide)) g1
  have gq42 := kq39 2 _ (by decide) (fun e => absurd e (by decide)) g2
  have gq43 := kq39 3 _ (by decide) (fun _ => rfl) g3
  refine cR_lift (fun _ _ kk => eE_iload_n lk123_93 gq43 kk) ?_
  refine cR_lift (fun _ _ kk => eE_iconst (v := (-1)) lk123_94 (by decide) kk) ?_
  refine cR_icmp (t := 106) lk123_95 (by decide) (fun c44 => ?_) (fun c44 => ?_)
  · rw [if_pos c44] at h
    exact k_Server_apply_b106_ok hp0 hL hF hK10 g vq37 σ l0 l1 l2 l3 s0 bl0 gq40 gq41 gq42 gq43 gq38 _ h
  · rw [if_neg c44] at h
    refine cR_lift (fun _ _ kk => eE_aload_n lk123_98 gq40 kk) ?_
    refine cR_getO (cl' := 12) (i' := l0) lk123_99 rf_13_28 rfl rfl bl0 ?_
    refine cR_lift (fun _ _ kk => eE_iload_n lk123_102 gq43 kk) ?_
    obtain ⟨p45, h46, h⟩ := Option.bind_eq_some_iff.mp h
    refine cR_virt (cl := 12) (i := l0) (as := [.int l3]) lk123_103 mr_13_570 na_116 rfl rfl (by first | exact Nat.le_of_ble_eq_true rfl | (simp [xcat, cvo_cat, cat_i, cat_j, cat_r]; done)) wv_116 wc_116 (cob_s (cl := 12) bl0 (by decide) rfl rfl) (k_Requests_drop_ok hp0 hL hF (d := d + 12) (cob_s (cl := 12) bl0 (by decide) rfl rfl) h46) (fun m47  => ?_)
    exact k_Server_apply_b106_ok hp0 hL hF hK10 g vq37 p45 l0 l1 l2 l3 s0 (cob_any rfl bl0) gq40 gq41 gq42 gq43 gq38 _ h
def k_Server_apply_b90 (F : Nat) (K10 : CS → Nat → Int32 → Option (CS)) (σ : CS) (l0 : Nat) (l1 : Int32) (l2 : Int32) (l3 : Int32) : Option (CS) :=
  k_Server_apply_b91 F K10 σ ((0 : Int32)) l0 l1 l2 l3
set_option maxRecDepth 4000 in
theorem k_Server_apply_b90_ok {E : CE} {pF : Nat → List Value → xH → Option (Option Value × xH)} (hp0 : xNPc pF) (hL : lcAll E pF) (hF : lcF pF) {d : Nat} {F : Nat} {K10 : CS → Nat → Int32 → Option (CS)} (hK10 : ∀ (g : CG) (lv : xL) (σ : CS) (l0 : Nat) (l1 : Int32), (cob σ 13 l0) → (xg lv 0 = some (.ref (coa E 13 l0))) → (xg lv 1 = some (.int l1)) → ∀ res, K10 σ l0 l1 = some res → cR E (cQx [13, 14]) pF (d + 13) kT123 13 6 none none res g σ (10, lv, [])) : ∀ (g : CG) (lv : xL) (σ : CS) (l0 : Nat) (l1 : Int32) (l2 : Int32) (l3 : Int32), (cob σ 13 l0) → (xg lv 0 = some (.ref (coa E 13 l0))) → (xg lv 1 = some (.int l1)) → (xg lv 2 = some (.int l2)) → (xg lv 3 = some (.int l3)) → ∀ res, k_Server_apply_b90 F K10 σ l0 l1 l2 l3 = some res → cR E (cQx [13, 14]) pF (d + 13) kT123 13 6 none none res g σ (90, lv, []) := by
  intro g lv σ l0 l1 l2 l3 bl0 g0 g1 g2 g3 res h
  unfold k_Server_apply_b90 at h
  refine cR_lift (fun _ _ kk => eE_iconst (v := 0) lk123_90 (by decide) kk) ?_
  exact k_Server_apply_b91_ok hp0 hL hF hK10 g lv σ ((0 : Int32)) l0 l1 l2 l3 bl0 g0 g1 g2 g3 _ h
def k_Server_apply_b241 (F : Nat)  (σ : CS) : Option (CS) :=
  some σ
set_option maxRecDepth 4000 in
theorem k_Server_apply_b241_ok {E : CE} {pF : Nat → List Value → xH → Option (Option Value × xH)} (hp0 : xNPc pF) (hL : lcAll E pF) (hF : lcF pF) {d : Nat} {F : Nat}   : ∀ (g : CG) (lv : xL) (σ : CS), ∀ res, k_Server_apply_b241 F  σ = some res → cR E (cQx [13, 14]) pF (d + 13) kT123 13 6 none none res g σ (241, lv, []) := by
  intro g lv σ res h
  unfold k_Server_apply_b241 at h
  cases h
  exact cR_end lk123_241 rfl rfl rfl
def k_Server_apply_b10 (F : Nat)  : Nat → CS → Nat → Int32 → Option (CS)
  | 0, _, _, _ => none
  | n + 1, σ, l0, l1 =>
    let KK := k_Server_apply_b10 F  n
    if xc2 .gt l1 (cI σ 9 l0 9 0) = true then (
      k_Server_apply_b241 F  σ
    ) else (
      (k_Log_has σ l0 l1).bind fun p49 =>
      if xc0 .eq p49 = true then (
        k_Server_apply_b241 F  σ
      ) else (
        (some (csI σ 9 l0 10 0 l1)).bind fun σ53 =>
        (k_Log_at σ53 l0 l1).bind fun p55 =>
        (k_Requests_waitsFor F σ53 l0 l1).bind fun p63 =>
        if xc2 .eq p63 ((-1 : Int32)) = true then (
          k_Server_apply_b90 F KK σ53 l0 l1 p55 p63
        ) else (
          (crd σ53 12 l0 5 p63).bind fun x73 =>
          (crd σ53 9 l0 1 (p55 + ((0 : Int32)))).bind fun x75 =>
          if xc2 .ne x73 x75 = true then (
            k_Server_apply_b90 F KK σ53 l0 l1 p55 p63
          ) else (
            k_Server_apply_b91 F KK σ53 ((1 : Int32)) l0 l1 p55 p63
          )
        )
      )
    )
set_option maxRecDepth 4000 in
theorem k_Server_apply_b10_ok {E : CE} {pF : Nat → List Value → xH → Option (Option Value × xH)} (hp0 : xNPc pF) (hL : lcAll E pF) (hF : lcF pF) {d : Nat} {F : Nat}   : ∀ (n : Nat) (g : CG) (lv : xL) (σ : CS) (l0 : Nat) (l1 : Int32), (cob σ 13 l0) → (xg lv 0 = some (.ref (coa E 13 l0))) → (xg lv 1 = some (.int l1)) → ∀ res, k_Server_apply_b10 F  n σ l0 l1 = some res → cR E (cQx [13, 14]) pF (d + 13) kT123 13 6 none none res g σ (10, lv, []) := by
  intro n
  induction n with
  | zero => intro g lv σ l0 l1 bl0 g0 g1 res h; simp [k_Server_apply_b10] at h
  | succ n hKK =>
    intro g lv σ l0 l1 bl0 g0 g1 res h
    unfold k_Server_apply_b10 at h
    dsimp only at h
    refine cR_lift (fun _ _ kk => eE_iload_n lk123_10 g1 kk) ?_
    refine cR_lift (fun _ _ kk => eE_aload_n lk123_11 g0 kk) ?_
    refine cR_getO (cl' := 9) (i' := l0) lk123_12 rf_13_72 rfl rfl bl0 ?_
    refine cR_getI lk123_15 rf_13_91 rfl (cob_s (cl := 9) bl0 (by decide) rfl rfl) ?_
    refine cR_icmp (t := 241) lk123_18 (by decide) (fun c48 => ?_) (fun c48 => ?_)
    · rw [if_pos c48] at h
      exact k_Server_apply_b241_ok hp0 hL hF  g lv σ  _ h
    · rw [if_neg c48] at h
      refine cR_lift (fun _ _ kk => eE_aload_n lk123_21 g0 kk) ?_
      refine cR_getO (cl' := 9) (i' := l0) lk123_22 rf_13_72 rfl rfl bl0 ?_
      refine cR_lift (fun _ _ kk => eE_iload_n lk123_25 g1 kk) ?_
      obtain ⟨p49, h50, h⟩ := Option.bind_eq_some_iff.mp h
      refine cR_virt (cl := 9) (i := l0) (as := [.int l1]) lk123_26 mr_13_562 na_67 rfl rfl (by first | exact Nat.le_of_ble_eq_true rfl | (simp [xcat, cvo_cat, cat_i, cat_j, cat_r]; done)) wv_67 wc_67 (cob_s (cl := 9) bl0 (by decide) rfl rfl) (k_Log_has_ok hp0 hL hF (d := d + 12) (cob_s (cl := 9) bl0 (by decide) rfl rfl) h50) (fun m51  => ?_)
      refine cR_if (t := 241) lk123_29 (by decide) (fun c52 => ?_) (fun c52 => ?_)
      · rw [if_pos c52] at h
        exact k_Server_apply_b241_ok hp0 hL hF  g lv σ  _ h
      · rw [if_neg c52] at h
        refine cR_lift (fun _ _ kk => eE_aload_n lk123_32 g0 kk) ?_
        refine cR_getO (cl' := 9) (i' := l0) lk123_33 rf_13_72 rfl rfl bl0 ?_
        refine cR_lift (fun _ _ kk => eE_iload_n lk123_36 g1 kk) ?_
        obtain ⟨σ53, h54, h⟩ := Option.bind_eq_some_iff.mp h
        refine cR_putI lk123_37 rf_13_94 rfl (cob_s (cl := 9) bl0 (by decide) rfl rfl) pf_9_10 rfl h54 ?_
        refine cR_lift (fun _ _ kk => eE_aload_n lk123_40 g0 kk) ?_
        refine cR_getO (cl' := 9) (i' := l0) lk123_41 rf_13_72 rfl rfl (cob_any rfl bl0) ?_
        refine cR_lift (fun _ _ kk => eE_iload_n lk123_44 g1 kk) ?_
        obtain ⟨p55, h56, h⟩ := Option.bind_eq_some_iff.mp h
        refine cR_virt (cl := 9) (i := l0) (as := [.int l1]) lk123_45 mr_13_406 na_63 rfl rfl (by first | exact Nat.le_of_ble_eq_true rfl | (simp [xcat, cvo_cat, cat_i, cat_j, cat_r]; done)) wv_63 wc_63 (cob_s (cl := 9) (cob_any rfl bl0) (by decide) rfl rfl) (k_Log_at_ok hp0 hL hF (d := d + 12) (cob_s (cl := 9) (cob_any rfl bl0) (by decide) rfl rfl) h56) (fun m57  => ?_)
        refine cR_stI (j := 2) lk123_48 (Or.inr ⟨_, rfl, rfl⟩) (by decide) (fun vq58 gq59 kq60 => ?_)
        have gq61 := kq60 0 _ (by decide) (fun e => absurd e (by decide)) g0
        have gq62 := kq60 1 _ (by decide) (fun _ => rfl) g1
        refine cR_lift (fun _ _ kk => eE_aload_n lk123_49 gq61 kk) ?_
        refine cR_getO (cl' := 12) (i' := l0) lk123_50 rf_13_28 rfl rfl (cob_any rfl bl0) ?_
        refine cR_lift (fun _ _ kk => eE_iload_n lk123_53 gq62 kk) ?_
        obtain ⟨p63, h64, h⟩ := Option.bind_eq_some_iff.mp h
        refine cR_virt (cl := 12) (i := l0) (as := [.int l1]) lk123_54 mr_13_565 na_120 rfl rfl (by first | exact Nat.le_of_ble_eq_true rfl | (simp [xcat, cvo_cat, cat_i, cat_j, cat_r]; done)) wv_120 wc_120 (cob_s (cl := 12) (cob_any rfl bl0) (by decide) rfl rfl) (k_Requests_waitsFor_ok hp0 hL hF (d := d + 12) (cob_s (cl := 12) (cob_any rfl bl0) (by decide) rfl rfl) h64) (fun m65  => ?_)
        refine cR_stI (j := 3) lk123_57 (Or.inr ⟨_, rfl, rfl⟩) (by decide) (fun vq66 gq67 kq68 => ?_)
        have gq69 := kq68 0 _ (by decide) (fun e => absurd e (by decide)) gq61
        have gq70 := kq68 1 _ (by decide) (fun e => absurd e (by decide)) gq62
        have gq71 := kq68 2 _ (by decide) (fun _ => rfl) gq59
        refine cR_lift (fun _ _ kk => eE_iload_n lk123_58 gq67 kk) ?_
        refine cR_lift (fun _ _ kk => eE_iconst (v := (-1)) lk123_59 (by decide) kk) ?_
        refine cR_icmp (t := 90) lk123_60 (by decide) (fun c72 => ?_) (fun c72 => ?_)
        · rw [if_pos c72] at h
          exact k_Server_apply_b90_ok hp0 hL hF hKK g vq66 σ53 l0 l1 p55 p63 (cob_any rfl bl0) gq69 gq70 gq71 gq67 _ h
        · rw [if_neg c72] at h
          refine cR_lift (fun _ _ kk => eE_aload_n lk123_63 gq69 kk) ?_
          refine cR_getO (cl' := 12) (i' := l0) lk123_64 rf_13_28 rfl rfl (cob_any rfl bl0) ?_
          refine cR_getA lk123_67 rf_13_568 (by decide) (cob_s (cl := 12) (cob_any rfl bl0) (by decide) rfl rfl) ?_
          refine cR_lift (fun _ _ kk => eE_iload_n lk123_70 gq67 kk) ?_
          obtain ⟨x73, h74, h⟩ := Option.bind_eq_some_iff.mp h
          refine cR_iald (cl := 12) (i := l0) (f := 5) lk123_71 (by decide) rfl (cob_s (cl := 12) (cob_any rfl bl0) (by decide) rfl rfl) h74 ?_
          refine cR_lift (fun _ _ kk => eE_aload_n lk123_72 gq69 kk) ?_
          refine cR_getO (cl' := 9) (i' := l0) lk123_73 rf_13_72 rfl rfl (cob_any rfl bl0) ?_
          refine cR_getA lk123_76 rf_13_405 (by decide) (cob_s (cl := 9) (cob_any rfl bl0) (by decide) rfl rfl) ?_
          refine cR_lift (fun _ _ kk => eE_iload_n lk123_79 gq71 kk) ?_
          refine cR_lift (fun _ _ kk => eE_iconst (v := 0) lk123_80 (by decide) kk) ?_
          refine cR_lift (fun _ _ kk => eE_iadd lk123_81 kk) ?_
          obtain ⟨x75, h76, h⟩ := Option.bind_eq_some_iff.mp h
          refine cR_iald (cl := 9) (i := l0) (f := 1) lk123_82 (by decide) rfl (cob_s (cl := 9) (cob_any rfl bl0) (by decide) rfl rfl) h76 ?_
          refine cR_icmp (t := 90) lk123_83 (by decide) (fun c77 => ?_) (fun c77 => ?_)
          · rw [if_pos c77] at h
            exact k_Server_apply_b90_ok hp0 hL hF hKK g vq66 σ53 l0 l1 p55 p63 (cob_any rfl bl0) gq69 gq70 gq71 gq67 _ h
          · rw [if_neg c77] at h
            refine cR_lift (fun _ _ kk => eE_iconst (v := 1) lk123_86 (by decide) kk) ?_
            refine cR_lift (fun _ _ kk => eE_goto (t := 91) lk123_87 (by decide) kk) ?_
            exact k_Server_apply_b91_ok hp0 hL hF hKK g vq66 σ53 ((1 : Int32)) l0 l1 p55 p63 (cob_any rfl bl0) gq69 gq70 gq71 gq67 _ h
def k_Server_apply_b0 (F : Nat)  (σ : CS) (l0 : Nat) : Option (CS) :=
  k_Server_apply_b10 F  F σ l0 ((cI σ 9 l0 10 0) + ((1 : Int32)))
set_option maxRecDepth 4000 in
theorem k_Server_apply_b0_ok {E : CE} {pF : Nat → List Value → xH → Option (Option Value × xH)} (hp0 : xNPc pF) (hL : lcAll E pF) (hF : lcF pF) {d : Nat} {F : Nat}   : ∀ (g : CG) (lv : xL) (σ : CS) (l0 : Nat), (cob σ 13 l0) → (xg lv 0 = some (.ref (coa E 13 l0))) → ∀ res, k_Server_apply_b0 F  σ l0 = some res → cR E (cQx [13, 14]) pF (d + 13) kT123 13 6 none none res g σ (0, lv, []) := by
  intro g lv σ l0 bl0 g0 res h
  unfold k_Server_apply_b0 at h
  refine cR_lift (fun _ _ kk => eE_aload_n lk123_0 g0 kk) ?_
  refine cR_getO (cl' := 9) (i' := l0) lk123_1 rf_13_72 rfl rfl bl0 ?_
  refine cR_getI lk123_4 rf_13_94 rfl (cob_s (cl := 9) bl0 (by decide) rfl rfl) ?_
  refine cR_lift (fun _ _ kk => eE_iconst (v := 1) lk123_7 (by decide) kk) ?_
  refine cR_lift (fun _ _ kk => eE_iadd lk123_8 kk) ?_
  refine cR_stI (j := 1) lk123_9 (Or.inr ⟨_, rfl, rfl⟩) (by decide) (fun vq78 gq79 kq80 => ?_)
  have gq81 := kq80 0 _ (by decide) (fun _ => rfl) g0
  exact k_Server_apply_b10_ok hp0 hL hF  F g vq78 σ l0 ((cI σ 9 l0 10 0) + ((1 : Int32))) bl0 gq81 gq79 _ h
def k_Server_apply (F : Nat) (σ : CS) (l0 : Nat) : Option (CS) := k_Server_apply_b0 F σ l0
theorem k_Server_apply_ok {E : CE} {pF : Nat → List Value → xH → Option (Option Value × xH)} (hp0 : xNPc pF) (hL : lcAll E pF) (hF : lcF pF) {d : Nat} {g : CG} {σ : CS} {F : Nat} {l0 : Nat} {res : CS} (bl0 : cob σ 13 l0) (h : k_Server_apply F σ l0 = some res) : cCo E (cQx [13, 14]) pF (d + 14) 123 [.ref (coa E 13 l0)] none res g σ :=
  cCo_R kk_123 mo_123 ni_123 xm_123 (Nat.le_of_ble_eq_true rfl) (hp0 123 (by decide) _) (k_Server_apply_b0_ok hp0 hL hF g _ σ l0 bl0 rfl _ h)
/-! k_Server_areKnown (124), depth 1 -/
def k_Server_areKnown_b93 (F : Nat) (K25 : CS → Nat → Int32 → Int32 → Int32 → Int32 → Option (Int32)) (σ : CS) (l0 : Nat) (l1 : Int32) (l2 : Int32) (l3 : Int32) (l4 : Int32) : Option (Int32) :=
  K25 σ l0 l1 l2 l3 (l4 + (1 : Int32))
set_option maxRecDepth 4000 in
theorem k_Server_areKnown_b93_ok {E : CE} {pF : Nat → List Value → xH → Option (Option Value × xH)} (hp0 : xNPc pF) (hL : lcAll E pF) (hF : lcF pF) {d : Nat} {F : Nat} {K25 : CS → Nat → Int32 → Int32 → Int32 → Int32 → Option (Int32)} (hK25 : ∀ (g : CG) (lv : xL) (σ : CS) (l0 : Nat) (l1 : Int32) (l2 : Int32) (l3 : Int32) (l4 : Int32), (cob σ 13 l0) → (xg lv 0 = some (.ref (coa E 13 l0))) → (xg lv 1 = some (.int l1)) → (xg lv 2 = some (.int l2)) → (xg lv 3 = some (.int l3)) → (xg lv 4 = some (.int l4)) → ∀ res, K25 σ l0 l1 l2 l3 l4 = some res → cR E cQ1 pF (d + 0) kT124 13 6 (some FieldType.boolean) (some (.int res)) σ g σ (25, lv, [])) : ∀ (g : CG) (lv : xL) (σ : CS) (l0 : Nat) (l1 : Int32) (l2 : Int32) (l3 : Int32) (l4 : Int32), (cob σ 13 l0) → (xg lv 0 = some (.ref (coa E 13 l0))) → (xg lv 1 = some (.int l1)) → (xg lv 2 = some (.int l2)) → (xg lv 3 = some (.int l3)) → (xg lv 4 = some (.int l4)) → ∀ res, k_Server_areKnown_b93 F K25 σ l0 l1 l2 l3 l4 = some res → cR E cQ1 pF (d + 0) kT124 13 6 (some FieldType.boolean) (some (.int res)) σ g σ (93, lv, []) := by
  intro g lv σ l0 l1 l2 l3 l4 bl0 g0 g1 g2 g3 g4 res h
  unfold k_Server_areKnown_b93 at h
  refine cR_inc (j := 4) (v := l4 + (1 : Int32)) lk124_93 g4 rfl (by decide) (fun vq1 gq2 kq3 => ?_)
  have gq4 := kq3 0 _ (by decide) (fun e => absurd e (by decide)) g0
  have gq5 := kq3 1 _ (by decide) (fun e => absurd e (by decide)) g1
  have gq6 := kq3 2 _ (by decide) (fun e => absurd e (by decide)) g2
  have gq7 := kq3 3 _ (by decide) (fun _ => rfl) g3
  refine cR_lift (fun _ _ kk => eE_goto (t := 25) lk124_96 (by decide) kk) ?_
  exact hK25 g vq1 σ l0 l1 l2 l3 (l4 + (1 : Int32)) bl0 gq4 gq5 gq6 gq7 gq2 _ h
def k_Server_areKnown_b66 (F : Nat) (K25 : CS → Nat → Int32 → Int32 → Int32 → Int32 → Option (Int32)) (σ : CS) (s0 : Int32) (l0 : Nat) (l1 : Int32) (l2 : Int32) (l3 : Int32) (l4 : Int32) : Option (Int32) :=
  if xc0 .eq ((l1 >>> (l4 &&& 31)) &&& ((1 : Int32))) = true then (
    k_Server_areKnown_b93 F K25 σ l0 l1 l2 l3 l4
  ) else (
    if xc0 .ne ((l2 >>> (l4 &&& 31)) &&& ((1 : Int32))) = true then (
      k_Server_areKnown_b93 F K25 σ l0 l1 l2 l3 l4
    ) else (
      if xc0 .ne s0 = true then (
        k_Server_areKnown_b93 F K25 σ l0 l1 l2 l3 l4
      ) else (
        if ((0 : Int32)) = 0 ∨ ((0 : Int32)) = 1 then some ((0 : Int32)) else none
      )
    )
  )
set_option maxRecDepth 4000 in
theorem k_Server_areKnown_b66_ok {E : CE} {pF : Nat → List Value → xH → Option (Option Value × xH)} (hp0 : xNPc pF) (hL : lcAll E pF) (hF : lcF pF) {d : Nat} {F : Nat} {K25 : CS → Nat → Int32 → Int32 → Int32 → Int32 → Option (Int32)} (hK25 : ∀ (g : CG) (lv : xL) (σ : CS) (l0 : Nat) (l1 : Int32) (l2 : Int32) (l3 : Int32) (l4 : Int32), (cob σ 13 l0) → (xg lv 0 = some (.ref (coa E 13 l0))) → (xg lv 1 = some (.int l1)) → (xg lv 2 = some (.int l2)) → (xg lv 3 = some (.int l3)) → (xg lv 4 = some (.int l4)) → ∀ res, K25 σ l0 l1 l2 l3 l4 = some res → cR E cQ1 pF (d + 0) kT124 13 6 (some FieldType.boolean) (some (.int res)) σ g σ (25, lv, [])) : ∀ (g : CG) (lv : xL) (σ : CS) (s0 : Int32) (l0 : Nat) (l1 : Int32) (l2 : Int32) (l3 : Int32) (l4 : Int32), (cob σ 13 l0) → (xg lv 0 = some (.ref (coa E 13 l0))) → (xg lv 1 = some (.int l1)) → (xg lv 2 = some (.int l2)) → (xg lv 3 = some (.int l3)) → (xg lv 4 = some (.int l4)) → ∀ res, k_Server_areKnown_b66 F K25 σ s0 l0 l1 l2 l3 l4 = some res → cR E cQ1 pF (d + 0) kT124 13 6 (some FieldType.boolean) (some (.int res)) σ g σ (66, lv, [.int s0]) := by
  intro g lv σ s0 l0 l1 l2 l3 l4 bl0 g0 g1 g2 g3 g4 res h
  unfold k_Server_areKnown_b66 at h
  refine cR_stI (j := 5) lk124_66 (Or.inl rfl) (by decide) (fun vq8 gq9 kq10 => ?_)
  have gq11 := kq10 0 _ (by decide) (fun e => absurd e (by decide)) g0
  have gq12 := kq10 1 _ (by decide) (fun e => absurd e (by decide)) g1
  have gq13 := kq10 2 _ (by decide) (fun e => absurd e (by decide)) g2
  have gq14 := kq10 3 _ (by decide) (fun e => absurd e (by decide)) g3
  have gq15 := kq10 4 _ (by decide) (fun _ => rfl) g4
  refine cR_lift (fun _ _ kk => eE_iload_n lk124_68 gq12 kk) ?_
  refine cR_lift (fun _ _ kk => eE_iload lk124_69 gq15 kk) ?_
  refine cR_lift (fun _ _ kk => eE_ishr lk124_71 kk) ?_
  refine cR_lift (fun _ _ kk => eE_iconst (v := 1) lk124_72 (by decide) kk) ?_
  refine cR_lift (fun _ _ kk => eE_iand lk124_73 kk) ?_
  refine cR_if (t := 93) lk124_74 (by decide) (fun c16 => ?_) (fun c16 => ?_)
  · rw [if_pos c16] at h
    exact k_Server_areKnown_b93_ok hp0 hL hF hK25 g vq8 σ l0 l1 l2 l3 l4 bl0 gq11 gq12 gq13 gq14 gq15 _ h
  · rw [if_neg c16] at h
    refine cR_lift (fun _ _ kk => eE_iload_n lk124_77 gq13 kk) ?_
    refine cR_lift (fun _ _ kk => eE_iload lk124_78 gq15 kk) ?_
    refine cR_lift (fun _ _ kk => eE_ishr lk124_80 kk) ?_
    refine cR_lift (fun _ _ kk => eE_iconst (v := 1) lk124_81 (by decide) kk) ?_
    refine cR_lift (fun _ _ kk => eE_iand lk124_82 kk) ?_
    refine cR_if (t := 93) lk124_83 (by decide) (fun c17 => ?_) (fun c17 => ?_)
    · rw [if_pos c17] at h
      exact k_Server_areKnown_b93_ok hp0 hL hF hK25 g vq8 σ l0 l1 l2 l3 l4 bl0 gq11 gq12 gq13 gq14 gq15 _ h
    · rw [if_neg c17] at h
      refine cR_lift (fun _ _ kk => eE_iload lk124_86 gq9 kk) ?_
      refine cR_if (t := 93) lk124_88 (by decide) (fun c18 => ?_) (fun c18 => ?_)
      · rw [if_pos c18] at h
        exact k_Server_areKnown_b93_ok hp0 hL hF hK25 g vq8 σ l0 l1 l2 l3 l4 bl0 gq11 gq12 gq13 gq14 gq15 _ h
      · rw [if_neg c18] at h
        refine cR_lift (fun _ _ kk => eE_iconst (v := 0) lk124_91 (by decide) kk) ?_
        by_cases z19 : ((0 : Int32)) = 0 ∨ ((0 : Int32)) = 1
        · rw [if_pos z19] at h; cases h
          exact cR_end lk124_92 rfl rfl (by first | (simp only [xfin, if_true, if_pos z19]; done) | simp [xfin, z19])
        · rw [if_neg z19] at h; cases h
def k_Server_areKnown_b65 (F : Nat) (K25 : CS → Nat → Int32 → Int32 → Int32 → Int32 → Option (Int32)) (σ : CS) (l0 : Nat) (l1 : Int32) (l2 : Int32) (l3 : Int32) (l4 : Int32) : Option (Int32) :=
  k_Server_areKnown_b66 F K25 σ ((0 : Int32)) l0 l1 l2 l3 l4
set_option maxRecDepth 4000 in
theorem k_Server_areKnown_b65_ok {E : CE} {pF : Nat → List Value → xH → Option (Option Value × xH)} (hp0 : xNPc pF) (hL : lcAll E pF) (hF : lcF pF) {d : Nat} {F : Nat} {K25 : CS → Nat → Int32 → Int32 → Int32 → Int32 → Option (Int32)} (hK25 : ∀ (g : CG) (lv : xL) (σ : CS) (l0 : Nat) (l1 : Int32) (l2 : Int32) (l3 : Int32) (l4 : Int32), (cob σ 13 l0) → (xg lv 0 = some (.ref (coa E 13 l0))) → (xg lv 1 = some (.int l1)) → (xg lv 2 = some (.int l2)) → (xg lv 3 = some (.int l3)) → (xg lv 4 = some (.int l4)) → ∀ res, K25 σ l0 l1 l2 l3 l4 = some res → cR E cQ1 pF (d + 0) kT124 13 6 (some FieldType.boolean) (some (.int res)) σ g σ (25, lv, [])) : ∀ (g : CG) (lv : xL) (σ : CS) (l0 : Nat) (l1 : Int32) (l2 : Int32) (l3 : Int32) (l4 : Int32), (cob σ 13 l0) → (xg lv 0 = some (.ref (coa E 13 l0))) → (xg lv 1 = some (.int l1)) → (xg lv 2 = some (.int l2)) → (xg lv 3 = some (.int l3)) → (xg lv 4 = some (.int l4)) → ∀ res, k_Server_areKnown_b65 F K25 σ l0 l1 l2 l3 l4 = some res → cR E cQ1 pF (d + 0) kT124 13 6 (some FieldType.boolean) (some (.int res)) σ g σ (65, lv, []) := by
  intro g lv σ l0 l1 l2 l3 l4 bl0 g0 g1 g2 g3 g4 res h
  unfold k_Server_areKnown_b65 at h
  refine cR_lift (fun _ _ kk => eE_iconst (v := 0) lk124_65 (by decide) kk) ?_
  exact k_Server_areKnown_b66_ok hp0 hL hF hK25 g lv σ ((0 : Int32)) l0 l1 l2 l3 l4 bl0 g0 g1 g2 g3 g4 _ h
def k_Server_areKnown_b25 (F : Nat)  : Nat → CS → Nat → Int32 → Int32 → Int32 → Int32 → Option (Int32)
  | 0, _, _, _, _, _, _ => none
  | n + 1, σ, l0, l1, l2, l3, l4 =>
    let KK := k_Server_areKnown_b25 F  n
    if xc2 .ge l4 ((7 : Int32)) = true then (
      if ((1 : Int32)) = 0 ∨ ((1 : Int32)) = 1 then some ((1 : Int32)) else none
    ) else (
      if xc0 .eq ((l3 >>> (l4 &&& 31)) &&& ((1 : Int32))) = true then (
        k_Server_areKnown_b65 F KK σ l0 l1 l2 l3 l4
      ) else (
        (crd σ 7 l0 1 l4).bind fun x23 =>
        if xc2 .lt x23 (cI σ 9 l0 9 0) = true then (
          k_Server_areKnown_b65 F KK σ l0 l1 l2 l3 l4
        ) else (
          k_Server_areKnown_b66 F KK σ ((1 : Int32)) l0 l1 l2 l3 l4
        )
      )
    )
set_option maxRecDepth 4000 in
theorem k_Server_areKnown_b25_ok {E : CE} {pF : Nat → List Value → xH → Option (Option Value × xH)} (hp0 : xNPc pF) (hL : lcAll E pF) (hF : lcF pF) {d : Nat} {F : Nat}   : ∀ (n : Nat) (g : CG) (lv : xL) (σ : CS) (l0 : Nat) (l1 : Int32) (l2 : Int32) (l3 : Int32) (l4 : Int32), (cob σ 13 l0) → (xg lv 0 = some (.ref (coa E 13 l0))) → (xg lv 1 = some (.int l1)) → (xg lv 2 = some (.int l2)) → (xg lv 3 = some (.int l3)) → (xg lv 4 = some (.int l4)) → ∀ res, k_Server_areKnown_b25 F  n σ l0 l1 l2 l3 l4 = some res → cR E cQ1 pF (d + 0) kT124 13 6 (some FieldType.boolean) (some (.int res)) σ g σ (25, lv, []) := by
  intro n
  induction n with
  | zero => intro g lv σ l0 l1 l2 l3 l4 bl0 g0 g1 g2 g3 g4 res h; simp [k_Server_areKnown_b25] at h
  | succ n hKK =>
    intro g lv σ l0 l1 l2 l3 l4 bl0 g0 g1 g2 g3 g4 res h
    unfold k_Server_areKnown_b25 at h
    dsimp only at h
    refine cR_lift (fun _ _ kk => eE_iload lk124_25 g4 kk) ?_
    refine cR_lift (fun _ _ kk => eE_bipush (v := 7) lk124_27 (by decide) kk) ?_
    refine cR_icmp (t := 99) lk124_29 (by decide) (fun c20 => ?_) (fun c20 => ?_)
    · rw [if_pos c20] at h
      refine cR_lift (fun _ _ kk => eE_iconst (v := 1) lk124_99 (by decide) kk) ?_
      by_cases z21 : ((1 : Int32)) = 0 ∨ ((1 : Int32)) = 1
      · rw [if_pos z21] at h; cases h
        exact cR_end lk124_100 rfl rfl (by first | (simp only [xfin, if_true, if_pos z21]; done) | simp [xfin, z21])
      · rw [if_neg z21] at h; cases h
    · rw [if_neg c20] at h
      refine cR_lift (fun _ _ kk => eE_iload_n lk124_32 g3 kk) ?_
      refine cR_lift (fun _ _ kk => eE_iload lk124_33 g4 kk) ?_
      refine cR_lift (fun _ _ kk => eE_ishr lk124_35 kk) ?_
      refine cR_lift (fun _ _ kk => eE_iconst (v := 1) lk124_36 (by decide) kk) ?_
      refine cR_lift (fun _ _ kk => eE_iand lk124_37 kk) ?_
      refine cR_if (t := 65) lk124_38 (by decide) (fun c22 => ?_) (fun c22 => ?_)
      · rw [if_pos c22] at h
        exact k_Server_areKnown_b65_ok hp0 hL hF hKK g lv σ l0 l1 l2 l3 l4 bl0 g0 g1 g2 g3 g4 _ h
      · rw [if_neg c22] at h
        refine cR_lift (fun _ _ kk => eE_aload_n lk124_41 g0 kk) ?_
        refine cR_getO (cl' := 7) (i' := l0) lk124_42 rf_13_21 rfl rfl bl0 ?_
        refine cR_getA lk124_45 rf_13_459 (by decide) (cob_s (cl := 7) bl0 (by decide) rfl rfl) ?_
        refine cR_lift (fun _ _ kk => eE_iload lk124_48 g4 kk) ?_
        obtain ⟨x23, h24, h⟩ := Option.bind_eq_some_iff.mp h
        refine cR_iald (cl := 7) (i := l0) (f := 1) lk124_50 (by decide) rfl (cob_s (cl := 7) bl0 (by decide) rfl rfl) h24 ?_
        refine cR_lift (fun _ _ kk => eE_aload_n lk124_51 g0 kk) ?_
        refine cR_getO (cl' := 9) (i' := l0) lk124_52 rf_13_72 rfl rfl bl0 ?_
        refine cR_getI lk124_55 rf_13_91 rfl (cob_s (cl := 9) bl0 (by decide) rfl rfl) ?_
        refine cR_icmp (t := 65) lk124_58 (by decide) (fun c25 => ?_) (fun c25 => ?_)
        · rw [if_pos c25] at h
          exact k_Server_areKnown_b65_ok hp0 hL hF hKK g lv σ l0 l1 l2 l3 l4 bl0 g0 g1 g2 g3 g4 _ h
        · rw [if_neg c25] at h
          refine cR_lift (fun _ _ kk => eE_iconst (v := 1) lk124_61 (by decide) kk) ?_
          refine cR_lift (fun _ _ kk => eE_goto (t := 66) lk124_62 (by decide) kk) ?_
          exact k_Server_areKnown_b66_ok hp0 hL hF hKK g lv σ ((1 : Int32)) l0 l1 l2 l3 l4 bl0 g0 g1 g2 g3 g4 _ h
def k_Server_areKnown_b0 (F : Nat)  (σ : CS) (l0 : Nat) (l1 : Int32) : Option (Int32) :=
  k_Server_areKnown_b25 F  F σ l0 l1 ((cI σ 9 l0 7 0) &&& ((127 : Int32))) ((cI σ 9 l0 7 0) >>> (((14 : Int32)) &&& 31)) ((0 : Int32))
set_option maxRecDepth 4000 in
theorem k_Server_areKnown_b0_ok {E : CE} {pF : Nat → List Value → xH → Option (Option Value × xH)} (hp0 : xNPc pF) (hL : lcAll E pF) (hF : lcF pF) {d : Nat} {F : Nat}   : ∀ (g : CG) (lv : xL) (σ : CS) (l0 : Nat) (l1 : Int32), (cob σ 13 l0) → (xg lv 0 = some (.ref (coa E 13 l0))) → (xg lv 1 = some (.int l1)) → ∀ res, k_Server_areKnown_b0 F  σ l0 l1 = some res → cR E cQ1 pF (d + 0) kT124 13 6 (some FieldType.boolean) (some (.int res)) σ g σ (0, lv, []) := by
  intro g lv σ l0 l1 bl0 g0 g1 res h
  unfold k_Server_areKnown_b0 at h
  refine cR_lift (fun _ _ kk => eE_aload_n lk124_0 g0 kk) ?_
  refine cR_getO (cl' := 9) (i' := l0) lk124_1 rf_13_72 rfl rfl bl0 ?_
  refine cR_getI lk124_4 rf_13_106 rfl (cob_s (cl := 9) bl0 (by decide) rfl rfl) ?_
  refine cR_lift (fun _ _ kk => eE_bipush (v := 127) lk124_7 (by decide) kk) ?_
  refine cR_lift (fun _ _ kk => eE_iand lk124_9 kk) ?_
  refine cR_stI (j := 2) lk124_10 (Or.inr ⟨_, rfl, rfl⟩) (by decide) (fun vq26 gq27 kq28 => ?_)
  have gq29 := kq28 0 _ (by decide) (fun e => absurd e (by decide)) g0
  have gq30 := kq28 1 _ (by decide) (fun _ => rfl) g1
  refine cR_lift (fun _ _ kk => eE_aload_n lk124_11 gq29 kk) ?_
  refine cR_getO (cl' := 9) (i' := l0) lk124_12 rf_13_72 rfl rfl bl0 ?_
  refine cR_getI lk124_15 rf_13_106 rfl (cob_s (cl := 9) bl0 (by decide) rfl rfl) ?_
  refine cR_lift (fun _ _ kk => eE_bipush (v := 14) lk124_18 (by decide) kk) ?_
  refine cR_lift (fun _ _ kk => eE_ishr lk124_20 kk) ?_
  refine cR_stI (j := 3) lk124_21 (Or.inr ⟨_, rfl, rfl⟩) (by decide) (fun vq31 gq32 kq33 => ?_)
  have gq34 := kq33 0 _ (by decide) (fun e => absurd e (by decide)) gq29
  have gq35 := kq33 1 _ (by decide) (fun e => absurd e (by decide)) gq30
  have gq36 := kq33 2 _ (by decide) (fun _ => rfl) gq27
  refine cR_lift (fun _ _ kk => eE_iconst (v := 0) lk124_22 (by decide) kk) ?_
  refine cR_stI (j := 4) lk124_23 (Or.inl rfl) (by decide) (fun vq37 gq38 kq39 => ?_)
  have gq40 := kq39 0 _ (by decide) (fun e => absurd e (by decide)) gq34
  have gq41 := kq39 1 _ (by decide) (fun e => absurd e (by decide)) gq35
  have gq42 := kq39 2 _ (by decide) (fun e => absurd e (by decide)) gq36
  have gq43 := kq39 3 _ (by decide) (fun _ => rfl) gq32
  exact k_Server_areKnown_b25_ok hp0 hL hF  F g vq37 σ l0 l1 ((cI σ 9 l0 7 0) &&& ((127 : Int32))) ((cI σ 9 l0 7 0) >>> (((14 : Int32)) &&& 31)) ((0 : Int32)) bl0 gq40 gq41 gq42 gq43 gq38 _ h
def k_Server_areKnown (F : Nat) (σ : CS) (l0 : Nat) (l1 : Int32) : Option (Int32) := k_Server_areKnown_b0 F σ l0 l1
theorem k_Server_areKnown_ok {E : CE} {pF : Nat → List Value → xH → Option (Option Value × xH)} (hp0 : xNPc pF) (hL : lcAll E pF) (hF : lcF pF) {d : Nat} {g : CG} {σ : CS} {F : Nat} {l0 : Nat} {l1 : Int32} {res : Int32} (bl0 : cob σ 13 l0) (h : k_Server_areKnown F σ l0 l1 = some res) : cCo E cQ1 pF (d + 1) 124 [.ref (coa E 13 l0), .int l1] (some (.int res)) σ g σ :=
  cCo_R kk_124 mo_124 ni_124 xm_124 (Nat.le_of_ble_eq_true rfl) (hp0 124 (by decide) _) (k_Server_areKnown_b0_ok hp0 hL hF g _ σ l0 l1 bl0 rfl rfl _ h)
/-! k_Server_voters (182), depth 1 -/
def k_Server_voters_b0  (σ : CS) (l0 : Nat) : Option (Int32) :=
  some (((cI σ 9 l0 7 0) ||| ((cI σ 9 l0 7 0) >>> (((7 : Int32)) &&& 31))) &&& ((127 : Int32)))
set_option maxRecDepth 4000 in
theorem k_Server_voters_b0_ok {E : CE} {pF : Nat → List Value → xH → Option (Option Value × xH)} (hp0 : xNPc pF) (hL : lcAll E pF) (hF : lcF pF) {d : Nat}   : ∀ (g : CG) (lv : xL) (σ : CS) (l0 : Nat), (cob σ 13 l0) → (xg lv 0 = some (.ref (coa E 13 l0))) → ∀ res, k_Server_voters_b0  σ l0 = some res → cR E cQ1 pF (d + 0) kT182 13 1 (some FieldType.int) (some (.int res)) σ g σ (0, lv, []) := by
  intro g lv σ l0 bl0 g0 res h
  unfold k_Server_voters_b0 at h
  refine cR_lift (fun _ _ kk => eE_aload_n lk182_0 g0 kk) ?_
  refine cR_getO (cl' := 9) (i' := l0) lk182_1 rf_13_72 rfl rfl bl0 ?_
  refine cR_getI lk182_4 rf_13_106 rfl (cob_s (cl := 9) bl0 (by decide) rfl rfl) ?_
  refine cR_lift (fun _ _ kk => eE_aload_n lk182_7 g0 kk) ?_
  refine cR_getO (cl' := 9) (i' := l0) lk182_8 rf_13_72 rfl rfl bl0 ?_
  refine cR_getI lk182_11 rf_13_106 rfl (cob_s (cl := 9) bl0 (by decide) rfl rfl) ?_
  refine cR_lift (fun _ _ kk => eE_bipush (v := 7) lk182_14 (by decide) kk) ?_
  refine cR_lift (fun _ _ kk => eE_ishr lk182_16 kk) ?_
  refine cR_lift (fun _ _ kk => eE_ior lk182_17 kk) ?_
  refine cR_lift (fun _ _ kk => eE_bipush (v := 127) lk182_18 (by decide) kk) ?_
  refine cR_lift (fun _ _ kk => eE_iand lk182_20 kk) ?_
  cases h
  exact cR_end lk182_21 rfl rfl rfl
def k_Server_voters (σ : CS) (l0 : Nat) : Option (Int32) := k_Server_voters_b0 σ l0
theorem k_Server_voters_ok {E : CE} {pF : Nat → List Value → xH → Option (Option Value × xH)} (hp0 : xNPc pF) (hL : lcAll E pF) (hF : lcF pF) {d : Nat} {g : CG} {σ : CS} {l0 : Nat} {res : Int32} (bl0 : cob σ 13 l0) (h : k_Server_voters σ l0 = some res) : cCo E cQ1 pF (d + 1) 182 [.ref (coa E 13 l0)] (some (.int res)) σ g σ :=
  cCo_R kk_182 mo_182 ni_182 xm_182 (Nat.le_of_ble_eq_true rfl) (hp0 182 (by decide) _) (k_Server_voters_b0_ok hp0 hL hF g _ σ l0 bl0 rfl _ h)
/-! k_Server_askVoters (125), depth 13 -/
def k_Server_askVoters_b85 (F : Nat) (K17 : CS → Nat → Int32 → Int32 → Int32 → Int32 → Option (CS)) (σ : CS) (l0 : Nat) (l1 : Int32) (l2 : Int32) (l3 : Int32) (l4 : Int32) : Option (CS) :=
  K17 σ l0 l1 l2 l3 (l4 + (1 : Int32))
set_option maxRecDepth 4000 in
theorem k_Server_askVoters_b85_ok {E : CE} {pF : Nat → List Value → xH → Option (Option Value × xH)} (hp0 : xNPc pF) (hL : lcAll E pF) (hF : lcF pF) {d : Nat} {F : Nat} {K17 : CS → Nat → Int32 → Int32 → Int32 → Int32 → Option (CS)} (hK17 : ∀ (g : CG) (lv : xL) (σ : CS) (l0 : Nat) (l1 : Int32) (l2 : Int32) (l3 : Int32) (l4 : Int32), (cob σ 13 l0) → (xg lv 0 = some (.ref (coa E 13 l0))) → (xg lv 1 = some (.int l1)) → (xg lv 2 = some (.int l2)) → (xg lv 3 = some (.int l3)) → (xg lv 4 = some (.int l4)) → ∀ res, K17 σ l0 l1 l2 l3 l4 = some res → cR E (cQx [13, 14]) pF (d + 12) kT125 13 6 none none res g σ (17, lv, [])) : ∀ (g : CG) (lv : xL) (σ : CS) (l0 : Nat) (l1 : Int32) (l2 : Int32) (l3 : Int32) (l4 : Int32), (cob σ 13 l0) → (xg lv 0 = some (.ref (coa E 13 l0))) → (xg lv 1 = some (.int l1)) → (xg lv 2 = some (.int l2)) → (xg lv 3 = some (.int l3)) → (xg lv 4 = some (.int l4)) → ∀ res, k_Server_askVoters_b85 F K17 σ l0 l1 l2 l3 l4 = some res → cR E (cQx [13, 14]) pF (d + 12) kT125 13 6 none none res g σ (85, lv, []) := by
  intro g lv σ l0 l1 l2 l3 l4 bl0 g0 g1 g2 g3 g4 res h
  unfold k_Server_askVoters_b85 at h
  refine cR_inc (j := 4) (v := l4 + (1 : Int32)) lk125_85 g4 rfl (by decide) (fun vq1 gq2 kq3 => ?_)
  have gq4 := kq3 0 _ (by decide) (fun e => absurd e (by decide)) g0
  have gq5 := kq3 1 _ (by decide) (fun e => absurd e (by decide)) g1
  have gq6 := kq3 2 _ (by decide) (fun e => absurd e (by decide)) g2
  have gq7 := kq3 3 _ (by decide) (fun _ => rfl) g3
  refine cR_lift (fun _ _ kk => eE_goto (t := 17) lk125_88 (by decide) kk) ?_
  exact hK17 g vq1 σ l0 l1 l2 l3 (l4 + (1 : Int32)) bl0 gq4 gq5 gq6 gq7 gq2 _ h
def k_Server_askVoters_b17 (F : Nat)  : Nat → CS → Nat → Int32 → Int32 → Int32 → Int32 → Option (CS)
  | 0, _, _, _, _, _, _ => none
  | n + 1, σ, l0, l1, l2, l3, l4 =>
    let KK := k_Server_askVoters_b17 F  n
    if xc2 .ge l4 ((7 : Int32)) = true then (
      some σ
    ) else (
      if xc0 .eq ((l3 >>> (l4 &&& 31)) &&& ((1 : Int32))) = true then (
        k_Server_askVoters_b85 F KK σ l0 l1 l2 l3 l4
      ) else (
        (k_Server_letterTo σ l0 l4 l1).bind fun p10 =>
        (some (csI p10.2 8 p10.1 5 0 l2)).bind fun σ22 =>
        (some (csI σ22 8 p10.1 7 0 (cI σ22 9 l0 6 0))).bind fun σ24 =>
        (k_Log_termAt σ24 l0 (cI σ24 9 l0 6 0)).bind fun p26 =>
        (some (csI σ24 8 p10.1 8 0 p26)).bind fun σ29 =>
        (k_Server_dispatch F σ29 l0 p10.1).bind fun p31 =>
        k_Server_askVoters_b85 F KK p31 l0 l1 l2 l3 l4
      )
    )
set_option maxRecDepth 4000 in
theorem k_Server_askVoters_b17_ok {E : CE} {pF : Nat → List Value → xH → Option (Option Value × xH)} (hp0 : xNPc pF) (hL : lcAll E pF) (hF : lcF pF) {d : Nat} {F : Nat}   : ∀ (n : Nat) (g : CG) (lv : xL) (σ : CS) (l0 : Nat) (l1 : Int32) (l2 : Int32) (l3 : Int32) (l4 : Int32), (cob σ 13 l0) → (xg lv 0 = some (.ref (coa E 13 l0))) → (xg lv 1 = some (.int l1)) → (xg lv 2 = some (.int l2)) → (xg lv 3 = some (.int l3)) → (xg lv 4 = some (.int l4)) → ∀ res, k_Server_askVoters_b17 F  n σ l0 l1 l2 l3 l4 = some res → cR E (cQx [13, 14]) pF (d + 12) kT125 13 6 none none res g σ (17, lv, []) := by
  intro n
  induction n with
  | zero => intro g lv σ l0 l1 l2 l3 l4 bl0 g0 g1 g2 g3 g4 res h; simp [k_Server_askVoters_b17] at h
  | succ n hKK =>
    intro g lv σ l0 l1 l2 l3 l4 bl0 g0 g1 g2 g3 g4 res h
    unfold k_Server_askVoters_b17 at h
    dsimp only at h
    refine cR_lift (fun _ _ kk => eE_iload lk125_17 g4 kk) ?_
    refine cR_lift (fun _ _ kk => eE_bipush (v := 7) lk125_19 (by decide) kk) ?_
    refine cR_icmp (t := 91) lk125_21 (by decide) (fun c8 => ?_) (fun c8 => ?_)
    · rw [if_pos c8] at h
      cases h
      exact cR_end lk125_91 rfl rfl rfl
    · rw [if_neg c8] at h
      refine cR_lift (fun _ _ kk => eE_iload_n lk125_24 g3 kk) ?_
      refine cR_lift (fun _ _ kk => eE_iload lk125_25 g4 kk) ?_
      refine cR_lift (fun _ _ kk => eE_ishr lk125_27 kk) ?_
      refine cR_lift (fun _ _ kk => eE_iconst (v := 1) lk125_28 (by decide) kk) ?_
      refine cR_lift (fun _ _ kk => eE_iand lk125_29 kk) ?_
      refine cR_if (t := 85) lk125_30 (by decide) (fun c9 => ?_) (fun c9 => ?_)
      · rw [if_pos c9] at h
        exact k_Server_askVoters_b85_ok hp0 hL hF hKK g lv σ l0 l1 l2 l3 l4 bl0 g0 g1 g2 g3 g4 _ h
      · rw [if_neg c9] at h
        refine cR_lift (fun _ _ kk => eE_aload_n lk125_33 g0 kk) ?_
        refine cR_lift (fun _ _ kk => eE_iload lk125_34 g4 kk) ?_
        refine cR_lift (fun _ _ kk => eE_iload_n lk125_36 g1 kk) ?_
        obtain ⟨p10, h11, h⟩ := Option.bind_eq_some_iff.mp h
        refine cR_rep (fun _ hc => k_Server_letterTo_lt hc bl0 h11) (fun b12 => ?_)
        refine cR_virt (cl := 13) (i := l0) (as := [.int l4, .int l1]) lk125_37 mr_13_351 na_144 rfl rfl (by first | exact Nat.le_of_ble_eq_true rfl | (simp [xcat, cvo_cat, cat_i, cat_j, cat_r]; done)) wv_144 wc_144 bl0 (k_Server_letterTo_ok hp0 hL hF (d := d + 1) bl0 h11) (fun m13  => ?_)
        refine cR_stA (j := 5) lk125_40 (Or.inl rfl) (by decide) (fun vq14 gq15 kq16 => ?_)
        have gq17 := kq16 0 _ (by decide) (fun e => absurd e (by decide)) g0
        have gq18 := kq16 1 _ (by decide) (fun e => absurd e (by decide)) g1
        have gq19 := kq16 2 _ (by decide) (fun e => absurd e (by decide)) g2
        have gq20 := kq16 3 _ (by decide) (fun e => absurd e (by decide)) g3
        have gq21 := kq16 4 _ (by decide) (fun _ => rfl) g4
        refine cR_lift (fun _ _ kk => eE_aload lk125_42 gq15 kk) ?_
        refine cR_lift (fun _ _ kk => eE_iload_n lk125_44 gq19 kk) ?_
        obtain ⟨σ22, h23, h⟩ := Option.bind_eq_some_iff.mp h
        refine cR_putI lk125_45 rf_13_342 rfl b12 pf_8_5 rfl h23 ?_
        refine cR_lift (fun _ _ kk => eE_aload lk125_48 gq15 kk) ?_
        refine cR_lift (fun _ _ kk => eE_aload_n lk125_50 gq17 kk) ?_
        refine cR_getO (cl' := 9) (i' := l0) lk125_51 rf_13_72 rfl rfl (cob_any rfl bl0) ?_
        refine cR_getI lk125_54 rf_13_103 rfl (cob_s (cl := 9) (cob_any rfl bl0) (by decide) rfl rfl) ?_
        obtain ⟨σ24, h25, h⟩ := Option.bind_eq_some_iff.mp h
        refine cR_putI lk125_57 rf_13_189 rfl (cob_mon (cput_mon h23) b12) pf_8_7 rfl h25 ?_
        refine cR_lift (fun _ _ kk => eE_aload lk125_60 gq15 kk) ?_
        refine cR_lift (fun _ _ kk => eE_aload_n lk125_62 gq17 kk) ?_
        refine cR_getO (cl' := 9) (i' := l0) lk125_63 rf_13_72 rfl rfl (cob_any rfl bl0) ?_
        refine cR_lift (fun _ _ kk => eE_aload_n lk125_66 gq17 kk) ?_
        refine cR_getO (cl' := 9) (i' := l0) lk125_67 rf_13_72 rfl rfl (cob_any rfl bl0) ?_
        refine cR_getI lk125_70 rf_13_103 rfl (cob_s (cl := 9) (cob_any rfl bl0) (by decide) rfl rfl) ?_
        obtain ⟨p26, h27, h⟩ := Option.bind_eq_some_iff.mp h
        refine cR_virt (cl := 9) (i := l0) (as := [.int (cI σ24 9 l0 6 0)]) lk125_73 mr_13_311 na_75 rfl rfl (by first | exact Nat.le_of_ble_eq_true rfl | (simp [xcat, cvo_cat, cat_i, cat_j, cat_r]; done)) wv_75 wc_75 (cob_s (cl := 9) (cob_any rfl bl0) (by decide) rfl rfl) (k_Log_termAt_ok hp0 hL hF (d := d + 10) (cob_s (cl := 9) (cob_any rfl bl0) (by decide) rfl rfl) h27) (fun m28  => ?_)
        obtain ⟨σ29, h30, h⟩ := Option.bind_eq_some_iff.mp h
        refine cR_putI lk125_76 rf_13_370 rfl (cob_mon (cput_mon h25) (cob_mon (cput_mon h23) b12)) pf_8_8 rfl h30 ?_
        refine cR_lift (fun _ _ kk => eE_aload_n lk125_79 gq17 kk) ?_
        refine cR_lift (fun _ _ kk => eE_aload lk125_80 gq15 kk) ?_
        obtain ⟨p31, h32, h⟩ := Option.bind_eq_some_iff.mp h
        refine cR_virtG (by exact cQx_sub rfl) (cl := 13) (i := l0) (as := [.ref (coa E 8 p10.1)]) lk125_82 mr_13_362 na_132 rfl rfl (by first | exact Nat.le_of_ble_eq_true rfl | (simp [xcat, cvo_cat, cat_i, cat_j, cat_r]; done)) wv_132 wc_132 (cob_any rfl bl0) (k_Server_dispatch_ok hp0 hL hF (d := d + 0) (cob_any rfl bl0) (cob_mon (cput_mon h30) (cob_mon (cput_mon h25) (cob_mon (cput_mon h23) b12))) h32) (fun m33 g_34 g_34e => ?_)
        exact k_Server_askVoters_b85_ok hp0 hL hF hKK g_34 vq14 p31 l0 l1 l2 l3 l4 (cob_any rfl bl0) gq17 gq18 gq19 gq20 gq21 _ h
def k_Server_askVoters_b0 (F : Nat)  (σ : CS) (l0 : Nat) (l1 : Int32) (l2 : Int32) : Option (CS) :=
  (k_Server_voters σ l0).bind fun p35 =>
  k_Server_askVoters_b17 F  F σ l0 l1 l2 (p35 &&& ((((1 : Int32)) <<< ((cI σ 13 l0 0 0) &&& 31)) ^^^ ((-1 : Int32)))) ((0 : Int32))
set_option maxRecDepth 4000 in
theorem k_Server_askVoters_b0_ok {E : CE} {pF : Nat → List Value → xH → Option (Option Value × xH)} (hp0 : xNPc pF) (hL : lcAll E pF) (hF : lcF pF) {d : Nat} {F : Nat}   : ∀ (g : CG) (lv : xL) (σ : CS) (l0 : Nat) (l1 : Int32) (l2 : Int32), (cob σ 13 l0) → (xg lv 0 = some (.ref (coa E 13 l0))) → (xg lv 1 = some (.int l1)) → (xg lv 2 = some (.int l2)) → ∀ res, k_Server_askVoters_b0 F  σ l0 l1 l2 = some res → cR E (cQx [13, 14]) pF (d + 12) kT125 13 6 none none res g σ (0, lv, []) := by
  intro g lv σ l0 l1 l2 bl0 g0 g1 g2 res h
  unfold k_Server_askVoters_b0 at h
  refine cR_lift (fun _ _ kk => eE_aload_n lk125_0 g0 kk) ?_
  obtain ⟨p35, h36, h⟩ := Option.bind_eq_some_iff.mp h
  refine cR_virt (cl := 13) (i := l0) (as := []) lk125_1 mr_13_367 na_182 rfl rfl (by first | exact Nat.le_of_ble_eq_true rfl | (simp [xcat, cvo_cat, cat_i, cat_j, cat_r]; done)) wv_182 wc_182 bl0 (k_Server_voters_ok hp0 hL hF (d := d + 11) bl0 h36) (fun m37  => ?_)
  refine cR_lift (fun _ _ kk => eE_iconst (v := 1) lk125_4 (by decide) kk) ?_
  refine cR_lift (fun _ _ kk => eE_aload_n lk125_5 g0 kk) ?_
  refine cR_getI lk125_6 rf_13_60 rfl bl0 ?_
  refine cR_lift (fun _ _ kk => eE_ishl lk125_9 kk) ?_
  refine cR_lift (fun _ _ kk => eE_iconst (v := (-1)) lk125_10 (by decide) kk) ?_
  refine cR_lift (fun _ _ kk => eE_ixor lk125_11 kk) ?_
  refine cR_lift (fun _ _ kk => eE_iand lk125_12 kk) ?_
  refine cR_stI (j := 3) lk125_13 (Or.inr ⟨_, rfl, rfl⟩) (by decide) (fun vq38 gq39 kq40 => ?_)
  have gq41 := kq40 0 _ (by decide) (fun e => absurd e (by decide)) g0
  have gq42 := kq40 1 _ (by decide) (fun e => absurd e (by decide)) g1
  have gq43 := kq40 2 _ (by decide) (fun _ => rfl) g2
  refine cR_lift (fun _ _ kk => eE_iconst (v := 0) lk125_14 (by decide) kk) ?_
  refine cR_stI (j := 4) lk125_15 (Or.inl rfl) (by decide) (fun vq44 gq45 kq46 => ?_)
  have gq47 := kq46 0 _ (by decide) (fun e => absurd e (by decide)) gq41
  have gq48 := kq46 1 _ (by decide) (fun e => absurd e (by decide)) gq42
  have gq49 := kq46 2 _ (by decide) (fun e => absurd e (by decide)) gq43
  have gq50 := kq46 3 _ (by decide) (fun _ => rfl) gq39
  exact k_Server_askVoters_b17_ok hp0 hL hF  F g vq44 σ l0 l1 l2 (p35 &&& ((((1 : Int32)) <<< ((cI σ 13 l0 0 0) &&& 31)) ^^^ ((-1 : Int32)))) ((0 : Int32)) bl0 gq47 gq48 gq49 gq50 gq45 _ h
def k_Server_askVoters (F : Nat) (σ : CS) (l0 : Nat) (l1 : Int32) (l2 : Int32) : Option (CS) := k_Server_askVoters_b0 F σ l0 l1 l2
theorem k_Server_askVoters_ok {E : CE} {pF : Nat → List Value → xH → Option (Option Value × xH)} (hp0 : xNPc pF) (hL : lcAll E pF) (hF : lcF pF) {d : Nat} {g : CG} {σ : CS} {F : Nat} {l0 : Nat} {l1 : Int32} {l2 : Int32} {res : CS} (bl0 : cob σ 13 l0) (h : k_Server_askVoters F σ l0 l1 l2 = some res) : cCo E (cQx [13, 14]) pF (d + 13) 125 [.ref (coa E 13 l0), .int l1, .int l2] none res g σ :=
  cCo_R kk_125 mo_125 ni_125 xm_125 (Nat.le_of_ble_eq_true rfl) (hp0 125 (by decide) _) (k_Server_askVoters_b0_ok hp0 hL hF g _ σ l0 l1 l2 bl0 rfl rfl rfl _ h)
/-! k_Server_beDown (126), depth 2 -/
def k_Server_beDown_b0  (σ : CS) (l0 : Nat) : Option (CS) :=
  (cputZ σ 13 l0 8 ((0 : Int32))).bind fun σ1 =>
  (cputZ σ1 13 l0 9 ((0 : Int32))).bind fun σ3 =>
  (k_World_hush σ3 0 (cI σ3 13 l0 0 0)).bind fun p5 =>
  (k_World_hush p5 0 (((16 : Int32)) + (cI p5 13 l0 0 0))).bind fun p8 =>
  some p8
set_option maxRecDepth 4000 in
theorem k_Server_beDown_b0_ok {E : CE} {pF : Nat → List Value → xH → Option (Option Value × xH)} (hp0 : xNPc pF) (hL : lcAll E pF) (hF : lcF pF) {d : Nat}   : ∀ (g : CG) (lv : xL) (σ : CS) (l0 : Nat), (cob σ 13 l0) → (xg lv 0 = some (.ref (coa E 13 l0))) → ∀ res, k_Server_beDown_b0  σ l0 = some res → cR E cQ1 pF (d + 1) kT126 13 1 none none res g σ (0, lv, []) := by
  intro g lv σ l0 bl0 g0 res h
  unfold k_Server_beDown_b0 at h
  refine cR_lift (fun _ _ kk => eE_aload_n lk126_0 g0 kk) ?_
  refine cR_lift (fun _ _ kk => eE_iconst (v := 0) lk126_1 (by decide) kk) ?_
  obtain ⟨σ1, h2, h⟩ := Option.bind_eq_some_iff.mp h
  refine cR_putZ lk126_2 rf_13_39 rfl bl0 pf_13_8 h2 ?_
  refine cR_lift (fun _ _ kk => eE_aload_n lk126_5 g0 kk) ?_
  refine cR_lift (fun _ _ kk => eE_iconst (v := 0) lk126_6 (by decide) kk) ?_
  obtain ⟨σ3, h4, h⟩ := Option.bind_eq_some_iff.mp h
  refine cR_putZ lk126_7 rf_13_115 rfl (cob_any rfl bl0) pf_13_9 h4 ?_
  refine cR_lift (fun _ _ kk => eE_aload_n lk126_10 g0 kk) ?_
  refine cR_getO (cl' := 14) (i' := 0) lk126_11 rf_13_63 rfl rfl (cob_any rfl bl0) ?_
  refine cR_lift (fun _ _ kk => eE_aload_n lk126_14 g0 kk) ?_
  refine cR_getI lk126_15 rf_13_60 rfl (cob_any rfl bl0) ?_
  obtain ⟨p5, h6, h⟩ := Option.bind_eq_some_iff.mp h
  refine cR_virt (cl := 14) (i := 0) (as := [.int (cI σ3 13 l0 0 0)]) lk126_18 mr_13_226 na_194 rfl rfl (by first | exact Nat.le_of_ble_eq_true rfl | (simp [xcat, cvo_cat, cat_i, cat_j, cat_r]; done)) wv_194 wc_194 (cob_0 (c := σ3) (cl := 14) (by decide) rfl rfl) (k_World_hush_ok hp0 hL hF (d := d + 0) (cob_0 (c := σ3) (cl := 14) (by decide) rfl rfl) h6) (fun m7  => ?_)
  refine cR_lift (fun _ _ kk => eE_aload_n lk126_21 g0 kk) ?_
  refine cR_getO (cl' := 14) (i' := 0) lk126_22 rf_13_63 rfl rfl (cob_any rfl bl0) ?_
  refine cR_lift (fun _ _ kk => eE_bipush (v := 16) lk126_25 (by decide) kk) ?_
  refine cR_lift (fun _ _ kk => eE_aload_n lk126_27 g0 kk) ?_
  refine cR_getI lk126_28 rf_13_60 rfl (cob_any rfl bl0) ?_
  refine cR_lift (fun _ _ kk => eE_iadd lk126_31 kk) ?_
  obtain ⟨p8, h9, h⟩ := Option.bind_eq_some_iff.mp h
  refine cR_virt (cl := 14) (i := 0) (as := [.int (((16 : Int32)) + (cI p5 13 l0 0 0))]) lk126_32 mr_13_226 na_194 rfl rfl (by first | exact Nat.le_of_ble_eq_true rfl | (simp [xcat, cvo_cat, cat_i, cat_j, cat_r]; done)) wv_194 wc_194 (cob_0 (c := p5) (cl := 14) (by decide) rfl rfl) (k_World_hush_ok hp0 hL hF (d := d + 0) (cob_0 (c := p5) (cl := 14) (by decide) rfl rfl) h9) (fun m10  => ?_)
  cases h
  exact cR_end lk126_35 rfl rfl rfl
def k_Server_beDown (σ : CS) (l0 : Nat) : Option (CS) := k_Server_beDown_b0 σ l0
theorem k_Server_beDown_ok {E : CE} {pF : Nat → List Value → xH → Option (Option Value × xH)} (hp0 : xNPc pF) (hL : lcAll E pF) (hF : lcF pF) {d : Nat} {g : CG} {σ : CS} {l0 : Nat} {res : CS} (bl0 : cob σ 13 l0) (h : k_Server_beDown σ l0 = some res) : cCo E cQ1 pF (d + 2) 126 [.ref (coa E 13 l0)] none res g σ :=
  cCo_R kk_126 mo_126 ni_126 xm_126 (Nat.le_of_ble_eq_true rfl) (hp0 126 (by decide) _) (k_Server_beDown_b0_ok hp0 hL hF g _ σ l0 bl0 rfl _ h)
/-! k_Server_peers (150), depth 1 -/
def k_Server_peers_b0  (σ : CS) (l0 : Nat) : Option (Int32) :=
  some (((((cI σ 9 l0 7 0) ||| ((cI σ 9 l0 7 0) >>> (((7 : Int32)) &&& 31))) ||| ((cI σ 9 l0 7 0) >>> (((14 : Int32)) &&& 31))) &&& ((127 : Int32))) &&& ((((1 : Int32)) <<< ((cI σ 13 l0 0 0) &&& 31)) ^^^ ((-1 : Int32))))
set_option maxRecDepth 4000 in
theorem k_Server_peers_b0_ok {E : CE} {pF : Nat → List Value → xH → Option (Option Value × xH)} (hp0 : xNPc pF) (hL : lcAll E pF) (hF : lcF pF) {d : Nat}   : ∀ (g : CG) (lv : xL) (σ : CS) (l0 : Nat), (cob σ 13 l0) → (xg lv 0 = some (.ref (coa E 13 l0))) → ∀ res, k_Server_peers_b0  σ l0 = some res → cR E cQ1 pF (d + 0) kT150 13 1 (some FieldType.int) (some (.int res)) σ g σ (0, lv, []) := by
  intro g lv σ l0 bl0 g0 res h
  unfold k_Server_peers_b0 at h
  refine cR_lift (fun _ _ kk => eE_aload_n lk150_0 g0 kk) ?_
  refine cR_getO (cl' := 9) (i' := l0) lk150_1 rf_13_72 rfl rfl bl0 ?_
  refine cR_getI lk150_4 rf_13_106 rfl (cob_s (cl := 9) bl0 (by decide) rfl rfl) ?_
  refine cR_lift (fun _ _ kk => eE_aload_n lk150_7 g0 kk) ?_
  refine cR_getO (cl' := 9) (i' := l0) lk150_8 rf_13_72 rfl rfl bl0 ?_
  refine cR_getI lk150_11 rf_13_106 rfl (cob_s (cl := 9) bl0 (by decide) rfl rfl) ?_
  refine cR_lift (fun _ _ kk => eE_bipush (v := 7) lk150_14 (by decide) kk) ?_
  refine cR_lift (fun _ _ kk => eE_ishr lk150_16 kk) ?_
  refine cR_lift (fun _ _ kk => eE_ior lk150_17 kk) ?_
  refine cR_lift (fun _ _ kk => eE_aload_n lk150_18 g0 kk) ?_
  refine cR_getO (cl' := 9) (i' := l0) lk150_19 rf_13_72 rfl rfl bl0 ?_
  refine cR_getI lk150_22 rf_13_106 rfl (cob_s (cl := 9) bl0 (by decide) rfl rfl) ?_
  refine cR_lift (fun _ _ kk => eE_bipush (v := 14) lk150_25 (by decide) kk) ?_
  refine cR_lift (fun _ _ kk => eE_ishr lk150_27 kk) ?_
  refine cR_lift (fun _ _ kk => eE_ior lk150_28 kk) ?_
  refine cR_lift (fun _ _ kk => eE_bipush (v := 127) lk150_29 (by decide) kk) ?_
  refine cR_lift (fun _ _ kk => eE_iand lk150_31 kk) ?_
  refine cR_lift (fun _ _ kk => eE_iconst (v := 1) lk150_32 (by decide) kk) ?_
  refine cR_lift (fun _ _ kk => eE_aload_n lk150_33 g0 kk) ?_
  refine cR_getI lk150_34 rf_13_60 rfl bl0 ?_
  refine cR_lift (fun _ _ kk => eE_ishl lk150_37 kk) ?_
  refine cR_lift (fun _ _ kk => eE_iconst (v := (-1)) lk150_38 (by decide) kk) ?_
  refine cR_lift (fun _ _ kk => eE_ixor lk150_39 kk) ?_
  refine cR_lift (fun _ _ kk => eE_iand lk150_40 kk) ?_
  cases h
  exact cR_end lk150_41 rfl rfl rfl
def k_Server_peers (σ : CS) (l0 : Nat) : Option (Int32) := k_Server_peers_b0 σ l0
theorem k_Server_peers_ok {E : CE} {pF : Nat → List Value → xH → Option (Option Value × xH)} (hp0 : xNPc pF) (hL : lcAll E pF) (hF : lcF pF) {d : Nat} {g : CG} {σ : CS} {l0 : Nat} {res : Int32} (bl0 : cob σ 13 l0) (h : k_Server_peers σ l0 = some res) : cCo E cQ1 pF (d + 1) 150 [.ref (coa E 13 l0)] (some (.int res)) σ g σ :=
  cCo_R kk_150 mo_150 ni_150 xm_150 (Nat.le_of_ble_eq_true rfl) (hp0 150 (by decide) _) (k_Server_peers_b0_ok hp0 hL hF g _ σ l0 bl0 rfl _ h)
/-! k_Server_beat (127), depth 2 -/
def k_Server_beat_b158 (F : Nat) (K80 : CS → Nat → Int32 → Int32 → Option (CS)) (σ : CS) (l0 : Nat) (l1 : Int32) (l2 : Int32) : Option (CS) :=
  (cwr σ 7 l0 7 l2 (((0 : Int32)) &&& 1)).bind fun σ1 =>
  K80 σ1 l0 l1 (l2 + (1 : Int32))
set_option maxRecDepth 4000 in
theorem k_Server_beat_b158_ok {E : CE} {pF : Nat → List Value → xH → Option (Option Value × xH)} (hp0 : xNPc pF) (hL : lcAll E pF) (hF : lcF pF) {d : Nat} {F : Nat} {K80 : CS → Nat → Int32 → Int32 → Option (CS)} (hK80 : ∀ (g : CG) (lv : xL) (σ : CS) (l0 : Nat) (l1 : Int32) (l2 : Int32), (cob σ 13 l0) → (xg lv 0 = some (.ref (coa E 13 l0))) → (xg lv 1 = some (.int l1)) → (xg lv 2 = some (.int l2)) → ∀ res, K80 σ l0 l1 l2 = some res → cR E cQ1 pF (d + 1) kT127 13 3 none none res g σ (80, lv, [])) : ∀ (g : CG) (lv : xL) (σ : CS) (l0 : Nat) (l1 : Int32) (l2 : Int32), (cob σ 13 l0) → (xg lv 0 = some (.ref (coa E 13 l0))) → (xg lv 1 = some (.int l1)) → (xg lv 2 = some (.int l2)) → ∀ res, k_Server_beat_b158 F K80 σ l0 l1 l2 = some res → cR E cQ1 pF (d + 1) kT127 13 3 none none res g σ (158, lv, []) := by
  intro g lv σ l0 l1 l2 bl0 g0 g1 g2 res h
  unfold k_Server_beat_b158 at h
  refine cR_lift (fun _ _ kk => eE_aload_n lk127_158 g0 kk) ?_
  refine cR_getO (cl' := 7) (i' := l0) lk127_159 rf_13_21 rfl rfl bl0 ?_
  refine cR_getA lk127_162 rf_13_456 (by decide) (cob_s (cl := 7) bl0 (by decide) rfl rfl) ?_
  refine cR_lift (fun _ _ kk => eE_iload_n lk127_165 g2 kk) ?_
  refine cR_lift (fun _ _ kk => eE_iconst (v := 0) lk127_166 (by decide) kk) ?_
  obtain ⟨σ1, h2, h⟩ := Option.bind_eq_some_iff.mp h
  refine cR_zast (cl := 7) (i := l0) (f := 7) lk127_167 (by decide) rfl rfl (cob_s (cl := 7) bl0 (by decide) rfl rfl) h2 ?_
  refine cR_inc (j := 2) (v := l2 + (1 : Int32)) lk127_168 g2 rfl (by decide) (fun vq3 gq4 kq5 => ?_)
  have gq6 := kq5 0 _ (by decide) (fun e => absurd e (by decide)) g0
  have gq7 := kq5 1 _ (by decide) (fun _ => rfl) g1
  refine cR_lift (fun _ _ kk => eE_goto (t := 80) lk127_171 (by decide) kk) ?_
  exact hK80 g vq3 σ1 l0 l1 (l2 + (1 : Int32)) (cob_any rfl bl0) gq6 gq7 gq4 _ h
def k_Server_beat_b80 (F : Nat)  : Nat → CS → Nat → Int32 → Int32 → Option (CS)
  | 0, _, _, _, _ => none
  | n + 1, σ, l0, l1, l2 =>
    let KK := k_Server_beat_b80 F  n
    if xc2 .ge l2 ((7 : Int32)) = true then (
      (cwr σ 7 l0 1 (cI σ 13 l0 0 0) (cI σ 9 l0 11 0)).bind fun σ9 =>
      (cwr σ9 7 l0 5 (cI σ9 13 l0 0 0) (cI σ9 14 0 0 0)).bind fun σ11 =>
      (cwr σ11 7 l0 4 (cI σ11 13 l0 0 0) (cI σ11 7 l0 9 0)).bind fun σ13 =>
      some σ13
    ) else (
      if xc0 .eq ((l1 >>> (l2 &&& 31)) &&& ((1 : Int32))) = true then (
        k_Server_beat_b158 F KK σ l0 l1 l2
      ) else (
        (crd σ 7 l0 2 l2).bind fun x16 =>
        if xc0 .le x16 = true then (
          k_Server_beat_b158 F KK σ l0 l1 l2
        ) else (
          (crd σ 7 l0 7 l2).bind fun x19 =>
          if xc0 .ne x19 = true then (
            k_Server_beat_b158 F KK σ l0 l1 l2
          ) else (
            (cwr σ 7 l0 2 l2 ((0 : Int32))).bind fun σ22 =>
            (cwr σ22 7 l0 6 l2 (((1 : Int32)) &&& 1)).bind fun σ24 =>
            (crd σ24 7 l0 1 l2).bind fun x26 =>
            (cwr σ24 7 l0 0 l2 (x26 + ((1 : Int32)))).bind fun σ28 =>
            k_Server_beat_b158 F KK σ28 l0 l1 l2
          )
        )
      )
    )
set_option maxRecDepth 4000 in
theorem k_Server_beat_b80_ok {E : CE} {pF : Nat → List Value → xH → Option (Option Value × xH)} (hp0 : xNPc pF) (hL : lcAll E pF) (hF : lcF pF) {d : Nat} {F : Nat}   : ∀ (n : Nat) (g : CG) (lv : xL) (σ : CS) (l0 : Nat) (l1 : Int32) (l2 : Int32), (cob σ 13 l0) → (xg lv 0 = some (.ref (coa E 13 l0))) → (xg lv 1 = some (.int l1)) → (xg lv 2 = some (.int l2)) → ∀ res, k_Server_beat_b80 F  n σ l0 l1 l2 = some res → cR E cQ1 pF (d + 1) kT127 13 3 none none res g σ (80, lv, []) := by
  intro n
  induction n with
  | zero => intro g lv σ l0 l1 l2 bl0 g0 g1 g2 res h; simp [k_Server_beat_b80] at h
  | succ n hKK =>
    intro g lv σ l0 l1 l2 bl0 g0 g1 g2 res h
    unfold k_Server_beat_b80 at h
    dsimp only at h
    refine cR_lift (fun _ _ kk => eE_iload_n lk127_80 g2 kk) ?_
    refine cR_lift (fun _ _ kk => eE_bipush (v := 7) lk127_81 (by decide) kk) ?_
    refine cR_icmp (t := 174) lk127_83 (by decide) (fun c8 => ?_) (fun c8 => ?_)
    · rw [if_pos c8] at h
      refine cR_lift (fun _ _ kk => eE_aload_n lk127_174 g0 kk) ?_
      refine cR_getO (cl' := 7) (i' := l0) lk127_175 rf_13_21 rfl rfl bl0 ?_
      refine cR_getA lk127_178 rf_13_459 (by decide) (cob_s (cl := 7) bl0 (by decide) rfl rfl) ?_
      refine cR_lift (fun _ _ kk => eE_aload_n lk127_181 g0 kk) ?_
      refine cR_getI lk127_182 rf_13_60 rfl bl0 ?_
      refine cR_lift (fun _ _ kk => eE_aload_n lk127_185 g0 kk) ?_
      refine cR_getO (cl' := 9) (i' := l0) lk127_186 rf_13_72 rfl rfl bl0 ?_
      refine cR_getI lk127_189 rf_13_97 rfl (cob_s (cl := 9) bl0 (by decide) rfl rfl) ?_
      obtain ⟨σ9, h10, h⟩ := Option.bind_eq_some_iff.mp h
      refine cR_iast (cl := 7) (i := l0) (f := 1) lk127_192 (by decide) rfl (cob_s (cl := 7) bl0 (by decide) rfl rfl) h10 ?_
      refine cR_lift (fun _ _ kk => eE_aload_n lk127_193 g0 kk) ?_
      refine cR_getO (cl' := 7) (i' := l0) lk127_194 rf_13_21 rfl rfl (cob_any rfl bl0) ?_
      refine cR_getA lk127_197 rf_13_431 (by decide) (cob_s (cl := 7) (cob_any rfl bl0) (by decide) rfl rfl) ?_
      refine cR_lift (fun _ _ kk => eE_aload_n lk127_200 g0 kk) ?_
      refine cR_getI lk127_201 rf_13_60 rfl (cob_any rfl bl0) ?_
      refine cR_lift (fun _ _ kk => eE_aload_n lk127_204 g0 kk) ?_
      refine cR_getO (cl' := 14) (i' := 0) lk127_205 rf_13_63 rfl rfl (cob_any rfl bl0) ?_
      refine cR_getI lk127_208 rf_13_241 rfl (cob_0 (c := σ9) (cl := 14) (by decide) rfl rfl) ?_
      obtain ⟨σ11, h12, h⟩ := Option.bind_eq_some_iff.mp h
      refine cR_iast (cl := 7) (i := l0) (f := 5) lk127_211 (by decide) rfl (cob_s (cl := 7) (cob_any rfl bl0) (by decide) rfl rfl) h12 ?_
      refine cR_lift (fun _ _ kk => eE_aload_n lk127_212 g0 kk) ?_
      refine cR_getO (cl' := 7) (i' := l0) lk127_213 rf_13_21 rfl rfl (cob_any rfl bl0) ?_
      refine cR_getA lk127_216 rf_13_462 (by decide) (cob_s (cl := 7) (cob_any rfl bl0) (by decide) rfl rfl) ?_
      refine cR_lift (fun _ _ kk => eE_aload_n lk127_219 g0 kk) ?_
      refine cR_getI lk127_220 rf_13_60 rfl (cob_any rfl bl0) ?_
      refine cR_lift (fun _ _ kk => eE_aload_n lk127_223 g0 kk) ?_
      refine cR_getO (cl' := 7) (i' := l0) lk127_224 rf_13_21 rfl rfl (cob_any rfl bl0) ?_
      refine cR_getI lk127_227 rf_13_118 rfl (cob_s (cl := 7) (cob_any rfl bl0) (by decide) rfl rfl) ?_
      obtain ⟨σ13, h14, h⟩ := Option.bind_eq_some_iff.mp h
      refine cR_iast (cl := 7) (i := l0) (f := 4) lk127_230 (by decide) rfl (cob_s (cl := 7) (cob_any rfl bl0) (by decide) rfl rfl) h14 ?_
      cases h
      exact cR_end lk127_231 rfl rfl rfl
    · rw [if_neg c8] at h
      refine cR_lift (fun _ _ kk => eE_iload_n lk127_86 g1 kk) ?_
      refine cR_lift (fun _ _ kk => eE_iload_n lk127_87 g2 kk) ?_
      refine cR_lift (fun _ _ kk => eE_ishr lk127_88 kk) ?_
      refine cR_lift (fun _ _ kk => eE_iconst (v := 1) lk127_89 (by decide) kk) ?_
      refine cR_lift (fun _ _ kk => eE_iand lk127_90 kk) ?_
      refine cR_if (t := 158) lk127_91 (by decide) (fun c15 => ?_) (fun c15 => ?_)
      · rw [if_pos c15] at h
        exact k_Server_beat_b158_ok hp0 hL hF hKK g lv σ l0 l1 l2 bl0 g0 g1 g2 _ h
      · rw [if_neg c15] at h
        refine cR_lift (fun _ _ kk => eE_aload_n lk127_94 g0 kk) ?_
        refine cR_getO (cl' := 7) (i' := l0) lk127_95 rf_13_21 rfl rfl bl0 ?_
        refine cR_getA lk127_98 rf_13_383 (by decide) (cob_s (cl := 7) bl0 (by decide) rfl rfl) ?_
        refine cR_lift (fun _ _ kk => eE_iload_n lk127_101 g2 kk) ?_
        obtain ⟨x16, h17, h⟩ := Option.bind_eq_some_iff.mp h
        refine cR_iald (cl := 7) (i := l0) (f := 2) lk127_102 (by decide) rfl (cob_s (cl := 7) bl0 (by decide) rfl rfl) h17 ?_
        refine cR_if (t := 158) lk127_103 (by decide) (fun c18 => ?_) (fun c18 => ?_)
        · rw [if_pos c18] at h
          exact k_Server_beat_b158_ok hp0 hL hF hKK g lv σ l0 l1 l2 bl0 g0 g1 g2 _ h
        · rw [if_neg c18] at h
          refine cR_lift (fun _ _ kk => eE_aload_n lk127_106 g0 kk) ?_
          refine cR_getO (cl' := 7) (i' := l0) lk127_107 rf_13_21 rfl rfl bl0 ?_
          refine cR_getA lk127_110 rf_13_456 (by decide) (cob_s (cl := 7) bl0 (by decide) rfl rfl) ?_
          refine cR_lift (fun _ _ kk => eE_iload_n lk127_113 g2 kk) ?_
          obtain ⟨x19, h20, h⟩ := Option.bind_eq_some_iff.mp h
          refine cR_bald (cl := 7) (i := l0) (f := 7) lk127_114 (by decide) (Or.inr rfl) (cob_s (cl := 7) bl0 (by decide) rfl rfl) h20 ?_
          refine cR_if (t := 158) lk127_115 (by decide) (fun c21 => ?_) (fun c21 => ?_)
          · rw [if_pos c21] at h
            exact k_Server_beat_b158_ok hp0 hL hF hKK g lv σ l0 l1 l2 bl0 g0 g1 g2 _ h
          · rw [if_neg c21] at h
            refine cR_lift (fun _ _ kk => eE_aload_n lk127_118 g0 kk) ?_
            refine cR_getO (cl' := 7) (i' := l0) lk127_119 rf_13_21 rfl rfl bl0 ?_
            refine cR_getA lk127_122 rf_13_383 (by decide) (cob_s (cl := 7) bl0 (by decide) rfl rfl) ?_
            refine cR_lift (fun _ _ kk => eE_iload_n lk127_125 g2 kk) ?_
            refine cR_lift (fun _ _ kk => eE_iconst (v := 0) lk127_126 (by decide) kk) ?_
            obtain ⟨σ22, h23, h⟩ := Option.bind_eq_some_iff.mp h
            refine cR_iast (cl := 7) (i := l0) (f := 2) lk127_127 (by decide) rfl (cob_s (cl := 7) bl0 (by decide) rfl rfl) h23 ?_
            refine cR_lift (fun _ _ kk => eE_aload_n lk127_128 g0 kk) ?_
            refine cR_getO (cl' := 7) (i' := l0) lk127_129 rf_13_21 rfl rfl (cob_any rfl bl0) ?_
            refine cR_getA lk127_132 rf_13_393 (by decide) (cob_s (cl := 7) (cob_any rfl bl0) (by decide) rfl rfl) ?_
            refine cR_lift (fun _ _ kk => eE_iload_n lk127_135 g2 kk) ?_
            refine cR_lift (fun _ _ kk => eE_iconst (v := 1) lk127_136 (by decide) kk) ?_
            obtain ⟨σ24, h25, h⟩ := Option.bind_eq_some_iff.mp h
            refine cR_zast (cl := 7) (i := l0) (f := 6) lk127_137 (by decide) rfl rfl (cob_s (cl := 7) (cob_any rfl bl0) (by decide) rfl rfl) h25 ?_
            refine cR_lift (fun _ _ kk => eE_aload_n lk127_138 g0 kk) ?_
            refine cR_getO (cl' := 7) (i' := l0) lk127_139 rf_13_21 rfl rfl (cob_any rfl bl0) ?_
            refine cR_getA lk127_142 rf_13_380 (by decide) (cob_s (cl := 7) (cob_any rfl bl0) (by decide) rfl rfl) ?_
            refine cR_lift (fun _ _ kk => eE_iload_n lk127_145 g2 kk) ?_
            refine cR_lift (fun _ _ kk => eE_aload_n lk127_146 g0 kk) ?_
            refine cR_getO (cl' := 7) (i' := l0) lk127_147 rf_13_21 rfl rfl (cob_any rfl bl0) ?_
            refine cR_getA lk127_150 rf_13_459 (by decide) (cob_s (cl := 7) (cob_any rfl bl0) (by decide) rfl rfl) ?_
            refine cR_lift (fun _ _ kk => eE_iload_n lk127_153 g2 kk) ?_
            obtain ⟨x26, h27, h⟩ := Option.bind_eq_some_iff.mp h
            refine cR_iald (cl := 7) (i := l0) (f := 1) lk127_154 (by decide) rfl (cob_s (cl := 7) (cob_any rfl bl0) (by decide) rfl rfl) h27 ?_
            refine cR_lift (fun _ _ kk => eE_iconst (v := 1) lk127_155 (by decide) kk) ?_
            refine cR_lift (fun _ _ kk => eE_iadd lk127_156 kk) ?_
            obtain ⟨σ28, h29, h⟩ := Option.bind_eq_some_iff.mp h
            refine cR_iast (cl := 7) (i := l0) (f := 0) lk127_157 (by decide) rfl (cob_s (cl := 7) (cob_any rfl bl0) (by decide) rfl rfl) h29 ?_
            exact k_Server_beat_b158_ok hp0 hL hF hKK g lv σ28 l0 l1 l2 (cob_any rfl bl0) g0 g1 g2 _ h
def k_Server_beat_b39 (F : Nat)  (σ : CS) (l0 : Nat) : Option (CS) :=
  (k_World_setBell σ 0 (cI σ 13 l0 0 0) ((cI σ 14 0 0 0) + ((10 : Int32)))).bind fun p30 =>
  (some (csI p30 7 l0 9 0 ((cI p30 7 l0 9 0) + ((1 : Int32))))).bind fun σ33 =>
  (k_Server_peers σ33 l0).bind fun p35 =>
  k_Server_beat_b80 F  F σ33 l0 p35 ((0 : Int32))
set_option maxRecDepth 4000 in
theorem k_Server_beat_b39_ok {E : CE} {pF : Nat → List Value → xH → Option (Option Value × xH)} (hp0 : xNPc pF) (hL : lcAll E pF) (hF : lcF pF) {d : Nat} {F : Nat}   : ∀ (g : CG) (lv : xL) (σ : CS) (l0 : Nat), (cob σ 13 l0) → (xg lv 0 = some (.ref (coa E 13 l0))) → ∀ res, k_Server_beat_b39 F  σ l0 = some res → cR E cQ1 pF (d + 1) kT127 13 3 none none res g σ (39, lv, []) := by
  intro g lv σ l0 bl0 g0 res h
  unfold k_Server_beat_b39 at h
  refine cR_lift (fun _ _ kk => eE_aload_n lk127_39 g0 kk) ?_
  refine cR_getO (cl' := 14) (i' := 0) lk127_40 rf_13_63 rfl rfl bl0 ?_
  refine cR_lift (fun _ _ kk => eE_aload_n lk127_43 g0 kk) ?_
  refine cR_getI lk127_44 rf_13_60 rfl bl0 ?_
  refine cR_lift (fun _ _ kk => eE_aload_n lk127_47 g0 kk) ?_
  refine cR_getO (cl' := 14) (i' := 0) lk127_48 rf_13_63 rfl rfl bl0 ?_
  refine cR_getI lk127_51 rf_13_241 rfl (cob_0 (c := σ) (cl := 14) (by decide) rfl rfl) ?_
  refine cR_lift (fun _ _ kk => eE_bipush (v := 10) lk127_54 (by decide) kk) ?_
  refine cR_lift (fun _ _ kk => eE_iadd lk127_56 kk) ?_
  obtain ⟨p30, h31, h⟩ := Option.bind_eq_some_iff.mp h
  refine cR_virt (cl := 14) (i := 0) (as := [.int (cI σ 13 l0 0 0), .int ((cI σ 14 0 0 0) + ((10 : Int32)))]) lk127_57 mr_13_320 na_200 rfl rfl (by first | exact Nat.le_of_ble_eq_true rfl | (simp [xcat, cvo_cat, cat_i, cat_j, cat_r]; done)) wv_200 wc_200 (cob_0 (c := σ) (cl := 14) (by decide) rfl rfl) (k_World_setBell_ok hp0 hL hF (d := d + 0) (cob_0 (c := σ) (cl := 14) (by decide) rfl rfl) h31) (fun m32  => ?_)
  refine cR_lift (fun _ _ kk => eE_aload_n lk127_60 g0 kk) ?_
  refine cR_getO (cl' := 7) (i' := l0) lk127_61 rf_13_21 rfl rfl (cob_any rfl bl0) ?_
  refine cR_lift (fun _ _ kk => eE_dup lk127_64 rfl kk) ?_
  refine cR_getI lk127_65 rf_13_118 rfl (cob_s (cl := 7) (cob_any rfl bl0) (by decide) rfl rfl) ?_
  refine cR_lift (fun _ _ kk => eE_iconst (v := 1) lk127_68 (by decide) kk) ?_
  refine cR_lift (fun _ _ kk => eE_iadd lk127_69 kk) ?_
  obtain ⟨σ33, h34, h⟩ := Option.bind_eq_some_iff.mp h
  refine cR_putI lk127_70 rf_13_118 rfl (cob_s (cl := 7) (cob_any rfl bl0) (by decide) rfl rfl) pf_7_9 rfl h34 ?_
  refine cR_lift (fun _ _ kk => eE_aload_n lk127_73 g0 kk) ?_
  obtain ⟨p35, h36, h⟩ := Option.bind_eq_some_iff.mp h
  refine cR_virt (cl := 13) (i := l0) (as := []) lk127_74 mr_13_373 na_150 rfl rfl (by first | exact Nat.le_of_ble_eq_true rfl | (simp [xcat, cvo_cat, cat_i, cat_j, cat_r]; done)) wv_150 wc_150 (cob_any rfl bl0) (k_Server_peers_ok hp0 hL hF (d := d + 0) (cob_any rfl bl0) h36) (fun m37  => ?_)
  refine cR_stI (j := 1) lk127_77 (Or.inr ⟨_, rfl, rfl⟩) (by decide) (fun vq38 gq39 kq40 => ?_)
  have gq41 := kq40 0 _ (by decide) (fun _ => rfl) g0
  refine cR_lift (fun _ _ kk => eE_iconst (v := 0) lk127_78 (by decide) kk) ?_
  refine cR_stI (j := 2) lk127_79 (Or.inr ⟨_, rfl, rfl⟩) (by decide) (fun vq42 gq43 kq44 => ?_)
  have gq45 := kq44 0 _ (by decide) (fun e => absurd e (by decide)) gq41
  have gq46 := kq44 1 _ (by decide) (fun _ => rfl) gq39
  exact k_Server_beat_b80_ok hp0 hL hF  F g vq42 σ33 l0 p35 ((0 : Int32)) (cob_any rfl bl0) gq45 gq46 gq43 _ h
def k_Server_beat_b0 (F : Nat)  (σ : CS) (l0 : Nat) : Option (CS) :=
  if xc2 .eq (cI σ 7 l0 10 0) ((-1 : Int32)) = true then (
    k_Server_beat_b39 F  σ l0
  ) else (
    if xc2 .le ((cI σ 14 0 0 0) - (cI σ 7 l0 11 0)) ((50 : Int32)) = true then (
      k_Server_beat_b39 F  σ l0
    ) else (
      (some (csI σ 7 l0 10 0 ((-1 : Int32)))).bind fun σ49 =>
      k_Server_beat_b39 F  σ49 l0
    )
  )
set_option maxRecDepth 4000 in
theorem k_Server_beat_b0_ok {E : CE} {pF : Nat → List Value → xH → Option (Option Value × xH)} (hp0 : xNPc pF) (hL : lcAll E pF) (hF : lcF pF) {d : Nat} {F : Nat}   : ∀ (g : CG) (lv : xL) (σ : CS) (l0 : Nat), (cob σ 13 l0) → (xg lv 0 = some (.ref (coa E 13 l0))) → ∀ res, k_Server_beat_b0 F  σ l0 = some res → cR E cQ1 pF (d + 1) kT127 13 3 none none res g σ (0, lv, []) := by
  intro g lv σ l0 bl0 g0 res h
  unfold k_Server_beat_b0 at h
  refine cR_lift (fun _ _ kk => eE_aload_n lk127_0 g0 kk) ?_
  refine cR_getO (cl' := 7) (i' := l0) lk127_1 rf_13_21 rfl rfl bl0 ?_
  refine cR_getI lk127_4 rf_13_112 rfl (cob_s (cl := 7) bl0 (by decide) rfl rfl) ?_
  refine cR_lift (fun _ _ kk => eE_iconst (v := (-1)) lk127_7 (by decide) kk) ?_
  refine cR_icmp (t := 39) lk127_8 (by decide) (fun c47 => ?_) (fun c47 => ?_)
  · rw [if_pos c47] at h
    exact k_Server_beat_b39_ok hp0 hL hF  g lv σ l0 bl0 g0 _ h
  · rw [if_neg c47] at h
    refine cR_lift (fun _ _ kk => eE_aload_n lk127_11 g0 kk) ?_
    refine cR_getO (cl' := 14) (i' := 0) lk127_12 rf_13_63 rfl rfl bl0 ?_
    refine cR_getI lk127_15 rf_13_241 rfl (cob_0 (c := σ) (cl := 14) (by decide) rfl rfl) ?_
    refine cR_lift (fun _ _ kk => eE_aload_n lk127_18 g0 kk) ?_
    refine cR_getO (cl' := 7) (i' := l0) lk127_19 rf_13_21 rfl rfl bl0 ?_
    refine cR_getI lk127_22 rf_13_453 rfl (cob_s (cl := 7) bl0 (by decide) rfl rfl) ?_
    refine cR_lift (fun _ _ kk => eE_isub lk127_25 kk) ?_
    refine cR_lift (fun _ _ kk => eE_bipush (v := 50) lk127_26 (by decide) kk) ?_
    refine cR_icmp (t := 39) lk127_28 (by decide) (fun c48 => ?_) (fun c48 => ?_)
    · rw [if_pos c48] at h
      exact k_Server_beat_b39_ok hp0 hL hF  g lv σ l0 bl0 g0 _ h
    · rw [if_neg c48] at h
      refine cR_lift (fun _ _ kk => eE_aload_n lk127_31 g0 kk) ?_
      refine cR_getO (cl' := 7) (i' := l0) lk127_32 rf_13_21 rfl rfl bl0 ?_
      refine cR_lift (fun _ _ kk => eE_iconst (v := (-1)) lk127_35 (by decide) kk) ?_
      obtain ⟨σ49, h50, h⟩ := Option.bind_eq_some_iff.mp h
      refine cR_putI lk127_36 rf_13_112 rfl (cob_s (cl := 7) bl0 (by decide) rfl rfl) pf_7_10 rfl h50 ?_
      exact k_Server_beat_b39_ok hp0 hL hF  g lv σ49 l0 (cob_any rfl bl0) g0 _ h
def k_Server_beat (F : Nat) (σ : CS) (l0 : Nat) : Option (CS) := k_Server_beat_b0 F σ l0
theorem k_Server_beat_ok {E : CE} {pF : Nat → List Value → xH → Option (Option Value × xH)} (hp0 : xNPc pF) (hL : lcAll E pF) (hF : lcF pF) {d : Nat} {g : CG} {σ : CS} {F : Nat} {l0 : Nat} {res : CS} (bl0 : cob σ 13 l0) (h : k_Server_beat F σ l0 = some res) : cCo E cQ1 pF (d + 2) 127 [.ref (coa E 13 l0)] none res g σ :=
  cCo_R kk_127 mo_127 ni_127 xm_127 (Nat.le_of_ble_eq_true rfl) (hp0 127 (by decide) _) (k_Server_beat_b0_ok hp0 hL hF g _ σ l0 bl0 rfl _ h)
/-! k_Server_soil (165), depth 2 -/
def k_Server_soil_b46  (σ : CS) : Option (CS) :=
  some σ
set_option maxRecDepth 4000 in
theorem k_Server_soil_b46_ok {E : CE} {pF : Nat → List Value → xH → Option (Option Value × xH)} (hp0 : xNPc pF) (hL : lcAll E pF) (hF : lcF pF) {d : Nat}   : ∀ (g : CG) (lv : xL) (σ : CS), ∀ res, k_Server_soil_b46  σ = some res → cR E cQ1 pF (d + 1) kT165 13 1 none none res g σ (46, lv, []) := by
  intro g lv σ res h
  unfold k_Server_soil_b46 at h
  cases h
  exact cR_end lk165_46 rfl rfl rfl
def k_Server_soil_b0  (σ : CS) (l0 : Nat) : Option (CS) :=
  if xc0 .ne (cI σ 13 l0 9 0) = true then (
    k_Server_soil_b46  σ
  ) else (
    (cputZ σ 13 l0 9 ((1 : Int32))).bind fun σ2 =>
    (crd σ2 14 0 13 (cI σ2 13 l0 0 0)).bind fun x4 =>
    (k_World_setBell σ2 0 (((16 : Int32)) + (cI σ2 13 l0 0 0)) ((cI σ2 14 0 0 0) + x4)).bind fun p6 =>
    k_Server_soil_b46  p6
  )
set_option maxRecDepth 4000 in
theorem k_Server_soil_b0_ok {E : CE} {pF : Nat → List Value → xH → Option (Option Value × xH)} (hp0 : xNPc pF) (hL : lcAll E pF) (hF : lcF pF) {d : Nat}   : ∀ (g : CG) (lv : xL) (σ : CS) (l0 : Nat), (cob σ 13 l0) → (xg lv 0 = some (.ref (coa E 13 l0))) → ∀ res, k_Server_soil_b0  σ l0 = some res → cR E cQ1 pF (d + 1) kT165 13 1 none none res g σ (0, lv, []) := by
  intro g lv σ l0 bl0 g0 res h
  unfold k_Server_soil_b0 at h
  refine cR_lift (fun _ _ kk => eE_aload_n lk165_0 g0 kk) ?_
  refine cR_getI lk165_1 rf_13_115 rfl bl0 ?_
  refine cR_if (t := 46) lk165_4 (by decide) (fun c1 => ?_) (fun c1 => ?_)
  · rw [if_pos c1] at h
    exact k_Server_soil_b46_ok hp0 hL hF  g lv σ  _ h
  · rw [if_neg c1] at h
    refine cR_lift (fun _ _ kk => eE_aload_n lk165_7 g0 kk) ?_
    refine cR_lift (fun _ _ kk => eE_iconst (v := 1) lk165_8 (by decide) kk) ?_
    obtain ⟨σ2, h3, h⟩ := Option.bind_eq_some_iff.mp h
    refine cR_putZ lk165_9 rf_13_115 rfl bl0 pf_13_9 h3 ?_
    refine cR_lift (fun _ _ kk => eE_aload_n lk165_12 g0 kk) ?_
    refine cR_getO (cl' := 14) (i' := 0) lk165_13 rf_13_63 rfl rfl (cob_any rfl bl0) ?_
    refine cR_lift (fun _ _ kk => eE_bipush (v := 16) lk165_16 (by decide) kk) ?_
    refine cR_lift (fun _ _ kk => eE_aload_n lk165_18 g0 kk) ?_
    refine cR_getI lk165_19 rf_13_60 rfl (cob_any rfl bl0) ?_
    refine cR_lift (fun _ _ kk => eE_iadd lk165_22 kk) ?_
    refine cR_lift (fun _ _ kk => eE_aload_n lk165_23 g0 kk) ?_
    refine cR_getO (cl' := 14) (i' := 0) lk165_24 rf_13_63 rfl rfl (cob_any rfl bl0) ?_
    refine cR_getI lk165_27 rf_13_241 rfl (cob_0 (c := σ2) (cl := 14) (by decide) rfl rfl) ?_
    refine cR_lift (fun _ _ kk => eE_aload_n lk165_30 g0 kk) ?_
    refine cR_getO (cl' := 14) (i' := 0) lk165_31 rf_13_63 rfl rfl (cob_any rfl bl0) ?_
    refine cR_getA lk165_34 rf_13_317 (by decide) (cob_0 (c := σ2) (cl := 14) (by decide) rfl rfl) ?_
    refine cR_lift (fun _ _ kk => eE_aload_n lk165_37 g0 kk) ?_
    refine cR_getI lk165_38 rf_13_60 rfl (cob_any rfl bl0) ?_
    obtain ⟨x4, h5, h⟩ := Option.bind_eq_some_iff.mp h
    refine cR_iald (cl := 14) (i := 0) (f := 13) lk165_41 (by decide) rfl (cob_0 (c := σ2) (cl := 14) (by decide) rfl rfl) h5 ?_
    refine cR_lift (fun _ _ kk => eE_iadd lk165_42 kk) ?_
    obtain ⟨p6, h7, h⟩ := Option.bind_eq_some_iff.mp h
    refine cR_virt (cl := 14) (i := 0) (as := [.int (((16 : Int32)) + (cI σ2 13 l0 0 0)), .int ((cI σ2 14 0 0 0) + x4)]) lk165_43 mr_13_320 na_200 rfl rfl (by first | exact Nat.le_of_ble_eq_true rfl | (simp [xcat, cvo_cat, cat_i, cat_j, cat_r]; done)) wv_200 wc_200 (cob_0 (c := σ2) (cl := 14) (by decide) rfl rfl) (k_World_setBell_ok hp0 hL hF (d := d + 0) (cob_0 (c := σ2) (cl := 14) (by decide) rfl rfl) h7) (fun m8  => ?_)
    exact k_Server_soil_b46_ok hp0 hL hF  g lv p6  _ h
def k_Server_soil (σ : CS) (l0 : Nat) : Option (CS) := k_Server_soil_b0 σ l0
theorem k_Server_soil_ok {E : CE} {pF : Nat → List Value → xH → Option (Option Value × xH)} (hp0 : xNPc pF) (hL : lcAll E pF) (hF : lcF pF) {d : Nat} {g : CG} {σ : CS} {l0 : Nat} {res : CS} (bl0 : cob σ 13 l0) (h : k_Server_soil σ l0 = some res) : cCo E cQ1 pF (d + 2) 165 [.ref (coa E 13 l0)] none res g σ :=
  cCo_R kk_165 mo_165 ni_165 xm_165 (Nat.le_of_ble_eq_true rfl) (hp0 165 (by decide) _) (k_Server_soil_b0_ok hp0 hL hF g _ σ l0 bl0 rfl _ h)
/-! k_Server_saveTerm (156), depth 3 -/
def k_Server_saveTerm_b0  (σ : CS) (l0 : Nat) (l1 : Int32) (l2 : Int32) : Option (CS) :=
  (some (csI σ 13 l0 10 0 l1)).bind fun σ1 =>
  (some (csI σ1 13 l0 11 0 l2)).bind fun σ3 =>
  (k_Disk_writeSlot σ3 l0 (cI σ3 13 l0 10 0) (cI σ3 13 l0 11 0)).bind fun p5 =>
  (k_Server_soil p5 l0).bind fun p8 =>
  some p8
set_option maxRecDepth 4000 in
theorem k_Server_saveTerm_b0_ok {E : CE} {pF : Nat → List Value → xH → Option (Option Value × xH)} (hp0 : xNPc pF) (hL : lcAll E pF) (hF : lcF pF) {d : Nat}   : ∀ (g : CG) (lv : xL) (σ : CS) (l0 : Nat) (l1 : Int32) (l2 : Int32), (cob σ 13 l0) → (xg lv 0 = some (.ref (coa E 13 l0))) → (xg lv 1 = some (.int l1)) → (xg lv 2 = some (.int l2)) → ∀ res, k_Server_saveTerm_b0  σ l0 l1 l2 = some res → cR E cQ1 pF (d + 2) kT156 13 3 none none res g σ (0, lv, []) := by
  intro g lv σ l0 l1 l2 bl0 g0 g1 g2 res h
  unfold k_Server_saveTerm_b0 at h
  refine cR_lift (fun _ _ kk => eE_aload_n lk156_0 g0 kk) ?_
  refine cR_lift (fun _ _ kk => eE_iload_n lk156_1 g1 kk) ?_
  obtain ⟨σ1, h2, h⟩ := Option.bind_eq_some_iff.mp h
  refine cR_putI lk156_2 rf_13_88 rfl bl0 pf_13_10 rfl h2 ?_
  refine cR_lift (fun _ _ kk => eE_aload_n lk156_5 g0 kk) ?_
  refine cR_lift (fun _ _ kk => eE_iload_n lk156_6 g2 kk) ?_
  obtain ⟨σ3, h4, h⟩ := Option.bind_eq_some_iff.mp h
  refine cR_putI lk156_7 rf_13_43 rfl (cob_any rfl bl0) pf_13_11 rfl h4 ?_
  refine cR_lift (fun _ _ kk => eE_aload_n lk156_10 g0 kk) ?_
  refine cR_getO (cl' := 6) (i' := l0) lk156_11 rf_13_12 rfl rfl (cob_any rfl bl0) ?_
  refine cR_lift (fun _ _ kk => eE_aload_n lk156_14 g0 kk) ?_
  refine cR_getI lk156_15 rf_13_88 rfl (cob_any rfl bl0) ?_
  refine cR_lift (fun _ _ kk => eE_aload_n lk156_18 g0 kk) ?_
  refine cR_getI lk156_19 rf_13_43 rfl (cob_any rfl bl0) ?_
  obtain ⟨p5, h6, h⟩ := Option.bind_eq_some_iff.mp h
  refine cR_virt (cl := 6) (i := l0) (as := [.int (cI σ3 13 l0 10 0), .int (cI σ3 13 l0 11 0)]) lk156_22 mr_13_314 na_52 rfl rfl (by first | exact Nat.le_of_ble_eq_true rfl | (simp [xcat, cvo_cat, cat_i, cat_j, cat_r]; done)) wv_52 wc_52 (cob_s (cl := 6) (cob_any rfl bl0) (by decide) rfl rfl) (k_Disk_writeSlot_ok hp0 hL hF (d := d + 0) (cob_s (cl := 6) (cob_any rfl bl0) (by decide) rfl rfl) h6) (fun m7  => ?_)
  refine cR_lift (fun _ _ kk => eE_aload_n lk156_25 g0 kk) ?_
  obtain ⟨p8, h9, h⟩ := Option.bind_eq_some_iff.mp h
  refine cR_virt (cl := 13) (i := l0) (as := []) lk156_26 mr_13_323 na_165 rfl rfl (by first | exact Nat.le_of_ble_eq_true rfl | (simp [xcat, cvo_cat, cat_i, cat_j, cat_r]; done)) wv_165 wc_165 (cob_any rfl bl0) (k_Server_soil_ok hp0 hL hF (d := d + 0) (cob_any rfl bl0) h9) (fun m10  => ?_)
  cases h
  exact cR_end lk156_29 rfl rfl rfl
def k_Server_saveTerm (σ : CS) (l0 : Nat) (l1 : Int32) (l2 : Int32) : Option (CS) := k_Server_saveTerm_b0 σ l0 l1 l2
theorem k_Server_saveTerm_ok {E : CE} {pF : Nat → List Value → xH → Option (Option Value × xH)} (hp0 : xNPc pF) (hL : lcAll E pF) (hF : lcF pF) {d : Nat} {g : CG} {σ : CS} {l0 : Nat} {l1 : Int32} {l2 : Int32} {res : CS} (bl0 : cob σ 13 l0) (h : k_Server_saveTerm σ l0 l1 l2 = some res) : cCo E cQ1 pF (d + 3) 156 [.ref (coa E 13 l0), .int l1, .int l2] none res g σ :=
  cCo_R kk_156 mo_156 ni_156 xm_156 (Nat.le_of_ble_eq_true rfl) (hp0 156 (by decide) _) (k_Server_saveTerm_b0_ok hp0 hL hF g _ σ l0 l1 l2 bl0 rfl rfl rfl _ h)
/-! k_World_drawAlarm (188), depth 2 -/
def k_World_drawAlarm_b0  (σ : CS) (l0 : Nat) (l1 : Int32) : Option (CS) :=
  (crdJ σ 14 l0 14 l1).bind fun x1 =>
  (cwrJ σ 14 l0 14 l1 ((x1 * ((6364136223846793005 : Int64))) + ((1442695040888963407 : Int64)))).bind fun σ3 =>
  (crdJ σ3 14 l0 14 l1).bind fun x5 =>
  if ((50 : Int64)) = 0 then none else
  (k_World_setBell σ3 l0 l1 (((cI σ3 14 l0 0 0) + ((50 : Int32))) + ((((x5.toUInt64 >>> (((33 : Int32)).toInt64.toUInt64 &&& Int64.toUInt64 63)).toInt64) - ((x5.toUInt64 >>> (((33 : Int32)).toInt64.toUInt64 &&& Int64.toUInt64 63)).toInt64) / ((50 : Int64)) * ((50 : Int64))).toInt32))).bind fun p8 =>
  some p8
set_option maxRecDepth 4000 in
theorem k_World_drawAlarm_b0_ok {E : CE} {pF : Nat → List Value → xH → Option (Option Value × xH)} (hp0 : xNPc pF) (hL : lcAll E pF) (hF : lcF pF) {d : Nat}   : ∀ (g : CG) (lv : xL) (σ : CS) (l0 : Nat) (l1 : Int32), (cob σ 14 l0) → (xg lv 0 = some (.ref (coa E 14 l0))) → (xg lv 1 = some (.int l1)) → ∀ res, k_World_drawAlarm_b0  σ l0 l1 = some res → cR E cQ1 pF (d + 1) kT188 14 2 none none res g σ (0, lv, []) := by
  intro g lv σ l0 l1 bl0 g0 g1 res h
  unfold k_World_drawAlarm_b0 at h
  refine cR_lift (fun _ _ kk => eE_aload_n lk188_0 g0 kk) ?_
  refine cR_getA lk188_1 rf_14_24 (by decide) bl0 ?_
  refine cR_lift (fun _ _ kk => eE_iload_n lk188_4 g1 kk) ?_
  refine cR_lift (fun _ _ kk => eE_aload_n lk188_5 g0 kk) ?_
  refine cR_getA lk188_6 rf_14_24 (by decide) bl0 ?_
  refine cR_lift (fun _ _ kk => eE_iload_n lk188_9 g1 kk) ?_
  obtain ⟨x1, h2, h⟩ := Option.bind_eq_some_iff.mp h
  refine cR_lald (cl := 14) (i := l0) (f := 14) lk188_10 (by decide) rfl bl0 h2 ?_
  refine cR_lift (fun _ _ kk => eE_ldc2_w (v := 6364136223846793005) lk188_11 xl_14_104 kk) ?_
  refine cR_lift (fun _ _ kk => eE_lmul lk188_14 kk) ?_
  refine cR_lift (fun _ _ kk => eE_ldc2_w (v := 1442695040888963407) lk188_15 xl_14_106 kk) ?_
  refine cR_lift (fun _ _ kk => eE_ladd lk188_18 kk) ?_
  obtain ⟨σ3, h4, h⟩ := Option.bind_eq_some_iff.mp h
  refine cR_last (cl := 14) (i := l0) (f := 14) lk188_19 (by decide) rfl bl0 h4 ?_
  refine cR_lift (fun _ _ kk => eE_aload_n lk188_20 g0 kk) ?_
  refine cR_lift (fun _ _ kk => eE_iload_n lk188_21 g1 kk) ?_
  refine cR_lift (fun _ _ kk => eE_aload_n lk188_22 g0 kk) ?_
  refine cR_getI lk188_23 rf_14_77 rfl (cob_any rfl bl0) ?_
  refine cR_lift (fun _ _ kk => eE_bipush (v := 50) lk188_26 (by decide) kk) ?_
  refine cR_lift (fun _ _ kk => eE_iadd lk188_28 kk) ?_
  refine cR_lift (fun _ _ kk => eE_aload_n lk188_29 g0 kk) ?_
  refine cR_getA lk188_30 rf_14_24 (by decide) (cob_any rfl bl0) ?_
  refine cR_lift (fun _ _ kk => eE_iload_n lk188_33 g1 kk) ?_
  obtain ⟨x5, h6, h⟩ := Option.bind_eq_some_iff.mp h
  refine cR_lald (cl := 14) (i := l0) (f := 14) lk188_34 (by decide) rfl (cob_any rfl bl0) h6 ?_
  refine cR_lift (fun _ _ kk => eE_bipush (v := 33) lk188_35 (by decide) kk) ?_
  refine cR_lift (fun _ _ kk => eE_lushr lk188_37 kk) ?_
  refine cR_lift (fun _ _ kk => eE_ldc2_w (v := 50) lk188_38 xl_14_148 kk) ?_
  by_cases z7 : ((50 : Int64)) = 0
  · rw [if_pos z7] at h; cases h
  rw [if_neg z7] at h
  refine cR_lift (fun _ _ kk => eE_lrem lk188_41 z7 kk) ?_
  refine cR_lift (fun _ _ kk => eE_l2i lk188_42 kk) ?_
  refine cR_lift (fun _ _ kk => eE_iadd lk188_43 kk) ?_
  obtain ⟨p8, h9, h⟩ := Option.bind_eq_some_iff.mp h
  refine cR_virt (cl := 14) (i := l0) (as := [.int l1, .int (((cI σ3 14 l0 0 0) + ((50 : Int32))) + ((((x5.toUInt64 >>> (((33 : Int32)).toInt64.toUInt64 &&& Int64.toUInt64 63)).toInt64) - ((x5.toUInt64 >>> (((33 : Int32)).toInt64.toUInt64 &&& Int64.toUInt64 63)).toInt64) / ((50 : Int64)) * ((50 : Int64))).toInt32))]) lk188_44 mr_14_150 na_200 rfl rfl (by first | exact Nat.le_of_ble_eq_true rfl | (simp [xcat, cvo_cat, cat_i, cat_j, cat_r]; done)) wv_200 wc_200 (cob_any rfl bl0) (k_World_setBell_ok hp0 hL hF (d := d + 0) (cob_any rfl bl0) h9) (fun m10  => ?_)
  cases h
  exact cR_end lk188_47 rfl rfl rfl
def k_World_drawAlarm (σ : CS) (l0 : Nat) (l1 : Int32) : Option (CS) := k_World_drawAlarm_b0 σ l0 l1
theorem k_World_drawAlarm_ok {E : CE} {pF : Nat → List Value → xH → Option (Option Value × xH)} (hp0 : xNPc pF) (hL : lcAll E pF) (hF : lcF pF) {d : Nat} {g : CG} {σ : CS} {l0 : Nat} {l1 : Int32} {res : CS} (bl0 : cob σ 14 l0) (h : k_World_drawAlarm σ l0 l1 = some res) : cCo E cQ1 pF (d + 2) 188 [.ref (coa E 14 l0), .int l1] none res g σ :=
  cCo_R kk_188 mo_188 ni_188 xm_188 (Nat.le_of_ble_eq_true rfl) (hp0 188 (by decide) _) (k_World_drawAlarm_b0_ok hp0 hL hF g _ σ l0 l1 bl0 rfl rfl _ h)
/-! k_Server_campaign (128), depth 14 -/
def k_Server_campaign_b0 (F : Nat)  (σ : CS) (l0 : Nat) : Option (CS) :=
  (some (csI σ 13 l0 12 0 ((2 : Int32)))).bind fun σ1 =>
  (some (csI σ1 13 l0 13 0 ((-1 : Int32)))).bind fun σ3 =>
  (k_Server_saveTerm σ3 l0 ((cI σ3 13 l0 10 0) + ((1 : Int32))) (cI σ3 13 l0 0 0)).bind fun p5 =>
  (some (csI p5 13 l0 15 0 ((0 : Int32)))).bind fun σ8 =>
  (k_World_drawAlarm σ8 0 (cI σ8 13 l0 0 0)).bind fun p10 =>
  (k_Server_askVoters F p10 l0 ((3 : Int32)) (cI p10 13 l0 10 0)).bind fun p13 =>
  some p13
set_option maxRecDepth 4000 in
theorem k_Server_campaign_b0_ok {E : CE} {pF : Nat → List Value → xH → Option (Option Value × xH)} (hp0 : xNPc pF) (hL : lcAll E pF) (hF : lcF pF) {d : Nat} {F : Nat}   : ∀ (g : CG) (lv : xL) (σ : CS) (l0 : Nat), (cob σ 13 l0) → (xg lv 0 = some (.ref (coa E 13 l0))) → ∀ res, k_Server_campaign_b0 F  σ l0 = some res → cR E (cQx [13, 14]) pF (d + 13) kT128 13 1 none none res g σ (0, lv, []) := by
  intro g lv σ l0 bl0 g0 res h
  unfold k_Server_campaign_b0 at h
  refine cR_lift (fun _ _ kk => eE_aload_n lk128_0 g0 kk) ?_
  refine cR_lift (fun _ _ kk => eE_iconst (v := 2) lk128_1 (by decide) kk) ?_
  obtain ⟨σ1, h2, h⟩ := Option.bind_eq_some_iff.mp h
  refine cR_putI lk128_2 rf_13_85 rfl bl0 pf_13_12 rfl h2 ?_
  refine cR_lift (fun _ _ kk => eE_aload_n lk128_5 g0 kk) ?_
  refine cR_lift (fun _ _ kk => eE_iconst (v := (-1)) lk128_6 (by decide) kk) ?_
  obtain ⟨σ3, h4, h⟩ := Option.bind_eq_some_iff.mp h
  refine cR_putI lk128_7 rf_13_47 rfl (cob_any rfl bl0) pf_13_13 rfl h4 ?_
  refine cR_lift (fun _ _ kk => eE_aload_n lk128_10 g0 kk) ?_
  refine cR_lift (fun _ _ kk => eE_aload_n lk128_11 g0 kk) ?_
  refine cR_getI lk128_12 rf_13_88 rfl (cob_any rfl bl0) ?_
  refine cR_lift (fun _ _ kk => eE_iconst (v := 1) lk128_15 (by decide) kk) ?_
  refine cR_lift (fun _ _ kk => eE_iadd lk128_16 kk) ?_
  refine cR_lift (fun _ _ kk => eE_aload_n lk128_17 g0 kk) ?_
  refine cR_getI lk128_18 rf_13_60 rfl (cob_any rfl bl0) ?_
  obtain ⟨p5, h6, h⟩ := Option.bind_eq_some_iff.mp h
  refine cR_virt (cl := 13) (i := l0) (as := [.int ((cI σ3 13 l0 10 0) + ((1 : Int32))), .int (cI σ3 13 l0 0 0)]) lk128_21 mr_13_425 na_156 rfl rfl (by first | exact Nat.le_of_ble_eq_true rfl | (simp [xcat, cvo_cat, cat_i, cat_j, cat_r]; done)) wv_156 wc_156 (cob_any rfl bl0) (k_Server_saveTerm_ok hp0 hL hF (d := d + 10) (cob_any rfl bl0) h6) (fun m7  => ?_)
  refine cR_lift (fun _ _ kk => eE_aload_n lk128_24 g0 kk) ?_
  refine cR_lift (fun _ _ kk => eE_iconst (v := 0) lk128_25 (by decide) kk) ?_
  obtain ⟨σ8, h9, h⟩ := Option.bind_eq_some_iff.mp h
  refine cR_putI lk128_26 rf_13_109 rfl (cob_any rfl bl0) pf_13_15 rfl h9 ?_
  refine cR_lift (fun _ _ kk => eE_aload_n lk128_29 g0 kk) ?_
  refine cR_getO (cl' := 14) (i' := 0) lk128_30 rf_13_63 rfl rfl (cob_any rfl bl0) ?_
  refine cR_lift (fun _ _ kk => eE_aload_n lk128_33 g0 kk) ?_
  refine cR_getI lk128_34 rf_13_60 rfl (cob_any rfl bl0) ?_
  obtain ⟨p10, h11, h⟩ := Option.bind_eq_some_iff.mp h
  refine cR_virt (cl := 14) (i := 0) (as := [.int (cI σ8 13 l0 0 0)]) lk128_37 mr_13_251 na_188 rfl rfl (by first | exact Nat.le_of_ble_eq_true rfl | (simp [xcat, cvo_cat, cat_i, cat_j, cat_r]; done)) wv_188 wc_188 (cob_0 (c := σ8) (cl := 14) (by decide) rfl rfl) (k_World_drawAlarm_ok hp0 hL hF (d := d + 11) (cob_0 (c := σ8) (cl := 14) (by decide) rfl rfl) h11) (fun m12  => ?_)
  refine cR_lift (fun _ _ kk => eE_aload_n lk128_40 g0 kk) ?_
  refine cR_lift (fun _ _ kk => eE_iconst (v := 3) lk128_41 (by decide) kk) ?_
  refine cR_lift (fun _ _ kk => eE_aload_n lk128_42 g0 kk) ?_
  refine cR_getI lk128_43 rf_13_88 rfl (cob_any rfl bl0) ?_
  obtain ⟨p13, h14, h⟩ := Option.bind_eq_some_iff.mp h
  refine cR_virtG (by exact cQx_sub rfl) (cl := 13) (i := l0) (as := [.int ((3 : Int32)), .int (cI p10 13 l0 10 0)]) lk128_46 mr_13_441 na_125 rfl rfl (by first | exact Nat.le_of_ble_eq_true rfl | (simp [xcat, cvo_cat, cat_i, cat_j, cat_r]; done)) wv_125 wc_125 (cob_any rfl bl0) (k_Server_askVoters_ok hp0 hL hF (d := d + 0) (cob_any rfl bl0) h14) (fun m15 g_16 g_16e => ?_)
  cases h
  exact cR_end lk128_49 rfl rfl rfl
def k_Server_campaign (F : Nat) (σ : CS) (l0 : Nat) : Option (CS) := k_Server_campaign_b0 F σ l0
theorem k_Server_campaign_ok {E : CE} {pF : Nat → List Value → xH → Option (Option Value × xH)} (hp0 : xNPc pF) (hL : lcAll E pF) (hF : lcF pF) {d : Nat} {g : CG} {σ : CS} {F : Nat} {l0 : Nat} {res : CS} (bl0 : cob σ 13 l0) (h : k_Server_campaign F σ l0 = some res) : cCo E (cQx [13, 14]) pF (d + 14) 128 [.ref (coa E 13 l0)] none res g σ :=
  cCo_R kk_128 mo_128 ni_128 xm_128 (Nat.le_of_ble_eq_true rfl) (hp0 128 (by decide) _) (k_Server_campaign_b0_ok hp0 hL hF g _ σ l0 bl0 rfl _ h)
/-! k_Machine_numberAt_11_8 (92), depth 1 -/
def k_Machine_numberAt_11_8_b49 (F : Nat)  (σ : CS) (l4 : Int32) : Option (Int32) :=
  some l4
set_option maxRecDepth 4000 in
theorem k_Machine_numberAt_11_8_b49_ok {E : CE} {pF : Nat → List Value → xH → Option (Option Value × xH)} (hp0 : xNPc pF) (hL : lcAll E pF) (hF : lcF pF) {d : Nat} {F : Nat}   : ∀ (g : CG) (lv : xL) (σ : CS) (l4 : Int32), (xg lv 4 = some (.int l4)) → ∀ res, k_Machine_numberAt_11_8_b49 F  σ l4 = some res → cR E cQ1 pF (d + 0) kT92 10 6 (some FieldType.int) (some (.int res)) σ g σ (49, lv, []) := by
  intro g lv σ l4 g4 res h
  unfold k_Machine_numberAt_11_8_b49 at h
  refine cR_lift (fun _ _ kk => eE_iload lk92_49 g4 kk) ?_
  cases h
  exact cR_end lk92_51 rfl rfl rfl
def k_Machine_numberAt_11_8_b6 (F : Nat)  : Nat → CS → Nat → Int32 → Int32 → Int32 → Int32 → Int32 → Option (Int32)
  | 0, _, _, _, _, _, _, _ => none
  | n + 1, σ, l0, l1, l2, l3, l4, l5 =>
    let KK := k_Machine_numberAt_11_8_b6 F  n
    if xc2 .ge l5 (l1 + l2) = true then (
      k_Machine_numberAt_11_8_b49 F  σ l4
    ) else (
      if xc2 .ge l5 l3 = true then (
        k_Machine_numberAt_11_8_b49 F  σ l4
      ) else (
        if xc2 .ge l5 (Int32.ofNat (cal σ 11 l0 8)) = true then (
          k_Machine_numberAt_11_8_b49 F  σ l4
        ) else (
          (crd σ 11 l0 8 l5).bind fun x4 =>
          KK σ l0 l1 l2 l3 ((l4 <<< (((8 : Int32)) &&& 31)) ||| (x4 &&& ((255 : Int32)))) (l5 + (1 : Int32))
        )
      )
    )
set_option maxRecDepth 4000 in
theorem k_Machine_numberAt_11_8_b6_ok {E : CE} {pF : Nat → List Value → xH → Option (Option Value × xH)} (hp0 : xNPc pF) (hL : lcAll E pF) (hF : lcF pF) {d : Nat} {F : Nat}   : ∀ (n : Nat) (g : CG) (lv : xL) (σ : CS) (l0 : Nat) (l1 : Int32) (l2 : Int32) (l3 : Int32) (l4 : Int32) (l5 : Int32), (cob σ 11 l0) → (xg lv 0 = some (.ref (car E g 11 l0 8))) → (xg lv 1 = some (.int l1)) → (xg lv 2 = some (.int l2)) → (xg lv 3 = some (.int l3)) → (xg lv 4 = some (.int l4)) → (xg lv 5 = some (.int l5)) → ∀ res, k_Machine_numberAt_11_8_b6 F  n σ l0 l1 l2 l3 l4 l5 = some res → cR E cQ1 pF (d + 0) kT92 10 6 (some FieldType.int) (some (.int res)) σ g σ (6, lv, []) := by
  intro n
  induction n with
  | zero => intro g lv σ l0 l1 l2 l3 l4 l5 bl0 g0 g1 g2 g3 g4 g5 res h; simp [k_Machine_numberAt_11_8_b6] at h
  | succ n hKK =>
    intro g lv σ l0 l1 l2 l3 l4 l5 bl0 g0 g1 g2 g3 g4 g5 res h
    unfold k_Machine_numberAt_11_8_b6 at h
    dsimp only at h
    refine cR_lift (fun _ _ kk => eE_iload lk92_6 g5 kk) ?_
    refine cR_lift (fun _ _ kk => eE_iload_n lk92_8 g1 kk) ?_
    refine cR_lift (fun _ _ kk => eE_iload_n lk92_9 g2 kk) ?_
    refine cR_lift (fun _ _ kk => eE_iadd lk92_10 kk) ?_
    refine cR_icmp (t := 49) lk92_11 (by decide) (fun c1 => ?_) (fun c1 => ?_)
    · rw [if_pos c1] at h
      exact k_Machine_numberAt_11_8_b49_ok hp0 hL hF  g lv σ l4 g4 _ h
    · rw [if_neg c1] at h
      refine cR_lift (fun _ _ kk => eE_iload lk92_14 g5 kk) ?_
      refine cR_lift (fun _ _ kk => eE_iload_n lk92_16 g3 kk) ?_
      refine cR_icmp (t := 49) lk92_17 (by decide) (fun c2 => ?_) (fun c2 => ?_)
      · rw [if_pos c2] at h
        exact k_Machine_numberAt_11_8_b49_ok hp0 hL hF  g lv σ l4 g4 _ h
      · rw [if_neg c2] at h
        refine cR_lift (fun _ _ kk => eE_iload lk92_20 g5 kk) ?_
        refine cR_lift (fun _ _ kk => eE_aload_n lk92_22 g0 kk) ?_
        refine cR_alen (cl := 11) (i := l0) (f := 8) lk92_23 (by decide) (by decide) bl0 ?_
        refine cR_icmp (t := 49) lk92_24 (by decide) (fun c3 => ?_) (fun c3 => ?_)
        · rw [if_pos c3] at h
          exact k_Machine_numberAt_11_8_b49_ok hp0 hL hF  g lv σ l4 g4 _ h
        · rw [if_neg c3] at h
          refine cR_lift (fun _ _ kk => eE_iload lk92_27 g4 kk) ?_
          refine cR_lift (fun _ _ kk => eE_bipush (v := 8) lk92_29 (by decide) kk) ?_
          refine cR_lift (fun _ _ kk => eE_ishl lk92_31 kk) ?_
          refine cR_lift (fun _ _ kk => eE_aload_n lk92_32 g0 kk) ?_
          refine cR_lift (fun _ _ kk => eE_iload lk92_33 g5 kk) ?_
          obtain ⟨x4, h5, h⟩ := Option.bind_eq_some_iff.mp h
          refine cR_bald (cl := 11) (i := l0) (f := 8) lk92_35 (by decide) (Or.inl rfl) bl0 h5 ?_
          refine cR_lift (fun _ _ kk => eE_sipush (v := 255) lk92_36 (by decide) kk) ?_
          refine cR_lift (fun _ _ kk => eE_iand lk92_39 kk) ?_
          refine cR_lift (fun _ _ kk => eE_ior lk92_40 kk) ?_
          refine cR_stI (j := 4) lk92_41 (Or.inl rfl) (by decide) (fun vq6 gq7 kq8 => ?_)
          have gq9 := kq8 0 _ (by decide) (fun e => absurd e (by decide)) g0
          have gq10 := kq8 1 _ (by decide) (fun e => absurd e (by decide)) g1
          have gq11 := kq8 2 _ (by decide) (fun e => absurd e (by decide)) g2
          have gq12 := kq8 3 _ (by decide) (fun _ => rfl) g3
          have gq13 := kq8 5 _ (by decide) (fun e => absurd e (by decide)) g5
          refine cR_inc (j := 5) (v := l5 + (1 : Int32)) lk92_43 gq13 rfl (by decide) (fun vq14 gq15 kq16 => ?_)
          have gq17 := kq16 0 _ (by decide) (fun e => absurd e (by decide)) gq9
          have gq18 := kq16 1 _ (by decide) (fun e => absurd e (by decide)) gq10
          have gq19 := kq16 2 _ (by decide) (fun e => absurd e (by decide)) gq11
          have gq20 := kq16 3 _ (by decide) (fun e => absurd e (by decide)) gq12
          have gq21 := kq16 4 _ (by decide) (fun _ => rfl) gq7
          refine cR_lift (fun _ _ kk => eE_goto (t := 6) lk92_46 (by decide) kk) ?_
          exact hKK g vq14 σ l0 l1 l2 l3 ((l4 <<< (((8 : Int32)) &&& 31)) ||| (x4 &&& ((255 : Int32)))) (l5 + (1 : Int32)) bl0 gq17 gq18 gq19 gq20 gq21 gq15 _ h
def k_Machine_numberAt_11_8_b0 (F : Nat)  (σ : CS) (l0 : Nat) (l1 : Int32) (l2 : Int32) (l3 : Int32) : Option (Int32) :=
  k_Machine_numberAt_11_8_b6 F  F σ l0 l1 l2 l3 ((0 : Int32)) l1
set_option maxRecDepth 4000 in
theorem k_Machine_numberAt_11_8_b0_ok {E : CE} {pF : Nat → List Value → xH → Option (Option Value × xH)} (hp0 : xNPc pF) (hL : lcAll E pF) (hF : lcF pF) {d : Nat} {F : Nat}   : ∀ (g : CG) (lv : xL) (σ : CS) (l0 : Nat) (l1 : Int32) (l2 : Int32) (l3 : Int32), (cob σ 11 l0) → (xg lv 0 = some (.ref (car E g 11 l0 8))) → (xg lv 1 = some (.int l1)) → (xg lv 2 = some (.int l2)) → (xg lv 3 = some (.int l3)) → ∀ res, k_Machine_numberAt_11_8_b0 F  σ l0 l1 l2 l3 = some res → cR E cQ1 pF (d + 0) kT92 10 6 (some FieldType.int) (some (.int res)) σ g σ (0, lv, []) := by
  intro g lv σ l0 l1 l2 l3 bl0 g0 g1 g2 g3 res h
  unfold k_Machine_numberAt_11_8_b0 at h
  refine cR_lift (fun _ _ kk => eE_iconst (v := 0) lk92_0 (by decide) kk) ?_
  refine cR_stI (j := 4) lk92_1 (Or.inl rfl) (by decide) (fun vq22 gq23 kq24 => ?_)
  have gq25 := kq24 0 _ (by decide) (fun e => absurd e (by decide)) g0
  have gq26 := kq24 1 _ (by decide) (fun e => absurd e (by decide)) g1
  have gq27 := kq24 2 _ (by decide) (fun e => absurd e (by decide)) g2
  have gq28 := kq24 3 _ (by decide) (fun _ => rfl) g3
  refine cR_lift (fun _ _ kk => eE_iload_n lk92_3 gq26 kk) ?_
  refine cR_stI (j := 5) lk92_4 (Or.inl rfl) (by decide) (fun vq29 gq30 kq31 => ?_)
  have gq32 := kq31 0 _ (by decide) (fun e => absurd e (by decide)) gq25
  have gq33 := kq31 1 _ (by decide) (fun e => absurd e (by decide)) gq26
  have gq34 := kq31 2 _ (by decide) (fun e => absurd e (by decide)) gq27
  have gq35 := kq31 3 _ (by decide) (fun e => absurd e (by decide)) gq28
  have gq36 := kq31 4 _ (by decide) (fun _ => rfl) gq23
  exact k_Machine_numberAt_11_8_b6_ok hp0 hL hF  F g vq29 σ l0 l1 l2 l3 ((0 : Int32)) l1 bl0 gq32 gq33 gq34 gq35 gq36 gq30 _ h
def k_Machine_numberAt_11_8 (F : Nat) (σ : CS) (l0 : Nat) (l1 : Int32) (l2 : Int32) (l3 : Int32) : Option (Int32) := k_Machine_numberAt_11_8_b0 F σ l0 l1 l2 l3
theorem k_Machine_numberAt_11_8_ok {E : CE} {pF : Nat → List Value → xH → Option (Option Value × xH)} (hp0 : xNPc pF) (hL : lcAll E pF) (hF : lcF pF) {d : Nat} {g : CG} {σ : CS} {F : Nat} {l0 : Nat} {l1 : Int32} {l2 : Int32} {l3 : Int32} {res : Int32} (bl0 : cob σ 11 l0) (h : k_Machine_numberAt_11_8 F σ l0 l1 l2 l3 = some res) : cCo E cQ1 pF (d + 1) 92 [.ref (car E g 11 l0 8), .int l1, .int l2, .int l3] (some (.int res)) σ g σ :=
  cCo_R kk_92 mo_92 ni_92 xm_92 (Nat.le_of_ble_eq_true rfl) (hp0 92 (by decide) _) (k_Machine_numberAt_11_8_b0_ok hp0 hL hF g _ σ l0 l1 l2 l3 bl0 rfl rfl rfl rfl _ h)
