/-! printed by wip/whole/gen_cls.py -/
/-! k_Disk_syncFile (49), depth 4 -/
def k_Disk_syncFile_b51  (σ : CS) (l0 : Nat) (l1 : Int32) : Option (CS) :=
  (cix 6 0 l1).bind fun n1 =>
  (cwr σ 6 l0 2 l1 (cI σ 11 (30 * l0 + cpg n1) 1 0)).bind fun σ3 =>
  some σ3
set_option maxRecDepth 4000 in
theorem k_Disk_syncFile_b51_ok {E : CE} {pF : Nat → List Value → xH → Option (Option Value × xH)} (hp0 : xNPc pF) (hL : lcAll E pF) (hF : lcF pF) {d : Nat}   : ∀ (g : CG) (lv : xL) (σ : CS) (l0 : Nat) (l1 : Int32), (cob σ 6 l0) → (xg lv 0 = some (.ref (coa E 6 l0))) → (xg lv 1 = some (.int l1)) → ∀ res, k_Disk_syncFile_b51  σ l0 l1 = some res → cR E (cQx [11]) pF (d + 3) kT49 6 2 none none res g σ (51, lv, []) := by
  intro g lv σ l0 l1 bl0 g0 g1 res h
  unfold k_Disk_syncFile_b51 at h
  refine cR_lift (fun _ _ kk => eE_aload_n lk49_51 g0 kk) ?_
  refine cR_getA lk49_52 rf_6_20 (by decide) bl0 ?_
  refine cR_lift (fun _ _ kk => eE_iload_n lk49_55 g1 kk) ?_
  refine cR_lift (fun _ _ kk => eE_aload_n lk49_56 g0 kk) ?_
  refine cR_getA lk49_57 rf_6_11 (by decide) bl0 ?_
  refine cR_lift (fun _ _ kk => eE_iload_n lk49_60 g1 kk) ?_
  obtain ⟨n1, h2, h⟩ := Option.bind_eq_some_iff.mp h
  refine cR_aald (cl := 6) (i := l0) (f := 0) (cl' := 11) (i' := 30 * l0 + cpg n1) lk49_61 rfl (by decide) bl0 h2 rfl ?_
  refine cR_getI lk49_62 rf_6_38 rfl (cob_pg (c := σ) bl0 (cix_lt h2)).1 ?_
  obtain ⟨σ3, h4, h⟩ := Option.bind_eq_some_iff.mp h
  refine cR_iast (cl := 6) (i := l0) (f := 2) lk49_65 (by decide) rfl bl0 h4 ?_
  cases h
  exact cR_end lk49_66 rfl rfl rfl
def k_Disk_syncFile_b0  (σ : CS) (l0 : Nat) (l1 : Int32) : Option (CS) :=
  (cix 6 1 l1).bind fun n5 =>
  (cix 6 0 l1).bind fun n7 =>
  if (30 * l0 + ckp n5 = 30 * l0 + cpg n7) = (true = true) then (
    k_Disk_syncFile_b51  σ l0 l1
  ) else (
    (cix 6 1 l1).bind fun n10 =>
    (cix 6 0 l1).bind fun n12 =>
    (crd σ 6 l0 3 l1).bind fun x14 =>
    (k_Page_takeOver σ (30 * l0 + ckp n10) (30 * l0 + cpg n12) x14).bind fun p16 =>
    (cix 6 0 l1).bind fun n20 =>
    (cwr p16 6 l0 3 l1 (cI p16 11 (30 * l0 + cpg n20) 5 0)).bind fun σ22 =>
    k_Disk_syncFile_b51  σ22 l0 l1
  )
set_option maxRecDepth 4000 in
theorem k_Disk_syncFile_b0_ok {E : CE} {pF : Nat → List Value → xH → Option (Option Value × xH)} (hp0 : xNPc pF) (hL : lcAll E pF) (hF : lcF pF) {d : Nat}   : ∀ (g : CG) (lv : xL) (σ : CS) (l0 : Nat) (l1 : Int32), (cob σ 6 l0) → (xg lv 0 = some (.ref (coa E 6 l0))) → (xg lv 1 = some (.int l1)) → ∀ res, k_Disk_syncFile_b0  σ l0 l1 = some res → cR E (cQx [11]) pF (d + 3) kT49 6 2 none none res g σ (0, lv, []) := by
  intro g lv σ l0 l1 bl0 g0 g1 res h
  unfold k_Disk_syncFile_b0 at h
  refine cR_lift (fun _ _ kk => eE_aload_n lk49_0 g0 kk) ?_
  refine cR_getA lk49_1 rf_6_17 (by decide) bl0 ?_
  refine cR_lift (fun _ _ kk => eE_iload_n lk49_4 g1 kk) ?_
  obtain ⟨n5, h6, h⟩ := Option.bind_eq_some_iff.mp h
  refine cR_aald (cl := 6) (i := l0) (f := 1) (cl' := 11) (i' := 30 * l0 + ckp n5) lk49_5 rfl (by decide) bl0 h6 rfl ?_
  refine cR_lift (fun _ _ kk => eE_aload_n lk49_6 g0 kk) ?_
  refine cR_getA lk49_7 rf_6_11 (by decide) bl0 ?_
  refine cR_lift (fun _ _ kk => eE_iload_n lk49_10 g1 kk) ?_
  obtain ⟨n7, h8, h⟩ := Option.bind_eq_some_iff.mp h
  refine cR_aald (cl := 6) (i := l0) (f := 0) (cl' := 11) (i' := 30 * l0 + cpg n7) lk49_11 rfl (by decide) bl0 h8 rfl ?_
  refine cR_acmp (eq := true) (t := 51) lk49_12 (by decide) (cob_pg (c := σ) bl0 (cix_lt h6)).2 (cob_pg (c := σ) bl0 (cix_lt h8)).1 (fun c9 => ?_) (fun c9 => ?_)
  · rw [if_pos c9] at h
    exact k_Disk_syncFile_b51_ok hp0 hL hF  g lv σ l0 l1 bl0 g0 g1 _ h
  · rw [if_neg c9] at h
    refine cR_lift (fun _ _ kk => eE_aload_n lk49_15 g0 kk) ?_
    refine cR_getA lk49_16 rf_6_17 (by decide) bl0 ?_
    refine cR_lift (fun _ _ kk => eE_iload_n lk49_19 g1 kk) ?_
    obtain ⟨n10, h11, h⟩ := Option.bind_eq_some_iff.mp h
    refine cR_aald (cl := 6) (i := l0) (f := 1) (cl' := 11) (i' := 30 * l0 + ckp n10) lk49_20 rfl (by decide) bl0 h11 rfl ?_
    refine cR_lift (fun _ _ kk => eE_aload_n lk49_21 g0 kk) ?_
    refine cR_getA lk49_22 rf_6_11 (by decide) bl0 ?_
    refine cR_lift (fun _ _ kk => eE_iload_n lk49_25 g1 kk) ?_
    obtain ⟨n12, h13, h⟩ := Option.bind_eq_some_iff.mp h
    refine cR_aald (cl := 6) (i := l0) (f := 0) (cl' := 11) (i' := 30 * l0 + cpg n12) lk49_26 rfl (by decide) bl0 h13 rfl ?_
    refine cR_lift (fun _ _ kk => eE_aload_n lk49_27 g0 kk) ?_
    refine cR_getA lk49_28 rf_6_24 (by decide) bl0 ?_
    refine cR_lift (fun _ _ kk => eE_iload_n lk49_31 g1 kk) ?_
    obtain ⟨x14, h15, h⟩ := Option.bind_eq_some_iff.mp h
    refine cR_iald (cl := 6) (i := l0) (f := 3) lk49_32 (by decide) rfl bl0 h15 ?_
    obtain ⟨p16, h17, h⟩ := Option.bind_eq_some_iff.mp h
    refine cR_virtG (by exact cQx_sub rfl) (cl := 11) (i := 30 * l0 + ckp n10) (as := [.ref (coa E 11 (30 * l0 + cpg n12)), .int x14]) lk49_33 mr_6_112 na_113 rfl rfl (by first | exact Nat.le_of_ble_eq_true rfl | (simp [xcat, cvo_cat, cat_i, cat_j, cat_r]; done)) wv_113 wc_113 (cob_pg (c := σ) bl0 (cix_lt h11)).2 (k_Page_takeOver_ok hp0 hL hF (d := d + 0) (cob_pg (c := σ) bl0 (cix_lt h11)).2 (cob_pg (c := σ) bl0 (cix_lt h13)).1 h17) (fun m18 g_19 g_19e => ?_)
    refine cR_lift (fun _ _ kk => eE_aload_n lk49_36 g0 kk) ?_
    refine cR_getA lk49_37 rf_6_24 (by decide) (cob_any rfl bl0) ?_
    refine cR_lift (fun _ _ kk => eE_iload_n lk49_40 g1 kk) ?_
    refine cR_lift (fun _ _ kk => eE_aload_n lk49_41 g0 kk) ?_
    refine cR_getA lk49_42 rf_6_11 (by decide) (cob_any rfl bl0) ?_
    refine cR_lift (fun _ _ kk => eE_iload_n lk49_45 g1 kk) ?_
    obtain ⟨n20, h21, h⟩ := Option.bind_eq_some_iff.mp h
    refine cR_aald (cl := 6) (i := l0) (f := 0) (cl' := 11) (i' := 30 * l0 + cpg n20) lk49_46 rfl (by decide) (cob_any rfl bl0) h21 rfl ?_
    refine cR_getI lk49_47 rf_6_96 rfl (cob_pg (c := p16) (cob_any rfl bl0) (cix_lt h21)).1 ?_
    obtain ⟨σ22, h23, h⟩ := Option.bind_eq_some_iff.mp h
    refine cR_iast (cl := 6) (i := l0) (f := 3) lk49_50 (by decide) rfl (cob_any rfl bl0) h23 ?_
    exact k_Disk_syncFile_b51_ok hp0 hL hF  g_19 lv σ22 l0 l1 (cob_any rfl bl0) g0 g1 _ h
def k_Disk_syncFile (σ : CS) (l0 : Nat) (l1 : Int32) : Option (CS) := k_Disk_syncFile_b0 σ l0 l1
theorem k_Disk_syncFile_ok {E : CE} {pF : Nat → List Value → xH → Option (Option Value × xH)} (hp0 : xNPc pF) (hL : lcAll E pF) (hF : lcF pF) {d : Nat} {g : CG} {σ : CS} {l0 : Nat} {l1 : Int32} {res : CS} (bl0 : cob σ 6 l0) (h : k_Disk_syncFile σ l0 l1 = some res) : cCo E (cQx [11]) pF (d + 4) 49 [.ref (coa E 6 l0), .int l1] none res g σ :=
  cCo_R kk_49 mo_49 ni_49 xm_49 (Nat.le_of_ble_eq_true rfl) (hp0 49 (by decide) _) (k_Disk_syncFile_b0_ok hp0 hL hF g _ σ l0 l1 bl0 rfl rfl _ h)
/-! k_Disk_fall (36), depth 5 -/
def k_Disk_fall_b147 (F : Nat) (K5 : CS → Nat → Int64 → Int32 → Option (CS)) (σ : CS) (l0 : Nat) (l3 : Int64) (l5 : Int32) : Option (CS) :=
  (k_Disk_syncFile σ l0 l5).bind fun p1 =>
  K5 p1 l0 l3 (l5 + (1 : Int32))
set_option maxRecDepth 4000 in
theorem k_Disk_fall_b147_ok {E : CE} {pF : Nat → List Value → xH → Option (Option Value × xH)} (hp0 : xNPc pF) (hL : lcAll E pF) (hF : lcF pF) {d : Nat} {F : Nat} {K5 : CS → Nat → Int64 → Int32 → Option (CS)} (hK5 : ∀ (g : CG) (lv : xL) (σ : CS) (l0 : Nat) (l3 : Int64) (l5 : Int32), (cob σ 6 l0) → (xg lv 0 = some (.ref (coa E 6 l0))) → (xg lv 3 = some (.long l3)) → (xg lv 5 = some (.int l5)) → ∀ res, K5 σ l0 l3 l5 = some res → cR E (cQx [11]) pF (d + 4) kT36 6 7 none none res g σ (5, lv, [])) : ∀ (g : CG) (lv : xL) (σ : CS) (l0 : Nat) (l3 : Int64) (l5 : Int32), (cob σ 6 l0) → (xg lv 0 = some (.ref (coa E 6 l0))) → (xg lv 3 = some (.long l3)) → (xg lv 5 = some (.int l5)) → ∀ res, k_Disk_fall_b147 F K5 σ l0 l3 l5 = some res → cR E (cQx [11]) pF (d + 4) kT36 6 7 none none res g σ (147, lv, []) := by
  intro g lv σ l0 l3 l5 bl0 g0 g3 g5 res h
  unfold k_Disk_fall_b147 at h
  refine cR_lift (fun _ _ kk => eE_aload_n lk36_147 g0 kk) ?_
  refine cR_lift (fun _ _ kk => eE_iload lk36_148 g5 kk) ?_
  obtain ⟨p1, h2, h⟩ := Option.bind_eq_some_iff.mp h
  refine cR_virtG (by exact cQx_sub rfl) (cl := 6) (i := l0) (as := [.int l5]) lk36_150 mr_6_109 na_49 rfl rfl (by first | exact Nat.le_of_ble_eq_true rfl | (simp [xcat, cvo_cat, cat_i, cat_j, cat_r]; done)) wv_49 wc_49 bl0 (k_Disk_syncFile_ok hp0 hL hF (d := d + 0) bl0 h2) (fun m3 g_4 g_4e => ?_)
  refine cR_inc (j := 5) (v := l5 + (1 : Int32)) lk36_153 g5 rfl (by decide) (fun vq5 gq6 kq7 => ?_)
  have gq8 := kq7 0 _ (by decide) (fun e => absurd e (by decide)) g0
  have gq9 := kq7 3 _ (by decide) (fun e => absurd e (by decide)) g3
  refine cR_lift (fun _ _ kk => eE_goto (t := 5) lk36_156 (by decide) kk) ?_
  exact hK5 g_4 vq5 p1 l0 l3 (l5 + (1 : Int32)) (cob_any rfl bl0) gq8 gq9 gq6 _ h
def k_Disk_fall_b5 (F : Nat)  : Nat → CS → Nat → Int64 → Int32 → Option (CS)
  | 0, _, _, _, _ => none
  | n + 1, σ, l0, l3, l5 =>
    let KK := k_Disk_fall_b5 F  n
    if xc2 .ge l5 ((16 : Int32)) = true then (
      some σ
    ) else (
      (cix 6 0 l5).bind fun n16 =>
      (crd σ 6 l0 2 l5).bind fun x18 =>
      if xc0 .eq (lg_cmp ((((l3 * ((6364136223846793005 : Int64))) + ((1442695040888963407 : Int64))).toUInt64 >>> (((61 : Int32)).toInt64.toUInt64 &&& Int64.toUInt64 63)).toInt64) ((0 : Int64))) = true then (
        (cix 6 1 l5).bind fun n27 =>
        (cix 6 0 l5).bind fun n29 =>
        if (30 * l0 + ckp n27 = 30 * l0 + cpg n29) = (true = true) then (
          k_Disk_fall_b147 F KK σ l0 ((l3 * ((6364136223846793005 : Int64))) + ((1442695040888963407 : Int64))) l5
        ) else (
          (cix 6 0 l5).bind fun n32 =>
          (cix 6 1 l5).bind fun n34 =>
          (crd σ 6 l0 3 l5).bind fun x36 =>
          (k_Page_takeOver σ (30 * l0 + cpg n32) (30 * l0 + ckp n34) x36).bind fun p38 =>
          (cix 6 0 l5).bind fun n42 =>
          (cwr p38 6 l0 3 l5 (cI p38 11 (30 * l0 + cpg n42) 5 0)).bind fun σ44 =>
          k_Disk_fall_b147 F KK σ44 l0 ((l3 * ((6364136223846793005 : Int64))) + ((1442695040888963407 : Int64))) l5
        )
      ) else (
        (crd σ 6 l0 2 l5).bind fun x46 =>
        if (((((2 : Int32)) * (cmax ((0 : Int32)) ((cI σ 11 (30 * l0 + cpg n16) 1 0) - x18))) + ((1 : Int32))).toInt64) = 0 then none else
        (k_Disk_cutTo F σ l0 l5 (x46 + (((((((l3 * ((6364136223846793005 : Int64))) + ((1442695040888963407 : Int64))).toUInt64 >>> (((33 : Int32)).toInt64.toUInt64 &&& Int64.toUInt64 63)).toInt64) &&& ((1048575 : Int64))) - (((((l3 * ((6364136223846793005 : Int64))) + ((1442695040888963407 : Int64))).toUInt64 >>> (((33 : Int32)).toInt64.toUInt64 &&& Int64.toUInt64 63)).toInt64) &&& ((1048575 : Int64))) / (((((2 : Int32)) * (cmax ((0 : Int32)) ((cI σ 11 (30 * l0 + cpg n16) 1 0) - x18))) + ((1 : Int32))).toInt64) * (((((2 : Int32)) * (cmax ((0 : Int32)) ((cI σ 11 (30 * l0 + cpg n16) 1 0) - x18))) + ((1 : Int32))).toInt64)).toInt32))).bind fun p49 =>
        k_Disk_fall_b147 F KK p49 l0 ((l3 * ((6364136223846793005 : Int64))) + ((1442695040888963407 : Int64))) l5
      )
    )
set_option maxRecDepth 4000 in
theorem k_Disk_fall_b5_ok {E : CE} {pF : Nat → List Value → xH → Option (Option Value × xH)} (hp0 : xNPc pF) (hL : lcAll E pF) (hF : lcF pF) {d : Nat} {F : Nat}   : ∀ (n : Nat) (g : CG) (lv : xL) (σ : CS) (l0 : Nat) (l3 : Int64) (l5 : Int32), (cob σ 6 l0) → (xg lv 0 = some (.ref (coa E 6 l0))) → (xg lv 3 = some (.long l3)) → (xg lv 5 = some (.int l5)) → ∀ res, k_Disk_fall_b5 F  n σ l0 l3 l5 = some res → cR E (cQx [11]) pF (d + 4) kT36 6 7 none none res g σ (5, lv, []) := by
  intro n
  induction n with
  | zero => intro g lv σ l0 l3 l5 bl0 g0 g3 g5 res h; simp [k_Disk_fall_b5] at h
  | succ n hKK =>
    intro g lv σ l0 l3 l5 bl0 g0 g3 g5 res h
    unfold k_Disk_fall_b5 at h
    dsimp only at h
    refine cR_lift (fun _ _ kk => eE_iload lk36_5 g5 kk) ?_
    refine cR_lift (fun _ _ kk => eE_bipush (v := 16) lk36_7 (by decide) kk) ?_
    refine cR_icmp (t := 159) lk36_9 (by decide) (fun c10 => ?_) (fun c10 => ?_)
    · rw [if_pos c10] at h
      cases h
      exact cR_end lk36_159 rfl rfl rfl
    · rw [if_neg c10] at h
      refine cR_lift (fun _ _ kk => eE_lload_n lk36_12 g3 kk) ?_
      refine cR_lift (fun _ _ kk => eE_ldc2_w (v := 6364136223846793005) lk36_13 xl_6_116 kk) ?_
      refine cR_lift (fun _ _ kk => eE_lmul lk36_16 kk) ?_
      refine cR_lift (fun _ _ kk => eE_ldc2_w (v := 1442695040888963407) lk36_17 xl_6_118 kk) ?_
      refine cR_lift (fun _ _ kk => eE_ladd lk36_20 kk) ?_
      refine cR_stL (j := 3) lk36_21 (Or.inr ⟨_, rfl, rfl⟩) (by decide) (fun vq11 gq12 kq13 => ?_)
      have gq14 := kq13 0 _ (by decide) (by decide) (fun e => absurd e (by decide)) g0
      have gq15 := kq13 5 _ (by decide) (by decide) (fun e => absurd e (by decide)) g5
      refine cR_lift (fun _ _ kk => eE_iconst (v := 2) lk36_22 (by decide) kk) ?_
      refine cR_lift (fun _ _ kk => eE_iconst (v := 0) lk36_23 (by decide) kk) ?_
      refine cR_lift (fun _ _ kk => eE_aload_n lk36_24 gq14 kk) ?_
      refine cR_getA lk36_25 rf_6_11 (by decide) bl0 ?_
      refine cR_lift (fun _ _ kk => eE_iload lk36_28 gq15 kk) ?_
      obtain ⟨n16, h17, h⟩ := Option.bind_eq_some_iff.mp h
      refine cR_aald (cl := 6) (i := l0) (f := 0) (cl' := 11) (i' := 30 * l0 + cpg n16) lk36_30 rfl (by decide) bl0 h17 rfl ?_
      refine cR_getI lk36_31 rf_6_38 rfl (cob_pg (c := σ) bl0 (cix_lt h17)).1 ?_
      refine cR_lift (fun _ _ kk => eE_aload_n lk36_34 gq14 kk) ?_
      refine cR_getA lk36_35 rf_6_20 (by decide) bl0 ?_
      refine cR_lift (fun _ _ kk => eE_iload lk36_38 gq15 kk) ?_
      obtain ⟨x18, h19, h⟩ := Option.bind_eq_some_iff.mp h
      refine cR_iald (cl := 6) (i := l0) (f := 2) lk36_40 (by decide) rfl bl0 h19 ?_
      refine cR_lift (fun _ _ kk => eE_isub lk36_41 kk) ?_
      refine cR_max lk36_42 mr_6_120 (by first | exact Nat.le_of_ble_eq_true rfl | (simp [xcat, cvo_cat, cat_i, cat_j, cat_r]; done)) ?_
      refine cR_lift (fun _ _ kk => eE_imul lk36_45 kk) ?_
      refine cR_lift (fun _ _ kk => eE_iconst (v := 1) lk36_46 (by decide) kk) ?_
      refine cR_lift (fun _ _ kk => eE_iadd lk36_47 kk) ?_
      refine cR_stI (j := 6) lk36_48 (Or.inl rfl) (by decide) (fun vq20 gq21 kq22 => ?_)
      have gq23 := kq22 0 _ (by decide) (fun e => absurd e (by decide)) gq14
      have gq24 := kq22 5 _ (by decide) (fun _ => rfl) gq15
      have gq25 := kq22 3 _ (by decide) (fun e => absurd e (by decide)) gq12
      refine cR_lift (fun _ _ kk => eE_lload_n lk36_50 gq25 kk) ?_
      refine cR_lift (fun _ _ kk => eE_bipush (v := 61) lk36_51 (by decide) kk) ?_
      refine cR_lift (fun _ _ kk => eE_lushr lk36_53 kk) ?_
      refine cR_lift (fun _ _ kk => eE_lconst (v := 0) lk36_54 (by decide) kk) ?_
      refine cR_lift (fun _ _ kk => eE_lcmp lk36_55 kk) ?_
      refine cR_if (t := 89) lk36_56 (by decide) (fun c26 => ?_) (fun c26 => ?_)
      · rw [if_pos c26] at h
        refine cR_lift (fun _ _ kk => eE_aload_n lk36_89 gq23 kk) ?_
        refine cR_getA lk36_90 rf_6_17 (by decide) bl0 ?_
        refine cR_lift (fun _ _ kk => eE_iload lk36_93 gq24 kk) ?_
        obtain ⟨n27, h28, h⟩ := Option.bind_eq_some_iff.mp h
        refine cR_aald (cl := 6) (i := l0) (f := 1) (cl' := 11) (i' := 30 * l0 + ckp n27) lk36_95 rfl (by decide) bl0 h28 rfl ?_
        refine cR_lift (fun _ _ kk => eE_aload_n lk36_96 gq23 kk) ?_
        refine cR_getA lk36_97 rf_6_11 (by decide) bl0 ?_
        refine cR_lift (fun _ _ kk => eE_iload lk36_100 gq24 kk) ?_
        obtain ⟨n29, h30, h⟩ := Option.bind_eq_some_iff.mp h
        refine cR_aald (cl := 6) (i := l0) (f := 0) (cl' := 11) (i' := 30 * l0 + cpg n29) lk36_102 rfl (by decide) bl0 h30 rfl ?_
        refine cR_acmp (eq := true) (t := 147) lk36_103 (by decide) (cob_pg (c := σ) bl0 (cix_lt h28)).2 (cob_pg (c := σ) bl0 (cix_lt h30)).1 (fun c31 => ?_) (fun c31 => ?_)
        · rw [if_pos c31] at h
          exact k_Disk_fall_b147_ok hp0 hL hF hKK g vq20 σ l0 ((l3 * ((6364136223846793005 : Int64))) + ((1442695040888963407 : Int64))) l5 bl0 gq23 gq25 gq24 _ h
        · rw [if_neg c31] at h
          refine cR_lift (fun _ _ kk => eE_aload_n lk36_106 gq23 kk) ?_
          refine cR_getA lk36_107 rf_6_11 (by decide) bl0 ?_
          refine cR_lift (fun _ _ kk => eE_iload lk36_110 gq24 kk) ?_
          obtain ⟨n32, h33, h⟩ := Option.bind_eq_some_iff.mp h
          refine cR_aald (cl := 6) (i := l0) (f := 0) (cl' := 11) (i' := 30 * l0 + cpg n32) lk36_112 rfl (by decide) bl0 h33 rfl ?_
          refine cR_lift (fun _ _ kk => eE_aload_n lk36_113 gq23 kk) ?_
          refine cR_getA lk36_114 rf_6_17 (by decide) bl0 ?_
          refine cR_lift (fun _ _ kk => eE_iload lk36_117 gq24 kk) ?_
          obtain ⟨n34, h35, h⟩ := Option.bind_eq_some_iff.mp h
          refine cR_aald (cl := 6) (i := l0) (f := 1) (cl' := 11) (i' := 30 * l0 + ckp n34) lk36_119 rfl (by decide) bl0 h35 rfl ?_
          refine cR_lift (fun _ _ kk => eE_aload_n lk36_120 gq23 kk) ?_
          refine cR_getA lk36_121 rf_6_24 (by decide) bl0 ?_
          refine cR_lift (fun _ _ kk => eE_iload lk36_124 gq24 kk) ?_
          obtain ⟨x36, h37, h⟩ := Option.bind_eq_some_iff.mp h
          refine cR_iald (cl := 6) (i := l0) (f := 3) lk36_126 (by decide) rfl bl0 h37 ?_
          obtain ⟨p38, h39, h⟩ := Option.bind_eq_some_iff.mp h
          refine cR_virtG (by exact cQx_sub rfl) (cl := 11) (i := 30 * l0 + cpg n32) (as := [.ref (coa E 11 (30 * l0 + ckp n34)), .int x36]) lk36_127 mr_6_112 na_113 rfl rfl (by first | exact Nat.le_of_ble_eq_true rfl | (simp [xcat, cvo_cat, cat_i, cat_j, cat_r]; done)) wv_113 wc_113 (cob_pg (c := σ) bl0 (cix_lt h33)).1 (k_Page_takeOver_ok hp0 hL hF (d := d + 1) (cob_pg (c := σ) bl0 (cix_lt h33)).1 (cob_pg (c := σ) bl0 (cix_lt h35)).2 h39) (fun m40 g_41 g_41e => ?_)
          refine cR_lift (fun _ _ kk => eE_aload_n lk36_130 gq23 kk) ?_
          refine cR_getA lk36_131 rf_6_24 (by decide) (cob_any rfl bl0) ?_
          refine cR_lift (fun _ _ kk => eE_iload lk36_134 gq24 kk) ?_
          refine cR_lift (fun _ _ kk => eE_aload_n lk36_136 gq23 kk) ?_
          refine cR_getA lk36_137 rf_6_11 (by decide) (cob_any rfl bl0) ?_
          refine cR_lift (fun _ _ kk => eE_iload lk36_140 gq24 kk) ?_
          obtain ⟨n42, h43, h⟩ := Option.bind_eq_some_iff.mp h
          refine cR_aald (cl := 6) (i := l0) (f := 0) (cl' := 11) (i' := 30 * l0 + cpg n42) lk36_142 rfl (by decide) (cob_any rfl bl0) h43 rfl ?_
          refine cR_getI lk36_143 rf_6_96 rfl (cob_pg (c := p38) (cob_any rfl bl0) (cix_lt h43)).1 ?_
          obtain ⟨σ44, h45, h⟩ := Option.bind_eq_some_iff.mp h
          refine cR_iast (cl := 6) (i := l0) (f := 3) lk36_146 (by decide) rfl (cob_any rfl bl0) h45 ?_
          exact k_Disk_fall_b147_ok hp0 hL hF hKK g_41 vq20 σ44 l0 ((l3 * ((6364136223846793005 : Int64))) + ((1442695040888963407 : Int64))) l5 (cob_any rfl bl0) gq23 gq25 gq24 _ h
      · rw [if_neg c26] at h
        refine cR_lift (fun _ _ kk => eE_aload_n lk36_59 gq23 kk) ?_
        refine cR_lift (fun _ _ kk => eE_iload lk36_60 gq24 kk) ?_
        refine cR_lift (fun _ _ kk => eE_aload_n lk36_62 gq23 kk) ?_
        refine cR_getA lk36_63 rf_6_20 (by decide) bl0 ?_
        refine cR_lift (fun _ _ kk => eE_iload lk36_66 gq24 kk) ?_
        obtain ⟨x46, h47, h⟩ := Option.bind_eq_some_iff.mp h
        refine cR_iald (cl := 6) (i := l0) (f := 2) lk36_68 (by decide) rfl bl0 h47 ?_
        refine cR_lift (fun _ _ kk => eE_lload_n lk36_69 gq25 kk) ?_
        refine cR_lift (fun _ _ kk => eE_bipush (v := 33) lk36_70 (by decide) kk) ?_
        refine cR_lift (fun _ _ kk => eE_lushr lk36_72 kk) ?_
        refine cR_lift (fun _ _ kk => eE_ldc2_w (v := 1048575) lk36_73 xl_6_123 kk) ?_
        refine cR_lift (fun _ _ kk => eE_land lk36_76 kk) ?_
        refine cR_lift (fun _ _ kk => eE_iload lk36_77 gq21 kk) ?_
        refine cR_lift (fun _ _ kk => eE_i2l lk36_79 kk) ?_
        by_cases z48 : (((((2 : Int32)) * (cmax ((0 : Int32)) ((cI σ 11 (30 * l0 + cpg n16) 1 0) - x18))) + ((1 : Int32))).toInt64) = 0
        · rw [if_pos z48] at h; cases h
        rw [if_neg z48] at h
        refine cR_lift (fun _ _ kk => eE_lrem lk36_80 z48 kk) ?_
        refine cR_lift (fun _ _ kk => eE_l2i lk36_81 kk) ?_
        refine cR_lift (fun _ _ kk => eE_iadd lk36_82 kk) ?_
        obtain ⟨p49, h50, h⟩ := Option.bind_eq_some_iff.mp h
        refine cR_virt (cl := 6) (i := l0) (as := [.int l5, .int (x46 + (((((((l3 * ((6364136223846793005 : Int64))) + ((1442695040888963407 : Int64))).toUInt64 >>> (((33 : Int32)).toInt64.toUInt64 &&& Int64.toUInt64 63)).toInt64) &&& ((1048575 : Int64))) - (((((l3 * ((6364136223846793005 : Int64))) + ((1442695040888963407 : Int64))).toUInt64 >>> (((33 : Int32)).toInt64.toUInt64 &&& Int64.toUInt64 63)).toInt64) &&& ((1048575 : Int64))) / (((((2 : Int32)) * (cmax ((0 : Int32)) ((cI σ 11 (30 * l0 + cpg n16) 1 0) - x18))) + ((1 : Int32))).toInt64) * (((((2 : Int32)) * (cmax ((0 : Int32)) ((cI σ 11 (30 * l0 + cpg n16) 1 0) - x18))) + ((1 : Int32))).toInt64)).toInt32))]) lk36_83 mr_6_93 na_35 rfl rfl (by first | exact Nat.le_of_ble_eq_true rfl | (simp [xcat, cvo_cat, cat_i, cat_j, cat_r]; done)) wv_35 wc_35 bl0 (k_Disk_cutTo_ok hp0 hL hF (d := d + 2) bl0 h50) (fun m51  => ?_)
        refine cR_lift (fun _ _ kk => eE_goto (t := 147) lk36_86 (by decide) kk) ?_
        exact k_Disk_fall_b147_ok hp0 hL hF hKK g vq20 p49 l0 ((l3 * ((6364136223846793005 : Int64))) + ((1442695040888963407 : Int64))) l5 (cob_any rfl bl0) gq23 gq25 gq24 _ h
def k_Disk_fall_b0 (F : Nat)  (σ : CS) (l0 : Nat) (l1 : Int64) : Option (CS) :=
  k_Disk_fall_b5 F  F σ l0 l1 ((0 : Int32))
set_option maxRecDepth 4000 in
theorem k_Disk_fall_b0_ok {E : CE} {pF : Nat → List Value → xH → Option (Option Value × xH)} (hp0 : xNPc pF) (hL : lcAll E pF) (hF : lcF pF) {d : Nat} {F : Nat}   : ∀ (g : CG) (lv : xL) (σ : CS) (l0 : Nat) (l1 : Int64), (cob σ 6 l0) → (xg lv 0 = some (.ref (coa E 6 l0))) → (xg lv 1 = some (.long l1)) → ∀ res, k_Disk_fall_b0 F  σ l0 l1 = some res → cR E (cQx [11]) pF (d + 4) kT36 6 7 none none res g σ (0, lv, []) := by
  intro g lv σ l0 l1 bl0 g0 g1 res h
  unfold k_Disk_fall_b0 at h
  refine cR_lift (fun _ _ kk => eE_lload_n lk36_0 g1 kk) ?_
  refine cR_stL (j := 3) lk36_1 (Or.inr ⟨_, rfl, rfl⟩) (by decide) (fun vq52 gq53 kq54 => ?_)
  have gq55 := kq54 0 _ (by decide) (by decide) (fun e => absurd e (by decide)) g0
  refine cR_lift (fun _ _ kk => eE_iconst (v := 0) lk36_2 (by decide) kk) ?_
  refine cR_stI (j := 5) lk36_3 (Or.inl rfl) (by decide) (fun vq56 gq57 kq58 => ?_)
  have gq59 := kq58 0 _ (by decide) (fun e => absurd e (by decide)) gq55
  have gq60 := kq58 3 _ (by decide) (fun e => absurd e (by decide)) gq53
  exact k_Disk_fall_b5_ok hp0 hL hF  F g vq56 σ l0 l1 ((0 : Int32)) bl0 gq59 gq60 gq57 _ h
def k_Disk_fall (F : Nat) (σ : CS) (l0 : Nat) (l1 : Int64) : Option (CS) := k_Disk_fall_b0 F σ l0 l1
theorem k_Disk_fall_ok {E : CE} {pF : Nat → List Value → xH → Option (Option Value × xH)} (hp0 : xNPc pF) (hL : lcAll E pF) (hF : lcF pF) {d : Nat} {g : CG} {σ : CS} {F : Nat} {l0 : Nat} {l1 : Int64} {res : CS} (bl0 : cob σ 6 l0) (h : k_Disk_fall F σ l0 l1 = some res) : cCo E (cQx [11]) pF (d + 5) 36 [.ref (coa E 6 l0), .long l1] none res g σ :=
  cCo_R kk_36 mo_36 ni_36 xm_36 (Nat.le_of_ble_eq_true rfl) (hp0 36 (by decide) _) (k_Disk_fall_b0_ok hp0 hL hF g _ σ l0 l1 bl0 rfl rfl _ h)
/-! k_Disk_later (43), depth 1 -/
def k_Disk_later_b100  (σ : CS) (s0 : Int32) : Option (Int32) :=
  some s0
set_option maxRecDepth 4000 in
theorem k_Disk_later_b100_ok {E : CE} {pF : Nat → List Value → xH → Option (Option Value × xH)} (hp0 : xNPc pF) (hL : lcAll E pF) (hF : lcF pF) {d : Nat}   : ∀ (g : CG) (lv : xL) (σ : CS) (s0 : Int32), ∀ res, k_Disk_later_b100  σ s0 = some res → cR E cQ1 pF (d + 0) kT43 6 6 (some FieldType.int) (some (.int res)) σ g σ (100, lv, [.int s0]) := by
  intro g lv σ s0 res h
  unfold k_Disk_later_b100 at h
  cases h
  exact cR_end lk43_100 rfl rfl rfl
def k_Disk_later_b120  (σ : CS) (s0 : Int32) : Option (Int32) :=
  some s0
set_option maxRecDepth 4000 in
theorem k_Disk_later_b120_ok {E : CE} {pF : Nat → List Value → xH → Option (Option Value × xH)} (hp0 : xNPc pF) (hL : lcAll E pF) (hF : lcF pF) {d : Nat}   : ∀ (g : CG) (lv : xL) (σ : CS) (s0 : Int32), ∀ res, k_Disk_later_b120  σ s0 = some res → cR E cQ1 pF (d + 0) kT43 6 6 (some FieldType.int) (some (.int res)) σ g σ (120, lv, [.int s0]) := by
  intro g lv σ s0 res h
  unfold k_Disk_later_b120 at h
  cases h
  exact cR_end lk43_120 rfl rfl rfl
def k_Disk_later_b101  (σ : CS) (l1 : Int32) (l2 : Int32) (l4 : Int32) (l5 : Int32) : Option (Int32) :=
  if xc0 .eq l4 = true then (
    if xc0 .eq l5 = true then (
      k_Disk_later_b120  σ ((-1 : Int32))
    ) else (
      k_Disk_later_b120  σ l2
    )
  ) else (
    k_Disk_later_b120  σ l1
  )
set_option maxRecDepth 4000 in
theorem k_Disk_later_b101_ok {E : CE} {pF : Nat → List Value → xH → Option (Option Value × xH)} (hp0 : xNPc pF) (hL : lcAll E pF) (hF : lcF pF) {d : Nat}   : ∀ (g : CG) (lv : xL) (σ : CS) (l1 : Int32) (l2 : Int32) (l4 : Int32) (l5 : Int32), (xg lv 1 = some (.int l1)) → (xg lv 2 = some (.int l2)) → (xg lv 4 = some (.int l4)) → (xg lv 5 = some (.int l5)) → ∀ res, k_Disk_later_b101  σ l1 l2 l4 l5 = some res → cR E cQ1 pF (d + 0) kT43 6 6 (some FieldType.int) (some (.int res)) σ g σ (101, lv, []) := by
  intro g lv σ l1 l2 l4 l5 g1 g2 g4 g5 res h
  unfold k_Disk_later_b101 at h
  refine cR_lift (fun _ _ kk => eE_iload lk43_101 g4 kk) ?_
  refine cR_if (t := 110) lk43_103 (by decide) (fun c1 => ?_) (fun c1 => ?_)
  · rw [if_pos c1] at h
    refine cR_lift (fun _ _ kk => eE_iload lk43_110 g5 kk) ?_
    refine cR_if (t := 119) lk43_112 (by decide) (fun c2 => ?_) (fun c2 => ?_)
    · rw [if_pos c2] at h
      refine cR_lift (fun _ _ kk => eE_iconst (v := (-1)) lk43_119 (by decide) kk) ?_
      exact k_Disk_later_b120_ok hp0 hL hF  g lv σ ((-1 : Int32))  _ h
    · rw [if_neg c2] at h
      refine cR_lift (fun _ _ kk => eE_iload_n lk43_115 g2 kk) ?_
      refine cR_lift (fun _ _ kk => eE_goto (t := 120) lk43_116 (by decide) kk) ?_
      exact k_Disk_later_b120_ok hp0 hL hF  g lv σ l2  _ h
  · rw [if_neg c1] at h
    refine cR_lift (fun _ _ kk => eE_iload_n lk43_106 g1 kk) ?_
    refine cR_lift (fun _ _ kk => eE_goto (t := 120) lk43_107 (by decide) kk) ?_
    exact k_Disk_later_b120_ok hp0 hL hF  g lv σ l1  _ h
def k_Disk_later_b62  (σ : CS) (s0 : Int32) (l0 : Nat) (l1 : Int32) (l2 : Int32) (l4 : Int32) : Option (Int32) :=
  if xc0 .eq l4 = true then (
    k_Disk_later_b101  σ l1 l2 l4 s0
  ) else (
    if xc0 .eq s0 = true then (
      k_Disk_later_b101  σ l1 l2 l4 s0
    ) else (
      (cix 6 0 l1).bind fun n12 =>
      (cix 6 0 l2).bind fun n14 =>
      if xc2 .le (cI σ 11 (30 * l0 + cpg n12) 2 0) (cI σ 11 (30 * l0 + cpg n14) 2 0) = true then (
        k_Disk_later_b100  σ l2
      ) else (
        k_Disk_later_b100  σ l1
      )
    )
  )
set_option maxRecDepth 4000 in
theorem k_Disk_later_b62_ok {E : CE} {pF : Nat → List Value → xH → Option (Option Value × xH)} (hp0 : xNPc pF) (hL : lcAll E pF) (hF : lcF pF) {d : Nat}   : ∀ (g : CG) (lv : xL) (σ : CS) (s0 : Int32) (l0 : Nat) (l1 : Int32) (l2 : Int32) (l4 : Int32), (cob σ 6 l0) → (xg lv 0 = some (.ref (coa E 6 l0))) → (xg lv 1 = some (.int l1)) → (xg lv 2 = some (.int l2)) → (xg lv 4 = some (.int l4)) → ∀ res, k_Disk_later_b62  σ s0 l0 l1 l2 l4 = some res → cR E cQ1 pF (d + 0) kT43 6 6 (some FieldType.int) (some (.int res)) σ g σ (62, lv, [.int s0]) := by
  intro g lv σ s0 l0 l1 l2 l4 bl0 g0 g1 g2 g4 res h
  unfold k_Disk_later_b62 at h
  refine cR_stI (j := 5) lk43_62 (Or.inl rfl) (by decide) (fun vq3 gq4 kq5 => ?_)
  have gq6 := kq5 0 _ (by decide) (fun e => absurd e (by decide)) g0
  have gq7 := kq5 1 _ (by decide) (fun e => absurd e (by decide)) g1
  have gq8 := kq5 2 _ (by decide) (fun e => absurd e (by decide)) g2
  have gq9 := kq5 4 _ (by decide) (fun _ => rfl) g4
  refine cR_lift (fun _ _ kk => eE_iload lk43_64 gq9 kk) ?_
  refine cR_if (t := 101) lk43_66 (by decide) (fun c10 => ?_) (fun c10 => ?_)
  · rw [if_pos c10] at h
    exact k_Disk_later_b101_ok hp0 hL hF  g vq3 σ l1 l2 l4 s0 gq7 gq8 gq9 gq4 _ h
  · rw [if_neg c10] at h
    refine cR_lift (fun _ _ kk => eE_iload lk43_69 gq4 kk) ?_
    refine cR_if (t := 101) lk43_71 (by decide) (fun c11 => ?_) (fun c11 => ?_)
    · rw [if_pos c11] at h
      exact k_Disk_later_b101_ok hp0 hL hF  g vq3 σ l1 l2 l4 s0 gq7 gq8 gq9 gq4 _ h
    · rw [if_neg c11] at h
      refine cR_lift (fun _ _ kk => eE_aload_n lk43_74 gq6 kk) ?_
      refine cR_getA lk43_75 rf_6_11 (by decide) bl0 ?_
      refine cR_lift (fun _ _ kk => eE_iload_n lk43_78 gq7 kk) ?_
      obtain ⟨n12, h13, h⟩ := Option.bind_eq_some_iff.mp h
      refine cR_aald (cl := 6) (i := l0) (f := 0) (cl' := 11) (i' := 30 * l0 + cpg n12) lk43_79 rfl (by decide) bl0 h13 rfl ?_
      refine cR_getI lk43_80 rf_6_83 rfl (cob_pg (c := σ) bl0 (cix_lt h13)).1 ?_
      refine cR_lift (fun _ _ kk => eE_aload_n lk43_83 gq6 kk) ?_
      refine cR_getA lk43_84 rf_6_11 (by decide) bl0 ?_
      refine cR_lift (fun _ _ kk => eE_iload_n lk43_87 gq8 kk) ?_
      obtain ⟨n14, h15, h⟩ := Option.bind_eq_some_iff.mp h
      refine cR_aald (cl := 6) (i := l0) (f := 0) (cl' := 11) (i' := 30 * l0 + cpg n14) lk43_88 rfl (by decide) bl0 h15 rfl ?_
      refine cR_getI lk43_89 rf_6_83 rfl (cob_pg (c := σ) bl0 (cix_lt h15)).1 ?_
      refine cR_icmp (t := 99) lk43_92 (by decide) (fun c16 => ?_) (fun c16 => ?_)
      · rw [if_pos c16] at h
        refine cR_lift (fun _ _ kk => eE_iload_n lk43_99 gq8 kk) ?_
        exact k_Disk_later_b100_ok hp0 hL hF  g vq3 σ l2  _ h
      · rw [if_neg c16] at h
        refine cR_lift (fun _ _ kk => eE_iload_n lk43_95 gq7 kk) ?_
        refine cR_lift (fun _ _ kk => eE_goto (t := 100) lk43_96 (by decide) kk) ?_
        exact k_Disk_later_b100_ok hp0 hL hF  g vq3 σ l1  _ h
def k_Disk_later_b61  (σ : CS) (l0 : Nat) (l1 : Int32) (l2 : Int32) (l4 : Int32) : Option (Int32) :=
  k_Disk_later_b62  σ ((0 : Int32)) l0 l1 l2 l4
set_option maxRecDepth 4000 in
theorem k_Disk_later_b61_ok {E : CE} {pF : Nat → List Value → xH → Option (Option Value × xH)} (hp0 : xNPc pF) (hL : lcAll E pF) (hF : lcF pF) {d : Nat}   : ∀ (g : CG) (lv : xL) (σ : CS) (l0 : Nat) (l1 : Int32) (l2 : Int32) (l4 : Int32), (cob σ 6 l0) → (xg lv 0 = some (.ref (coa E 6 l0))) → (xg lv 1 = some (.int l1)) → (xg lv 2 = some (.int l2)) → (xg lv 4 = some (.int l4)) → ∀ res, k_Disk_later_b61  σ l0 l1 l2 l4 = some res → cR E cQ1 pF (d + 0) kT43 6 6 (some FieldType.int) (some (.int res)) σ g σ (61, lv, []) := by
  intro g lv σ l0 l1 l2 l4 bl0 g0 g1 g2 g4 res h
  unfold k_Disk_later_b61 at h
  refine cR_lift (fun _ _ kk => eE_iconst (v := 0) lk43_61 (by decide) kk) ?_
  exact k_Disk_later_b62_ok hp0 hL hF  g lv σ ((0 : Int32)) l0 l1 l2 l4 bl0 g0 g1 g2 g4 _ h
def k_Disk_later_b30  (σ : CS) (s0 : Int32) (l0 : Nat) (l1 : Int32) (l2 : Int32) (l3 : Int32) : Option (Int32) :=
  (cix 6 0 l2).bind fun n24 =>
  if xc0 .eq (cI σ 11 (30 * l0 + cpg n24) 0 0) = true then (
    k_Disk_later_b61  σ l0 l1 l2 s0
  ) else (
    (cix 6 0 l2).bind fun n27 =>
    if xc2 .lt (cI σ 11 (30 * l0 + cpg n27) 1 0) l3 = true then (
      k_Disk_later_b61  σ l0 l1 l2 s0
    ) else (
      k_Disk_later_b62  σ ((1 : Int32)) l0 l1 l2 s0
    )
  )
set_option maxRecDepth 4000 in
theorem k_Disk_later_b30_ok {E : CE} {pF : Nat → List Value → xH → Option (Option Value × xH)} (hp0 : xNPc pF) (hL : lcAll E pF) (hF : lcF pF) {d : Nat}   : ∀ (g : CG) (lv : xL) (σ : CS) (s0 : Int32) (l0 : Nat) (l1 : Int32) (l2 : Int32) (l3 : Int32), (cob σ 6 l0) → (xg lv 0 = some (.ref (coa E 6 l0))) → (xg lv 1 = some (.int l1)) → (xg lv 2 = some (.int l2)) → (xg lv 3 = some (.int l3)) → ∀ res, k_Disk_later_b30  σ s0 l0 l1 l2 l3 = some res → cR E cQ1 pF (d + 0) kT43 6 6 (some FieldType.int) (some (.int res)) σ g σ (30, lv, [.int s0]) := by
  intro g lv σ s0 l0 l1 l2 l3 bl0 g0 g1 g2 g3 res h
  unfold k_Disk_later_b30 at h
  refine cR_stI (j := 4) lk43_30 (Or.inl rfl) (by decide) (fun vq17 gq18 kq19 => ?_)
  have gq20 := kq19 0 _ (by decide) (fun e => absurd e (by decide)) g0
  have gq21 := kq19 1 _ (by decide) (fun e => absurd e (by decide)) g1
  have gq22 := kq19 2 _ (by decide) (fun e => absurd e (by decide)) g2
  have gq23 := kq19 3 _ (by decide) (fun _ => rfl) g3
  refine cR_lift (fun _ _ kk => eE_aload_n lk43_32 gq20 kk) ?_
  refine cR_getA lk43_33 rf_6_11 (by decide) bl0 ?_
  refine cR_lift (fun _ _ kk => eE_iload_n lk43_36 gq22 kk) ?_
  obtain ⟨n24, h25, h⟩ := Option.bind_eq_some_iff.mp h
  refine cR_aald (cl := 6) (i := l0) (f := 0) (cl' := 11) (i' := 30 * l0 + cpg n24) lk43_37 rfl (by decide) bl0 h25 rfl ?_
  refine cR_getI lk43_38 rf_6_41 rfl (cob_pg (c := σ) bl0 (cix_lt h25)).1 ?_
  refine cR_if (t := 61) lk43_41 (by decide) (fun c26 => ?_) (fun c26 => ?_)
  · rw [if_pos c26] at h
    exact k_Disk_later_b61_ok hp0 hL hF  g vq17 σ l0 l1 l2 s0 bl0 gq20 gq21 gq22 gq18 _ h
  · rw [if_neg c26] at h
    refine cR_lift (fun _ _ kk => eE_aload_n lk43_44 gq20 kk) ?_
    refine cR_getA lk43_45 rf_6_11 (by decide) bl0 ?_
    refine cR_lift (fun _ _ kk => eE_iload_n lk43_48 gq22 kk) ?_
    obtain ⟨n27, h28, h⟩ := Option.bind_eq_some_iff.mp h
    refine cR_aald (cl := 6) (i := l0) (f := 0) (cl' := 11) (i' := 30 * l0 + cpg n27) lk43_49 rfl (by decide) bl0 h28 rfl ?_
    refine cR_getI lk43_50 rf_6_38 rfl (cob_pg (c := σ) bl0 (cix_lt h28)).1 ?_
    refine cR_lift (fun _ _ kk => eE_iload_n lk43_53 gq23 kk) ?_
    refine cR_icmp (t := 61) lk43_54 (by decide) (fun c29 => ?_) (fun c29 => ?_)
    · rw [if_pos c29] at h
      exact k_Disk_later_b61_ok hp0 hL hF  g vq17 σ l0 l1 l2 s0 bl0 gq20 gq21 gq22 gq18 _ h
    · rw [if_neg c29] at h
      refine cR_lift (fun _ _ kk => eE_iconst (v := 1) lk43_57 (by decide) kk) ?_
      refine cR_lift (fun _ _ kk => eE_goto (t := 62) lk43_58 (by decide) kk) ?_
      exact k_Disk_later_b62_ok hp0 hL hF  g vq17 σ ((1 : Int32)) l0 l1 l2 s0 bl0 gq20 gq21 gq22 gq18 _ h
def k_Disk_later_b29  (σ : CS) (l0 : Nat) (l1 : Int32) (l2 : Int32) (l3 : Int32) : Option (Int32) :=
  k_Disk_later_b30  σ ((0 : Int32)) l0 l1 l2 l3
set_option maxRecDepth 4000 in
theorem k_Disk_later_b29_ok {E : CE} {pF : Nat → List Value → xH → Option (Option Value × xH)} (hp0 : xNPc pF) (hL : lcAll E pF) (hF : lcF pF) {d : Nat}   : ∀ (g : CG) (lv : xL) (σ : CS) (l0 : Nat) (l1 : Int32) (l2 : Int32) (l3 : Int32), (cob σ 6 l0) → (xg lv 0 = some (.ref (coa E 6 l0))) → (xg lv 1 = some (.int l1)) → (xg lv 2 = some (.int l2)) → (xg lv 3 = some (.int l3)) → ∀ res, k_Disk_later_b29  σ l0 l1 l2 l3 = some res → cR E cQ1 pF (d + 0) kT43 6 6 (some FieldType.int) (some (.int res)) σ g σ (29, lv, []) := by
  intro g lv σ l0 l1 l2 l3 bl0 g0 g1 g2 g3 res h
  unfold k_Disk_later_b29 at h
  refine cR_lift (fun _ _ kk => eE_iconst (v := 0) lk43_29 (by decide) kk) ?_
  exact k_Disk_later_b30_ok hp0 hL hF  g lv σ ((0 : Int32)) l0 l1 l2 l3 bl0 g0 g1 g2 g3 _ h
def k_Disk_later_b0  (σ : CS) (l0 : Nat) (l1 : Int32) (l2 : Int32) (l3 : Int32) : Option (Int32) :=
  (cix 6 0 l1).bind fun n30 =>
  if xc0 .eq (cI σ 11 (30 * l0 + cpg n30) 0 0) = true then (
    k_Disk_later_b29  σ l0 l1 l2 l3
  ) else (
    (cix 6 0 l1).bind fun n33 =>
    if xc2 .lt (cI σ 11 (30 * l0 + cpg n33) 1 0) l3 = true then (
      k_Disk_later_b29  σ l0 l1 l2 l3
    ) else (
      k_Disk_later_b30  σ ((1 : Int32)) l0 l1 l2 l3
    )
  )
set_option maxRecDepth 4000 in
theorem k_Disk_later_b0_ok {E : CE} {pF : Nat → List Value → xH → Option (Option Value × xH)} (hp0 : xNPc pF) (hL : lcAll E pF) (hF : lcF pF) {d : Nat}   : ∀ (g : CG) (lv : xL) (σ : CS) (l0 : Nat) (l1 : Int32) (l2 : Int32) (l3 : Int32), (cob σ 6 l0) → (xg lv 0 = some (.ref (coa E 6 l0))) → (xg lv 1 = some (.int l1)) → (xg lv 2 = some (.int l2)) → (xg lv 3 = some (.int l3)) → ∀ res, k_Disk_later_b0  σ l0 l1 l2 l3 = some res → cR E cQ1 pF (d + 0) kT43 6 6 (some FieldType.int) (some (.int res)) σ g σ (0, lv, []) := by
  intro g lv σ l0 l1 l2 l3 bl0 g0 g1 g2 g3 res h
  unfold k_Disk_later_b0 at h
  refine cR_lift (fun _ _ kk => eE_aload_n lk43_0 g0 kk) ?_
  refine cR_getA lk43_1 rf_6_11 (by decide) bl0 ?_
  refine cR_lift (fun _ _ kk => eE_iload_n lk43_4 g1 kk) ?_
  obtain ⟨n30, h31, h⟩ := Option.bind_eq_some_iff.mp h
  refine cR_aald (cl := 6) (i := l0) (f := 0) (cl' := 11) (i' := 30 * l0 + cpg n30) lk43_5 rfl (by decide) bl0 h31 rfl ?_
  refine cR_getI lk43_6 rf_6_41 rfl (cob_pg (c := σ) bl0 (cix_lt h31)).1 ?_
  refine cR_if (t := 29) lk43_9 (by decide) (fun c32 => ?_) (fun c32 => ?_)
  · rw [if_pos c32] at h
    exact k_Disk_later_b29_ok hp0 hL hF  g lv σ l0 l1 l2 l3 bl0 g0 g1 g2 g3 _ h
  · rw [if_neg c32] at h
    refine cR_lift (fun _ _ kk => eE_aload_n lk43_12 g0 kk) ?_
    refine cR_getA lk43_13 rf_6_11 (by decide) bl0 ?_
    refine cR_lift (fun _ _ kk => eE_iload_n lk43_16 g1 kk) ?_
    obtain ⟨n33, h34, h⟩ := Option.bind_eq_some_iff.mp h
    refine cR_aald (cl := 6) (i := l0) (f := 0) (cl' := 11) (i' := 30 * l0 + cpg n33) lk43_17 rfl (by decide) bl0 h34 rfl ?_
    refine cR_getI lk43_18 rf_6_38 rfl (cob_pg (c := σ) bl0 (cix_lt h34)).1 ?_
    refine cR_lift (fun _ _ kk => eE_iload_n lk43_21 g3 kk) ?_
    refine cR_icmp (t := 29) lk43_22 (by decide) (fun c35 => ?_) (fun c35 => ?_)
    · rw [if_pos c35] at h
      exact k_Disk_later_b29_ok hp0 hL hF  g lv σ l0 l1 l2 l3 bl0 g0 g1 g2 g3 _ h
    · rw [if_neg c35] at h
      refine cR_lift (fun _ _ kk => eE_iconst (v := 1) lk43_25 (by decide) kk) ?_
      refine cR_lift (fun _ _ kk => eE_goto (t := 30) lk43_26 (by decide) kk) ?_
      exact k_Disk_later_b30_ok hp0 hL hF  g lv σ ((1 : Int32)) l0 l1 l2 l3 bl0 g0 g1 g2 g3 _ h
def k_Disk_later (σ : CS) (l0 : Nat) (l1 : Int32) (l2 : Int32) (l3 : Int32) : Option (Int32) := k_Disk_later_b0 σ l0 l1 l2 l3
theorem k_Disk_later_ok {E : CE} {pF : Nat → List Value → xH → Option (Option Value × xH)} (hp0 : xNPc pF) (hL : lcAll E pF) (hF : lcF pF) {d : Nat} {g : CG} {σ : CS} {l0 : Nat} {l1 : Int32} {l2 : Int32} {l3 : Int32} {res : Int32} (bl0 : cob σ 6 l0) (h : k_Disk_later σ l0 l1 l2 l3 = some res) : cCo E cQ1 pF (d + 1) 43 [.ref (coa E 6 l0), .int l1, .int l2, .int l3] (some (.int res)) σ g σ :=
  cCo_R kk_43 mo_43 ni_43 xm_43 (Nat.le_of_ble_eq_true rfl) (hp0 43 (by decide) _) (k_Disk_later_b0_ok hp0 hL hF g _ σ l0 l1 l2 l3 bl0 rfl rfl rfl rfl _ h)
/-! k_Disk_isSegment (42), depth 1 -/
def k_Disk_isSegment_b31  (σ : CS) (s0 : Int32) : Option (Int32) :=
  if s0 = 0 ∨ s0 = 1 then some s0 else none
set_option maxRecDepth 4000 in
theorem k_Disk_isSegment_b31_ok {E : CE} {pF : Nat → List Value → xH → Option (Option Value × xH)} (hp0 : xNPc pF) (hL : lcAll E pF) (hF : lcF pF) {d : Nat}   : ∀ (g : CG) (lv : xL) (σ : CS) (s0 : Int32), ∀ res, k_Disk_isSegment_b31  σ s0 = some res → cR E cQ1 pF (d + 0) kT42 6 2 (some FieldType.boolean) (some (.int res)) σ g σ (31, lv, [.int s0]) := by
  intro g lv σ s0 res h
  unfold k_Disk_isSegment_b31 at h
  by_cases z1 : s0 = 0 ∨ s0 = 1
  · rw [if_pos z1] at h; cases h
    exact cR_end lk42_31 rfl rfl (by first | (simp only [xfin, if_true, if_pos z1]; done) | simp [xfin, z1])
  · rw [if_neg z1] at h; cases h
def k_Disk_isSegment_b30  (σ : CS) : Option (Int32) :=
  k_Disk_isSegment_b31  σ ((0 : Int32))
set_option maxRecDepth 4000 in
theorem k_Disk_isSegment_b30_ok {E : CE} {pF : Nat → List Value → xH → Option (Option Value × xH)} (hp0 : xNPc pF) (hL : lcAll E pF) (hF : lcF pF) {d : Nat}   : ∀ (g : CG) (lv : xL) (σ : CS), ∀ res, k_Disk_isSegment_b30  σ = some res → cR E cQ1 pF (d + 0) kT42 6 2 (some FieldType.boolean) (some (.int res)) σ g σ (30, lv, []) := by
  intro g lv σ res h
  unfold k_Disk_isSegment_b30 at h
  refine cR_lift (fun _ _ kk => eE_iconst (v := 0) lk42_30 (by decide) kk) ?_
  exact k_Disk_isSegment_b31_ok hp0 hL hF  g lv σ ((0 : Int32))  _ h
def k_Disk_isSegment_b0  (σ : CS) (l0 : Nat) (l1 : Int32) : Option (Int32) :=
  (cix 6 0 l1).bind fun n2 =>
  if xc0 .eq (cI σ 11 (30 * l0 + cpg n2) 0 0) = true then (
    k_Disk_isSegment_b30  σ
  ) else (
    (cix 6 0 l1).bind fun n5 =>
    if xc2 .lt (cI σ 11 (30 * l0 + cpg n5) 1 0) ((24 : Int32)) = true then (
      k_Disk_isSegment_b30  σ
    ) else (
      k_Disk_isSegment_b31  σ ((1 : Int32))
    )
  )
set_option maxRecDepth 4000 in
theorem k_Disk_isSegment_b0_ok {E : CE} {pF : Nat → List Value → xH → Option (Option Value × xH)} (hp0 : xNPc pF) (hL : lcAll E pF) (hF : lcF pF) {d : Nat}   : ∀ (g : CG) (lv : xL) (σ : CS) (l0 : Nat) (l1 : Int32), (cob σ 6 l0) → (xg lv 0 = some (.ref (coa E 6 l0))) → (xg lv 1 = some (.int l1)) → ∀ res, k_Disk_isSegment_b0  σ l0 l1 = some res → cR E cQ1 pF (d + 0) kT42 6 2 (some FieldType.boolean) (some (.int res)) σ g σ (0, lv, []) := by
  intro g lv σ l0 l1 bl0 g0 g1 res h
  unfold k_Disk_isSegment_b0 at h
  refine cR_lift (fun _ _ kk => eE_aload_n lk42_0 g0 kk) ?_
  refine cR_getA lk42_1 rf_6_11 (by decide) bl0 ?_
  refine cR_lift (fun _ _ kk => eE_iload_n lk42_4 g1 kk) ?_
  obtain ⟨n2, h3, h⟩ := Option.bind_eq_some_iff.mp h
  refine cR_aald (cl := 6) (i := l0) (f := 0) (cl' := 11) (i' := 30 * l0 + cpg n2) lk42_5 rfl (by decide) bl0 h3 rfl ?_
  refine cR_getI lk42_6 rf_6_41 rfl (cob_pg (c := σ) bl0 (cix_lt h3)).1 ?_
  refine cR_if (t := 30) lk42_9 (by decide) (fun c4 => ?_) (fun c4 => ?_)
  · rw [if_pos c4] at h
    exact k_Disk_isSegment_b30_ok hp0 hL hF  g lv σ  _ h
  · rw [if_neg c4] at h
    refine cR_lift (fun _ _ kk => eE_aload_n lk42_12 g0 kk) ?_
    refine cR_getA lk42_13 rf_6_11 (by decide) bl0 ?_
    refine cR_lift (fun _ _ kk => eE_iload_n lk42_16 g1 kk) ?_
    obtain ⟨n5, h6, h⟩ := Option.bind_eq_some_iff.mp h
    refine cR_aald (cl := 6) (i := l0) (f := 0) (cl' := 11) (i' := 30 * l0 + cpg n5) lk42_17 rfl (by decide) bl0 h6 rfl ?_
    refine cR_getI lk42_18 rf_6_38 rfl (cob_pg (c := σ) bl0 (cix_lt h6)).1 ?_
    refine cR_lift (fun _ _ kk => eE_bipush (v := 24) lk42_21 (by decide) kk) ?_
    refine cR_icmp (t := 30) lk42_23 (by decide) (fun c7 => ?_) (fun c7 => ?_)
    · rw [if_pos c7] at h
      exact k_Disk_isSegment_b30_ok hp0 hL hF  g lv σ  _ h
    · rw [if_neg c7] at h
      refine cR_lift (fun _ _ kk => eE_iconst (v := 1) lk42_26 (by decide) kk) ?_
      refine cR_lift (fun _ _ kk => eE_goto (t := 31) lk42_27 (by decide) kk) ?_
      exact k_Disk_isSegment_b31_ok hp0 hL hF  g lv σ ((1 : Int32))  _ h
def k_Disk_isSegment (σ : CS) (l0 : Nat) (l1 : Int32) : Option (Int32) := k_Disk_isSegment_b0 σ l0 l1
theorem k_Disk_isSegment_ok {E : CE} {pF : Nat → List Value → xH → Option (Option Value × xH)} (hp0 : xNPc pF) (hL : lcAll E pF) (hF : lcF pF) {d : Nat} {g : CG} {σ : CS} {l0 : Nat} {l1 : Int32} {res : Int32} (bl0 : cob σ 6 l0) (h : k_Disk_isSegment σ l0 l1 = some res) : cCo E cQ1 pF (d + 1) 42 [.ref (coa E 6 l0), .int l1] (some (.int res)) σ g σ :=
  cCo_R kk_42 mo_42 ni_42 xm_42 (Nat.le_of_ble_eq_true rfl) (hp0 42 (by decide) _) (k_Disk_isSegment_b0_ok hp0 hL hF g _ σ l0 l1 bl0 rfl rfl _ h)
/-! k_Disk_firstSegment (39), depth 2 -/
def k_Disk_firstSegment_b61 (F : Nat) (K4 : CS → Nat → Int32 → Int32 → Int32 → Option (Int32)) (σ : CS) (l0 : Nat) (l1 : Int32) (l2 : Int32) (l3 : Int32) : Option (Int32) :=
  K4 σ l0 l1 l2 (l3 + (1 : Int32))
set_option maxRecDepth 4000 in
theorem k_Disk_firstSegment_b61_ok {E : CE} {pF : Nat → List Value → xH → Option (Option Value × xH)} (hp0 : xNPc pF) (hL : lcAll E pF) (hF : lcF pF) {d : Nat} {F : Nat} {K4 : CS → Nat → Int32 → Int32 → Int32 → Option (Int32)} (hK4 : ∀ (g : CG) (lv : xL) (σ : CS) (l0 : Nat) (l1 : Int32) (l2 : Int32) (l3 : Int32), (cob σ 6 l0) → (xg lv 0 = some (.ref (coa E 6 l0))) → (xg lv 1 = some (.int l1)) → (xg lv 2 = some (.int l2)) → (xg lv 3 = some (.int l3)) → ∀ res, K4 σ l0 l1 l2 l3 = some res → cR E cQ1 pF (d + 1) kT39 6 4 (some FieldType.int) (some (.int res)) σ g σ (4, lv, [])) : ∀ (g : CG) (lv : xL) (σ : CS) (l0 : Nat) (l1 : Int32) (l2 : Int32) (l3 : Int32), (cob σ 6 l0) → (xg lv 0 = some (.ref (coa E 6 l0))) → (xg lv 1 = some (.int l1)) → (xg lv 2 = some (.int l2)) → (xg lv 3 = some (.int l3)) → ∀ res, k_Disk_firstSegment_b61 F K4 σ l0 l1 l2 l3 = some res → cR E cQ1 pF (d + 1) kT39 6 4 (some FieldType.int) (some (.int res)) σ g σ (61, lv, []) := by
  intro g lv σ l0 l1 l2 l3 bl0 g0 g1 g2 g3 res h
  unfold k_Disk_firstSegment_b61 at h
  refine cR_inc (j := 3) (v := l3 + (1 : Int32)) lk39_61 g3 rfl (by decide) (fun vq1 gq2 kq3 => ?_)
  have gq4 := kq3 0 _ (by decide) (fun e => absurd e (by decide)) g0
  have gq5 := kq3 1 _ (by decide) (fun e => absurd e (by decide)) g1
  have gq6 := kq3 2 _ (by decide) (fun _ => rfl) g2
  refine cR_lift (fun _ _ kk => eE_goto (t := 4) lk39_64 (by decide) kk) ?_
  exact hK4 g vq1 σ l0 l1 l2 (l3 + (1 : Int32)) bl0 gq4 gq5 gq6 gq2 _ h
def k_Disk_firstSegment_b59 (F : Nat) (K4 : CS → Nat → Int32 → Int32 → Int32 → Option (Int32)) (σ : CS) (l0 : Nat) (l1 : Int32) (l3 : Int32) : Option (Int32) :=
  k_Disk_firstSegment_b61 F K4 σ l0 l1 l3 l3
set_option maxRecDepth 4000 in
theorem k_Disk_firstSegment_b59_ok {E : CE} {pF : Nat → List Value → xH → Option (Option Value × xH)} (hp0 : xNPc pF) (hL : lcAll E pF) (hF : lcF pF) {d : Nat} {F : Nat} {K4 : CS → Nat → Int32 → Int32 → Int32 → Option (Int32)} (hK4 : ∀ (g : CG) (lv : xL) (σ : CS) (l0 : Nat) (l1 : Int32) (l2 : Int32) (l3 : Int32), (cob σ 6 l0) → (xg lv 0 = some (.ref (coa E 6 l0))) → (xg lv 1 = some (.int l1)) → (xg lv 2 = some (.int l2)) → (xg lv 3 = some (.int l3)) → ∀ res, K4 σ l0 l1 l2 l3 = some res → cR E cQ1 pF (d + 1) kT39 6 4 (some FieldType.int) (some (.int res)) σ g σ (4, lv, [])) : ∀ (g : CG) (lv : xL) (σ : CS) (l0 : Nat) (l1 : Int32) (l3 : Int32), (cob σ 6 l0) → (xg lv 0 = some (.ref (coa E 6 l0))) → (xg lv 1 = some (.int l1)) → (xg lv 3 = some (.int l3)) → ∀ res, k_Disk_firstSegment_b59 F K4 σ l0 l1 l3 = some res → cR E cQ1 pF (d + 1) kT39 6 4 (some FieldType.int) (some (.int res)) σ g σ (59, lv, []) := by
  intro g lv σ l0 l1 l3 bl0 g0 g1 g3 res h
  unfold k_Disk_firstSegment_b59 at h
  refine cR_lift (fun _ _ kk => eE_iload_n lk39_59 g3 kk) ?_
  refine cR_stI (j := 2) lk39_60 (Or.inr ⟨_, rfl, rfl⟩) (by decide) (fun vq7 gq8 kq9 => ?_)
  have gq10 := kq9 0 _ (by decide) (fun e => absurd e (by decide)) g0
  have gq11 := kq9 1 _ (by decide) (fun _ => rfl) g1
  have gq12 := kq9 3 _ (by decide) (fun e => absurd e (by decide)) g3
  exact k_Disk_firstSegment_b61_ok hp0 hL hF hK4 g vq7 σ l0 l1 l3 l3 bl0 gq10 gq11 gq8 gq12 _ h
def k_Disk_firstSegment_b4 (F : Nat)  : Nat → CS → Nat → Int32 → Int32 → Int32 → Option (Int32)
  | 0, _, _, _, _, _ => none
  | n + 1, σ, l0, l1, l2, l3 =>
    let KK := k_Disk_firstSegment_b4 F  n
    if xc2 .ge l3 ((16 : Int32)) = true then (
      some l2
    ) else (
      (k_Disk_isSegment σ l0 l3).bind fun p14 =>
      if xc0 .eq p14 = true then (
        k_Disk_firstSegment_b61 F KK σ l0 l1 l2 l3
      ) else (
        (cix 6 0 l3).bind fun n18 =>
        if xc2 .gt (cI σ 11 (30 * l0 + cpg n18) 2 0) (l1 + ((1 : Int32))) = true then (
          k_Disk_firstSegment_b61 F KK σ l0 l1 l2 l3
        ) else (
          if xc2 .eq l2 ((-1 : Int32)) = true then (
            k_Disk_firstSegment_b59 F KK σ l0 l1 l3
          ) else (
            (cix 6 0 l3).bind fun n22 =>
            (cix 6 0 l2).bind fun n24 =>
            if xc2 .le (cI σ 11 (30 * l0 + cpg n22) 2 0) (cI σ 11 (30 * l0 + cpg n24) 2 0) = true then (
              k_Disk_firstSegment_b61 F KK σ l0 l1 l2 l3
            ) else (
              k_Disk_firstSegment_b59 F KK σ l0 l1 l3
            )
          )
        )
      )
    )
set_option maxRecDepth 4000 in
theorem k_Disk_firstSegment_b4_ok {E : CE} {pF : Nat → List Value → xH → Option (Option Value × xH)} (hp0 : xNPc pF) (hL : lcAll E pF) (hF : lcF pF) {d : Nat} {F : Nat}   : ∀ (n : Nat) (g : CG) (lv : xL) (σ : CS) (l0 : Nat) (l1 : Int32) (l2 : Int32) (l3 : Int32), (cob σ 6 l0) → (xg lv 0 = some (.ref (coa E 6 l0))) → (xg lv 1 = some (.int l1)) → (xg lv 2 = some (.int l2)) → (xg lv 3 = some (.int l3)) → ∀ res, k_Disk_firstSegment_b4 F  n σ l0 l1 l2 l3 = some res → cR E cQ1 pF (d + 1) kT39 6 4 (some FieldType.int) (some (.int res)) σ g σ (4, lv, []) := by
  intro n
  induction n with
  | zero => intro g lv σ l0 l1 l2 l3 bl0 g0 g1 g2 g3 res h; simp [k_Disk_firstSegment_b4] at h
  | succ n hKK =>
    intro g lv σ l0 l1 l2 l3 bl0 g0 g1 g2 g3 res h
    unfold k_Disk_firstSegment_b4 at h
    dsimp only at h
    refine cR_lift (fun _ _ kk => eE_iload_n lk39_4 g3 kk) ?_
    refine cR_lift (fun _ _ kk => eE_bipush (v := 16) lk39_5 (by decide) kk) ?_
    refine cR_icmp (t := 67) lk39_7 (by decide) (fun c13 => ?_) (fun c13 => ?_)
    · rw [if_pos c13] at h
      refine cR_lift (fun _ _ kk => eE_iload_n lk39_67 g2 kk) ?_
      cases h
      exact cR_end lk39_68 rfl rfl rfl
    · rw [if_neg c13] at h
      refine cR_lift (fun _ _ kk => eE_aload_n lk39_10 g0 kk) ?_
      refine cR_lift (fun _ _ kk => eE_iload_n lk39_11 g3 kk) ?_
      obtain ⟨p14, h15, h⟩ := Option.bind_eq_some_iff.mp h
      refine cR_virt (cl := 6) (i := l0) (as := [.int l3]) lk39_12 mr_6_153 na_42 rfl rfl (by first | exact Nat.le_of_ble_eq_true rfl | (simp [xcat, cvo_cat, cat_i, cat_j, cat_r]; done)) wv_42 wc_42 bl0 (k_Disk_isSegment_ok hp0 hL hF (d := d + 0) bl0 h15) (fun m16  => ?_)
      refine cR_if (t := 61) lk39_15 (by decide) (fun c17 => ?_) (fun c17 => ?_)
      · rw [if_pos c17] at h
        exact k_Disk_firstSegment_b61_ok hp0 hL hF hKK g lv σ l0 l1 l2 l3 bl0 g0 g1 g2 g3 _ h
      · rw [if_neg c17] at h
        refine cR_lift (fun _ _ kk => eE_aload_n lk39_18 g0 kk) ?_
        refine cR_getA lk39_19 rf_6_11 (by decide) bl0 ?_
        refine cR_lift (fun _ _ kk => eE_iload_n lk39_22 g3 kk) ?_
        obtain ⟨n18, h19, h⟩ := Option.bind_eq_some_iff.mp h
        refine cR_aald (cl := 6) (i := l0) (f := 0) (cl' := 11) (i' := 30 * l0 + cpg n18) lk39_23 rfl (by decide) bl0 h19 rfl ?_
        refine cR_getI lk39_24 rf_6_83 rfl (cob_pg (c := σ) bl0 (cix_lt h19)).1 ?_
        refine cR_lift (fun _ _ kk => eE_iload_n lk39_27 g1 kk) ?_
        refine cR_lift (fun _ _ kk => eE_iconst (v := 1) lk39_28 (by decide) kk) ?_
        refine cR_lift (fun _ _ kk => eE_iadd lk39_29 kk) ?_
        refine cR_icmp (t := 61) lk39_30 (by decide) (fun c20 => ?_) (fun c20 => ?_)
        · rw [if_pos c20] at h
          exact k_Disk_firstSegment_b61_ok hp0 hL hF hKK g lv σ l0 l1 l2 l3 bl0 g0 g1 g2 g3 _ h
        · rw [if_neg c20] at h
          refine cR_lift (fun _ _ kk => eE_iload_n lk39_33 g2 kk) ?_
          refine cR_lift (fun _ _ kk => eE_iconst (v := (-1)) lk39_34 (by decide) kk) ?_
          refine cR_icmp (t := 59) lk39_35 (by decide) (fun c21 => ?_) (fun c21 => ?_)
          · rw [if_pos c21] at h
            exact k_Disk_firstSegment_b59_ok hp0 hL hF hKK g lv σ l0 l1 l3 bl0 g0 g1 g3 _ h
          · rw [if_neg c21] at h
            refine cR_lift (fun _ _ kk => eE_aload_n lk39_38 g0 kk) ?_
            refine cR_getA lk39_39 rf_6_11 (by decide) bl0 ?_
            refine cR_lift (fun _ _ kk => eE_iload_n lk39_42 g3 kk) ?_
            obtain ⟨n22, h23, h⟩ := Option.bind_eq_some_iff.mp h
            refine cR_aald (cl := 6) (i := l0) (f := 0) (cl' := 11) (i' := 30 * l0 + cpg n22) lk39_43 rfl (by decide) bl0 h23 rfl ?_
            refine cR_getI lk39_44 rf_6_83 rfl (cob_pg (c := σ) bl0 (cix_lt h23)).1 ?_
            refine cR_lift (fun _ _ kk => eE_aload_n lk39_47 g0 kk) ?_
            refine cR_getA lk39_48 rf_6_11 (by decide) bl0 ?_
            refine cR_lift (fun _ _ kk => eE_iload_n lk39_51 g2 kk) ?_
            obtain ⟨n24, h25, h⟩ := Option.bind_eq_some_iff.mp h
            refine cR_aald (cl := 6) (i := l0) (f := 0) (cl' := 11) (i' := 30 * l0 + cpg n24) lk39_52 rfl (by decide) bl0 h25 rfl ?_
            refine cR_getI lk39_53 rf_6_83 rfl (cob_pg (c := σ) bl0 (cix_lt h25)).1 ?_
            refine cR_icmp (t := 61) lk39_56 (by decide) (fun c26 => ?_) (fun c26 => ?_)
            · rw [if_pos c26] at h
              exact k_Disk_firstSegment_b61_ok hp0 hL hF hKK g lv σ l0 l1 l2 l3 bl0 g0 g1 g2 g3 _ h
            · rw [if_neg c26] at h
              exact k_Disk_firstSegment_b59_ok hp0 hL hF hKK g lv σ l0 l1 l3 bl0 g0 g1 g3 _ h
def k_Disk_firstSegment_b0 (F : Nat)  (σ : CS) (l0 : Nat) (l1 : Int32) : Option (Int32) :=
  k_Disk_firstSegment_b4 F  F σ l0 l1 ((-1 : Int32)) ((4 : Int32))
set_option maxRecDepth 4000 in
theorem k_Disk_firstSegment_b0_ok {E : CE} {pF : Nat → List Value → xH → Option (Option Value × xH)} (hp0 : xNPc pF) (hL : lcAll E pF) (hF : lcF pF) {d : Nat} {F : Nat}   : ∀ (g : CG) (lv : xL) (σ : CS) (l0 : Nat) (l1 : Int32), (cob σ 6 l0) → (xg lv 0 = some (.ref (coa E 6 l0))) → (xg lv 1 = some (.int l1)) → ∀ res, k_Disk_firstSegment_b0 F  σ l0 l1 = some res → cR E cQ1 pF (d + 1) kT39 6 4 (some FieldType.int) (some (.int res)) σ g σ (0, lv, []) := by
  intro g lv σ l0 l1 bl0 g0 g1 res h
  unfold k_Disk_firstSegment_b0 at h
  refine cR_lift (fun _ _ kk => eE_iconst (v := (-1)) lk39_0 (by decide) kk) ?_
  refine cR_stI (j := 2) lk39_1 (Or.inr ⟨_, rfl, rfl⟩) (by decide) (fun vq27 gq28 kq29 => ?_)
  have gq30 := kq29 0 _ (by decide) (fun e => absurd e (by decide)) g0
  have gq31 := kq29 1 _ (by decide) (fun _ => rfl) g1
  refine cR_lift (fun _ _ kk => eE_iconst (v := 4) lk39_2 (by decide) kk) ?_
  refine cR_stI (j := 3) lk39_3 (Or.inr ⟨_, rfl, rfl⟩) (by decide) (fun vq32 gq33 kq34 => ?_)
  have gq35 := kq34 0 _ (by decide) (fun e => absurd e (by decide)) gq30
  have gq36 := kq34 1 _ (by decide) (fun e => absurd e (by decide)) gq31
  have gq37 := kq34 2 _ (by decide) (fun _ => rfl) gq28
  exact k_Disk_firstSegment_b4_ok hp0 hL hF  F g vq32 σ l0 l1 ((-1 : Int32)) ((4 : Int32)) bl0 gq35 gq36 gq37 gq33 _ h
def k_Disk_firstSegment (F : Nat) (σ : CS) (l0 : Nat) (l1 : Int32) : Option (Int32) := k_Disk_firstSegment_b0 F σ l0 l1
theorem k_Disk_firstSegment_ok {E : CE} {pF : Nat → List Value → xH → Option (Option Value × xH)} (hp0 : xNPc pF) (hL : lcAll E pF) (hF : lcF pF) {d : Nat} {g : CG} {σ : CS} {F : Nat} {l0 : Nat} {l1 : Int32} {res : Int32} (bl0 : cob σ 6 l0) (h : k_Disk_firstSegment F σ l0 l1 = some res) : cCo E cQ1 pF (d + 2) 39 [.ref (coa E 6 l0), .int l1] (some (.int res)) σ g σ :=
  cCo_R kk_39 mo_39 ni_39 xm_39 (Nat.le_of_ble_eq_true rfl) (hp0 39 (by decide) _) (k_Disk_firstSegment_b0_ok hp0 hL hF g _ σ l0 l1 bl0 rfl rfl _ h)
/-! k_Disk_tellsTerm (51), depth 1 -/
def k_Disk_tellsTerm_b20  (σ : CS) : Option (Int32) :=
  if ((0 : Int32)) = 0 ∨ ((0 : Int32)) = 1 then some ((0 : Int32)) else none
set_option maxRecDepth 4000 in
theorem k_Disk_tellsTerm_b20_ok {E : CE} {pF : Nat → List Value → xH → Option (Option Value × xH)} (hp0 : xNPc pF) (hL : lcAll E pF) (hF : lcF pF) {d : Nat}   : ∀ (g : CG) (lv : xL) (σ : CS), ∀ res, k_Disk_tellsTerm_b20  σ = some res → cR E cQ1 pF (d + 0) kT51 6 4 (some FieldType.boolean) (some (.int res)) σ g σ (20, lv, []) := by
  intro g lv σ res h
  unfold k_Disk_tellsTerm_b20 at h
  refine cR_lift (fun _ _ kk => eE_iconst (v := 0) lk51_20 (by decide) kk) ?_
  by_cases z1 : ((0 : Int32)) = 0 ∨ ((0 : Int32)) = 1
  · rw [if_pos z1] at h; cases h
    exact cR_end lk51_21 rfl rfl (by first | (simp only [xfin, if_true, if_pos z1]; done) | simp [xfin, z1])
  · rw [if_neg z1] at h; cases h
def k_Disk_tellsTerm_b53  (σ : CS) (s0 : Int32) : Option (Int32) :=
  if s0 = 0 ∨ s0 = 1 then some s0 else none
set_option maxRecDepth 4000 in
theorem k_Disk_tellsTerm_b53_ok {E : CE} {pF : Nat → List Value → xH → Option (Option Value × xH)} (hp0 : xNPc pF) (hL : lcAll E pF) (hF : lcF pF) {d : Nat}   : ∀ (g : CG) (lv : xL) (σ : CS) (s0 : Int32), ∀ res, k_Disk_tellsTerm_b53  σ s0 = some res → cR E cQ1 pF (d + 0) kT51 6 4 (some FieldType.boolean) (some (.int res)) σ g σ (53, lv, [.int s0]) := by
  intro g lv σ s0 res h
  unfold k_Disk_tellsTerm_b53 at h
  by_cases z2 : s0 = 0 ∨ s0 = 1
  · rw [if_pos z2] at h; cases h
    exact cR_end lk51_53 rfl rfl (by first | (simp only [xfin, if_true, if_pos z2]; done) | simp [xfin, z2])
  · rw [if_neg z2] at h; cases h
def k_Disk_tellsTerm_b45  (σ : CS) (s0 : Int32) (s1 : Int32) : Option (Int32) :=
  if xc2 .ne s0 s1 = true then (
    k_Disk_tellsTerm_b53  σ ((0 : Int32))
  ) else (
    k_Disk_tellsTerm_b53  σ ((1 : Int32))
  )
set_option maxRecDepth 4000 in
theorem k_Disk_tellsTerm_b45_ok {E : CE} {pF : Nat → List Value → xH → Option (Option Value × xH)} (hp0 : xNPc pF) (hL : lcAll E pF) (hF : lcF pF) {d : Nat}   : ∀ (g : CG) (lv : xL) (σ : CS) (s0 : Int32) (s1 : Int32), ∀ res, k_Disk_tellsTerm_b45  σ s0 s1 = some res → cR E cQ1 pF (d + 0) kT51 6 4 (some FieldType.boolean) (some (.int res)) σ g σ (45, lv, [.int s1, .int s0]) := by
  intro g lv σ s0 s1 res h
  unfold k_Disk_tellsTerm_b45 at h
  refine cR_icmp (t := 52) lk51_45 (by decide) (fun c3 => ?_) (fun c3 => ?_)
  · rw [if_pos c3] at h
    refine cR_lift (fun _ _ kk => eE_iconst (v := 0) lk51_52 (by decide) kk) ?_
    exact k_Disk_tellsTerm_b53_ok hp0 hL hF  g lv σ ((0 : Int32))  _ h
  · rw [if_neg c3] at h
    refine cR_lift (fun _ _ kk => eE_iconst (v := 1) lk51_48 (by decide) kk) ?_
    refine cR_lift (fun _ _ kk => eE_goto (t := 53) lk51_49 (by decide) kk) ?_
    exact k_Disk_tellsTerm_b53_ok hp0 hL hF  g lv σ ((1 : Int32))  _ h
def k_Disk_tellsTerm_b0  (σ : CS) (l0 : Nat) (l1 : Int32) (l2 : Int32) : Option (Int32) :=
  if xc2 .lt (l1 - (cI σ 11 l0 2 0)) ((-1 : Int32)) = true then (
    k_Disk_tellsTerm_b20  σ
  ) else (
    if xc2 .lt (l1 - (cI σ 11 l0 2 0)) (cI σ 11 l0 5 0) = true then (
      if xc0 .ge (l1 - (cI σ 11 l0 2 0)) = true then (
        (crd σ 11 l0 6 (((l1 - (cI σ 11 l0 2 0)) * ((6 : Int32))) + ((0 : Int32)))).bind fun x12 =>
        k_Disk_tellsTerm_b45  σ l2 x12
      ) else (
        k_Disk_tellsTerm_b45  σ l2 (cI σ 11 l0 3 0)
      )
    ) else (
      k_Disk_tellsTerm_b20  σ
    )
  )
set_option maxRecDepth 4000 in
theorem k_Disk_tellsTerm_b0_ok {E : CE} {pF : Nat → List Value → xH → Option (Option Value × xH)} (hp0 : xNPc pF) (hL : lcAll E pF) (hF : lcF pF) {d : Nat}   : ∀ (g : CG) (lv : xL) (σ : CS) (l0 : Nat) (l1 : Int32) (l2 : Int32), (cob σ 11 l0) → (xg lv 0 = some (.ref (coa E 11 l0))) → (xg lv 1 = some (.int l1)) → (xg lv 2 = some (.int l2)) → ∀ res, k_Disk_tellsTerm_b0  σ l0 l1 l2 = some res → cR E cQ1 pF (d + 0) kT51 6 4 (some FieldType.boolean) (some (.int res)) σ g σ (0, lv, []) := by
  intro g lv σ l0 l1 l2 bl0 g0 g1 g2 res h
  unfold k_Disk_tellsTerm_b0 at h
  refine cR_lift (fun _ _ kk => eE_iload_n lk51_0 g1 kk) ?_
  refine cR_lift (fun _ _ kk => eE_aload_n lk51_1 g0 kk) ?_
  refine cR_getI lk51_2 rf_6_83 rfl bl0 ?_
  refine cR_lift (fun _ _ kk => eE_isub lk51_5 kk) ?_
  refine cR_stI (j := 3) lk51_6 (Or.inr ⟨_, rfl, rfl⟩) (by decide) (fun vq4 gq5 kq6 => ?_)
  have gq7 := kq6 0 _ (by decide) (fun e => absurd e (by decide)) g0
  have gq8 := kq6 2 _ (by decide) (fun _ => rfl) g2
  refine cR_lift (fun _ _ kk => eE_iload_n lk51_7 gq5 kk) ?_
  refine cR_lift (fun _ _ kk => eE_iconst (v := (-1)) lk51_8 (by decide) kk) ?_
  refine cR_icmp (t := 20) lk51_9 (by decide) (fun c9 => ?_) (fun c9 => ?_)
  · rw [if_pos c9] at h
    exact k_Disk_tellsTerm_b20_ok hp0 hL hF  g vq4 σ  _ h
  · rw [if_neg c9] at h
    refine cR_lift (fun _ _ kk => eE_iload_n lk51_12 gq5 kk) ?_
    refine cR_lift (fun _ _ kk => eE_aload_n lk51_13 gq7 kk) ?_
    refine cR_getI lk51_14 rf_6_96 rfl bl0 ?_
    refine cR_icmp (t := 22) lk51_17 (by decide) (fun c10 => ?_) (fun c10 => ?_)
    · rw [if_pos c10] at h
      refine cR_lift (fun _ _ kk => eE_iload_n lk51_22 gq8 kk) ?_
      refine cR_lift (fun _ _ kk => eE_iload_n lk51_23 gq5 kk) ?_
      refine cR_if (t := 34) lk51_24 (by decide) (fun c11 => ?_) (fun c11 => ?_)
      · rw [if_pos c11] at h
        refine cR_lift (fun _ _ kk => eE_aload_n lk51_34 gq7 kk) ?_
        refine cR_getA lk51_35 rf_6_156 (by decide) bl0 ?_
        refine cR_lift (fun _ _ kk => eE_iload_n lk51_38 gq5 kk) ?_
        refine cR_lift (fun _ _ kk => eE_bipush (v := 6) lk51_39 (by decide) kk) ?_
        refine cR_lift (fun _ _ kk => eE_imul lk51_41 kk) ?_
        refine cR_lift (fun _ _ kk => eE_iconst (v := 0) lk51_42 (by decide) kk) ?_
        refine cR_lift (fun _ _ kk => eE_iadd lk51_43 kk) ?_
        obtain ⟨x12, h13, h⟩ := Option.bind_eq_some_iff.mp h
        refine cR_iald (cl := 11) (i := l0) (f := 6) lk51_44 (by decide) rfl bl0 h13 ?_
        exact k_Disk_tellsTerm_b45_ok hp0 hL hF  g vq4 σ l2 x12  _ h
      · rw [if_neg c11] at h
        refine cR_lift (fun _ _ kk => eE_aload_n lk51_27 gq7 kk) ?_
        refine cR_getI lk51_28 rf_6_136 rfl bl0 ?_
        refine cR_lift (fun _ _ kk => eE_goto (t := 45) lk51_31 (by decide) kk) ?_
        exact k_Disk_tellsTerm_b45_ok hp0 hL hF  g vq4 σ l2 (cI σ 11 l0 3 0)  _ h
    · rw [if_neg c10] at h
      exact k_Disk_tellsTerm_b20_ok hp0 hL hF  g vq4 σ  _ h
def k_Disk_tellsTerm (σ : CS) (l0 : Nat) (l1 : Int32) (l2 : Int32) : Option (Int32) := k_Disk_tellsTerm_b0 σ l0 l1 l2
theorem k_Disk_tellsTerm_ok {E : CE} {pF : Nat → List Value → xH → Option (Option Value × xH)} (hp0 : xNPc pF) (hL : lcAll E pF) (hF : lcF pF) {d : Nat} {g : CG} {σ : CS} {l0 : Nat} {l1 : Int32} {l2 : Int32} {res : Int32} (bl0 : cob σ 11 l0) (h : k_Disk_tellsTerm σ l0 l1 l2 = some res) : cCo E cQ1 pF (d + 1) 51 [.ref (coa E 11 l0), .int l1, .int l2] (some (.int res)) σ g σ :=
  cCo_R kk_51 mo_51 ni_51 xm_51 (Nat.le_of_ble_eq_true rfl) (hp0 51 (by decide) _) (k_Disk_tellsTerm_b0_ok hp0 hL hF g _ σ l0 l1 l2 bl0 rfl rfl rfl _ h)
/-! k_Page_lastTerm (109), depth 1 -/
def k_Page_lastTerm_b30  (σ : CS) (s0 : Int32) : Option (Int32) :=
  some s0
set_option maxRecDepth 4000 in
theorem k_Page_lastTerm_b30_ok {E : CE} {pF : Nat → List Value → xH → Option (Option Value × xH)} (hp0 : xNPc pF) (hL : lcAll E pF) (hF : lcF pF) {d : Nat}   : ∀ (g : CG) (lv : xL) (σ : CS) (s0 : Int32), ∀ res, k_Page_lastTerm_b30  σ s0 = some res → cR E cQ1 pF (d + 0) kT109 11 1 (some FieldType.int) (some (.int res)) σ g σ (30, lv, [.int s0]) := by
  intro g lv σ s0 res h
  unfold k_Page_lastTerm_b30 at h
  cases h
  exact cR_end lk109_30 rfl rfl rfl
def k_Page_lastTerm_b0  (σ : CS) (l0 : Nat) : Option (Int32) :=
  if xc0 .le (cI σ 11 l0 5 0) = true then (
    k_Page_lastTerm_b30  σ (cI σ 11 l0 3 0)
  ) else (
    (crd σ 11 l0 6 ((((cI σ 11 l0 5 0) - ((1 : Int32))) * ((6 : Int32))) + ((0 : Int32)))).bind fun x2 =>
    k_Page_lastTerm_b30  σ x2
  )
set_option maxRecDepth 4000 in
theorem k_Page_lastTerm_b0_ok {E : CE} {pF : Nat → List Value → xH → Option (Option Value × xH)} (hp0 : xNPc pF) (hL : lcAll E pF) (hF : lcF pF) {d : Nat}   : ∀ (g : CG) (lv : xL) (σ : CS) (l0 : Nat), (cob σ 11 l0) → (xg lv 0 = some (.ref (coa E 11 l0))) → ∀ res, k_Page_lastTerm_b0  σ l0 = some res → cR E cQ1 pF (d + 0) kT109 11 1 (some FieldType.int) (some (.int res)) σ g σ (0, lv, []) := by
  intro g lv σ l0 bl0 g0 res h
  unfold k_Page_lastTerm_b0 at h
  refine cR_lift (fun _ _ kk => eE_aload_n lk109_0 g0 kk) ?_
  refine cR_getI lk109_1 rf_11_39 rfl bl0 ?_
  refine cR_if (t := 26) lk109_4 (by decide) (fun c1 => ?_) (fun c1 => ?_)
  · rw [if_pos c1] at h
    refine cR_lift (fun _ _ kk => eE_aload_n lk109_26 g0 kk) ?_
    refine cR_getI lk109_27 rf_11_33 rfl bl0 ?_
    exact k_Page_lastTerm_b30_ok hp0 hL hF  g lv σ (cI σ 11 l0 3 0)  _ h
  · rw [if_neg c1] at h
    refine cR_lift (fun _ _ kk => eE_aload_n lk109_7 g0 kk) ?_
    refine cR_getA lk109_8 rf_11_9 (by decide) bl0 ?_
    refine cR_lift (fun _ _ kk => eE_aload_n lk109_11 g0 kk) ?_
    refine cR_getI lk109_12 rf_11_39 rfl bl0 ?_
    refine cR_lift (fun _ _ kk => eE_iconst (v := 1) lk109_15 (by decide) kk) ?_
    refine cR_lift (fun _ _ kk => eE_isub lk109_16 kk) ?_
    refine cR_lift (fun _ _ kk => eE_bipush (v := 6) lk109_17 (by decide) kk) ?_
    refine cR_lift (fun _ _ kk => eE_imul lk109_19 kk) ?_
    refine cR_lift (fun _ _ kk => eE_iconst (v := 0) lk109_20 (by decide) kk) ?_
    refine cR_lift (fun _ _ kk => eE_iadd lk109_21 kk) ?_
    obtain ⟨x2, h3, h⟩ := Option.bind_eq_some_iff.mp h
    refine cR_iald (cl := 11) (i := l0) (f := 6) lk109_22 (by decide) rfl bl0 h3 ?_
    refine cR_lift (fun _ _ kk => eE_goto (t := 30) lk109_23 (by decide) kk) ?_
    exact k_Page_lastTerm_b30_ok hp0 hL hF  g lv σ x2  _ h
def k_Page_lastTerm (σ : CS) (l0 : Nat) : Option (Int32) := k_Page_lastTerm_b0 σ l0
theorem k_Page_lastTerm_ok {E : CE} {pF : Nat → List Value → xH → Option (Option Value × xH)} (hp0 : xNPc pF) (hL : lcAll E pF) (hF : lcF pF) {d : Nat} {g : CG} {σ : CS} {l0 : Nat} {res : Int32} (bl0 : cob σ 11 l0) (h : k_Page_lastTerm σ l0 = some res) : cCo E cQ1 pF (d + 1) 109 [.ref (coa E 11 l0)] (some (.int res)) σ g σ :=
  cCo_R kk_109 mo_109 ni_109 xm_109 (Nat.le_of_ble_eq_true rfl) (hp0 109 (by decide) _) (k_Page_lastTerm_b0_ok hp0 hL hF g _ σ l0 bl0 rfl _ h)
/-! k_Disk_segmentAt (46), depth 2 -/
def k_Disk_segmentAt_b44 (F : Nat) (K2 : CS → Nat → Int32 → Int32 → Int32 → Option (Int32)) (σ : CS) (l0 : Nat) (l1 : Int32) (l2 : Int32) (l3 : Int32) : Option (Int32) :=
  K2 σ l0 l1 l2 (l3 + (1 : Int32))
set_option maxRecDepth 4000 in
theorem k_Disk_segmentAt_b44_ok {E : CE} {pF : Nat → List Value → xH → Option (Option Value × xH)} (hp0 : xNPc pF) (hL : lcAll E pF) (hF : lcF pF) {d : Nat} {F : Nat} {K2 : CS → Nat → Int32 → Int32 → Int32 → Option (Int32)} (hK2 : ∀ (g : CG) (lv : xL) (σ : CS) (l0 : Nat) (l1 : Int32) (l2 : Int32) (l3 : Int32), (cob σ 6 l0) → (xg lv 0 = some (.ref (coa E 6 l0))) → (xg lv 1 = some (.int l1)) → (xg lv 2 = some (.int l2)) → (xg lv 3 = some (.int l3)) → ∀ res, K2 σ l0 l1 l2 l3 = some res → cR E cQ1 pF (d + 1) kT46 6 4 (some FieldType.int) (some (.int res)) σ g σ (2, lv, [])) : ∀ (g : CG) (lv : xL) (σ : CS) (l0 : Nat) (l1 : Int32) (l2 : Int32) (l3 : Int32), (cob σ 6 l0) → (xg lv 0 = some (.ref (coa E 6 l0))) → (xg lv 1 = some (.int l1)) → (xg lv 2 = some (.int l2)) → (xg lv 3 = some (.int l3)) → ∀ res, k_Disk_segmentAt_b44 F K2 σ l0 l1 l2 l3 = some res → cR E cQ1 pF (d + 1) kT46 6 4 (some FieldType.int) (some (.int res)) σ g σ (44, lv, []) := by
  intro g lv σ l0 l1 l2 l3 bl0 g0 g1 g2 g3 res h
  unfold k_Disk_segmentAt_b44 at h
  refine cR_inc (j := 3) (v := l3 + (1 : Int32)) lk46_44 g3 rfl (by decide) (fun vq1 gq2 kq3 => ?_)
  have gq4 := kq3 0 _ (by decide) (fun e => absurd e (by decide)) g0
  have gq5 := kq3 1 _ (by decide) (fun e => absurd e (by decide)) g1
  have gq6 := kq3 2 _ (by decide) (fun _ => rfl) g2
  refine cR_lift (fun _ _ kk => eE_goto (t := 2) lk46_47 (by decide) kk) ?_
  exact hK2 g vq1 σ l0 l1 l2 (l3 + (1 : Int32)) bl0 gq4 gq5 gq6 gq2 _ h
def k_Disk_segmentAt_b2 (F : Nat)  : Nat → CS → Nat → Int32 → Int32 → Int32 → Option (Int32)
  | 0, _, _, _, _, _ => none
  | n + 1, σ, l0, l1, l2, l3 =>
    let KK := k_Disk_segmentAt_b2 F  n
    if xc2 .ge l3 ((16 : Int32)) = true then (
      some ((-1 : Int32))
    ) else (
      (k_Disk_isSegment σ l0 l3).bind fun p8 =>
      if xc0 .eq p8 = true then (
        k_Disk_segmentAt_b44 F KK σ l0 l1 l2 l3
      ) else (
        (cix 6 0 l3).bind fun n12 =>
        if xc2 .ne (cI σ 11 (30 * l0 + cpg n12) 2 0) l1 = true then (
          k_Disk_segmentAt_b44 F KK σ l0 l1 l2 l3
        ) else (
          (cix 6 0 l3).bind fun n15 =>
          if xc2 .ne (cI σ 11 (30 * l0 + cpg n15) 3 0) l2 = true then (
            k_Disk_segmentAt_b44 F KK σ l0 l1 l2 l3
          ) else (
            some l3
          )
        )
      )
    )
set_option maxRecDepth 4000 in
theorem k_Disk_segmentAt_b2_ok {E : CE} {pF : Nat → List Value → xH → Option (Option Value × xH)} (hp0 : xNPc pF) (hL : lcAll E pF) (hF : lcF pF) {d : Nat} {F : Nat}   : ∀ (n : Nat) (g : CG) (lv : xL) (σ : CS) (l0 : Nat) (l1 : Int32) (l2 : Int32) (l3 : Int32), (cob σ 6 l0) → (xg lv 0 = some (.ref (coa E 6 l0))) → (xg lv 1 = some (.int l1)) → (xg lv 2 = some (.int l2)) → (xg lv 3 = some (.int l3)) → ∀ res, k_Disk_segmentAt_b2 F  n σ l0 l1 l2 l3 = some res → cR E cQ1 pF (d + 1) kT46 6 4 (some FieldType.int) (some (.int res)) σ g σ (2, lv, []) := by
  intro n
  induction n with
  | zero => intro g lv σ l0 l1 l2 l3 bl0 g0 g1 g2 g3 res h; simp [k_Disk_segmentAt_b2] at h
  | succ n hKK =>
    intro g lv σ l0 l1 l2 l3 bl0 g0 g1 g2 g3 res h
    unfold k_Disk_segmentAt_b2 at h
    dsimp only at h
    refine cR_lift (fun _ _ kk => eE_iload_n lk46_2 g3 kk) ?_
    refine cR_lift (fun _ _ kk => eE_bipush (v := 16) lk46_3 (by decide) kk) ?_
    refine cR_icmp (t := 50) lk46_5 (by decide) (fun c7 => ?_) (fun c7 => ?_)
    · rw [if_pos c7] at h
      refine cR_lift (fun _ _ kk => eE_iconst (v := (-1)) lk46_50 (by decide) kk) ?_
      cases h
      exact cR_end lk46_51 rfl rfl rfl
    · rw [if_neg c7] at h
      refine cR_lift (fun _ _ kk => eE_aload_n lk46_8 g0 kk) ?_
      refine cR_lift (fun _ _ kk => eE_iload_n lk46_9 g3 kk) ?_
      obtain ⟨p8, h9, h⟩ := Option.bind_eq_some_iff.mp h
      refine cR_virt (cl := 6) (i := l0) (as := [.int l3]) lk46_10 mr_6_153 na_42 rfl rfl (by first | exact Nat.le_of_ble_eq_true rfl | (simp [xcat, cvo_cat, cat_i, cat_j, cat_r]; done)) wv_42 wc_42 bl0 (k_Disk_isSegment_ok hp0 hL hF (d := d + 0) bl0 h9) (fun m10  => ?_)
      refine cR_if (t := 44) lk46_13 (by decide) (fun c11 => ?_) (fun c11 => ?_)
      · rw [if_pos c11] at h
        exact k_Disk_segmentAt_b44_ok hp0 hL hF hKK g lv σ l0 l1 l2 l3 bl0 g0 g1 g2 g3 _ h
      · rw [if_neg c11] at h
        refine cR_lift (fun _ _ kk => eE_aload_n lk46_16 g0 kk) ?_
        refine cR_getA lk46_17 rf_6_11 (by decide) bl0 ?_
        refine cR_lift (fun _ _ kk => eE_iload_n lk46_20 g3 kk) ?_
        obtain ⟨n12, h13, h⟩ := Option.bind_eq_some_iff.mp h
        refine cR_aald (cl := 6) (i := l0) (f := 0) (cl' := 11) (i' := 30 * l0 + cpg n12) lk46_21 rfl (by decide) bl0 h13 rfl ?_
        refine cR_getI lk46_22 rf_6_83 rfl (cob_pg (c := σ) bl0 (cix_lt h13)).1 ?_
        refine cR_lift (fun _ _ kk => eE_iload_n lk46_25 g1 kk) ?_
        refine cR_icmp (t := 44) lk46_26 (by decide) (fun c14 => ?_) (fun c14 => ?_)
        · rw [if_pos c14] at h
          exact k_Disk_segmentAt_b44_ok hp0 hL hF hKK g lv σ l0 l1 l2 l3 bl0 g0 g1 g2 g3 _ h
        · rw [if_neg c14] at h
          refine cR_lift (fun _ _ kk => eE_aload_n lk46_29 g0 kk) ?_
          refine cR_getA lk46_30 rf_6_11 (by decide) bl0 ?_
          refine cR_lift (fun _ _ kk => eE_iload_n lk46_33 g3 kk) ?_
          obtain ⟨n15, h16, h⟩ := Option.bind_eq_some_iff.mp h
          refine cR_aald (cl := 6) (i := l0) (f := 0) (cl' := 11) (i' := 30 * l0 + cpg n15) lk46_34 rfl (by decide) bl0 h16 rfl ?_
          refine cR_getI lk46_35 rf_6_136 rfl (cob_pg (c := σ) bl0 (cix_lt h16)).1 ?_
          refine cR_lift (fun _ _ kk => eE_iload_n lk46_38 g2 kk) ?_
          refine cR_icmp (t := 44) lk46_39 (by decide) (fun c17 => ?_) (fun c17 => ?_)
          · rw [if_pos c17] at h
            exact k_Disk_segmentAt_b44_ok hp0 hL hF hKK g lv σ l0 l1 l2 l3 bl0 g0 g1 g2 g3 _ h
          · rw [if_neg c17] at h
            refine cR_lift (fun _ _ kk => eE_iload_n lk46_42 g3 kk) ?_
            cases h
            exact cR_end lk46_43 rfl rfl rfl
def k_Disk_segmentAt_b0 (F : Nat)  (σ : CS) (l0 : Nat) (l1 : Int32) (l2 : Int32) : Option (Int32) :=
  k_Disk_segmentAt_b2 F  F σ l0 l1 l2 ((4 : Int32))
set_option maxRecDepth 4000 in
theorem k_Disk_segmentAt_b0_ok {E : CE} {pF : Nat → List Value → xH → Option (Option Value × xH)} (hp0 : xNPc pF) (hL : lcAll E pF) (hF : lcF pF) {d : Nat} {F : Nat}   : ∀ (g : CG) (lv : xL) (σ : CS) (l0 : Nat) (l1 : Int32) (l2 : Int32), (cob σ 6 l0) → (xg lv 0 = some (.ref (coa E 6 l0))) → (xg lv 1 = some (.int l1)) → (xg lv 2 = some (.int l2)) → ∀ res, k_Disk_segmentAt_b0 F  σ l0 l1 l2 = some res → cR E cQ1 pF (d + 1) kT46 6 4 (some FieldType.int) (some (.int res)) σ g σ (0, lv, []) := by
  intro g lv σ l0 l1 l2 bl0 g0 g1 g2 res h
  unfold k_Disk_segmentAt_b0 at h
  refine cR_lift (fun _ _ kk => eE_iconst (v := 4) lk46_0 (by decide) kk) ?_
  refine cR_stI (j := 3) lk46_1 (Or.inr ⟨_, rfl, rfl⟩) (by decide) (fun vq18 gq19 kq20 => ?_)
  have gq21 := kq20 0 _ (by decide) (fun e => absurd e (by decide)) g0
  have gq22 := kq20 1 _ (by decide) (fun e => absurd e (by decide)) g1
  have gq23 := kq20 2 _ (by decide) (fun _ => rfl) g2
  exact k_Disk_segmentAt_b2_ok hp0 hL hF  F g vq18 σ l0 l1 l2 ((4 : Int32)) bl0 gq21 gq22 gq23 gq19 _ h
def k_Disk_segmentAt (F : Nat) (σ : CS) (l0 : Nat) (l1 : Int32) (l2 : Int32) : Option (Int32) := k_Disk_segmentAt_b0 F σ l0 l1 l2
theorem k_Disk_segmentAt_ok {E : CE} {pF : Nat → List Value → xH → Option (Option Value × xH)} (hp0 : xNPc pF) (hL : lcAll E pF) (hF : lcF pF) {d : Nat} {g : CG} {σ : CS} {F : Nat} {l0 : Nat} {l1 : Int32} {l2 : Int32} {res : Int32} (bl0 : cob σ 6 l0) (h : k_Disk_segmentAt F σ l0 l1 l2 = some res) : cCo E cQ1 pF (d + 2) 46 [.ref (coa E 6 l0), .int l1, .int l2] (some (.int res)) σ g σ :=
  cCo_R kk_46 mo_46 ni_46 xm_46 (Nat.le_of_ble_eq_true rfl) (hp0 46 (by decide) _) (k_Disk_segmentAt_b0_ok hp0 hL hF g _ σ l0 l1 l2 bl0 rfl rfl rfl _ h)
/-! k_Disk_findChain (38), depth 3 -/
def k_Disk_findChain_b80 (F : Nat)  (σ : CS) : Option (CS) :=
  some σ
set_option maxRecDepth 4000 in
theorem k_Disk_findChain_b80_ok {E : CE} {pF : Nat → List Value → xH → Option (Option Value × xH)} (hp0 : xNPc pF) (hL : lcAll E pF) (hF : lcF pF) {d : Nat} {F : Nat}   : ∀ (g : CG) (lv : xL) (σ : CS), ∀ res, k_Disk_findChain_b80 F  σ = some res → cR E cQ1 pF (d + 2) kT38 6 5 none none res g σ (80, lv, []) := by
  intro g lv σ res h
  unfold k_Disk_findChain_b80 at h
  cases h
  exact cR_end lk38_80 rfl rfl rfl
def k_Disk_findChain_b155 (F : Nat) (K81 : CS → Nat → Int32 → Option (CS)) (σ : CS) (s0 : Int32) (l0 : Nat) : Option (CS) :=
  K81 σ l0 s0
set_option maxRecDepth 4000 in
theorem k_Disk_findChain_b155_ok {E : CE} {pF : Nat → List Value → xH → Option (Option Value × xH)} (hp0 : xNPc pF) (hL : lcAll E pF) (hF : lcF pF) {d : Nat} {F : Nat} {K81 : CS → Nat → Int32 → Option (CS)} (hK81 : ∀ (g : CG) (lv : xL) (σ : CS) (l0 : Nat) (l3 : Int32), (cob σ 6 l0) → (xg lv 0 = some (.ref (coa E 6 l0))) → (xg lv 3 = some (.int l3)) → ∀ res, K81 σ l0 l3 = some res → cR E cQ1 pF (d + 2) kT38 6 5 none none res g σ (81, lv, [])) : ∀ (g : CG) (lv : xL) (σ : CS) (s0 : Int32) (l0 : Nat), (cob σ 6 l0) → (xg lv 0 = some (.ref (coa E 6 l0))) → ∀ res, k_Disk_findChain_b155 F K81 σ s0 l0 = some res → cR E cQ1 pF (d + 2) kT38 6 5 none none res g σ (155, lv, [.int s0]) := by
  intro g lv σ s0 l0 bl0 g0 res h
  unfold k_Disk_findChain_b155 at h
  refine cR_stI (j := 3) lk38_155 (Or.inr ⟨_, rfl, rfl⟩) (by decide) (fun vq1 gq2 kq3 => ?_)
  have gq4 := kq3 0 _ (by decide) (fun e => absurd e (by decide)) g0
  refine cR_lift (fun _ _ kk => eE_goto (t := 81) lk38_156 (by decide) kk) ?_
  exact hK81 g vq1 σ l0 s0 bl0 gq4 gq2 _ h
def k_Disk_findChain_b159 (F : Nat)  (σ : CS) : Option (CS) :=
  some σ
set_option maxRecDepth 4000 in
theorem k_Disk_findChain_b159_ok {E : CE} {pF : Nat → List Value → xH → Option (Option Value × xH)} (hp0 : xNPc pF) (hL : lcAll E pF) (hF : lcF pF) {d : Nat} {F : Nat}   : ∀ (g : CG) (lv : xL) (σ : CS), ∀ res, k_Disk_findChain_b159 F  σ = some res → cR E cQ1 pF (d + 2) kT38 6 5 none none res g σ (159, lv, []) := by
  intro g lv σ res h
  unfold k_Disk_findChain_b159 at h
  cases h
  exact cR_end lk38_159 rfl rfl rfl
def k_Disk_findChain_b81 (F : Nat)  : Nat → CS → Nat → Int32 → Option (CS)
  | 0, _, _, _ => none
  | n + 1, σ, l0, l3 =>
    let KK := k_Disk_findChain_b81 F  n
    if xc2 .eq l3 ((-1 : Int32)) = true then (
      k_Disk_findChain_b159 F  σ
    ) else (
      if xc2 .ge (cI σ 6 l0 5 0) ((16 : Int32)) = true then (
        k_Disk_findChain_b159 F  σ
      ) else (
        (cwr σ 6 l0 4 (cI σ 6 l0 5 0) l3).bind fun σ7 =>
        (some (csI σ7 6 l0 5 0 ((cI σ7 6 l0 5 0) + ((1 : Int32))))).bind fun σ9 =>
        (cix 6 0 l3).bind fun n11 =>
        if xc0 .ne (cI σ9 11 (30 * l0 + cpg n11) 5 0) = true then (
          (k_Page_lastTerm σ9 (30 * l0 + cpg n11)).bind fun p18 =>
          (k_Disk_segmentAt F σ9 l0 ((cI σ9 11 (30 * l0 + cpg n11) 2 0) + (cI σ9 11 (30 * l0 + cpg n11) 5 0)) p18).bind fun p21 =>
          k_Disk_findChain_b155 F KK σ9 p21 l0
        ) else (
          k_Disk_findChain_b155 F KK σ9 ((-1 : Int32)) l0
        )
      )
    )
set_option maxRecDepth 4000 in
theorem k_Disk_findChain_b81_ok {E : CE} {pF : Nat → List Value → xH → Option (Option Value × xH)} (hp0 : xNPc pF) (hL : lcAll E pF) (hF : lcF pF) {d : Nat} {F : Nat}   : ∀ (n : Nat) (g : CG) (lv : xL) (σ : CS) (l0 : Nat) (l3 : Int32), (cob σ 6 l0) → (xg lv 0 = some (.ref (coa E 6 l0))) → (xg lv 3 = some (.int l3)) → ∀ res, k_Disk_findChain_b81 F  n σ l0 l3 = some res → cR E cQ1 pF (d + 2) kT38 6 5 none none res g σ (81, lv, []) := by
  intro n
  induction n with
  | zero => intro g lv σ l0 l3 bl0 g0 g3 res h; simp [k_Disk_findChain_b81] at h
  | succ n hKK =>
    intro g lv σ l0 l3 bl0 g0 g3 res h
    unfold k_Disk_findChain_b81 at h
    dsimp only at h
    refine cR_lift (fun _ _ kk => eE_iload_n lk38_81 g3 kk) ?_
    refine cR_lift (fun _ _ kk => eE_iconst (v := (-1)) lk38_82 (by decide) kk) ?_
    refine cR_icmp (t := 159) lk38_83 (by decide) (fun c5 => ?_) (fun c5 => ?_)
    · rw [if_pos c5] at h
      exact k_Disk_findChain_b159_ok hp0 hL hF  g lv σ  _ h
    · rw [if_neg c5] at h
      refine cR_lift (fun _ _ kk => eE_aload_n lk38_86 g0 kk) ?_
      refine cR_getI lk38_87 rf_6_72 rfl bl0 ?_
      refine cR_lift (fun _ _ kk => eE_bipush (v := 16) lk38_90 (by decide) kk) ?_
      refine cR_icmp (t := 159) lk38_92 (by decide) (fun c6 => ?_) (fun c6 => ?_)
      · rw [if_pos c6] at h
        exact k_Disk_findChain_b159_ok hp0 hL hF  g lv σ  _ h
      · rw [if_neg c6] at h
        refine cR_lift (fun _ _ kk => eE_aload_n lk38_95 g0 kk) ?_
        refine cR_getA lk38_96 rf_6_27 (by decide) bl0 ?_
        refine cR_lift (fun _ _ kk => eE_aload_n lk38_99 g0 kk) ?_
        refine cR_getI lk38_100 rf_6_72 rfl bl0 ?_
        refine cR_lift (fun _ _ kk => eE_iload_n lk38_103 g3 kk) ?_
        obtain ⟨σ7, h8, h⟩ := Option.bind_eq_some_iff.mp h
        refine cR_iast (cl := 6) (i := l0) (f := 4) lk38_104 (by decide) rfl bl0 h8 ?_
        refine cR_lift (fun _ _ kk => eE_aload_n lk38_105 g0 kk) ?_
        refine cR_lift (fun _ _ kk => eE_dup lk38_106 rfl kk) ?_
        refine cR_getI lk38_107 rf_6_72 rfl (cob_any rfl bl0) ?_
        refine cR_lift (fun _ _ kk => eE_iconst (v := 1) lk38_110 (by decide) kk) ?_
        refine cR_lift (fun _ _ kk => eE_iadd lk38_111 kk) ?_
        obtain ⟨σ9, h10, h⟩ := Option.bind_eq_some_iff.mp h
        refine cR_putI lk38_112 rf_6_72 rfl (cob_any rfl bl0) pf_6_5 rfl h10 ?_
        refine cR_lift (fun _ _ kk => eE_aload_n lk38_115 g0 kk) ?_
        refine cR_getA lk38_116 rf_6_11 (by decide) (cob_any rfl bl0) ?_
        refine cR_lift (fun _ _ kk => eE_iload_n lk38_119 g3 kk) ?_
        obtain ⟨n11, h12, h⟩ := Option.bind_eq_some_iff.mp h
        refine cR_aald (cl := 6) (i := l0) (f := 0) (cl' := 11) (i' := 30 * l0 + cpg n11) lk38_120 rfl (by decide) (cob_any rfl bl0) h12 rfl ?_
        refine cR_stA (j := 4) lk38_121 (Or.inl rfl) (by decide) (fun vq13 gq14 kq15 => ?_)
        have gq16 := kq15 0 _ (by decide) (fun e => absurd e (by decide)) g0
        refine cR_lift (fun _ _ kk => eE_aload lk38_123 gq14 kk) ?_
        refine cR_getI lk38_125 rf_6_96 rfl (cob_pg (c := σ9) (cob_any rfl bl0) (cix_lt h12)).1 ?_
        refine cR_if (t := 135) lk38_128 (by decide) (fun c17 => ?_) (fun c17 => ?_)
        · rw [if_pos c17] at h
          refine cR_lift (fun _ _ kk => eE_aload_n lk38_135 gq16 kk) ?_
          refine cR_lift (fun _ _ kk => eE_aload lk38_136 gq14 kk) ?_
          refine cR_getI lk38_138 rf_6_83 rfl (cob_pg (c := σ9) (cob_any rfl bl0) (cix_lt h12)).1 ?_
          refine cR_lift (fun _ _ kk => eE_aload lk38_141 gq14 kk) ?_
          refine cR_getI lk38_143 rf_6_96 rfl (cob_pg (c := σ9) (cob_any rfl bl0) (cix_lt h12)).1 ?_
          refine cR_lift (fun _ _ kk => eE_iadd lk38_146 kk) ?_
          refine cR_lift (fun _ _ kk => eE_aload lk38_147 gq14 kk) ?_
          obtain ⟨p18, h19, h⟩ := Option.bind_eq_some_iff.mp h
          refine cR_virt (cl := 11) (i := 30 * l0 + cpg n11) (as := []) lk38_149 mr_6_146 na_109 rfl rfl (by first | exact Nat.le_of_ble_eq_true rfl | (simp [xcat, cvo_cat, cat_i, cat_j, cat_r]; done)) wv_109 wc_109 (cob_pg (c := σ9) (cob_any rfl bl0) (cix_lt h12)).1 (k_Page_lastTerm_ok hp0 hL hF (d := d + 1) (cob_pg (c := σ9) (cob_any rfl bl0) (cix_lt h12)).1 h19) (fun m20  => ?_)
          obtain ⟨p21, h22, h⟩ := Option.bind_eq_some_iff.mp h
          refine cR_virt (cl := 6) (i := l0) (as := [.int ((cI σ9 11 (30 * l0 + cpg n11) 2 0) + (cI σ9 11 (30 * l0 + cpg n11) 5 0)), .int p18]) lk38_152 mr_6_150 na_46 rfl rfl (by first | exact Nat.le_of_ble_eq_true rfl | (simp [xcat, cvo_cat, cat_i, cat_j, cat_r]; done)) wv_46 wc_46 (cob_any rfl bl0) (k_Disk_segmentAt_ok hp0 hL hF (d := d + 0) (cob_any rfl bl0) h22) (fun m23  => ?_)
          exact k_Disk_findChain_b155_ok hp0 hL hF hKK g vq13 σ9 p21 l0 (cob_any rfl bl0) gq16 _ h
        · rw [if_neg c17] at h
          refine cR_lift (fun _ _ kk => eE_iconst (v := (-1)) lk38_131 (by decide) kk) ?_
          refine cR_lift (fun _ _ kk => eE_goto (t := 155) lk38_132 (by decide) kk) ?_
          exact k_Disk_findChain_b155_ok hp0 hL hF hKK g vq13 σ9 ((-1 : Int32)) l0 (cob_any rfl bl0) gq16 _ h
def k_Disk_findChain_b54 (F : Nat)  (σ : CS) (s0 : Int32) (l0 : Nat) (l1 : Int32) : Option (CS) :=
  (k_Disk_firstSegment F σ l0 l1).bind fun p29 =>
  if xc2 .eq p29 ((-1 : Int32)) = true then (
    k_Disk_findChain_b80 F  σ
  ) else (
    (cix 6 0 p29).bind fun n39 =>
    (k_Disk_tellsTerm σ (30 * l0 + cpg n39) l1 s0).bind fun p41 =>
    if xc0 .ne p41 = true then (
      k_Disk_findChain_b81 F  F σ l0 p29
    ) else (
      k_Disk_findChain_b80 F  σ
    )
  )
set_option maxRecDepth 4000 in
theorem k_Disk_findChain_b54_ok {E : CE} {pF : Nat → List Value → xH → Option (Option Value × xH)} (hp0 : xNPc pF) (hL : lcAll E pF) (hF : lcF pF) {d : Nat} {F : Nat}   : ∀ (g : CG) (lv : xL) (σ : CS) (s0 : Int32) (l0 : Nat) (l1 : Int32), (cob σ 6 l0) → (xg lv 0 = some (.ref (coa E 6 l0))) → (xg lv 1 = some (.int l1)) → ∀ res, k_Disk_findChain_b54 F  σ s0 l0 l1 = some res → cR E cQ1 pF (d + 2) kT38 6 5 none none res g σ (54, lv, [.int s0]) := by
  intro g lv σ s0 l0 l1 bl0 g0 g1 res h
  unfold k_Disk_findChain_b54 at h
  refine cR_stI (j := 2) lk38_54 (Or.inr ⟨_, rfl, rfl⟩) (by decide) (fun vq24 gq25 kq26 => ?_)
  have gq27 := kq26 0 _ (by decide) (fun e => absurd e (by decide)) g0
  have gq28 := kq26 1 _ (by decide) (fun _ => rfl) g1
  refine cR_lift (fun _ _ kk => eE_aload_n lk38_55 gq27 kk) ?_
  refine cR_lift (fun _ _ kk => eE_iload_n lk38_56 gq28 kk) ?_
  obtain ⟨p29, h30, h⟩ := Option.bind_eq_some_iff.mp h
  refine cR_virt (cl := 6) (i := l0) (as := [.int l1]) lk38_57 mr_6_139 na_39 rfl rfl (by first | exact Nat.le_of_ble_eq_true rfl | (simp [xcat, cvo_cat, cat_i, cat_j, cat_r]; done)) wv_39 wc_39 bl0 (k_Disk_firstSegment_ok hp0 hL hF (d := d + 0) bl0 h30) (fun m31  => ?_)
  refine cR_stI (j := 3) lk38_60 (Or.inr ⟨_, rfl, rfl⟩) (by decide) (fun vq32 gq33 kq34 => ?_)
  have gq35 := kq34 0 _ (by decide) (fun e => absurd e (by decide)) gq27
  have gq36 := kq34 1 _ (by decide) (fun e => absurd e (by decide)) gq28
  have gq37 := kq34 2 _ (by decide) (fun _ => rfl) gq25
  refine cR_lift (fun _ _ kk => eE_iload_n lk38_61 gq33 kk) ?_
  refine cR_lift (fun _ _ kk => eE_iconst (v := (-1)) lk38_62 (by decide) kk) ?_
  refine cR_icmp (t := 80) lk38_63 (by decide) (fun c38 => ?_) (fun c38 => ?_)
  · rw [if_pos c38] at h
    exact k_Disk_findChain_b80_ok hp0 hL hF  g vq32 σ  _ h
  · rw [if_neg c38] at h
    refine cR_lift (fun _ _ kk => eE_aload_n lk38_66 gq35 kk) ?_
    refine cR_getA lk38_67 rf_6_11 (by decide) bl0 ?_
    refine cR_lift (fun _ _ kk => eE_iload_n lk38_70 gq33 kk) ?_
    obtain ⟨n39, h40, h⟩ := Option.bind_eq_some_iff.mp h
    refine cR_aald (cl := 6) (i := l0) (f := 0) (cl' := 11) (i' := 30 * l0 + cpg n39) lk38_71 rfl (by decide) bl0 h40 rfl ?_
    refine cR_lift (fun _ _ kk => eE_iload_n lk38_72 gq36 kk) ?_
    refine cR_lift (fun _ _ kk => eE_iload_n lk38_73 gq37 kk) ?_
    obtain ⟨p41, h42, h⟩ := Option.bind_eq_some_iff.mp h
    refine cR_stat (as := [.ref (coa E 11 (30 * l0 + cpg n39)), .int l1, .int s0]) lk38_74 mr_6_142 na_51 rfl rfl (by first | exact Nat.le_of_ble_eq_true rfl | (simp [xcat, cvo_cat, cat_i, cat_j, cat_r]; done)) mm_51 ws_51 (k_Disk_tellsTerm_ok hp0 hL hF (d := d + 1) (cob_pg (c := σ) bl0 (cix_lt h40)).1 h42) (fun m43 => ?_)
    refine cR_if (t := 81) lk38_77 (by decide) (fun c44 => ?_) (fun c44 => ?_)
    · rw [if_pos c44] at h
      exact k_Disk_findChain_b81_ok hp0 hL hF  F g vq32 σ l0 p29 bl0 gq35 gq33 _ h
    · rw [if_neg c44] at h
      exact k_Disk_findChain_b80_ok hp0 hL hF  g vq32 σ  _ h
def k_Disk_findChain_b29 (F : Nat)  (σ : CS) (s0 : Int32) (l0 : Nat) : Option (CS) :=
  if xc2 .ne (cI σ 6 l0 9 0) ((-1 : Int32)) = true then (
    (cix 6 0 (cI σ 6 l0 9 0)).bind fun n50 =>
    k_Disk_findChain_b54 F  σ (cI σ 11 (30 * l0 + cpg n50) 3 0) l0 s0
  ) else (
    k_Disk_findChain_b54 F  σ ((0 : Int32)) l0 s0
  )
set_option maxRecDepth 4000 in
theorem k_Disk_findChain_b29_ok {E : CE} {pF : Nat → List Value → xH → Option (Option Value × xH)} (hp0 : xNPc pF) (hL : lcAll E pF) (hF : lcF pF) {d : Nat} {F : Nat}   : ∀ (g : CG) (lv : xL) (σ : CS) (s0 : Int32) (l0 : Nat), (cob σ 6 l0) → (xg lv 0 = some (.ref (coa E 6 l0))) → ∀ res, k_Disk_findChain_b29 F  σ s0 l0 = some res → cR E cQ1 pF (d + 2) kT38 6 5 none none res g σ (29, lv, [.int s0]) := by
  intro g lv σ s0 l0 bl0 g0 res h
  unfold k_Disk_findChain_b29 at h
  refine cR_stI (j := 1) lk38_29 (Or.inr ⟨_, rfl, rfl⟩) (by decide) (fun vq45 gq46 kq47 => ?_)
  have gq48 := kq47 0 _ (by decide) (fun _ => rfl) g0
  refine cR_lift (fun _ _ kk => eE_aload_n lk38_30 gq48 kk) ?_
  refine cR_getI lk38_31 rf_6_34 rfl bl0 ?_
  refine cR_lift (fun _ _ kk => eE_iconst (v := (-1)) lk38_34 (by decide) kk) ?_
  refine cR_icmp (t := 42) lk38_35 (by decide) (fun c49 => ?_) (fun c49 => ?_)
  · rw [if_pos c49] at h
    refine cR_lift (fun _ _ kk => eE_aload_n lk38_42 gq48 kk) ?_
    refine cR_getA lk38_43 rf_6_11 (by decide) bl0 ?_
    refine cR_lift (fun _ _ kk => eE_aload_n lk38_46 gq48 kk) ?_
    refine cR_getI lk38_47 rf_6_34 rfl bl0 ?_
    obtain ⟨n50, h51, h⟩ := Option.bind_eq_some_iff.mp h
    refine cR_aald (cl := 6) (i := l0) (f := 0) (cl' := 11) (i' := 30 * l0 + cpg n50) lk38_50 rfl (by decide) bl0 h51 rfl ?_
    refine cR_getI lk38_51 rf_6_136 rfl (cob_pg (c := σ) bl0 (cix_lt h51)).1 ?_
    exact k_Disk_findChain_b54_ok hp0 hL hF  g vq45 σ (cI σ 11 (30 * l0 + cpg n50) 3 0) l0 s0 bl0 gq48 gq46 _ h
  · rw [if_neg c49] at h
    refine cR_lift (fun _ _ kk => eE_iconst (v := 0) lk38_38 (by decide) kk) ?_
    refine cR_lift (fun _ _ kk => eE_goto (t := 54) lk38_39 (by decide) kk) ?_
    exact k_Disk_findChain_b54_ok hp0 hL hF  g vq45 σ ((0 : Int32)) l0 s0 bl0 gq48 gq46 _ h
def k_Disk_findChain_b0 (F : Nat)  (σ : CS) (l0 : Nat) : Option (CS) :=
  (some (csI σ 6 l0 5 0 ((0 : Int32)))).bind fun σ52 =>
  if xc2 .ne (cI σ52 6 l0 9 0) ((-1 : Int32)) = true then (
    (cix 6 0 (cI σ52 6 l0 9 0)).bind fun n55 =>
    k_Disk_findChain_b29 F  σ52 (cI σ52 11 (30 * l0 + cpg n55) 2 0) l0
  ) else (
    k_Disk_findChain_b29 F  σ52 ((0 : Int32)) l0
  )
set_option maxRecDepth 4000 in
theorem k_Disk_findChain_b0_ok {E : CE} {pF : Nat → List Value → xH → Option (Option Value × xH)} (hp0 : xNPc pF) (hL : lcAll E pF) (hF : lcF pF) {d : Nat} {F : Nat}   : ∀ (g : CG) (lv : xL) (σ : CS) (l0 : Nat), (cob σ 6 l0) → (xg lv 0 = some (.ref (coa E 6 l0))) → ∀ res, k_Disk_findChain_b0 F  σ l0 = some res → cR E cQ1 pF (d + 2) kT38 6 5 none none res g σ (0, lv, []) := by
  intro g lv σ l0 bl0 g0 res h
  unfold k_Disk_findChain_b0 at h
  refine cR_lift (fun _ _ kk => eE_aload_n lk38_0 g0 kk) ?_
  refine cR_lift (fun _ _ kk => eE_iconst (v := 0) lk38_1 (by decide) kk) ?_
  obtain ⟨σ52, h53, h⟩ := Option.bind_eq_some_iff.mp h
  refine cR_putI lk38_2 rf_6_72 rfl bl0 pf_6_5 rfl h53 ?_
  refine cR_lift (fun _ _ kk => eE_aload_n lk38_5 g0 kk) ?_
  refine cR_getI lk38_6 rf_6_34 rfl (cob_any rfl bl0) ?_
  refine cR_lift (fun _ _ kk => eE_iconst (v := (-1)) lk38_9 (by decide) kk) ?_
  refine cR_icmp (t := 17) lk38_10 (by decide) (fun c54 => ?_) (fun c54 => ?_)
  · rw [if_pos c54] at h
    refine cR_lift (fun _ _ kk => eE_aload_n lk38_17 g0 kk) ?_
    refine cR_getA lk38_18 rf_6_11 (by decide) (cob_any rfl bl0) ?_
    refine cR_lift (fun _ _ kk => eE_aload_n lk38_21 g0 kk) ?_
    refine cR_getI lk38_22 rf_6_34 rfl (cob_any rfl bl0) ?_
    obtain ⟨n55, h56, h⟩ := Option.bind_eq_some_iff.mp h
    refine cR_aald (cl := 6) (i := l0) (f := 0) (cl' := 11) (i' := 30 * l0 + cpg n55) lk38_25 rfl (by decide) (cob_any rfl bl0) h56 rfl ?_
    refine cR_getI lk38_26 rf_6_83 rfl (cob_pg (c := σ52) (cob_any rfl bl0) (cix_lt h56)).1 ?_
    exact k_Disk_findChain_b29_ok hp0 hL hF  g lv σ52 (cI σ52 11 (30 * l0 + cpg n55) 2 0) l0 (cob_any rfl bl0) g0 _ h
  · rw [if_neg c54] at h
    refine cR_lift (fun _ _ kk => eE_iconst (v := 0) lk38_13 (by decide) kk) ?_
    refine cR_lift (fun _ _ kk => eE_goto (t := 29) lk38_14 (by decide) kk) ?_
    exact k_Disk_findChain_b29_ok hp0 hL hF  g lv σ52 ((0 : Int32)) l0 (cob_any rfl bl0) g0 _ h
def k_Disk_findChain (F : Nat) (σ : CS) (l0 : Nat) : Option (CS) := k_Disk_findChain_b0 F σ l0
theorem k_Disk_findChain_ok {E : CE} {pF : Nat → List Value → xH → Option (Option Value × xH)} (hp0 : xNPc pF) (hL : lcAll E pF) (hF : lcF pF) {d : Nat} {g : CG} {σ : CS} {F : Nat} {l0 : Nat} {res : CS} (bl0 : cob σ 6 l0) (h : k_Disk_findChain F σ l0 = some res) : cCo E cQ1 pF (d + 3) 38 [.ref (coa E 6 l0)] none res g σ :=
  cCo_R kk_38 mo_38 ni_38 xm_38 (Nat.le_of_ble_eq_true rfl) (hp0 38 (by decide) _) (k_Disk_findChain_b0_ok hp0 hL hF g _ σ l0 bl0 rfl _ h)
/-! k_Disk_isChained (41), depth 1 -/
def k_Disk_isChained_b2 (F : Nat)  : Nat → CS → Nat → Int32 → Int32 → Option (Int32)
  | 0, _, _, _, _ => none
  | n + 1, σ, l0, l1, l2 =>
    let KK := k_Disk_isChained_b2 F  n
    if xc2 .ge l2 (cI σ 6 l0 5 0) = true then (
      if ((0 : Int32)) = 0 ∨ ((0 : Int32)) = 1 then some ((0 : Int32)) else none
    ) else (
      (crd σ 6 l0 4 l2).bind fun x3 =>
      if xc2 .ne x3 l1 = true then (
        KK σ l0 l1 (l2 + (1 : Int32))
      ) else (
        if ((1 : Int32)) = 0 ∨ ((1 : Int32)) = 1 then some ((1 : Int32)) else none
      )
    )
set_option maxRecDepth 4000 in
theorem k_Disk_isChained_b2_ok {E : CE} {pF : Nat → List Value → xH → Option (Option Value × xH)} (hp0 : xNPc pF) (hL : lcAll E pF) (hF : lcF pF) {d : Nat} {F : Nat}   : ∀ (n : Nat) (g : CG) (lv : xL) (σ : CS) (l0 : Nat) (l1 : Int32) (l2 : Int32), (cob σ 6 l0) → (xg lv 0 = some (.ref (coa E 6 l0))) → (xg lv 1 = some (.int l1)) → (xg lv 2 = some (.int l2)) → ∀ res, k_Disk_isChained_b2 F  n σ l0 l1 l2 = some res → cR E cQ1 pF (d + 0) kT41 6 3 (some FieldType.boolean) (some (.int res)) σ g σ (2, lv, []) := by
  intro n
  induction n with
  | zero => intro g lv σ l0 l1 l2 bl0 g0 g1 g2 res h; simp [k_Disk_isChained_b2] at h
  | succ n hKK =>
    intro g lv σ l0 l1 l2 bl0 g0 g1 g2 res h
    unfold k_Disk_isChained_b2 at h
    dsimp only at h
    refine cR_lift (fun _ _ kk => eE_iload_n lk41_2 g2 kk) ?_
    refine cR_lift (fun _ _ kk => eE_aload_n lk41_3 g0 kk) ?_
    refine cR_getI lk41_4 rf_6_72 rfl bl0 ?_
    refine cR_icmp (t := 28) lk41_7 (by decide) (fun c1 => ?_) (fun c1 => ?_)
    · rw [if_pos c1] at h
      refine cR_lift (fun _ _ kk => eE_iconst (v := 0) lk41_28 (by decide) kk) ?_
      by_cases z2 : ((0 : Int32)) = 0 ∨ ((0 : Int32)) = 1
      · rw [if_pos z2] at h; cases h
        exact cR_end lk41_29 rfl rfl (by first | (simp only [xfin, if_true, if_pos z2]; done) | simp [xfin, z2])
      · rw [if_neg z2] at h; cases h
    · rw [if_neg c1] at h
      refine cR_lift (fun _ _ kk => eE_aload_n lk41_10 g0 kk) ?_
      refine cR_getA lk41_11 rf_6_27 (by decide) bl0 ?_
      refine cR_lift (fun _ _ kk => eE_iload_n lk41_14 g2 kk) ?_
      obtain ⟨x3, h4, h⟩ := Option.bind_eq_some_iff.mp h
      refine cR_iald (cl := 6) (i := l0) (f := 4) lk41_15 (by decide) rfl bl0 h4 ?_
      refine cR_lift (fun _ _ kk => eE_iload_n lk41_16 g1 kk) ?_
      refine cR_icmp (t := 22) lk41_17 (by decide) (fun c5 => ?_) (fun c5 => ?_)
      · rw [if_pos c5] at h
        refine cR_inc (j := 2) (v := l2 + (1 : Int32)) lk41_22 g2 rfl (by decide) (fun vq6 gq7 kq8 => ?_)
        have gq9 := kq8 0 _ (by decide) (fun e => absurd e (by decide)) g0
        have gq10 := kq8 1 _ (by decide) (fun _ => rfl) g1
        refine cR_lift (fun _ _ kk => eE_goto (t := 2) lk41_25 (by decide) kk) ?_
        exact hKK g vq6 σ l0 l1 (l2 + (1 : Int32)) bl0 gq9 gq10 gq7 _ h
      · rw [if_neg c5] at h
        refine cR_lift (fun _ _ kk => eE_iconst (v := 1) lk41_20 (by decide) kk) ?_
        by_cases z11 : ((1 : Int32)) = 0 ∨ ((1 : Int32)) = 1
        · rw [if_pos z11] at h; cases h
          exact cR_end lk41_21 rfl rfl (by first | (simp only [xfin, if_true, if_pos z11]; done) | simp [xfin, z11])
        · rw [if_neg z11] at h; cases h
def k_Disk_isChained_b0 (F : Nat)  (σ : CS) (l0 : Nat) (l1 : Int32) : Option (Int32) :=
  k_Disk_isChained_b2 F  F σ l0 l1 ((0 : Int32))
set_option maxRecDepth 4000 in
theorem k_Disk_isChained_b0_ok {E : CE} {pF : Nat → List Value → xH → Option (Option Value × xH)} (hp0 : xNPc pF) (hL : lcAll E pF) (hF : lcF pF) {d : Nat} {F : Nat}   : ∀ (g : CG) (lv : xL) (σ : CS) (l0 : Nat) (l1 : Int32), (cob σ 6 l0) → (xg lv 0 = some (.ref (coa E 6 l0))) → (xg lv 1 = some (.int l1)) → ∀ res, k_Disk_isChained_b0 F  σ l0 l1 = some res → cR E cQ1 pF (d + 0) kT41 6 3 (some FieldType.boolean) (some (.int res)) σ g σ (0, lv, []) := by
  intro g lv σ l0 l1 bl0 g0 g1 res h
  unfold k_Disk_isChained_b0 at h
  refine cR_lift (fun _ _ kk => eE_iconst (v := 0) lk41_0 (by decide) kk) ?_
  refine cR_stI (j := 2) lk41_1 (Or.inr ⟨_, rfl, rfl⟩) (by decide) (fun vq12 gq13 kq14 => ?_)
  have gq15 := kq14 0 _ (by decide) (fun e => absurd e (by decide)) g0
  have gq16 := kq14 1 _ (by decide) (fun _ => rfl) g1
  exact k_Disk_isChained_b2_ok hp0 hL hF  F g vq12 σ l0 l1 ((0 : Int32)) bl0 gq15 gq16 gq13 _ h
def k_Disk_isChained (F : Nat) (σ : CS) (l0 : Nat) (l1 : Int32) : Option (Int32) := k_Disk_isChained_b0 F σ l0 l1
theorem k_Disk_isChained_ok {E : CE} {pF : Nat → List Value → xH → Option (Option Value × xH)} (hp0 : xNPc pF) (hL : lcAll E pF) (hF : lcF pF) {d : Nat} {g : CG} {σ : CS} {F : Nat} {l0 : Nat} {l1 : Int32} {res : Int32} (bl0 : cob σ 6 l0) (h : k_Disk_isChained F σ l0 l1 = some res) : cCo E cQ1 pF (d + 1) 41 [.ref (coa E 6 l0), .int l1] (some (.int res)) σ g σ :=
  cCo_R kk_41 mo_41 ni_41 xm_41 (Nat.le_of_ble_eq_true rfl) (hp0 41 (by decide) _) (k_Disk_isChained_b0_ok hp0 hL hF g _ σ l0 l1 bl0 rfl rfl _ h)
/-! k_Disk_find (37), depth 4 -/
def k_Disk_find_b80 (F : Nat) (K35 : CS → Nat → Int32 → Option (CS)) (σ : CS) (l0 : Nat) (l1 : Int32) : Option (CS) :=
  K35 σ l0 (l1 + (1 : Int32))
set_option maxRecDepth 4000 in
theorem k_Disk_find_b80_ok {E : CE} {pF : Nat → List Value → xH → Option (Option Value × xH)} (hp0 : xNPc pF) (hL : lcAll E pF) (hF : lcF pF) {d : Nat} {F : Nat} {K35 : CS → Nat → Int32 → Option (CS)} (hK35 : ∀ (g : CG) (lv : xL) (σ : CS) (l0 : Nat) (l1 : Int32), (cob σ 6 l0) → (xg lv 0 = some (.ref (coa E 6 l0))) → (xg lv 1 = some (.int l1)) → ∀ res, K35 σ l0 l1 = some res → cR E cQ1 pF (d + 3) kT37 6 2 none none res g σ (35, lv, [])) : ∀ (g : CG) (lv : xL) (σ : CS) (l0 : Nat) (l1 : Int32), (cob σ 6 l0) → (xg lv 0 = some (.ref (coa E 6 l0))) → (xg lv 1 = some (.int l1)) → ∀ res, k_Disk_find_b80 F K35 σ l0 l1 = some res → cR E cQ1 pF (d + 3) kT37 6 2 none none res g σ (80, lv, []) := by
  intro g lv σ l0 l1 bl0 g0 g1 res h
  unfold k_Disk_find_b80 at h
  refine cR_inc (j := 1) (v := l1 + (1 : Int32)) lk37_80 g1 rfl (by decide) (fun vq1 gq2 kq3 => ?_)
  have gq4 := kq3 0 _ (by decide) (fun _ => rfl) g0
  refine cR_lift (fun _ _ kk => eE_goto (t := 35) lk37_83 (by decide) kk) ?_
  exact hK35 g vq1 σ l0 (l1 + (1 : Int32)) bl0 gq4 gq2 _ h
def k_Disk_find_b35 (F : Nat)  : Nat → CS → Nat → Int32 → Option (CS)
  | 0, _, _, _ => none
  | n + 1, σ, l0, l1 =>
    let KK := k_Disk_find_b35 F  n
    if xc2 .ge l1 ((16 : Int32)) = true then (
      some σ
    ) else (
      (k_Disk_isChained F σ l0 l1).bind fun p6 =>
      if xc0 .eq p6 = true then (
        (k_Disk_remove σ l0 l1).bind fun p10 =>
        k_Disk_find_b80 F KK p10 l0 l1
      ) else (
        (cix 6 0 l1).bind fun n13 =>
        (cix 6 0 l1).bind fun n15 =>
        (k_Page_frameStart σ (30 * l0 + cpg n13) (cI σ 11 (30 * l0 + cpg n15) 5 0)).bind fun p17 =>
        (k_Disk_cutTo F σ l0 l1 p17).bind fun p20 =>
        k_Disk_find_b80 F KK p20 l0 l1
      )
    )
set_option maxRecDepth 4000 in
theorem k_Disk_find_b35_ok {E : CE} {pF : Nat → List Value → xH → Option (Option Value × xH)} (hp0 : xNPc pF) (hL : lcAll E pF) (hF : lcF pF) {d : Nat} {F : Nat}   : ∀ (n : Nat) (g : CG) (lv : xL) (σ : CS) (l0 : Nat) (l1 : Int32), (cob σ 6 l0) → (xg lv 0 = some (.ref (coa E 6 l0))) → (xg lv 1 = some (.int l1)) → ∀ res, k_Disk_find_b35 F  n σ l0 l1 = some res → cR E cQ1 pF (d + 3) kT37 6 2 none none res g σ (35, lv, []) := by
  intro n
  induction n with
  | zero => intro g lv σ l0 l1 bl0 g0 g1 res h; simp [k_Disk_find_b35] at h
  | succ n hKK =>
    intro g lv σ l0 l1 bl0 g0 g1 res h
    unfold k_Disk_find_b35 at h
    dsimp only at h
    refine cR_lift (fun _ _ kk => eE_iload_n lk37_35 g1 kk) ?_
    refine cR_lift (fun _ _ kk => eE_bipush (v := 16) lk37_36 (by decide) kk) ?_
    refine cR_icmp (t := 86) lk37_38 (by decide) (fun c5 => ?_) (fun c5 => ?_)
    · rw [if_pos c5] at h
      cases h
      exact cR_end lk37_86 rfl rfl rfl
    · rw [if_neg c5] at h
      refine cR_lift (fun _ _ kk => eE_aload_n lk37_41 g0 kk) ?_
      refine cR_lift (fun _ _ kk => eE_iload_n lk37_42 g1 kk) ?_
      obtain ⟨p6, h7, h⟩ := Option.bind_eq_some_iff.mp h
      refine cR_virt (cl := 6) (i := l0) (as := [.int l1]) lk37_43 mr_6_132 na_41 rfl rfl (by first | exact Nat.le_of_ble_eq_true rfl | (simp [xcat, cvo_cat, cat_i, cat_j, cat_r]; done)) wv_41 wc_41 bl0 (k_Disk_isChained_ok hp0 hL hF (d := d + 2) bl0 h7) (fun m8  => ?_)
      refine cR_if (t := 75) lk37_46 (by decide) (fun c9 => ?_) (fun c9 => ?_)
      · rw [if_pos c9] at h
        refine cR_lift (fun _ _ kk => eE_aload_n lk37_75 g0 kk) ?_
        refine cR_lift (fun _ _ kk => eE_iload_n lk37_76 g1 kk) ?_
        obtain ⟨p10, h11, h⟩ := Option.bind_eq_some_iff.mp h
        refine cR_virt (cl := 6) (i := l0) (as := [.int l1]) lk37_77 mr_6_86 na_45 rfl rfl (by first | exact Nat.le_of_ble_eq_true rfl | (simp [xcat, cvo_cat, cat_i, cat_j, cat_r]; done)) wv_45 wc_45 bl0 (k_Disk_remove_ok hp0 hL hF (d := d + 1) bl0 h11) (fun m12  => ?_)
        exact k_Disk_find_b80_ok hp0 hL hF hKK g lv p10 l0 l1 (cob_any rfl bl0) g0 g1 _ h
      · rw [if_neg c9] at h
        refine cR_lift (fun _ _ kk => eE_aload_n lk37_49 g0 kk) ?_
        refine cR_lift (fun _ _ kk => eE_iload_n lk37_50 g1 kk) ?_
        refine cR_lift (fun _ _ kk => eE_aload_n lk37_51 g0 kk) ?_
        refine cR_getA lk37_52 rf_6_11 (by decide) bl0 ?_
        refine cR_lift (fun _ _ kk => eE_iload_n lk37_55 g1 kk) ?_
        obtain ⟨n13, h14, h⟩ := Option.bind_eq_some_iff.mp h
        refine cR_aald (cl := 6) (i := l0) (f := 0) (cl' := 11) (i' := 30 * l0 + cpg n13) lk37_56 rfl (by decide) bl0 h14 rfl ?_
        refine cR_lift (fun _ _ kk => eE_aload_n lk37_57 g0 kk) ?_
        refine cR_getA lk37_58 rf_6_11 (by decide) bl0 ?_
        refine cR_lift (fun _ _ kk => eE_iload_n lk37_61 g1 kk) ?_
        obtain ⟨n15, h16, h⟩ := Option.bind_eq_some_iff.mp h
        refine cR_aald (cl := 6) (i := l0) (f := 0) (cl' := 11) (i' := 30 * l0 + cpg n15) lk37_62 rfl (by decide) bl0 h16 rfl ?_
        refine cR_getI lk37_63 rf_6_96 rfl (cob_pg (c := σ) bl0 (cix_lt h16)).1 ?_
        obtain ⟨p17, h18, h⟩ := Option.bind_eq_some_iff.mp h
        refine cR_virt (cl := 11) (i := 30 * l0 + cpg n13) (as := [.int (cI σ 11 (30 * l0 + cpg n15) 5 0)]) lk37_66 mr_6_89 na_107 rfl rfl (by first | exact Nat.le_of_ble_eq_true rfl | (simp [xcat, cvo_cat, cat_i, cat_j, cat_r]; done)) wv_107 wc_107 (cob_pg (c := σ) bl0 (cix_lt h14)).1 (k_Page_frameStart_ok hp0 hL hF (d := d + 2) (cob_pg (c := σ) bl0 (cix_lt h14)).1 h18) (fun m19  => ?_)
        obtain ⟨p20, h21, h⟩ := Option.bind_eq_some_iff.mp h
        refine cR_virt (cl := 6) (i := l0) (as := [.int l1, .int p17]) lk37_69 mr_6_93 na_35 rfl rfl (by first | exact Nat.le_of_ble_eq_true rfl | (simp [xcat, cvo_cat, cat_i, cat_j, cat_r]; done)) wv_35 wc_35 bl0 (k_Disk_cutTo_ok hp0 hL hF (d := d + 1) bl0 h21) (fun m22  => ?_)
        refine cR_lift (fun _ _ kk => eE_goto (t := 80) lk37_72 (by decide) kk) ?_
        exact k_Disk_find_b80_ok hp0 hL hF hKK g lv p20 l0 l1 (cob_any rfl bl0) g0 g1 _ h
def k_Disk_find_b0 (F : Nat)  (σ : CS) (l0 : Nat) : Option (CS) :=
  (k_Disk_later σ l0 ((0 : Int32)) ((1 : Int32)) ((32 : Int32))).bind fun p23 =>
  (some (csI σ 6 l0 6 0 p23)).bind fun σ26 =>
  (k_Disk_later σ26 l0 ((2 : Int32)) ((3 : Int32)) ((20 : Int32))).bind fun p28 =>
  (some (csI σ26 6 l0 9 0 p28)).bind fun σ31 =>
  (cputZ σ31 6 l0 7 ((0 : Int32))).bind fun σ33 =>
  (k_Disk_findChain F σ33 l0).bind fun p35 =>
  k_Disk_find_b35 F  F p35 l0 ((4 : Int32))
set_option maxRecDepth 4000 in
theorem k_Disk_find_b0_ok {E : CE} {pF : Nat → List Value → xH → Option (Option Value × xH)} (hp0 : xNPc pF) (hL : lcAll E pF) (hF : lcF pF) {d : Nat} {F : Nat}   : ∀ (g : CG) (lv : xL) (σ : CS) (l0 : Nat), (cob σ 6 l0) → (xg lv 0 = some (.ref (coa E 6 l0))) → ∀ res, k_Disk_find_b0 F  σ l0 = some res → cR E cQ1 pF (d + 3) kT37 6 2 none none res g σ (0, lv, []) := by
  intro g lv σ l0 bl0 g0 res h
  unfold k_Disk_find_b0 at h
  refine cR_lift (fun _ _ kk => eE_aload_n lk37_0 g0 kk) ?_
  refine cR_lift (fun _ _ kk => eE_aload_n lk37_1 g0 kk) ?_
  refine cR_lift (fun _ _ kk => eE_iconst (v := 0) lk37_2 (by decide) kk) ?_
  refine cR_lift (fun _ _ kk => eE_iconst (v := 1) lk37_3 (by decide) kk) ?_
  refine cR_lift (fun _ _ kk => eE_bipush (v := 32) lk37_4 (by decide) kk) ?_
  obtain ⟨p23, h24, h⟩ := Option.bind_eq_some_iff.mp h
  refine cR_virt (cl := 6) (i := l0) (as := [.int ((0 : Int32)), .int ((1 : Int32)), .int ((32 : Int32))]) lk37_6 mr_6_125 na_43 rfl rfl (by first | exact Nat.le_of_ble_eq_true rfl | (simp [xcat, cvo_cat, cat_i, cat_j, cat_r]; done)) wv_43 wc_43 bl0 (k_Disk_later_ok hp0 hL hF (d := d + 2) bl0 h24) (fun m25  => ?_)
  obtain ⟨σ26, h27, h⟩ := Option.bind_eq_some_iff.mp h
  refine cR_putI lk37_9 rf_6_30 rfl bl0 pf_6_6 rfl h27 ?_
  refine cR_lift (fun _ _ kk => eE_aload_n lk37_12 g0 kk) ?_
  refine cR_lift (fun _ _ kk => eE_aload_n lk37_13 g0 kk) ?_
  refine cR_lift (fun _ _ kk => eE_iconst (v := 2) lk37_14 (by decide) kk) ?_
  refine cR_lift (fun _ _ kk => eE_iconst (v := 3) lk37_15 (by decide) kk) ?_
  refine cR_lift (fun _ _ kk => eE_bipush (v := 20) lk37_16 (by decide) kk) ?_
  obtain ⟨p28, h29, h⟩ := Option.bind_eq_some_iff.mp h
  refine cR_virt (cl := 6) (i := l0) (as := [.int ((2 : Int32)), .int ((3 : Int32)), .int ((20 : Int32))]) lk37_18 mr_6_125 na_43 rfl rfl (by first | exact Nat.le_of_ble_eq_true rfl | (simp [xcat, cvo_cat, cat_i, cat_j, cat_r]; done)) wv_43 wc_43 (cob_any rfl bl0) (k_Disk_later_ok hp0 hL hF (d := d + 2) (cob_any rfl bl0) h29) (fun m30  => ?_)
  obtain ⟨σ31, h32, h⟩ := Option.bind_eq_some_iff.mp h
  refine cR_putI lk37_21 rf_6_34 rfl (cob_any rfl bl0) pf_6_9 rfl h32 ?_
  refine cR_lift (fun _ _ kk => eE_aload_n lk37_24 g0 kk) ?_
  refine cR_lift (fun _ _ kk => eE_iconst (v := 0) lk37_25 (by decide) kk) ?_
  obtain ⟨σ33, h34, h⟩ := Option.bind_eq_some_iff.mp h
  refine cR_putZ lk37_26 rf_6_45 rfl (cob_any rfl bl0) pf_6_7 h34 ?_
  refine cR_lift (fun _ _ kk => eE_aload_n lk37_29 g0 kk) ?_
  obtain ⟨p35, h36, h⟩ := Option.bind_eq_some_iff.mp h
  refine cR_virt (cl := 6) (i := l0) (as := []) lk37_30 mr_6_129 na_38 rfl rfl (by first | exact Nat.le_of_ble_eq_true rfl | (simp [xcat, cvo_cat, cat_i, cat_j, cat_r]; done)) wv_38 wc_38 (cob_any rfl bl0) (k_Disk_findChain_ok hp0 hL hF (d := d + 0) (cob_any rfl bl0) h36) (fun m37  => ?_)
  refine cR_lift (fun _ _ kk => eE_iconst (v := 4) lk37_33 (by decide) kk) ?_
  refine cR_stI (j := 1) lk37_34 (Or.inr ⟨_, rfl, rfl⟩) (by decide) (fun vq38 gq39 kq40 => ?_)
  have gq41 := kq40 0 _ (by decide) (fun _ => rfl) g0
  exact k_Disk_find_b35_ok hp0 hL hF  F g vq38 p35 l0 ((4 : Int32)) (cob_any rfl bl0) gq41 gq39 _ h
def k_Disk_find (F : Nat) (σ : CS) (l0 : Nat) : Option (CS) := k_Disk_find_b0 F σ l0
theorem k_Disk_find_ok {E : CE} {pF : Nat → List Value → xH → Option (Option Value × xH)} (hp0 : xNPc pF) (hL : lcAll E pF) (hF : lcF pF) {d : Nat} {g : CG} {σ : CS} {F : Nat} {l0 : Nat} {res : CS} (bl0 : cob σ 6 l0) (h : k_Disk_find F σ l0 = some res) : cCo E cQ1 pF (d + 4) 37 [.ref (coa E 6 l0)] none res g σ :=
  cCo_R kk_37 mo_37 ni_37 xm_37 (Nat.le_of_ble_eq_true rfl) (hp0 37 (by decide) _) (k_Disk_find_b0_ok hp0 hL hF g _ σ l0 bl0 rfl _ h)
/-! k_Page_write (114), depth 1 -/
def k_Page_write_b0  (σ : CS) (l0 : Nat) (l1 : Int32) (l2 : Int32) (l3 : Int32) (l4 : Int32) : Option (CS) :=
  (cputZ σ 11 l0 0 ((1 : Int32))).bind fun σ1 =>
  (some (csI σ1 11 l0 1 0 l1)).bind fun σ3 =>
  (some (csI σ3 11 l0 2 0 l2)).bind fun σ5 =>
  (some (csI σ5 11 l0 3 0 l3)).bind fun σ7 =>
  (some (csI σ7 11 l0 4 0 l4)).bind fun σ9 =>
  (some (csI σ9 11 l0 5 0 ((0 : Int32)))).bind fun σ11 =>
  (some (csI σ11 11 l0 9 0 ((0 : Int32)))).bind fun σ13 =>
  some σ13
set_option maxRecDepth 4000 in
theorem k_Page_write_b0_ok {E : CE} {pF : Nat → List Value → xH → Option (Option Value × xH)} (hp0 : xNPc pF) (hL : lcAll E pF) (hF : lcF pF) {d : Nat}   : ∀ (g : CG) (lv : xL) (σ : CS) (l0 : Nat) (l1 : Int32) (l2 : Int32) (l3 : Int32) (l4 : Int32), (cob σ 11 l0) → (xg lv 0 = some (.ref (coa E 11 l0))) → (xg lv 1 = some (.int l1)) → (xg lv 2 = some (.int l2)) → (xg lv 3 = some (.int l3)) → (xg lv 4 = some (.int l4)) → ∀ res, k_Page_write_b0  σ l0 l1 l2 l3 l4 = some res → cR E cQ1 pF (d + 0) kT114 11 5 none none res g σ (0, lv, []) := by
  intro g lv σ l0 l1 l2 l3 l4 bl0 g0 g1 g2 g3 g4 res h
  unfold k_Page_write_b0 at h
  refine cR_lift (fun _ _ kk => eE_aload_n lk114_0 g0 kk) ?_
  refine cR_lift (fun _ _ kk => eE_iconst (v := 1) lk114_1 (by decide) kk) ?_
  obtain ⟨σ1, h2, h⟩ := Option.bind_eq_some_iff.mp h
  refine cR_putZ lk114_2 rf_11_22 rfl bl0 pf_11_0 h2 ?_
  refine cR_lift (fun _ _ kk => eE_aload_n lk114_5 g0 kk) ?_
  refine cR_lift (fun _ _ kk => eE_iload_n lk114_6 g1 kk) ?_
  obtain ⟨σ3, h4, h⟩ := Option.bind_eq_some_iff.mp h
  refine cR_putI lk114_7 rf_11_26 rfl (cob_any rfl bl0) pf_11_1 rfl h4 ?_
  refine cR_lift (fun _ _ kk => eE_aload_n lk114_10 g0 kk) ?_
  refine cR_lift (fun _ _ kk => eE_iload_n lk114_11 g2 kk) ?_
  obtain ⟨σ5, h6, h⟩ := Option.bind_eq_some_iff.mp h
  refine cR_putI lk114_12 rf_11_30 rfl (cob_any rfl bl0) pf_11_2 rfl h6 ?_
  refine cR_lift (fun _ _ kk => eE_aload_n lk114_15 g0 kk) ?_
  refine cR_lift (fun _ _ kk => eE_iload_n lk114_16 g3 kk) ?_
  obtain ⟨σ7, h8, h⟩ := Option.bind_eq_some_iff.mp h
  refine cR_putI lk114_17 rf_11_33 rfl (cob_any rfl bl0) pf_11_3 rfl h8 ?_
  refine cR_lift (fun _ _ kk => eE_aload_n lk114_20 g0 kk) ?_
  refine cR_lift (fun _ _ kk => eE_iload lk114_21 g4 kk) ?_
  obtain ⟨σ9, h10, h⟩ := Option.bind_eq_some_iff.mp h
  refine cR_putI lk114_23 rf_11_36 rfl (cob_any rfl bl0) pf_11_4 rfl h10 ?_
  refine cR_lift (fun _ _ kk => eE_aload_n lk114_26 g0 kk) ?_
  refine cR_lift (fun _ _ kk => eE_iconst (v := 0) lk114_27 (by decide) kk) ?_
  obtain ⟨σ11, h12, h⟩ := Option.bind_eq_some_iff.mp h
  refine cR_putI lk114_28 rf_11_39 rfl (cob_any rfl bl0) pf_11_5 rfl h12 ?_
  refine cR_lift (fun _ _ kk => eE_aload_n lk114_31 g0 kk) ?_
  refine cR_lift (fun _ _ kk => eE_iconst (v := 0) lk114_32 (by decide) kk) ?_
  obtain ⟨σ13, h14, h⟩ := Option.bind_eq_some_iff.mp h
  refine cR_putI lk114_33 rf_11_42 rfl (cob_any rfl bl0) pf_11_9 rfl h14 ?_
  cases h
  exact cR_end lk114_36 rfl rfl rfl
def k_Page_write (σ : CS) (l0 : Nat) (l1 : Int32) (l2 : Int32) (l3 : Int32) (l4 : Int32) : Option (CS) := k_Page_write_b0 σ l0 l1 l2 l3 l4
theorem k_Page_write_ok {E : CE} {pF : Nat → List Value → xH → Option (Option Value × xH)} (hp0 : xNPc pF) (hL : lcAll E pF) (hF : lcF pF) {d : Nat} {g : CG} {σ : CS} {l0 : Nat} {l1 : Int32} {l2 : Int32} {l3 : Int32} {l4 : Int32} {res : CS} (bl0 : cob σ 11 l0) (h : k_Page_write σ l0 l1 l2 l3 l4 = some res) : cCo E cQ1 pF (d + 1) 114 [.ref (coa E 11 l0), .int l1, .int l2, .int l3, .int l4] none res g σ :=
  cCo_R kk_114 mo_114 ni_114 xm_114 (Nat.le_of_ble_eq_true rfl) (hp0 114 (by decide) _) (k_Page_write_b0_ok hp0 hL hF g _ σ l0 l1 l2 l3 l4 bl0 rfl rfl rfl rfl rfl _ h)
/-! k_Disk_openSegment (44), depth 2 -/
def k_Disk_openSegment_b2 (F : Nat)  : Nat → CS → Nat → Int32 → Int32 → Int32 → Option (CS)
  | 0, _, _, _, _, _ => none
  | n + 1, σ, l0, l1, l2, l3 =>
    let KK := k_Disk_openSegment_b2 F  n
    if xc2 .ge l3 ((16 : Int32)) = true then (
      some σ
    ) else (
      (cix 6 0 l3).bind fun n2 =>
      if xc0 .ne (cI σ 11 (30 * l0 + cpg n2) 0 0) = true then (
        KK σ l0 l1 l2 (l3 + (1 : Int32))
      ) else (
        (cix 6 0 l3).bind fun n11 =>
        (k_Page_write σ (30 * l0 + cpg n11) ((24 : Int32)) l1 l2 ((0 : Int32))).bind fun p13 =>
        (cwr p13 6 l0 2 l3 ((0 : Int32))).bind fun σ16 =>
        (cwr σ16 6 l0 3 l3 ((0 : Int32))).bind fun σ18 =>
        (cwr σ18 6 l0 4 (cI σ18 6 l0 5 0) l3).bind fun σ20 =>
        (some (csI σ20 6 l0 5 0 ((cI σ20 6 l0 5 0) + ((1 : Int32))))).bind fun σ22 =>
        some σ22
      )
    )
set_option maxRecDepth 4000 in
theorem k_Disk_openSegment_b2_ok {E : CE} {pF : Nat → List Value → xH → Option (Option Value × xH)} (hp0 : xNPc pF) (hL : lcAll E pF) (hF : lcF pF) {d : Nat} {F : Nat}   : ∀ (n : Nat) (g : CG) (lv : xL) (σ : CS) (l0 : Nat) (l1 : Int32) (l2 : Int32) (l3 : Int32), (cob σ 6 l0) → (xg lv 0 = some (.ref (coa E 6 l0))) → (xg lv 1 = some (.int l1)) → (xg lv 2 = some (.int l2)) → (xg lv 3 = some (.int l3)) → ∀ res, k_Disk_openSegment_b2 F  n σ l0 l1 l2 l3 = some res → cR E cQ1 pF (d + 1) kT44 6 4 none none res g σ (2, lv, []) := by
  intro n
  induction n with
  | zero => intro g lv σ l0 l1 l2 l3 bl0 g0 g1 g2 g3 res h; simp [k_Disk_openSegment_b2] at h
  | succ n hKK =>
    intro g lv σ l0 l1 l2 l3 bl0 g0 g1 g2 g3 res h
    unfold k_Disk_openSegment_b2 at h
    dsimp only at h
    refine cR_lift (fun _ _ kk => eE_iload_n lk44_2 g3 kk) ?_
    refine cR_lift (fun _ _ kk => eE_bipush (v := 16) lk44_3 (by decide) kk) ?_
    refine cR_icmp (t := 75) lk44_5 (by decide) (fun c1 => ?_) (fun c1 => ?_)
    · rw [if_pos c1] at h
      cases h
      exact cR_end lk44_75 rfl rfl rfl
    · rw [if_neg c1] at h
      refine cR_lift (fun _ _ kk => eE_aload_n lk44_8 g0 kk) ?_
      refine cR_getA lk44_9 rf_6_11 (by decide) bl0 ?_
      refine cR_lift (fun _ _ kk => eE_iload_n lk44_12 g3 kk) ?_
      obtain ⟨n2, h3, h⟩ := Option.bind_eq_some_iff.mp h
      refine cR_aald (cl := 6) (i := l0) (f := 0) (cl' := 11) (i' := 30 * l0 + cpg n2) lk44_13 rfl (by decide) bl0 h3 rfl ?_
      refine cR_getI lk44_14 rf_6_41 rfl (cob_pg (c := σ) bl0 (cix_lt h3)).1 ?_
      refine cR_if (t := 69) lk44_17 (by decide) (fun c4 => ?_) (fun c4 => ?_)
      · rw [if_pos c4] at h
        refine cR_inc (j := 3) (v := l3 + (1 : Int32)) lk44_69 g3 rfl (by decide) (fun vq5 gq6 kq7 => ?_)
        have gq8 := kq7 0 _ (by decide) (fun e => absurd e (by decide)) g0
        have gq9 := kq7 1 _ (by decide) (fun e => absurd e (by decide)) g1
        have gq10 := kq7 2 _ (by decide) (fun _ => rfl) g2
        refine cR_lift (fun _ _ kk => eE_goto (t := 2) lk44_72 (by decide) kk) ?_
        exact hKK g vq5 σ l0 l1 l2 (l3 + (1 : Int32)) bl0 gq8 gq9 gq10 gq6 _ h
      · rw [if_neg c4] at h
        refine cR_lift (fun _ _ kk => eE_aload_n lk44_20 g0 kk) ?_
        refine cR_getA lk44_21 rf_6_11 (by decide) bl0 ?_
        refine cR_lift (fun _ _ kk => eE_iload_n lk44_24 g3 kk) ?_
        obtain ⟨n11, h12, h⟩ := Option.bind_eq_some_iff.mp h
        refine cR_aald (cl := 6) (i := l0) (f := 0) (cl' := 11) (i' := 30 * l0 + cpg n11) lk44_25 rfl (by decide) bl0 h12 rfl ?_
        refine cR_lift (fun _ _ kk => eE_bipush (v := 24) lk44_26 (by decide) kk) ?_
        refine cR_lift (fun _ _ kk => eE_iload_n lk44_28 g1 kk) ?_
        refine cR_lift (fun _ _ kk => eE_iload_n lk44_29 g2 kk) ?_
        refine cR_lift (fun _ _ kk => eE_iconst (v := 0) lk44_30 (by decide) kk) ?_
        obtain ⟨p13, h14, h⟩ := Option.bind_eq_some_iff.mp h
        refine cR_virt (cl := 11) (i := 30 * l0 + cpg n11) (as := [.int ((24 : Int32)), .int l1, .int l2, .int ((0 : Int32))]) lk44_31 mr_6_51 na_114 rfl rfl (by first | exact Nat.le_of_ble_eq_true rfl | (simp [xcat, cvo_cat, cat_i, cat_j, cat_r]; done)) wv_114 wc_114 (cob_pg (c := σ) bl0 (cix_lt h12)).1 (k_Page_write_ok hp0 hL hF (d := d + 0) (cob_pg (c := σ) bl0 (cix_lt h12)).1 h14) (fun m15  => ?_)
        refine cR_lift (fun _ _ kk => eE_aload_n lk44_34 g0 kk) ?_
        refine cR_getA lk44_35 rf_6_20 (by decide) (cob_any rfl bl0) ?_
        refine cR_lift (fun _ _ kk => eE_iload_n lk44_38 g3 kk) ?_
        refine cR_lift (fun _ _ kk => eE_iconst (v := 0) lk44_39 (by decide) kk) ?_
        obtain ⟨σ16, h17, h⟩ := Option.bind_eq_some_iff.mp h
        refine cR_iast (cl := 6) (i := l0) (f := 2) lk44_40 (by decide) rfl (cob_any rfl bl0) h17 ?_
        refine cR_lift (fun _ _ kk => eE_aload_n lk44_41 g0 kk) ?_
        refine cR_getA lk44_42 rf_6_24 (by decide) (cob_any rfl bl0) ?_
        refine cR_lift (fun _ _ kk => eE_iload_n lk44_45 g3 kk) ?_
        refine cR_lift (fun _ _ kk => eE_iconst (v := 0) lk44_46 (by decide) kk) ?_
        obtain ⟨σ18, h19, h⟩ := Option.bind_eq_some_iff.mp h
        refine cR_iast (cl := 6) (i := l0) (f := 3) lk44_47 (by decide) rfl (cob_any rfl bl0) h19 ?_
        refine cR_lift (fun _ _ kk => eE_aload_n lk44_48 g0 kk) ?_
        refine cR_getA lk44_49 rf_6_27 (by decide) (cob_any rfl bl0) ?_
        refine cR_lift (fun _ _ kk => eE_aload_n lk44_52 g0 kk) ?_
        refine cR_getI lk44_53 rf_6_72 rfl (cob_any rfl bl0) ?_
        refine cR_lift (fun _ _ kk => eE_iload_n lk44_56 g3 kk) ?_
        obtain ⟨σ20, h21, h⟩ := Option.bind_eq_some_iff.mp h
        refine cR_iast (cl := 6) (i := l0) (f := 4) lk44_57 (by decide) rfl (cob_any rfl bl0) h21 ?_
        refine cR_lift (fun _ _ kk => eE_aload_n lk44_58 g0 kk) ?_
        refine cR_lift (fun _ _ kk => eE_dup lk44_59 rfl kk) ?_
        refine cR_getI lk44_60 rf_6_72 rfl (cob_any rfl bl0) ?_
        refine cR_lift (fun _ _ kk => eE_iconst (v := 1) lk44_63 (by decide) kk) ?_
        refine cR_lift (fun _ _ kk => eE_iadd lk44_64 kk) ?_
        obtain ⟨σ22, h23, h⟩ := Option.bind_eq_some_iff.mp h
        refine cR_putI lk44_65 rf_6_72 rfl (cob_any rfl bl0) pf_6_5 rfl h23 ?_
        cases h
        exact cR_end lk44_68 rfl rfl rfl
def k_Disk_openSegment_b0 (F : Nat)  (σ : CS) (l0 : Nat) (l1 : Int32) (l2 : Int32) : Option (CS) :=
  k_Disk_openSegment_b2 F  F σ l0 l1 l2 ((4 : Int32))
set_option maxRecDepth 4000 in
theorem k_Disk_openSegment_b0_ok {E : CE} {pF : Nat → List Value → xH → Option (Option Value × xH)} (hp0 : xNPc pF) (hL : lcAll E pF) (hF : lcF pF) {d : Nat} {F : Nat}   : ∀ (g : CG) (lv : xL) (σ : CS) (l0 : Nat) (l1 : Int32) (l2 : Int32), (cob σ 6 l0) → (xg lv 0 = some (.ref (coa E 6 l0))) → (xg lv 1 = some (.int l1)) → (xg lv 2 = some (.int l2)) → ∀ res, k_Disk_openSegment_b0 F  σ l0 l1 l2 = some res → cR E cQ1 pF (d + 1) kT44 6 4 none none res g σ (0, lv, []) := by
  intro g lv σ l0 l1 l2 bl0 g0 g1 g2 res h
  unfold k_Disk_openSegment_b0 at h
  refine cR_lift (fun _ _ kk => eE_iconst (v := 4) lk44_0 (by decide) kk) ?_
  refine cR_stI (j := 3) lk44_1 (Or.inr ⟨_, rfl, rfl⟩) (by decide) (fun vq24 gq25 kq26 => ?_)
  have gq27 := kq26 0 _ (by decide) (fun e => absurd e (by decide)) g0
  have gq28 := kq26 1 _ (by decide) (fun e => absurd e (by decide)) g1
  have gq29 := kq26 2 _ (by decide) (fun _ => rfl) g2
  exact k_Disk_openSegment_b2_ok hp0 hL hF  F g vq24 σ l0 l1 l2 ((4 : Int32)) bl0 gq27 gq28 gq29 gq25 _ h
def k_Disk_openSegment (F : Nat) (σ : CS) (l0 : Nat) (l1 : Int32) (l2 : Int32) : Option (CS) := k_Disk_openSegment_b0 F σ l0 l1 l2
theorem k_Disk_openSegment_ok {E : CE} {pF : Nat → List Value → xH → Option (Option Value × xH)} (hp0 : xNPc pF) (hL : lcAll E pF) (hF : lcF pF) {d : Nat} {g : CG} {σ : CS} {F : Nat} {l0 : Nat} {l1 : Int32} {l2 : Int32} {res : CS} (bl0 : cob σ 6 l0) (h : k_Disk_openSegment F σ l0 l1 l2 = some res) : cCo E cQ1 pF (d + 2) 44 [.ref (coa E 6 l0), .int l1, .int l2] none res g σ :=
  cCo_R kk_44 mo_44 ni_44 xm_44 (Nat.le_of_ble_eq_true rfl) (hp0 44 (by decide) _) (k_Disk_openSegment_b0_ok hp0 hL hF g _ σ l0 l1 l2 bl0 rfl rfl rfl _ h)
/-! k_Disk_snapshotSize (47), depth 1 -/
def k_Disk_snapshotSize_b24  (σ : CS) (s0 : Int32) : Option (Int32) :=
  some s0
set_option maxRecDepth 4000 in
theorem k_Disk_snapshotSize_b24_ok {E : CE} {pF : Nat → List Value → xH → Option (Option Value × xH)} (hp0 : xNPc pF) (hL : lcAll E pF) (hF : lcF pF) {d : Nat}   : ∀ (g : CG) (lv : xL) (σ : CS) (s0 : Int32), ∀ res, k_Disk_snapshotSize_b24  σ s0 = some res → cR E cQ1 pF (d + 0) kT47 6 1 (some FieldType.int) (some (.int res)) σ g σ (24, lv, [.int s0]) := by
  intro g lv σ s0 res h
  unfold k_Disk_snapshotSize_b24 at h
  cases h
  exact cR_end lk47_24 rfl rfl rfl
def k_Disk_snapshotSize_b0  (σ : CS) (l0 : Nat) : Option (Int32) :=
  if xc2 .ne (cI σ 6 l0 9 0) ((-1 : Int32)) = true then (
    (cix 6 0 (cI σ 6 l0 9 0)).bind fun n2 =>
    k_Disk_snapshotSize_b24  σ (cI σ 11 (30 * l0 + cpg n2) 9 0)
  ) else (
    k_Disk_snapshotSize_b24  σ ((0 : Int32))
  )
set_option maxRecDepth 4000 in
theorem k_Disk_snapshotSize_b0_ok {E : CE} {pF : Nat → List Value → xH → Option (Option Value × xH)} (hp0 : xNPc pF) (hL : lcAll E pF) (hF : lcF pF) {d : Nat}   : ∀ (g : CG) (lv : xL) (σ : CS) (l0 : Nat), (cob σ 6 l0) → (xg lv 0 = some (.ref (coa E 6 l0))) → ∀ res, k_Disk_snapshotSize_b0  σ l0 = some res → cR E cQ1 pF (d + 0) kT47 6 1 (some FieldType.int) (some (.int res)) σ g σ (0, lv, []) := by
  intro g lv σ l0 bl0 g0 res h
  unfold k_Disk_snapshotSize_b0 at h
  refine cR_lift (fun _ _ kk => eE_aload_n lk47_0 g0 kk) ?_
  refine cR_getI lk47_1 rf_6_34 rfl bl0 ?_
  refine cR_lift (fun _ _ kk => eE_iconst (v := (-1)) lk47_4 (by decide) kk) ?_
  refine cR_icmp (t := 12) lk47_5 (by decide) (fun c1 => ?_) (fun c1 => ?_)
  · rw [if_pos c1] at h
    refine cR_lift (fun _ _ kk => eE_aload_n lk47_12 g0 kk) ?_
    refine cR_getA lk47_13 rf_6_11 (by decide) bl0 ?_
    refine cR_lift (fun _ _ kk => eE_aload_n lk47_16 g0 kk) ?_
    refine cR_getI lk47_17 rf_6_34 rfl bl0 ?_
    obtain ⟨n2, h3, h⟩ := Option.bind_eq_some_iff.mp h
    refine cR_aald (cl := 6) (i := l0) (f := 0) (cl' := 11) (i' := 30 * l0 + cpg n2) lk47_20 rfl (by decide) bl0 h3 rfl ?_
    refine cR_getI lk47_21 rf_6_69 rfl (cob_pg (c := σ) bl0 (cix_lt h3)).1 ?_
    exact k_Disk_snapshotSize_b24_ok hp0 hL hF  g lv σ (cI σ 11 (30 * l0 + cpg n2) 9 0)  _ h
  · rw [if_neg c1] at h
    refine cR_lift (fun _ _ kk => eE_iconst (v := 0) lk47_8 (by decide) kk) ?_
    refine cR_lift (fun _ _ kk => eE_goto (t := 24) lk47_9 (by decide) kk) ?_
    exact k_Disk_snapshotSize_b24_ok hp0 hL hF  g lv σ ((0 : Int32))  _ h
def k_Disk_snapshotSize (σ : CS) (l0 : Nat) : Option (Int32) := k_Disk_snapshotSize_b0 σ l0
theorem k_Disk_snapshotSize_ok {E : CE} {pF : Nat → List Value → xH → Option (Option Value × xH)} (hp0 : xNPc pF) (hL : lcAll E pF) (hF : lcF pF) {d : Nat} {g : CG} {σ : CS} {l0 : Nat} {res : Int32} (bl0 : cob σ 6 l0) (h : k_Disk_snapshotSize σ l0 = some res) : cCo E cQ1 pF (d + 1) 47 [.ref (coa E 6 l0)] (some (.int res)) σ g σ :=
  cCo_R kk_47 mo_47 ni_47 xm_47 (Nat.le_of_ble_eq_true rfl) (hp0 47 (by decide) _) (k_Disk_snapshotSize_b0_ok hp0 hL hF g _ σ l0 bl0 rfl _ h)
/-! k_Disk_syncAll (48), depth 5 -/
def k_Disk_syncAll_b2 (F : Nat)  : Nat → CS → Nat → Int32 → Option (CS)
  | 0, _, _, _ => none
  | n + 1, σ, l0, l1 =>
    let KK := k_Disk_syncAll_b2 F  n
    if xc2 .ge l1 ((16 : Int32)) = true then (
      (cputZ σ 6 l0 7 ((0 : Int32))).bind fun σ2 =>
      some σ2
    ) else (
      (k_Disk_syncFile σ l0 l1).bind fun p4 =>
      KK p4 l0 (l1 + (1 : Int32))
    )
set_option maxRecDepth 4000 in
theorem k_Disk_syncAll_b2_ok {E : CE} {pF : Nat → List Value → xH → Option (Option Value × xH)} (hp0 : xNPc pF) (hL : lcAll E pF) (hF : lcF pF) {d : Nat} {F : Nat}   : ∀ (n : Nat) (g : CG) (lv : xL) (σ : CS) (l0 : Nat) (l1 : Int32), (cob σ 6 l0) → (xg lv 0 = some (.ref (coa E 6 l0))) → (xg lv 1 = some (.int l1)) → ∀ res, k_Disk_syncAll_b2 F  n σ l0 l1 = some res → cR E (cQx [11]) pF (d + 4) kT48 6 2 none none res g σ (2, lv, []) := by
  intro n
  induction n with
  | zero => intro g lv σ l0 l1 bl0 g0 g1 res h; simp [k_Disk_syncAll_b2] at h
  | succ n hKK =>
    intro g lv σ l0 l1 bl0 g0 g1 res h
    unfold k_Disk_syncAll_b2 at h
    dsimp only at h
    refine cR_lift (fun _ _ kk => eE_iload_n lk48_2 g1 kk) ?_
    refine cR_lift (fun _ _ kk => eE_bipush (v := 16) lk48_3 (by decide) kk) ?_
    refine cR_icmp (t := 19) lk48_5 (by decide) (fun c1 => ?_) (fun c1 => ?_)
    · rw [if_pos c1] at h
      refine cR_lift (fun _ _ kk => eE_aload_n lk48_19 g0 kk) ?_
      refine cR_lift (fun _ _ kk => eE_iconst (v := 0) lk48_20 (by decide) kk) ?_
      obtain ⟨σ2, h3, h⟩ := Option.bind_eq_some_iff.mp h
      refine cR_putZ lk48_21 rf_6_45 rfl bl0 pf_6_7 h3 ?_
      cases h
      exact cR_end lk48_24 rfl rfl rfl
    · rw [if_neg c1] at h
      refine cR_lift (fun _ _ kk => eE_aload_n lk48_8 g0 kk) ?_
      refine cR_lift (fun _ _ kk => eE_iload_n lk48_9 g1 kk) ?_
      obtain ⟨p4, h5, h⟩ := Option.bind_eq_some_iff.mp h
      refine cR_virtG (by exact cQx_sub rfl) (cl := 6) (i := l0) (as := [.int l1]) lk48_10 mr_6_109 na_49 rfl rfl (by first | exact Nat.le_of_ble_eq_true rfl | (simp [xcat, cvo_cat, cat_i, cat_j, cat_r]; done)) wv_49 wc_49 bl0 (k_Disk_syncFile_ok hp0 hL hF (d := d + 0) bl0 h5) (fun m6 g_7 g_7e => ?_)
      refine cR_inc (j := 1) (v := l1 + (1 : Int32)) lk48_13 g1 rfl (by decide) (fun vq8 gq9 kq10 => ?_)
      have gq11 := kq10 0 _ (by decide) (fun _ => rfl) g0
      refine cR_lift (fun _ _ kk => eE_goto (t := 2) lk48_16 (by decide) kk) ?_
      exact hKK g_7 vq8 p4 l0 (l1 + (1 : Int32)) (cob_any rfl bl0) gq11 gq9 _ h
def k_Disk_syncAll_b0 (F : Nat)  (σ : CS) (l0 : Nat) : Option (CS) :=
  k_Disk_syncAll_b2 F  F σ l0 ((0 : Int32))
set_option maxRecDepth 4000 in
theorem k_Disk_syncAll_b0_ok {E : CE} {pF : Nat → List Value → xH → Option (Option Value × xH)} (hp0 : xNPc pF) (hL : lcAll E pF) (hF : lcF pF) {d : Nat} {F : Nat}   : ∀ (g : CG) (lv : xL) (σ : CS) (l0 : Nat), (cob σ 6 l0) → (xg lv 0 = some (.ref (coa E 6 l0))) → ∀ res, k_Disk_syncAll_b0 F  σ l0 = some res → cR E (cQx [11]) pF (d + 4) kT48 6 2 none none res g σ (0, lv, []) := by
  intro g lv σ l0 bl0 g0 res h
  unfold k_Disk_syncAll_b0 at h
  refine cR_lift (fun _ _ kk => eE_iconst (v := 0) lk48_0 (by decide) kk) ?_
  refine cR_stI (j := 1) lk48_1 (Or.inr ⟨_, rfl, rfl⟩) (by decide) (fun vq12 gq13 kq14 => ?_)
  have gq15 := kq14 0 _ (by decide) (fun _ => rfl) g0
  exact k_Disk_syncAll_b2_ok hp0 hL hF  F g vq12 σ l0 ((0 : Int32)) bl0 gq15 gq13 _ h
def k_Disk_syncAll (F : Nat) (σ : CS) (l0 : Nat) : Option (CS) := k_Disk_syncAll_b0 F σ l0
theorem k_Disk_syncAll_ok {E : CE} {pF : Nat → List Value → xH → Option (Option Value × xH)} (hp0 : xNPc pF) (hL : lcAll E pF) (hF : lcF pF) {d : Nat} {g : CG} {σ : CS} {F : Nat} {l0 : Nat} {res : CS} (bl0 : cob σ 6 l0) (h : k_Disk_syncAll F σ l0 = some res) : cCo E (cQx [11]) pF (d + 5) 48 [.ref (coa E 6 l0)] none res g σ :=
  cCo_R kk_48 mo_48 ni_48 xm_48 (Nat.le_of_ble_eq_true rfl) (hp0 48 (by decide) _) (k_Disk_syncAll_b0_ok hp0 hL hF g _ σ l0 bl0 rfl _ h)
/-! k_Disk_tell (50), depth 1 -/
def k_Disk_tell_b94  (σ : CS) (s0 : Int32) : Option (Int32) :=
  some s0
set_option maxRecDepth 4000 in
theorem k_Disk_tell_b94_ok {E : CE} {pF : Nat → List Value → xH → Option (Option Value × xH)} (hp0 : xNPc pF) (hL : lcAll E pF) (hF : lcF pF) {d : Nat}   : ∀ (g : CG) (lv : xL) (σ : CS) (s0 : Int32), ∀ res, k_Disk_tell_b94  σ s0 = some res → cR E cQ1 pF (d + 0) kT50 6 3 (some FieldType.int) (some (.int res)) σ g σ (94, lv, [.int s0]) := by
  intro g lv σ s0 res h
  unfold k_Disk_tell_b94 at h
  cases h
  exact cR_end lk50_94 rfl rfl rfl
def k_Disk_tell_b76  (σ : CS) (s0 : Int32) : Option (Int32) :=
  some s0
set_option maxRecDepth 4000 in
theorem k_Disk_tell_b76_ok {E : CE} {pF : Nat → List Value → xH → Option (Option Value × xH)} (hp0 : xNPc pF) (hL : lcAll E pF) (hF : lcF pF) {d : Nat}   : ∀ (g : CG) (lv : xL) (σ : CS) (s0 : Int32), ∀ res, k_Disk_tell_b76  σ s0 = some res → cR E cQ1 pF (d + 0) kT50 6 3 (some FieldType.int) (some (.int res)) σ g σ (76, lv, [.int s0]) := by
  intro g lv σ s0 res h
  unfold k_Disk_tell_b76 at h
  cases h
  exact cR_end lk50_76 rfl rfl rfl
def k_Disk_tell_b0  (σ : CS) (l0 : Nat) (l1 : Int32) (l2 : Int32) : Option (Int32) :=
  if l2 = (0 : Int32) then (
    (cix 6 0 l1).bind fun n2 =>
    some (cI σ 11 (30 * l0 + cpg n2) 1 0)
  ) else (
  if l2 = (1 : Int32) then (
    (cix 6 1 l1).bind fun n5 =>
    some (cI σ 11 (30 * l0 + ckp n5) 1 0)
  ) else (
  if l2 = (2 : Int32) then (
    (crd σ 6 l0 2 l1).bind fun x8 =>
    some x8
  ) else (
  if l2 = (3 : Int32) then (
    (cix 6 0 l1).bind fun n11 =>
    if xc0 .eq (cI σ 11 (30 * l0 + cpg n11) 0 0) = true then (
      k_Disk_tell_b76  σ ((0 : Int32))
    ) else (
      k_Disk_tell_b76  σ ((1 : Int32))
    )
  ) else (
    (cix 6 1 l1).bind fun n14 =>
    if xc0 .eq (cI σ 11 (30 * l0 + ckp n14) 0 0) = true then (
      k_Disk_tell_b94  σ ((0 : Int32))
    ) else (
      k_Disk_tell_b94  σ ((1 : Int32))
    )
  )
  )
  )
  )
set_option maxRecDepth 4000 in
theorem k_Disk_tell_b0_ok {E : CE} {pF : Nat → List Value → xH → Option (Option Value × xH)} (hp0 : xNPc pF) (hL : lcAll E pF) (hF : lcF pF) {d : Nat}   : ∀ (g : CG) (lv : xL) (σ : CS) (l0 : Nat) (l1 : Int32) (l2 : Int32), (cob σ 6 l0) → (xg lv 0 = some (.ref (coa E 6 l0))) → (xg lv 1 = some (.int l1)) → (xg lv 2 = some (.int l2)) → ∀ res, k_Disk_tell_b0  σ l0 l1 l2 = some res → cR E cQ1 pF (d + 0) kT50 6 3 (some FieldType.int) (some (.int res)) σ g σ (0, lv, []) := by
  intro g lv σ l0 l1 l2 bl0 g0 g1 g2 res h
  unfold k_Disk_tell_b0 at h
  refine cR_lift (fun _ _ kk => eE_iload_n lk50_0 g2 kk) ?_
  by_cases c1 : l2 = (0 : Int32)
  · rw [if_pos c1] at h
    refine cR_tsw (t := 32) (off := 31) lk50_1 (by rw [c1]; decide) (by rw [c1]; rfl) (by decide) ?_
    refine cR_lift (fun _ _ kk => eE_aload_n lk50_32 g0 kk) ?_
    refine cR_getA lk50_33 rf_6_11 (by decide) bl0 ?_
    refine cR_lift (fun _ _ kk => eE_iload_n lk50_36 g1 kk) ?_
    obtain ⟨n2, h3, h⟩ := Option.bind_eq_some_iff.mp h
    refine cR_aald (cl := 6) (i := l0) (f := 0) (cl' := 11) (i' := 30 * l0 + cpg n2) lk50_37 rfl (by decide) bl0 h3 rfl ?_
    refine cR_getI lk50_38 rf_6_38 rfl (cob_pg (c := σ) bl0 (cix_lt h3)).1 ?_
    cases h
    exact cR_end lk50_41 rfl rfl rfl
  rw [if_neg c1] at h
  by_cases c4 : l2 = (1 : Int32)
  · rw [if_pos c4] at h
    refine cR_tsw (t := 42) (off := 41) lk50_1 (by rw [c4]; decide) (by rw [c4]; rfl) (by decide) ?_
    refine cR_lift (fun _ _ kk => eE_aload_n lk50_42 g0 kk) ?_
    refine cR_getA lk50_43 rf_6_17 (by decide) bl0 ?_
    refine cR_lift (fun _ _ kk => eE_iload_n lk50_46 g1 kk) ?_
    obtain ⟨n5, h6, h⟩ := Option.bind_eq_some_iff.mp h
    refine cR_aald (cl := 6) (i := l0) (f := 1) (cl' := 11) (i' := 30 * l0 + ckp n5) lk50_47 rfl (by decide) bl0 h6 rfl ?_
    refine cR_getI lk50_48 rf_6_38 rfl (cob_pg (c := σ) bl0 (cix_lt h6)).2 ?_
    cases h
    exact cR_end lk50_51 rfl rfl rfl
  rw [if_neg c4] at h
  by_cases c7 : l2 = (2 : Int32)
  · rw [if_pos c7] at h
    refine cR_tsw (t := 52) (off := 51) lk50_1 (by rw [c7]; decide) (by rw [c7]; rfl) (by decide) ?_
    refine cR_lift (fun _ _ kk => eE_aload_n lk50_52 g0 kk) ?_
    refine cR_getA lk50_53 rf_6_20 (by decide) bl0 ?_
    refine cR_lift (fun _ _ kk => eE_iload_n lk50_56 g1 kk) ?_
    obtain ⟨x8, h9, h⟩ := Option.bind_eq_some_iff.mp h
    refine cR_iald (cl := 6) (i := l0) (f := 2) lk50_57 (by decide) rfl bl0 h9 ?_
    cases h
    exact cR_end lk50_58 rfl rfl rfl
  rw [if_neg c7] at h
  by_cases c10 : l2 = (3 : Int32)
  · rw [if_pos c10] at h
    refine cR_tsw (t := 59) (off := 58) lk50_1 (by rw [c10]; decide) (by rw [c10]; rfl) (by decide) ?_
    refine cR_lift (fun _ _ kk => eE_aload_n lk50_59 g0 kk) ?_
    refine cR_getA lk50_60 rf_6_11 (by decide) bl0 ?_
    refine cR_lift (fun _ _ kk => eE_iload_n lk50_63 g1 kk) ?_
    obtain ⟨n11, h12, h⟩ := Option.bind_eq_some_iff.mp h
    refine cR_aald (cl := 6) (i := l0) (f := 0) (cl' := 11) (i' := 30 * l0 + cpg n11) lk50_64 rfl (by decide) bl0 h12 rfl ?_
    refine cR_getI lk50_65 rf_6_41 rfl (cob_pg (c := σ) bl0 (cix_lt h12)).1 ?_
    refine cR_if (t := 75) lk50_68 (by decide) (fun c13 => ?_) (fun c13 => ?_)
    · rw [if_pos c13] at h
      refine cR_lift (fun _ _ kk => eE_iconst (v := 0) lk50_75 (by decide) kk) ?_
      exact k_Disk_tell_b76_ok hp0 hL hF  g lv σ ((0 : Int32))  _ h
    · rw [if_neg c13] at h
      refine cR_lift (fun _ _ kk => eE_iconst (v := 1) lk50_71 (by decide) kk) ?_
      refine cR_lift (fun _ _ kk => eE_goto (t := 76) lk50_72 (by decide) kk) ?_
      exact k_Disk_tell_b76_ok hp0 hL hF  g lv σ ((1 : Int32))  _ h
  rw [if_neg c10] at h
  refine cR_tswD (t := 77) lk50_1 (xsw_out (n := 4) (fun j hj => ?_)) (by decide) ?_
  · match j, hj with
    | 0, _ => exact c1
    | 1, _ => exact c4
    | 2, _ => exact c7
    | 3, _ => exact c10
    | q + 4, hj => exact absurd hj (by omega)
  refine cR_lift (fun _ _ kk => eE_aload_n lk50_77 g0 kk) ?_
  refine cR_getA lk50_78 rf_6_17 (by decide) bl0 ?_
  refine cR_lift (fun _ _ kk => eE_iload_n lk50_81 g1 kk) ?_
  obtain ⟨n14, h15, h⟩ := Option.bind_eq_some_iff.mp h
  refine cR_aald (cl := 6) (i := l0) (f := 1) (cl' := 11) (i' := 30 * l0 + ckp n14) lk50_82 rfl (by decide) bl0 h15 rfl ?_
  refine cR_getI lk50_83 rf_6_41 rfl (cob_pg (c := σ) bl0 (cix_lt h15)).2 ?_
  refine cR_if (t := 93) lk50_86 (by decide) (fun c16 => ?_) (fun c16 => ?_)
  · rw [if_pos c16] at h
    refine cR_lift (fun _ _ kk => eE_iconst (v := 0) lk50_93 (by decide) kk) ?_
    exact k_Disk_tell_b94_ok hp0 hL hF  g lv σ ((0 : Int32))  _ h
  · rw [if_neg c16] at h
    refine cR_lift (fun _ _ kk => eE_iconst (v := 1) lk50_89 (by decide) kk) ?_
    refine cR_lift (fun _ _ kk => eE_goto (t := 94) lk50_90 (by decide) kk) ?_
    exact k_Disk_tell_b94_ok hp0 hL hF  g lv σ ((1 : Int32))  _ h
def k_Disk_tell (σ : CS) (l0 : Nat) (l1 : Int32) (l2 : Int32) : Option (Int32) := k_Disk_tell_b0 σ l0 l1 l2
theorem k_Disk_tell_ok {E : CE} {pF : Nat → List Value → xH → Option (Option Value × xH)} (hp0 : xNPc pF) (hL : lcAll E pF) (hF : lcF pF) {d : Nat} {g : CG} {σ : CS} {l0 : Nat} {l1 : Int32} {l2 : Int32} {res : Int32} (bl0 : cob σ 6 l0) (h : k_Disk_tell σ l0 l1 l2 = some res) : cCo E cQ1 pF (d + 1) 50 [.ref (coa E 6 l0), .int l1, .int l2] (some (.int res)) σ g σ :=
  cCo_R kk_50 mo_50 ni_50 xm_50 (Nat.le_of_ble_eq_true rfl) (hp0 50 (by decide) _) (k_Disk_tell_b0_ok hp0 hL hF g _ σ l0 l1 l2 bl0 rfl rfl rfl _ h)
/-! k_Disk_writeSlot (52), depth 2 -/
def k_Disk_writeSlot_b24  (σ : CS) (l0 : Nat) (l1 : Int32) (l2 : Int32) : Option (CS) :=
  (cputZ σ 6 l0 7 ((1 : Int32))).bind fun σ1 =>
  (some (csI σ1 6 l0 8 0 ((cI σ1 6 l0 8 0) + ((1 : Int32))))).bind fun σ3 =>
  (cwr σ3 6 l0 2 (cI σ3 6 l0 6 0) ((0 : Int32))).bind fun σ5 =>
  (cix 6 0 (cI σ5 6 l0 6 0)).bind fun n7 =>
  (k_Page_write σ5 (30 * l0 + cpg n7) ((32 : Int32)) (cI σ5 6 l0 8 0) l1 l2).bind fun p9 =>
  some p9
set_option maxRecDepth 4000 in
theorem k_Disk_writeSlot_b24_ok {E : CE} {pF : Nat → List Value → xH → Option (Option Value × xH)} (hp0 : xNPc pF) (hL : lcAll E pF) (hF : lcF pF) {d : Nat}   : ∀ (g : CG) (lv : xL) (σ : CS) (l0 : Nat) (l1 : Int32) (l2 : Int32), (cob σ 6 l0) → (xg lv 0 = some (.ref (coa E 6 l0))) → (xg lv 1 = some (.int l1)) → (xg lv 2 = some (.int l2)) → ∀ res, k_Disk_writeSlot_b24  σ l0 l1 l2 = some res → cR E cQ1 pF (d + 1) kT52 6 3 none none res g σ (24, lv, []) := by
  intro g lv σ l0 l1 l2 bl0 g0 g1 g2 res h
  unfold k_Disk_writeSlot_b24 at h
  refine cR_lift (fun _ _ kk => eE_aload_n lk52_24 g0 kk) ?_
  refine cR_lift (fun _ _ kk => eE_iconst (v := 1) lk52_25 (by decide) kk) ?_
  obtain ⟨σ1, h2, h⟩ := Option.bind_eq_some_iff.mp h
  refine cR_putZ lk52_26 rf_6_45 rfl bl0 pf_6_7 h2 ?_
  refine cR_lift (fun _ _ kk => eE_aload_n lk52_29 g0 kk) ?_
  refine cR_lift (fun _ _ kk => eE_dup lk52_30 rfl kk) ?_
  refine cR_getI lk52_31 rf_6_48 rfl (cob_any rfl bl0) ?_
  refine cR_lift (fun _ _ kk => eE_iconst (v := 1) lk52_34 (by decide) kk) ?_
  refine cR_lift (fun _ _ kk => eE_iadd lk52_35 kk) ?_
  obtain ⟨σ3, h4, h⟩ := Option.bind_eq_some_iff.mp h
  refine cR_putI lk52_36 rf_6_48 rfl (cob_any rfl bl0) pf_6_8 rfl h4 ?_
  refine cR_lift (fun _ _ kk => eE_aload_n lk52_39 g0 kk) ?_
  refine cR_getA lk52_40 rf_6_20 (by decide) (cob_any rfl bl0) ?_
  refine cR_lift (fun _ _ kk => eE_aload_n lk52_43 g0 kk) ?_
  refine cR_getI lk52_44 rf_6_30 rfl (cob_any rfl bl0) ?_
  refine cR_lift (fun _ _ kk => eE_iconst (v := 0) lk52_47 (by decide) kk) ?_
  obtain ⟨σ5, h6, h⟩ := Option.bind_eq_some_iff.mp h
  refine cR_iast (cl := 6) (i := l0) (f := 2) lk52_48 (by decide) rfl (cob_any rfl bl0) h6 ?_
  refine cR_lift (fun _ _ kk => eE_aload_n lk52_49 g0 kk) ?_
  refine cR_getA lk52_50 rf_6_11 (by decide) (cob_any rfl bl0) ?_
  refine cR_lift (fun _ _ kk => eE_aload_n lk52_53 g0 kk) ?_
  refine cR_getI lk52_54 rf_6_30 rfl (cob_any rfl bl0) ?_
  obtain ⟨n7, h8, h⟩ := Option.bind_eq_some_iff.mp h
  refine cR_aald (cl := 6) (i := l0) (f := 0) (cl' := 11) (i' := 30 * l0 + cpg n7) lk52_57 rfl (by decide) (cob_any rfl bl0) h8 rfl ?_
  refine cR_lift (fun _ _ kk => eE_bipush (v := 32) lk52_58 (by decide) kk) ?_
  refine cR_lift (fun _ _ kk => eE_aload_n lk52_60 g0 kk) ?_
  refine cR_getI lk52_61 rf_6_48 rfl (cob_any rfl bl0) ?_
  refine cR_lift (fun _ _ kk => eE_iload_n lk52_64 g1 kk) ?_
  refine cR_lift (fun _ _ kk => eE_iload_n lk52_65 g2 kk) ?_
  obtain ⟨p9, h10, h⟩ := Option.bind_eq_some_iff.mp h
  refine cR_virt (cl := 11) (i := 30 * l0 + cpg n7) (as := [.int ((32 : Int32)), .int (cI σ5 6 l0 8 0), .int l1, .int l2]) lk52_66 mr_6_51 na_114 rfl rfl (by first | exact Nat.le_of_ble_eq_true rfl | (simp [xcat, cvo_cat, cat_i, cat_j, cat_r]; done)) wv_114 wc_114 (cob_pg (c := σ5) (cob_any rfl bl0) (cix_lt h8)).1 (k_Page_write_ok hp0 hL hF (d := d + 0) (cob_pg (c := σ5) (cob_any rfl bl0) (cix_lt h8)).1 h10) (fun m11  => ?_)
  cases h
  exact cR_end lk52_69 rfl rfl rfl
def k_Disk_writeSlot_b21  (σ : CS) (s0 : Nat) (s1 : Int32) (l0 : Nat) (l1 : Int32) (l2 : Int32) : Option (CS) :=
  (some (csI σ 6 s0 6 0 s1)).bind fun σ12 =>
  k_Disk_writeSlot_b24  σ12 l0 l1 l2
set_option maxRecDepth 4000 in
theorem k_Disk_writeSlot_b21_ok {E : CE} {pF : Nat → List Value → xH → Option (Option Value × xH)} (hp0 : xNPc pF) (hL : lcAll E pF) (hF : lcF pF) {d : Nat}   : ∀ (g : CG) (lv : xL) (σ : CS) (s0 : Nat) (s1 : Int32) (l0 : Nat) (l1 : Int32) (l2 : Int32), (cob σ 6 s0) → (cob σ 6 l0) → (xg lv 0 = some (.ref (coa E 6 l0))) → (xg lv 1 = some (.int l1)) → (xg lv 2 = some (.int l2)) → ∀ res, k_Disk_writeSlot_b21  σ s0 s1 l0 l1 l2 = some res → cR E cQ1 pF (d + 1) kT52 6 3 none none res g σ (21, lv, [.int s1, .ref (coa E 6 s0)]) := by
  intro g lv σ s0 s1 l0 l1 l2 bs0 bl0 g0 g1 g2 res h
  unfold k_Disk_writeSlot_b21 at h
  obtain ⟨σ12, h13, h⟩ := Option.bind_eq_some_iff.mp h
  refine cR_putI lk52_21 rf_6_30 rfl bs0 pf_6_6 rfl h13 ?_
  exact k_Disk_writeSlot_b24_ok hp0 hL hF  g lv σ12 l0 l1 l2 (cob_any rfl bl0) g0 g1 g2 _ h
def k_Disk_writeSlot_b0  (σ : CS) (l0 : Nat) (l1 : Int32) (l2 : Int32) : Option (CS) :=
  if xc0 .ne (cI σ 6 l0 7 0) = true then (
    k_Disk_writeSlot_b24  σ l0 l1 l2
  ) else (
    if xc2 .ne (cI σ 6 l0 6 0) ((1 : Int32)) = true then (
      k_Disk_writeSlot_b21  σ l0 ((1 : Int32)) l0 l1 l2
    ) else (
      k_Disk_writeSlot_b21  σ l0 ((0 : Int32)) l0 l1 l2
    )
  )
set_option maxRecDepth 4000 in
theorem k_Disk_writeSlot_b0_ok {E : CE} {pF : Nat → List Value → xH → Option (Option Value × xH)} (hp0 : xNPc pF) (hL : lcAll E pF) (hF : lcF pF) {d : Nat}   : ∀ (g : CG) (lv : xL) (σ : CS) (l0 : Nat) (l1 : Int32) (l2 : Int32), (cob σ 6 l0) → (xg lv 0 = some (.ref (coa E 6 l0))) → (xg lv 1 = some (.int l1)) → (xg lv 2 = some (.int l2)) → ∀ res, k_Disk_writeSlot_b0  σ l0 l1 l2 = some res → cR E cQ1 pF (d + 1) kT52 6 3 none none res g σ (0, lv, []) := by
  intro g lv σ l0 l1 l2 bl0 g0 g1 g2 res h
  unfold k_Disk_writeSlot_b0 at h
  refine cR_lift (fun _ _ kk => eE_aload_n lk52_0 g0 kk) ?_
  refine cR_getI lk52_1 rf_6_45 rfl bl0 ?_
  refine cR_if (t := 24) lk52_4 (by decide) (fun c14 => ?_) (fun c14 => ?_)
  · rw [if_pos c14] at h
    exact k_Disk_writeSlot_b24_ok hp0 hL hF  g lv σ l0 l1 l2 bl0 g0 g1 g2 _ h
  · rw [if_neg c14] at h
    refine cR_lift (fun _ _ kk => eE_aload_n lk52_7 g0 kk) ?_
    refine cR_lift (fun _ _ kk => eE_aload_n lk52_8 g0 kk) ?_
    refine cR_getI lk52_9 rf_6_30 rfl bl0 ?_
    refine cR_lift (fun _ _ kk => eE_iconst (v := 1) lk52_12 (by decide) kk) ?_
    refine cR_icmp (t := 20) lk52_13 (by decide) (fun c15 => ?_) (fun c15 => ?_)
    · rw [if_pos c15] at h
      refine cR_lift (fun _ _ kk => eE_iconst (v := 1) lk52_20 (by decide) kk) ?_
      exact k_Disk_writeSlot_b21_ok hp0 hL hF  g lv σ l0 ((1 : Int32)) l0 l1 l2 bl0 bl0 g0 g1 g2 _ h
    · rw [if_neg c15] at h
      refine cR_lift (fun _ _ kk => eE_iconst (v := 0) lk52_16 (by decide) kk) ?_
      refine cR_lift (fun _ _ kk => eE_goto (t := 21) lk52_17 (by decide) kk) ?_
      exact k_Disk_writeSlot_b21_ok hp0 hL hF  g lv σ l0 ((0 : Int32)) l0 l1 l2 bl0 bl0 g0 g1 g2 _ h
def k_Disk_writeSlot (σ : CS) (l0 : Nat) (l1 : Int32) (l2 : Int32) : Option (CS) := k_Disk_writeSlot_b0 σ l0 l1 l2
theorem k_Disk_writeSlot_ok {E : CE} {pF : Nat → List Value → xH → Option (Option Value × xH)} (hp0 : xNPc pF) (hL : lcAll E pF) (hF : lcF pF) {d : Nat} {g : CG} {σ : CS} {l0 : Nat} {l1 : Int32} {l2 : Int32} {res : CS} (bl0 : cob σ 6 l0) (h : k_Disk_writeSlot σ l0 l1 l2 = some res) : cCo E cQ1 pF (d + 2) 52 [.ref (coa E 6 l0), .int l1, .int l2] none res g σ :=
  cCo_R kk_52 mo_52 ni_52 xm_52 (Nat.le_of_ble_eq_true rfl) (hp0 52 (by decide) _) (k_Disk_writeSlot_b0_ok hp0 hL hF g _ σ l0 l1 l2 bl0 rfl rfl rfl _ h)
/-! k_Lead_begin (54), depth 10 -/
def k_Lead_begin_b52 (F : Nat)  : Nat → CS → Nat → Int32 → Int32 → Option (CS)
  | 0, _, _, _, _ => none
  | n + 1, σ, l0, l1, l3 =>
    let KK := k_Lead_begin_b52 F  n
    if xc2 .ge l3 ((7 : Int32)) = true then (
      (some (csI σ 7 l0 8 0 (l1 + ((1 : Int32))))).bind fun σ2 =>
      (some (csI σ2 7 l0 9 0 ((0 : Int32)))).bind fun σ4 =>
      (some (csI σ4 7 l0 10 0 ((-1 : Int32)))).bind fun σ6 =>
      some σ6
    ) else (
      (cwr σ 7 l0 6 l3 (((1 : Int32)) &&& 1)).bind fun σ8 =>
      (cwr σ8 7 l0 7 l3 (((0 : Int32)) &&& 1)).bind fun σ10 =>
      KK σ10 l0 l1 (l3 + (1 : Int32))
    )
set_option maxRecDepth 4000 in
theorem k_Lead_begin_b52_ok {E : CE} {pF : Nat → List Value → xH → Option (Option Value × xH)} (hp0 : xNPc pF) (hL : lcAll E pF) (hF : lcF pF) {d : Nat} {F : Nat}   : ∀ (n : Nat) (g : CG) (lv : xL) (σ : CS) (l0 : Nat) (l1 : Int32) (l3 : Int32), (cob σ 7 l0) → (xg lv 0 = some (.ref (coa E 7 l0))) → (xg lv 1 = some (.int l1)) → (xg lv 3 = some (.int l3)) → ∀ res, k_Lead_begin_b52 F  n σ l0 l1 l3 = some res → cR E cQ1 pF (d + 9) kT54 7 4 none none res g σ (52, lv, []) := by
  intro n
  induction n with
  | zero => intro g lv σ l0 l1 l3 bl0 g0 g1 g3 res h; simp [k_Lead_begin_b52] at h
  | succ n hKK =>
    intro g lv σ l0 l1 l3 bl0 g0 g1 g3 res h
    unfold k_Lead_begin_b52 at h
    dsimp only at h
    refine cR_lift (fun _ _ kk => eE_iload_n lk54_52 g3 kk) ?_
    refine cR_lift (fun _ _ kk => eE_bipush (v := 7) lk54_53 (by decide) kk) ?_
    refine cR_icmp (t := 78) lk54_55 (by decide) (fun c1 => ?_) (fun c1 => ?_)
    · rw [if_pos c1] at h
      refine cR_lift (fun _ _ kk => eE_aload_n lk54_78 g0 kk) ?_
      refine cR_lift (fun _ _ kk => eE_iload_n lk54_79 g1 kk) ?_
      refine cR_lift (fun _ _ kk => eE_iconst (v := 1) lk54_80 (by decide) kk) ?_
      refine cR_lift (fun _ _ kk => eE_iadd lk54_81 kk) ?_
      obtain ⟨σ2, h3, h⟩ := Option.bind_eq_some_iff.mp h
      refine cR_putI lk54_82 rf_7_47 rfl bl0 pf_7_8 rfl h3 ?_
      refine cR_lift (fun _ _ kk => eE_aload_n lk54_85 g0 kk) ?_
      refine cR_lift (fun _ _ kk => eE_iconst (v := 0) lk54_86 (by decide) kk) ?_
      obtain ⟨σ4, h5, h⟩ := Option.bind_eq_some_iff.mp h
      refine cR_putI lk54_87 rf_7_50 rfl (cob_any rfl bl0) pf_7_9 rfl h5 ?_
      refine cR_lift (fun _ _ kk => eE_aload_n lk54_90 g0 kk) ?_
      refine cR_lift (fun _ _ kk => eE_iconst (v := (-1)) lk54_91 (by decide) kk) ?_
      obtain ⟨σ6, h7, h⟩ := Option.bind_eq_some_iff.mp h
      refine cR_putI lk54_92 rf_7_37 rfl (cob_any rfl bl0) pf_7_10 rfl h7 ?_
      cases h
      exact cR_end lk54_95 rfl rfl rfl
    · rw [if_neg c1] at h
      refine cR_lift (fun _ _ kk => eE_aload_n lk54_58 g0 kk) ?_
      refine cR_getA lk54_59 rf_7_30 (by decide) bl0 ?_
      refine cR_lift (fun _ _ kk => eE_iload_n lk54_62 g3 kk) ?_
      refine cR_lift (fun _ _ kk => eE_iconst (v := 1) lk54_63 (by decide) kk) ?_
      obtain ⟨σ8, h9, h⟩ := Option.bind_eq_some_iff.mp h
      refine cR_zast (cl := 7) (i := l0) (f := 6) lk54_64 (by decide) rfl rfl bl0 h9 ?_
      refine cR_lift (fun _ _ kk => eE_aload_n lk54_65 g0 kk) ?_
      refine cR_getA lk54_66 rf_7_34 (by decide) (cob_any rfl bl0) ?_
      refine cR_lift (fun _ _ kk => eE_iload_n lk54_69 g3 kk) ?_
      refine cR_lift (fun _ _ kk => eE_iconst (v := 0) lk54_70 (by decide) kk) ?_
      obtain ⟨σ10, h11, h⟩ := Option.bind_eq_some_iff.mp h
      refine cR_zast (cl := 7) (i := l0) (f := 7) lk54_71 (by decide) rfl rfl (cob_any rfl bl0) h11 ?_
      refine cR_inc (j := 3) (v := l3 + (1 : Int32)) lk54_72 g3 rfl (by decide) (fun vq12 gq13 kq14 => ?_)
      have gq15 := kq14 0 _ (by decide) (fun e => absurd e (by decide)) g0
      have gq16 := kq14 1 _ (by decide) (fun e => absurd e (by decide)) g1
      refine cR_lift (fun _ _ kk => eE_goto (t := 52) lk54_75 (by decide) kk) ?_
      exact hKK g vq12 σ10 l0 l1 (l3 + (1 : Int32)) (cob_any rfl bl0) gq15 gq16 gq13 _ h
def k_Lead_begin_b0 (F : Nat)  (σ : CS) (l0 : Nat) (l1 : Int32) (l2 : Int32) : Option (CS) :=
  (some (csfill σ 7 l0 0 (l1 + ((1 : Int32))))).bind fun σ17 =>
  (some (csfill σ17 7 l0 1 ((0 : Int32)))).bind fun σ19 =>
  (some (csfill σ19 7 l0 2 ((0 : Int32)))).bind fun σ21 =>
  (some (csfill σ21 7 l0 3 ((0 : Int32)))).bind fun σ23 =>
  (some (csfill σ23 7 l0 4 ((0 : Int32)))).bind fun σ25 =>
  (some (csfill σ25 7 l0 5 l2)).bind fun σ27 =>
  k_Lead_begin_b52 F  F σ27 l0 l1 ((0 : Int32))
set_option maxRecDepth 4000 in
theorem k_Lead_begin_b0_ok {E : CE} {pF : Nat → List Value → xH → Option (Option Value × xH)} (hp0 : xNPc pF) (hL : lcAll E pF) (hF : lcF pF) {d : Nat} {F : Nat}   : ∀ (g : CG) (lv : xL) (σ : CS) (l0 : Nat) (l1 : Int32) (l2 : Int32), (cob σ 7 l0) → (xg lv 0 = some (.ref (coa E 7 l0))) → (xg lv 1 = some (.int l1)) → (xg lv 2 = some (.int l2)) → ∀ res, k_Lead_begin_b0 F  σ l0 l1 l2 = some res → cR E cQ1 pF (d + 9) kT54 7 4 none none res g σ (0, lv, []) := by
  intro g lv σ l0 l1 l2 bl0 g0 g1 g2 res h
  unfold k_Lead_begin_b0 at h
  refine cR_lift (fun _ _ kk => eE_aload_n lk54_0 g0 kk) ?_
  refine cR_getA lk54_1 rf_7_9 (by decide) bl0 ?_
  refine cR_lift (fun _ _ kk => eE_iload_n lk54_4 g1 kk) ?_
  refine cR_lift (fun _ _ kk => eE_iconst (v := 1) lk54_5 (by decide) kk) ?_
  refine cR_lift (fun _ _ kk => eE_iadd lk54_6 kk) ?_
  obtain ⟨σ17, h18, h⟩ := Option.bind_eq_some_iff.mp h
  refine cR_stat (as := [.ref (caa E 7 l0 0), .int (l1 + ((1 : Int32)))]) lk54_7 mr_7_41 na_393 rfl rfl (by first | exact Nat.le_of_ble_eq_true rfl | (simp [xcat, cvo_cat, cat_i, cat_j, cat_r]; done)) mm_393 ws_393 ((hF (d + 0)).1 E g _ _ 7 l0 0 (l1 + ((1 : Int32))) (by decide) rfl bl0 h18) (fun _ => ?_)
  refine cR_lift (fun _ _ kk => eE_aload_n lk54_10 g0 kk) ?_
  refine cR_getA lk54_11 rf_7_15 (by decide) (cob_any rfl bl0) ?_
  refine cR_lift (fun _ _ kk => eE_iconst (v := 0) lk54_14 (by decide) kk) ?_
  obtain ⟨σ19, h20, h⟩ := Option.bind_eq_some_iff.mp h
  refine cR_stat (as := [.ref (caa E 7 l0 1), .int ((0 : Int32))]) lk54_15 mr_7_41 na_393 rfl rfl (by first | exact Nat.le_of_ble_eq_true rfl | (simp [xcat, cvo_cat, cat_i, cat_j, cat_r]; done)) mm_393 ws_393 ((hF (d + 0)).1 E g _ _ 7 l0 1 ((0 : Int32)) (by decide) rfl (cob_any rfl bl0) h20) (fun _ => ?_)
  refine cR_lift (fun _ _ kk => eE_aload_n lk54_18 g0 kk) ?_
  refine cR_getA lk54_19 rf_7_18 (by decide) (cob_any rfl bl0) ?_
  refine cR_lift (fun _ _ kk => eE_iconst (v := 0) lk54_22 (by decide) kk) ?_
  obtain ⟨σ21, h22, h⟩ := Option.bind_eq_some_iff.mp h
  refine cR_stat (as := [.ref (caa E 7 l0 2), .int ((0 : Int32))]) lk54_23 mr_7_41 na_393 rfl rfl (by first | exact Nat.le_of_ble_eq_true rfl | (simp [xcat, cvo_cat, cat_i, cat_j, cat_r]; done)) mm_393 ws_393 ((hF (d + 0)).1 E g _ _ 7 l0 2 ((0 : Int32)) (by decide) rfl (cob_any rfl bl0) h22) (fun _ => ?_)
  refine cR_lift (fun _ _ kk => eE_aload_n lk54_26 g0 kk) ?_
  refine cR_getA lk54_27 rf_7_21 (by decide) (cob_any rfl bl0) ?_
  refine cR_lift (fun _ _ kk => eE_iconst (v := 0) lk54_30 (by decide) kk) ?_
  obtain ⟨σ23, h24, h⟩ := Option.bind_eq_some_iff.mp h
  refine cR_stat (as := [.ref (caa E 7 l0 3), .int ((0 : Int32))]) lk54_31 mr_7_41 na_393 rfl rfl (by first | exact Nat.le_of_ble_eq_true rfl | (simp [xcat, cvo_cat, cat_i, cat_j, cat_r]; done)) mm_393 ws_393 ((hF (d + 0)).1 E g _ _ 7 l0 3 ((0 : Int32)) (by decide) rfl (cob_any rfl bl0) h24) (fun _ => ?_)
  refine cR_lift (fun _ _ kk => eE_aload_n lk54_34 g0 kk) ?_
  refine cR_getA lk54_35 rf_7_24 (by decide) (cob_any rfl bl0) ?_
  refine cR_lift (fun _ _ kk => eE_iconst (v := 0) lk54_38 (by decide) kk) ?_
  obtain ⟨σ25, h26, h⟩ := Option.bind_eq_some_iff.mp h
  refine cR_stat (as := [.ref (caa E 7 l0 4), .int ((0 : Int32))]) lk54_39 mr_7_41 na_393 rfl rfl (by first | exact Nat.le_of_ble_eq_true rfl | (simp [xcat, cvo_cat, cat_i, cat_j, cat_r]; done)) mm_393 ws_393 ((hF (d + 0)).1 E g _ _ 7 l0 4 ((0 : Int32)) (by decide) rfl (cob_any rfl bl0) h26) (fun _ => ?_)
  refine cR_lift (fun _ _ kk => eE_aload_n lk54_42 g0 kk) ?_
  refine cR_getA lk54_43 rf_7_27 (by decide) (cob_any rfl bl0) ?_
  refine cR_lift (fun _ _ kk => eE_iload_n lk54_46 g2 kk) ?_
  obtain ⟨σ27, h28, h⟩ := Option.bind_eq_some_iff.mp h
  refine cR_stat (as := [.ref (caa E 7 l0 5), .int l2]) lk54_47 mr_7_41 na_393 rfl rfl (by first | exact Nat.le_of_ble_eq_true rfl | (simp [xcat, cvo_cat, cat_i, cat_j, cat_r]; done)) mm_393 ws_393 ((hF (d + 0)).1 E g _ _ 7 l0 5 l2 (by decide) rfl (cob_any rfl bl0) h28) (fun _ => ?_)
  refine cR_lift (fun _ _ kk => eE_iconst (v := 0) lk54_50 (by decide) kk) ?_
  refine cR_stI (j := 3) lk54_51 (Or.inr ⟨_, rfl, rfl⟩) (by decide) (fun vq29 gq30 kq31 => ?_)
  have gq32 := kq31 0 _ (by decide) (fun e => absurd e (by decide)) g0
  have gq33 := kq31 1 _ (by decide) (fun e => absurd e (by decide)) g1
  exact k_Lead_begin_b52_ok hp0 hL hF  F g vq29 σ27 l0 l1 ((0 : Int32)) (cob_any rfl bl0) gq32 gq33 gq30 _ h
def k_Lead_begin (F : Nat) (σ : CS) (l0 : Nat) (l1 : Int32) (l2 : Int32) : Option (CS) := k_Lead_begin_b0 F σ l0 l1 l2
theorem k_Lead_begin_ok {E : CE} {pF : Nat → List Value → xH → Option (Option Value × xH)} (hp0 : xNPc pF) (hL : lcAll E pF) (hF : lcF pF) {d : Nat} {g : CG} {σ : CS} {F : Nat} {l0 : Nat} {l1 : Int32} {l2 : Int32} {res : CS} (bl0 : cob σ 7 l0) (h : k_Lead_begin F σ l0 l1 l2 = some res) : cCo E cQ1 pF (d + 10) 54 [.ref (coa E 7 l0), .int l1, .int l2] none res g σ :=
  cCo_R kk_54 mo_54 ni_54 xm_54 (Nat.le_of_ble_eq_true rfl) (hp0 54 (by decide) _) (k_Lead_begin_b0_ok hp0 hL hF g _ σ l0 l1 l2 bl0 rfl rfl rfl _ h)
/-! k_Log_at (63), depth 1 -/
def k_Log_at_b0  (σ : CS) (l0 : Nat) (l1 : Int32) : Option (Int32) :=
  some (((l1 - (cI σ 9 l0 3 0)) - ((1 : Int32))) * ((6 : Int32)))
set_option maxRecDepth 4000 in
theorem k_Log_at_b0_ok {E : CE} {pF : Nat → List Value → xH → Option (Option Value × xH)} (hp0 : xNPc pF) (hL : lcAll E pF) (hF : lcF pF) {d : Nat}   : ∀ (g : CG) (lv : xL) (σ : CS) (l0 : Nat) (l1 : Int32), (cob σ 9 l0) → (xg lv 0 = some (.ref (coa E 9 l0))) → (xg lv 1 = some (.int l1)) → ∀ res, k_Log_at_b0  σ l0 l1 = some res → cR E cQ1 pF (d + 0) kT63 9 2 (some FieldType.int) (some (.int res)) σ g σ (0, lv, []) := by
  intro g lv σ l0 l1 bl0 g0 g1 res h
  unfold k_Log_at_b0 at h
  refine cR_lift (fun _ _ kk => eE_iload_n lk63_0 g1 kk) ?_
  refine cR_lift (fun _ _ kk => eE_aload_n lk63_1 g0 kk) ?_
  refine cR_getI lk63_2 rf_9_28 rfl bl0 ?_
  refine cR_lift (fun _ _ kk => eE_isub lk63_5 kk) ?_
  refine cR_lift (fun _ _ kk => eE_iconst (v := 1) lk63_6 (by decide) kk) ?_
  refine cR_lift (fun _ _ kk => eE_isub lk63_7 kk) ?_
  refine cR_lift (fun _ _ kk => eE_bipush (v := 6) lk63_8 (by decide) kk) ?_
  refine cR_lift (fun _ _ kk => eE_imul lk63_10 kk) ?_
  cases h
  exact cR_end lk63_11 rfl rfl rfl
def k_Log_at (σ : CS) (l0 : Nat) (l1 : Int32) : Option (Int32) := k_Log_at_b0 σ l0 l1
theorem k_Log_at_ok {E : CE} {pF : Nat → List Value → xH → Option (Option Value × xH)} (hp0 : xNPc pF) (hL : lcAll E pF) (hF : lcF pF) {d : Nat} {g : CG} {σ : CS} {l0 : Nat} {l1 : Int32} {res : Int32} (bl0 : cob σ 9 l0) (h : k_Log_at σ l0 l1 = some res) : cCo E cQ1 pF (d + 1) 63 [.ref (coa E 9 l0), .int l1] (some (.int res)) σ g σ :=
  cCo_R kk_63 mo_63 ni_63 xm_63 (Nat.le_of_ble_eq_true rfl) (hp0 63 (by decide) _) (k_Log_at_b0_ok hp0 hL hF g _ σ l0 l1 bl0 rfl rfl _ h)
/-! k_Log_membersBehind (70), depth 1 -/
def k_Log_membersBehind_b41 (F : Nat)  (σ : CS) (l0 : Nat) (l2 : Int32) : Option (Int32) :=
  some (((cI σ 9 l0 3 0) + ((1 : Int32))) + (cmax ((-1 : Int32)) l2))
set_option maxRecDepth 4000 in
theorem k_Log_membersBehind_b41_ok {E : CE} {pF : Nat → List Value → xH → Option (Option Value × xH)} (hp0 : xNPc pF) (hL : lcAll E pF) (hF : lcF pF) {d : Nat} {F : Nat}   : ∀ (g : CG) (lv : xL) (σ : CS) (l0 : Nat) (l2 : Int32), (cob σ 9 l0) → (xg lv 0 = some (.ref (coa E 9 l0))) → (xg lv 2 = some (.int l2)) → ∀ res, k_Log_membersBehind_b41 F  σ l0 l2 = some res → cR E cQ1 pF (d + 0) kT70 9 3 (some FieldType.int) (some (.int res)) σ g σ (41, lv, []) := by
  intro g lv σ l0 l2 bl0 g0 g2 res h
  unfold k_Log_membersBehind_b41 at h
  refine cR_lift (fun _ _ kk => eE_aload_n lk70_41 g0 kk) ?_
  refine cR_getI lk70_42 rf_9_28 rfl bl0 ?_
  refine cR_lift (fun _ _ kk => eE_iconst (v := 1) lk70_45 (by decide) kk) ?_
  refine cR_lift (fun _ _ kk => eE_iadd lk70_46 kk) ?_
  refine cR_lift (fun _ _ kk => eE_iconst (v := (-1)) lk70_47 (by decide) kk) ?_
  refine cR_lift (fun _ _ kk => eE_iload_n lk70_48 g2 kk) ?_
  refine cR_max lk70_49 mr_9_48 (by first | exact Nat.le_of_ble_eq_true rfl | (simp [xcat, cvo_cat, cat_i, cat_j, cat_r]; done)) ?_
  refine cR_lift (fun _ _ kk => eE_iadd lk70_52 kk) ?_
  cases h
  exact cR_end lk70_53 rfl rfl rfl
def k_Log_membersBehind_b16 (F : Nat)  : Nat → CS → Nat → Int32 → Option (Int32)
  | 0, _, _, _ => none
  | n + 1, σ, l0, l2 =>
    let KK := k_Log_membersBehind_b16 F  n
    if xc0 .lt l2 = true then (
      k_Log_membersBehind_b41 F  σ l0 l2
    ) else (
      (crd σ 9 l0 1 ((l2 * ((6 : Int32))) + ((1 : Int32)))).bind fun x2 =>
      if xc2 .eq x2 ((1 : Int32)) = true then (
        k_Log_membersBehind_b41 F  σ l0 l2
      ) else (
        KK σ l0 (l2 + (-1 : Int32))
      )
    )
set_option maxRecDepth 4000 in
theorem k_Log_membersBehind_b16_ok {E : CE} {pF : Nat → List Value → xH → Option (Option Value × xH)} (hp0 : xNPc pF) (hL : lcAll E pF) (hF : lcF pF) {d : Nat} {F : Nat}   : ∀ (n : Nat) (g : CG) (lv : xL) (σ : CS) (l0 : Nat) (l2 : Int32), (cob σ 9 l0) → (xg lv 0 = some (.ref (coa E 9 l0))) → (xg lv 2 = some (.int l2)) → ∀ res, k_Log_membersBehind_b16 F  n σ l0 l2 = some res → cR E cQ1 pF (d + 0) kT70 9 3 (some FieldType.int) (some (.int res)) σ g σ (16, lv, []) := by
  intro n
  induction n with
  | zero => intro g lv σ l0 l2 bl0 g0 g2 res h; simp [k_Log_membersBehind_b16] at h
  | succ n hKK =>
    intro g lv σ l0 l2 bl0 g0 g2 res h
    unfold k_Log_membersBehind_b16 at h
    dsimp only at h
    refine cR_lift (fun _ _ kk => eE_iload_n lk70_16 g2 kk) ?_
    refine cR_if (t := 41) lk70_17 (by decide) (fun c1 => ?_) (fun c1 => ?_)
    · rw [if_pos c1] at h
      exact k_Log_membersBehind_b41_ok hp0 hL hF  g lv σ l0 l2 bl0 g0 g2 _ h
    · rw [if_neg c1] at h
      refine cR_lift (fun _ _ kk => eE_aload_n lk70_20 g0 kk) ?_
      refine cR_getA lk70_21 rf_9_9 (by decide) bl0 ?_
      refine cR_lift (fun _ _ kk => eE_iload_n lk70_24 g2 kk) ?_
      refine cR_lift (fun _ _ kk => eE_bipush (v := 6) lk70_25 (by decide) kk) ?_
      refine cR_lift (fun _ _ kk => eE_imul lk70_27 kk) ?_
      refine cR_lift (fun _ _ kk => eE_iconst (v := 1) lk70_28 (by decide) kk) ?_
      refine cR_lift (fun _ _ kk => eE_iadd lk70_29 kk) ?_
      obtain ⟨x2, h3, h⟩ := Option.bind_eq_some_iff.mp h
      refine cR_iald (cl := 9) (i := l0) (f := 1) lk70_30 (by decide) rfl bl0 h3 ?_
      refine cR_lift (fun _ _ kk => eE_iconst (v := 1) lk70_31 (by decide) kk) ?_
      refine cR_icmp (t := 41) lk70_32 (by decide) (fun c4 => ?_) (fun c4 => ?_)
      · rw [if_pos c4] at h
        exact k_Log_membersBehind_b41_ok hp0 hL hF  g lv σ l0 l2 bl0 g0 g2 _ h
      · rw [if_neg c4] at h
        refine cR_inc (j := 2) (v := l2 + (-1 : Int32)) lk70_35 g2 rfl (by decide) (fun vq5 gq6 kq7 => ?_)
        have gq8 := kq7 0 _ (by decide) (fun e => absurd e (by decide)) g0
        refine cR_lift (fun _ _ kk => eE_goto (t := 16) lk70_38 (by decide) kk) ?_
        exact hKK g vq5 σ l0 (l2 + (-1 : Int32)) bl0 gq8 gq6 _ h
def k_Log_membersBehind_b0 (F : Nat)  (σ : CS) (l0 : Nat) (l1 : Int32) : Option (Int32) :=
  k_Log_membersBehind_b16 F  F σ l0 (((cmin l1 (cI σ 9 l0 6 0)) - (cI σ 9 l0 3 0)) - ((1 : Int32)))
set_option maxRecDepth 4000 in
theorem k_Log_membersBehind_b0_ok {E : CE} {pF : Nat → List Value → xH → Option (Option Value × xH)} (hp0 : xNPc pF) (hL : lcAll E pF) (hF : lcF pF) {d : Nat} {F : Nat}   : ∀ (g : CG) (lv : xL) (σ : CS) (l0 : Nat) (l1 : Int32), (cob σ 9 l0) → (xg lv 0 = some (.ref (coa E 9 l0))) → (xg lv 1 = some (.int l1)) → ∀ res, k_Log_membersBehind_b0 F  σ l0 l1 = some res → cR E cQ1 pF (d + 0) kT70 9 3 (some FieldType.int) (some (.int res)) σ g σ (0, lv, []) := by
  intro g lv σ l0 l1 bl0 g0 g1 res h
  unfold k_Log_membersBehind_b0 at h
  refine cR_lift (fun _ _ kk => eE_iload_n lk70_0 g1 kk) ?_
  refine cR_lift (fun _ _ kk => eE_aload_n lk70_1 g0 kk) ?_
  refine cR_getI lk70_2 rf_9_34 rfl bl0 ?_
  refine cR_min lk70_5 mr_9_70 (by first | exact Nat.le_of_ble_eq_true rfl | (simp [xcat, cvo_cat, cat_i, cat_j, cat_r]; done)) ?_
  refine cR_lift (fun _ _ kk => eE_aload_n lk70_8 g0 kk) ?_
  refine cR_getI lk70_9 rf_9_28 rfl bl0 ?_
  refine cR_lift (fun _ _ kk => eE_isub lk70_12 kk) ?_
  refine cR_lift (fun _ _ kk => eE_iconst (v := 1) lk70_13 (by decide) kk) ?_
  refine cR_lift (fun _ _ kk => eE_isub lk70_14 kk) ?_
  refine cR_stI (j := 2) lk70_15 (Or.inr ⟨_, rfl, rfl⟩) (by decide) (fun vq9 gq10 kq11 => ?_)
  have gq12 := kq11 0 _ (by decide) (fun e => absurd e (by decide)) g0
  exact k_Log_membersBehind_b16_ok hp0 hL hF  F g vq9 σ l0 (((cmin l1 (cI σ 9 l0 6 0)) - (cI σ 9 l0 3 0)) - ((1 : Int32))) bl0 gq12 gq10 _ h
def k_Log_membersBehind (F : Nat) (σ : CS) (l0 : Nat) (l1 : Int32) : Option (Int32) := k_Log_membersBehind_b0 F σ l0 l1
theorem k_Log_membersBehind_ok {E : CE} {pF : Nat → List Value → xH → Option (Option Value × xH)} (hp0 : xNPc pF) (hL : lcAll E pF) (hF : lcF pF) {d : Nat} {g : CG} {σ : CS} {F : Nat} {l0 : Nat} {l1 : Int32} {res : Int32} (bl0 : cob σ 9 l0) (h : k_Log_membersBehind F σ l0 l1 = some res) : cCo E cQ1 pF (d + 1) 70 [.ref (coa E 9 l0), .int l1] (some (.int res)) σ g σ :=
  cCo_R kk_70 mo_70 ni_70 xm_70 (Nat.le_of_ble_eq_true rfl) (hp0 70 (by decide) _) (k_Log_membersBehind_b0_ok hp0 hL hF g _ σ l0 l1 bl0 rfl rfl _ h)
/-! k_Log_findMembers (66), depth 2 -/
def k_Log_findMembers_b46 (F : Nat)  (σ : CS) (s0 : Nat) (s1 : Int32) : Option (CS) :=
  (some (csI σ 9 s0 7 0 s1)).bind fun σ1 =>
  some σ1
set_option maxRecDepth 4000 in
theorem k_Log_findMembers_b46_ok {E : CE} {pF : Nat → List Value → xH → Option (Option Value × xH)} (hp0 : xNPc pF) (hL : lcAll E pF) (hF : lcF pF) {d : Nat} {F : Nat}   : ∀ (g : CG) (lv : xL) (σ : CS) (s0 : Nat) (s1 : Int32), (cob σ 9 s0) → ∀ res, k_Log_findMembers_b46 F  σ s0 s1 = some res → cR E cQ1 pF (d + 1) kT66 9 1 none none res g σ (46, lv, [.int s1, .ref (coa E 9 s0)]) := by
  intro g lv σ s0 s1 bs0 res h
  unfold k_Log_findMembers_b46 at h
  obtain ⟨σ1, h2, h⟩ := Option.bind_eq_some_iff.mp h
  refine cR_putI lk66_46 rf_9_25 rfl bs0 pf_9_7 rfl h2 ?_
  cases h
  exact cR_end lk66_49 rfl rfl rfl
def k_Log_findMembers_b0 (F : Nat)  (σ : CS) (l0 : Nat) : Option (CS) :=
  (k_Log_membersBehind F σ l0 (cI σ 9 l0 6 0)).bind fun p3 =>
  (some (csI σ 9 l0 8 0 p3)).bind fun σ6 =>
  if xc2 .ne (cI σ6 9 l0 8 0) (cI σ6 9 l0 3 0) = true then (
    (k_Log_at σ6 l0 (cI σ6 9 l0 8 0)).bind fun p9 =>
    (crd σ6 9 l0 1 (p9 + ((3 : Int32)))).bind fun x12 =>
    k_Log_findMembers_b46 F  σ6 l0 x12
  ) else (
    k_Log_findMembers_b46 F  σ6 l0 (cI σ6 9 l0 5 0)
  )
set_option maxRecDepth 4000 in
theorem k_Log_findMembers_b0_ok {E : CE} {pF : Nat → List Value → xH → Option (Option Value × xH)} (hp0 : xNPc pF) (hL : lcAll E pF) (hF : lcF pF) {d : Nat} {F : Nat}   : ∀ (g : CG) (lv : xL) (σ : CS) (l0 : Nat), (cob σ 9 l0) → (xg lv 0 = some (.ref (coa E 9 l0))) → ∀ res, k_Log_findMembers_b0 F  σ l0 = some res → cR E cQ1 pF (d + 1) kT66 9 1 none none res g σ (0, lv, []) := by
  intro g lv σ l0 bl0 g0 res h
  unfold k_Log_findMembers_b0 at h
  refine cR_lift (fun _ _ kk => eE_aload_n lk66_0 g0 kk) ?_
  refine cR_lift (fun _ _ kk => eE_aload_n lk66_1 g0 kk) ?_
  refine cR_lift (fun _ _ kk => eE_aload_n lk66_2 g0 kk) ?_
  refine cR_getI lk66_3 rf_9_34 rfl bl0 ?_
  obtain ⟨p3, h4, h⟩ := Option.bind_eq_some_iff.mp h
  refine cR_virt (cl := 9) (i := l0) (as := [.int (cI σ 9 l0 6 0)]) lk66_6 mr_9_76 na_70 rfl rfl (by first | exact Nat.le_of_ble_eq_true rfl | (simp [xcat, cvo_cat, cat_i, cat_j, cat_r]; done)) wv_70 wc_70 bl0 (k_Log_membersBehind_ok hp0 hL hF (d := d + 0) bl0 h4) (fun m5  => ?_)
  obtain ⟨σ6, h7, h⟩ := Option.bind_eq_some_iff.mp h
  refine cR_putI lk66_9 rf_9_67 rfl bl0 pf_9_8 rfl h7 ?_
  refine cR_lift (fun _ _ kk => eE_aload_n lk66_12 g0 kk) ?_
  refine cR_lift (fun _ _ kk => eE_aload_n lk66_13 g0 kk) ?_
  refine cR_getI lk66_14 rf_9_67 rfl (cob_any rfl bl0) ?_
  refine cR_lift (fun _ _ kk => eE_aload_n lk66_17 g0 kk) ?_
  refine cR_getI lk66_18 rf_9_28 rfl (cob_any rfl bl0) ?_
  refine cR_icmp (t := 31) lk66_21 (by decide) (fun c8 => ?_) (fun c8 => ?_)
  · rw [if_pos c8] at h
    refine cR_lift (fun _ _ kk => eE_aload_n lk66_31 g0 kk) ?_
    refine cR_getA lk66_32 rf_9_9 (by decide) (cob_any rfl bl0) ?_
    refine cR_lift (fun _ _ kk => eE_aload_n lk66_35 g0 kk) ?_
    refine cR_lift (fun _ _ kk => eE_aload_n lk66_36 g0 kk) ?_
    refine cR_getI lk66_37 rf_9_67 rfl (cob_any rfl bl0) ?_
    obtain ⟨p9, h10, h⟩ := Option.bind_eq_some_iff.mp h
    refine cR_virt (cl := 9) (i := l0) (as := [.int (cI σ6 9 l0 8 0)]) lk66_40 mr_9_44 na_63 rfl rfl (by first | exact Nat.le_of_ble_eq_true rfl | (simp [xcat, cvo_cat, cat_i, cat_j, cat_r]; done)) wv_63 wc_63 (cob_any rfl bl0) (k_Log_at_ok hp0 hL hF (d := d + 0) (cob_any rfl bl0) h10) (fun m11  => ?_)
    refine cR_lift (fun _ _ kk => eE_iconst (v := 3) lk66_43 (by decide) kk) ?_
    refine cR_lift (fun _ _ kk => eE_iadd lk66_44 kk) ?_
    obtain ⟨x12, h13, h⟩ := Option.bind_eq_some_iff.mp h
    refine cR_iald (cl := 9) (i := l0) (f := 1) lk66_45 (by decide) rfl (cob_any rfl bl0) h13 ?_
    exact k_Log_findMembers_b46_ok hp0 hL hF  g lv σ6 l0 x12 (cob_any rfl bl0) _ h
  · rw [if_neg c8] at h
    refine cR_lift (fun _ _ kk => eE_aload_n lk66_24 g0 kk) ?_
    refine cR_getI lk66_25 rf_9_22 rfl (cob_any rfl bl0) ?_
    refine cR_lift (fun _ _ kk => eE_goto (t := 46) lk66_28 (by decide) kk) ?_
    exact k_Log_findMembers_b46_ok hp0 hL hF  g lv σ6 l0 (cI σ6 9 l0 5 0) (cob_any rfl bl0) _ h
def k_Log_findMembers (F : Nat) (σ : CS) (l0 : Nat) : Option (CS) := k_Log_findMembers_b0 F σ l0
theorem k_Log_findMembers_ok {E : CE} {pF : Nat → List Value → xH → Option (Option Value × xH)} (hp0 : xNPc pF) (hL : lcAll E pF) (hF : lcF pF) {d : Nat} {g : CG} {σ : CS} {F : Nat} {l0 : Nat} {res : CS} (bl0 : cob σ 9 l0) (h : k_Log_findMembers F σ l0 = some res) : cCo E cQ1 pF (d + 2) 66 [.ref (coa E 9 l0)] none res g σ :=
  cCo_R kk_66 mo_66 ni_66 xm_66 (Nat.le_of_ble_eq_true rfl) (hp0 66 (by decide) _) (k_Log_findMembers_b0_ok hp0 hL hF g _ σ l0 bl0 rfl _ h)
/-! k_Log_clear (64), depth 3 -/
def k_Log_clear_b0 (F : Nat)  (σ : CS) (l0 : Nat) : Option (CS) :=
  (some (csI σ 9 l0 3 0 ((0 : Int32)))).bind fun σ1 =>
  (some (csI σ1 9 l0 4 0 ((0 : Int32)))).bind fun σ3 =>
  (some (csI σ3 9 l0 5 0 (cI σ3 9 l0 0 0))).bind fun σ5 =>
  (some (csI σ5 9 l0 6 0 ((0 : Int32)))).bind fun σ7 =>
  (k_Log_findMembers F σ7 l0).bind fun p9 =>
  some p9
set_option maxRecDepth 4000 in
theorem k_Log_clear_b0_ok {E : CE} {pF : Nat → List Value → xH → Option (Option Value × xH)} (hp0 : xNPc pF) (hL : lcAll E pF) (hF : lcF pF) {d : Nat} {F : Nat}   : ∀ (g : CG) (lv : xL) (σ : CS) (l0 : Nat), (cob σ 9 l0) → (xg lv 0 = some (.ref (coa E 9 l0))) → ∀ res, k_Log_clear_b0 F  σ l0 = some res → cR E cQ1 pF (d + 2) kT64 9 1 none none res g σ (0, lv, []) := by
  intro g lv σ l0 bl0 g0 res h
  unfold k_Log_clear_b0 at h
  refine cR_lift (fun _ _ kk => eE_aload_n lk64_0 g0 kk) ?_
  refine cR_lift (fun _ _ kk => eE_iconst (v := 0) lk64_1 (by decide) kk) ?_
  obtain ⟨σ1, h2, h⟩ := Option.bind_eq_some_iff.mp h
  refine cR_putI lk64_2 rf_9_28 rfl bl0 pf_9_3 rfl h2 ?_
  refine cR_lift (fun _ _ kk => eE_aload_n lk64_5 g0 kk) ?_
  refine cR_lift (fun _ _ kk => eE_iconst (v := 0) lk64_6 (by decide) kk) ?_
  obtain ⟨σ3, h4, h⟩ := Option.bind_eq_some_iff.mp h
  refine cR_putI lk64_7 rf_9_31 rfl (cob_any rfl bl0) pf_9_4 rfl h4 ?_
  refine cR_lift (fun _ _ kk => eE_aload_n lk64_10 g0 kk) ?_
  refine cR_lift (fun _ _ kk => eE_aload_n lk64_11 g0 kk) ?_
  refine cR_getI lk64_12 rf_9_18 rfl (cob_any rfl bl0) ?_
  obtain ⟨σ5, h6, h⟩ := Option.bind_eq_some_iff.mp h
  refine cR_putI lk64_15 rf_9_22 rfl (cob_any rfl bl0) pf_9_5 rfl h6 ?_
  refine cR_lift (fun _ _ kk => eE_aload_n lk64_18 g0 kk) ?_
  refine cR_lift (fun _ _ kk => eE_iconst (v := 0) lk64_19 (by decide) kk) ?_
  obtain ⟨σ7, h8, h⟩ := Option.bind_eq_some_iff.mp h
  refine cR_putI lk64_20 rf_9_34 rfl (cob_any rfl bl0) pf_9_6 rfl h8 ?_
  refine cR_lift (fun _ _ kk => eE_aload_n lk64_23 g0 kk) ?_
  obtain ⟨p9, h10, h⟩ := Option.bind_eq_some_iff.mp h
  refine cR_virt (cl := 9) (i := l0) (as := []) lk64_24 mr_9_37 na_66 rfl rfl (by first | exact Nat.le_of_ble_eq_true rfl | (simp [xcat, cvo_cat, cat_i, cat_j, cat_r]; done)) wv_66 wc_66 (cob_any rfl bl0) (k_Log_findMembers_ok hp0 hL hF (d := d + 0) (cob_any rfl bl0) h10) (fun m11  => ?_)
  cases h
  exact cR_end lk64_27 rfl rfl rfl
def k_Log_clear (F : Nat) (σ : CS) (l0 : Nat) : Option (CS) := k_Log_clear_b0 F σ l0
theorem k_Log_clear_ok {E : CE} {pF : Nat → List Value → xH → Option (Option Value × xH)} (hp0 : xNPc pF) (hL : lcAll E pF) (hF : lcF pF) {d : Nat} {g : CG} {σ : CS} {F : Nat} {l0 : Nat} {res : CS} (bl0 : cob σ 9 l0) (h : k_Log_clear F σ l0 = some res) : cCo E cQ1 pF (d + 3) 64 [.ref (coa E 9 l0)] none res g σ :=
  cCo_R kk_64 mo_64 ni_64 xm_64 (Nat.le_of_ble_eq_true rfl) (hp0 64 (by decide) _) (k_Log_clear_b0_ok hp0 hL hF g _ σ l0 bl0 rfl _ h)
/-! k_Log_cutFrom (65), depth 3 -/
def k_Log_cutFrom_b0 (F : Nat)  (σ : CS) (l0 : Nat) (l1 : Int32) : Option (CS) :=
  (some (csI σ 9 l0 6 0 (cmax (cI σ 9 l0 3 0) (cmin (cI σ 9 l0 6 0) (l1 - ((1 : Int32))))))).bind fun σ1 =>
  (some (csI σ1 9 l0 11 0 (cmin (cI σ1 9 l0 11 0) (cI σ1 9 l0 6 0)))).bind fun σ3 =>
  (k_Log_findMembers F σ3 l0).bind fun p5 =>
  some p5
set_option maxRecDepth 4000 in
theorem k_Log_cutFrom_b0_ok {E : CE} {pF : Nat → List Value → xH → Option (Option Value × xH)} (hp0 : xNPc pF) (hL : lcAll E pF) (hF : lcF pF) {d : Nat} {F : Nat}   : ∀ (g : CG) (lv : xL) (σ : CS) (l0 : Nat) (l1 : Int32), (cob σ 9 l0) → (xg lv 0 = some (.ref (coa E 9 l0))) → (xg lv 1 = some (.int l1)) → ∀ res, k_Log_cutFrom_b0 F  σ l0 l1 = some res → cR E cQ1 pF (d + 2) kT65 9 2 none none res g σ (0, lv, []) := by
  intro g lv σ l0 l1 bl0 g0 g1 res h
  unfold k_Log_cutFrom_b0 at h
  refine cR_lift (fun _ _ kk => eE_aload_n lk65_0 g0 kk) ?_
  refine cR_lift (fun _ _ kk => eE_aload_n lk65_1 g0 kk) ?_
  refine cR_getI lk65_2 rf_9_28 rfl bl0 ?_
  refine cR_lift (fun _ _ kk => eE_aload_n lk65_5 g0 kk) ?_
  refine cR_getI lk65_6 rf_9_34 rfl bl0 ?_
  refine cR_lift (fun _ _ kk => eE_iload_n lk65_9 g1 kk) ?_
  refine cR_lift (fun _ _ kk => eE_iconst (v := 1) lk65_10 (by decide) kk) ?_
  refine cR_lift (fun _ _ kk => eE_isub lk65_11 kk) ?_
  refine cR_min lk65_12 mr_9_70 (by first | exact Nat.le_of_ble_eq_true rfl | (simp [xcat, cvo_cat, cat_i, cat_j, cat_r]; done)) ?_
  refine cR_max lk65_15 mr_9_48 (by first | exact Nat.le_of_ble_eq_true rfl | (simp [xcat, cvo_cat, cat_i, cat_j, cat_r]; done)) ?_
  obtain ⟨σ1, h2, h⟩ := Option.bind_eq_some_iff.mp h
  refine cR_putI lk65_18 rf_9_34 rfl bl0 pf_9_6 rfl h2 ?_
  refine cR_lift (fun _ _ kk => eE_aload_n lk65_21 g0 kk) ?_
  refine cR_lift (fun _ _ kk => eE_aload_n lk65_22 g0 kk) ?_
  refine cR_getI lk65_23 rf_9_73 rfl (cob_any rfl bl0) ?_
  refine cR_lift (fun _ _ kk => eE_aload_n lk65_26 g0 kk) ?_
  refine cR_getI lk65_27 rf_9_34 rfl (cob_any rfl bl0) ?_
  refine cR_min lk65_30 mr_9_70 (by first | exact Nat.le_of_ble_eq_true rfl | (simp [xcat, cvo_cat, cat_i, cat_j, cat_r]; done)) ?_
  obtain ⟨σ3, h4, h⟩ := Option.bind_eq_some_iff.mp h
  refine cR_putI lk65_33 rf_9_73 rfl (cob_any rfl bl0) pf_9_11 rfl h4 ?_
  refine cR_lift (fun _ _ kk => eE_aload_n lk65_36 g0 kk) ?_
  obtain ⟨p5, h6, h⟩ := Option.bind_eq_some_iff.mp h
  refine cR_virt (cl := 9) (i := l0) (as := []) lk65_37 mr_9_37 na_66 rfl rfl (by first | exact Nat.le_of_ble_eq_true rfl | (simp [xcat, cvo_cat, cat_i, cat_j, cat_r]; done)) wv_66 wc_66 (cob_any rfl bl0) (k_Log_findMembers_ok hp0 hL hF (d := d + 0) (cob_any rfl bl0) h6) (fun m7  => ?_)
  cases h
  exact cR_end lk65_40 rfl rfl rfl
def k_Log_cutFrom (F : Nat) (σ : CS) (l0 : Nat) (l1 : Int32) : Option (CS) := k_Log_cutFrom_b0 F σ l0 l1
theorem k_Log_cutFrom_ok {E : CE} {pF : Nat → List Value → xH → Option (Option Value × xH)} (hp0 : xNPc pF) (hL : lcAll E pF) (hF : lcF pF) {d : Nat} {g : CG} {σ : CS} {F : Nat} {l0 : Nat} {l1 : Int32} {res : CS} (bl0 : cob σ 9 l0) (h : k_Log_cutFrom F σ l0 l1 = some res) : cCo E cQ1 pF (d + 3) 65 [.ref (coa E 9 l0), .int l1] none res g σ :=
  cCo_R kk_65 mo_65 ni_65 xm_65 (Nat.le_of_ble_eq_true rfl) (hp0 65 (by decide) _) (k_Log_cutFrom_b0_ok hp0 hL hF g _ σ l0 l1 bl0 rfl rfl _ h)
/-! k_Log_has (67), depth 1 -/
def k_Log_has_b21  (σ : CS) (s0 : Int32) : Option (Int32) :=
  if s0 = 0 ∨ s0 = 1 then some s0 else none
set_option maxRecDepth 4000 in
theorem k_Log_has_b21_ok {E : CE} {pF : Nat → List Value → xH → Option (Option Value × xH)} (hp0 : xNPc pF) (hL : lcAll E pF) (hF : lcF pF) {d : Nat}   : ∀ (g : CG) (lv : xL) (σ : CS) (s0 : Int32), ∀ res, k_Log_has_b21  σ s0 = some res → cR E cQ1 pF (d + 0) kT67 9 2 (some FieldType.boolean) (some (.int res)) σ g σ (21, lv, [.int s0]) := by
  intro g lv σ s0 res h
  unfold k_Log_has_b21 at h
  by_cases z1 : s0 = 0 ∨ s0 = 1
  · rw [if_pos z1] at h; cases h
    exact cR_end lk67_21 rfl rfl (by first | (simp only [xfin, if_true, if_pos z1]; done) | simp [xfin, z1])
  · rw [if_neg z1] at h; cases h
def k_Log_has_b20  (σ : CS) : Option (Int32) :=
  k_Log_has_b21  σ ((0 : Int32))
set_option maxRecDepth 4000 in
theorem k_Log_has_b20_ok {E : CE} {pF : Nat → List Value → xH → Option (Option Value × xH)} (hp0 : xNPc pF) (hL : lcAll E pF) (hF : lcF pF) {d : Nat}   : ∀ (g : CG) (lv : xL) (σ : CS), ∀ res, k_Log_has_b20  σ = some res → cR E cQ1 pF (d + 0) kT67 9 2 (some FieldType.boolean) (some (.int res)) σ g σ (20, lv, []) := by
  intro g lv σ res h
  unfold k_Log_has_b20 at h
  refine cR_lift (fun _ _ kk => eE_iconst (v := 0) lk67_20 (by decide) kk) ?_
  exact k_Log_has_b21_ok hp0 hL hF  g lv σ ((0 : Int32))  _ h
def k_Log_has_b0  (σ : CS) (l0 : Nat) (l1 : Int32) : Option (Int32) :=
  if xc2 .le l1 (cI σ 9 l0 3 0) = true then (
    k_Log_has_b20  σ
  ) else (
    if xc2 .gt l1 (cI σ 9 l0 6 0) = true then (
      k_Log_has_b20  σ
    ) else (
      k_Log_has_b21  σ ((1 : Int32))
    )
  )
set_option maxRecDepth 4000 in
theorem k_Log_has_b0_ok {E : CE} {pF : Nat → List Value → xH → Option (Option Value × xH)} (hp0 : xNPc pF) (hL : lcAll E pF) (hF : lcF pF) {d : Nat}   : ∀ (g : CG) (lv : xL) (σ : CS) (l0 : Nat) (l1 : Int32), (cob σ 9 l0) → (xg lv 0 = some (.ref (coa E 9 l0))) → (xg lv 1 = some (.int l1)) → ∀ res, k_Log_has_b0  σ l0 l1 = some res → cR E cQ1 pF (d + 0) kT67 9 2 (some FieldType.boolean) (some (.int res)) σ g σ (0, lv, []) := by
  intro g lv σ l0 l1 bl0 g0 g1 res h
  unfold k_Log_has_b0 at h
  refine cR_lift (fun _ _ kk => eE_iload_n lk67_0 g1 kk) ?_
  refine cR_lift (fun _ _ kk => eE_aload_n lk67_1 g0 kk) ?_
  refine cR_getI lk67_2 rf_9_28 rfl bl0 ?_
  refine cR_icmp (t := 20) lk67_5 (by decide) (fun c2 => ?_) (fun c2 => ?_)
  · rw [if_pos c2] at h
    exact k_Log_has_b20_ok hp0 hL hF  g lv σ  _ h
  · rw [if_neg c2] at h
    refine cR_lift (fun _ _ kk => eE_iload_n lk67_8 g1 kk) ?_
    refine cR_lift (fun _ _ kk => eE_aload_n lk67_9 g0 kk) ?_
    refine cR_getI lk67_10 rf_9_34 rfl bl0 ?_
    refine cR_icmp (t := 20) lk67_13 (by decide) (fun c3 => ?_) (fun c3 => ?_)
    · rw [if_pos c3] at h
      exact k_Log_has_b20_ok hp0 hL hF  g lv σ  _ h
    · rw [if_neg c3] at h
      refine cR_lift (fun _ _ kk => eE_iconst (v := 1) lk67_16 (by decide) kk) ?_
      refine cR_lift (fun _ _ kk => eE_goto (t := 21) lk67_17 (by decide) kk) ?_
      exact k_Log_has_b21_ok hp0 hL hF  g lv σ ((1 : Int32))  _ h
def k_Log_has (σ : CS) (l0 : Nat) (l1 : Int32) : Option (Int32) := k_Log_has_b0 σ l0 l1
theorem k_Log_has_ok {E : CE} {pF : Nat → List Value → xH → Option (Option Value × xH)} (hp0 : xNPc pF) (hL : lcAll E pF) (hF : lcF pF) {d : Nat} {g : CG} {σ : CS} {l0 : Nat} {l1 : Int32} {res : Int32} (bl0 : cob σ 9 l0) (h : k_Log_has σ l0 l1 = some res) : cCo E cQ1 pF (d + 1) 67 [.ref (coa E 9 l0), .int l1] (some (.int res)) σ g σ :=
  cCo_R kk_67 mo_67 ni_67 xm_67 (Nat.le_of_ble_eq_true rfl) (hp0 67 (by decide) _) (k_Log_has_b0_ok hp0 hL hF g _ σ l0 l1 bl0 rfl rfl _ h)
/-! k_Log_length (69), depth 1 -/
def k_Log_length_b0  (σ : CS) (l0 : Nat) : Option (Int32) :=
  some ((cI σ 9 l0 6 0) - (cI σ 9 l0 3 0))
set_option maxRecDepth 4000 in
theorem k_Log_length_b0_ok {E : CE} {pF : Nat → List Value → xH → Option (Option Value × xH)} (hp0 : xNPc pF) (hL : lcAll E pF) (hF : lcF pF) {d : Nat}   : ∀ (g : CG) (lv : xL) (σ : CS) (l0 : Nat), (cob σ 9 l0) → (xg lv 0 = some (.ref (coa E 9 l0))) → ∀ res, k_Log_length_b0  σ l0 = some res → cR E cQ1 pF (d + 0) kT69 9 1 (some FieldType.int) (some (.int res)) σ g σ (0, lv, []) := by
  intro g lv σ l0 bl0 g0 res h
  unfold k_Log_length_b0 at h
  refine cR_lift (fun _ _ kk => eE_aload_n lk69_0 g0 kk) ?_
  refine cR_getI lk69_1 rf_9_34 rfl bl0 ?_
  refine cR_lift (fun _ _ kk => eE_aload_n lk69_4 g0 kk) ?_
  refine cR_getI lk69_5 rf_9_28 rfl bl0 ?_
  refine cR_lift (fun _ _ kk => eE_isub lk69_8 kk) ?_
  cases h
  exact cR_end lk69_9 rfl rfl rfl
def k_Log_length (σ : CS) (l0 : Nat) : Option (Int32) := k_Log_length_b0 σ l0
theorem k_Log_length_ok {E : CE} {pF : Nat → List Value → xH → Option (Option Value × xH)} (hp0 : xNPc pF) (hL : lcAll E pF) (hF : lcF pF) {d : Nat} {g : CG} {σ : CS} {l0 : Nat} {res : Int32} (bl0 : cob σ 9 l0) (h : k_Log_length σ l0 = some res) : cCo E cQ1 pF (d + 1) 69 [.ref (coa E 9 l0)] (some (.int res)) σ g σ :=
  cCo_R kk_69 mo_69 ni_69 xm_69 (Nat.le_of_ble_eq_true rfl) (hp0 69 (by decide) _) (k_Log_length_b0_ok hp0 hL hF g _ σ l0 bl0 rfl _ h)
/-! k_Log_membersUpTo (71), depth 2 -/
def k_Log_membersUpTo_b33 (F : Nat)  (σ : CS) (s0 : Int32) : Option (Int32) :=
  some s0
set_option maxRecDepth 4000 in
theorem k_Log_membersUpTo_b33_ok {E : CE} {pF : Nat → List Value → xH → Option (Option Value × xH)} (hp0 : xNPc pF) (hL : lcAll E pF) (hF : lcF pF) {d : Nat} {F : Nat}   : ∀ (g : CG) (lv : xL) (σ : CS) (s0 : Int32), ∀ res, k_Log_membersUpTo_b33 F  σ s0 = some res → cR E cQ1 pF (d + 1) kT71 9 3 (some FieldType.int) (some (.int res)) σ g σ (33, lv, [.int s0]) := by
  intro g lv σ s0 res h
  unfold k_Log_membersUpTo_b33 at h
  cases h
  exact cR_end lk71_33 rfl rfl rfl
def k_Log_membersUpTo_b0 (F : Nat)  (σ : CS) (l0 : Nat) (l1 : Int32) : Option (Int32) :=
  (k_Log_membersBehind F σ l0 l1).bind fun p1 =>
  if xc2 .ne p1 (cI σ 9 l0 3 0) = true then (
    (k_Log_at σ l0 p1).bind fun p9 =>
    (crd σ 9 l0 1 (p9 + ((3 : Int32)))).bind fun x12 =>
    k_Log_membersUpTo_b33 F  σ x12
  ) else (
    k_Log_membersUpTo_b33 F  σ (cI σ 9 l0 5 0)
  )
set_option maxRecDepth 4000 in
theorem k_Log_membersUpTo_b0_ok {E : CE} {pF : Nat → List Value → xH → Option (Option Value × xH)} (hp0 : xNPc pF) (hL : lcAll E pF) (hF : lcF pF) {d : Nat} {F : Nat}   : ∀ (g : CG) (lv : xL) (σ : CS) (l0 : Nat) (l1 : Int32), (cob σ 9 l0) → (xg lv 0 = some (.ref (coa E 9 l0))) → (xg lv 1 = some (.int l1)) → ∀ res, k_Log_membersUpTo_b0 F  σ l0 l1 = some res → cR E cQ1 pF (d + 1) kT71 9 3 (some FieldType.int) (some (.int res)) σ g σ (0, lv, []) := by
  intro g lv σ l0 l1 bl0 g0 g1 res h
  unfold k_Log_membersUpTo_b0 at h
  refine cR_lift (fun _ _ kk => eE_aload_n lk71_0 g0 kk) ?_
  refine cR_lift (fun _ _ kk => eE_iload_n lk71_1 g1 kk) ?_
  obtain ⟨p1, h2, h⟩ := Option.bind_eq_some_iff.mp h
  refine cR_virt (cl := 9) (i := l0) (as := [.int l1]) lk71_2 mr_9_76 na_70 rfl rfl (by first | exact Nat.le_of_ble_eq_true rfl | (simp [xcat, cvo_cat, cat_i, cat_j, cat_r]; done)) wv_70 wc_70 bl0 (k_Log_membersBehind_ok hp0 hL hF (d := d + 0) bl0 h2) (fun m3  => ?_)
  refine cR_stI (j := 2) lk71_5 (Or.inr ⟨_, rfl, rfl⟩) (by decide) (fun vq4 gq5 kq6 => ?_)
  have gq7 := kq6 0 _ (by decide) (fun e => absurd e (by decide)) g0
  refine cR_lift (fun _ _ kk => eE_iload_n lk71_6 gq5 kk) ?_
  refine cR_lift (fun _ _ kk => eE_aload_n lk71_7 gq7 kk) ?_
  refine cR_getI lk71_8 rf_9_28 rfl bl0 ?_
  refine cR_icmp (t := 21) lk71_11 (by decide) (fun c8 => ?_) (fun c8 => ?_)
  · rw [if_pos c8] at h
    refine cR_lift (fun _ _ kk => eE_aload_n lk71_21 gq7 kk) ?_
    refine cR_getA lk71_22 rf_9_9 (by decide) bl0 ?_
    refine cR_lift (fun _ _ kk => eE_aload_n lk71_25 gq7 kk) ?_
    refine cR_lift (fun _ _ kk => eE_iload_n lk71_26 gq5 kk) ?_
    obtain ⟨p9, h10, h⟩ := Option.bind_eq_some_iff.mp h
    refine cR_virt (cl := 9) (i := l0) (as := [.int p1]) lk71_27 mr_9_44 na_63 rfl rfl (by first | exact Nat.le_of_ble_eq_true rfl | (simp [xcat, cvo_cat, cat_i, cat_j, cat_r]; done)) wv_63 wc_63 bl0 (k_Log_at_ok hp0 hL hF (d := d + 0) bl0 h10) (fun m11  => ?_)
    refine cR_lift (fun _ _ kk => eE_iconst (v := 3) lk71_30 (by decide) kk) ?_
    refine cR_lift (fun _ _ kk => eE_iadd lk71_31 kk) ?_
    obtain ⟨x12, h13, h⟩ := Option.bind_eq_some_iff.mp h
    refine cR_iald (cl := 9) (i := l0) (f := 1) lk71_32 (by decide) rfl bl0 h13 ?_
    exact k_Log_membersUpTo_b33_ok hp0 hL hF  g vq4 σ x12  _ h
  · rw [if_neg c8] at h
    refine cR_lift (fun _ _ kk => eE_aload_n lk71_14 gq7 kk) ?_
    refine cR_getI lk71_15 rf_9_22 rfl bl0 ?_
    refine cR_lift (fun _ _ kk => eE_goto (t := 33) lk71_18 (by decide) kk) ?_
    exact k_Log_membersUpTo_b33_ok hp0 hL hF  g vq4 σ (cI σ 9 l0 5 0)  _ h
def k_Log_membersUpTo (F : Nat) (σ : CS) (l0 : Nat) (l1 : Int32) : Option (Int32) := k_Log_membersUpTo_b0 F σ l0 l1
theorem k_Log_membersUpTo_ok {E : CE} {pF : Nat → List Value → xH → Option (Option Value × xH)} (hp0 : xNPc pF) (hL : lcAll E pF) (hF : lcF pF) {d : Nat} {g : CG} {σ : CS} {F : Nat} {l0 : Nat} {l1 : Int32} {res : Int32} (bl0 : cob σ 9 l0) (h : k_Log_membersUpTo F σ l0 l1 = some res) : cCo E cQ1 pF (d + 2) 71 [.ref (coa E 9 l0), .int l1] (some (.int res)) σ g σ :=
  cCo_R kk_71 mo_71 ni_71 xm_71 (Nat.le_of_ble_eq_true rfl) (hp0 71 (by decide) _) (k_Log_membersUpTo_b0_ok hp0 hL hF g _ σ l0 l1 bl0 rfl rfl _ h)
/-! k_Log_termAt (75), depth 2 -/
def k_Log_termAt_b37  (σ : CS) (s0 : Int32) : Option (Int32) :=
  some s0
set_option maxRecDepth 4000 in
theorem k_Log_termAt_b37_ok {E : CE} {pF : Nat → List Value → xH → Option (Option Value × xH)} (hp0 : xNPc pF) (hL : lcAll E pF) (hF : lcF pF) {d : Nat}   : ∀ (g : CG) (lv : xL) (σ : CS) (s0 : Int32), ∀ res, k_Log_termAt_b37  σ s0 = some res → cR E cQ1 pF (d + 1) kT75 9 2 (some FieldType.int) (some (.int res)) σ g σ (37, lv, [.int s0]) := by
  intro g lv σ s0 res h
  unfold k_Log_termAt_b37 at h
  cases h
  exact cR_end lk75_37 rfl rfl rfl
def k_Log_termAt_b0  (σ : CS) (l0 : Nat) (l1 : Int32) : Option (Int32) :=
  if xc2 .ne l1 (cI σ 9 l0 3 0) = true then (
    (k_Log_has σ l0 l1).bind fun p2 =>
    if xc0 .eq p2 = true then (
      k_Log_termAt_b37  σ ((-1 : Int32))
    ) else (
      (k_Log_at σ l0 l1).bind fun p6 =>
      (crd σ 9 l0 1 (p6 + ((0 : Int32)))).bind fun x9 =>
      k_Log_termAt_b37  σ x9
    )
  ) else (
    some (cI σ 9 l0 4 0)
  )
set_option maxRecDepth 4000 in
theorem k_Log_termAt_b0_ok {E : CE} {pF : Nat → List Value → xH → Option (Option Value × xH)} (hp0 : xNPc pF) (hL : lcAll E pF) (hF : lcF pF) {d : Nat}   : ∀ (g : CG) (lv : xL) (σ : CS) (l0 : Nat) (l1 : Int32), (cob σ 9 l0) → (xg lv 0 = some (.ref (coa E 9 l0))) → (xg lv 1 = some (.int l1)) → ∀ res, k_Log_termAt_b0  σ l0 l1 = some res → cR E cQ1 pF (d + 1) kT75 9 2 (some FieldType.int) (some (.int res)) σ g σ (0, lv, []) := by
  intro g lv σ l0 l1 bl0 g0 g1 res h
  unfold k_Log_termAt_b0 at h
  refine cR_lift (fun _ _ kk => eE_iload_n lk75_0 g1 kk) ?_
  refine cR_lift (fun _ _ kk => eE_aload_n lk75_1 g0 kk) ?_
  refine cR_getI lk75_2 rf_9_28 rfl bl0 ?_
  refine cR_icmp (t := 13) lk75_5 (by decide) (fun c1 => ?_) (fun c1 => ?_)
  · rw [if_pos c1] at h
    refine cR_lift (fun _ _ kk => eE_aload_n lk75_13 g0 kk) ?_
    refine cR_lift (fun _ _ kk => eE_iload_n lk75_14 g1 kk) ?_
    obtain ⟨p2, h3, h⟩ := Option.bind_eq_some_iff.mp h
    refine cR_virt (cl := 9) (i := l0) (as := [.int l1]) lk75_15 mr_9_40 na_67 rfl rfl (by first | exact Nat.le_of_ble_eq_true rfl | (simp [xcat, cvo_cat, cat_i, cat_j, cat_r]; done)) wv_67 wc_67 bl0 (k_Log_has_ok hp0 hL hF (d := d + 0) bl0 h3) (fun m4  => ?_)
    refine cR_if (t := 36) lk75_18 (by decide) (fun c5 => ?_) (fun c5 => ?_)
    · rw [if_pos c5] at h
      refine cR_lift (fun _ _ kk => eE_iconst (v := (-1)) lk75_36 (by decide) kk) ?_
      exact k_Log_termAt_b37_ok hp0 hL hF  g lv σ ((-1 : Int32))  _ h
    · rw [if_neg c5] at h
      refine cR_lift (fun _ _ kk => eE_aload_n lk75_21 g0 kk) ?_
      refine cR_getA lk75_22 rf_9_9 (by decide) bl0 ?_
      refine cR_lift (fun _ _ kk => eE_aload_n lk75_25 g0 kk) ?_
      refine cR_lift (fun _ _ kk => eE_iload_n lk75_26 g1 kk) ?_
      obtain ⟨p6, h7, h⟩ := Option.bind_eq_some_iff.mp h
      refine cR_virt (cl := 9) (i := l0) (as := [.int l1]) lk75_27 mr_9_44 na_63 rfl rfl (by first | exact Nat.le_of_ble_eq_true rfl | (simp [xcat, cvo_cat, cat_i, cat_j, cat_r]; done)) wv_63 wc_63 bl0 (k_Log_at_ok hp0 hL hF (d := d + 0) bl0 h7) (fun m8  => ?_)
      refine cR_lift (fun _ _ kk => eE_iconst (v := 0) lk75_30 (by decide) kk) ?_
      refine cR_lift (fun _ _ kk => eE_iadd lk75_31 kk) ?_
      obtain ⟨x9, h10, h⟩ := Option.bind_eq_some_iff.mp h
      refine cR_iald (cl := 9) (i := l0) (f := 1) lk75_32 (by decide) rfl bl0 h10 ?_
      refine cR_lift (fun _ _ kk => eE_goto (t := 37) lk75_33 (by decide) kk) ?_
      exact k_Log_termAt_b37_ok hp0 hL hF  g lv σ x9  _ h
  · rw [if_neg c1] at h
    refine cR_lift (fun _ _ kk => eE_aload_n lk75_8 g0 kk) ?_
    refine cR_getI lk75_9 rf_9_31 rfl bl0 ?_
    cases h
    exact cR_end lk75_12 rfl rfl rfl
def k_Log_termAt (σ : CS) (l0 : Nat) (l1 : Int32) : Option (Int32) := k_Log_termAt_b0 σ l0 l1
theorem k_Log_termAt_ok {E : CE} {pF : Nat → List Value → xH → Option (Option Value × xH)} (hp0 : xNPc pF) (hL : lcAll E pF) (hF : lcF pF) {d : Nat} {g : CG} {σ : CS} {l0 : Nat} {l1 : Int32} {res : Int32} (bl0 : cob σ 9 l0) (h : k_Log_termAt σ l0 l1 = some res) : cCo E cQ1 pF (d + 2) 75 [.ref (coa E 9 l0), .int l1] (some (.int res)) σ g σ :=
  cCo_R kk_75 mo_75 ni_75 xm_75 (Nat.le_of_ble_eq_true rfl) (hp0 75 (by decide) _) (k_Log_termAt_b0_ok hp0 hL hF g _ σ l0 l1 bl0 rfl rfl _ h)
/-! k_Log_moveBase (72), depth 3 -/
def k_Log_moveBase_b50 (F : Nat)  (σ : CS) (l0 : Nat) (l1 : Int32) (l2 : Int32) (l3 : Int32) (l4 : Int32) : Option (CS) :=
  (some (csI σ 9 l0 3 0 l1)).bind fun σ1 =>
  (some (csI σ1 9 l0 4 0 l2)).bind fun σ3 =>
  (some (csI σ3 9 l0 5 0 l3)).bind fun σ5 =>
  (some (csI σ5 9 l0 6 0 (l1 + l4))).bind fun σ7 =>
  (some (csI σ7 9 l0 11 0 (cmin (cI σ7 9 l0 11 0) (cI σ7 9 l0 6 0)))).bind fun σ9 =>
  (k_Log_findMembers F σ9 l0).bind fun p11 =>
  some p11
set_option maxRecDepth 4000 in
theorem k_Log_moveBase_b50_ok {E : CE} {pF : Nat → List Value → xH → Option (Option Value × xH)} (hp0 : xNPc pF) (hL : lcAll E pF) (hF : lcF pF) {d : Nat} {F : Nat}   : ∀ (g : CG) (lv : xL) (σ : CS) (l0 : Nat) (l1 : Int32) (l2 : Int32) (l3 : Int32) (l4 : Int32), (cob σ 9 l0) → (xg lv 0 = some (.ref (coa E 9 l0))) → (xg lv 1 = some (.int l1)) → (xg lv 2 = some (.int l2)) → (xg lv 3 = some (.int l3)) → (xg lv 4 = some (.int l4)) → ∀ res, k_Log_moveBase_b50 F  σ l0 l1 l2 l3 l4 = some res → cR E cQ1 pF (d + 2) kT72 9 5 none none res g σ (50, lv, []) := by
  intro g lv σ l0 l1 l2 l3 l4 bl0 g0 g1 g2 g3 g4 res h
  unfold k_Log_moveBase_b50 at h
  refine cR_lift (fun _ _ kk => eE_aload_n lk72_50 g0 kk) ?_
  refine cR_lift (fun _ _ kk => eE_iload_n lk72_51 g1 kk) ?_
  obtain ⟨σ1, h2, h⟩ := Option.bind_eq_some_iff.mp h
  refine cR_putI lk72_52 rf_9_28 rfl bl0 pf_9_3 rfl h2 ?_
  refine cR_lift (fun _ _ kk => eE_aload_n lk72_55 g0 kk) ?_
  refine cR_lift (fun _ _ kk => eE_iload_n lk72_56 g2 kk) ?_
  obtain ⟨σ3, h4, h⟩ := Option.bind_eq_some_iff.mp h
  refine cR_putI lk72_57 rf_9_31 rfl (cob_any rfl bl0) pf_9_4 rfl h4 ?_
  refine cR_lift (fun _ _ kk => eE_aload_n lk72_60 g0 kk) ?_
  refine cR_lift (fun _ _ kk => eE_iload_n lk72_61 g3 kk) ?_
  obtain ⟨σ5, h6, h⟩ := Option.bind_eq_some_iff.mp h
  refine cR_putI lk72_62 rf_9_22 rfl (cob_any rfl bl0) pf_9_5 rfl h6 ?_
  refine cR_lift (fun _ _ kk => eE_aload_n lk72_65 g0 kk) ?_
  refine cR_lift (fun _ _ kk => eE_iload_n lk72_66 g1 kk) ?_
  refine cR_lift (fun _ _ kk => eE_iload lk72_67 g4 kk) ?_
  refine cR_lift (fun _ _ kk => eE_iadd lk72_69 kk) ?_
  obtain ⟨σ7, h8, h⟩ := Option.bind_eq_some_iff.mp h
  refine cR_putI lk72_70 rf_9_34 rfl (cob_any rfl bl0) pf_9_6 rfl h8 ?_
  refine cR_lift (fun _ _ kk => eE_aload_n lk72_73 g0 kk) ?_
  refine cR_lift (fun _ _ kk => eE_aload_n lk72_74 g0 kk) ?_
  refine cR_getI lk72_75 rf_9_73 rfl (cob_any rfl bl0) ?_
  refine cR_lift (fun _ _ kk => eE_aload_n lk72_78 g0 kk) ?_
  refine cR_getI lk72_79 rf_9_34 rfl (cob_any rfl bl0) ?_
  refine cR_min lk72_82 mr_9_70 (by first | exact Nat.le_of_ble_eq_true rfl | (simp [xcat, cvo_cat, cat_i, cat_j, cat_r]; done)) ?_
  obtain ⟨σ9, h10, h⟩ := Option.bind_eq_some_iff.mp h
  refine cR_putI lk72_85 rf_9_73 rfl (cob_any rfl bl0) pf_9_11 rfl h10 ?_
  refine cR_lift (fun _ _ kk => eE_aload_n lk72_88 g0 kk) ?_
  obtain ⟨p11, h12, h⟩ := Option.bind_eq_some_iff.mp h
  refine cR_virt (cl := 9) (i := l0) (as := []) lk72_89 mr_9_37 na_66 rfl rfl (by first | exact Nat.le_of_ble_eq_true rfl | (simp [xcat, cvo_cat, cat_i, cat_j, cat_r]; done)) wv_66 wc_66 (cob_any rfl bl0) (k_Log_findMembers_ok hp0 hL hF (d := d + 0) (cob_any rfl bl0) h12) (fun m13  => ?_)
  cases h
  exact cR_end lk72_92 rfl rfl rfl
def k_Log_moveBase_b19 (F : Nat)  (σ : CS) (s0 : Int32) (l0 : Nat) (l1 : Int32) (l2 : Int32) (l3 : Int32) : Option (CS) :=
  if xc0 .le s0 = true then (
    k_Log_moveBase_b50 F  σ l0 l1 l2 l3 s0
  ) else (
    (k_Log_at σ l0 (l1 + ((1 : Int32)))).bind fun p22 =>
    (ccpy σ 9 l0 1 p22 9 l0 1 ((0 : Int32)) (s0 * ((6 : Int32)))).bind fun σ25 =>
    k_Log_moveBase_b50 F  σ25 l0 l1 l2 l3 s0
  )
set_option maxRecDepth 4000 in
theorem k_Log_moveBase_b19_ok {E : CE} {pF : Nat → List Value → xH → Option (Option Value × xH)} (hp0 : xNPc pF) (hL : lcAll E pF) (hF : lcF pF) {d : Nat} {F : Nat}   : ∀ (g : CG) (lv : xL) (σ : CS) (s0 : Int32) (l0 : Nat) (l1 : Int32) (l2 : Int32) (l3 : Int32), (cob σ 9 l0) → (xg lv 0 = some (.ref (coa E 9 l0))) → (xg lv 1 = some (.int l1)) → (xg lv 2 = some (.int l2)) → (xg lv 3 = some (.int l3)) → ∀ res, k_Log_moveBase_b19 F  σ s0 l0 l1 l2 l3 = some res → cR E cQ1 pF (d + 2) kT72 9 5 none none res g σ (19, lv, [.int s0]) := by
  intro g lv σ s0 l0 l1 l2 l3 bl0 g0 g1 g2 g3 res h
  unfold k_Log_moveBase_b19 at h
  refine cR_stI (j := 4) lk72_19 (Or.inl rfl) (by decide) (fun vq14 gq15 kq16 => ?_)
  have gq17 := kq16 0 _ (by decide) (fun e => absurd e (by decide)) g0
  have gq18 := kq16 1 _ (by decide) (fun e => absurd e (by decide)) g1
  have gq19 := kq16 2 _ (by decide) (fun e => absurd e (by decide)) g2
  have gq20 := kq16 3 _ (by decide) (fun _ => rfl) g3
  refine cR_lift (fun _ _ kk => eE_iload lk72_21 gq15 kk) ?_
  refine cR_if (t := 50) lk72_23 (by decide) (fun c21 => ?_) (fun c21 => ?_)
  · rw [if_pos c21] at h
    exact k_Log_moveBase_b50_ok hp0 hL hF  g vq14 σ l0 l1 l2 l3 s0 bl0 gq17 gq18 gq19 gq20 gq15 _ h
  · rw [if_neg c21] at h
    refine cR_lift (fun _ _ kk => eE_aload_n lk72_26 gq17 kk) ?_
    refine cR_getA lk72_27 rf_9_9 (by decide) bl0 ?_
    refine cR_lift (fun _ _ kk => eE_aload_n lk72_30 gq17 kk) ?_
    refine cR_lift (fun _ _ kk => eE_iload_n lk72_31 gq18 kk) ?_
    refine cR_lift (fun _ _ kk => eE_iconst (v := 1) lk72_32 (by decide) kk) ?_
    refine cR_lift (fun _ _ kk => eE_iadd lk72_33 kk) ?_
    obtain ⟨p22, h23, h⟩ := Option.bind_eq_some_iff.mp h
    refine cR_virt (cl := 9) (i := l0) (as := [.int (l1 + ((1 : Int32)))]) lk72_34 mr_9_44 na_63 rfl rfl (by first | exact Nat.le_of_ble_eq_true rfl | (simp [xcat, cvo_cat, cat_i, cat_j, cat_r]; done)) wv_63 wc_63 bl0 (k_Log_at_ok hp0 hL hF (d := d + 1) bl0 h23) (fun m24  => ?_)
    refine cR_lift (fun _ _ kk => eE_aload_n lk72_37 gq17 kk) ?_
    refine cR_getA lk72_38 rf_9_9 (by decide) bl0 ?_
    refine cR_lift (fun _ _ kk => eE_iconst (v := 0) lk72_41 (by decide) kk) ?_
    refine cR_lift (fun _ _ kk => eE_iload lk72_42 gq15 kk) ?_
    refine cR_lift (fun _ _ kk => eE_bipush (v := 6) lk72_44 (by decide) kk) ?_
    refine cR_lift (fun _ _ kk => eE_imul lk72_46 kk) ?_
    obtain ⟨σ25, h26, h⟩ := Option.bind_eq_some_iff.mp h
    refine cR_cpy (a := 9) (i := l0) (f := 1) (a' := 9) (i' := l0) (f' := 1) lk72_47 yc_9_61.1 yc_9_61.2 (by decide) (by decide) (by decide) bl0 bl0 (by first | exact Nat.le_of_ble_eq_true rfl | (simp [xcat, cvo_cat, cat_i, cat_j, cat_r]; done)) h26 ?_
    exact k_Log_moveBase_b50_ok hp0 hL hF  g vq14 σ25 l0 l1 l2 l3 s0 (cob_any rfl bl0) gq17 gq18 gq19 gq20 gq15 _ h
def k_Log_moveBase_b0 (F : Nat)  (σ : CS) (l0 : Nat) (l1 : Int32) (l2 : Int32) (l3 : Int32) : Option (CS) :=
  (k_Log_termAt σ l0 l1).bind fun p27 =>
  if xc2 .ne p27 l2 = true then (
    k_Log_moveBase_b19 F  σ ((0 : Int32)) l0 l1 l2 l3
  ) else (
    k_Log_moveBase_b19 F  σ ((cI σ 9 l0 6 0) - l1) l0 l1 l2 l3
  )
set_option maxRecDepth 4000 in
theorem k_Log_moveBase_b0_ok {E : CE} {pF : Nat → List Value → xH → Option (Option Value × xH)} (hp0 : xNPc pF) (hL : lcAll E pF) (hF : lcF pF) {d : Nat} {F : Nat}   : ∀ (g : CG) (lv : xL) (σ : CS) (l0 : Nat) (l1 : Int32) (l2 : Int32) (l3 : Int32), (cob σ 9 l0) → (xg lv 0 = some (.ref (coa E 9 l0))) → (xg lv 1 = some (.int l1)) → (xg lv 2 = some (.int l2)) → (xg lv 3 = some (.int l3)) → ∀ res, k_Log_moveBase_b0 F  σ l0 l1 l2 l3 = some res → cR E cQ1 pF (d + 2) kT72 9 5 none none res g σ (0, lv, []) := by
  intro g lv σ l0 l1 l2 l3 bl0 g0 g1 g2 g3 res h
  unfold k_Log_moveBase_b0 at h
  refine cR_lift (fun _ _ kk => eE_aload_n lk72_0 g0 kk) ?_
  refine cR_lift (fun _ _ kk => eE_iload_n lk72_1 g1 kk) ?_
  obtain ⟨p27, h28, h⟩ := Option.bind_eq_some_iff.mp h
  refine cR_virt (cl := 9) (i := l0) (as := [.int l1]) lk72_2 mr_9_54 na_75 rfl rfl (by first | exact Nat.le_of_ble_eq_true rfl | (simp [xcat, cvo_cat, cat_i, cat_j, cat_r]; done)) wv_75 wc_75 bl0 (k_Log_termAt_ok hp0 hL hF (d := d + 0) bl0 h28) (fun m29  => ?_)
  refine cR_lift (fun _ _ kk => eE_iload_n lk72_5 g2 kk) ?_
  refine cR_icmp (t := 18) lk72_6 (by decide) (fun c30 => ?_) (fun c30 => ?_)
  · rw [if_pos c30] at h
    refine cR_lift (fun _ _ kk => eE_iconst (v := 0) lk72_18 (by decide) kk) ?_
    exact k_Log_moveBase_b19_ok hp0 hL hF  g lv σ ((0 : Int32)) l0 l1 l2 l3 bl0 g0 g1 g2 g3 _ h
  · rw [if_neg c30] at h
    refine cR_lift (fun _ _ kk => eE_aload_n lk72_9 g0 kk) ?_
    refine cR_getI lk72_10 rf_9_34 rfl bl0 ?_
    refine cR_lift (fun _ _ kk => eE_iload_n lk72_13 g1 kk) ?_
    refine cR_lift (fun _ _ kk => eE_isub lk72_14 kk) ?_
    refine cR_lift (fun _ _ kk => eE_goto (t := 19) lk72_15 (by decide) kk) ?_
    exact k_Log_moveBase_b19_ok hp0 hL hF  g lv σ ((cI σ 9 l0 6 0) - l1) l0 l1 l2 l3 bl0 g0 g1 g2 g3 _ h
def k_Log_moveBase (F : Nat) (σ : CS) (l0 : Nat) (l1 : Int32) (l2 : Int32) (l3 : Int32) : Option (CS) := k_Log_moveBase_b0 F σ l0 l1 l2 l3
theorem k_Log_moveBase_ok {E : CE} {pF : Nat → List Value → xH → Option (Option Value × xH)} (hp0 : xNPc pF) (hL : lcAll E pF) (hF : lcF pF) {d : Nat} {g : CG} {σ : CS} {F : Nat} {l0 : Nat} {l1 : Int32} {l2 : Int32} {l3 : Int32} {res : CS} (bl0 : cob σ 9 l0) (h : k_Log_moveBase F σ l0 l1 l2 l3 = some res) : cCo E cQ1 pF (d + 3) 72 [.ref (coa E 9 l0), .int l1, .int l2, .int l3] none res g σ :=
  cCo_R kk_72 mo_72 ni_72 xm_72 (Nat.le_of_ble_eq_true rfl) (hp0 72 (by decide) _) (k_Log_moveBase_b0_ok hp0 hL hF g _ σ l0 l1 l2 l3 bl0 rfl rfl rfl rfl _ h)
/-! k_Log_rowOf (73), depth 1 -/
def k_Log_rowOf_b0  (σ : CS) (l0 : Nat) (l1 : Int32) (l2 : Int32) (l3 : Int32) (l4 : Int32) (l5 : Int32) (l6 : Int32) : Option ((Nat) × CS) :=
  (cwr σ 9 l0 2 ((0 : Int32)) l1).bind fun σ1 =>
  (cwr σ1 9 l0 2 ((1 : Int32)) l2).bind fun σ3 =>
  (cwr σ3 9 l0 2 ((2 : Int32)) l3).bind fun σ5 =>
  (cwr σ5 9 l0 2 ((3 : Int32)) l4).bind fun σ7 =>
  (cwr σ7 9 l0 2 ((4 : Int32)) l5).bind fun σ9 =>
  (cwr σ9 9 l0 2 ((5 : Int32)) l6).bind fun σ11 =>
  some (l0, σ11)
set_option maxRecDepth 4000 in
theorem k_Log_rowOf_b0_ok {E : CE} {pF : Nat → List Value → xH → Option (Option Value × xH)} (hp0 : xNPc pF) (hL : lcAll E pF) (hF : lcF pF) {d : Nat}   : ∀ (g : CG) (lv : xL) (σ : CS) (l0 : Nat) (l1 : Int32) (l2 : Int32) (l3 : Int32) (l4 : Int32) (l5 : Int32) (l6 : Int32), (cob σ 9 l0) → (xg lv 0 = some (.ref (coa E 9 l0))) → (xg lv 1 = some (.int l1)) → (xg lv 2 = some (.int l2)) → (xg lv 3 = some (.int l3)) → (xg lv 4 = some (.int l4)) → (xg lv 5 = some (.int l5)) → (xg lv 6 = some (.int l6)) → ∀ res, k_Log_rowOf_b0  σ l0 l1 l2 l3 l4 l5 l6 = some res → cR E cQ1 pF (d + 0) kT73 9 7 (some (FieldType.array FieldType.int)) (some (.ref (car E g 9 res.1 2))) res.2 g σ (0, lv, []) := by
  intro g lv σ l0 l1 l2 l3 l4 l5 l6 bl0 g0 g1 g2 g3 g4 g5 g6 res h
  unfold k_Log_rowOf_b0 at h
  refine cR_lift (fun _ _ kk => eE_aload_n lk73_0 g0 kk) ?_
  refine cR_getA lk73_1 rf_9_15 (by decide) bl0 ?_
  refine cR_lift (fun _ _ kk => eE_iconst (v := 0) lk73_4 (by decide) kk) ?_
  refine cR_lift (fun _ _ kk => eE_iload_n lk73_5 g1 kk) ?_
  obtain ⟨σ1, h2, h⟩ := Option.bind_eq_some_iff.mp h
  refine cR_iast (cl := 9) (i := l0) (f := 2) lk73_6 (by decide) rfl bl0 h2 ?_
  refine cR_lift (fun _ _ kk => eE_aload_n lk73_7 g0 kk) ?_
  refine cR_getA lk73_8 rf_9_15 (by decide) (cob_any rfl bl0) ?_
  refine cR_lift (fun _ _ kk => eE_iconst (v := 1) lk73_11 (by decide) kk) ?_
  refine cR_lift (fun _ _ kk => eE_iload_n lk73_12 g2 kk) ?_
  obtain ⟨σ3, h4, h⟩ := Option.bind_eq_some_iff.mp h
  refine cR_iast (cl := 9) (i := l0) (f := 2) lk73_13 (by decide) rfl (cob_any rfl bl0) h4 ?_
  refine cR_lift (fun _ _ kk => eE_aload_n lk73_14 g0 kk) ?_
  refine cR_getA lk73_15 rf_9_15 (by decide) (cob_any rfl bl0) ?_
  refine cR_lift (fun _ _ kk => eE_iconst (v := 2) lk73_18 (by decide) kk) ?_
  refine cR_lift (fun _ _ kk => eE_iload_n lk73_19 g3 kk) ?_
  obtain ⟨σ5, h6, h⟩ := Option.bind_eq_some_iff.mp h
  refine cR_iast (cl := 9) (i := l0) (f := 2) lk73_20 (by decide) rfl (cob_any rfl bl0) h6 ?_
  refine cR_lift (fun _ _ kk => eE_aload_n lk73_21 g0 kk) ?_
  refine cR_getA lk73_22 rf_9_15 (by decide) (cob_any rfl bl0) ?_
  refine cR_lift (fun _ _ kk => eE_iconst (v := 3) lk73_25 (by decide) kk) ?_
  refine cR_lift (fun _ _ kk => eE_iload lk73_26 g4 kk) ?_
  obtain ⟨σ7, h8, h⟩ := Option.bind_eq_some_iff.mp h
  refine cR_iast (cl := 9) (i := l0) (f := 2) lk73_28 (by decide) rfl (cob_any rfl bl0) h8 ?_
  refine cR_lift (fun _ _ kk => eE_aload_n lk73_29 g0 kk) ?_
  refine cR_getA lk73_30 rf_9_15 (by decide) (cob_any rfl bl0) ?_
  refine cR_lift (fun _ _ kk => eE_iconst (v := 4) lk73_33 (by decide) kk) ?_
  refine cR_lift (fun _ _ kk => eE_iload lk73_34 g5 kk) ?_
  obtain ⟨σ9, h10, h⟩ := Option.bind_eq_some_iff.mp h
  refine cR_iast (cl := 9) (i := l0) (f := 2) lk73_36 (by decide) rfl (cob_any rfl bl0) h10 ?_
  refine cR_lift (fun _ _ kk => eE_aload_n lk73_37 g0 kk) ?_
  refine cR_getA lk73_38 rf_9_15 (by decide) (cob_any rfl bl0) ?_
  refine cR_lift (fun _ _ kk => eE_iconst (v := 5) lk73_41 (by decide) kk) ?_
  refine cR_lift (fun _ _ kk => eE_iload lk73_42 g6 kk) ?_
  obtain ⟨σ11, h12, h⟩ := Option.bind_eq_some_iff.mp h
  refine cR_iast (cl := 9) (i := l0) (f := 2) lk73_44 (by decide) rfl (cob_any rfl bl0) h12 ?_
  refine cR_lift (fun _ _ kk => eE_aload_n lk73_45 g0 kk) ?_
  refine cR_getA lk73_46 rf_9_15 (by decide) (cob_any rfl bl0) ?_
  cases h
  exact cR_end lk73_49 rfl rfl rfl
def k_Log_rowOf (σ : CS) (l0 : Nat) (l1 : Int32) (l2 : Int32) (l3 : Int32) (l4 : Int32) (l5 : Int32) (l6 : Int32) : Option ((Nat) × CS) := k_Log_rowOf_b0 σ l0 l1 l2 l3 l4 l5 l6
theorem k_Log_rowOf_ok {E : CE} {pF : Nat → List Value → xH → Option (Option Value × xH)} (hp0 : xNPc pF) (hL : lcAll E pF) (hF : lcF pF) {d : Nat} {g : CG} {σ : CS} {l0 : Nat} {l1 : Int32} {l2 : Int32} {l3 : Int32} {l4 : Int32} {l5 : Int32} {l6 : Int32} {res : (Nat) × CS} (bl0 : cob σ 9 l0) (h : k_Log_rowOf σ l0 l1 l2 l3 l4 l5 l6 = some res) : cCo E cQ1 pF (d + 1) 73 [.ref (coa E 9 l0), .int l1, .int l2, .int l3, .int l4, .int l5, .int l6] (some (.ref (car E g 9 res.1 2))) res.2 g σ :=
  cCo_R kk_73 mo_73 ni_73 xm_73 (Nat.le_of_ble_eq_true rfl) (hp0 73 (by decide) _) (k_Log_rowOf_b0_ok hp0 hL hF g _ σ l0 l1 l2 l3 l4 l5 l6 bl0 rfl rfl rfl rfl rfl rfl rfl _ h)
theorem k_Log_rowOf_lt {E : CE} {g : CG} {σ : CS} {h0 : xH} {l0 : Nat} {l1 l2 l3 l4 l5 l6 : Int32} {res : Nat × CS} (_ : CRep E g σ h0) (hb : cob σ 9 l0) (h : k_Log_rowOf σ l0 l1 l2 l3 l4 l5 l6 = some res) : cob res.2 9 res.1 := by
  unfold k_Log_rowOf k_Log_rowOf_b0 at h
  obtain ⟨a1, -, h⟩ := Option.bind_eq_some_iff.mp h
  obtain ⟨a2, -, h⟩ := Option.bind_eq_some_iff.mp h
  obtain ⟨a3, -, h⟩ := Option.bind_eq_some_iff.mp h
  obtain ⟨a4, -, h⟩ := Option.bind_eq_some_iff.mp h
  obtain ⟨a5, -, h⟩ := Option.bind_eq_some_iff.mp h
  obtain ⟨a6, -, h⟩ := Option.bind_eq_some_iff.mp h
  cases h
  exact cob_any rfl hb
/-! k_Log_runStart (74), depth 3 -/
def k_Log_runStart_b44 (F : Nat)  (σ : CS) (l2 : Int32) : Option (Int32) :=
  some l2
set_option maxRecDepth 4000 in
theorem k_Log_runStart_b44_ok {E : CE} {pF : Nat → List Value → xH → Option (Option Value × xH)} (hp0 : xNPc pF) (hL : lcAll E pF) (hF : lcF pF) {d : Nat} {F : Nat}   : ∀ (g : CG) (lv : xL) (σ : CS) (l2 : Int32), (xg lv 2 = some (.int l2)) → ∀ res, k_Log_runStart_b44 F  σ l2 = some res → cR E cQ1 pF (d + 2) kT74 9 4 (some FieldType.int) (some (.int res)) σ g σ (44, lv, []) := by
  intro g lv σ l2 g2 res h
  unfold k_Log_runStart_b44 at h
  refine cR_lift (fun _ _ kk => eE_iload_n lk74_44 g2 kk) ?_
  cases h
  exact cR_end lk74_45 rfl rfl rfl
def k_Log_runStart_b17 (F : Nat)  : Nat → CS → Nat → Int32 → Int32 → Option (Int32)
  | 0, _, _, _, _ => none
  | n + 1, σ, l0, l2, l3 =>
    let KK := k_Log_runStart_b17 F  n
    if xc2 .le l2 ((cI σ 9 l0 3 0) + ((1 : Int32))) = true then (
      k_Log_runStart_b44 F  σ l2
    ) else (
      (k_Log_termAt σ l0 (l2 - ((1 : Int32)))).bind fun p2 =>
      if xc2 .ne p2 l3 = true then (
        k_Log_runStart_b44 F  σ l2
      ) else (
        KK σ l0 (l2 + (-1 : Int32)) l3
      )
    )
set_option maxRecDepth 4000 in
theorem k_Log_runStart_b17_ok {E : CE} {pF : Nat → List Value → xH → Option (Option Value × xH)} (hp0 : xNPc pF) (hL : lcAll E pF) (hF : lcF pF) {d : Nat} {F : Nat}   : ∀ (n : Nat) (g : CG) (lv : xL) (σ : CS) (l0 : Nat) (l2 : Int32) (l3 : Int32), (cob σ 9 l0) → (xg lv 0 = some (.ref (coa E 9 l0))) → (xg lv 2 = some (.int l2)) → (xg lv 3 = some (.int l3)) → ∀ res, k_Log_runStart_b17 F  n σ l0 l2 l3 = some res → cR E cQ1 pF (d + 2) kT74 9 4 (some FieldType.int) (some (.int res)) σ g σ (17, lv, []) := by
  intro n
  induction n with
  | zero => intro g lv σ l0 l2 l3 bl0 g0 g2 g3 res h; simp [k_Log_runStart_b17] at h
  | succ n hKK =>
    intro g lv σ l0 l2 l3 bl0 g0 g2 g3 res h
    unfold k_Log_runStart_b17 at h
    dsimp only at h
    refine cR_lift (fun _ _ kk => eE_iload_n lk74_17 g2 kk) ?_
    refine cR_lift (fun _ _ kk => eE_aload_n lk74_18 g0 kk) ?_
    refine cR_getI lk74_19 rf_9_28 rfl bl0 ?_
    refine cR_lift (fun _ _ kk => eE_iconst (v := 1) lk74_22 (by decide) kk) ?_
    refine cR_lift (fun _ _ kk => eE_iadd lk74_23 kk) ?_
    refine cR_icmp (t := 44) lk74_24 (by decide) (fun c1 => ?_) (fun c1 => ?_)
    · rw [if_pos c1] at h
      exact k_Log_runStart_b44_ok hp0 hL hF  g lv σ l2 g2 _ h
    · rw [if_neg c1] at h
      refine cR_lift (fun _ _ kk => eE_aload_n lk74_27 g0 kk) ?_
      refine cR_lift (fun _ _ kk => eE_iload_n lk74_28 g2 kk) ?_
      refine cR_lift (fun _ _ kk => eE_iconst (v := 1) lk74_29 (by decide) kk) ?_
      refine cR_lift (fun _ _ kk => eE_isub lk74_30 kk) ?_
      obtain ⟨p2, h3, h⟩ := Option.bind_eq_some_iff.mp h
      refine cR_virt (cl := 9) (i := l0) (as := [.int (l2 - ((1 : Int32)))]) lk74_31 mr_9_54 na_75 rfl rfl (by first | exact Nat.le_of_ble_eq_true rfl | (simp [xcat, cvo_cat, cat_i, cat_j, cat_r]; done)) wv_75 wc_75 bl0 (k_Log_termAt_ok hp0 hL hF (d := d + 0) bl0 h3) (fun m4  => ?_)
      refine cR_lift (fun _ _ kk => eE_iload_n lk74_34 g3 kk) ?_
      refine cR_icmp (t := 44) lk74_35 (by decide) (fun c5 => ?_) (fun c5 => ?_)
      · rw [if_pos c5] at h
        exact k_Log_runStart_b44_ok hp0 hL hF  g lv σ l2 g2 _ h
      · rw [if_neg c5] at h
        refine cR_inc (j := 2) (v := l2 + (-1 : Int32)) lk74_38 g2 rfl (by decide) (fun vq6 gq7 kq8 => ?_)
        have gq9 := kq8 0 _ (by decide) (fun e => absurd e (by decide)) g0
        have gq10 := kq8 3 _ (by decide) (fun e => absurd e (by decide)) g3
        refine cR_lift (fun _ _ kk => eE_goto (t := 17) lk74_41 (by decide) kk) ?_
        exact hKK g vq6 σ l0 (l2 + (-1 : Int32)) l3 bl0 gq9 gq7 gq10 _ h
def k_Log_runStart_b0 (F : Nat)  (σ : CS) (l0 : Nat) (l1 : Int32) : Option (Int32) :=
  (k_Log_termAt σ l0 (cmax l1 ((cI σ 9 l0 3 0) + ((1 : Int32))))).bind fun p15 =>
  k_Log_runStart_b17 F  F σ l0 (cmax l1 ((cI σ 9 l0 3 0) + ((1 : Int32)))) p15
set_option maxRecDepth 4000 in
theorem k_Log_runStart_b0_ok {E : CE} {pF : Nat → List Value → xH → Option (Option Value × xH)} (hp0 : xNPc pF) (hL : lcAll E pF) (hF : lcF pF) {d : Nat} {F : Nat}   : ∀ (g : CG) (lv : xL) (σ : CS) (l0 : Nat) (l1 : Int32), (cob σ 9 l0) → (xg lv 0 = some (.ref (coa E 9 l0))) → (xg lv 1 = some (.int l1)) → ∀ res, k_Log_runStart_b0 F  σ l0 l1 = some res → cR E cQ1 pF (d + 2) kT74 9 4 (some FieldType.int) (some (.int res)) σ g σ (0, lv, []) := by
  intro g lv σ l0 l1 bl0 g0 g1 res h
  unfold k_Log_runStart_b0 at h
  refine cR_lift (fun _ _ kk => eE_iload_n lk74_0 g1 kk) ?_
  refine cR_lift (fun _ _ kk => eE_aload_n lk74_1 g0 kk) ?_
  refine cR_getI lk74_2 rf_9_28 rfl bl0 ?_
  refine cR_lift (fun _ _ kk => eE_iconst (v := 1) lk74_5 (by decide) kk) ?_
  refine cR_lift (fun _ _ kk => eE_iadd lk74_6 kk) ?_
  refine cR_max lk74_7 mr_9_48 (by first | exact Nat.le_of_ble_eq_true rfl | (simp [xcat, cvo_cat, cat_i, cat_j, cat_r]; done)) ?_
  refine cR_stI (j := 2) lk74_10 (Or.inr ⟨_, rfl, rfl⟩) (by decide) (fun vq11 gq12 kq13 => ?_)
  have gq14 := kq13 0 _ (by decide) (fun e => absurd e (by decide)) g0
  refine cR_lift (fun _ _ kk => eE_aload_n lk74_11 gq14 kk) ?_
  refine cR_lift (fun _ _ kk => eE_iload_n lk74_12 gq12 kk) ?_
  obtain ⟨p15, h16, h⟩ := Option.bind_eq_some_iff.mp h
  refine cR_virt (cl := 9) (i := l0) (as := [.int (cmax l1 ((cI σ 9 l0 3 0) + ((1 : Int32))))]) lk74_13 mr_9_54 na_75 rfl rfl (by first | exact Nat.le_of_ble_eq_true rfl | (simp [xcat, cvo_cat, cat_i, cat_j, cat_r]; done)) wv_75 wc_75 bl0 (k_Log_termAt_ok hp0 hL hF (d := d + 0) bl0 h16) (fun m17  => ?_)
  refine cR_stI (j := 3) lk74_16 (Or.inr ⟨_, rfl, rfl⟩) (by decide) (fun vq18 gq19 kq20 => ?_)
  have gq21 := kq20 0 _ (by decide) (fun e => absurd e (by decide)) gq14
  have gq22 := kq20 2 _ (by decide) (fun _ => rfl) gq12
  exact k_Log_runStart_b17_ok hp0 hL hF  F g vq18 σ l0 (cmax l1 ((cI σ 9 l0 3 0) + ((1 : Int32)))) p15 bl0 gq21 gq22 gq19 _ h
def k_Log_runStart (F : Nat) (σ : CS) (l0 : Nat) (l1 : Int32) : Option (Int32) := k_Log_runStart_b0 F σ l0 l1
theorem k_Log_runStart_ok {E : CE} {pF : Nat → List Value → xH → Option (Option Value × xH)} (hp0 : xNPc pF) (hL : lcAll E pF) (hF : lcF pF) {d : Nat} {g : CG} {σ : CS} {F : Nat} {l0 : Nat} {l1 : Int32} {res : Int32} (bl0 : cob σ 9 l0) (h : k_Log_runStart F σ l0 l1 = some res) : cCo E cQ1 pF (d + 3) 74 [.ref (coa E 9 l0), .int l1] (some (.int res)) σ g σ :=
  cCo_R kk_74 mo_74 ni_74 xm_74 (Nat.le_of_ble_eq_true rfl) (hp0 74 (by decide) _) (k_Log_runStart_b0_ok hp0 hL hF g _ σ l0 l1 bl0 rfl rfl _ h)
