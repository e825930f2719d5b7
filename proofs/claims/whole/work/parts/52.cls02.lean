/-! printed by wip/whole/gen_cls.py -/
/-! k_Log_clear (64), depth 3 -/
def k_Log_clear_b0 (F : Nat)  (σ : CS) (l0 : Nat) : Option (CS) :=
  (some (csI σ 9 l0 3 0 ((0 : Int32)))).bind fun σ1 =>
  (some (csI σ1 9 l0 4 0 ((0 : Int32)))).bind fun σ3 =>
  (some (csI σ3 9 l0 5 0 (cI σ3 9 l0 0 0))).bind fun σ5 =>
  (some (csI σ5 9 l0 6 0 ((0 : Int32)))).bind fun σ7 =>
  (k_Log_findMembers F σ7 l0).bind fun p9 =>
  some p9
set_option maxRecDepth 4000 in
theorem k_Log_clear_b0_ok {E : CE} {pF : Nat → List Value → xH → Option (Option Value × xH)} (hp0 : xNPc pF) (hL : lcAll pF) (hF : lcF pF) {d : Nat} {F : Nat}   : ∀ (g : CG) (lv : xL) (σ : CS) (l0 : Nat), (cob σ 9 l0) → (xg lv 0 = some (.ref (coa E 9 l0))) → ∀ res, k_Log_clear_b0 F  σ l0 = some res → cR E true pF (d + 2) kT64 9 1 none none res g σ (0, lv, []) := by
  intro g lv σ l0 bl0 g0 res h
  unfold k_Log_clear_b0 at h
  refine cR_lift (fun _ _ kk => eE_aload_n lk64_0 g0 kk) ?_
  refine cR_lift (fun _ _ kk => eE_iconst (v := 0) lk64_1 (by decide) kk) ?_
  obtain ⟨σ1, h2, h⟩ := Option.bind_eq_some_iff.mp h
  refine cR_putI lk64_2 rf_9_28 rfl bl0 pf_9_3 rfl h2 ?_
  refine cR_lift (fun _ _ kk => eE_aload_n lk64_5 g0 kk) ?_
  refine cR_lift (fun _ _ kk => eE_iconst (v := 0) lk64_6 (by decide) kk) ?_
  obtain ⟨σ3, h4, h⟩ := Option.bind_eq_some_iff.mp h
  refine cR_putI lk64_7 rf_9_31 rfl (cob_any rfl bl0) pf_9_4 rfl h4 ?_
  refine cR_lift (fun _ _ kk => eE_aload_n lk64_10 g0 kk) ?_
  refine cR_lift (fun _ _ kk => eE_aload_n lk64_11 g0 kk) ?_
  refine cR_getI lk64_12 rf_9_18 rfl (cob_any rfl bl0) ?_
  obtain ⟨σ5, h6, h⟩ := Option.bind_eq_some_iff.mp h
  refine cR_putI lk64_15 rf_9_22 rfl (cob_any rfl bl0) pf_9_5 rfl h6 ?_
  refine cR_lift (fun _ _ kk => eE_aload_n lk64_18 g0 kk) ?_
  refine cR_lift (fun _ _ kk => eE_iconst (v := 0) lk64_19 (by decide) kk) ?_
  obtain ⟨σ7, h8, h⟩ := Option.bind_eq_some_iff.mp h
  refine cR_putI lk64_20 rf_9_34 rfl (cob_any rfl bl0) pf_9_6 rfl h8 ?_
  refine cR_lift (fun _ _ kk => eE_aload_n lk64_23 g0 kk) ?_
  obtain ⟨p9, h10, h⟩ := Option.bind_eq_some_iff.mp h
  refine cR_virt (cl := 9) (i := l0) (as := []) lk64_24 mr_9_37 na_66 rfl rfl (by first | exact Nat.le_of_ble_eq_true rfl | (simp [xcat, cvo_cat, cat_i, cat_j, cat_r]; done)) wv_66 wc_66 (cob_any rfl bl0) (k_Log_findMembers_ok hp0 hL hF (d := d + 0) (cob_any rfl bl0) h10) (fun m11  => ?_)
  cases h
  exact cR_end lk64_27 rfl rfl rfl
def k_Log_clear (F : Nat) (σ : CS) (l0 : Nat) : Option (CS) := k_Log_clear_b0 F σ l0
theorem k_Log_clear_ok {E : CE} {pF : Nat → List Value → xH → Option (Option Value × xH)} (hp0 : xNPc pF) (hL : lcAll pF) (hF : lcF pF) {d : Nat} {g : CG} {σ : CS} {F : Nat} {l0 : Nat} {res : CS} (bl0 : cob σ 9 l0) (h : k_Log_clear F σ l0 = some res) : cCo E true pF (d + 3) 64 [.ref (coa E 9 l0)] none res g σ :=
  cCo_R kk_64 mo_64 ni_64 xm_64 (Nat.le_of_ble_eq_true rfl) (hp0 64 (by decide) _) (k_Log_clear_b0_ok hp0 hL hF g _ σ l0 bl0 rfl _ h)
/-! k_Log_cutFrom (65), depth 3 -/
def k_Log_cutFrom_b0 (F : Nat)  (σ : CS) (l0 : Nat) (l1 : Int32) : Option (CS) :=
  (some (csI σ 9 l0 6 0 (cmax (cI σ 9 l0 3 0) (cmin (cI σ 9 l0 6 0) (l1 - ((1 : Int32))))))).bind fun σ1 =>
  (some (csI σ1 9 l0 11 0 (cmin (cI σ1 9 l0 11 0) (cI σ1 9 l0 6 0)))).bind fun σ3 =>
  (k_Log_findMembers F σ3 l0).bind fun p5 =>
  some p5
set_option maxRecDepth 4000 in
theorem k_Log_cutFrom_b0_ok {E : CE} {pF : Nat → List Value → xH → Option (Option Value × xH)} (hp0 : xNPc pF) (hL : lcAll pF) (hF : lcF pF) {d : Nat} {F : Nat}   : ∀ (g : CG) (lv : xL) (σ : CS) (l0 : Nat) (l1 : Int32), (cob σ 9 l0) → (xg lv 0 = some (.ref (coa E 9 l0))) → (xg lv 1 = some (.int l1)) → ∀ res, k_Log_cutFrom_b0 F  σ l0 l1 = some res → cR E true pF (d + 2) kT65 9 2 none none res g σ (0, lv, []) := by
  intro g lv σ l0 l1 bl0 g0 g1 res h
  unfold k_Log_cutFrom_b0 at h
  refine cR_lift (fun _ _ kk => eE_aload_n lk65_0 g0 kk) ?_
  refine cR_lift (fun _ _ kk => eE_aload_n lk65_1 g0 kk) ?_
  refine cR_getI lk65_2 rf_9_28 rfl bl0 ?_
  refine cR_lift (fun _ _ kk => eE_aload_n lk65_5 g0 kk) ?_
  refine cR_getI lk65_6 rf_9_34 rfl bl0 ?_
  refine cR_lift (fun _ _ kk => eE_iload_n lk65_9 g1 kk) ?_
  refine cR_lift (fun _ _ kk => eE_iconst (v := 1) lk65_10 (by decide) kk) ?_
  refine cR_lift (fun _ _ kk => eE_isub lk65_11 kk) ?_
  refine cR_min lk65_12 mr_9_70 (by first | exact Nat.le_of_ble_eq_true rfl | (simp [xcat, cvo_cat, cat_i, cat_j, cat_r]; done)) ?_
  refine cR_max lk65_15 mr_9_48 (by first | exact Nat.le_of_ble_eq_true rfl | (simp [xcat, cvo_cat, cat_i, cat_j, cat_r]; done)) ?_
  obtain ⟨σ1, h2, h⟩ := Option.bind_eq_some_iff.mp h
  refine cR_putI lk65_18 rf_9_34 rfl bl0 pf_9_6 rfl h2 ?_
  refine cR_lift (fun _ _ kk => eE_aload_n lk65_21 g0 kk) ?_
  refine cR_lift (fun _ _ kk => eE_aload_n lk65_22 g0 kk) ?_
  refine cR_getI lk65_23 rf_9_73 rfl (cob_any rfl bl0) ?_
  refine cR_lift (fun _ _ kk => eE_aload_n lk65_26 g0 kk) ?_
  refine cR_getI lk65_27 rf_9_34 rfl (cob_any rfl bl0) ?_
  refine cR_min lk65_30 mr_9_70 (by first | exact Nat.le_of_ble_eq_true rfl | (simp [xcat, cvo_cat, cat_i, cat_j, cat_r]; done)) ?_
  obtain ⟨σ3, h4, h⟩ := Option.bind_eq_some_iff.mp h
  refine cR_putI lk65_33 rf_9_73 rfl (cob_any rfl bl0) pf_9_11 rfl h4 ?_
  refine cR_lift (fun _ _ kk => eE_aload_n lk65_36 g0 kk) ?_
  obtain ⟨p5, h6, h⟩ := Option.bind_eq_some_iff.mp h
  refine cR_virt (cl := 9) (i := l0) (as := []) lk65_37 mr_9_37 na_66 rfl rfl (by first | exact Nat.le_of_ble_eq_true rfl | (simp [xcat, cvo_cat, cat_i, cat_j, cat_r]; done)) wv_66 wc_66 (cob_any rfl bl0) (k_Log_findMembers_ok hp0 hL hF (d := d + 0) (cob_any rfl bl0) h6) (fun m7  => ?_)
  cases h
  exact cR_end lk65_40 rfl rfl rfl
def k_Log_cutFrom (F : Nat) (σ : CS) (l0 : Nat) (l1 : Int32) : Option (CS) := k_Log_cutFrom_b0 F σ l0 l1
theorem k_Log_cutFrom_ok {E : CE} {pF : Nat → List Value → xH → Option (Option Value × xH)} (hp0 : xNPc pF) (hL : lcAll pF) (hF : lcF pF) {d : Nat} {g : CG} {σ : CS} {F : Nat} {l0 : Nat} {l1 : Int32} {res : CS} (bl0 : cob σ 9 l0) (h : k_Log_cutFrom F σ l0 l1 = some res) : cCo E true pF (d + 3) 65 [.ref (coa E 9 l0), .int l1] none res g σ :=
  cCo_R kk_65 mo_65 ni_65 xm_65 (Nat.le_of_ble_eq_true rfl) (hp0 65 (by decide) _) (k_Log_cutFrom_b0_ok hp0 hL hF g _ σ l0 l1 bl0 rfl rfl _ h)
/-! k_Log_has (67), depth 1 -/
def k_Log_has_b21  (σ : CS) (s0 : Int32) : Option (Int32) :=
  if s0 = 0 ∨ s0 = 1 then some s0 else none
set_option maxRecDepth 4000 in
theorem k_Log_has_b21_ok {E : CE} {pF : Nat → List Value → xH → Option (Option Value × xH)} (hp0 : xNPc pF) (hL : lcAll pF) (hF : lcF pF) {d : Nat}   : ∀ (g : CG) (lv : xL) (σ : CS) (s0 : Int32), ∀ res, k_Log_has_b21  σ s0 = some res → cR E true pF (d + 0) kT67 9 2 (some FieldType.boolean) (some (.int res)) σ g σ (21, lv, [.int s0]) := by
  intro g lv σ s0 res h
  unfold k_Log_has_b21 at h
  by_cases z1 : s0 = 0 ∨ s0 = 1
  · rw [if_pos z1] at h; cases h
    exact cR_end lk67_21 rfl rfl (by first | (simp only [xfin, if_true, if_pos z1]; done) | simp [xfin, z1])
  · rw [if_neg z1] at h; cases h
def k_Log_has_b20  (σ : CS) : Option (Int32) :=
  k_Log_has_b21  σ ((0 : Int32))
set_option maxRecDepth 4000 in
theorem k_Log_has_b20_ok {E : CE} {pF : Nat → List Value → xH → Option (Option Value × xH)} (hp0 : xNPc pF) (hL : lcAll pF) (hF : lcF pF) {d : Nat}   : ∀ (g : CG) (lv : xL) (σ : CS), ∀ res, k_Log_has_b20  σ = some res → cR E true pF (d + 0) kT67 9 2 (some FieldType.boolean) (some (.int res)) σ g σ (20, lv, []) := by
  intro g lv σ res h
  unfold k_Log_has_b20 at h
  refine cR_lift (fun _ _ kk => eE_iconst (v := 0) lk67_20 (by decide) kk) ?_
  exact k_Log_has_b21_ok hp0 hL hF  g lv σ ((0 : Int32))  _ h
def k_Log_has_b0  (σ : CS) (l0 : Nat) (l1 : Int32) : Option (Int32) :=
  if xc2 .le l1 (cI σ 9 l0 3 0) = true then (
    k_Log_has_b20  σ
  ) else (
    if xc2 .gt l1 (cI σ 9 l0 6 0) = true then (
      k_Log_has_b20  σ
    ) else (
      k_Log_has_b21  σ ((1 : Int32))
    )
  )
set_option maxRecDepth 4000 in
theorem k_Log_has_b0_ok {E : CE} {pF : Nat → List Value → xH → Option (Option Value × xH)} (hp0 : xNPc pF) (hL : lcAll pF) (hF : lcF pF) {d : Nat}   : ∀ (g : CG) (lv : xL) (σ : CS) (l0 : Nat) (l1 : Int32), (cob σ 9 l0) → (xg lv 0 = some (.ref (coa E 9 l0))) → (xg lv 1 = some (.int l1)) → ∀ res, k_Log_has_b0  σ l0 l1 = some res → cR E true pF (d + 0) kT67 9 2 (some FieldType.boolean) (some (.int res)) σ g σ (0, lv, []) := by
  intro g lv σ l0 l1 bl0 g0 g1 res h
  unfold k_Log_has_b0 at h
  refine cR_lift (fun _ _ kk => eE_iload_n lk67_0 g1 kk) ?_
  refine cR_lift (fun _ _ kk => eE_aload_n lk67_1 g0 kk) ?_
  refine cR_getI lk67_2 rf_9_28 rfl bl0 ?_
  refine cR_icmp (t := 20) lk67_5 (by decide) (fun c2 => ?_) (fun c2 => ?_)
  · rw [if_pos c2] at h
    exact k_Log_has_b20_ok hp0 hL hF  g lv σ  _ h
  · rw [if_neg c2] at h
    refine cR_lift (fun _ _ kk => eE_iload_n lk67_8 g1 kk) ?_
    refine cR_lift (fun _ _ kk => eE_aload_n lk67_9 g0 kk) ?_
    refine cR_getI lk67_10 rf_9_34 rfl bl0 ?_
    refine cR_icmp (t := 20) lk67_13 (by decide) (fun c3 => ?_) (fun c3 => ?_)
    · rw [if_pos c3] at h
      exact k_Log_has_b20_ok hp0 hL hF  g lv σ  _ h
    · rw [if_neg c3] at h
      refine cR_lift (fun _ _ kk => eE_iconst (v := 1) lk67_16 (by decide) kk) ?_
      refine cR_lift (fun _ _ kk => eE_goto (t := 21) lk67_17 (by decide) kk) ?_
      exact k_Log_has_b21_ok hp0 hL hF  g lv σ ((1 : Int32))  _ h
def k_Log_has (σ : CS) (l0 : Nat) (l1 : Int32) : Option (Int32) := k_Log_has_b0 σ l0 l1
theorem k_Log_has_ok {E : CE} {pF : Nat → List Value → xH → Option (Option Value × xH)} (hp0 : xNPc pF) (hL : lcAll pF) (hF : lcF pF) {d : Nat} {g : CG} {σ : CS} {l0 : Nat} {l1 : Int32} {res : Int32} (bl0 : cob σ 9 l0) (h : k_Log_has σ l0 l1 = some res) : cCo E true pF (d + 1) 67 [.ref (coa E 9 l0), .int l1] (some (.int res)) σ g σ :=
  cCo_R kk_67 mo_67 ni_67 xm_67 (Nat.le_of_ble_eq_true rfl) (hp0 67 (by decide) _) (k_Log_has_b0_ok hp0 hL hF g _ σ l0 l1 bl0 rfl rfl _ h)
/-! k_Log_length (69), depth 1 -/
def k_Log_length_b0  (σ : CS) (l0 : Nat) : Option (Int32) :=
  some ((cI σ 9 l0 6 0) - (cI σ 9 l0 3 0))
set_option maxRecDepth 4000 in
theorem k_Log_length_b0_ok {E : CE} {pF : Nat → List Value → xH → Option (Option Value × xH)} (hp0 : xNPc pF) (hL : lcAll pF) (hF : lcF pF) {d : Nat}   : ∀ (g : CG) (lv : xL) (σ : CS) (l0 : Nat), (cob σ 9 l0) → (xg lv 0 = some (.ref (coa E 9 l0))) → ∀ res, k_Log_length_b0  σ l0 = some res → cR E true pF (d + 0) kT69 9 1 (some FieldType.int) (some (.int res)) σ g σ (0, lv, []) := by
  intro g lv σ l0 bl0 g0 res h
  unfold k_Log_length_b0 at h
  refine cR_lift (fun _ _ kk => eE_aload_n lk69_0 g0 kk) ?_
  refine cR_getI lk69_1 rf_9_34 rfl bl0 ?_
  refine cR_lift (fun _ _ kk => eE_aload_n lk69_4 g0 kk) ?_
  refine cR_getI lk69_5 rf_9_28 rfl bl0 ?_
  refine cR_lift (fun _ _ kk => eE_isub lk69_8 kk) ?_
  cases h
  exact cR_end lk69_9 rfl rfl rfl
def k_Log_length (σ : CS) (l0 : Nat) : Option (Int32) := k_Log_length_b0 σ l0
theorem k_Log_length_ok {E : CE} {pF : Nat → List Value → xH → Option (Option Value × xH)} (hp0 : xNPc pF) (hL : lcAll pF) (hF : lcF pF) {d : Nat} {g : CG} {σ : CS} {l0 : Nat} {res : Int32} (bl0 : cob σ 9 l0) (h : k_Log_length σ l0 = some res) : cCo E true pF (d + 1) 69 [.ref (coa E 9 l0)] (some (.int res)) σ g σ :=
  cCo_R kk_69 mo_69 ni_69 xm_69 (Nat.le_of_ble_eq_true rfl) (hp0 69 (by decide) _) (k_Log_length_b0_ok hp0 hL hF g _ σ l0 bl0 rfl _ h)
/-! k_Log_membersUpTo (71), depth 2 -/
def k_Log_membersUpTo_b33 (F : Nat)  (σ : CS) (s0 : Int32) : Option (Int32) :=
  some s0
set_option maxRecDepth 4000 in
theorem k_Log_membersUpTo_b33_ok {E : CE} {pF : Nat → List Value → xH → Option (Option Value × xH)} (hp0 : xNPc pF) (hL : lcAll pF) (hF : lcF pF) {d : Nat} {F : Nat}   : ∀ (g : CG) (lv : xL) (σ : CS) (s0 : Int32), ∀ res, k_Log_membersUpTo_b33 F  σ s0 = some res → cR E true pF (d + 1) kT71 9 3 (some FieldType.int) (some (.int res)) σ g σ (33, lv, [.int s0]) := by
  intro g lv σ s0 res h
  unfold k_Log_membersUpTo_b33 at h
  cases h
  exact cR_end lk71_33 rfl rfl rfl
def k_Log_membersUpTo_b0 (F : Nat)  (σ : CS) (l0 : Nat) (l1 : Int32) : Option (Int32) :=
  (k_Log_membersBehind F σ l0 l1).bind fun p1 =>
  if xc2 .ne p1 (cI σ 9 l0 3 0) = true then (
    (k_Log_at σ l0 p1).bind fun p9 =>
    (crd σ 9 l0 1 (p9 + ((3 : Int32)))).bind fun x12 =>
    k_Log_membersUpTo_b33 F  σ x12
  ) else (
    k_Log_membersUpTo_b33 F  σ (cI σ 9 l0 5 0)
  )
set_option maxRecDepth 4000 in
theorem k_Log_membersUpTo_b0_ok {E : CE} {pF : Nat → List Value → xH → Option (Option Value × xH)} (hp0 : xNPc pF) (hL : lcAll pF) (hF : lcF pF) {d : Nat} {F : Nat}   : ∀ (g : CG) (lv : xL) (σ : CS) (l0 : Nat) (l1 : Int32), (cob σ 9 l0) → (xg lv 0 = some (.ref (coa E 9 l0))) → (xg lv 1 = some (.int l1)) → ∀ res, k_Log_membersUpTo_b0 F  σ l0 l1 = some res → cR E true pF (d + 1) kT71 9 3 (some FieldType.int) (some (.int res)) σ g σ (0, lv, []) := by
  intro g lv σ l0 l1 bl0 g0 g1 res h
  unfold k_Log_membersUpTo_b0 at h
  refine cR_lift (fun _ _ kk => eE_aload_n lk71_0 g0 kk) ?_
  refine cR_lift (fun _ _ kk => eE_iload_n lk71_1 g1 kk) ?_
  obtain ⟨p1, h2, h⟩ := Option.bind_eq_some_iff.mp h
  refine cR_virt (cl := 9) (i := l0) (as := [.int l1]) lk71_2 mr_9_76 na_70 rfl rfl (by first | exact Nat.le_of_ble_eq_true rfl | (simp [xcat, cvo_cat, cat_i, cat_j, cat_r]; done)) wv_70 wc_70 bl0 (k_Log_membersBehind_ok hp0 hL hF (d := d + 0) bl0 h2) (fun m3  => ?_)
  refine cR_stI (j := 2) lk71_5 (Or.inr ⟨_, rfl, rfl⟩) (by decide) (fun vq4 gq5 kq6 => ?_)
  have gq7 := kq6 0 _ (by decide) (fun e => absurd e (by decide)) g0
  refine cR_lift (fun _ _ kk => eE_iload_n lk71_6 gq5 kk) ?_
  refine cR_lift (fun _ _ kk => eE_aload_n lk71_7 gq7 kk) ?_
  refine cR_getI lk71_8 rf_9_28 rfl bl0 ?_
  refine cR_icmp (t := 21) lk71_11 (by decide) (fun c8 => ?_) (fun c8 => ?_)
  · rw [if_pos c8] at h
    refine cR_lift (fun _ _ kk => eE_aload_n lk71_21 gq7 kk) ?_
    refine cR_getA lk71_22 rf_9_9 (by decide) bl0 ?_
    refine cR_lift (fun _ _ kk => eE_aload_n lk71_25 gq7 kk) ?_
    refine cR_lift (fun _ _ kk => eE_iload_n lk71_26 gq5 kk) ?_
    obtain ⟨p9, h10, h⟩ := Option.bind_eq_some_iff.mp h
    refine cR_virt (cl := 9) (i := l0) (as := [.int p1]) lk71_27 mr_9_44 na_63 rfl rfl (by first | exact Nat.le_of_ble_eq_true rfl | (simp [xcat, cvo_cat, cat_i, cat_j, cat_r]; done)) wv_63 wc_63 bl0 (k_Log_at_ok hp0 hL hF (d := d + 0) bl0 h10) (fun m11  => ?_)
    refine cR_lift (fun _ _ kk => eE_iconst (v := 3) lk71_30 (by decide) kk) ?_
    refine cR_lift (fun _ _ kk => eE_iadd lk71_31 kk) ?_
    obtain ⟨x12, h13, h⟩ := Option.bind_eq_some_iff.mp h
    refine cR_iald (cl := 9) (i := l0) (f := 1) lk71_32 (by decide) rfl bl0 h13 ?_
    exact k_Log_membersUpTo_b33_ok hp0 hL hF  g vq4 σ x12  _ h
  · rw [if_neg c8] at h
    refine cR_lift (fun _ _ kk => eE_aload_n lk71_14 gq7 kk) ?_
    refine cR_getI lk71_15 rf_9_22 rfl bl0 ?_
    refine cR_lift (fun _ _ kk => eE_goto (t := 33) lk71_18 (by decide) kk) ?_
    exact k_Log_membersUpTo_b33_ok hp0 hL hF  g vq4 σ (cI σ 9 l0 5 0)  _ h
def k_Log_membersUpTo (F : Nat) (σ : CS) (l0 : Nat) (l1 : Int32) : Option (Int32) := k_Log_membersUpTo_b0 F σ l0 l1
theorem k_Log_membersUpTo_ok {E : CE} {pF : Nat → List Value → xH → Option (Option Value × xH)} (hp0 : xNPc pF) (hL : lcAll pF) (hF : lcF pF) {d : Nat} {g : CG} {σ : CS} {F : Nat} {l0 : Nat} {l1 : Int32} {res : Int32} (bl0 : cob σ 9 l0) (h : k_Log_membersUpTo F σ l0 l1 = some res) : cCo E true pF (d + 2) 71 [.ref (coa E 9 l0), .int l1] (some (.int res)) σ g σ :=
  cCo_R kk_71 mo_71 ni_71 xm_71 (Nat.le_of_ble_eq_true rfl) (hp0 71 (by decide) _) (k_Log_membersUpTo_b0_ok hp0 hL hF g _ σ l0 l1 bl0 rfl rfl _ h)
/-! k_Log_termAt (75), depth 2 -/
def k_Log_termAt_b37  (σ : CS) (s0 : Int32) : Option (Int32) :=
  some s0
set_option maxRecDepth 4000 in
theorem k_Log_termAt_b37_ok {E : CE} {pF : Nat → List Value → xH → Option (Option Value × xH)} (hp0 : xNPc pF) (hL : lcAll pF) (hF : lcF pF) {d : Nat}   : ∀ (g : CG) (lv : xL) (σ : CS) (s0 : Int32), ∀ res, k_Log_termAt_b37  σ s0 = some res → cR E true pF (d + 1) kT75 9 2 (some FieldType.int) (some (.int res)) σ g σ (37, lv, [.int s0]) := by
  intro g lv σ s0 res h
  unfold k_Log_termAt_b37 at h
  cases h
  exact cR_end lk75_37 rfl rfl rfl
def k_Log_termAt_b0  (σ : CS) (l0 : Nat) (l1 : Int32) : Option (Int32) :=
  if xc2 .ne l1 (cI σ 9 l0 3 0) = true then (
    (k_Log_has σ l0 l1).bind fun p2 =>
    if xc0 .eq p2 = true then (
      k_Log_termAt_b37  σ ((-1 : Int32))
    ) else (
      (k_Log_at σ l0 l1).bind fun p6 =>
      (crd σ 9 l0 1 (p6 + ((0 : Int32)))).bind fun x9 =>
      k_Log_termAt_b37  σ x9
    )
  ) else (
    some (cI σ 9 l0 4 0)
  )
set_option maxRecDepth 4000 in
theorem k_Log_termAt_b0_ok {E : CE} {pF : Nat → List Value → xH → Option (Option Value × xH)} (hp0 : xNPc pF) (hL : lcAll pF) (hF : lcF pF) {d : Nat}   : ∀ (g : CG) (lv : xL) (σ : CS) (l0 : Nat) (l1 : Int32), (cob σ 9 l0) → (xg lv 0 = some (.ref (coa E 9 l0))) → (xg lv 1 = some (.int l1)) → ∀ res, k_Log_termAt_b0  σ l0 l1 = some res → cR E true pF (d + 1) kT75 9 2 (some FieldType.int) (some (.int res)) σ g σ (0, lv, []) := by
  intro g lv σ l0 l1 bl0 g0 g1 res h
  unfold k_Log_termAt_b0 at h
  refine cR_lift (fun _ _ kk => eE_iload_n lk75_0 g1 kk) ?_
  refine cR_lift (fun _ _ kk => eE_aload_n lk75_1 g0 kk) ?_
  refine cR_getI lk75_2 rf_9_28 rfl bl0 ?_
  refine cR_icmp (t := 13) lk75_5 (by decide) (fun c1 => ?_) (fun c1 => ?_)
  · rw [if_pos c1] at h
    refine cR_lift (fun _ _ kk => eE_aload_n lk75_13 g0 kk) ?_
    refine cR_lift (fun _ _ kk => eE_iload_n lk75_14 g1 kk) ?_
    obtain ⟨p2, h3, h⟩ := Option.bind_eq_some_iff.mp h
    refine cR_virt (cl := 9) (i := l0) (as := [.int l1]) lk75_15 mr_9_40 na_67 rfl rfl (by first | exact Nat.le_of_ble_eq_true rfl | (simp [xcat, cvo_cat, cat_i, cat_j, cat_r]; done)) wv_67 wc_67 bl0 (k_Log_has_ok hp0 hL hF (d := d + 0) bl0 h3) (fun m4  => ?_)
    refine cR_if (t := 36) lk75_18 (by decide) (fun c5 => ?_) (fun c5 => ?_)
    · rw [if_pos c5] at h
      refine cR_lift (fun _ _ kk => eE_iconst (v := (-1)) lk75_36 (by decide) kk) ?_
      exact k_Log_termAt_b37_ok hp0 hL hF  g lv σ ((-1 : Int32))  _ h
    · rw [if_neg c5] at h
      refine cR_lift (fun _ _ kk => eE_aload_n lk75_21 g0 kk) ?_
      refine cR_getA lk75_22 rf_9_9 (by decide) bl0 ?_
      refine cR_lift (fun _ _ kk => eE_aload_n lk75_25 g0 kk) ?_
      refine cR_lift (fun _ _ kk => eE_iload_n lk75_26 g1 kk) ?_
      obtain ⟨p6, h7, h⟩ := Option.bind_eq_some_iff.mp h
      refine cR_virt (cl := 9) (i := l0) (as := [.int l1]) lk75_27 mr_9_44 na_63 rfl rfl (by first | exact Nat.le_of_ble_eq_true rfl | (simp [xcat, cvo_cat, cat_i, cat_j, cat_r]; done)) wv_63 wc_63 bl0 (k_Log_at_ok hp0 hL hF (d := d + 0) bl0 h7) (fun m8  => ?_)
      refine cR_lift (fun _ _ kk => eE_iconst (v := 0) lk75_30 (by decide) kk) ?_
      refine cR_lift (fun _ _ kk => eE_iadd lk75_31 kk) ?_
      obtain ⟨x9, h10, h⟩ := Option.bind_eq_some_iff.mp h
      refine cR_iald (cl := 9) (i := l0) (f := 1) lk75_32 (by decide) rfl bl0 h10 ?_
      refine cR_lift (fun _ _ kk => eE_goto (t := 37) lk75_33 (by decide) kk) ?_
      exact k_Log_termAt_b37_ok hp0 hL hF  g lv σ x9  _ h
  · rw [if_neg c1] at h
    refine cR_lift (fun _ _ kk => eE_aload_n lk75_8 g0 kk) ?_
    refine cR_getI lk75_9 rf_9_31 rfl bl0 ?_
    cases h
    exact cR_end lk75_12 rfl rfl rfl
def k_Log_termAt (σ : CS) (l0 : Nat) (l1 : Int32) : Option (Int32) := k_Log_termAt_b0 σ l0 l1
theorem k_Log_termAt_ok {E : CE} {pF : Nat → List Value → xH → Option (Option Value × xH)} (hp0 : xNPc pF) (hL : lcAll pF) (hF : lcF pF) {d : Nat} {g : CG} {σ : CS} {l0 : Nat} {l1 : Int32} {res : Int32} (bl0 : cob σ 9 l0) (h : k_Log_termAt σ l0 l1 = some res) : cCo E true pF (d + 2) 75 [.ref (coa E 9 l0), .int l1] (some (.int res)) σ g σ :=
  cCo_R kk_75 mo_75 ni_75 xm_75 (Nat.le_of_ble_eq_true rfl) (hp0 75 (by decide) _) (k_Log_termAt_b0_ok hp0 hL hF g _ σ l0 l1 bl0 rfl rfl _ h)
/-! k_Log_moveBase (72), depth 3 -/
def k_Log_moveBase_b50 (F : Nat)  (σ : CS) (l0 : Nat) (l1 : Int32) (l2 : Int32) (l3 : Int32) (l4 : Int32) : Option (CS) :=
  (some (csI σ 9 l0 3 0 l1)).bind fun σ1 =>
  (some (csI σ1 9 l0 4 0 l2)).bind fun σ3 =>
  (some (csI σ3 9 l0 5 0 l3)).bind fun σ5 =>
  (some (csI σ5 9 l0 6 0 (l1 + l4))).bind fun σ7 =>
  (some (csI σ7 9 l0 11 0 (cmin (cI σ7 9 l0 11 0) (cI σ7 9 l0 6 0)))).bind fun σ9 =>
  (k_Log_findMembers F σ9 l0).bind fun p11 =>
  some p11
set_option maxRecDepth 4000 in
theorem k_Log_moveBase_b50_ok {E : CE} {pF : Nat → List Value → xH → Option (Option Value × xH)} (hp0 : xNPc pF) (hL : lcAll pF) (hF : lcF pF) {d : Nat} {F : Nat}   : ∀ (g : CG) (lv : xL) (σ : CS) (l0 : Nat) (l1 : Int32) (l2 : Int32) (l3 : Int32) (l4 : Int32), (cob σ 9 l0) → (xg lv 0 = some (.ref (coa E 9 l0))) → (xg lv 1 = some (.int l1)) → (xg lv 2 = some (.int l2)) → (xg lv 3 = some (.int l3)) → (xg lv 4 = some (.int l4)) → ∀ res, k_Log_moveBase_b50 F  σ l0 l1 l2 l3 l4 = some res → cR E true pF (d + 2) kT72 9 5 none none res g σ (50, lv, []) := by
  intro g lv σ l0 l1 l2 l3 l4 bl0 g0 g1 g2 g3 g4 res h
  unfold k_Log_moveBase_b50 at h
  refine cR_lift (fun _ _ kk => eE_aload_n lk72_50 g0 kk) ?_
  refine cR_lift (fun _ _ kk => eE_iload_n lk72_51 g1 kk) ?_
  obtain ⟨σ1, h2, h⟩ := Option.bind_eq_some_iff.mp h
  refine cR_putI lk72_52 rf_9_28 rfl bl0 pf_9_3 rfl h2 ?_
  refine cR_lift (fun _ _ kk => eE_aload_n lk72_55 g0 kk) ?_
  refine cR_lift (fun _ _ kk => eE_iload_n lk72_56 g2 kk) ?_
  obtain ⟨σ3, h4, h⟩ := Option.bind_eq_some_iff.mp h
  refine cR_putI lk72_57 rf_9_31 rfl (cob_any rfl bl0) pf_9_4 rfl h4 ?_
  refine cR_lift (fun _ _ kk => eE_aload_n lk72_60 g0 kk) ?_
  refine cR_lift (fun _ _ kk => eE_iload_n lk72_61 g3 kk) ?_
  obtain ⟨σ5, h6, h⟩ := Option.bind_eq_some_iff.mp h
  refine cR_putI lk72_62 rf_9_22 rfl (cob_any rfl bl0) pf_9_5 rfl h6 ?_
  refine cR_lift (fun _ _ kk => eE_aload_n lk72_65 g0 kk) ?_
  refine cR_lift (fun _ _ kk => eE_iload_n lk72_66 g1 kk) ?_
  refine cR_lift (fun _ _ kk => eE_iload lk72_67 g4 kk) ?_
  refine cR_lift (fun _ _ kk => eE_iadd lk72_69 kk) ?_
  obtain ⟨σ7, h8, h⟩ := Option.bind_eq_some_iff.mp h
  refine cR_putI lk72_70 rf_9_34 rfl (cob_any rfl bl0) pf_9_6 rfl h8 ?_
  refine cR_lift (fun _ _ kk => eE_aload_n lk72_73 g0 kk) ?_
  refine cR_lift (fun _ _ kk => eE_aload_n lk72_74 g0 kk) ?_
  refine cR_getI lk72_75 rf_9_73 rfl (cob_any rfl bl0) ?_
  refine cR_lift (fun _ _ kk => eE_aload_n lk72_78 g0 kk) ?_
  refine cR_getI lk72_79 rf_9_34 rfl (cob_any rfl bl0) ?_
  refine cR_min lk72_82 mr_9_70 (by first | exact Nat.le_of_ble_eq_true rfl | (simp [xcat, cvo_cat, cat_i, cat_j, cat_r]; done)) ?_
  obtain ⟨σ9, h10, h⟩ := Option.bind_eq_some_iff.mp h
  refine cR_putI lk72_85 rf_9_73 rfl (cob_any rfl bl0) pf_9_11 rfl h10 ?_
  refine cR_lift (fun _ _ kk => eE_aload_n lk72_88 g0 kk) ?_
  obtain ⟨p11, h12, h⟩ := Option.bind_eq_some_iff.mp h
  refine cR_virt (cl := 9) (i := l0) (as := []) lk72_89 mr_9_37 na_66 rfl rfl (by first | exact Nat.le_of_ble_eq_true rfl | (simp [xcat, cvo_cat, cat_i, cat_j, cat_r]; done)) wv_66 wc_66 (cob_any rfl bl0) (k_Log_findMembers_ok hp0 hL hF (d := d + 0) (cob_any rfl bl0) h12) (fun m13  => ?_)
  cases h
  exact cR_end lk72_92 rfl rfl rfl
def k_Log_moveBase_b19 (F : Nat)  (σ : CS) (s0 : Int32) (l0 : Nat) (l1 : Int32) (l2 : Int32) (l3 : Int32) : Option (CS) :=
  if xc0 .le s0 = true then (
    k_Log_moveBase_b50 F  σ l0 l1 l2 l3 s0
  ) else (
    (k_Log_at σ l0 (l1 + ((1 : Int32)))).bind fun p22 =>
    (ccpy σ 9 l0 1 p22 9 l0 1 ((0 : Int32)) (s0 * ((6 : Int32)))).bind fun σ25 =>
    k_Log_moveBase_b50 F  σ25 l0 l1 l2 l3 s0
  )
set_option maxRecDepth 4000 in
theorem k_Log_moveBase_b19_ok {E : CE} {pF : Nat → List Value → xH → Option (Option Value × xH)} (hp0 : xNPc pF) (hL : lcAll pF) (hF : lcF pF) {d : Nat} {F : Nat}   : ∀ (g : CG) (lv : xL) (σ : CS) (s0 : Int32) (l0 : Nat) (l1 : Int32) (l2 : Int32) (l3 : Int32), (cob σ 9 l0) → (xg lv 0 = some (.ref (coa E 9 l0))) → (xg lv 1 = some (.int l1)) → (xg lv 2 = some (.int l2)) → (xg lv 3 = some (.int l3)) → ∀ res, k_Log_moveBase_b19 F  σ s0 l0 l1 l2 l3 = some res → cR E true pF (d + 2) kT72 9 5 none none res g σ (19, lv, [.int s0]) := by
  intro g lv σ s0 l0 l1 l2 l3 bl0 g0 g1 g2 g3 res h
  unfold k_Log_moveBase_b19 at h
  refine cR_stI (j := 4) lk72_19 (Or.inl rfl) (by decide) (fun vq14 gq15 kq16 => ?_)
  have gq17 := kq16 0 _ (by decide) (fun e => absurd e (by decide)) g0
  have gq18 := kq16 1 _ (by decide) (fun e => absurd e (by decide)) g1
  have gq19 := kq16 2 _ (by decide) (fun e => absurd e (by decide)) g2
  have gq20 := kq16 3 _ (by decide) (fun _ => rfl) g3
  refine cR_lift (fun _ _ kk => eE_iload lk72_21 gq15 kk) ?_
  refine cR_if (t := 50) lk72_23 (by decide) (fun c21 => ?_) (fun c21 => ?_)
  · rw [if_pos c21] at h
    exact k_Log_moveBase_b50_ok hp0 hL hF  g vq14 σ l0 l1 l2 l3 s0 bl0 gq17 gq18 gq19 gq20 gq15 _ h
  · rw [if_neg c21] at h
    refine cR_lift (fun _ _ kk => eE_aload_n lk72_26 gq17 kk) ?_
    refine cR_getA lk72_27 rf_9_9 (by decide) bl0 ?_
    refine cR_lift (fun _ _ kk => eE_aload_n lk72_30 gq17 kk) ?_
    refine cR_lift (fun _ _ kk => eE_iload_n lk72_31 gq18 kk) ?_
    refine cR_lift (fun _ _ kk => eE_iconst (v := 1) lk72_32 (by decide) kk) ?_
    refine cR_lift (fun _ _ kk => eE_iadd lk72_33 kk) ?_
    obtain ⟨p22, h23, h⟩ := Option.bind_eq_some_iff.mp h
    refine cR_virt (cl := 9) (i := l0) (as := [.int (l1 + ((1 : Int32)))]) lk72_34 mr_9_44 na_63 rfl rfl (by first | exact Nat.le_of_ble_eq_true rfl | (simp [xcat, cvo_cat, cat_i, cat_j, cat_r]; done)) wv_63 wc_63 bl0 (k_Log_at_ok hp0 hL hF (d := d + 1) bl0 h23) (fun m24  => ?_)
    refine cR_lift (fun _ _ kk => eE_aload_n lk72_37 gq17 kk) ?_
    refine cR_getA lk72_38 rf_9_9 (by decide) bl0 ?_
    refine cR_lift (fun _ _ kk => eE_iconst (v := 0) lk72_41 (by decide) kk) ?_
    refine cR_lift (fun _ _ kk => eE_iload lk72_42 gq15 kk) ?_
    refine cR_lift (fun _ _ kk => eE_bipush (v := 6) lk72_44 (by decide) kk) ?_
    refine cR_lift (fun _ _ kk => eE_imul lk72_46 kk) ?_
    obtain ⟨σ25, h26, h⟩ := Option.bind_eq_some_iff.mp h
    refine cR_cpy (a := 9) (i := l0) (f := 1) (a' := 9) (i' := l0) (f' := 1) lk72_47 yc_9_61.1 yc_9_61.2 (by decide) (by decide) (by decide) bl0 bl0 (by first | exact Nat.le_of_ble_eq_true rfl | (simp [xcat, cvo_cat, cat_i, cat_j, cat_r]; done)) h26 ?_
    exact k_Log_moveBase_b50_ok hp0 hL hF  g vq14 σ25 l0 l1 l2 l3 s0 (cob_any rfl bl0) gq17 gq18 gq19 gq20 gq15 _ h
def k_Log_moveBase_b0 (F : Nat)  (σ : CS) (l0 : Nat) (l1 : Int32) (l2 : Int32) (l3 : Int32) : Option (CS) :=
  (k_Log_termAt σ l0 l1).bind fun p27 =>
  if xc2 .ne p27 l2 = true then (
    k_Log_moveBase_b19 F  σ ((0 : Int32)) l0 l1 l2 l3
  ) else (
    k_Log_moveBase_b19 F  σ ((cI σ 9 l0 6 0) - l1) l0 l1 l2 l3
  )
set_option maxRecDepth 4000 in
theorem k_Log_moveBase_b0_ok {E : CE} {pF : Nat → List Value → xH → Option (Option Value × xH)} (hp0 : xNPc pF) (hL : lcAll pF) (hF : lcF pF) {d : Nat} {F : Nat}   : ∀ (g : CG) (lv : xL) (σ : CS) (l0 : Nat) (l1 : Int32) (l2 : Int32) (l3 : Int32), (cob σ 9 l0) → (xg lv 0 = some (.ref (coa E 9 l0))) → (xg lv 1 = some (.int l1)) → (xg lv 2 = some (.int l2)) → (xg lv 3 = some (.int l3)) → ∀ res, k_Log_moveBase_b0 F  σ l0 l1 l2 l3 = some res → cR E true pF (d + 2) kT72 9 5 none none res g σ (0, lv, []) := by
  intro g lv σ l0 l1 l2 l3 bl0 g0 g1 g2 g3 res h
  unfold k_Log_moveBase_b0 at h
  refine cR_lift (fun _ _ kk => eE_aload_n lk72_0 g0 kk) ?_
  refine cR_lift (fun _ _ kk => eE_iload_n lk72_1 g1 kk) ?_
  obtain ⟨p27, h28, h⟩ := Option.bind_eq_some_iff.mp h
  refine cR_virt (cl := 9) (i := l0) (as := [.int l1]) lk72_2 mr_9_54 na_75 rfl rfl (by first | exact Nat.le_of_ble_eq_true rfl | (simp [xcat, cvo_cat, cat_i, cat_j, cat_r]; done)) wv_75 wc_75 bl0 (k_Log_termAt_ok hp0 hL hF (d := d + 0) bl0 h28) (fun m29  => ?_)
  refine cR_lift (fun _ _ kk => eE_iload_n lk72_5 g2 kk) ?_
  refine cR_icmp (t := 18) lk72_6 (by decide) (fun c30 => ?_) (fun c30 => ?_)
  · rw [if_pos c30] at h
    refine cR_lift (fun _ _ kk => eE_iconst (v := 0) lk72_18 (by decide) kk) ?_
    exact k_Log_moveBase_b19_ok hp0 hL hF  g lv σ ((0 : Int32)) l0 l1 l2 l3 bl0 g0 g1 g2 g3 _ h
  · rw [if_neg c30] at h
    refine cR_lift (fun _ _ kk => eE_aload_n lk72_9 g0 kk) ?_
    refine cR_getI lk72_10 rf_9_34 rfl bl0 ?_
    refine cR_lift (fun _ _ kk => eE_iload_n lk72_13 g1 kk) ?_
    refine cR_lift (fun _ _ kk => eE_isub lk72_14 kk) ?_
    refine cR_lift (fun _ _ kk => eE_goto (t := 19) lk72_15 (by decide) kk) ?_
    exact k_Log_moveBase_b19_ok hp0 hL hF  g lv σ ((cI σ 9 l0 6 0) - l1) l0 l1 l2 l3 bl0 g0 g1 g2 g3 _ h
def k_Log_moveBase (F : Nat) (σ : CS) (l0 : Nat) (l1 : Int32) (l2 : Int32) (l3 : Int32) : Option (CS) := k_Log_moveBase_b0 F σ l0 l1 l2 l3
theorem k_Log_moveBase_ok {E : CE} {pF : Nat → List Value → xH → Option (Option Value × xH)} (hp0 : xNPc pF) (hL : lcAll pF) (hF : lcF pF) {d : Nat} {g : CG} {σ : CS} {F : Nat} {l0 : Nat} {l1 : Int32} {l2 : Int32} {l3 : Int32} {res : CS} (bl0 : cob σ 9 l0) (h : k_Log_moveBase F σ l0 l1 l2 l3 = some res) : cCo E true pF (d + 3) 72 [.ref (coa E 9 l0), .int l1, .int l2, .int l3] none res g σ :=
  cCo_R kk_72 mo_72 ni_72 xm_72 (Nat.le_of_ble_eq_true rfl) (hp0 72 (by decide) _) (k_Log_moveBase_b0_ok hp0 hL hF g _ σ l0 l1 l2 l3 bl0 rfl rfl rfl rfl _ h)
/-! k_Log_rowOf (73), depth 1 -/
def k_Log_rowOf_b0  (σ : CS) (l0 : Nat) (l1 : Int32) (l2 : Int32) (l3 : Int32) (l4 : Int32) (l5 : Int32) (l6 : Int32) : Option ((Nat) × CS) :=
  (cwr σ 9 l0 2 ((0 : Int32)) l1).bind fun σ1 =>
  (cwr σ1 9 l0 2 ((1 : Int32)) l2).bind fun σ3 =>
  (cwr σ3 9 l0 2 ((2 : Int32)) l3).bind fun σ5 =>
  (cwr σ5 9 l0 2 ((3 : Int32)) l4).bind fun σ7 =>
  (cwr σ7 9 l0 2 ((4 : Int32)) l5).bind fun σ9 =>
  (cwr σ9 9 l0 2 ((5 : Int32)) l6).bind fun σ11 =>
  some (l0, σ11)
set_option maxRecDepth 4000 in
theorem k_Log_rowOf_b0_ok {E : CE} {pF : Nat → List Value → xH → Option (Option Value × xH)} (hp0 : xNPc pF) (hL : lcAll pF) (hF : lcF pF) {d : Nat}   : ∀ (g : CG) (lv : xL) (σ : CS) (l0 : Nat) (l1 : Int32) (l2 : Int32) (l3 : Int32) (l4 : Int32) (l5 : Int32) (l6 : Int32), (cob σ 9 l0) → (xg lv 0 = some (.ref (coa E 9 l0))) → (xg lv 1 = some (.int l1)) → (xg lv 2 = some (.int l2)) → (xg lv 3 = some (.int l3)) → (xg lv 4 = some (.int l4)) → (xg lv 5 = some (.int l5)) → (xg lv 6 = some (.int l6)) → ∀ res, k_Log_rowOf_b0  σ l0 l1 l2 l3 l4 l5 l6 = some res → cR E true pF (d + 0) kT73 9 7 (some (FieldType.array FieldType.int)) (some (.ref (car E g 9 res.1 2))) res.2 g σ (0, lv, []) := by
  intro g lv σ l0 l1 l2 l3 l4 l5 l6 bl0 g0 g1 g2 g3 g4 g5 g6 res h
  unfold k_Log_rowOf_b0 at h
  refine cR_lift (fun _ _ kk => eE_aload_n lk73_0 g0 kk) ?_
  refine cR_getA lk73_1 rf_9_15 (by decide) bl0 ?_
  refine cR_lift (fun _ _ kk => eE_iconst (v := 0) lk73_4 (by decide) kk) ?_
  refine cR_lift (fun _ _ kk => eE_iload_n lk73_5 g1 kk) ?_
  obtain ⟨σ1, h2, h⟩ := Option.bind_eq_some_iff.mp h
  refine cR_iast (cl := 9) (i := l0) (f := 2) lk73_6 (by decide) rfl bl0 h2 ?_
  refine cR_lift (fun _ _ kk => eE_aload_n lk73_7 g0 kk) ?_
  refine cR_getA lk73_8 rf_9_15 (by decide) (cob_any rfl bl0) ?_
  refine cR_lift (fun _ _ kk => eE_iconst (v := 1) lk73_11 (by decide) kk) ?_
  refine cR_lift (fun _ _ kk => eE_iload_n lk73_12 g2 kk) ?_
  obtain ⟨σ3, h4, h⟩ := Option.bind_eq_some_iff.mp h
  refine cR_iast (cl := 9) (i := l0) (f := 2) lk73_13 (by decide) rfl (cob_any rfl bl0) h4 ?_
  refine cR_lift (fun _ _ kk => eE_aload_n lk73_14 g0 kk) ?_
  refine cR_getA lk73_15 rf_9_15 (by decide) (cob_any rfl bl0) ?_
  refine cR_lift (fun _ _ kk => eE_iconst (v := 2) lk73_18 (by decide) kk) ?_
  refine cR_lift (fun _ _ kk => eE_iload_n lk73_19 g3 kk) ?_
  obtain ⟨σ5, h6, h⟩ := Option.bind_eq_some_iff.mp h
  refine cR_iast (cl := 9) (i := l0) (f := 2) lk73_20 (by decide) rfl (cob_any rfl bl0) h6 ?_
  refine cR_lift (fun _ _ kk => eE_aload_n lk73_21 g0 kk) ?_
  refine cR_getA lk73_22 rf_9_15 (by decide) (cob_any rfl bl0) ?_
  refine cR_lift (fun _ _ kk => eE_iconst (v := 3) lk73_25 (by decide) kk) ?_
  refine cR_lift (fun _ _ kk => eE_iload lk73_26 g4 kk) ?_
  obtain ⟨σ7, h8, h⟩ := Option.bind_eq_some_iff.mp h
  refine cR_iast (cl := 9) (i := l0) (f := 2) lk73_28 (by decide) rfl (cob_any rfl bl0) h8 ?_
  refine cR_lift (fun _ _ kk => eE_aload_n lk73_29 g0 kk) ?_
  refine cR_getA lk73_30 rf_9_15 (by decide) (cob_any rfl bl0) ?_
  refine cR_lift (fun _ _ kk => eE_iconst (v := 4) lk73_33 (by decide) kk) ?_
  refine cR_lift (fun _ _ kk => eE_iload lk73_34 g5 kk) ?_
  obtain ⟨σ9, h10, h⟩ := Option.bind_eq_some_iff.mp h
  refine cR_iast (cl := 9) (i := l0) (f := 2) lk73_36 (by decide) rfl (cob_any rfl bl0) h10 ?_
  refine cR_lift (fun _ _ kk => eE_aload_n lk73_37 g0 kk) ?_
  refine cR_getA lk73_38 rf_9_15 (by decide) (cob_any rfl bl0) ?_
  refine cR_lift (fun _ _ kk => eE_iconst (v := 5) lk73_41 (by decide) kk) ?_
  refine cR_lift (fun _ _ kk => eE_iload lk73_42 g6 kk) ?_
  obtain ⟨σ11, h12, h⟩ := Option.bind_eq_some_iff.mp h
  refine cR_iast (cl := 9) (i := l0) (f := 2) lk73_44 (by decide) rfl (cob_any rfl bl0) h12 ?_
  refine cR_lift (fun _ _ kk => eE_aload_n lk73_45 g0 kk) ?_
  refine cR_getA lk73_46 rf_9_15 (by decide) (cob_any rfl bl0) ?_
  cases h
  exact cR_end lk73_49 rfl rfl rfl
def k_Log_rowOf (σ : CS) (l0 : Nat) (l1 : Int32) (l2 : Int32) (l3 : Int32) (l4 : Int32) (l5 : Int32) (l6 : Int32) : Option ((Nat) × CS) := k_Log_rowOf_b0 σ l0 l1 l2 l3 l4 l5 l6
theorem k_Log_rowOf_ok {E : CE} {pF : Nat → List Value → xH → Option (Option Value × xH)} (hp0 : xNPc pF) (hL : lcAll pF) (hF : lcF pF) {d : Nat} {g : CG} {σ : CS} {l0 : Nat} {l1 : Int32} {l2 : Int32} {l3 : Int32} {l4 : Int32} {l5 : Int32} {l6 : Int32} {res : (Nat) × CS} (bl0 : cob σ 9 l0) (h : k_Log_rowOf σ l0 l1 l2 l3 l4 l5 l6 = some res) : cCo E true pF (d + 1) 73 [.ref (coa E 9 l0), .int l1, .int l2, .int l3, .int l4, .int l5, .int l6] (some (.ref (car E g 9 res.1 2))) res.2 g σ :=
  cCo_R kk_73 mo_73 ni_73 xm_73 (Nat.le_of_ble_eq_true rfl) (hp0 73 (by decide) _) (k_Log_rowOf_b0_ok hp0 hL hF g _ σ l0 l1 l2 l3 l4 l5 l6 bl0 rfl rfl rfl rfl rfl rfl rfl _ h)
theorem k_Log_rowOf_lt {E : CE} {g : CG} {σ : CS} {h0 : xH} {l0 : Nat} {l1 l2 l3 l4 l5 l6 : Int32} {res : Nat × CS} (_ : CRep E g σ h0) (hb : cob σ 9 l0) (h : k_Log_rowOf σ l0 l1 l2 l3 l4 l5 l6 = some res) : cob res.2 9 res.1 := by
  unfold k_Log_rowOf k_Log_rowOf_b0 at h
  obtain ⟨a1, -, h⟩ := Option.bind_eq_some_iff.mp h
  obtain ⟨a2, -, h⟩ := Option.bind_eq_some_iff.mp h
  obtain ⟨a3, -, h⟩ := Option.bind_eq_some_iff.mp h
  obtain ⟨a4, -, h⟩ := Option.bind_eq_some_iff.mp h
  obtain ⟨a5, -, h⟩ := Option.bind_eq_some_iff.mp h
  obtain ⟨a6, -, h⟩ := Option.bind_eq_some_iff.mp h
  cases h
  exact cob_any rfl hb
/-! k_Log_runStart (74), depth 3 -/
def k_Log_runStart_b44 (F : Nat)  (σ : CS) (l2 : Int32) : Option (Int32) :=
  some l2
set_option maxRecDepth 4000 in
theorem k_Log_runStart_b44_ok {E : CE} {pF : Nat → List Value → xH → Option (Option Value × xH)} (hp0 : xNPc pF) (hL : lcAll pF) (hF : lcF pF) {d : Nat} {F : Nat}   : ∀ (g : CG) (lv : xL) (σ : CS) (l2 : Int32), (xg lv 2 = some (.int l2)) → ∀ res, k_Log_runStart_b44 F  σ l2 = some res → cR E true pF (d + 2) kT74 9 4 (some FieldType.int) (some (.int res)) σ g σ (44, lv, []) := by
  intro g lv σ l2 g2 res h
  unfold k_Log_runStart_b44 at h
  refine cR_lift (fun _ _ kk => eE_iload_n lk74_44 g2 kk) ?_
  cases h
  exact cR_end lk74_45 rfl rfl rfl
def k_Log_runStart_b17 (F : Nat)  : Nat → CS → Nat → Int32 → Int32 → Option (Int32)
  | 0, _, _, _, _ => none
  | n + 1, σ, l0, l2, l3 =>
    let KK := k_Log_runStart_b17 F  n
    if xc2 .le l2 ((cI σ 9 l0 3 0) + ((1 : Int32))) = true then (
      k_Log_runStart_b44 F  σ l2
    ) else (
      (k_Log_termAt σ l0 (l2 - ((1 : Int32)))).bind fun p2 =>
      if xc2 .ne p2 l3 = true then (
        k_Log_runStart_b44 F  σ l2
      ) else (
        KK σ l0 (l2 + (-1 : Int32)) l3
      )
    )
set_option maxRecDepth 4000 in
theorem k_Log_runStart_b17_ok {E : CE} {pF : Nat → List Value → xH → Option (Option Value × xH)} (hp0 : xNPc pF) (hL : lcAll pF) (hF : lcF pF) {d : Nat} {F : Nat}   : ∀ (n : Nat) (g : CG) (lv : xL) (σ : CS) (l0 : Nat) (l2 : Int32) (l3 : Int32), (cob σ 9 l0) → (xg lv 0 = some (.ref (coa E 9 l0))) → (xg lv 2 = some (.int l2)) → (xg lv 3 = some (.int l3)) → ∀ res, k_Log_runStart_b17 F  n σ l0 l2 l3 = some res → cR E true pF (d + 2) kT74 9 4 (some FieldType.int) (some (.int res)) σ g σ (17, lv, []) := by
  intro n
  induction n with
  | zero => intro g lv σ l0 l2 l3 bl0 g0 g2 g3 res h; simp [k_Log_runStart_b17] at h
  | succ n hKK =>
    intro g lv σ l0 l2 l3 bl0 g0 g2 g3 res h
    unfold k_Log_runStart_b17 at h
    dsimp only at h
    refine cR_lift (fun _ _ kk => eE_iload_n lk74_17 g2 kk) ?_
    refine cR_lift (fun _ _ kk => eE_aload_n lk74_18 g0 kk) ?_
    refine cR_getI lk74_19 rf_9_28 rfl bl0 ?_
    refine cR_lift (fun _ _ kk => eE_iconst (v := 1) lk74_22 (by decide) kk) ?_
    refine cR_lift (fun _ _ kk => eE_iadd lk74_23 kk) ?_
    refine cR_icmp (t := 44) lk74_24 (by decide) (fun c1 => ?_) (fun c1 => ?_)
    · rw [if_pos c1] at h
      exact k_Log_runStart_b44_ok hp0 hL hF  g lv σ l2 g2 _ h
    · rw [if_neg c1] at h
      refine cR_lift (fun _ _ kk => eE_aload_n lk74_27 g0 kk) ?_
      refine cR_lift (fun _ _ kk => eE_iload_n lk74_28 g2 kk) ?_
      refine cR_lift (fun _ _ kk => eE_iconst (v := 1) lk74_29 (by decide) kk) ?_
      refine cR_lift (fun _ _ kk => eE_isub lk74_30 kk) ?_
      obtain ⟨p2, h3, h⟩ := Option.bind_eq_some_iff.mp h
      refine cR_virt (cl := 9) (i := l0) (as := [.int (l2 - ((1 : Int32)))]) lk74_31 mr_9_54 na_75 rfl rfl (by first | exact Nat.le_of_ble_eq_true rfl | (simp [xcat, cvo_cat, cat_i, cat_j, cat_r]; done)) wv_75 wc_75 bl0 (k_Log_termAt_ok hp0 hL hF (d := d + 0) bl0 h3) (fun m4  => ?_)
      refine cR_lift (fun _ _ kk => eE_iload_n lk74_34 g3 kk) ?_
      refine cR_icmp (t := 44) lk74_35 (by decide) (fun c5 => ?_) (fun c5 => ?_)
      · rw [if_pos c5] at h
        exact k_Log_runStart_b44_ok hp0 hL hF  g lv σ l2 g2 _ h
      · rw [if_neg c5] at h
        refine cR_inc (j := 2) (v := l2 + (-1 : Int32)) lk74_38 g2 rfl (by decide) (fun vq6 gq7 kq8 => ?_)
        have gq9 := kq8 0 _ (by decide) (fun e => absurd e (by decide)) g0
        have gq10 := kq8 3 _ (by decide) (fun e => absurd e (by decide)) g3
        refine cR_lift (fun _ _ kk => eE_goto (t := 17) lk74_41 (by decide) kk) ?_
        exact hKK g vq6 σ l0 (l2 + (-1 : Int32)) l3 bl0 gq9 gq7 gq10 _ h
def k_Log_runStart_b0 (F : Nat)  (σ : CS) (l0 : Nat) (l1 : Int32) : Option (Int32) :=
  (k_Log_termAt σ l0 (cmax l1 ((cI σ 9 l0 3 0) + ((1 : Int32))))).bind fun p15 =>
  k_Log_runStart_b17 F  F σ l0 (cmax l1 ((cI σ 9 l0 3 0) + ((1 : Int32)))) p15
set_option maxRecDepth 4000 in
theorem k_Log_runStart_b0_ok {E : CE} {pF : Nat → List Value → xH → Option (Option Value × xH)} (hp0 : xNPc pF) (hL : lcAll pF) (hF : lcF pF) {d : Nat} {F : Nat}   : ∀ (g : CG) (lv : xL) (σ : CS) (l0 : Nat) (l1 : Int32), (cob σ 9 l0) → (xg lv 0 = some (.ref (coa E 9 l0))) → (xg lv 1 = some (.int l1)) → ∀ res, k_Log_runStart_b0 F  σ l0 l1 = some res → cR E true pF (d + 2) kT74 9 4 (some FieldType.int) (some (.int res)) σ g σ (0, lv, []) := by
  intro g lv σ l0 l1 bl0 g0 g1 res h
  unfold k_Log_runStart_b0 at h
  refine cR_lift (fun _ _ kk => eE_iload_n lk74_0 g1 kk) ?_
  refine cR_lift (fun _ _ kk => eE_aload_n lk74_1 g0 kk) ?_
  refine cR_getI lk74_2 rf_9_28 rfl bl0 ?_
  refine cR_lift (fun _ _ kk => eE_iconst (v := 1) lk74_5 (by decide) kk) ?_
  refine cR_lift (fun _ _ kk => eE_iadd lk74_6 kk) ?_
  refine cR_max lk74_7 mr_9_48 (by first | exact Nat.le_of_ble_eq_true rfl | (simp [xcat, cvo_cat, cat_i, cat_j, cat_r]; done)) ?_
  refine cR_stI (j := 2) lk74_10 (Or.inr ⟨_, rfl, rfl⟩) (by decide) (fun vq11 gq12 kq13 => ?_)
  have gq14 := kq13 0 _ (by decide) (fun e => absurd e (by decide)) g0
  refine cR_lift (fun _ _ kk => eE_aload_n lk74_11 gq14 kk) ?_
  refine cR_lift (fun _ _ kk => eE_iload_n lk74_12 gq12 kk) ?_
  obtain ⟨p15, h16, h⟩ := Option.bind_eq_some_iff.mp h
  refine cR_virt (cl := 9) (i := l0) (as := [.int (cmax l1 ((cI σ 9 l0 3 0) + ((1 : Int32))))]) lk74_13 mr_9_54 na_75 rfl rfl (by first | exact Nat.le_of_ble_eq_true rfl | (simp [xcat, cvo_cat, cat_i, cat_j, cat_r]; done)) wv_75 wc_75 bl0 (k_Log_termAt_ok hp0 hL hF (d := d + 0) bl0 h16) (fun m17  => ?_)
  refine cR_stI (j := 3) lk74_16 (Or.inr ⟨_, rfl, rfl⟩) (by decide) (fun vq18 gq19 kq20 => ?_)
  have gq21 := kq20 0 _ (by decide) (fun e => absurd e (by decide)) gq14
  have gq22 := kq20 2 _ (by decide) (fun _ => rfl) gq12
  exact k_Log_runStart_b17_ok hp0 hL hF  F g vq18 σ l0 (cmax l1 ((cI σ 9 l0 3 0) + ((1 : Int32)))) p15 bl0 gq21 gq22 gq19 _ h
def k_Log_runStart (F : Nat) (σ : CS) (l0 : Nat) (l1 : Int32) : Option (Int32) := k_Log_runStart_b0 F σ l0 l1
theorem k_Log_runStart_ok {E : CE} {pF : Nat → List Value → xH → Option (Option Value × xH)} (hp0 : xNPc pF) (hL : lcAll pF) (hF : lcF pF) {d : Nat} {g : CG} {σ : CS} {F : Nat} {l0 : Nat} {l1 : Int32} {res : Int32} (bl0 : cob σ 9 l0) (h : k_Log_runStart F σ l0 l1 = some res) : cCo E true pF (d + 3) 74 [.ref (coa E 9 l0), .int l1] (some (.int res)) σ g σ :=
  cCo_R kk_74 mo_74 ni_74 xm_74 (Nat.le_of_ble_eq_true rfl) (hp0 74 (by decide) _) (k_Log_runStart_b0_ok hp0 hL hF g _ σ l0 l1 bl0 rfl rfl _ h)
/-! k_Page_makeRoomForBytes (111), depth 1 -/
def k_Page_makeRoomForBytes_b20  (σ : CS) : Option (CS) :=
  some σ
set_option maxRecDepth 4000 in
theorem k_Page_makeRoomForBytes_b20_ok {E : CE} {pF : Nat → List Value → xH → Option (Option Value × xH)} (hp0 : xNPc pF) (hL : lcAll pF) (hF : lcF pF) {d : Nat}   : ∀ (g : CG) (lv : xL) (σ : CS), ∀ res, k_Page_makeRoomForBytes_b20  σ = some res → cR E false pF (d + 0) kT111 11 2 none none res g σ (20, lv, []) := by
  intro g lv σ res h
  unfold k_Page_makeRoomForBytes_b20 at h
  cases h
  exact cR_end lk111_20 rfl rfl rfl
def k_Page_makeRoomForBytes_b0  (σ : CS) (l0 : Nat) (l1 : Int32) : Option (CS) :=
  if xc2 .ge (Int32.ofNat (cal σ 11 l0 8)) l1 = true then (
    k_Page_makeRoomForBytes_b20  σ
  ) else (
    if ((2 : Int32)) = 0 then none else
    (cgrow σ 11 l0 8 (l1 + (l1 / ((2 : Int32))))).bind fun σ3 =>
    k_Page_makeRoomForBytes_b20  σ3
  )
set_option maxRecDepth 4000 in
theorem k_Page_makeRoomForBytes_b0_ok {E : CE} {pF : Nat → List Value → xH → Option (Option Value × xH)} (hp0 : xNPc pF) (hL : lcAll pF) (hF : lcF pF) {d : Nat}   : ∀ (g : CG) (lv : xL) (σ : CS) (l0 : Nat) (l1 : Int32), (cob σ 11 l0) → (xg lv 0 = some (.ref (coa E 11 l0))) → (xg lv 1 = some (.int l1)) → ∀ res, k_Page_makeRoomForBytes_b0  σ l0 l1 = some res → cR E false pF (d + 0) kT111 11 2 none none res g σ (0, lv, []) := by
  intro g lv σ l0 l1 bl0 g0 g1 res h
  unfold k_Page_makeRoomForBytes_b0 at h
  refine cR_lift (fun _ _ kk => eE_aload_n lk111_0 g0 kk) ?_
  refine cR_getA lk111_1 rf_11_18 (by decide) bl0 ?_
  refine cR_alen (cl := 11) (i := l0) (f := 8) lk111_4 (by decide) (by decide) bl0 ?_
  refine cR_lift (fun _ _ kk => eE_iload_n lk111_5 g1 kk) ?_
  refine cR_icmp (t := 20) lk111_6 (by decide) (fun c1 => ?_) (fun c1 => ?_)
  · rw [if_pos c1] at h
    exact k_Page_makeRoomForBytes_b20_ok hp0 hL hF  g lv σ  _ h
  · rw [if_neg c1] at h
    refine cR_lift (fun _ _ kk => eE_aload_n lk111_9 g0 kk) ?_
    refine cR_lift (fun _ _ kk => eE_iload_n lk111_10 g1 kk) ?_
    refine cR_lift (fun _ _ kk => eE_iload_n lk111_11 g1 kk) ?_
    refine cR_lift (fun _ _ kk => eE_iconst (v := 2) lk111_12 (by decide) kk) ?_
    by_cases z2 : ((2 : Int32)) = 0
    · rw [if_pos z2] at h; cases h
    rw [if_neg z2] at h
    refine cR_lift (fun _ _ kk => eE_idiv lk111_13 z2 kk) ?_
    refine cR_lift (fun _ _ kk => eE_iadd lk111_14 kk) ?_
    obtain ⟨σ3, h4, h⟩ := Option.bind_eq_some_iff.mp h
    refine cR_newG (cl := 11) (i := l0) (f := 8) lk111_15 lk111_17 rfl rfl (by decide) rfl rf_11_18 rfl bl0 pf_11_8 h4 (fun g_5 => ?_)
    exact k_Page_makeRoomForBytes_b20_ok hp0 hL hF  g_5 lv σ3  _ h
def k_Page_makeRoomForBytes (σ : CS) (l0 : Nat) (l1 : Int32) : Option (CS) := k_Page_makeRoomForBytes_b0 σ l0 l1
theorem k_Page_makeRoomForBytes_ok {E : CE} {pF : Nat → List Value → xH → Option (Option Value × xH)} (hp0 : xNPc pF) (hL : lcAll pF) (hF : lcF pF) {d : Nat} {g : CG} {σ : CS} {l0 : Nat} {l1 : Int32} {res : CS} (bl0 : cob σ 11 l0) (h : k_Page_makeRoomForBytes σ l0 l1 = some res) : cCo E false pF (d + 1) 111 [.ref (coa E 11 l0), .int l1] none res g σ :=
  cCo_R kk_111 mo_111 ni_111 xm_111 (Nat.le_of_ble_eq_true rfl) (hp0 111 (by decide) _) (k_Page_makeRoomForBytes_b0_ok hp0 hL hF g _ σ l0 l1 bl0 rfl rfl _ h)
/-! k_Requests_slotOf (119), depth 1 -/
def k_Requests_slotOf_b0  (σ : CS) (l0 : Int32) : Option (Int32) :=
  some (l0 &&& ((31 : Int32)))
set_option maxRecDepth 4000 in
theorem k_Requests_slotOf_b0_ok {E : CE} {pF : Nat → List Value → xH → Option (Option Value × xH)} (hp0 : xNPc pF) (hL : lcAll pF) (hF : lcF pF) {d : Nat}   : ∀ (g : CG) (lv : xL) (σ : CS) (l0 : Int32), (xg lv 0 = some (.int l0)) → ∀ res, k_Requests_slotOf_b0  σ l0 = some res → cR E true pF (d + 0) kT119 12 1 (some FieldType.int) (some (.int res)) σ g σ (0, lv, []) := by
  intro g lv σ l0 g0 res h
  unfold k_Requests_slotOf_b0 at h
  refine cR_lift (fun _ _ kk => eE_iload_n lk119_0 g0 kk) ?_
  refine cR_lift (fun _ _ kk => eE_bipush (v := 31) lk119_1 (by decide) kk) ?_
  refine cR_lift (fun _ _ kk => eE_iand lk119_3 kk) ?_
  cases h
  exact cR_end lk119_4 rfl rfl rfl
def k_Requests_slotOf (σ : CS) (l0 : Int32) : Option (Int32) := k_Requests_slotOf_b0 σ l0
theorem k_Requests_slotOf_ok {E : CE} {pF : Nat → List Value → xH → Option (Option Value × xH)} (hp0 : xNPc pF) (hL : lcAll pF) (hF : lcF pF) {d : Nat} {g : CG} {σ : CS} {l0 : Int32} {res : Int32}  (h : k_Requests_slotOf σ l0 = some res) : cCo E true pF (d + 1) 119 [.int l0] (some (.int res)) σ g σ :=
  cCo_R kk_119 mo_119 ni_119 xm_119 (Nat.le_of_ble_eq_true rfl) (hp0 119 (by decide) _) (k_Requests_slotOf_b0_ok hp0 hL hF g _ σ l0 rfl _ h)
/-! k_Requests_begin (115), depth 2 -/
def k_Requests_begin_b39  (σ : CS) (l0 : Nat) (l1 : Nat) (l2 : Int32) (l3 : Int32) (l4 : Int32) (l5 : Int32) : Option (CS) :=
  (cwr σ 12 l0 0 l5 (((1 : Int32)) &&& 1)).bind fun σ1 =>
  (cwr σ1 12 l0 1 l5 (cI σ1 8 l1 2 0)).bind fun σ3 =>
  (cwr σ3 12 l0 2 l5 (cI σ3 8 l1 5 0)).bind fun σ5 =>
  (cwr σ5 12 l0 3 l5 (cI σ5 8 l1 16 0)).bind fun σ7 =>
  (cwr σ7 12 l0 4 l5 l2).bind fun σ9 =>
  (cwr σ9 12 l0 5 l5 l3).bind fun σ11 =>
  (cwr σ11 12 l0 6 l5 l4).bind fun σ13 =>
  some σ13
set_option maxRecDepth 4000 in
theorem k_Requests_begin_b39_ok {E : CE} {pF : Nat → List Value → xH → Option (Option Value × xH)} (hp0 : xNPc pF) (hL : lcAll pF) (hF : lcF pF) {d : Nat}   : ∀ (g : CG) (lv : xL) (σ : CS) (l0 : Nat) (l1 : Nat) (l2 : Int32) (l3 : Int32) (l4 : Int32) (l5 : Int32), (cob σ 12 l0) → (cob σ 8 l1) → (xg lv 0 = some (.ref (coa E 12 l0))) → (xg lv 1 = some (.ref (coa E 8 l1))) → (xg lv 2 = some (.int l2)) → (xg lv 3 = some (.int l3)) → (xg lv 4 = some (.int l4)) → (xg lv 5 = some (.int l5)) → ∀ res, k_Requests_begin_b39  σ l0 l1 l2 l3 l4 l5 = some res → cR E true pF (d + 1) kT115 12 6 none none res g σ (39, lv, []) := by
  intro g lv σ l0 l1 l2 l3 l4 l5 bl0 bl1 g0 g1 g2 g3 g4 g5 res h
  unfold k_Requests_begin_b39 at h
  refine cR_lift (fun _ _ kk => eE_aload_n lk115_39 g0 kk) ?_
  refine cR_getA lk115_40 rf_12_9 (by decide) bl0 ?_
  refine cR_lift (fun _ _ kk => eE_iload lk115_43 g5 kk) ?_
  refine cR_lift (fun _ _ kk => eE_iconst (v := 1) lk115_45 (by decide) kk) ?_
  obtain ⟨σ1, h2, h⟩ := Option.bind_eq_some_iff.mp h
  refine cR_zast (cl := 12) (i := l0) (f := 0) lk115_46 (by decide) rfl rfl bl0 h2 ?_
  refine cR_lift (fun _ _ kk => eE_aload_n lk115_47 g0 kk) ?_
  refine cR_getA lk115_48 rf_12_15 (by decide) (cob_any rfl bl0) ?_
  refine cR_lift (fun _ _ kk => eE_iload lk115_51 g5 kk) ?_
  refine cR_lift (fun _ _ kk => eE_aload_n lk115_53 g1 kk) ?_
  refine cR_getI lk115_54 rf_12_45 rfl (cob_mon (cwr_mon h2) bl1) ?_
  obtain ⟨σ3, h4, h⟩ := Option.bind_eq_some_iff.mp h
  refine cR_iast (cl := 12) (i := l0) (f := 1) lk115_57 (by decide) rfl (cob_any rfl bl0) h4 ?_
  refine cR_lift (fun _ _ kk => eE_aload_n lk115_58 g0 kk) ?_
  refine cR_getA lk115_59 rf_12_19 (by decide) (cob_any rfl bl0) ?_
  refine cR_lift (fun _ _ kk => eE_iload lk115_62 g5 kk) ?_
  refine cR_lift (fun _ _ kk => eE_aload_n lk115_64 g1 kk) ?_
  refine cR_getI lk115_65 rf_12_50 rfl (cob_mon (cwr_mon h4) (cob_mon (cwr_mon h2) bl1)) ?_
  obtain ⟨σ5, h6, h⟩ := Option.bind_eq_some_iff.mp h
  refine cR_iast (cl := 12) (i := l0) (f := 2) lk115_68 (by decide) rfl (cob_any rfl bl0) h6 ?_
  refine cR_lift (fun _ _ kk => eE_aload_n lk115_69 g0 kk) ?_
  refine cR_getA lk115_70 rf_12_22 (by decide) (cob_any rfl bl0) ?_
  refine cR_lift (fun _ _ kk => eE_iload lk115_73 g5 kk) ?_
  refine cR_lift (fun _ _ kk => eE_aload_n lk115_75 g1 kk) ?_
  refine cR_getI lk115_76 rf_12_52 rfl (cob_mon (cwr_mon h6) (cob_mon (cwr_mon h4) (cob_mon (cwr_mon h2) bl1))) ?_
  obtain ⟨σ7, h8, h⟩ := Option.bind_eq_some_iff.mp h
  refine cR_iast (cl := 12) (i := l0) (f := 3) lk115_79 (by decide) rfl (cob_any rfl bl0) h8 ?_
  refine cR_lift (fun _ _ kk => eE_aload_n lk115_80 g0 kk) ?_
  refine cR_getA lk115_81 rf_12_25 (by decide) (cob_any rfl bl0) ?_
  refine cR_lift (fun _ _ kk => eE_iload lk115_84 g5 kk) ?_
  refine cR_lift (fun _ _ kk => eE_iload_n lk115_86 g2 kk) ?_
  obtain ⟨σ9, h10, h⟩ := Option.bind_eq_some_iff.mp h
  refine cR_iast (cl := 12) (i := l0) (f := 4) lk115_87 (by decide) rfl (cob_any rfl bl0) h10 ?_
  refine cR_lift (fun _ _ kk => eE_aload_n lk115_88 g0 kk) ?_
  refine cR_getA lk115_89 rf_12_28 (by decide) (cob_any rfl bl0) ?_
  refine cR_lift (fun _ _ kk => eE_iload lk115_92 g5 kk) ?_
  refine cR_lift (fun _ _ kk => eE_iload_n lk115_94 g3 kk) ?_
  obtain ⟨σ11, h12, h⟩ := Option.bind_eq_some_iff.mp h
  refine cR_iast (cl := 12) (i := l0) (f := 5) lk115_95 (by decide) rfl (cob_any rfl bl0) h12 ?_
  refine cR_lift (fun _ _ kk => eE_aload_n lk115_96 g0 kk) ?_
  refine cR_getA lk115_97 rf_12_31 (by decide) (cob_any rfl bl0) ?_
  refine cR_lift (fun _ _ kk => eE_iload lk115_100 g5 kk) ?_
  refine cR_lift (fun _ _ kk => eE_iload lk115_102 g4 kk) ?_
  obtain ⟨σ13, h14, h⟩ := Option.bind_eq_some_iff.mp h
  refine cR_iast (cl := 12) (i := l0) (f := 6) lk115_104 (by decide) rfl (cob_any rfl bl0) h14 ?_
  cases h
  exact cR_end lk115_105 rfl rfl rfl
def k_Requests_begin_b0  (σ : CS) (l0 : Nat) (l1 : Nat) (l2 : Int32) (l3 : Int32) (l4 : Int32) : Option (CS) :=
  (k_Requests_slotOf σ (cI σ 12 l0 7 0)).bind fun p15 =>
  (some (csI σ 12 l0 7 0 ((cI σ 12 l0 7 0) + ((1 : Int32))))).bind fun σ26 =>
  (crd σ26 12 l0 0 p15).bind fun x28 =>
  if xc0 .ne x28 = true then (
    k_Requests_begin_b39  σ26 l0 l1 l2 l3 l4 p15
  ) else (
    (some (csI σ26 12 l0 8 0 ((cI σ26 12 l0 8 0) + ((1 : Int32))))).bind fun σ31 =>
    k_Requests_begin_b39  σ31 l0 l1 l2 l3 l4 p15
  )
set_option maxRecDepth 4000 in
theorem k_Requests_begin_b0_ok {E : CE} {pF : Nat → List Value → xH → Option (Option Value × xH)} (hp0 : xNPc pF) (hL : lcAll pF) (hF : lcF pF) {d : Nat}   : ∀ (g : CG) (lv : xL) (σ : CS) (l0 : Nat) (l1 : Nat) (l2 : Int32) (l3 : Int32) (l4 : Int32), (cob σ 12 l0) → (cob σ 8 l1) → (xg lv 0 = some (.ref (coa E 12 l0))) → (xg lv 1 = some (.ref (coa E 8 l1))) → (xg lv 2 = some (.int l2)) → (xg lv 3 = some (.int l3)) → (xg lv 4 = some (.int l4)) → ∀ res, k_Requests_begin_b0  σ l0 l1 l2 l3 l4 = some res → cR E true pF (d + 1) kT115 12 6 none none res g σ (0, lv, []) := by
  intro g lv σ l0 l1 l2 l3 l4 bl0 bl1 g0 g1 g2 g3 g4 res h
  unfold k_Requests_begin_b0 at h
  refine cR_lift (fun _ _ kk => eE_aload_n lk115_0 g0 kk) ?_
  refine cR_getI lk115_1 rf_12_34 rfl bl0 ?_
  obtain ⟨p15, h16, h⟩ := Option.bind_eq_some_iff.mp h
  refine cR_stat (as := [.int (cI σ 12 l0 7 0)]) lk115_4 mr_12_38 na_119 rfl rfl (by first | exact Nat.le_of_ble_eq_true rfl | (simp [xcat, cvo_cat, cat_i, cat_j, cat_r]; done)) mm_119 ws_119 (k_Requests_slotOf_ok hp0 hL hF (d := d + 0)  h16) (fun m17 => ?_)
  refine cR_stI (j := 5) lk115_7 (Or.inl rfl) (by decide) (fun vq18 gq19 kq20 => ?_)
  have gq21 := kq20 0 _ (by decide) (fun e => absurd e (by decide)) g0
  have gq22 := kq20 1 _ (by decide) (fun e => absurd e (by decide)) g1
  have gq23 := kq20 2 _ (by decide) (fun e => absurd e (by decide)) g2
  have gq24 := kq20 3 _ (by decide) (fun e => absurd e (by decide)) g3
  have gq25 := kq20 4 _ (by decide) (fun _ => rfl) g4
  refine cR_lift (fun _ _ kk => eE_aload_n lk115_9 gq21 kk) ?_
  refine cR_lift (fun _ _ kk => eE_dup lk115_10 rfl kk) ?_
  refine cR_getI lk115_11 rf_12_34 rfl bl0 ?_
  refine cR_lift (fun _ _ kk => eE_iconst (v := 1) lk115_14 (by decide) kk) ?_
  refine cR_lift (fun _ _ kk => eE_iadd lk115_15 kk) ?_
  obtain ⟨σ26, h27, h⟩ := Option.bind_eq_some_iff.mp h
  refine cR_putI lk115_16 rf_12_34 rfl bl0 pf_12_7 rfl h27 ?_
  refine cR_lift (fun _ _ kk => eE_aload_n lk115_19 gq21 kk) ?_
  refine cR_getA lk115_20 rf_12_9 (by decide) (cob_any rfl bl0) ?_
  refine cR_lift (fun _ _ kk => eE_iload lk115_23 gq19 kk) ?_
  obtain ⟨x28, h29, h⟩ := Option.bind_eq_some_iff.mp h
  refine cR_bald (cl := 12) (i := l0) (f := 0) lk115_25 (by decide) (Or.inr rfl) (cob_any rfl bl0) h29 ?_
  refine cR_if (t := 39) lk115_26 (by decide) (fun c30 => ?_) (fun c30 => ?_)
  · rw [if_pos c30] at h
    exact k_Requests_begin_b39_ok hp0 hL hF  g vq18 σ26 l0 l1 l2 l3 l4 p15 (cob_any rfl bl0) (cob_mon (cput_mon h27) bl1) gq21 gq22 gq23 gq24 gq25 gq19 _ h
  · rw [if_neg c30] at h
    refine cR_lift (fun _ _ kk => eE_aload_n lk115_29 gq21 kk) ?_
    refine cR_lift (fun _ _ kk => eE_dup lk115_30 rfl kk) ?_
    refine cR_getI lk115_31 rf_12_42 rfl (cob_any rfl bl0) ?_
    refine cR_lift (fun _ _ kk => eE_iconst (v := 1) lk115_34 (by decide) kk) ?_
    refine cR_lift (fun _ _ kk => eE_iadd lk115_35 kk) ?_
    obtain ⟨σ31, h32, h⟩ := Option.bind_eq_some_iff.mp h
    refine cR_putI lk115_36 rf_12_42 rfl (cob_any rfl bl0) pf_12_8 rfl h32 ?_
    exact k_Requests_begin_b39_ok hp0 hL hF  g vq18 σ31 l0 l1 l2 l3 l4 p15 (cob_any rfl bl0) (cob_mon (cput_mon h32) (cob_mon (cput_mon h27) bl1)) gq21 gq22 gq23 gq24 gq25 gq19 _ h
def k_Requests_begin (σ : CS) (l0 : Nat) (l1 : Nat) (l2 : Int32) (l3 : Int32) (l4 : Int32) : Option (CS) := k_Requests_begin_b0 σ l0 l1 l2 l3 l4
theorem k_Requests_begin_ok {E : CE} {pF : Nat → List Value → xH → Option (Option Value × xH)} (hp0 : xNPc pF) (hL : lcAll pF) (hF : lcF pF) {d : Nat} {g : CG} {σ : CS} {l0 : Nat} {l1 : Nat} {l2 : Int32} {l3 : Int32} {l4 : Int32} {res : CS} (bl0 : cob σ 12 l0) (bl1 : cob σ 8 l1) (h : k_Requests_begin σ l0 l1 l2 l3 l4 = some res) : cCo E true pF (d + 2) 115 [.ref (coa E 12 l0), .ref (coa E 8 l1), .int l2, .int l3, .int l4] none res g σ :=
  cCo_R kk_115 mo_115 ni_115 xm_115 (Nat.le_of_ble_eq_true rfl) (hp0 115 (by decide) _) (k_Requests_begin_b0_ok hp0 hL hF g _ σ l0 l1 l2 l3 l4 bl0 bl1 rfl rfl rfl rfl rfl _ h)
/-! k_Requests_drop (116), depth 1 -/
def k_Requests_drop_b26  (σ : CS) : Option (CS) :=
  some σ
set_option maxRecDepth 4000 in
theorem k_Requests_drop_b26_ok {E : CE} {pF : Nat → List Value → xH → Option (Option Value × xH)} (hp0 : xNPc pF) (hL : lcAll pF) (hF : lcF pF) {d : Nat}   : ∀ (g : CG) (lv : xL) (σ : CS), ∀ res, k_Requests_drop_b26  σ = some res → cR E true pF (d + 0) kT116 12 2 none none res g σ (26, lv, []) := by
  intro g lv σ res h
  unfold k_Requests_drop_b26 at h
  cases h
  exact cR_end lk116_26 rfl rfl rfl
def k_Requests_drop_b0  (σ : CS) (l0 : Nat) (l1 : Int32) : Option (CS) :=
  (crd σ 12 l0 0 l1).bind fun x1 =>
  if xc0 .eq x1 = true then (
    k_Requests_drop_b26  σ
  ) else (
    (cwr σ 12 l0 0 l1 (((0 : Int32)) &&& 1)).bind fun σ4 =>
    (some (csI σ4 12 l0 8 0 ((cI σ4 12 l0 8 0) - ((1 : Int32))))).bind fun σ6 =>
    k_Requests_drop_b26  σ6
  )
set_option maxRecDepth 4000 in
theorem k_Requests_drop_b0_ok {E : CE} {pF : Nat → List Value → xH → Option (Option Value × xH)} (hp0 : xNPc pF) (hL : lcAll pF) (hF : lcF pF) {d : Nat}   : ∀ (g : CG) (lv : xL) (σ : CS) (l0 : Nat) (l1 : Int32), (cob σ 12 l0) → (xg lv 0 = some (.ref (coa E 12 l0))) → (xg lv 1 = some (.int l1)) → ∀ res, k_Requests_drop_b0  σ l0 l1 = some res → cR E true pF (d + 0) kT116 12 2 none none res g σ (0, lv, []) := by
  intro g lv σ l0 l1 bl0 g0 g1 res h
  unfold k_Requests_drop_b0 at h
  refine cR_lift (fun _ _ kk => eE_aload_n lk116_0 g0 kk) ?_
  refine cR_getA lk116_1 rf_12_9 (by decide) bl0 ?_
  refine cR_lift (fun _ _ kk => eE_iload_n lk116_4 g1 kk) ?_
  obtain ⟨x1, h2, h⟩ := Option.bind_eq_some_iff.mp h
  refine cR_bald (cl := 12) (i := l0) (f := 0) lk116_5 (by decide) (Or.inr rfl) bl0 h2 ?_
  refine cR_if (t := 26) lk116_6 (by decide) (fun c3 => ?_) (fun c3 => ?_)
  · rw [if_pos c3] at h
    exact k_Requests_drop_b26_ok hp0 hL hF  g lv σ  _ h
  · rw [if_neg c3] at h
    refine cR_lift (fun _ _ kk => eE_aload_n lk116_9 g0 kk) ?_
    refine cR_getA lk116_10 rf_12_9 (by decide) bl0 ?_
    refine cR_lift (fun _ _ kk => eE_iload_n lk116_13 g1 kk) ?_
    refine cR_lift (fun _ _ kk => eE_iconst (v := 0) lk116_14 (by decide) kk) ?_
    obtain ⟨σ4, h5, h⟩ := Option.bind_eq_some_iff.mp h
    refine cR_zast (cl := 12) (i := l0) (f := 0) lk116_15 (by decide) rfl rfl bl0 h5 ?_
    refine cR_lift (fun _ _ kk => eE_aload_n lk116_16 g0 kk) ?_
    refine cR_lift (fun _ _ kk => eE_dup lk116_17 rfl kk) ?_
    refine cR_getI lk116_18 rf_12_42 rfl (cob_any rfl bl0) ?_
    refine cR_lift (fun _ _ kk => eE_iconst (v := 1) lk116_21 (by decide) kk) ?_
    refine cR_lift (fun _ _ kk => eE_isub lk116_22 kk) ?_
    obtain ⟨σ6, h7, h⟩ := Option.bind_eq_some_iff.mp h
    refine cR_putI lk116_23 rf_12_42 rfl (cob_any rfl bl0) pf_12_8 rfl h7 ?_
    exact k_Requests_drop_b26_ok hp0 hL hF  g lv σ6  _ h
def k_Requests_drop (σ : CS) (l0 : Nat) (l1 : Int32) : Option (CS) := k_Requests_drop_b0 σ l0 l1
theorem k_Requests_drop_ok {E : CE} {pF : Nat → List Value → xH → Option (Option Value × xH)} (hp0 : xNPc pF) (hL : lcAll pF) (hF : lcF pF) {d : Nat} {g : CG} {σ : CS} {l0 : Nat} {l1 : Int32} {res : CS} (bl0 : cob σ 12 l0) (h : k_Requests_drop σ l0 l1 = some res) : cCo E true pF (d + 1) 116 [.ref (coa E 12 l0), .int l1] none res g σ :=
  cCo_R kk_116 mo_116 ni_116 xm_116 (Nat.le_of_ble_eq_true rfl) (hp0 116 (by decide) _) (k_Requests_drop_b0_ok hp0 hL hF g _ σ l0 l1 bl0 rfl rfl _ h)
/-! k_Requests_dropAll (117), depth 1 -/
def k_Requests_dropAll_b2 (F : Nat)  : Nat → CS → Nat → Int32 → Option (CS)
  | 0, _, _, _ => none
  | n + 1, σ, l0, l1 =>
    let KK := k_Requests_dropAll_b2 F  n
    if xc2 .ge l1 ((32 : Int32)) = true then (
      (some (csI σ 12 l0 8 0 ((0 : Int32)))).bind fun σ2 =>
      some σ2
    ) else (
      (cwr σ 12 l0 0 l1 (((0 : Int32)) &&& 1)).bind fun σ4 =>
      KK σ4 l0 (l1 + (1 : Int32))
    )
set_option maxRecDepth 4000 in
theorem k_Requests_dropAll_b2_ok {E : CE} {pF : Nat → List Value → xH → Option (Option Value × xH)} (hp0 : xNPc pF) (hL : lcAll pF) (hF : lcF pF) {d : Nat} {F : Nat}   : ∀ (n : Nat) (g : CG) (lv : xL) (σ : CS) (l0 : Nat) (l1 : Int32), (cob σ 12 l0) → (xg lv 0 = some (.ref (coa E 12 l0))) → (xg lv 1 = some (.int l1)) → ∀ res, k_Requests_dropAll_b2 F  n σ l0 l1 = some res → cR E true pF (d + 0) kT117 12 2 none none res g σ (2, lv, []) := by
  intro n
  induction n with
  | zero => intro g lv σ l0 l1 bl0 g0 g1 res h; simp [k_Requests_dropAll_b2] at h
  | succ n hKK =>
    intro g lv σ l0 l1 bl0 g0 g1 res h
    unfold k_Requests_dropAll_b2 at h
    dsimp only at h
    refine cR_lift (fun _ _ kk => eE_iload_n lk117_2 g1 kk) ?_
    refine cR_lift (fun _ _ kk => eE_bipush (v := 32) lk117_3 (by decide) kk) ?_
    refine cR_icmp (t := 21) lk117_5 (by decide) (fun c1 => ?_) (fun c1 => ?_)
    · rw [if_pos c1] at h
      refine cR_lift (fun _ _ kk => eE_aload_n lk117_21 g0 kk) ?_
      refine cR_lift (fun _ _ kk => eE_iconst (v := 0) lk117_22 (by decide) kk) ?_
      obtain ⟨σ2, h3, h⟩ := Option.bind_eq_some_iff.mp h
      refine cR_putI lk117_23 rf_12_42 rfl bl0 pf_12_8 rfl h3 ?_
      cases h
      exact cR_end lk117_26 rfl rfl rfl
    · rw [if_neg c1] at h
      refine cR_lift (fun _ _ kk => eE_aload_n lk117_8 g0 kk) ?_
      refine cR_getA lk117_9 rf_12_9 (by decide) bl0 ?_
      refine cR_lift (fun _ _ kk => eE_iload_n lk117_12 g1 kk) ?_
      refine cR_lift (fun _ _ kk => eE_iconst (v := 0) lk117_13 (by decide) kk) ?_
      obtain ⟨σ4, h5, h⟩ := Option.bind_eq_some_iff.mp h
      refine cR_zast (cl := 12) (i := l0) (f := 0) lk117_14 (by decide) rfl rfl bl0 h5 ?_
      refine cR_inc (j := 1) (v := l1 + (1 : Int32)) lk117_15 g1 rfl (by decide) (fun vq6 gq7 kq8 => ?_)
      have gq9 := kq8 0 _ (by decide) (fun _ => rfl) g0
      refine cR_lift (fun _ _ kk => eE_goto (t := 2) lk117_18 (by decide) kk) ?_
      exact hKK g vq6 σ4 l0 (l1 + (1 : Int32)) (cob_any rfl bl0) gq9 gq7 _ h
def k_Requests_dropAll_b0 (F : Nat)  (σ : CS) (l0 : Nat) : Option (CS) :=
  k_Requests_dropAll_b2 F  F σ l0 ((0 : Int32))
set_option maxRecDepth 4000 in
theorem k_Requests_dropAll_b0_ok {E : CE} {pF : Nat → List Value → xH → Option (Option Value × xH)} (hp0 : xNPc pF) (hL : lcAll pF) (hF : lcF pF) {d : Nat} {F : Nat}   : ∀ (g : CG) (lv : xL) (σ : CS) (l0 : Nat), (cob σ 12 l0) → (xg lv 0 = some (.ref (coa E 12 l0))) → ∀ res, k_Requests_dropAll_b0 F  σ l0 = some res → cR E true pF (d + 0) kT117 12 2 none none res g σ (0, lv, []) := by
  intro g lv σ l0 bl0 g0 res h
  unfold k_Requests_dropAll_b0 at h
  refine cR_lift (fun _ _ kk => eE_iconst (v := 0) lk117_0 (by decide) kk) ?_
  refine cR_stI (j := 1) lk117_1 (Or.inr ⟨_, rfl, rfl⟩) (by decide) (fun vq10 gq11 kq12 => ?_)
  have gq13 := kq12 0 _ (by decide) (fun _ => rfl) g0
  exact k_Requests_dropAll_b2_ok hp0 hL hF  F g vq10 σ l0 ((0 : Int32)) bl0 gq13 gq11 _ h
def k_Requests_dropAll (F : Nat) (σ : CS) (l0 : Nat) : Option (CS) := k_Requests_dropAll_b0 F σ l0
theorem k_Requests_dropAll_ok {E : CE} {pF : Nat → List Value → xH → Option (Option Value × xH)} (hp0 : xNPc pF) (hL : lcAll pF) (hF : lcF pF) {d : Nat} {g : CG} {σ : CS} {F : Nat} {l0 : Nat} {res : CS} (bl0 : cob σ 12 l0) (h : k_Requests_dropAll F σ l0 = some res) : cCo E true pF (d + 1) 117 [.ref (coa E 12 l0)] none res g σ :=
  cCo_R kk_117 mo_117 ni_117 xm_117 (Nat.le_of_ble_eq_true rfl) (hp0 117 (by decide) _) (k_Requests_dropAll_b0_ok hp0 hL hF g _ σ l0 bl0 rfl _ h)
/-! k_Requests_waitsFor (120), depth 1 -/
def k_Requests_waitsFor_b46 (F : Nat) (K2 : CS → Nat → Int32 → Int32 → Option (Int32)) (σ : CS) (l0 : Nat) (l1 : Int32) (l2 : Int32) : Option (Int32) :=
  K2 σ l0 l1 (l2 + (1 : Int32))
set_option maxRecDepth 4000 in
theorem k_Requests_waitsFor_b46_ok {E : CE} {pF : Nat → List Value → xH → Option (Option Value × xH)} (hp0 : xNPc pF) (hL : lcAll pF) (hF : lcF pF) {d : Nat} {F : Nat} {K2 : CS → Nat → Int32 → Int32 → Option (Int32)} (hK2 : ∀ (g : CG) (lv : xL) (σ : CS) (l0 : Nat) (l1 : Int32) (l2 : Int32), (cob σ 12 l0) → (xg lv 0 = some (.ref (coa E 12 l0))) → (xg lv 1 = some (.int l1)) → (xg lv 2 = some (.int l2)) → ∀ res, K2 σ l0 l1 l2 = some res → cR E true pF (d + 0) kT120 12 3 (some FieldType.int) (some (.int res)) σ g σ (2, lv, [])) : ∀ (g : CG) (lv : xL) (σ : CS) (l0 : Nat) (l1 : Int32) (l2 : Int32), (cob σ 12 l0) → (xg lv 0 = some (.ref (coa E 12 l0))) → (xg lv 1 = some (.int l1)) → (xg lv 2 = some (.int l2)) → ∀ res, k_Requests_waitsFor_b46 F K2 σ l0 l1 l2 = some res → cR E true pF (d + 0) kT120 12 3 (some FieldType.int) (some (.int res)) σ g σ (46, lv, []) := by
  intro g lv σ l0 l1 l2 bl0 g0 g1 g2 res h
  unfold k_Requests_waitsFor_b46 at h
  refine cR_inc (j := 2) (v := l2 + (1 : Int32)) lk120_46 g2 rfl (by decide) (fun vq1 gq2 kq3 => ?_)
  have gq4 := kq3 0 _ (by decide) (fun e => absurd e (by decide)) g0
  have gq5 := kq3 1 _ (by decide) (fun _ => rfl) g1
  refine cR_lift (fun _ _ kk => eE_goto (t := 2) lk120_49 (by decide) kk) ?_
  exact hK2 g vq1 σ l0 l1 (l2 + (1 : Int32)) bl0 gq4 gq5 gq2 _ h
def k_Requests_waitsFor_b52 (F : Nat)  (σ : CS) : Option (Int32) :=
  some ((-1 : Int32))
set_option maxRecDepth 4000 in
theorem k_Requests_waitsFor_b52_ok {E : CE} {pF : Nat → List Value → xH → Option (Option Value × xH)} (hp0 : xNPc pF) (hL : lcAll pF) (hF : lcF pF) {d : Nat} {F : Nat}   : ∀ (g : CG) (lv : xL) (σ : CS), ∀ res, k_Requests_waitsFor_b52 F  σ = some res → cR E true pF (d + 0) kT120 12 3 (some FieldType.int) (some (.int res)) σ g σ (52, lv, []) := by
  intro g lv σ res h
  unfold k_Requests_waitsFor_b52 at h
  refine cR_lift (fun _ _ kk => eE_iconst (v := (-1)) lk120_52 (by decide) kk) ?_
  cases h
  exact cR_end lk120_53 rfl rfl rfl
def k_Requests_waitsFor_b2 (F : Nat)  : Nat → CS → Nat → Int32 → Int32 → Option (Int32)
  | 0, _, _, _, _ => none
  | n + 1, σ, l0, l1, l2 =>
    let KK := k_Requests_waitsFor_b2 F  n
    if xc0 .le (cI σ 12 l0 8 0) = true then (
      k_Requests_waitsFor_b52 F  σ
    ) else (
      if xc2 .ge l2 ((32 : Int32)) = true then (
        k_Requests_waitsFor_b52 F  σ
      ) else (
        (crd σ 12 l0 0 l2).bind fun x8 =>
        if xc0 .eq x8 = true then (
          k_Requests_waitsFor_b46 F KK σ l0 l1 l2
        ) else (
          (crd σ 12 l0 6 l2).bind fun x11 =>
          if xc2 .ne x11 ((-1 : Int32)) = true then (
            k_Requests_waitsFor_b46 F KK σ l0 l1 l2
          ) else (
            (crd σ 12 l0 4 l2).bind fun x14 =>
            if xc2 .ne x14 l1 = true then (
              k_Requests_waitsFor_b46 F KK σ l0 l1 l2
            ) else (
              some l2
            )
          )
        )
      )
    )
set_option maxRecDepth 4000 in
theorem k_Requests_waitsFor_b2_ok {E : CE} {pF : Nat → List Value → xH → Option (Option Value × xH)} (hp0 : xNPc pF) (hL : lcAll pF) (hF : lcF pF) {d : Nat} {F : Nat}   : ∀ (n : Nat) (g : CG) (lv : xL) (σ : CS) (l0 : Nat) (l1 : Int32) (l2 : Int32), (cob σ 12 l0) → (xg lv 0 = some (.ref (coa E 12 l0))) → (xg lv 1 = some (.int l1)) → (xg lv 2 = some (.int l2)) → ∀ res, k_Requests_waitsFor_b2 F  n σ l0 l1 l2 = some res → cR E true pF (d + 0) kT120 12 3 (some FieldType.int) (some (.int res)) σ g σ (2, lv, []) := by
  intro n
  induction n with
  | zero => intro g lv σ l0 l1 l2 bl0 g0 g1 g2 res h; simp [k_Requests_waitsFor_b2] at h
  | succ n hKK =>
    intro g lv σ l0 l1 l2 bl0 g0 g1 g2 res h
    unfold k_Requests_waitsFor_b2 at h
    dsimp only at h
    refine cR_lift (fun _ _ kk => eE_aload_n lk120_2 g0 kk) ?_
    refine cR_getI lk120_3 rf_12_42 rfl bl0 ?_
    refine cR_if (t := 52) lk120_6 (by decide) (fun c6 => ?_) (fun c6 => ?_)
    · rw [if_pos c6] at h
      exact k_Requests_waitsFor_b52_ok hp0 hL hF  g lv σ  _ h
    · rw [if_neg c6] at h
      refine cR_lift (fun _ _ kk => eE_iload_n lk120_9 g2 kk) ?_
      refine cR_lift (fun _ _ kk => eE_bipush (v := 32) lk120_10 (by decide) kk) ?_
      refine cR_icmp (t := 52) lk120_12 (by decide) (fun c7 => ?_) (fun c7 => ?_)
      · rw [if_pos c7] at h
        exact k_Requests_waitsFor_b52_ok hp0 hL hF  g lv σ  _ h
      · rw [if_neg c7] at h
        refine cR_lift (fun _ _ kk => eE_aload_n lk120_15 g0 kk) ?_
        refine cR_getA lk120_16 rf_12_9 (by decide) bl0 ?_
        refine cR_lift (fun _ _ kk => eE_iload_n lk120_19 g2 kk) ?_
        obtain ⟨x8, h9, h⟩ := Option.bind_eq_some_iff.mp h
        refine cR_bald (cl := 12) (i := l0) (f := 0) lk120_20 (by decide) (Or.inr rfl) bl0 h9 ?_
        refine cR_if (t := 46) lk120_21 (by decide) (fun c10 => ?_) (fun c10 => ?_)
        · rw [if_pos c10] at h
          exact k_Requests_waitsFor_b46_ok hp0 hL hF hKK g lv σ l0 l1 l2 bl0 g0 g1 g2 _ h
        · rw [if_neg c10] at h
          refine cR_lift (fun _ _ kk => eE_aload_n lk120_24 g0 kk) ?_
          refine cR_getA lk120_25 rf_12_31 (by decide) bl0 ?_
          refine cR_lift (fun _ _ kk => eE_iload_n lk120_28 g2 kk) ?_
          obtain ⟨x11, h12, h⟩ := Option.bind_eq_some_iff.mp h
          refine cR_iald (cl := 12) (i := l0) (f := 6) lk120_29 (by decide) rfl bl0 h12 ?_
          refine cR_lift (fun _ _ kk => eE_iconst (v := (-1)) lk120_30 (by decide) kk) ?_
          refine cR_icmp (t := 46) lk120_31 (by decide) (fun c13 => ?_) (fun c13 => ?_)
          · rw [if_pos c13] at h
            exact k_Requests_waitsFor_b46_ok hp0 hL hF hKK g lv σ l0 l1 l2 bl0 g0 g1 g2 _ h
          · rw [if_neg c13] at h
            refine cR_lift (fun _ _ kk => eE_aload_n lk120_34 g0 kk) ?_
            refine cR_getA lk120_35 rf_12_25 (by decide) bl0 ?_
            refine cR_lift (fun _ _ kk => eE_iload_n lk120_38 g2 kk) ?_
            obtain ⟨x14, h15, h⟩ := Option.bind_eq_some_iff.mp h
            refine cR_iald (cl := 12) (i := l0) (f := 4) lk120_39 (by decide) rfl bl0 h15 ?_
            refine cR_lift (fun _ _ kk => eE_iload_n lk120_40 g1 kk) ?_
            refine cR_icmp (t := 46) lk120_41 (by decide) (fun c16 => ?_) (fun c16 => ?_)
            · rw [if_pos c16] at h
              exact k_Requests_waitsFor_b46_ok hp0 hL hF hKK g lv σ l0 l1 l2 bl0 g0 g1 g2 _ h
            · rw [if_neg c16] at h
              refine cR_lift (fun _ _ kk => eE_iload_n lk120_44 g2 kk) ?_
              cases h
              exact cR_end lk120_45 rfl rfl rfl
def k_Requests_waitsFor_b0 (F : Nat)  (σ : CS) (l0 : Nat) (l1 : Int32) : Option (Int32) :=
  k_Requests_waitsFor_b2 F  F σ l0 l1 ((0 : Int32))
set_option maxRecDepth 4000 in
theorem k_Requests_waitsFor_b0_ok {E : CE} {pF : Nat → List Value → xH → Option (Option Value × xH)} (hp0 : xNPc pF) (hL : lcAll pF) (hF : lcF pF) {d : Nat} {F : Nat}   : ∀ (g : CG) (lv : xL) (σ : CS) (l0 : Nat) (l1 : Int32), (cob σ 12 l0) → (xg lv 0 = some (.ref (coa E 12 l0))) → (xg lv 1 = some (.int l1)) → ∀ res, k_Requests_waitsFor_b0 F  σ l0 l1 = some res → cR E true pF (d + 0) kT120 12 3 (some FieldType.int) (some (.int res)) σ g σ (0, lv, []) := by
  intro g lv σ l0 l1 bl0 g0 g1 res h
  unfold k_Requests_waitsFor_b0 at h
  refine cR_lift (fun _ _ kk => eE_iconst (v := 0) lk120_0 (by decide) kk) ?_
  refine cR_stI (j := 2) lk120_1 (Or.inr ⟨_, rfl, rfl⟩) (by decide) (fun vq17 gq18 kq19 => ?_)
  have gq20 := kq19 0 _ (by decide) (fun e => absurd e (by decide)) g0
  have gq21 := kq19 1 _ (by decide) (fun _ => rfl) g1
  exact k_Requests_waitsFor_b2_ok hp0 hL hF  F g vq17 σ l0 l1 ((0 : Int32)) bl0 gq20 gq21 gq18 _ h
def k_Requests_waitsFor (F : Nat) (σ : CS) (l0 : Nat) (l1 : Int32) : Option (Int32) := k_Requests_waitsFor_b0 F σ l0 l1
theorem k_Requests_waitsFor_ok {E : CE} {pF : Nat → List Value → xH → Option (Option Value × xH)} (hp0 : xNPc pF) (hL : lcAll pF) (hF : lcF pF) {d : Nat} {g : CG} {σ : CS} {F : Nat} {l0 : Nat} {l1 : Int32} {res : Int32} (bl0 : cob σ 12 l0) (h : k_Requests_waitsFor F σ l0 l1 = some res) : cCo E true pF (d + 1) 120 [.ref (coa E 12 l0), .int l1] (some (.int res)) σ g σ :=
  cCo_R kk_120 mo_120 ni_120 xm_120 (Nat.le_of_ble_eq_true rfl) (hp0 120 (by decide) _) (k_Requests_waitsFor_b0_ok hp0 hL hF g _ σ l0 l1 bl0 rfl rfl _ h)
/-! k_Integer_bitCount (398), depth 1 -/
def k_Integer_bitCount_b0  (σ : CS) (l0 : Int32) : Option (Int32) :=
  some ((((((((l0 - (((l0.toUInt32 >>> (((1 : Int32)).toUInt32 &&& Int32.toUInt32 31)).toInt32) &&& ((1431655765 : Int32)))) &&& ((858993459 : Int32))) + ((((l0 - (((l0.toUInt32 >>> (((1 : Int32)).toUInt32 &&& Int32.toUInt32 31)).toInt32) &&& ((1431655765 : Int32)))).toUInt32 >>> (((2 : Int32)).toUInt32 &&& Int32.toUInt32 31)).toInt32) &&& ((858993459 : Int32)))) + (((((l0 - (((l0.toUInt32 >>> (((1 : Int32)).toUInt32 &&& Int32.toUInt32 31)).toInt32) &&& ((1431655765 : Int32)))) &&& ((858993459 : Int32))) + ((((l0 - (((l0.toUInt32 >>> (((1 : Int32)).toUInt32 &&& Int32.toUInt32 31)).toInt32) &&& ((1431655765 : Int32)))).toUInt32 >>> (((2 : Int32)).toUInt32 &&& Int32.toUInt32 31)).toInt32) &&& ((858993459 : Int32)))).toUInt32 >>> (((4 : Int32)).toUInt32 &&& Int32.toUInt32 31)).toInt32)) &&& ((252645135 : Int32))) + (((((((l0 - (((l0.toUInt32 >>> (((1 : Int32)).toUInt32 &&& Int32.toUInt32 31)).toInt32) &&& ((1431655765 : Int32)))) &&& ((858993459 : Int32))) + ((((l0 - (((l0.toUInt32 >>> (((1 : Int32)).toUInt32 &&& Int32.toUInt32 31)).toInt32) &&& ((1431655765 : Int32)))).toUInt32 >>> (((2 : Int32)).toUInt32 &&& Int32.toUInt32 31)).toInt32) &&& ((858993459 : Int32)))) + (((((l0 - (((l0.toUInt32 >>> (((1 : Int32)).toUInt32 &&& Int32.toUInt32 31)).toInt32) &&& ((1431655765 : Int32)))) &&& ((858993459 : Int32))) + ((((l0 - (((l0.toUInt32 >>> (((1 : Int32)).toUInt32 &&& Int32.toUInt32 31)).toInt32) &&& ((1431655765 : Int32)))).toUInt32 >>> (((2 : Int32)).toUInt32 &&& Int32.toUInt32 31)).toInt32) &&& ((858993459 : Int32)))).toUInt32 >>> (((4 : Int32)).toUInt32 &&& Int32.toUInt32 31)).toInt32)) &&& ((252645135 : Int32))).toUInt32 >>> (((8 : Int32)).toUInt32 &&& Int32.toUInt32 31)).toInt32)) + ((((((((l0 - (((l0.toUInt32 >>> (((1 : Int32)).toUInt32 &&& Int32.toUInt32 31)).toInt32) &&& ((1431655765 : Int32)))) &&& ((858993459 : Int32))) + ((((l0 - (((l0.toUInt32 >>> (((1 : Int32)).toUInt32 &&& Int32.toUInt32 31)).toInt32) &&& ((1431655765 : Int32)))).toUInt32 >>> (((2 : Int32)).toUInt32 &&& Int32.toUInt32 31)).toInt32) &&& ((858993459 : Int32)))) + (((((l0 - (((l0.toUInt32 >>> (((1 : Int32)).toUInt32 &&& Int32.toUInt32 31)).toInt32) &&& ((1431655765 : Int32)))) &&& ((858993459 : Int32))) + ((((l0 - (((l0.toUInt32 >>> (((1 : Int32)).toUInt32 &&& Int32.toUInt32 31)).toInt32) &&& ((1431655765 : Int32)))).toUInt32 >>> (((2 : Int32)).toUInt32 &&& Int32.toUInt32 31)).toInt32) &&& ((858993459 : Int32)))).toUInt32 >>> (((4 : Int32)).toUInt32 &&& Int32.toUInt32 31)).toInt32)) &&& ((252645135 : Int32))) + (((((((l0 - (((l0.toUInt32 >>> (((1 : Int32)).toUInt32 &&& Int32.toUInt32 31)).toInt32) &&& ((1431655765 : Int32)))) &&& ((858993459 : Int32))) + ((((l0 - (((l0.toUInt32 >>> (((1 : Int32)).toUInt32 &&& Int32.toUInt32 31)).toInt32) &&& ((1431655765 : Int32)))).toUInt32 >>> (((2 : Int32)).toUInt32 &&& Int32.toUInt32 31)).toInt32) &&& ((858993459 : Int32)))) + (((((l0 - (((l0.toUInt32 >>> (((1 : Int32)).toUInt32 &&& Int32.toUInt32 31)).toInt32) &&& ((1431655765 : Int32)))) &&& ((858993459 : Int32))) + ((((l0 - (((l0.toUInt32 >>> (((1 : Int32)).toUInt32 &&& Int32.toUInt32 31)).toInt32) &&& ((1431655765 : Int32)))).toUInt32 >>> (((2 : Int32)).toUInt32 &&& Int32.toUInt32 31)).toInt32) &&& ((858993459 : Int32)))).toUInt32 >>> (((4 : Int32)).toUInt32 &&& Int32.toUInt32 31)).toInt32)) &&& ((252645135 : Int32))).toUInt32 >>> (((8 : Int32)).toUInt32 &&& Int32.toUInt32 31)).toInt32)).toUInt32 >>> (((16 : Int32)).toUInt32 &&& Int32.toUInt32 31)).toInt32)) &&& ((63 : Int32)))
set_option maxRecDepth 4000 in
theorem k_Integer_bitCount_b0_ok {E : CE} {pF : Nat → List Value → xH → Option (Option Value × xH)} (hp0 : xNPc pF) (hL : lcAll pF) (hF : lcF pF) {d : Nat}   : ∀ (g : CG) (lv : xL) (σ : CS) (l0 : Int32), (xg lv 0 = some (.int l0)) → ∀ res, k_Integer_bitCount_b0  σ l0 = some res → cR E true pF (d + 0) kT398 20 1 (some FieldType.int) (some (.int res)) σ g σ (0, lv, []) := by
  intro g lv σ l0 g0 res h
  unfold k_Integer_bitCount_b0 at h
  refine cR_lift (fun _ _ kk => eE_iload_n lk398_0 g0 kk) ?_
  refine cR_lift (fun _ _ kk => eE_iload_n lk398_1 g0 kk) ?_
  refine cR_lift (fun _ _ kk => eE_iconst (v := 1) lk398_2 (by decide) kk) ?_
  refine cR_lift (fun _ _ kk => eE_iushr lk398_3 kk) ?_
  refine cR_lift (fun _ _ kk => eE_ldc_w (v := 1431655765) lk398_4 xc_20_265 kk) ?_
  refine cR_lift (fun _ _ kk => eE_iand lk398_7 kk) ?_
  refine cR_lift (fun _ _ kk => eE_isub lk398_8 kk) ?_
  refine cR_stI (j := 0) lk398_9 (Or.inr ⟨_, rfl, rfl⟩) (by decide) (fun vq1 gq2 kq3 => ?_)
  refine cR_lift (fun _ _ kk => eE_iload_n lk398_10 gq2 kk) ?_
  refine cR_lift (fun _ _ kk => eE_ldc_w (v := 858993459) lk398_11 xc_20_266 kk) ?_
  refine cR_lift (fun _ _ kk => eE_iand lk398_14 kk) ?_
  refine cR_lift (fun _ _ kk => eE_iload_n lk398_15 gq2 kk) ?_
  refine cR_lift (fun _ _ kk => eE_iconst (v := 2) lk398_16 (by decide) kk) ?_
  refine cR_lift (fun _ _ kk => eE_iushr lk398_17 kk) ?_
  refine cR_lift (fun _ _ kk => eE_ldc_w (v := 858993459) lk398_18 xc_20_266 kk) ?_
  refine cR_lift (fun _ _ kk => eE_iand lk398_21 kk) ?_
  refine cR_lift (fun _ _ kk => eE_iadd lk398_22 kk) ?_
  refine cR_stI (j := 0) lk398_23 (Or.inr ⟨_, rfl, rfl⟩) (by decide) (fun vq4 gq5 kq6 => ?_)
  refine cR_lift (fun _ _ kk => eE_iload_n lk398_24 gq5 kk) ?_
  refine cR_lift (fun _ _ kk => eE_iload_n lk398_25 gq5 kk) ?_
  refine cR_lift (fun _ _ kk => eE_iconst (v := 4) lk398_26 (by decide) kk) ?_
  refine cR_lift (fun _ _ kk => eE_iushr lk398_27 kk) ?_
  refine cR_lift (fun _ _ kk => eE_iadd lk398_28 kk) ?_
  refine cR_lift (fun _ _ kk => eE_ldc_w (v := 252645135) lk398_29 xc_20_267 kk) ?_
  refine cR_lift (fun _ _ kk => eE_iand lk398_32 kk) ?_
  refine cR_stI (j := 0) lk398_33 (Or.inr ⟨_, rfl, rfl⟩) (by decide) (fun vq7 gq8 kq9 => ?_)
  refine cR_lift (fun _ _ kk => eE_iload_n lk398_34 gq8 kk) ?_
  refine cR_lift (fun _ _ kk => eE_iload_n lk398_35 gq8 kk) ?_
  refine cR_lift (fun _ _ kk => eE_bipush (v := 8) lk398_36 (by decide) kk) ?_
  refine cR_lift (fun _ _ kk => eE_iushr lk398_38 kk) ?_
  refine cR_lift (fun _ _ kk => eE_iadd lk398_39 kk) ?_
  refine cR_stI (j := 0) lk398_40 (Or.inr ⟨_, rfl, rfl⟩) (by decide) (fun vq10 gq11 kq12 => ?_)
  refine cR_lift (fun _ _ kk => eE_iload_n lk398_41 gq11 kk) ?_
  refine cR_lift (fun _ _ kk => eE_iload_n lk398_42 gq11 kk) ?_
  refine cR_lift (fun _ _ kk => eE_bipush (v := 16) lk398_43 (by decide) kk) ?_
  refine cR_lift (fun _ _ kk => eE_iushr lk398_45 kk) ?_
  refine cR_lift (fun _ _ kk => eE_iadd lk398_46 kk) ?_
  refine cR_stI (j := 0) lk398_47 (Or.inr ⟨_, rfl, rfl⟩) (by decide) (fun vq13 gq14 kq15 => ?_)
  refine cR_lift (fun _ _ kk => eE_iload_n lk398_48 gq14 kk) ?_
  refine cR_lift (fun _ _ kk => eE_bipush (v := 63) lk398_49 (by decide) kk) ?_
  refine cR_lift (fun _ _ kk => eE_iand lk398_51 kk) ?_
  cases h
  exact cR_end lk398_52 rfl rfl rfl
def k_Integer_bitCount (σ : CS) (l0 : Int32) : Option (Int32) := k_Integer_bitCount_b0 σ l0
theorem k_Integer_bitCount_ok {E : CE} {pF : Nat → List Value → xH → Option (Option Value × xH)} (hp0 : xNPc pF) (hL : lcAll pF) (hF : lcF pF) {d : Nat} {g : CG} {σ : CS} {l0 : Int32} {res : Int32}  (h : k_Integer_bitCount σ l0 = some res) : cCo E true pF (d + 1) 398 [.int l0] (some (.int res)) σ g σ :=
  cCo_R kk_398 mo_398 ni_398 xm_398 (Nat.le_of_ble_eq_true rfl) (hp0 398 (by decide) _) (k_Integer_bitCount_b0_ok hp0 hL hF g _ σ l0 rfl _ h)
/-! k_Lead_isReached_7_4 (56), depth 2 -/
def k_Lead_isReached_7_4_b32 (F : Nat) (K5 : CS → Nat → Int32 → Int32 → Int32 → Int32 → Option (Int32)) (σ : CS) (l0 : Nat) (l1 : Int32) (l2 : Int32) (l3 : Int32) (l4 : Int32) : Option (Int32) :=
  K5 σ l0 l1 l2 l3 (l4 + (1 : Int32))
set_option maxRecDepth 4000 in
theorem k_Lead_isReached_7_4_b32_ok {E : CE} {pF : Nat → List Value → xH → Option (Option Value × xH)} (hp0 : xNPc pF) (hL : lcAll pF) (hF : lcF pF) {d : Nat} {F : Nat} {K5 : CS → Nat → Int32 → Int32 → Int32 → Int32 → Option (Int32)} (hK5 : ∀ (g : CG) (lv : xL) (σ : CS) (l0 : Nat) (l1 : Int32) (l2 : Int32) (l3 : Int32) (l4 : Int32), (cob σ 7 l0) → (xg lv 0 = some (.ref (caa E 7 l0 4))) → (xg lv 1 = some (.int l1)) → (xg lv 2 = some (.int l2)) → (xg lv 3 = some (.int l3)) → (xg lv 4 = some (.int l4)) → ∀ res, K5 σ l0 l1 l2 l3 l4 = some res → cR E true pF (d + 1) kT56 7 5 (some FieldType.boolean) (some (.int res)) σ g σ (5, lv, [])) : ∀ (g : CG) (lv : xL) (σ : CS) (l0 : Nat) (l1 : Int32) (l2 : Int32) (l3 : Int32) (l4 : Int32), (cob σ 7 l0) → (xg lv 0 = some (.ref (caa E 7 l0 4))) → (xg lv 1 = some (.int l1)) → (xg lv 2 = some (.int l2)) → (xg lv 3 = some (.int l3)) → (xg lv 4 = some (.int l4)) → ∀ res, k_Lead_isReached_7_4_b32 F K5 σ l0 l1 l2 l3 l4 = some res → cR E true pF (d + 1) kT56 7 5 (some FieldType.boolean) (some (.int res)) σ g σ (32, lv, []) := by
  intro g lv σ l0 l1 l2 l3 l4 bl0 g0 g1 g2 g3 g4 res h
  unfold k_Lead_isReached_7_4_b32 at h
  refine cR_inc (j := 4) (v := l4 + (1 : Int32)) lk56_32 g4 rfl (by decide) (fun vq1 gq2 kq3 => ?_)
  have gq4 := kq3 0 _ (by decide) (fun e => absurd e (by decide)) g0
  have gq5 := kq3 1 _ (by decide) (fun e => absurd e (by decide)) g1
  have gq6 := kq3 2 _ (by decide) (fun e => absurd e (by decide)) g2
  have gq7 := kq3 3 _ (by decide) (fun _ => rfl) g3
  refine cR_lift (fun _ _ kk => eE_goto (t := 5) lk56_35 (by decide) kk) ?_
  exact hK5 g vq1 σ l0 l1 l2 l3 (l4 + (1 : Int32)) bl0 gq4 gq5 gq6 gq7 gq2 _ h
def k_Lead_isReached_7_4_b53 (F : Nat)  (σ : CS) (s0 : Int32) : Option (Int32) :=
  if s0 = 0 ∨ s0 = 1 then some s0 else none
set_option maxRecDepth 4000 in
theorem k_Lead_isReached_7_4_b53_ok {E : CE} {pF : Nat → List Value → xH → Option (Option Value × xH)} (hp0 : xNPc pF) (hL : lcAll pF) (hF : lcF pF) {d : Nat} {F : Nat}   : ∀ (g : CG) (lv : xL) (σ : CS) (s0 : Int32), ∀ res, k_Lead_isReached_7_4_b53 F  σ s0 = some res → cR E true pF (d + 1) kT56 7 5 (some FieldType.boolean) (some (.int res)) σ g σ (53, lv, [.int s0]) := by
  intro g lv σ s0 res h
  unfold k_Lead_isReached_7_4_b53 at h
  by_cases z8 : s0 = 0 ∨ s0 = 1
  · rw [if_pos z8] at h; cases h
    exact cR_end lk56_53 rfl rfl (by first | (simp only [xfin, if_true, if_pos z8]; done) | simp [xfin, z8])
  · rw [if_neg z8] at h; cases h
def k_Lead_isReached_7_4_b5 (F : Nat)  : Nat → CS → Nat → Int32 → Int32 → Int32 → Int32 → Option (Int32)
  | 0, _, _, _, _, _, _ => none
  | n + 1, σ, l0, l1, l2, l3, l4 =>
    let KK := k_Lead_isReached_7_4_b5 F  n
    if xc2 .ge l4 ((7 : Int32)) = true then (
      (k_Integer_bitCount σ l1).bind fun p10 =>
      if xc2 .le (((2 : Int32)) * l3) p10 = true then (
        k_Lead_isReached_7_4_b53 F  σ ((0 : Int32))
      ) else (
        k_Lead_isReached_7_4_b53 F  σ ((1 : Int32))
      )
    ) else (
      if xc0 .eq ((l1 >>> (l4 &&& 31)) &&& ((1 : Int32))) = true then (
        k_Lead_isReached_7_4_b32 F KK σ l0 l1 l2 l3 l4
      ) else (
        (crd σ 7 l0 4 l4).bind fun x15 =>
        if xc2 .lt x15 l2 = true then (
          k_Lead_isReached_7_4_b32 F KK σ l0 l1 l2 l3 l4
        ) else (
          k_Lead_isReached_7_4_b32 F KK σ l0 l1 l2 (l3 + (1 : Int32)) l4
        )
      )
    )
set_option maxRecDepth 4000 in
theorem k_Lead_isReached_7_4_b5_ok {E : CE} {pF : Nat → List Value → xH → Option (Option Value × xH)} (hp0 : xNPc pF) (hL : lcAll pF) (hF : lcF pF) {d : Nat} {F : Nat}   : ∀ (n : Nat) (g : CG) (lv : xL) (σ : CS) (l0 : Nat) (l1 : Int32) (l2 : Int32) (l3 : Int32) (l4 : Int32), (cob σ 7 l0) → (xg lv 0 = some (.ref (caa E 7 l0 4))) → (xg lv 1 = some (.int l1)) → (xg lv 2 = some (.int l2)) → (xg lv 3 = some (.int l3)) → (xg lv 4 = some (.int l4)) → ∀ res, k_Lead_isReached_7_4_b5 F  n σ l0 l1 l2 l3 l4 = some res → cR E true pF (d + 1) kT56 7 5 (some FieldType.boolean) (some (.int res)) σ g σ (5, lv, []) := by
  intro n
  induction n with
  | zero => intro g lv σ l0 l1 l2 l3 l4 bl0 g0 g1 g2 g3 g4 res h; simp [k_Lead_isReached_7_4_b5] at h
  | succ n hKK =>
    intro g lv σ l0 l1 l2 l3 l4 bl0 g0 g1 g2 g3 g4 res h
    unfold k_Lead_isReached_7_4_b5 at h
    dsimp only at h
    refine cR_lift (fun _ _ kk => eE_iload lk56_5 g4 kk) ?_
    refine cR_lift (fun _ _ kk => eE_bipush (v := 7) lk56_7 (by decide) kk) ?_
    refine cR_icmp (t := 38) lk56_9 (by decide) (fun c9 => ?_) (fun c9 => ?_)
    · rw [if_pos c9] at h
      refine cR_lift (fun _ _ kk => eE_iconst (v := 2) lk56_38 (by decide) kk) ?_
      refine cR_lift (fun _ _ kk => eE_iload_n lk56_39 g3 kk) ?_
      refine cR_lift (fun _ _ kk => eE_imul lk56_40 kk) ?_
      refine cR_lift (fun _ _ kk => eE_iload_n lk56_41 g1 kk) ?_
      obtain ⟨p10, h11, h⟩ := Option.bind_eq_some_iff.mp h
      refine cR_stat (as := [.int l1]) lk56_42 mr_7_68 na_398 rfl rfl (by first | exact Nat.le_of_ble_eq_true rfl | (simp [xcat, cvo_cat, cat_i, cat_j, cat_r]; done)) mm_398 ws_398 (k_Integer_bitCount_ok hp0 hL hF (d := d + 0)  h11) (fun m12 => ?_)
      refine cR_icmp (t := 52) lk56_45 (by decide) (fun c13 => ?_) (fun c13 => ?_)
      · rw [if_pos c13] at h
        refine cR_lift (fun _ _ kk => eE_iconst (v := 0) lk56_52 (by decide) kk) ?_
        exact k_Lead_isReached_7_4_b53_ok hp0 hL hF  g lv σ ((0 : Int32))  _ h
      · rw [if_neg c13] at h
        refine cR_lift (fun _ _ kk => eE_iconst (v := 1) lk56_48 (by decide) kk) ?_
        refine cR_lift (fun _ _ kk => eE_goto (t := 53) lk56_49 (by decide) kk) ?_
        exact k_Lead_isReached_7_4_b53_ok hp0 hL hF  g lv σ ((1 : Int32))  _ h
    · rw [if_neg c9] at h
      refine cR_lift (fun _ _ kk => eE_iload_n lk56_12 g1 kk) ?_
      refine cR_lift (fun _ _ kk => eE_iload lk56_13 g4 kk) ?_
      refine cR_lift (fun _ _ kk => eE_ishr lk56_15 kk) ?_
      refine cR_lift (fun _ _ kk => eE_iconst (v := 1) lk56_16 (by decide) kk) ?_
      refine cR_lift (fun _ _ kk => eE_iand lk56_17 kk) ?_
      refine cR_if (t := 32) lk56_18 (by decide) (fun c14 => ?_) (fun c14 => ?_)
      · rw [if_pos c14] at h
        exact k_Lead_isReached_7_4_b32_ok hp0 hL hF hKK g lv σ l0 l1 l2 l3 l4 bl0 g0 g1 g2 g3 g4 _ h
      · rw [if_neg c14] at h
        refine cR_lift (fun _ _ kk => eE_aload_n lk56_21 g0 kk) ?_
        refine cR_lift (fun _ _ kk => eE_iload lk56_22 g4 kk) ?_
        obtain ⟨x15, h16, h⟩ := Option.bind_eq_some_iff.mp h
        refine cR_iald (cl := 7) (i := l0) (f := 4) lk56_24 (by decide) rfl bl0 h16 ?_
        refine cR_lift (fun _ _ kk => eE_iload_n lk56_25 g2 kk) ?_
        refine cR_icmp (t := 32) lk56_26 (by decide) (fun c17 => ?_) (fun c17 => ?_)
        · rw [if_pos c17] at h
          exact k_Lead_isReached_7_4_b32_ok hp0 hL hF hKK g lv σ l0 l1 l2 l3 l4 bl0 g0 g1 g2 g3 g4 _ h
        · rw [if_neg c17] at h
          refine cR_inc (j := 3) (v := l3 + (1 : Int32)) lk56_29 g3 rfl (by decide) (fun vq18 gq19 kq20 => ?_)
          have gq21 := kq20 0 _ (by decide) (fun e => absurd e (by decide)) g0
          have gq22 := kq20 1 _ (by decide) (fun e => absurd e (by decide)) g1
          have gq23 := kq20 2 _ (by decide) (fun _ => rfl) g2
          have gq24 := kq20 4 _ (by decide) (fun e => absurd e (by decide)) g4
          exact k_Lead_isReached_7_4_b32_ok hp0 hL hF hKK g vq18 σ l0 l1 l2 (l3 + (1 : Int32)) l4 bl0 gq21 gq22 gq23 gq19 gq24 _ h
def k_Lead_isReached_7_4_b0 (F : Nat)  (σ : CS) (l0 : Nat) (l1 : Int32) (l2 : Int32) : Option (Int32) :=
  k_Lead_isReached_7_4_b5 F  F σ l0 l1 l2 ((0 : Int32)) ((0 : Int32))
set_option maxRecDepth 4000 in
theorem k_Lead_isReached_7_4_b0_ok {E : CE} {pF : Nat → List Value → xH → Option (Option Value × xH)} (hp0 : xNPc pF) (hL : lcAll pF) (hF : lcF pF) {d : Nat} {F : Nat}   : ∀ (g : CG) (lv : xL) (σ : CS) (l0 : Nat) (l1 : Int32) (l2 : Int32), (cob σ 7 l0) → (xg lv 0 = some (.ref (caa E 7 l0 4))) → (xg lv 1 = some (.int l1)) → (xg lv 2 = some (.int l2)) → ∀ res, k_Lead_isReached_7_4_b0 F  σ l0 l1 l2 = some res → cR E true pF (d + 1) kT56 7 5 (some FieldType.boolean) (some (.int res)) σ g σ (0, lv, []) := by
  intro g lv σ l0 l1 l2 bl0 g0 g1 g2 res h
  unfold k_Lead_isReached_7_4_b0 at h
  refine cR_lift (fun _ _ kk => eE_iconst (v := 0) lk56_0 (by decide) kk) ?_
  refine cR_stI (j := 3) lk56_1 (Or.inr ⟨_, rfl, rfl⟩) (by decide) (fun vq25 gq26 kq27 => ?_)
  have gq28 := kq27 0 _ (by decide) (fun e => absurd e (by decide)) g0
  have gq29 := kq27 1 _ (by decide) (fun e => absurd e (by decide)) g1
  have gq30 := kq27 2 _ (by decide) (fun _ => rfl) g2
  refine cR_lift (fun _ _ kk => eE_iconst (v := 0) lk56_2 (by decide) kk) ?_
  refine cR_stI (j := 4) lk56_3 (Or.inl rfl) (by decide) (fun vq31 gq32 kq33 => ?_)
  have gq34 := kq33 0 _ (by decide) (fun e => absurd e (by decide)) gq28
  have gq35 := kq33 1 _ (by decide) (fun e => absurd e (by decide)) gq29
  have gq36 := kq33 2 _ (by decide) (fun e => absurd e (by decide)) gq30
  have gq37 := kq33 3 _ (by decide) (fun _ => rfl) gq26
  exact k_Lead_isReached_7_4_b5_ok hp0 hL hF  F g vq31 σ l0 l1 l2 ((0 : Int32)) ((0 : Int32)) bl0 gq34 gq35 gq36 gq37 gq32 _ h
def k_Lead_isReached_7_4 (F : Nat) (σ : CS) (l0 : Nat) (l1 : Int32) (l2 : Int32) : Option (Int32) := k_Lead_isReached_7_4_b0 F σ l0 l1 l2
theorem k_Lead_isReached_7_4_ok {E : CE} {pF : Nat → List Value → xH → Option (Option Value × xH)} (hp0 : xNPc pF) (hL : lcAll pF) (hF : lcF pF) {d : Nat} {g : CG} {σ : CS} {F : Nat} {l0 : Nat} {l1 : Int32} {l2 : Int32} {res : Int32} (bl0 : cob σ 7 l0) (h : k_Lead_isReached_7_4 F σ l0 l1 l2 = some res) : cCo E true pF (d + 2) 56 [.ref (caa E 7 l0 4), .int l1, .int l2] (some (.int res)) σ g σ :=
  cCo_R kk_56 mo_56 ni_56 xm_56 (Nat.le_of_ble_eq_true rfl) (hp0 56 (by decide) _) (k_Lead_isReached_7_4_b0_ok hp0 hL hF g _ σ l0 l1 l2 bl0 rfl rfl rfl _ h)
/-! k_Lead_mostOf_7_4 (58), depth 3 -/
def k_Lead_mostOf_7_4_b41 (F : Nat) (K5 : CS → Nat → Int32 → Int32 → Int32 → Option (Int32)) (σ : CS) (l0 : Nat) (l1 : Int32) (l2 : Int32) (l3 : Int32) : Option (Int32) :=
  K5 σ l0 l1 l2 (l3 + (1 : Int32))
set_option maxRecDepth 4000 in
theorem k_Lead_mostOf_7_4_b41_ok {E : CE} {pF : Nat → List Value → xH → Option (Option Value × xH)} (hp0 : xNPc pF) (hL : lcAll pF) (hF : lcF pF) {d : Nat} {F : Nat} {K5 : CS → Nat → Int32 → Int32 → Int32 → Option (Int32)} (hK5 : ∀ (g : CG) (lv : xL) (σ : CS) (l0 : Nat) (l1 : Int32) (l2 : Int32) (l3 : Int32), (cob σ 7 l0) → (xg lv 0 = some (.ref (caa E 7 l0 4))) → (xg lv 1 = some (.int l1)) → (xg lv 2 = some (.int l2)) → (xg lv 3 = some (.int l3)) → ∀ res, K5 σ l0 l1 l2 l3 = some res → cR E true pF (d + 2) kT58 7 4 (some FieldType.int) (some (.int res)) σ g σ (5, lv, [])) : ∀ (g : CG) (lv : xL) (σ : CS) (l0 : Nat) (l1 : Int32) (l2 : Int32) (l3 : Int32), (cob σ 7 l0) → (xg lv 0 = some (.ref (caa E 7 l0 4))) → (xg lv 1 = some (.int l1)) → (xg lv 2 = some (.int l2)) → (xg lv 3 = some (.int l3)) → ∀ res, k_Lead_mostOf_7_4_b41 F K5 σ l0 l1 l2 l3 = some res → cR E true pF (d + 2) kT58 7 4 (some FieldType.int) (some (.int res)) σ g σ (41, lv, []) := by
  intro g lv σ l0 l1 l2 l3 bl0 g0 g1 g2 g3 res h
  unfold k_Lead_mostOf_7_4_b41 at h
  refine cR_inc (j := 3) (v := l3 + (1 : Int32)) lk58_41 g3 rfl (by decide) (fun vq1 gq2 kq3 => ?_)
  have gq4 := kq3 0 _ (by decide) (fun e => absurd e (by decide)) g0
  have gq5 := kq3 1 _ (by decide) (fun e => absurd e (by decide)) g1
  have gq6 := kq3 2 _ (by decide) (fun _ => rfl) g2
  refine cR_lift (fun _ _ kk => eE_goto (t := 5) lk58_44 (by decide) kk) ?_
  exact hK5 g vq1 σ l0 l1 l2 (l3 + (1 : Int32)) bl0 gq4 gq5 gq6 gq2 _ h
def k_Lead_mostOf_7_4_b5 (F : Nat)  : Nat → CS → Nat → Int32 → Int32 → Int32 → Option (Int32)
  | 0, _, _, _, _, _ => none
  | n + 1, σ, l0, l1, l2, l3 =>
    let KK := k_Lead_mostOf_7_4_b5 F  n
    if xc2 .ge l3 ((7 : Int32)) = true then (
      some l2
    ) else (
      if xc0 .eq ((l1 >>> (l3 &&& 31)) &&& ((1 : Int32))) = true then (
        k_Lead_mostOf_7_4_b41 F KK σ l0 l1 l2 l3
      ) else (
        (crd σ 7 l0 4 l3).bind fun x9 =>
        if xc2 .le x9 l2 = true then (
          k_Lead_mostOf_7_4_b41 F KK σ l0 l1 l2 l3
        ) else (
          (crd σ 7 l0 4 l3).bind fun x12 =>
          (k_Lead_isReached_7_4 F σ l0 l1 x12).bind fun p14 =>
          if xc0 .eq p14 = true then (
            k_Lead_mostOf_7_4_b41 F KK σ l0 l1 l2 l3
          ) else (
            (crd σ 7 l0 4 l3).bind fun x18 =>
            k_Lead_mostOf_7_4_b41 F KK σ l0 l1 x18 l3
          )
        )
      )
    )
set_option maxRecDepth 4000 in
theorem k_Lead_mostOf_7_4_b5_ok {E : CE} {pF : Nat → List Value → xH → Option (Option Value × xH)} (hp0 : xNPc pF) (hL : lcAll pF) (hF : lcF pF) {d : Nat} {F : Nat}   : ∀ (n : Nat) (g : CG) (lv : xL) (σ : CS) (l0 : Nat) (l1 : Int32) (l2 : Int32) (l3 : Int32), (cob σ 7 l0) → (xg lv 0 = some (.ref (caa E 7 l0 4))) → (xg lv 1 = some (.int l1)) → (xg lv 2 = some (.int l2)) → (xg lv 3 = some (.int l3)) → ∀ res, k_Lead_mostOf_7_4_b5 F  n σ l0 l1 l2 l3 = some res → cR E true pF (d + 2) kT58 7 4 (some FieldType.int) (some (.int res)) σ g σ (5, lv, []) := by
  intro n
  induction n with
  | zero => intro g lv σ l0 l1 l2 l3 bl0 g0 g1 g2 g3 res h; simp [k_Lead_mostOf_7_4_b5] at h
  | succ n hKK =>
    intro g lv σ l0 l1 l2 l3 bl0 g0 g1 g2 g3 res h
    unfold k_Lead_mostOf_7_4_b5 at h
    dsimp only at h
    refine cR_lift (fun _ _ kk => eE_iload_n lk58_5 g3 kk) ?_
    refine cR_lift (fun _ _ kk => eE_bipush (v := 7) lk58_6 (by decide) kk) ?_
    refine cR_icmp (t := 47) lk58_8 (by decide) (fun c7 => ?_) (fun c7 => ?_)
    · rw [if_pos c7] at h
      refine cR_lift (fun _ _ kk => eE_iload_n lk58_47 g2 kk) ?_
      cases h
      exact cR_end lk58_48 rfl rfl rfl
    · rw [if_neg c7] at h
      refine cR_lift (fun _ _ kk => eE_iload_n lk58_11 g1 kk) ?_
      refine cR_lift (fun _ _ kk => eE_iload_n lk58_12 g3 kk) ?_
      refine cR_lift (fun _ _ kk => eE_ishr lk58_13 kk) ?_
      refine cR_lift (fun _ _ kk => eE_iconst (v := 1) lk58_14 (by decide) kk) ?_
      refine cR_lift (fun _ _ kk => eE_iand lk58_15 kk) ?_
      refine cR_if (t := 41) lk58_16 (by decide) (fun c8 => ?_) (fun c8 => ?_)
      · rw [if_pos c8] at h
        exact k_Lead_mostOf_7_4_b41_ok hp0 hL hF hKK g lv σ l0 l1 l2 l3 bl0 g0 g1 g2 g3 _ h
      · rw [if_neg c8] at h
        refine cR_lift (fun _ _ kk => eE_aload_n lk58_19 g0 kk) ?_
        refine cR_lift (fun _ _ kk => eE_iload_n lk58_20 g3 kk) ?_
        obtain ⟨x9, h10, h⟩ := Option.bind_eq_some_iff.mp h
        refine cR_iald (cl := 7) (i := l0) (f := 4) lk58_21 (by decide) rfl bl0 h10 ?_
        refine cR_lift (fun _ _ kk => eE_iload_n lk58_22 g2 kk) ?_
        refine cR_icmp (t := 41) lk58_23 (by decide) (fun c11 => ?_) (fun c11 => ?_)
        · rw [if_pos c11] at h
          exact k_Lead_mostOf_7_4_b41_ok hp0 hL hF hKK g lv σ l0 l1 l2 l3 bl0 g0 g1 g2 g3 _ h
        · rw [if_neg c11] at h
          refine cR_lift (fun _ _ kk => eE_aload_n lk58_26 g0 kk) ?_
          refine cR_lift (fun _ _ kk => eE_iload_n lk58_27 g1 kk) ?_
          refine cR_lift (fun _ _ kk => eE_aload_n lk58_28 g0 kk) ?_
          refine cR_lift (fun _ _ kk => eE_iload_n lk58_29 g3 kk) ?_
          obtain ⟨x12, h13, h⟩ := Option.bind_eq_some_iff.mp h
          refine cR_iald (cl := 7) (i := l0) (f := 4) lk58_30 (by decide) rfl bl0 h13 ?_
          obtain ⟨p14, h15, h⟩ := Option.bind_eq_some_iff.mp h
          refine cR_stat (as := [.ref (caa E 7 l0 4), .int l1, .int x12]) lk58_31 mr_7_64 na_56 rfl rfl (by first | exact Nat.le_of_ble_eq_true rfl | (simp [xcat, cvo_cat, cat_i, cat_j, cat_r]; done)) mm_56 ws_56 (k_Lead_isReached_7_4_ok hp0 hL hF (d := d + 0) bl0 h15) (fun m16 => ?_)
          refine cR_if (t := 41) lk58_34 (by decide) (fun c17 => ?_) (fun c17 => ?_)
          · rw [if_pos c17] at h
            exact k_Lead_mostOf_7_4_b41_ok hp0 hL hF hKK g lv σ l0 l1 l2 l3 bl0 g0 g1 g2 g3 _ h
          · rw [if_neg c17] at h
            refine cR_lift (fun _ _ kk => eE_aload_n lk58_37 g0 kk) ?_
            refine cR_lift (fun _ _ kk => eE_iload_n lk58_38 g3 kk) ?_
            obtain ⟨x18, h19, h⟩ := Option.bind_eq_some_iff.mp h
            refine cR_iald (cl := 7) (i := l0) (f := 4) lk58_39 (by decide) rfl bl0 h19 ?_
            refine cR_stI (j := 2) lk58_40 (Or.inr ⟨_, rfl, rfl⟩) (by decide) (fun vq20 gq21 kq22 => ?_)
            have gq23 := kq22 0 _ (by decide) (fun e => absurd e (by decide)) g0
            have gq24 := kq22 1 _ (by decide) (fun _ => rfl) g1
            have gq25 := kq22 3 _ (by decide) (fun e => absurd e (by decide)) g3
            exact k_Lead_mostOf_7_4_b41_ok hp0 hL hF hKK g vq20 σ l0 l1 x18 l3 bl0 gq23 gq24 gq21 gq25 _ h
def k_Lead_mostOf_7_4_b0 (F : Nat)  (σ : CS) (l0 : Nat) (l1 : Int32) : Option (Int32) :=
  k_Lead_mostOf_7_4_b5 F  F σ l0 l1 ((-2147483648 : Int32)) ((0 : Int32))
set_option maxRecDepth 4000 in
theorem k_Lead_mostOf_7_4_b0_ok {E : CE} {pF : Nat → List Value → xH → Option (Option Value × xH)} (hp0 : xNPc pF) (hL : lcAll pF) (hF : lcF pF) {d : Nat} {F : Nat}   : ∀ (g : CG) (lv : xL) (σ : CS) (l0 : Nat) (l1 : Int32), (cob σ 7 l0) → (xg lv 0 = some (.ref (caa E 7 l0 4))) → (xg lv 1 = some (.int l1)) → ∀ res, k_Lead_mostOf_7_4_b0 F  σ l0 l1 = some res → cR E true pF (d + 2) kT58 7 4 (some FieldType.int) (some (.int res)) σ g σ (0, lv, []) := by
  intro g lv σ l0 l1 bl0 g0 g1 res h
  unfold k_Lead_mostOf_7_4_b0 at h
  refine cR_lift (fun _ _ kk => eE_ldc (v := (-2147483648)) lk58_0 xc_7_63 kk) ?_
  refine cR_stI (j := 2) lk58_2 (Or.inr ⟨_, rfl, rfl⟩) (by decide) (fun vq26 gq27 kq28 => ?_)
  have gq29 := kq28 0 _ (by decide) (fun e => absurd e (by decide)) g0
  have gq30 := kq28 1 _ (by decide) (fun _ => rfl) g1
  refine cR_lift (fun _ _ kk => eE_iconst (v := 0) lk58_3 (by decide) kk) ?_
  refine cR_stI (j := 3) lk58_4 (Or.inr ⟨_, rfl, rfl⟩) (by decide) (fun vq31 gq32 kq33 => ?_)
  have gq34 := kq33 0 _ (by decide) (fun e => absurd e (by decide)) gq29
  have gq35 := kq33 1 _ (by decide) (fun e => absurd e (by decide)) gq30
  have gq36 := kq33 2 _ (by decide) (fun _ => rfl) gq27
  exact k_Lead_mostOf_7_4_b5_ok hp0 hL hF  F g vq31 σ l0 l1 ((-2147483648 : Int32)) ((0 : Int32)) bl0 gq34 gq35 gq36 gq32 _ h
def k_Lead_mostOf_7_4 (F : Nat) (σ : CS) (l0 : Nat) (l1 : Int32) : Option (Int32) := k_Lead_mostOf_7_4_b0 F σ l0 l1
theorem k_Lead_mostOf_7_4_ok {E : CE} {pF : Nat → List Value → xH → Option (Option Value × xH)} (hp0 : xNPc pF) (hL : lcAll pF) (hF : lcF pF) {d : Nat} {g : CG} {σ : CS} {F : Nat} {l0 : Nat} {l1 : Int32} {res : Int32} (bl0 : cob σ 7 l0) (h : k_Lead_mostOf_7_4 F σ l0 l1 = some res) : cCo E true pF (d + 3) 58 [.ref (caa E 7 l0 4), .int l1] (some (.int res)) σ g σ :=
  cCo_R kk_58 mo_58 ni_58 xm_58 (Nat.le_of_ble_eq_true rfl) (hp0 58 (by decide) _) (k_Lead_mostOf_7_4_b0_ok hp0 hL hF g _ σ l0 l1 bl0 rfl rfl _ h)
/-! k_Lead_most_7_4 (57), depth 4 -/
def k_Lead_most_7_4_b34 (F : Nat)  (σ : CS) (s0 : Int32) : Option (Int32) :=
  some s0
set_option maxRecDepth 4000 in
theorem k_Lead_most_7_4_b34_ok {E : CE} {pF : Nat → List Value → xH → Option (Option Value × xH)} (hp0 : xNPc pF) (hL : lcAll pF) (hF : lcF pF) {d : Nat} {F : Nat}   : ∀ (g : CG) (lv : xL) (σ : CS) (s0 : Int32), ∀ res, k_Lead_most_7_4_b34 F  σ s0 = some res → cR E true pF (d + 3) kT57 7 4 (some FieldType.int) (some (.int res)) σ g σ (34, lv, [.int s0]) := by
  intro g lv σ s0 res h
  unfold k_Lead_most_7_4_b34 at h
  cases h
  exact cR_end lk57_34 rfl rfl rfl
def k_Lead_most_7_4_b0 (F : Nat)  (σ : CS) (l0 : Nat) (l1 : Int32) : Option (Int32) :=
  (k_Lead_mostOf_7_4 F σ l0 (l1 &&& ((127 : Int32)))).bind fun p1 =>
  if xc0 .ne ((l1 >>> (((7 : Int32)) &&& 31)) &&& ((127 : Int32))) = true then (
    (k_Lead_mostOf_7_4 F σ l0 ((l1 >>> (((7 : Int32)) &&& 31)) &&& ((127 : Int32)))).bind fun p15 =>
    k_Lead_most_7_4_b34 F  σ (cmin p1 p15)
  ) else (
    k_Lead_most_7_4_b34 F  σ p1
  )
set_option maxRecDepth 4000 in
theorem k_Lead_most_7_4_b0_ok {E : CE} {pF : Nat → List Value → xH → Option (Option Value × xH)} (hp0 : xNPc pF) (hL : lcAll pF) (hF : lcF pF) {d : Nat} {F : Nat}   : ∀ (g : CG) (lv : xL) (σ : CS) (l0 : Nat) (l1 : Int32), (cob σ 7 l0) → (xg lv 0 = some (.ref (caa E 7 l0 4))) → (xg lv 1 = some (.int l1)) → ∀ res, k_Lead_most_7_4_b0 F  σ l0 l1 = some res → cR E true pF (d + 3) kT57 7 4 (some FieldType.int) (some (.int res)) σ g σ (0, lv, []) := by
  intro g lv σ l0 l1 bl0 g0 g1 res h
  unfold k_Lead_most_7_4_b0 at h
  refine cR_lift (fun _ _ kk => eE_aload_n lk57_0 g0 kk) ?_
  refine cR_lift (fun _ _ kk => eE_iload_n lk57_1 g1 kk) ?_
  refine cR_lift (fun _ _ kk => eE_bipush (v := 127) lk57_2 (by decide) kk) ?_
  refine cR_lift (fun _ _ kk => eE_iand lk57_4 kk) ?_
  obtain ⟨p1, h2, h⟩ := Option.bind_eq_some_iff.mp h
  refine cR_stat (as := [.ref (caa E 7 l0 4), .int (l1 &&& ((127 : Int32)))]) lk57_5 mr_7_53 na_58 rfl rfl (by first | exact Nat.le_of_ble_eq_true rfl | (simp [xcat, cvo_cat, cat_i, cat_j, cat_r]; done)) mm_58 ws_58 (k_Lead_mostOf_7_4_ok hp0 hL hF (d := d + 0) bl0 h2) (fun m3 => ?_)
  refine cR_stI (j := 2) lk57_8 (Or.inr ⟨_, rfl, rfl⟩) (by decide) (fun vq4 gq5 kq6 => ?_)
  have gq7 := kq6 0 _ (by decide) (fun e => absurd e (by decide)) g0
  have gq8 := kq6 1 _ (by decide) (fun _ => rfl) g1
  refine cR_lift (fun _ _ kk => eE_iload_n lk57_9 gq8 kk) ?_
  refine cR_lift (fun _ _ kk => eE_bipush (v := 7) lk57_10 (by decide) kk) ?_
  refine cR_lift (fun _ _ kk => eE_ishr lk57_12 kk) ?_
  refine cR_lift (fun _ _ kk => eE_bipush (v := 127) lk57_13 (by decide) kk) ?_
  refine cR_lift (fun _ _ kk => eE_iand lk57_15 kk) ?_
  refine cR_stI (j := 3) lk57_16 (Or.inr ⟨_, rfl, rfl⟩) (by decide) (fun vq9 gq10 kq11 => ?_)
  have gq12 := kq11 0 _ (by decide) (fun e => absurd e (by decide)) gq7
  have gq13 := kq11 2 _ (by decide) (fun _ => rfl) gq5
  refine cR_lift (fun _ _ kk => eE_iload_n lk57_17 gq10 kk) ?_
  refine cR_if (t := 25) lk57_18 (by decide) (fun c14 => ?_) (fun c14 => ?_)
  · rw [if_pos c14] at h
    refine cR_lift (fun _ _ kk => eE_iload_n lk57_25 gq13 kk) ?_
    refine cR_lift (fun _ _ kk => eE_aload_n lk57_26 gq12 kk) ?_
    refine cR_lift (fun _ _ kk => eE_iload_n lk57_27 gq10 kk) ?_
    obtain ⟨p15, h16, h⟩ := Option.bind_eq_some_iff.mp h
    refine cR_stat (as := [.ref (caa E 7 l0 4), .int ((l1 >>> (((7 : Int32)) &&& 31)) &&& ((127 : Int32)))]) lk57_28 mr_7_53 na_58 rfl rfl (by first | exact Nat.le_of_ble_eq_true rfl | (simp [xcat, cvo_cat, cat_i, cat_j, cat_r]; done)) mm_58 ws_58 (k_Lead_mostOf_7_4_ok hp0 hL hF (d := d + 0) bl0 h16) (fun m17 => ?_)
    refine cR_min lk57_31 mr_7_57 (by first | exact Nat.le_of_ble_eq_true rfl | (simp [xcat, cvo_cat, cat_i, cat_j, cat_r]; done)) ?_
    exact k_Lead_most_7_4_b34_ok hp0 hL hF  g vq9 σ (cmin p1 p15)  _ h
  · rw [if_neg c14] at h
    refine cR_lift (fun _ _ kk => eE_iload_n lk57_21 gq13 kk) ?_
    refine cR_lift (fun _ _ kk => eE_goto (t := 34) lk57_22 (by decide) kk) ?_
    exact k_Lead_most_7_4_b34_ok hp0 hL hF  g vq9 σ p1  _ h
def k_Lead_most_7_4 (F : Nat) (σ : CS) (l0 : Nat) (l1 : Int32) : Option (Int32) := k_Lead_most_7_4_b0 F σ l0 l1
theorem k_Lead_most_7_4_ok {E : CE} {pF : Nat → List Value → xH → Option (Option Value × xH)} (hp0 : xNPc pF) (hL : lcAll pF) (hF : lcF pF) {d : Nat} {g : CG} {σ : CS} {F : Nat} {l0 : Nat} {l1 : Int32} {res : Int32} (bl0 : cob σ 7 l0) (h : k_Lead_most_7_4 F σ l0 l1 = some res) : cCo E true pF (d + 4) 57 [.ref (caa E 7 l0 4), .int l1] (some (.int res)) σ g σ :=
  cCo_R kk_57 mo_57 ni_57 xm_57 (Nat.le_of_ble_eq_true rfl) (hp0 57 (by decide) _) (k_Lead_most_7_4_b0_ok hp0 hL hF g _ σ l0 l1 bl0 rfl rfl _ h)
/-! k_Letter_fill_10_10 (60), depth 1 -/
def k_Letter_fill_10_10_b45  (σ : CS) : Option (CS) :=
  some σ
set_option maxRecDepth 4000 in
theorem k_Letter_fill_10_10_b45_ok {E : CE} {pF : Nat → List Value → xH → Option (Option Value × xH)} (hp0 : xNPc pF) (hL : lcAll pF) (hF : lcF pF) {d : Nat}   : ∀ (g : CG) (lv : xL) (σ : CS), ∀ res, k_Letter_fill_10_10_b45  σ = some res → cR E true pF (d + 0) kT60 8 4 none none res g σ (45, lv, []) := by
  intro g lv σ res h
  unfold k_Letter_fill_10_10_b45 at h
  cases h
  exact cR_end lk60_45 rfl rfl rfl
def k_Letter_fill_10_10_b0  (σ : CS) (l0 : Nat) (l1 : Nat) (l2 : Int32) (l3 : Int32) : Option (CS) :=
  (some (csI σ 8 l0 17 0 (cmax ((0 : Int32)) (cmin (cmin l3 (Int32.ofNat (cal σ 8 l0 19))) ((Int32.ofNat (cal σ 10 l1 10)) - l2))))).bind fun σ1 =>
  if xc0 .le (cI σ1 8 l0 17 0) = true then (
    k_Letter_fill_10_10_b45  σ1
  ) else (
    (ccpy σ1 10 l1 10 l2 8 l0 19 ((0 : Int32)) (cI σ1 8 l0 17 0)).bind fun σ4 =>
    k_Letter_fill_10_10_b45  σ4
  )
set_option maxRecDepth 4000 in
theorem k_Letter_fill_10_10_b0_ok {E : CE} {pF : Nat → List Value → xH → Option (Option Value × xH)} (hp0 : xNPc pF) (hL : lcAll pF) (hF : lcF pF) {d : Nat}   : ∀ (g : CG) (lv : xL) (σ : CS) (l0 : Nat) (l1 : Nat) (l2 : Int32) (l3 : Int32), (cob σ 8 l0) → (cob σ 10 l1) → (xg lv 0 = some (.ref (coa E 8 l0))) → (xg lv 1 = some (.ref (caa E 10 l1 10))) → (xg lv 2 = some (.int l2)) → (xg lv 3 = some (.int l3)) → ∀ res, k_Letter_fill_10_10_b0  σ l0 l1 l2 l3 = some res → cR E true pF (d + 0) kT60 8 4 none none res g σ (0, lv, []) := by
  intro g lv σ l0 l1 l2 l3 bl0 bl1 g0 g1 g2 g3 res h
  unfold k_Letter_fill_10_10_b0 at h
  refine cR_lift (fun _ _ kk => eE_aload_n lk60_0 g0 kk) ?_
  refine cR_lift (fun _ _ kk => eE_iconst (v := 0) lk60_1 (by decide) kk) ?_
  refine cR_lift (fun _ _ kk => eE_iload_n lk60_2 g3 kk) ?_
  refine cR_lift (fun _ _ kk => eE_aload_n lk60_3 g0 kk) ?_
  refine cR_getA lk60_4 rf_8_15 (by decide) bl0 ?_
  refine cR_alen (cl := 8) (i := l0) (f := 19) lk60_7 (by decide) (by decide) bl0 ?_
  refine cR_min lk60_8 mr_8_74 (by first | exact Nat.le_of_ble_eq_true rfl | (simp [xcat, cvo_cat, cat_i, cat_j, cat_r]; done)) ?_
  refine cR_lift (fun _ _ kk => eE_aload_n lk60_11 g1 kk) ?_
  refine cR_alen (cl := 10) (i := l1) (f := 10) lk60_12 (by decide) (by decide) bl1 ?_
  refine cR_lift (fun _ _ kk => eE_iload_n lk60_13 g2 kk) ?_
  refine cR_lift (fun _ _ kk => eE_isub lk60_14 kk) ?_
  refine cR_min lk60_15 mr_8_74 (by first | exact Nat.le_of_ble_eq_true rfl | (simp [xcat, cvo_cat, cat_i, cat_j, cat_r]; done)) ?_
  refine cR_max lk60_18 mr_8_80 (by first | exact Nat.le_of_ble_eq_true rfl | (simp [xcat, cvo_cat, cat_i, cat_j, cat_r]; done)) ?_
  obtain ⟨σ1, h2, h⟩ := Option.bind_eq_some_iff.mp h
  refine cR_putI lk60_21 rf_8_65 rfl bl0 pf_8_17 rfl h2 ?_
  refine cR_lift (fun _ _ kk => eE_aload_n lk60_24 g0 kk) ?_
  refine cR_getI lk60_25 rf_8_65 rfl (cob_mon (cput_mon h2) bl0) ?_
  refine cR_if (t := 45) lk60_28 (by decide) (fun c3 => ?_) (fun c3 => ?_)
  · rw [if_pos c3] at h
    exact k_Letter_fill_10_10_b45_ok hp0 hL hF  g lv σ1  _ h
  · rw [if_neg c3] at h
    refine cR_lift (fun _ _ kk => eE_aload_n lk60_31 g1 kk) ?_
    refine cR_lift (fun _ _ kk => eE_iload_n lk60_32 g2 kk) ?_
    refine cR_lift (fun _ _ kk => eE_aload_n lk60_33 g0 kk) ?_
    refine cR_getA lk60_34 rf_8_15 (by decide) (cob_mon (cput_mon h2) bl0) ?_
    refine cR_lift (fun _ _ kk => eE_iconst (v := 0) lk60_37 (by decide) kk) ?_
    refine cR_lift (fun _ _ kk => eE_aload_n lk60_38 g0 kk) ?_
    refine cR_getI lk60_39 rf_8_65 rfl (cob_mon (cput_mon h2) bl0) ?_
    obtain ⟨σ4, h5, h⟩ := Option.bind_eq_some_iff.mp h
    refine cR_cpy (a := 10) (i := l1) (f := 10) (a' := 8) (i' := l0) (f' := 19) lk60_42 yc_8_68.1 yc_8_68.2 (by decide) (by decide) (by decide) (cob_any rfl bl1) (cob_mon (cput_mon h2) bl0) (by first | exact Nat.le_of_ble_eq_true rfl | (simp [xcat, cvo_cat, cat_i, cat_j, cat_r]; done)) h5 ?_
    exact k_Letter_fill_10_10_b45_ok hp0 hL hF  g lv σ4  _ h
def k_Letter_fill_10_10 (σ : CS) (l0 : Nat) (l1 : Nat) (l2 : Int32) (l3 : Int32) : Option (CS) := k_Letter_fill_10_10_b0 σ l0 l1 l2 l3
theorem k_Letter_fill_10_10_ok {E : CE} {pF : Nat → List Value → xH → Option (Option Value × xH)} (hp0 : xNPc pF) (hL : lcAll pF) (hF : lcF pF) {d : Nat} {g : CG} {σ : CS} {l0 : Nat} {l1 : Nat} {l2 : Int32} {l3 : Int32} {res : CS} (bl0 : cob σ 8 l0) (bl1 : cob σ 10 l1) (h : k_Letter_fill_10_10 σ l0 l1 l2 l3 = some res) : cCo E true pF (d + 1) 60 [.ref (coa E 8 l0), .ref (caa E 10 l1 10), .int l2, .int l3] none res g σ :=
  cCo_R kk_60 mo_60 ni_60 xm_60 (Nat.le_of_ble_eq_true rfl) (hp0 60 (by decide) _) (k_Letter_fill_10_10_b0_ok hp0 hL hF g _ σ l0 l1 l2 l3 bl0 bl1 rfl rfl rfl rfl _ h)
/-! k_World_drawAlarm (188), depth 2 -/
def k_World_drawAlarm_b0  (σ : CS) (l0 : Nat) (l1 : Int32) : Option (CS) :=
  (crdJ σ 14 l0 14 l1).bind fun x1 =>
  (cwrJ σ 14 l0 14 l1 ((x1 * ((6364136223846793005 : Int64))) + ((1442695040888963407 : Int64)))).bind fun σ3 =>
  (crdJ σ3 14 l0 14 l1).bind fun x5 =>
  if ((50 : Int64)) = 0 then none else
  (k_World_setBell σ3 l0 l1 (((cI σ3 14 l0 0 0) + ((50 : Int32))) + ((((x5.toUInt64 >>> (((33 : Int32)).toInt64.toUInt64 &&& Int64.toUInt64 63)).toInt64) - ((x5.toUInt64 >>> (((33 : Int32)).toInt64.toUInt64 &&& Int64.toUInt64 63)).toInt64) / ((50 : Int64)) * ((50 : Int64))).toInt32))).bind fun p8 =>
  some p8
set_option maxRecDepth 4000 in
theorem k_World_drawAlarm_b0_ok {E : CE} {pF : Nat → List Value → xH → Option (Option Value × xH)} (hp0 : xNPc pF) (hL : lcAll pF) (hF : lcF pF) {d : Nat}   : ∀ (g : CG) (lv : xL) (σ : CS) (l0 : Nat) (l1 : Int32), (cob σ 14 l0) → (xg lv 0 = some (.ref (coa E 14 l0))) → (xg lv 1 = some (.int l1)) → ∀ res, k_World_drawAlarm_b0  σ l0 l1 = some res → cR E true pF (d + 1) kT188 14 2 none none res g σ (0, lv, []) := by
  intro g lv σ l0 l1 bl0 g0 g1 res h
  unfold k_World_drawAlarm_b0 at h
  refine cR_lift (fun _ _ kk => eE_aload_n lk188_0 g0 kk) ?_
  refine cR_getA lk188_1 rf_14_24 (by decide) bl0 ?_
  refine cR_lift (fun _ _ kk => eE_iload_n lk188_4 g1 kk) ?_
  refine cR_lift (fun _ _ kk => eE_aload_n lk188_5 g0 kk) ?_
  refine cR_getA lk188_6 rf_14_24 (by decide) bl0 ?_
  refine cR_lift (fun _ _ kk => eE_iload_n lk188_9 g1 kk) ?_
  obtain ⟨x1, h2, h⟩ := Option.bind_eq_some_iff.mp h
  refine cR_lald (cl := 14) (i := l0) (f := 14) lk188_10 (by decide) rfl bl0 h2 ?_
  refine cR_lift (fun _ _ kk => eE_ldc2_w (v := 6364136223846793005) lk188_11 xl_14_104 kk) ?_
  refine cR_lift (fun _ _ kk => eE_lmul lk188_14 kk) ?_
  refine cR_lift (fun _ _ kk => eE_ldc2_w (v := 1442695040888963407) lk188_15 xl_14_106 kk) ?_
  refine cR_lift (fun _ _ kk => eE_ladd lk188_18 kk) ?_
  obtain ⟨σ3, h4, h⟩ := Option.bind_eq_some_iff.mp h
  refine cR_last (cl := 14) (i := l0) (f := 14) lk188_19 (by decide) rfl bl0 h4 ?_
  refine cR_lift (fun _ _ kk => eE_aload_n lk188_20 g0 kk) ?_
  refine cR_lift (fun _ _ kk => eE_iload_n lk188_21 g1 kk) ?_
  refine cR_lift (fun _ _ kk => eE_aload_n lk188_22 g0 kk) ?_
  refine cR_getI lk188_23 rf_14_77 rfl (cob_any rfl bl0) ?_
  refine cR_lift (fun _ _ kk => eE_bipush (v := 50) lk188_26 (by decide) kk) ?_
  refine cR_lift (fun _ _ kk => eE_iadd lk188_28 kk) ?_
  refine cR_lift (fun _ _ kk => eE_aload_n lk188_29 g0 kk) ?_
  refine cR_getA lk188_30 rf_14_24 (by decide) (cob_any rfl bl0) ?_
  refine cR_lift (fun _ _ kk => eE_iload_n lk188_33 g1 kk) ?_
  obtain ⟨x5, h6, h⟩ := Option.bind_eq_some_iff.mp h
  refine cR_lald (cl := 14) (i := l0) (f := 14) lk188_34 (by decide) rfl (cob_any rfl bl0) h6 ?_
  refine cR_lift (fun _ _ kk => eE_bipush (v := 33) lk188_35 (by decide) kk) ?_
  refine cR_lift (fun _ _ kk => eE_lushr lk188_37 kk) ?_
  refine cR_lift (fun _ _ kk => eE_ldc2_w (v := 50) lk188_38 xl_14_148 kk) ?_
  by_cases z7 : ((50 : Int64)) = 0
  · rw [if_pos z7] at h; cases h
  rw [if_neg z7] at h
  refine cR_lift (fun _ _ kk => eE_lrem lk188_41 z7 kk) ?_
  refine cR_lift (fun _ _ kk => eE_l2i lk188_42 kk) ?_
  refine cR_lift (fun _ _ kk => eE_iadd lk188_43 kk) ?_
  obtain ⟨p8, h9, h⟩ := Option.bind_eq_some_iff.mp h
  refine cR_virt (cl := 14) (i := l0) (as := [.int l1, .int (((cI σ3 14 l0 0 0) + ((50 : Int32))) + ((((x5.toUInt64 >>> (((33 : Int32)).toInt64.toUInt64 &&& Int64.toUInt64 63)).toInt64) - ((x5.toUInt64 >>> (((33 : Int32)).toInt64.toUInt64 &&& Int64.toUInt64 63)).toInt64) / ((50 : Int64)) * ((50 : Int64))).toInt32))]) lk188_44 mr_14_150 na_200 rfl rfl (by first | exact Nat.le_of_ble_eq_true rfl | (simp [xcat, cvo_cat, cat_i, cat_j, cat_r]; done)) wv_200 wc_200 (cob_any rfl bl0) (k_World_setBell_ok hp0 hL hF (d := d + 0) (cob_any rfl bl0) h9) (fun m10  => ?_)
  cases h
  exact cR_end lk188_47 rfl rfl rfl
def k_World_drawAlarm (σ : CS) (l0 : Nat) (l1 : Int32) : Option (CS) := k_World_drawAlarm_b0 σ l0 l1
theorem k_World_drawAlarm_ok {E : CE} {pF : Nat → List Value → xH → Option (Option Value × xH)} (hp0 : xNPc pF) (hL : lcAll pF) (hF : lcF pF) {d : Nat} {g : CG} {σ : CS} {l0 : Nat} {l1 : Int32} {res : CS} (bl0 : cob σ 14 l0) (h : k_World_drawAlarm σ l0 l1 = some res) : cCo E true pF (d + 2) 188 [.ref (coa E 14 l0), .int l1] none res g σ :=
  cCo_R kk_188 mo_188 ni_188 xm_188 (Nat.le_of_ble_eq_true rfl) (hp0 188 (by decide) _) (k_World_drawAlarm_b0_ok hp0 hL hF g _ σ l0 l1 bl0 rfl rfl _ h)
/-! k_Log_add_11_6 (62), depth 2 -/
def k_Log_add_11_6_b65  (σ : CS) : Option (CS) :=
  some σ
set_option maxRecDepth 4000 in
theorem k_Log_add_11_6_b65_ok {E : CE} {pF : Nat → List Value → xH → Option (Option Value × xH)} (hp0 : xNPc pF) (hL : lcAll pF) (hF : lcF pF) {d : Nat}   : ∀ (g : CG) (lv : xL) (σ : CS), ∀ res, k_Log_add_11_6_b65  σ = some res → cR E true pF (d + 1) kT62 9 3 none none res g σ (65, lv, []) := by
  intro g lv σ res h
  unfold k_Log_add_11_6_b65 at h
  cases h
  exact cR_end lk62_65 rfl rfl rfl
def k_Log_add_11_6_b0  (σ : CS) (l0 : Nat) (l1 : Nat) (l2 : Int32) : Option (CS) :=
  (k_Log_length σ l0).bind fun p1 =>
  if xc2 .lt p1 ((300 : Int32)) = true then (
    (k_Log_length σ l0).bind fun p5 =>
    (ccpy σ 11 l1 6 l2 9 l0 1 (p5 * ((6 : Int32))) ((6 : Int32))).bind fun σ8 =>
    (some (csI σ8 9 l0 6 0 ((cI σ8 9 l0 6 0) + ((1 : Int32))))).bind fun σ10 =>
    (crd σ10 11 l1 6 (l2 + ((1 : Int32)))).bind fun x12 =>
    if xc2 .ne x12 ((1 : Int32)) = true then (
      k_Log_add_11_6_b65  σ10
    ) else (
      (crd σ10 11 l1 6 (l2 + ((3 : Int32)))).bind fun x15 =>
      (some (csI σ10 9 l0 7 0 x15)).bind fun σ17 =>
      (some (csI σ17 9 l0 8 0 (cI σ17 9 l0 6 0))).bind fun σ19 =>
      k_Log_add_11_6_b65  σ19
    )
  ) else (
    some σ
  )
set_option maxRecDepth 4000 in
theorem k_Log_add_11_6_b0_ok {E : CE} {pF : Nat → List Value → xH → Option (Option Value × xH)} (hp0 : xNPc pF) (hL : lcAll pF) (hF : lcF pF) {d : Nat}   : ∀ (g : CG) (lv : xL) (σ : CS) (l0 : Nat) (l1 : Nat) (l2 : Int32), (cob σ 9 l0) → (cob σ 11 l1) → (xg lv 0 = some (.ref (coa E 9 l0))) → (xg lv 1 = some (.ref (car E g 11 l1 6))) → (xg lv 2 = some (.int l2)) → ∀ res, k_Log_add_11_6_b0  σ l0 l1 l2 = some res → cR E true pF (d + 1) kT62 9 3 none none res g σ (0, lv, []) := by
  intro g lv σ l0 l1 l2 bl0 bl1 g0 g1 g2 res h
  unfold k_Log_add_11_6_b0 at h
  refine cR_lift (fun _ _ kk => eE_aload_n lk62_0 g0 kk) ?_
  obtain ⟨p1, h2, h⟩ := Option.bind_eq_some_iff.mp h
  refine cR_virt (cl := 9) (i := l0) (as := []) lk62_1 mr_9_57 na_69 rfl rfl (by first | exact Nat.le_of_ble_eq_true rfl | (simp [xcat, cvo_cat, cat_i, cat_j, cat_r]; done)) wv_69 wc_69 bl0 (k_Log_length_ok hp0 hL hF (d := d + 0) bl0 h2) (fun m3  => ?_)
  refine cR_lift (fun _ _ kk => eE_sipush (v := 300) lk62_4 (by decide) kk) ?_
  refine cR_icmp (t := 11) lk62_7 (by decide) (fun c4 => ?_) (fun c4 => ?_)
  · rw [if_pos c4] at h
    refine cR_lift (fun _ _ kk => eE_aload_n lk62_11 g1 kk) ?_
    refine cR_lift (fun _ _ kk => eE_iload_n lk62_12 g2 kk) ?_
    refine cR_lift (fun _ _ kk => eE_aload_n lk62_13 g0 kk) ?_
    refine cR_getA lk62_14 rf_9_9 (by decide) bl0 ?_
    refine cR_lift (fun _ _ kk => eE_aload_n lk62_17 g0 kk) ?_
    obtain ⟨p5, h6, h⟩ := Option.bind_eq_some_iff.mp h
    refine cR_virt (cl := 9) (i := l0) (as := []) lk62_18 mr_9_57 na_69 rfl rfl (by first | exact Nat.le_of_ble_eq_true rfl | (simp [xcat, cvo_cat, cat_i, cat_j, cat_r]; done)) wv_69 wc_69 bl0 (k_Log_length_ok hp0 hL hF (d := d + 0) bl0 h6) (fun m7  => ?_)
    refine cR_lift (fun _ _ kk => eE_bipush (v := 6) lk62_21 (by decide) kk) ?_
    refine cR_lift (fun _ _ kk => eE_imul lk62_23 kk) ?_
    refine cR_lift (fun _ _ kk => eE_bipush (v := 6) lk62_24 (by decide) kk) ?_
    obtain ⟨σ8, h9, h⟩ := Option.bind_eq_some_iff.mp h
    refine cR_cpy (a := 11) (i := l1) (f := 6) (a' := 9) (i' := l0) (f' := 1) lk62_26 yc_9_61.1 yc_9_61.2 (by decide) (by decide) (by decide) bl1 bl0 (by first | exact Nat.le_of_ble_eq_true rfl | (simp [xcat, cvo_cat, cat_i, cat_j, cat_r]; done)) h9 ?_
    refine cR_lift (fun _ _ kk => eE_aload_n lk62_29 g0 kk) ?_
    refine cR_lift (fun _ _ kk => eE_dup lk62_30 rfl kk) ?_
    refine cR_getI lk62_31 rf_9_34 rfl (cob_any rfl bl0) ?_
    refine cR_lift (fun _ _ kk => eE_iconst (v := 1) lk62_34 (by decide) kk) ?_
    refine cR_lift (fun _ _ kk => eE_iadd lk62_35 kk) ?_
    obtain ⟨σ10, h11, h⟩ := Option.bind_eq_some_iff.mp h
    refine cR_putI lk62_36 rf_9_34 rfl (cob_any rfl bl0) pf_9_6 rfl h11 ?_
    refine cR_lift (fun _ _ kk => eE_aload_n lk62_39 g1 kk) ?_
    refine cR_lift (fun _ _ kk => eE_iload_n lk62_40 g2 kk) ?_
    refine cR_lift (fun _ _ kk => eE_iconst (v := 1) lk62_41 (by decide) kk) ?_
    refine cR_lift (fun _ _ kk => eE_iadd lk62_42 kk) ?_
    obtain ⟨x12, h13, h⟩ := Option.bind_eq_some_iff.mp h
    refine cR_iald (cl := 11) (i := l1) (f := 6) lk62_43 (by decide) rfl (cob_any rfl bl1) h13 ?_
    refine cR_lift (fun _ _ kk => eE_iconst (v := 1) lk62_44 (by decide) kk) ?_
    refine cR_icmp (t := 65) lk62_45 (by decide) (fun c14 => ?_) (fun c14 => ?_)
    · rw [if_pos c14] at h
      exact k_Log_add_11_6_b65_ok hp0 hL hF  g lv σ10  _ h
    · rw [if_neg c14] at h
      refine cR_lift (fun _ _ kk => eE_aload_n lk62_48 g0 kk) ?_
      refine cR_lift (fun _ _ kk => eE_aload_n lk62_49 g1 kk) ?_
      refine cR_lift (fun _ _ kk => eE_iload_n lk62_50 g2 kk) ?_
      refine cR_lift (fun _ _ kk => eE_iconst (v := 3) lk62_51 (by decide) kk) ?_
      refine cR_lift (fun _ _ kk => eE_iadd lk62_52 kk) ?_
      obtain ⟨x15, h16, h⟩ := Option.bind_eq_some_iff.mp h
      refine cR_iald (cl := 11) (i := l1) (f := 6) lk62_53 (by decide) rfl (cob_any rfl bl1) h16 ?_
      obtain ⟨σ17, h18, h⟩ := Option.bind_eq_some_iff.mp h
      refine cR_putI lk62_54 rf_9_25 rfl (cob_any rfl bl0) pf_9_7 rfl h18 ?_
      refine cR_lift (fun _ _ kk => eE_aload_n lk62_57 g0 kk) ?_
      refine cR_lift (fun _ _ kk => eE_aload_n lk62_58 g0 kk) ?_
      refine cR_getI lk62_59 rf_9_34 rfl (cob_any rfl bl0) ?_
      obtain ⟨σ19, h20, h⟩ := Option.bind_eq_some_iff.mp h
      refine cR_putI lk62_62 rf_9_67 rfl (cob_any rfl bl0) pf_9_8 rfl h20 ?_
      exact k_Log_add_11_6_b65_ok hp0 hL hF  g lv σ19  _ h
  · rw [if_neg c4] at h
    cases h
    exact cR_end lk62_10 rfl rfl rfl
def k_Log_add_11_6 (σ : CS) (l0 : Nat) (l1 : Nat) (l2 : Int32) : Option (CS) := k_Log_add_11_6_b0 σ l0 l1 l2
theorem k_Log_add_11_6_ok {E : CE} {pF : Nat → List Value → xH → Option (Option Value × xH)} (hp0 : xNPc pF) (hL : lcAll pF) (hF : lcF pF) {d : Nat} {g : CG} {σ : CS} {l0 : Nat} {l1 : Nat} {l2 : Int32} {res : CS} (bl0 : cob σ 9 l0) (bl1 : cob σ 11 l1) (h : k_Log_add_11_6 σ l0 l1 l2 = some res) : cCo E true pF (d + 2) 62 [.ref (coa E 9 l0), .ref (car E g 11 l1 6), .int l2] none res g σ :=
  cCo_R kk_62 mo_62 ni_62 xm_62 (Nat.le_of_ble_eq_true rfl) (hp0 62 (by decide) _) (k_Log_add_11_6_b0_ok hp0 hL hF g _ σ l0 l1 l2 bl0 bl1 rfl rfl rfl _ h)
/-! k_Lead_isReached_7_1 (56), depth 2 -/
def k_Lead_isReached_7_1_b32 (F : Nat) (K5 : CS → Nat → Int32 → Int32 → Int32 → Int32 → Option (Int32)) (σ : CS) (l0 : Nat) (l1 : Int32) (l2 : Int32) (l3 : Int32) (l4 : Int32) : Option (Int32) :=
  K5 σ l0 l1 l2 l3 (l4 + (1 : Int32))
set_option maxRecDepth 4000 in
theorem k_Lead_isReached_7_1_b32_ok {E : CE} {pF : Nat → List Value → xH → Option (Option Value × xH)} (hp0 : xNPc pF) (hL : lcAll pF) (hF : lcF pF) {d : Nat} {F : Nat} {K5 : CS → Nat → Int32 → Int32 → Int32 → Int32 → Option (Int32)} (hK5 : ∀ (g : CG) (lv : xL) (σ : CS) (l0 : Nat) (l1 : Int32) (l2 : Int32) (l3 : Int32) (l4 : Int32), (cob σ 7 l0) → (xg lv 0 = some (.ref (caa E 7 l0 1))) → (xg lv 1 = some (.int l1)) → (xg lv 2 = some (.int l2)) → (xg lv 3 = some (.int l3)) → (xg lv 4 = some (.int l4)) → ∀ res, K5 σ l0 l1 l2 l3 l4 = some res → cR E true pF (d + 1) kT56 7 5 (some FieldType.boolean) (some (.int res)) σ g σ (5, lv, [])) : ∀ (g : CG) (lv : xL) (σ : CS) (l0 : Nat) (l1 : Int32) (l2 : Int32) (l3 : Int32) (l4 : Int32), (cob σ 7 l0) → (xg lv 0 = some (.ref (caa E 7 l0 1))) → (xg lv 1 = some (.int l1)) → (xg lv 2 = some (.int l2)) → (xg lv 3 = some (.int l3)) → (xg lv 4 = some (.int l4)) → ∀ res, k_Lead_isReached_7_1_b32 F K5 σ l0 l1 l2 l3 l4 = some res → cR E true pF (d + 1) kT56 7 5 (some FieldType.boolean) (some (.int res)) σ g σ (32, lv, []) := by
  intro g lv σ l0 l1 l2 l3 l4 bl0 g0 g1 g2 g3 g4 res h
  unfold k_Lead_isReached_7_1_b32 at h
  refine cR_inc (j := 4) (v := l4 + (1 : Int32)) lk56_32 g4 rfl (by decide) (fun vq1 gq2 kq3 => ?_)
  have gq4 := kq3 0 _ (by decide) (fun e => absurd e (by decide)) g0
  have gq5 := kq3 1 _ (by decide) (fun e => absurd e (by decide)) g1
  have gq6 := kq3 2 _ (by decide) (fun e => absurd e (by decide)) g2
  have gq7 := kq3 3 _ (by decide) (fun _ => rfl) g3
  refine cR_lift (fun _ _ kk => eE_goto (t := 5) lk56_35 (by decide) kk) ?_
  exact hK5 g vq1 σ l0 l1 l2 l3 (l4 + (1 : Int32)) bl0 gq4 gq5 gq6 gq7 gq2 _ h
def k_Lead_isReached_7_1_b53 (F : Nat)  (σ : CS) (s0 : Int32) : Option (Int32) :=
  if s0 = 0 ∨ s0 = 1 then some s0 else none
set_option maxRecDepth 4000 in
theorem k_Lead_isReached_7_1_b53_ok {E : CE} {pF : Nat → List Value → xH → Option (Option Value × xH)} (hp0 : xNPc pF) (hL : lcAll pF) (hF : lcF pF) {d : Nat} {F : Nat}   : ∀ (g : CG) (lv : xL) (σ : CS) (s0 : Int32), ∀ res, k_Lead_isReached_7_1_b53 F  σ s0 = some res → cR E true pF (d + 1) kT56 7 5 (some FieldType.boolean) (some (.int res)) σ g σ (53, lv, [.int s0]) := by
  intro g lv σ s0 res h
  unfold k_Lead_isReached_7_1_b53 at h
  by_cases z8 : s0 = 0 ∨ s0 = 1
  · rw [if_pos z8] at h; cases h
    exact cR_end lk56_53 rfl rfl (by first | (simp only [xfin, if_true, if_pos z8]; done) | simp [xfin, z8])
  · rw [if_neg z8] at h; cases h
def k_Lead_isReached_7_1_b5 (F : Nat)  : Nat → CS → Nat → Int32 → Int32 → Int32 → Int32 → Option (Int32)
  | 0, _, _, _, _, _, _ => none
  | n + 1, σ, l0, l1, l2, l3, l4 =>
    let KK := k_Lead_isReached_7_1_b5 F  n
    if xc2 .ge l4 ((7 : Int32)) = true then (
      (k_Integer_bitCount σ l1).bind fun p10 =>
      if xc2 .le (((2 : Int32)) * l3) p10 = true then (
        k_Lead_isReached_7_1_b53 F  σ ((0 : Int32))
      ) else (
        k_Lead_isReached_7_1_b53 F  σ ((1 : Int32))
      )
    ) else (
      if xc0 .eq ((l1 >>> (l4 &&& 31)) &&& ((1 : Int32))) = true then (
        k_Lead_isReached_7_1_b32 F KK σ l0 l1 l2 l3 l4
      ) else (
        (crd σ 7 l0 1 l4).bind fun x15 =>
        if xc2 .lt x15 l2 = true then (
          k_Lead_isReached_7_1_b32 F KK σ l0 l1 l2 l3 l4
        ) else (
          k_Lead_isReached_7_1_b32 F KK σ l0 l1 l2 (l3 + (1 : Int32)) l4
        )
      )
    )
set_option maxRecDepth 4000 in
theorem k_Lead_isReached_7_1_b5_ok {E : CE} {pF : Nat → List Value → xH → Option (Option Value × xH)} (hp0 : xNPc pF) (hL : lcAll pF) (hF : lcF pF) {d : Nat} {F : Nat}   : ∀ (n : Nat) (g : CG) (lv : xL) (σ : CS) (l0 : Nat) (l1 : Int32) (l2 : Int32) (l3 : Int32) (l4 : Int32), (cob σ 7 l0) → (xg lv 0 = some (.ref (caa E 7 l0 1))) → (xg lv 1 = some (.int l1)) → (xg lv 2 = some (.int l2)) → (xg lv 3 = some (.int l3)) → (xg lv 4 = some (.int l4)) → ∀ res, k_Lead_isReached_7_1_b5 F  n σ l0 l1 l2 l3 l4 = some res → cR E true pF (d + 1) kT56 7 5 (some FieldType.boolean) (some (.int res)) σ g σ (5, lv, []) := by
  intro n
  induction n with
  | zero => intro g lv σ l0 l1 l2 l3 l4 bl0 g0 g1 g2 g3 g4 res h; simp [k_Lead_isReached_7_1_b5] at h
  | succ n hKK =>
    intro g lv σ l0 l1 l2 l3 l4 bl0 g0 g1 g2 g3 g4 res h
    unfold k_Lead_isReached_7_1_b5 at h
    dsimp only at h
    refine cR_lift (fun _ _ kk => eE_iload lk56_5 g4 kk) ?_
    refine cR_lift (fun _ _ kk => eE_bipush (v := 7) lk56_7 (by decide) kk) ?_
    refine cR_icmp (t := 38) lk56_9 (by decide) (fun c9 => ?_) (fun c9 => ?_)
    · rw [if_pos c9] at h
      refine cR_lift (fun _ _ kk => eE_iconst (v := 2) lk56_38 (by decide) kk) ?_
      refine cR_lift (fun _ _ kk => eE_iload_n lk56_39 g3 kk) ?_
      refine cR_lift (fun _ _ kk => eE_imul lk56_40 kk) ?_
      refine cR_lift (fun _ _ kk => eE_iload_n lk56_41 g1 kk) ?_
      obtain ⟨p10, h11, h⟩ := Option.bind_eq_some_iff.mp h
      refine cR_stat (as := [.int l1]) lk56_42 mr_7_68 na_398 rfl rfl (by first | exact Nat.le_of_ble_eq_true rfl | (simp [xcat, cvo_cat, cat_i, cat_j, cat_r]; done)) mm_398 ws_398 (k_Integer_bitCount_ok hp0 hL hF (d := d + 0)  h11) (fun m12 => ?_)
      refine cR_icmp (t := 52) lk56_45 (by decide) (fun c13 => ?_) (fun c13 => ?_)
      · rw [if_pos c13] at h
        refine cR_lift (fun _ _ kk => eE_iconst (v := 0) lk56_52 (by decide) kk) ?_
        exact k_Lead_isReached_7_1_b53_ok hp0 hL hF  g lv σ ((0 : Int32))  _ h
      · rw [if_neg c13] at h
        refine cR_lift (fun _ _ kk => eE_iconst (v := 1) lk56_48 (by decide) kk) ?_
        refine cR_lift (fun _ _ kk => eE_goto (t := 53) lk56_49 (by decide) kk) ?_
        exact k_Lead_isReached_7_1_b53_ok hp0 hL hF  g lv σ ((1 : Int32))  _ h
    · rw [if_neg c9] at h
      refine cR_lift (fun _ _ kk => eE_iload_n lk56_12 g1 kk) ?_
      refine cR_lift (fun _ _ kk => eE_iload lk56_13 g4 kk) ?_
      refine cR_lift (fun _ _ kk => eE_ishr lk56_15 kk) ?_
      refine cR_lift (fun _ _ kk => eE_iconst (v := 1) lk56_16 (by decide) kk) ?_
      refine cR_lift (fun _ _ kk => eE_iand lk56_17 kk) ?_
      refine cR_if (t := 32) lk56_18 (by decide) (fun c14 => ?_) (fun c14 => ?_)
      · rw [if_pos c14] at h
        exact k_Lead_isReached_7_1_b32_ok hp0 hL hF hKK g lv σ l0 l1 l2 l3 l4 bl0 g0 g1 g2 g3 g4 _ h
      · rw [if_neg c14] at h
        refine cR_lift (fun _ _ kk => eE_aload_n lk56_21 g0 kk) ?_
        refine cR_lift (fun _ _ kk => eE_iload lk56_22 g4 kk) ?_
        obtain ⟨x15, h16, h⟩ := Option.bind_eq_some_iff.mp h
        refine cR_iald (cl := 7) (i := l0) (f := 1) lk56_24 (by decide) rfl bl0 h16 ?_
        refine cR_lift (fun _ _ kk => eE_iload_n lk56_25 g2 kk) ?_
        refine cR_icmp (t := 32) lk56_26 (by decide) (fun c17 => ?_) (fun c17 => ?_)
        · rw [if_pos c17] at h
          exact k_Lead_isReached_7_1_b32_ok hp0 hL hF hKK g lv σ l0 l1 l2 l3 l4 bl0 g0 g1 g2 g3 g4 _ h
        · rw [if_neg c17] at h
          refine cR_inc (j := 3) (v := l3 + (1 : Int32)) lk56_29 g3 rfl (by decide) (fun vq18 gq19 kq20 => ?_)
          have gq21 := kq20 0 _ (by decide) (fun e => absurd e (by decide)) g0
          have gq22 := kq20 1 _ (by decide) (fun e => absurd e (by decide)) g1
          have gq23 := kq20 2 _ (by decide) (fun _ => rfl) g2
          have gq24 := kq20 4 _ (by decide) (fun e => absurd e (by decide)) g4
          exact k_Lead_isReached_7_1_b32_ok hp0 hL hF hKK g vq18 σ l0 l1 l2 (l3 + (1 : Int32)) l4 bl0 gq21 gq22 gq23 gq19 gq24 _ h
def k_Lead_isReached_7_1_b0 (F : Nat)  (σ : CS) (l0 : Nat) (l1 : Int32) (l2 : Int32) : Option (Int32) :=
  k_Lead_isReached_7_1_b5 F  F σ l0 l1 l2 ((0 : Int32)) ((0 : Int32))
set_option maxRecDepth 4000 in
theorem k_Lead_isReached_7_1_b0_ok {E : CE} {pF : Nat → List Value → xH → Option (Option Value × xH)} (hp0 : xNPc pF) (hL : lcAll pF) (hF : lcF pF) {d : Nat} {F : Nat}   : ∀ (g : CG) (lv : xL) (σ : CS) (l0 : Nat) (l1 : Int32) (l2 : Int32), (cob σ 7 l0) → (xg lv 0 = some (.ref (caa E 7 l0 1))) → (xg lv 1 = some (.int l1)) → (xg lv 2 = some (.int l2)) → ∀ res, k_Lead_isReached_7_1_b0 F  σ l0 l1 l2 = some res → cR E true pF (d + 1) kT56 7 5 (some FieldType.boolean) (some (.int res)) σ g σ (0, lv, []) := by
  intro g lv σ l0 l1 l2 bl0 g0 g1 g2 res h
  unfold k_Lead_isReached_7_1_b0 at h
  refine cR_lift (fun _ _ kk => eE_iconst (v := 0) lk56_0 (by decide) kk) ?_
  refine cR_stI (j := 3) lk56_1 (Or.inr ⟨_, rfl, rfl⟩) (by decide) (fun vq25 gq26 kq27 => ?_)
  have gq28 := kq27 0 _ (by decide) (fun e => absurd e (by decide)) g0
  have gq29 := kq27 1 _ (by decide) (fun e => absurd e (by decide)) g1
  have gq30 := kq27 2 _ (by decide) (fun _ => rfl) g2
  refine cR_lift (fun _ _ kk => eE_iconst (v := 0) lk56_2 (by decide) kk) ?_
  refine cR_stI (j := 4) lk56_3 (Or.inl rfl) (by decide) (fun vq31 gq32 kq33 => ?_)
  have gq34 := kq33 0 _ (by decide) (fun e => absurd e (by decide)) gq28
  have gq35 := kq33 1 _ (by decide) (fun e => absurd e (by decide)) gq29
  have gq36 := kq33 2 _ (by decide) (fun e => absurd e (by decide)) gq30
  have gq37 := kq33 3 _ (by decide) (fun _ => rfl) gq26
  exact k_Lead_isReached_7_1_b5_ok hp0 hL hF  F g vq31 σ l0 l1 l2 ((0 : Int32)) ((0 : Int32)) bl0 gq34 gq35 gq36 gq37 gq32 _ h
def k_Lead_isReached_7_1 (F : Nat) (σ : CS) (l0 : Nat) (l1 : Int32) (l2 : Int32) : Option (Int32) := k_Lead_isReached_7_1_b0 F σ l0 l1 l2
theorem k_Lead_isReached_7_1_ok {E : CE} {pF : Nat → List Value → xH → Option (Option Value × xH)} (hp0 : xNPc pF) (hL : lcAll pF) (hF : lcF pF) {d : Nat} {g : CG} {σ : CS} {F : Nat} {l0 : Nat} {l1 : Int32} {l2 : Int32} {res : Int32} (bl0 : cob σ 7 l0) (h : k_Lead_isReached_7_1 F σ l0 l1 l2 = some res) : cCo E true pF (d + 2) 56 [.ref (caa E 7 l0 1), .int l1, .int l2] (some (.int res)) σ g σ :=
  cCo_R kk_56 mo_56 ni_56 xm_56 (Nat.le_of_ble_eq_true rfl) (hp0 56 (by decide) _) (k_Lead_isReached_7_1_b0_ok hp0 hL hF g _ σ l0 l1 l2 bl0 rfl rfl rfl _ h)
/-! k_Lead_mostOf_7_1 (58), depth 3 -/
def k_Lead_mostOf_7_1_b41 (F : Nat) (K5 : CS → Nat → Int32 → Int32 → Int32 → Option (Int32)) (σ : CS) (l0 : Nat) (l1 : Int32) (l2 : Int32) (l3 : Int32) : Option (Int32) :=
  K5 σ l0 l1 l2 (l3 + (1 : Int32))
set_option maxRecDepth 4000 in
theorem k_Lead_mostOf_7_1_b41_ok {E : CE} {pF : Nat → List Value → xH → Option (Option Value × xH)} (hp0 : xNPc pF) (hL : lcAll pF) (hF : lcF pF) {d : Nat} {F : Nat} {K5 : CS → Nat → Int32 → Int32 → Int32 → Option (Int32)} (hK5 : ∀ (g : CG) (lv : xL) (σ : CS) (l0 : Nat) (l1 : Int32) (l2 : Int32) (l3 : Int32), (cob σ 7 l0) → (xg lv 0 = some (.ref (caa E 7 l0 1))) → (xg lv 1 = some (.int l1)) → (xg lv 2 = some (.int l2)) → (xg lv 3 = some (.int l3)) → ∀ res, K5 σ l0 l1 l2 l3 = some res → cR E true pF (d + 2) kT58 7 4 (some FieldType.int) (some (.int res)) σ g σ (5, lv, [])) : ∀ (g : CG) (lv : xL) (σ : CS) (l0 : Nat) (l1 : Int32) (l2 : Int32) (l3 : Int32), (cob σ 7 l0) → (xg lv 0 = some (.ref (caa E 7 l0 1))) → (xg lv 1 = some (.int l1)) → (xg lv 2 = some (.int l2)) → (xg lv 3 = some (.int l3)) → ∀ res, k_Lead_mostOf_7_1_b41 F K5 σ l0 l1 l2 l3 = some res → cR E true pF (d + 2) kT58 7 4 (some FieldType.int) (some (.int res)) σ g σ (41, lv, []) := by
  intro g lv σ l0 l1 l2 l3 bl0 g0 g1 g2 g3 res h
  unfold k_Lead_mostOf_7_1_b41 at h
  refine cR_inc (j := 3) (v := l3 + (1 : Int32)) lk58_41 g3 rfl (by decide) (fun vq1 gq2 kq3 => ?_)
  have gq4 := kq3 0 _ (by decide) (fun e => absurd e (by decide)) g0
  have gq5 := kq3 1 _ (by decide) (fun e => absurd e (by decide)) g1
  have gq6 := kq3 2 _ (by decide) (fun _ => rfl) g2
  refine cR_lift (fun _ _ kk => eE_goto (t := 5) lk58_44 (by decide) kk) ?_
  exact hK5 g vq1 σ l0 l1 l2 (l3 + (1 : Int32)) bl0 gq4 gq5 gq6 gq2 _ h
def k_Lead_mostOf_7_1_b5 (F : Nat)  : Nat → CS → Nat → Int32 → Int32 → Int32 → Option (Int32)
  | 0, _, _, _, _, _ => none
  | n + 1, σ, l0, l1, l2, l3 =>
    let KK := k_Lead_mostOf_7_1_b5 F  n
    if xc2 .ge l3 ((7 : Int32)) = true then (
      some l2
    ) else (
      if xc0 .eq ((l1 >>> (l3 &&& 31)) &&& ((1 : Int32))) = true then (
        k_Lead_mostOf_7_1_b41 F KK σ l0 l1 l2 l3
      ) else (
        (crd σ 7 l0 1 l3).bind fun x9 =>
        if xc2 .le x9 l2 = true then (
          k_Lead_mostOf_7_1_b41 F KK σ l0 l1 l2 l3
        ) else (
          (crd σ 7 l0 1 l3).bind fun x12 =>
          (k_Lead_isReached_7_1 F σ l0 l1 x12).bind fun p14 =>
          if xc0 .eq p14 = true then (
            k_Lead_mostOf_7_1_b41 F KK σ l0 l1 l2 l3
          ) else (
            (crd σ 7 l0 1 l3).bind fun x18 =>
            k_Lead_mostOf_7_1_b41 F KK σ l0 l1 x18 l3
          )
        )
      )
    )
set_option maxRecDepth 4000 in
theorem k_Lead_mostOf_7_1_b5_ok {E : CE} {pF : Nat → List Value → xH → Option (Option Value × xH)} (hp0 : xNPc pF) (hL : lcAll pF) (hF : lcF pF) {d : Nat} {F : Nat}   : ∀ (n : Nat) (g : CG) (lv : xL) (σ : CS) (l0 : Nat) (l1 : Int32) (l2 : Int32) (l3 : Int32), (cob σ 7 l0) → (xg lv 0 = some (.ref (caa E 7 l0 1))) → (xg lv 1 = some (.int l1)) → (xg lv 2 = some (.int l2)) → (xg lv 3 = some (.int l3)) → ∀ res, k_Lead_mostOf_7_1_b5 F  n σ l0 l1 l2 l3 = some res → cR E true pF (d + 2) kT58 7 4 (some FieldType.int) (some (.int res)) σ g σ (5, lv, []) := by
  intro n
  induction n with
  | zero => intro g lv σ l0 l1 l2 l3 bl0 g0 g1 g2 g3 res h; simp [k_Lead_mostOf_7_1_b5] at h
  | succ n hKK =>
    intro g lv σ l0 l1 l2 l3 bl0 g0 g1 g2 g3 res h
    unfold k_Lead_mostOf_7_1_b5 at h
    dsimp only at h
    refine cR_lift (fun _ _ kk => eE_iload_n lk58_5 g3 kk) ?_
    refine cR_lift (fun _ _ kk => eE_bipush (v := 7) lk58_6 (by decide) kk) ?_
    refine cR_icmp (t := 47) lk58_8 (by decide) (fun c7 => ?_) (fun c7 => ?_)
    · rw [if_pos c7] at h
      refine cR_lift (fun _ _ kk => eE_iload_n lk58_47 g2 kk) ?_
      cases h
      exact cR_end lk58_48 rfl rfl rfl
    · rw [if_neg c7] at h
      refine cR_lift (fun _ _ kk => eE_iload_n lk58_11 g1 kk) ?_
      refine cR_lift (fun _ _ kk => eE_iload_n lk58_12 g3 kk) ?_
      refine cR_lift (fun _ _ kk => eE_ishr lk58_13 kk) ?_
      refine cR_lift (fun _ _ kk => eE_iconst (v := 1) lk58_14 (by decide) kk) ?_
      refine cR_lift (fun _ _ kk => eE_iand lk58_15 kk) ?_
      refine cR_if (t := 41) lk58_16 (by decide) (fun c8 => ?_) (fun c8 => ?_)
      · rw [if_pos c8] at h
        exact k_Lead_mostOf_7_1_b41_ok hp0 hL hF hKK g lv σ l0 l1 l2 l3 bl0 g0 g1 g2 g3 _ h
      · rw [if_neg c8] at h
        refine cR_lift (fun _ _ kk => eE_aload_n lk58_19 g0 kk) ?_
        refine cR_lift (fun _ _ kk => eE_iload_n lk58_20 g3 kk) ?_
        obtain ⟨x9, h10, h⟩ := Option.bind_eq_some_iff.mp h
        refine cR_iald (cl := 7) (i := l0) (f := 1) lk58_21 (by decide) rfl bl0 h10 ?_
        refine cR_lift (fun _ _ kk => eE_iload_n lk58_22 g2 kk) ?_
        refine cR_icmp (t := 41) lk58_23 (by decide) (fun c11 => ?_) (fun c11 => ?_)
        · rw [if_pos c11] at h
          exact k_Lead_mostOf_7_1_b41_ok hp0 hL hF hKK g lv σ l0 l1 l2 l3 bl0 g0 g1 g2 g3 _ h
        · rw [if_neg c11] at h
          refine cR_lift (fun _ _ kk => eE_aload_n lk58_26 g0 kk) ?_
          refine cR_lift (fun _ _ kk => eE_iload_n lk58_27 g1 kk) ?_
          refine cR_lift (fun _ _ kk => eE_aload_n lk58_28 g0 kk) ?_
          refine cR_lift (fun _ _ kk => eE_iload_n lk58_29 g3 kk) ?_
          obtain ⟨x12, h13, h⟩ := Option.bind_eq_some_iff.mp h
          refine cR_iald (cl := 7) (i := l0) (f := 1) lk58_30 (by decide) rfl bl0 h13 ?_
          obtain ⟨p14, h15, h⟩ := Option.bind_eq_some_iff.mp h
          refine cR_stat (as := [.ref (caa E 7 l0 1), .int l1, .int x12]) lk58_31 mr_7_64 na_56 rfl rfl (by first | exact Nat.le_of_ble_eq_true rfl | (simp [xcat, cvo_cat, cat_i, cat_j, cat_r]; done)) mm_56 ws_56 (k_Lead_isReached_7_1_ok hp0 hL hF (d := d + 0) bl0 h15) (fun m16 => ?_)
          refine cR_if (t := 41) lk58_34 (by decide) (fun c17 => ?_) (fun c17 => ?_)
          · rw [if_pos c17] at h
            exact k_Lead_mostOf_7_1_b41_ok hp0 hL hF hKK g lv σ l0 l1 l2 l3 bl0 g0 g1 g2 g3 _ h
          · rw [if_neg c17] at h
            refine cR_lift (fun _ _ kk => eE_aload_n lk58_37 g0 kk) ?_
            refine cR_lift (fun _ _ kk => eE_iload_n lk58_38 g3 kk) ?_
            obtain ⟨x18, h19, h⟩ := Option.bind_eq_some_iff.mp h
            refine cR_iald (cl := 7) (i := l0) (f := 1) lk58_39 (by decide) rfl bl0 h19 ?_
            refine cR_stI (j := 2) lk58_40 (Or.inr ⟨_, rfl, rfl⟩) (by decide) (fun vq20 gq21 kq22 => ?_)
            have gq23 := kq22 0 _ (by decide) (fun e => absurd e (by decide)) g0
            have gq24 := kq22 1 _ (by decide) (fun _ => rfl) g1
            have gq25 := kq22 3 _ (by decide) (fun e => absurd e (by decide)) g3
            exact k_Lead_mostOf_7_1_b41_ok hp0 hL hF hKK g vq20 σ l0 l1 x18 l3 bl0 gq23 gq24 gq21 gq25 _ h
def k_Lead_mostOf_7_1_b0 (F : Nat)  (σ : CS) (l0 : Nat) (l1 : Int32) : Option (Int32) :=
  k_Lead_mostOf_7_1_b5 F  F σ l0 l1 ((-2147483648 : Int32)) ((0 : Int32))
set_option maxRecDepth 4000 in
theorem k_Lead_mostOf_7_1_b0_ok {E : CE} {pF : Nat → List Value → xH → Option (Option Value × xH)} (hp0 : xNPc pF) (hL : lcAll pF) (hF : lcF pF) {d : Nat} {F : Nat}   : ∀ (g : CG) (lv : xL) (σ : CS) (l0 : Nat) (l1 : Int32), (cob σ 7 l0) → (xg lv 0 = some (.ref (caa E 7 l0 1))) → (xg lv 1 = some (.int l1)) → ∀ res, k_Lead_mostOf_7_1_b0 F  σ l0 l1 = some res → cR E true pF (d + 2) kT58 7 4 (some FieldType.int) (some (.int res)) σ g σ (0, lv, []) := by
  intro g lv σ l0 l1 bl0 g0 g1 res h
  unfold k_Lead_mostOf_7_1_b0 at h
  refine cR_lift (fun _ _ kk => eE_ldc (v := (-2147483648)) lk58_0 xc_7_63 kk) ?_
  refine cR_stI (j := 2) lk58_2 (Or.inr ⟨_, rfl, rfl⟩) (by decide) (fun vq26 gq27 kq28 => ?_)
  have gq29 := kq28 0 _ (by decide) (fun e => absurd e (by decide)) g0
  have gq30 := kq28 1 _ (by decide) (fun _ => rfl) g1
  refine cR_lift (fun _ _ kk => eE_iconst (v := 0) lk58_3 (by decide) kk) ?_
  refine cR_stI (j := 3) lk58_4 (Or.inr ⟨_, rfl, rfl⟩) (by decide) (fun vq31 gq32 kq33 => ?_)
  have gq34 := kq33 0 _ (by decide) (fun e => absurd e (by decide)) gq29
  have gq35 := kq33 1 _ (by decide) (fun e => absurd e (by decide)) gq30
  have gq36 := kq33 2 _ (by decide) (fun _ => rfl) gq27
  exact k_Lead_mostOf_7_1_b5_ok hp0 hL hF  F g vq31 σ l0 l1 ((-2147483648 : Int32)) ((0 : Int32)) bl0 gq34 gq35 gq36 gq32 _ h
def k_Lead_mostOf_7_1 (F : Nat) (σ : CS) (l0 : Nat) (l1 : Int32) : Option (Int32) := k_Lead_mostOf_7_1_b0 F σ l0 l1
theorem k_Lead_mostOf_7_1_ok {E : CE} {pF : Nat → List Value → xH → Option (Option Value × xH)} (hp0 : xNPc pF) (hL : lcAll pF) (hF : lcF pF) {d : Nat} {g : CG} {σ : CS} {F : Nat} {l0 : Nat} {l1 : Int32} {res : Int32} (bl0 : cob σ 7 l0) (h : k_Lead_mostOf_7_1 F σ l0 l1 = some res) : cCo E true pF (d + 3) 58 [.ref (caa E 7 l0 1), .int l1] (some (.int res)) σ g σ :=
  cCo_R kk_58 mo_58 ni_58 xm_58 (Nat.le_of_ble_eq_true rfl) (hp0 58 (by decide) _) (k_Lead_mostOf_7_1_b0_ok hp0 hL hF g _ σ l0 l1 bl0 rfl rfl _ h)
/-! k_Lead_most_7_1 (57), depth 4 -/
def k_Lead_most_7_1_b34 (F : Nat)  (σ : CS) (s0 : Int32) : Option (Int32) :=
  some s0
set_option maxRecDepth 4000 in
theorem k_Lead_most_7_1_b34_ok {E : CE} {pF : Nat → List Value → xH → Option (Option Value × xH)} (hp0 : xNPc pF) (hL : lcAll pF) (hF : lcF pF) {d : Nat} {F : Nat}   : ∀ (g : CG) (lv : xL) (σ : CS) (s0 : Int32), ∀ res, k_Lead_most_7_1_b34 F  σ s0 = some res → cR E true pF (d + 3) kT57 7 4 (some FieldType.int) (some (.int res)) σ g σ (34, lv, [.int s0]) := by
  intro g lv σ s0 res h
  unfold k_Lead_most_7_1_b34 at h
  cases h
  exact cR_end lk57_34 rfl rfl rfl
def k_Lead_most_7_1_b0 (F : Nat)  (σ : CS) (l0 : Nat) (l1 : Int32) : Option (Int32) :=
  (k_Lead_mostOf_7_1 F σ l0 (l1 &&& ((127 : Int32)))).bind fun p1 =>
  if xc0 .ne ((l1 >>> (((7 : Int32)) &&& 31)) &&& ((127 : Int32))) = true then (
    (k_Lead_mostOf_7_1 F σ l0 ((l1 >>> (((7 : Int32)) &&& 31)) &&& ((127 : Int32)))).bind fun p15 =>
    k_Lead_most_7_1_b34 F  σ (cmin p1 p15)
  ) else (
    k_Lead_most_7_1_b34 F  σ p1
  )
set_option maxRecDepth 4000 in
theorem k_Lead_most_7_1_b0_ok {E : CE} {pF : Nat → List Value → xH → Option (Option Value × xH)} (hp0 : xNPc pF) (hL : lcAll pF) (hF : lcF pF) {d : Nat} {F : Nat}   : ∀ (g : CG) (lv : xL) (σ : CS) (l0 : Nat) (l1 : Int32), (cob σ 7 l0) → (xg lv 0 = some (.ref (caa E 7 l0 1))) → (xg lv 1 = some (.int l1)) → ∀ res, k_Lead_most_7_1_b0 F  σ l0 l1 = some res → cR E true pF (d + 3) kT57 7 4 (some FieldType.int) (some (.int res)) σ g σ (0, lv, []) := by
  intro g lv σ l0 l1 bl0 g0 g1 res h
  unfold k_Lead_most_7_1_b0 at h
  refine cR_lift (fun _ _ kk => eE_aload_n lk57_0 g0 kk) ?_
  refine cR_lift (fun _ _ kk => eE_iload_n lk57_1 g1 kk) ?_
  refine cR_lift (fun _ _ kk => eE_bipush (v := 127) lk57_2 (by decide) kk) ?_
  refine cR_lift (fun _ _ kk => eE_iand lk57_4 kk) ?_
  obtain ⟨p1, h2, h⟩ := Option.bind_eq_some_iff.mp h
  refine cR_stat (as := [.ref (caa E 7 l0 1), .int (l1 &&& ((127 : Int32)))]) lk57_5 mr_7_53 na_58 rfl rfl (by first | exact Nat.le_of_ble_eq_true rfl | (simp [xcat, cvo_cat, cat_i, cat_j, cat_r]; done)) mm_58 ws_58 (k_Lead_mostOf_7_1_ok hp0 hL hF (d := d + 0) bl0 h2) (fun m3 => ?_)
  refine cR_stI (j := 2) lk57_8 (Or.inr ⟨_, rfl, rfl⟩) (by decide) (fun vq4 gq5 kq6 => ?_)
  have gq7 := kq6 0 _ (by decide) (fun e => absurd e (by decide)) g0
  have gq8 := kq6 1 _ (by decide) (fun _ => rfl) g1
  refine cR_lift (fun _ _ kk => eE_iload_n lk57_9 gq8 kk) ?_
  refine cR_lift (fun _ _ kk => eE_bipush (v := 7) lk57_10 (by decide) kk) ?_
  refine cR_lift (fun _ _ kk => eE_ishr lk57_12 kk) ?_
  refine cR_lift (fun _ _ kk => eE_bipush (v := 127) lk57_13 (by decide) kk) ?_
  refine cR_lift (fun _ _ kk => eE_iand lk57_15 kk) ?_
  refine cR_stI (j := 3) lk57_16 (Or.inr ⟨_, rfl, rfl⟩) (by decide) (fun vq9 gq10 kq11 => ?_)
  have gq12 := kq11 0 _ (by decide) (fun e => absurd e (by decide)) gq7
  have gq13 := kq11 2 _ (by decide) (fun _ => rfl) gq5
  refine cR_lift (fun _ _ kk => eE_iload_n lk57_17 gq10 kk) ?_
  refine cR_if (t := 25) lk57_18 (by decide) (fun c14 => ?_) (fun c14 => ?_)
  · rw [if_pos c14] at h
    refine cR_lift (fun _ _ kk => eE_iload_n lk57_25 gq13 kk) ?_
    refine cR_lift (fun _ _ kk => eE_aload_n lk57_26 gq12 kk) ?_
    refine cR_lift (fun _ _ kk => eE_iload_n lk57_27 gq10 kk) ?_
    obtain ⟨p15, h16, h⟩ := Option.bind_eq_some_iff.mp h
    refine cR_stat (as := [.ref (caa E 7 l0 1), .int ((l1 >>> (((7 : Int32)) &&& 31)) &&& ((127 : Int32)))]) lk57_28 mr_7_53 na_58 rfl rfl (by first | exact Nat.le_of_ble_eq_true rfl | (simp [xcat, cvo_cat, cat_i, cat_j, cat_r]; done)) mm_58 ws_58 (k_Lead_mostOf_7_1_ok hp0 hL hF (d := d + 0) bl0 h16) (fun m17 => ?_)
    refine cR_min lk57_31 mr_7_57 (by first | exact Nat.le_of_ble_eq_true rfl | (simp [xcat, cvo_cat, cat_i, cat_j, cat_r]; done)) ?_
    exact k_Lead_most_7_1_b34_ok hp0 hL hF  g vq9 σ (cmin p1 p15)  _ h
  · rw [if_neg c14] at h
    refine cR_lift (fun _ _ kk => eE_iload_n lk57_21 gq13 kk) ?_
    refine cR_lift (fun _ _ kk => eE_goto (t := 34) lk57_22 (by decide) kk) ?_
    exact k_Lead_most_7_1_b34_ok hp0 hL hF  g vq9 σ p1  _ h
def k_Lead_most_7_1 (F : Nat) (σ : CS) (l0 : Nat) (l1 : Int32) : Option (Int32) := k_Lead_most_7_1_b0 F σ l0 l1
theorem k_Lead_most_7_1_ok {E : CE} {pF : Nat → List Value → xH → Option (Option Value × xH)} (hp0 : xNPc pF) (hL : lcAll pF) (hF : lcF pF) {d : Nat} {g : CG} {σ : CS} {F : Nat} {l0 : Nat} {l1 : Int32} {res : Int32} (bl0 : cob σ 7 l0) (h : k_Lead_most_7_1 F σ l0 l1 = some res) : cCo E true pF (d + 4) 57 [.ref (caa E 7 l0 1), .int l1] (some (.int res)) σ g σ :=
  cCo_R kk_57 mo_57 ni_57 xm_57 (Nat.le_of_ble_eq_true rfl) (hp0 57 (by decide) _) (k_Lead_most_7_1_b0_ok hp0 hL hF g _ σ l0 l1 bl0 rfl rfl _ h)
/-! k_Letter_fill_11_8 (60), depth 1 -/
def k_Letter_fill_11_8_b45  (σ : CS) : Option (CS) :=
  some σ
set_option maxRecDepth 4000 in
theorem k_Letter_fill_11_8_b45_ok {E : CE} {pF : Nat → List Value → xH → Option (Option Value × xH)} (hp0 : xNPc pF) (hL : lcAll pF) (hF : lcF pF) {d : Nat}   : ∀ (g : CG) (lv : xL) (σ : CS), ∀ res, k_Letter_fill_11_8_b45  σ = some res → cR E true pF (d + 0) kT60 8 4 none none res g σ (45, lv, []) := by
  intro g lv σ res h
  unfold k_Letter_fill_11_8_b45 at h
  cases h
  exact cR_end lk60_45 rfl rfl rfl
def k_Letter_fill_11_8_b0  (σ : CS) (l0 : Nat) (l1 : Nat) (l2 : Int32) (l3 : Int32) : Option (CS) :=
  (some (csI σ 8 l0 17 0 (cmax ((0 : Int32)) (cmin (cmin l3 (Int32.ofNat (cal σ 8 l0 19))) ((Int32.ofNat (cal σ 11 l1 8)) - l2))))).bind fun σ1 =>
  if xc0 .le (cI σ1 8 l0 17 0) = true then (
    k_Letter_fill_11_8_b45  σ1
  ) else (
    (ccpy σ1 11 l1 8 l2 8 l0 19 ((0 : Int32)) (cI σ1 8 l0 17 0)).bind fun σ4 =>
    k_Letter_fill_11_8_b45  σ4
  )
set_option maxRecDepth 4000 in
theorem k_Letter_fill_11_8_b0_ok {E : CE} {pF : Nat → List Value → xH → Option (Option Value × xH)} (hp0 : xNPc pF) (hL : lcAll pF) (hF : lcF pF) {d : Nat}   : ∀ (g : CG) (lv : xL) (σ : CS) (l0 : Nat) (l1 : Nat) (l2 : Int32) (l3 : Int32), (cob σ 8 l0) → (cob σ 11 l1) → (xg lv 0 = some (.ref (coa E 8 l0))) → (xg lv 1 = some (.ref (car E g 11 l1 8))) → (xg lv 2 = some (.int l2)) → (xg lv 3 = some (.int l3)) → ∀ res, k_Letter_fill_11_8_b0  σ l0 l1 l2 l3 = some res → cR E true pF (d + 0) kT60 8 4 none none res g σ (0, lv, []) := by
  intro g lv σ l0 l1 l2 l3 bl0 bl1 g0 g1 g2 g3 res h
  unfold k_Letter_fill_11_8_b0 at h
  refine cR_lift (fun _ _ kk => eE_aload_n lk60_0 g0 kk) ?_
  refine cR_lift (fun _ _ kk => eE_iconst (v := 0) lk60_1 (by decide) kk) ?_
  refine cR_lift (fun _ _ kk => eE_iload_n lk60_2 g3 kk) ?_
  refine cR_lift (fun _ _ kk => eE_aload_n lk60_3 g0 kk) ?_
  refine cR_getA lk60_4 rf_8_15 (by decide) bl0 ?_
  refine cR_alen (cl := 8) (i := l0) (f := 19) lk60_7 (by decide) (by decide) bl0 ?_
  refine cR_min lk60_8 mr_8_74 (by first | exact Nat.le_of_ble_eq_true rfl | (simp [xcat, cvo_cat, cat_i, cat_j, cat_r]; done)) ?_
  refine cR_lift (fun _ _ kk => eE_aload_n lk60_11 g1 kk) ?_
  refine cR_alen (cl := 11) (i := l1) (f := 8) lk60_12 (by decide) (by decide) bl1 ?_
  refine cR_lift (fun _ _ kk => eE_iload_n lk60_13 g2 kk) ?_
  refine cR_lift (fun _ _ kk => eE_isub lk60_14 kk) ?_
  refine cR_min lk60_15 mr_8_74 (by first | exact Nat.le_of_ble_eq_true rfl | (simp [xcat, cvo_cat, cat_i, cat_j, cat_r]; done)) ?_
  refine cR_max lk60_18 mr_8_80 (by first | exact Nat.le_of_ble_eq_true rfl | (simp [xcat, cvo_cat, cat_i, cat_j, cat_r]; done)) ?_
  obtain ⟨σ1, h2, h⟩ := Option.bind_eq_some_iff.mp h
  refine cR_putI lk60_21 rf_8_65 rfl bl0 pf_8_17 rfl h2 ?_
  refine cR_lift (fun _ _ kk => eE_aload_n lk60_24 g0 kk) ?_
  refine cR_getI lk60_25 rf_8_65 rfl (cob_mon (cput_mon h2) bl0) ?_
  refine cR_if (t := 45) lk60_28 (by decide) (fun c3 => ?_) (fun c3 => ?_)
  · rw [if_pos c3] at h
    exact k_Letter_fill_11_8_b45_ok hp0 hL hF  g lv σ1  _ h
  · rw [if_neg c3] at h
    refine cR_lift (fun _ _ kk => eE_aload_n lk60_31 g1 kk) ?_
    refine cR_lift (fun _ _ kk => eE_iload_n lk60_32 g2 kk) ?_
    refine cR_lift (fun _ _ kk => eE_aload_n lk60_33 g0 kk) ?_
    refine cR_getA lk60_34 rf_8_15 (by decide) (cob_mon (cput_mon h2) bl0) ?_
    refine cR_lift (fun _ _ kk => eE_iconst (v := 0) lk60_37 (by decide) kk) ?_
    refine cR_lift (fun _ _ kk => eE_aload_n lk60_38 g0 kk) ?_
    refine cR_getI lk60_39 rf_8_65 rfl (cob_mon (cput_mon h2) bl0) ?_
    obtain ⟨σ4, h5, h⟩ := Option.bind_eq_some_iff.mp h
    refine cR_cpy (a := 11) (i := l1) (f := 8) (a' := 8) (i' := l0) (f' := 19) lk60_42 yc_8_68.1 yc_8_68.2 (by decide) (by decide) (by decide) (cob_any rfl bl1) (cob_mon (cput_mon h2) bl0) (by first | exact Nat.le_of_ble_eq_true rfl | (simp [xcat, cvo_cat, cat_i, cat_j, cat_r]; done)) h5 ?_
    exact k_Letter_fill_11_8_b45_ok hp0 hL hF  g lv σ4  _ h
def k_Letter_fill_11_8 (σ : CS) (l0 : Nat) (l1 : Nat) (l2 : Int32) (l3 : Int32) : Option (CS) := k_Letter_fill_11_8_b0 σ l0 l1 l2 l3
theorem k_Letter_fill_11_8_ok {E : CE} {pF : Nat → List Value → xH → Option (Option Value × xH)} (hp0 : xNPc pF) (hL : lcAll pF) (hF : lcF pF) {d : Nat} {g : CG} {σ : CS} {l0 : Nat} {l1 : Nat} {l2 : Int32} {l3 : Int32} {res : CS} (bl0 : cob σ 8 l0) (bl1 : cob σ 11 l1) (h : k_Letter_fill_11_8 σ l0 l1 l2 l3 = some res) : cCo E true pF (d + 1) 60 [.ref (coa E 8 l0), .ref (car E g 11 l1 8), .int l2, .int l3] none res g σ :=
  cCo_R kk_60 mo_60 ni_60 xm_60 (Nat.le_of_ble_eq_true rfl) (hp0 60 (by decide) _) (k_Letter_fill_11_8_b0_ok hp0 hL hF g _ σ l0 l1 l2 l3 bl0 bl1 rfl rfl rfl rfl _ h)
/-! k_Page_add_9_2 (105), depth 3 -/
def k_Page_add_9_2_b0  (σ : CS) (l0 : Nat) (l1 : Nat) (l2 : Int32) : Option (CS) :=
  (k_Page_makeRoom σ l0 ((cI σ 11 l0 5 0) + ((1 : Int32)))).bind fun p1 =>
  (ccpy p1 9 l1 2 l2 11 l0 6 ((cI p1 11 l0 5 0) * ((6 : Int32))) ((6 : Int32))).bind fun σ5 =>
  (crd σ5 9 l1 2 (l2 + ((2 : Int32)))).bind fun x7 =>
  (some (csI σ5 11 l0 1 0 ((cI σ5 11 l0 1 0) + (((25 : Int32)) + x7)))).bind fun σ9 =>
  (cwr σ9 11 l0 7 (cI σ9 11 l0 5 0) (cI σ9 11 l0 1 0)).bind fun σ11 =>
  (some (csI σ11 11 l0 5 0 ((cI σ11 11 l0 5 0) + ((1 : Int32))))).bind fun σ13 =>
  some σ13
set_option maxRecDepth 4000 in
theorem k_Page_add_9_2_b0_ok {E : CE} {pF : Nat → List Value → xH → Option (Option Value × xH)} (hp0 : xNPc pF) (hL : lcAll pF) (hF : lcF pF) {d : Nat}   : ∀ (g : CG) (lv : xL) (σ : CS) (l0 : Nat) (l1 : Nat) (l2 : Int32), (cob σ 11 l0) → (cob σ 9 l1) → (xg lv 0 = some (.ref (coa E 11 l0))) → (xg lv 1 = some (.ref (caa E 9 l1 2))) → (xg lv 2 = some (.int l2)) → ∀ res, k_Page_add_9_2_b0  σ l0 l1 l2 = some res → cR E false pF (d + 2) kT105 11 3 none none res g σ (0, lv, []) := by
  intro g lv σ l0 l1 l2 bl0 bl1 g0 g1 g2 res h
  unfold k_Page_add_9_2_b0 at h
  refine cR_lift (fun _ _ kk => eE_aload_n lk105_0 g0 kk) ?_
  refine cR_lift (fun _ _ kk => eE_aload_n lk105_1 g0 kk) ?_
  refine cR_getI lk105_2 rf_11_39 rfl bl0 ?_
  refine cR_lift (fun _ _ kk => eE_iconst (v := 1) lk105_5 (by decide) kk) ?_
  refine cR_lift (fun _ _ kk => eE_iadd lk105_6 kk) ?_
  obtain ⟨p1, h2, h⟩ := Option.bind_eq_some_iff.mp h
  refine cR_virtG (cl := 11) (i := l0) (as := [.int ((cI σ 11 l0 5 0) + ((1 : Int32)))]) lk105_7 mr_11_45 na_110 rfl rfl (by first | exact Nat.le_of_ble_eq_true rfl | (simp [xcat, cvo_cat, cat_i, cat_j, cat_r]; done)) wv_110 wc_110 bl0 (k_Page_makeRoom_ok hp0 hL hF (d := d + 0) bl0 h2) (fun m3 g_4 => ?_)
  refine cR_lift (fun _ _ kk => eE_aload_n lk105_10 g1 kk) ?_
  refine cR_lift (fun _ _ kk => eE_iload_n lk105_11 g2 kk) ?_
  refine cR_lift (fun _ _ kk => eE_aload_n lk105_12 g0 kk) ?_
  refine cR_getA lk105_13 rf_11_9 (by decide) (cob_any rfl bl0) ?_
  refine cR_lift (fun _ _ kk => eE_aload_n lk105_16 g0 kk) ?_
  refine cR_getI lk105_17 rf_11_39 rfl (cob_any rfl bl0) ?_
  refine cR_lift (fun _ _ kk => eE_bipush (v := 6) lk105_20 (by decide) kk) ?_
  refine cR_lift (fun _ _ kk => eE_imul lk105_22 kk) ?_
  refine cR_lift (fun _ _ kk => eE_bipush (v := 6) lk105_23 (by decide) kk) ?_
  obtain ⟨σ5, h6, h⟩ := Option.bind_eq_some_iff.mp h
  refine cR_cpy (a := 9) (i := l1) (f := 2) (a' := 11) (i' := l0) (f' := 6) lk105_25 yc_11_49.1 yc_11_49.2 (by decide) (by decide) (by decide) (cob_any rfl bl1) (cob_any rfl bl0) (by first | exact Nat.le_of_ble_eq_true rfl | (simp [xcat, cvo_cat, cat_i, cat_j, cat_r]; done)) h6 ?_
  refine cR_lift (fun _ _ kk => eE_aload_n lk105_28 g0 kk) ?_
  refine cR_lift (fun _ _ kk => eE_dup lk105_29 rfl kk) ?_
  refine cR_getI lk105_30 rf_11_26 rfl (cob_any rfl bl0) ?_
  refine cR_lift (fun _ _ kk => eE_bipush (v := 25) lk105_33 (by decide) kk) ?_
  refine cR_lift (fun _ _ kk => eE_aload_n lk105_35 g1 kk) ?_
  refine cR_lift (fun _ _ kk => eE_iload_n lk105_36 g2 kk) ?_
  refine cR_lift (fun _ _ kk => eE_iconst (v := 2) lk105_37 (by decide) kk) ?_
  refine cR_lift (fun _ _ kk => eE_iadd lk105_38 kk) ?_
  obtain ⟨x7, h8, h⟩ := Option.bind_eq_some_iff.mp h
  refine cR_iald (cl := 9) (i := l1) (f := 2) lk105_39 (by decide) rfl (cob_any rfl bl1) h8 ?_
  refine cR_lift (fun _ _ kk => eE_iadd lk105_40 kk) ?_
  refine cR_lift (fun _ _ kk => eE_iadd lk105_41 kk) ?_
  obtain ⟨σ9, h10, h⟩ := Option.bind_eq_some_iff.mp h
  refine cR_putI lk105_42 rf_11_26 rfl (cob_any rfl bl0) pf_11_1 rfl h10 ?_
  refine cR_lift (fun _ _ kk => eE_aload_n lk105_45 g0 kk) ?_
  refine cR_getA lk105_46 rf_11_15 (by decide) (cob_any rfl bl0) ?_
  refine cR_lift (fun _ _ kk => eE_aload_n lk105_49 g0 kk) ?_
  refine cR_getI lk105_50 rf_11_39 rfl (cob_any rfl bl0) ?_
  refine cR_lift (fun _ _ kk => eE_aload_n lk105_53 g0 kk) ?_
  refine cR_getI lk105_54 rf_11_26 rfl (cob_any rfl bl0) ?_
  obtain ⟨σ11, h12, h⟩ := Option.bind_eq_some_iff.mp h
  refine cR_iast (cl := 11) (i := l0) (f := 7) lk105_57 (by decide) rfl (cob_any rfl bl0) h12 ?_
  refine cR_lift (fun _ _ kk => eE_aload_n lk105_58 g0 kk) ?_
  refine cR_lift (fun _ _ kk => eE_dup lk105_59 rfl kk) ?_
  refine cR_getI lk105_60 rf_11_39 rfl (cob_any rfl bl0) ?_
  refine cR_lift (fun _ _ kk => eE_iconst (v := 1) lk105_63 (by decide) kk) ?_
  refine cR_lift (fun _ _ kk => eE_iadd lk105_64 kk) ?_
  obtain ⟨σ13, h14, h⟩ := Option.bind_eq_some_iff.mp h
  refine cR_putI lk105_65 rf_11_39 rfl (cob_any rfl bl0) pf_11_5 rfl h14 ?_
  cases h
  exact cR_end lk105_68 rfl rfl rfl
def k_Page_add_9_2 (σ : CS) (l0 : Nat) (l1 : Nat) (l2 : Int32) : Option (CS) := k_Page_add_9_2_b0 σ l0 l1 l2
theorem k_Page_add_9_2_ok {E : CE} {pF : Nat → List Value → xH → Option (Option Value × xH)} (hp0 : xNPc pF) (hL : lcAll pF) (hF : lcF pF) {d : Nat} {g : CG} {σ : CS} {l0 : Nat} {l1 : Nat} {l2 : Int32} {res : CS} (bl0 : cob σ 11 l0) (bl1 : cob σ 9 l1) (h : k_Page_add_9_2 σ l0 l1 l2 = some res) : cCo E false pF (d + 3) 105 [.ref (coa E 11 l0), .ref (caa E 9 l1 2), .int l2] none res g σ :=
  cCo_R kk_105 mo_105 ni_105 xm_105 (Nat.le_of_ble_eq_true rfl) (hp0 105 (by decide) _) (k_Page_add_9_2_b0_ok hp0 hL hF g _ σ l0 l1 l2 bl0 bl1 rfl rfl rfl _ h)
/-! k_Log_add_9_2 (62), depth 2 -/
def k_Log_add_9_2_b65  (σ : CS) : Option (CS) :=
  some σ
set_option maxRecDepth 4000 in
theorem k_Log_add_9_2_b65_ok {E : CE} {pF : Nat → List Value → xH → Option (Option Value × xH)} (hp0 : xNPc pF) (hL : lcAll pF) (hF : lcF pF) {d : Nat}   : ∀ (g : CG) (lv : xL) (σ : CS), ∀ res, k_Log_add_9_2_b65  σ = some res → cR E true pF (d + 1) kT62 9 3 none none res g σ (65, lv, []) := by
  intro g lv σ res h
  unfold k_Log_add_9_2_b65 at h
  cases h
  exact cR_end lk62_65 rfl rfl rfl
def k_Log_add_9_2_b0  (σ : CS) (l0 : Nat) (l1 : Nat) (l2 : Int32) : Option (CS) :=
  (k_Log_length σ l0).bind fun p1 =>
  if xc2 .lt p1 ((300 : Int32)) = true then (
    (k_Log_length σ l0).bind fun p5 =>
    (ccpy σ 9 l1 2 l2 9 l0 1 (p5 * ((6 : Int32))) ((6 : Int32))).bind fun σ8 =>
    (some (csI σ8 9 l0 6 0 ((cI σ8 9 l0 6 0) + ((1 : Int32))))).bind fun σ10 =>
    (crd σ10 9 l1 2 (l2 + ((1 : Int32)))).bind fun x12 =>
    if xc2 .ne x12 ((1 : Int32)) = true then (
      k_Log_add_9_2_b65  σ10
    ) else (
      (crd σ10 9 l1 2 (l2 + ((3 : Int32)))).bind fun x15 =>
      (some (csI σ10 9 l0 7 0 x15)).bind fun σ17 =>
      (some (csI σ17 9 l0 8 0 (cI σ17 9 l0 6 0))).bind fun σ19 =>
      k_Log_add_9_2_b65  σ19
    )
  ) else (
    some σ
  )
set_option maxRecDepth 4000 in
theorem k_Log_add_9_2_b0_ok {E : CE} {pF : Nat → List Value → xH → Option (Option Value × xH)} (hp0 : xNPc pF) (hL : lcAll pF) (hF : lcF pF) {d : Nat}   : ∀ (g : CG) (lv : xL) (σ : CS) (l0 : Nat) (l1 : Nat) (l2 : Int32), (cob σ 9 l0) → (cob σ 9 l1) → (xg lv 0 = some (.ref (coa E 9 l0))) → (xg lv 1 = some (.ref (caa E 9 l1 2))) → (xg lv 2 = some (.int l2)) → ∀ res, k_Log_add_9_2_b0  σ l0 l1 l2 = some res → cR E true pF (d + 1) kT62 9 3 none none res g σ (0, lv, []) := by
  intro g lv σ l0 l1 l2 bl0 bl1 g0 g1 g2 res h
  unfold k_Log_add_9_2_b0 at h
  refine cR_lift (fun _ _ kk => eE_aload_n lk62_0 g0 kk) ?_
  obtain ⟨p1, h2, h⟩ := Option.bind_eq_some_iff.mp h
  refine cR_virt (cl := 9) (i := l0) (as := []) lk62_1 mr_9_57 na_69 rfl rfl (by first | exact Nat.le_of_ble_eq_true rfl | (simp [xcat, cvo_cat, cat_i, cat_j, cat_r]; done)) wv_69 wc_69 bl0 (k_Log_length_ok hp0 hL hF (d := d + 0) bl0 h2) (fun m3  => ?_)
  refine cR_lift (fun _ _ kk => eE_sipush (v := 300) lk62_4 (by decide) kk) ?_
  refine cR_icmp (t := 11) lk62_7 (by decide) (fun c4 => ?_) (fun c4 => ?_)
  · rw [if_pos c4] at h
    refine cR_lift (fun _ _ kk => eE_aload_n lk62_11 g1 kk) ?_
    refine cR_lift (fun _ _ kk => eE_iload_n lk62_12 g2 kk) ?_
    refine cR_lift (fun _ _ kk => eE_aload_n lk62_13 g0 kk) ?_
    refine cR_getA lk62_14 rf_9_9 (by decide) bl0 ?_
    refine cR_lift (fun _ _ kk => eE_aload_n lk62_17 g0 kk) ?_
    obtain ⟨p5, h6, h⟩ := Option.bind_eq_some_iff.mp h
    refine cR_virt (cl := 9) (i := l0) (as := []) lk62_18 mr_9_57 na_69 rfl rfl (by first | exact Nat.le_of_ble_eq_true rfl | (simp [xcat, cvo_cat, cat_i, cat_j, cat_r]; done)) wv_69 wc_69 bl0 (k_Log_length_ok hp0 hL hF (d := d + 0) bl0 h6) (fun m7  => ?_)
    refine cR_lift (fun _ _ kk => eE_bipush (v := 6) lk62_21 (by decide) kk) ?_
    refine cR_lift (fun _ _ kk => eE_imul lk62_23 kk) ?_
    refine cR_lift (fun _ _ kk => eE_bipush (v := 6) lk62_24 (by decide) kk) ?_
    obtain ⟨σ8, h9, h⟩ := Option.bind_eq_some_iff.mp h
    refine cR_cpy (a := 9) (i := l1) (f := 2) (a' := 9) (i' := l0) (f' := 1) lk62_26 yc_9_61.1 yc_9_61.2 (by decide) (by decide) (by decide) bl1 bl0 (by first | exact Nat.le_of_ble_eq_true rfl | (simp [xcat, cvo_cat, cat_i, cat_j, cat_r]; done)) h9 ?_
    refine cR_lift (fun _ _ kk => eE_aload_n lk62_29 g0 kk) ?_
    refine cR_lift (fun _ _ kk => eE_dup lk62_30 rfl kk) ?_
    refine cR_getI lk62_31 rf_9_34 rfl (cob_any rfl bl0) ?_
    refine cR_lift (fun _ _ kk => eE_iconst (v := 1) lk62_34 (by decide) kk) ?_
    refine cR_lift (fun _ _ kk => eE_iadd lk62_35 kk) ?_
    obtain ⟨σ10, h11, h⟩ := Option.bind_eq_some_iff.mp h
    refine cR_putI lk62_36 rf_9_34 rfl (cob_any rfl bl0) pf_9_6 rfl h11 ?_
    refine cR_lift (fun _ _ kk => eE_aload_n lk62_39 g1 kk) ?_
    refine cR_lift (fun _ _ kk => eE_iload_n lk62_40 g2 kk) ?_
    refine cR_lift (fun _ _ kk => eE_iconst (v := 1) lk62_41 (by decide) kk) ?_
    refine cR_lift (fun _ _ kk => eE_iadd lk62_42 kk) ?_
    obtain ⟨x12, h13, h⟩ := Option.bind_eq_some_iff.mp h
    refine cR_iald (cl := 9) (i := l1) (f := 2) lk62_43 (by decide) rfl (cob_any rfl bl1) h13 ?_
    refine cR_lift (fun _ _ kk => eE_iconst (v := 1) lk62_44 (by decide) kk) ?_
    refine cR_icmp (t := 65) lk62_45 (by decide) (fun c14 => ?_) (fun c14 => ?_)
    · rw [if_pos c14] at h
      exact k_Log_add_9_2_b65_ok hp0 hL hF  g lv σ10  _ h
    · rw [if_neg c14] at h
      refine cR_lift (fun _ _ kk => eE_aload_n lk62_48 g0 kk) ?_
      refine cR_lift (fun _ _ kk => eE_aload_n lk62_49 g1 kk) ?_
      refine cR_lift (fun _ _ kk => eE_iload_n lk62_50 g2 kk) ?_
      refine cR_lift (fun _ _ kk => eE_iconst (v := 3) lk62_51 (by decide) kk) ?_
      refine cR_lift (fun _ _ kk => eE_iadd lk62_52 kk) ?_
      obtain ⟨x15, h16, h⟩ := Option.bind_eq_some_iff.mp h
      refine cR_iald (cl := 9) (i := l1) (f := 2) lk62_53 (by decide) rfl (cob_any rfl bl1) h16 ?_
      obtain ⟨σ17, h18, h⟩ := Option.bind_eq_some_iff.mp h
      refine cR_putI lk62_54 rf_9_25 rfl (cob_any rfl bl0) pf_9_7 rfl h18 ?_
      refine cR_lift (fun _ _ kk => eE_aload_n lk62_57 g0 kk) ?_
      refine cR_lift (fun _ _ kk => eE_aload_n lk62_58 g0 kk) ?_
      refine cR_getI lk62_59 rf_9_34 rfl (cob_any rfl bl0) ?_
      obtain ⟨σ19, h20, h⟩ := Option.bind_eq_some_iff.mp h
      refine cR_putI lk62_62 rf_9_67 rfl (cob_any rfl bl0) pf_9_8 rfl h20 ?_
      exact k_Log_add_9_2_b65_ok hp0 hL hF  g lv σ19  _ h
  · rw [if_neg c4] at h
    cases h
    exact cR_end lk62_10 rfl rfl rfl
def k_Log_add_9_2 (σ : CS) (l0 : Nat) (l1 : Nat) (l2 : Int32) : Option (CS) := k_Log_add_9_2_b0 σ l0 l1 l2
theorem k_Log_add_9_2_ok {E : CE} {pF : Nat → List Value → xH → Option (Option Value × xH)} (hp0 : xNPc pF) (hL : lcAll pF) (hF : lcF pF) {d : Nat} {g : CG} {σ : CS} {l0 : Nat} {l1 : Nat} {l2 : Int32} {res : CS} (bl0 : cob σ 9 l0) (bl1 : cob σ 9 l1) (h : k_Log_add_9_2 σ l0 l1 l2 = some res) : cCo E true pF (d + 2) 62 [.ref (coa E 9 l0), .ref (caa E 9 l1 2), .int l2] none res g σ :=
  cCo_R kk_62 mo_62 ni_62 xm_62 (Nat.le_of_ble_eq_true rfl) (hp0 62 (by decide) _) (k_Log_add_9_2_b0_ok hp0 hL hF g _ σ l0 l1 l2 bl0 bl1 rfl rfl rfl _ h)
/-! k_Page_add_8_18 (105), depth 3 -/
def k_Page_add_8_18_b0  (σ : CS) (l0 : Nat) (l1 : Nat) (l2 : Int32) : Option (CS) :=
  (k_Page_makeRoom σ l0 ((cI σ 11 l0 5 0) + ((1 : Int32)))).bind fun p1 =>
  (ccpy p1 8 l1 18 l2 11 l0 6 ((cI p1 11 l0 5 0) * ((6 : Int32))) ((6 : Int32))).bind fun σ5 =>
  (crd σ5 8 l1 18 (l2 + ((2 : Int32)))).bind fun x7 =>
  (some (csI σ5 11 l0 1 0 ((cI σ5 11 l0 1 0) + (((25 : Int32)) + x7)))).bind fun σ9 =>
  (cwr σ9 11 l0 7 (cI σ9 11 l0 5 0) (cI σ9 11 l0 1 0)).bind fun σ11 =>
  (some (csI σ11 11 l0 5 0 ((cI σ11 11 l0 5 0) + ((1 : Int32))))).bind fun σ13 =>
  some σ13
set_option maxRecDepth 4000 in
theorem k_Page_add_8_18_b0_ok {E : CE} {pF : Nat → List Value → xH → Option (Option Value × xH)} (hp0 : xNPc pF) (hL : lcAll pF) (hF : lcF pF) {d : Nat}   : ∀ (g : CG) (lv : xL) (σ : CS) (l0 : Nat) (l1 : Nat) (l2 : Int32), (cob σ 11 l0) → (cob σ 8 l1) → (xg lv 0 = some (.ref (coa E 11 l0))) → (xg lv 1 = some (.ref (caa E 8 l1 18))) → (xg lv 2 = some (.int l2)) → ∀ res, k_Page_add_8_18_b0  σ l0 l1 l2 = some res → cR E false pF (d + 2) kT105 11 3 none none res g σ (0, lv, []) := by
  intro g lv σ l0 l1 l2 bl0 bl1 g0 g1 g2 res h
  unfold k_Page_add_8_18_b0 at h
  refine cR_lift (fun _ _ kk => eE_aload_n lk105_0 g0 kk) ?_
  refine cR_lift (fun _ _ kk => eE_aload_n lk105_1 g0 kk) ?_
  refine cR_getI lk105_2 rf_11_39 rfl bl0 ?_
  refine cR_lift (fun _ _ kk => eE_iconst (v := 1) lk105_5 (by decide) kk) ?_
  refine cR_lift (fun _ _ kk => eE_iadd lk105_6 kk) ?_
  obtain ⟨p1, h2, h⟩ := Option.bind_eq_some_iff.mp h
  refine cR_virtG (cl := 11) (i := l0) (as := [.int ((cI σ 11 l0 5 0) + ((1 : Int32)))]) lk105_7 mr_11_45 na_110 rfl rfl (by first | exact Nat.le_of_ble_eq_true rfl | (simp [xcat, cvo_cat, cat_i, cat_j, cat_r]; done)) wv_110 wc_110 bl0 (k_Page_makeRoom_ok hp0 hL hF (d := d + 0) bl0 h2) (fun m3 g_4 => ?_)
  refine cR_lift (fun _ _ kk => eE_aload_n lk105_10 g1 kk) ?_
  refine cR_lift (fun _ _ kk => eE_iload_n lk105_11 g2 kk) ?_
  refine cR_lift (fun _ _ kk => eE_aload_n lk105_12 g0 kk) ?_
  refine cR_getA lk105_13 rf_11_9 (by decide) (cob_any rfl bl0) ?_
  refine cR_lift (fun _ _ kk => eE_aload_n lk105_16 g0 kk) ?_
  refine cR_getI lk105_17 rf_11_39 rfl (cob_any rfl bl0) ?_
  refine cR_lift (fun _ _ kk => eE_bipush (v := 6) lk105_20 (by decide) kk) ?_
  refine cR_lift (fun _ _ kk => eE_imul lk105_22 kk) ?_
  refine cR_lift (fun _ _ kk => eE_bipush (v := 6) lk105_23 (by decide) kk) ?_
  obtain ⟨σ5, h6, h⟩ := Option.bind_eq_some_iff.mp h
  refine cR_cpy (a := 8) (i := l1) (f := 18) (a' := 11) (i' := l0) (f' := 6) lk105_25 yc_11_49.1 yc_11_49.2 (by decide) (by decide) (by decide) (cob_mon m3 bl1) (cob_any rfl bl0) (by first | exact Nat.le_of_ble_eq_true rfl | (simp [xcat, cvo_cat, cat_i, cat_j, cat_r]; done)) h6 ?_
  refine cR_lift (fun _ _ kk => eE_aload_n lk105_28 g0 kk) ?_
  refine cR_lift (fun _ _ kk => eE_dup lk105_29 rfl kk) ?_
  refine cR_getI lk105_30 rf_11_26 rfl (cob_any rfl bl0) ?_
  refine cR_lift (fun _ _ kk => eE_bipush (v := 25) lk105_33 (by decide) kk) ?_
  refine cR_lift (fun _ _ kk => eE_aload_n lk105_35 g1 kk) ?_
  refine cR_lift (fun _ _ kk => eE_iload_n lk105_36 g2 kk) ?_
  refine cR_lift (fun _ _ kk => eE_iconst (v := 2) lk105_37 (by decide) kk) ?_
  refine cR_lift (fun _ _ kk => eE_iadd lk105_38 kk) ?_
  obtain ⟨x7, h8, h⟩ := Option.bind_eq_some_iff.mp h
  refine cR_iald (cl := 8) (i := l1) (f := 18) lk105_39 (by decide) rfl (cob_mon (ccpy_mon h6) (cob_mon m3 bl1)) h8 ?_
  refine cR_lift (fun _ _ kk => eE_iadd lk105_40 kk) ?_
  refine cR_lift (fun _ _ kk => eE_iadd lk105_41 kk) ?_
  obtain ⟨σ9, h10, h⟩ := Option.bind_eq_some_iff.mp h
  refine cR_putI lk105_42 rf_11_26 rfl (cob_any rfl bl0) pf_11_1 rfl h10 ?_
  refine cR_lift (fun _ _ kk => eE_aload_n lk105_45 g0 kk) ?_
  refine cR_getA lk105_46 rf_11_15 (by decide) (cob_any rfl bl0) ?_
  refine cR_lift (fun _ _ kk => eE_aload_n lk105_49 g0 kk) ?_
  refine cR_getI lk105_50 rf_11_39 rfl (cob_any rfl bl0) ?_
  refine cR_lift (fun _ _ kk => eE_aload_n lk105_53 g0 kk) ?_
  refine cR_getI lk105_54 rf_11_26 rfl (cob_any rfl bl0) ?_
  obtain ⟨σ11, h12, h⟩ := Option.bind_eq_some_iff.mp h
  refine cR_iast (cl := 11) (i := l0) (f := 7) lk105_57 (by decide) rfl (cob_any rfl bl0) h12 ?_
  refine cR_lift (fun _ _ kk => eE_aload_n lk105_58 g0 kk) ?_
  refine cR_lift (fun _ _ kk => eE_dup lk105_59 rfl kk) ?_
  refine cR_getI lk105_60 rf_11_39 rfl (cob_any rfl bl0) ?_
  refine cR_lift (fun _ _ kk => eE_iconst (v := 1) lk105_63 (by decide) kk) ?_
  refine cR_lift (fun _ _ kk => eE_iadd lk105_64 kk) ?_
  obtain ⟨σ13, h14, h⟩ := Option.bind_eq_some_iff.mp h
  refine cR_putI lk105_65 rf_11_39 rfl (cob_any rfl bl0) pf_11_5 rfl h14 ?_
  cases h
  exact cR_end lk105_68 rfl rfl rfl
def k_Page_add_8_18 (σ : CS) (l0 : Nat) (l1 : Nat) (l2 : Int32) : Option (CS) := k_Page_add_8_18_b0 σ l0 l1 l2
theorem k_Page_add_8_18_ok {E : CE} {pF : Nat → List Value → xH → Option (Option Value × xH)} (hp0 : xNPc pF) (hL : lcAll pF) (hF : lcF pF) {d : Nat} {g : CG} {σ : CS} {l0 : Nat} {l1 : Nat} {l2 : Int32} {res : CS} (bl0 : cob σ 11 l0) (bl1 : cob σ 8 l1) (h : k_Page_add_8_18 σ l0 l1 l2 = some res) : cCo E false pF (d + 3) 105 [.ref (coa E 11 l0), .ref (caa E 8 l1 18), .int l2] none res g σ :=
  cCo_R kk_105 mo_105 ni_105 xm_105 (Nat.le_of_ble_eq_true rfl) (hp0 105 (by decide) _) (k_Page_add_8_18_b0_ok hp0 hL hF g _ σ l0 l1 l2 bl0 bl1 rfl rfl rfl _ h)
/-! k_Log_add_8_18 (62), depth 2 -/
def k_Log_add_8_18_b65  (σ : CS) : Option (CS) :=
  some σ
set_option maxRecDepth 4000 in
theorem k_Log_add_8_18_b65_ok {E : CE} {pF : Nat → List Value → xH → Option (Option Value × xH)} (hp0 : xNPc pF) (hL : lcAll pF) (hF : lcF pF) {d : Nat}   : ∀ (g : CG) (lv : xL) (σ : CS), ∀ res, k_Log_add_8_18_b65  σ = some res → cR E true pF (d + 1) kT62 9 3 none none res g σ (65, lv, []) := by
  intro g lv σ res h
  unfold k_Log_add_8_18_b65 at h
  cases h
  exact cR_end lk62_65 rfl rfl rfl
def k_Log_add_8_18_b0  (σ : CS) (l0 : Nat) (l1 : Nat) (l2 : Int32) : Option (CS) :=
  (k_Log_length σ l0).bind fun p1 =>
  if xc2 .lt p1 ((300 : Int32)) = true then (
    (k_Log_length σ l0).bind fun p5 =>
    (ccpy σ 8 l1 18 l2 9 l0 1 (p5 * ((6 : Int32))) ((6 : Int32))).bind fun σ8 =>
    (some (csI σ8 9 l0 6 0 ((cI σ8 9 l0 6 0) + ((1 : Int32))))).bind fun σ10 =>
    (crd σ10 8 l1 18 (l2 + ((1 : Int32)))).bind fun x12 =>
    if xc2 .ne x12 ((1 : Int32)) = true then (
      k_Log_add_8_18_b65  σ10
    ) else (
      (crd σ10 8 l1 18 (l2 + ((3 : Int32)))).bind fun x15 =>
      (some (csI σ10 9 l0 7 0 x15)).bind fun σ17 =>
      (some (csI σ17 9 l0 8 0 (cI σ17 9 l0 6 0))).bind fun σ19 =>
      k_Log_add_8_18_b65  σ19
    )
  ) else (
    some σ
  )
set_option maxRecDepth 4000 in
theorem k_Log_add_8_18_b0_ok {E : CE} {pF : Nat → List Value → xH → Option (Option Value × xH)} (hp0 : xNPc pF) (hL : lcAll pF) (hF : lcF pF) {d : Nat}   : ∀ (g : CG) (lv : xL) (σ : CS) (l0 : Nat) (l1 : Nat) (l2 : Int32), (cob σ 9 l0) → (cob σ 8 l1) → (xg lv 0 = some (.ref (coa E 9 l0))) → (xg lv 1 = some (.ref (caa E 8 l1 18))) → (xg lv 2 = some (.int l2)) → ∀ res, k_Log_add_8_18_b0  σ l0 l1 l2 = some res → cR E true pF (d + 1) kT62 9 3 none none res g σ (0, lv, []) := by
  intro g lv σ l0 l1 l2 bl0 bl1 g0 g1 g2 res h
  unfold k_Log_add_8_18_b0 at h
  refine cR_lift (fun _ _ kk => eE_aload_n lk62_0 g0 kk) ?_
  obtain ⟨p1, h2, h⟩ := Option.bind_eq_some_iff.mp h
  refine cR_virt (cl := 9) (i := l0) (as := []) lk62_1 mr_9_57 na_69 rfl rfl (by first | exact Nat.le_of_ble_eq_true rfl | (simp [xcat, cvo_cat, cat_i, cat_j, cat_r]; done)) wv_69 wc_69 bl0 (k_Log_length_ok hp0 hL hF (d := d + 0) bl0 h2) (fun m3  => ?_)
  refine cR_lift (fun _ _ kk => eE_sipush (v := 300) lk62_4 (by decide) kk) ?_
  refine cR_icmp (t := 11) lk62_7 (by decide) (fun c4 => ?_) (fun c4 => ?_)
  · rw [if_pos c4] at h
    refine cR_lift (fun _ _ kk => eE_aload_n lk62_11 g1 kk) ?_
    refine cR_lift (fun _ _ kk => eE_iload_n lk62_12 g2 kk) ?_
    refine cR_lift (fun _ _ kk => eE_aload_n lk62_13 g0 kk) ?_
    refine cR_getA lk62_14 rf_9_9 (by decide) bl0 ?_
    refine cR_lift (fun _ _ kk => eE_aload_n lk62_17 g0 kk) ?_
    obtain ⟨p5, h6, h⟩ := Option.bind_eq_some_iff.mp h
    refine cR_virt (cl := 9) (i := l0) (as := []) lk62_18 mr_9_57 na_69 rfl rfl (by first | exact Nat.le_of_ble_eq_true rfl | (simp [xcat, cvo_cat, cat_i, cat_j, cat_r]; done)) wv_69 wc_69 bl0 (k_Log_length_ok hp0 hL hF (d := d + 0) bl0 h6) (fun m7  => ?_)
    refine cR_lift (fun _ _ kk => eE_bipush (v := 6) lk62_21 (by decide) kk) ?_
    refine cR_lift (fun _ _ kk => eE_imul lk62_23 kk) ?_
    refine cR_lift (fun _ _ kk => eE_bipush (v := 6) lk62_24 (by decide) kk) ?_
    obtain ⟨σ8, h9, h⟩ := Option.bind_eq_some_iff.mp h
    refine cR_cpy (a := 8) (i := l1) (f := 18) (a' := 9) (i' := l0) (f' := 1) lk62_26 yc_9_61.1 yc_9_61.2 (by decide) (by decide) (by decide) bl1 bl0 (by first | exact Nat.le_of_ble_eq_true rfl | (simp [xcat, cvo_cat, cat_i, cat_j, cat_r]; done)) h9 ?_
    refine cR_lift (fun _ _ kk => eE_aload_n lk62_29 g0 kk) ?_
    refine cR_lift (fun _ _ kk => eE_dup lk62_30 rfl kk) ?_
    refine cR_getI lk62_31 rf_9_34 rfl (cob_any rfl bl0) ?_
    refine cR_lift (fun _ _ kk => eE_iconst (v := 1) lk62_34 (by decide) kk) ?_
    refine cR_lift (fun _ _ kk => eE_iadd lk62_35 kk) ?_
    obtain ⟨σ10, h11, h⟩ := Option.bind_eq_some_iff.mp h
    refine cR_putI lk62_36 rf_9_34 rfl (cob_any rfl bl0) pf_9_6 rfl h11 ?_
    refine cR_lift (fun _ _ kk => eE_aload_n lk62_39 g1 kk) ?_
    refine cR_lift (fun _ _ kk => eE_iload_n lk62_40 g2 kk) ?_
    refine cR_lift (fun _ _ kk => eE_iconst (v := 1) lk62_41 (by decide) kk) ?_
    refine cR_lift (fun _ _ kk => eE_iadd lk62_42 kk) ?_
    obtain ⟨x12, h13, h⟩ := Option.bind_eq_some_iff.mp h
    refine cR_iald (cl := 8) (i := l1) (f := 18) lk62_43 (by decide) rfl (cob_mon (cput_mon h11) (cob_mon (ccpy_mon h9) bl1)) h13 ?_
    refine cR_lift (fun _ _ kk => eE_iconst (v := 1) lk62_44 (by decide) kk) ?_
    refine cR_icmp (t := 65) lk62_45 (by decide) (fun c14 => ?_) (fun c14 => ?_)
    · rw [if_pos c14] at h
      exact k_Log_add_8_18_b65_ok hp0 hL hF  g lv σ10  _ h
    · rw [if_neg c14] at h
      refine cR_lift (fun _ _ kk => eE_aload_n lk62_48 g0 kk) ?_
      refine cR_lift (fun _ _ kk => eE_aload_n lk62_49 g1 kk) ?_
      refine cR_lift (fun _ _ kk => eE_iload_n lk62_50 g2 kk) ?_
      refine cR_lift (fun _ _ kk => eE_iconst (v := 3) lk62_51 (by decide) kk) ?_
      refine cR_lift (fun _ _ kk => eE_iadd lk62_52 kk) ?_
      obtain ⟨x15, h16, h⟩ := Option.bind_eq_some_iff.mp h
      refine cR_iald (cl := 8) (i := l1) (f := 18) lk62_53 (by decide) rfl (cob_mon (cput_mon h11) (cob_mon (ccpy_mon h9) bl1)) h16 ?_
      obtain ⟨σ17, h18, h⟩ := Option.bind_eq_some_iff.mp h
      refine cR_putI lk62_54 rf_9_25 rfl (cob_any rfl bl0) pf_9_7 rfl h18 ?_
      refine cR_lift (fun _ _ kk => eE_aload_n lk62_57 g0 kk) ?_
      refine cR_lift (fun _ _ kk => eE_aload_n lk62_58 g0 kk) ?_
      refine cR_getI lk62_59 rf_9_34 rfl (cob_any rfl bl0) ?_
      obtain ⟨σ19, h20, h⟩ := Option.bind_eq_some_iff.mp h
      refine cR_putI lk62_62 rf_9_67 rfl (cob_any rfl bl0) pf_9_8 rfl h20 ?_
      exact k_Log_add_8_18_b65_ok hp0 hL hF  g lv σ19  _ h
  · rw [if_neg c4] at h
    cases h
    exact cR_end lk62_10 rfl rfl rfl
def k_Log_add_8_18 (σ : CS) (l0 : Nat) (l1 : Nat) (l2 : Int32) : Option (CS) := k_Log_add_8_18_b0 σ l0 l1 l2
theorem k_Log_add_8_18_ok {E : CE} {pF : Nat → List Value → xH → Option (Option Value × xH)} (hp0 : xNPc pF) (hL : lcAll pF) (hF : lcF pF) {d : Nat} {g : CG} {σ : CS} {l0 : Nat} {l1 : Nat} {l2 : Int32} {res : CS} (bl0 : cob σ 9 l0) (bl1 : cob σ 8 l1) (h : k_Log_add_8_18 σ l0 l1 l2 = some res) : cCo E true pF (d + 2) 62 [.ref (coa E 9 l0), .ref (caa E 8 l1 18), .int l2] none res g σ :=
  cCo_R kk_62 mo_62 ni_62 xm_62 (Nat.le_of_ble_eq_true rfl) (hp0 62 (by decide) _) (k_Log_add_8_18_b0_ok hp0 hL hF g _ σ l0 l1 l2 bl0 bl1 rfl rfl rfl _ h)
/-! k_Lead_isReached_7_5 (56), depth 2 -/
def k_Lead_isReached_7_5_b32 (F : Nat) (K5 : CS → Nat → Int32 → Int32 → Int32 → Int32 → Option (Int32)) (σ : CS) (l0 : Nat) (l1 : Int32) (l2 : Int32) (l3 : Int32) (l4 : Int32) : Option (Int32) :=
  K5 σ l0 l1 l2 l3 (l4 + (1 : Int32))
set_option maxRecDepth 4000 in
theorem k_Lead_isReached_7_5_b32_ok {E : CE} {pF : Nat → List Value → xH → Option (Option Value × xH)} (hp0 : xNPc pF) (hL : lcAll pF) (hF : lcF pF) {d : Nat} {F : Nat} {K5 : CS → Nat → Int32 → Int32 → Int32 → Int32 → Option (Int32)} (hK5 : ∀ (g : CG) (lv : xL) (σ : CS) (l0 : Nat) (l1 : Int32) (l2 : Int32) (l3 : Int32) (l4 : Int32), (cob σ 7 l0) → (xg lv 0 = some (.ref (caa E 7 l0 5))) → (xg lv 1 = some (.int l1)) → (xg lv 2 = some (.int l2)) → (xg lv 3 = some (.int l3)) → (xg lv 4 = some (.int l4)) → ∀ res, K5 σ l0 l1 l2 l3 l4 = some res → cR E true pF (d + 1) kT56 7 5 (some FieldType.boolean) (some (.int res)) σ g σ (5, lv, [])) : ∀ (g : CG) (lv : xL) (σ : CS) (l0 : Nat) (l1 : Int32) (l2 : Int32) (l3 : Int32) (l4 : Int32), (cob σ 7 l0) → (xg lv 0 = some (.ref (caa E 7 l0 5))) → (xg lv 1 = some (.int l1)) → (xg lv 2 = some (.int l2)) → (xg lv 3 = some (.int l3)) → (xg lv 4 = some (.int l4)) → ∀ res, k_Lead_isReached_7_5_b32 F K5 σ l0 l1 l2 l3 l4 = some res → cR E true pF (d + 1) kT56 7 5 (some FieldType.boolean) (some (.int res)) σ g σ (32, lv, []) := by
  intro g lv σ l0 l1 l2 l3 l4 bl0 g0 g1 g2 g3 g4 res h
  unfold k_Lead_isReached_7_5_b32 at h
  refine cR_inc (j := 4) (v := l4 + (1 : Int32)) lk56_32 g4 rfl (by decide) (fun vq1 gq2 kq3 => ?_)
  have gq4 := kq3 0 _ (by decide) (fun e => absurd e (by decide)) g0
  have gq5 := kq3 1 _ (by decide) (fun e => absurd e (by decide)) g1
  have gq6 := kq3 2 _ (by decide) (fun e => absurd e (by decide)) g2
  have gq7 := kq3 3 _ (by decide) (fun _ => rfl) g3
  refine cR_lift (fun _ _ kk => eE_goto (t := 5) lk56_35 (by decide) kk) ?_
  exact hK5 g vq1 σ l0 l1 l2 l3 (l4 + (1 : Int32)) bl0 gq4 gq5 gq6 gq7 gq2 _ h
def k_Lead_isReached_7_5_b53 (F : Nat)  (σ : CS) (s0 : Int32) : Option (Int32) :=
  if s0 = 0 ∨ s0 = 1 then some s0 else none
set_option maxRecDepth 4000 in
theorem k_Lead_isReached_7_5_b53_ok {E : CE} {pF : Nat → List Value → xH → Option (Option Value × xH)} (hp0 : xNPc pF) (hL : lcAll pF) (hF : lcF pF) {d : Nat} {F : Nat}   : ∀ (g : CG) (lv : xL) (σ : CS) (s0 : Int32), ∀ res, k_Lead_isReached_7_5_b53 F  σ s0 = some res → cR E true pF (d + 1) kT56 7 5 (some FieldType.boolean) (some (.int res)) σ g σ (53, lv, [.int s0]) := by
  intro g lv σ s0 res h
  unfold k_Lead_isReached_7_5_b53 at h
  by_cases z8 : s0 = 0 ∨ s0 = 1
  · rw [if_pos z8] at h; cases h
    exact cR_end lk56_53 rfl rfl (by first | (simp only [xfin, if_true, if_pos z8]; done) | simp [xfin, z8])
  · rw [if_neg z8] at h; cases h
def k_Lead_isReached_7_5_b5 (F : Nat)  : Nat → CS → Nat → Int32 → Int32 → Int32 → Int32 → Option (Int32)
  | 0, _, _, _, _, _, _ => none
  | n + 1, σ, l0, l1, l2, l3, l4 =>
    let KK := k_Lead_isReached_7_5_b5 F  n
    if xc2 .ge l4 ((7 : Int32)) = true then (
      (k_Integer_bitCount σ l1).bind fun p10 =>
      if xc2 .le (((2 : Int32)) * l3) p10 = true then (
        k_Lead_isReached_7_5_b53 F  σ ((0 : Int32))
      ) else (
        k_Lead_isReached_7_5_b53 F  σ ((1 : Int32))
      )
    ) else (
      if xc0 .eq ((l1 >>> (l4 &&& 31)) &&& ((1 : Int32))) = true then (
        k_Lead_isReached_7_5_b32 F KK σ l0 l1 l2 l3 l4
      ) else (
        (crd σ 7 l0 5 l4).bind fun x15 =>
        if xc2 .lt x15 l2 = true then (
          k_Lead_isReached_7_5_b32 F KK σ l0 l1 l2 l3 l4
        ) else (
          k_Lead_isReached_7_5_b32 F KK σ l0 l1 l2 (l3 + (1 : Int32)) l4
        )
      )
    )
set_option maxRecDepth 4000 in
theorem k_Lead_isReached_7_5_b5_ok {E : CE} {pF : Nat → List Value → xH → Option (Option Value × xH)} (hp0 : xNPc pF) (hL : lcAll pF) (hF : lcF pF) {d : Nat} {F : Nat}   : ∀ (n : Nat) (g : CG) (lv : xL) (σ : CS) (l0 : Nat) (l1 : Int32) (l2 : Int32) (l3 : Int32) (l4 : Int32), (cob σ 7 l0) → (xg lv 0 = some (.ref (caa E 7 l0 5))) → (xg lv 1 = some (.int l1)) → (xg lv 2 = some (.int l2)) → (xg lv 3 = some (.int l3)) → (xg lv 4 = some (.int l4)) → ∀ res, k_Lead_isReached_7_5_b5 F  n σ l0 l1 l2 l3 l4 = some res → cR E true pF (d + 1) kT56 7 5 (some FieldType.boolean) (some (.int res)) σ g σ (5, lv, []) := by
  intro n
  induction n with
  | zero => intro g lv σ l0 l1 l2 l3 l4 bl0 g0 g1 g2 g3 g4 res h; simp [k_Lead_isReached_7_5_b5] at h
  | succ n hKK =>
    intro g lv σ l0 l1 l2 l3 l4 bl0 g0 g1 g2 g3 g4 res h
    unfold k_Lead_isReached_7_5_b5 at h
    dsimp only at h
    refine cR_lift (fun _ _ kk => eE_iload lk56_5 g4 kk) ?_
    refine cR_lift (fun _ _ kk => eE_bipush (v := 7) lk56_7 (by decide) kk) ?_
    refine cR_icmp (t := 38) lk56_9 (by decide) (fun c9 => ?_) (fun c9 => ?_)
    · rw [if_pos c9] at h
      refine cR_lift (fun _ _ kk => eE_iconst (v := 2) lk56_38 (by decide) kk) ?_
      refine cR_lift (fun _ _ kk => eE_iload_n lk56_39 g3 kk) ?_
      refine cR_lift (fun _ _ kk => eE_imul lk56_40 kk) ?_
      refine cR_lift (fun _ _ kk => eE_iload_n lk56_41 g1 kk) ?_
      obtain ⟨p10, h11, h⟩ := Option.bind_eq_some_iff.mp h
      refine cR_stat (as := [.int l1]) lk56_42 mr_7_68 na_398 rfl rfl (by first | exact Nat.le_of_ble_eq_true rfl | (simp [xcat, cvo_cat, cat_i, cat_j, cat_r]; done)) mm_398 ws_398 (k_Integer_bitCount_ok hp0 hL hF (d := d + 0)  h11) (fun m12 => ?_)
      refine cR_icmp (t := 52) lk56_45 (by decide) (fun c13 => ?_) (fun c13 => ?_)
      · rw [if_pos c13] at h
        refine cR_lift (fun _ _ kk => eE_iconst (v := 0) lk56_52 (by decide) kk) ?_
        exact k_Lead_isReached_7_5_b53_ok hp0 hL hF  g lv σ ((0 : Int32))  _ h
      · rw [if_neg c13] at h
        refine cR_lift (fun _ _ kk => eE_iconst (v := 1) lk56_48 (by decide) kk) ?_
        refine cR_lift (fun _ _ kk => eE_goto (t := 53) lk56_49 (by decide) kk) ?_
        exact k_Lead_isReached_7_5_b53_ok hp0 hL hF  g lv σ ((1 : Int32))  _ h
    · rw [if_neg c9] at h
      refine cR_lift (fun _ _ kk => eE_iload_n lk56_12 g1 kk) ?_
      refine cR_lift (fun _ _ kk => eE_iload lk56_13 g4 kk) ?_
      refine cR_lift (fun _ _ kk => eE_ishr lk56_15 kk) ?_
      refine cR_lift (fun _ _ kk => eE_iconst (v := 1) lk56_16 (by decide) kk) ?_
      refine cR_lift (fun _ _ kk => eE_iand lk56_17 kk) ?_
      refine cR_if (t := 32) lk56_18 (by decide) (fun c14 => ?_) (fun c14 => ?_)
      · rw [if_pos c14] at h
        exact k_Lead_isReached_7_5_b32_ok hp0 hL hF hKK g lv σ l0 l1 l2 l3 l4 bl0 g0 g1 g2 g3 g4 _ h
      · rw [if_neg c14] at h
        refine cR_lift (fun _ _ kk => eE_aload_n lk56_21 g0 kk) ?_
        refine cR_lift (fun _ _ kk => eE_iload lk56_22 g4 kk) ?_
        obtain ⟨x15, h16, h⟩ := Option.bind_eq_some_iff.mp h
        refine cR_iald (cl := 7) (i := l0) (f := 5) lk56_24 (by decide) rfl bl0 h16 ?_
        refine cR_lift (fun _ _ kk => eE_iload_n lk56_25 g2 kk) ?_
        refine cR_icmp (t := 32) lk56_26 (by decide) (fun c17 => ?_) (fun c17 => ?_)
        · rw [if_pos c17] at h
          exact k_Lead_isReached_7_5_b32_ok hp0 hL hF hKK g lv σ l0 l1 l2 l3 l4 bl0 g0 g1 g2 g3 g4 _ h
        · rw [if_neg c17] at h
          refine cR_inc (j := 3) (v := l3 + (1 : Int32)) lk56_29 g3 rfl (by decide) (fun vq18 gq19 kq20 => ?_)
          have gq21 := kq20 0 _ (by decide) (fun e => absurd e (by decide)) g0
          have gq22 := kq20 1 _ (by decide) (fun e => absurd e (by decide)) g1
          have gq23 := kq20 2 _ (by decide) (fun _ => rfl) g2
          have gq24 := kq20 4 _ (by decide) (fun e => absurd e (by decide)) g4
          exact k_Lead_isReached_7_5_b32_ok hp0 hL hF hKK g vq18 σ l0 l1 l2 (l3 + (1 : Int32)) l4 bl0 gq21 gq22 gq23 gq19 gq24 _ h
def k_Lead_isReached_7_5_b0 (F : Nat)  (σ : CS) (l0 : Nat) (l1 : Int32) (l2 : Int32) : Option (Int32) :=
  k_Lead_isReached_7_5_b5 F  F σ l0 l1 l2 ((0 : Int32)) ((0 : Int32))
set_option maxRecDepth 4000 in
theorem k_Lead_isReached_7_5_b0_ok {E : CE} {pF : Nat → List Value → xH → Option (Option Value × xH)} (hp0 : xNPc pF) (hL : lcAll pF) (hF : lcF pF) {d : Nat} {F : Nat}   : ∀ (g : CG) (lv : xL) (σ : CS) (l0 : Nat) (l1 : Int32) (l2 : Int32), (cob σ 7 l0) → (xg lv 0 = some (.ref (caa E 7 l0 5))) → (xg lv 1 = some (.int l1)) → (xg lv 2 = some (.int l2)) → ∀ res, k_Lead_isReached_7_5_b0 F  σ l0 l1 l2 = some res → cR E true pF (d + 1) kT56 7 5 (some FieldType.boolean) (some (.int res)) σ g σ (0, lv, []) := by
  intro g lv σ l0 l1 l2 bl0 g0 g1 g2 res h
  unfold k_Lead_isReached_7_5_b0 at h
  refine cR_lift (fun _ _ kk => eE_iconst (v := 0) lk56_0 (by decide) kk) ?_
  refine cR_stI (j := 3) lk56_1 (Or.inr ⟨_, rfl, rfl⟩) (by decide) (fun vq25 gq26 kq27 => ?_)
  have gq28 := kq27 0 _ (by decide) (fun e => absurd e (by decide)) g0
  have gq29 := kq27 1 _ (by decide) (fun e => absurd e (by decide)) g1
  have gq30 := kq27 2 _ (by decide) (fun _ => rfl) g2
  refine cR_lift (fun _ _ kk => eE_iconst (v := 0) lk56_2 (by decide) kk) ?_
  refine cR_stI (j := 4) lk56_3 (Or.inl rfl) (by decide) (fun vq31 gq32 kq33 => ?_)
  have gq34 := kq33 0 _ (by decide) (fun e => absurd e (by decide)) gq28
  have gq35 := kq33 1 _ (by decide) (fun e => absurd e (by decide)) gq29
  have gq36 := kq33 2 _ (by decide) (fun e => absurd e (by decide)) gq30
  have gq37 := kq33 3 _ (by decide) (fun _ => rfl) gq26
  exact k_Lead_isReached_7_5_b5_ok hp0 hL hF  F g vq31 σ l0 l1 l2 ((0 : Int32)) ((0 : Int32)) bl0 gq34 gq35 gq36 gq37 gq32 _ h
def k_Lead_isReached_7_5 (F : Nat) (σ : CS) (l0 : Nat) (l1 : Int32) (l2 : Int32) : Option (Int32) := k_Lead_isReached_7_5_b0 F σ l0 l1 l2
theorem k_Lead_isReached_7_5_ok {E : CE} {pF : Nat → List Value → xH → Option (Option Value × xH)} (hp0 : xNPc pF) (hL : lcAll pF) (hF : lcF pF) {d : Nat} {g : CG} {σ : CS} {F : Nat} {l0 : Nat} {l1 : Int32} {l2 : Int32} {res : Int32} (bl0 : cob σ 7 l0) (h : k_Lead_isReached_7_5 F σ l0 l1 l2 = some res) : cCo E true pF (d + 2) 56 [.ref (caa E 7 l0 5), .int l1, .int l2] (some (.int res)) σ g σ :=
  cCo_R kk_56 mo_56 ni_56 xm_56 (Nat.le_of_ble_eq_true rfl) (hp0 56 (by decide) _) (k_Lead_isReached_7_5_b0_ok hp0 hL hF g _ σ l0 l1 l2 bl0 rfl rfl rfl _ h)
/-! k_Lead_mostOf_7_5 (58), depth 3 -/
def k_Lead_mostOf_7_5_b41 (F : Nat) (K5 : CS → Nat → Int32 → Int32 → Int32 → Option (Int32)) (σ : CS) (l0 : Nat) (l1 : Int32) (l2 : Int32) (l3 : Int32) : Option (Int32) :=
  K5 σ l0 l1 l2 (l3 + (1 : Int32))
set_option maxRecDepth 4000 in
theorem k_Lead_mostOf_7_5_b41_ok {E : CE} {pF : Nat → List Value → xH → Option (Option Value × xH)} (hp0 : xNPc pF) (hL : lcAll pF) (hF : lcF pF) {d : Nat} {F : Nat} {K5 : CS → Nat → Int32 → Int32 → Int32 → Option (Int32)} (hK5 : ∀ (g : CG) (lv : xL) (σ : CS) (l0 : Nat) (l1 : Int32) (l2 : Int32) (l3 : Int32), (cob σ 7 l0) → (xg lv 0 = some (.ref (caa E 7 l0 5))) → (xg lv 1 = some (.int l1)) → (xg lv 2 = some (.int l2)) → (xg lv 3 = some (.int l3)) → ∀ res, K5 σ l0 l1 l2 l3 = some res → cR E true pF (d + 2) kT58 7 4 (some FieldType.int) (some (.int res)) σ g σ (5, lv, [])) : ∀ (g : CG) (lv : xL) (σ : CS) (l0 : Nat) (l1 : Int32) (l2 : Int32) (l3 : Int32), (cob σ 7 l0) → (xg lv 0 = some (.ref (caa E 7 l0 5))) → (xg lv 1 = some (.int l1)) → (xg lv 2 = some (.int l2)) → (xg lv 3 = some (.int l3)) → ∀ res, k_Lead_mostOf_7_5_b41 F K5 σ l0 l1 l2 l3 = some res → cR E true pF (d + 2) kT58 7 4 (some FieldType.int) (some (.int res)) σ g σ (41, lv, []) := by
  intro g lv σ l0 l1 l2 l3 bl0 g0 g1 g2 g3 res h
  unfold k_Lead_mostOf_7_5_b41 at h
  refine cR_inc (j := 3) (v := l3 + (1 : Int32)) lk58_41 g3 rfl (by decide) (fun vq1 gq2 kq3 => ?_)
  have gq4 := kq3 0 _ (by decide) (fun e => absurd e (by decide)) g0
  have gq5 := kq3 1 _ (by decide) (fun e => absurd e (by decide)) g1
  have gq6 := kq3 2 _ (by decide) (fun _ => rfl) g2
  refine cR_lift (fun _ _ kk => eE_goto (t := 5) lk58_44 (by decide) kk) ?_
  exact hK5 g vq1 σ l0 l1 l2 (l3 + (1 : Int32)) bl0 gq4 gq5 gq6 gq2 _ h
def k_Lead_mostOf_7_5_b5 (F : Nat)  : Nat → CS → Nat → Int32 → Int32 → Int32 → Option (Int32)
  | 0, _, _, _, _, _ => none
  | n + 1, σ, l0, l1, l2, l3 =>
    let KK := k_Lead_mostOf_7_5_b5 F  n
    if xc2 .ge l3 ((7 : Int32)) = true then (
      some l2
    ) else (
      if xc0 .eq ((l1 >>> (l3 &&& 31)) &&& ((1 : Int32))) = true then (
        k_Lead_mostOf_7_5_b41 F KK σ l0 l1 l2 l3
      ) else (
        (crd σ 7 l0 5 l3).bind fun x9 =>
        if xc2 .le x9 l2 = true then (
          k_Lead_mostOf_7_5_b41 F KK σ l0 l1 l2 l3
        ) else (
          (crd σ 7 l0 5 l3).bind fun x12 =>
          (k_Lead_isReached_7_5 F σ l0 l1 x12).bind fun p14 =>
          if xc0 .eq p14 = true then (
            k_Lead_mostOf_7_5_b41 F KK σ l0 l1 l2 l3
          ) else (
            (crd σ 7 l0 5 l3).bind fun x18 =>
            k_Lead_mostOf_7_5_b41 F KK σ l0 l1 x18 l3
          )
        )
      )
    )
set_option maxRecDepth 4000 in
theorem k_Lead_mostOf_7_5_b5_ok {E : CE} {pF : Nat → List Value → xH → Option (Option Value × xH)} (hp0 : xNPc pF) (hL : lcAll pF) (hF : lcF pF) {d : Nat} {F : Nat}   : ∀ (n : Nat) (g : CG) (lv : xL) (σ : CS) (l0 : Nat) (l1 : Int32) (l2 : Int32) (l3 : Int32), (cob σ 7 l0) → (xg lv 0 = some (.ref (caa E 7 l0 5))) → (xg lv 1 = some (.int l1)) → (xg lv 2 = some (.int l2)) → (xg lv 3 = some (.int l3)) → ∀ res, k_Lead_mostOf_7_5_b5 F  n σ l0 l1 l2 l3 = some res → cR E true pF (d + 2) kT58 7 4 (some FieldType.int) (some (.int res)) σ g σ (5, lv, []) := by
  intro n
  induction n with
  | zero => intro g lv σ l0 l1 l2 l3 bl0 g0 g1 g2 g3 res h; simp [k_Lead_mostOf_7_5_b5] at h
  | succ n hKK =>
    intro g lv σ l0 l1 l2 l3 bl0 g0 g1 g2 g3 res h
    unfold k_Lead_mostOf_7_5_b5 at h
    dsimp only at h
    refine cR_lift (fun _ _ kk => eE_iload_n lk58_5 g3 kk) ?_
    refine cR_lift (fun _ _ kk => eE_bipush (v := 7) lk58_6 (by decide) kk) ?_
    refine cR_icmp (t := 47) lk58_8 (by decide) (fun c7 => ?_) (fun c7 => ?_)
    · rw [if_pos c7] at h
      refine cR_lift (fun _ _ kk => eE_iload_n lk58_47 g2 kk) ?_
      cases h
      exact cR_end lk58_48 rfl rfl rfl
    · rw [if_neg c7] at h
      refine cR_lift (fun _ _ kk => eE_iload_n lk58_11 g1 kk) ?_
      refine cR_lift (fun _ _ kk => eE_iload_n lk58_12 g3 kk) ?_
      refine cR_lift (fun _ _ kk => eE_ishr lk58_13 kk) ?_
      refine cR_lift (fun _ _ kk => eE_iconst (v := 1) lk58_14 (by decide) kk) ?_
      refine cR_lift (fun _ _ kk => eE_iand lk58_15 kk) ?_
      refine cR_if (t := 41) lk58_16 (by decide) (fun c8 => ?_) (fun c8 => ?_)
      · rw [if_pos c8] at h
        exact k_Lead_mostOf_7_5_b41_ok hp0 hL hF hKK g lv σ l0 l1 l2 l3 bl0 g0 g1 g2 g3 _ h
      · rw [if_neg c8] at h
        refine cR_lift (fun _ _ kk => eE_aload_n lk58_19 g0 kk) ?_
        refine cR_lift (fun _ _ kk => eE_iload_n lk58_20 g3 kk) ?_
        obtain ⟨x9, h10, h⟩ := Option.bind_eq_some_iff.mp h
        refine cR_iald (cl := 7) (i := l0) (f := 5) lk58_21 (by decide) rfl bl0 h10 ?_
        refine cR_lift (fun _ _ kk => eE_iload_n lk58_22 g2 kk) ?_
        refine cR_icmp (t := 41) lk58_23 (by decide) (fun c11 => ?_) (fun c11 => ?_)
        · rw [if_pos c11] at h
          exact k_Lead_mostOf_7_5_b41_ok hp0 hL hF hKK g lv σ l0 l1 l2 l3 bl0 g0 g1 g2 g3 _ h
        · rw [if_neg c11] at h
          refine cR_lift (fun _ _ kk => eE_aload_n lk58_26 g0 kk) ?_
          refine cR_lift (fun _ _ kk => eE_iload_n lk58_27 g1 kk) ?_
          refine cR_lift (fun _ _ kk => eE_aload_n lk58_28 g0 kk) ?_
          refine cR_lift (fun _ _ kk => eE_iload_n lk58_29 g3 kk) ?_
          obtain ⟨x12, h13, h⟩ := Option.bind_eq_some_iff.mp h
          refine cR_iald (cl := 7) (i := l0) (f := 5) lk58_30 (by decide) rfl bl0 h13 ?_
          obtain ⟨p14, h15, h⟩ := Option.bind_eq_some_iff.mp h
          refine cR_stat (as := [.ref (caa E 7 l0 5), .int l1, .int x12]) lk58_31 mr_7_64 na_56 rfl rfl (by first | exact Nat.le_of_ble_eq_true rfl | (simp [xcat, cvo_cat, cat_i, cat_j, cat_r]; done)) mm_56 ws_56 (k_Lead_isReached_7_5_ok hp0 hL hF (d := d + 0) bl0 h15) (fun m16 => ?_)
          refine cR_if (t := 41) lk58_34 (by decide) (fun c17 => ?_) (fun c17 => ?_)
          · rw [if_pos c17] at h
            exact k_Lead_mostOf_7_5_b41_ok hp0 hL hF hKK g lv σ l0 l1 l2 l3 bl0 g0 g1 g2 g3 _ h
          · rw [if_neg c17] at h
            refine cR_lift (fun _ _ kk => eE_aload_n lk58_37 g0 kk) ?_
            refine cR_lift (fun _ _ kk => eE_iload_n lk58_38 g3 kk) ?_
            obtain ⟨x18, h19, h⟩ := Option.bind_eq_some_iff.mp h
            refine cR_iald (cl := 7) (i := l0) (f := 5) lk58_39 (by decide) rfl bl0 h19 ?_
            refine cR_stI (j := 2) lk58_40 (Or.inr ⟨_, rfl, rfl⟩) (by decide) (fun vq20 gq21 kq22 => ?_)
            have gq23 := kq22 0 _ (by decide) (fun e => absurd e (by decide)) g0
            have gq24 := kq22 1 _ (by decide) (fun _ => rfl) g1
            have gq25 := kq22 3 _ (by decide) (fun e => absurd e (by decide)) g3
            exact k_Lead_mostOf_7_5_b41_ok hp0 hL hF hKK g vq20 σ l0 l1 x18 l3 bl0 gq23 gq24 gq21 gq25 _ h
def k_Lead_mostOf_7_5_b0 (F : Nat)  (σ : CS) (l0 : Nat) (l1 : Int32) : Option (Int32) :=
  k_Lead_mostOf_7_5_b5 F  F σ l0 l1 ((-2147483648 : Int32)) ((0 : Int32))
set_option maxRecDepth 4000 in
theorem k_Lead_mostOf_7_5_b0_ok {E : CE} {pF : Nat → List Value → xH → Option (Option Value × xH)} (hp0 : xNPc pF) (hL : lcAll pF) (hF : lcF pF) {d : Nat} {F : Nat}   : ∀ (g : CG) (lv : xL) (σ : CS) (l0 : Nat) (l1 : Int32), (cob σ 7 l0) → (xg lv 0 = some (.ref (caa E 7 l0 5))) → (xg lv 1 = some (.int l1)) → ∀ res, k_Lead_mostOf_7_5_b0 F  σ l0 l1 = some res → cR E true pF (d + 2) kT58 7 4 (some FieldType.int) (some (.int res)) σ g σ (0, lv, []) := by
  intro g lv σ l0 l1 bl0 g0 g1 res h
  unfold k_Lead_mostOf_7_5_b0 at h
  refine cR_lift (fun _ _ kk => eE_ldc (v := (-2147483648)) lk58_0 xc_7_63 kk) ?_
  refine cR_stI (j := 2) lk58_2 (Or.inr ⟨_, rfl, rfl⟩) (by decide) (fun vq26 gq27 kq28 => ?_)
  have gq29 := kq28 0 _ (by decide) (fun e => absurd e (by decide)) g0
  have gq30 := kq28 1 _ (by decide) (fun _ => rfl) g1
  refine cR_lift (fun _ _ kk => eE_iconst (v := 0) lk58_3 (by decide) kk) ?_
  refine cR_stI (j := 3) lk58_4 (Or.inr ⟨_, rfl, rfl⟩) (by decide) (fun vq31 gq32 kq33 => ?_)
  have gq34 := kq33 0 _ (by decide) (fun e => absurd e (by decide)) gq29
  have gq35 := kq33 1 _ (by decide) (fun e => absurd e (by decide)) gq30
  have gq36 := kq33 2 _ (by decide) (fun _ => rfl) gq27
  exact k_Lead_mostOf_7_5_b5_ok hp0 hL hF  F g vq31 σ l0 l1 ((-2147483648 : Int32)) ((0 : Int32)) bl0 gq34 gq35 gq36 gq32 _ h
def k_Lead_mostOf_7_5 (F : Nat) (σ : CS) (l0 : Nat) (l1 : Int32) : Option (Int32) := k_Lead_mostOf_7_5_b0 F σ l0 l1
theorem k_Lead_mostOf_7_5_ok {E : CE} {pF : Nat → List Value → xH → Option (Option Value × xH)} (hp0 : xNPc pF) (hL : lcAll pF) (hF : lcF pF) {d : Nat} {g : CG} {σ : CS} {F : Nat} {l0 : Nat} {l1 : Int32} {res : Int32} (bl0 : cob σ 7 l0) (h : k_Lead_mostOf_7_5 F σ l0 l1 = some res) : cCo E true pF (d + 3) 58 [.ref (caa E 7 l0 5), .int l1] (some (.int res)) σ g σ :=
  cCo_R kk_58 mo_58 ni_58 xm_58 (Nat.le_of_ble_eq_true rfl) (hp0 58 (by decide) _) (k_Lead_mostOf_7_5_b0_ok hp0 hL hF g _ σ l0 l1 bl0 rfl rfl _ h)
/-! k_Lead_most_7_5 (57), depth 4 -/
def k_Lead_most_7_5_b34 (F : Nat)  (σ : CS) (s0 : Int32) : Option (Int32) :=
  some s0
set_option maxRecDepth 4000 in
theorem k_Lead_most_7_5_b34_ok {E : CE} {pF : Nat → List Value → xH → Option (Option Value × xH)} (hp0 : xNPc pF) (hL : lcAll pF) (hF : lcF pF) {d : Nat} {F : Nat}   : ∀ (g : CG) (lv : xL) (σ : CS) (s0 : Int32), ∀ res, k_Lead_most_7_5_b34 F  σ s0 = some res → cR E true pF (d + 3) kT57 7 4 (some FieldType.int) (some (.int res)) σ g σ (34, lv, [.int s0]) := by
  intro g lv σ s0 res h
  unfold k_Lead_most_7_5_b34 at h
  cases h
  exact cR_end lk57_34 rfl rfl rfl
def k_Lead_most_7_5_b0 (F : Nat)  (σ : CS) (l0 : Nat) (l1 : Int32) : Option (Int32) :=
  (k_Lead_mostOf_7_5 F σ l0 (l1 &&& ((127 : Int32)))).bind fun p1 =>
  if xc0 .ne ((l1 >>> (((7 : Int32)) &&& 31)) &&& ((127 : Int32))) = true then (
    (k_Lead_mostOf_7_5 F σ l0 ((l1 >>> (((7 : Int32)) &&& 31)) &&& ((127 : Int32)))).bind fun p15 =>
    k_Lead_most_7_5_b34 F  σ (cmin p1 p15)
  ) else (
    k_Lead_most_7_5_b34 F  σ p1
  )
set_option maxRecDepth 4000 in
theorem k_Lead_most_7_5_b0_ok {E : CE} {pF : Nat → List Value → xH → Option (Option Value × xH)} (hp0 : xNPc pF) (hL : lcAll pF) (hF : lcF pF) {d : Nat} {F : Nat}   : ∀ (g : CG) (lv : xL) (σ : CS) (l0 : Nat) (l1 : Int32), (cob σ 7 l0) → (xg lv 0 = some (.ref (caa E 7 l0 5))) → (xg lv 1 = some (.int l1)) → ∀ res, k_Lead_most_7_5_b0 F  σ l0 l1 = some res → cR E true pF (d + 3) kT57 7 4 (some FieldType.int) (some (.int res)) σ g σ (0, lv, []) := by
  intro g lv σ l0 l1 bl0 g0 g1 res h
  unfold k_Lead_most_7_5_b0 at h
  refine cR_lift (fun _ _ kk => eE_aload_n lk57_0 g0 kk) ?_
  refine cR_lift (fun _ _ kk => eE_iload_n lk57_1 g1 kk) ?_
  refine cR_lift (fun _ _ kk => eE_bipush (v := 127) lk57_2 (by decide) kk) ?_
  refine cR_lift (fun _ _ kk => eE_iand lk57_4 kk) ?_
  obtain ⟨p1, h2, h⟩ := Option.bind_eq_some_iff.mp h
  refine cR_stat (as := [.ref (caa E 7 l0 5), .int (l1 &&& ((127 : Int32)))]) lk57_5 mr_7_53 na_58 rfl rfl (by first | exact Nat.le_of_ble_eq_true rfl | (simp [xcat, cvo_cat, cat_i, cat_j, cat_r]; done)) mm_58 ws_58 (k_Lead_mostOf_7_5_ok hp0 hL hF (d := d + 0) bl0 h2) (fun m3 => ?_)
  refine cR_stI (j := 2) lk57_8 (Or.inr ⟨_, rfl, rfl⟩) (by decide) (fun vq4 gq5 kq6 => ?_)
  have gq7 := kq6 0 _ (by decide) (fun e => absurd e (by decide)) g0
  have gq8 := kq6 1 _ (by decide) (fun _ => rfl) g1
  refine cR_lift (fun _ _ kk => eE_iload_n lk57_9 gq8 kk) ?_
  refine cR_lift (fun _ _ kk => eE_bipush (v := 7) lk57_10 (by decide) kk) ?_
  refine cR_lift (fun _ _ kk => eE_ishr lk57_12 kk) ?_
  refine cR_lift (fun _ _ kk => eE_bipush (v := 127) lk57_13 (by decide) kk) ?_
  refine cR_lift (fun _ _ kk => eE_iand lk57_15 kk) ?_
  refine cR_stI (j := 3) lk57_16 (Or.inr ⟨_, rfl, rfl⟩) (by decide) (fun vq9 gq10 kq11 => ?_)
  have gq12 := kq11 0 _ (by decide) (fun e => absurd e (by decide)) gq7
  have gq13 := kq11 2 _ (by decide) (fun _ => rfl) gq5
  refine cR_lift (fun _ _ kk => eE_iload_n lk57_17 gq10 kk) ?_
  refine cR_if (t := 25) lk57_18 (by decide) (fun c14 => ?_) (fun c14 => ?_)
  · rw [if_pos c14] at h
    refine cR_lift (fun _ _ kk => eE_iload_n lk57_25 gq13 kk) ?_
    refine cR_lift (fun _ _ kk => eE_aload_n lk57_26 gq12 kk) ?_
    refine cR_lift (fun _ _ kk => eE_iload_n lk57_27 gq10 kk) ?_
    obtain ⟨p15, h16, h⟩ := Option.bind_eq_some_iff.mp h
    refine cR_stat (as := [.ref (caa E 7 l0 5), .int ((l1 >>> (((7 : Int32)) &&& 31)) &&& ((127 : Int32)))]) lk57_28 mr_7_53 na_58 rfl rfl (by first | exact Nat.le_of_ble_eq_true rfl | (simp [xcat, cvo_cat, cat_i, cat_j, cat_r]; done)) mm_58 ws_58 (k_Lead_mostOf_7_5_ok hp0 hL hF (d := d + 0) bl0 h16) (fun m17 => ?_)
    refine cR_min lk57_31 mr_7_57 (by first | exact Nat.le_of_ble_eq_true rfl | (simp [xcat, cvo_cat, cat_i, cat_j, cat_r]; done)) ?_
    exact k_Lead_most_7_5_b34_ok hp0 hL hF  g vq9 σ (cmin p1 p15)  _ h
  · rw [if_neg c14] at h
    refine cR_lift (fun _ _ kk => eE_iload_n lk57_21 gq13 kk) ?_
    refine cR_lift (fun _ _ kk => eE_goto (t := 34) lk57_22 (by decide) kk) ?_
    exact k_Lead_most_7_5_b34_ok hp0 hL hF  g vq9 σ p1  _ h
def k_Lead_most_7_5 (F : Nat) (σ : CS) (l0 : Nat) (l1 : Int32) : Option (Int32) := k_Lead_most_7_5_b0 F σ l0 l1
theorem k_Lead_most_7_5_ok {E : CE} {pF : Nat → List Value → xH → Option (Option Value × xH)} (hp0 : xNPc pF) (hL : lcAll pF) (hF : lcF pF) {d : Nat} {g : CG} {σ : CS} {F : Nat} {l0 : Nat} {l1 : Int32} {res : Int32} (bl0 : cob σ 7 l0) (h : k_Lead_most_7_5 F σ l0 l1 = some res) : cCo E true pF (d + 4) 57 [.ref (caa E 7 l0 5), .int l1] (some (.int res)) σ g σ :=
  cCo_R kk_57 mo_57 ni_57 xm_57 (Nat.le_of_ble_eq_true rfl) (hp0 57 (by decide) _) (k_Lead_most_7_5_b0_ok hp0 hL hF g _ σ l0 l1 bl0 rfl rfl _ h)
/-! k_World_hasLetter (193), depth 9 -/
def k_World_hasLetter_b20  (σ : CS) (s0 : Int32) : Option (Int32) :=
  if s0 = 0 ∨ s0 = 1 then some s0 else none
set_option maxRecDepth 4000 in
theorem k_World_hasLetter_b20_ok {E : CE} {pF : Nat → List Value → xH → Option (Option Value × xH)} (hp0 : xNPc pF) (hL : lcAll pF) (hF : lcF pF) {d : Nat}   : ∀ (g : CG) (lv : xL) (σ : CS) (s0 : Int32), ∀ res, k_World_hasLetter_b20  σ s0 = some res → cR E true pF (d + 8) kT193 14 2 (some FieldType.boolean) (some (.int res)) σ g σ (20, lv, [.int s0]) := by
  intro g lv σ s0 res h
  unfold k_World_hasLetter_b20 at h
  by_cases z1 : s0 = 0 ∨ s0 = 1
  · rw [if_pos z1] at h; cases h
    exact cR_end lk193_20 rfl rfl (by first | (simp only [xfin, if_true, if_pos z1]; done) | simp [xfin, z1])
  · rw [if_neg z1] at h; cases h
def k_World_hasLetter_b19  (σ : CS) : Option (Int32) :=
  k_World_hasLetter_b20  σ ((0 : Int32))
set_option maxRecDepth 4000 in
theorem k_World_hasLetter_b19_ok {E : CE} {pF : Nat → List Value → xH → Option (Option Value × xH)} (hp0 : xNPc pF) (hL : lcAll pF) (hF : lcF pF) {d : Nat}   : ∀ (g : CG) (lv : xL) (σ : CS), ∀ res, k_World_hasLetter_b19  σ = some res → cR E true pF (d + 8) kT193 14 2 (some FieldType.boolean) (some (.int res)) σ g σ (19, lv, []) := by
  intro g lv σ res h
  unfold k_World_hasLetter_b19 at h
  refine cR_lift (fun _ _ kk => eE_iconst (v := 0) lk193_19 (by decide) kk) ?_
  exact k_World_hasLetter_b20_ok hp0 hL hF  g lv σ ((0 : Int32))  _ h
def k_World_hasLetter_b0  (σ : CS) (l0 : Nat) (l1 : Int32) : Option (Int32) :=
  if xc0 .lt l1 = true then (
    k_World_hasLetter_b19  σ
  ) else (
    if xc2 .ge l1 (clsz σ 14 l0 15) = true then (
      k_World_hasLetter_b19  σ
    ) else (
      k_World_hasLetter_b20  σ ((1 : Int32))
    )
  )
set_option maxRecDepth 4000 in
theorem k_World_hasLetter_b0_ok {E : CE} {pF : Nat → List Value → xH → Option (Option Value × xH)} (hp0 : xNPc pF) (hL : lcAll pF) (hF : lcF pF) {d : Nat}   : ∀ (g : CG) (lv : xL) (σ : CS) (l0 : Nat) (l1 : Int32), (cob σ 14 l0) → (xg lv 0 = some (.ref (coa E 14 l0))) → (xg lv 1 = some (.int l1)) → ∀ res, k_World_hasLetter_b0  σ l0 l1 = some res → cR E true pF (d + 8) kT193 14 2 (some FieldType.boolean) (some (.int res)) σ g σ (0, lv, []) := by
  intro g lv σ l0 l1 bl0 g0 g1 res h
  unfold k_World_hasLetter_b0 at h
  refine cR_lift (fun _ _ kk => eE_iload_n lk193_0 g1 kk) ?_
  refine cR_if (t := 19) lk193_1 (by decide) (fun c2 => ?_) (fun c2 => ?_)
  · rw [if_pos c2] at h
    exact k_World_hasLetter_b19_ok hp0 hL hF  g lv σ  _ h
  · rw [if_neg c2] at h
    refine cR_lift (fun _ _ kk => eE_iload_n lk193_4 g1 kk) ?_
    refine cR_lift (fun _ _ kk => eE_aload_n lk193_5 g0 kk) ?_
    refine cR_getA lk193_6 rf_14_31 (by decide) bl0 ?_
    refine cR_virtL (cl := 14) (i := l0) (f := 15) (as := []) lk193_9 mr_14_55 na_14 rfl rfl (by first | exact Nat.le_of_ble_eq_true rfl | (simp [xcat, cvo_cat, cat_i, cat_j, cat_r]; done)) wv_14 wc_14 rfl bl0 ((hL (d + 0)).1 E g _ 14 l0 15 rfl bl0) (fun _ => ?_)
    refine cR_icmp (t := 19) lk193_12 (by decide) (fun c3 => ?_) (fun c3 => ?_)
    · rw [if_pos c3] at h
      exact k_World_hasLetter_b19_ok hp0 hL hF  g lv σ  _ h
    · rw [if_neg c3] at h
      refine cR_lift (fun _ _ kk => eE_iconst (v := 1) lk193_15 (by decide) kk) ?_
      refine cR_lift (fun _ _ kk => eE_goto (t := 20) lk193_16 (by decide) kk) ?_
      exact k_World_hasLetter_b20_ok hp0 hL hF  g lv σ ((1 : Int32))  _ h
def k_World_hasLetter (σ : CS) (l0 : Nat) (l1 : Int32) : Option (Int32) := k_World_hasLetter_b0 σ l0 l1
theorem k_World_hasLetter_ok {E : CE} {pF : Nat → List Value → xH → Option (Option Value × xH)} (hp0 : xNPc pF) (hL : lcAll pF) (hF : lcF pF) {d : Nat} {g : CG} {σ : CS} {l0 : Nat} {l1 : Int32} {res : Int32} (bl0 : cob σ 14 l0) (h : k_World_hasLetter σ l0 l1 = some res) : cCo E true pF (d + 9) 193 [.ref (coa E 14 l0), .int l1] (some (.int res)) σ g σ :=
  cCo_R kk_193 mo_193 ni_193 xm_193 (Nat.le_of_ble_eq_true rfl) (hp0 193 (by decide) _) (k_World_hasLetter_b0_ok hp0 hL hF g _ σ l0 l1 bl0 rfl rfl _ h)
/-! k_World_deferLetter (186), depth 10 -/
def k_World_deferLetter_b41 (F : Nat)  (σ : CS) : Option (CS) :=
  some σ
set_option maxRecDepth 4000 in
theorem k_World_deferLetter_b41_ok {E : CE} {pF : Nat → List Value → xH → Option (Option Value × xH)} (hp0 : xNPc pF) (hL : lcAll pF) (hF : lcF pF) {d : Nat} {F : Nat}   : ∀ (g : CG) (lv : xL) (σ : CS), ∀ res, k_World_deferLetter_b41 F  σ = some res → cR E false pF (d + 9) kT186 14 4 none none res g σ (41, lv, []) := by
  intro g lv σ res h
  unfold k_World_deferLetter_b41 at h
  cases h
  exact cR_end lk186_41 rfl rfl rfl
def k_World_deferLetter_b0 (F : Nat)  (σ : CS) (l0 : Nat) (l1 : Int32) (l2 : Int32) : Option (CS) :=
  (k_World_hasLetter σ l0 l1).bind fun p1 =>
  if xc0 .eq p1 = true then (
    k_World_deferLetter_b41 F  σ
  ) else (
    (clrem σ 14 l0 15 l1).bind fun p6 =>
    (some (csI p6.2 14 l0 3 0 ((cI p6.2 14 l0 3 0) - ((1 : Int32))))).bind fun σ13 =>
    (k_World_launch F σ13 l0 p6.1 ((cI σ13 8 p6.1 0 0) + l2)).bind fun p15 =>
    k_World_deferLetter_b41 F  p15
  )
set_option maxRecDepth 4000 in
theorem k_World_deferLetter_b0_ok {E : CE} {pF : Nat → List Value → xH → Option (Option Value × xH)} (hp0 : xNPc pF) (hL : lcAll pF) (hF : lcF pF) {d : Nat} {F : Nat}   : ∀ (g : CG) (lv : xL) (σ : CS) (l0 : Nat) (l1 : Int32) (l2 : Int32), (cob σ 14 l0) → (xg lv 0 = some (.ref (coa E 14 l0))) → (xg lv 1 = some (.int l1)) → (xg lv 2 = some (.int l2)) → ∀ res, k_World_deferLetter_b0 F  σ l0 l1 l2 = some res → cR E false pF (d + 9) kT186 14 4 none none res g σ (0, lv, []) := by
  intro g lv σ l0 l1 l2 bl0 g0 g1 g2 res h
  unfold k_World_deferLetter_b0 at h
  refine cR_lift (fun _ _ kk => eE_aload_n lk186_0 g0 kk) ?_
  refine cR_lift (fun _ _ kk => eE_iload_n lk186_1 g1 kk) ?_
  obtain ⟨p1, h2, h⟩ := Option.bind_eq_some_iff.mp h
  refine cR_virt (cl := 14) (i := l0) (as := [.int l1]) lk186_2 mr_14_133 na_193 rfl rfl (by first | exact Nat.le_of_ble_eq_true rfl | (simp [xcat, cvo_cat, cat_i, cat_j, cat_r]; done)) wv_193 wc_193 bl0 (k_World_hasLetter_ok hp0 hL hF (d := d + 0) bl0 h2) (fun m3  => ?_)
  refine cR_if (t := 41) lk186_5 (by decide) (fun c4 => ?_) (fun c4 => ?_)
  · rw [if_pos c4] at h
    exact k_World_deferLetter_b41_ok hp0 hL hF  g lv σ  _ h
  · rw [if_neg c4] at h
    refine cR_lift (fun _ _ kk => eE_aload_n lk186_8 g0 kk) ?_
    refine cR_getA lk186_9 rf_14_31 (by decide) bl0 ?_
    refine cR_lift (fun _ _ kk => eE_iload_n lk186_12 g1 kk) ?_
    obtain ⟨p6, h7, h⟩ := Option.bind_eq_some_iff.mp h
    refine cR_rep (fun _ hc => clrem_lt hc h7) (fun b5 => ?_)
    refine cR_virtL (cl := 14) (i := l0) (f := 15) (c1 := p6.2) (r := some (.ref p6.1)) (as := [.int l1]) lk186_13 mr_14_59 na_13 rfl rfl (by first | exact Nat.le_of_ble_eq_true rfl | (simp [xcat, cvo_cat, cat_i, cat_j, cat_r]; done)) wv_13 wc_13 rfl bl0 ((hL (d + 1)).2.2.2.2.2.1 E g _ 14 l0 15 _ p6.1 p6.2 rfl bl0 h7) (fun _ => ?_)
    refine cR_cast lk186_16 xk_14_52 b5 ?_
    refine cR_stA (j := 3) lk186_19 (Or.inr ⟨_, rfl, rfl⟩) (by decide) (fun vq8 gq9 kq10 => ?_)
    have gq11 := kq10 0 _ (by decide) (fun e => absurd e (by decide)) g0
    have gq12 := kq10 2 _ (by decide) (fun _ => rfl) g2
    refine cR_lift (fun _ _ kk => eE_aload_n lk186_20 gq11 kk) ?_
    refine cR_lift (fun _ _ kk => eE_dup lk186_21 rfl kk) ?_
    refine cR_getI lk186_22 rf_14_124 rfl (cob_any rfl bl0) ?_
    refine cR_lift (fun _ _ kk => eE_iconst (v := 1) lk186_25 (by decide) kk) ?_
    refine cR_lift (fun _ _ kk => eE_isub lk186_26 kk) ?_
    obtain ⟨σ13, h14, h⟩ := Option.bind_eq_some_iff.mp h
    refine cR_putI lk186_27 rf_14_124 rfl (cob_any rfl bl0) pf_14_3 rfl h14 ?_
    refine cR_lift (fun _ _ kk => eE_aload_n lk186_30 gq11 kk) ?_
    refine cR_lift (fun _ _ kk => eE_aload_n lk186_31 gq9 kk) ?_
    refine cR_lift (fun _ _ kk => eE_aload_n lk186_32 gq9 kk) ?_
    refine cR_getI lk186_33 rf_14_115 rfl (cob_mon (cput_mon h14) b5) ?_
    refine cR_lift (fun _ _ kk => eE_iload_n lk186_36 gq12 kk) ?_
    refine cR_lift (fun _ _ kk => eE_iadd lk186_37 kk) ?_
    obtain ⟨p15, h16, h⟩ := Option.bind_eq_some_iff.mp h
    refine cR_virtG (cl := 14) (i := l0) (as := [.ref (coa E 8 p6.1), .int ((cI σ13 8 p6.1 0 0) + l2)]) lk186_38 mr_14_89 na_197 rfl rfl (by first | exact Nat.le_of_ble_eq_true rfl | (simp [xcat, cvo_cat, cat_i, cat_j, cat_r]; done)) wv_197 wc_197 (cob_any rfl bl0) (k_World_launch_ok hp0 hL hF (d := d + 0) (cob_any rfl bl0) (cob_mon (cput_mon h14) b5) h16) (fun m17 g_18 => ?_)
    exact k_World_deferLetter_b41_ok hp0 hL hF  g_18 vq8 p15  _ h
def k_World_deferLetter (F : Nat) (σ : CS) (l0 : Nat) (l1 : Int32) (l2 : Int32) : Option (CS) := k_World_deferLetter_b0 F σ l0 l1 l2
theorem k_World_deferLetter_ok {E : CE} {pF : Nat → List Value → xH → Option (Option Value × xH)} (hp0 : xNPc pF) (hL : lcAll pF) (hF : lcF pF) {d : Nat} {g : CG} {σ : CS} {F : Nat} {l0 : Nat} {l1 : Int32} {l2 : Int32} {res : CS} (bl0 : cob σ 14 l0) (h : k_World_deferLetter F σ l0 l1 l2 = some res) : cCo E false pF (d + 10) 186 [.ref (coa E 14 l0), .int l1, .int l2] none res g σ :=
  cCo_R kk_186 mo_186 ni_186 xm_186 (Nat.le_of_ble_eq_true rfl) (hp0 186 (by decide) _) (k_World_deferLetter_b0_ok hp0 hL hF g _ σ l0 l1 l2 bl0 rfl rfl rfl _ h)
/-! k_World_doubleLetter (187), depth 10 -/
def k_World_doubleLetter_b57 (F : Nat)  (σ : CS) : Option (CS) :=
  some σ
set_option maxRecDepth 4000 in
theorem k_World_doubleLetter_b57_ok {E : CE} {pF : Nat → List Value → xH → Option (Option Value × xH)} (hp0 : xNPc pF) (hL : lcAll pF) (hF : lcF pF) {d : Nat} {F : Nat}   : ∀ (g : CG) (lv : xL) (σ : CS), ∀ res, k_World_doubleLetter_b57 F  σ = some res → cR E false pF (d + 9) kT187 14 4 none none res g σ (57, lv, []) := by
  intro g lv σ res h
  unfold k_World_doubleLetter_b57 at h
  cases h
  exact cR_end lk187_57 rfl rfl rfl
def k_World_doubleLetter_b0 (F : Nat)  (σ : CS) (l0 : Nat) (l1 : Int32) : Option (CS) :=
  (k_World_hasLetter σ l0 l1).bind fun p1 =>
  if xc0 .eq p1 = true then (
    k_World_doubleLetter_b57 F  σ
  ) else (
    (clget σ 14 l0 15 l1).bind fun a6 =>
    (k_World_blank σ l0).bind fun p12 =>
    (k_Letter_copyFrom p12.2 p12.1 a6).bind fun p22 =>
    (crd p22 14 l0 12 (((cI p22 8 a6 2 0) * ((16 : Int32))) + (cI p22 8 a6 3 0))).bind fun x25 =>
    (k_World_launch F p22 l0 p12.1 ((cI p22 14 l0 0 0) + x25)).bind fun p27 =>
    k_World_doubleLetter_b57 F  p27
  )
set_option maxRecDepth 4000 in
theorem k_World_doubleLetter_b0_ok {E : CE} {pF : Nat → List Value → xH → Option (Option Value × xH)} (hp0 : xNPc pF) (hL : lcAll pF) (hF : lcF pF) {d : Nat} {F : Nat}   : ∀ (g : CG) (lv : xL) (σ : CS) (l0 : Nat) (l1 : Int32), (cob σ 14 l0) → (xg lv 0 = some (.ref (coa E 14 l0))) → (xg lv 1 = some (.int l1)) → ∀ res, k_World_doubleLetter_b0 F  σ l0 l1 = some res → cR E false pF (d + 9) kT187 14 4 none none res g σ (0, lv, []) := by
  intro g lv σ l0 l1 bl0 g0 g1 res h
  unfold k_World_doubleLetter_b0 at h
  refine cR_lift (fun _ _ kk => eE_aload_n lk187_0 g0 kk) ?_
  refine cR_lift (fun _ _ kk => eE_iload_n lk187_1 g1 kk) ?_
  obtain ⟨p1, h2, h⟩ := Option.bind_eq_some_iff.mp h
  refine cR_virt (cl := 14) (i := l0) (as := [.int l1]) lk187_2 mr_14_133 na_193 rfl rfl (by first | exact Nat.le_of_ble_eq_true rfl | (simp [xcat, cvo_cat, cat_i, cat_j, cat_r]; done)) wv_193 wc_193 bl0 (k_World_hasLetter_ok hp0 hL hF (d := d + 0) bl0 h2) (fun m3  => ?_)
  refine cR_if (t := 57) lk187_5 (by decide) (fun c4 => ?_) (fun c4 => ?_)
  · rw [if_pos c4] at h
    exact k_World_doubleLetter_b57_ok hp0 hL hF  g lv σ  _ h
  · rw [if_neg c4] at h
    refine cR_lift (fun _ _ kk => eE_aload_n lk187_8 g0 kk) ?_
    refine cR_getA lk187_9 rf_14_31 (by decide) bl0 ?_
    refine cR_lift (fun _ _ kk => eE_iload_n lk187_12 g1 kk) ?_
    obtain ⟨a6, h7, h⟩ := Option.bind_eq_some_iff.mp h
    refine cR_rep (fun _ hc => cob8 (clget_lt hc h7)) (fun b5 => ?_)
    refine cR_virtL (cl := 14) (i := l0) (f := 15) (as := [.int l1]) lk187_13 mr_14_127 na_6 rfl rfl (by first | exact Nat.le_of_ble_eq_true rfl | (simp [xcat, cvo_cat, cat_i, cat_j, cat_r]; done)) wv_6 wc_6 rfl bl0 ((hL (d + 1)).2.2.1 E g _ 14 l0 15 _ _ rfl bl0 h7) (fun _ => ?_)
    refine cR_cast lk187_16 xk_14_52 b5 ?_
    refine cR_stA (j := 2) lk187_19 (Or.inr ⟨_, rfl, rfl⟩) (by decide) (fun vq8 gq9 kq10 => ?_)
    have gq11 := kq10 0 _ (by decide) (fun e => absurd e (by decide)) g0
    refine cR_lift (fun _ _ kk => eE_aload_n lk187_20 gq11 kk) ?_
    obtain ⟨p12, h13, h⟩ := Option.bind_eq_some_iff.mp h
    refine cR_rep (fun _ hc => k_World_blank_lt hc bl0 h13) (fun b14 => ?_)
    refine cR_virtG (cl := 14) (i := l0) (as := []) lk187_21 mr_14_137 na_185 rfl rfl (by first | exact Nat.le_of_ble_eq_true rfl | (simp [xcat, cvo_cat, cat_i, cat_j, cat_r]; done)) wv_185 wc_185 bl0 (k_World_blank_ok hp0 hL hF (d := d + 0) bl0 h13) (fun m15 g_16 => ?_)
    refine cR_stA (j := 3) lk187_24 (Or.inr ⟨_, rfl, rfl⟩) (by decide) (fun vq17 gq18 kq19 => ?_)
    have gq20 := kq19 0 _ (by decide) (fun e => absurd e (by decide)) gq11
    have gq21 := kq19 2 _ (by decide) (fun _ => rfl) gq9
    refine cR_lift (fun _ _ kk => eE_aload_n lk187_25 gq18 kk) ?_
    refine cR_lift (fun _ _ kk => eE_aload_n lk187_26 gq21 kk) ?_
    obtain ⟨p22, h23, h⟩ := Option.bind_eq_some_iff.mp h
    refine cR_virt (cl := 8) (i := p12.1) (as := [.ref (coa E 8 a6)]) lk187_27 mr_14_97 na_59 rfl rfl (by first | exact Nat.le_of_ble_eq_true rfl | (simp [xcat, cvo_cat, cat_i, cat_j, cat_r]; done)) wv_59 wc_59 b14 (k_Letter_copyFrom_ok hp0 hL hF (d := d + 8) b14 (cob_mon m15 b5) h23) (fun m24  => ?_)
    refine cR_lift (fun _ _ kk => eE_aload_n lk187_30 gq20 kk) ?_
    refine cR_lift (fun _ _ kk => eE_aload_n lk187_31 gq18 kk) ?_
    refine cR_lift (fun _ _ kk => eE_aload_n lk187_32 gq20 kk) ?_
    refine cR_getI lk187_33 rf_14_77 rfl (cob_any rfl bl0) ?_
    refine cR_lift (fun _ _ kk => eE_aload_n lk187_36 gq20 kk) ?_
    refine cR_getA lk187_37 rf_14_18 (by decide) (cob_any rfl bl0) ?_
    refine cR_lift (fun _ _ kk => eE_aload_n lk187_40 gq21 kk) ?_
    refine cR_getI lk187_41 rf_14_63 rfl (cob_mon m24 (cob_mon m15 b5)) ?_
    refine cR_lift (fun _ _ kk => eE_bipush (v := 16) lk187_44 (by decide) kk) ?_
    refine cR_lift (fun _ _ kk => eE_imul lk187_46 kk) ?_
    refine cR_lift (fun _ _ kk => eE_aload_n lk187_47 gq21 kk) ?_
    refine cR_getI lk187_48 rf_14_66 rfl (cob_mon m24 (cob_mon m15 b5)) ?_
    refine cR_lift (fun _ _ kk => eE_iadd lk187_51 kk) ?_
    obtain ⟨x25, h26, h⟩ := Option.bind_eq_some_iff.mp h
    refine cR_iald (cl := 14) (i := l0) (f := 12) lk187_52 (by decide) rfl (cob_any rfl bl0) h26 ?_
    refine cR_lift (fun _ _ kk => eE_iadd lk187_53 kk) ?_
    obtain ⟨p27, h28, h⟩ := Option.bind_eq_some_iff.mp h
    refine cR_virtG (cl := 14) (i := l0) (as := [.ref (coa E 8 p12.1), .int ((cI p22 14 l0 0 0) + x25)]) lk187_54 mr_14_89 na_197 rfl rfl (by first | exact Nat.le_of_ble_eq_true rfl | (simp [xcat, cvo_cat, cat_i, cat_j, cat_r]; done)) wv_197 wc_197 (cob_any rfl bl0) (k_World_launch_ok hp0 hL hF (d := d + 0) (cob_any rfl bl0) (cob_mon m24 b14) h28) (fun m29 g_30 => ?_)
    exact k_World_doubleLetter_b57_ok hp0 hL hF  g_30 vq17 p27  _ h
def k_World_doubleLetter (F : Nat) (σ : CS) (l0 : Nat) (l1 : Int32) : Option (CS) := k_World_doubleLetter_b0 F σ l0 l1
theorem k_World_doubleLetter_ok {E : CE} {pF : Nat → List Value → xH → Option (Option Value × xH)} (hp0 : xNPc pF) (hL : lcAll pF) (hF : lcF pF) {d : Nat} {g : CG} {σ : CS} {F : Nat} {l0 : Nat} {l1 : Int32} {res : CS} (bl0 : cob σ 14 l0) (h : k_World_doubleLetter F σ l0 l1 = some res) : cCo E false pF (d + 10) 187 [.ref (coa E 14 l0), .int l1] none res g σ :=
  cCo_R kk_187 mo_187 ni_187 xm_187 (Nat.le_of_ble_eq_true rfl) (hp0 187 (by decide) _) (k_World_doubleLetter_b0_ok hp0 hL hF g _ σ l0 l1 bl0 rfl rfl _ h)
/-! k_World_dropLetter (190), depth 10 -/
def k_World_dropLetter_b23  (σ : CS) : Option (CS) :=
  some σ
set_option maxRecDepth 4000 in
theorem k_World_dropLetter_b23_ok {E : CE} {pF : Nat → List Value → xH → Option (Option Value × xH)} (hp0 : xNPc pF) (hL : lcAll pF) (hF : lcF pF) {d : Nat}   : ∀ (g : CG) (lv : xL) (σ : CS), ∀ res, k_World_dropLetter_b23  σ = some res → cR E false pF (d + 9) kT190 14 2 none none res g σ (23, lv, []) := by
  intro g lv σ res h
  unfold k_World_dropLetter_b23 at h
  cases h
  exact cR_end lk190_23 rfl rfl rfl
def k_World_dropLetter_b0  (σ : CS) (l0 : Nat) (l1 : Int32) : Option (CS) :=
  (k_World_hasLetter σ l0 l1).bind fun p1 =>
  if xc0 .eq p1 = true then (
    k_World_dropLetter_b23  σ
  ) else (
    (clrem σ 14 l0 15 l1).bind fun p6 =>
    (k_World_lose p6.2 l0 p6.1).bind fun p8 =>
    k_World_dropLetter_b23  p8
  )
set_option maxRecDepth 4000 in
theorem k_World_dropLetter_b0_ok {E : CE} {pF : Nat → List Value → xH → Option (Option Value × xH)} (hp0 : xNPc pF) (hL : lcAll pF) (hF : lcF pF) {d : Nat}   : ∀ (g : CG) (lv : xL) (σ : CS) (l0 : Nat) (l1 : Int32), (cob σ 14 l0) → (xg lv 0 = some (.ref (coa E 14 l0))) → (xg lv 1 = some (.int l1)) → ∀ res, k_World_dropLetter_b0  σ l0 l1 = some res → cR E false pF (d + 9) kT190 14 2 none none res g σ (0, lv, []) := by
  intro g lv σ l0 l1 bl0 g0 g1 res h
  unfold k_World_dropLetter_b0 at h
  refine cR_lift (fun _ _ kk => eE_aload_n lk190_0 g0 kk) ?_
  refine cR_lift (fun _ _ kk => eE_iload_n lk190_1 g1 kk) ?_
  obtain ⟨p1, h2, h⟩ := Option.bind_eq_some_iff.mp h
  refine cR_virt (cl := 14) (i := l0) (as := [.int l1]) lk190_2 mr_14_133 na_193 rfl rfl (by first | exact Nat.le_of_ble_eq_true rfl | (simp [xcat, cvo_cat, cat_i, cat_j, cat_r]; done)) wv_193 wc_193 bl0 (k_World_hasLetter_ok hp0 hL hF (d := d + 0) bl0 h2) (fun m3  => ?_)
  refine cR_if (t := 23) lk190_5 (by decide) (fun c4 => ?_) (fun c4 => ?_)
  · rw [if_pos c4] at h
    exact k_World_dropLetter_b23_ok hp0 hL hF  g lv σ  _ h
  · rw [if_neg c4] at h
    refine cR_lift (fun _ _ kk => eE_aload_n lk190_8 g0 kk) ?_
    refine cR_lift (fun _ _ kk => eE_aload_n lk190_9 g0 kk) ?_
    refine cR_getA lk190_10 rf_14_31 (by decide) bl0 ?_
    refine cR_lift (fun _ _ kk => eE_iload_n lk190_13 g1 kk) ?_
    obtain ⟨p6, h7, h⟩ := Option.bind_eq_some_iff.mp h
    refine cR_rep (fun _ hc => clrem_lt hc h7) (fun b5 => ?_)
    refine cR_virtL (cl := 14) (i := l0) (f := 15) (c1 := p6.2) (r := some (.ref p6.1)) (as := [.int l1]) lk190_14 mr_14_59 na_13 rfl rfl (by first | exact Nat.le_of_ble_eq_true rfl | (simp [xcat, cvo_cat, cat_i, cat_j, cat_r]; done)) wv_13 wc_13 rfl bl0 ((hL (d + 1)).2.2.2.2.2.1 E g _ 14 l0 15 _ p6.1 p6.2 rfl bl0 h7) (fun _ => ?_)
    refine cR_cast lk190_17 xk_14_52 b5 ?_
    obtain ⟨p8, h9, h⟩ := Option.bind_eq_some_iff.mp h
    refine cR_virtG (cl := 14) (i := l0) (as := [.ref (coa E 8 p6.1)]) lk190_20 mr_14_73 na_198 rfl rfl (by first | exact Nat.le_of_ble_eq_true rfl | (simp [xcat, cvo_cat, cat_i, cat_j, cat_r]; done)) wv_198 wc_198 (cob_any rfl bl0) (k_World_lose_ok hp0 hL hF (d := d + 0) (cob_any rfl bl0) b5 h9) (fun m10 g_11 => ?_)
    exact k_World_dropLetter_b23_ok hp0 hL hF  g_11 lv p8  _ h
def k_World_dropLetter (σ : CS) (l0 : Nat) (l1 : Int32) : Option (CS) := k_World_dropLetter_b0 σ l0 l1
theorem k_World_dropLetter_ok {E : CE} {pF : Nat → List Value → xH → Option (Option Value × xH)} (hp0 : xNPc pF) (hL : lcAll pF) (hF : lcF pF) {d : Nat} {g : CG} {σ : CS} {l0 : Nat} {l1 : Int32} {res : CS} (bl0 : cob σ 14 l0) (h : k_World_dropLetter σ l0 l1 = some res) : cCo E false pF (d + 10) 190 [.ref (coa E 14 l0), .int l1] none res g σ :=
  cCo_R kk_190 mo_190 ni_190 xm_190 (Nat.le_of_ble_eq_true rfl) (hp0 190 (by decide) _) (k_World_dropLetter_b0_ok hp0 hL hF g _ σ l0 l1 bl0 rfl rfl _ h)
