/-! printed by wip/whole/gen_cls.py -/
/-! k_Server_handOver (137), depth 14 -/
def k_Server_handOver_b61 (F : Nat)  (σ : CS) : Option (CS) :=
  some σ
set_option maxRecDepth 4000 in
theorem k_Server_handOver_b61_ok {E : CE} {pF : Nat → List Value → xH → Option (Option Value × xH)} (hp0 : xNPc pF) (hL : lcAll E pF) (hF : lcF pF) {d : Nat} {F : Nat}   : ∀ (g : CG) (lv : xL) (σ : CS), ∀ res, k_Server_handOver_b61 F  σ = some res → cR E (cQx [13, 14]) pF (d + 13) kT137 13 2 none none res g σ (61, lv, []) := by
  intro g lv σ res h
  unfold k_Server_handOver_b61 at h
  cases h
  exact cR_end lk137_61 rfl rfl rfl
def k_Server_handOver_b0 (F : Nat)  (σ : CS) (l0 : Nat) (l1 : Int32) : Option (CS) :=
  (some (csI σ 7 l0 10 0 l1)).bind fun σ1 =>
  (some (csI σ1 7 l0 11 0 (cI σ1 14 0 0 0))).bind fun σ3 =>
  (crd σ3 7 l0 1 l1).bind fun x5 =>
  if xc2 .ne x5 (cI σ3 9 l0 6 0) = true then (
    (k_Server_sendTo F σ3 l0 l1 ((0 : Int32))).bind fun p8 =>
    k_Server_handOver_b61 F  p8
  ) else (
    (k_Server_letterTo σ3 l0 l1 ((9 : Int32))).bind fun p12 =>
    (k_Server_dispatch F p12.2 l0 p12.1).bind fun p16 =>
    k_Server_handOver_b61 F  p16
  )
set_option maxRecDepth 4000 in
theorem k_Server_handOver_b0_ok {E : CE} {pF : Nat → List Value → xH → Option (Option Value × xH)} (hp0 : xNPc pF) (hL : lcAll E pF) (hF : lcF pF) {d : Nat} {F : Nat}   : ∀ (g : CG) (lv : xL) (σ : CS) (l0 : Nat) (l1 : Int32), (cob σ 13 l0) → (xg lv 0 = some (.ref (coa E 13 l0))) → (xg lv 1 = some (.int l1)) → ∀ res, k_Server_handOver_b0 F  σ l0 l1 = some res → cR E (cQx [13, 14]) pF (d + 13) kT137 13 2 none none res g σ (0, lv, []) := by
  intro g lv σ l0 l1 bl0 g0 g1 res h
  unfold k_Server_handOver_b0 at h
  refine cR_lift (fun _ _ kk => eE_aload_n lk137_0 g0 kk) ?_
  refine cR_getO (cl' := 7) (i' := l0) lk137_1 rf_13_21 rfl rfl bl0 ?_
  refine cR_lift (fun _ _ kk => eE_iload_n lk137_4 g1 kk) ?_
  obtain ⟨σ1, h2, h⟩ := Option.bind_eq_some_iff.mp h
  refine cR_putI lk137_5 rf_13_112 rfl (cob_s (cl := 7) bl0 (by decide) rfl rfl) pf_7_10 rfl h2 ?_
  refine cR_lift (fun _ _ kk => eE_aload_n lk137_8 g0 kk) ?_
  refine cR_getO (cl' := 7) (i' := l0) lk137_9 rf_13_21 rfl rfl (cob_any rfl bl0) ?_
  refine cR_lift (fun _ _ kk => eE_aload_n lk137_12 g0 kk) ?_
  refine cR_getO (cl' := 14) (i' := 0) lk137_13 rf_13_63 rfl rfl (cob_any rfl bl0) ?_
  refine cR_getI lk137_16 rf_13_241 rfl (cob_0 (c := σ1) (cl := 14) (by decide) rfl rfl) ?_
  obtain ⟨σ3, h4, h⟩ := Option.bind_eq_some_iff.mp h
  refine cR_putI lk137_19 rf_13_453 rfl (cob_s (cl := 7) (cob_any rfl bl0) (by decide) rfl rfl) pf_7_11 rfl h4 ?_
  refine cR_lift (fun _ _ kk => eE_aload_n lk137_22 g0 kk) ?_
  refine cR_getO (cl' := 7) (i' := l0) lk137_23 rf_13_21 rfl rfl (cob_any rfl bl0) ?_
  refine cR_getA lk137_26 rf_13_459 (by decide) (cob_s (cl := 7) (cob_any rfl bl0) (by decide) rfl rfl) ?_
  refine cR_lift (fun _ _ kk => eE_iload_n lk137_29 g1 kk) ?_
  obtain ⟨x5, h6, h⟩ := Option.bind_eq_some_iff.mp h
  refine cR_iald (cl := 7) (i := l0) (f := 1) lk137_30 (by decide) rfl (cob_s (cl := 7) (cob_any rfl bl0) (by decide) rfl rfl) h6 ?_
  refine cR_lift (fun _ _ kk => eE_aload_n lk137_31 g0 kk) ?_
  refine cR_getO (cl' := 9) (i' := l0) lk137_32 rf_13_72 rfl rfl (cob_any rfl bl0) ?_
  refine cR_getI lk137_35 rf_13_103 rfl (cob_s (cl := 9) (cob_any rfl bl0) (by decide) rfl rfl) ?_
  refine cR_icmp (t := 55) lk137_38 (by decide) (fun c7 => ?_) (fun c7 => ?_)
  · rw [if_pos c7] at h
    refine cR_lift (fun _ _ kk => eE_aload_n lk137_55 g0 kk) ?_
    refine cR_lift (fun _ _ kk => eE_iload_n lk137_56 g1 kk) ?_
    refine cR_lift (fun _ _ kk => eE_iconst (v := 0) lk137_57 (by decide) kk) ?_
    obtain ⟨p8, h9, h⟩ := Option.bind_eq_some_iff.mp h
    refine cR_virtG (by exact cQx_sub rfl) (cl := 13) (i := l0) (as := [.int l1, .int ((0 : Int32))]) lk137_58 mr_13_376 na_160 rfl rfl (by first | exact Nat.le_of_ble_eq_true rfl | (simp [xcat, cvo_cat, cat_i, cat_j, cat_r]; done)) wv_160 wc_160 (cob_any rfl bl0) (k_Server_sendTo_ok hp0 hL hF (d := d + 0) (cob_any rfl bl0) h9) (fun m10 g_11 g_11e => ?_)
    exact k_Server_handOver_b61_ok hp0 hL hF  g_11 lv p8  _ h
  · rw [if_neg c7] at h
    refine cR_lift (fun _ _ kk => eE_aload_n lk137_41 g0 kk) ?_
    refine cR_lift (fun _ _ kk => eE_aload_n lk137_42 g0 kk) ?_
    refine cR_lift (fun _ _ kk => eE_iload_n lk137_43 g1 kk) ?_
    refine cR_lift (fun _ _ kk => eE_bipush (v := 9) lk137_44 (by decide) kk) ?_
    obtain ⟨p12, h13, h⟩ := Option.bind_eq_some_iff.mp h
    refine cR_rep (fun _ hc => k_Server_letterTo_lt hc (cob_any rfl bl0) h13) (fun b14 => ?_)
    refine cR_virt (cl := 13) (i := l0) (as := [.int l1, .int ((9 : Int32))]) lk137_46 mr_13_351 na_144 rfl rfl (by first | exact Nat.le_of_ble_eq_true rfl | (simp [xcat, cvo_cat, cat_i, cat_j, cat_r]; done)) wv_144 wc_144 (cob_any rfl bl0) (k_Server_letterTo_ok hp0 hL hF (d := d + 2) (cob_any rfl bl0) h13) (fun m15  => ?_)
    obtain ⟨p16, h17, h⟩ := Option.bind_eq_some_iff.mp h
    refine cR_virtG (by exact cQx_sub rfl) (cl := 13) (i := l0) (as := [.ref (coa E 8 p12.1)]) lk137_49 mr_13_362 na_132 rfl rfl (by first | exact Nat.le_of_ble_eq_true rfl | (simp [xcat, cvo_cat, cat_i, cat_j, cat_r]; done)) wv_132 wc_132 (cob_any rfl bl0) (k_Server_dispatch_ok hp0 hL hF (d := d + 1) (cob_any rfl bl0) b14 h17) (fun m18 g_19 g_19e => ?_)
    refine cR_lift (fun _ _ kk => eE_goto (t := 61) lk137_52 (by decide) kk) ?_
    exact k_Server_handOver_b61_ok hp0 hL hF  g_19 lv p16  _ h
def k_Server_handOver (F : Nat) (σ : CS) (l0 : Nat) (l1 : Int32) : Option (CS) := k_Server_handOver_b0 F σ l0 l1
theorem k_Server_handOver_ok {E : CE} {pF : Nat → List Value → xH → Option (Option Value × xH)} (hp0 : xNPc pF) (hL : lcAll E pF) (hF : lcF pF) {d : Nat} {g : CG} {σ : CS} {F : Nat} {l0 : Nat} {l1 : Int32} {res : CS} (bl0 : cob σ 13 l0) (h : k_Server_handOver F σ l0 l1 = some res) : cCo E (cQx [13, 14]) pF (d + 14) 137 [.ref (coa E 13 l0), .int l1] none res g σ :=
  cCo_R kk_137 mo_137 ni_137 xm_137 (Nat.le_of_ble_eq_true rfl) (hp0 137 (by decide) _) (k_Server_handOver_b0_ok hp0 hL hF g _ σ l0 l1 bl0 rfl rfl _ h)
/-! k_Server_hears (138), depth 2 -/
def k_Server_hears_b33  (σ : CS) : Option ((Int32) × CS) :=
  if ((0 : Int32)) = 0 ∨ ((0 : Int32)) = 1 then some ((0 : Int32), σ) else none
set_option maxRecDepth 4000 in
theorem k_Server_hears_b33_ok {E : CE} {pF : Nat → List Value → xH → Option (Option Value × xH)} (hp0 : xNPc pF) (hL : lcAll E pF) (hF : lcF pF) {d : Nat}   : ∀ (g : CG) (lv : xL) (σ : CS), ∀ res, k_Server_hears_b33  σ = some res → cR E cQ1 pF (d + 1) kT138 13 2 (some FieldType.boolean) (some (.int res.1)) res.2 g σ (33, lv, []) := by
  intro g lv σ res h
  unfold k_Server_hears_b33 at h
  refine cR_lift (fun _ _ kk => eE_iconst (v := 0) lk138_33 (by decide) kk) ?_
  by_cases z1 : ((0 : Int32)) = 0 ∨ ((0 : Int32)) = 1
  · rw [if_pos z1] at h; cases h
    exact cR_end lk138_34 rfl rfl (by first | (simp only [xfin, if_true, if_pos z1]; done) | simp [xfin, z1])
  · rw [if_neg z1] at h; cases h
def k_Server_hears_b0  (σ : CS) (l0 : Nat) (l1 : Nat) : Option ((Int32) × CS) :=
  if xc2 .ne (cI σ 8 l1 5 0) (cI σ 13 l0 10 0) = true then (
    k_Server_hears_b33  σ
  ) else (
    if xc2 .ne (cI σ 13 l0 12 0) ((3 : Int32)) = true then (
      k_Server_hears_b33  σ
    ) else (
      (k_Server_peers σ l0).bind fun p4 =>
      if xc0 .ne ((p4 >>> ((cI σ 8 l1 2 0) &&& 31)) &&& ((1 : Int32))) = true then (
        (cwr σ 7 l0 5 (cI σ 8 l1 2 0) (cI σ 14 0 0 0)).bind fun σ8 =>
        (cwr σ8 7 l0 7 (cI σ8 8 l1 2 0) (((1 : Int32)) &&& 1)).bind fun σ10 =>
        (crd σ10 7 l0 4 (cI σ10 8 l1 2 0)).bind fun x12 =>
        (cwr σ10 7 l0 4 (cI σ10 8 l1 2 0) (cmax x12 (cI σ10 8 l1 10 0))).bind fun σ14 =>
        (some (csI σ14 13 l0 19 0 ((cI σ14 13 l0 19 0) ||| ((392 : Int32))))).bind fun σ16 =>
        if ((1 : Int32)) = 0 ∨ ((1 : Int32)) = 1 then some ((1 : Int32), σ16) else none
      ) else (
        k_Server_hears_b33  σ
      )
    )
  )
set_option maxRecDepth 4000 in
theorem k_Server_hears_b0_ok {E : CE} {pF : Nat → List Value → xH → Option (Option Value × xH)} (hp0 : xNPc pF) (hL : lcAll E pF) (hF : lcF pF) {d : Nat}   : ∀ (g : CG) (lv : xL) (σ : CS) (l0 : Nat) (l1 : Nat), (cob σ 13 l0) → (cob σ 8 l1) → (xg lv 0 = some (.ref (coa E 13 l0))) → (xg lv 1 = some (.ref (coa E 8 l1))) → ∀ res, k_Server_hears_b0  σ l0 l1 = some res → cR E cQ1 pF (d + 1) kT138 13 2 (some FieldType.boolean) (some (.int res.1)) res.2 g σ (0, lv, []) := by
  intro g lv σ l0 l1 bl0 bl1 g0 g1 res h
  unfold k_Server_hears_b0 at h
  refine cR_lift (fun _ _ kk => eE_aload_n lk138_0 g1 kk) ?_
  refine cR_getI lk138_1 rf_13_342 rfl bl1 ?_
  refine cR_lift (fun _ _ kk => eE_aload_n lk138_4 g0 kk) ?_
  refine cR_getI lk138_5 rf_13_88 rfl bl0 ?_
  refine cR_icmp (t := 33) lk138_8 (by decide) (fun c2 => ?_) (fun c2 => ?_)
  · rw [if_pos c2] at h
    exact k_Server_hears_b33_ok hp0 hL hF  g lv σ  _ h
  · rw [if_neg c2] at h
    refine cR_lift (fun _ _ kk => eE_aload_n lk138_11 g0 kk) ?_
    refine cR_getI lk138_12 rf_13_85 rfl bl0 ?_
    refine cR_lift (fun _ _ kk => eE_iconst (v := 3) lk138_15 (by decide) kk) ?_
    refine cR_icmp (t := 33) lk138_16 (by decide) (fun c3 => ?_) (fun c3 => ?_)
    · rw [if_pos c3] at h
      exact k_Server_hears_b33_ok hp0 hL hF  g lv σ  _ h
    · rw [if_neg c3] at h
      refine cR_lift (fun _ _ kk => eE_aload_n lk138_19 g0 kk) ?_
      obtain ⟨p4, h5, h⟩ := Option.bind_eq_some_iff.mp h
      refine cR_virt (cl := 13) (i := l0) (as := []) lk138_20 mr_13_373 na_150 rfl rfl (by first | exact Nat.le_of_ble_eq_true rfl | (simp [xcat, cvo_cat, cat_i, cat_j, cat_r]; done)) wv_150 wc_150 bl0 (k_Server_peers_ok hp0 hL hF (d := d + 0) bl0 h5) (fun m6  => ?_)
      refine cR_lift (fun _ _ kk => eE_aload_n lk138_23 g1 kk) ?_
      refine cR_getI lk138_24 rf_13_181 rfl bl1 ?_
      refine cR_lift (fun _ _ kk => eE_ishr lk138_27 kk) ?_
      refine cR_lift (fun _ _ kk => eE_iconst (v := 1) lk138_28 (by decide) kk) ?_
      refine cR_lift (fun _ _ kk => eE_iand lk138_29 kk) ?_
      refine cR_if (t := 35) lk138_30 (by decide) (fun c7 => ?_) (fun c7 => ?_)
      · rw [if_pos c7] at h
        refine cR_lift (fun _ _ kk => eE_aload_n lk138_35 g0 kk) ?_
        refine cR_getO (cl' := 7) (i' := l0) lk138_36 rf_13_21 rfl rfl bl0 ?_
        refine cR_getA lk138_39 rf_13_431 (by decide) (cob_s (cl := 7) bl0 (by decide) rfl rfl) ?_
        refine cR_lift (fun _ _ kk => eE_aload_n lk138_42 g1 kk) ?_
        refine cR_getI lk138_43 rf_13_181 rfl bl1 ?_
        refine cR_lift (fun _ _ kk => eE_aload_n lk138_46 g0 kk) ?_
        refine cR_getO (cl' := 14) (i' := 0) lk138_47 rf_13_63 rfl rfl bl0 ?_
        refine cR_getI lk138_50 rf_13_241 rfl (cob_0 (c := σ) (cl := 14) (by decide) rfl rfl) ?_
        obtain ⟨σ8, h9, h⟩ := Option.bind_eq_some_iff.mp h
        refine cR_iast (cl := 7) (i := l0) (f := 5) lk138_53 (by decide) rfl (cob_s (cl := 7) bl0 (by decide) rfl rfl) h9 ?_
        refine cR_lift (fun _ _ kk => eE_aload_n lk138_54 g0 kk) ?_
        refine cR_getO (cl' := 7) (i' := l0) lk138_55 rf_13_21 rfl rfl (cob_any rfl bl0) ?_
        refine cR_getA lk138_58 rf_13_456 (by decide) (cob_s (cl := 7) (cob_any rfl bl0) (by decide) rfl rfl) ?_
        refine cR_lift (fun _ _ kk => eE_aload_n lk138_61 g1 kk) ?_
        refine cR_getI lk138_62 rf_13_181 rfl (cob_mon (cwr_mon h9) bl1) ?_
        refine cR_lift (fun _ _ kk => eE_iconst (v := 1) lk138_65 (by decide) kk) ?_
        obtain ⟨σ10, h11, h⟩ := Option.bind_eq_some_iff.mp h
        refine cR_zast (cl := 7) (i := l0) (f := 7) lk138_66 (by decide) rfl rfl (cob_s (cl := 7) (cob_any rfl bl0) (by decide) rfl rfl) h11 ?_
        refine cR_lift (fun _ _ kk => eE_aload_n lk138_67 g0 kk) ?_
        refine cR_getO (cl' := 7) (i' := l0) lk138_68 rf_13_21 rfl rfl (cob_any rfl bl0) ?_
        refine cR_getA lk138_71 rf_13_462 (by decide) (cob_s (cl := 7) (cob_any rfl bl0) (by decide) rfl rfl) ?_
        refine cR_lift (fun _ _ kk => eE_aload_n lk138_74 g1 kk) ?_
        refine cR_getI lk138_75 rf_13_181 rfl (cob_mon (cwr_mon h11) (cob_mon (cwr_mon h9) bl1)) ?_
        refine cR_lift (fun _ _ kk => eE_aload_n lk138_78 g0 kk) ?_
        refine cR_getO (cl' := 7) (i' := l0) lk138_79 rf_13_21 rfl rfl (cob_any rfl bl0) ?_
        refine cR_getA lk138_82 rf_13_462 (by decide) (cob_s (cl := 7) (cob_any rfl bl0) (by decide) rfl rfl) ?_
        refine cR_lift (fun _ _ kk => eE_aload_n lk138_85 g1 kk) ?_
        refine cR_getI lk138_86 rf_13_181 rfl (cob_mon (cwr_mon h11) (cob_mon (cwr_mon h9) bl1)) ?_
        obtain ⟨x12, h13, h⟩ := Option.bind_eq_some_iff.mp h
        refine cR_iald (cl := 7) (i := l0) (f := 4) lk138_89 (by decide) rfl (cob_s (cl := 7) (cob_any rfl bl0) (by decide) rfl rfl) h13 ?_
        refine cR_lift (fun _ _ kk => eE_aload_n lk138_90 g1 kk) ?_
        refine cR_getI lk138_91 rf_13_192 rfl (cob_mon (cwr_mon h11) (cob_mon (cwr_mon h9) bl1)) ?_
        refine cR_max lk138_94 mr_13_293 (by first | exact Nat.le_of_ble_eq_true rfl | (simp [xcat, cvo_cat, cat_i, cat_j, cat_r]; done)) ?_
        obtain ⟨σ14, h15, h⟩ := Option.bind_eq_some_iff.mp h
        refine cR_iast (cl := 7) (i := l0) (f := 4) lk138_97 (by decide) rfl (cob_s (cl := 7) (cob_any rfl bl0) (by decide) rfl rfl) h15 ?_
        refine cR_lift (fun _ _ kk => eE_aload_n lk138_98 g0 kk) ?_
        refine cR_lift (fun _ _ kk => eE_dup lk138_99 rfl kk) ?_
        refine cR_getI lk138_100 rf_13_146 rfl (cob_any rfl bl0) ?_
        refine cR_lift (fun _ _ kk => eE_sipush (v := 392) lk138_103 (by decide) kk) ?_
        refine cR_lift (fun _ _ kk => eE_ior lk138_106 kk) ?_
        obtain ⟨σ16, h17, h⟩ := Option.bind_eq_some_iff.mp h
        refine cR_putI lk138_107 rf_13_146 rfl (cob_any rfl bl0) pf_13_19 rfl h17 ?_
        refine cR_lift (fun _ _ kk => eE_iconst (v := 1) lk138_110 (by decide) kk) ?_
        by_cases z18 : ((1 : Int32)) = 0 ∨ ((1 : Int32)) = 1
        · rw [if_pos z18] at h; cases h
          exact cR_end lk138_111 rfl rfl (by first | (simp only [xfin, if_true, if_pos z18]; done) | simp [xfin, z18])
        · rw [if_neg z18] at h; cases h
      · rw [if_neg c7] at h
        exact k_Server_hears_b33_ok hp0 hL hF  g lv σ  _ h
def k_Server_hears (σ : CS) (l0 : Nat) (l1 : Nat) : Option ((Int32) × CS) := k_Server_hears_b0 σ l0 l1
theorem k_Server_hears_ok {E : CE} {pF : Nat → List Value → xH → Option (Option Value × xH)} (hp0 : xNPc pF) (hL : lcAll E pF) (hF : lcF pF) {d : Nat} {g : CG} {σ : CS} {l0 : Nat} {l1 : Nat} {res : (Int32) × CS} (bl0 : cob σ 13 l0) (bl1 : cob σ 8 l1) (h : k_Server_hears σ l0 l1 = some res) : cCo E cQ1 pF (d + 2) 138 [.ref (coa E 13 l0), .ref (coa E 8 l1)] (some (.int res.1)) res.2 g σ :=
  cCo_R kk_138 mo_138 ni_138 xm_138 (Nat.le_of_ble_eq_true rfl) (hp0 138 (by decide) _) (k_Server_hears_b0_ok hp0 hL hF g _ σ l0 l1 bl0 bl1 rfl rfl _ h)
/-! k_Server_isAsNew (141), depth 3 -/
def k_Server_isAsNew_b50  (σ : CS) (s0 : Int32) : Option (Int32) :=
  if s0 = 0 ∨ s0 = 1 then some s0 else none
set_option maxRecDepth 4000 in
theorem k_Server_isAsNew_b50_ok {E : CE} {pF : Nat → List Value → xH → Option (Option Value × xH)} (hp0 : xNPc pF) (hL : lcAll E pF) (hF : lcF pF) {d : Nat}   : ∀ (g : CG) (lv : xL) (σ : CS) (s0 : Int32), ∀ res, k_Server_isAsNew_b50  σ s0 = some res → cR E cQ1 pF (d + 2) kT141 13 3 (some FieldType.boolean) (some (.int res)) σ g σ (50, lv, [.int s0]) := by
  intro g lv σ s0 res h
  unfold k_Server_isAsNew_b50 at h
  by_cases z1 : s0 = 0 ∨ s0 = 1
  · rw [if_pos z1] at h; cases h
    exact cR_end lk141_50 rfl rfl (by first | (simp only [xfin, if_true, if_pos z1]; done) | simp [xfin, z1])
  · rw [if_neg z1] at h; cases h
def k_Server_isAsNew_b45  (σ : CS) : Option (Int32) :=
  k_Server_isAsNew_b50  σ ((1 : Int32))
set_option maxRecDepth 4000 in
theorem k_Server_isAsNew_b45_ok {E : CE} {pF : Nat → List Value → xH → Option (Option Value × xH)} (hp0 : xNPc pF) (hL : lcAll E pF) (hF : lcF pF) {d : Nat}   : ∀ (g : CG) (lv : xL) (σ : CS), ∀ res, k_Server_isAsNew_b45  σ = some res → cR E cQ1 pF (d + 2) kT141 13 3 (some FieldType.boolean) (some (.int res)) σ g σ (45, lv, []) := by
  intro g lv σ res h
  unfold k_Server_isAsNew_b45 at h
  refine cR_lift (fun _ _ kk => eE_iconst (v := 1) lk141_45 (by decide) kk) ?_
  refine cR_lift (fun _ _ kk => eE_goto (t := 50) lk141_46 (by decide) kk) ?_
  exact k_Server_isAsNew_b50_ok hp0 hL hF  g lv σ ((1 : Int32))  _ h
def k_Server_isAsNew_b49  (σ : CS) : Option (Int32) :=
  k_Server_isAsNew_b50  σ ((0 : Int32))
set_option maxRecDepth 4000 in
theorem k_Server_isAsNew_b49_ok {E : CE} {pF : Nat → List Value → xH → Option (Option Value × xH)} (hp0 : xNPc pF) (hL : lcAll E pF) (hF : lcF pF) {d : Nat}   : ∀ (g : CG) (lv : xL) (σ : CS), ∀ res, k_Server_isAsNew_b49  σ = some res → cR E cQ1 pF (d + 2) kT141 13 3 (some FieldType.boolean) (some (.int res)) σ g σ (49, lv, []) := by
  intro g lv σ res h
  unfold k_Server_isAsNew_b49 at h
  refine cR_lift (fun _ _ kk => eE_iconst (v := 0) lk141_49 (by decide) kk) ?_
  exact k_Server_isAsNew_b50_ok hp0 hL hF  g lv σ ((0 : Int32))  _ h
def k_Server_isAsNew_b0  (σ : CS) (l0 : Nat) (l1 : Nat) : Option (Int32) :=
  (k_Log_termAt σ l0 (cI σ 9 l0 6 0)).bind fun p2 =>
  if xc2 .gt (cI σ 8 l1 8 0) p2 = true then (
    k_Server_isAsNew_b45  σ
  ) else (
    if xc2 .ne (cI σ 8 l1 8 0) p2 = true then (
      k_Server_isAsNew_b49  σ
    ) else (
      if xc2 .lt (cI σ 8 l1 7 0) (cI σ 9 l0 6 0) = true then (
        k_Server_isAsNew_b49  σ
      ) else (
        k_Server_isAsNew_b45  σ
      )
    )
  )
set_option maxRecDepth 4000 in
theorem k_Server_isAsNew_b0_ok {E : CE} {pF : Nat → List Value → xH → Option (Option Value × xH)} (hp0 : xNPc pF) (hL : lcAll E pF) (hF : lcF pF) {d : Nat}   : ∀ (g : CG) (lv : xL) (σ : CS) (l0 : Nat) (l1 : Nat), (cob σ 13 l0) → (cob σ 8 l1) → (xg lv 0 = some (.ref (coa E 13 l0))) → (xg lv 1 = some (.ref (coa E 8 l1))) → ∀ res, k_Server_isAsNew_b0  σ l0 l1 = some res → cR E cQ1 pF (d + 2) kT141 13 3 (some FieldType.boolean) (some (.int res)) σ g σ (0, lv, []) := by
  intro g lv σ l0 l1 bl0 bl1 g0 g1 res h
  unfold k_Server_isAsNew_b0 at h
  refine cR_lift (fun _ _ kk => eE_aload_n lk141_0 g0 kk) ?_
  refine cR_getO (cl' := 9) (i' := l0) lk141_1 rf_13_72 rfl rfl bl0 ?_
  refine cR_lift (fun _ _ kk => eE_aload_n lk141_4 g0 kk) ?_
  refine cR_getO (cl' := 9) (i' := l0) lk141_5 rf_13_72 rfl rfl bl0 ?_
  refine cR_getI lk141_8 rf_13_103 rfl (cob_s (cl := 9) bl0 (by decide) rfl rfl) ?_
  obtain ⟨p2, h3, h⟩ := Option.bind_eq_some_iff.mp h
  refine cR_virt (cl := 9) (i := l0) (as := [.int (cI σ 9 l0 6 0)]) lk141_11 mr_13_311 na_75 rfl rfl (by first | exact Nat.le_of_ble_eq_true rfl | (simp [xcat, cvo_cat, cat_i, cat_j, cat_r]; done)) wv_75 wc_75 (cob_s (cl := 9) bl0 (by decide) rfl rfl) (k_Log_termAt_ok hp0 hL hF (d := d + 0) (cob_s (cl := 9) bl0 (by decide) rfl rfl) h3) (fun m4  => ?_)
  refine cR_stI (j := 2) lk141_14 (Or.inr ⟨_, rfl, rfl⟩) (by decide) (fun vq5 gq6 kq7 => ?_)
  have gq8 := kq7 0 _ (by decide) (fun e => absurd e (by decide)) g0
  have gq9 := kq7 1 _ (by decide) (fun _ => rfl) g1
  refine cR_lift (fun _ _ kk => eE_aload_n lk141_15 gq9 kk) ?_
  refine cR_getI lk141_16 rf_13_370 rfl bl1 ?_
  refine cR_lift (fun _ _ kk => eE_iload_n lk141_19 gq6 kk) ?_
  refine cR_icmp (t := 45) lk141_20 (by decide) (fun c10 => ?_) (fun c10 => ?_)
  · rw [if_pos c10] at h
    exact k_Server_isAsNew_b45_ok hp0 hL hF  g vq5 σ  _ h
  · rw [if_neg c10] at h
    refine cR_lift (fun _ _ kk => eE_aload_n lk141_23 gq9 kk) ?_
    refine cR_getI lk141_24 rf_13_370 rfl bl1 ?_
    refine cR_lift (fun _ _ kk => eE_iload_n lk141_27 gq6 kk) ?_
    refine cR_icmp (t := 49) lk141_28 (by decide) (fun c11 => ?_) (fun c11 => ?_)
    · rw [if_pos c11] at h
      exact k_Server_isAsNew_b49_ok hp0 hL hF  g vq5 σ  _ h
    · rw [if_neg c11] at h
      refine cR_lift (fun _ _ kk => eE_aload_n lk141_31 gq9 kk) ?_
      refine cR_getI lk141_32 rf_13_189 rfl bl1 ?_
      refine cR_lift (fun _ _ kk => eE_aload_n lk141_35 gq8 kk) ?_
      refine cR_getO (cl' := 9) (i' := l0) lk141_36 rf_13_72 rfl rfl bl0 ?_
      refine cR_getI lk141_39 rf_13_103 rfl (cob_s (cl := 9) bl0 (by decide) rfl rfl) ?_
      refine cR_icmp (t := 49) lk141_42 (by decide) (fun c12 => ?_) (fun c12 => ?_)
      · rw [if_pos c12] at h
        exact k_Server_isAsNew_b49_ok hp0 hL hF  g vq5 σ  _ h
      · rw [if_neg c12] at h
        exact k_Server_isAsNew_b45_ok hp0 hL hF  g vq5 σ  _ h
def k_Server_isAsNew (σ : CS) (l0 : Nat) (l1 : Nat) : Option (Int32) := k_Server_isAsNew_b0 σ l0 l1
theorem k_Server_isAsNew_ok {E : CE} {pF : Nat → List Value → xH → Option (Option Value × xH)} (hp0 : xNPc pF) (hL : lcAll E pF) (hF : lcF pF) {d : Nat} {g : CG} {σ : CS} {l0 : Nat} {l1 : Nat} {res : Int32} (bl0 : cob σ 13 l0) (bl1 : cob σ 8 l1) (h : k_Server_isAsNew σ l0 l1 = some res) : cCo E cQ1 pF (d + 3) 141 [.ref (coa E 13 l0), .ref (coa E 8 l1)] (some (.int res)) σ g σ :=
  cCo_R kk_141 mo_141 ni_141 xm_141 (Nat.le_of_ble_eq_true rfl) (hp0 141 (by decide) _) (k_Server_isAsNew_b0_ok hp0 hL hF g _ σ l0 l1 bl0 bl1 rfl rfl _ h)
/-! k_Server_isMajority (142), depth 2 -/
def k_Server_isMajority_b64  (σ : CS) (s0 : Int32) : Option (Int32) :=
  if s0 = 0 ∨ s0 = 1 then some s0 else none
set_option maxRecDepth 4000 in
theorem k_Server_isMajority_b64_ok {E : CE} {pF : Nat → List Value → xH → Option (Option Value × xH)} (hp0 : xNPc pF) (hL : lcAll E pF) (hF : lcF pF) {d : Nat}   : ∀ (g : CG) (lv : xL) (σ : CS) (s0 : Int32), ∀ res, k_Server_isMajority_b64  σ s0 = some res → cR E cQ1 pF (d + 1) kT142 13 4 (some FieldType.boolean) (some (.int res)) σ g σ (64, lv, [.int s0]) := by
  intro g lv σ s0 res h
  unfold k_Server_isMajority_b64 at h
  by_cases z1 : s0 = 0 ∨ s0 = 1
  · rw [if_pos z1] at h; cases h
    exact cR_end lk142_64 rfl rfl (by first | (simp only [xfin, if_true, if_pos z1]; done) | simp [xfin, z1])
  · rw [if_neg z1] at h; cases h
def k_Server_isMajority_b59  (σ : CS) : Option (Int32) :=
  k_Server_isMajority_b64  σ ((1 : Int32))
set_option maxRecDepth 4000 in
theorem k_Server_isMajority_b59_ok {E : CE} {pF : Nat → List Value → xH → Option (Option Value × xH)} (hp0 : xNPc pF) (hL : lcAll E pF) (hF : lcF pF) {d : Nat}   : ∀ (g : CG) (lv : xL) (σ : CS), ∀ res, k_Server_isMajority_b59  σ = some res → cR E cQ1 pF (d + 1) kT142 13 4 (some FieldType.boolean) (some (.int res)) σ g σ (59, lv, []) := by
  intro g lv σ res h
  unfold k_Server_isMajority_b59 at h
  refine cR_lift (fun _ _ kk => eE_iconst (v := 1) lk142_59 (by decide) kk) ?_
  refine cR_lift (fun _ _ kk => eE_goto (t := 64) lk142_60 (by decide) kk) ?_
  exact k_Server_isMajority_b64_ok hp0 hL hF  g lv σ ((1 : Int32))  _ h
def k_Server_isMajority_b63  (σ : CS) : Option (Int32) :=
  k_Server_isMajority_b64  σ ((0 : Int32))
set_option maxRecDepth 4000 in
theorem k_Server_isMajority_b63_ok {E : CE} {pF : Nat → List Value → xH → Option (Option Value × xH)} (hp0 : xNPc pF) (hL : lcAll E pF) (hF : lcF pF) {d : Nat}   : ∀ (g : CG) (lv : xL) (σ : CS), ∀ res, k_Server_isMajority_b63  σ = some res → cR E cQ1 pF (d + 1) kT142 13 4 (some FieldType.boolean) (some (.int res)) σ g σ (63, lv, []) := by
  intro g lv σ res h
  unfold k_Server_isMajority_b63 at h
  refine cR_lift (fun _ _ kk => eE_iconst (v := 0) lk142_63 (by decide) kk) ?_
  exact k_Server_isMajority_b64_ok hp0 hL hF  g lv σ ((0 : Int32))  _ h
def k_Server_isMajority_b0  (σ : CS) (l0 : Nat) (l1 : Int32) : Option (Int32) :=
  (k_Integer_bitCount σ (l1 &&& ((cI σ 9 l0 7 0) &&& ((127 : Int32))))).bind fun p12 =>
  (k_Integer_bitCount σ ((cI σ 9 l0 7 0) &&& ((127 : Int32)))).bind fun p15 =>
  if xc2 .le (((2 : Int32)) * p12) p15 = true then (
    k_Server_isMajority_b63  σ
  ) else (
    if xc0 .eq (((cI σ 9 l0 7 0) >>> (((7 : Int32)) &&& 31)) &&& ((127 : Int32))) = true then (
      k_Server_isMajority_b59  σ
    ) else (
      (k_Integer_bitCount σ (l1 &&& (((cI σ 9 l0 7 0) >>> (((7 : Int32)) &&& 31)) &&& ((127 : Int32))))).bind fun p20 =>
      (k_Integer_bitCount σ (((cI σ 9 l0 7 0) >>> (((7 : Int32)) &&& 31)) &&& ((127 : Int32)))).bind fun p23 =>
      if xc2 .le (((2 : Int32)) * p20) p23 = true then (
        k_Server_isMajority_b63  σ
      ) else (
        k_Server_isMajority_b59  σ
      )
    )
  )
set_option maxRecDepth 4000 in
theorem k_Server_isMajority_b0_ok {E : CE} {pF : Nat → List Value → xH → Option (Option Value × xH)} (hp0 : xNPc pF) (hL : lcAll E pF) (hF : lcF pF) {d : Nat}   : ∀ (g : CG) (lv : xL) (σ : CS) (l0 : Nat) (l1 : Int32), (cob σ 13 l0) → (xg lv 0 = some (.ref (coa E 13 l0))) → (xg lv 1 = some (.int l1)) → ∀ res, k_Server_isMajority_b0  σ l0 l1 = some res → cR E cQ1 pF (d + 1) kT142 13 4 (some FieldType.boolean) (some (.int res)) σ g σ (0, lv, []) := by
  intro g lv σ l0 l1 bl0 g0 g1 res h
  unfold k_Server_isMajority_b0 at h
  refine cR_lift (fun _ _ kk => eE_aload_n lk142_0 g0 kk) ?_
  refine cR_getO (cl' := 9) (i' := l0) lk142_1 rf_13_72 rfl rfl bl0 ?_
  refine cR_getI lk142_4 rf_13_106 rfl (cob_s (cl := 9) bl0 (by decide) rfl rfl) ?_
  refine cR_lift (fun _ _ kk => eE_bipush (v := 127) lk142_7 (by decide) kk) ?_
  refine cR_lift (fun _ _ kk => eE_iand lk142_9 kk) ?_
  refine cR_stI (j := 2) lk142_10 (Or.inr ⟨_, rfl, rfl⟩) (by decide) (fun vq2 gq3 kq4 => ?_)
  have gq5 := kq4 0 _ (by decide) (fun e => absurd e (by decide)) g0
  have gq6 := kq4 1 _ (by decide) (fun _ => rfl) g1
  refine cR_lift (fun _ _ kk => eE_aload_n lk142_11 gq5 kk) ?_
  refine cR_getO (cl' := 9) (i' := l0) lk142_12 rf_13_72 rfl rfl bl0 ?_
  refine cR_getI lk142_15 rf_13_106 rfl (cob_s (cl := 9) bl0 (by decide) rfl rfl) ?_
  refine cR_lift (fun _ _ kk => eE_bipush (v := 7) lk142_18 (by decide) kk) ?_
  refine cR_lift (fun _ _ kk => eE_ishr lk142_20 kk) ?_
  refine cR_lift (fun _ _ kk => eE_bipush (v := 127) lk142_21 (by decide) kk) ?_
  refine cR_lift (fun _ _ kk => eE_iand lk142_23 kk) ?_
  refine cR_stI (j := 3) lk142_24 (Or.inr ⟨_, rfl, rfl⟩) (by decide) (fun vq7 gq8 kq9 => ?_)
  have gq10 := kq9 1 _ (by decide) (fun e => absurd e (by decide)) gq6
  have gq11 := kq9 2 _ (by decide) (fun _ => rfl) gq3
  refine cR_lift (fun _ _ kk => eE_iconst (v := 2) lk142_25 (by decide) kk) ?_
  refine cR_lift (fun _ _ kk => eE_iload_n lk142_26 gq10 kk) ?_
  refine cR_lift (fun _ _ kk => eE_iload_n lk142_27 gq11 kk) ?_
  refine cR_lift (fun _ _ kk => eE_iand lk142_28 kk) ?_
  obtain ⟨p12, h13, h⟩ := Option.bind_eq_some_iff.mp h
  refine cR_stat (as := [.int (l1 &&& ((cI σ 9 l0 7 0) &&& ((127 : Int32))))]) lk142_29 mr_13_140 na_398 rfl rfl (by first | exact Nat.le_of_ble_eq_true rfl | (simp [xcat, cvo_cat, cat_i, cat_j, cat_r]; done)) mm_398 ws_398 (k_Integer_bitCount_ok hp0 hL hF (d := d + 0)  h13) (fun m14 => ?_)
  refine cR_lift (fun _ _ kk => eE_imul lk142_32 kk) ?_
  refine cR_lift (fun _ _ kk => eE_iload_n lk142_33 gq11 kk) ?_
  obtain ⟨p15, h16, h⟩ := Option.bind_eq_some_iff.mp h
  refine cR_stat (as := [.int ((cI σ 9 l0 7 0) &&& ((127 : Int32)))]) lk142_34 mr_13_140 na_398 rfl rfl (by first | exact Nat.le_of_ble_eq_true rfl | (simp [xcat, cvo_cat, cat_i, cat_j, cat_r]; done)) mm_398 ws_398 (k_Integer_bitCount_ok hp0 hL hF (d := d + 0)  h16) (fun m17 => ?_)
  refine cR_icmp (t := 63) lk142_37 (by decide) (fun c18 => ?_) (fun c18 => ?_)
  · rw [if_pos c18] at h
    exact k_Server_isMajority_b63_ok hp0 hL hF  g vq7 σ  _ h
  · rw [if_neg c18] at h
    refine cR_lift (fun _ _ kk => eE_iload_n lk142_40 gq8 kk) ?_
    refine cR_if (t := 59) lk142_41 (by decide) (fun c19 => ?_) (fun c19 => ?_)
    · rw [if_pos c19] at h
      exact k_Server_isMajority_b59_ok hp0 hL hF  g vq7 σ  _ h
    · rw [if_neg c19] at h
      refine cR_lift (fun _ _ kk => eE_iconst (v := 2) lk142_44 (by decide) kk) ?_
      refine cR_lift (fun _ _ kk => eE_iload_n lk142_45 gq10 kk) ?_
      refine cR_lift (fun _ _ kk => eE_iload_n lk142_46 gq8 kk) ?_
      refine cR_lift (fun _ _ kk => eE_iand lk142_47 kk) ?_
      obtain ⟨p20, h21, h⟩ := Option.bind_eq_some_iff.mp h
      refine cR_stat (as := [.int (l1 &&& (((cI σ 9 l0 7 0) >>> (((7 : Int32)) &&& 31)) &&& ((127 : Int32))))]) lk142_48 mr_13_140 na_398 rfl rfl (by first | exact Nat.le_of_ble_eq_true rfl | (simp [xcat, cvo_cat, cat_i, cat_j, cat_r]; done)) mm_398 ws_398 (k_Integer_bitCount_ok hp0 hL hF (d := d + 0)  h21) (fun m22 => ?_)
      refine cR_lift (fun _ _ kk => eE_imul lk142_51 kk) ?_
      refine cR_lift (fun _ _ kk => eE_iload_n lk142_52 gq8 kk) ?_
      obtain ⟨p23, h24, h⟩ := Option.bind_eq_some_iff.mp h
      refine cR_stat (as := [.int (((cI σ 9 l0 7 0) >>> (((7 : Int32)) &&& 31)) &&& ((127 : Int32)))]) lk142_53 mr_13_140 na_398 rfl rfl (by first | exact Nat.le_of_ble_eq_true rfl | (simp [xcat, cvo_cat, cat_i, cat_j, cat_r]; done)) mm_398 ws_398 (k_Integer_bitCount_ok hp0 hL hF (d := d + 0)  h24) (fun m25 => ?_)
      refine cR_icmp (t := 63) lk142_56 (by decide) (fun c26 => ?_) (fun c26 => ?_)
      · rw [if_pos c26] at h
        exact k_Server_isMajority_b63_ok hp0 hL hF  g vq7 σ  _ h
      · rw [if_neg c26] at h
        exact k_Server_isMajority_b59_ok hp0 hL hF  g vq7 σ  _ h
def k_Server_isMajority (σ : CS) (l0 : Nat) (l1 : Int32) : Option (Int32) := k_Server_isMajority_b0 σ l0 l1
theorem k_Server_isMajority_ok {E : CE} {pF : Nat → List Value → xH → Option (Option Value × xH)} (hp0 : xNPc pF) (hL : lcAll E pF) (hF : lcF pF) {d : Nat} {g : CG} {σ : CS} {l0 : Nat} {l1 : Int32} {res : Int32} (bl0 : cob σ 13 l0) (h : k_Server_isMajority σ l0 l1 = some res) : cCo E cQ1 pF (d + 2) 142 [.ref (coa E 13 l0), .int l1] (some (.int res)) σ g σ :=
  cCo_R kk_142 mo_142 ni_142 xm_142 (Nat.le_of_ble_eq_true rfl) (hp0 142 (by decide) _) (k_Server_isMajority_b0_ok hp0 hL hF g _ σ l0 l1 bl0 rfl rfl _ h)
/-! k_Server_keepPiece (143), depth 2 -/
def k_Server_keepPiece_b39  (σ : CS) (l0 : Nat) (l1 : Nat) : Option (CS) :=
  (ccpy σ 8 l1 19 ((0 : Int32)) 13 l0 18 (cI σ 13 l0 17 0) (cI σ 8 l1 17 0)).bind fun σ1 =>
  (some (csI σ1 13 l0 17 0 ((cI σ1 13 l0 17 0) + (cI σ1 8 l1 17 0)))).bind fun σ3 =>
  some σ3
set_option maxRecDepth 4000 in
theorem k_Server_keepPiece_b39_ok {E : CE} {pF : Nat → List Value → xH → Option (Option Value × xH)} (hp0 : xNPc pF) (hL : lcAll E pF) (hF : lcF pF) {d : Nat}   : ∀ (g : CG) (lv : xL) (σ : CS) (l0 : Nat) (l1 : Nat), (cob σ 13 l0) → (cob σ 8 l1) → (xg lv 0 = some (.ref (coa E 13 l0))) → (xg lv 1 = some (.ref (coa E 8 l1))) → ∀ res, k_Server_keepPiece_b39  σ l0 l1 = some res → cR E (cQx [13]) pF (d + 1) kT143 13 2 none none res g σ (39, lv, []) := by
  intro g lv σ l0 l1 bl0 bl1 g0 g1 res h
  unfold k_Server_keepPiece_b39 at h
  refine cR_lift (fun _ _ kk => eE_aload_n lk143_39 g1 kk) ?_
  refine cR_getA lk143_40 rf_13_531 (by decide) bl1 ?_
  refine cR_lift (fun _ _ kk => eE_iconst (v := 0) lk143_43 (by decide) kk) ?_
  refine cR_lift (fun _ _ kk => eE_aload_n lk143_44 g0 kk) ?_
  refine cR_getA lk143_45 rf_13_56 (by decide) bl0 ?_
  refine cR_lift (fun _ _ kk => eE_aload_n lk143_48 g0 kk) ?_
  refine cR_getI lk143_49 rf_13_238 rfl bl0 ?_
  refine cR_lift (fun _ _ kk => eE_aload_n lk143_52 g1 kk) ?_
  refine cR_getI lk143_53 rf_13_346 rfl bl1 ?_
  obtain ⟨σ1, h2, h⟩ := Option.bind_eq_some_iff.mp h
  refine cR_cpy (a := 8) (i := l1) (f := 19) (a' := 13) (i' := l0) (f' := 18) lk143_56 yc_13_410.1 yc_13_410.2 (by decide) (by decide) (by decide) bl1 bl0 (by first | exact Nat.le_of_ble_eq_true rfl | (simp [xcat, cvo_cat, cat_i, cat_j, cat_r]; done)) h2 ?_
  refine cR_lift (fun _ _ kk => eE_aload_n lk143_59 g0 kk) ?_
  refine cR_lift (fun _ _ kk => eE_dup lk143_60 rfl kk) ?_
  refine cR_getI lk143_61 rf_13_238 rfl (cob_any rfl bl0) ?_
  refine cR_lift (fun _ _ kk => eE_aload_n lk143_64 g1 kk) ?_
  refine cR_getI lk143_65 rf_13_346 rfl (cob_mon (ccpy_mon h2) bl1) ?_
  refine cR_lift (fun _ _ kk => eE_iadd lk143_68 kk) ?_
  obtain ⟨σ3, h4, h⟩ := Option.bind_eq_some_iff.mp h
  refine cR_putI lk143_69 rf_13_238 rfl (cob_any rfl bl0) pf_13_17 rfl h4 ?_
  cases h
  exact cR_end lk143_72 rfl rfl rfl
def k_Server_keepPiece_b0  (σ : CS) (l0 : Nat) (l1 : Nat) : Option (CS) :=
  if xc2 .ge (Int32.ofNat (cal σ 13 l0 18)) ((cI σ 13 l0 17 0) + (cI σ 8 l1 17 0)) = true then (
    k_Server_keepPiece_b39  σ l0 l1
  ) else (
    (cext σ 13 l0 18 (((2 : Int32)) * ((cI σ 13 l0 17 0) + (cI σ 8 l1 17 0)))).bind fun σ6 =>
    k_Server_keepPiece_b39  σ6 l0 l1
  )
set_option maxRecDepth 4000 in
theorem k_Server_keepPiece_b0_ok {E : CE} {pF : Nat → List Value → xH → Option (Option Value × xH)} (hp0 : xNPc pF) (hL : lcAll E pF) (hF : lcF pF) {d : Nat}   : ∀ (g : CG) (lv : xL) (σ : CS) (l0 : Nat) (l1 : Nat), (cob σ 13 l0) → (cob σ 8 l1) → (xg lv 0 = some (.ref (coa E 13 l0))) → (xg lv 1 = some (.ref (coa E 8 l1))) → ∀ res, k_Server_keepPiece_b0  σ l0 l1 = some res → cR E (cQx [13]) pF (d + 1) kT143 13 2 none none res g σ (0, lv, []) := by
  intro g lv σ l0 l1 bl0 bl1 g0 g1 res h
  unfold k_Server_keepPiece_b0 at h
  refine cR_lift (fun _ _ kk => eE_aload_n lk143_0 g0 kk) ?_
  refine cR_getA lk143_1 rf_13_56 (by decide) bl0 ?_
  refine cR_alen (cl := 13) (i := l0) (f := 18) lk143_4 (by decide) (by decide) bl0 ?_
  refine cR_lift (fun _ _ kk => eE_aload_n lk143_5 g0 kk) ?_
  refine cR_getI lk143_6 rf_13_238 rfl bl0 ?_
  refine cR_lift (fun _ _ kk => eE_aload_n lk143_9 g1 kk) ?_
  refine cR_getI lk143_10 rf_13_346 rfl bl1 ?_
  refine cR_lift (fun _ _ kk => eE_iadd lk143_13 kk) ?_
  refine cR_icmp (t := 39) lk143_14 (by decide) (fun c5 => ?_) (fun c5 => ?_)
  · rw [if_pos c5] at h
    exact k_Server_keepPiece_b39_ok hp0 hL hF  g lv σ l0 l1 bl0 bl1 g0 g1 _ h
  · rw [if_neg c5] at h
    refine cR_lift (fun _ _ kk => eE_aload_n lk143_17 g0 kk) ?_
    refine cR_lift (fun _ _ kk => eE_aload_n lk143_18 g0 kk) ?_
    refine cR_getA lk143_19 rf_13_56 (by decide) bl0 ?_
    refine cR_lift (fun _ _ kk => eE_iconst (v := 2) lk143_22 (by decide) kk) ?_
    refine cR_lift (fun _ _ kk => eE_aload_n lk143_23 g0 kk) ?_
    refine cR_getI lk143_24 rf_13_238 rfl bl0 ?_
    refine cR_lift (fun _ _ kk => eE_aload_n lk143_27 g1 kk) ?_
    refine cR_getI lk143_28 rf_13_346 rfl bl1 ?_
    refine cR_lift (fun _ _ kk => eE_iadd lk143_31 kk) ?_
    refine cR_lift (fun _ _ kk => eE_imul lk143_32 kk) ?_
    obtain ⟨σ6, h7, h⟩ := Option.bind_eq_some_iff.mp h
    refine cR_cpyG392 (d := d + 0) (cl := 13) (i := l0) (f := 18) lk143_33 lk143_36 mr_13_525 (by first | exact Nat.le_of_ble_eq_true rfl | (simp [xcat, cvo_cat, cat_i, cat_j, cat_r]; done)) (hp0 392 (by decide)) rfl rf_13_56 rfl bl0 pf_13_18 h7 (by decide) (fun g_8 g_8e => ?_)
    exact k_Server_keepPiece_b39_ok hp0 hL hF  g_8 lv σ6 l0 l1 (cob_any rfl bl0) (cob_mon (cext_mon h7) bl1) g0 g1 _ h
def k_Server_keepPiece (σ : CS) (l0 : Nat) (l1 : Nat) : Option (CS) := k_Server_keepPiece_b0 σ l0 l1
theorem k_Server_keepPiece_ok {E : CE} {pF : Nat → List Value → xH → Option (Option Value × xH)} (hp0 : xNPc pF) (hL : lcAll E pF) (hF : lcF pF) {d : Nat} {g : CG} {σ : CS} {l0 : Nat} {l1 : Nat} {res : CS} (bl0 : cob σ 13 l0) (bl1 : cob σ 8 l1) (h : k_Server_keepPiece σ l0 l1 = some res) : cCo E (cQx [13]) pF (d + 2) 143 [.ref (coa E 13 l0), .ref (coa E 8 l1)] none res g σ :=
  cCo_R kk_143 mo_143 ni_143 xm_143 (Nat.le_of_ble_eq_true rfl) (hp0 143 (by decide) _) (k_Server_keepPiece_b0_ok hp0 hL hF g _ σ l0 l1 bl0 bl1 rfl rfl _ h)
/-! k_Server_mayLead (147), depth 1 -/
def k_Server_mayLead_b31  (σ : CS) (s0 : Int32) : Option (Int32) :=
  if s0 = 0 ∨ s0 = 1 then some s0 else none
set_option maxRecDepth 4000 in
theorem k_Server_mayLead_b31_ok {E : CE} {pF : Nat → List Value → xH → Option (Option Value × xH)} (hp0 : xNPc pF) (hL : lcAll E pF) (hF : lcF pF) {d : Nat}   : ∀ (g : CG) (lv : xL) (σ : CS) (s0 : Int32), ∀ res, k_Server_mayLead_b31  σ s0 = some res → cR E cQ1 pF (d + 0) kT147 13 1 (some FieldType.boolean) (some (.int res)) σ g σ (31, lv, [.int s0]) := by
  intro g lv σ s0 res h
  unfold k_Server_mayLead_b31 at h
  by_cases z1 : s0 = 0 ∨ s0 = 1
  · rw [if_pos z1] at h; cases h
    exact cR_end lk147_31 rfl rfl (by first | (simp only [xfin, if_true, if_pos z1]; done) | simp [xfin, z1])
  · rw [if_neg z1] at h; cases h
def k_Server_mayLead_b30  (σ : CS) : Option (Int32) :=
  k_Server_mayLead_b31  σ ((0 : Int32))
set_option maxRecDepth 4000 in
theorem k_Server_mayLead_b30_ok {E : CE} {pF : Nat → List Value → xH → Option (Option Value × xH)} (hp0 : xNPc pF) (hL : lcAll E pF) (hF : lcF pF) {d : Nat}   : ∀ (g : CG) (lv : xL) (σ : CS), ∀ res, k_Server_mayLead_b30  σ = some res → cR E cQ1 pF (d + 0) kT147 13 1 (some FieldType.boolean) (some (.int res)) σ g σ (30, lv, []) := by
  intro g lv σ res h
  unfold k_Server_mayLead_b30 at h
  refine cR_lift (fun _ _ kk => eE_iconst (v := 0) lk147_30 (by decide) kk) ?_
  exact k_Server_mayLead_b31_ok hp0 hL hF  g lv σ ((0 : Int32))  _ h
def k_Server_mayLead_b0  (σ : CS) (l0 : Nat) : Option (Int32) :=
  if xc0 .eq (cI σ 13 l0 8 0) = true then (
    k_Server_mayLead_b30  σ
  ) else (
    if xc2 .ne (cI σ 13 l0 12 0) ((3 : Int32)) = true then (
      k_Server_mayLead_b30  σ
    ) else (
      if xc2 .ne (cI σ 7 l0 10 0) ((-1 : Int32)) = true then (
        k_Server_mayLead_b30  σ
      ) else (
        k_Server_mayLead_b31  σ ((1 : Int32))
      )
    )
  )
set_option maxRecDepth 4000 in
theorem k_Server_mayLead_b0_ok {E : CE} {pF : Nat → List Value → xH → Option (Option Value × xH)} (hp0 : xNPc pF) (hL : lcAll E pF) (hF : lcF pF) {d : Nat}   : ∀ (g : CG) (lv : xL) (σ : CS) (l0 : Nat), (cob σ 13 l0) → (xg lv 0 = some (.ref (coa E 13 l0))) → ∀ res, k_Server_mayLead_b0  σ l0 = some res → cR E cQ1 pF (d + 0) kT147 13 1 (some FieldType.boolean) (some (.int res)) σ g σ (0, lv, []) := by
  intro g lv σ l0 bl0 g0 res h
  unfold k_Server_mayLead_b0 at h
  refine cR_lift (fun _ _ kk => eE_aload_n lk147_0 g0 kk) ?_
  refine cR_getI lk147_1 rf_13_39 rfl bl0 ?_
  refine cR_if (t := 30) lk147_4 (by decide) (fun c2 => ?_) (fun c2 => ?_)
  · rw [if_pos c2] at h
    exact k_Server_mayLead_b30_ok hp0 hL hF  g lv σ  _ h
  · rw [if_neg c2] at h
    refine cR_lift (fun _ _ kk => eE_aload_n lk147_7 g0 kk) ?_
    refine cR_getI lk147_8 rf_13_85 rfl bl0 ?_
    refine cR_lift (fun _ _ kk => eE_iconst (v := 3) lk147_11 (by decide) kk) ?_
    refine cR_icmp (t := 30) lk147_12 (by decide) (fun c3 => ?_) (fun c3 => ?_)
    · rw [if_pos c3] at h
      exact k_Server_mayLead_b30_ok hp0 hL hF  g lv σ  _ h
    · rw [if_neg c3] at h
      refine cR_lift (fun _ _ kk => eE_aload_n lk147_15 g0 kk) ?_
      refine cR_getO (cl' := 7) (i' := l0) lk147_16 rf_13_21 rfl rfl bl0 ?_
      refine cR_getI lk147_19 rf_13_112 rfl (cob_s (cl := 7) bl0 (by decide) rfl rfl) ?_
      refine cR_lift (fun _ _ kk => eE_iconst (v := (-1)) lk147_22 (by decide) kk) ?_
      refine cR_icmp (t := 30) lk147_23 (by decide) (fun c4 => ?_) (fun c4 => ?_)
      · rw [if_pos c4] at h
        exact k_Server_mayLead_b30_ok hp0 hL hF  g lv σ  _ h
      · rw [if_neg c4] at h
        refine cR_lift (fun _ _ kk => eE_iconst (v := 1) lk147_26 (by decide) kk) ?_
        refine cR_lift (fun _ _ kk => eE_goto (t := 31) lk147_27 (by decide) kk) ?_
        exact k_Server_mayLead_b31_ok hp0 hL hF  g lv σ ((1 : Int32))  _ h
def k_Server_mayLead (σ : CS) (l0 : Nat) : Option (Int32) := k_Server_mayLead_b0 σ l0
theorem k_Server_mayLead_ok {E : CE} {pF : Nat → List Value → xH → Option (Option Value × xH)} (hp0 : xNPc pF) (hL : lcAll E pF) (hF : lcF pF) {d : Nat} {g : CG} {σ : CS} {l0 : Nat} {res : Int32} (bl0 : cob σ 13 l0) (h : k_Server_mayLead σ l0 = some res) : cCo E cQ1 pF (d + 1) 147 [.ref (coa E 13 l0)] (some (.int res)) σ g σ :=
  cCo_R kk_147 mo_147 ni_147 xm_147 (Nat.le_of_ble_eq_true rfl) (hp0 147 (by decide) _) (k_Server_mayLead_b0_ok hp0 hL hF g _ σ l0 bl0 rfl _ h)
/-! k_Server_maySetMembers (148), depth 2 -/
def k_Server_maySetMembers_b58  (σ : CS) (s0 : Int32) : Option (Int32) :=
  if s0 = 0 ∨ s0 = 1 then some s0 else none
set_option maxRecDepth 4000 in
theorem k_Server_maySetMembers_b58_ok {E : CE} {pF : Nat → List Value → xH → Option (Option Value × xH)} (hp0 : xNPc pF) (hL : lcAll E pF) (hF : lcF pF) {d : Nat}   : ∀ (g : CG) (lv : xL) (σ : CS) (s0 : Int32), ∀ res, k_Server_maySetMembers_b58  σ s0 = some res → cR E cQ1 pF (d + 1) kT148 13 1 (some FieldType.boolean) (some (.int res)) σ g σ (58, lv, [.int s0]) := by
  intro g lv σ s0 res h
  unfold k_Server_maySetMembers_b58 at h
  by_cases z1 : s0 = 0 ∨ s0 = 1
  · rw [if_pos z1] at h; cases h
    exact cR_end lk148_58 rfl rfl (by first | (simp only [xfin, if_true, if_pos z1]; done) | simp [xfin, z1])
  · rw [if_neg z1] at h; cases h
def k_Server_maySetMembers_b57  (σ : CS) : Option (Int32) :=
  k_Server_maySetMembers_b58  σ ((0 : Int32))
set_option maxRecDepth 4000 in
theorem k_Server_maySetMembers_b57_ok {E : CE} {pF : Nat → List Value → xH → Option (Option Value × xH)} (hp0 : xNPc pF) (hL : lcAll E pF) (hF : lcF pF) {d : Nat}   : ∀ (g : CG) (lv : xL) (σ : CS), ∀ res, k_Server_maySetMembers_b57  σ = some res → cR E cQ1 pF (d + 1) kT148 13 1 (some FieldType.boolean) (some (.int res)) σ g σ (57, lv, []) := by
  intro g lv σ res h
  unfold k_Server_maySetMembers_b57 at h
  refine cR_lift (fun _ _ kk => eE_iconst (v := 0) lk148_57 (by decide) kk) ?_
  exact k_Server_maySetMembers_b58_ok hp0 hL hF  g lv σ ((0 : Int32))  _ h
def k_Server_maySetMembers_b0  (σ : CS) (l0 : Nat) : Option (Int32) :=
  (k_Server_mayLead σ l0).bind fun p2 =>
  if xc0 .eq p2 = true then (
    k_Server_maySetMembers_b57  σ
  ) else (
    (k_Log_length σ l0).bind fun p6 =>
    if xc2 .ge p6 ((200 : Int32)) = true then (
      k_Server_maySetMembers_b57  σ
    ) else (
      if xc2 .gt (cI σ 9 l0 8 0) (cI σ 9 l0 9 0) = true then (
        k_Server_maySetMembers_b57  σ
      ) else (
        if xc0 .ne (((cI σ 9 l0 7 0) >>> (((7 : Int32)) &&& 31)) &&& ((127 : Int32))) = true then (
          k_Server_maySetMembers_b57  σ
        ) else (
          k_Server_maySetMembers_b58  σ ((1 : Int32))
        )
      )
    )
  )
set_option maxRecDepth 4000 in
theorem k_Server_maySetMembers_b0_ok {E : CE} {pF : Nat → List Value → xH → Option (Option Value × xH)} (hp0 : xNPc pF) (hL : lcAll E pF) (hF : lcF pF) {d : Nat}   : ∀ (g : CG) (lv : xL) (σ : CS) (l0 : Nat), (cob σ 13 l0) → (xg lv 0 = some (.ref (coa E 13 l0))) → ∀ res, k_Server_maySetMembers_b0  σ l0 = some res → cR E cQ1 pF (d + 1) kT148 13 1 (some FieldType.boolean) (some (.int res)) σ g σ (0, lv, []) := by
  intro g lv σ l0 bl0 g0 res h
  unfold k_Server_maySetMembers_b0 at h
  refine cR_lift (fun _ _ kk => eE_aload_n lk148_0 g0 kk) ?_
  obtain ⟨p2, h3, h⟩ := Option.bind_eq_some_iff.mp h
  refine cR_virt (cl := 13) (i := l0) (as := []) lk148_1 mr_13_625 na_147 rfl rfl (by first | exact Nat.le_of_ble_eq_true rfl | (simp [xcat, cvo_cat, cat_i, cat_j, cat_r]; done)) wv_147 wc_147 bl0 (k_Server_mayLead_ok hp0 hL hF (d := d + 0) bl0 h3) (fun m4  => ?_)
  refine cR_if (t := 57) lk148_4 (by decide) (fun c5 => ?_) (fun c5 => ?_)
  · rw [if_pos c5] at h
    exact k_Server_maySetMembers_b57_ok hp0 hL hF  g lv σ  _ h
  · rw [if_neg c5] at h
    refine cR_lift (fun _ _ kk => eE_aload_n lk148_7 g0 kk) ?_
    refine cR_getO (cl' := 9) (i' := l0) lk148_8 rf_13_72 rfl rfl bl0 ?_
    obtain ⟨p6, h7, h⟩ := Option.bind_eq_some_iff.mp h
    refine cR_virt (cl := 9) (i := l0) (as := []) lk148_11 mr_13_326 na_69 rfl rfl (by first | exact Nat.le_of_ble_eq_true rfl | (simp [xcat, cvo_cat, cat_i, cat_j, cat_r]; done)) wv_69 wc_69 (cob_s (cl := 9) bl0 (by decide) rfl rfl) (k_Log_length_ok hp0 hL hF (d := d + 0) (cob_s (cl := 9) bl0 (by decide) rfl rfl) h7) (fun m8  => ?_)
    refine cR_lift (fun _ _ kk => eE_sipush (v := 200) lk148_14 (by decide) kk) ?_
    refine cR_icmp (t := 57) lk148_17 (by decide) (fun c9 => ?_) (fun c9 => ?_)
    · rw [if_pos c9] at h
      exact k_Server_maySetMembers_b57_ok hp0 hL hF  g lv σ  _ h
    · rw [if_neg c9] at h
      refine cR_lift (fun _ _ kk => eE_aload_n lk148_20 g0 kk) ?_
      refine cR_getO (cl' := 9) (i' := l0) lk148_21 rf_13_72 rfl rfl bl0 ?_
      refine cR_getI lk148_24 rf_13_559 rfl (cob_s (cl := 9) bl0 (by decide) rfl rfl) ?_
      refine cR_lift (fun _ _ kk => eE_aload_n lk148_27 g0 kk) ?_
      refine cR_getO (cl' := 9) (i' := l0) lk148_28 rf_13_72 rfl rfl bl0 ?_
      refine cR_getI lk148_31 rf_13_91 rfl (cob_s (cl := 9) bl0 (by decide) rfl rfl) ?_
      refine cR_icmp (t := 57) lk148_34 (by decide) (fun c10 => ?_) (fun c10 => ?_)
      · rw [if_pos c10] at h
        exact k_Server_maySetMembers_b57_ok hp0 hL hF  g lv σ  _ h
      · rw [if_neg c10] at h
        refine cR_lift (fun _ _ kk => eE_aload_n lk148_37 g0 kk) ?_
        refine cR_getO (cl' := 9) (i' := l0) lk148_38 rf_13_72 rfl rfl bl0 ?_
        refine cR_getI lk148_41 rf_13_106 rfl (cob_s (cl := 9) bl0 (by decide) rfl rfl) ?_
        refine cR_lift (fun _ _ kk => eE_bipush (v := 7) lk148_44 (by decide) kk) ?_
        refine cR_lift (fun _ _ kk => eE_ishr lk148_46 kk) ?_
        refine cR_lift (fun _ _ kk => eE_bipush (v := 127) lk148_47 (by decide) kk) ?_
        refine cR_lift (fun _ _ kk => eE_iand lk148_49 kk) ?_
        refine cR_if (t := 57) lk148_50 (by decide) (fun c11 => ?_) (fun c11 => ?_)
        · rw [if_pos c11] at h
          exact k_Server_maySetMembers_b57_ok hp0 hL hF  g lv σ  _ h
        · rw [if_neg c11] at h
          refine cR_lift (fun _ _ kk => eE_iconst (v := 1) lk148_53 (by decide) kk) ?_
          refine cR_lift (fun _ _ kk => eE_goto (t := 58) lk148_54 (by decide) kk) ?_
          exact k_Server_maySetMembers_b58_ok hp0 hL hF  g lv σ ((1 : Int32))  _ h
def k_Server_maySetMembers (σ : CS) (l0 : Nat) : Option (Int32) := k_Server_maySetMembers_b0 σ l0
theorem k_Server_maySetMembers_ok {E : CE} {pF : Nat → List Value → xH → Option (Option Value × xH)} (hp0 : xNPc pF) (hL : lcAll E pF) (hF : lcF pF) {d : Nat} {g : CG} {σ : CS} {l0 : Nat} {res : Int32} (bl0 : cob σ 13 l0) (h : k_Server_maySetMembers σ l0 = some res) : cCo E cQ1 pF (d + 2) 148 [.ref (coa E 13 l0)] (some (.int res)) σ g σ :=
  cCo_R kk_148 mo_148 ni_148 xm_148 (Nat.le_of_ble_eq_true rfl) (hp0 148 (by decide) _) (k_Server_maySetMembers_b0_ok hp0 hL hF g _ σ l0 bl0 rfl _ h)
/-! k_Page_add_9_2 (105), depth 3 -/
def k_Page_add_9_2_b0  (σ : CS) (l0 : Nat) (l1 : Nat) (l2 : Int32) : Option (CS) :=
  (k_Page_makeRoom σ l0 ((cI σ 11 l0 5 0) + ((1 : Int32)))).bind fun p1 =>
  (ccpy p1 9 l1 2 l2 11 l0 6 ((cI p1 11 l0 5 0) * ((6 : Int32))) ((6 : Int32))).bind fun σ5 =>
  (crd σ5 9 l1 2 (l2 + ((2 : Int32)))).bind fun x7 =>
  (some (csI σ5 11 l0 1 0 ((cI σ5 11 l0 1 0) + (((25 : Int32)) + x7)))).bind fun σ9 =>
  (cwr σ9 11 l0 7 (cI σ9 11 l0 5 0) (cI σ9 11 l0 1 0)).bind fun σ11 =>
  (some (csI σ11 11 l0 5 0 ((cI σ11 11 l0 5 0) + ((1 : Int32))))).bind fun σ13 =>
  some σ13
set_option maxRecDepth 4000 in
theorem k_Page_add_9_2_b0_ok {E : CE} {pF : Nat → List Value → xH → Option (Option Value × xH)} (hp0 : xNPc pF) (hL : lcAll E pF) (hF : lcF pF) {d : Nat}   : ∀ (g : CG) (lv : xL) (σ : CS) (l0 : Nat) (l1 : Nat) (l2 : Int32), (cob σ 11 l0) → (cob σ 9 l1) → (xg lv 0 = some (.ref (coa E 11 l0))) → (xg lv 1 = some (.ref (caa E 9 l1 2))) → (xg lv 2 = some (.int l2)) → ∀ res, k_Page_add_9_2_b0  σ l0 l1 l2 = some res → cR E (cQx [11]) pF (d + 2) kT105 11 3 none none res g σ (0, lv, []) := by
  intro g lv σ l0 l1 l2 bl0 bl1 g0 g1 g2 res h
  unfold k_Page_add_9_2_b0 at h
  refine cR_lift (fun _ _ kk => eE_aload_n lk105_0 g0 kk) ?_
  refine cR_lift (fun _ _ kk => eE_aload_n lk105_1 g0 kk) ?_
  refine cR_getI lk105_2 rf_11_39 rfl bl0 ?_
  refine cR_lift (fun _ _ kk => eE_iconst (v := 1) lk105_5 (by decide) kk) ?_
  refine cR_lift (fun _ _ kk => eE_iadd lk105_6 kk) ?_
  obtain ⟨p1, h2, h⟩ := Option.bind_eq_some_iff.mp h
  refine cR_virtG (by exact cQx_sub rfl) (cl := 11) (i := l0) (as := [.int ((cI σ 11 l0 5 0) + ((1 : Int32)))]) lk105_7 mr_11_45 na_110 rfl rfl (by first | exact Nat.le_of_ble_eq_true rfl | (simp [xcat, cvo_cat, cat_i, cat_j, cat_r]; done)) wv_110 wc_110 bl0 (k_Page_makeRoom_ok hp0 hL hF (d := d + 0) bl0 h2) (fun m3 g_4 g_4e => ?_)
  refine cR_lift (fun _ _ kk => eE_aload_n lk105_10 g1 kk) ?_
  refine cR_lift (fun _ _ kk => eE_iload_n lk105_11 g2 kk) ?_
  refine cR_lift (fun _ _ kk => eE_aload_n lk105_12 g0 kk) ?_
  refine cR_getA lk105_13 rf_11_9 (by decide) (cob_any rfl bl0) ?_
  refine cR_lift (fun _ _ kk => eE_aload_n lk105_16 g0 kk) ?_
  refine cR_getI lk105_17 rf_11_39 rfl (cob_any rfl bl0) ?_
  refine cR_lift (fun _ _ kk => eE_bipush (v := 6) lk105_20 (by decide) kk) ?_
  refine cR_lift (fun _ _ kk => eE_imul lk105_22 kk) ?_
  refine cR_lift (fun _ _ kk => eE_bipush (v := 6) lk105_23 (by decide) kk) ?_
  obtain ⟨σ5, h6, h⟩ := Option.bind_eq_some_iff.mp h
  refine cR_cpy (a := 9) (i := l1) (f := 2) (a' := 11) (i' := l0) (f' := 6) lk105_25 yc_11_49.1 yc_11_49.2 (by decide) (by decide) (by decide) (cob_any rfl bl1) (cob_any rfl bl0) (by first | exact Nat.le_of_ble_eq_true rfl | (simp [xcat, cvo_cat, cat_i, cat_j, cat_r]; done)) h6 ?_
  refine cR_lift (fun _ _ kk => eE_aload_n lk105_28 g0 kk) ?_
  refine cR_lift (fun _ _ kk => eE_dup lk105_29 rfl kk) ?_
  refine cR_getI lk105_30 rf_11_26 rfl (cob_any rfl bl0) ?_
  refine cR_lift (fun _ _ kk => eE_bipush (v := 25) lk105_33 (by decide) kk) ?_
  refine cR_lift (fun _ _ kk => eE_aload_n lk105_35 g1 kk) ?_
  refine cR_lift (fun _ _ kk => eE_iload_n lk105_36 g2 kk) ?_
  refine cR_lift (fun _ _ kk => eE_iconst (v := 2) lk105_37 (by decide) kk) ?_
  refine cR_lift (fun _ _ kk => eE_iadd lk105_38 kk) ?_
  obtain ⟨x7, h8, h⟩ := Option.bind_eq_some_iff.mp h
  refine cR_iald (cl := 9) (i := l1) (f := 2) lk105_39 (by decide) rfl (cob_any rfl bl1) h8 ?_
  refine cR_lift (fun _ _ kk => eE_iadd lk105_40 kk) ?_
  refine cR_lift (fun _ _ kk => eE_iadd lk105_41 kk) ?_
  obtain ⟨σ9, h10, h⟩ := Option.bind_eq_some_iff.mp h
  refine cR_putI lk105_42 rf_11_26 rfl (cob_any rfl bl0) pf_11_1 rfl h10 ?_
  refine cR_lift (fun _ _ kk => eE_aload_n lk105_45 g0 kk) ?_
  refine cR_getA lk105_46 rf_11_15 (by decide) (cob_any rfl bl0) ?_
  refine cR_lift (fun _ _ kk => eE_aload_n lk105_49 g0 kk) ?_
  refine cR_getI lk105_50 rf_11_39 rfl (cob_any rfl bl0) ?_
  refine cR_lift (fun _ _ kk => eE_aload_n lk105_53 g0 kk) ?_
  refine cR_getI lk105_54 rf_11_26 rfl (cob_any rfl bl0) ?_
  obtain ⟨σ11, h12, h⟩ := Option.bind_eq_some_iff.mp h
  refine cR_iast (cl := 11) (i := l0) (f := 7) lk105_57 (by decide) rfl (cob_any rfl bl0) h12 ?_
  refine cR_lift (fun _ _ kk => eE_aload_n lk105_58 g0 kk) ?_
  refine cR_lift (fun _ _ kk => eE_dup lk105_59 rfl kk) ?_
  refine cR_getI lk105_60 rf_11_39 rfl (cob_any rfl bl0) ?_
  refine cR_lift (fun _ _ kk => eE_iconst (v := 1) lk105_63 (by decide) kk) ?_
  refine cR_lift (fun _ _ kk => eE_iadd lk105_64 kk) ?_
  obtain ⟨σ13, h14, h⟩ := Option.bind_eq_some_iff.mp h
  refine cR_putI lk105_65 rf_11_39 rfl (cob_any rfl bl0) pf_11_5 rfl h14 ?_
  cases h
  exact cR_end lk105_68 rfl rfl rfl
def k_Page_add_9_2 (σ : CS) (l0 : Nat) (l1 : Nat) (l2 : Int32) : Option (CS) := k_Page_add_9_2_b0 σ l0 l1 l2
theorem k_Page_add_9_2_ok {E : CE} {pF : Nat → List Value → xH → Option (Option Value × xH)} (hp0 : xNPc pF) (hL : lcAll E pF) (hF : lcF pF) {d : Nat} {g : CG} {σ : CS} {l0 : Nat} {l1 : Nat} {l2 : Int32} {res : CS} (bl0 : cob σ 11 l0) (bl1 : cob σ 9 l1) (h : k_Page_add_9_2 σ l0 l1 l2 = some res) : cCo E (cQx [11]) pF (d + 3) 105 [.ref (coa E 11 l0), .ref (caa E 9 l1 2), .int l2] none res g σ :=
  cCo_R kk_105 mo_105 ni_105 xm_105 (Nat.le_of_ble_eq_true rfl) (hp0 105 (by decide) _) (k_Page_add_9_2_b0_ok hp0 hL hF g _ σ l0 l1 l2 bl0 bl1 rfl rfl rfl _ h)
/-! k_Disk_append_9_2 (32), depth 4 -/
def k_Disk_append_9_2_b67 (F : Nat)  (σ : CS) : Option (CS) :=
  some σ
set_option maxRecDepth 4000 in
theorem k_Disk_append_9_2_b67_ok {E : CE} {pF : Nat → List Value → xH → Option (Option Value × xH)} (hp0 : xNPc pF) (hL : lcAll E pF) (hF : lcF pF) {d : Nat} {F : Nat}   : ∀ (g : CG) (lv : xL) (σ : CS), ∀ res, k_Disk_append_9_2_b67 F  σ = some res → cR E (cQx [11]) pF (d + 3) kT32 6 5 none none res g σ (67, lv, []) := by
  intro g lv σ res h
  unfold k_Disk_append_9_2_b67 at h
  cases h
  exact cR_end lk32_67 rfl rfl rfl
def k_Disk_append_9_2_b39 (F : Nat)  (σ : CS) (l0 : Nat) (l1 : Nat) (l2 : Int32) : Option (CS) :=
  if xc0 .le (cI σ 6 l0 5 0) = true then (
    k_Disk_append_9_2_b67 F  σ
  ) else (
    (crd σ 6 l0 4 ((cI σ 6 l0 5 0) - ((1 : Int32)))).bind fun x2 =>
    (cix 6 0 x2).bind fun n4 =>
    (k_Page_add_9_2 σ (30 * l0 + cpg n4) l1 l2).bind fun p6 =>
    k_Disk_append_9_2_b67 F  p6
  )
set_option maxRecDepth 4000 in
theorem k_Disk_append_9_2_b39_ok {E : CE} {pF : Nat → List Value → xH → Option (Option Value × xH)} (hp0 : xNPc pF) (hL : lcAll E pF) (hF : lcF pF) {d : Nat} {F : Nat}   : ∀ (g : CG) (lv : xL) (σ : CS) (l0 : Nat) (l1 : Nat) (l2 : Int32), (cob σ 6 l0) → (cob σ 9 l1) → (xg lv 0 = some (.ref (coa E 6 l0))) → (xg lv 1 = some (.ref (caa E 9 l1 2))) → (xg lv 2 = some (.int l2)) → ∀ res, k_Disk_append_9_2_b39 F  σ l0 l1 l2 = some res → cR E (cQx [11]) pF (d + 3) kT32 6 5 none none res g σ (39, lv, []) := by
  intro g lv σ l0 l1 l2 bl0 bl1 g0 g1 g2 res h
  unfold k_Disk_append_9_2_b39 at h
  refine cR_lift (fun _ _ kk => eE_aload_n lk32_39 g0 kk) ?_
  refine cR_getI lk32_40 rf_6_72 rfl bl0 ?_
  refine cR_if (t := 67) lk32_43 (by decide) (fun c1 => ?_) (fun c1 => ?_)
  · rw [if_pos c1] at h
    exact k_Disk_append_9_2_b67_ok hp0 hL hF  g lv σ  _ h
  · rw [if_neg c1] at h
    refine cR_lift (fun _ _ kk => eE_aload_n lk32_46 g0 kk) ?_
    refine cR_getA lk32_47 rf_6_11 (by decide) bl0 ?_
    refine cR_lift (fun _ _ kk => eE_aload_n lk32_50 g0 kk) ?_
    refine cR_getA lk32_51 rf_6_27 (by decide) bl0 ?_
    refine cR_lift (fun _ _ kk => eE_aload_n lk32_54 g0 kk) ?_
    refine cR_getI lk32_55 rf_6_72 rfl bl0 ?_
    refine cR_lift (fun _ _ kk => eE_iconst (v := 1) lk32_58 (by decide) kk) ?_
    refine cR_lift (fun _ _ kk => eE_isub lk32_59 kk) ?_
    obtain ⟨x2, h3, h⟩ := Option.bind_eq_some_iff.mp h
    refine cR_iald (cl := 6) (i := l0) (f := 4) lk32_60 (by decide) rfl bl0 h3 ?_
    obtain ⟨n4, h5, h⟩ := Option.bind_eq_some_iff.mp h
    refine cR_aald (cl := 6) (i := l0) (f := 0) (cl' := 11) (i' := 30 * l0 + cpg n4) lk32_61 rfl (by decide) bl0 h5 rfl ?_
    refine cR_lift (fun _ _ kk => eE_aload_n lk32_62 g1 kk) ?_
    refine cR_lift (fun _ _ kk => eE_iload_n lk32_63 g2 kk) ?_
    obtain ⟨p6, h7, h⟩ := Option.bind_eq_some_iff.mp h
    refine cR_virtG (by exact cQx_sub rfl) (cl := 11) (i := 30 * l0 + cpg n4) (as := [.ref (caa E 9 l1 2), .int l2]) lk32_64 mr_6_79 na_105 rfl rfl (by first | exact Nat.le_of_ble_eq_true rfl | (simp [xcat, cvo_cat, cat_i, cat_j, cat_r]; done)) wv_105 wc_105 (cob_pg (c := σ) bl0 (cix_lt h5)).1 (k_Page_add_9_2_ok hp0 hL hF (d := d + 0) (cob_pg (c := σ) bl0 (cix_lt h5)).1 bl1 h7) (fun m8 g_9 g_9e => ?_)
    exact k_Disk_append_9_2_b67_ok hp0 hL hF  g_9 lv p6  _ h
def k_Disk_append_9_2_b32 (F : Nat)  (σ : CS) (l0 : Nat) (l1 : Nat) (l2 : Int32) (l3 : Int32) (l4 : Int32) : Option (CS) :=
  (k_Disk_openSegment F σ l0 l3 l4).bind fun p10 =>
  k_Disk_append_9_2_b39 F  p10 l0 l1 l2
set_option maxRecDepth 4000 in
theorem k_Disk_append_9_2_b32_ok {E : CE} {pF : Nat → List Value → xH → Option (Option Value × xH)} (hp0 : xNPc pF) (hL : lcAll E pF) (hF : lcF pF) {d : Nat} {F : Nat}   : ∀ (g : CG) (lv : xL) (σ : CS) (l0 : Nat) (l1 : Nat) (l2 : Int32) (l3 : Int32) (l4 : Int32), (cob σ 6 l0) → (cob σ 9 l1) → (xg lv 0 = some (.ref (coa E 6 l0))) → (xg lv 1 = some (.ref (caa E 9 l1 2))) → (xg lv 2 = some (.int l2)) → (xg lv 3 = some (.int l3)) → (xg lv 4 = some (.int l4)) → ∀ res, k_Disk_append_9_2_b32 F  σ l0 l1 l2 l3 l4 = some res → cR E (cQx [11]) pF (d + 3) kT32 6 5 none none res g σ (32, lv, []) := by
  intro g lv σ l0 l1 l2 l3 l4 bl0 bl1 g0 g1 g2 g3 g4 res h
  unfold k_Disk_append_9_2_b32 at h
  refine cR_lift (fun _ _ kk => eE_aload_n lk32_32 g0 kk) ?_
  refine cR_lift (fun _ _ kk => eE_iload_n lk32_33 g3 kk) ?_
  refine cR_lift (fun _ _ kk => eE_iload lk32_34 g4 kk) ?_
  obtain ⟨p10, h11, h⟩ := Option.bind_eq_some_iff.mp h
  refine cR_virt (cl := 6) (i := l0) (as := [.int l3, .int l4]) lk32_36 mr_6_75 na_44 rfl rfl (by first | exact Nat.le_of_ble_eq_true rfl | (simp [xcat, cvo_cat, cat_i, cat_j, cat_r]; done)) wv_44 wc_44 bl0 (k_Disk_openSegment_ok hp0 hL hF (d := d + 1) bl0 h11) (fun m12  => ?_)
  exact k_Disk_append_9_2_b39_ok hp0 hL hF  g lv p10 l0 l1 l2 (cob_any rfl bl0) (cob_any rfl bl1) g0 g1 g2 _ h
def k_Disk_append_9_2_b0 (F : Nat)  (σ : CS) (l0 : Nat) (l1 : Nat) (l2 : Int32) (l3 : Int32) (l4 : Int32) : Option (CS) :=
  if xc0 .eq (cI σ 6 l0 5 0) = true then (
    k_Disk_append_9_2_b32 F  σ l0 l1 l2 l3 l4
  ) else (
    (crd σ 6 l0 4 ((cI σ 6 l0 5 0) - ((1 : Int32)))).bind fun x14 =>
    (cix 6 0 x14).bind fun n16 =>
    if xc2 .le (cI σ 11 (30 * l0 + cpg n16) 1 0) ((8000 : Int32)) = true then (
      k_Disk_append_9_2_b39 F  σ l0 l1 l2
    ) else (
      k_Disk_append_9_2_b32 F  σ l0 l1 l2 l3 l4
    )
  )
set_option maxRecDepth 4000 in
theorem k_Disk_append_9_2_b0_ok {E : CE} {pF : Nat → List Value → xH → Option (Option Value × xH)} (hp0 : xNPc pF) (hL : lcAll E pF) (hF : lcF pF) {d : Nat} {F : Nat}   : ∀ (g : CG) (lv : xL) (σ : CS) (l0 : Nat) (l1 : Nat) (l2 : Int32) (l3 : Int32) (l4 : Int32), (cob σ 6 l0) → (cob σ 9 l1) → (xg lv 0 = some (.ref (coa E 6 l0))) → (xg lv 1 = some (.ref (caa E 9 l1 2))) → (xg lv 2 = some (.int l2)) → (xg lv 3 = some (.int l3)) → (xg lv 4 = some (.int l4)) → ∀ res, k_Disk_append_9_2_b0 F  σ l0 l1 l2 l3 l4 = some res → cR E (cQx [11]) pF (d + 3) kT32 6 5 none none res g σ (0, lv, []) := by
  intro g lv σ l0 l1 l2 l3 l4 bl0 bl1 g0 g1 g2 g3 g4 res h
  unfold k_Disk_append_9_2_b0 at h
  refine cR_lift (fun _ _ kk => eE_aload_n lk32_0 g0 kk) ?_
  refine cR_getI lk32_1 rf_6_72 rfl bl0 ?_
  refine cR_if (t := 32) lk32_4 (by decide) (fun c13 => ?_) (fun c13 => ?_)
  · rw [if_pos c13] at h
    exact k_Disk_append_9_2_b32_ok hp0 hL hF  g lv σ l0 l1 l2 l3 l4 bl0 bl1 g0 g1 g2 g3 g4 _ h
  · rw [if_neg c13] at h
    refine cR_lift (fun _ _ kk => eE_aload_n lk32_7 g0 kk) ?_
    refine cR_getA lk32_8 rf_6_11 (by decide) bl0 ?_
    refine cR_lift (fun _ _ kk => eE_aload_n lk32_11 g0 kk) ?_
    refine cR_getA lk32_12 rf_6_27 (by decide) bl0 ?_
    refine cR_lift (fun _ _ kk => eE_aload_n lk32_15 g0 kk) ?_
    refine cR_getI lk32_16 rf_6_72 rfl bl0 ?_
    refine cR_lift (fun _ _ kk => eE_iconst (v := 1) lk32_19 (by decide) kk) ?_
    refine cR_lift (fun _ _ kk => eE_isub lk32_20 kk) ?_
    obtain ⟨x14, h15, h⟩ := Option.bind_eq_some_iff.mp h
    refine cR_iald (cl := 6) (i := l0) (f := 4) lk32_21 (by decide) rfl bl0 h15 ?_
    obtain ⟨n16, h17, h⟩ := Option.bind_eq_some_iff.mp h
    refine cR_aald (cl := 6) (i := l0) (f := 0) (cl' := 11) (i' := 30 * l0 + cpg n16) lk32_22 rfl (by decide) bl0 h17 rfl ?_
    refine cR_getI lk32_23 rf_6_38 rfl (cob_pg (c := σ) bl0 (cix_lt h17)).1 ?_
    refine cR_lift (fun _ _ kk => eE_sipush (v := 8000) lk32_26 (by decide) kk) ?_
    refine cR_icmp (t := 39) lk32_29 (by decide) (fun c18 => ?_) (fun c18 => ?_)
    · rw [if_pos c18] at h
      exact k_Disk_append_9_2_b39_ok hp0 hL hF  g lv σ l0 l1 l2 bl0 bl1 g0 g1 g2 _ h
    · rw [if_neg c18] at h
      exact k_Disk_append_9_2_b32_ok hp0 hL hF  g lv σ l0 l1 l2 l3 l4 bl0 bl1 g0 g1 g2 g3 g4 _ h
def k_Disk_append_9_2 (F : Nat) (σ : CS) (l0 : Nat) (l1 : Nat) (l2 : Int32) (l3 : Int32) (l4 : Int32) : Option (CS) := k_Disk_append_9_2_b0 F σ l0 l1 l2 l3 l4
theorem k_Disk_append_9_2_ok {E : CE} {pF : Nat → List Value → xH → Option (Option Value × xH)} (hp0 : xNPc pF) (hL : lcAll E pF) (hF : lcF pF) {d : Nat} {g : CG} {σ : CS} {F : Nat} {l0 : Nat} {l1 : Nat} {l2 : Int32} {l3 : Int32} {l4 : Int32} {res : CS} (bl0 : cob σ 6 l0) (bl1 : cob σ 9 l1) (h : k_Disk_append_9_2 F σ l0 l1 l2 l3 l4 = some res) : cCo E (cQx [11]) pF (d + 4) 32 [.ref (coa E 6 l0), .ref (caa E 9 l1 2), .int l2, .int l3, .int l4] none res g σ :=
  cCo_R kk_32 mo_32 ni_32 xm_32 (Nat.le_of_ble_eq_true rfl) (hp0 32 (by decide) _) (k_Disk_append_9_2_b0_ok hp0 hL hF g _ σ l0 l1 l2 l3 l4 bl0 bl1 rfl rfl rfl rfl rfl _ h)
/-! k_Log_add_9_2 (62), depth 2 -/
def k_Log_add_9_2_b65  (σ : CS) : Option (CS) :=
  some σ
set_option maxRecDepth 4000 in
theorem k_Log_add_9_2_b65_ok {E : CE} {pF : Nat → List Value → xH → Option (Option Value × xH)} (hp0 : xNPc pF) (hL : lcAll E pF) (hF : lcF pF) {d : Nat}   : ∀ (g : CG) (lv : xL) (σ : CS), ∀ res, k_Log_add_9_2_b65  σ = some res → cR E cQ1 pF (d + 1) kT62 9 3 none none res g σ (65, lv, []) := by
  intro g lv σ res h
  unfold k_Log_add_9_2_b65 at h
  cases h
  exact cR_end lk62_65 rfl rfl rfl
def k_Log_add_9_2_b0  (σ : CS) (l0 : Nat) (l1 : Nat) (l2 : Int32) : Option (CS) :=
  (k_Log_length σ l0).bind fun p1 =>
  if xc2 .lt p1 ((300 : Int32)) = true then (
    (k_Log_length σ l0).bind fun p5 =>
    (ccpy σ 9 l1 2 l2 9 l0 1 (p5 * ((6 : Int32))) ((6 : Int32))).bind fun σ8 =>
    (some (csI σ8 9 l0 6 0 ((cI σ8 9 l0 6 0) + ((1 : Int32))))).bind fun σ10 =>
    (crd σ10 9 l1 2 (l2 + ((1 : Int32)))).bind fun x12 =>
    if xc2 .ne x12 ((1 : Int32)) = true then (
      k_Log_add_9_2_b65  σ10
    ) else (
      (crd σ10 9 l1 2 (l2 + ((3 : Int32)))).bind fun x15 =>
      (some (csI σ10 9 l0 7 0 x15)).bind fun σ17 =>
      (some (csI σ17 9 l0 8 0 (cI σ17 9 l0 6 0))).bind fun σ19 =>
      k_Log_add_9_2_b65  σ19
    )
  ) else (
    some σ
  )
set_option maxRecDepth 4000 in
theorem k_Log_add_9_2_b0_ok {E : CE} {pF : Nat → List Value → xH → Option (Option Value × xH)} (hp0 : xNPc pF) (hL : lcAll E pF) (hF : lcF pF) {d : Nat}   : ∀ (g : CG) (lv : xL) (σ : CS) (l0 : Nat) (l1 : Nat) (l2 : Int32), (cob σ 9 l0) → (cob σ 9 l1) → (xg lv 0 = some (.ref (coa E 9 l0))) → (xg lv 1 = some (.ref (caa E 9 l1 2))) → (xg lv 2 = some (.int l2)) → ∀ res, k_Log_add_9_2_b0  σ l0 l1 l2 = some res → cR E cQ1 pF (d + 1) kT62 9 3 none none res g σ (0, lv, []) := by
  intro g lv σ l0 l1 l2 bl0 bl1 g0 g1 g2 res h
  unfold k_Log_add_9_2_b0 at h
  refine cR_lift (fun _ _ kk => eE_aload_n lk62_0 g0 kk) ?_
  obtain ⟨p1, h2, h⟩ := Option.bind_eq_some_iff.mp h
  refine cR_virt (cl := 9) (i := l0) (as := []) lk62_1 mr_9_57 na_69 rfl rfl (by first | exact Nat.le_of_ble_eq_true rfl | (simp [xcat, cvo_cat, cat_i, cat_j, cat_r]; done)) wv_69 wc_69 bl0 (k_Log_length_ok hp0 hL hF (d := d + 0) bl0 h2) (fun m3  => ?_)
  refine cR_lift (fun _ _ kk => eE_sipush (v := 300) lk62_4 (by decide) kk) ?_
  refine cR_icmp (t := 11) lk62_7 (by decide) (fun c4 => ?_) (fun c4 => ?_)
  · rw [if_pos c4] at h
    refine cR_lift (fun _ _ kk => eE_aload_n lk62_11 g1 kk) ?_
    refine cR_lift (fun _ _ kk => eE_iload_n lk62_12 g2 kk) ?_
    refine cR_lift (fun _ _ kk => eE_aload_n lk62_13 g0 kk) ?_
    refine cR_getA lk62_14 rf_9_9 (by decide) bl0 ?_
    refine cR_lift (fun _ _ kk => eE_aload_n lk62_17 g0 kk) ?_
    obtain ⟨p5, h6, h⟩ := Option.bind_eq_some_iff.mp h
    refine cR_virt (cl := 9) (i := l0) (as := []) lk62_18 mr_9_57 na_69 rfl rfl (by first | exact Nat.le_of_ble_eq_true rfl | (simp [xcat, cvo_cat, cat_i, cat_j, cat_r]; done)) wv_69 wc_69 bl0 (k_Log_length_ok hp0 hL hF (d := d + 0) bl0 h6) (fun m7  => ?_)
    refine cR_lift (fun _ _ kk => eE_bipush (v := 6) lk62_21 (by decide) kk) ?_
    refine cR_lift (fun _ _ kk => eE_imul lk62_23 kk) ?_
    refine cR_lift (fun _ _ kk => eE_bipush (v := 6) lk62_24 (by decide) kk) ?_
    obtain ⟨σ8, h9, h⟩ := Option.bind_eq_some_iff.mp h
    refine cR_cpy (a := 9) (i := l1) (f := 2) (a' := 9) (i' := l0) (f' := 1) lk62_26 yc_9_61.1 yc_9_61.2 (by decide) (by decide) (by decide) bl1 bl0 (by first | exact Nat.le_of_ble_eq_true rfl | (simp [xcat, cvo_cat, cat_i, cat_j, cat_r]; done)) h9 ?_
    refine cR_lift (fun _ _ kk => eE_aload_n lk62_29 g0 kk) ?_
    refine cR_lift (fun _ _ kk => eE_dup lk62_30 rfl kk) ?_
    refine cR_getI lk62_31 rf_9_34 rfl (cob_any rfl bl0) ?_
    refine cR_lift (fun _ _ kk => eE_iconst (v := 1) lk62_34 (by decide) kk) ?_
    refine cR_lift (fun _ _ kk => eE_iadd lk62_35 kk) ?_
    obtain ⟨σ10, h11, h⟩ := Option.bind_eq_some_iff.mp h
    refine cR_putI lk62_36 rf_9_34 rfl (cob_any rfl bl0) pf_9_6 rfl h11 ?_
    refine cR_lift (fun _ _ kk => eE_aload_n lk62_39 g1 kk) ?_
    refine cR_lift (fun _ _ kk => eE_iload_n lk62_40 g2 kk) ?_
    refine cR_lift (fun _ _ kk => eE_iconst (v := 1) lk62_41 (by decide) kk) ?_
    refine cR_lift (fun _ _ kk => eE_iadd lk62_42 kk) ?_
    obtain ⟨x12, h13, h⟩ := Option.bind_eq_some_iff.mp h
    refine cR_iald (cl := 9) (i := l1) (f := 2) lk62_43 (by decide) rfl (cob_any rfl bl1) h13 ?_
    refine cR_lift (fun _ _ kk => eE_iconst (v := 1) lk62_44 (by decide) kk) ?_
    refine cR_icmp (t := 65) lk62_45 (by decide) (fun c14 => ?_) (fun c14 => ?_)
    · rw [if_pos c14] at h
      exact k_Log_add_9_2_b65_ok hp0 hL hF  g lv σ10  _ h
    · rw [if_neg c14] at h
      refine cR_lift (fun _ _ kk => eE_aload_n lk62_48 g0 kk) ?_
      refine cR_lift (fun _ _ kk => eE_aload_n lk62_49 g1 kk) ?_
      refine cR_lift (fun _ _ kk => eE_iload_n lk62_50 g2 kk) ?_
      refine cR_lift (fun _ _ kk => eE_iconst (v := 3) lk62_51 (by decide) kk) ?_
      refine cR_lift (fun _ _ kk => eE_iadd lk62_52 kk) ?_
      obtain ⟨x15, h16, h⟩ := Option.bind_eq_some_iff.mp h
      refine cR_iald (cl := 9) (i := l1) (f := 2) lk62_53 (by decide) rfl (cob_any rfl bl1) h16 ?_
      obtain ⟨σ17, h18, h⟩ := Option.bind_eq_some_iff.mp h
      refine cR_putI lk62_54 rf_9_25 rfl (cob_any rfl bl0) pf_9_7 rfl h18 ?_
      refine cR_lift (fun _ _ kk => eE_aload_n lk62_57 g0 kk) ?_
      refine cR_lift (fun _ _ kk => eE_aload_n lk62_58 g0 kk) ?_
      refine cR_getI lk62_59 rf_9_34 rfl (cob_any rfl bl0) ?_
      obtain ⟨σ19, h20, h⟩ := Option.bind_eq_some_iff.mp h
      refine cR_putI lk62_62 rf_9_67 rfl (cob_any rfl bl0) pf_9_8 rfl h20 ?_
      exact k_Log_add_9_2_b65_ok hp0 hL hF  g lv σ19  _ h
  · rw [if_neg c4] at h
    cases h
    exact cR_end lk62_10 rfl rfl rfl
def k_Log_add_9_2 (σ : CS) (l0 : Nat) (l1 : Nat) (l2 : Int32) : Option (CS) := k_Log_add_9_2_b0 σ l0 l1 l2
theorem k_Log_add_9_2_ok {E : CE} {pF : Nat → List Value → xH → Option (Option Value × xH)} (hp0 : xNPc pF) (hL : lcAll E pF) (hF : lcF pF) {d : Nat} {g : CG} {σ : CS} {l0 : Nat} {l1 : Nat} {l2 : Int32} {res : CS} (bl0 : cob σ 9 l0) (bl1 : cob σ 9 l1) (h : k_Log_add_9_2 σ l0 l1 l2 = some res) : cCo E cQ1 pF (d + 2) 62 [.ref (coa E 9 l0), .ref (caa E 9 l1 2), .int l2] none res g σ :=
  cCo_R kk_62 mo_62 ni_62 xm_62 (Nat.le_of_ble_eq_true rfl) (hp0 62 (by decide) _) (k_Log_add_9_2_b0_ok hp0 hL hF g _ σ l0 l1 l2 bl0 bl1 rfl rfl rfl _ h)
/-! k_Server_append_9_2 (122), depth 5 -/
def k_Server_append_9_2_b58 (F : Nat)  (σ : CS) : Option (CS) :=
  some σ
set_option maxRecDepth 4000 in
theorem k_Server_append_9_2_b58_ok {E : CE} {pF : Nat → List Value → xH → Option (Option Value × xH)} (hp0 : xNPc pF) (hL : lcAll E pF) (hF : lcF pF) {d : Nat} {F : Nat}   : ∀ (g : CG) (lv : xL) (σ : CS), ∀ res, k_Server_append_9_2_b58 F  σ = some res → cR E (cQx [11]) pF (d + 4) kT122 13 3 none none res g σ (58, lv, []) := by
  intro g lv σ res h
  unfold k_Server_append_9_2_b58 at h
  cases h
  exact cR_end lk122_58 rfl rfl rfl
def k_Server_append_9_2_b0 (F : Nat)  (σ : CS) (l0 : Nat) (l1 : Nat) (l2 : Int32) : Option (CS) :=
  (k_Log_length σ l0).bind fun p1 =>
  if xc2 .ge p1 ((300 : Int32)) = true then (
    k_Server_append_9_2_b58 F  σ
  ) else (
    (k_Log_termAt σ l0 (cI σ 9 l0 6 0)).bind fun p5 =>
    (k_Disk_append_9_2 F σ l0 l1 l2 ((cI σ 9 l0 6 0) + ((1 : Int32))) p5).bind fun p8 =>
    (k_Log_add_9_2 p8 l0 l1 l2).bind fun p12 =>
    (k_Server_soil p12 l0).bind fun p15 =>
    k_Server_append_9_2_b58 F  p15
  )
set_option maxRecDepth 4000 in
theorem k_Server_append_9_2_b0_ok {E : CE} {pF : Nat → List Value → xH → Option (Option Value × xH)} (hp0 : xNPc pF) (hL : lcAll E pF) (hF : lcF pF) {d : Nat} {F : Nat}   : ∀ (g : CG) (lv : xL) (σ : CS) (l0 : Nat) (l1 : Nat) (l2 : Int32), (cob σ 13 l0) → (cob σ 9 l1) → (xg lv 0 = some (.ref (coa E 13 l0))) → (xg lv 1 = some (.ref (caa E 9 l1 2))) → (xg lv 2 = some (.int l2)) → ∀ res, k_Server_append_9_2_b0 F  σ l0 l1 l2 = some res → cR E (cQx [11]) pF (d + 4) kT122 13 3 none none res g σ (0, lv, []) := by
  intro g lv σ l0 l1 l2 bl0 bl1 g0 g1 g2 res h
  unfold k_Server_append_9_2_b0 at h
  refine cR_lift (fun _ _ kk => eE_aload_n lk122_0 g0 kk) ?_
  refine cR_getO (cl' := 9) (i' := l0) lk122_1 rf_13_72 rfl rfl bl0 ?_
  obtain ⟨p1, h2, h⟩ := Option.bind_eq_some_iff.mp h
  refine cR_virt (cl := 9) (i := l0) (as := []) lk122_4 mr_13_326 na_69 rfl rfl (by first | exact Nat.le_of_ble_eq_true rfl | (simp [xcat, cvo_cat, cat_i, cat_j, cat_r]; done)) wv_69 wc_69 (cob_s (cl := 9) bl0 (by decide) rfl rfl) (k_Log_length_ok hp0 hL hF (d := d + 3) (cob_s (cl := 9) bl0 (by decide) rfl rfl) h2) (fun m3  => ?_)
  refine cR_lift (fun _ _ kk => eE_sipush (v := 300) lk122_7 (by decide) kk) ?_
  refine cR_icmp (t := 58) lk122_10 (by decide) (fun c4 => ?_) (fun c4 => ?_)
  · rw [if_pos c4] at h
    exact k_Server_append_9_2_b58_ok hp0 hL hF  g lv σ  _ h
  · rw [if_neg c4] at h
    refine cR_lift (fun _ _ kk => eE_aload_n lk122_13 g0 kk) ?_
    refine cR_getO (cl' := 6) (i' := l0) lk122_14 rf_13_12 rfl rfl bl0 ?_
    refine cR_lift (fun _ _ kk => eE_aload_n lk122_17 g1 kk) ?_
    refine cR_lift (fun _ _ kk => eE_iload_n lk122_18 g2 kk) ?_
    refine cR_lift (fun _ _ kk => eE_aload_n lk122_19 g0 kk) ?_
    refine cR_getO (cl' := 9) (i' := l0) lk122_20 rf_13_72 rfl rfl bl0 ?_
    refine cR_getI lk122_23 rf_13_103 rfl (cob_s (cl := 9) bl0 (by decide) rfl rfl) ?_
    refine cR_lift (fun _ _ kk => eE_iconst (v := 1) lk122_26 (by decide) kk) ?_
    refine cR_lift (fun _ _ kk => eE_iadd lk122_27 kk) ?_
    refine cR_lift (fun _ _ kk => eE_aload_n lk122_28 g0 kk) ?_
    refine cR_getO (cl' := 9) (i' := l0) lk122_29 rf_13_72 rfl rfl bl0 ?_
    refine cR_lift (fun _ _ kk => eE_aload_n lk122_32 g0 kk) ?_
    refine cR_getO (cl' := 9) (i' := l0) lk122_33 rf_13_72 rfl rfl bl0 ?_
    refine cR_getI lk122_36 rf_13_103 rfl (cob_s (cl := 9) bl0 (by decide) rfl rfl) ?_
    obtain ⟨p5, h6, h⟩ := Option.bind_eq_some_iff.mp h
    refine cR_virt (cl := 9) (i := l0) (as := [.int (cI σ 9 l0 6 0)]) lk122_39 mr_13_311 na_75 rfl rfl (by first | exact Nat.le_of_ble_eq_true rfl | (simp [xcat, cvo_cat, cat_i, cat_j, cat_r]; done)) wv_75 wc_75 (cob_s (cl := 9) bl0 (by decide) rfl rfl) (k_Log_termAt_ok hp0 hL hF (d := d + 2) (cob_s (cl := 9) bl0 (by decide) rfl rfl) h6) (fun m7  => ?_)
    obtain ⟨p8, h9, h⟩ := Option.bind_eq_some_iff.mp h
    refine cR_virtG (by exact cQx_sub rfl) (cl := 6) (i := l0) (as := [.ref (caa E 9 l1 2), .int l2, .int ((cI σ 9 l0 6 0) + ((1 : Int32))), .int p5]) lk122_42 mr_13_328 na_32 rfl rfl (by first | exact Nat.le_of_ble_eq_true rfl | (simp [xcat, cvo_cat, cat_i, cat_j, cat_r]; done)) wv_32 wc_32 (cob_s (cl := 6) bl0 (by decide) rfl rfl) (k_Disk_append_9_2_ok hp0 hL hF (d := d + 0) (cob_s (cl := 6) bl0 (by decide) rfl rfl) bl1 h9) (fun m10 g_11 g_11e => ?_)
    refine cR_lift (fun _ _ kk => eE_aload_n lk122_45 g0 kk) ?_
    refine cR_getO (cl' := 9) (i' := l0) lk122_46 rf_13_72 rfl rfl (cob_any rfl bl0) ?_
    refine cR_lift (fun _ _ kk => eE_aload_n lk122_49 g1 kk) ?_
    refine cR_lift (fun _ _ kk => eE_iload_n lk122_50 g2 kk) ?_
    obtain ⟨p12, h13, h⟩ := Option.bind_eq_some_iff.mp h
    refine cR_virt (cl := 9) (i := l0) (as := [.ref (caa E 9 l1 2), .int l2]) lk122_51 mr_13_305 na_62 rfl rfl (by first | exact Nat.le_of_ble_eq_true rfl | (simp [xcat, cvo_cat, cat_i, cat_j, cat_r]; done)) wv_62 wc_62 (cob_s (cl := 9) (cob_any rfl bl0) (by decide) rfl rfl) (k_Log_add_9_2_ok hp0 hL hF (d := d + 2) (cob_s (cl := 9) (cob_any rfl bl0) (by decide) rfl rfl) (cob_any rfl bl1) h13) (fun m14  => ?_)
    refine cR_lift (fun _ _ kk => eE_aload_n lk122_54 g0 kk) ?_
    obtain ⟨p15, h16, h⟩ := Option.bind_eq_some_iff.mp h
    refine cR_virt (cl := 13) (i := l0) (as := []) lk122_55 mr_13_323 na_165 rfl rfl (by first | exact Nat.le_of_ble_eq_true rfl | (simp [xcat, cvo_cat, cat_i, cat_j, cat_r]; done)) wv_165 wc_165 (cob_any rfl bl0) (k_Server_soil_ok hp0 hL hF (d := d + 2) (cob_any rfl bl0) h16) (fun m17  => ?_)
    exact k_Server_append_9_2_b58_ok hp0 hL hF  g_11 lv p15  _ h
def k_Server_append_9_2 (F : Nat) (σ : CS) (l0 : Nat) (l1 : Nat) (l2 : Int32) : Option (CS) := k_Server_append_9_2_b0 F σ l0 l1 l2
theorem k_Server_append_9_2_ok {E : CE} {pF : Nat → List Value → xH → Option (Option Value × xH)} (hp0 : xNPc pF) (hL : lcAll E pF) (hF : lcF pF) {d : Nat} {g : CG} {σ : CS} {F : Nat} {l0 : Nat} {l1 : Nat} {l2 : Int32} {res : CS} (bl0 : cob σ 13 l0) (bl1 : cob σ 9 l1) (h : k_Server_append_9_2 F σ l0 l1 l2 = some res) : cCo E (cQx [11]) pF (d + 5) 122 [.ref (coa E 13 l0), .ref (caa E 9 l1 2), .int l2] none res g σ :=
  cCo_R kk_122 mo_122 ni_122 xm_122 (Nat.le_of_ble_eq_true rfl) (hp0 122 (by decide) _) (k_Server_append_9_2_b0_ok hp0 hL hF g _ σ l0 l1 l2 bl0 bl1 rfl rfl rfl _ h)
/-! k_Server_stepDown (166), depth 4 -/
def k_Server_stepDown_b48 (F : Nat)  (σ : CS) (l0 : Nat) (l2 : Int32) : Option (CS) :=
  (k_Server_follow σ l0 l2).bind fun p1 =>
  some p1
set_option maxRecDepth 4000 in
theorem k_Server_stepDown_b48_ok {E : CE} {pF : Nat → List Value → xH → Option (Option Value × xH)} (hp0 : xNPc pF) (hL : lcAll E pF) (hF : lcF pF) {d : Nat} {F : Nat}   : ∀ (g : CG) (lv : xL) (σ : CS) (l0 : Nat) (l2 : Int32), (cob σ 13 l0) → (xg lv 0 = some (.ref (coa E 13 l0))) → (xg lv 2 = some (.int l2)) → ∀ res, k_Server_stepDown_b48 F  σ l0 l2 = some res → cR E cQ1 pF (d + 3) kT166 13 3 none none res g σ (48, lv, []) := by
  intro g lv σ l0 l2 bl0 g0 g2 res h
  unfold k_Server_stepDown_b48 at h
  refine cR_lift (fun _ _ kk => eE_aload_n lk166_48 g0 kk) ?_
  refine cR_lift (fun _ _ kk => eE_iload_n lk166_49 g2 kk) ?_
  obtain ⟨p1, h2, h⟩ := Option.bind_eq_some_iff.mp h
  refine cR_virt (cl := 13) (i := l0) (as := [.int l2]) lk166_50 mr_13_428 na_135 rfl rfl (by first | exact Nat.le_of_ble_eq_true rfl | (simp [xcat, cvo_cat, cat_i, cat_j, cat_r]; done)) wv_135 wc_135 bl0 (k_Server_follow_ok hp0 hL hF (d := d + 2) bl0 h2) (fun m3  => ?_)
  cases h
  exact cR_end lk166_53 rfl rfl rfl
def k_Server_stepDown_b14 (F : Nat)  (σ : CS) (l0 : Nat) (l2 : Int32) : Option (CS) :=
  if xc2 .ne (cI σ 13 l0 12 0) ((3 : Int32)) = true then (
    k_Server_stepDown_b48 F  σ l0 l2
  ) else (
    (k_World_drawAlarm σ 0 (cI σ 13 l0 0 0)).bind fun p5 =>
    (k_Requests_dropAll F p5 l0).bind fun p8 =>
    (some (csI p8 7 l0 10 0 ((-1 : Int32)))).bind fun σ11 =>
    k_Server_stepDown_b48 F  σ11 l0 l2
  )
set_option maxRecDepth 4000 in
theorem k_Server_stepDown_b14_ok {E : CE} {pF : Nat → List Value → xH → Option (Option Value × xH)} (hp0 : xNPc pF) (hL : lcAll E pF) (hF : lcF pF) {d : Nat} {F : Nat}   : ∀ (g : CG) (lv : xL) (σ : CS) (l0 : Nat) (l2 : Int32), (cob σ 13 l0) → (xg lv 0 = some (.ref (coa E 13 l0))) → (xg lv 2 = some (.int l2)) → ∀ res, k_Server_stepDown_b14 F  σ l0 l2 = some res → cR E cQ1 pF (d + 3) kT166 13 3 none none res g σ (14, lv, []) := by
  intro g lv σ l0 l2 bl0 g0 g2 res h
  unfold k_Server_stepDown_b14 at h
  refine cR_lift (fun _ _ kk => eE_aload_n lk166_14 g0 kk) ?_
  refine cR_getI lk166_15 rf_13_85 rfl bl0 ?_
  refine cR_lift (fun _ _ kk => eE_iconst (v := 3) lk166_18 (by decide) kk) ?_
  refine cR_icmp (t := 48) lk166_19 (by decide) (fun c4 => ?_) (fun c4 => ?_)
  · rw [if_pos c4] at h
    exact k_Server_stepDown_b48_ok hp0 hL hF  g lv σ l0 l2 bl0 g0 g2 _ h
  · rw [if_neg c4] at h
    refine cR_lift (fun _ _ kk => eE_aload_n lk166_22 g0 kk) ?_
    refine cR_getO (cl' := 14) (i' := 0) lk166_23 rf_13_63 rfl rfl bl0 ?_
    refine cR_lift (fun _ _ kk => eE_aload_n lk166_26 g0 kk) ?_
    refine cR_getI lk166_27 rf_13_60 rfl bl0 ?_
    obtain ⟨p5, h6, h⟩ := Option.bind_eq_some_iff.mp h
    refine cR_virt (cl := 14) (i := 0) (as := [.int (cI σ 13 l0 0 0)]) lk166_30 mr_13_251 na_188 rfl rfl (by first | exact Nat.le_of_ble_eq_true rfl | (simp [xcat, cvo_cat, cat_i, cat_j, cat_r]; done)) wv_188 wc_188 (cob_0 (c := σ) (cl := 14) (by decide) rfl rfl) (k_World_drawAlarm_ok hp0 hL hF (d := d + 1) (cob_0 (c := σ) (cl := 14) (by decide) rfl rfl) h6) (fun m7  => ?_)
    refine cR_lift (fun _ _ kk => eE_aload_n lk166_33 g0 kk) ?_
    refine cR_getO (cl' := 12) (i' := l0) lk166_34 rf_13_28 rfl rfl (cob_any rfl bl0) ?_
    obtain ⟨p8, h9, h⟩ := Option.bind_eq_some_iff.mp h
    refine cR_virt (cl := 12) (i := l0) (as := []) lk166_37 mr_13_248 na_117 rfl rfl (by first | exact Nat.le_of_ble_eq_true rfl | (simp [xcat, cvo_cat, cat_i, cat_j, cat_r]; done)) wv_117 wc_117 (cob_s (cl := 12) (cob_any rfl bl0) (by decide) rfl rfl) (k_Requests_dropAll_ok hp0 hL hF (d := d + 2) (cob_s (cl := 12) (cob_any rfl bl0) (by decide) rfl rfl) h9) (fun m10  => ?_)
    refine cR_lift (fun _ _ kk => eE_aload_n lk166_40 g0 kk) ?_
    refine cR_getO (cl' := 7) (i' := l0) lk166_41 rf_13_21 rfl rfl (cob_any rfl bl0) ?_
    refine cR_lift (fun _ _ kk => eE_iconst (v := (-1)) lk166_44 (by decide) kk) ?_
    obtain ⟨σ11, h12, h⟩ := Option.bind_eq_some_iff.mp h
    refine cR_putI lk166_45 rf_13_112 rfl (cob_s (cl := 7) (cob_any rfl bl0) (by decide) rfl rfl) pf_7_10 rfl h12 ?_
    exact k_Server_stepDown_b48_ok hp0 hL hF  g lv σ11 l0 l2 (cob_any rfl bl0) g0 g2 _ h
def k_Server_stepDown_b0 (F : Nat)  (σ : CS) (l0 : Nat) (l1 : Int32) (l2 : Int32) : Option (CS) :=
  if xc2 .le l1 (cI σ 13 l0 10 0) = true then (
    k_Server_stepDown_b14 F  σ l0 l2
  ) else (
    (k_Server_saveTerm σ l0 l1 ((-1 : Int32))).bind fun p14 =>
    k_Server_stepDown_b14 F  p14 l0 l2
  )
set_option maxRecDepth 4000 in
theorem k_Server_stepDown_b0_ok {E : CE} {pF : Nat → List Value → xH → Option (Option Value × xH)} (hp0 : xNPc pF) (hL : lcAll E pF) (hF : lcF pF) {d : Nat} {F : Nat}   : ∀ (g : CG) (lv : xL) (σ : CS) (l0 : Nat) (l1 : Int32) (l2 : Int32), (cob σ 13 l0) → (xg lv 0 = some (.ref (coa E 13 l0))) → (xg lv 1 = some (.int l1)) → (xg lv 2 = some (.int l2)) → ∀ res, k_Server_stepDown_b0 F  σ l0 l1 l2 = some res → cR E cQ1 pF (d + 3) kT166 13 3 none none res g σ (0, lv, []) := by
  intro g lv σ l0 l1 l2 bl0 g0 g1 g2 res h
  unfold k_Server_stepDown_b0 at h
  refine cR_lift (fun _ _ kk => eE_iload_n lk166_0 g1 kk) ?_
  refine cR_lift (fun _ _ kk => eE_aload_n lk166_1 g0 kk) ?_
  refine cR_getI lk166_2 rf_13_88 rfl bl0 ?_
  refine cR_icmp (t := 14) lk166_5 (by decide) (fun c13 => ?_) (fun c13 => ?_)
  · rw [if_pos c13] at h
    exact k_Server_stepDown_b14_ok hp0 hL hF  g lv σ l0 l2 bl0 g0 g2 _ h
  · rw [if_neg c13] at h
    refine cR_lift (fun _ _ kk => eE_aload_n lk166_8 g0 kk) ?_
    refine cR_lift (fun _ _ kk => eE_iload_n lk166_9 g1 kk) ?_
    refine cR_lift (fun _ _ kk => eE_iconst (v := (-1)) lk166_10 (by decide) kk) ?_
    obtain ⟨p14, h15, h⟩ := Option.bind_eq_some_iff.mp h
    refine cR_virt (cl := 13) (i := l0) (as := [.int l1, .int ((-1 : Int32))]) lk166_11 mr_13_425 na_156 rfl rfl (by first | exact Nat.le_of_ble_eq_true rfl | (simp [xcat, cvo_cat, cat_i, cat_j, cat_r]; done)) wv_156 wc_156 bl0 (k_Server_saveTerm_ok hp0 hL hF (d := d + 0) bl0 h15) (fun m16  => ?_)
    exact k_Server_stepDown_b14_ok hp0 hL hF  g lv p14 l0 l2 (cob_any rfl bl0) g0 g2 _ h
def k_Server_stepDown (F : Nat) (σ : CS) (l0 : Nat) (l1 : Int32) (l2 : Int32) : Option (CS) := k_Server_stepDown_b0 F σ l0 l1 l2
theorem k_Server_stepDown_ok {E : CE} {pF : Nat → List Value → xH → Option (Option Value × xH)} (hp0 : xNPc pF) (hL : lcAll E pF) (hF : lcF pF) {d : Nat} {g : CG} {σ : CS} {F : Nat} {l0 : Nat} {l1 : Int32} {l2 : Int32} {res : CS} (bl0 : cob σ 13 l0) (h : k_Server_stepDown F σ l0 l1 l2 = some res) : cCo E cQ1 pF (d + 4) 166 [.ref (coa E 13 l0), .int l1, .int l2] none res g σ :=
  cCo_R kk_166 mo_166 ni_166 xm_166 (Nat.le_of_ble_eq_true rfl) (hp0 166 (by decide) _) (k_Server_stepDown_b0_ok hp0 hL hF g _ σ l0 l1 l2 bl0 rfl rfl rfl _ h)
/-! k_Server_moveMembers (149), depth 6 -/
def k_Server_moveMembers_b124 (F : Nat)  (σ : CS) : Option (CS) :=
  some σ
set_option maxRecDepth 4000 in
theorem k_Server_moveMembers_b124_ok {E : CE} {pF : Nat → List Value → xH → Option (Option Value × xH)} (hp0 : xNPc pF) (hL : lcAll E pF) (hF : lcF pF) {d : Nat} {F : Nat}   : ∀ (g : CG) (lv : xL) (σ : CS), ∀ res, k_Server_moveMembers_b124 F  σ = some res → cR E (cQx [11]) pF (d + 5) kT149 13 2 none none res g σ (124, lv, []) := by
  intro g lv σ res h
  unfold k_Server_moveMembers_b124 at h
  cases h
  exact cR_end lk149_124 rfl rfl rfl
def k_Server_moveMembers_b0 (F : Nat)  (σ : CS) (l0 : Nat) : Option (CS) :=
  if xc2 .le (cI σ 9 l0 8 0) (cI σ 9 l0 9 0) = true then (
    if xc0 .eq (((cI σ 9 l0 7 0) >>> (((7 : Int32)) &&& 31)) &&& ((127 : Int32))) = true then (
      if xc0 .ne (((cI σ 9 l0 7 0) >>> ((cI σ 13 l0 0 0) &&& 31)) &&& ((1 : Int32))) = true then (
        k_Server_moveMembers_b124 F  σ
      ) else (
        (k_Server_stepDown F σ l0 (cI σ 13 l0 10 0) ((-1 : Int32))).bind fun p8 =>
        k_Server_moveMembers_b124 F  p8
      )
    ) else (
      (k_Log_length σ l0).bind fun p11 =>
      if xc2 .ge p11 ((300 : Int32)) = true then (
        k_Server_moveMembers_b124 F  σ
      ) else (
        (k_Log_rowOf σ l0 (cI σ 13 l0 10 0) ((1 : Int32)) ((4 : Int32)) ((((cI σ 9 l0 7 0) >>> (((7 : Int32)) &&& 31)) &&& ((127 : Int32))) ||| (((cI σ 9 l0 7 0) >>> (((14 : Int32)) &&& 31)) <<< (((14 : Int32)) &&& 31))) ((0 : Int32)) ((-1 : Int32))).bind fun p15 =>
        (k_Server_append_9_2 F p15.2 l0 p15.1 ((0 : Int32))).bind fun p19 =>
        (some (csI p19 13 l0 19 0 ((cI p19 13 l0 19 0) ||| ((64 : Int32))))).bind fun σ23 =>
        k_Server_moveMembers_b124 F  σ23
      )
    )
  ) else (
    some σ
  )
set_option maxRecDepth 4000 in
theorem k_Server_moveMembers_b0_ok {E : CE} {pF : Nat → List Value → xH → Option (Option Value × xH)} (hp0 : xNPc pF) (hL : lcAll E pF) (hF : lcF pF) {d : Nat} {F : Nat}   : ∀ (g : CG) (lv : xL) (σ : CS) (l0 : Nat), (cob σ 13 l0) → (xg lv 0 = some (.ref (coa E 13 l0))) → ∀ res, k_Server_moveMembers_b0 F  σ l0 = some res → cR E (cQx [11]) pF (d + 5) kT149 13 2 none none res g σ (0, lv, []) := by
  intro g lv σ l0 bl0 g0 res h
  unfold k_Server_moveMembers_b0 at h
  refine cR_lift (fun _ _ kk => eE_aload_n lk149_0 g0 kk) ?_
  refine cR_getO (cl' := 9) (i' := l0) lk149_1 rf_13_72 rfl rfl bl0 ?_
  refine cR_getI lk149_4 rf_13_559 rfl (cob_s (cl := 9) bl0 (by decide) rfl rfl) ?_
  refine cR_lift (fun _ _ kk => eE_aload_n lk149_7 g0 kk) ?_
  refine cR_getO (cl' := 9) (i' := l0) lk149_8 rf_13_72 rfl rfl bl0 ?_
  refine cR_getI lk149_11 rf_13_91 rfl (cob_s (cl := 9) bl0 (by decide) rfl rfl) ?_
  refine cR_icmp (t := 18) lk149_14 (by decide) (fun c1 => ?_) (fun c1 => ?_)
  · rw [if_pos c1] at h
    refine cR_lift (fun _ _ kk => eE_aload_n lk149_18 g0 kk) ?_
    refine cR_getO (cl' := 9) (i' := l0) lk149_19 rf_13_72 rfl rfl bl0 ?_
    refine cR_getI lk149_22 rf_13_106 rfl (cob_s (cl := 9) bl0 (by decide) rfl rfl) ?_
    refine cR_lift (fun _ _ kk => eE_bipush (v := 7) lk149_25 (by decide) kk) ?_
    refine cR_lift (fun _ _ kk => eE_ishr lk149_27 kk) ?_
    refine cR_lift (fun _ _ kk => eE_bipush (v := 127) lk149_28 (by decide) kk) ?_
    refine cR_lift (fun _ _ kk => eE_iand lk149_30 kk) ?_
    refine cR_stI (j := 1) lk149_31 (Or.inr ⟨_, rfl, rfl⟩) (by decide) (fun vq2 gq3 kq4 => ?_)
    have gq5 := kq4 0 _ (by decide) (fun _ => rfl) g0
    refine cR_lift (fun _ _ kk => eE_iload_n lk149_32 gq3 kk) ?_
    refine cR_if (t := 98) lk149_33 (by decide) (fun c6 => ?_) (fun c6 => ?_)
    · rw [if_pos c6] at h
      refine cR_lift (fun _ _ kk => eE_aload_n lk149_98 gq5 kk) ?_
      refine cR_getO (cl' := 9) (i' := l0) lk149_99 rf_13_72 rfl rfl bl0 ?_
      refine cR_getI lk149_102 rf_13_106 rfl (cob_s (cl := 9) bl0 (by decide) rfl rfl) ?_
      refine cR_lift (fun _ _ kk => eE_aload_n lk149_105 gq5 kk) ?_
      refine cR_getI lk149_106 rf_13_60 rfl bl0 ?_
      refine cR_lift (fun _ _ kk => eE_ishr lk149_109 kk) ?_
      refine cR_lift (fun _ _ kk => eE_iconst (v := 1) lk149_110 (by decide) kk) ?_
      refine cR_lift (fun _ _ kk => eE_iand lk149_111 kk) ?_
      refine cR_if (t := 124) lk149_112 (by decide) (fun c7 => ?_) (fun c7 => ?_)
      · rw [if_pos c7] at h
        exact k_Server_moveMembers_b124_ok hp0 hL hF  g vq2 σ  _ h
      · rw [if_neg c7] at h
        refine cR_lift (fun _ _ kk => eE_aload_n lk149_115 gq5 kk) ?_
        refine cR_lift (fun _ _ kk => eE_aload_n lk149_116 gq5 kk) ?_
        refine cR_getI lk149_117 rf_13_88 rfl bl0 ?_
        refine cR_lift (fun _ _ kk => eE_iconst (v := (-1)) lk149_120 (by decide) kk) ?_
        obtain ⟨p8, h9, h⟩ := Option.bind_eq_some_iff.mp h
        refine cR_virt (cl := 13) (i := l0) (as := [.int (cI σ 13 l0 10 0), .int ((-1 : Int32))]) lk149_121 mr_13_438 na_166 rfl rfl (by first | exact Nat.le_of_ble_eq_true rfl | (simp [xcat, cvo_cat, cat_i, cat_j, cat_r]; done)) wv_166 wc_166 bl0 (k_Server_stepDown_ok hp0 hL hF (d := d + 1) bl0 h9) (fun m10  => ?_)
        exact k_Server_moveMembers_b124_ok hp0 hL hF  g vq2 p8  _ h
    · rw [if_neg c6] at h
      refine cR_lift (fun _ _ kk => eE_aload_n lk149_36 gq5 kk) ?_
      refine cR_getO (cl' := 9) (i' := l0) lk149_37 rf_13_72 rfl rfl bl0 ?_
      obtain ⟨p11, h12, h⟩ := Option.bind_eq_some_iff.mp h
      refine cR_virt (cl := 9) (i := l0) (as := []) lk149_40 mr_13_326 na_69 rfl rfl (by first | exact Nat.le_of_ble_eq_true rfl | (simp [xcat, cvo_cat, cat_i, cat_j, cat_r]; done)) wv_69 wc_69 (cob_s (cl := 9) bl0 (by decide) rfl rfl) (k_Log_length_ok hp0 hL hF (d := d + 4) (cob_s (cl := 9) bl0 (by decide) rfl rfl) h12) (fun m13  => ?_)
      refine cR_lift (fun _ _ kk => eE_sipush (v := 300) lk149_43 (by decide) kk) ?_
      refine cR_icmp (t := 124) lk149_46 (by decide) (fun c14 => ?_) (fun c14 => ?_)
      · rw [if_pos c14] at h
        exact k_Server_moveMembers_b124_ok hp0 hL hF  g vq2 σ  _ h
      · rw [if_neg c14] at h
        refine cR_lift (fun _ _ kk => eE_aload_n lk149_49 gq5 kk) ?_
        refine cR_lift (fun _ _ kk => eE_aload_n lk149_50 gq5 kk) ?_
        refine cR_getO (cl' := 9) (i' := l0) lk149_51 rf_13_72 rfl rfl bl0 ?_
        refine cR_lift (fun _ _ kk => eE_aload_n lk149_54 gq5 kk) ?_
        refine cR_getI lk149_55 rf_13_88 rfl bl0 ?_
        refine cR_lift (fun _ _ kk => eE_iconst (v := 1) lk149_58 (by decide) kk) ?_
        refine cR_lift (fun _ _ kk => eE_iconst (v := 4) lk149_59 (by decide) kk) ?_
        refine cR_lift (fun _ _ kk => eE_iload_n lk149_60 gq3 kk) ?_
        refine cR_lift (fun _ _ kk => eE_aload_n lk149_61 gq5 kk) ?_
        refine cR_getO (cl' := 9) (i' := l0) lk149_62 rf_13_72 rfl rfl bl0 ?_
        refine cR_getI lk149_65 rf_13_106 rfl (cob_s (cl := 9) bl0 (by decide) rfl rfl) ?_
        refine cR_lift (fun _ _ kk => eE_bipush (v := 14) lk149_68 (by decide) kk) ?_
        refine cR_lift (fun _ _ kk => eE_ishr lk149_70 kk) ?_
        refine cR_lift (fun _ _ kk => eE_bipush (v := 14) lk149_71 (by decide) kk) ?_
        refine cR_lift (fun _ _ kk => eE_ishl lk149_73 kk) ?_
        refine cR_lift (fun _ _ kk => eE_ior lk149_74 kk) ?_
        refine cR_lift (fun _ _ kk => eE_iconst (v := 0) lk149_75 (by decide) kk) ?_
        refine cR_lift (fun _ _ kk => eE_iconst (v := (-1)) lk149_76 (by decide) kk) ?_
        obtain ⟨p15, h16, h⟩ := Option.bind_eq_some_iff.mp h
        refine cR_rep (fun _ hc => k_Log_rowOf_lt hc (cob_s (cl := 9) bl0 (by decide) rfl rfl) h16) (fun b17 => ?_)
        refine cR_virt (cl := 9) (i := l0) (as := [.int (cI σ 13 l0 10 0), .int ((1 : Int32)), .int ((4 : Int32)), .int ((((cI σ 9 l0 7 0) >>> (((7 : Int32)) &&& 31)) &&& ((127 : Int32))) ||| (((cI σ 9 l0 7 0) >>> (((14 : Int32)) &&& 31)) <<< (((14 : Int32)) &&& 31))), .int ((0 : Int32)), .int ((-1 : Int32))]) lk149_77 mr_13_447 na_73 rfl rfl (by first | exact Nat.le_of_ble_eq_true rfl | (simp [xcat, cvo_cat, cat_i, cat_j, cat_r]; done)) wv_73 wc_73 (cob_s (cl := 9) bl0 (by decide) rfl rfl) (k_Log_rowOf_ok hp0 hL hF (d := d + 4) (cob_s (cl := 9) bl0 (by decide) rfl rfl) h16) (fun m18  => ?_)
        refine cR_lift (fun _ _ kk => eE_iconst (v := 0) lk149_80 (by decide) kk) ?_
        obtain ⟨p19, h20, h⟩ := Option.bind_eq_some_iff.mp h
        refine cR_virtG (by exact cQx_sub rfl) (cl := 13) (i := l0) (as := [.ref (caa E 9 p15.1 2), .int ((0 : Int32))]) lk149_81 mr_13_451 na_122 rfl rfl (by first | exact Nat.le_of_ble_eq_true rfl | (simp [xcat, cvo_cat, cat_i, cat_j, cat_r]; done)) wv_122 wc_122 (cob_any rfl bl0) (k_Server_append_9_2_ok hp0 hL hF (d := d + 0) (cob_any rfl bl0) b17 h20) (fun m21 g_22 g_22e => ?_)
        refine cR_lift (fun _ _ kk => eE_aload_n lk149_84 gq5 kk) ?_
        refine cR_lift (fun _ _ kk => eE_dup lk149_85 rfl kk) ?_
        refine cR_getI lk149_86 rf_13_146 rfl (cob_any rfl bl0) ?_
        refine cR_lift (fun _ _ kk => eE_bipush (v := 64) lk149_89 (by decide) kk) ?_
        refine cR_lift (fun _ _ kk => eE_ior lk149_91 kk) ?_
        obtain ⟨σ23, h24, h⟩ := Option.bind_eq_some_iff.mp h
        refine cR_putI lk149_92 rf_13_146 rfl (cob_any rfl bl0) pf_13_19 rfl h24 ?_
        refine cR_lift (fun _ _ kk => eE_goto (t := 124) lk149_95 (by decide) kk) ?_
        exact k_Server_moveMembers_b124_ok hp0 hL hF  g_22 vq2 σ23  _ h
  · rw [if_neg c1] at h
    cases h
    exact cR_end lk149_17 rfl rfl rfl
def k_Server_moveMembers (F : Nat) (σ : CS) (l0 : Nat) : Option (CS) := k_Server_moveMembers_b0 F σ l0
theorem k_Server_moveMembers_ok {E : CE} {pF : Nat → List Value → xH → Option (Option Value × xH)} (hp0 : xNPc pF) (hL : lcAll E pF) (hF : lcF pF) {d : Nat} {g : CG} {σ : CS} {F : Nat} {l0 : Nat} {res : CS} (bl0 : cob σ 13 l0) (h : k_Server_moveMembers F σ l0 = some res) : cCo E (cQx [11]) pF (d + 6) 149 [.ref (coa E 13 l0)] none res g σ :=
  cCo_R kk_149 mo_149 ni_149 xm_149 (Nat.le_of_ble_eq_true rfl) (hp0 149 (by decide) _) (k_Server_moveMembers_b0_ok hp0 hL hF g _ σ l0 bl0 rfl _ h)
/-! k_Server_takeRequest (178), depth 14 -/
def k_Server_takeRequest_b225 (F : Nat)  (σ : CS) : Option (CS) :=
  some σ
set_option maxRecDepth 4000 in
theorem k_Server_takeRequest_b225_ok {E : CE} {pF : Nat → List Value → xH → Option (Option Value × xH)} (hp0 : xNPc pF) (hL : lcAll E pF) (hF : lcF pF) {d : Nat} {F : Nat}   : ∀ (g : CG) (lv : xL) (σ : CS), ∀ res, k_Server_takeRequest_b225 F  σ = some res → cR E (cQx [11, 13, 14]) pF (d + 13) kT178 13 3 none none res g σ (225, lv, []) := by
  intro g lv σ res h
  unfold k_Server_takeRequest_b225 at h
  cases h
  exact cR_end lk178_225 rfl rfl rfl
def k_Server_takeRequest_b51 (F : Nat)  (σ : CS) (s0 : Nat) (s1 : Int32) (s2 : Int32) (s3 : Int32) (s4 : Int32) : Option (CS) :=
  (k_Server_reply F σ s0 s1 s2 s3 s4 ((0 : Int32))).bind fun p1 =>
  k_Server_takeRequest_b225 F  p1
set_option maxRecDepth 4000 in
theorem k_Server_takeRequest_b51_ok {E : CE} {pF : Nat → List Value → xH → Option (Option Value × xH)} (hp0 : xNPc pF) (hL : lcAll E pF) (hF : lcF pF) {d : Nat} {F : Nat}   : ∀ (g : CG) (lv : xL) (σ : CS) (s0 : Nat) (s1 : Int32) (s2 : Int32) (s3 : Int32) (s4 : Int32), (cob σ 13 s0) → ∀ res, k_Server_takeRequest_b51 F  σ s0 s1 s2 s3 s4 = some res → cR E (cQx [11, 13, 14]) pF (d + 13) kT178 13 3 none none res g σ (51, lv, [.int s4, .int s3, .int s2, .int s1, .ref (coa E 13 s0)]) := by
  intro g lv σ s0 s1 s2 s3 s4 bs0 res h
  unfold k_Server_takeRequest_b51 at h
  refine cR_lift (fun _ _ kk => eE_iconst (v := 0) lk178_51 (by decide) kk) ?_
  obtain ⟨p1, h2, h⟩ := Option.bind_eq_some_iff.mp h
  refine cR_virtG (by exact cQx_sub rfl) (cl := 13) (i := s0) (as := [.int s1, .int s2, .int s3, .int s4, .int ((0 : Int32))]) lk178_52 mr_13_542 na_155 rfl rfl (by first | exact Nat.le_of_ble_eq_true rfl | (simp [xcat, cvo_cat, cat_i, cat_j, cat_r]; done)) wv_155 wc_155 bs0 (k_Server_reply_ok hp0 hL hF (d := d + 0) bs0 h2) (fun m3 g_4 g_4e => ?_)
  refine cR_lift (fun _ _ kk => eE_goto (t := 225) lk178_55 (by decide) kk) ?_
  exact k_Server_takeRequest_b225_ok hp0 hL hF  g_4 lv p1  _ h
def k_Server_takeRequest_b19 (F : Nat)  (σ : CS) (l0 : Nat) (l1 : Nat) : Option (CS) :=
  if xc2 .ne (cI σ 13 l0 12 0) ((3 : Int32)) = true then (
    k_Server_takeRequest_b51 F  σ l0 (cI σ 8 l1 2 0) (cI σ 8 l1 5 0) ((1 : Int32)) (cI σ 13 l0 13 0)
  ) else (
    k_Server_takeRequest_b51 F  σ l0 (cI σ 8 l1 2 0) (cI σ 8 l1 5 0) ((1 : Int32)) (cI σ 7 l0 10 0)
  )
set_option maxRecDepth 4000 in
theorem k_Server_takeRequest_b19_ok {E : CE} {pF : Nat → List Value → xH → Option (Option Value × xH)} (hp0 : xNPc pF) (hL : lcAll E pF) (hF : lcF pF) {d : Nat} {F : Nat}   : ∀ (g : CG) (lv : xL) (σ : CS) (l0 : Nat) (l1 : Nat), (cob σ 13 l0) → (cob σ 8 l1) → (xg lv 0 = some (.ref (coa E 13 l0))) → (xg lv 1 = some (.ref (coa E 8 l1))) → ∀ res, k_Server_takeRequest_b19 F  σ l0 l1 = some res → cR E (cQx [11, 13, 14]) pF (d + 13) kT178 13 3 none none res g σ (19, lv, []) := by
  intro g lv σ l0 l1 bl0 bl1 g0 g1 res h
  unfold k_Server_takeRequest_b19 at h
  refine cR_lift (fun _ _ kk => eE_aload_n lk178_19 g0 kk) ?_
  refine cR_lift (fun _ _ kk => eE_aload_n lk178_20 g1 kk) ?_
  refine cR_getI lk178_21 rf_13_181 rfl bl1 ?_
  refine cR_lift (fun _ _ kk => eE_aload_n lk178_24 g1 kk) ?_
  refine cR_getI lk178_25 rf_13_342 rfl bl1 ?_
  refine cR_lift (fun _ _ kk => eE_iconst (v := 1) lk178_28 (by decide) kk) ?_
  refine cR_lift (fun _ _ kk => eE_aload_n lk178_29 g0 kk) ?_
  refine cR_getI lk178_30 rf_13_85 rfl bl0 ?_
  refine cR_lift (fun _ _ kk => eE_iconst (v := 3) lk178_33 (by decide) kk) ?_
  refine cR_icmp (t := 47) lk178_34 (by decide) (fun c5 => ?_) (fun c5 => ?_)
  · rw [if_pos c5] at h
    refine cR_lift (fun _ _ kk => eE_aload_n lk178_47 g0 kk) ?_
    refine cR_getI lk178_48 rf_13_47 rfl bl0 ?_
    exact k_Server_takeRequest_b51_ok hp0 hL hF  g lv σ l0 (cI σ 8 l1 2 0) (cI σ 8 l1 5 0) ((1 : Int32)) (cI σ 13 l0 13 0) bl0 _ h
  · rw [if_neg c5] at h
    refine cR_lift (fun _ _ kk => eE_aload_n lk178_37 g0 kk) ?_
    refine cR_getO (cl' := 7) (i' := l0) lk178_38 rf_13_21 rfl rfl bl0 ?_
    refine cR_getI lk178_41 rf_13_112 rfl (cob_s (cl := 7) bl0 (by decide) rfl rfl) ?_
    refine cR_lift (fun _ _ kk => eE_goto (t := 51) lk178_44 (by decide) kk) ?_
    exact k_Server_takeRequest_b51_ok hp0 hL hF  g lv σ l0 (cI σ 8 l1 2 0) (cI σ 8 l1 5 0) ((1 : Int32)) (cI σ 7 l0 10 0) bl0 _ h
def k_Server_takeRequest_b104 (F : Nat)  (σ : CS) (s0 : Int32) (l0 : Nat) (l1 : Nat) : Option (CS) :=
  (k_Requests_begin σ l0 l1 s0 (cI σ 13 l0 10 0) ((cI σ 7 l0 9 0) + ((1 : Int32)))).bind fun p11 =>
  k_Server_takeRequest_b225 F  p11
set_option maxRecDepth 4000 in
theorem k_Server_takeRequest_b104_ok {E : CE} {pF : Nat → List Value → xH → Option (Option Value × xH)} (hp0 : xNPc pF) (hL : lcAll E pF) (hF : lcF pF) {d : Nat} {F : Nat}   : ∀ (g : CG) (lv : xL) (σ : CS) (s0 : Int32) (l0 : Nat) (l1 : Nat), (cob σ 13 l0) → (cob σ 8 l1) → (xg lv 0 = some (.ref (coa E 13 l0))) → (xg lv 1 = some (.ref (coa E 8 l1))) → ∀ res, k_Server_takeRequest_b104 F  σ s0 l0 l1 = some res → cR E (cQx [11, 13, 14]) pF (d + 13) kT178 13 3 none none res g σ (104, lv, [.int s0]) := by
  intro g lv σ s0 l0 l1 bl0 bl1 g0 g1 res h
  unfold k_Server_takeRequest_b104 at h
  refine cR_stI (j := 2) lk178_104 (Or.inr ⟨_, rfl, rfl⟩) (by decide) (fun vq6 gq7 kq8 => ?_)
  have gq9 := kq8 0 _ (by decide) (fun e => absurd e (by decide)) g0
  have gq10 := kq8 1 _ (by decide) (fun _ => rfl) g1
  refine cR_lift (fun _ _ kk => eE_aload_n lk178_105 gq9 kk) ?_
  refine cR_getO (cl' := 12) (i' := l0) lk178_106 rf_13_28 rfl rfl bl0 ?_
  refine cR_lift (fun _ _ kk => eE_aload_n lk178_109 gq10 kk) ?_
  refine cR_lift (fun _ _ kk => eE_iload_n lk178_110 gq7 kk) ?_
  refine cR_lift (fun _ _ kk => eE_aload_n lk178_111 gq9 kk) ?_
  refine cR_getI lk178_112 rf_13_88 rfl bl0 ?_
  refine cR_lift (fun _ _ kk => eE_aload_n lk178_115 gq9 kk) ?_
  refine cR_getO (cl' := 7) (i' := l0) lk178_116 rf_13_21 rfl rfl bl0 ?_
  refine cR_getI lk178_119 rf_13_118 rfl (cob_s (cl := 7) bl0 (by decide) rfl rfl) ?_
  refine cR_lift (fun _ _ kk => eE_iconst (v := 1) lk178_122 (by decide) kk) ?_
  refine cR_lift (fun _ _ kk => eE_iadd lk178_123 kk) ?_
  obtain ⟨p11, h12, h⟩ := Option.bind_eq_some_iff.mp h
  refine cR_virt (cl := 12) (i := l0) (as := [.ref (coa E 8 l1), .int s0, .int (cI σ 13 l0 10 0), .int ((cI σ 7 l0 9 0) + ((1 : Int32)))]) lk178_124 mr_13_547 na_115 rfl rfl (by first | exact Nat.le_of_ble_eq_true rfl | (simp [xcat, cvo_cat, cat_i, cat_j, cat_r]; done)) wv_115 wc_115 (cob_s (cl := 12) bl0 (by decide) rfl rfl) (k_Requests_begin_ok hp0 hL hF (d := d + 11) (cob_s (cl := 12) bl0 (by decide) rfl rfl) bl1 h12) (fun m13  => ?_)
  refine cR_lift (fun _ _ kk => eE_goto (t := 225) lk178_127 (by decide) kk) ?_
  exact k_Server_takeRequest_b225_ok hp0 hL hF  g vq6 p11  _ h
def k_Server_takeRequest_b0 (F : Nat)  (σ : CS) (l0 : Nat) (l1 : Nat) : Option (CS) :=
  if xc2 .ne (cI σ 13 l0 12 0) ((3 : Int32)) = true then (
    k_Server_takeRequest_b19 F  σ l0 l1
  ) else (
    if xc2 .eq (cI σ 7 l0 10 0) ((-1 : Int32)) = true then (
      if xc2 .ne (cI σ 8 l1 6 0) ((2 : Int32)) = true then (
        (k_Log_length σ l0).bind fun p17 =>
        if xc2 .lt p17 ((200 : Int32)) = true then (
          (k_Log_rowOf σ l0 (cI σ 13 l0 10 0) ((2 : Int32)) (cI σ 8 l1 12 0) (cI σ 8 l1 14 0) (cI σ 8 l1 15 0) (cI σ 8 l1 16 0)).bind fun p21 =>
          (k_Server_append_9_2 F p21.2 l0 p21.1 ((0 : Int32))).bind fun p25 =>
          (k_Requests_begin p25 l0 l1 (cI p25 9 l0 6 0) (cI p25 13 l0 10 0) ((-1 : Int32))).bind fun p29 =>
          (some (csI p29 13 l0 19 0 ((cI p29 13 l0 19 0) ||| ((64 : Int32))))).bind fun σ32 =>
          k_Server_takeRequest_b225 F  σ32
        ) else (
          (k_Server_reply F σ l0 (cI σ 8 l1 2 0) (cI σ 8 l1 5 0) ((3 : Int32)) ((-1 : Int32)) ((0 : Int32))).bind fun p34 =>
          k_Server_takeRequest_b225 F  p34
        )
      ) else (
        (k_Log_termAt σ l0 (cI σ 9 l0 9 0)).bind fun p38 =>
        if xc2 .ne p38 (cI σ 13 l0 10 0) = true then (
          k_Server_takeRequest_b104 F  σ (cI σ 7 l0 8 0) l0 l1
        ) else (
          k_Server_takeRequest_b104 F  σ (cI σ 9 l0 9 0) l0 l1
        )
      )
    ) else (
      k_Server_takeRequest_b19 F  σ l0 l1
    )
  )
set_option maxRecDepth 4000 in
theorem k_Server_takeRequest_b0_ok {E : CE} {pF : Nat → List Value → xH → Option (Option Value × xH)} (hp0 : xNPc pF) (hL : lcAll E pF) (hF : lcF pF) {d : Nat} {F : Nat}   : ∀ (g : CG) (lv : xL) (σ : CS) (l0 : Nat) (l1 : Nat), (cob σ 13 l0) → (cob σ 8 l1) → (xg lv 0 = some (.ref (coa E 13 l0))) → (xg lv 1 = some (.ref (coa E 8 l1))) → ∀ res, k_Server_takeRequest_b0 F  σ l0 l1 = some res → cR E (cQx [11, 13, 14]) pF (d + 13) kT178 13 3 none none res g σ (0, lv, []) := by
  intro g lv σ l0 l1 bl0 bl1 g0 g1 res h
  unfold k_Server_takeRequest_b0 at h
  refine cR_lift (fun _ _ kk => eE_aload_n lk178_0 g0 kk) ?_
  refine cR_getI lk178_1 rf_13_85 rfl bl0 ?_
  refine cR_lift (fun _ _ kk => eE_iconst (v := 3) lk178_4 (by decide) kk) ?_
  refine cR_icmp (t := 19) lk178_5 (by decide) (fun c14 => ?_) (fun c14 => ?_)
  · rw [if_pos c14] at h
    exact k_Server_takeRequest_b19_ok hp0 hL hF  g lv σ l0 l1 bl0 bl1 g0 g1 _ h
  · rw [if_neg c14] at h
    refine cR_lift (fun _ _ kk => eE_aload_n lk178_8 g0 kk) ?_
    refine cR_getO (cl' := 7) (i' := l0) lk178_9 rf_13_21 rfl rfl bl0 ?_
    refine cR_getI lk178_12 rf_13_112 rfl (cob_s (cl := 7) bl0 (by decide) rfl rfl) ?_
    refine cR_lift (fun _ _ kk => eE_iconst (v := (-1)) lk178_15 (by decide) kk) ?_
    refine cR_icmp (t := 58) lk178_16 (by decide) (fun c15 => ?_) (fun c15 => ?_)
    · rw [if_pos c15] at h
      refine cR_lift (fun _ _ kk => eE_aload_n lk178_58 g1 kk) ?_
      refine cR_getI lk178_59 rf_13_343 rfl bl1 ?_
      refine cR_lift (fun _ _ kk => eE_iconst (v := 2) lk178_62 (by decide) kk) ?_
      refine cR_icmp (t := 130) lk178_63 (by decide) (fun c16 => ?_) (fun c16 => ?_)
      · rw [if_pos c16] at h
        refine cR_lift (fun _ _ kk => eE_aload_n lk178_130 g0 kk) ?_
        refine cR_getO (cl' := 9) (i' := l0) lk178_131 rf_13_72 rfl rfl bl0 ?_
        obtain ⟨p17, h18, h⟩ := Option.bind_eq_some_iff.mp h
        refine cR_virt (cl := 9) (i := l0) (as := []) lk178_134 mr_13_326 na_69 rfl rfl (by first | exact Nat.le_of_ble_eq_true rfl | (simp [xcat, cvo_cat, cat_i, cat_j, cat_r]; done)) wv_69 wc_69 (cob_s (cl := 9) bl0 (by decide) rfl rfl) (k_Log_length_ok hp0 hL hF (d := d + 12) (cob_s (cl := 9) bl0 (by decide) rfl rfl) h18) (fun m19  => ?_)
        refine cR_lift (fun _ _ kk => eE_sipush (v := 200) lk178_137 (by decide) kk) ?_
        refine cR_icmp (t := 161) lk178_140 (by decide) (fun c20 => ?_) (fun c20 => ?_)
        · rw [if_pos c20] at h
          refine cR_lift (fun _ _ kk => eE_aload_n lk178_161 g0 kk) ?_
          refine cR_lift (fun _ _ kk => eE_aload_n lk178_162 g0 kk) ?_
          refine cR_getO (cl' := 9) (i' := l0) lk178_163 rf_13_72 rfl rfl bl0 ?_
          refine cR_lift (fun _ _ kk => eE_aload_n lk178_166 g0 kk) ?_
          refine cR_getI lk178_167 rf_13_88 rfl bl0 ?_
          refine cR_lift (fun _ _ kk => eE_iconst (v := 2) lk178_170 (by decide) kk) ?_
          refine cR_lift (fun _ _ kk => eE_aload_n lk178_171 g1 kk) ?_
          refine cR_getI lk178_172 rf_13_365 rfl bl1 ?_
          refine cR_lift (fun _ _ kk => eE_aload_n lk178_175 g1 kk) ?_
          refine cR_getI lk178_176 rf_13_550 rfl bl1 ?_
          refine cR_lift (fun _ _ kk => eE_aload_n lk178_179 g1 kk) ?_
          refine cR_getI lk178_180 rf_13_553 rfl bl1 ?_
          refine cR_lift (fun _ _ kk => eE_aload_n lk178_183 g1 kk) ?_
          refine cR_getI lk178_184 rf_13_556 rfl bl1 ?_
          obtain ⟨p21, h22, h⟩ := Option.bind_eq_some_iff.mp h
          refine cR_rep (fun _ hc => k_Log_rowOf_lt hc (cob_s (cl := 9) bl0 (by decide) rfl rfl) h22) (fun b23 => ?_)
          refine cR_virt (cl := 9) (i := l0) (as := [.int (cI σ 13 l0 10 0), .int ((2 : Int32)), .int (cI σ 8 l1 12 0), .int (cI σ 8 l1 14 0), .int (cI σ 8 l1 15 0), .int (cI σ 8 l1 16 0)]) lk178_187 mr_13_447 na_73 rfl rfl (by first | exact Nat.le_of_ble_eq_true rfl | (simp [xcat, cvo_cat, cat_i, cat_j, cat_r]; done)) wv_73 wc_73 (cob_s (cl := 9) bl0 (by decide) rfl rfl) (k_Log_rowOf_ok hp0 hL hF (d := d + 12) (cob_s (cl := 9) bl0 (by decide) rfl rfl) h22) (fun m24  => ?_)
          refine cR_lift (fun _ _ kk => eE_iconst (v := 0) lk178_190 (by decide) kk) ?_
          obtain ⟨p25, h26, h⟩ := Option.bind_eq_some_iff.mp h
          refine cR_virtG (by exact cQx_sub rfl) (cl := 13) (i := l0) (as := [.ref (caa E 9 p21.1 2), .int ((0 : Int32))]) lk178_191 mr_13_451 na_122 rfl rfl (by first | exact Nat.le_of_ble_eq_true rfl | (simp [xcat, cvo_cat, cat_i, cat_j, cat_r]; done)) wv_122 wc_122 (cob_any rfl bl0) (k_Server_append_9_2_ok hp0 hL hF (d := d + 8) (cob_any rfl bl0) b23 h26) (fun m27 g_28 g_28e => ?_)
          refine cR_lift (fun _ _ kk => eE_aload_n lk178_194 g0 kk) ?_
          refine cR_getO (cl' := 12) (i' := l0) lk178_195 rf_13_28 rfl rfl (cob_any rfl bl0) ?_
          refine cR_lift (fun _ _ kk => eE_aload_n lk178_198 g1 kk) ?_
          refine cR_lift (fun _ _ kk => eE_aload_n lk178_199 g0 kk) ?_
          refine cR_getO (cl' := 9) (i' := l0) lk178_200 rf_13_72 rfl rfl (cob_any rfl bl0) ?_
          refine cR_getI lk178_203 rf_13_103 rfl (cob_s (cl := 9) (cob_any rfl bl0) (by decide) rfl rfl) ?_
          refine cR_lift (fun _ _ kk => eE_aload_n lk178_206 g0 kk) ?_
          refine cR_getI lk178_207 rf_13_88 rfl (cob_any rfl bl0) ?_
          refine cR_lift (fun _ _ kk => eE_iconst (v := (-1)) lk178_210 (by decide) kk) ?_
          obtain ⟨p29, h30, h⟩ := Option.bind_eq_some_iff.mp h
          refine cR_virt (cl := 12) (i := l0) (as := [.ref (coa E 8 l1), .int (cI p25 9 l0 6 0), .int (cI p25 13 l0 10 0), .int ((-1 : Int32))]) lk178_211 mr_13_547 na_115 rfl rfl (by first | exact Nat.le_of_ble_eq_true rfl | (simp [xcat, cvo_cat, cat_i, cat_j, cat_r]; done)) wv_115 wc_115 (cob_s (cl := 12) (cob_any rfl bl0) (by decide) rfl rfl) (k_Requests_begin_ok hp0 hL hF (d := d + 11) (cob_s (cl := 12) (cob_any rfl bl0) (by decide) rfl rfl) (cob_mon m27 (cob_mon m24 bl1)) h30) (fun m31  => ?_)
          refine cR_lift (fun _ _ kk => eE_aload_n lk178_214 g0 kk) ?_
          refine cR_lift (fun _ _ kk => eE_dup lk178_215 rfl kk) ?_
          refine cR_getI lk178_216 rf_13_146 rfl (cob_any rfl bl0) ?_
          refine cR_lift (fun _ _ kk => eE_bipush (v := 64) lk178_219 (by decide) kk) ?_
          refine cR_lift (fun _ _ kk => eE_ior lk178_221 kk) ?_
          obtain ⟨σ32, h33, h⟩ := Option.bind_eq_some_iff.mp h
          refine cR_putI lk178_222 rf_13_146 rfl (cob_any rfl bl0) pf_13_19 rfl h33 ?_
          exact k_Server_takeRequest_b225_ok hp0 hL hF  g_28 lv σ32  _ h
        · rw [if_neg c20] at h
          refine cR_lift (fun _ _ kk => eE_aload_n lk178_143 g0 kk) ?_
          refine cR_lift (fun _ _ kk => eE_aload_n lk178_144 g1 kk) ?_
          refine cR_getI lk178_145 rf_13_181 rfl bl1 ?_
          refine cR_lift (fun _ _ kk => eE_aload_n lk178_148 g1 kk) ?_
          refine cR_getI lk178_149 rf_13_342 rfl bl1 ?_
          refine cR_lift (fun _ _ kk => eE_iconst (v := 3) lk178_152 (by decide) kk) ?_
          refine cR_lift (fun _ _ kk => eE_iconst (v := (-1)) lk178_153 (by decide) kk) ?_
          refine cR_lift (fun _ _ kk => eE_iconst (v := 0) lk178_154 (by decide) kk) ?_
          obtain ⟨p34, h35, h⟩ := Option.bind_eq_some_iff.mp h
          refine cR_virtG (by exact cQx_sub rfl) (cl := 13) (i := l0) (as := [.int (cI σ 8 l1 2 0), .int (cI σ 8 l1 5 0), .int ((3 : Int32)), .int ((-1 : Int32)), .int ((0 : Int32))]) lk178_155 mr_13_542 na_155 rfl rfl (by first | exact Nat.le_of_ble_eq_true rfl | (simp [xcat, cvo_cat, cat_i, cat_j, cat_r]; done)) wv_155 wc_155 bl0 (k_Server_reply_ok hp0 hL hF (d := d + 0) bl0 h35) (fun m36 g_37 g_37e => ?_)
          refine cR_lift (fun _ _ kk => eE_goto (t := 225) lk178_158 (by decide) kk) ?_
          exact k_Server_takeRequest_b225_ok hp0 hL hF  g_37 lv p34  _ h
      · rw [if_neg c16] at h
        refine cR_lift (fun _ _ kk => eE_aload_n lk178_66 g0 kk) ?_
        refine cR_getO (cl' := 9) (i' := l0) lk178_67 rf_13_72 rfl rfl bl0 ?_
        refine cR_lift (fun _ _ kk => eE_aload_n lk178_70 g0 kk) ?_
        refine cR_getO (cl' := 9) (i' := l0) lk178_71 rf_13_72 rfl rfl bl0 ?_
        refine cR_getI lk178_74 rf_13_91 rfl (cob_s (cl := 9) bl0 (by decide) rfl rfl) ?_
        obtain ⟨p38, h39, h⟩ := Option.bind_eq_some_iff.mp h
        refine cR_virt (cl := 9) (i := l0) (as := [.int (cI σ 9 l0 9 0)]) lk178_77 mr_13_311 na_75 rfl rfl (by first | exact Nat.le_of_ble_eq_true rfl | (simp [xcat, cvo_cat, cat_i, cat_j, cat_r]; done)) wv_75 wc_75 (cob_s (cl := 9) bl0 (by decide) rfl rfl) (k_Log_termAt_ok hp0 hL hF (d := d + 11) (cob_s (cl := 9) bl0 (by decide) rfl rfl) h39) (fun m40  => ?_)
        refine cR_lift (fun _ _ kk => eE_aload_n lk178_80 g0 kk) ?_
        refine cR_getI lk178_81 rf_13_88 rfl bl0 ?_
        refine cR_icmp (t := 97) lk178_84 (by decide) (fun c41 => ?_) (fun c41 => ?_)
        · rw [if_pos c41] at h
          refine cR_lift (fun _ _ kk => eE_aload_n lk178_97 g0 kk) ?_
          refine cR_getO (cl' := 7) (i' := l0) lk178_98 rf_13_21 rfl rfl bl0 ?_
          refine cR_getI lk178_101 rf_13_546 rfl (cob_s (cl := 7) bl0 (by decide) rfl rfl) ?_
          exact k_Server_takeRequest_b104_ok hp0 hL hF  g lv σ (cI σ 7 l0 8 0) l0 l1 bl0 bl1 g0 g1 _ h
        · rw [if_neg c41] at h
          refine cR_lift (fun _ _ kk => eE_aload_n lk178_87 g0 kk) ?_
          refine cR_getO (cl' := 9) (i' := l0) lk178_88 rf_13_72 rfl rfl bl0 ?_
          refine cR_getI lk178_91 rf_13_91 rfl (cob_s (cl := 9) bl0 (by decide) rfl rfl) ?_
          refine cR_lift (fun _ _ kk => eE_goto (t := 104) lk178_94 (by decide) kk) ?_
          exact k_Server_takeRequest_b104_ok hp0 hL hF  g lv σ (cI σ 9 l0 9 0) l0 l1 bl0 bl1 g0 g1 _ h
    · rw [if_neg c15] at h
      exact k_Server_takeRequest_b19_ok hp0 hL hF  g lv σ l0 l1 bl0 bl1 g0 g1 _ h
def k_Server_takeRequest (F : Nat) (σ : CS) (l0 : Nat) (l1 : Nat) : Option (CS) := k_Server_takeRequest_b0 F σ l0 l1
theorem k_Server_takeRequest_ok {E : CE} {pF : Nat → List Value → xH → Option (Option Value × xH)} (hp0 : xNPc pF) (hL : lcAll E pF) (hF : lcF pF) {d : Nat} {g : CG} {σ : CS} {F : Nat} {l0 : Nat} {l1 : Nat} {res : CS} (bl0 : cob σ 13 l0) (bl1 : cob σ 8 l1) (h : k_Server_takeRequest F σ l0 l1 = some res) : cCo E (cQx [11, 13, 14]) pF (d + 14) 178 [.ref (coa E 13 l0), .ref (coa E 8 l1)] none res g σ :=
  cCo_R kk_178 mo_178 ni_178 xm_178 (Nat.le_of_ble_eq_true rfl) (hp0 178 (by decide) _) (k_Server_takeRequest_b0_ok hp0 hL hF g _ σ l0 l1 bl0 bl1 rfl rfl _ h)
/-! k_Server_takeGo (173), depth 2 -/
def k_Server_takeGo_b50  (σ : CS) : Option (CS) :=
  some σ
set_option maxRecDepth 4000 in
theorem k_Server_takeGo_b50_ok {E : CE} {pF : Nat → List Value → xH → Option (Option Value × xH)} (hp0 : xNPc pF) (hL : lcAll E pF) (hF : lcF pF) {d : Nat}   : ∀ (g : CG) (lv : xL) (σ : CS), ∀ res, k_Server_takeGo_b50  σ = some res → cR E cQ1 pF (d + 1) kT173 13 2 none none res g σ (50, lv, []) := by
  intro g lv σ res h
  unfold k_Server_takeGo_b50 at h
  cases h
  exact cR_end lk173_50 rfl rfl rfl
def k_Server_takeGo_b26  (σ : CS) (l0 : Nat) : Option (CS) :=
  (k_Server_voters σ l0).bind fun p1 =>
  if xc0 .eq ((p1 >>> ((cI σ 13 l0 0 0) &&& 31)) &&& ((1 : Int32))) = true then (
    k_Server_takeGo_b50  σ
  ) else (
    (some (csI σ 13 l0 19 0 ((cI σ 13 l0 19 0) ||| ((1 : Int32))))).bind fun σ5 =>
    k_Server_takeGo_b50  σ5
  )
set_option maxRecDepth 4000 in
theorem k_Server_takeGo_b26_ok {E : CE} {pF : Nat → List Value → xH → Option (Option Value × xH)} (hp0 : xNPc pF) (hL : lcAll E pF) (hF : lcF pF) {d : Nat}   : ∀ (g : CG) (lv : xL) (σ : CS) (l0 : Nat), (cob σ 13 l0) → (xg lv 0 = some (.ref (coa E 13 l0))) → ∀ res, k_Server_takeGo_b26  σ l0 = some res → cR E cQ1 pF (d + 1) kT173 13 2 none none res g σ (26, lv, []) := by
  intro g lv σ l0 bl0 g0 res h
  unfold k_Server_takeGo_b26 at h
  refine cR_lift (fun _ _ kk => eE_aload_n lk173_26 g0 kk) ?_
  obtain ⟨p1, h2, h⟩ := Option.bind_eq_some_iff.mp h
  refine cR_virt (cl := 13) (i := l0) (as := []) lk173_27 mr_13_367 na_182 rfl rfl (by first | exact Nat.le_of_ble_eq_true rfl | (simp [xcat, cvo_cat, cat_i, cat_j, cat_r]; done)) wv_182 wc_182 bl0 (k_Server_voters_ok hp0 hL hF (d := d + 0) bl0 h2) (fun m3  => ?_)
  refine cR_lift (fun _ _ kk => eE_aload_n lk173_30 g0 kk) ?_
  refine cR_getI lk173_31 rf_13_60 rfl bl0 ?_
  refine cR_lift (fun _ _ kk => eE_ishr lk173_34 kk) ?_
  refine cR_lift (fun _ _ kk => eE_iconst (v := 1) lk173_35 (by decide) kk) ?_
  refine cR_lift (fun _ _ kk => eE_iand lk173_36 kk) ?_
  refine cR_if (t := 50) lk173_37 (by decide) (fun c4 => ?_) (fun c4 => ?_)
  · rw [if_pos c4] at h
    exact k_Server_takeGo_b50_ok hp0 hL hF  g lv σ  _ h
  · rw [if_neg c4] at h
    refine cR_lift (fun _ _ kk => eE_aload_n lk173_40 g0 kk) ?_
    refine cR_lift (fun _ _ kk => eE_dup lk173_41 rfl kk) ?_
    refine cR_getI lk173_42 rf_13_146 rfl bl0 ?_
    refine cR_lift (fun _ _ kk => eE_iconst (v := 1) lk173_45 (by decide) kk) ?_
    refine cR_lift (fun _ _ kk => eE_ior lk173_46 kk) ?_
    obtain ⟨σ5, h6, h⟩ := Option.bind_eq_some_iff.mp h
    refine cR_putI lk173_47 rf_13_146 rfl bl0 pf_13_19 rfl h6 ?_
    exact k_Server_takeGo_b50_ok hp0 hL hF  g lv σ5  _ h
def k_Server_takeGo_b0  (σ : CS) (l0 : Nat) (l1 : Nat) : Option (CS) :=
  if xc2 .ne (cI σ 8 l1 5 0) (cI σ 13 l0 10 0) = true then (
    k_Server_takeGo_b50  σ
  ) else (
    if xc0 .eq (cI σ 13 l0 12 0) = true then (
      k_Server_takeGo_b26  σ l0
    ) else (
      if xc2 .ne (cI σ 13 l0 12 0) ((1 : Int32)) = true then (
        k_Server_takeGo_b50  σ
      ) else (
        k_Server_takeGo_b26  σ l0
      )
    )
  )
set_option maxRecDepth 4000 in
theorem k_Server_takeGo_b0_ok {E : CE} {pF : Nat → List Value → xH → Option (Option Value × xH)} (hp0 : xNPc pF) (hL : lcAll E pF) (hF : lcF pF) {d : Nat}   : ∀ (g : CG) (lv : xL) (σ : CS) (l0 : Nat) (l1 : Nat), (cob σ 13 l0) → (cob σ 8 l1) → (xg lv 0 = some (.ref (coa E 13 l0))) → (xg lv 1 = some (.ref (coa E 8 l1))) → ∀ res, k_Server_takeGo_b0  σ l0 l1 = some res → cR E cQ1 pF (d + 1) kT173 13 2 none none res g σ (0, lv, []) := by
  intro g lv σ l0 l1 bl0 bl1 g0 g1 res h
  unfold k_Server_takeGo_b0 at h
  refine cR_lift (fun _ _ kk => eE_aload_n lk173_0 g1 kk) ?_
  refine cR_getI lk173_1 rf_13_342 rfl bl1 ?_
  refine cR_lift (fun _ _ kk => eE_aload_n lk173_4 g0 kk) ?_
  refine cR_getI lk173_5 rf_13_88 rfl bl0 ?_
  refine cR_icmp (t := 50) lk173_8 (by decide) (fun c7 => ?_) (fun c7 => ?_)
  · rw [if_pos c7] at h
    exact k_Server_takeGo_b50_ok hp0 hL hF  g lv σ  _ h
  · rw [if_neg c7] at h
    refine cR_lift (fun _ _ kk => eE_aload_n lk173_11 g0 kk) ?_
    refine cR_getI lk173_12 rf_13_85 rfl bl0 ?_
    refine cR_if (t := 26) lk173_15 (by decide) (fun c8 => ?_) (fun c8 => ?_)
    · rw [if_pos c8] at h
      exact k_Server_takeGo_b26_ok hp0 hL hF  g lv σ l0 bl0 g0 _ h
    · rw [if_neg c8] at h
      refine cR_lift (fun _ _ kk => eE_aload_n lk173_18 g0 kk) ?_
      refine cR_getI lk173_19 rf_13_85 rfl bl0 ?_
      refine cR_lift (fun _ _ kk => eE_iconst (v := 1) lk173_22 (by decide) kk) ?_
      refine cR_icmp (t := 50) lk173_23 (by decide) (fun c9 => ?_) (fun c9 => ?_)
      · rw [if_pos c9] at h
        exact k_Server_takeGo_b50_ok hp0 hL hF  g lv σ  _ h
      · rw [if_neg c9] at h
        exact k_Server_takeGo_b26_ok hp0 hL hF  g lv σ l0 bl0 g0 _ h
def k_Server_takeGo (σ : CS) (l0 : Nat) (l1 : Nat) : Option (CS) := k_Server_takeGo_b0 σ l0 l1
theorem k_Server_takeGo_ok {E : CE} {pF : Nat → List Value → xH → Option (Option Value × xH)} (hp0 : xNPc pF) (hL : lcAll E pF) (hF : lcF pF) {d : Nat} {g : CG} {σ : CS} {l0 : Nat} {l1 : Nat} {res : CS} (bl0 : cob σ 13 l0) (bl1 : cob σ 8 l1) (h : k_Server_takeGo σ l0 l1 = some res) : cCo E cQ1 pF (d + 2) 173 [.ref (coa E 13 l0), .ref (coa E 8 l1)] none res g σ :=
  cCo_R kk_173 mo_173 ni_173 xm_173 (Nat.le_of_ble_eq_true rfl) (hp0 173 (by decide) _) (k_Server_takeGo_b0_ok hp0 hL hF g _ σ l0 l1 bl0 bl1 rfl rfl _ h)
/-! k_Server_takeStored (180), depth 3 -/
def k_Server_takeStored_b147  (σ : CS) : Option (CS) :=
  some σ
set_option maxRecDepth 4000 in
theorem k_Server_takeStored_b147_ok {E : CE} {pF : Nat → List Value → xH → Option (Option Value × xH)} (hp0 : xNPc pF) (hL : lcAll E pF) (hF : lcF pF) {d : Nat}   : ∀ (g : CG) (lv : xL) (σ : CS), ∀ res, k_Server_takeStored_b147  σ = some res → cR E cQ1 pF (d + 2) kT180 13 3 none none res g σ (147, lv, []) := by
  intro g lv σ res h
  unfold k_Server_takeStored_b147 at h
  cases h
  exact cR_end lk180_147 rfl rfl rfl
def k_Server_takeStored_b0  (σ : CS) (l0 : Nat) (l1 : Nat) : Option (CS) :=
  (k_Server_hears σ l0 l1).bind fun p1 =>
  if xc0 .ne p1.1 = true then (
    (cwr p1.2 7 l0 2 (cI p1.2 8 l1 2 0) ((0 : Int32))).bind fun σ10 =>
    if xc2 .eq (cI σ10 8 l1 7 0) (cI σ10 9 l0 3 0) = true then (
      (k_Disk_snapshotSize σ10 l0).bind fun p13 =>
      if xc2 .lt (cI σ10 8 l1 12 0) p13 = true then (
        (cwr σ10 7 l0 3 (cI p1.2 8 l1 2 0) (cI σ10 8 l1 12 0)).bind fun σ17 =>
        k_Server_takeStored_b147  σ17
      ) else (
        (crd σ10 7 l0 1 (cI p1.2 8 l1 2 0)).bind fun x19 =>
        (cwr σ10 7 l0 1 (cI p1.2 8 l1 2 0) (cmax x19 (cI σ10 9 l0 3 0))).bind fun σ21 =>
        (cwr σ21 7 l0 0 (cI p1.2 8 l1 2 0) ((cI σ21 9 l0 3 0) + ((1 : Int32)))).bind fun σ23 =>
        (cwr σ23 7 l0 6 (cI p1.2 8 l1 2 0) (((1 : Int32)) &&& 1)).bind fun σ25 =>
        (cwr σ25 7 l0 3 (cI p1.2 8 l1 2 0) ((0 : Int32))).bind fun σ27 =>
        k_Server_takeStored_b147  σ27
      )
    ) else (
      (cwr σ10 7 l0 3 (cI p1.2 8 l1 2 0) ((0 : Int32))).bind fun σ29 =>
      k_Server_takeStored_b147  σ29
    )
  ) else (
    some p1.2
  )
set_option maxRecDepth 4000 in
theorem k_Server_takeStored_b0_ok {E : CE} {pF : Nat → List Value → xH → Option (Option Value × xH)} (hp0 : xNPc pF) (hL : lcAll E pF) (hF : lcF pF) {d : Nat}   : ∀ (g : CG) (lv : xL) (σ : CS) (l0 : Nat) (l1 : Nat), (cob σ 13 l0) → (cob σ 8 l1) → (xg lv 0 = some (.ref (coa E 13 l0))) → (xg lv 1 = some (.ref (coa E 8 l1))) → ∀ res, k_Server_takeStored_b0  σ l0 l1 = some res → cR E cQ1 pF (d + 2) kT180 13 3 none none res g σ (0, lv, []) := by
  intro g lv σ l0 l1 bl0 bl1 g0 g1 res h
  unfold k_Server_takeStored_b0 at h
  refine cR_lift (fun _ _ kk => eE_aload_n lk180_0 g0 kk) ?_
  refine cR_lift (fun _ _ kk => eE_aload_n lk180_1 g1 kk) ?_
  obtain ⟨p1, h2, h⟩ := Option.bind_eq_some_iff.mp h
  refine cR_virt (cl := 13) (i := l0) (as := [.ref (coa E 8 l1)]) lk180_2 mr_13_539 na_138 rfl rfl (by first | exact Nat.le_of_ble_eq_true rfl | (simp [xcat, cvo_cat, cat_i, cat_j, cat_r]; done)) wv_138 wc_138 bl0 (k_Server_hears_ok hp0 hL hF (d := d + 0) bl0 bl1 h2) (fun m3  => ?_)
  refine cR_if (t := 9) lk180_5 (by decide) (fun c4 => ?_) (fun c4 => ?_)
  · rw [if_pos c4] at h
    refine cR_lift (fun _ _ kk => eE_aload_n lk180_9 g1 kk) ?_
    refine cR_getI lk180_10 rf_13_181 rfl (cob_mon m3 bl1) ?_
    refine cR_stI (j := 2) lk180_13 (Or.inr ⟨_, rfl, rfl⟩) (by decide) (fun vq5 gq6 kq7 => ?_)
    have gq8 := kq7 0 _ (by decide) (fun e => absurd e (by decide)) g0
    have gq9 := kq7 1 _ (by decide) (fun _ => rfl) g1
    refine cR_lift (fun _ _ kk => eE_aload_n lk180_14 gq8 kk) ?_
    refine cR_getO (cl' := 7) (i' := l0) lk180_15 rf_13_21 rfl rfl (cob_any rfl bl0) ?_
    refine cR_getA lk180_18 rf_13_383 (by decide) (cob_s (cl := 7) (cob_any rfl bl0) (by decide) rfl rfl) ?_
    refine cR_lift (fun _ _ kk => eE_iload_n lk180_21 gq6 kk) ?_
    refine cR_lift (fun _ _ kk => eE_iconst (v := 0) lk180_22 (by decide) kk) ?_
    obtain ⟨σ10, h11, h⟩ := Option.bind_eq_some_iff.mp h
    refine cR_iast (cl := 7) (i := l0) (f := 2) lk180_23 (by decide) rfl (cob_s (cl := 7) (cob_any rfl bl0) (by decide) rfl rfl) h11 ?_
    refine cR_lift (fun _ _ kk => eE_aload_n lk180_24 gq9 kk) ?_
    refine cR_getI lk180_25 rf_13_189 rfl (cob_mon (cwr_mon h11) (cob_mon m3 bl1)) ?_
    refine cR_lift (fun _ _ kk => eE_aload_n lk180_28 gq8 kk) ?_
    refine cR_getO (cl' := 9) (i' := l0) lk180_29 rf_13_72 rfl rfl (cob_any rfl bl0) ?_
    refine cR_getI lk180_32 rf_13_100 rfl (cob_s (cl := 9) (cob_any rfl bl0) (by decide) rfl rfl) ?_
    refine cR_icmp (t := 51) lk180_35 (by decide) (fun c12 => ?_) (fun c12 => ?_)
    · rw [if_pos c12] at h
      refine cR_lift (fun _ _ kk => eE_aload_n lk180_51 gq9 kk) ?_
      refine cR_getI lk180_52 rf_13_365 rfl (cob_mon (cwr_mon h11) (cob_mon m3 bl1)) ?_
      refine cR_lift (fun _ _ kk => eE_aload_n lk180_55 gq8 kk) ?_
      refine cR_getO (cl' := 6) (i' := l0) lk180_56 rf_13_12 rfl rfl (cob_any rfl bl0) ?_
      obtain ⟨p13, h14, h⟩ := Option.bind_eq_some_iff.mp h
      refine cR_virt (cl := 6) (i := l0) (as := []) lk180_59 mr_13_137 na_47 rfl rfl (by first | exact Nat.le_of_ble_eq_true rfl | (simp [xcat, cvo_cat, cat_i, cat_j, cat_r]; done)) wv_47 wc_47 (cob_s (cl := 6) (cob_any rfl bl0) (by decide) rfl rfl) (k_Disk_snapshotSize_ok hp0 hL hF (d := d + 1) (cob_s (cl := 6) (cob_any rfl bl0) (by decide) rfl rfl) h14) (fun m15  => ?_)
      refine cR_icmp (t := 134) lk180_62 (by decide) (fun c16 => ?_) (fun c16 => ?_)
      · rw [if_pos c16] at h
        refine cR_lift (fun _ _ kk => eE_aload_n lk180_134 gq8 kk) ?_
        refine cR_getO (cl' := 7) (i' := l0) lk180_135 rf_13_21 rfl rfl (cob_any rfl bl0) ?_
        refine cR_getA lk180_138 rf_13_386 (by decide) (cob_s (cl := 7) (cob_any rfl bl0) (by decide) rfl rfl) ?_
        refine cR_lift (fun _ _ kk => eE_iload_n lk180_141 gq6 kk) ?_
        refine cR_lift (fun _ _ kk => eE_aload_n lk180_142 gq9 kk) ?_
        refine cR_getI lk180_143 rf_13_365 rfl (cob_mon (cwr_mon h11) (cob_mon m3 bl1)) ?_
        obtain ⟨σ17, h18, h⟩ := Option.bind_eq_some_iff.mp h
        refine cR_iast (cl := 7) (i := l0) (f := 3) lk180_146 (by decide) rfl (cob_s (cl := 7) (cob_any rfl bl0) (by decide) rfl rfl) h18 ?_
        exact k_Server_takeStored_b147_ok hp0 hL hF  g vq5 σ17  _ h
      · rw [if_neg c16] at h
        refine cR_lift (fun _ _ kk => eE_aload_n lk180_65 gq8 kk) ?_
        refine cR_getO (cl' := 7) (i' := l0) lk180_66 rf_13_21 rfl rfl (cob_any rfl bl0) ?_
        refine cR_getA lk180_69 rf_13_459 (by decide) (cob_s (cl := 7) (cob_any rfl bl0) (by decide) rfl rfl) ?_
        refine cR_lift (fun _ _ kk => eE_iload_n lk180_72 gq6 kk) ?_
        refine cR_lift (fun _ _ kk => eE_aload_n lk180_73 gq8 kk) ?_
        refine cR_getO (cl' := 7) (i' := l0) lk180_74 rf_13_21 rfl rfl (cob_any rfl bl0) ?_
        refine cR_getA lk180_77 rf_13_459 (by decide) (cob_s (cl := 7) (cob_any rfl bl0) (by decide) rfl rfl) ?_
        refine cR_lift (fun _ _ kk => eE_iload_n lk180_80 gq6 kk) ?_
        obtain ⟨x19, h20, h⟩ := Option.bind_eq_some_iff.mp h
        refine cR_iald (cl := 7) (i := l0) (f := 1) lk180_81 (by decide) rfl (cob_s (cl := 7) (cob_any rfl bl0) (by decide) rfl rfl) h20 ?_
        refine cR_lift (fun _ _ kk => eE_aload_n lk180_82 gq8 kk) ?_
        refine cR_getO (cl' := 9) (i' := l0) lk180_83 rf_13_72 rfl rfl (cob_any rfl bl0) ?_
        refine cR_getI lk180_86 rf_13_100 rfl (cob_s (cl := 9) (cob_any rfl bl0) (by decide) rfl rfl) ?_
        refine cR_max lk180_89 mr_13_293 (by first | exact Nat.le_of_ble_eq_true rfl | (simp [xcat, cvo_cat, cat_i, cat_j, cat_r]; done)) ?_
        obtain ⟨σ21, h22, h⟩ := Option.bind_eq_some_iff.mp h
        refine cR_iast (cl := 7) (i := l0) (f := 1) lk180_92 (by decide) rfl (cob_s (cl := 7) (cob_any rfl bl0) (by decide) rfl rfl) h22 ?_
        refine cR_lift (fun _ _ kk => eE_aload_n lk180_93 gq8 kk) ?_
        refine cR_getO (cl' := 7) (i' := l0) lk180_94 rf_13_21 rfl rfl (cob_any rfl bl0) ?_
        refine cR_getA lk180_97 rf_13_380 (by decide) (cob_s (cl := 7) (cob_any rfl bl0) (by decide) rfl rfl) ?_
        refine cR_lift (fun _ _ kk => eE_iload_n lk180_100 gq6 kk) ?_
        refine cR_lift (fun _ _ kk => eE_aload_n lk180_101 gq8 kk) ?_
        refine cR_getO (cl' := 9) (i' := l0) lk180_102 rf_13_72 rfl rfl (cob_any rfl bl0) ?_
        refine cR_getI lk180_105 rf_13_100 rfl (cob_s (cl := 9) (cob_any rfl bl0) (by decide) rfl rfl) ?_
        refine cR_lift (fun _ _ kk => eE_iconst (v := 1) lk180_108 (by decide) kk) ?_
        refine cR_lift (fun _ _ kk => eE_iadd lk180_109 kk) ?_
        obtain ⟨σ23, h24, h⟩ := Option.bind_eq_some_iff.mp h
        refine cR_iast (cl := 7) (i := l0) (f := 0) lk180_110 (by decide) rfl (cob_s (cl := 7) (cob_any rfl bl0) (by decide) rfl rfl) h24 ?_
        refine cR_lift (fun _ _ kk => eE_aload_n lk180_111 gq8 kk) ?_
        refine cR_getO (cl' := 7) (i' := l0) lk180_112 rf_13_21 rfl rfl (cob_any rfl bl0) ?_
        refine cR_getA lk180_115 rf_13_393 (by decide) (cob_s (cl := 7) (cob_any rfl bl0) (by decide) rfl rfl) ?_
        refine cR_lift (fun _ _ kk => eE_iload_n lk180_118 gq6 kk) ?_
        refine cR_lift (fun _ _ kk => eE_iconst (v := 1) lk180_119 (by decide) kk) ?_
        obtain ⟨σ25, h26, h⟩ := Option.bind_eq_some_iff.mp h
        refine cR_zast (cl := 7) (i := l0) (f := 6) lk180_120 (by decide) rfl rfl (cob_s (cl := 7) (cob_any rfl bl0) (by decide) rfl rfl) h26 ?_
        refine cR_lift (fun _ _ kk => eE_aload_n lk180_121 gq8 kk) ?_
        refine cR_getO (cl' := 7) (i' := l0) lk180_122 rf_13_21 rfl rfl (cob_any rfl bl0) ?_
        refine cR_getA lk180_125 rf_13_386 (by decide) (cob_s (cl := 7) (cob_any rfl bl0) (by decide) rfl rfl) ?_
        refine cR_lift (fun _ _ kk => eE_iload_n lk180_128 gq6 kk) ?_
        refine cR_lift (fun _ _ kk => eE_iconst (v := 0) lk180_129 (by decide) kk) ?_
        obtain ⟨σ27, h28, h⟩ := Option.bind_eq_some_iff.mp h
        refine cR_iast (cl := 7) (i := l0) (f := 3) lk180_130 (by decide) rfl (cob_s (cl := 7) (cob_any rfl bl0) (by decide) rfl rfl) h28 ?_
        refine cR_lift (fun _ _ kk => eE_goto (t := 147) lk180_131 (by decide) kk) ?_
        exact k_Server_takeStored_b147_ok hp0 hL hF  g vq5 σ27  _ h
    · rw [if_neg c12] at h
      refine cR_lift (fun _ _ kk => eE_aload_n lk180_38 gq8 kk) ?_
      refine cR_getO (cl' := 7) (i' := l0) lk180_39 rf_13_21 rfl rfl (cob_any rfl bl0) ?_
      refine cR_getA lk180_42 rf_13_386 (by decide) (cob_s (cl := 7) (cob_any rfl bl0) (by decide) rfl rfl) ?_
      refine cR_lift (fun _ _ kk => eE_iload_n lk180_45 gq6 kk) ?_
      refine cR_lift (fun _ _ kk => eE_iconst (v := 0) lk180_46 (by decide) kk) ?_
      obtain ⟨σ29, h30, h⟩ := Option.bind_eq_some_iff.mp h
      refine cR_iast (cl := 7) (i := l0) (f := 3) lk180_47 (by decide) rfl (cob_s (cl := 7) (cob_any rfl bl0) (by decide) rfl rfl) h30 ?_
      refine cR_lift (fun _ _ kk => eE_goto (t := 147) lk180_48 (by decide) kk) ?_
      exact k_Server_takeStored_b147_ok hp0 hL hF  g vq5 σ29  _ h
  · rw [if_neg c4] at h
    cases h
    exact cR_end lk180_8 rfl rfl rfl
def k_Server_takeStored (σ : CS) (l0 : Nat) (l1 : Nat) : Option (CS) := k_Server_takeStored_b0 σ l0 l1
theorem k_Server_takeStored_ok {E : CE} {pF : Nat → List Value → xH → Option (Option Value × xH)} (hp0 : xNPc pF) (hL : lcAll E pF) (hF : lcF pF) {d : Nat} {g : CG} {σ : CS} {l0 : Nat} {l1 : Nat} {res : CS} (bl0 : cob σ 13 l0) (bl1 : cob σ 8 l1) (h : k_Server_takeStored σ l0 l1 = some res) : cCo E cQ1 pF (d + 3) 180 [.ref (coa E 13 l0), .ref (coa E 8 l1)] none res g σ :=
  cCo_R kk_180 mo_180 ni_180 xm_180 (Nat.le_of_ble_eq_true rfl) (hp0 180 (by decide) _) (k_Server_takeStored_b0_ok hp0 hL hF g _ σ l0 l1 bl0 bl1 rfl rfl _ h)
/-! k_Server_sendStored (159), depth 13 -/
def k_Server_sendStored_b0 (F : Nat)  (σ : CS) (l0 : Nat) (l1 : Int32) (l2 : Int32) (l3 : Int32) (l4 : Int32) : Option (CS) :=
  (k_Server_letterTo σ l0 l1 ((8 : Int32))).bind fun p1 =>
  (some (csI p1.2 8 p1.1 7 0 l2)).bind fun σ12 =>
  (some (csI σ12 8 p1.1 12 0 l3)).bind fun σ14 =>
  (some (csI σ14 8 p1.1 10 0 l4)).bind fun σ16 =>
  (k_Server_dispatch F σ16 l0 p1.1).bind fun p18 =>
  some p18
set_option maxRecDepth 4000 in
theorem k_Server_sendStored_b0_ok {E : CE} {pF : Nat → List Value → xH → Option (Option Value × xH)} (hp0 : xNPc pF) (hL : lcAll E pF) (hF : lcF pF) {d : Nat} {F : Nat}   : ∀ (g : CG) (lv : xL) (σ : CS) (l0 : Nat) (l1 : Int32) (l2 : Int32) (l3 : Int32) (l4 : Int32), (cob σ 13 l0) → (xg lv 0 = some (.ref (coa E 13 l0))) → (xg lv 1 = some (.int l1)) → (xg lv 2 = some (.int l2)) → (xg lv 3 = some (.int l3)) → (xg lv 4 = some (.int l4)) → ∀ res, k_Server_sendStored_b0 F  σ l0 l1 l2 l3 l4 = some res → cR E (cQx [13, 14]) pF (d + 12) kT159 13 6 none none res g σ (0, lv, []) := by
  intro g lv σ l0 l1 l2 l3 l4 bl0 g0 g1 g2 g3 g4 res h
  unfold k_Server_sendStored_b0 at h
  refine cR_lift (fun _ _ kk => eE_aload_n lk159_0 g0 kk) ?_
  refine cR_lift (fun _ _ kk => eE_iload_n lk159_1 g1 kk) ?_
  refine cR_lift (fun _ _ kk => eE_bipush (v := 8) lk159_2 (by decide) kk) ?_
  obtain ⟨p1, h2, h⟩ := Option.bind_eq_some_iff.mp h
  refine cR_rep (fun _ hc => k_Server_letterTo_lt hc bl0 h2) (fun b3 => ?_)
  refine cR_virt (cl := 13) (i := l0) (as := [.int l1, .int ((8 : Int32))]) lk159_4 mr_13_351 na_144 rfl rfl (by first | exact Nat.le_of_ble_eq_true rfl | (simp [xcat, cvo_cat, cat_i, cat_j, cat_r]; done)) wv_144 wc_144 bl0 (k_Server_letterTo_ok hp0 hL hF (d := d + 1) bl0 h2) (fun m4  => ?_)
  refine cR_stA (j := 5) lk159_7 (Or.inl rfl) (by decide) (fun vq5 gq6 kq7 => ?_)
  have gq8 := kq7 0 _ (by decide) (fun e => absurd e (by decide)) g0
  have gq9 := kq7 2 _ (by decide) (fun e => absurd e (by decide)) g2
  have gq10 := kq7 3 _ (by decide) (fun e => absurd e (by decide)) g3
  have gq11 := kq7 4 _ (by decide) (fun _ => rfl) g4
  refine cR_lift (fun _ _ kk => eE_aload lk159_9 gq6 kk) ?_
  refine cR_lift (fun _ _ kk => eE_iload_n lk159_11 gq9 kk) ?_
  obtain ⟨σ12, h13, h⟩ := Option.bind_eq_some_iff.mp h
  refine cR_putI lk159_12 rf_13_189 rfl b3 pf_8_7 rfl h13 ?_
  refine cR_lift (fun _ _ kk => eE_aload lk159_15 gq6 kk) ?_
  refine cR_lift (fun _ _ kk => eE_iload_n lk159_17 gq10 kk) ?_
  obtain ⟨σ14, h15, h⟩ := Option.bind_eq_some_iff.mp h
  refine cR_putI lk159_18 rf_13_365 rfl (cob_mon (cput_mon h13) b3) pf_8_12 rfl h15 ?_
  refine cR_lift (fun _ _ kk => eE_aload lk159_21 gq6 kk) ?_
  refine cR_lift (fun _ _ kk => eE_iload lk159_23 gq11 kk) ?_
  obtain ⟨σ16, h17, h⟩ := Option.bind_eq_some_iff.mp h
  refine cR_putI lk159_25 rf_13_192 rfl (cob_mon (cput_mon h15) (cob_mon (cput_mon h13) b3)) pf_8_10 rfl h17 ?_
  refine cR_lift (fun _ _ kk => eE_aload_n lk159_28 gq8 kk) ?_
  refine cR_lift (fun _ _ kk => eE_aload lk159_29 gq6 kk) ?_
  obtain ⟨p18, h19, h⟩ := Option.bind_eq_some_iff.mp h
  refine cR_virtG (by exact cQx_sub rfl) (cl := 13) (i := l0) (as := [.ref (coa E 8 p1.1)]) lk159_31 mr_13_362 na_132 rfl rfl (by first | exact Nat.le_of_ble_eq_true rfl | (simp [xcat, cvo_cat, cat_i, cat_j, cat_r]; done)) wv_132 wc_132 (cob_any rfl bl0) (k_Server_dispatch_ok hp0 hL hF (d := d + 0) (cob_any rfl bl0) (cob_mon (cput_mon h17) (cob_mon (cput_mon h15) (cob_mon (cput_mon h13) b3))) h19) (fun m20 g_21 g_21e => ?_)
  cases h
  exact cR_end lk159_34 rfl rfl rfl
def k_Server_sendStored (F : Nat) (σ : CS) (l0 : Nat) (l1 : Int32) (l2 : Int32) (l3 : Int32) (l4 : Int32) : Option (CS) := k_Server_sendStored_b0 F σ l0 l1 l2 l3 l4
theorem k_Server_sendStored_ok {E : CE} {pF : Nat → List Value → xH → Option (Option Value × xH)} (hp0 : xNPc pF) (hL : lcAll E pF) (hF : lcF pF) {d : Nat} {g : CG} {σ : CS} {F : Nat} {l0 : Nat} {l1 : Int32} {l2 : Int32} {l3 : Int32} {l4 : Int32} {res : CS} (bl0 : cob σ 13 l0) (h : k_Server_sendStored F σ l0 l1 l2 l3 l4 = some res) : cCo E (cQx [13, 14]) pF (d + 13) 159 [.ref (coa E 13 l0), .int l1, .int l2, .int l3, .int l4] none res g σ :=
  cCo_R kk_159 mo_159 ni_159 xm_159 (Nat.le_of_ble_eq_true rfl) (hp0 159 (by decide) _) (k_Server_sendStored_b0_ok hp0 hL hF g _ σ l0 l1 l2 l3 l4 bl0 rfl rfl rfl rfl rfl _ h)
/-! k_Disk_writeSnapshot_13_18 (53), depth 2 -/
def k_Disk_writeSnapshot_13_18_b14  (σ : CS) (s0 : Nat) (s1 : Int32) (l0 : Nat) (l1 : Int32) (l2 : Int32) (l3 : Int32) (l4 : Nat) (l5 : Int32) : Option (CS) :=
  (some (csI σ 6 s0 9 0 s1)).bind fun σ1 =>
  (cix 6 0 (cI σ1 6 l0 9 0)).bind fun n3 =>
  (k_Page_write σ1 (30 * l0 + cpg n3) (((20 : Int32)) + l5) l1 l2 l3).bind fun p14 =>
  (k_Page_makeRoomForBytes p14 (30 * l0 + cpg n3) l5).bind fun p17 =>
  (ccpy p17 13 l4 18 ((0 : Int32)) 11 (30 * l0 + cpg n3) 8 ((0 : Int32)) l5).bind fun σ22 =>
  (some (csI σ22 11 (30 * l0 + cpg n3) 9 0 l5)).bind fun σ24 =>
  (cwr σ24 6 l0 2 (cI σ24 6 l0 9 0) (cI σ24 11 (30 * l0 + cpg n3) 1 0)).bind fun σ26 =>
  some σ26
set_option maxRecDepth 4000 in
theorem k_Disk_writeSnapshot_13_18_b14_ok {E : CE} {pF : Nat → List Value → xH → Option (Option Value × xH)} (hp0 : xNPc pF) (hL : lcAll E pF) (hF : lcF pF) {d : Nat}   : ∀ (g : CG) (lv : xL) (σ : CS) (s0 : Nat) (s1 : Int32) (l0 : Nat) (l1 : Int32) (l2 : Int32) (l3 : Int32) (l4 : Nat) (l5 : Int32), (cob σ 6 s0) → (cob σ 6 l0) → (cob σ 13 l4) → (xg lv 0 = some (.ref (coa E 6 l0))) → (xg lv 1 = some (.int l1)) → (xg lv 2 = some (.int l2)) → (xg lv 3 = some (.int l3)) → (xg lv 4 = some (.ref (car E g 13 l4 18))) → (xg lv 5 = some (.int l5)) → ∀ res, k_Disk_writeSnapshot_13_18_b14  σ s0 s1 l0 l1 l2 l3 l4 l5 = some res → cR E (cQx [11]) pF (d + 1) kT53 6 7 none none res g σ (14, lv, [.int s1, .ref (coa E 6 s0)]) := by
  intro g lv σ s0 s1 l0 l1 l2 l3 l4 l5 bs0 bl0 bl4 g0 g1 g2 g3 g4 g5 res h
  unfold k_Disk_writeSnapshot_13_18_b14 at h
  obtain ⟨σ1, h2, h⟩ := Option.bind_eq_some_iff.mp h
  refine cR_putI lk53_14 rf_6_34 rfl bs0 pf_6_9 rfl h2 ?_
  refine cR_lift (fun _ _ kk => eE_aload_n lk53_17 g0 kk) ?_
  refine cR_getA lk53_18 rf_6_11 (by decide) (cob_any rfl bl0) ?_
  refine cR_lift (fun _ _ kk => eE_aload_n lk53_21 g0 kk) ?_
  refine cR_getI lk53_22 rf_6_34 rfl (cob_any rfl bl0) ?_
  obtain ⟨n3, h4, h⟩ := Option.bind_eq_some_iff.mp h
  refine cR_aald (cl := 6) (i := l0) (f := 0) (cl' := 11) (i' := 30 * l0 + cpg n3) lk53_25 rfl (by decide) (cob_any rfl bl0) h4 rfl ?_
  refine cR_stA (j := 6) lk53_26 (Or.inl rfl) (by decide) (fun vq5 gq6 kq7 => ?_)
  have gq8 := kq7 0 _ (by decide) (fun e => absurd e (by decide)) g0
  have gq9 := kq7 1 _ (by decide) (fun e => absurd e (by decide)) g1
  have gq10 := kq7 2 _ (by decide) (fun e => absurd e (by decide)) g2
  have gq11 := kq7 3 _ (by decide) (fun e => absurd e (by decide)) g3
  have gq12 := kq7 4 _ (by decide) (fun e => absurd e (by decide)) g4
  have gq13 := kq7 5 _ (by decide) (fun _ => rfl) g5
  refine cR_lift (fun _ _ kk => eE_aload lk53_28 gq6 kk) ?_
  refine cR_lift (fun _ _ kk => eE_bipush (v := 20) lk53_30 (by decide) kk) ?_
  refine cR_lift (fun _ _ kk => eE_iload lk53_32 gq13 kk) ?_
  refine cR_lift (fun _ _ kk => eE_iadd lk53_34 kk) ?_
  refine cR_lift (fun _ _ kk => eE_iload_n lk53_35 gq9 kk) ?_
  refine cR_lift (fun _ _ kk => eE_iload_n lk53_36 gq10 kk) ?_
  refine cR_lift (fun _ _ kk => eE_iload_n lk53_37 gq11 kk) ?_
  obtain ⟨p14, h15, h⟩ := Option.bind_eq_some_iff.mp h
  refine cR_virt (cl := 11) (i := 30 * l0 + cpg n3) (as := [.int (((20 : Int32)) + l5), .int l1, .int l2, .int l3]) lk53_38 mr_6_51 na_114 rfl rfl (by first | exact Nat.le_of_ble_eq_true rfl | (simp [xcat, cvo_cat, cat_i, cat_j, cat_r]; done)) wv_114 wc_114 (cob_pg (c := σ1) (cob_any rfl bl0) (cix_lt h4)).1 (k_Page_write_ok hp0 hL hF (d := d + 0) (cob_pg (c := σ1) (cob_any rfl bl0) (cix_lt h4)).1 h15) (fun m16  => ?_)
  refine cR_lift (fun _ _ kk => eE_aload lk53_41 gq6 kk) ?_
  refine cR_lift (fun _ _ kk => eE_iload lk53_43 gq13 kk) ?_
  obtain ⟨p17, h18, h⟩ := Option.bind_eq_some_iff.mp h
  refine cR_virtG (by exact cQx_sub rfl) (cl := 11) (i := 30 * l0 + cpg n3) (as := [.int l5]) lk53_45 mr_6_55 na_111 rfl rfl (by first | exact Nat.le_of_ble_eq_true rfl | (simp [xcat, cvo_cat, cat_i, cat_j, cat_r]; done)) wv_111 wc_111 (cob_any rfl (cob_pg (c := σ1) (cob_any rfl bl0) (cix_lt h4)).1) (k_Page_makeRoomForBytes_ok hp0 hL hF (d := d + 0) (cob_any rfl (cob_pg (c := σ1) (cob_any rfl bl0) (cix_lt h4)).1) h18) (fun m19 g_20 g_20e => ?_)
  have gq21 : xg vq5 4 = some (.ref (car E g_20 13 l4 18)) := by rw [car_keep (g_20e 13 (by decide))]; exact gq12
  refine cR_lift (fun _ _ kk => eE_aload lk53_48 gq21 kk) ?_
  refine cR_lift (fun _ _ kk => eE_iconst (v := 0) lk53_50 (by decide) kk) ?_
  refine cR_lift (fun _ _ kk => eE_aload lk53_51 gq6 kk) ?_
  refine cR_getA lk53_53 rf_6_59 (by decide) (cob_any rfl (cob_pg (c := σ1) (cob_any rfl bl0) (cix_lt h4)).1) ?_
  refine cR_lift (fun _ _ kk => eE_iconst (v := 0) lk53_56 (by decide) kk) ?_
  refine cR_lift (fun _ _ kk => eE_iload lk53_57 gq13 kk) ?_
  obtain ⟨σ22, h23, h⟩ := Option.bind_eq_some_iff.mp h
  refine cR_cpy (a := 13) (i := l4) (f := 18) (a' := 11) (i' := 30 * l0 + cpg n3) (f' := 8) lk53_59 yc_6_63.1 yc_6_63.2 (by decide) (by decide) (by decide) (cob_any rfl bl4) (cob_any rfl (cob_pg (c := σ1) (cob_any rfl bl0) (cix_lt h4)).1) (by first | exact Nat.le_of_ble_eq_true rfl | (simp [xcat, cvo_cat, cat_i, cat_j, cat_r]; done)) h23 ?_
  refine cR_lift (fun _ _ kk => eE_aload lk53_62 gq6 kk) ?_
  refine cR_lift (fun _ _ kk => eE_iload lk53_64 gq13 kk) ?_
  obtain ⟨σ24, h25, h⟩ := Option.bind_eq_some_iff.mp h
  refine cR_putI lk53_66 rf_6_69 rfl (cob_any rfl (cob_pg (c := σ1) (cob_any rfl bl0) (cix_lt h4)).1) pf_11_9 rfl h25 ?_
  refine cR_lift (fun _ _ kk => eE_aload_n lk53_69 gq8 kk) ?_
  refine cR_getA lk53_70 rf_6_20 (by decide) (cob_any rfl bl0) ?_
  refine cR_lift (fun _ _ kk => eE_aload_n lk53_73 gq8 kk) ?_
  refine cR_getI lk53_74 rf_6_34 rfl (cob_any rfl bl0) ?_
  refine cR_lift (fun _ _ kk => eE_aload lk53_77 gq6 kk) ?_
  refine cR_getI lk53_79 rf_6_38 rfl (cob_any rfl (cob_pg (c := σ1) (cob_any rfl bl0) (cix_lt h4)).1) ?_
  obtain ⟨σ26, h27, h⟩ := Option.bind_eq_some_iff.mp h
  refine cR_iast (cl := 6) (i := l0) (f := 2) lk53_82 (by decide) rfl (cob_any rfl bl0) h27 ?_
  cases h
  exact cR_end lk53_83 rfl rfl rfl
def k_Disk_writeSnapshot_13_18_b0  (σ : CS) (l0 : Nat) (l1 : Int32) (l2 : Int32) (l3 : Int32) (l4 : Nat) (l5 : Int32) : Option (CS) :=
  if xc2 .ne (cI σ 6 l0 9 0) ((2 : Int32)) = true then (
    k_Disk_writeSnapshot_13_18_b14  σ l0 ((2 : Int32)) l0 l1 l2 l3 l4 l5
  ) else (
    k_Disk_writeSnapshot_13_18_b14  σ l0 ((3 : Int32)) l0 l1 l2 l3 l4 l5
  )
set_option maxRecDepth 4000 in
theorem k_Disk_writeSnapshot_13_18_b0_ok {E : CE} {pF : Nat → List Value → xH → Option (Option Value × xH)} (hp0 : xNPc pF) (hL : lcAll E pF) (hF : lcF pF) {d : Nat}   : ∀ (g : CG) (lv : xL) (σ : CS) (l0 : Nat) (l1 : Int32) (l2 : Int32) (l3 : Int32) (l4 : Nat) (l5 : Int32), (cob σ 6 l0) → (cob σ 13 l4) → (xg lv 0 = some (.ref (coa E 6 l0))) → (xg lv 1 = some (.int l1)) → (xg lv 2 = some (.int l2)) → (xg lv 3 = some (.int l3)) → (xg lv 4 = some (.ref (car E g 13 l4 18))) → (xg lv 5 = some (.int l5)) → ∀ res, k_Disk_writeSnapshot_13_18_b0  σ l0 l1 l2 l3 l4 l5 = some res → cR E (cQx [11]) pF (d + 1) kT53 6 7 none none res g σ (0, lv, []) := by
  intro g lv σ l0 l1 l2 l3 l4 l5 bl0 bl4 g0 g1 g2 g3 g4 g5 res h
  unfold k_Disk_writeSnapshot_13_18_b0 at h
  refine cR_lift (fun _ _ kk => eE_aload_n lk53_0 g0 kk) ?_
  refine cR_lift (fun _ _ kk => eE_aload_n lk53_1 g0 kk) ?_
  refine cR_getI lk53_2 rf_6_34 rfl bl0 ?_
  refine cR_lift (fun _ _ kk => eE_iconst (v := 2) lk53_5 (by decide) kk) ?_
  refine cR_icmp (t := 13) lk53_6 (by decide) (fun c28 => ?_) (fun c28 => ?_)
  · rw [if_pos c28] at h
    refine cR_lift (fun _ _ kk => eE_iconst (v := 2) lk53_13 (by decide) kk) ?_
    exact k_Disk_writeSnapshot_13_18_b14_ok hp0 hL hF  g lv σ l0 ((2 : Int32)) l0 l1 l2 l3 l4 l5 bl0 bl0 bl4 g0 g1 g2 g3 g4 g5 _ h
  · rw [if_neg c28] at h
    refine cR_lift (fun _ _ kk => eE_iconst (v := 3) lk53_9 (by decide) kk) ?_
    refine cR_lift (fun _ _ kk => eE_goto (t := 14) lk53_10 (by decide) kk) ?_
    exact k_Disk_writeSnapshot_13_18_b14_ok hp0 hL hF  g lv σ l0 ((3 : Int32)) l0 l1 l2 l3 l4 l5 bl0 bl0 bl4 g0 g1 g2 g3 g4 g5 _ h
def k_Disk_writeSnapshot_13_18 (σ : CS) (l0 : Nat) (l1 : Int32) (l2 : Int32) (l3 : Int32) (l4 : Nat) (l5 : Int32) : Option (CS) := k_Disk_writeSnapshot_13_18_b0 σ l0 l1 l2 l3 l4 l5
theorem k_Disk_writeSnapshot_13_18_ok {E : CE} {pF : Nat → List Value → xH → Option (Option Value × xH)} (hp0 : xNPc pF) (hL : lcAll E pF) (hF : lcF pF) {d : Nat} {g : CG} {σ : CS} {l0 : Nat} {l1 : Int32} {l2 : Int32} {l3 : Int32} {l4 : Nat} {l5 : Int32} {res : CS} (bl0 : cob σ 6 l0) (bl4 : cob σ 13 l4) (h : k_Disk_writeSnapshot_13_18 σ l0 l1 l2 l3 l4 l5 = some res) : cCo E (cQx [11]) pF (d + 2) 53 [.ref (coa E 6 l0), .int l1, .int l2, .int l3, .ref (car E g 13 l4 18), .int l5] none res g σ :=
  cCo_R kk_53 mo_53 ni_53 xm_53 (Nat.le_of_ble_eq_true rfl) (hp0 53 (by decide) _) (k_Disk_writeSnapshot_13_18_b0_ok hp0 hL hF g _ σ l0 l1 l2 l3 l4 l5 bl0 bl4 rfl rfl rfl rfl rfl rfl _ h)
/-! k_Machine_numberAt_13_18 (92), depth 1 -/
def k_Machine_numberAt_13_18_b49 (F : Nat)  (σ : CS) (l4 : Int32) : Option (Int32) :=
  some l4
set_option maxRecDepth 4000 in
theorem k_Machine_numberAt_13_18_b49_ok {E : CE} {pF : Nat → List Value → xH → Option (Option Value × xH)} (hp0 : xNPc pF) (hL : lcAll E pF) (hF : lcF pF) {d : Nat} {F : Nat}   : ∀ (g : CG) (lv : xL) (σ : CS) (l4 : Int32), (xg lv 4 = some (.int l4)) → ∀ res, k_Machine_numberAt_13_18_b49 F  σ l4 = some res → cR E cQ1 pF (d + 0) kT92 10 6 (some FieldType.int) (some (.int res)) σ g σ (49, lv, []) := by
  intro g lv σ l4 g4 res h
  unfold k_Machine_numberAt_13_18_b49 at h
  refine cR_lift (fun _ _ kk => eE_iload lk92_49 g4 kk) ?_
  cases h
  exact cR_end lk92_51 rfl rfl rfl
def k_Machine_numberAt_13_18_b6 (F : Nat)  : Nat → CS → Nat → Int32 → Int32 → Int32 → Int32 → Int32 → Option (Int32)
  | 0, _, _, _, _, _, _, _ => none
  | n + 1, σ, l0, l1, l2, l3, l4, l5 =>
    let KK := k_Machine_numberAt_13_18_b6 F  n
    if xc2 .ge l5 (l1 + l2) = true then (
      k_Machine_numberAt_13_18_b49 F  σ l4
    ) else (
      if xc2 .ge l5 l3 = true then (
        k_Machine_numberAt_13_18_b49 F  σ l4
      ) else (
        if xc2 .ge l5 (Int32.ofNat (cal σ 13 l0 18)) = true then (
          k_Machine_numberAt_13_18_b49 F  σ l4
        ) else (
          (crd σ 13 l0 18 l5).bind fun x4 =>
          KK σ l0 l1 l2 l3 ((l4 <<< (((8 : Int32)) &&& 31)) ||| (x4 &&& ((255 : Int32)))) (l5 + (1 : Int32))
        )
      )
    )
set_option maxRecDepth 4000 in
theorem k_Machine_numberAt_13_18_b6_ok {E : CE} {pF : Nat → List Value → xH → Option (Option Value × xH)} (hp0 : xNPc pF) (hL : lcAll E pF) (hF : lcF pF) {d : Nat} {F : Nat}   : ∀ (n : Nat) (g : CG) (lv : xL) (σ : CS) (l0 : Nat) (l1 : Int32) (l2 : Int32) (l3 : Int32) (l4 : Int32) (l5 : Int32), (cob σ 13 l0) → (xg lv 0 = some (.ref (car E g 13 l0 18))) → (xg lv 1 = some (.int l1)) → (xg lv 2 = some (.int l2)) → (xg lv 3 = some (.int l3)) → (xg lv 4 = some (.int l4)) → (xg lv 5 = some (.int l5)) → ∀ res, k_Machine_numberAt_13_18_b6 F  n σ l0 l1 l2 l3 l4 l5 = some res → cR E cQ1 pF (d + 0) kT92 10 6 (some FieldType.int) (some (.int res)) σ g σ (6, lv, []) := by
  intro n
  induction n with
  | zero => intro g lv σ l0 l1 l2 l3 l4 l5 bl0 g0 g1 g2 g3 g4 g5 res h; simp [k_Machine_numberAt_13_18_b6] at h
  | succ n hKK =>
    intro g lv σ l0 l1 l2 l3 l4 l5 bl0 g0 g1 g2 g3 g4 g5 res h
    unfold k_Machine_numberAt_13_18_b6 at h
    dsimp only at h
    refine cR_lift (fun _ _ kk => eE_iload lk92_6 g5 kk) ?_
    refine cR_lift (fun _ _ kk => eE_iload_n lk92_8 g1 kk) ?_
    refine cR_lift (fun _ _ kk => eE_iload_n lk92_9 g2 kk) ?_
    refine cR_lift (fun _ _ kk => eE_iadd lk92_10 kk) ?_
    refine cR_icmp (t := 49) lk92_11 (by decide) (fun c1 => ?_) (fun c1 => ?_)
    · rw [if_pos c1] at h
      exact k_Machine_numberAt_13_18_b49_ok hp0 hL hF  g lv σ l4 g4 _ h
    · rw [if_neg c1] at h
      refine cR_lift (fun _ _ kk => eE_iload lk92_14 g5 kk) ?_
      refine cR_lift (fun _ _ kk => eE_iload_n lk92_16 g3 kk) ?_
      refine cR_icmp (t := 49) lk92_17 (by decide) (fun c2 => ?_) (fun c2 => ?_)
      · rw [if_pos c2] at h
        exact k_Machine_numberAt_13_18_b49_ok hp0 hL hF  g lv σ l4 g4 _ h
      · rw [if_neg c2] at h
        refine cR_lift (fun _ _ kk => eE_iload lk92_20 g5 kk) ?_
        refine cR_lift (fun _ _ kk => eE_aload_n lk92_22 g0 kk) ?_
        refine cR_alen (cl := 13) (i := l0) (f := 18) lk92_23 (by decide) (by decide) bl0 ?_
        refine cR_icmp (t := 49) lk92_24 (by decide) (fun c3 => ?_) (fun c3 => ?_)
        · rw [if_pos c3] at h
          exact k_Machine_numberAt_13_18_b49_ok hp0 hL hF  g lv σ l4 g4 _ h
        · rw [if_neg c3] at h
          refine cR_lift (fun _ _ kk => eE_iload lk92_27 g4 kk) ?_
          refine cR_lift (fun _ _ kk => eE_bipush (v := 8) lk92_29 (by decide) kk) ?_
          refine cR_lift (fun _ _ kk => eE_ishl lk92_31 kk) ?_
          refine cR_lift (fun _ _ kk => eE_aload_n lk92_32 g0 kk) ?_
          refine cR_lift (fun _ _ kk => eE_iload lk92_33 g5 kk) ?_
          obtain ⟨x4, h5, h⟩ := Option.bind_eq_some_iff.mp h
          refine cR_bald (cl := 13) (i := l0) (f := 18) lk92_35 (by decide) (Or.inl rfl) bl0 h5 ?_
          refine cR_lift (fun _ _ kk => eE_sipush (v := 255) lk92_36 (by decide) kk) ?_
          refine cR_lift (fun _ _ kk => eE_iand lk92_39 kk) ?_
          refine cR_lift (fun _ _ kk => eE_ior lk92_40 kk) ?_
          refine cR_stI (j := 4) lk92_41 (Or.inl rfl) (by decide) (fun vq6 gq7 kq8 => ?_)
          have gq9 := kq8 0 _ (by decide) (fun e => absurd e (by decide)) g0
          have gq10 := kq8 1 _ (by decide) (fun e => absurd e (by decide)) g1
          have gq11 := kq8 2 _ (by decide) (fun e => absurd e (by decide)) g2
          have gq12 := kq8 3 _ (by decide) (fun _ => rfl) g3
          have gq13 := kq8 5 _ (by decide) (fun e => absurd e (by decide)) g5
          refine cR_inc (j := 5) (v := l5 + (1 : Int32)) lk92_43 gq13 rfl (by decide) (fun vq14 gq15 kq16 => ?_)
          have gq17 := kq16 0 _ (by decide) (fun e => absurd e (by decide)) gq9
          have gq18 := kq16 1 _ (by decide) (fun e => absurd e (by decide)) gq10
          have gq19 := kq16 2 _ (by decide) (fun e => absurd e (by decide)) gq11
          have gq20 := kq16 3 _ (by decide) (fun e => absurd e (by decide)) gq12
          have gq21 := kq16 4 _ (by decide) (fun _ => rfl) gq7
          refine cR_lift (fun _ _ kk => eE_goto (t := 6) lk92_46 (by decide) kk) ?_
          exact hKK g vq14 σ l0 l1 l2 l3 ((l4 <<< (((8 : Int32)) &&& 31)) ||| (x4 &&& ((255 : Int32)))) (l5 + (1 : Int32)) bl0 gq17 gq18 gq19 gq20 gq21 gq15 _ h
def k_Machine_numberAt_13_18_b0 (F : Nat)  (σ : CS) (l0 : Nat) (l1 : Int32) (l2 : Int32) (l3 : Int32) : Option (Int32) :=
  k_Machine_numberAt_13_18_b6 F  F σ l0 l1 l2 l3 ((0 : Int32)) l1
set_option maxRecDepth 4000 in
theorem k_Machine_numberAt_13_18_b0_ok {E : CE} {pF : Nat → List Value → xH → Option (Option Value × xH)} (hp0 : xNPc pF) (hL : lcAll E pF) (hF : lcF pF) {d : Nat} {F : Nat}   : ∀ (g : CG) (lv : xL) (σ : CS) (l0 : Nat) (l1 : Int32) (l2 : Int32) (l3 : Int32), (cob σ 13 l0) → (xg lv 0 = some (.ref (car E g 13 l0 18))) → (xg lv 1 = some (.int l1)) → (xg lv 2 = some (.int l2)) → (xg lv 3 = some (.int l3)) → ∀ res, k_Machine_numberAt_13_18_b0 F  σ l0 l1 l2 l3 = some res → cR E cQ1 pF (d + 0) kT92 10 6 (some FieldType.int) (some (.int res)) σ g σ (0, lv, []) := by
  intro g lv σ l0 l1 l2 l3 bl0 g0 g1 g2 g3 res h
  unfold k_Machine_numberAt_13_18_b0 at h
  refine cR_lift (fun _ _ kk => eE_iconst (v := 0) lk92_0 (by decide) kk) ?_
  refine cR_stI (j := 4) lk92_1 (Or.inl rfl) (by decide) (fun vq22 gq23 kq24 => ?_)
  have gq25 := kq24 0 _ (by decide) (fun e => absurd e (by decide)) g0
  have gq26 := kq24 1 _ (by decide) (fun e => absurd e (by decide)) g1
  have gq27 := kq24 2 _ (by decide) (fun e => absurd e (by decide)) g2
  have gq28 := kq24 3 _ (by decide) (fun _ => rfl) g3
  refine cR_lift (fun _ _ kk => eE_iload_n lk92_3 gq26 kk) ?_
  refine cR_stI (j := 5) lk92_4 (Or.inl rfl) (by decide) (fun vq29 gq30 kq31 => ?_)
  have gq32 := kq31 0 _ (by decide) (fun e => absurd e (by decide)) gq25
  have gq33 := kq31 1 _ (by decide) (fun e => absurd e (by decide)) gq26
  have gq34 := kq31 2 _ (by decide) (fun e => absurd e (by decide)) gq27
  have gq35 := kq31 3 _ (by decide) (fun e => absurd e (by decide)) gq28
  have gq36 := kq31 4 _ (by decide) (fun _ => rfl) gq23
  exact k_Machine_numberAt_13_18_b6_ok hp0 hL hF  F g vq29 σ l0 l1 l2 l3 ((0 : Int32)) l1 bl0 gq32 gq33 gq34 gq35 gq36 gq30 _ h
def k_Machine_numberAt_13_18 (F : Nat) (σ : CS) (l0 : Nat) (l1 : Int32) (l2 : Int32) (l3 : Int32) : Option (Int32) := k_Machine_numberAt_13_18_b0 F σ l0 l1 l2 l3
theorem k_Machine_numberAt_13_18_ok {E : CE} {pF : Nat → List Value → xH → Option (Option Value × xH)} (hp0 : xNPc pF) (hL : lcAll E pF) (hF : lcF pF) {d : Nat} {g : CG} {σ : CS} {F : Nat} {l0 : Nat} {l1 : Int32} {l2 : Int32} {l3 : Int32} {res : Int32} (bl0 : cob σ 13 l0) (h : k_Machine_numberAt_13_18 F σ l0 l1 l2 l3 = some res) : cCo E cQ1 pF (d + 1) 92 [.ref (car E g 13 l0 18), .int l1, .int l2, .int l3] (some (.int res)) σ g σ :=
  cCo_R kk_92 mo_92 ni_92 xm_92 (Nat.le_of_ble_eq_true rfl) (hp0 92 (by decide) _) (k_Machine_numberAt_13_18_b0_ok hp0 hL hF g _ σ l0 l1 l2 l3 bl0 rfl rfl rfl rfl _ h)
/-! k_Machine_loadSessions_13_18 (88), depth 2 -/
def k_Machine_loadSessions_13_18_b70 (F : Nat)  (σ : CS) (l2 : Int32) : Option ((Int32) × CS) :=
  some (l2, σ)
set_option maxRecDepth 4000 in
theorem k_Machine_loadSessions_13_18_b70_ok {E : CE} {pF : Nat → List Value → xH → Option (Option Value × xH)} (hp0 : xNPc pF) (hL : lcAll E pF) (hF : lcF pF) {d : Nat} {F : Nat}   : ∀ (g : CG) (lv : xL) (σ : CS) (l2 : Int32), (xg lv 2 = some (.int l2)) → ∀ res, k_Machine_loadSessions_13_18_b70 F  σ l2 = some res → cR E cQ1 pF (d + 1) kT88 10 9 (some FieldType.int) (some (.int res.1)) res.2 g σ (70, lv, []) := by
  intro g lv σ l2 g2 res h
  unfold k_Machine_loadSessions_13_18_b70 at h
  refine cR_lift (fun _ _ kk => eE_iload_n lk88_70 g2 kk) ?_
  cases h
  exact cR_end lk88_71 rfl rfl rfl
def k_Machine_loadSessions_13_18_b81 (F : Nat) (K14 : CS → Nat → Nat → Int32 → Int32 → Int32 → Int32 → Option ((Int32) × CS)) : Nat → CS → Nat → Nat → Int32 → Int32 → Int32 → Int32 → Int32 → Int32 → Int32 → Option ((Int32) × CS)
  | 0, _, _, _, _, _, _, _, _, _, _ => none
  | n + 1, σ, l0, l1, l2, l3, l4, l5, l6, l7, l8 =>
    let KK := k_Machine_loadSessions_13_18_b81 F K14 n
    if xc2 .ge l8 ((4 : Int32)) = true then (
      (cwr σ 10 l0 2 (l7 + ((4 : Int32))) l6).bind fun σ2 =>
      (ccpy σ2 13 l1 18 (l4 + ((18 : Int32))) 10 l0 3 (l5 * ((101 : Int32))) l6).bind fun σ4 =>
      (some (csI σ4 10 l0 1 0 ((cI σ4 10 l0 1 0) + ((1 : Int32))))).bind fun σ14 =>
      K14 σ14 l0 l1 l2 l3 (l4 + (((18 : Int32)) + l6)) (l5 + (1 : Int32))
    ) else (
      (k_Machine_numberAt_13_18 F σ l1 (l4 + (((4 : Int32)) * l8)) ((4 : Int32)) l2).bind fun p24 =>
      (cwr σ 10 l0 2 (l7 + l8) p24).bind fun σ27 =>
      KK σ27 l0 l1 l2 l3 l4 l5 l6 l7 (l8 + (1 : Int32))
    )
set_option maxRecDepth 4000 in
theorem k_Machine_loadSessions_13_18_b81_ok {E : CE} {pF : Nat → List Value → xH → Option (Option Value × xH)} (hp0 : xNPc pF) (hL : lcAll E pF) (hF : lcF pF) {d : Nat} {F : Nat} {K14 : CS → Nat → Nat → Int32 → Int32 → Int32 → Int32 → Option ((Int32) × CS)} (hK14 : ∀ (g : CG) (lv : xL) (σ : CS) (l0 : Nat) (l1 : Nat) (l2 : Int32) (l3 : Int32) (l4 : Int32) (l5 : Int32), (cob σ 10 l0) → (cob σ 13 l1) → (xg lv 0 = some (.ref (coa E 10 l0))) → (xg lv 1 = some (.ref (car E g 13 l1 18))) → (xg lv 2 = some (.int l2)) → (xg lv 3 = some (.int l3)) → (xg lv 4 = some (.int l4)) → (xg lv 5 = some (.int l5)) → ∀ res, K14 σ l0 l1 l2 l3 l4 l5 = some res → cR E cQ1 pF (d + 1) kT88 10 9 (some FieldType.int) (some (.int res.1)) res.2 g σ (14, lv, [])) : ∀ (n : Nat) (g : CG) (lv : xL) (σ : CS) (l0 : Nat) (l1 : Nat) (l2 : Int32) (l3 : Int32) (l4 : Int32) (l5 : Int32) (l6 : Int32) (l7 : Int32) (l8 : Int32), (cob σ 10 l0) → (cob σ 13 l1) → (xg lv 0 = some (.ref (coa E 10 l0))) → (xg lv 1 = some (.ref (car E g 13 l1 18))) → (xg lv 2 = some (.int l2)) → (xg lv 3 = some (.int l3)) → (xg lv 4 = some (.int l4)) → (xg lv 5 = some (.int l5)) → (xg lv 6 = some (.int l6)) → (xg lv 7 = some (.int l7)) → (xg lv 8 = some (.int l8)) → ∀ res, k_Machine_loadSessions_13_18_b81 F K14 n σ l0 l1 l2 l3 l4 l5 l6 l7 l8 = some res → cR E cQ1 pF (d + 1) kT88 10 9 (some FieldType.int) (some (.int res.1)) res.2 g σ (81, lv, []) := by
  intro n
  induction n with
  | zero => intro g lv σ l0 l1 l2 l3 l4 l5 l6 l7 l8 bl0 bl1 g0 g1 g2 g3 g4 g5 g6 g7 g8 res h; simp [k_Machine_loadSessions_13_18_b81] at h
  | succ n hKK =>
    intro g lv σ l0 l1 l2 l3 l4 l5 l6 l7 l8 bl0 bl1 g0 g1 g2 g3 g4 g5 g6 g7 g8 res h
    unfold k_Machine_loadSessions_13_18_b81 at h
    dsimp only at h
    refine cR_lift (fun _ _ kk => eE_iload lk88_81 g8 kk) ?_
    refine cR_lift (fun _ _ kk => eE_iconst (v := 4) lk88_83 (by decide) kk) ?_
    refine cR_icmp (t := 116) lk88_84 (by decide) (fun c1 => ?_) (fun c1 => ?_)
    · rw [if_pos c1] at h
      refine cR_lift (fun _ _ kk => eE_aload_n lk88_116 g0 kk) ?_
      refine cR_getA lk88_117 rf_10_11 (by decide) bl0 ?_
      refine cR_lift (fun _ _ kk => eE_iload lk88_120 g7 kk) ?_
      refine cR_lift (fun _ _ kk => eE_iconst (v := 4) lk88_122 (by decide) kk) ?_
      refine cR_lift (fun _ _ kk => eE_iadd lk88_123 kk) ?_
      refine cR_lift (fun _ _ kk => eE_iload lk88_124 g6 kk) ?_
      obtain ⟨σ2, h3, h⟩ := Option.bind_eq_some_iff.mp h
      refine cR_iast (cl := 10) (i := l0) (f := 2) lk88_126 (by decide) rfl bl0 h3 ?_
      refine cR_lift (fun _ _ kk => eE_aload_n lk88_127 g1 kk) ?_
      refine cR_lift (fun _ _ kk => eE_iload lk88_128 g4 kk) ?_
      refine cR_lift (fun _ _ kk => eE_bipush (v := 18) lk88_130 (by decide) kk) ?_
      refine cR_lift (fun _ _ kk => eE_iadd lk88_132 kk) ?_
      refine cR_lift (fun _ _ kk => eE_aload_n lk88_133 g0 kk) ?_
      refine cR_getA lk88_134 rf_10_15 (by decide) (cob_any rfl bl0) ?_
      refine cR_lift (fun _ _ kk => eE_iload lk88_137 g5 kk) ?_
      refine cR_lift (fun _ _ kk => eE_bipush (v := 101) lk88_139 (by decide) kk) ?_
      refine cR_lift (fun _ _ kk => eE_imul lk88_141 kk) ?_
      refine cR_lift (fun _ _ kk => eE_iload lk88_142 g6 kk) ?_
      obtain ⟨σ4, h5, h⟩ := Option.bind_eq_some_iff.mp h
      refine cR_cpy (a := 13) (i := l1) (f := 18) (a' := 10) (i' := l0) (f' := 3) lk88_144 yc_10_68.1 yc_10_68.2 (by decide) (by decide) (by decide) (cob_any rfl bl1) (cob_any rfl bl0) (by first | exact Nat.le_of_ble_eq_true rfl | (simp [xcat, cvo_cat, cat_i, cat_j, cat_r]; done)) h5 ?_
      refine cR_lift (fun _ _ kk => eE_iload lk88_147 g4 kk) ?_
      refine cR_lift (fun _ _ kk => eE_bipush (v := 18) lk88_149 (by decide) kk) ?_
      refine cR_lift (fun _ _ kk => eE_iload lk88_151 g6 kk) ?_
      refine cR_lift (fun _ _ kk => eE_iadd lk88_153 kk) ?_
      refine cR_lift (fun _ _ kk => eE_iadd lk88_154 kk) ?_
      refine cR_stI (j := 4) lk88_155 (Or.inl rfl) (by decide) (fun vq6 gq7 kq8 => ?_)
      have gq9 := kq8 0 _ (by decide) (fun e => absurd e (by decide)) g0
      have gq10 := kq8 1 _ (by decide) (fun e => absurd e (by decide)) g1
      have gq11 := kq8 2 _ (by decide) (fun e => absurd e (by decide)) g2
      have gq12 := kq8 3 _ (by decide) (fun _ => rfl) g3
      have gq13 := kq8 5 _ (by decide) (fun e => absurd e (by decide)) g5
      refine cR_lift (fun _ _ kk => eE_aload_n lk88_157 gq9 kk) ?_
      refine cR_lift (fun _ _ kk => eE_dup lk88_158 rfl kk) ?_
      refine cR_getI lk88_159 rf_10_41 rfl (cob_any rfl bl0) ?_
      refine cR_lift (fun _ _ kk => eE_iconst (v := 1) lk88_162 (by decide) kk) ?_
      refine cR_lift (fun _ _ kk => eE_iadd lk88_163 kk) ?_
      obtain ⟨σ14, h15, h⟩ := Option.bind_eq_some_iff.mp h
      refine cR_putI lk88_164 rf_10_41 rfl (cob_any rfl bl0) pf_10_1 rfl h15 ?_
      refine cR_inc (j := 5) (v := l5 + (1 : Int32)) lk88_167 gq13 rfl (by decide) (fun vq16 gq17 kq18 => ?_)
      have gq19 := kq18 0 _ (by decide) (fun e => absurd e (by decide)) gq9
      have gq20 := kq18 1 _ (by decide) (fun e => absurd e (by decide)) gq10
      have gq21 := kq18 2 _ (by decide) (fun e => absurd e (by decide)) gq11
      have gq22 := kq18 3 _ (by decide) (fun e => absurd e (by decide)) gq12
      have gq23 := kq18 4 _ (by decide) (fun _ => rfl) gq7
      refine cR_lift (fun _ _ kk => eE_goto (t := 14) lk88_170 (by decide) kk) ?_
      exact hK14 g vq16 σ14 l0 l1 l2 l3 (l4 + (((18 : Int32)) + l6)) (l5 + (1 : Int32)) (cob_any rfl bl0) (cob_any rfl bl1) gq19 gq20 gq21 gq22 gq23 gq17 _ h
    · rw [if_neg c1] at h
      refine cR_lift (fun _ _ kk => eE_aload_n lk88_87 g0 kk) ?_
      refine cR_getA lk88_88 rf_10_11 (by decide) bl0 ?_
      refine cR_lift (fun _ _ kk => eE_iload lk88_91 g7 kk) ?_
      refine cR_lift (fun _ _ kk => eE_iload lk88_93 g8 kk) ?_
      refine cR_lift (fun _ _ kk => eE_iadd lk88_95 kk) ?_
      refine cR_lift (fun _ _ kk => eE_aload_n lk88_96 g1 kk) ?_
      refine cR_lift (fun _ _ kk => eE_iload lk88_97 g4 kk) ?_
      refine cR_lift (fun _ _ kk => eE_iconst (v := 4) lk88_99 (by decide) kk) ?_
      refine cR_lift (fun _ _ kk => eE_iload lk88_100 g8 kk) ?_
      refine cR_lift (fun _ _ kk => eE_imul lk88_102 kk) ?_
      refine cR_lift (fun _ _ kk => eE_iadd lk88_103 kk) ?_
      refine cR_lift (fun _ _ kk => eE_iconst (v := 4) lk88_104 (by decide) kk) ?_
      refine cR_lift (fun _ _ kk => eE_iload_n lk88_105 g2 kk) ?_
      obtain ⟨p24, h25, h⟩ := Option.bind_eq_some_iff.mp h
      refine cR_stat (as := [.ref (car E g 13 l1 18), .int (l4 + (((4 : Int32)) * l8)), .int ((4 : Int32)), .int l2]) lk88_106 mr_10_156 na_92 rfl rfl (by first | exact Nat.le_of_ble_eq_true rfl | (simp [xcat, cvo_cat, cat_i, cat_j, cat_r]; done)) mm_92 ws_92 (k_Machine_numberAt_13_18_ok hp0 hL hF (d := d + 0) bl1 h25) (fun m26 => ?_)
      obtain ⟨σ27, h28, h⟩ := Option.bind_eq_some_iff.mp h
      refine cR_iast (cl := 10) (i := l0) (f := 2) lk88_109 (by decide) rfl bl0 h28 ?_
      refine cR_inc (j := 8) (v := l8 + (1 : Int32)) lk88_110 g8 rfl (by decide) (fun vq29 gq30 kq31 => ?_)
      have gq32 := kq31 0 _ (by decide) (fun e => absurd e (by decide)) g0
      have gq33 := kq31 1 _ (by decide) (fun e => absurd e (by decide)) g1
      have gq34 := kq31 2 _ (by decide) (fun e => absurd e (by decide)) g2
      have gq35 := kq31 3 _ (by decide) (fun e => absurd e (by decide)) g3
      have gq36 := kq31 4 _ (by decide) (fun e => absurd e (by decide)) g4
      have gq37 := kq31 5 _ (by decide) (fun e => absurd e (by decide)) g5
      have gq38 := kq31 6 _ (by decide) (fun e => absurd e (by decide)) g6
      have gq39 := kq31 7 _ (by decide) (fun _ => rfl) g7
      refine cR_lift (fun _ _ kk => eE_goto (t := 81) lk88_113 (by decide) kk) ?_
      exact hKK g vq29 σ27 l0 l1 l2 l3 l4 l5 l6 l7 (l8 + (1 : Int32)) (cob_any rfl bl0) (cob_any rfl bl1) gq32 gq33 gq34 gq35 gq36 gq37 gq38 gq39 gq30 _ h
def k_Machine_loadSessions_13_18_b173 (F : Nat)  (σ : CS) (l4 : Int32) : Option ((Int32) × CS) :=
  some (l4, σ)
set_option maxRecDepth 4000 in
theorem k_Machine_loadSessions_13_18_b173_ok {E : CE} {pF : Nat → List Value → xH → Option (Option Value × xH)} (hp0 : xNPc pF) (hL : lcAll E pF) (hF : lcF pF) {d : Nat} {F : Nat}   : ∀ (g : CG) (lv : xL) (σ : CS) (l4 : Int32), (xg lv 4 = some (.int l4)) → ∀ res, k_Machine_loadSessions_13_18_b173 F  σ l4 = some res → cR E cQ1 pF (d + 1) kT88 10 9 (some FieldType.int) (some (.int res.1)) res.2 g σ (173, lv, []) := by
  intro g lv σ l4 g4 res h
  unfold k_Machine_loadSessions_13_18_b173 at h
  refine cR_lift (fun _ _ kk => eE_iload lk88_173 g4 kk) ?_
  cases h
  exact cR_end lk88_175 rfl rfl rfl
def k_Machine_loadSessions_13_18_b14 (F : Nat)  : Nat → CS → Nat → Nat → Int32 → Int32 → Int32 → Int32 → Option ((Int32) × CS)
  | 0, _, _, _, _, _, _, _ => none
  | n + 1, σ, l0, l1, l2, l3, l4, l5 =>
    let KK := k_Machine_loadSessions_13_18_b14 F  n
    if xc2 .ge l5 l3 = true then (
      k_Machine_loadSessions_13_18_b173 F  σ l4
    ) else (
      if xc2 .ge l5 ((16 : Int32)) = true then (
        k_Machine_loadSessions_13_18_b173 F  σ l4
      ) else (
        if xc2 .gt (l4 + ((18 : Int32))) l2 = true then (
          k_Machine_loadSessions_13_18_b173 F  σ l4
        ) else (
          (k_Machine_numberAt_13_18 F σ l1 ((l4 + ((18 : Int32))) - ((2 : Int32))) ((2 : Int32)) l2).bind fun p43 =>
          if xc2 .gt p43 ((101 : Int32)) = true then (
            k_Machine_loadSessions_13_18_b70 F  σ l2
          ) else (
            if xc2 .le ((l4 + ((18 : Int32))) + p43) l2 = true then (
              k_Machine_loadSessions_13_18_b81 F KK F σ l0 l1 l2 l3 l4 l5 p43 (l5 * ((5 : Int32))) ((0 : Int32))
            ) else (
              k_Machine_loadSessions_13_18_b70 F  σ l2
            )
          )
        )
      )
    )
set_option maxRecDepth 4000 in
theorem k_Machine_loadSessions_13_18_b14_ok {E : CE} {pF : Nat → List Value → xH → Option (Option Value × xH)} (hp0 : xNPc pF) (hL : lcAll E pF) (hF : lcF pF) {d : Nat} {F : Nat}   : ∀ (n : Nat) (g : CG) (lv : xL) (σ : CS) (l0 : Nat) (l1 : Nat) (l2 : Int32) (l3 : Int32) (l4 : Int32) (l5 : Int32), (cob σ 10 l0) → (cob σ 13 l1) → (xg lv 0 = some (.ref (coa E 10 l0))) → (xg lv 1 = some (.ref (car E g 13 l1 18))) → (xg lv 2 = some (.int l2)) → (xg lv 3 = some (.int l3)) → (xg lv 4 = some (.int l4)) → (xg lv 5 = some (.int l5)) → ∀ res, k_Machine_loadSessions_13_18_b14 F  n σ l0 l1 l2 l3 l4 l5 = some res → cR E cQ1 pF (d + 1) kT88 10 9 (some FieldType.int) (some (.int res.1)) res.2 g σ (14, lv, []) := by
  intro n
  induction n with
  | zero => intro g lv σ l0 l1 l2 l3 l4 l5 bl0 bl1 g0 g1 g2 g3 g4 g5 res h; simp [k_Machine_loadSessions_13_18_b14] at h
  | succ n hKK =>
    intro g lv σ l0 l1 l2 l3 l4 l5 bl0 bl1 g0 g1 g2 g3 g4 g5 res h
    unfold k_Machine_loadSessions_13_18_b14 at h
    dsimp only at h
    refine cR_lift (fun _ _ kk => eE_iload lk88_14 g5 kk) ?_
    refine cR_lift (fun _ _ kk => eE_iload_n lk88_16 g3 kk) ?_
    refine cR_icmp (t := 173) lk88_17 (by decide) (fun c40 => ?_) (fun c40 => ?_)
    · rw [if_pos c40] at h
      exact k_Machine_loadSessions_13_18_b173_ok hp0 hL hF  g lv σ l4 g4 _ h
    · rw [if_neg c40] at h
      refine cR_lift (fun _ _ kk => eE_iload lk88_20 g5 kk) ?_
      refine cR_lift (fun _ _ kk => eE_bipush (v := 16) lk88_22 (by decide) kk) ?_
      refine cR_icmp (t := 173) lk88_24 (by decide) (fun c41 => ?_) (fun c41 => ?_)
      · rw [if_pos c41] at h
        exact k_Machine_loadSessions_13_18_b173_ok hp0 hL hF  g lv σ l4 g4 _ h
      · rw [if_neg c41] at h
        refine cR_lift (fun _ _ kk => eE_iload lk88_27 g4 kk) ?_
        refine cR_lift (fun _ _ kk => eE_bipush (v := 18) lk88_29 (by decide) kk) ?_
        refine cR_lift (fun _ _ kk => eE_iadd lk88_31 kk) ?_
        refine cR_lift (fun _ _ kk => eE_iload_n lk88_32 g2 kk) ?_
        refine cR_icmp (t := 173) lk88_33 (by decide) (fun c42 => ?_) (fun c42 => ?_)
        · rw [if_pos c42] at h
          exact k_Machine_loadSessions_13_18_b173_ok hp0 hL hF  g lv σ l4 g4 _ h
        · rw [if_neg c42] at h
          refine cR_lift (fun _ _ kk => eE_aload_n lk88_36 g1 kk) ?_
          refine cR_lift (fun _ _ kk => eE_iload lk88_37 g4 kk) ?_
          refine cR_lift (fun _ _ kk => eE_bipush (v := 18) lk88_39 (by decide) kk) ?_
          refine cR_lift (fun _ _ kk => eE_iadd lk88_41 kk) ?_
          refine cR_lift (fun _ _ kk => eE_iconst (v := 2) lk88_42 (by decide) kk) ?_
          refine cR_lift (fun _ _ kk => eE_isub lk88_43 kk) ?_
          refine cR_lift (fun _ _ kk => eE_iconst (v := 2) lk88_44 (by decide) kk) ?_
          refine cR_lift (fun _ _ kk => eE_iload_n lk88_45 g2 kk) ?_
          obtain ⟨p43, h44, h⟩ := Option.bind_eq_some_iff.mp h
          refine cR_stat (as := [.ref (car E g 13 l1 18), .int ((l4 + ((18 : Int32))) - ((2 : Int32))), .int ((2 : Int32)), .int l2]) lk88_46 mr_10_156 na_92 rfl rfl (by first | exact Nat.le_of_ble_eq_true rfl | (simp [xcat, cvo_cat, cat_i, cat_j, cat_r]; done)) mm_92 ws_92 (k_Machine_numberAt_13_18_ok hp0 hL hF (d := d + 0) bl1 h44) (fun m45 => ?_)
          refine cR_stI (j := 6) lk88_49 (Or.inl rfl) (by decide) (fun vq46 gq47 kq48 => ?_)
          have gq49 := kq48 0 _ (by decide) (fun e => absurd e (by decide)) g0
          have gq50 := kq48 1 _ (by decide) (fun e => absurd e (by decide)) g1
          have gq51 := kq48 2 _ (by decide) (fun e => absurd e (by decide)) g2
          have gq52 := kq48 3 _ (by decide) (fun e => absurd e (by decide)) g3
          have gq53 := kq48 4 _ (by decide) (fun e => absurd e (by decide)) g4
          have gq54 := kq48 5 _ (by decide) (fun _ => rfl) g5
          refine cR_lift (fun _ _ kk => eE_iload lk88_51 gq47 kk) ?_
          refine cR_lift (fun _ _ kk => eE_bipush (v := 101) lk88_53 (by decide) kk) ?_
          refine cR_icmp (t := 70) lk88_55 (by decide) (fun c55 => ?_) (fun c55 => ?_)
          · rw [if_pos c55] at h
            exact k_Machine_loadSessions_13_18_b70_ok hp0 hL hF  g vq46 σ l2 gq51 _ h
          · rw [if_neg c55] at h
            refine cR_lift (fun _ _ kk => eE_iload lk88_58 gq53 kk) ?_
            refine cR_lift (fun _ _ kk => eE_bipush (v := 18) lk88_60 (by decide) kk) ?_
            refine cR_lift (fun _ _ kk => eE_iadd lk88_62 kk) ?_
            refine cR_lift (fun _ _ kk => eE_iload lk88_63 gq47 kk) ?_
            refine cR_lift (fun _ _ kk => eE_iadd lk88_65 kk) ?_
            refine cR_lift (fun _ _ kk => eE_iload_n lk88_66 gq51 kk) ?_
            refine cR_icmp (t := 72) lk88_67 (by decide) (fun c56 => ?_) (fun c56 => ?_)
            · rw [if_pos c56] at h
              refine cR_lift (fun _ _ kk => eE_iload lk88_72 gq54 kk) ?_
              refine cR_lift (fun _ _ kk => eE_iconst (v := 5) lk88_74 (by decide) kk) ?_
              refine cR_lift (fun _ _ kk => eE_imul lk88_75 kk) ?_
              refine cR_stI (j := 7) lk88_76 (Or.inl rfl) (by decide) (fun vq57 gq58 kq59 => ?_)
              have gq60 := kq59 0 _ (by decide) (fun e => absurd e (by decide)) gq49
              have gq61 := kq59 1 _ (by decide) (fun e => absurd e (by decide)) gq50
              have gq62 := kq59 2 _ (by decide) (fun e => absurd e (by decide)) gq51
              have gq63 := kq59 3 _ (by decide) (fun e => absurd e (by decide)) gq52
              have gq64 := kq59 4 _ (by decide) (fun e => absurd e (by decide)) gq53
              have gq65 := kq59 5 _ (by decide) (fun e => absurd e (by decide)) gq54
              have gq66 := kq59 6 _ (by decide) (fun _ => rfl) gq47
              refine cR_lift (fun _ _ kk => eE_iconst (v := 0) lk88_78 (by decide) kk) ?_
              refine cR_stI (j := 8) lk88_79 (Or.inl rfl) (by decide) (fun vq67 gq68 kq69 => ?_)
              have gq70 := kq69 0 _ (by decide) (fun e => absurd e (by decide)) gq60
              have gq71 := kq69 1 _ (by decide) (fun e => absurd e (by decide)) gq61
              have gq72 := kq69 2 _ (by decide) (fun e => absurd e (by decide)) gq62
              have gq73 := kq69 3 _ (by decide) (fun e => absurd e (by decide)) gq63
              have gq74 := kq69 4 _ (by decide) (fun e => absurd e (by decide)) gq64
              have gq75 := kq69 5 _ (by decide) (fun e => absurd e (by decide)) gq65
              have gq76 := kq69 6 _ (by decide) (fun e => absurd e (by decide)) gq66
              have gq77 := kq69 7 _ (by decide) (fun _ => rfl) gq58
              exact k_Machine_loadSessions_13_18_b81_ok hp0 hL hF hKK F g vq67 σ l0 l1 l2 l3 l4 l5 p43 (l5 * ((5 : Int32))) ((0 : Int32)) bl0 bl1 gq70 gq71 gq72 gq73 gq74 gq75 gq76 gq77 gq68 _ h
            · rw [if_neg c56] at h
              exact k_Machine_loadSessions_13_18_b70_ok hp0 hL hF  g vq46 σ l2 gq51 _ h
def k_Machine_loadSessions_13_18_b0 (F : Nat)  (σ : CS) (l0 : Nat) (l1 : Nat) (l2 : Int32) : Option ((Int32) × CS) :=
  (k_Machine_numberAt_13_18 F σ l1 ((0 : Int32)) ((4 : Int32)) l2).bind fun p78 =>
  k_Machine_loadSessions_13_18_b14 F  F σ l0 l1 l2 p78 ((4 : Int32)) ((0 : Int32))
set_option maxRecDepth 4000 in
theorem k_Machine_loadSessions_13_18_b0_ok {E : CE} {pF : Nat → List Value → xH → Option (Option Value × xH)} (hp0 : xNPc pF) (hL : lcAll E pF) (hF : lcF pF) {d : Nat} {F : Nat}   : ∀ (g : CG) (lv : xL) (σ : CS) (l0 : Nat) (l1 : Nat) (l2 : Int32), (cob σ 10 l0) → (cob σ 13 l1) → (xg lv 0 = some (.ref (coa E 10 l0))) → (xg lv 1 = some (.ref (car E g 13 l1 18))) → (xg lv 2 = some (.int l2)) → ∀ res, k_Machine_loadSessions_13_18_b0 F  σ l0 l1 l2 = some res → cR E cQ1 pF (d + 1) kT88 10 9 (some FieldType.int) (some (.int res.1)) res.2 g σ (0, lv, []) := by
  intro g lv σ l0 l1 l2 bl0 bl1 g0 g1 g2 res h
  unfold k_Machine_loadSessions_13_18_b0 at h
  refine cR_lift (fun _ _ kk => eE_aload_n lk88_0 g1 kk) ?_
  refine cR_lift (fun _ _ kk => eE_iconst (v := 0) lk88_1 (by decide) kk) ?_
  refine cR_lift (fun _ _ kk => eE_iconst (v := 4) lk88_2 (by decide) kk) ?_
  refine cR_lift (fun _ _ kk => eE_iload_n lk88_3 g2 kk) ?_
  obtain ⟨p78, h79, h⟩ := Option.bind_eq_some_iff.mp h
  refine cR_stat (as := [.ref (car E g 13 l1 18), .int ((0 : Int32)), .int ((4 : Int32)), .int l2]) lk88_4 mr_10_156 na_92 rfl rfl (by first | exact Nat.le_of_ble_eq_true rfl | (simp [xcat, cvo_cat, cat_i, cat_j, cat_r]; done)) mm_92 ws_92 (k_Machine_numberAt_13_18_ok hp0 hL hF (d := d + 0) bl1 h79) (fun m80 => ?_)
  refine cR_stI (j := 3) lk88_7 (Or.inr ⟨_, rfl, rfl⟩) (by decide) (fun vq81 gq82 kq83 => ?_)
  have gq84 := kq83 0 _ (by decide) (fun e => absurd e (by decide)) g0
  have gq85 := kq83 1 _ (by decide) (fun e => absurd e (by decide)) g1
  have gq86 := kq83 2 _ (by decide) (fun _ => rfl) g2
  refine cR_lift (fun _ _ kk => eE_iconst (v := 4) lk88_8 (by decide) kk) ?_
  refine cR_stI (j := 4) lk88_9 (Or.inl rfl) (by decide) (fun vq87 gq88 kq89 => ?_)
  have gq90 := kq89 0 _ (by decide) (fun e => absurd e (by decide)) gq84
  have gq91 := kq89 1 _ (by decide) (fun e => absurd e (by decide)) gq85
  have gq92 := kq89 2 _ (by decide) (fun e => absurd e (by decide)) gq86
  have gq93 := kq89 3 _ (by decide) (fun _ => rfl) gq82
  refine cR_lift (fun _ _ kk => eE_iconst (v := 0) lk88_11 (by decide) kk) ?_
  refine cR_stI (j := 5) lk88_12 (Or.inl rfl) (by decide) (fun vq94 gq95 kq96 => ?_)
  have gq97 := kq96 0 _ (by decide) (fun e => absurd e (by decide)) gq90
  have gq98 := kq96 1 _ (by decide) (fun e => absurd e (by decide)) gq91
  have gq99 := kq96 2 _ (by decide) (fun e => absurd e (by decide)) gq92
  have gq100 := kq96 3 _ (by decide) (fun e => absurd e (by decide)) gq93
  have gq101 := kq96 4 _ (by decide) (fun _ => rfl) gq88
  exact k_Machine_loadSessions_13_18_b14_ok hp0 hL hF  F g vq94 σ l0 l1 l2 p78 ((4 : Int32)) ((0 : Int32)) bl0 bl1 gq97 gq98 gq99 gq100 gq101 gq95 _ h
def k_Machine_loadSessions_13_18 (F : Nat) (σ : CS) (l0 : Nat) (l1 : Nat) (l2 : Int32) : Option ((Int32) × CS) := k_Machine_loadSessions_13_18_b0 F σ l0 l1 l2
theorem k_Machine_loadSessions_13_18_ok {E : CE} {pF : Nat → List Value → xH → Option (Option Value × xH)} (hp0 : xNPc pF) (hL : lcAll E pF) (hF : lcF pF) {d : Nat} {g : CG} {σ : CS} {F : Nat} {l0 : Nat} {l1 : Nat} {l2 : Int32} {res : (Int32) × CS} (bl0 : cob σ 10 l0) (bl1 : cob σ 13 l1) (h : k_Machine_loadSessions_13_18 F σ l0 l1 l2 = some res) : cCo E cQ1 pF (d + 2) 88 [.ref (coa E 10 l0), .ref (car E g 13 l1 18), .int l2] (some (.int res.1)) res.2 g σ :=
  cCo_R kk_88 mo_88 ni_88 xm_88 (Nat.le_of_ble_eq_true rfl) (hp0 88 (by decide) _) (k_Machine_loadSessions_13_18_b0_ok hp0 hL hF g _ σ l0 l1 l2 bl0 bl1 rfl rfl rfl _ h)
/-! k_Machine_load_13_18 (87), depth 3 -/
def k_Machine_load_13_18_b96 (F : Nat)  (σ : CS) : Option (CS) :=
  some σ
set_option maxRecDepth 4000 in
theorem k_Machine_load_13_18_b96_ok {E : CE} {pF : Nat → List Value → xH → Option (Option Value × xH)} (hp0 : xNPc pF) (hL : lcAll E pF) (hF : lcF pF) {d : Nat} {F : Nat}   : ∀ (g : CG) (lv : xL) (σ : CS), ∀ res, k_Machine_load_13_18_b96 F  σ = some res → cR E cQ1 pF (d + 2) kT87 10 9 none none res g σ (96, lv, []) := by
  intro g lv σ res h
  unfold k_Machine_load_13_18_b96 at h
  cases h
  exact cR_end lk87_96 rfl rfl rfl
def k_Machine_load_13_18_b203 (F : Nat)  (σ : CS) : Option (CS) :=
  some σ
set_option maxRecDepth 4000 in
theorem k_Machine_load_13_18_b203_ok {E : CE} {pF : Nat → List Value → xH → Option (Option Value × xH)} (hp0 : xNPc pF) (hL : lcAll E pF) (hF : lcF pF) {d : Nat} {F : Nat}   : ∀ (g : CG) (lv : xL) (σ : CS), ∀ res, k_Machine_load_13_18_b203 F  σ = some res → cR E cQ1 pF (d + 2) kT87 10 9 none none res g σ (203, lv, []) := by
  intro g lv σ res h
  unfold k_Machine_load_13_18_b203 at h
  cases h
  exact cR_end lk87_203 rfl rfl rfl
def k_Machine_load_13_18_b26 (F : Nat)  : Nat → CS → Nat → Nat → Int32 → Int32 → Int32 → Int32 → Option (CS)
  | 0, _, _, _, _, _, _, _ => none
  | n + 1, σ, l0, l1, l2, l3, l4, l5 =>
    let KK := k_Machine_load_13_18_b26 F  n
    if xc2 .ge l5 l4 = true then (
      k_Machine_load_13_18_b203 F  σ
    ) else (
      if xc2 .ge l5 ((128 : Int32)) = true then (
        k_Machine_load_13_18_b203 F  σ
      ) else (
        if xc2 .gt (l3 + ((3 : Int32))) l2 = true then (
          k_Machine_load_13_18_b203 F  σ
        ) else (
          (k_Machine_numberAt_13_18 F σ l1 l3 ((1 : Int32)) l2).bind fun p4 =>
          (k_Machine_numberAt_13_18 F σ l1 (l3 + ((1 : Int32))) ((2 : Int32)) l2).bind fun p16 =>
          if xc2 .gt p4 ((32 : Int32)) = true then (
            k_Machine_load_13_18_b96 F  σ
          ) else (
            if xc2 .gt p16 ((100 : Int32)) = true then (
              k_Machine_load_13_18_b96 F  σ
            ) else (
              if xc2 .le (((l3 + (3 : Int32)) + p4) + p16) l2 = true then (
                (crd σ 10 l0 6 l5).bind fun x42 =>
                (cwr σ 10 l0 7 x42 p4).bind fun σ55 =>
                (cwr σ55 10 l0 8 x42 p16).bind fun σ57 =>
                (ccpy σ57 13 l1 18 (l3 + (3 : Int32)) 10 l0 9 (x42 * ((132 : Int32))) p4).bind fun σ59 =>
                (ccpy σ59 13 l1 18 ((l3 + (3 : Int32)) + p4) 10 l0 9 ((x42 * ((132 : Int32))) + ((32 : Int32))) p16).bind fun σ61 =>
                (some (csI σ61 10 l0 4 0 ((cI σ61 10 l0 4 0) + ((1 : Int32))))).bind fun σ71 =>
                (k_Machine_unitsOf σ71 l0 l5).bind fun p73 =>
                (some (csI σ71 10 l0 5 0 ((cI σ71 10 l0 5 0) + p73))).bind fun σ76 =>
                KK σ76 l0 l1 l2 ((l3 + (3 : Int32)) + (p4 + p16)) l4 (l5 + (1 : Int32))
              ) else (
                k_Machine_load_13_18_b96 F  σ
              )
            )
          )
        )
      )
    )
set_option maxRecDepth 4000 in
theorem k_Machine_load_13_18_b26_ok {E : CE} {pF : Nat → List Value → xH → Option (Option Value × xH)} (hp0 : xNPc pF) (hL : lcAll E pF) (hF : lcF pF) {d : Nat} {F : Nat}   : ∀ (n : Nat) (g : CG) (lv : xL) (σ : CS) (l0 : Nat) (l1 : Nat) (l2 : Int32) (l3 : Int32) (l4 : Int32) (l5 : Int32), (cob σ 10 l0) → (cob σ 13 l1) → (xg lv 0 = some (.ref (coa E 10 l0))) → (xg lv 1 = some (.ref (car E g 13 l1 18))) → (xg lv 2 = some (.int l2)) → (xg lv 3 = some (.int l3)) → (xg lv 4 = some (.int l4)) → (xg lv 5 = some (.int l5)) → ∀ res, k_Machine_load_13_18_b26 F  n σ l0 l1 l2 l3 l4 l5 = some res → cR E cQ1 pF (d + 2) kT87 10 9 none none res g σ (26, lv, []) := by
  intro n
  induction n with
  | zero => intro g lv σ l0 l1 l2 l3 l4 l5 bl0 bl1 g0 g1 g2 g3 g4 g5 res h; simp [k_Machine_load_13_18_b26] at h
  | succ n hKK =>
    intro g lv σ l0 l1 l2 l3 l4 l5 bl0 bl1 g0 g1 g2 g3 g4 g5 res h
    unfold k_Machine_load_13_18_b26 at h
    dsimp only at h
    refine cR_lift (fun _ _ kk => eE_iload lk87_26 g5 kk) ?_
    refine cR_lift (fun _ _ kk => eE_iload lk87_28 g4 kk) ?_
    refine cR_icmp (t := 203) lk87_30 (by decide) (fun c1 => ?_) (fun c1 => ?_)
    · rw [if_pos c1] at h
      exact k_Machine_load_13_18_b203_ok hp0 hL hF  g lv σ  _ h
    · rw [if_neg c1] at h
      refine cR_lift (fun _ _ kk => eE_iload lk87_33 g5 kk) ?_
      refine cR_lift (fun _ _ kk => eE_sipush (v := 128) lk87_35 (by decide) kk) ?_
      refine cR_icmp (t := 203) lk87_38 (by decide) (fun c2 => ?_) (fun c2 => ?_)
      · rw [if_pos c2] at h
        exact k_Machine_load_13_18_b203_ok hp0 hL hF  g lv σ  _ h
      · rw [if_neg c2] at h
        refine cR_lift (fun _ _ kk => eE_iload_n lk87_41 g3 kk) ?_
        refine cR_lift (fun _ _ kk => eE_iconst (v := 3) lk87_42 (by decide) kk) ?_
        refine cR_lift (fun _ _ kk => eE_iadd lk87_43 kk) ?_
        refine cR_lift (fun _ _ kk => eE_iload_n lk87_44 g2 kk) ?_
        refine cR_icmp (t := 203) lk87_45 (by decide) (fun c3 => ?_) (fun c3 => ?_)
        · rw [if_pos c3] at h
          exact k_Machine_load_13_18_b203_ok hp0 hL hF  g lv σ  _ h
        · rw [if_neg c3] at h
          refine cR_lift (fun _ _ kk => eE_aload_n lk87_48 g1 kk) ?_
          refine cR_lift (fun _ _ kk => eE_iload_n lk87_49 g3 kk) ?_
          refine cR_lift (fun _ _ kk => eE_iconst (v := 1) lk87_50 (by decide) kk) ?_
          refine cR_lift (fun _ _ kk => eE_iload_n lk87_51 g2 kk) ?_
          obtain ⟨p4, h5, h⟩ := Option.bind_eq_some_iff.mp h
          refine cR_stat (as := [.ref (car E g 13 l1 18), .int l3, .int ((1 : Int32)), .int l2]) lk87_52 mr_10_156 na_92 rfl rfl (by first | exact Nat.le_of_ble_eq_true rfl | (simp [xcat, cvo_cat, cat_i, cat_j, cat_r]; done)) mm_92 ws_92 (k_Machine_numberAt_13_18_ok hp0 hL hF (d := d + 1) bl1 h5) (fun m6 => ?_)
          refine cR_stI (j := 6) lk87_55 (Or.inl rfl) (by decide) (fun vq7 gq8 kq9 => ?_)
          have gq10 := kq9 0 _ (by decide) (fun e => absurd e (by decide)) g0
          have gq11 := kq9 1 _ (by decide) (fun e => absurd e (by decide)) g1
          have gq12 := kq9 2 _ (by decide) (fun e => absurd e (by decide)) g2
          have gq13 := kq9 3 _ (by decide) (fun e => absurd e (by decide)) g3
          have gq14 := kq9 4 _ (by decide) (fun e => absurd e (by decide)) g4
          have gq15 := kq9 5 _ (by decide) (fun _ => rfl) g5
          refine cR_lift (fun _ _ kk => eE_aload_n lk87_57 gq11 kk) ?_
          refine cR_lift (fun _ _ kk => eE_iload_n lk87_58 gq13 kk) ?_
          refine cR_lift (fun _ _ kk => eE_iconst (v := 1) lk87_59 (by decide) kk) ?_
          refine cR_lift (fun _ _ kk => eE_iadd lk87_60 kk) ?_
          refine cR_lift (fun _ _ kk => eE_iconst (v := 2) lk87_61 (by decide) kk) ?_
          refine cR_lift (fun _ _ kk => eE_iload_n lk87_62 gq12 kk) ?_
          obtain ⟨p16, h17, h⟩ := Option.bind_eq_some_iff.mp h
          refine cR_stat (as := [.ref (car E g 13 l1 18), .int (l3 + ((1 : Int32))), .int ((2 : Int32)), .int l2]) lk87_63 mr_10_156 na_92 rfl rfl (by first | exact Nat.le_of_ble_eq_true rfl | (simp [xcat, cvo_cat, cat_i, cat_j, cat_r]; done)) mm_92 ws_92 (k_Machine_numberAt_13_18_ok hp0 hL hF (d := d + 1) bl1 h17) (fun m18 => ?_)
          refine cR_stI (j := 7) lk87_66 (Or.inl rfl) (by decide) (fun vq19 gq20 kq21 => ?_)
          have gq22 := kq21 0 _ (by decide) (fun e => absurd e (by decide)) gq10
          have gq23 := kq21 1 _ (by decide) (fun e => absurd e (by decide)) gq11
          have gq24 := kq21 2 _ (by decide) (fun e => absurd e (by decide)) gq12
          have gq25 := kq21 3 _ (by decide) (fun e => absurd e (by decide)) gq13
          have gq26 := kq21 4 _ (by decide) (fun e => absurd e (by decide)) gq14
          have gq27 := kq21 5 _ (by decide) (fun e => absurd e (by decide)) gq15
          have gq28 := kq21 6 _ (by decide) (fun _ => rfl) gq8
          refine cR_inc (j := 3) (v := l3 + (3 : Int32)) lk87_68 gq25 rfl (by decide) (fun vq29 gq30 kq31 => ?_)
          have gq32 := kq31 0 _ (by decide) (fun e => absurd e (by decide)) gq22
          have gq33 := kq31 1 _ (by decide) (fun e => absurd e (by decide)) gq23
          have gq34 := kq31 2 _ (by decide) (fun _ => rfl) gq24
          have gq35 := kq31 4 _ (by decide) (fun e => absurd e (by decide)) gq26
          have gq36 := kq31 5 _ (by decide) (fun e => absurd e (by decide)) gq27
          have gq37 := kq31 6 _ (by decide) (fun e => absurd e (by decide)) gq28
          have gq38 := kq31 7 _ (by decide) (fun e => absurd e (by decide)) gq20
          refine cR_lift (fun _ _ kk => eE_iload lk87_71 gq37 kk) ?_
          refine cR_lift (fun _ _ kk => eE_bipush (v := 32) lk87_73 (by decide) kk) ?_
          refine cR_icmp (t := 96) lk87_75 (by decide) (fun c39 => ?_) (fun c39 => ?_)
          · rw [if_pos c39] at h
            exact k_Machine_load_13_18_b96_ok hp0 hL hF  g vq29 σ  _ h
          · rw [if_neg c39] at h
            refine cR_lift (fun _ _ kk => eE_iload lk87_78 gq38 kk) ?_
            refine cR_lift (fun _ _ kk => eE_bipush (v := 100) lk87_80 (by decide) kk) ?_
            refine cR_icmp (t := 96) lk87_82 (by decide) (fun c40 => ?_) (fun c40 => ?_)
            · rw [if_pos c40] at h
              exact k_Machine_load_13_18_b96_ok hp0 hL hF  g vq29 σ  _ h
            · rw [if_neg c40] at h
              refine cR_lift (fun _ _ kk => eE_iload_n lk87_85 gq30 kk) ?_
              refine cR_lift (fun _ _ kk => eE_iload lk87_86 gq37 kk) ?_
              refine cR_lift (fun _ _ kk => eE_iadd lk87_88 kk) ?_
              refine cR_lift (fun _ _ kk => eE_iload lk87_89 gq38 kk) ?_
              refine cR_lift (fun _ _ kk => eE_iadd lk87_91 kk) ?_
              refine cR_lift (fun _ _ kk => eE_iload_n lk87_92 gq34 kk) ?_
              refine cR_icmp (t := 97) lk87_93 (by decide) (fun c41 => ?_) (fun c41 => ?_)
              · rw [if_pos c41] at h
                refine cR_lift (fun _ _ kk => eE_aload_n lk87_97 gq32 kk) ?_
                refine cR_getA lk87_98 rf_10_19 (by decide) bl0 ?_
                refine cR_lift (fun _ _ kk => eE_iload lk87_101 gq36 kk) ?_
                obtain ⟨x42, h43, h⟩ := Option.bind_eq_some_iff.mp h
                refine cR_iald (cl := 10) (i := l0) (f := 6) lk87_103 (by decide) rfl bl0 h43 ?_
                refine cR_stI (j := 8) lk87_104 (Or.inl rfl) (by decide) (fun vq44 gq45 kq46 => ?_)
                have gq47 := kq46 0 _ (by decide) (fun e => absurd e (by decide)) gq32
                have gq48 := kq46 1 _ (by decide) (fun e => absurd e (by decide)) gq33
                have gq49 := kq46 2 _ (by decide) (fun e => absurd e (by decide)) gq34
                have gq50 := kq46 4 _ (by decide) (fun e => absurd e (by decide)) gq35
                have gq51 := kq46 5 _ (by decide) (fun e => absurd e (by decide)) gq36
                have gq52 := kq46 6 _ (by decide) (fun e => absurd e (by decide)) gq37
                have gq53 := kq46 7 _ (by decide) (fun _ => rfl) gq38
                have gq54 := kq46 3 _ (by decide) (fun e => absurd e (by decide)) gq30
                refine cR_lift (fun _ _ kk => eE_aload_n lk87_106 gq47 kk) ?_
                refine cR_getA lk87_107 rf_10_22 (by decide) bl0 ?_
                refine cR_lift (fun _ _ kk => eE_iload lk87_110 gq45 kk) ?_
                refine cR_lift (fun _ _ kk => eE_iload lk87_112 gq52 kk) ?_
                obtain ⟨σ55, h56, h⟩ := Option.bind_eq_some_iff.mp h
                refine cR_iast (cl := 10) (i := l0) (f := 7) lk87_114 (by decide) rfl bl0 h56 ?_
                refine cR_lift (fun _ _ kk => eE_aload_n lk87_115 gq47 kk) ?_
                refine cR_getA lk87_116 rf_10_25 (by decide) (cob_any rfl bl0) ?_
                refine cR_lift (fun _ _ kk => eE_iload lk87_119 gq45 kk) ?_
                refine cR_lift (fun _ _ kk => eE_iload lk87_121 gq53 kk) ?_
                obtain ⟨σ57, h58, h⟩ := Option.bind_eq_some_iff.mp h
                refine cR_iast (cl := 10) (i := l0) (f := 8) lk87_123 (by decide) rfl (cob_any rfl bl0) h58 ?_
                refine cR_lift (fun _ _ kk => eE_aload_n lk87_124 gq48 kk) ?_
                refine cR_lift (fun _ _ kk => eE_iload_n lk87_125 gq54 kk) ?_
                refine cR_lift (fun _ _ kk => eE_aload_n lk87_126 gq47 kk) ?_
                refine cR_getA lk87_127 rf_10_28 (by decide) (cob_any rfl bl0) ?_
                refine cR_lift (fun _ _ kk => eE_iload lk87_130 gq45 kk) ?_
                refine cR_lift (fun _ _ kk => eE_sipush (v := 132) lk87_132 (by decide) kk) ?_
                refine cR_lift (fun _ _ kk => eE_imul lk87_135 kk) ?_
                refine cR_lift (fun _ _ kk => eE_iload lk87_136 gq52 kk) ?_
                obtain ⟨σ59, h60, h⟩ := Option.bind_eq_some_iff.mp h
                refine cR_cpy (a := 13) (i := l1) (f := 18) (a' := 10) (i' := l0) (f' := 9) lk87_138 yc_10_68.1 yc_10_68.2 (by decide) (by decide) (by decide) (cob_any rfl bl1) (cob_any rfl bl0) (by first | exact Nat.le_of_ble_eq_true rfl | (simp [xcat, cvo_cat, cat_i, cat_j, cat_r]; done)) h60 ?_
                refine cR_lift (fun _ _ kk => eE_aload_n lk87_141 gq48 kk) ?_
                refine cR_lift (fun _ _ kk => eE_iload_n lk87_142 gq54 kk) ?_
                refine cR_lift (fun _ _ kk => eE_iload lk87_143 gq52 kk) ?_
                refine cR_lift (fun _ _ kk => eE_iadd lk87_145 kk) ?_
                refine cR_lift (fun _ _ kk => eE_aload_n lk87_146 gq47 kk) ?_
                refine cR_getA lk87_147 rf_10_28 (by decide) (cob_any rfl bl0) ?_
                refine cR_lift (fun _ _ kk => eE_iload lk87_150 gq45 kk) ?_
                refine cR_lift (fun _ _ kk => eE_sipush (v := 132) lk87_152 (by decide) kk) ?_
                refine cR_lift (fun _ _ kk => eE_imul lk87_155 kk) ?_
                refine cR_lift (fun _ _ kk => eE_bipush (v := 32) lk87_156 (by decide) kk) ?_
                refine cR_lift (fun _ _ kk => eE_iadd lk87_158 kk) ?_
                refine cR_lift (fun _ _ kk => eE_iload lk87_159 gq53 kk) ?_
                obtain ⟨σ61, h62, h⟩ := Option.bind_eq_some_iff.mp h
                refine cR_cpy (a := 13) (i := l1) (f := 18) (a' := 10) (i' := l0) (f' := 9) lk87_161 yc_10_68.1 yc_10_68.2 (by decide) (by decide) (by decide) (cob_any rfl bl1) (cob_any rfl bl0) (by first | exact Nat.le_of_ble_eq_true rfl | (simp [xcat, cvo_cat, cat_i, cat_j, cat_r]; done)) h62 ?_
                refine cR_lift (fun _ _ kk => eE_iload_n lk87_164 gq54 kk) ?_
                refine cR_lift (fun _ _ kk => eE_iload lk87_165 gq52 kk) ?_
                refine cR_lift (fun _ _ kk => eE_iload lk87_167 gq53 kk) ?_
                refine cR_lift (fun _ _ kk => eE_iadd lk87_169 kk) ?_
                refine cR_lift (fun _ _ kk => eE_iadd lk87_170 kk) ?_
                refine cR_stI (j := 3) lk87_171 (Or.inr ⟨_, rfl, rfl⟩) (by decide) (fun vq63 gq64 kq65 => ?_)
                have gq66 := kq65 0 _ (by decide) (fun e => absurd e (by decide)) gq47
                have gq67 := kq65 1 _ (by decide) (fun e => absurd e (by decide)) gq48
                have gq68 := kq65 2 _ (by decide) (fun _ => rfl) gq49
                have gq69 := kq65 4 _ (by decide) (fun e => absurd e (by decide)) gq50
                have gq70 := kq65 5 _ (by decide) (fun e => absurd e (by decide)) gq51
                refine cR_lift (fun _ _ kk => eE_aload_n lk87_172 gq66 kk) ?_
                refine cR_lift (fun _ _ kk => eE_dup lk87_173 rfl kk) ?_
                refine cR_getI lk87_174 rf_10_45 rfl (cob_any rfl bl0) ?_
                refine cR_lift (fun _ _ kk => eE_iconst (v := 1) lk87_177 (by decide) kk) ?_
                refine cR_lift (fun _ _ kk => eE_iadd lk87_178 kk) ?_
                obtain ⟨σ71, h72, h⟩ := Option.bind_eq_some_iff.mp h
                refine cR_putI lk87_179 rf_10_45 rfl (cob_any rfl bl0) pf_10_4 rfl h72 ?_
                refine cR_lift (fun _ _ kk => eE_aload_n lk87_182 gq66 kk) ?_
                refine cR_lift (fun _ _ kk => eE_dup lk87_183 rfl kk) ?_
                refine cR_getI lk87_184 rf_10_48 rfl (cob_any rfl bl0) ?_
                refine cR_lift (fun _ _ kk => eE_aload_n lk87_187 gq66 kk) ?_
                refine cR_lift (fun _ _ kk => eE_iload lk87_188 gq70 kk) ?_
                obtain ⟨p73, h74, h⟩ := Option.bind_eq_some_iff.mp h
                refine cR_virt (cl := 10) (i := l0) (as := [.int l5]) lk87_190 mr_10_124 na_104 rfl rfl (by first | exact Nat.le_of_ble_eq_true rfl | (simp [xcat, cvo_cat, cat_i, cat_j, cat_r]; done)) wv_104 wc_104 (cob_any rfl bl0) (k_Machine_unitsOf_ok hp0 hL hF (d := d + 1) (cob_any rfl bl0) h74) (fun m75  => ?_)
                refine cR_lift (fun _ _ kk => eE_iadd lk87_193 kk) ?_
                obtain ⟨σ76, h77, h⟩ := Option.bind_eq_some_iff.mp h
                refine cR_putI lk87_194 rf_10_48 rfl (cob_any rfl bl0) pf_10_5 rfl h77 ?_
                refine cR_inc (j := 5) (v := l5 + (1 : Int32)) lk87_197 gq70 rfl (by decide) (fun vq78 gq79 kq80 => ?_)
                have gq81 := kq80 0 _ (by decide) (fun e => absurd e (by decide)) gq66
                have gq82 := kq80 1 _ (by decide) (fun e => absurd e (by decide)) gq67
                have gq83 := kq80 2 _ (by decide) (fun e => absurd e (by decide)) gq68
                have gq84 := kq80 4 _ (by decide) (fun _ => rfl) gq69
                have gq85 := kq80 3 _ (by decide) (fun e => absurd e (by decide)) gq64
                refine cR_lift (fun _ _ kk => eE_goto (t := 26) lk87_200 (by decide) kk) ?_
                exact hKK g vq78 σ76 l0 l1 l2 ((l3 + (3 : Int32)) + (p4 + p16)) l4 (l5 + (1 : Int32)) (cob_any rfl bl0) (cob_any rfl bl1) gq81 gq82 gq83 gq85 gq84 gq79 _ h
              · rw [if_neg c41] at h
                exact k_Machine_load_13_18_b96_ok hp0 hL hF  g vq29 σ  _ h
def k_Machine_load_13_18_b0 (F : Nat)  (σ : CS) (l0 : Nat) (l1 : Nat) (l2 : Int32) : Option (CS) :=
  (k_Machine_clear σ l0).bind fun p86 =>
  (k_Machine_loadSessions_13_18 F p86 l0 l1 l2).bind fun p89 =>
  (k_Machine_numberAt_13_18 F p89.2 l1 p89.1 ((4 : Int32)) l2).bind fun p98 =>
  k_Machine_load_13_18_b26 F  F p89.2 l0 l1 l2 (p89.1 + (4 : Int32)) p98 ((0 : Int32))
set_option maxRecDepth 4000 in
theorem k_Machine_load_13_18_b0_ok {E : CE} {pF : Nat → List Value → xH → Option (Option Value × xH)} (hp0 : xNPc pF) (hL : lcAll E pF) (hF : lcF pF) {d : Nat} {F : Nat}   : ∀ (g : CG) (lv : xL) (σ : CS) (l0 : Nat) (l1 : Nat) (l2 : Int32), (cob σ 10 l0) → (cob σ 13 l1) → (xg lv 0 = some (.ref (coa E 10 l0))) → (xg lv 1 = some (.ref (car E g 13 l1 18))) → (xg lv 2 = some (.int l2)) → ∀ res, k_Machine_load_13_18_b0 F  σ l0 l1 l2 = some res → cR E cQ1 pF (d + 2) kT87 10 9 none none res g σ (0, lv, []) := by
  intro g lv σ l0 l1 l2 bl0 bl1 g0 g1 g2 res h
  unfold k_Machine_load_13_18_b0 at h
  refine cR_lift (fun _ _ kk => eE_aload_n lk87_0 g0 kk) ?_
  obtain ⟨p86, h87, h⟩ := Option.bind_eq_some_iff.mp h
  refine cR_virt (cl := 10) (i := l0) (as := []) lk87_1 mr_10_149 na_77 rfl rfl (by first | exact Nat.le_of_ble_eq_true rfl | (simp [xcat, cvo_cat, cat_i, cat_j, cat_r]; done)) wv_77 wc_77 bl0 (k_Machine_clear_ok hp0 hL hF (d := d + 1) bl0 h87) (fun m88  => ?_)
  refine cR_lift (fun _ _ kk => eE_aload_n lk87_4 g0 kk) ?_
  refine cR_lift (fun _ _ kk => eE_aload_n lk87_5 g1 kk) ?_
  refine cR_lift (fun _ _ kk => eE_iload_n lk87_6 g2 kk) ?_
  obtain ⟨p89, h90, h⟩ := Option.bind_eq_some_iff.mp h
  refine cR_virt (cl := 10) (i := l0) (as := [.ref (car E g 13 l1 18), .int l2]) lk87_7 mr_10_152 na_88 rfl rfl (by first | exact Nat.le_of_ble_eq_true rfl | (simp [xcat, cvo_cat, cat_i, cat_j, cat_r]; done)) wv_88 wc_88 (cob_any rfl bl0) (k_Machine_loadSessions_13_18_ok hp0 hL hF (d := d + 0) (cob_any rfl bl0) (cob_any rfl bl1) h90) (fun m91  => ?_)
  refine cR_stI (j := 3) lk87_10 (Or.inr ⟨_, rfl, rfl⟩) (by decide) (fun vq92 gq93 kq94 => ?_)
  have gq95 := kq94 0 _ (by decide) (fun e => absurd e (by decide)) g0
  have gq96 := kq94 1 _ (by decide) (fun e => absurd e (by decide)) g1
  have gq97 := kq94 2 _ (by decide) (fun _ => rfl) g2
  refine cR_lift (fun _ _ kk => eE_aload_n lk87_11 gq96 kk) ?_
  refine cR_lift (fun _ _ kk => eE_iload_n lk87_12 gq93 kk) ?_
  refine cR_lift (fun _ _ kk => eE_iconst (v := 4) lk87_13 (by decide) kk) ?_
  refine cR_lift (fun _ _ kk => eE_iload_n lk87_14 gq97 kk) ?_
  obtain ⟨p98, h99, h⟩ := Option.bind_eq_some_iff.mp h
  refine cR_stat (as := [.ref (car E g 13 l1 18), .int p89.1, .int ((4 : Int32)), .int l2]) lk87_15 mr_10_156 na_92 rfl rfl (by first | exact Nat.le_of_ble_eq_true rfl | (simp [xcat, cvo_cat, cat_i, cat_j, cat_r]; done)) mm_92 ws_92 (k_Machine_numberAt_13_18_ok hp0 hL hF (d := d + 1) (cob_any rfl bl1) h99) (fun m100 => ?_)
  refine cR_stI (j := 4) lk87_18 (Or.inl rfl) (by decide) (fun vq101 gq102 kq103 => ?_)
  have gq104 := kq103 0 _ (by decide) (fun e => absurd e (by decide)) gq95
  have gq105 := kq103 1 _ (by decide) (fun e => absurd e (by decide)) gq96
  have gq106 := kq103 2 _ (by decide) (fun e => absurd e (by decide)) gq97
  have gq107 := kq103 3 _ (by decide) (fun _ => rfl) gq93
  refine cR_inc (j := 3) (v := p89.1 + (4 : Int32)) lk87_20 gq107 rfl (by decide) (fun vq108 gq109 kq110 => ?_)
  have gq111 := kq110 0 _ (by decide) (fun e => absurd e (by decide)) gq104
  have gq112 := kq110 1 _ (by decide) (fun e => absurd e (by decide)) gq105
  have gq113 := kq110 2 _ (by decide) (fun _ => rfl) gq106
  have gq114 := kq110 4 _ (by decide) (fun e => absurd e (by decide)) gq102
  refine cR_lift (fun _ _ kk => eE_iconst (v := 0) lk87_23 (by decide) kk) ?_
  refine cR_stI (j := 5) lk87_24 (Or.inl rfl) (by decide) (fun vq115 gq116 kq117 => ?_)
  have gq118 := kq117 0 _ (by decide) (fun e => absurd e (by decide)) gq111
  have gq119 := kq117 1 _ (by decide) (fun e => absurd e (by decide)) gq112
  have gq120 := kq117 2 _ (by decide) (fun e => absurd e (by decide)) gq113
  have gq121 := kq117 4 _ (by decide) (fun _ => rfl) gq114
  have gq122 := kq117 3 _ (by decide) (fun e => absurd e (by decide)) gq109
  exact k_Machine_load_13_18_b26_ok hp0 hL hF  F g vq115 p89.2 l0 l1 l2 (p89.1 + (4 : Int32)) p98 ((0 : Int32)) (cob_any rfl bl0) (cob_any rfl bl1) gq118 gq119 gq120 gq122 gq121 gq116 _ h
def k_Machine_load_13_18 (F : Nat) (σ : CS) (l0 : Nat) (l1 : Nat) (l2 : Int32) : Option (CS) := k_Machine_load_13_18_b0 F σ l0 l1 l2
theorem k_Machine_load_13_18_ok {E : CE} {pF : Nat → List Value → xH → Option (Option Value × xH)} (hp0 : xNPc pF) (hL : lcAll E pF) (hF : lcF pF) {d : Nat} {g : CG} {σ : CS} {F : Nat} {l0 : Nat} {l1 : Nat} {l2 : Int32} {res : CS} (bl0 : cob σ 10 l0) (bl1 : cob σ 13 l1) (h : k_Machine_load_13_18 F σ l0 l1 l2 = some res) : cCo E cQ1 pF (d + 3) 87 [.ref (coa E 10 l0), .ref (car E g 13 l1 18), .int l2] none res g σ :=
  cCo_R kk_87 mo_87 ni_87 xm_87 (Nat.le_of_ble_eq_true rfl) (hp0 87 (by decide) _) (k_Machine_load_13_18_b0_ok hp0 hL hF g _ σ l0 l1 l2 bl0 bl1 rfl rfl rfl _ h)
/-! k_Server_takeSnapshot (179), depth 4 -/
def k_Server_takeSnapshot_b0 (F : Nat)  (σ : CS) (l0 : Nat) (l1 : Nat) : Option (CS) :=
  (k_Disk_writeSnapshot_13_18 σ l0 (cI σ 8 l1 7 0) (cI σ 8 l1 8 0) (cI σ 8 l1 11 0) l0 (cI σ 13 l0 17 0)).bind fun p1 =>
  (k_Log_moveBase F p1 l0 (cI p1 8 l1 7 0) (cI p1 8 l1 8 0) (cI p1 8 l1 11 0)).bind fun p5 =>
  (k_Disk_baseMoved F p5 l0 (cI p5 9 l0 3 0) (cI p5 9 l0 6 0)).bind fun p8 =>
  (some (csI p8 9 l0 9 0 (cI p8 9 l0 3 0))).bind fun σ11 =>
  (some (csI σ11 9 l0 10 0 (cI σ11 9 l0 3 0))).bind fun σ13 =>
  (k_Machine_load_13_18 F σ13 l0 l0 (cI σ13 13 l0 17 0)).bind fun p15 =>
  (k_Server_soil p15 l0).bind fun p18 =>
  (some (csI p18 13 l0 16 0 ((-1 : Int32)))).bind fun σ21 =>
  (some (csI σ21 13 l0 17 0 ((0 : Int32)))).bind fun σ23 =>
  some σ23
set_option maxRecDepth 4000 in
theorem k_Server_takeSnapshot_b0_ok {E : CE} {pF : Nat → List Value → xH → Option (Option Value × xH)} (hp0 : xNPc pF) (hL : lcAll E pF) (hF : lcF pF) {d : Nat} {F : Nat}   : ∀ (g : CG) (lv : xL) (σ : CS) (l0 : Nat) (l1 : Nat), (cob σ 13 l0) → (cob σ 8 l1) → (xg lv 0 = some (.ref (coa E 13 l0))) → (xg lv 1 = some (.ref (coa E 8 l1))) → ∀ res, k_Server_takeSnapshot_b0 F  σ l0 l1 = some res → cR E (cQx [11]) pF (d + 3) kT179 13 2 none none res g σ (0, lv, []) := by
  intro g lv σ l0 l1 bl0 bl1 g0 g1 res h
  unfold k_Server_takeSnapshot_b0 at h
  refine cR_lift (fun _ _ kk => eE_aload_n lk179_0 g0 kk) ?_
  refine cR_getO (cl' := 6) (i' := l0) lk179_1 rf_13_12 rfl rfl bl0 ?_
  refine cR_lift (fun _ _ kk => eE_aload_n lk179_4 g1 kk) ?_
  refine cR_getI lk179_5 rf_13_189 rfl bl1 ?_
  refine cR_lift (fun _ _ kk => eE_aload_n lk179_8 g1 kk) ?_
  refine cR_getI lk179_9 rf_13_370 rfl bl1 ?_
  refine cR_lift (fun _ _ kk => eE_aload_n lk179_12 g1 kk) ?_
  refine cR_getI lk179_13 rf_13_422 rfl bl1 ?_
  refine cR_lift (fun _ _ kk => eE_aload_n lk179_16 g0 kk) ?_
  refine cR_getA lk179_17 rf_13_56 (by decide) bl0 ?_
  refine cR_lift (fun _ _ kk => eE_aload_n lk179_20 g0 kk) ?_
  refine cR_getI lk179_21 rf_13_238 rfl bl0 ?_
  obtain ⟨p1, h2, h⟩ := Option.bind_eq_some_iff.mp h
  refine cR_virtG (by exact cQx_sub rfl) (cl := 6) (i := l0) (as := [.int (cI σ 8 l1 7 0), .int (cI σ 8 l1 8 0), .int (cI σ 8 l1 11 0), .ref (car E g 13 l0 18), .int (cI σ 13 l0 17 0)]) lk179_24 mr_13_532 na_53 rfl rfl (by first | exact Nat.le_of_ble_eq_true rfl | (simp [xcat, cvo_cat, cat_i, cat_j, cat_r]; done)) wv_53 wc_53 (cob_s (cl := 6) bl0 (by decide) rfl rfl) (k_Disk_writeSnapshot_13_18_ok hp0 hL hF (d := d + 1) (cob_s (cl := 6) bl0 (by decide) rfl rfl) bl0 h2) (fun m3 g_4 g_4e => ?_)
  refine cR_lift (fun _ _ kk => eE_aload_n lk179_27 g0 kk) ?_
  refine cR_getO (cl' := 9) (i' := l0) lk179_28 rf_13_72 rfl rfl (cob_any rfl bl0) ?_
  refine cR_lift (fun _ _ kk => eE_aload_n lk179_31 g1 kk) ?_
  refine cR_getI lk179_32 rf_13_189 rfl (cob_mon m3 bl1) ?_
  refine cR_lift (fun _ _ kk => eE_aload_n lk179_35 g1 kk) ?_
  refine cR_getI lk179_36 rf_13_370 rfl (cob_mon m3 bl1) ?_
  refine cR_lift (fun _ _ kk => eE_aload_n lk179_39 g1 kk) ?_
  refine cR_getI lk179_40 rf_13_422 rfl (cob_mon m3 bl1) ?_
  obtain ⟨p5, h6, h⟩ := Option.bind_eq_some_iff.mp h
  refine cR_virt (cl := 9) (i := l0) (as := [.int (cI p1 8 l1 7 0), .int (cI p1 8 l1 8 0), .int (cI p1 8 l1 11 0)]) lk179_43 mr_13_272 na_72 rfl rfl (by first | exact Nat.le_of_ble_eq_true rfl | (simp [xcat, cvo_cat, cat_i, cat_j, cat_r]; done)) wv_72 wc_72 (cob_s (cl := 9) (cob_any rfl bl0) (by decide) rfl rfl) (k_Log_moveBase_ok hp0 hL hF (d := d + 0) (cob_s (cl := 9) (cob_any rfl bl0) (by decide) rfl rfl) h6) (fun m7  => ?_)
  refine cR_lift (fun _ _ kk => eE_aload_n lk179_46 g0 kk) ?_
  refine cR_getO (cl' := 6) (i' := l0) lk179_47 rf_13_12 rfl rfl (cob_any rfl bl0) ?_
  refine cR_lift (fun _ _ kk => eE_aload_n lk179_50 g0 kk) ?_
  refine cR_getO (cl' := 9) (i' := l0) lk179_51 rf_13_72 rfl rfl (cob_any rfl bl0) ?_
  refine cR_getI lk179_54 rf_13_100 rfl (cob_s (cl := 9) (cob_any rfl bl0) (by decide) rfl rfl) ?_
  refine cR_lift (fun _ _ kk => eE_aload_n lk179_57 g0 kk) ?_
  refine cR_getO (cl' := 9) (i' := l0) lk179_58 rf_13_72 rfl rfl (cob_any rfl bl0) ?_
  refine cR_getI lk179_61 rf_13_103 rfl (cob_s (cl := 9) (cob_any rfl bl0) (by decide) rfl rfl) ?_
  obtain ⟨p8, h9, h⟩ := Option.bind_eq_some_iff.mp h
  refine cR_virt (cl := 6) (i := l0) (as := [.int (cI p5 9 l0 3 0), .int (cI p5 9 l0 6 0)]) lk179_64 mr_13_536 na_33 rfl rfl (by first | exact Nat.le_of_ble_eq_true rfl | (simp [xcat, cvo_cat, cat_i, cat_j, cat_r]; done)) wv_33 wc_33 (cob_s (cl := 6) (cob_any rfl bl0) (by decide) rfl rfl) (k_Disk_baseMoved_ok hp0 hL hF (d := d + 0) (cob_s (cl := 6) (cob_any rfl bl0) (by decide) rfl rfl) h9) (fun m10  => ?_)
  refine cR_lift (fun _ _ kk => eE_aload_n lk179_67 g0 kk) ?_
  refine cR_getO (cl' := 9) (i' := l0) lk179_68 rf_13_72 rfl rfl (cob_any rfl bl0) ?_
  refine cR_lift (fun _ _ kk => eE_aload_n lk179_71 g0 kk) ?_
  refine cR_getO (cl' := 9) (i' := l0) lk179_72 rf_13_72 rfl rfl (cob_any rfl bl0) ?_
  refine cR_getI lk179_75 rf_13_100 rfl (cob_s (cl := 9) (cob_any rfl bl0) (by decide) rfl rfl) ?_
  obtain ⟨σ11, h12, h⟩ := Option.bind_eq_some_iff.mp h
  refine cR_putI lk179_78 rf_13_91 rfl (cob_s (cl := 9) (cob_any rfl bl0) (by decide) rfl rfl) pf_9_9 rfl h12 ?_
  refine cR_lift (fun _ _ kk => eE_aload_n lk179_81 g0 kk) ?_
  refine cR_getO (cl' := 9) (i' := l0) lk179_82 rf_13_72 rfl rfl (cob_any rfl bl0) ?_
  refine cR_lift (fun _ _ kk => eE_aload_n lk179_85 g0 kk) ?_
  refine cR_getO (cl' := 9) (i' := l0) lk179_86 rf_13_72 rfl rfl (cob_any rfl bl0) ?_
  refine cR_getI lk179_89 rf_13_100 rfl (cob_s (cl := 9) (cob_any rfl bl0) (by decide) rfl rfl) ?_
  obtain ⟨σ13, h14, h⟩ := Option.bind_eq_some_iff.mp h
  refine cR_putI lk179_92 rf_13_94 rfl (cob_s (cl := 9) (cob_any rfl bl0) (by decide) rfl rfl) pf_9_10 rfl h14 ?_
  refine cR_lift (fun _ _ kk => eE_aload_n lk179_95 g0 kk) ?_
  refine cR_getO (cl' := 10) (i' := l0) lk179_96 rf_13_81 rfl rfl (cob_any rfl bl0) ?_
  refine cR_lift (fun _ _ kk => eE_aload_n lk179_99 g0 kk) ?_
  refine cR_getA lk179_100 rf_13_56 (by decide) (cob_any rfl bl0) ?_
  refine cR_lift (fun _ _ kk => eE_aload_n lk179_103 g0 kk) ?_
  refine cR_getI lk179_104 rf_13_238 rfl (cob_any rfl bl0) ?_
  obtain ⟨p15, h16, h⟩ := Option.bind_eq_some_iff.mp h
  refine cR_virt (cl := 10) (i := l0) (as := [.ref (car E g_4 13 l0 18), .int (cI σ13 13 l0 17 0)]) lk179_107 mr_13_282 na_87 rfl rfl (by first | exact Nat.le_of_ble_eq_true rfl | (simp [xcat, cvo_cat, cat_i, cat_j, cat_r]; done)) wv_87 wc_87 (cob_s (cl := 10) (cob_any rfl bl0) (by decide) rfl rfl) (k_Machine_load_13_18_ok hp0 hL hF (d := d + 0) (cob_s (cl := 10) (cob_any rfl bl0) (by decide) rfl rfl) (cob_any rfl bl0) h16) (fun m17  => ?_)
  refine cR_lift (fun _ _ kk => eE_aload_n lk179_110 g0 kk) ?_
  obtain ⟨p18, h19, h⟩ := Option.bind_eq_some_iff.mp h
  refine cR_virt (cl := 13) (i := l0) (as := []) lk179_111 mr_13_323 na_165 rfl rfl (by first | exact Nat.le_of_ble_eq_true rfl | (simp [xcat, cvo_cat, cat_i, cat_j, cat_r]; done)) wv_165 wc_165 (cob_any rfl bl0) (k_Server_soil_ok hp0 hL hF (d := d + 1) (cob_any rfl bl0) h19) (fun m20  => ?_)
  refine cR_lift (fun _ _ kk => eE_aload_n lk179_114 g0 kk) ?_
  refine cR_lift (fun _ _ kk => eE_iconst (v := (-1)) lk179_115 (by decide) kk) ?_
  obtain ⟨σ21, h22, h⟩ := Option.bind_eq_some_iff.mp h
  refine cR_putI lk179_116 rf_13_53 rfl (cob_any rfl bl0) pf_13_16 rfl h22 ?_
  refine cR_lift (fun _ _ kk => eE_aload_n lk179_119 g0 kk) ?_
  refine cR_lift (fun _ _ kk => eE_iconst (v := 0) lk179_120 (by decide) kk) ?_
  obtain ⟨σ23, h24, h⟩ := Option.bind_eq_some_iff.mp h
  refine cR_putI lk179_121 rf_13_238 rfl (cob_any rfl bl0) pf_13_17 rfl h24 ?_
  cases h
  exact cR_end lk179_124 rfl rfl rfl
def k_Server_takeSnapshot (F : Nat) (σ : CS) (l0 : Nat) (l1 : Nat) : Option (CS) := k_Server_takeSnapshot_b0 F σ l0 l1
theorem k_Server_takeSnapshot_ok {E : CE} {pF : Nat → List Value → xH → Option (Option Value × xH)} (hp0 : xNPc pF) (hL : lcAll E pF) (hF : lcF pF) {d : Nat} {g : CG} {σ : CS} {F : Nat} {l0 : Nat} {l1 : Nat} {res : CS} (bl0 : cob σ 13 l0) (bl1 : cob σ 8 l1) (h : k_Server_takeSnapshot F σ l0 l1 = some res) : cCo E (cQx [11]) pF (d + 4) 179 [.ref (coa E 13 l0), .ref (coa E 8 l1)] none res g σ :=
  cCo_R kk_179 mo_179 ni_179 xm_179 (Nat.le_of_ble_eq_true rfl) (hp0 179 (by decide) _) (k_Server_takeSnapshot_b0_ok hp0 hL hF g _ σ l0 l1 bl0 bl1 rfl rfl _ h)
/-! k_Server_takePiece (175), depth 14 -/
def k_Server_takePiece_b171 (F : Nat)  (σ : CS) : Option (CS) :=
  some σ
set_option maxRecDepth 4000 in
theorem k_Server_takePiece_b171_ok {E : CE} {pF : Nat → List Value → xH → Option (Option Value × xH)} (hp0 : xNPc pF) (hL : lcAll E pF) (hF : lcF pF) {d : Nat} {F : Nat}   : ∀ (g : CG) (lv : xL) (σ : CS), ∀ res, k_Server_takePiece_b171 F  σ = some res → cR E (cQx [11, 13, 14]) pF (d + 13) kT175 13 4 none none res g σ (171, lv, []) := by
  intro g lv σ res h
  unfold k_Server_takePiece_b171 at h
  cases h
  exact cR_end lk175_171 rfl rfl rfl
def k_Server_takePiece_b125 (F : Nat)  (σ : CS) (l0 : Nat) (l1 : Nat) (l2 : Int32) (l3 : Int32) : Option (CS) :=
  (k_Server_sendStored F σ l0 (cI σ 8 l1 2 0) l2 l3 (cI σ 8 l1 10 0)).bind fun p1 =>
  k_Server_takePiece_b171 F  p1
set_option maxRecDepth 4000 in
theorem k_Server_takePiece_b125_ok {E : CE} {pF : Nat → List Value → xH → Option (Option Value × xH)} (hp0 : xNPc pF) (hL : lcAll E pF) (hF : lcF pF) {d : Nat} {F : Nat}   : ∀ (g : CG) (lv : xL) (σ : CS) (l0 : Nat) (l1 : Nat) (l2 : Int32) (l3 : Int32), (cob σ 13 l0) → (cob σ 8 l1) → (xg lv 0 = some (.ref (coa E 13 l0))) → (xg lv 1 = some (.ref (coa E 8 l1))) → (xg lv 2 = some (.int l2)) → (xg lv 3 = some (.int l3)) → ∀ res, k_Server_takePiece_b125 F  σ l0 l1 l2 l3 = some res → cR E (cQx [11, 13, 14]) pF (d + 13) kT175 13 4 none none res g σ (125, lv, []) := by
  intro g lv σ l0 l1 l2 l3 bl0 bl1 g0 g1 g2 g3 res h
  unfold k_Server_takePiece_b125 at h
  refine cR_lift (fun _ _ kk => eE_aload_n lk175_125 g0 kk) ?_
  refine cR_lift (fun _ _ kk => eE_aload_n lk175_126 g1 kk) ?_
  refine cR_getI lk175_127 rf_13_181 rfl bl1 ?_
  refine cR_lift (fun _ _ kk => eE_iload_n lk175_130 g2 kk) ?_
  refine cR_lift (fun _ _ kk => eE_iload_n lk175_131 g3 kk) ?_
  refine cR_lift (fun _ _ kk => eE_aload_n lk175_132 g1 kk) ?_
  refine cR_getI lk175_133 rf_13_192 rfl bl1 ?_
  obtain ⟨p1, h2, h⟩ := Option.bind_eq_some_iff.mp h
  refine cR_virtG (by exact cQx_sub rfl) (cl := 13) (i := l0) (as := [.int (cI σ 8 l1 2 0), .int l2, .int l3, .int (cI σ 8 l1 10 0)]) lk175_136 mr_13_516 na_159 rfl rfl (by first | exact Nat.le_of_ble_eq_true rfl | (simp [xcat, cvo_cat, cat_i, cat_j, cat_r]; done)) wv_159 wc_159 bl0 (k_Server_sendStored_ok hp0 hL hF (d := d + 0) bl0 h2) (fun m3 g_4 g_4e => ?_)
  refine cR_lift (fun _ _ kk => eE_goto (t := 171) lk175_139 (by decide) kk) ?_
  exact k_Server_takePiece_b171_ok hp0 hL hF  g_4 lv p1  _ h
def k_Server_takePiece_b164 (F : Nat)  (σ : CS) (s0 : Nat) (s1 : Int32) (s2 : Int32) (s3 : Int32) (l1 : Nat) : Option (CS) :=
  (k_Server_sendStored F σ s0 s1 s2 s3 (cI σ 8 l1 10 0)).bind fun p5 =>
  k_Server_takePiece_b171 F  p5
set_option maxRecDepth 4000 in
theorem k_Server_takePiece_b164_ok {E : CE} {pF : Nat → List Value → xH → Option (Option Value × xH)} (hp0 : xNPc pF) (hL : lcAll E pF) (hF : lcF pF) {d : Nat} {F : Nat}   : ∀ (g : CG) (lv : xL) (σ : CS) (s0 : Nat) (s1 : Int32) (s2 : Int32) (s3 : Int32) (l1 : Nat), (cob σ 13 s0) → (cob σ 8 l1) → (xg lv 1 = some (.ref (coa E 8 l1))) → ∀ res, k_Server_takePiece_b164 F  σ s0 s1 s2 s3 l1 = some res → cR E (cQx [11, 13, 14]) pF (d + 13) kT175 13 4 none none res g σ (164, lv, [.int s3, .int s2, .int s1, .ref (coa E 13 s0)]) := by
  intro g lv σ s0 s1 s2 s3 l1 bs0 bl1 g1 res h
  unfold k_Server_takePiece_b164 at h
  refine cR_lift (fun _ _ kk => eE_aload_n lk175_164 g1 kk) ?_
  refine cR_getI lk175_165 rf_13_192 rfl bl1 ?_
  obtain ⟨p5, h6, h⟩ := Option.bind_eq_some_iff.mp h
  refine cR_virtG (by exact cQx_sub rfl) (cl := 13) (i := s0) (as := [.int s1, .int s2, .int s3, .int (cI σ 8 l1 10 0)]) lk175_168 mr_13_516 na_159 rfl rfl (by first | exact Nat.le_of_ble_eq_true rfl | (simp [xcat, cvo_cat, cat_i, cat_j, cat_r]; done)) wv_159 wc_159 bs0 (k_Server_sendStored_ok hp0 hL hF (d := d + 0) bs0 h6) (fun m7 g_8 g_8e => ?_)
  exact k_Server_takePiece_b171_ok hp0 hL hF  g_8 lv p5  _ h
def k_Server_takePiece_b142 (F : Nat)  (σ : CS) (l0 : Nat) (l1 : Nat) (l2 : Int32) : Option (CS) :=
  if xc2 .ne (cI σ 13 l0 16 0) l2 = true then (
    k_Server_takePiece_b164 F  σ l0 (cI σ 8 l1 2 0) l2 ((0 : Int32)) l1
  ) else (
    k_Server_takePiece_b164 F  σ l0 (cI σ 8 l1 2 0) l2 (cI σ 13 l0 17 0) l1
  )
set_option maxRecDepth 4000 in
theorem k_Server_takePiece_b142_ok {E : CE} {pF : Nat → List Value → xH → Option (Option Value × xH)} (hp0 : xNPc pF) (hL : lcAll E pF) (hF : lcF pF) {d : Nat} {F : Nat}   : ∀ (g : CG) (lv : xL) (σ : CS) (l0 : Nat) (l1 : Nat) (l2 : Int32), (cob σ 13 l0) → (cob σ 8 l1) → (xg lv 0 = some (.ref (coa E 13 l0))) → (xg lv 1 = some (.ref (coa E 8 l1))) → (xg lv 2 = some (.int l2)) → ∀ res, k_Server_takePiece_b142 F  σ l0 l1 l2 = some res → cR E (cQx [11, 13, 14]) pF (d + 13) kT175 13 4 none none res g σ (142, lv, []) := by
  intro g lv σ l0 l1 l2 bl0 bl1 g0 g1 g2 res h
  unfold k_Server_takePiece_b142 at h
  refine cR_lift (fun _ _ kk => eE_aload_n lk175_142 g0 kk) ?_
  refine cR_lift (fun _ _ kk => eE_aload_n lk175_143 g1 kk) ?_
  refine cR_getI lk175_144 rf_13_181 rfl bl1 ?_
  refine cR_lift (fun _ _ kk => eE_iload_n lk175_147 g2 kk) ?_
  refine cR_lift (fun _ _ kk => eE_aload_n lk175_148 g0 kk) ?_
  refine cR_getI lk175_149 rf_13_53 rfl bl0 ?_
  refine cR_lift (fun _ _ kk => eE_iload_n lk175_152 g2 kk) ?_
  refine cR_icmp (t := 163) lk175_153 (by decide) (fun c9 => ?_) (fun c9 => ?_)
  · rw [if_pos c9] at h
    refine cR_lift (fun _ _ kk => eE_iconst (v := 0) lk175_163 (by decide) kk) ?_
    exact k_Server_takePiece_b164_ok hp0 hL hF  g lv σ l0 (cI σ 8 l1 2 0) l2 ((0 : Int32)) l1 bl0 bl1 g1 _ h
  · rw [if_neg c9] at h
    refine cR_lift (fun _ _ kk => eE_aload_n lk175_156 g0 kk) ?_
    refine cR_getI lk175_157 rf_13_238 rfl bl0 ?_
    refine cR_lift (fun _ _ kk => eE_goto (t := 164) lk175_160 (by decide) kk) ?_
    exact k_Server_takePiece_b164_ok hp0 hL hF  g lv σ l0 (cI σ 8 l1 2 0) l2 (cI σ 13 l0 17 0) l1 bl0 bl1 g1 _ h
def k_Server_takePiece_b83 (F : Nat)  (σ : CS) (l0 : Nat) (l1 : Nat) (l2 : Int32) : Option (CS) :=
  if xc2 .ne (cI σ 13 l0 16 0) l2 = true then (
    k_Server_takePiece_b142 F  σ l0 l1 l2
  ) else (
    if xc2 .ne (cI σ 8 l1 13 0) (cI σ 13 l0 17 0) = true then (
      k_Server_takePiece_b142 F  σ l0 l1 l2
    ) else (
      (k_Server_keepPiece σ l0 l1).bind fun p12 =>
      if xc2 .lt (cI p12 13 l0 17 0) (cI p12 8 l1 12 0) = true then (
        k_Server_takePiece_b125 F  p12 l0 l1 l2 (cI p12 13 l0 17 0)
      ) else (
        (k_Server_takeSnapshot F p12 l0 l1).bind fun p23 =>
        k_Server_takePiece_b125 F  p23 l0 l1 l2 (cI p12 13 l0 17 0)
      )
    )
  )
set_option maxRecDepth 4000 in
theorem k_Server_takePiece_b83_ok {E : CE} {pF : Nat → List Value → xH → Option (Option Value × xH)} (hp0 : xNPc pF) (hL : lcAll E pF) (hF : lcF pF) {d : Nat} {F : Nat}   : ∀ (g : CG) (lv : xL) (σ : CS) (l0 : Nat) (l1 : Nat) (l2 : Int32), (cob σ 13 l0) → (cob σ 8 l1) → (xg lv 0 = some (.ref (coa E 13 l0))) → (xg lv 1 = some (.ref (coa E 8 l1))) → (xg lv 2 = some (.int l2)) → ∀ res, k_Server_takePiece_b83 F  σ l0 l1 l2 = some res → cR E (cQx [11, 13, 14]) pF (d + 13) kT175 13 4 none none res g σ (83, lv, []) := by
  intro g lv σ l0 l1 l2 bl0 bl1 g0 g1 g2 res h
  unfold k_Server_takePiece_b83 at h
  refine cR_lift (fun _ _ kk => eE_aload_n lk175_83 g0 kk) ?_
  refine cR_getI lk175_84 rf_13_53 rfl bl0 ?_
  refine cR_lift (fun _ _ kk => eE_iload_n lk175_87 g2 kk) ?_
  refine cR_icmp (t := 142) lk175_88 (by decide) (fun c10 => ?_) (fun c10 => ?_)
  · rw [if_pos c10] at h
    exact k_Server_takePiece_b142_ok hp0 hL hF  g lv σ l0 l1 l2 bl0 bl1 g0 g1 g2 _ h
  · rw [if_neg c10] at h
    refine cR_lift (fun _ _ kk => eE_aload_n lk175_91 g1 kk) ?_
    refine cR_getI lk175_92 rf_13_423 rfl bl1 ?_
    refine cR_lift (fun _ _ kk => eE_aload_n lk175_95 g0 kk) ?_
    refine cR_getI lk175_96 rf_13_238 rfl bl0 ?_
    refine cR_icmp (t := 142) lk175_99 (by decide) (fun c11 => ?_) (fun c11 => ?_)
    · rw [if_pos c11] at h
      exact k_Server_takePiece_b142_ok hp0 hL hF  g lv σ l0 l1 l2 bl0 bl1 g0 g1 g2 _ h
    · rw [if_neg c11] at h
      refine cR_lift (fun _ _ kk => eE_aload_n lk175_102 g0 kk) ?_
      refine cR_lift (fun _ _ kk => eE_aload_n lk175_103 g1 kk) ?_
      obtain ⟨p12, h13, h⟩ := Option.bind_eq_some_iff.mp h
      refine cR_virtG (by exact cQx_sub rfl) (cl := 13) (i := l0) (as := [.ref (coa E 8 l1)]) lk175_104 mr_13_519 na_143 rfl rfl (by first | exact Nat.le_of_ble_eq_true rfl | (simp [xcat, cvo_cat, cat_i, cat_j, cat_r]; done)) wv_143 wc_143 bl0 (k_Server_keepPiece_ok hp0 hL hF (d := d + 11) bl0 bl1 h13) (fun m14 g_15 g_15e => ?_)
      refine cR_lift (fun _ _ kk => eE_aload_n lk175_107 g0 kk) ?_
      refine cR_getI lk175_108 rf_13_238 rfl (cob_any rfl bl0) ?_
      refine cR_stI (j := 3) lk175_111 (Or.inr ⟨_, rfl, rfl⟩) (by decide) (fun vq16 gq17 kq18 => ?_)
      have gq19 := kq18 0 _ (by decide) (fun e => absurd e (by decide)) g0
      have gq20 := kq18 1 _ (by decide) (fun e => absurd e (by decide)) g1
      have gq21 := kq18 2 _ (by decide) (fun _ => rfl) g2
      refine cR_lift (fun _ _ kk => eE_iload_n lk175_112 gq17 kk) ?_
      refine cR_lift (fun _ _ kk => eE_aload_n lk175_113 gq20 kk) ?_
      refine cR_getI lk175_114 rf_13_365 rfl (cob_mon m14 bl1) ?_
      refine cR_icmp (t := 125) lk175_117 (by decide) (fun c22 => ?_) (fun c22 => ?_)
      · rw [if_pos c22] at h
        exact k_Server_takePiece_b125_ok hp0 hL hF  g_15 vq16 p12 l0 l1 l2 (cI p12 13 l0 17 0) (cob_any rfl bl0) (cob_mon m14 bl1) gq19 gq20 gq21 gq17 _ h
      · rw [if_neg c22] at h
        refine cR_lift (fun _ _ kk => eE_aload_n lk175_120 gq19 kk) ?_
        refine cR_lift (fun _ _ kk => eE_aload_n lk175_121 gq20 kk) ?_
        obtain ⟨p23, h24, h⟩ := Option.bind_eq_some_iff.mp h
        refine cR_virtG (by exact cQx_sub rfl) (cl := 13) (i := l0) (as := [.ref (coa E 8 l1)]) lk175_122 mr_13_522 na_179 rfl rfl (by first | exact Nat.le_of_ble_eq_true rfl | (simp [xcat, cvo_cat, cat_i, cat_j, cat_r]; done)) wv_179 wc_179 (cob_any rfl bl0) (k_Server_takeSnapshot_ok hp0 hL hF (d := d + 9) (cob_any rfl bl0) (cob_mon m14 bl1) h24) (fun m25 g_26 g_26e => ?_)
        exact k_Server_takePiece_b125_ok hp0 hL hF  g_26 vq16 p23 l0 l1 l2 (cI p12 13 l0 17 0) (cob_any rfl bl0) (cob_mon m25 (cob_mon m14 bl1)) gq19 gq20 gq21 gq17 _ h
def k_Server_takePiece_b0 (F : Nat)  (σ : CS) (l0 : Nat) (l1 : Nat) : Option (CS) :=
  if xc2 .ge (cI σ 8 l1 5 0) (cI σ 13 l0 10 0) = true then (
    (k_Server_heeds σ l0 l1).bind fun p33 =>
    if xc0 .ne p33.1 = true then (
      if xc2 .gt (cI σ 8 l1 7 0) (cI p33.2 9 l0 9 0) = true then (
        if xc0 .ne (cI p33.2 8 l1 13 0) = true then (
          k_Server_takePiece_b83 F  p33.2 l0 l1 (cI σ 8 l1 7 0)
        ) else (
          (some (csI p33.2 13 l0 16 0 (cI σ 8 l1 7 0))).bind fun σ39 =>
          (some (csI σ39 13 l0 17 0 ((0 : Int32)))).bind fun σ41 =>
          k_Server_takePiece_b83 F  σ41 l0 l1 (cI σ 8 l1 7 0)
        )
      ) else (
        (k_Server_sendStored F p33.2 l0 (cI p33.2 8 l1 2 0) (cI σ 8 l1 7 0) (cI p33.2 8 l1 12 0) (cI p33.2 8 l1 10 0)).bind fun p43 =>
        some p43
      )
    ) else (
      some p33.2
    )
  ) else (
    (k_Server_sendStored F σ l0 (cI σ 8 l1 2 0) (cI σ 8 l1 7 0) ((0 : Int32)) ((0 : Int32))).bind fun p47 =>
    some p47
  )
set_option maxRecDepth 4000 in
theorem k_Server_takePiece_b0_ok {E : CE} {pF : Nat → List Value → xH → Option (Option Value × xH)} (hp0 : xNPc pF) (hL : lcAll E pF) (hF : lcF pF) {d : Nat} {F : Nat}   : ∀ (g : CG) (lv : xL) (σ : CS) (l0 : Nat) (l1 : Nat), (cob σ 13 l0) → (cob σ 8 l1) → (xg lv 0 = some (.ref (coa E 13 l0))) → (xg lv 1 = some (.ref (coa E 8 l1))) → ∀ res, k_Server_takePiece_b0 F  σ l0 l1 = some res → cR E (cQx [11, 13, 14]) pF (d + 13) kT175 13 4 none none res g σ (0, lv, []) := by
  intro g lv σ l0 l1 bl0 bl1 g0 g1 res h
  unfold k_Server_takePiece_b0 at h
  refine cR_lift (fun _ _ kk => eE_aload_n lk175_0 g1 kk) ?_
  refine cR_getI lk175_1 rf_13_189 rfl bl1 ?_
  refine cR_stI (j := 2) lk175_4 (Or.inr ⟨_, rfl, rfl⟩) (by decide) (fun vq27 gq28 kq29 => ?_)
  have gq30 := kq29 0 _ (by decide) (fun e => absurd e (by decide)) g0
  have gq31 := kq29 1 _ (by decide) (fun _ => rfl) g1
  refine cR_lift (fun _ _ kk => eE_aload_n lk175_5 gq31 kk) ?_
  refine cR_getI lk175_6 rf_13_342 rfl bl1 ?_
  refine cR_lift (fun _ _ kk => eE_aload_n lk175_9 gq30 kk) ?_
  refine cR_getI lk175_10 rf_13_88 rfl bl0 ?_
  refine cR_icmp (t := 28) lk175_13 (by decide) (fun c32 => ?_) (fun c32 => ?_)
  · rw [if_pos c32] at h
    refine cR_lift (fun _ _ kk => eE_aload_n lk175_28 gq30 kk) ?_
    refine cR_lift (fun _ _ kk => eE_aload_n lk175_29 gq31 kk) ?_
    obtain ⟨p33, h34, h⟩ := Option.bind_eq_some_iff.mp h
    refine cR_virt (cl := 13) (i := l0) (as := [.ref (coa E 8 l1)]) lk175_30 mr_13_506 na_139 rfl rfl (by first | exact Nat.le_of_ble_eq_true rfl | (simp [xcat, cvo_cat, cat_i, cat_j, cat_r]; done)) wv_139 wc_139 bl0 (k_Server_heeds_ok hp0 hL hF (d := d + 10) bl0 bl1 h34) (fun m35  => ?_)
    refine cR_if (t := 37) lk175_33 (by decide) (fun c36 => ?_) (fun c36 => ?_)
    · rw [if_pos c36] at h
      refine cR_lift (fun _ _ kk => eE_iload_n lk175_37 gq28 kk) ?_
      refine cR_lift (fun _ _ kk => eE_aload_n lk175_38 gq30 kk) ?_
      refine cR_getO (cl' := 9) (i' := l0) lk175_39 rf_13_72 rfl rfl (cob_any rfl bl0) ?_
      refine cR_getI lk175_42 rf_13_91 rfl (cob_s (cl := 9) (cob_any rfl bl0) (by decide) rfl rfl) ?_
      refine cR_icmp (t := 66) lk175_45 (by decide) (fun c37 => ?_) (fun c37 => ?_)
      · rw [if_pos c37] at h
        refine cR_lift (fun _ _ kk => eE_aload_n lk175_66 gq31 kk) ?_
        refine cR_getI lk175_67 rf_13_423 rfl (cob_mon m35 bl1) ?_
        refine cR_if (t := 83) lk175_70 (by decide) (fun c38 => ?_) (fun c38 => ?_)
        · rw [if_pos c38] at h
          exact k_Server_takePiece_b83_ok hp0 hL hF  g vq27 p33.2 l0 l1 (cI σ 8 l1 7 0) (cob_any rfl bl0) (cob_mon m35 bl1) gq30 gq31 gq28 _ h
        · rw [if_neg c38] at h
          refine cR_lift (fun _ _ kk => eE_aload_n lk175_73 gq30 kk) ?_
          refine cR_lift (fun _ _ kk => eE_iload_n lk175_74 gq28 kk) ?_
          obtain ⟨σ39, h40, h⟩ := Option.bind_eq_some_iff.mp h
          refine cR_putI lk175_75 rf_13_53 rfl (cob_any rfl bl0) pf_13_16 rfl h40 ?_
          refine cR_lift (fun _ _ kk => eE_aload_n lk175_78 gq30 kk) ?_
          refine cR_lift (fun _ _ kk => eE_iconst (v := 0) lk175_79 (by decide) kk) ?_
          obtain ⟨σ41, h42, h⟩ := Option.bind_eq_some_iff.mp h
          refine cR_putI lk175_80 rf_13_238 rfl (cob_any rfl bl0) pf_13_17 rfl h42 ?_
          exact k_Server_takePiece_b83_ok hp0 hL hF  g vq27 σ41 l0 l1 (cI σ 8 l1 7 0) (cob_any rfl bl0) (cob_mon (cput_mon h42) (cob_mon (cput_mon h40) (cob_mon m35 bl1))) gq30 gq31 gq28 _ h
      · rw [if_neg c37] at h
        refine cR_lift (fun _ _ kk => eE_aload_n lk175_48 gq30 kk) ?_
        refine cR_lift (fun _ _ kk => eE_aload_n lk175_49 gq31 kk) ?_
        refine cR_getI lk175_50 rf_13_181 rfl (cob_mon m35 bl1) ?_
        refine cR_lift (fun _ _ kk => eE_iload_n lk175_53 gq28 kk) ?_
        refine cR_lift (fun _ _ kk => eE_aload_n lk175_54 gq31 kk) ?_
        refine cR_getI lk175_55 rf_13_365 rfl (cob_mon m35 bl1) ?_
        refine cR_lift (fun _ _ kk => eE_aload_n lk175_58 gq31 kk) ?_
        refine cR_getI lk175_59 rf_13_192 rfl (cob_mon m35 bl1) ?_
        obtain ⟨p43, h44, h⟩ := Option.bind_eq_some_iff.mp h
        refine cR_virtG (by exact cQx_sub rfl) (cl := 13) (i := l0) (as := [.int (cI p33.2 8 l1 2 0), .int (cI σ 8 l1 7 0), .int (cI p33.2 8 l1 12 0), .int (cI p33.2 8 l1 10 0)]) lk175_62 mr_13_516 na_159 rfl rfl (by first | exact Nat.le_of_ble_eq_true rfl | (simp [xcat, cvo_cat, cat_i, cat_j, cat_r]; done)) wv_159 wc_159 (cob_any rfl bl0) (k_Server_sendStored_ok hp0 hL hF (d := d + 0) (cob_any rfl bl0) h44) (fun m45 g_46 g_46e => ?_)
        cases h
        exact cR_end lk175_65 rfl rfl rfl
    · rw [if_neg c36] at h
      cases h
      exact cR_end lk175_36 rfl rfl rfl
  · rw [if_neg c32] at h
    refine cR_lift (fun _ _ kk => eE_aload_n lk175_16 gq30 kk) ?_
    refine cR_lift (fun _ _ kk => eE_aload_n lk175_17 gq31 kk) ?_
    refine cR_getI lk175_18 rf_13_181 rfl bl1 ?_
    refine cR_lift (fun _ _ kk => eE_iload_n lk175_21 gq28 kk) ?_
    refine cR_lift (fun _ _ kk => eE_iconst (v := 0) lk175_22 (by decide) kk) ?_
    refine cR_lift (fun _ _ kk => eE_iconst (v := 0) lk175_23 (by decide) kk) ?_
    obtain ⟨p47, h48, h⟩ := Option.bind_eq_some_iff.mp h
    refine cR_virtG (by exact cQx_sub rfl) (cl := 13) (i := l0) (as := [.int (cI σ 8 l1 2 0), .int (cI σ 8 l1 7 0), .int ((0 : Int32)), .int ((0 : Int32))]) lk175_24 mr_13_516 na_159 rfl rfl (by first | exact Nat.le_of_ble_eq_true rfl | (simp [xcat, cvo_cat, cat_i, cat_j, cat_r]; done)) wv_159 wc_159 bl0 (k_Server_sendStored_ok hp0 hL hF (d := d + 0) bl0 h48) (fun m49 g_50 g_50e => ?_)
    cases h
    exact cR_end lk175_27 rfl rfl rfl
def k_Server_takePiece (F : Nat) (σ : CS) (l0 : Nat) (l1 : Nat) : Option (CS) := k_Server_takePiece_b0 F σ l0 l1
theorem k_Server_takePiece_ok {E : CE} {pF : Nat → List Value → xH → Option (Option Value × xH)} (hp0 : xNPc pF) (hL : lcAll E pF) (hF : lcF pF) {d : Nat} {g : CG} {σ : CS} {F : Nat} {l0 : Nat} {l1 : Nat} {res : CS} (bl0 : cob σ 13 l0) (bl1 : cob σ 8 l1) (h : k_Server_takePiece F σ l0 l1 = some res) : cCo E (cQx [11, 13, 14]) pF (d + 14) 175 [.ref (coa E 13 l0), .ref (coa E 8 l1)] none res g σ :=
  cCo_R kk_175 mo_175 ni_175 xm_175 (Nat.le_of_ble_eq_true rfl) (hp0 175 (by decide) _) (k_Server_takePiece_b0_ok hp0 hL hF g _ σ l0 l1 bl0 bl1 rfl rfl _ h)
