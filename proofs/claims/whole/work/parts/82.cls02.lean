/-! printed by wip/whole/gen_face.py -/
/-! k_Face_hand (216), depth 15 -/
def k_Face_hand_b39 (F : Nat)  (σ : CS) : Option ((Int32) × CS) :=
  if ((0 : Int32)) = 0 ∨ ((0 : Int32)) = 1 then some ((0 : Int32), σ) else none
set_option maxRecDepth 4000 in
theorem k_Face_hand_b39_ok {E : CE} {pF : Nat → List Value → xH → Option (Option Value × xH)} (hp0 : xNPc pF) (hL : lcAll E pF) (hF : lcF pF) {d : Nat} {F : Nat}   : ∀ (g : CG) (lv : xL) (σ : CS), ∀ res, k_Face_hand_b39 F  σ = some res → cR E (cQx [13, 14]) pF (d + 14) kT216 15 4 (some FieldType.boolean) (some (.int res.1)) res.2 g σ (39, lv, []) := by
  intro g lv σ res h
  unfold k_Face_hand_b39 at h
  refine cR_lift (fun _ _ kk => eE_iconst (v := 0) lk216_39 (by decide) kk) ?_
  by_cases z1 : ((0 : Int32)) = 0 ∨ ((0 : Int32)) = 1
  · rw [if_pos z1] at h; cases h
    exact cR_end lk216_40 rfl rfl (by first | (simp only [xfin, if_true, if_pos z1]; done) | simp [xfin, z1])
  · rw [if_neg z1] at h; cases h
def k_Face_hand_b0 (F : Nat)  (σ : CS) (l0 : Nat) (l1 : Int32) (l2 : Int32) : Option ((Int32) × CS) :=
  (k_Face_host σ l0 l1).bind fun p2 =>
  (k_Server_mayLead σ p2).bind fun p11 =>
  if xc0 .eq p11 = true then (
    k_Face_hand_b39 F  σ
  ) else (
    if xc0 .lt l2 = true then (
      k_Face_hand_b39 F  σ
    ) else (
      if xc2 .ge l2 ((7 : Int32)) = true then (
        k_Face_hand_b39 F  σ
      ) else (
        if xc2 .eq l2 l1 = true then (
          k_Face_hand_b39 F  σ
        ) else (
          (k_Server_voters σ p2).bind fun p18 =>
          if xc0 .ne ((p18 >>> (l2 &&& 31)) &&& ((1 : Int32))) = true then (
            (k_Server_handOver F σ p2 l2).bind fun p22 =>
            if ((1 : Int32)) = 0 ∨ ((1 : Int32)) = 1 then some ((1 : Int32), p22) else none
          ) else (
            k_Face_hand_b39 F  σ
          )
        )
      )
    )
  )
set_option maxRecDepth 4000 in
theorem k_Face_hand_b0_ok {E : CE} {pF : Nat → List Value → xH → Option (Option Value × xH)} (hp0 : xNPc pF) (hL : lcAll E pF) (hF : lcF pF) {d : Nat} {F : Nat}   : ∀ (g : CG) (lv : xL) (σ : CS) (l0 : Nat) (l1 : Int32) (l2 : Int32), (cob σ 15 l0) → (xg lv 0 = some (.ref (coa E 15 l0))) → (xg lv 1 = some (.int l1)) → (xg lv 2 = some (.int l2)) → ∀ res, k_Face_hand_b0 F  σ l0 l1 l2 = some res → cR E (cQx [13, 14]) pF (d + 14) kT216 15 4 (some FieldType.boolean) (some (.int res.1)) res.2 g σ (0, lv, []) := by
  intro g lv σ l0 l1 l2 bl0 g0 g1 g2 res h
  unfold k_Face_hand_b0 at h
  refine cR_lift (fun _ _ kk => eE_aload_n lk216_0 g0 kk) ?_
  refine cR_lift (fun _ _ kk => eE_iload_n lk216_1 g1 kk) ?_
  obtain ⟨p2, h3, h⟩ := Option.bind_eq_some_iff.mp h
  refine cR_rep (fun _ hc => k_Face_host_lt hc bl0 h3) (fun b4 => ?_)
  refine cR_virt (cl := 15) (i := l0) (as := [.int l1]) lk216_2 mr_15_155 na_219 rfl rfl (by first | exact Nat.le_of_ble_eq_true rfl | (simp [xcat, cvo_cat, cat_i, cat_j, cat_r]; done)) wv_219 wc_219 bl0 (k_Face_host_ok hp0 hL hF (d := d + 13) bl0 h3) (fun m5  => ?_)
  refine cR_stA (j := 3) lk216_5 (Or.inr ⟨_, rfl, rfl⟩) (by decide) (fun vq6 gq7 kq8 => ?_)
  have gq9 := kq8 1 _ (by decide) (fun e => absurd e (by decide)) g1
  have gq10 := kq8 2 _ (by decide) (fun _ => rfl) g2
  refine cR_lift (fun _ _ kk => eE_aload_n lk216_6 gq7 kk) ?_
  obtain ⟨p11, h12, h⟩ := Option.bind_eq_some_iff.mp h
  refine cR_virt (cl := 13) (i := p2) (as := []) lk216_7 mr_15_196 na_147 rfl rfl (by first | exact Nat.le_of_ble_eq_true rfl | (simp [xcat, cvo_cat, cat_i, cat_j, cat_r]; done)) wv_147 wc_147 b4 (k_Server_mayLead_ok hp0 hL hF (d := d + 13) b4 h12) (fun m13  => ?_)
  refine cR_if (t := 39) lk216_10 (by decide) (fun c14 => ?_) (fun c14 => ?_)
  · rw [if_pos c14] at h
    exact k_Face_hand_b39_ok hp0 hL hF  g vq6 σ  _ h
  · rw [if_neg c14] at h
    refine cR_lift (fun _ _ kk => eE_iload_n lk216_13 gq10 kk) ?_
    refine cR_if (t := 39) lk216_14 (by decide) (fun c15 => ?_) (fun c15 => ?_)
    · rw [if_pos c15] at h
      exact k_Face_hand_b39_ok hp0 hL hF  g vq6 σ  _ h
    · rw [if_neg c15] at h
      refine cR_lift (fun _ _ kk => eE_iload_n lk216_17 gq10 kk) ?_
      refine cR_lift (fun _ _ kk => eE_bipush (v := 7) lk216_18 (by decide) kk) ?_
      refine cR_icmp (t := 39) lk216_20 (by decide) (fun c16 => ?_) (fun c16 => ?_)
      · rw [if_pos c16] at h
        exact k_Face_hand_b39_ok hp0 hL hF  g vq6 σ  _ h
      · rw [if_neg c16] at h
        refine cR_lift (fun _ _ kk => eE_iload_n lk216_23 gq10 kk) ?_
        refine cR_lift (fun _ _ kk => eE_iload_n lk216_24 gq9 kk) ?_
        refine cR_icmp (t := 39) lk216_25 (by decide) (fun c17 => ?_) (fun c17 => ?_)
        · rw [if_pos c17] at h
          exact k_Face_hand_b39_ok hp0 hL hF  g vq6 σ  _ h
        · rw [if_neg c17] at h
          refine cR_lift (fun _ _ kk => eE_aload_n lk216_28 gq7 kk) ?_
          obtain ⟨p18, h19, h⟩ := Option.bind_eq_some_iff.mp h
          refine cR_virt (cl := 13) (i := p2) (as := []) lk216_29 mr_15_199 na_182 rfl rfl (by first | exact Nat.le_of_ble_eq_true rfl | (simp [xcat, cvo_cat, cat_i, cat_j, cat_r]; done)) wv_182 wc_182 b4 (k_Server_voters_ok hp0 hL hF (d := d + 13) b4 h19) (fun m20  => ?_)
          refine cR_lift (fun _ _ kk => eE_iload_n lk216_32 gq10 kk) ?_
          refine cR_lift (fun _ _ kk => eE_ishr lk216_33 kk) ?_
          refine cR_lift (fun _ _ kk => eE_iconst (v := 1) lk216_34 (by decide) kk) ?_
          refine cR_lift (fun _ _ kk => eE_iand lk216_35 kk) ?_
          refine cR_if (t := 41) lk216_36 (by decide) (fun c21 => ?_) (fun c21 => ?_)
          · rw [if_pos c21] at h
            refine cR_lift (fun _ _ kk => eE_aload_n lk216_41 gq7 kk) ?_
            refine cR_lift (fun _ _ kk => eE_iload_n lk216_42 gq10 kk) ?_
            obtain ⟨p22, h23, h⟩ := Option.bind_eq_some_iff.mp h
            refine cR_virtG (by exact cQx_sub rfl) (cl := 13) (i := p2) (as := [.int l2]) lk216_43 mr_15_203 na_137 rfl rfl (by first | exact Nat.le_of_ble_eq_true rfl | (simp [xcat, cvo_cat, cat_i, cat_j, cat_r]; done)) wv_137 wc_137 b4 (k_Server_handOver_ok hp0 hL hF (d := d + 0) b4 h23) (fun m24 g_25 g_25e => ?_)
            refine cR_lift (fun _ _ kk => eE_iconst (v := 1) lk216_46 (by decide) kk) ?_
            by_cases z26 : ((1 : Int32)) = 0 ∨ ((1 : Int32)) = 1
            · rw [if_pos z26] at h; cases h
              exact cR_end lk216_47 rfl rfl (by first | (simp only [xfin, if_true, if_pos z26]; done) | simp [xfin, z26])
            · rw [if_neg z26] at h; cases h
          · rw [if_neg c21] at h
            exact k_Face_hand_b39_ok hp0 hL hF  g vq6 σ  _ h
def k_Face_hand (F : Nat) (σ : CS) (l0 : Nat) (l1 : Int32) (l2 : Int32) : Option ((Int32) × CS) := k_Face_hand_b0 F σ l0 l1 l2
theorem k_Face_hand_ok {E : CE} {pF : Nat → List Value → xH → Option (Option Value × xH)} (hp0 : xNPc pF) (hL : lcAll E pF) (hF : lcF pF) {d : Nat} {g : CG} {σ : CS} {F : Nat} {l0 : Nat} {l1 : Int32} {l2 : Int32} {res : (Int32) × CS} (bl0 : cob σ 15 l0) (h : k_Face_hand F σ l0 l1 l2 = some res) : cCo E (cQx [13, 14]) pF (d + 15) 216 [.ref (coa E 15 l0), .int l1, .int l2] (some (.int res.1)) res.2 g σ :=
  cCo_R kk_216 mo_216 ni_216 xm_216 (Nat.le_of_ble_eq_true rfl) (hp0 216 (by decide) _) (k_Face_hand_b0_ok hp0 hL hF g _ σ l0 l1 l2 bl0 rfl rfl rfl _ h)
/-! k_Face_history (218), depth 2 -/
def k_Face_history_b24  (σ : CS) : Option (Int32) :=
  none
set_option maxRecDepth 4000 in
theorem k_Face_history_b24_ok {E : CE} {pF : Nat → List Value → xH → Option (Option Value × xH)} (hp0 : xNPc pF) (hL : lcAll E pF) (hF : lcF pF) {d : Nat}   : ∀ (g : CG) (lv : xL) (σ : CS), ∀ res, k_Face_history_b24  σ = some res → cR E cQ1 pF (d + 1) kT218 15 3 (some FieldType.int) (some (.int res)) σ g σ (24, lv, []) := by
  intro g lv σ res h
  unfold k_Face_history_b24 at h
  cases h
def k_Face_history_b0  (σ : CS) (l0 : Nat) (l1 : Int32) (l2 : Int32) : Option (Int32) :=
  if xc0 .lt l1 = true then (
    k_Face_history_b24  σ
  ) else (
    if xc2 .ge l1 (cI σ 4 0 0 0) = true then (
      k_Face_history_b24  σ
    ) else (
      if xc0 .lt l2 = true then (
        k_Face_history_b24  σ
      ) else (
        if xc2 .le l2 ((5 : Int32)) = true then (
          (k_Askings_tell σ 0 l1 l2).bind fun p5 =>
          some p5
        ) else (
          k_Face_history_b24  σ
        )
      )
    )
  )
set_option maxRecDepth 4000 in
theorem k_Face_history_b0_ok {E : CE} {pF : Nat → List Value → xH → Option (Option Value × xH)} (hp0 : xNPc pF) (hL : lcAll E pF) (hF : lcF pF) {d : Nat}   : ∀ (g : CG) (lv : xL) (σ : CS) (l0 : Nat) (l1 : Int32) (l2 : Int32), (cob σ 15 l0) → (xg lv 0 = some (.ref (coa E 15 l0))) → (xg lv 1 = some (.int l1)) → (xg lv 2 = some (.int l2)) → ∀ res, k_Face_history_b0  σ l0 l1 l2 = some res → cR E cQ1 pF (d + 1) kT218 15 3 (some FieldType.int) (some (.int res)) σ g σ (0, lv, []) := by
  intro g lv σ l0 l1 l2 bl0 g0 g1 g2 res h
  unfold k_Face_history_b0 at h
  refine cR_lift (fun _ _ kk => eE_iload_n lk218_0 g1 kk) ?_
  refine cR_if (t := 24) lk218_1 (by decide) (fun c1 => ?_) (fun c1 => ?_)
  · rw [if_pos c1] at h
    exact k_Face_history_b24_ok hp0 hL hF  g lv σ  _ h
  · rw [if_neg c1] at h
    refine cR_lift (fun _ _ kk => eE_iload_n lk218_4 g1 kk) ?_
    refine cR_lift (fun _ _ kk => eE_aload_n lk218_5 g0 kk) ?_
    refine cR_getO (cl' := 4) (i' := 0) lk218_6 rf_15_49 rfl rfl bl0 ?_
    refine cR_getI lk218_9 rf_15_88 rfl (cob_0 (c := σ) (cl := 4) (by decide) rfl rfl) ?_
    refine cR_icmp (t := 24) lk218_12 (by decide) (fun c2 => ?_) (fun c2 => ?_)
    · rw [if_pos c2] at h
      exact k_Face_history_b24_ok hp0 hL hF  g lv σ  _ h
    · rw [if_neg c2] at h
      refine cR_lift (fun _ _ kk => eE_iload_n lk218_15 g2 kk) ?_
      refine cR_if (t := 24) lk218_16 (by decide) (fun c3 => ?_) (fun c3 => ?_)
      · rw [if_pos c3] at h
        exact k_Face_history_b24_ok hp0 hL hF  g lv σ  _ h
      · rw [if_neg c3] at h
        refine cR_lift (fun _ _ kk => eE_iload_n lk218_19 g2 kk) ?_
        refine cR_lift (fun _ _ kk => eE_iconst (v := 5) lk218_20 (by decide) kk) ?_
        refine cR_icmp (t := 32) lk218_21 (by decide) (fun c4 => ?_) (fun c4 => ?_)
        · rw [if_pos c4] at h
          refine cR_lift (fun _ _ kk => eE_aload_n lk218_32 g0 kk) ?_
          refine cR_getO (cl' := 4) (i' := 0) lk218_33 rf_15_49 rfl rfl bl0 ?_
          refine cR_lift (fun _ _ kk => eE_iload_n lk218_36 g1 kk) ?_
          refine cR_lift (fun _ _ kk => eE_iload_n lk218_37 g2 kk) ?_
          obtain ⟨p5, h6, h⟩ := Option.bind_eq_some_iff.mp h
          refine cR_virt (cl := 4) (i := 0) (as := [.int l1, .int l2]) lk218_38 mr_15_302 na_19 rfl rfl (by first | exact Nat.le_of_ble_eq_true rfl | (simp [xcat, cvo_cat, cat_i, cat_j, cat_r]; done)) wv_19 wc_19 (cob_0 (c := σ) (cl := 4) (by decide) rfl rfl) (k_Askings_tell_ok hp0 hL hF (d := d + 0) (cob_0 (c := σ) (cl := 4) (by decide) rfl rfl) h6) (fun m7  => ?_)
          cases h
          exact cR_end lk218_41 rfl rfl rfl
        · rw [if_neg c4] at h
          exact k_Face_history_b24_ok hp0 hL hF  g lv σ  _ h
def k_Face_history (σ : CS) (l0 : Nat) (l1 : Int32) (l2 : Int32) : Option (Int32) := k_Face_history_b0 σ l0 l1 l2
theorem k_Face_history_ok {E : CE} {pF : Nat → List Value → xH → Option (Option Value × xH)} (hp0 : xNPc pF) (hL : lcAll E pF) (hF : lcF pF) {d : Nat} {g : CG} {σ : CS} {l0 : Nat} {l1 : Int32} {l2 : Int32} {res : Int32} (bl0 : cob σ 15 l0) (h : k_Face_history σ l0 l1 l2 = some res) : cCo E cQ1 pF (d + 2) 218 [.ref (coa E 15 l0), .int l1, .int l2] (some (.int res)) σ g σ :=
  cCo_R kk_218 mo_218 ni_218 xm_218 (Nat.le_of_ble_eq_true rfl) (hp0 218 (by decide) _) (k_Face_history_b0_ok hp0 hL hF g _ σ l0 l1 l2 bl0 rfl rfl rfl _ h)
/-! k_Face_machineWith (226), depth 2 -/
def k_Face_machineWith_b28  (σ : CS) : Option (Nat) :=
  none
set_option maxRecDepth 4000 in
theorem k_Face_machineWith_b28_ok {E : CE} {pF : Nat → List Value → xH → Option (Option Value × xH)} (hp0 : xNPc pF) (hL : lcAll E pF) (hF : lcF pF) {d : Nat}   : ∀ (g : CG) (lv : xL) (σ : CS), ∀ res, k_Face_machineWith_b28  σ = some res → cR E cQ1 pF (d + 1) kT226 15 4 (some (FieldType.object "AgreedStore$Machine")) (some (.ref (coa E 10 res))) σ g σ (28, lv, []) := by
  intro g lv σ res h
  unfold k_Face_machineWith_b28 at h
  cases h
def k_Face_machineWith_b0  (σ : CS) (l0 : Nat) (l1 : Int32) (l2 : Int32) : Option (Nat) :=
  (k_Face_host σ l0 l1).bind fun p1 =>
  if xc0 .eq (cI σ 13 p1 8 0) = true then (
    k_Face_machineWith_b28  σ
  ) else (
    if xc0 .lt l2 = true then (
      k_Face_machineWith_b28  σ
    ) else (
      if xc2 .lt l2 (cI σ 10 p1 4 0) = true then (
        some p1
      ) else (
        k_Face_machineWith_b28  σ
      )
    )
  )
set_option maxRecDepth 4000 in
theorem k_Face_machineWith_b0_ok {E : CE} {pF : Nat → List Value → xH → Option (Option Value × xH)} (hp0 : xNPc pF) (hL : lcAll E pF) (hF : lcF pF) {d : Nat}   : ∀ (g : CG) (lv : xL) (σ : CS) (l0 : Nat) (l1 : Int32) (l2 : Int32), (cob σ 15 l0) → (xg lv 0 = some (.ref (coa E 15 l0))) → (xg lv 1 = some (.int l1)) → (xg lv 2 = some (.int l2)) → ∀ res, k_Face_machineWith_b0  σ l0 l1 l2 = some res → cR E cQ1 pF (d + 1) kT226 15 4 (some (FieldType.object "AgreedStore$Machine")) (some (.ref (coa E 10 res))) σ g σ (0, lv, []) := by
  intro g lv σ l0 l1 l2 bl0 g0 g1 g2 res h
  unfold k_Face_machineWith_b0 at h
  refine cR_lift (fun _ _ kk => eE_aload_n lk226_0 g0 kk) ?_
  refine cR_lift (fun _ _ kk => eE_iload_n lk226_1 g1 kk) ?_
  obtain ⟨p1, h2, h⟩ := Option.bind_eq_some_iff.mp h
  refine cR_rep (fun _ hc => k_Face_host_lt hc bl0 h2) (fun b3 => ?_)
  refine cR_virt (cl := 15) (i := l0) (as := [.int l1]) lk226_2 mr_15_155 na_219 rfl rfl (by first | exact Nat.le_of_ble_eq_true rfl | (simp [xcat, cvo_cat, cat_i, cat_j, cat_r]; done)) wv_219 wc_219 bl0 (k_Face_host_ok hp0 hL hF (d := d + 0) bl0 h2) (fun m4  => ?_)
  refine cR_stA (j := 3) lk226_5 (Or.inr ⟨_, rfl, rfl⟩) (by decide) (fun vq5 gq6 kq7 => ?_)
  have gq8 := kq7 2 _ (by decide) (fun _ => rfl) g2
  refine cR_lift (fun _ _ kk => eE_aload_n lk226_6 gq6 kk) ?_
  refine cR_getI lk226_7 rf_15_165 rfl b3 ?_
  refine cR_if (t := 28) lk226_10 (by decide) (fun c9 => ?_) (fun c9 => ?_)
  · rw [if_pos c9] at h
    exact k_Face_machineWith_b28_ok hp0 hL hF  g vq5 σ  _ h
  · rw [if_neg c9] at h
    refine cR_lift (fun _ _ kk => eE_iload_n lk226_13 gq8 kk) ?_
    refine cR_if (t := 28) lk226_14 (by decide) (fun c10 => ?_) (fun c10 => ?_)
    · rw [if_pos c10] at h
      exact k_Face_machineWith_b28_ok hp0 hL hF  g vq5 σ  _ h
    · rw [if_neg c10] at h
      refine cR_lift (fun _ _ kk => eE_iload_n lk226_17 gq8 kk) ?_
      refine cR_lift (fun _ _ kk => eE_aload_n lk226_18 gq6 kk) ?_
      refine cR_getO (cl' := 10) (i' := p1) lk226_19 rf_15_317 rfl rfl b3 ?_
      refine cR_getI lk226_22 rf_15_321 rfl (cob_s (cl := 10) b3 (by decide) rfl rfl) ?_
      refine cR_icmp (t := 36) lk226_25 (by decide) (fun c11 => ?_) (fun c11 => ?_)
      · rw [if_pos c11] at h
        refine cR_lift (fun _ _ kk => eE_aload_n lk226_36 gq6 kk) ?_
        refine cR_getO (cl' := 10) (i' := p1) lk226_37 rf_15_317 rfl rfl b3 ?_
        cases h
        exact cR_end lk226_40 rfl rfl rfl
      · rw [if_neg c11] at h
        exact k_Face_machineWith_b28_ok hp0 hL hF  g vq5 σ  _ h
def k_Face_machineWith (σ : CS) (l0 : Nat) (l1 : Int32) (l2 : Int32) : Option (Nat) := k_Face_machineWith_b0 σ l0 l1 l2
theorem k_Face_machineWith_ok {E : CE} {pF : Nat → List Value → xH → Option (Option Value × xH)} (hp0 : xNPc pF) (hL : lcAll E pF) (hF : lcF pF) {d : Nat} {g : CG} {σ : CS} {l0 : Nat} {l1 : Int32} {l2 : Int32} {res : Nat} (bl0 : cob σ 15 l0) (h : k_Face_machineWith σ l0 l1 l2 = some res) : cCo E cQ1 pF (d + 2) 226 [.ref (coa E 15 l0), .int l1, .int l2] (some (.ref (coa E 10 res))) σ g σ :=
  cCo_R kk_226 mo_226 ni_226 xm_226 (Nat.le_of_ble_eq_true rfl) (hp0 226 (by decide) _) (k_Face_machineWith_b0_ok hp0 hL hF g _ σ l0 l1 l2 bl0 rfl rfl rfl _ h)
theorem k_Face_machineWith_lt {E : CE} {g : CG} {σ : CS} {h0 : xH} {l0 : Nat} {l1 l2 : Int32} {res : Nat} (hc : CRep E g σ h0) (hb : cob σ 15 l0) (h : k_Face_machineWith σ l0 l1 l2 = some res) : cob σ 10 res := by
  unfold k_Face_machineWith k_Face_machineWith_b0 at h
  obtain ⟨p, hp, h⟩ := Option.bind_eq_some_iff.mp h
  have hq := k_Face_host_lt hc hb hp
  split at h
  · cases h
  · split at h
    · cases h
    · split at h
      · cases h
        exact cob_s (cl := 10) hq (by decide) rfl rfl
      · cases h
/-! k_Machine_copyKey_15_6 (79), depth 1 -/
def k_Machine_copyKey_15_6_b0  (σ : CS) (l0 : Nat) (l1 : Int32) (l2 : Nat) : Option ((Int32) × CS) :=
  (crd σ 10 l0 6 l1).bind fun x1 =>
  (crd σ 10 l0 7 x1).bind fun x8 =>
  (ccpy σ 10 l0 9 (x1 * ((132 : Int32))) 15 l2 6 ((0 : Int32)) x8).bind fun σ10 =>
  (crd σ10 10 l0 7 x1).bind fun x12 =>
  some (x12, σ10)
set_option maxRecDepth 4000 in
theorem k_Machine_copyKey_15_6_b0_ok {E : CE} {pF : Nat → List Value → xH → Option (Option Value × xH)} (hp0 : xNPc pF) (hL : lcAll E pF) (hF : lcF pF) {d : Nat}   : ∀ (g : CG) (lv : xL) (σ : CS) (l0 : Nat) (l1 : Int32) (l2 : Nat), (cob σ 10 l0) → (cob σ 15 l2) → (xg lv 0 = some (.ref (coa E 10 l0))) → (xg lv 1 = some (.int l1)) → (xg lv 2 = some (.ref (caa E 15 l2 6))) → ∀ res, k_Machine_copyKey_15_6_b0  σ l0 l1 l2 = some res → cR E cQ1 pF (d + 0) kT79 10 4 (some FieldType.int) (some (.int res.1)) res.2 g σ (0, lv, []) := by
  intro g lv σ l0 l1 l2 bl0 bl2 g0 g1 g2 res h
  unfold k_Machine_copyKey_15_6_b0 at h
  refine cR_lift (fun _ _ kk => eE_aload_n lk79_0 g0 kk) ?_
  refine cR_getA lk79_1 rf_10_19 (by decide) bl0 ?_
  refine cR_lift (fun _ _ kk => eE_iload_n lk79_4 g1 kk) ?_
  obtain ⟨x1, h2, h⟩ := Option.bind_eq_some_iff.mp h
  refine cR_iald (cl := 10) (i := l0) (f := 6) lk79_5 (by decide) rfl bl0 h2 ?_
  refine cR_stI (j := 3) lk79_6 (Or.inr ⟨_, rfl, rfl⟩) (by decide) (fun vq3 gq4 kq5 => ?_)
  have gq6 := kq5 0 _ (by decide) (fun e => absurd e (by decide)) g0
  have gq7 := kq5 2 _ (by decide) (fun _ => rfl) g2
  refine cR_lift (fun _ _ kk => eE_aload_n lk79_7 gq6 kk) ?_
  refine cR_getA lk79_8 rf_10_28 (by decide) bl0 ?_
  refine cR_lift (fun _ _ kk => eE_iload_n lk79_11 gq4 kk) ?_
  refine cR_lift (fun _ _ kk => eE_sipush (v := 132) lk79_12 (by decide) kk) ?_
  refine cR_lift (fun _ _ kk => eE_imul lk79_15 kk) ?_
  refine cR_lift (fun _ _ kk => eE_aload_n lk79_16 gq7 kk) ?_
  refine cR_lift (fun _ _ kk => eE_iconst (v := 0) lk79_17 (by decide) kk) ?_
  refine cR_lift (fun _ _ kk => eE_aload_n lk79_18 gq6 kk) ?_
  refine cR_getA lk79_19 rf_10_22 (by decide) bl0 ?_
  refine cR_lift (fun _ _ kk => eE_iload_n lk79_22 gq4 kk) ?_
  obtain ⟨x8, h9, h⟩ := Option.bind_eq_some_iff.mp h
  refine cR_iald (cl := 10) (i := l0) (f := 7) lk79_23 (by decide) rfl bl0 h9 ?_
  obtain ⟨σ10, h11, h⟩ := Option.bind_eq_some_iff.mp h
  refine cR_cpy (a := 10) (i := l0) (f := 9) (a' := 15) (i' := l2) (f' := 6) lk79_24 yc_10_68.1 yc_10_68.2 (by decide) (by decide) (by decide) bl0 bl2 (by first | exact Nat.le_of_ble_eq_true rfl | (simp [xcat, cvo_cat, cat_i, cat_j, cat_r]; done)) h11 ?_
  refine cR_lift (fun _ _ kk => eE_aload_n lk79_27 gq6 kk) ?_
  refine cR_getA lk79_28 rf_10_22 (by decide) (cob_any rfl bl0) ?_
  refine cR_lift (fun _ _ kk => eE_iload_n lk79_31 gq4 kk) ?_
  obtain ⟨x12, h13, h⟩ := Option.bind_eq_some_iff.mp h
  refine cR_iald (cl := 10) (i := l0) (f := 7) lk79_32 (by decide) rfl (cob_any rfl bl0) h13 ?_
  cases h
  exact cR_end lk79_33 rfl rfl rfl
def k_Machine_copyKey_15_6 (σ : CS) (l0 : Nat) (l1 : Int32) (l2 : Nat) : Option ((Int32) × CS) := k_Machine_copyKey_15_6_b0 σ l0 l1 l2
theorem k_Machine_copyKey_15_6_ok {E : CE} {pF : Nat → List Value → xH → Option (Option Value × xH)} (hp0 : xNPc pF) (hL : lcAll E pF) (hF : lcF pF) {d : Nat} {g : CG} {σ : CS} {l0 : Nat} {l1 : Int32} {l2 : Nat} {res : (Int32) × CS} (bl0 : cob σ 10 l0) (bl2 : cob σ 15 l2) (h : k_Machine_copyKey_15_6 σ l0 l1 l2 = some res) : cCo E cQ1 pF (d + 1) 79 [.ref (coa E 10 l0), .int l1, .ref (caa E 15 l2 6)] (some (.int res.1)) res.2 g σ :=
  cCo_R kk_79 mo_79 ni_79 xm_79 (Nat.le_of_ble_eq_true rfl) (hp0 79 (by decide) _) (k_Machine_copyKey_15_6_b0_ok hp0 hL hF g _ σ l0 l1 l2 bl0 bl2 rfl rfl rfl _ h)
/-! k_Face_key (223), depth 3 -/
def k_Face_key_b0  (σ : CS) (l0 : Nat) (l1 : Int32) (l2 : Int32) : Option ((Int32) × CS) :=
  (k_Face_machineWith σ l0 l1 l2).bind fun p1 =>
  (k_Machine_copyKey_15_6 σ p1 l2 l0).bind fun p10 =>
  (some (csI p10.2 15 l0 7 0 p10.1)).bind fun σ13 =>
  some (cI σ13 15 l0 7 0, σ13)
set_option maxRecDepth 4000 in
theorem k_Face_key_b0_ok {E : CE} {pF : Nat → List Value → xH → Option (Option Value × xH)} (hp0 : xNPc pF) (hL : lcAll E pF) (hF : lcF pF) {d : Nat}   : ∀ (g : CG) (lv : xL) (σ : CS) (l0 : Nat) (l1 : Int32) (l2 : Int32), (cob σ 15 l0) → (xg lv 0 = some (.ref (coa E 15 l0))) → (xg lv 1 = some (.int l1)) → (xg lv 2 = some (.int l2)) → ∀ res, k_Face_key_b0  σ l0 l1 l2 = some res → cR E cQ1 pF (d + 2) kT223 15 4 (some FieldType.int) (some (.int res.1)) res.2 g σ (0, lv, []) := by
  intro g lv σ l0 l1 l2 bl0 g0 g1 g2 res h
  unfold k_Face_key_b0 at h
  refine cR_lift (fun _ _ kk => eE_aload_n lk223_0 g0 kk) ?_
  refine cR_lift (fun _ _ kk => eE_iload_n lk223_1 g1 kk) ?_
  refine cR_lift (fun _ _ kk => eE_iload_n lk223_2 g2 kk) ?_
  obtain ⟨p1, h2, h⟩ := Option.bind_eq_some_iff.mp h
  refine cR_rep (fun _ hc => k_Face_machineWith_lt hc bl0 h2) (fun b3 => ?_)
  refine cR_virt (cl := 15) (i := l0) (as := [.int l1, .int l2]) lk223_3 mr_15_232 na_226 rfl rfl (by first | exact Nat.le_of_ble_eq_true rfl | (simp [xcat, cvo_cat, cat_i, cat_j, cat_r]; done)) wv_226 wc_226 bl0 (k_Face_machineWith_ok hp0 hL hF (d := d + 0) bl0 h2) (fun m4  => ?_)
  refine cR_stA (j := 3) lk223_6 (Or.inr ⟨_, rfl, rfl⟩) (by decide) (fun vq5 gq6 kq7 => ?_)
  have gq8 := kq7 0 _ (by decide) (fun e => absurd e (by decide)) g0
  have gq9 := kq7 2 _ (by decide) (fun _ => rfl) g2
  refine cR_lift (fun _ _ kk => eE_aload_n lk223_7 gq8 kk) ?_
  refine cR_lift (fun _ _ kk => eE_aload_n lk223_8 gq6 kk) ?_
  refine cR_lift (fun _ _ kk => eE_iload_n lk223_9 gq9 kk) ?_
  refine cR_lift (fun _ _ kk => eE_aload_n lk223_10 gq8 kk) ?_
  refine cR_getA lk223_11 rf_15_25 (by decide) bl0 ?_
  obtain ⟨p10, h11, h⟩ := Option.bind_eq_some_iff.mp h
  refine cR_virt (cl := 10) (i := p1) (as := [.int l2, .ref (caa E 15 l0 6)]) lk223_14 mr_15_236 na_79 rfl rfl (by first | exact Nat.le_of_ble_eq_true rfl | (simp [xcat, cvo_cat, cat_i, cat_j, cat_r]; done)) wv_79 wc_79 b3 (k_Machine_copyKey_15_6_ok hp0 hL hF (d := d + 1) b3 bl0 h11) (fun m12  => ?_)
  obtain ⟨σ13, h14, h⟩ := Option.bind_eq_some_iff.mp h
  refine cR_putI lk223_17 rf_15_242 rfl (cob_any rfl bl0) pf_15_7 rfl h14 ?_
  refine cR_lift (fun _ _ kk => eE_aload_n lk223_20 gq8 kk) ?_
  refine cR_getI lk223_21 rf_15_242 rfl (cob_any rfl bl0) ?_
  cases h
  exact cR_end lk223_24 rfl rfl rfl
def k_Face_key (σ : CS) (l0 : Nat) (l1 : Int32) (l2 : Int32) : Option ((Int32) × CS) := k_Face_key_b0 σ l0 l1 l2
theorem k_Face_key_ok {E : CE} {pF : Nat → List Value → xH → Option (Option Value × xH)} (hp0 : xNPc pF) (hL : lcAll E pF) (hF : lcF pF) {d : Nat} {g : CG} {σ : CS} {l0 : Nat} {l1 : Int32} {l2 : Int32} {res : (Int32) × CS} (bl0 : cob σ 15 l0) (h : k_Face_key σ l0 l1 l2 = some res) : cCo E cQ1 pF (d + 3) 223 [.ref (coa E 15 l0), .int l1, .int l2] (some (.int res.1)) res.2 g σ :=
  cCo_R kk_223 mo_223 ni_223 xm_223 (Nat.le_of_ble_eq_true rfl) (hp0 223 (by decide) _) (k_Face_key_b0_ok hp0 hL hF g _ σ l0 l1 l2 bl0 rfl rfl rfl _ h)
/-! k_Face_latency (224), depth 2 -/
def k_Face_latency_b17  (σ : CS) : Option ((Int32) × CS) :=
  none
set_option maxRecDepth 4000 in
theorem k_Face_latency_b17_ok {E : CE} {pF : Nat → List Value → xH → Option (Option Value × xH)} (hp0 : xNPc pF) (hL : lcAll E pF) (hF : lcF pF) {d : Nat}   : ∀ (g : CG) (lv : xL) (σ : CS), ∀ res, k_Face_latency_b17  σ = some res → cR E cQ1 pF (d + 1) kT224 15 5 (some FieldType.int) (some (.int res.1)) res.2 g σ (17, lv, []) := by
  intro g lv σ res h
  unfold k_Face_latency_b17 at h
  cases h
def k_Face_latency_b0  (σ : CS) (l0 : Nat) (l1 : Int32) (l2 : Int32) : Option ((Int32) × CS) :=
  (k_Face_host σ l0 l1).bind fun p1 =>
  if xc0 .lt l2 = true then (
    k_Face_latency_b17  σ
  ) else (
    if xc2 .le l2 ((1000 : Int32)) = true then (
      (crd σ 14 0 13 (cI σ 13 p1 0 0)).bind fun x12 =>
      (cwr σ 14 0 13 (cI σ 13 p1 0 0) l2).bind fun σ20 =>
      some (x12, σ20)
    ) else (
      k_Face_latency_b17  σ
    )
  )
set_option maxRecDepth 4000 in
theorem k_Face_latency_b0_ok {E : CE} {pF : Nat → List Value → xH → Option (Option Value × xH)} (hp0 : xNPc pF) (hL : lcAll E pF) (hF : lcF pF) {d : Nat}   : ∀ (g : CG) (lv : xL) (σ : CS) (l0 : Nat) (l1 : Int32) (l2 : Int32), (cob σ 15 l0) → (xg lv 0 = some (.ref (coa E 15 l0))) → (xg lv 1 = some (.int l1)) → (xg lv 2 = some (.int l2)) → ∀ res, k_Face_latency_b0  σ l0 l1 l2 = some res → cR E cQ1 pF (d + 1) kT224 15 5 (some FieldType.int) (some (.int res.1)) res.2 g σ (0, lv, []) := by
  intro g lv σ l0 l1 l2 bl0 g0 g1 g2 res h
  unfold k_Face_latency_b0 at h
  refine cR_lift (fun _ _ kk => eE_aload_n lk224_0 g0 kk) ?_
  refine cR_lift (fun _ _ kk => eE_iload_n lk224_1 g1 kk) ?_
  obtain ⟨p1, h2, h⟩ := Option.bind_eq_some_iff.mp h
  refine cR_rep (fun _ hc => k_Face_host_lt hc bl0 h2) (fun b3 => ?_)
  refine cR_virt (cl := 15) (i := l0) (as := [.int l1]) lk224_2 mr_15_155 na_219 rfl rfl (by first | exact Nat.le_of_ble_eq_true rfl | (simp [xcat, cvo_cat, cat_i, cat_j, cat_r]; done)) wv_219 wc_219 bl0 (k_Face_host_ok hp0 hL hF (d := d + 0) bl0 h2) (fun m4  => ?_)
  refine cR_stA (j := 3) lk224_5 (Or.inr ⟨_, rfl, rfl⟩) (by decide) (fun vq5 gq6 kq7 => ?_)
  have gq8 := kq7 0 _ (by decide) (fun e => absurd e (by decide)) g0
  have gq9 := kq7 2 _ (by decide) (fun _ => rfl) g2
  refine cR_lift (fun _ _ kk => eE_iload_n lk224_6 gq9 kk) ?_
  refine cR_if (t := 17) lk224_7 (by decide) (fun c10 => ?_) (fun c10 => ?_)
  · rw [if_pos c10] at h
    exact k_Face_latency_b17_ok hp0 hL hF  g vq5 σ  _ h
  · rw [if_neg c10] at h
    refine cR_lift (fun _ _ kk => eE_iload_n lk224_10 gq9 kk) ?_
    refine cR_lift (fun _ _ kk => eE_sipush (v := 1000) lk224_11 (by decide) kk) ?_
    refine cR_icmp (t := 25) lk224_14 (by decide) (fun c11 => ?_) (fun c11 => ?_)
    · rw [if_pos c11] at h
      refine cR_lift (fun _ _ kk => eE_aload_n lk224_25 gq8 kk) ?_
      refine cR_getO (cl' := 14) (i' := 0) lk224_26 rf_15_42 rfl rfl bl0 ?_
      refine cR_getA lk224_29 rf_15_159 (by decide) (cob_0 (c := σ) (cl := 14) (by decide) rfl rfl) ?_
      refine cR_lift (fun _ _ kk => eE_aload_n lk224_32 gq6 kk) ?_
      refine cR_getI lk224_33 rf_15_162 rfl b3 ?_
      obtain ⟨x12, h13, h⟩ := Option.bind_eq_some_iff.mp h
      refine cR_iald (cl := 14) (i := 0) (f := 13) lk224_36 (by decide) rfl (cob_0 (c := σ) (cl := 14) (by decide) rfl rfl) h13 ?_
      refine cR_stI (j := 4) lk224_37 (Or.inl rfl) (by decide) (fun vq14 gq15 kq16 => ?_)
      have gq17 := kq16 0 _ (by decide) (fun e => absurd e (by decide)) gq8
      have gq18 := kq16 2 _ (by decide) (fun e => absurd e (by decide)) gq9
      have gq19 := kq16 3 _ (by decide) (fun _ => rfl) gq6
      refine cR_lift (fun _ _ kk => eE_aload_n lk224_39 gq17 kk) ?_
      refine cR_getO (cl' := 14) (i' := 0) lk224_40 rf_15_42 rfl rfl bl0 ?_
      refine cR_getA lk224_43 rf_15_159 (by decide) (cob_0 (c := σ) (cl := 14) (by decide) rfl rfl) ?_
      refine cR_lift (fun _ _ kk => eE_aload_n lk224_46 gq19 kk) ?_
      refine cR_getI lk224_47 rf_15_162 rfl b3 ?_
      refine cR_lift (fun _ _ kk => eE_iload_n lk224_50 gq18 kk) ?_
      obtain ⟨σ20, h21, h⟩ := Option.bind_eq_some_iff.mp h
      refine cR_iast (cl := 14) (i := 0) (f := 13) lk224_51 (by decide) rfl (cob_0 (c := σ) (cl := 14) (by decide) rfl rfl) h21 ?_
      refine cR_lift (fun _ _ kk => eE_iload lk224_52 gq15 kk) ?_
      cases h
      exact cR_end lk224_54 rfl rfl rfl
    · rw [if_neg c11] at h
      exact k_Face_latency_b17_ok hp0 hL hF  g vq5 σ  _ h
def k_Face_latency (σ : CS) (l0 : Nat) (l1 : Int32) (l2 : Int32) : Option ((Int32) × CS) := k_Face_latency_b0 σ l0 l1 l2
theorem k_Face_latency_ok {E : CE} {pF : Nat → List Value → xH → Option (Option Value × xH)} (hp0 : xNPc pF) (hL : lcAll E pF) (hF : lcF pF) {d : Nat} {g : CG} {σ : CS} {l0 : Nat} {l1 : Int32} {l2 : Int32} {res : (Int32) × CS} (bl0 : cob σ 15 l0) (h : k_Face_latency σ l0 l1 l2 = some res) : cCo E cQ1 pF (d + 2) 224 [.ref (coa E 15 l0), .int l1, .int l2] (some (.int res.1)) res.2 g σ :=
  cCo_R kk_224 mo_224 ni_224 xm_224 (Nat.le_of_ble_eq_true rfl) (hp0 224 (by decide) _) (k_Face_latency_b0_ok hp0 hL hF g _ σ l0 l1 l2 bl0 rfl rfl rfl _ h)
/-! k_Face_learners (225), depth 16 -/
def k_Face_learners_b42 (F : Nat)  (σ : CS) : Option ((Int32) × CS) :=
  if ((0 : Int32)) = 0 ∨ ((0 : Int32)) = 1 then some ((0 : Int32), σ) else none
set_option maxRecDepth 4000 in
theorem k_Face_learners_b42_ok {E : CE} {pF : Nat → List Value → xH → Option (Option Value × xH)} (hp0 : xNPc pF) (hL : lcAll E pF) (hF : lcF pF) {d : Nat} {F : Nat}   : ∀ (g : CG) (lv : xL) (σ : CS), ∀ res, k_Face_learners_b42 F  σ = some res → cR E (cQx [11, 13, 14]) pF (d + 15) kT225 15 5 (some FieldType.boolean) (some (.int res.1)) res.2 g σ (42, lv, []) := by
  intro g lv σ res h
  unfold k_Face_learners_b42 at h
  refine cR_lift (fun _ _ kk => eE_iconst (v := 0) lk225_42 (by decide) kk) ?_
  by_cases z1 : ((0 : Int32)) = 0 ∨ ((0 : Int32)) = 1
  · rw [if_pos z1] at h; cases h
    exact cR_end lk225_43 rfl rfl (by first | (simp only [xfin, if_true, if_pos z1]; done) | simp [xfin, z1])
  · rw [if_neg z1] at h; cases h
def k_Face_learners_b0 (F : Nat)  (σ : CS) (l0 : Nat) (l1 : Int32) (l2 : Int32) : Option ((Int32) × CS) :=
  (k_Face_host σ l0 l1).bind fun p2 =>
  (k_Server_maySetMembers σ p2).bind fun p15 =>
  if xc0 .eq p15 = true then (
    k_Face_learners_b42 F  σ
  ) else (
    if xc0 .lt l2 = true then (
      k_Face_learners_b42 F  σ
    ) else (
      if xc2 .gt l2 ((127 : Int32)) = true then (
        k_Face_learners_b42 F  σ
      ) else (
        if xc0 .eq (l2 &&& ((cI σ 9 p2 7 0) &&& ((127 : Int32)))) = true then (
          (k_Server_setMembers F σ p2 (((cI σ 9 p2 7 0) &&& ((127 : Int32))) ||| (l2 <<< (((14 : Int32)) &&& 31)))).bind fun p22 =>
          if ((1 : Int32)) = 0 ∨ ((1 : Int32)) = 1 then some ((1 : Int32), p22) else none
        ) else (
          k_Face_learners_b42 F  σ
        )
      )
    )
  )
set_option maxRecDepth 4000 in
theorem k_Face_learners_b0_ok {E : CE} {pF : Nat → List Value → xH → Option (Option Value × xH)} (hp0 : xNPc pF) (hL : lcAll E pF) (hF : lcF pF) {d : Nat} {F : Nat}   : ∀ (g : CG) (lv : xL) (σ : CS) (l0 : Nat) (l1 : Int32) (l2 : Int32), (cob σ 15 l0) → (xg lv 0 = some (.ref (coa E 15 l0))) → (xg lv 1 = some (.int l1)) → (xg lv 2 = some (.int l2)) → ∀ res, k_Face_learners_b0 F  σ l0 l1 l2 = some res → cR E (cQx [11, 13, 14]) pF (d + 15) kT225 15 5 (some FieldType.boolean) (some (.int res.1)) res.2 g σ (0, lv, []) := by
  intro g lv σ l0 l1 l2 bl0 g0 g1 g2 res h
  unfold k_Face_learners_b0 at h
  refine cR_lift (fun _ _ kk => eE_aload_n lk225_0 g0 kk) ?_
  refine cR_lift (fun _ _ kk => eE_iload_n lk225_1 g1 kk) ?_
  obtain ⟨p2, h3, h⟩ := Option.bind_eq_some_iff.mp h
  refine cR_rep (fun _ hc => k_Face_host_lt hc bl0 h3) (fun b4 => ?_)
  refine cR_virt (cl := 15) (i := l0) (as := [.int l1]) lk225_2 mr_15_155 na_219 rfl rfl (by first | exact Nat.le_of_ble_eq_true rfl | (simp [xcat, cvo_cat, cat_i, cat_j, cat_r]; done)) wv_219 wc_219 bl0 (k_Face_host_ok hp0 hL hF (d := d + 14) bl0 h3) (fun m5  => ?_)
  refine cR_stA (j := 3) lk225_5 (Or.inr ⟨_, rfl, rfl⟩) (by decide) (fun vq6 gq7 kq8 => ?_)
  have gq9 := kq8 2 _ (by decide) (fun _ => rfl) g2
  refine cR_lift (fun _ _ kk => eE_aload_n lk225_6 gq7 kk) ?_
  refine cR_getO (cl' := 9) (i' := p2) lk225_7 rf_15_184 rfl rfl b4 ?_
  refine cR_getI lk225_10 rf_15_188 rfl (cob_s (cl := 9) b4 (by decide) rfl rfl) ?_
  refine cR_lift (fun _ _ kk => eE_bipush (v := 127) lk225_13 (by decide) kk) ?_
  refine cR_lift (fun _ _ kk => eE_iand lk225_15 kk) ?_
  refine cR_stI (j := 4) lk225_16 (Or.inl rfl) (by decide) (fun vq10 gq11 kq12 => ?_)
  have gq13 := kq12 2 _ (by decide) (fun e => absurd e (by decide)) gq9
  have gq14 := kq12 3 _ (by decide) (fun _ => rfl) gq7
  refine cR_lift (fun _ _ kk => eE_aload_n lk225_18 gq14 kk) ?_
  obtain ⟨p15, h16, h⟩ := Option.bind_eq_some_iff.mp h
  refine cR_virt (cl := 13) (i := p2) (as := []) lk225_19 mr_15_177 na_148 rfl rfl (by first | exact Nat.le_of_ble_eq_true rfl | (simp [xcat, cvo_cat, cat_i, cat_j, cat_r]; done)) wv_148 wc_148 b4 (k_Server_maySetMembers_ok hp0 hL hF (d := d + 13) b4 h16) (fun m17  => ?_)
  refine cR_if (t := 42) lk225_22 (by decide) (fun c18 => ?_) (fun c18 => ?_)
  · rw [if_pos c18] at h
    exact k_Face_learners_b42_ok hp0 hL hF  g vq10 σ  _ h
  · rw [if_neg c18] at h
    refine cR_lift (fun _ _ kk => eE_iload_n lk225_25 gq13 kk) ?_
    refine cR_if (t := 42) lk225_26 (by decide) (fun c19 => ?_) (fun c19 => ?_)
    · rw [if_pos c19] at h
      exact k_Face_learners_b42_ok hp0 hL hF  g vq10 σ  _ h
    · rw [if_neg c19] at h
      refine cR_lift (fun _ _ kk => eE_iload_n lk225_29 gq13 kk) ?_
      refine cR_lift (fun _ _ kk => eE_bipush (v := 127) lk225_30 (by decide) kk) ?_
      refine cR_icmp (t := 42) lk225_32 (by decide) (fun c20 => ?_) (fun c20 => ?_)
      · rw [if_pos c20] at h
        exact k_Face_learners_b42_ok hp0 hL hF  g vq10 σ  _ h
      · rw [if_neg c20] at h
        refine cR_lift (fun _ _ kk => eE_iload_n lk225_35 gq13 kk) ?_
        refine cR_lift (fun _ _ kk => eE_iload lk225_36 gq11 kk) ?_
        refine cR_lift (fun _ _ kk => eE_iand lk225_38 kk) ?_
        refine cR_if (t := 44) lk225_39 (by decide) (fun c21 => ?_) (fun c21 => ?_)
        · rw [if_pos c21] at h
          refine cR_lift (fun _ _ kk => eE_aload_n lk225_44 gq14 kk) ?_
          refine cR_lift (fun _ _ kk => eE_iload lk225_45 gq11 kk) ?_
          refine cR_lift (fun _ _ kk => eE_iload_n lk225_47 gq13 kk) ?_
          refine cR_lift (fun _ _ kk => eE_bipush (v := 14) lk225_48 (by decide) kk) ?_
          refine cR_lift (fun _ _ kk => eE_ishl lk225_50 kk) ?_
          refine cR_lift (fun _ _ kk => eE_ior lk225_51 kk) ?_
          obtain ⟨p22, h23, h⟩ := Option.bind_eq_some_iff.mp h
          refine cR_virtG (by exact cQx_sub rfl) (cl := 13) (i := p2) (as := [.int (((cI σ 9 p2 7 0) &&& ((127 : Int32))) ||| (l2 <<< (((14 : Int32)) &&& 31)))]) lk225_52 mr_15_193 na_163 rfl rfl (by first | exact Nat.le_of_ble_eq_true rfl | (simp [xcat, cvo_cat, cat_i, cat_j, cat_r]; done)) wv_163 wc_163 b4 (k_Server_setMembers_ok hp0 hL hF (d := d + 0) b4 h23) (fun m24 g_25 g_25e => ?_)
          refine cR_lift (fun _ _ kk => eE_iconst (v := 1) lk225_55 (by decide) kk) ?_
          by_cases z26 : ((1 : Int32)) = 0 ∨ ((1 : Int32)) = 1
          · rw [if_pos z26] at h; cases h
            exact cR_end lk225_56 rfl rfl (by first | (simp only [xfin, if_true, if_pos z26]; done) | simp [xfin, z26])
          · rw [if_neg z26] at h; cases h
        · rw [if_neg c21] at h
          exact k_Face_learners_b42_ok hp0 hL hF  g vq10 σ  _ h
def k_Face_learners (F : Nat) (σ : CS) (l0 : Nat) (l1 : Int32) (l2 : Int32) : Option ((Int32) × CS) := k_Face_learners_b0 F σ l0 l1 l2
theorem k_Face_learners_ok {E : CE} {pF : Nat → List Value → xH → Option (Option Value × xH)} (hp0 : xNPc pF) (hL : lcAll E pF) (hF : lcF pF) {d : Nat} {g : CG} {σ : CS} {F : Nat} {l0 : Nat} {l1 : Int32} {l2 : Int32} {res : (Int32) × CS} (bl0 : cob σ 15 l0) (h : k_Face_learners F σ l0 l1 l2 = some res) : cCo E (cQx [11, 13, 14]) pF (d + 16) 225 [.ref (coa E 15 l0), .int l1, .int l2] (some (.int res.1)) res.2 g σ :=
  cCo_R kk_225 mo_225 ni_225 xm_225 (Nat.le_of_ble_eq_true rfl) (hp0 225 (by decide) _) (k_Face_learners_b0_ok hp0 hL hF g _ σ l0 l1 l2 bl0 rfl rfl rfl _ h)
/-! k_Face_meddle (227), depth 12 -/
def k_Face_meddle_b20 (F : Nat)  (σ : CS) : Option ((Int32) × CS) :=
  none
set_option maxRecDepth 4000 in
theorem k_Face_meddle_b20_ok {E : CE} {pF : Nat → List Value → xH → Option (Option Value × xH)} (hp0 : xNPc pF) (hL : lcAll E pF) (hF : lcF pF) {d : Nat} {F : Nat}   : ∀ (g : CG) (lv : xL) (σ : CS), ∀ res, k_Face_meddle_b20 F  σ = some res → cR E (cQx [14]) pF (d + 11) kT227 15 4 (some FieldType.boolean) (some (.int res.1)) res.2 g σ (20, lv, []) := by
  intro g lv σ res h
  unfold k_Face_meddle_b20 at h
  cases h
def k_Face_meddle_b81 (F : Nat)  (σ : CS) : Option ((Int32) × CS) :=
  if ((1 : Int32)) = 0 ∨ ((1 : Int32)) = 1 then some ((1 : Int32), σ) else none
set_option maxRecDepth 4000 in
theorem k_Face_meddle_b81_ok {E : CE} {pF : Nat → List Value → xH → Option (Option Value × xH)} (hp0 : xNPc pF) (hL : lcAll E pF) (hF : lcF pF) {d : Nat} {F : Nat}   : ∀ (g : CG) (lv : xL) (σ : CS), ∀ res, k_Face_meddle_b81 F  σ = some res → cR E (cQx [14]) pF (d + 11) kT227 15 4 (some FieldType.boolean) (some (.int res.1)) res.2 g σ (81, lv, []) := by
  intro g lv σ res h
  unfold k_Face_meddle_b81 at h
  refine cR_lift (fun _ _ kk => eE_iconst (v := 1) lk227_81 (by decide) kk) ?_
  by_cases z1 : ((1 : Int32)) = 0 ∨ ((1 : Int32)) = 1
  · rw [if_pos z1] at h; cases h
    exact cR_end lk227_82 rfl rfl (by first | (simp only [xfin, if_true, if_pos z1]; done) | simp [xfin, z1])
  · rw [if_neg z1] at h; cases h
def k_Face_meddle_b0 (F : Nat)  (σ : CS) (l0 : Nat) (l1 : Int32) (l2 : Int32) (l3 : Int32) : Option ((Int32) × CS) :=
  if xc0 .lt l2 = true then (
    k_Face_meddle_b20 F  σ
  ) else (
    if xc2 .gt l2 ((2 : Int32)) = true then (
      k_Face_meddle_b20 F  σ
    ) else (
      if xc0 .lt l3 = true then (
        k_Face_meddle_b20 F  σ
      ) else (
        if xc2 .le l3 ((1000 : Int32)) = true then (
          (k_World_hasLetter σ 0 l1).bind fun p6 =>
          if xc0 .ne p6 = true then (
            if xc0 .ne l2 = true then (
              if xc2 .ne l2 ((1 : Int32)) = true then (
                (k_World_deferLetter F σ 0 l1 l3).bind fun p12 =>
                k_Face_meddle_b81 F  p12
              ) else (
                (k_World_doubleLetter F σ 0 l1).bind fun p16 =>
                k_Face_meddle_b81 F  p16
              )
            ) else (
              (k_World_dropLetter σ 0 l1).bind fun p20 =>
              k_Face_meddle_b81 F  p20
            )
          ) else (
            if ((0 : Int32)) = 0 ∨ ((0 : Int32)) = 1 then some ((0 : Int32), σ) else none
          )
        ) else (
          k_Face_meddle_b20 F  σ
        )
      )
    )
  )
set_option maxRecDepth 4000 in
theorem k_Face_meddle_b0_ok {E : CE} {pF : Nat → List Value → xH → Option (Option Value × xH)} (hp0 : xNPc pF) (hL : lcAll E pF) (hF : lcF pF) {d : Nat} {F : Nat}   : ∀ (g : CG) (lv : xL) (σ : CS) (l0 : Nat) (l1 : Int32) (l2 : Int32) (l3 : Int32), (cob σ 15 l0) → (xg lv 0 = some (.ref (coa E 15 l0))) → (xg lv 1 = some (.int l1)) → (xg lv 2 = some (.int l2)) → (xg lv 3 = some (.int l3)) → ∀ res, k_Face_meddle_b0 F  σ l0 l1 l2 l3 = some res → cR E (cQx [14]) pF (d + 11) kT227 15 4 (some FieldType.boolean) (some (.int res.1)) res.2 g σ (0, lv, []) := by
  intro g lv σ l0 l1 l2 l3 bl0 g0 g1 g2 g3 res h
  unfold k_Face_meddle_b0 at h
  refine cR_lift (fun _ _ kk => eE_iload_n lk227_0 g2 kk) ?_
  refine cR_if (t := 20) lk227_1 (by decide) (fun c2 => ?_) (fun c2 => ?_)
  · rw [if_pos c2] at h
    exact k_Face_meddle_b20_ok hp0 hL hF  g lv σ  _ h
  · rw [if_neg c2] at h
    refine cR_lift (fun _ _ kk => eE_iload_n lk227_4 g2 kk) ?_
    refine cR_lift (fun _ _ kk => eE_iconst (v := 2) lk227_5 (by decide) kk) ?_
    refine cR_icmp (t := 20) lk227_6 (by decide) (fun c3 => ?_) (fun c3 => ?_)
    · rw [if_pos c3] at h
      exact k_Face_meddle_b20_ok hp0 hL hF  g lv σ  _ h
    · rw [if_neg c3] at h
      refine cR_lift (fun _ _ kk => eE_iload_n lk227_9 g3 kk) ?_
      refine cR_if (t := 20) lk227_10 (by decide) (fun c4 => ?_) (fun c4 => ?_)
      · rw [if_pos c4] at h
        exact k_Face_meddle_b20_ok hp0 hL hF  g lv σ  _ h
      · rw [if_neg c4] at h
        refine cR_lift (fun _ _ kk => eE_iload_n lk227_13 g3 kk) ?_
        refine cR_lift (fun _ _ kk => eE_sipush (v := 1000) lk227_14 (by decide) kk) ?_
        refine cR_icmp (t := 28) lk227_17 (by decide) (fun c5 => ?_) (fun c5 => ?_)
        · rw [if_pos c5] at h
          refine cR_lift (fun _ _ kk => eE_aload_n lk227_28 g0 kk) ?_
          refine cR_getO (cl' := 14) (i' := 0) lk227_29 rf_15_42 rfl rfl bl0 ?_
          refine cR_lift (fun _ _ kk => eE_iload_n lk227_32 g1 kk) ?_
          obtain ⟨p6, h7, h⟩ := Option.bind_eq_some_iff.mp h
          refine cR_virt (cl := 14) (i := 0) (as := [.int l1]) lk227_33 mr_15_142 na_193 rfl rfl (by first | exact Nat.le_of_ble_eq_true rfl | (simp [xcat, cvo_cat, cat_i, cat_j, cat_r]; done)) wv_193 wc_193 (cob_0 (c := σ) (cl := 14) (by decide) rfl rfl) (k_World_hasLetter_ok hp0 hL hF (d := d + 1) (cob_0 (c := σ) (cl := 14) (by decide) rfl rfl) h7) (fun m8  => ?_)
          refine cR_if (t := 41) lk227_36 (by decide) (fun c9 => ?_) (fun c9 => ?_)
          · rw [if_pos c9] at h
            refine cR_lift (fun _ _ kk => eE_iload_n lk227_41 g2 kk) ?_
            refine cR_if (t := 56) lk227_42 (by decide) (fun c10 => ?_) (fun c10 => ?_)
            · rw [if_pos c10] at h
              refine cR_lift (fun _ _ kk => eE_iload_n lk227_56 g2 kk) ?_
              refine cR_lift (fun _ _ kk => eE_iconst (v := 1) lk227_57 (by decide) kk) ?_
              refine cR_icmp (t := 72) lk227_58 (by decide) (fun c11 => ?_) (fun c11 => ?_)
              · rw [if_pos c11] at h
                refine cR_lift (fun _ _ kk => eE_aload_n lk227_72 g0 kk) ?_
                refine cR_getO (cl' := 14) (i' := 0) lk227_73 rf_15_42 rfl rfl bl0 ?_
                refine cR_lift (fun _ _ kk => eE_iload_n lk227_76 g1 kk) ?_
                refine cR_lift (fun _ _ kk => eE_iload_n lk227_77 g3 kk) ?_
                obtain ⟨p12, h13, h⟩ := Option.bind_eq_some_iff.mp h
                refine cR_virtG (by exact cQx_sub rfl) (cl := 14) (i := 0) (as := [.int l1, .int l3]) lk227_78 mr_15_151 na_186 rfl rfl (by first | exact Nat.le_of_ble_eq_true rfl | (simp [xcat, cvo_cat, cat_i, cat_j, cat_r]; done)) wv_186 wc_186 (cob_0 (c := σ) (cl := 14) (by decide) rfl rfl) (k_World_deferLetter_ok hp0 hL hF (d := d + 0) (cob_0 (c := σ) (cl := 14) (by decide) rfl rfl) h13) (fun m14 g_15 g_15e => ?_)
                exact k_Face_meddle_b81_ok hp0 hL hF  g_15 lv p12  _ h
              · rw [if_neg c11] at h
                refine cR_lift (fun _ _ kk => eE_aload_n lk227_61 g0 kk) ?_
                refine cR_getO (cl' := 14) (i' := 0) lk227_62 rf_15_42 rfl rfl bl0 ?_
                refine cR_lift (fun _ _ kk => eE_iload_n lk227_65 g1 kk) ?_
                obtain ⟨p16, h17, h⟩ := Option.bind_eq_some_iff.mp h
                refine cR_virtG (by exact cQx_sub rfl) (cl := 14) (i := 0) (as := [.int l1]) lk227_66 mr_15_148 na_187 rfl rfl (by first | exact Nat.le_of_ble_eq_true rfl | (simp [xcat, cvo_cat, cat_i, cat_j, cat_r]; done)) wv_187 wc_187 (cob_0 (c := σ) (cl := 14) (by decide) rfl rfl) (k_World_doubleLetter_ok hp0 hL hF (d := d + 0) (cob_0 (c := σ) (cl := 14) (by decide) rfl rfl) h17) (fun m18 g_19 g_19e => ?_)
                refine cR_lift (fun _ _ kk => eE_goto (t := 81) lk227_69 (by decide) kk) ?_
                exact k_Face_meddle_b81_ok hp0 hL hF  g_19 lv p16  _ h
            · rw [if_neg c10] at h
              refine cR_lift (fun _ _ kk => eE_aload_n lk227_45 g0 kk) ?_
              refine cR_getO (cl' := 14) (i' := 0) lk227_46 rf_15_42 rfl rfl bl0 ?_
              refine cR_lift (fun _ _ kk => eE_iload_n lk227_49 g1 kk) ?_
              obtain ⟨p20, h21, h⟩ := Option.bind_eq_some_iff.mp h
              refine cR_virtG (by exact cQx_sub rfl) (cl := 14) (i := 0) (as := [.int l1]) lk227_50 mr_15_145 na_190 rfl rfl (by first | exact Nat.le_of_ble_eq_true rfl | (simp [xcat, cvo_cat, cat_i, cat_j, cat_r]; done)) wv_190 wc_190 (cob_0 (c := σ) (cl := 14) (by decide) rfl rfl) (k_World_dropLetter_ok hp0 hL hF (d := d + 0) (cob_0 (c := σ) (cl := 14) (by decide) rfl rfl) h21) (fun m22 g_23 g_23e => ?_)
              refine cR_lift (fun _ _ kk => eE_goto (t := 81) lk227_53 (by decide) kk) ?_
              exact k_Face_meddle_b81_ok hp0 hL hF  g_23 lv p20  _ h
          · rw [if_neg c9] at h
            refine cR_lift (fun _ _ kk => eE_iconst (v := 0) lk227_39 (by decide) kk) ?_
            by_cases z24 : ((0 : Int32)) = 0 ∨ ((0 : Int32)) = 1
            · rw [if_pos z24] at h; cases h
              exact cR_end lk227_40 rfl rfl (by first | (simp only [xfin, if_true, if_pos z24]; done) | simp [xfin, z24])
            · rw [if_neg z24] at h; cases h
        · rw [if_neg c5] at h
          exact k_Face_meddle_b20_ok hp0 hL hF  g lv σ  _ h
def k_Face_meddle (F : Nat) (σ : CS) (l0 : Nat) (l1 : Int32) (l2 : Int32) (l3 : Int32) : Option ((Int32) × CS) := k_Face_meddle_b0 F σ l0 l1 l2 l3
theorem k_Face_meddle_ok {E : CE} {pF : Nat → List Value → xH → Option (Option Value × xH)} (hp0 : xNPc pF) (hL : lcAll E pF) (hF : lcF pF) {d : Nat} {g : CG} {σ : CS} {F : Nat} {l0 : Nat} {l1 : Int32} {l2 : Int32} {l3 : Int32} {res : (Int32) × CS} (bl0 : cob σ 15 l0) (h : k_Face_meddle F σ l0 l1 l2 l3 = some res) : cCo E (cQx [14]) pF (d + 12) 227 [.ref (coa E 15 l0), .int l1, .int l2, .int l3] (some (.int res.1)) res.2 g σ :=
  cCo_R kk_227 mo_227 ni_227 xm_227 (Nat.le_of_ble_eq_true rfl) (hp0 227 (by decide) _) (k_Face_meddle_b0_ok hp0 hL hF g _ σ l0 l1 l2 l3 bl0 rfl rfl rfl rfl _ h)
/-! k_Face_members (228), depth 16 -/
def k_Face_members_b32 (F : Nat)  (σ : CS) : Option ((Int32) × CS) :=
  if ((0 : Int32)) = 0 ∨ ((0 : Int32)) = 1 then some ((0 : Int32), σ) else none
set_option maxRecDepth 4000 in
theorem k_Face_members_b32_ok {E : CE} {pF : Nat → List Value → xH → Option (Option Value × xH)} (hp0 : xNPc pF) (hL : lcAll E pF) (hF : lcF pF) {d : Nat} {F : Nat}   : ∀ (g : CG) (lv : xL) (σ : CS), ∀ res, k_Face_members_b32 F  σ = some res → cR E (cQx [11, 13, 14]) pF (d + 15) kT228 15 6 (some FieldType.boolean) (some (.int res.1)) res.2 g σ (32, lv, []) := by
  intro g lv σ res h
  unfold k_Face_members_b32 at h
  refine cR_lift (fun _ _ kk => eE_iconst (v := 0) lk228_32 (by decide) kk) ?_
  by_cases z1 : ((0 : Int32)) = 0 ∨ ((0 : Int32)) = 1
  · rw [if_pos z1] at h; cases h
    exact cR_end lk228_33 rfl rfl (by first | (simp only [xfin, if_true, if_pos z1]; done) | simp [xfin, z1])
  · rw [if_neg z1] at h; cases h
def k_Face_members_b0 (F : Nat)  (σ : CS) (l0 : Nat) (l1 : Int32) (l2 : Int32) : Option ((Int32) × CS) :=
  (k_Face_host σ l0 l1).bind fun p2 =>
  (k_Server_maySetMembers σ p2).bind fun p10 =>
  if xc0 .eq p10 = true then (
    k_Face_members_b32 F  σ
  ) else (
    if xc2 .lt l2 ((1 : Int32)) = true then (
      k_Face_members_b32 F  σ
    ) else (
      if xc2 .gt l2 ((127 : Int32)) = true then (
        k_Face_members_b32 F  σ
      ) else (
        (k_Server_areKnown F σ p2 l2).bind fun p16 =>
        if xc0 .ne p16 = true then (
          (k_Server_setMembers F σ p2 ((((cI σ 9 p2 7 0) &&& ((127 : Int32))) ||| (l2 <<< (((7 : Int32)) &&& 31))) ||| ((((cI σ 9 p2 7 0) >>> (((14 : Int32)) &&& 31)) &&& (l2 ^^^ ((-1 : Int32)))) <<< (((14 : Int32)) &&& 31)))).bind fun p31 =>
          if ((1 : Int32)) = 0 ∨ ((1 : Int32)) = 1 then some ((1 : Int32), p31) else none
        ) else (
          k_Face_members_b32 F  σ
        )
      )
    )
  )
set_option maxRecDepth 4000 in
theorem k_Face_members_b0_ok {E : CE} {pF : Nat → List Value → xH → Option (Option Value × xH)} (hp0 : xNPc pF) (hL : lcAll E pF) (hF : lcF pF) {d : Nat} {F : Nat}   : ∀ (g : CG) (lv : xL) (σ : CS) (l0 : Nat) (l1 : Int32) (l2 : Int32), (cob σ 15 l0) → (xg lv 0 = some (.ref (coa E 15 l0))) → (xg lv 1 = some (.int l1)) → (xg lv 2 = some (.int l2)) → ∀ res, k_Face_members_b0 F  σ l0 l1 l2 = some res → cR E (cQx [11, 13, 14]) pF (d + 15) kT228 15 6 (some FieldType.boolean) (some (.int res.1)) res.2 g σ (0, lv, []) := by
  intro g lv σ l0 l1 l2 bl0 g0 g1 g2 res h
  unfold k_Face_members_b0 at h
  refine cR_lift (fun _ _ kk => eE_aload_n lk228_0 g0 kk) ?_
  refine cR_lift (fun _ _ kk => eE_iload_n lk228_1 g1 kk) ?_
  obtain ⟨p2, h3, h⟩ := Option.bind_eq_some_iff.mp h
  refine cR_rep (fun _ hc => k_Face_host_lt hc bl0 h3) (fun b4 => ?_)
  refine cR_virt (cl := 15) (i := l0) (as := [.int l1]) lk228_2 mr_15_155 na_219 rfl rfl (by first | exact Nat.le_of_ble_eq_true rfl | (simp [xcat, cvo_cat, cat_i, cat_j, cat_r]; done)) wv_219 wc_219 bl0 (k_Face_host_ok hp0 hL hF (d := d + 14) bl0 h3) (fun m5  => ?_)
  refine cR_stA (j := 3) lk228_5 (Or.inr ⟨_, rfl, rfl⟩) (by decide) (fun vq6 gq7 kq8 => ?_)
  have gq9 := kq8 2 _ (by decide) (fun _ => rfl) g2
  refine cR_lift (fun _ _ kk => eE_aload_n lk228_6 gq7 kk) ?_
  obtain ⟨p10, h11, h⟩ := Option.bind_eq_some_iff.mp h
  refine cR_virt (cl := 13) (i := p2) (as := []) lk228_7 mr_15_177 na_148 rfl rfl (by first | exact Nat.le_of_ble_eq_true rfl | (simp [xcat, cvo_cat, cat_i, cat_j, cat_r]; done)) wv_148 wc_148 b4 (k_Server_maySetMembers_ok hp0 hL hF (d := d + 13) b4 h11) (fun m12  => ?_)
  refine cR_if (t := 32) lk228_10 (by decide) (fun c13 => ?_) (fun c13 => ?_)
  · rw [if_pos c13] at h
    exact k_Face_members_b32_ok hp0 hL hF  g vq6 σ  _ h
  · rw [if_neg c13] at h
    refine cR_lift (fun _ _ kk => eE_iload_n lk228_13 gq9 kk) ?_
    refine cR_lift (fun _ _ kk => eE_iconst (v := 1) lk228_14 (by decide) kk) ?_
    refine cR_icmp (t := 32) lk228_15 (by decide) (fun c14 => ?_) (fun c14 => ?_)
    · rw [if_pos c14] at h
      exact k_Face_members_b32_ok hp0 hL hF  g vq6 σ  _ h
    · rw [if_neg c14] at h
      refine cR_lift (fun _ _ kk => eE_iload_n lk228_18 gq9 kk) ?_
      refine cR_lift (fun _ _ kk => eE_bipush (v := 127) lk228_19 (by decide) kk) ?_
      refine cR_icmp (t := 32) lk228_21 (by decide) (fun c15 => ?_) (fun c15 => ?_)
      · rw [if_pos c15] at h
        exact k_Face_members_b32_ok hp0 hL hF  g vq6 σ  _ h
      · rw [if_neg c15] at h
        refine cR_lift (fun _ _ kk => eE_aload_n lk228_24 gq7 kk) ?_
        refine cR_lift (fun _ _ kk => eE_iload_n lk228_25 gq9 kk) ?_
        obtain ⟨p16, h17, h⟩ := Option.bind_eq_some_iff.mp h
        refine cR_virt (cl := 13) (i := p2) (as := [.int l2]) lk228_26 mr_15_181 na_124 rfl rfl (by first | exact Nat.le_of_ble_eq_true rfl | (simp [xcat, cvo_cat, cat_i, cat_j, cat_r]; done)) wv_124 wc_124 b4 (k_Server_areKnown_ok hp0 hL hF (d := d + 14) b4 h17) (fun m18  => ?_)
        refine cR_if (t := 34) lk228_29 (by decide) (fun c19 => ?_) (fun c19 => ?_)
        · rw [if_pos c19] at h
          refine cR_lift (fun _ _ kk => eE_aload_n lk228_34 gq7 kk) ?_
          refine cR_getO (cl' := 9) (i' := p2) lk228_35 rf_15_184 rfl rfl b4 ?_
          refine cR_getI lk228_38 rf_15_188 rfl (cob_s (cl := 9) b4 (by decide) rfl rfl) ?_
          refine cR_stI (j := 4) lk228_41 (Or.inl rfl) (by decide) (fun vq20 gq21 kq22 => ?_)
          have gq23 := kq22 2 _ (by decide) (fun e => absurd e (by decide)) gq9
          have gq24 := kq22 3 _ (by decide) (fun _ => rfl) gq7
          refine cR_lift (fun _ _ kk => eE_iload lk228_43 gq21 kk) ?_
          refine cR_lift (fun _ _ kk => eE_bipush (v := 14) lk228_45 (by decide) kk) ?_
          refine cR_lift (fun _ _ kk => eE_ishr lk228_47 kk) ?_
          refine cR_lift (fun _ _ kk => eE_iload_n lk228_48 gq23 kk) ?_
          refine cR_lift (fun _ _ kk => eE_iconst (v := (-1)) lk228_49 (by decide) kk) ?_
          refine cR_lift (fun _ _ kk => eE_ixor lk228_50 kk) ?_
          refine cR_lift (fun _ _ kk => eE_iand lk228_51 kk) ?_
          refine cR_stI (j := 5) lk228_52 (Or.inl rfl) (by decide) (fun vq25 gq26 kq27 => ?_)
          have gq28 := kq27 2 _ (by decide) (fun e => absurd e (by decide)) gq23
          have gq29 := kq27 3 _ (by decide) (fun e => absurd e (by decide)) gq24
          have gq30 := kq27 4 _ (by decide) (fun _ => rfl) gq21
          refine cR_lift (fun _ _ kk => eE_aload_n lk228_54 gq29 kk) ?_
          refine cR_lift (fun _ _ kk => eE_iload lk228_55 gq30 kk) ?_
          refine cR_lift (fun _ _ kk => eE_bipush (v := 127) lk228_57 (by decide) kk) ?_
          refine cR_lift (fun _ _ kk => eE_iand lk228_59 kk) ?_
          refine cR_lift (fun _ _ kk => eE_iload_n lk228_60 gq28 kk) ?_
          refine cR_lift (fun _ _ kk => eE_bipush (v := 7) lk228_61 (by decide) kk) ?_
          refine cR_lift (fun _ _ kk => eE_ishl lk228_63 kk) ?_
          refine cR_lift (fun _ _ kk => eE_ior lk228_64 kk) ?_
          refine cR_lift (fun _ _ kk => eE_iload lk228_65 gq26 kk) ?_
          refine cR_lift (fun _ _ kk => eE_bipush (v := 14) lk228_67 (by decide) kk) ?_
          refine cR_lift (fun _ _ kk => eE_ishl lk228_69 kk) ?_
          refine cR_lift (fun _ _ kk => eE_ior lk228_70 kk) ?_
          obtain ⟨p31, h32, h⟩ := Option.bind_eq_some_iff.mp h
          refine cR_virtG (by exact cQx_sub rfl) (cl := 13) (i := p2) (as := [.int ((((cI σ 9 p2 7 0) &&& ((127 : Int32))) ||| (l2 <<< (((7 : Int32)) &&& 31))) ||| ((((cI σ 9 p2 7 0) >>> (((14 : Int32)) &&& 31)) &&& (l2 ^^^ ((-1 : Int32)))) <<< (((14 : Int32)) &&& 31)))]) lk228_71 mr_15_193 na_163 rfl rfl (by first | exact Nat.le_of_ble_eq_true rfl | (simp [xcat, cvo_cat, cat_i, cat_j, cat_r]; done)) wv_163 wc_163 b4 (k_Server_setMembers_ok hp0 hL hF (d := d + 0) b4 h32) (fun m33 g_34 g_34e => ?_)
          refine cR_lift (fun _ _ kk => eE_iconst (v := 1) lk228_74 (by decide) kk) ?_
          by_cases z35 : ((1 : Int32)) = 0 ∨ ((1 : Int32)) = 1
          · rw [if_pos z35] at h; cases h
            exact cR_end lk228_75 rfl rfl (by first | (simp only [xfin, if_true, if_pos z35]; done) | simp [xfin, z35])
          · rw [if_neg z35] at h; cases h
        · rw [if_neg c19] at h
          exact k_Face_members_b32_ok hp0 hL hF  g vq6 σ  _ h
def k_Face_members (F : Nat) (σ : CS) (l0 : Nat) (l1 : Int32) (l2 : Int32) : Option ((Int32) × CS) := k_Face_members_b0 F σ l0 l1 l2
theorem k_Face_members_ok {E : CE} {pF : Nat → List Value → xH → Option (Option Value × xH)} (hp0 : xNPc pF) (hL : lcAll E pF) (hF : lcF pF) {d : Nat} {g : CG} {σ : CS} {F : Nat} {l0 : Nat} {l1 : Int32} {l2 : Int32} {res : (Int32) × CS} (bl0 : cob σ 15 l0) (h : k_Face_members F σ l0 l1 l2 = some res) : cCo E (cQx [11, 13, 14]) pF (d + 16) 228 [.ref (coa E 15 l0), .int l1, .int l2] (some (.int res.1)) res.2 g σ :=
  cCo_R kk_228 mo_228 ni_228 xm_228 (Nat.le_of_ble_eq_true rfl) (hp0 228 (by decide) _) (k_Face_members_b0_ok hp0 hL hF g _ σ l0 l1 l2 bl0 rfl rfl rfl _ h)
/-! k_Face_message (229), depth 11 -/
def k_Face_message_b20  (σ : CS) : Option (Int32) :=
  none
set_option maxRecDepth 4000 in
theorem k_Face_message_b20_ok {E : CE} {pF : Nat → List Value → xH → Option (Option Value × xH)} (hp0 : xNPc pF) (hL : lcAll E pF) (hF : lcF pF) {d : Nat}   : ∀ (g : CG) (lv : xL) (σ : CS), ∀ res, k_Face_message_b20  σ = some res → cR E cQ1 pF (d + 10) kT229 15 4 (some FieldType.int) (some (.int res)) σ g σ (20, lv, []) := by
  intro g lv σ res h
  unfold k_Face_message_b20 at h
  cases h
def k_Face_message_b0  (σ : CS) (l0 : Nat) (l1 : Int32) (l2 : Int32) : Option (Int32) :=
  (k_World_hasLetter σ 0 l1).bind fun p1 =>
  if xc0 .eq p1 = true then (
    k_Face_message_b20  σ
  ) else (
    if xc0 .lt l2 = true then (
      k_Face_message_b20  σ
    ) else (
      if xc2 .le l2 ((4 : Int32)) = true then (
        (clget σ 14 0 15 l1).bind fun a8 =>
        if l2 = (0 : Int32) then (
          some (cI σ 8 a8 2 0)
        ) else (
        if l2 = (1 : Int32) then (
          some (cI σ 8 a8 3 0)
        ) else (
        if l2 = (2 : Int32) then (
          some (cI σ 8 a8 4 0)
        ) else (
        if l2 = (3 : Int32) then (
          some (cI σ 8 a8 5 0)
        ) else (
          some (cI σ 8 a8 0 0)
        )
        )
        )
        )
      ) else (
        k_Face_message_b20  σ
      )
    )
  )
set_option maxRecDepth 4000 in
theorem k_Face_message_b0_ok {E : CE} {pF : Nat → List Value → xH → Option (Option Value × xH)} (hp0 : xNPc pF) (hL : lcAll E pF) (hF : lcF pF) {d : Nat}   : ∀ (g : CG) (lv : xL) (σ : CS) (l0 : Nat) (l1 : Int32) (l2 : Int32), (cob σ 15 l0) → (xg lv 0 = some (.ref (coa E 15 l0))) → (xg lv 1 = some (.int l1)) → (xg lv 2 = some (.int l2)) → ∀ res, k_Face_message_b0  σ l0 l1 l2 = some res → cR E cQ1 pF (d + 10) kT229 15 4 (some FieldType.int) (some (.int res)) σ g σ (0, lv, []) := by
  intro g lv σ l0 l1 l2 bl0 g0 g1 g2 res h
  unfold k_Face_message_b0 at h
  refine cR_lift (fun _ _ kk => eE_aload_n lk229_0 g0 kk) ?_
  refine cR_getO (cl' := 14) (i' := 0) lk229_1 rf_15_42 rfl rfl bl0 ?_
  refine cR_lift (fun _ _ kk => eE_iload_n lk229_4 g1 kk) ?_
  obtain ⟨p1, h2, h⟩ := Option.bind_eq_some_iff.mp h
  refine cR_virt (cl := 14) (i := 0) (as := [.int l1]) lk229_5 mr_15_142 na_193 rfl rfl (by first | exact Nat.le_of_ble_eq_true rfl | (simp [xcat, cvo_cat, cat_i, cat_j, cat_r]; done)) wv_193 wc_193 (cob_0 (c := σ) (cl := 14) (by decide) rfl rfl) (k_World_hasLetter_ok hp0 hL hF (d := d + 0) (cob_0 (c := σ) (cl := 14) (by decide) rfl rfl) h2) (fun m3  => ?_)
  refine cR_if (t := 20) lk229_8 (by decide) (fun c4 => ?_) (fun c4 => ?_)
  · rw [if_pos c4] at h
    exact k_Face_message_b20_ok hp0 hL hF  g lv σ  _ h
  · rw [if_neg c4] at h
    refine cR_lift (fun _ _ kk => eE_iload_n lk229_11 g2 kk) ?_
    refine cR_if (t := 20) lk229_12 (by decide) (fun c5 => ?_) (fun c5 => ?_)
    · rw [if_pos c5] at h
      exact k_Face_message_b20_ok hp0 hL hF  g lv σ  _ h
    · rw [if_neg c5] at h
      refine cR_lift (fun _ _ kk => eE_iload_n lk229_15 g2 kk) ?_
      refine cR_lift (fun _ _ kk => eE_iconst (v := 4) lk229_16 (by decide) kk) ?_
      refine cR_icmp (t := 28) lk229_17 (by decide) (fun c6 => ?_) (fun c6 => ?_)
      · rw [if_pos c6] at h
        refine cR_lift (fun _ _ kk => eE_aload_n lk229_28 g0 kk) ?_
        refine cR_getO (cl' := 14) (i' := 0) lk229_29 rf_15_42 rfl rfl bl0 ?_
        refine cR_getA lk229_32 rf_15_248 (by decide) (cob_0 (c := σ) (cl := 14) (by decide) rfl rfl) ?_
        refine cR_lift (fun _ _ kk => eE_iload_n lk229_35 g1 kk) ?_
        obtain ⟨a8, h9, h⟩ := Option.bind_eq_some_iff.mp h
        refine cR_rep (fun _ hc => cob8 (clget_lt hc h9)) (fun b7 => ?_)
        refine cR_virtL (cl := 14) (i := 0) (f := 15) (as := [.int l1]) lk229_36 mr_15_252 na_6 rfl rfl (by first | exact Nat.le_of_ble_eq_true rfl | (simp [xcat, cvo_cat, cat_i, cat_j, cat_r]; done)) wv_6 wc_6 rfl (cob_0 (c := σ) (cl := 14) (by decide) rfl rfl) ((hL (d + 1)).2.2.1 E g _ 14 0 15 _ _ rfl (cob_0 (c := σ) (cl := 14) (by decide) rfl rfl) h9) (fun _ => ?_)
        refine cR_cast lk229_39 xk_15_258 b7 ?_
        refine cR_stA (j := 3) lk229_42 (Or.inr ⟨_, rfl, rfl⟩) (by decide) (fun vq10 gq11 kq12 => ?_)
        have gq13 := kq12 2 _ (by decide) (fun _ => rfl) g2
        refine cR_lift (fun _ _ kk => eE_iload_n lk229_43 gq13 kk) ?_
        by_cases c14 : l2 = (0 : Int32)
        · rw [if_pos c14] at h
          refine cR_tsw (t := 76) (off := 32) lk229_44 (by rw [c14]; decide) (by rw [c14]; rfl) (by decide) ?_
          refine cR_lift (fun _ _ kk => eE_aload_n lk229_76 gq11 kk) ?_
          refine cR_getI lk229_77 rf_15_260 rfl b7 ?_
          cases h
          exact cR_end lk229_80 rfl rfl rfl
        rw [if_neg c14] at h
        by_cases c15 : l2 = (1 : Int32)
        · rw [if_pos c15] at h
          refine cR_tsw (t := 81) (off := 37) lk229_44 (by rw [c15]; decide) (by rw [c15]; rfl) (by decide) ?_
          refine cR_lift (fun _ _ kk => eE_aload_n lk229_81 gq11 kk) ?_
          refine cR_getI lk229_82 rf_15_263 rfl b7 ?_
          cases h
          exact cR_end lk229_85 rfl rfl rfl
        rw [if_neg c15] at h
        by_cases c16 : l2 = (2 : Int32)
        · rw [if_pos c16] at h
          refine cR_tsw (t := 86) (off := 42) lk229_44 (by rw [c16]; decide) (by rw [c16]; rfl) (by decide) ?_
          refine cR_lift (fun _ _ kk => eE_aload_n lk229_86 gq11 kk) ?_
          refine cR_getI lk229_87 rf_15_266 rfl b7 ?_
          cases h
          exact cR_end lk229_90 rfl rfl rfl
        rw [if_neg c16] at h
        by_cases c17 : l2 = (3 : Int32)
        · rw [if_pos c17] at h
          refine cR_tsw (t := 91) (off := 47) lk229_44 (by rw [c17]; decide) (by rw [c17]; rfl) (by decide) ?_
          refine cR_lift (fun _ _ kk => eE_aload_n lk229_91 gq11 kk) ?_
          refine cR_getI lk229_92 rf_15_269 rfl b7 ?_
          cases h
          exact cR_end lk229_95 rfl rfl rfl
        rw [if_neg c17] at h
        refine cR_tswD (t := 96) lk229_44 (xsw_out (n := 4) (fun j hj => ?_)) (by decide) ?_
        · match j, hj with
          | 0, _ => exact c14
          | 1, _ => exact c15
          | 2, _ => exact c16
          | 3, _ => exact c17
          | q + 4, hj => exact absurd hj (by omega)
        refine cR_lift (fun _ _ kk => eE_aload_n lk229_96 gq11 kk) ?_
        refine cR_getI lk229_97 rf_15_272 rfl b7 ?_
        cases h
        exact cR_end lk229_100 rfl rfl rfl
      · rw [if_neg c6] at h
        exact k_Face_message_b20_ok hp0 hL hF  g lv σ  _ h
def k_Face_message (σ : CS) (l0 : Nat) (l1 : Int32) (l2 : Int32) : Option (Int32) := k_Face_message_b0 σ l0 l1 l2
theorem k_Face_message_ok {E : CE} {pF : Nat → List Value → xH → Option (Option Value × xH)} (hp0 : xNPc pF) (hL : lcAll E pF) (hF : lcF pF) {d : Nat} {g : CG} {σ : CS} {l0 : Nat} {l1 : Int32} {l2 : Int32} {res : Int32} (bl0 : cob σ 15 l0) (h : k_Face_message σ l0 l1 l2 = some res) : cCo E cQ1 pF (d + 11) 229 [.ref (coa E 15 l0), .int l1, .int l2] (some (.int res)) σ g σ :=
  cCo_R kk_229 mo_229 ni_229 xm_229 (Nat.le_of_ble_eq_true rfl) (hp0 229 (by decide) _) (k_Face_message_b0_ok hp0 hL hF g _ σ l0 l1 l2 bl0 rfl rfl rfl _ h)
/-! k_Face_noise (230), depth 1 -/
def k_Face_noise_b33  (σ : CS) : Option (CS) :=
  none
set_option maxRecDepth 4000 in
theorem k_Face_noise_b33_ok {E : CE} {pF : Nat → List Value → xH → Option (Option Value × xH)} (hp0 : xNPc pF) (hL : lcAll E pF) (hF : lcF pF) {d : Nat}   : ∀ (g : CG) (lv : xL) (σ : CS), ∀ res, k_Face_noise_b33  σ = some res → cR E cQ1 pF (d + 0) kT230 15 6 none none res g σ (33, lv, []) := by
  intro g lv σ res h
  unfold k_Face_noise_b33 at h
  cases h
def k_Face_noise_b0  (σ : CS) (l0 : Nat) (l1 : Int32) (l2 : Int32) (l3 : Int32) (l4 : Int64) : Option (CS) :=
  if xc0 .lt l1 = true then (
    k_Face_noise_b33  σ
  ) else (
    if xc2 .gt l1 ((1000 : Int32)) = true then (
      k_Face_noise_b33  σ
    ) else (
      if xc0 .lt l2 = true then (
        k_Face_noise_b33  σ
      ) else (
        if xc2 .gt l2 ((1000 : Int32)) = true then (
          k_Face_noise_b33  σ
        ) else (
          if xc0 .lt l3 = true then (
            k_Face_noise_b33  σ
          ) else (
            if xc2 .le l3 ((1000 : Int32)) = true then (
              (some (csI σ 14 0 6 0 l1)).bind fun σ7 =>
              (some (csI σ7 14 0 7 0 l2)).bind fun σ9 =>
              (some (csI σ9 14 0 8 0 l3)).bind fun σ11 =>
              (some (csJ σ11 14 0 9 0 l4)).bind fun σ13 =>
              some σ13
            ) else (
              k_Face_noise_b33  σ
            )
          )
        )
      )
    )
  )
set_option maxRecDepth 4000 in
theorem k_Face_noise_b0_ok {E : CE} {pF : Nat → List Value → xH → Option (Option Value × xH)} (hp0 : xNPc pF) (hL : lcAll E pF) (hF : lcF pF) {d : Nat}   : ∀ (g : CG) (lv : xL) (σ : CS) (l0 : Nat) (l1 : Int32) (l2 : Int32) (l3 : Int32) (l4 : Int64), (cob σ 15 l0) → (xg lv 0 = some (.ref (coa E 15 l0))) → (xg lv 1 = some (.int l1)) → (xg lv 2 = some (.int l2)) → (xg lv 3 = some (.int l3)) → (xg lv 4 = some (.long l4)) → ∀ res, k_Face_noise_b0  σ l0 l1 l2 l3 l4 = some res → cR E cQ1 pF (d + 0) kT230 15 6 none none res g σ (0, lv, []) := by
  intro g lv σ l0 l1 l2 l3 l4 bl0 g0 g1 g2 g3 g4 res h
  unfold k_Face_noise_b0 at h
  refine cR_lift (fun _ _ kk => eE_iload_n lk230_0 g1 kk) ?_
  refine cR_if (t := 33) lk230_1 (by decide) (fun c1 => ?_) (fun c1 => ?_)
  · rw [if_pos c1] at h
    exact k_Face_noise_b33_ok hp0 hL hF  g lv σ  _ h
  · rw [if_neg c1] at h
    refine cR_lift (fun _ _ kk => eE_iload_n lk230_4 g1 kk) ?_
    refine cR_lift (fun _ _ kk => eE_sipush (v := 1000) lk230_5 (by decide) kk) ?_
    refine cR_icmp (t := 33) lk230_8 (by decide) (fun c2 => ?_) (fun c2 => ?_)
    · rw [if_pos c2] at h
      exact k_Face_noise_b33_ok hp0 hL hF  g lv σ  _ h
    · rw [if_neg c2] at h
      refine cR_lift (fun _ _ kk => eE_iload_n lk230_11 g2 kk) ?_
      refine cR_if (t := 33) lk230_12 (by decide) (fun c3 => ?_) (fun c3 => ?_)
      · rw [if_pos c3] at h
        exact k_Face_noise_b33_ok hp0 hL hF  g lv σ  _ h
      · rw [if_neg c3] at h
        refine cR_lift (fun _ _ kk => eE_iload_n lk230_15 g2 kk) ?_
        refine cR_lift (fun _ _ kk => eE_sipush (v := 1000) lk230_16 (by decide) kk) ?_
        refine cR_icmp (t := 33) lk230_19 (by decide) (fun c4 => ?_) (fun c4 => ?_)
        · rw [if_pos c4] at h
          exact k_Face_noise_b33_ok hp0 hL hF  g lv σ  _ h
        · rw [if_neg c4] at h
          refine cR_lift (fun _ _ kk => eE_iload_n lk230_22 g3 kk) ?_
          refine cR_if (t := 33) lk230_23 (by decide) (fun c5 => ?_) (fun c5 => ?_)
          · rw [if_pos c5] at h
            exact k_Face_noise_b33_ok hp0 hL hF  g lv σ  _ h
          · rw [if_neg c5] at h
            refine cR_lift (fun _ _ kk => eE_iload_n lk230_26 g3 kk) ?_
            refine cR_lift (fun _ _ kk => eE_sipush (v := 1000) lk230_27 (by decide) kk) ?_
            refine cR_icmp (t := 41) lk230_30 (by decide) (fun c6 => ?_) (fun c6 => ?_)
            · rw [if_pos c6] at h
              refine cR_lift (fun _ _ kk => eE_aload_n lk230_41 g0 kk) ?_
              refine cR_getO (cl' := 14) (i' := 0) lk230_42 rf_15_42 rfl rfl bl0 ?_
              refine cR_lift (fun _ _ kk => eE_iload_n lk230_45 g1 kk) ?_
              obtain ⟨σ7, h8, h⟩ := Option.bind_eq_some_iff.mp h
              refine cR_putI lk230_46 rf_15_129 rfl (cob_0 (c := σ) (cl := 14) (by decide) rfl rfl) pf_14_6 rfl h8 ?_
              refine cR_lift (fun _ _ kk => eE_aload_n lk230_49 g0 kk) ?_
              refine cR_getO (cl' := 14) (i' := 0) lk230_50 rf_15_42 rfl rfl (cob_any rfl bl0) ?_
              refine cR_lift (fun _ _ kk => eE_iload_n lk230_53 g2 kk) ?_
              obtain ⟨σ9, h10, h⟩ := Option.bind_eq_some_iff.mp h
              refine cR_putI lk230_54 rf_15_132 rfl (cob_0 (c := σ7) (cl := 14) (by decide) rfl rfl) pf_14_7 rfl h10 ?_
              refine cR_lift (fun _ _ kk => eE_aload_n lk230_57 g0 kk) ?_
              refine cR_getO (cl' := 14) (i' := 0) lk230_58 rf_15_42 rfl rfl (cob_any rfl bl0) ?_
              refine cR_lift (fun _ _ kk => eE_iload_n lk230_61 g3 kk) ?_
              obtain ⟨σ11, h12, h⟩ := Option.bind_eq_some_iff.mp h
              refine cR_putI lk230_62 rf_15_135 rfl (cob_0 (c := σ9) (cl := 14) (by decide) rfl rfl) pf_14_8 rfl h12 ?_
              refine cR_lift (fun _ _ kk => eE_aload_n lk230_65 g0 kk) ?_
              refine cR_getO (cl' := 14) (i' := 0) lk230_66 rf_15_42 rfl rfl (cob_any rfl bl0) ?_
              refine cR_lift (fun _ _ kk => eE_lload lk230_69 g4 kk) ?_
              obtain ⟨σ13, h14, h⟩ := Option.bind_eq_some_iff.mp h
              refine cR_putJ lk230_71 rf_15_138 rfl (cob_0 (c := σ11) (cl := 14) (by decide) rfl rfl) pf_14_9 h14 ?_
              cases h
              exact cR_end lk230_74 rfl rfl rfl
            · rw [if_neg c6] at h
              exact k_Face_noise_b33_ok hp0 hL hF  g lv σ  _ h
def k_Face_noise (σ : CS) (l0 : Nat) (l1 : Int32) (l2 : Int32) (l3 : Int32) (l4 : Int64) : Option (CS) := k_Face_noise_b0 σ l0 l1 l2 l3 l4
theorem k_Face_noise_ok {E : CE} {pF : Nat → List Value → xH → Option (Option Value × xH)} (hp0 : xNPc pF) (hL : lcAll E pF) (hF : lcF pF) {d : Nat} {g : CG} {σ : CS} {l0 : Nat} {l1 : Int32} {l2 : Int32} {l3 : Int32} {l4 : Int64} {res : CS} (bl0 : cob σ 15 l0) (h : k_Face_noise σ l0 l1 l2 l3 l4 = some res) : cCo E cQ1 pF (d + 1) 230 [.ref (coa E 15 l0), .int l1, .int l2, .int l3, .long l4] none res g σ :=
  cCo_R kk_230 mo_230 ni_230 xm_230 (Nat.le_of_ble_eq_true rfl) (hp0 230 (by decide) _) (k_Face_noise_b0_ok hp0 hL hF g _ σ l0 l1 l2 l3 l4 bl0 rfl rfl rfl rfl rfl _ h)
/-! k_Face_now (231), depth 1 -/
def k_Face_now_b0  (σ : CS) (l0 : Nat) : Option (Int32) :=
  some (cI σ 14 0 0 0)
set_option maxRecDepth 4000 in
theorem k_Face_now_b0_ok {E : CE} {pF : Nat → List Value → xH → Option (Option Value × xH)} (hp0 : xNPc pF) (hL : lcAll E pF) (hF : lcF pF) {d : Nat}   : ∀ (g : CG) (lv : xL) (σ : CS) (l0 : Nat), (cob σ 15 l0) → (xg lv 0 = some (.ref (coa E 15 l0))) → ∀ res, k_Face_now_b0  σ l0 = some res → cR E cQ1 pF (d + 0) kT231 15 1 (some FieldType.int) (some (.int res)) σ g σ (0, lv, []) := by
  intro g lv σ l0 bl0 g0 res h
  unfold k_Face_now_b0 at h
  refine cR_lift (fun _ _ kk => eE_aload_n lk231_0 g0 kk) ?_
  refine cR_getO (cl' := 14) (i' := 0) lk231_1 rf_15_42 rfl rfl bl0 ?_
  refine cR_getI lk231_4 rf_15_105 rfl (cob_0 (c := σ) (cl := 14) (by decide) rfl rfl) ?_
  cases h
  exact cR_end lk231_7 rfl rfl rfl
def k_Face_now (σ : CS) (l0 : Nat) : Option (Int32) := k_Face_now_b0 σ l0
theorem k_Face_now_ok {E : CE} {pF : Nat → List Value → xH → Option (Option Value × xH)} (hp0 : xNPc pF) (hL : lcAll E pF) (hF : lcF pF) {d : Nat} {g : CG} {σ : CS} {l0 : Nat} {res : Int32} (bl0 : cob σ 15 l0) (h : k_Face_now σ l0 = some res) : cCo E cQ1 pF (d + 1) 231 [.ref (coa E 15 l0)] (some (.int res)) σ g σ :=
  cCo_R kk_231 mo_231 ni_231 xm_231 (Nat.le_of_ble_eq_true rfl) (hp0 231 (by decide) _) (k_Face_now_b0_ok hp0 hL hF g _ σ l0 bl0 rfl _ h)
/-! k_Face_part (232), depth 1 -/
def k_Face_part_b10  (σ : CS) : Option ((Int32) × CS) :=
  none
set_option maxRecDepth 4000 in
theorem k_Face_part_b10_ok {E : CE} {pF : Nat → List Value → xH → Option (Option Value × xH)} (hp0 : xNPc pF) (hL : lcAll E pF) (hF : lcF pF) {d : Nat}   : ∀ (g : CG) (lv : xL) (σ : CS), ∀ res, k_Face_part_b10  σ = some res → cR E cQ1 pF (d + 0) kT232 15 3 (some FieldType.int) (some (.int res.1)) res.2 g σ (10, lv, []) := by
  intro g lv σ res h
  unfold k_Face_part_b10 at h
  cases h
def k_Face_part_b0  (σ : CS) (l0 : Nat) (l1 : Int32) : Option ((Int32) × CS) :=
  if xc0 .lt l1 = true then (
    k_Face_part_b10  σ
  ) else (
    if xc2 .lt l1 ((65536 : Int32)) = true then (
      (some (csI σ 14 0 5 0 l1)).bind fun σ8 =>
      some (cI σ 14 0 5 0, σ8)
    ) else (
      k_Face_part_b10  σ
    )
  )
set_option maxRecDepth 4000 in
theorem k_Face_part_b0_ok {E : CE} {pF : Nat → List Value → xH → Option (Option Value × xH)} (hp0 : xNPc pF) (hL : lcAll E pF) (hF : lcF pF) {d : Nat}   : ∀ (g : CG) (lv : xL) (σ : CS) (l0 : Nat) (l1 : Int32), (cob σ 15 l0) → (xg lv 0 = some (.ref (coa E 15 l0))) → (xg lv 1 = some (.int l1)) → ∀ res, k_Face_part_b0  σ l0 l1 = some res → cR E cQ1 pF (d + 0) kT232 15 3 (some FieldType.int) (some (.int res.1)) res.2 g σ (0, lv, []) := by
  intro g lv σ l0 l1 bl0 g0 g1 res h
  unfold k_Face_part_b0 at h
  refine cR_lift (fun _ _ kk => eE_iload_n lk232_0 g1 kk) ?_
  refine cR_if (t := 10) lk232_1 (by decide) (fun c1 => ?_) (fun c1 => ?_)
  · rw [if_pos c1] at h
    exact k_Face_part_b10_ok hp0 hL hF  g lv σ  _ h
  · rw [if_neg c1] at h
    refine cR_lift (fun _ _ kk => eE_iload_n lk232_4 g1 kk) ?_
    refine cR_lift (fun _ _ kk => eE_ldc (v := 65536) lk232_5 xc_15_125 kk) ?_
    refine cR_icmp (t := 18) lk232_7 (by decide) (fun c2 => ?_) (fun c2 => ?_)
    · rw [if_pos c2] at h
      refine cR_lift (fun _ _ kk => eE_aload_n lk232_18 g0 kk) ?_
      refine cR_getO (cl' := 14) (i' := 0) lk232_19 rf_15_42 rfl rfl bl0 ?_
      refine cR_getI lk232_22 rf_15_126 rfl (cob_0 (c := σ) (cl := 14) (by decide) rfl rfl) ?_
      refine cR_stI (j := 2) lk232_25 (Or.inr ⟨_, rfl, rfl⟩) (by decide) (fun vq3 gq4 kq5 => ?_)
      have gq6 := kq5 0 _ (by decide) (fun e => absurd e (by decide)) g0
      have gq7 := kq5 1 _ (by decide) (fun _ => rfl) g1
      refine cR_lift (fun _ _ kk => eE_aload_n lk232_26 gq6 kk) ?_
      refine cR_getO (cl' := 14) (i' := 0) lk232_27 rf_15_42 rfl rfl bl0 ?_
      refine cR_lift (fun _ _ kk => eE_iload_n lk232_30 gq7 kk) ?_
      obtain ⟨σ8, h9, h⟩ := Option.bind_eq_some_iff.mp h
      refine cR_putI lk232_31 rf_15_126 rfl (cob_0 (c := σ) (cl := 14) (by decide) rfl rfl) pf_14_5 rfl h9 ?_
      refine cR_lift (fun _ _ kk => eE_iload_n lk232_34 gq4 kk) ?_
      cases h
      exact cR_end lk232_35 rfl rfl rfl
    · rw [if_neg c2] at h
      exact k_Face_part_b10_ok hp0 hL hF  g lv σ  _ h
def k_Face_part (σ : CS) (l0 : Nat) (l1 : Int32) : Option ((Int32) × CS) := k_Face_part_b0 σ l0 l1
theorem k_Face_part_ok {E : CE} {pF : Nat → List Value → xH → Option (Option Value × xH)} (hp0 : xNPc pF) (hL : lcAll E pF) (hF : lcF pF) {d : Nat} {g : CG} {σ : CS} {l0 : Nat} {l1 : Int32} {res : (Int32) × CS} (bl0 : cob σ 15 l0) (h : k_Face_part σ l0 l1 = some res) : cCo E cQ1 pF (d + 1) 232 [.ref (coa E 15 l0), .int l1] (some (.int res.1)) res.2 g σ :=
  cCo_R kk_232 mo_232 ni_232 xm_232 (Nat.le_of_ble_eq_true rfl) (hp0 232 (by decide) _) (k_Face_part_b0_ok hp0 hL hF g _ σ l0 l1 bl0 rfl rfl _ h)
/-! k_Face_run (234), depth 17 -/
def k_Face_run_b12 (F : Nat)  (σ : CS) : Option ((Int32) × CS) :=
  none
set_option maxRecDepth 4000 in
theorem k_Face_run_b12_ok {E : CE} {pF : Nat → List Value → xH → Option (Option Value × xH)} (hp0 : xNPc pF) (hL : lcAll E pF) (hF : lcF pF) {d : Nat} {F : Nat}   : ∀ (g : CG) (lv : xL) (σ : CS), ∀ res, k_Face_run_b12 F  σ = some res → cR E (cQx [10, 11, 13, 14]) pF (d + 16) kT234 15 4 (some FieldType.int) (some (.int res.1)) res.2 g σ (12, lv, []) := by
  intro g lv σ res h
  unfold k_Face_run_b12 at h
  cases h
def k_Face_run_b53 (F : Nat)  (σ : CS) (l0 : Nat) (l2 : Int32) (l3 : Int32) : Option ((Int32) × CS) :=
  (some (csI σ 14 0 0 0 l2)).bind fun σ1 =>
  some (l3, σ1)
set_option maxRecDepth 4000 in
theorem k_Face_run_b53_ok {E : CE} {pF : Nat → List Value → xH → Option (Option Value × xH)} (hp0 : xNPc pF) (hL : lcAll E pF) (hF : lcF pF) {d : Nat} {F : Nat}   : ∀ (g : CG) (lv : xL) (σ : CS) (l0 : Nat) (l2 : Int32) (l3 : Int32), (cob σ 15 l0) → (xg lv 0 = some (.ref (coa E 15 l0))) → (xg lv 2 = some (.int l2)) → (xg lv 3 = some (.int l3)) → ∀ res, k_Face_run_b53 F  σ l0 l2 l3 = some res → cR E (cQx [10, 11, 13, 14]) pF (d + 16) kT234 15 4 (some FieldType.int) (some (.int res.1)) res.2 g σ (53, lv, []) := by
  intro g lv σ l0 l2 l3 bl0 g0 g2 g3 res h
  unfold k_Face_run_b53 at h
  refine cR_lift (fun _ _ kk => eE_aload_n lk234_53 g0 kk) ?_
  refine cR_getO (cl' := 14) (i' := 0) lk234_54 rf_15_42 rfl rfl bl0 ?_
  refine cR_lift (fun _ _ kk => eE_iload_n lk234_57 g2 kk) ?_
  obtain ⟨σ1, h2, h⟩ := Option.bind_eq_some_iff.mp h
  refine cR_putI lk234_58 rf_15_105 rfl (cob_0 (c := σ) (cl := 14) (by decide) rfl rfl) pf_14_0 rfl h2 ?_
  refine cR_lift (fun _ _ kk => eE_iload_n lk234_61 g3 kk) ?_
  cases h
  exact cR_end lk234_62 rfl rfl rfl
def k_Face_run_b32 (F : Nat)  : Nat → CS → Nat → Int32 → Int32 → Option ((Int32) × CS)
  | 0, _, _, _, _ => none
  | n + 1, σ, l0, l2, l3 =>
    let KK := k_Face_run_b32 F  n
    if xc2 .ge l3 ((1000000 : Int32)) = true then (
      k_Face_run_b53 F  σ l0 l2 l3
    ) else (
      (k_Face_happen F σ l0 l2).bind fun p4 =>
      if xc2 .eq p4.1 ((-1 : Int32)) = true then (
        k_Face_run_b53 F  p4.2 l0 l2 l3
      ) else (
        KK p4.2 l0 l2 (l3 + (1 : Int32))
      )
    )
set_option maxRecDepth 4000 in
theorem k_Face_run_b32_ok {E : CE} {pF : Nat → List Value → xH → Option (Option Value × xH)} (hp0 : xNPc pF) (hL : lcAll E pF) (hF : lcF pF) {d : Nat} {F : Nat}   : ∀ (n : Nat) (g : CG) (lv : xL) (σ : CS) (l0 : Nat) (l2 : Int32) (l3 : Int32), (cob σ 15 l0) → (xg lv 0 = some (.ref (coa E 15 l0))) → (xg lv 2 = some (.int l2)) → (xg lv 3 = some (.int l3)) → ∀ res, k_Face_run_b32 F  n σ l0 l2 l3 = some res → cR E (cQx [10, 11, 13, 14]) pF (d + 16) kT234 15 4 (some FieldType.int) (some (.int res.1)) res.2 g σ (32, lv, []) := by
  intro n
  induction n with
  | zero => intro g lv σ l0 l2 l3 bl0 g0 g2 g3 res h; simp [k_Face_run_b32] at h
  | succ n hKK =>
    intro g lv σ l0 l2 l3 bl0 g0 g2 g3 res h
    unfold k_Face_run_b32 at h
    dsimp only at h
    refine cR_lift (fun _ _ kk => eE_iload_n lk234_32 g3 kk) ?_
    refine cR_lift (fun _ _ kk => eE_ldc (v := 1000000) lk234_33 xc_15_108 kk) ?_
    refine cR_icmp (t := 53) lk234_35 (by decide) (fun c3 => ?_) (fun c3 => ?_)
    · rw [if_pos c3] at h
      exact k_Face_run_b53_ok hp0 hL hF  g lv σ l0 l2 l3 bl0 g0 g2 g3 _ h
    · rw [if_neg c3] at h
      refine cR_lift (fun _ _ kk => eE_aload_n lk234_38 g0 kk) ?_
      refine cR_lift (fun _ _ kk => eE_iload_n lk234_39 g2 kk) ?_
      obtain ⟨p4, h5, h⟩ := Option.bind_eq_some_iff.mp h
      refine cR_virtG (by exact cQx_sub rfl) (cl := 15) (i := l0) (as := [.int l2]) lk234_40 mr_15_109 na_217 rfl rfl (by first | exact Nat.le_of_ble_eq_true rfl | (simp [xcat, cvo_cat, cat_i, cat_j, cat_r]; done)) wv_217 wc_217 bl0 (k_Face_happen_ok hp0 hL hF (d := d + 0) bl0 h5) (fun m6 g_7 g_7e => ?_)
      refine cR_lift (fun _ _ kk => eE_iconst (v := (-1)) lk234_43 (by decide) kk) ?_
      refine cR_icmp (t := 53) lk234_44 (by decide) (fun c8 => ?_) (fun c8 => ?_)
      · rw [if_pos c8] at h
        exact k_Face_run_b53_ok hp0 hL hF  g_7 lv p4.2 l0 l2 l3 (cob_any rfl bl0) g0 g2 g3 _ h
      · rw [if_neg c8] at h
        refine cR_inc (j := 3) (v := l3 + (1 : Int32)) lk234_47 g3 rfl (by decide) (fun vq9 gq10 kq11 => ?_)
        have gq12 := kq11 0 _ (by decide) (fun e => absurd e (by decide)) g0
        have gq13 := kq11 2 _ (by decide) (fun _ => rfl) g2
        refine cR_lift (fun _ _ kk => eE_goto (t := 32) lk234_50 (by decide) kk) ?_
        exact hKK g_7 vq9 p4.2 l0 l2 (l3 + (1 : Int32)) (cob_any rfl bl0) gq12 gq13 gq10 _ h
def k_Face_run_b0 (F : Nat)  (σ : CS) (l0 : Nat) (l1 : Int32) : Option ((Int32) × CS) :=
  if xc2 .lt l1 ((1 : Int32)) = true then (
    k_Face_run_b12 F  σ
  ) else (
    if xc2 .le l1 ((1000 : Int32)) = true then (
      k_Face_run_b32 F  F σ l0 ((cI σ 14 0 0 0) + l1) ((0 : Int32))
    ) else (
      k_Face_run_b12 F  σ
    )
  )
set_option maxRecDepth 4000 in
theorem k_Face_run_b0_ok {E : CE} {pF : Nat → List Value → xH → Option (Option Value × xH)} (hp0 : xNPc pF) (hL : lcAll E pF) (hF : lcF pF) {d : Nat} {F : Nat}   : ∀ (g : CG) (lv : xL) (σ : CS) (l0 : Nat) (l1 : Int32), (cob σ 15 l0) → (xg lv 0 = some (.ref (coa E 15 l0))) → (xg lv 1 = some (.int l1)) → ∀ res, k_Face_run_b0 F  σ l0 l1 = some res → cR E (cQx [10, 11, 13, 14]) pF (d + 16) kT234 15 4 (some FieldType.int) (some (.int res.1)) res.2 g σ (0, lv, []) := by
  intro g lv σ l0 l1 bl0 g0 g1 res h
  unfold k_Face_run_b0 at h
  refine cR_lift (fun _ _ kk => eE_iload_n lk234_0 g1 kk) ?_
  refine cR_lift (fun _ _ kk => eE_iconst (v := 1) lk234_1 (by decide) kk) ?_
  refine cR_icmp (t := 12) lk234_2 (by decide) (fun c14 => ?_) (fun c14 => ?_)
  · rw [if_pos c14] at h
    exact k_Face_run_b12_ok hp0 hL hF  g lv σ  _ h
  · rw [if_neg c14] at h
    refine cR_lift (fun _ _ kk => eE_iload_n lk234_5 g1 kk) ?_
    refine cR_lift (fun _ _ kk => eE_sipush (v := 1000) lk234_6 (by decide) kk) ?_
    refine cR_icmp (t := 20) lk234_9 (by decide) (fun c15 => ?_) (fun c15 => ?_)
    · rw [if_pos c15] at h
      refine cR_lift (fun _ _ kk => eE_aload_n lk234_20 g0 kk) ?_
      refine cR_getO (cl' := 14) (i' := 0) lk234_21 rf_15_42 rfl rfl bl0 ?_
      refine cR_getI lk234_24 rf_15_105 rfl (cob_0 (c := σ) (cl := 14) (by decide) rfl rfl) ?_
      refine cR_lift (fun _ _ kk => eE_iload_n lk234_27 g1 kk) ?_
      refine cR_lift (fun _ _ kk => eE_iadd lk234_28 kk) ?_
      refine cR_stI (j := 2) lk234_29 (Or.inr ⟨_, rfl, rfl⟩) (by decide) (fun vq16 gq17 kq18 => ?_)
      have gq19 := kq18 0 _ (by decide) (fun e => absurd e (by decide)) g0
      refine cR_lift (fun _ _ kk => eE_iconst (v := 0) lk234_30 (by decide) kk) ?_
      refine cR_stI (j := 3) lk234_31 (Or.inr ⟨_, rfl, rfl⟩) (by decide) (fun vq20 gq21 kq22 => ?_)
      have gq23 := kq22 0 _ (by decide) (fun e => absurd e (by decide)) gq19
      have gq24 := kq22 2 _ (by decide) (fun _ => rfl) gq17
      exact k_Face_run_b32_ok hp0 hL hF  F g vq20 σ l0 ((cI σ 14 0 0 0) + l1) ((0 : Int32)) bl0 gq23 gq24 gq21 _ h
    · rw [if_neg c15] at h
      exact k_Face_run_b12_ok hp0 hL hF  g lv σ  _ h
def k_Face_run (F : Nat) (σ : CS) (l0 : Nat) (l1 : Int32) : Option ((Int32) × CS) := k_Face_run_b0 F σ l0 l1
theorem k_Face_run_ok {E : CE} {pF : Nat → List Value → xH → Option (Option Value × xH)} (hp0 : xNPc pF) (hL : lcAll E pF) (hF : lcF pF) {d : Nat} {g : CG} {σ : CS} {F : Nat} {l0 : Nat} {l1 : Int32} {res : (Int32) × CS} (bl0 : cob σ 15 l0) (h : k_Face_run F σ l0 l1 = some res) : cCo E (cQx [10, 11, 13, 14]) pF (d + 17) 234 [.ref (coa E 15 l0), .int l1] (some (.int res.1)) res.2 g σ :=
  cCo_R kk_234 mo_234 ni_234 xm_234 (Nat.le_of_ble_eq_true rfl) (hp0 234 (by decide) _) (k_Face_run_b0_ok hp0 hL hF g _ σ l0 l1 bl0 rfl rfl _ h)
/-! k_Face_server (235), depth 11 -/
def k_Face_server_b16  (σ : CS) : Option (Int32) :=
  none
set_option maxRecDepth 4000 in
theorem k_Face_server_b16_ok {E : CE} {pF : Nat → List Value → xH → Option (Option Value × xH)} (hp0 : xNPc pF) (hL : lcAll E pF) (hF : lcF pF) {d : Nat}   : ∀ (g : CG) (lv : xL) (σ : CS), ∀ res, k_Face_server_b16  σ = some res → cR E cQ1 pF (d + 10) kT235 15 4 (some FieldType.int) (some (.int res)) σ g σ (16, lv, []) := by
  intro g lv σ res h
  unfold k_Face_server_b16 at h
  cases h
def k_Face_server_b40  (σ : CS) (s0 : Int32) : Option (Int32) :=
  some s0
set_option maxRecDepth 4000 in
theorem k_Face_server_b40_ok {E : CE} {pF : Nat → List Value → xH → Option (Option Value × xH)} (hp0 : xNPc pF) (hL : lcAll E pF) (hF : lcF pF) {d : Nat}   : ∀ (g : CG) (lv : xL) (σ : CS) (s0 : Int32), ∀ res, k_Face_server_b40  σ s0 = some res → cR E cQ1 pF (d + 10) kT235 15 4 (some FieldType.int) (some (.int res)) σ g σ (40, lv, [.int s0]) := by
  intro g lv σ s0 res h
  unfold k_Face_server_b40 at h
  cases h
  exact cR_end lk235_40 rfl rfl rfl
def k_Face_server_b57  (σ : CS) (s0 : Int32) : Option (Int32) :=
  some s0
set_option maxRecDepth 4000 in
theorem k_Face_server_b57_ok {E : CE} {pF : Nat → List Value → xH → Option (Option Value × xH)} (hp0 : xNPc pF) (hL : lcAll E pF) (hF : lcF pF) {d : Nat}   : ∀ (g : CG) (lv : xL) (σ : CS) (s0 : Int32), ∀ res, k_Face_server_b57  σ s0 = some res → cR E cQ1 pF (d + 10) kT235 15 4 (some FieldType.int) (some (.int res)) σ g σ (57, lv, [.int s0]) := by
  intro g lv σ s0 res h
  unfold k_Face_server_b57 at h
  cases h
  exact cR_end lk235_57 rfl rfl rfl
def k_Face_server_b0  (σ : CS) (l0 : Nat) (l1 : Int32) (l2 : Int32) : Option (Int32) :=
  (k_Face_host σ l0 l1).bind fun p1 =>
  if xc0 .lt l2 = true then (
    k_Face_server_b16  σ
  ) else (
    if xc2 .le l2 ((20 : Int32)) = true then (
      if xc0 .ne l2 = true then (
        if xc0 .eq (cI σ 13 p1 8 0) = true then (
          k_Face_server_b57  σ ((-1 : Int32))
        ) else (
          (k_Server_tell σ p1 l2).bind fun p13 =>
          k_Face_server_b57  σ p13
        )
      ) else (
        if xc0 .eq (cI σ 13 p1 8 0) = true then (
          k_Face_server_b40  σ ((0 : Int32))
        ) else (
          k_Face_server_b40  σ ((1 : Int32))
        )
      )
    ) else (
      k_Face_server_b16  σ
    )
  )
set_option maxRecDepth 4000 in
theorem k_Face_server_b0_ok {E : CE} {pF : Nat → List Value → xH → Option (Option Value × xH)} (hp0 : xNPc pF) (hL : lcAll E pF) (hF : lcF pF) {d : Nat}   : ∀ (g : CG) (lv : xL) (σ : CS) (l0 : Nat) (l1 : Int32) (l2 : Int32), (cob σ 15 l0) → (xg lv 0 = some (.ref (coa E 15 l0))) → (xg lv 1 = some (.int l1)) → (xg lv 2 = some (.int l2)) → ∀ res, k_Face_server_b0  σ l0 l1 l2 = some res → cR E cQ1 pF (d + 10) kT235 15 4 (some FieldType.int) (some (.int res)) σ g σ (0, lv, []) := by
  intro g lv σ l0 l1 l2 bl0 g0 g1 g2 res h
  unfold k_Face_server_b0 at h
  refine cR_lift (fun _ _ kk => eE_aload_n lk235_0 g0 kk) ?_
  refine cR_lift (fun _ _ kk => eE_iload_n lk235_1 g1 kk) ?_
  obtain ⟨p1, h2, h⟩ := Option.bind_eq_some_iff.mp h
  refine cR_rep (fun _ hc => k_Face_host_lt hc bl0 h2) (fun b3 => ?_)
  refine cR_virt (cl := 15) (i := l0) (as := [.int l1]) lk235_2 mr_15_155 na_219 rfl rfl (by first | exact Nat.le_of_ble_eq_true rfl | (simp [xcat, cvo_cat, cat_i, cat_j, cat_r]; done)) wv_219 wc_219 bl0 (k_Face_host_ok hp0 hL hF (d := d + 9) bl0 h2) (fun m4  => ?_)
  refine cR_stA (j := 3) lk235_5 (Or.inr ⟨_, rfl, rfl⟩) (by decide) (fun vq5 gq6 kq7 => ?_)
  have gq8 := kq7 2 _ (by decide) (fun _ => rfl) g2
  refine cR_lift (fun _ _ kk => eE_iload_n lk235_6 gq8 kk) ?_
  refine cR_if (t := 16) lk235_7 (by decide) (fun c9 => ?_) (fun c9 => ?_)
  · rw [if_pos c9] at h
    exact k_Face_server_b16_ok hp0 hL hF  g vq5 σ  _ h
  · rw [if_neg c9] at h
    refine cR_lift (fun _ _ kk => eE_iload_n lk235_10 gq8 kk) ?_
    refine cR_lift (fun _ _ kk => eE_bipush (v := 20) lk235_11 (by decide) kk) ?_
    refine cR_icmp (t := 24) lk235_13 (by decide) (fun c10 => ?_) (fun c10 => ?_)
    · rw [if_pos c10] at h
      refine cR_lift (fun _ _ kk => eE_iload_n lk235_24 gq8 kk) ?_
      refine cR_if (t := 41) lk235_25 (by decide) (fun c11 => ?_) (fun c11 => ?_)
      · rw [if_pos c11] at h
        refine cR_lift (fun _ _ kk => eE_aload_n lk235_41 gq6 kk) ?_
        refine cR_getI lk235_42 rf_15_165 rfl b3 ?_
        refine cR_if (t := 56) lk235_45 (by decide) (fun c12 => ?_) (fun c12 => ?_)
        · rw [if_pos c12] at h
          refine cR_lift (fun _ _ kk => eE_iconst (v := (-1)) lk235_56 (by decide) kk) ?_
          exact k_Face_server_b57_ok hp0 hL hF  g vq5 σ ((-1 : Int32))  _ h
        · rw [if_neg c12] at h
          refine cR_lift (fun _ _ kk => eE_aload_n lk235_48 gq6 kk) ?_
          refine cR_lift (fun _ _ kk => eE_iload_n lk235_49 gq8 kk) ?_
          obtain ⟨p13, h14, h⟩ := Option.bind_eq_some_iff.mp h
          refine cR_virt (cl := 13) (i := p1) (as := [.int l2]) lk235_50 mr_15_206 na_181 rfl rfl (by first | exact Nat.le_of_ble_eq_true rfl | (simp [xcat, cvo_cat, cat_i, cat_j, cat_r]; done)) wv_181 wc_181 b3 (k_Server_tell_ok hp0 hL hF (d := d + 0) b3 h14) (fun m15  => ?_)
          refine cR_lift (fun _ _ kk => eE_goto (t := 57) lk235_53 (by decide) kk) ?_
          exact k_Face_server_b57_ok hp0 hL hF  g vq5 σ p13  _ h
      · rw [if_neg c11] at h
        refine cR_lift (fun _ _ kk => eE_aload_n lk235_28 gq6 kk) ?_
        refine cR_getI lk235_29 rf_15_165 rfl b3 ?_
        refine cR_if (t := 39) lk235_32 (by decide) (fun c16 => ?_) (fun c16 => ?_)
        · rw [if_pos c16] at h
          refine cR_lift (fun _ _ kk => eE_iconst (v := 0) lk235_39 (by decide) kk) ?_
          exact k_Face_server_b40_ok hp0 hL hF  g vq5 σ ((0 : Int32))  _ h
        · rw [if_neg c16] at h
          refine cR_lift (fun _ _ kk => eE_iconst (v := 1) lk235_35 (by decide) kk) ?_
          refine cR_lift (fun _ _ kk => eE_goto (t := 40) lk235_36 (by decide) kk) ?_
          exact k_Face_server_b40_ok hp0 hL hF  g vq5 σ ((1 : Int32))  _ h
    · rw [if_neg c10] at h
      exact k_Face_server_b16_ok hp0 hL hF  g vq5 σ  _ h
def k_Face_server (σ : CS) (l0 : Nat) (l1 : Int32) (l2 : Int32) : Option (Int32) := k_Face_server_b0 σ l0 l1 l2
theorem k_Face_server_ok {E : CE} {pF : Nat → List Value → xH → Option (Option Value × xH)} (hp0 : xNPc pF) (hL : lcAll E pF) (hF : lcF pF) {d : Nat} {g : CG} {σ : CS} {l0 : Nat} {l1 : Int32} {l2 : Int32} {res : Int32} (bl0 : cob σ 15 l0) (h : k_Face_server σ l0 l1 l2 = some res) : cCo E cQ1 pF (d + 11) 235 [.ref (coa E 15 l0), .int l1, .int l2] (some (.int res)) σ g σ :=
  cCo_R kk_235 mo_235 ni_235 xm_235 (Nat.le_of_ble_eq_true rfl) (hp0 235 (by decide) _) (k_Face_server_b0_ok hp0 hL hF g _ σ l0 l1 l2 bl0 rfl rfl rfl _ h)
/-! k_Face_start (236), depth 12 -/
def k_Face_start_b28 (F : Nat)  (σ : CS) (s0 : Int32) : Option ((Int32) × CS) :=
  if s0 = 0 ∨ s0 = 1 then some (s0, σ) else none
set_option maxRecDepth 4000 in
theorem k_Face_start_b28_ok {E : CE} {pF : Nat → List Value → xH → Option (Option Value × xH)} (hp0 : xNPc pF) (hL : lcAll E pF) (hF : lcF pF) {d : Nat} {F : Nat}   : ∀ (g : CG) (lv : xL) (σ : CS) (s0 : Int32), ∀ res, k_Face_start_b28 F  σ s0 = some res → cR E (cQx [11]) pF (d + 11) kT236 15 4 (some FieldType.boolean) (some (.int res.1)) res.2 g σ (28, lv, [.int s0]) := by
  intro g lv σ s0 res h
  unfold k_Face_start_b28 at h
  by_cases z1 : s0 = 0 ∨ s0 = 1
  · rw [if_pos z1] at h; cases h
    exact cR_end lk236_28 rfl rfl (by first | (simp only [xfin, if_true, if_pos z1]; done) | simp [xfin, z1])
  · rw [if_neg z1] at h; cases h
def k_Face_start_b19 (F : Nat)  (σ : CS) (l3 : Int32) : Option ((Int32) × CS) :=
  if xc0 .ne l3 = true then (
    k_Face_start_b28 F  σ ((0 : Int32))
  ) else (
    k_Face_start_b28 F  σ ((1 : Int32))
  )
set_option maxRecDepth 4000 in
theorem k_Face_start_b19_ok {E : CE} {pF : Nat → List Value → xH → Option (Option Value × xH)} (hp0 : xNPc pF) (hL : lcAll E pF) (hF : lcF pF) {d : Nat} {F : Nat}   : ∀ (g : CG) (lv : xL) (σ : CS) (l3 : Int32), (xg lv 3 = some (.int l3)) → ∀ res, k_Face_start_b19 F  σ l3 = some res → cR E (cQx [11]) pF (d + 11) kT236 15 4 (some FieldType.boolean) (some (.int res.1)) res.2 g σ (19, lv, []) := by
  intro g lv σ l3 g3 res h
  unfold k_Face_start_b19 at h
  refine cR_lift (fun _ _ kk => eE_iload_n lk236_19 g3 kk) ?_
  refine cR_if (t := 27) lk236_20 (by decide) (fun c2 => ?_) (fun c2 => ?_)
  · rw [if_pos c2] at h
    refine cR_lift (fun _ _ kk => eE_iconst (v := 0) lk236_27 (by decide) kk) ?_
    exact k_Face_start_b28_ok hp0 hL hF  g lv σ ((0 : Int32))  _ h
  · rw [if_neg c2] at h
    refine cR_lift (fun _ _ kk => eE_iconst (v := 1) lk236_23 (by decide) kk) ?_
    refine cR_lift (fun _ _ kk => eE_goto (t := 28) lk236_24 (by decide) kk) ?_
    exact k_Face_start_b28_ok hp0 hL hF  g lv σ ((1 : Int32))  _ h
def k_Face_start_b0 (F : Nat)  (σ : CS) (l0 : Nat) (l1 : Int32) : Option ((Int32) × CS) :=
  (k_Face_host σ l0 l1).bind fun p3 =>
  if xc0 .ne (cI σ 13 p3 8 0) = true then (
    k_Face_start_b19 F  σ (cI σ 13 p3 8 0)
  ) else (
    (k_Server_comeUp F σ p3).bind fun p15 =>
    k_Face_start_b19 F  p15 (cI σ 13 p3 8 0)
  )
set_option maxRecDepth 4000 in
theorem k_Face_start_b0_ok {E : CE} {pF : Nat → List Value → xH → Option (Option Value × xH)} (hp0 : xNPc pF) (hL : lcAll E pF) (hF : lcF pF) {d : Nat} {F : Nat}   : ∀ (g : CG) (lv : xL) (σ : CS) (l0 : Nat) (l1 : Int32), (cob σ 15 l0) → (xg lv 0 = some (.ref (coa E 15 l0))) → (xg lv 1 = some (.int l1)) → ∀ res, k_Face_start_b0 F  σ l0 l1 = some res → cR E (cQx [11]) pF (d + 11) kT236 15 4 (some FieldType.boolean) (some (.int res.1)) res.2 g σ (0, lv, []) := by
  intro g lv σ l0 l1 bl0 g0 g1 res h
  unfold k_Face_start_b0 at h
  refine cR_lift (fun _ _ kk => eE_aload_n lk236_0 g0 kk) ?_
  refine cR_lift (fun _ _ kk => eE_iload_n lk236_1 g1 kk) ?_
  obtain ⟨p3, h4, h⟩ := Option.bind_eq_some_iff.mp h
  refine cR_rep (fun _ hc => k_Face_host_lt hc bl0 h4) (fun b5 => ?_)
  refine cR_virt (cl := 15) (i := l0) (as := [.int l1]) lk236_2 mr_15_155 na_219 rfl rfl (by first | exact Nat.le_of_ble_eq_true rfl | (simp [xcat, cvo_cat, cat_i, cat_j, cat_r]; done)) wv_219 wc_219 bl0 (k_Face_host_ok hp0 hL hF (d := d + 10) bl0 h4) (fun m6  => ?_)
  refine cR_stA (j := 2) lk236_5 (Or.inr ⟨_, rfl, rfl⟩) (by decide) (fun vq7 gq8 kq9 => ?_)
  refine cR_lift (fun _ _ kk => eE_aload_n lk236_6 gq8 kk) ?_
  refine cR_getI lk236_7 rf_15_165 rfl b5 ?_
  refine cR_stI (j := 3) lk236_10 (Or.inr ⟨_, rfl, rfl⟩) (by decide) (fun vq10 gq11 kq12 => ?_)
  have gq13 := kq12 2 _ (by decide) (fun _ => rfl) gq8
  refine cR_lift (fun _ _ kk => eE_iload_n lk236_11 gq11 kk) ?_
  refine cR_if (t := 19) lk236_12 (by decide) (fun c14 => ?_) (fun c14 => ?_)
  · rw [if_pos c14] at h
    exact k_Face_start_b19_ok hp0 hL hF  g vq10 σ (cI σ 13 p3 8 0) gq11 _ h
  · rw [if_neg c14] at h
    refine cR_lift (fun _ _ kk => eE_aload_n lk236_15 gq13 kk) ?_
    obtain ⟨p15, h16, h⟩ := Option.bind_eq_some_iff.mp h
    refine cR_virtG (by exact cQx_sub rfl) (cl := 13) (i := p3) (as := []) lk236_16 mr_15_174 na_129 rfl rfl (by first | exact Nat.le_of_ble_eq_true rfl | (simp [xcat, cvo_cat, cat_i, cat_j, cat_r]; done)) wv_129 wc_129 b5 (k_Server_comeUp_ok hp0 hL hF (d := d + 0) b5 h16) (fun m17 g_18 g_18e => ?_)
    exact k_Face_start_b19_ok hp0 hL hF  g_18 vq10 p15 (cI σ 13 p3 8 0) gq11 _ h
def k_Face_start (F : Nat) (σ : CS) (l0 : Nat) (l1 : Int32) : Option ((Int32) × CS) := k_Face_start_b0 F σ l0 l1
theorem k_Face_start_ok {E : CE} {pF : Nat → List Value → xH → Option (Option Value × xH)} (hp0 : xNPc pF) (hL : lcAll E pF) (hF : lcF pF) {d : Nat} {g : CG} {σ : CS} {F : Nat} {l0 : Nat} {l1 : Int32} {res : (Int32) × CS} (bl0 : cob σ 15 l0) (h : k_Face_start F σ l0 l1 = some res) : cCo E (cQx [11]) pF (d + 12) 236 [.ref (coa E 15 l0), .int l1] (some (.int res.1)) res.2 g σ :=
  cCo_R kk_236 mo_236 ni_236 xm_236 (Nat.le_of_ble_eq_true rfl) (hp0 236 (by decide) _) (k_Face_start_b0_ok hp0 hL hF g _ σ l0 l1 bl0 rfl rfl _ h)
/-! k_Face_step (237), depth 17 -/
def k_Face_step_b0 (F : Nat)  (σ : CS) (l0 : Nat) : Option ((Int32) × CS) :=
  (k_Face_happen F σ l0 ((2147483647 : Int32))).bind fun p1 =>
  some (p1.1, p1.2)
set_option maxRecDepth 4000 in
theorem k_Face_step_b0_ok {E : CE} {pF : Nat → List Value → xH → Option (Option Value × xH)} (hp0 : xNPc pF) (hL : lcAll E pF) (hF : lcF pF) {d : Nat} {F : Nat}   : ∀ (g : CG) (lv : xL) (σ : CS) (l0 : Nat), (cob σ 15 l0) → (xg lv 0 = some (.ref (coa E 15 l0))) → ∀ res, k_Face_step_b0 F  σ l0 = some res → cR E (cQx [10, 11, 13, 14]) pF (d + 16) kT237 15 1 (some FieldType.int) (some (.int res.1)) res.2 g σ (0, lv, []) := by
  intro g lv σ l0 bl0 g0 res h
  unfold k_Face_step_b0 at h
  refine cR_lift (fun _ _ kk => eE_aload_n lk237_0 g0 kk) ?_
  refine cR_lift (fun _ _ kk => eE_ldc (v := 2147483647) lk237_1 xc_15_113 kk) ?_
  obtain ⟨p1, h2, h⟩ := Option.bind_eq_some_iff.mp h
  refine cR_virtG (by exact cQx_sub rfl) (cl := 15) (i := l0) (as := [.int ((2147483647 : Int32))]) lk237_3 mr_15_109 na_217 rfl rfl (by first | exact Nat.le_of_ble_eq_true rfl | (simp [xcat, cvo_cat, cat_i, cat_j, cat_r]; done)) wv_217 wc_217 bl0 (k_Face_happen_ok hp0 hL hF (d := d + 0) bl0 h2) (fun m3 g_4 g_4e => ?_)
  cases h
  exact cR_end lk237_6 rfl rfl rfl
def k_Face_step (F : Nat) (σ : CS) (l0 : Nat) : Option ((Int32) × CS) := k_Face_step_b0 F σ l0
theorem k_Face_step_ok {E : CE} {pF : Nat → List Value → xH → Option (Option Value × xH)} (hp0 : xNPc pF) (hL : lcAll E pF) (hF : lcF pF) {d : Nat} {g : CG} {σ : CS} {F : Nat} {l0 : Nat} {res : (Int32) × CS} (bl0 : cob σ 15 l0) (h : k_Face_step F σ l0 = some res) : cCo E (cQx [10, 11, 13, 14]) pF (d + 17) 237 [.ref (coa E 15 l0)] (some (.int res.1)) res.2 g σ :=
  cCo_R kk_237 mo_237 ni_237 xm_237 (Nat.le_of_ble_eq_true rfl) (hp0 237 (by decide) _) (k_Face_step_b0_ok hp0 hL hF g _ σ l0 bl0 rfl _ h)
/-! k_Face_stop (238), depth 14 -/
def k_Face_stop_b19 (F : Nat)  (σ : CS) (l3 : Int32) : Option ((Int32) × CS) :=
  if l3 = 0 ∨ l3 = 1 then some (l3, σ) else none
set_option maxRecDepth 4000 in
theorem k_Face_stop_b19_ok {E : CE} {pF : Nat → List Value → xH → Option (Option Value × xH)} (hp0 : xNPc pF) (hL : lcAll E pF) (hF : lcF pF) {d : Nat} {F : Nat}   : ∀ (g : CG) (lv : xL) (σ : CS) (l3 : Int32), (xg lv 3 = some (.int l3)) → ∀ res, k_Face_stop_b19 F  σ l3 = some res → cR E (cQx [11, 14]) pF (d + 13) kT238 15 4 (some FieldType.boolean) (some (.int res.1)) res.2 g σ (19, lv, []) := by
  intro g lv σ l3 g3 res h
  unfold k_Face_stop_b19 at h
  refine cR_lift (fun _ _ kk => eE_iload_n lk238_19 g3 kk) ?_
  by_cases z1 : l3 = 0 ∨ l3 = 1
  · rw [if_pos z1] at h; cases h
    exact cR_end lk238_20 rfl rfl (by first | (simp only [xfin, if_true, if_pos z1]; done) | simp [xfin, z1])
  · rw [if_neg z1] at h; cases h
def k_Face_stop_b0 (F : Nat)  (σ : CS) (l0 : Nat) (l1 : Int32) : Option ((Int32) × CS) :=
  (k_Face_host σ l0 l1).bind fun p2 =>
  if xc0 .eq (cI σ 13 p2 8 0) = true then (
    k_Face_stop_b19 F  σ (cI σ 13 p2 8 0)
  ) else (
    (k_Server_goDown F σ p2).bind fun p14 =>
    k_Face_stop_b19 F  p14 (cI σ 13 p2 8 0)
  )
set_option maxRecDepth 4000 in
theorem k_Face_stop_b0_ok {E : CE} {pF : Nat → List Value → xH → Option (Option Value × xH)} (hp0 : xNPc pF) (hL : lcAll E pF) (hF : lcF pF) {d : Nat} {F : Nat}   : ∀ (g : CG) (lv : xL) (σ : CS) (l0 : Nat) (l1 : Int32), (cob σ 15 l0) → (xg lv 0 = some (.ref (coa E 15 l0))) → (xg lv 1 = some (.int l1)) → ∀ res, k_Face_stop_b0 F  σ l0 l1 = some res → cR E (cQx [11, 14]) pF (d + 13) kT238 15 4 (some FieldType.boolean) (some (.int res.1)) res.2 g σ (0, lv, []) := by
  intro g lv σ l0 l1 bl0 g0 g1 res h
  unfold k_Face_stop_b0 at h
  refine cR_lift (fun _ _ kk => eE_aload_n lk238_0 g0 kk) ?_
  refine cR_lift (fun _ _ kk => eE_iload_n lk238_1 g1 kk) ?_
  obtain ⟨p2, h3, h⟩ := Option.bind_eq_some_iff.mp h
  refine cR_rep (fun _ hc => k_Face_host_lt hc bl0 h3) (fun b4 => ?_)
  refine cR_virt (cl := 15) (i := l0) (as := [.int l1]) lk238_2 mr_15_155 na_219 rfl rfl (by first | exact Nat.le_of_ble_eq_true rfl | (simp [xcat, cvo_cat, cat_i, cat_j, cat_r]; done)) wv_219 wc_219 bl0 (k_Face_host_ok hp0 hL hF (d := d + 12) bl0 h3) (fun m5  => ?_)
  refine cR_stA (j := 2) lk238_5 (Or.inr ⟨_, rfl, rfl⟩) (by decide) (fun vq6 gq7 kq8 => ?_)
  refine cR_lift (fun _ _ kk => eE_aload_n lk238_6 gq7 kk) ?_
  refine cR_getI lk238_7 rf_15_165 rfl b4 ?_
  refine cR_stI (j := 3) lk238_10 (Or.inr ⟨_, rfl, rfl⟩) (by decide) (fun vq9 gq10 kq11 => ?_)
  have gq12 := kq11 2 _ (by decide) (fun _ => rfl) gq7
  refine cR_lift (fun _ _ kk => eE_iload_n lk238_11 gq10 kk) ?_
  refine cR_if (t := 19) lk238_12 (by decide) (fun c13 => ?_) (fun c13 => ?_)
  · rw [if_pos c13] at h
    exact k_Face_stop_b19_ok hp0 hL hF  g vq9 σ (cI σ 13 p2 8 0) gq10 _ h
  · rw [if_neg c13] at h
    refine cR_lift (fun _ _ kk => eE_aload_n lk238_15 gq12 kk) ?_
    obtain ⟨p14, h15, h⟩ := Option.bind_eq_some_iff.mp h
    refine cR_virtG (by exact cQx_sub rfl) (cl := 13) (i := p2) (as := []) lk238_16 mr_15_171 na_136 rfl rfl (by first | exact Nat.le_of_ble_eq_true rfl | (simp [xcat, cvo_cat, cat_i, cat_j, cat_r]; done)) wv_136 wc_136 b4 (k_Server_goDown_ok hp0 hL hF (d := d + 0) b4 h15) (fun m16 g_17 g_17e => ?_)
    exact k_Face_stop_b19_ok hp0 hL hF  g_17 vq9 p14 (cI σ 13 p2 8 0) gq10 _ h
def k_Face_stop (F : Nat) (σ : CS) (l0 : Nat) (l1 : Int32) : Option ((Int32) × CS) := k_Face_stop_b0 F σ l0 l1
theorem k_Face_stop_ok {E : CE} {pF : Nat → List Value → xH → Option (Option Value × xH)} (hp0 : xNPc pF) (hL : lcAll E pF) (hF : lcF pF) {d : Nat} {g : CG} {σ : CS} {F : Nat} {l0 : Nat} {l1 : Int32} {res : (Int32) × CS} (bl0 : cob σ 15 l0) (h : k_Face_stop F σ l0 l1 = some res) : cCo E (cQx [11, 14]) pF (d + 14) 238 [.ref (coa E 15 l0), .int l1] (some (.int res.1)) res.2 g σ :=
  cCo_R kk_238 mo_238 ni_238 xm_238 (Nat.le_of_ble_eq_true rfl) (hp0 238 (by decide) _) (k_Face_stop_b0_ok hp0 hL hF g _ σ l0 l1 bl0 rfl rfl _ h)
/-! k_Machine_copyValue_15_6 (80), depth 1 -/
def k_Machine_copyValue_15_6_b0  (σ : CS) (l0 : Nat) (l1 : Int32) (l2 : Nat) : Option ((Int32) × CS) :=
  (crd σ 10 l0 6 l1).bind fun x1 =>
  (crd σ 10 l0 8 x1).bind fun x8 =>
  (ccpy σ 10 l0 9 ((x1 * ((132 : Int32))) + ((32 : Int32))) 15 l2 6 ((0 : Int32)) x8).bind fun σ10 =>
  (crd σ10 10 l0 8 x1).bind fun x12 =>
  some (x12, σ10)
set_option maxRecDepth 4000 in
theorem k_Machine_copyValue_15_6_b0_ok {E : CE} {pF : Nat → List Value → xH → Option (Option Value × xH)} (hp0 : xNPc pF) (hL : lcAll E pF) (hF : lcF pF) {d : Nat}   : ∀ (g : CG) (lv : xL) (σ : CS) (l0 : Nat) (l1 : Int32) (l2 : Nat), (cob σ 10 l0) → (cob σ 15 l2) → (xg lv 0 = some (.ref (coa E 10 l0))) → (xg lv 1 = some (.int l1)) → (xg lv 2 = some (.ref (caa E 15 l2 6))) → ∀ res, k_Machine_copyValue_15_6_b0  σ l0 l1 l2 = some res → cR E cQ1 pF (d + 0) kT80 10 4 (some FieldType.int) (some (.int res.1)) res.2 g σ (0, lv, []) := by
  intro g lv σ l0 l1 l2 bl0 bl2 g0 g1 g2 res h
  unfold k_Machine_copyValue_15_6_b0 at h
  refine cR_lift (fun _ _ kk => eE_aload_n lk80_0 g0 kk) ?_
  refine cR_getA lk80_1 rf_10_19 (by decide) bl0 ?_
  refine cR_lift (fun _ _ kk => eE_iload_n lk80_4 g1 kk) ?_
  obtain ⟨x1, h2, h⟩ := Option.bind_eq_some_iff.mp h
  refine cR_iald (cl := 10) (i := l0) (f := 6) lk80_5 (by decide) rfl bl0 h2 ?_
  refine cR_stI (j := 3) lk80_6 (Or.inr ⟨_, rfl, rfl⟩) (by decide) (fun vq3 gq4 kq5 => ?_)
  have gq6 := kq5 0 _ (by decide) (fun e => absurd e (by decide)) g0
  have gq7 := kq5 2 _ (by decide) (fun _ => rfl) g2
  refine cR_lift (fun _ _ kk => eE_aload_n lk80_7 gq6 kk) ?_
  refine cR_getA lk80_8 rf_10_28 (by decide) bl0 ?_
  refine cR_lift (fun _ _ kk => eE_iload_n lk80_11 gq4 kk) ?_
  refine cR_lift (fun _ _ kk => eE_sipush (v := 132) lk80_12 (by decide) kk) ?_
  refine cR_lift (fun _ _ kk => eE_imul lk80_15 kk) ?_
  refine cR_lift (fun _ _ kk => eE_bipush (v := 32) lk80_16 (by decide) kk) ?_
  refine cR_lift (fun _ _ kk => eE_iadd lk80_18 kk) ?_
  refine cR_lift (fun _ _ kk => eE_aload_n lk80_19 gq7 kk) ?_
  refine cR_lift (fun _ _ kk => eE_iconst (v := 0) lk80_20 (by decide) kk) ?_
  refine cR_lift (fun _ _ kk => eE_aload_n lk80_21 gq6 kk) ?_
  refine cR_getA lk80_22 rf_10_25 (by decide) bl0 ?_
  refine cR_lift (fun _ _ kk => eE_iload_n lk80_25 gq4 kk) ?_
  obtain ⟨x8, h9, h⟩ := Option.bind_eq_some_iff.mp h
  refine cR_iald (cl := 10) (i := l0) (f := 8) lk80_26 (by decide) rfl bl0 h9 ?_
  obtain ⟨σ10, h11, h⟩ := Option.bind_eq_some_iff.mp h
  refine cR_cpy (a := 10) (i := l0) (f := 9) (a' := 15) (i' := l2) (f' := 6) lk80_27 yc_10_68.1 yc_10_68.2 (by decide) (by decide) (by decide) bl0 bl2 (by first | exact Nat.le_of_ble_eq_true rfl | (simp [xcat, cvo_cat, cat_i, cat_j, cat_r]; done)) h11 ?_
  refine cR_lift (fun _ _ kk => eE_aload_n lk80_30 gq6 kk) ?_
  refine cR_getA lk80_31 rf_10_25 (by decide) (cob_any rfl bl0) ?_
  refine cR_lift (fun _ _ kk => eE_iload_n lk80_34 gq4 kk) ?_
  obtain ⟨x12, h13, h⟩ := Option.bind_eq_some_iff.mp h
  refine cR_iald (cl := 10) (i := l0) (f := 8) lk80_35 (by decide) rfl (cob_any rfl bl0) h13 ?_
  cases h
  exact cR_end lk80_36 rfl rfl rfl
def k_Machine_copyValue_15_6 (σ : CS) (l0 : Nat) (l1 : Int32) (l2 : Nat) : Option ((Int32) × CS) := k_Machine_copyValue_15_6_b0 σ l0 l1 l2
theorem k_Machine_copyValue_15_6_ok {E : CE} {pF : Nat → List Value → xH → Option (Option Value × xH)} (hp0 : xNPc pF) (hL : lcAll E pF) (hF : lcF pF) {d : Nat} {g : CG} {σ : CS} {l0 : Nat} {l1 : Int32} {l2 : Nat} {res : (Int32) × CS} (bl0 : cob σ 10 l0) (bl2 : cob σ 15 l2) (h : k_Machine_copyValue_15_6 σ l0 l1 l2 = some res) : cCo E cQ1 pF (d + 1) 80 [.ref (coa E 10 l0), .int l1, .ref (caa E 15 l2 6)] (some (.int res.1)) res.2 g σ :=
  cCo_R kk_80 mo_80 ni_80 xm_80 (Nat.le_of_ble_eq_true rfl) (hp0 80 (by decide) _) (k_Machine_copyValue_15_6_b0_ok hp0 hL hF g _ σ l0 l1 l2 bl0 bl2 rfl rfl rfl _ h)
/-! k_Face_value (239), depth 3 -/
def k_Face_value_b0  (σ : CS) (l0 : Nat) (l1 : Int32) (l2 : Int32) : Option ((Int32) × CS) :=
  (k_Face_machineWith σ l0 l1 l2).bind fun p1 =>
  (k_Machine_copyValue_15_6 σ p1 l2 l0).bind fun p10 =>
  (some (csI p10.2 15 l0 7 0 p10.1)).bind fun σ13 =>
  some (cI σ13 15 l0 7 0, σ13)
set_option maxRecDepth 4000 in
theorem k_Face_value_b0_ok {E : CE} {pF : Nat → List Value → xH → Option (Option Value × xH)} (hp0 : xNPc pF) (hL : lcAll E pF) (hF : lcF pF) {d : Nat}   : ∀ (g : CG) (lv : xL) (σ : CS) (l0 : Nat) (l1 : Int32) (l2 : Int32), (cob σ 15 l0) → (xg lv 0 = some (.ref (coa E 15 l0))) → (xg lv 1 = some (.int l1)) → (xg lv 2 = some (.int l2)) → ∀ res, k_Face_value_b0  σ l0 l1 l2 = some res → cR E cQ1 pF (d + 2) kT239 15 4 (some FieldType.int) (some (.int res.1)) res.2 g σ (0, lv, []) := by
  intro g lv σ l0 l1 l2 bl0 g0 g1 g2 res h
  unfold k_Face_value_b0 at h
  refine cR_lift (fun _ _ kk => eE_aload_n lk239_0 g0 kk) ?_
  refine cR_lift (fun _ _ kk => eE_iload_n lk239_1 g1 kk) ?_
  refine cR_lift (fun _ _ kk => eE_iload_n lk239_2 g2 kk) ?_
  obtain ⟨p1, h2, h⟩ := Option.bind_eq_some_iff.mp h
  refine cR_rep (fun _ hc => k_Face_machineWith_lt hc bl0 h2) (fun b3 => ?_)
  refine cR_virt (cl := 15) (i := l0) (as := [.int l1, .int l2]) lk239_3 mr_15_232 na_226 rfl rfl (by first | exact Nat.le_of_ble_eq_true rfl | (simp [xcat, cvo_cat, cat_i, cat_j, cat_r]; done)) wv_226 wc_226 bl0 (k_Face_machineWith_ok hp0 hL hF (d := d + 0) bl0 h2) (fun m4  => ?_)
  refine cR_stA (j := 3) lk239_6 (Or.inr ⟨_, rfl, rfl⟩) (by decide) (fun vq5 gq6 kq7 => ?_)
  have gq8 := kq7 0 _ (by decide) (fun e => absurd e (by decide)) g0
  have gq9 := kq7 2 _ (by decide) (fun _ => rfl) g2
  refine cR_lift (fun _ _ kk => eE_aload_n lk239_7 gq8 kk) ?_
  refine cR_lift (fun _ _ kk => eE_aload_n lk239_8 gq6 kk) ?_
  refine cR_lift (fun _ _ kk => eE_iload_n lk239_9 gq9 kk) ?_
  refine cR_lift (fun _ _ kk => eE_aload_n lk239_10 gq8 kk) ?_
  refine cR_getA lk239_11 rf_15_25 (by decide) bl0 ?_
  obtain ⟨p10, h11, h⟩ := Option.bind_eq_some_iff.mp h
  refine cR_virt (cl := 10) (i := p1) (as := [.int l2, .ref (caa E 15 l0 6)]) lk239_14 mr_15_245 na_80 rfl rfl (by first | exact Nat.le_of_ble_eq_true rfl | (simp [xcat, cvo_cat, cat_i, cat_j, cat_r]; done)) wv_80 wc_80 b3 (k_Machine_copyValue_15_6_ok hp0 hL hF (d := d + 1) b3 bl0 h11) (fun m12  => ?_)
  obtain ⟨σ13, h14, h⟩ := Option.bind_eq_some_iff.mp h
  refine cR_putI lk239_17 rf_15_242 rfl (cob_any rfl bl0) pf_15_7 rfl h14 ?_
  refine cR_lift (fun _ _ kk => eE_aload_n lk239_20 gq8 kk) ?_
  refine cR_getI lk239_21 rf_15_242 rfl (cob_any rfl bl0) ?_
  cases h
  exact cR_end lk239_24 rfl rfl rfl
def k_Face_value (σ : CS) (l0 : Nat) (l1 : Int32) (l2 : Int32) : Option ((Int32) × CS) := k_Face_value_b0 σ l0 l1 l2
theorem k_Face_value_ok {E : CE} {pF : Nat → List Value → xH → Option (Option Value × xH)} (hp0 : xNPc pF) (hL : lcAll E pF) (hF : lcF pF) {d : Nat} {g : CG} {σ : CS} {l0 : Nat} {l1 : Int32} {l2 : Int32} {res : (Int32) × CS} (bl0 : cob σ 15 l0) (h : k_Face_value σ l0 l1 l2 = some res) : cCo E cQ1 pF (d + 3) 239 [.ref (coa E 15 l0), .int l1, .int l2] (some (.int res.1)) res.2 g σ :=
  cCo_R kk_239 mo_239 ni_239 xm_239 (Nat.le_of_ble_eq_true rfl) (hp0 239 (by decide) _) (k_Face_value_b0_ok hp0 hL hF g _ σ l0 l1 l2 bl0 rfl rfl rfl _ h)
/-! k_Face_ask_A (204), depth 14 -/
def k_Face_ask_A_b59 (F : Nat)  (σ : CS) : Option (CS) :=
  none
set_option maxRecDepth 4000 in
theorem k_Face_ask_A_b59_ok {E : CE} {pF : Nat → List Value → xH → Option (Option Value × xH)} (hp0 : xNPc pF) (hL : lcAll E pF) (hF : lcF pF) {d : Nat} {F : Nat}   : ∀ (g : CG) (lv : xL) (σ : CS), ∀ res, k_Face_ask_A_b59 F  σ = some res → cR E (cQx [4, 14]) pF (d + 13) kt204_A 15 8 Option.none none res g σ (59, lv, []) := by
  intro g lv σ res h
  unfold k_Face_ask_A_b59 at h
  cases h
def k_Face_ask_A_b0 (F : Nat)  (σ : CS) (l0 : Nat) (l1 : Int32) (l2 : Int32) (l3 : Int32) (l4 : Int32) : Option (CS) :=
  (some (csI σ 15 l0 5 0 ((0 : Int32)))).bind fun σ9 =>
  (k_Face_asker σ9 l0 l1).bind fun p11 =>
  (k_Face_isAskable σ9 l2 l3 l4 (cI σ 15 l0 5 0)).bind fun p24 =>
  if xc0 .ne p24 = true then (
    if xc0 .ne (cI σ9 5 p11 3 0) = true then (
      k_Face_ask_A_b59 F  σ9
    ) else (
      if xc2 .lt (cI σ9 4 0 0 0) ((1024 : Int32)) = true then (
        (k_Askings_add σ9 0 l1 l2 l3 l4).bind fun p30 =>
        (k_Askings_addBytes_15_4 p30.2 0 p30.1 l0 (cI σ 15 l0 5 0)).bind fun p40 =>
        (k_Client_begin F p40 p11 p30.1).bind fun p44 =>
        none
      ) else (
        k_Face_ask_A_b59 F  σ9
      )
    )
  ) else (
    some σ9
  )
set_option maxRecDepth 4000 in
theorem k_Face_ask_A_b0_ok {E : CE} {pF : Nat → List Value → xH → Option (Option Value × xH)} (hp0 : xNPc pF) (hL : lcAll E pF) (hF : lcF pF) {d : Nat} {F : Nat}   : ∀ (g : CG) (lv : xL) (σ : CS) (l0 : Nat) (l1 : Int32) (l2 : Int32) (l3 : Int32) (l4 : Int32), (cob σ 15 l0) → (xg lv 0 = some (.ref (coa E 15 l0))) → (xg lv 1 = some (.int l1)) → (xg lv 2 = some (.int l2)) → (xg lv 3 = some (.int l3)) → (xg lv 4 = some (.int l4)) → ∀ res, k_Face_ask_A_b0 F  σ l0 l1 l2 l3 l4 = some res → cR E (cQx [4, 14]) pF (d + 13) kt204_A 15 8 Option.none none res g σ (0, lv, []) := by
  intro g lv σ l0 l1 l2 l3 l4 bl0 g0 g1 g2 g3 g4 res h
  unfold k_Face_ask_A_b0 at h
  refine cR_lift (fun _ _ kk => eE_aload_n lt204_A_0 g0 kk) ?_
  refine cR_getI lt204_A_1 rf_15_63 rfl bl0 ?_
  refine cR_stI (j := 5) lt204_A_4 (Or.inl rfl) (by decide) (fun vq1 gq2 kq3 => ?_)
  have gq4 := kq3 0 _ (by decide) (fun e => absurd e (by decide)) g0
  have gq5 := kq3 1 _ (by decide) (fun e => absurd e (by decide)) g1
  have gq6 := kq3 2 _ (by decide) (fun e => absurd e (by decide)) g2
  have gq7 := kq3 3 _ (by decide) (fun e => absurd e (by decide)) g3
  have gq8 := kq3 4 _ (by decide) (fun _ => rfl) g4
  refine cR_lift (fun _ _ kk => eE_aload_n lt204_A_6 gq4 kk) ?_
  refine cR_lift (fun _ _ kk => eE_iconst (v := 0) lt204_A_7 (by decide) kk) ?_
  obtain ⟨σ9, h10, h⟩ := Option.bind_eq_some_iff.mp h
  refine cR_putI lt204_A_8 rf_15_63 rfl bl0 pf_15_5 rfl h10 ?_
  refine cR_lift (fun _ _ kk => eE_aload_n lt204_A_11 gq4 kk) ?_
  refine cR_lift (fun _ _ kk => eE_iload_n lt204_A_12 gq5 kk) ?_
  obtain ⟨p11, h12, h⟩ := Option.bind_eq_some_iff.mp h
  refine cR_rep (fun _ hc => k_Face_asker_lt hc (cob_any rfl bl0) h12) (fun b13 => ?_)
  refine cR_virt (cl := 15) (i := l0) (as := [.int l1]) lt204_A_13 mr_15_76 na_205 rfl rfl (by first | exact Nat.le_of_ble_eq_true rfl | (simp [xcat, cvo_cat, cat_i, cat_j, cat_r]; done)) wv_205 wc_205 (cob_any rfl bl0) (k_Face_asker_ok hp0 hL hF (d := d + 12) (cob_any rfl bl0) h12) (fun m14  => ?_)
  refine cR_stA (j := 6) lt204_A_16 (Or.inl rfl) (by decide) (fun vq15 gq16 kq17 => ?_)
  have gq18 := kq17 0 _ (by decide) (fun e => absurd e (by decide)) gq4
  have gq19 := kq17 1 _ (by decide) (fun e => absurd e (by decide)) gq5
  have gq20 := kq17 2 _ (by decide) (fun e => absurd e (by decide)) gq6
  have gq21 := kq17 3 _ (by decide) (fun e => absurd e (by decide)) gq7
  have gq22 := kq17 4 _ (by decide) (fun e => absurd e (by decide)) gq8
  have gq23 := kq17 5 _ (by decide) (fun _ => rfl) gq2
  refine cR_lift (fun _ _ kk => eE_iload_n lt204_A_18 gq20 kk) ?_
  refine cR_lift (fun _ _ kk => eE_iload_n lt204_A_19 gq21 kk) ?_
  refine cR_lift (fun _ _ kk => eE_iload lt204_A_20 gq22 kk) ?_
  refine cR_lift (fun _ _ kk => eE_iload lt204_A_22 gq23 kk) ?_
  obtain ⟨p24, h25, h⟩ := Option.bind_eq_some_iff.mp h
  refine cR_stat (as := [.int l2, .int l3, .int l4, .int (cI σ 15 l0 5 0)]) lt204_A_24 mr_15_80 na_221 rfl rfl (by first | exact Nat.le_of_ble_eq_true rfl | (simp [xcat, cvo_cat, cat_i, cat_j, cat_r]; done)) mm_221 ws_221 (k_Face_isAskable_ok hp0 hL hF (d := d + 12)  h25) (fun m26 => ?_)
  refine cR_if (t := 38) lt204_A_27 (by decide) (fun c27 => ?_) (fun c27 => ?_)
  · rw [if_pos c27] at h
    refine cR_lift (fun _ _ kk => eE_aload lt204_A_38 gq16 kk) ?_
    refine cR_getI lt204_A_40 rf_15_84 rfl b13 ?_
    refine cR_if (t := 59) lt204_A_43 (by decide) (fun c28 => ?_) (fun c28 => ?_)
    · rw [if_pos c28] at h
      exact k_Face_ask_A_b59_ok hp0 hL hF  g vq15 σ9  _ h
    · rw [if_neg c28] at h
      refine cR_lift (fun _ _ kk => eE_aload_n lt204_A_46 gq18 kk) ?_
      refine cR_getO (cl' := 4) (i' := 0) lt204_A_47 rf_15_49 rfl rfl (cob_any rfl bl0) ?_
      refine cR_getI lt204_A_50 rf_15_88 rfl (cob_0 (c := σ9) (cl := 4) (by decide) rfl rfl) ?_
      refine cR_lift (fun _ _ kk => eE_sipush (v := 1024) lt204_A_53 (by decide) kk) ?_
      refine cR_icmp (t := 67) lt204_A_56 (by decide) (fun c29 => ?_) (fun c29 => ?_)
      · rw [if_pos c29] at h
        refine cR_lift (fun _ _ kk => eE_aload_n lt204_A_67 gq18 kk) ?_
        refine cR_getO (cl' := 4) (i' := 0) lt204_A_68 rf_15_49 rfl rfl (cob_any rfl bl0) ?_
        refine cR_lift (fun _ _ kk => eE_iload_n lt204_A_71 gq19 kk) ?_
        refine cR_lift (fun _ _ kk => eE_iload_n lt204_A_72 gq20 kk) ?_
        refine cR_lift (fun _ _ kk => eE_iload_n lt204_A_73 gq21 kk) ?_
        refine cR_lift (fun _ _ kk => eE_iload lt204_A_74 gq22 kk) ?_
        obtain ⟨p30, h31, h⟩ := Option.bind_eq_some_iff.mp h
        refine cR_virtG (by exact cQx_sub rfl) (cl := 4) (i := 0) (as := [.int l1, .int l2, .int l3, .int l4]) lt204_A_76 mr_15_91 na_15 rfl rfl (by first | exact Nat.le_of_ble_eq_true rfl | (simp [xcat, cvo_cat, cat_i, cat_j, cat_r]; done)) wv_15 wc_15 (cob_0 (c := σ9) (cl := 4) (by decide) rfl rfl) (k_Askings_add_ok hp0 hL hF (d := d + 11) (cob_0 (c := σ9) (cl := 4) (by decide) rfl rfl) h31) (fun m32 g_33 g_33e => ?_)
        refine cR_stI (j := 7) lt204_A_79 (Or.inl rfl) (by decide) (fun vq34 gq35 kq36 => ?_)
        have gq37 := kq36 0 _ (by decide) (fun e => absurd e (by decide)) gq18
        have gq38 := kq36 5 _ (by decide) (fun e => absurd e (by decide)) gq23
        have gq39 := kq36 6 _ (by decide) (fun _ => rfl) gq16
        refine cR_lift (fun _ _ kk => eE_aload_n lt204_A_81 gq37 kk) ?_
        refine cR_getO (cl' := 4) (i' := 0) lt204_A_82 rf_15_49 rfl rfl (cob_any rfl bl0) ?_
        refine cR_lift (fun _ _ kk => eE_iload lt204_A_85 gq35 kk) ?_
        refine cR_lift (fun _ _ kk => eE_aload_n lt204_A_87 gq37 kk) ?_
        refine cR_getA lt204_A_88 rf_15_21 (by decide) (cob_any rfl bl0) ?_
        refine cR_lift (fun _ _ kk => eE_iload lt204_A_91 gq38 kk) ?_
        obtain ⟨p40, h41, h⟩ := Option.bind_eq_some_iff.mp h
        refine cR_virtG (by exact cQx_sub rfl) (cl := 4) (i := 0) (as := [.int p30.1, .ref (caa E 15 l0 4), .int (cI σ 15 l0 5 0)]) lt204_A_93 mr_15_95 na_16 rfl rfl (by first | exact Nat.le_of_ble_eq_true rfl | (simp [xcat, cvo_cat, cat_i, cat_j, cat_r]; done)) wv_16 wc_16 (cob_0 (c := p30.2) (cl := 4) (by decide) rfl rfl) (k_Askings_addBytes_15_4_ok hp0 hL hF (d := d + 11) (cob_0 (c := p30.2) (cl := 4) (by decide) rfl rfl) (cob_any rfl bl0) h41) (fun m42 g_43 g_43e => ?_)
        refine cR_lift (fun _ _ kk => eE_aload lt204_A_96 gq39 kk) ?_
        refine cR_lift (fun _ _ kk => eE_iload lt204_A_98 gq35 kk) ?_
        obtain ⟨p44, h45, h⟩ := Option.bind_eq_some_iff.mp h
        refine cR_virtG (by exact cQx_sub rfl) (cl := 5) (i := p11) (as := [.int p30.1]) lt204_A_100 mr_15_99 na_21 rfl rfl (by first | exact Nat.le_of_ble_eq_true rfl | (simp [xcat, cvo_cat, cat_i, cat_j, cat_r]; done)) wv_21 wc_21 (cob_any rfl b13) (k_Client_begin_ok hp0 hL hF (d := d + 0) (cob_any rfl b13) h45) (fun m46 g_47 g_47e => ?_)
        refine cR_lift (fun _ _ kk => eE_iload lt204_A_103 gq35 kk) ?_
        cases h
      · rw [if_neg c29] at h
        exact k_Face_ask_A_b59_ok hp0 hL hF  g vq15 σ9  _ h
  · rw [if_neg c27] at h
    cases h
    exact cR_end lt204_A_30 rfl rfl rfl
def k_Face_ask_A (F : Nat) (σ : CS) (l0 : Nat) (l1 : Int32) (l2 : Int32) (l3 : Int32) (l4 : Int32) : Option (CS) := k_Face_ask_A_b0 F σ l0 l1 l2 l3 l4
theorem k_Face_ask_A_ok {E : CE} {pF : Nat → List Value → xH → Option (Option Value × xH)} (hp0 : xNPc pF) (hL : lcAll E pF) (hF : lcF pF) {d : Nat} {g : CG} {σ : CS} {F : Nat} {l0 : Nat} {l1 : Int32} {l2 : Int32} {l3 : Int32} {l4 : Int32} {res : CS} (bl0 : cob σ 15 l0) (h : k_Face_ask_A F σ l0 l1 l2 l3 l4 = some res) : cR E (cQx [4, 14]) pF (d + 13) kt204_A 15 8 Option.none none res g σ (0, lv_args 0 [.ref (coa E 15 l0), .int l1, .int l2, .int l3, .int l4], []) :=
  k_Face_ask_A_b0_ok hp0 hL hF g _ σ l0 l1 l2 l3 l4 bl0 rfl rfl rfl rfl rfl _ h
/-! k_Face_ask_S (204), depth 14 -/
def k_Face_ask_S_b59 (F : Nat)  (σ : CS) : Option (CS) :=
  some σ
set_option maxRecDepth 4000 in
theorem k_Face_ask_S_b59_ok {E : CE} {pF : Nat → List Value → xH → Option (Option Value × xH)} (hp0 : xNPc pF) (hL : lcAll E pF) (hF : lcF pF) {d : Nat} {F : Nat}   : ∀ (g : CG) (lv : xL) (σ : CS), ∀ res, k_Face_ask_S_b59 F  σ = some res → cR E (cQx [4, 14]) pF (d + 13) kt204_S 15 8 Option.none none res g σ (59, lv, []) := by
  intro g lv σ res h
  unfold k_Face_ask_S_b59 at h
  cases h
  exact cR_end lt204_S_59 rfl rfl rfl
def k_Face_ask_S_b0 (F : Nat)  (σ : CS) (l0 : Nat) (l1 : Int32) (l2 : Int32) (l3 : Int32) (l4 : Int32) : Option (CS) :=
  (some (csI σ 15 l0 5 0 ((0 : Int32)))).bind fun σ9 =>
  (k_Face_asker σ9 l0 l1).bind fun p11 =>
  (k_Face_isAskable σ9 l2 l3 l4 (cI σ 15 l0 5 0)).bind fun p24 =>
  if xc0 .ne p24 = true then (
    if xc0 .ne (cI σ9 5 p11 3 0) = true then (
      k_Face_ask_S_b59 F  σ9
    ) else (
      if xc2 .lt (cI σ9 4 0 0 0) ((1024 : Int32)) = true then (
        (k_Askings_add σ9 0 l1 l2 l3 l4).bind fun p30 =>
        (k_Askings_addBytes_15_4 p30.2 0 p30.1 l0 (cI σ 15 l0 5 0)).bind fun p40 =>
        (k_Client_begin F p40 p11 p30.1).bind fun p44 =>
        none
      ) else (
        k_Face_ask_S_b59 F  σ9
      )
    )
  ) else (
    none
  )
set_option maxRecDepth 4000 in
theorem k_Face_ask_S_b0_ok {E : CE} {pF : Nat → List Value → xH → Option (Option Value × xH)} (hp0 : xNPc pF) (hL : lcAll E pF) (hF : lcF pF) {d : Nat} {F : Nat}   : ∀ (g : CG) (lv : xL) (σ : CS) (l0 : Nat) (l1 : Int32) (l2 : Int32) (l3 : Int32) (l4 : Int32), (cob σ 15 l0) → (xg lv 0 = some (.ref (coa E 15 l0))) → (xg lv 1 = some (.int l1)) → (xg lv 2 = some (.int l2)) → (xg lv 3 = some (.int l3)) → (xg lv 4 = some (.int l4)) → ∀ res, k_Face_ask_S_b0 F  σ l0 l1 l2 l3 l4 = some res → cR E (cQx [4, 14]) pF (d + 13) kt204_S 15 8 Option.none none res g σ (0, lv, []) := by
  intro g lv σ l0 l1 l2 l3 l4 bl0 g0 g1 g2 g3 g4 res h
  unfold k_Face_ask_S_b0 at h
  refine cR_lift (fun _ _ kk => eE_aload_n lt204_S_0 g0 kk) ?_
  refine cR_getI lt204_S_1 rf_15_63 rfl bl0 ?_
  refine cR_stI (j := 5) lt204_S_4 (Or.inl rfl) (by decide) (fun vq1 gq2 kq3 => ?_)
  have gq4 := kq3 0 _ (by decide) (fun e => absurd e (by decide)) g0
  have gq5 := kq3 1 _ (by decide) (fun e => absurd e (by decide)) g1
  have gq6 := kq3 2 _ (by decide) (fun e => absurd e (by decide)) g2
  have gq7 := kq3 3 _ (by decide) (fun e => absurd e (by decide)) g3
  have gq8 := kq3 4 _ (by decide) (fun _ => rfl) g4
  refine cR_lift (fun _ _ kk => eE_aload_n lt204_S_6 gq4 kk) ?_
  refine cR_lift (fun _ _ kk => eE_iconst (v := 0) lt204_S_7 (by decide) kk) ?_
  obtain ⟨σ9, h10, h⟩ := Option.bind_eq_some_iff.mp h
  refine cR_putI lt204_S_8 rf_15_63 rfl bl0 pf_15_5 rfl h10 ?_
  refine cR_lift (fun _ _ kk => eE_aload_n lt204_S_11 gq4 kk) ?_
  refine cR_lift (fun _ _ kk => eE_iload_n lt204_S_12 gq5 kk) ?_
  obtain ⟨p11, h12, h⟩ := Option.bind_eq_some_iff.mp h
  refine cR_rep (fun _ hc => k_Face_asker_lt hc (cob_any rfl bl0) h12) (fun b13 => ?_)
  refine cR_virt (cl := 15) (i := l0) (as := [.int l1]) lt204_S_13 mr_15_76 na_205 rfl rfl (by first | exact Nat.le_of_ble_eq_true rfl | (simp [xcat, cvo_cat, cat_i, cat_j, cat_r]; done)) wv_205 wc_205 (cob_any rfl bl0) (k_Face_asker_ok hp0 hL hF (d := d + 12) (cob_any rfl bl0) h12) (fun m14  => ?_)
  refine cR_stA (j := 6) lt204_S_16 (Or.inl rfl) (by decide) (fun vq15 gq16 kq17 => ?_)
  have gq18 := kq17 0 _ (by decide) (fun e => absurd e (by decide)) gq4
  have gq19 := kq17 1 _ (by decide) (fun e => absurd e (by decide)) gq5
  have gq20 := kq17 2 _ (by decide) (fun e => absurd e (by decide)) gq6
  have gq21 := kq17 3 _ (by decide) (fun e => absurd e (by decide)) gq7
  have gq22 := kq17 4 _ (by decide) (fun e => absurd e (by decide)) gq8
  have gq23 := kq17 5 _ (by decide) (fun _ => rfl) gq2
  refine cR_lift (fun _ _ kk => eE_iload_n lt204_S_18 gq20 kk) ?_
  refine cR_lift (fun _ _ kk => eE_iload_n lt204_S_19 gq21 kk) ?_
  refine cR_lift (fun _ _ kk => eE_iload lt204_S_20 gq22 kk) ?_
  refine cR_lift (fun _ _ kk => eE_iload lt204_S_22 gq23 kk) ?_
  obtain ⟨p24, h25, h⟩ := Option.bind_eq_some_iff.mp h
  refine cR_stat (as := [.int l2, .int l3, .int l4, .int (cI σ 15 l0 5 0)]) lt204_S_24 mr_15_80 na_221 rfl rfl (by first | exact Nat.le_of_ble_eq_true rfl | (simp [xcat, cvo_cat, cat_i, cat_j, cat_r]; done)) mm_221 ws_221 (k_Face_isAskable_ok hp0 hL hF (d := d + 12)  h25) (fun m26 => ?_)
  refine cR_if (t := 38) lt204_S_27 (by decide) (fun c27 => ?_) (fun c27 => ?_)
  · rw [if_pos c27] at h
    refine cR_lift (fun _ _ kk => eE_aload lt204_S_38 gq16 kk) ?_
    refine cR_getI lt204_S_40 rf_15_84 rfl b13 ?_
    refine cR_if (t := 59) lt204_S_43 (by decide) (fun c28 => ?_) (fun c28 => ?_)
    · rw [if_pos c28] at h
      exact k_Face_ask_S_b59_ok hp0 hL hF  g vq15 σ9  _ h
    · rw [if_neg c28] at h
      refine cR_lift (fun _ _ kk => eE_aload_n lt204_S_46 gq18 kk) ?_
      refine cR_getO (cl' := 4) (i' := 0) lt204_S_47 rf_15_49 rfl rfl (cob_any rfl bl0) ?_
      refine cR_getI lt204_S_50 rf_15_88 rfl (cob_0 (c := σ9) (cl := 4) (by decide) rfl rfl) ?_
      refine cR_lift (fun _ _ kk => eE_sipush (v := 1024) lt204_S_53 (by decide) kk) ?_
      refine cR_icmp (t := 67) lt204_S_56 (by decide) (fun c29 => ?_) (fun c29 => ?_)
      · rw [if_pos c29] at h
        refine cR_lift (fun _ _ kk => eE_aload_n lt204_S_67 gq18 kk) ?_
        refine cR_getO (cl' := 4) (i' := 0) lt204_S_68 rf_15_49 rfl rfl (cob_any rfl bl0) ?_
        refine cR_lift (fun _ _ kk => eE_iload_n lt204_S_71 gq19 kk) ?_
        refine cR_lift (fun _ _ kk => eE_iload_n lt204_S_72 gq20 kk) ?_
        refine cR_lift (fun _ _ kk => eE_iload_n lt204_S_73 gq21 kk) ?_
        refine cR_lift (fun _ _ kk => eE_iload lt204_S_74 gq22 kk) ?_
        obtain ⟨p30, h31, h⟩ := Option.bind_eq_some_iff.mp h
        refine cR_virtG (by exact cQx_sub rfl) (cl := 4) (i := 0) (as := [.int l1, .int l2, .int l3, .int l4]) lt204_S_76 mr_15_91 na_15 rfl rfl (by first | exact Nat.le_of_ble_eq_true rfl | (simp [xcat, cvo_cat, cat_i, cat_j, cat_r]; done)) wv_15 wc_15 (cob_0 (c := σ9) (cl := 4) (by decide) rfl rfl) (k_Askings_add_ok hp0 hL hF (d := d + 11) (cob_0 (c := σ9) (cl := 4) (by decide) rfl rfl) h31) (fun m32 g_33 g_33e => ?_)
        refine cR_stI (j := 7) lt204_S_79 (Or.inl rfl) (by decide) (fun vq34 gq35 kq36 => ?_)
        have gq37 := kq36 0 _ (by decide) (fun e => absurd e (by decide)) gq18
        have gq38 := kq36 5 _ (by decide) (fun e => absurd e (by decide)) gq23
        have gq39 := kq36 6 _ (by decide) (fun _ => rfl) gq16
        refine cR_lift (fun _ _ kk => eE_aload_n lt204_S_81 gq37 kk) ?_
        refine cR_getO (cl' := 4) (i' := 0) lt204_S_82 rf_15_49 rfl rfl (cob_any rfl bl0) ?_
        refine cR_lift (fun _ _ kk => eE_iload lt204_S_85 gq35 kk) ?_
        refine cR_lift (fun _ _ kk => eE_aload_n lt204_S_87 gq37 kk) ?_
        refine cR_getA lt204_S_88 rf_15_21 (by decide) (cob_any rfl bl0) ?_
        refine cR_lift (fun _ _ kk => eE_iload lt204_S_91 gq38 kk) ?_
        obtain ⟨p40, h41, h⟩ := Option.bind_eq_some_iff.mp h
        refine cR_virtG (by exact cQx_sub rfl) (cl := 4) (i := 0) (as := [.int p30.1, .ref (caa E 15 l0 4), .int (cI σ 15 l0 5 0)]) lt204_S_93 mr_15_95 na_16 rfl rfl (by first | exact Nat.le_of_ble_eq_true rfl | (simp [xcat, cvo_cat, cat_i, cat_j, cat_r]; done)) wv_16 wc_16 (cob_0 (c := p30.2) (cl := 4) (by decide) rfl rfl) (k_Askings_addBytes_15_4_ok hp0 hL hF (d := d + 11) (cob_0 (c := p30.2) (cl := 4) (by decide) rfl rfl) (cob_any rfl bl0) h41) (fun m42 g_43 g_43e => ?_)
        refine cR_lift (fun _ _ kk => eE_aload lt204_S_96 gq39 kk) ?_
        refine cR_lift (fun _ _ kk => eE_iload lt204_S_98 gq35 kk) ?_
        obtain ⟨p44, h45, h⟩ := Option.bind_eq_some_iff.mp h
        refine cR_virtG (by exact cQx_sub rfl) (cl := 5) (i := p11) (as := [.int p30.1]) lt204_S_100 mr_15_99 na_21 rfl rfl (by first | exact Nat.le_of_ble_eq_true rfl | (simp [xcat, cvo_cat, cat_i, cat_j, cat_r]; done)) wv_21 wc_21 (cob_any rfl b13) (k_Client_begin_ok hp0 hL hF (d := d + 0) (cob_any rfl b13) h45) (fun m46 g_47 g_47e => ?_)
        refine cR_lift (fun _ _ kk => eE_iload lt204_S_103 gq35 kk) ?_
        cases h
      · rw [if_neg c29] at h
        exact k_Face_ask_S_b59_ok hp0 hL hF  g vq15 σ9  _ h
  · rw [if_neg c27] at h
    cases h
def k_Face_ask_S (F : Nat) (σ : CS) (l0 : Nat) (l1 : Int32) (l2 : Int32) (l3 : Int32) (l4 : Int32) : Option (CS) := k_Face_ask_S_b0 F σ l0 l1 l2 l3 l4
theorem k_Face_ask_S_ok {E : CE} {pF : Nat → List Value → xH → Option (Option Value × xH)} (hp0 : xNPc pF) (hL : lcAll E pF) (hF : lcF pF) {d : Nat} {g : CG} {σ : CS} {F : Nat} {l0 : Nat} {l1 : Int32} {l2 : Int32} {l3 : Int32} {l4 : Int32} {res : CS} (bl0 : cob σ 15 l0) (h : k_Face_ask_S F σ l0 l1 l2 l3 l4 = some res) : cR E (cQx [4, 14]) pF (d + 13) kt204_S 15 8 Option.none none res g σ (0, lv_args 0 [.ref (coa E 15 l0), .int l1, .int l2, .int l3, .int l4], []) :=
  k_Face_ask_S_b0_ok hp0 hL hF g _ σ l0 l1 l2 l3 l4 bl0 rfl rfl rfl rfl rfl _ h
