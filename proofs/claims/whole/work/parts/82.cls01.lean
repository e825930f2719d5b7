/-! printed by wip/whole/gen_face.py -/
/-! k_Face_asker (205), depth 1 -/
def k_Face_asker_b10  (σ : CS) : Option (Nat) :=
  none
set_option maxRecDepth 4000 in
theorem k_Face_asker_b10_ok {E : CE} {pF : Nat → List Value → xH → Option (Option Value × xH)} (hp0 : xNPc pF) (hL : lcAll E pF) (hF : lcF pF) {d : Nat}   : ∀ (g : CG) (lv : xL) (σ : CS), ∀ res, k_Face_asker_b10  σ = some res → cR E cQ1 pF (d + 0) kT205 15 2 (some (FieldType.object "AgreedStore$Client")) (some (.ref (coa E 5 res))) σ g σ (10, lv, []) := by
  intro g lv σ res h
  unfold k_Face_asker_b10 at h
  cases h
def k_Face_asker_b0  (σ : CS) (l0 : Nat) (l1 : Int32) : Option (Nat) :=
  if xc0 .lt l1 = true then (
    k_Face_asker_b10  σ
  ) else (
    if xc2 .lt l1 ((8 : Int32)) = true then (
      (cix 15 3 l1).bind fun n3 =>
      some n3
    ) else (
      k_Face_asker_b10  σ
    )
  )
set_option maxRecDepth 4000 in
theorem k_Face_asker_b0_ok {E : CE} {pF : Nat → List Value → xH → Option (Option Value × xH)} (hp0 : xNPc pF) (hL : lcAll E pF) (hF : lcF pF) {d : Nat}   : ∀ (g : CG) (lv : xL) (σ : CS) (l0 : Nat) (l1 : Int32), (cob σ 15 l0) → (xg lv 0 = some (.ref (coa E 15 l0))) → (xg lv 1 = some (.int l1)) → ∀ res, k_Face_asker_b0  σ l0 l1 = some res → cR E cQ1 pF (d + 0) kT205 15 2 (some (FieldType.object "AgreedStore$Client")) (some (.ref (coa E 5 res))) σ g σ (0, lv, []) := by
  intro g lv σ l0 l1 bl0 g0 g1 res h
  unfold k_Face_asker_b0 at h
  refine cR_lift (fun _ _ kk => eE_iload_n lk205_0 g1 kk) ?_
  refine cR_if (t := 10) lk205_1 (by decide) (fun c1 => ?_) (fun c1 => ?_)
  · rw [if_pos c1] at h
    exact k_Face_asker_b10_ok hp0 hL hF  g lv σ  _ h
  · rw [if_neg c1] at h
    refine cR_lift (fun _ _ kk => eE_iload_n lk205_4 g1 kk) ?_
    refine cR_lift (fun _ _ kk => eE_bipush (v := 8) lk205_5 (by decide) kk) ?_
    refine cR_icmp (t := 18) lk205_7 (by decide) (fun c2 => ?_) (fun c2 => ?_)
    · rw [if_pos c2] at h
      refine cR_lift (fun _ _ kk => eE_aload_n lk205_18 g0 kk) ?_
      refine cR_getA lk205_19 rf_15_17 (by decide) bl0 ?_
      refine cR_lift (fun _ _ kk => eE_iload_n lk205_22 g1 kk) ?_
      obtain ⟨n3, h4, h⟩ := Option.bind_eq_some_iff.mp h
      refine cR_aald (cl := 15) (i := l0) (f := 3) (cl' := 5) (i' := n3) lk205_23 rfl (by decide) bl0 h4 rfl ?_
      cases h
      exact cR_end lk205_24 rfl rfl rfl
    · rw [if_neg c2] at h
      exact k_Face_asker_b10_ok hp0 hL hF  g lv σ  _ h
def k_Face_asker (σ : CS) (l0 : Nat) (l1 : Int32) : Option (Nat) := k_Face_asker_b0 σ l0 l1
theorem k_Face_asker_ok {E : CE} {pF : Nat → List Value → xH → Option (Option Value × xH)} (hp0 : xNPc pF) (hL : lcAll E pF) (hF : lcF pF) {d : Nat} {g : CG} {σ : CS} {l0 : Nat} {l1 : Int32} {res : Nat} (bl0 : cob σ 15 l0) (h : k_Face_asker σ l0 l1 = some res) : cCo E cQ1 pF (d + 1) 205 [.ref (coa E 15 l0), .int l1] (some (.ref (coa E 5 res))) σ g σ :=
  cCo_R kk_205 mo_205 ni_205 xm_205 (Nat.le_of_ble_eq_true rfl) (hp0 205 (by decide) _) (k_Face_asker_b0_ok hp0 hL hF g _ σ l0 l1 bl0 rfl rfl _ h)
theorem k_Face_asker_lt {E : CE} {g : CG} {σ : CS} {h0 : xH} {l0 : Nat} {l1 : Int32} {res : Nat} (_ : CRep E g σ h0) (_ : cob σ 15 l0) (h : k_Face_asker σ l0 l1 = some res) : cob σ 5 res := by
  unfold k_Face_asker k_Face_asker_b0 at h
  split at h
  · cases h
  · split at h
    · obtain ⟨n, hn, h⟩ := Option.bind_eq_some_iff.mp h
      cases h
      exact cob_of_lt (c := σ) (cl := 5) (by decide) rfl (cix_lt hn)
    · cases h
/-! k_Face_answer (203), depth 2 -/
def k_Face_answer_b0  (σ : CS) (l0 : Nat) (l1 : Int32) : Option ((Int32) × CS) :=
  (k_Face_asker σ l0 l1).bind fun p1 =>
  (ccpy σ 5 p1 12 ((0 : Int32)) 15 l0 6 ((0 : Int32)) (cI σ 5 p1 13 0)).bind fun σ9 =>
  (some (csI σ9 15 l0 7 0 (cI σ9 5 p1 13 0))).bind fun σ11 =>
  some (cI σ11 15 l0 7 0, σ11)
set_option maxRecDepth 4000 in
theorem k_Face_answer_b0_ok {E : CE} {pF : Nat → List Value → xH → Option (Option Value × xH)} (hp0 : xNPc pF) (hL : lcAll E pF) (hF : lcF pF) {d : Nat}   : ∀ (g : CG) (lv : xL) (σ : CS) (l0 : Nat) (l1 : Int32), (cob σ 15 l0) → (xg lv 0 = some (.ref (coa E 15 l0))) → (xg lv 1 = some (.int l1)) → ∀ res, k_Face_answer_b0  σ l0 l1 = some res → cR E cQ1 pF (d + 1) kT203 15 3 (some FieldType.int) (some (.int res.1)) res.2 g σ (0, lv, []) := by
  intro g lv σ l0 l1 bl0 g0 g1 res h
  unfold k_Face_answer_b0 at h
  refine cR_lift (fun _ _ kk => eE_aload_n lk203_0 g0 kk) ?_
  refine cR_lift (fun _ _ kk => eE_iload_n lk203_1 g1 kk) ?_
  obtain ⟨p1, h2, h⟩ := Option.bind_eq_some_iff.mp h
  refine cR_rep (fun _ hc => k_Face_asker_lt hc bl0 h2) (fun b3 => ?_)
  refine cR_virt (cl := 15) (i := l0) (as := [.int l1]) lk203_2 mr_15_76 na_205 rfl rfl (by first | exact Nat.le_of_ble_eq_true rfl | (simp [xcat, cvo_cat, cat_i, cat_j, cat_r]; done)) wv_205 wc_205 bl0 (k_Face_asker_ok hp0 hL hF (d := d + 0) bl0 h2) (fun m4  => ?_)
  refine cR_stA (j := 2) lk203_5 (Or.inr ⟨_, rfl, rfl⟩) (by decide) (fun vq5 gq6 kq7 => ?_)
  have gq8 := kq7 0 _ (by decide) (fun e => absurd e (by decide)) g0
  refine cR_lift (fun _ _ kk => eE_aload_n lk203_6 gq6 kk) ?_
  refine cR_getA lk203_7 rf_15_290 (by decide) b3 ?_
  refine cR_lift (fun _ _ kk => eE_iconst (v := 0) lk203_10 (by decide) kk) ?_
  refine cR_lift (fun _ _ kk => eE_aload_n lk203_11 gq8 kk) ?_
  refine cR_getA lk203_12 rf_15_25 (by decide) bl0 ?_
  refine cR_lift (fun _ _ kk => eE_iconst (v := 0) lk203_15 (by decide) kk) ?_
  refine cR_lift (fun _ _ kk => eE_aload_n lk203_16 gq6 kk) ?_
  refine cR_getI lk203_17 rf_15_293 rfl b3 ?_
  obtain ⟨σ9, h10, h⟩ := Option.bind_eq_some_iff.mp h
  refine cR_cpy (a := 5) (i := p1) (f := 12) (a' := 15) (i' := l0) (f' := 6) lk203_20 yc_15_296.1 yc_15_296.2 (by decide) (by decide) (by decide) b3 bl0 (by first | exact Nat.le_of_ble_eq_true rfl | (simp [xcat, cvo_cat, cat_i, cat_j, cat_r]; done)) h10 ?_
  refine cR_lift (fun _ _ kk => eE_aload_n lk203_23 gq8 kk) ?_
  refine cR_lift (fun _ _ kk => eE_aload_n lk203_24 gq6 kk) ?_
  refine cR_getI lk203_25 rf_15_293 rfl (cob_any rfl b3) ?_
  obtain ⟨σ11, h12, h⟩ := Option.bind_eq_some_iff.mp h
  refine cR_putI lk203_28 rf_15_242 rfl (cob_any rfl bl0) pf_15_7 rfl h12 ?_
  refine cR_lift (fun _ _ kk => eE_aload_n lk203_31 gq8 kk) ?_
  refine cR_getI lk203_32 rf_15_242 rfl (cob_any rfl bl0) ?_
  cases h
  exact cR_end lk203_35 rfl rfl rfl
def k_Face_answer (σ : CS) (l0 : Nat) (l1 : Int32) : Option ((Int32) × CS) := k_Face_answer_b0 σ l0 l1
theorem k_Face_answer_ok {E : CE} {pF : Nat → List Value → xH → Option (Option Value × xH)} (hp0 : xNPc pF) (hL : lcAll E pF) (hF : lcF pF) {d : Nat} {g : CG} {σ : CS} {l0 : Nat} {l1 : Int32} {res : (Int32) × CS} (bl0 : cob σ 15 l0) (h : k_Face_answer σ l0 l1 = some res) : cCo E cQ1 pF (d + 2) 203 [.ref (coa E 15 l0), .int l1] (some (.int res.1)) res.2 g σ :=
  cCo_R kk_203 mo_203 ni_203 xm_203 (Nat.le_of_ble_eq_true rfl) (hp0 203 (by decide) _) (k_Face_answer_b0_ok hp0 hL hF g _ σ l0 l1 bl0 rfl rfl _ h)
/-! k_Face_isAskable (221), depth 1 -/
def k_Face_isAskable_b34  (σ : CS) : Option (Int32) :=
  if ((0 : Int32)) = 0 ∨ ((0 : Int32)) = 1 then some ((0 : Int32)) else none
set_option maxRecDepth 4000 in
theorem k_Face_isAskable_b34_ok {E : CE} {pF : Nat → List Value → xH → Option (Option Value × xH)} (hp0 : xNPc pF) (hL : lcAll E pF) (hF : lcF pF) {d : Nat}   : ∀ (g : CG) (lv : xL) (σ : CS), ∀ res, k_Face_isAskable_b34  σ = some res → cR E cQ1 pF (d + 0) kT221 15 5 (some FieldType.boolean) (some (.int res)) σ g σ (34, lv, []) := by
  intro g lv σ res h
  unfold k_Face_isAskable_b34 at h
  refine cR_lift (fun _ _ kk => eE_iconst (v := 0) lk221_34 (by decide) kk) ?_
  by_cases z1 : ((0 : Int32)) = 0 ∨ ((0 : Int32)) = 1
  · rw [if_pos z1] at h; cases h
    exact cR_end lk221_35 rfl rfl (by first | (simp only [xfin, if_true, if_pos z1]; done) | simp [xfin, z1])
  · rw [if_neg z1] at h; cases h
def k_Face_isAskable_b149  (σ : CS) (s0 : Int32) : Option (Int32) :=
  if s0 = 0 ∨ s0 = 1 then some s0 else none
set_option maxRecDepth 4000 in
theorem k_Face_isAskable_b149_ok {E : CE} {pF : Nat → List Value → xH → Option (Option Value × xH)} (hp0 : xNPc pF) (hL : lcAll E pF) (hF : lcF pF) {d : Nat}   : ∀ (g : CG) (lv : xL) (σ : CS) (s0 : Int32), ∀ res, k_Face_isAskable_b149  σ s0 = some res → cR E cQ1 pF (d + 0) kT221 15 5 (some FieldType.boolean) (some (.int res)) σ g σ (149, lv, [.int s0]) := by
  intro g lv σ s0 res h
  unfold k_Face_isAskable_b149 at h
  by_cases z2 : s0 = 0 ∨ s0 = 1
  · rw [if_pos z2] at h; cases h
    exact cR_end lk221_149 rfl rfl (by first | (simp only [xfin, if_true, if_pos z2]; done) | simp [xfin, z2])
  · rw [if_neg z2] at h; cases h
def k_Face_isAskable_b139  (σ : CS) (l4 : Int32) : Option (Int32) :=
  if xc0 .ne l4 = true then (
    k_Face_isAskable_b149  σ ((0 : Int32))
  ) else (
    k_Face_isAskable_b149  σ ((1 : Int32))
  )
set_option maxRecDepth 4000 in
theorem k_Face_isAskable_b139_ok {E : CE} {pF : Nat → List Value → xH → Option (Option Value × xH)} (hp0 : xNPc pF) (hL : lcAll E pF) (hF : lcF pF) {d : Nat}   : ∀ (g : CG) (lv : xL) (σ : CS) (l4 : Int32), (xg lv 4 = some (.int l4)) → ∀ res, k_Face_isAskable_b139  σ l4 = some res → cR E cQ1 pF (d + 0) kT221 15 5 (some FieldType.boolean) (some (.int res)) σ g σ (139, lv, []) := by
  intro g lv σ l4 g4 res h
  unfold k_Face_isAskable_b139 at h
  refine cR_lift (fun _ _ kk => eE_iload lk221_139 g4 kk) ?_
  refine cR_if (t := 148) lk221_141 (by decide) (fun c3 => ?_) (fun c3 => ?_)
  · rw [if_pos c3] at h
    refine cR_lift (fun _ _ kk => eE_iconst (v := 0) lk221_148 (by decide) kk) ?_
    exact k_Face_isAskable_b149_ok hp0 hL hF  g lv σ ((0 : Int32))  _ h
  · rw [if_neg c3] at h
    refine cR_lift (fun _ _ kk => eE_iconst (v := 1) lk221_144 (by decide) kk) ?_
    refine cR_lift (fun _ _ kk => eE_goto (t := 149) lk221_145 (by decide) kk) ?_
    exact k_Face_isAskable_b149_ok hp0 hL hF  g lv σ ((1 : Int32))  _ h
def k_Face_isAskable_b138  (σ : CS) (s0 : Int32) : Option (Int32) :=
  if s0 = 0 ∨ s0 = 1 then some s0 else none
set_option maxRecDepth 4000 in
theorem k_Face_isAskable_b138_ok {E : CE} {pF : Nat → List Value → xH → Option (Option Value × xH)} (hp0 : xNPc pF) (hL : lcAll E pF) (hF : lcF pF) {d : Nat}   : ∀ (g : CG) (lv : xL) (σ : CS) (s0 : Int32), ∀ res, k_Face_isAskable_b138  σ s0 = some res → cR E cQ1 pF (d + 0) kT221 15 5 (some FieldType.boolean) (some (.int res)) σ g σ (138, lv, [.int s0]) := by
  intro g lv σ s0 res h
  unfold k_Face_isAskable_b138 at h
  by_cases z4 : s0 = 0 ∨ s0 = 1
  · rw [if_pos z4] at h; cases h
    exact cR_end lk221_138 rfl rfl (by first | (simp only [xfin, if_true, if_pos z4]; done) | simp [xfin, z4])
  · rw [if_neg z4] at h; cases h
def k_Face_isAskable_b137  (σ : CS) : Option (Int32) :=
  k_Face_isAskable_b138  σ ((0 : Int32))
set_option maxRecDepth 4000 in
theorem k_Face_isAskable_b137_ok {E : CE} {pF : Nat → List Value → xH → Option (Option Value × xH)} (hp0 : xNPc pF) (hL : lcAll E pF) (hF : lcF pF) {d : Nat}   : ∀ (g : CG) (lv : xL) (σ : CS), ∀ res, k_Face_isAskable_b137  σ = some res → cR E cQ1 pF (d + 0) kT221 15 5 (some FieldType.boolean) (some (.int res)) σ g σ (137, lv, []) := by
  intro g lv σ res h
  unfold k_Face_isAskable_b137 at h
  refine cR_lift (fun _ _ kk => eE_iconst (v := 0) lk221_137 (by decide) kk) ?_
  exact k_Face_isAskable_b138_ok hp0 hL hF  g lv σ ((0 : Int32))  _ h
def k_Face_isAskable_b119  (σ : CS) (s0 : Int32) : Option (Int32) :=
  if s0 = 0 ∨ s0 = 1 then some s0 else none
set_option maxRecDepth 4000 in
theorem k_Face_isAskable_b119_ok {E : CE} {pF : Nat → List Value → xH → Option (Option Value × xH)} (hp0 : xNPc pF) (hL : lcAll E pF) (hF : lcF pF) {d : Nat}   : ∀ (g : CG) (lv : xL) (σ : CS) (s0 : Int32), ∀ res, k_Face_isAskable_b119  σ s0 = some res → cR E cQ1 pF (d + 0) kT221 15 5 (some FieldType.boolean) (some (.int res)) σ g σ (119, lv, [.int s0]) := by
  intro g lv σ s0 res h
  unfold k_Face_isAskable_b119 at h
  by_cases z5 : s0 = 0 ∨ s0 = 1
  · rw [if_pos z5] at h; cases h
    exact cR_end lk221_119 rfl rfl (by first | (simp only [xfin, if_true, if_pos z5]; done) | simp [xfin, z5])
  · rw [if_neg z5] at h; cases h
def k_Face_isAskable_b118  (σ : CS) : Option (Int32) :=
  k_Face_isAskable_b119  σ ((0 : Int32))
set_option maxRecDepth 4000 in
theorem k_Face_isAskable_b118_ok {E : CE} {pF : Nat → List Value → xH → Option (Option Value × xH)} (hp0 : xNPc pF) (hL : lcAll E pF) (hF : lcF pF) {d : Nat}   : ∀ (g : CG) (lv : xL) (σ : CS), ∀ res, k_Face_isAskable_b118  σ = some res → cR E cQ1 pF (d + 0) kT221 15 5 (some FieldType.boolean) (some (.int res)) σ g σ (118, lv, []) := by
  intro g lv σ res h
  unfold k_Face_isAskable_b118 at h
  refine cR_lift (fun _ _ kk => eE_iconst (v := 0) lk221_118 (by decide) kk) ?_
  exact k_Face_isAskable_b119_ok hp0 hL hF  g lv σ ((0 : Int32))  _ h
def k_Face_isAskable_b88  (σ : CS) (s0 : Int32) : Option (Int32) :=
  if s0 = 0 ∨ s0 = 1 then some s0 else none
set_option maxRecDepth 4000 in
theorem k_Face_isAskable_b88_ok {E : CE} {pF : Nat → List Value → xH → Option (Option Value × xH)} (hp0 : xNPc pF) (hL : lcAll E pF) (hF : lcF pF) {d : Nat}   : ∀ (g : CG) (lv : xL) (σ : CS) (s0 : Int32), ∀ res, k_Face_isAskable_b88  σ s0 = some res → cR E cQ1 pF (d + 0) kT221 15 5 (some FieldType.boolean) (some (.int res)) σ g σ (88, lv, [.int s0]) := by
  intro g lv σ s0 res h
  unfold k_Face_isAskable_b88 at h
  by_cases z6 : s0 = 0 ∨ s0 = 1
  · rw [if_pos z6] at h; cases h
    exact cR_end lk221_88 rfl rfl (by first | (simp only [xfin, if_true, if_pos z6]; done) | simp [xfin, z6])
  · rw [if_neg z6] at h; cases h
def k_Face_isAskable_b36  (σ : CS) (l0 : Int32) (l1 : Int32) (l2 : Int32) (l3 : Int32) : Option (Int32) :=
  if l0 = (0 : Int32) then (
    if xc2 .gt (l3 - l1) ((100 : Int32)) = true then (
      k_Face_isAskable_b88  σ ((0 : Int32))
    ) else (
      k_Face_isAskable_b88  σ ((1 : Int32))
    )
  ) else (
  if l0 = (1 : Int32) then (
    if xc0 .lt l2 = true then (
      k_Face_isAskable_b118  σ
    ) else (
      if xc2 .gt l2 ((100 : Int32)) = true then (
        k_Face_isAskable_b118  σ
      ) else (
        if xc2 .gt l2 (l3 - l1) = true then (
          k_Face_isAskable_b118  σ
        ) else (
          if xc2 .gt ((l3 - l1) - l2) ((100 : Int32)) = true then (
            k_Face_isAskable_b118  σ
          ) else (
            k_Face_isAskable_b119  σ ((1 : Int32))
          )
        )
      )
    )
  ) else (
  if l0 = (2 : Int32) then (
    k_Face_isAskable_b139  σ (l3 - l1)
  ) else (
  if l0 = (3 : Int32) then (
    k_Face_isAskable_b139  σ (l3 - l1)
  ) else (
  if l0 = (4 : Int32) then (
    if xc2 .lt (l3 - l1) ((1 : Int32)) = true then (
      k_Face_isAskable_b137  σ
    ) else (
      if xc2 .gt (l3 - l1) ((32 : Int32)) = true then (
        k_Face_isAskable_b137  σ
      ) else (
        k_Face_isAskable_b138  σ ((1 : Int32))
      )
    )
  ) else (
    k_Face_isAskable_b139  σ (l3 - l1)
  )
  )
  )
  )
  )
set_option maxRecDepth 4000 in
theorem k_Face_isAskable_b36_ok {E : CE} {pF : Nat → List Value → xH → Option (Option Value × xH)} (hp0 : xNPc pF) (hL : lcAll E pF) (hF : lcF pF) {d : Nat}   : ∀ (g : CG) (lv : xL) (σ : CS) (l0 : Int32) (l1 : Int32) (l2 : Int32) (l3 : Int32), (xg lv 0 = some (.int l0)) → (xg lv 1 = some (.int l1)) → (xg lv 2 = some (.int l2)) → (xg lv 3 = some (.int l3)) → ∀ res, k_Face_isAskable_b36  σ l0 l1 l2 l3 = some res → cR E cQ1 pF (d + 0) kT221 15 5 (some FieldType.boolean) (some (.int res)) σ g σ (36, lv, []) := by
  intro g lv σ l0 l1 l2 l3 g0 g1 g2 g3 res h
  unfold k_Face_isAskable_b36 at h
  refine cR_lift (fun _ _ kk => eE_iload_n lk221_36 g3 kk) ?_
  refine cR_lift (fun _ _ kk => eE_iload_n lk221_37 g1 kk) ?_
  refine cR_lift (fun _ _ kk => eE_isub lk221_38 kk) ?_
  refine cR_stI (j := 4) lk221_39 (Or.inl rfl) (by decide) (fun vq7 gq8 kq9 => ?_)
  have gq10 := kq9 0 _ (by decide) (fun e => absurd e (by decide)) g0
  have gq11 := kq9 2 _ (by decide) (fun e => absurd e (by decide)) g2
  refine cR_lift (fun _ _ kk => eE_iload_n lk221_41 gq10 kk) ?_
  by_cases c12 : l0 = (0 : Int32)
  · rw [if_pos c12] at h
    refine cR_tsw (t := 76) (off := 34) lk221_42 (by rw [c12]; decide) (by rw [c12]; rfl) (by decide) ?_
    refine cR_lift (fun _ _ kk => eE_iload lk221_76 gq8 kk) ?_
    refine cR_lift (fun _ _ kk => eE_bipush (v := 100) lk221_78 (by decide) kk) ?_
    refine cR_icmp (t := 87) lk221_80 (by decide) (fun c13 => ?_) (fun c13 => ?_)
    · rw [if_pos c13] at h
      refine cR_lift (fun _ _ kk => eE_iconst (v := 0) lk221_87 (by decide) kk) ?_
      exact k_Face_isAskable_b88_ok hp0 hL hF  g vq7 σ ((0 : Int32))  _ h
    · rw [if_neg c13] at h
      refine cR_lift (fun _ _ kk => eE_iconst (v := 1) lk221_83 (by decide) kk) ?_
      refine cR_lift (fun _ _ kk => eE_goto (t := 88) lk221_84 (by decide) kk) ?_
      exact k_Face_isAskable_b88_ok hp0 hL hF  g vq7 σ ((1 : Int32))  _ h
  rw [if_neg c12] at h
  by_cases c14 : l0 = (1 : Int32)
  · rw [if_pos c14] at h
    refine cR_tsw (t := 89) (off := 47) lk221_42 (by rw [c14]; decide) (by rw [c14]; rfl) (by decide) ?_
    refine cR_lift (fun _ _ kk => eE_iload_n lk221_89 gq11 kk) ?_
    refine cR_if (t := 118) lk221_90 (by decide) (fun c15 => ?_) (fun c15 => ?_)
    · rw [if_pos c15] at h
      exact k_Face_isAskable_b118_ok hp0 hL hF  g vq7 σ  _ h
    · rw [if_neg c15] at h
      refine cR_lift (fun _ _ kk => eE_iload_n lk221_93 gq11 kk) ?_
      refine cR_lift (fun _ _ kk => eE_bipush (v := 100) lk221_94 (by decide) kk) ?_
      refine cR_icmp (t := 118) lk221_96 (by decide) (fun c16 => ?_) (fun c16 => ?_)
      · rw [if_pos c16] at h
        exact k_Face_isAskable_b118_ok hp0 hL hF  g vq7 σ  _ h
      · rw [if_neg c16] at h
        refine cR_lift (fun _ _ kk => eE_iload_n lk221_99 gq11 kk) ?_
        refine cR_lift (fun _ _ kk => eE_iload lk221_100 gq8 kk) ?_
        refine cR_icmp (t := 118) lk221_102 (by decide) (fun c17 => ?_) (fun c17 => ?_)
        · rw [if_pos c17] at h
          exact k_Face_isAskable_b118_ok hp0 hL hF  g vq7 σ  _ h
        · rw [if_neg c17] at h
          refine cR_lift (fun _ _ kk => eE_iload lk221_105 gq8 kk) ?_
          refine cR_lift (fun _ _ kk => eE_iload_n lk221_107 gq11 kk) ?_
          refine cR_lift (fun _ _ kk => eE_isub lk221_108 kk) ?_
          refine cR_lift (fun _ _ kk => eE_bipush (v := 100) lk221_109 (by decide) kk) ?_
          refine cR_icmp (t := 118) lk221_111 (by decide) (fun c18 => ?_) (fun c18 => ?_)
          · rw [if_pos c18] at h
            exact k_Face_isAskable_b118_ok hp0 hL hF  g vq7 σ  _ h
          · rw [if_neg c18] at h
            refine cR_lift (fun _ _ kk => eE_iconst (v := 1) lk221_114 (by decide) kk) ?_
            refine cR_lift (fun _ _ kk => eE_goto (t := 119) lk221_115 (by decide) kk) ?_
            exact k_Face_isAskable_b119_ok hp0 hL hF  g vq7 σ ((1 : Int32))  _ h
  rw [if_neg c14] at h
  by_cases c19 : l0 = (2 : Int32)
  · rw [if_pos c19] at h
    refine cR_tsw (t := 139) (off := 97) lk221_42 (by rw [c19]; decide) (by rw [c19]; rfl) (by decide) ?_
    exact k_Face_isAskable_b139_ok hp0 hL hF  g vq7 σ (l3 - l1) gq8 _ h
  rw [if_neg c19] at h
  by_cases c20 : l0 = (3 : Int32)
  · rw [if_pos c20] at h
    refine cR_tsw (t := 139) (off := 97) lk221_42 (by rw [c20]; decide) (by rw [c20]; rfl) (by decide) ?_
    exact k_Face_isAskable_b139_ok hp0 hL hF  g vq7 σ (l3 - l1) gq8 _ h
  rw [if_neg c20] at h
  by_cases c21 : l0 = (4 : Int32)
  · rw [if_pos c21] at h
    refine cR_tsw (t := 120) (off := 78) lk221_42 (by rw [c21]; decide) (by rw [c21]; rfl) (by decide) ?_
    refine cR_lift (fun _ _ kk => eE_iload lk221_120 gq8 kk) ?_
    refine cR_lift (fun _ _ kk => eE_iconst (v := 1) lk221_122 (by decide) kk) ?_
    refine cR_icmp (t := 137) lk221_123 (by decide) (fun c22 => ?_) (fun c22 => ?_)
    · rw [if_pos c22] at h
      exact k_Face_isAskable_b137_ok hp0 hL hF  g vq7 σ  _ h
    · rw [if_neg c22] at h
      refine cR_lift (fun _ _ kk => eE_iload lk221_126 gq8 kk) ?_
      refine cR_lift (fun _ _ kk => eE_bipush (v := 32) lk221_128 (by decide) kk) ?_
      refine cR_icmp (t := 137) lk221_130 (by decide) (fun c23 => ?_) (fun c23 => ?_)
      · rw [if_pos c23] at h
        exact k_Face_isAskable_b137_ok hp0 hL hF  g vq7 σ  _ h
      · rw [if_neg c23] at h
        refine cR_lift (fun _ _ kk => eE_iconst (v := 1) lk221_133 (by decide) kk) ?_
        refine cR_lift (fun _ _ kk => eE_goto (t := 138) lk221_134 (by decide) kk) ?_
        exact k_Face_isAskable_b138_ok hp0 hL hF  g vq7 σ ((1 : Int32))  _ h
  rw [if_neg c21] at h
  refine cR_tswD (t := 139) lk221_42 (xsw_out (n := 5) (fun j hj => ?_)) (by decide) ?_
  · match j, hj with
    | 0, _ => exact c12
    | 1, _ => exact c14
    | 2, _ => exact c19
    | 3, _ => exact c20
    | 4, _ => exact c21
    | q + 5, hj => exact absurd hj (by omega)
  exact k_Face_isAskable_b139_ok hp0 hL hF  g vq7 σ (l3 - l1) gq8 _ h
def k_Face_isAskable_b0  (σ : CS) (l0 : Int32) (l1 : Int32) (l2 : Int32) (l3 : Int32) : Option (Int32) :=
  if xc0 .lt l0 = true then (
    k_Face_isAskable_b34  σ
  ) else (
    if xc2 .gt l0 ((5 : Int32)) = true then (
      k_Face_isAskable_b34  σ
    ) else (
      if xc2 .lt l1 ((1 : Int32)) = true then (
        k_Face_isAskable_b34  σ
      ) else (
        if xc2 .gt l1 ((32 : Int32)) = true then (
          k_Face_isAskable_b34  σ
        ) else (
          if xc2 .gt l1 l3 = true then (
            k_Face_isAskable_b34  σ
          ) else (
            if xc0 .eq l2 = true then (
              k_Face_isAskable_b36  σ l0 l1 l2 l3
            ) else (
              if xc2 .eq l0 ((1 : Int32)) = true then (
                k_Face_isAskable_b36  σ l0 l1 l2 l3
              ) else (
                k_Face_isAskable_b34  σ
              )
            )
          )
        )
      )
    )
  )
set_option maxRecDepth 4000 in
theorem k_Face_isAskable_b0_ok {E : CE} {pF : Nat → List Value → xH → Option (Option Value × xH)} (hp0 : xNPc pF) (hL : lcAll E pF) (hF : lcF pF) {d : Nat}   : ∀ (g : CG) (lv : xL) (σ : CS) (l0 : Int32) (l1 : Int32) (l2 : Int32) (l3 : Int32), (xg lv 0 = some (.int l0)) → (xg lv 1 = some (.int l1)) → (xg lv 2 = some (.int l2)) → (xg lv 3 = some (.int l3)) → ∀ res, k_Face_isAskable_b0  σ l0 l1 l2 l3 = some res → cR E cQ1 pF (d + 0) kT221 15 5 (some FieldType.boolean) (some (.int res)) σ g σ (0, lv, []) := by
  intro g lv σ l0 l1 l2 l3 g0 g1 g2 g3 res h
  unfold k_Face_isAskable_b0 at h
  refine cR_lift (fun _ _ kk => eE_iload_n lk221_0 g0 kk) ?_
  refine cR_if (t := 34) lk221_1 (by decide) (fun c24 => ?_) (fun c24 => ?_)
  · rw [if_pos c24] at h
    exact k_Face_isAskable_b34_ok hp0 hL hF  g lv σ  _ h
  · rw [if_neg c24] at h
    refine cR_lift (fun _ _ kk => eE_iload_n lk221_4 g0 kk) ?_
    refine cR_lift (fun _ _ kk => eE_iconst (v := 5) lk221_5 (by decide) kk) ?_
    refine cR_icmp (t := 34) lk221_6 (by decide) (fun c25 => ?_) (fun c25 => ?_)
    · rw [if_pos c25] at h
      exact k_Face_isAskable_b34_ok hp0 hL hF  g lv σ  _ h
    · rw [if_neg c25] at h
      refine cR_lift (fun _ _ kk => eE_iload_n lk221_9 g1 kk) ?_
      refine cR_lift (fun _ _ kk => eE_iconst (v := 1) lk221_10 (by decide) kk) ?_
      refine cR_icmp (t := 34) lk221_11 (by decide) (fun c26 => ?_) (fun c26 => ?_)
      · rw [if_pos c26] at h
        exact k_Face_isAskable_b34_ok hp0 hL hF  g lv σ  _ h
      · rw [if_neg c26] at h
        refine cR_lift (fun _ _ kk => eE_iload_n lk221_14 g1 kk) ?_
        refine cR_lift (fun _ _ kk => eE_bipush (v := 32) lk221_15 (by decide) kk) ?_
        refine cR_icmp (t := 34) lk221_17 (by decide) (fun c27 => ?_) (fun c27 => ?_)
        · rw [if_pos c27] at h
          exact k_Face_isAskable_b34_ok hp0 hL hF  g lv σ  _ h
        · rw [if_neg c27] at h
          refine cR_lift (fun _ _ kk => eE_iload_n lk221_20 g1 kk) ?_
          refine cR_lift (fun _ _ kk => eE_iload_n lk221_21 g3 kk) ?_
          refine cR_icmp (t := 34) lk221_22 (by decide) (fun c28 => ?_) (fun c28 => ?_)
          · rw [if_pos c28] at h
            exact k_Face_isAskable_b34_ok hp0 hL hF  g lv σ  _ h
          · rw [if_neg c28] at h
            refine cR_lift (fun _ _ kk => eE_iload_n lk221_25 g2 kk) ?_
            refine cR_if (t := 36) lk221_26 (by decide) (fun c29 => ?_) (fun c29 => ?_)
            · rw [if_pos c29] at h
              exact k_Face_isAskable_b36_ok hp0 hL hF  g lv σ l0 l1 l2 l3 g0 g1 g2 g3 _ h
            · rw [if_neg c29] at h
              refine cR_lift (fun _ _ kk => eE_iload_n lk221_29 g0 kk) ?_
              refine cR_lift (fun _ _ kk => eE_iconst (v := 1) lk221_30 (by decide) kk) ?_
              refine cR_icmp (t := 36) lk221_31 (by decide) (fun c30 => ?_) (fun c30 => ?_)
              · rw [if_pos c30] at h
                exact k_Face_isAskable_b36_ok hp0 hL hF  g lv σ l0 l1 l2 l3 g0 g1 g2 g3 _ h
              · rw [if_neg c30] at h
                exact k_Face_isAskable_b34_ok hp0 hL hF  g lv σ  _ h
def k_Face_isAskable (σ : CS) (l0 : Int32) (l1 : Int32) (l2 : Int32) (l3 : Int32) : Option (Int32) := k_Face_isAskable_b0 σ l0 l1 l2 l3
theorem k_Face_isAskable_ok {E : CE} {pF : Nat → List Value → xH → Option (Option Value × xH)} (hp0 : xNPc pF) (hL : lcAll E pF) (hF : lcF pF) {d : Nat} {g : CG} {σ : CS} {l0 : Int32} {l1 : Int32} {l2 : Int32} {l3 : Int32} {res : Int32}  (h : k_Face_isAskable σ l0 l1 l2 l3 = some res) : cCo E cQ1 pF (d + 1) 221 [.int l0, .int l1, .int l2, .int l3] (some (.int res)) σ g σ :=
  cCo_R kk_221 mo_221 ni_221 xm_221 (Nat.le_of_ble_eq_true rfl) (hp0 221 (by decide) _) (k_Face_isAskable_b0_ok hp0 hL hF g _ σ l0 l1 l2 l3 rfl rfl rfl rfl _ h)
/-! k_Askings_addBytes_15_4 (16), depth 2 -/
def k_Askings_addBytes_15_4_b33  (σ : CS) (l0 : Nat) (l1 : Int32) (l2 : Nat) (l3 : Int32) : Option (CS) :=
  (ccpy σ 15 l2 4 ((0 : Int32)) 4 l0 3 (cI σ 4 l0 4 0) l3).bind fun σ1 =>
  (some (csI σ1 4 l0 4 0 ((cI σ1 4 l0 4 0) + l3))).bind fun σ3 =>
  (cwr σ3 4 l0 2 ((l1 * ((10 : Int32))) + ((9 : Int32))) l3).bind fun σ5 =>
  some σ5
set_option maxRecDepth 4000 in
theorem k_Askings_addBytes_15_4_b33_ok {E : CE} {pF : Nat → List Value → xH → Option (Option Value × xH)} (hp0 : xNPc pF) (hL : lcAll E pF) (hF : lcF pF) {d : Nat}   : ∀ (g : CG) (lv : xL) (σ : CS) (l0 : Nat) (l1 : Int32) (l2 : Nat) (l3 : Int32), (cob σ 4 l0) → (cob σ 15 l2) → (xg lv 0 = some (.ref (coa E 4 l0))) → (xg lv 1 = some (.int l1)) → (xg lv 2 = some (.ref (caa E 15 l2 4))) → (xg lv 3 = some (.int l3)) → ∀ res, k_Askings_addBytes_15_4_b33  σ l0 l1 l2 l3 = some res → cR E (cQx [4]) pF (d + 1) kT16 4 4 none none res g σ (33, lv, []) := by
  intro g lv σ l0 l1 l2 l3 bl0 bl2 g0 g1 g2 g3 res h
  unfold k_Askings_addBytes_15_4_b33 at h
  refine cR_lift (fun _ _ kk => eE_aload_n lk16_33 g2 kk) ?_
  refine cR_lift (fun _ _ kk => eE_iconst (v := 0) lk16_34 (by decide) kk) ?_
  refine cR_lift (fun _ _ kk => eE_aload_n lk16_35 g0 kk) ?_
  refine cR_getA lk16_36 rf_4_15 (by decide) bl0 ?_
  refine cR_lift (fun _ _ kk => eE_aload_n lk16_39 g0 kk) ?_
  refine cR_getI lk16_40 rf_4_32 rfl bl0 ?_
  refine cR_lift (fun _ _ kk => eE_iload_n lk16_43 g3 kk) ?_
  obtain ⟨σ1, h2, h⟩ := Option.bind_eq_some_iff.mp h
  refine cR_cpy (a := 15) (i := l2) (f := 4) (a' := 4) (i' := l0) (f' := 3) lk16_44 yc_4_38.1 yc_4_38.2 (by decide) (by decide) (by decide) bl2 bl0 (by first | exact Nat.le_of_ble_eq_true rfl | (simp [xcat, cvo_cat, cat_i, cat_j, cat_r]; done)) h2 ?_
  refine cR_lift (fun _ _ kk => eE_aload_n lk16_47 g0 kk) ?_
  refine cR_lift (fun _ _ kk => eE_dup lk16_48 rfl kk) ?_
  refine cR_getI lk16_49 rf_4_32 rfl (cob_any rfl bl0) ?_
  refine cR_lift (fun _ _ kk => eE_iload_n lk16_52 g3 kk) ?_
  refine cR_lift (fun _ _ kk => eE_iadd lk16_53 kk) ?_
  obtain ⟨σ3, h4, h⟩ := Option.bind_eq_some_iff.mp h
  refine cR_putI lk16_54 rf_4_32 rfl (cob_any rfl bl0) pf_4_4 rfl h4 ?_
  refine cR_lift (fun _ _ kk => eE_aload_n lk16_57 g0 kk) ?_
  refine cR_getA lk16_58 rf_4_11 (by decide) (cob_any rfl bl0) ?_
  refine cR_lift (fun _ _ kk => eE_iload_n lk16_61 g1 kk) ?_
  refine cR_lift (fun _ _ kk => eE_bipush (v := 10) lk16_62 (by decide) kk) ?_
  refine cR_lift (fun _ _ kk => eE_imul lk16_64 kk) ?_
  refine cR_lift (fun _ _ kk => eE_bipush (v := 9) lk16_65 (by decide) kk) ?_
  refine cR_lift (fun _ _ kk => eE_iadd lk16_67 kk) ?_
  refine cR_lift (fun _ _ kk => eE_iload_n lk16_68 g3 kk) ?_
  obtain ⟨σ5, h6, h⟩ := Option.bind_eq_some_iff.mp h
  refine cR_iast (cl := 4) (i := l0) (f := 2) lk16_69 (by decide) rfl (cob_any rfl bl0) h6 ?_
  cases h
  exact cR_end lk16_70 rfl rfl rfl
def k_Askings_addBytes_15_4_b0  (σ : CS) (l0 : Nat) (l1 : Int32) (l2 : Nat) (l3 : Int32) : Option (CS) :=
  if xc2 .ge (Int32.ofNat (cal σ 4 l0 3)) ((cI σ 4 l0 4 0) + l3) = true then (
    k_Askings_addBytes_15_4_b33  σ l0 l1 l2 l3
  ) else (
    (cext σ 4 l0 3 (((2 : Int32)) * ((cI σ 4 l0 4 0) + l3))).bind fun σ8 =>
    k_Askings_addBytes_15_4_b33  σ8 l0 l1 l2 l3
  )
set_option maxRecDepth 4000 in
theorem k_Askings_addBytes_15_4_b0_ok {E : CE} {pF : Nat → List Value → xH → Option (Option Value × xH)} (hp0 : xNPc pF) (hL : lcAll E pF) (hF : lcF pF) {d : Nat}   : ∀ (g : CG) (lv : xL) (σ : CS) (l0 : Nat) (l1 : Int32) (l2 : Nat) (l3 : Int32), (cob σ 4 l0) → (cob σ 15 l2) → (xg lv 0 = some (.ref (coa E 4 l0))) → (xg lv 1 = some (.int l1)) → (xg lv 2 = some (.ref (caa E 15 l2 4))) → (xg lv 3 = some (.int l3)) → ∀ res, k_Askings_addBytes_15_4_b0  σ l0 l1 l2 l3 = some res → cR E (cQx [4]) pF (d + 1) kT16 4 4 none none res g σ (0, lv, []) := by
  intro g lv σ l0 l1 l2 l3 bl0 bl2 g0 g1 g2 g3 res h
  unfold k_Askings_addBytes_15_4_b0 at h
  refine cR_lift (fun _ _ kk => eE_aload_n lk16_0 g0 kk) ?_
  refine cR_getA lk16_1 rf_4_15 (by decide) bl0 ?_
  refine cR_alen (cl := 4) (i := l0) (f := 3) lk16_4 (by decide) (by decide) bl0 ?_
  refine cR_lift (fun _ _ kk => eE_aload_n lk16_5 g0 kk) ?_
  refine cR_getI lk16_6 rf_4_32 rfl bl0 ?_
  refine cR_lift (fun _ _ kk => eE_iload_n lk16_9 g3 kk) ?_
  refine cR_lift (fun _ _ kk => eE_iadd lk16_10 kk) ?_
  refine cR_icmp (t := 33) lk16_11 (by decide) (fun c7 => ?_) (fun c7 => ?_)
  · rw [if_pos c7] at h
    exact k_Askings_addBytes_15_4_b33_ok hp0 hL hF  g lv σ l0 l1 l2 l3 bl0 bl2 g0 g1 g2 g3 _ h
  · rw [if_neg c7] at h
    refine cR_lift (fun _ _ kk => eE_aload_n lk16_14 g0 kk) ?_
    refine cR_lift (fun _ _ kk => eE_aload_n lk16_15 g0 kk) ?_
    refine cR_getA lk16_16 rf_4_15 (by decide) bl0 ?_
    refine cR_lift (fun _ _ kk => eE_iconst (v := 2) lk16_19 (by decide) kk) ?_
    refine cR_lift (fun _ _ kk => eE_aload_n lk16_20 g0 kk) ?_
    refine cR_getI lk16_21 rf_4_32 rfl bl0 ?_
    refine cR_lift (fun _ _ kk => eE_iload_n lk16_24 g3 kk) ?_
    refine cR_lift (fun _ _ kk => eE_iadd lk16_25 kk) ?_
    refine cR_lift (fun _ _ kk => eE_imul lk16_26 kk) ?_
    obtain ⟨σ8, h9, h⟩ := Option.bind_eq_some_iff.mp h
    refine cR_cpyG392 (d := d + 0) (cl := 4) (i := l0) (f := 3) lk16_27 lk16_30 mr_4_35 (by first | exact Nat.le_of_ble_eq_true rfl | (simp [xcat, cvo_cat, cat_i, cat_j, cat_r]; done)) (hp0 392 (by decide)) rfl rf_4_15 rfl bl0 pf_4_3 h9 (by decide) (fun g_10 g_10e => ?_)
    exact k_Askings_addBytes_15_4_b33_ok hp0 hL hF  g_10 lv σ8 l0 l1 l2 l3 (cob_any rfl bl0) (cob_any rfl bl2) g0 g1 g2 g3 _ h
def k_Askings_addBytes_15_4 (σ : CS) (l0 : Nat) (l1 : Int32) (l2 : Nat) (l3 : Int32) : Option (CS) := k_Askings_addBytes_15_4_b0 σ l0 l1 l2 l3
theorem k_Askings_addBytes_15_4_ok {E : CE} {pF : Nat → List Value → xH → Option (Option Value × xH)} (hp0 : xNPc pF) (hL : lcAll E pF) (hF : lcF pF) {d : Nat} {g : CG} {σ : CS} {l0 : Nat} {l1 : Int32} {l2 : Nat} {l3 : Int32} {res : CS} (bl0 : cob σ 4 l0) (bl2 : cob σ 15 l2) (h : k_Askings_addBytes_15_4 σ l0 l1 l2 l3 = some res) : cCo E (cQx [4]) pF (d + 2) 16 [.ref (coa E 4 l0), .int l1, .ref (caa E 15 l2 4), .int l3] none res g σ :=
  cCo_R kk_16 mo_16 ni_16 xm_16 (Nat.le_of_ble_eq_true rfl) (hp0 16 (by decide) _) (k_Askings_addBytes_15_4_b0_ok hp0 hL hF g _ σ l0 l1 l2 l3 bl0 bl2 rfl rfl rfl rfl _ h)
/-! k_Face_ask (204), depth 14 -/
def k_Face_ask_b59 (F : Nat)  (σ : CS) : Option ((Int32) × CS) :=
  none
set_option maxRecDepth 4000 in
theorem k_Face_ask_b59_ok {E : CE} {pF : Nat → List Value → xH → Option (Option Value × xH)} (hp0 : xNPc pF) (hL : lcAll E pF) (hF : lcF pF) {d : Nat} {F : Nat}   : ∀ (g : CG) (lv : xL) (σ : CS), ∀ res, k_Face_ask_b59 F  σ = some res → cR E (cQx [4, 14]) pF (d + 13) kT204 15 8 (some FieldType.int) (some (.int res.1)) res.2 g σ (59, lv, []) := by
  intro g lv σ res h
  unfold k_Face_ask_b59 at h
  cases h
def k_Face_ask_b0 (F : Nat)  (σ : CS) (l0 : Nat) (l1 : Int32) (l2 : Int32) (l3 : Int32) (l4 : Int32) : Option ((Int32) × CS) :=
  (some (csI σ 15 l0 5 0 ((0 : Int32)))).bind fun σ9 =>
  (k_Face_asker σ9 l0 l1).bind fun p11 =>
  (k_Face_isAskable σ9 l2 l3 l4 (cI σ 15 l0 5 0)).bind fun p24 =>
  if xc0 .ne p24 = true then (
    if xc0 .ne (cI σ9 5 p11 3 0) = true then (
      k_Face_ask_b59 F  σ9
    ) else (
      if xc2 .lt (cI σ9 4 0 0 0) ((1024 : Int32)) = true then (
        (k_Askings_add σ9 0 l1 l2 l3 l4).bind fun p30 =>
        (k_Askings_addBytes_15_4 p30.2 0 p30.1 l0 (cI σ 15 l0 5 0)).bind fun p40 =>
        (k_Client_begin F p40 p11 p30.1).bind fun p44 =>
        some (p30.1, p44)
      ) else (
        k_Face_ask_b59 F  σ9
      )
    )
  ) else (
    none
  )
set_option maxRecDepth 4000 in
theorem k_Face_ask_b0_ok {E : CE} {pF : Nat → List Value → xH → Option (Option Value × xH)} (hp0 : xNPc pF) (hL : lcAll E pF) (hF : lcF pF) {d : Nat} {F : Nat}   : ∀ (g : CG) (lv : xL) (σ : CS) (l0 : Nat) (l1 : Int32) (l2 : Int32) (l3 : Int32) (l4 : Int32), (cob σ 15 l0) → (xg lv 0 = some (.ref (coa E 15 l0))) → (xg lv 1 = some (.int l1)) → (xg lv 2 = some (.int l2)) → (xg lv 3 = some (.int l3)) → (xg lv 4 = some (.int l4)) → ∀ res, k_Face_ask_b0 F  σ l0 l1 l2 l3 l4 = some res → cR E (cQx [4, 14]) pF (d + 13) kT204 15 8 (some FieldType.int) (some (.int res.1)) res.2 g σ (0, lv, []) := by
  intro g lv σ l0 l1 l2 l3 l4 bl0 g0 g1 g2 g3 g4 res h
  unfold k_Face_ask_b0 at h
  refine cR_lift (fun _ _ kk => eE_aload_n lk204_0 g0 kk) ?_
  refine cR_getI lk204_1 rf_15_63 rfl bl0 ?_
  refine cR_stI (j := 5) lk204_4 (Or.inl rfl) (by decide) (fun vq1 gq2 kq3 => ?_)
  have gq4 := kq3 0 _ (by decide) (fun e => absurd e (by decide)) g0
  have gq5 := kq3 1 _ (by decide) (fun e => absurd e (by decide)) g1
  have gq6 := kq3 2 _ (by decide) (fun e => absurd e (by decide)) g2
  have gq7 := kq3 3 _ (by decide) (fun e => absurd e (by decide)) g3
  have gq8 := kq3 4 _ (by decide) (fun _ => rfl) g4
  refine cR_lift (fun _ _ kk => eE_aload_n lk204_6 gq4 kk) ?_
  refine cR_lift (fun _ _ kk => eE_iconst (v := 0) lk204_7 (by decide) kk) ?_
  obtain ⟨σ9, h10, h⟩ := Option.bind_eq_some_iff.mp h
  refine cR_putI lk204_8 rf_15_63 rfl bl0 pf_15_5 rfl h10 ?_
  refine cR_lift (fun _ _ kk => eE_aload_n lk204_11 gq4 kk) ?_
  refine cR_lift (fun _ _ kk => eE_iload_n lk204_12 gq5 kk) ?_
  obtain ⟨p11, h12, h⟩ := Option.bind_eq_some_iff.mp h
  refine cR_rep (fun _ hc => k_Face_asker_lt hc (cob_any rfl bl0) h12) (fun b13 => ?_)
  refine cR_virt (cl := 15) (i := l0) (as := [.int l1]) lk204_13 mr_15_76 na_205 rfl rfl (by first | exact Nat.le_of_ble_eq_true rfl | (simp [xcat, cvo_cat, cat_i, cat_j, cat_r]; done)) wv_205 wc_205 (cob_any rfl bl0) (k_Face_asker_ok hp0 hL hF (d := d + 12) (cob_any rfl bl0) h12) (fun m14  => ?_)
  refine cR_stA (j := 6) lk204_16 (Or.inl rfl) (by decide) (fun vq15 gq16 kq17 => ?_)
  have gq18 := kq17 0 _ (by decide) (fun e => absurd e (by decide)) gq4
  have gq19 := kq17 1 _ (by decide) (fun e => absurd e (by decide)) gq5
  have gq20 := kq17 2 _ (by decide) (fun e => absurd e (by decide)) gq6
  have gq21 := kq17 3 _ (by decide) (fun e => absurd e (by decide)) gq7
  have gq22 := kq17 4 _ (by decide) (fun e => absurd e (by decide)) gq8
  have gq23 := kq17 5 _ (by decide) (fun _ => rfl) gq2
  refine cR_lift (fun _ _ kk => eE_iload_n lk204_18 gq20 kk) ?_
  refine cR_lift (fun _ _ kk => eE_iload_n lk204_19 gq21 kk) ?_
  refine cR_lift (fun _ _ kk => eE_iload lk204_20 gq22 kk) ?_
  refine cR_lift (fun _ _ kk => eE_iload lk204_22 gq23 kk) ?_
  obtain ⟨p24, h25, h⟩ := Option.bind_eq_some_iff.mp h
  refine cR_stat (as := [.int l2, .int l3, .int l4, .int (cI σ 15 l0 5 0)]) lk204_24 mr_15_80 na_221 rfl rfl (by first | exact Nat.le_of_ble_eq_true rfl | (simp [xcat, cvo_cat, cat_i, cat_j, cat_r]; done)) mm_221 ws_221 (k_Face_isAskable_ok hp0 hL hF (d := d + 12)  h25) (fun m26 => ?_)
  refine cR_if (t := 38) lk204_27 (by decide) (fun c27 => ?_) (fun c27 => ?_)
  · rw [if_pos c27] at h
    refine cR_lift (fun _ _ kk => eE_aload lk204_38 gq16 kk) ?_
    refine cR_getI lk204_40 rf_15_84 rfl b13 ?_
    refine cR_if (t := 59) lk204_43 (by decide) (fun c28 => ?_) (fun c28 => ?_)
    · rw [if_pos c28] at h
      exact k_Face_ask_b59_ok hp0 hL hF  g vq15 σ9  _ h
    · rw [if_neg c28] at h
      refine cR_lift (fun _ _ kk => eE_aload_n lk204_46 gq18 kk) ?_
      refine cR_getO (cl' := 4) (i' := 0) lk204_47 rf_15_49 rfl rfl (cob_any rfl bl0) ?_
      refine cR_getI lk204_50 rf_15_88 rfl (cob_0 (c := σ9) (cl := 4) (by decide) rfl rfl) ?_
      refine cR_lift (fun _ _ kk => eE_sipush (v := 1024) lk204_53 (by decide) kk) ?_
      refine cR_icmp (t := 67) lk204_56 (by decide) (fun c29 => ?_) (fun c29 => ?_)
      · rw [if_pos c29] at h
        refine cR_lift (fun _ _ kk => eE_aload_n lk204_67 gq18 kk) ?_
        refine cR_getO (cl' := 4) (i' := 0) lk204_68 rf_15_49 rfl rfl (cob_any rfl bl0) ?_
        refine cR_lift (fun _ _ kk => eE_iload_n lk204_71 gq19 kk) ?_
        refine cR_lift (fun _ _ kk => eE_iload_n lk204_72 gq20 kk) ?_
        refine cR_lift (fun _ _ kk => eE_iload_n lk204_73 gq21 kk) ?_
        refine cR_lift (fun _ _ kk => eE_iload lk204_74 gq22 kk) ?_
        obtain ⟨p30, h31, h⟩ := Option.bind_eq_some_iff.mp h
        refine cR_virtG (by exact cQx_sub rfl) (cl := 4) (i := 0) (as := [.int l1, .int l2, .int l3, .int l4]) lk204_76 mr_15_91 na_15 rfl rfl (by first | exact Nat.le_of_ble_eq_true rfl | (simp [xcat, cvo_cat, cat_i, cat_j, cat_r]; done)) wv_15 wc_15 (cob_0 (c := σ9) (cl := 4) (by decide) rfl rfl) (k_Askings_add_ok hp0 hL hF (d := d + 11) (cob_0 (c := σ9) (cl := 4) (by decide) rfl rfl) h31) (fun m32 g_33 g_33e => ?_)
        refine cR_stI (j := 7) lk204_79 (Or.inl rfl) (by decide) (fun vq34 gq35 kq36 => ?_)
        have gq37 := kq36 0 _ (by decide) (fun e => absurd e (by decide)) gq18
        have gq38 := kq36 5 _ (by decide) (fun e => absurd e (by decide)) gq23
        have gq39 := kq36 6 _ (by decide) (fun _ => rfl) gq16
        refine cR_lift (fun _ _ kk => eE_aload_n lk204_81 gq37 kk) ?_
        refine cR_getO (cl' := 4) (i' := 0) lk204_82 rf_15_49 rfl rfl (cob_any rfl bl0) ?_
        refine cR_lift (fun _ _ kk => eE_iload lk204_85 gq35 kk) ?_
        refine cR_lift (fun _ _ kk => eE_aload_n lk204_87 gq37 kk) ?_
        refine cR_getA lk204_88 rf_15_21 (by decide) (cob_any rfl bl0) ?_
        refine cR_lift (fun _ _ kk => eE_iload lk204_91 gq38 kk) ?_
        obtain ⟨p40, h41, h⟩ := Option.bind_eq_some_iff.mp h
        refine cR_virtG (by exact cQx_sub rfl) (cl := 4) (i := 0) (as := [.int p30.1, .ref (caa E 15 l0 4), .int (cI σ 15 l0 5 0)]) lk204_93 mr_15_95 na_16 rfl rfl (by first | exact Nat.le_of_ble_eq_true rfl | (simp [xcat, cvo_cat, cat_i, cat_j, cat_r]; done)) wv_16 wc_16 (cob_0 (c := p30.2) (cl := 4) (by decide) rfl rfl) (k_Askings_addBytes_15_4_ok hp0 hL hF (d := d + 11) (cob_0 (c := p30.2) (cl := 4) (by decide) rfl rfl) (cob_any rfl bl0) h41) (fun m42 g_43 g_43e => ?_)
        refine cR_lift (fun _ _ kk => eE_aload lk204_96 gq39 kk) ?_
        refine cR_lift (fun _ _ kk => eE_iload lk204_98 gq35 kk) ?_
        obtain ⟨p44, h45, h⟩ := Option.bind_eq_some_iff.mp h
        refine cR_virtG (by exact cQx_sub rfl) (cl := 5) (i := p11) (as := [.int p30.1]) lk204_100 mr_15_99 na_21 rfl rfl (by first | exact Nat.le_of_ble_eq_true rfl | (simp [xcat, cvo_cat, cat_i, cat_j, cat_r]; done)) wv_21 wc_21 (cob_any rfl b13) (k_Client_begin_ok hp0 hL hF (d := d + 0) (cob_any rfl b13) h45) (fun m46 g_47 g_47e => ?_)
        refine cR_lift (fun _ _ kk => eE_iload lk204_103 gq35 kk) ?_
        cases h
        exact cR_end lk204_105 rfl rfl rfl
      · rw [if_neg c29] at h
        exact k_Face_ask_b59_ok hp0 hL hF  g vq15 σ9  _ h
  · rw [if_neg c27] at h
    cases h
def k_Face_ask (F : Nat) (σ : CS) (l0 : Nat) (l1 : Int32) (l2 : Int32) (l3 : Int32) (l4 : Int32) : Option ((Int32) × CS) := k_Face_ask_b0 F σ l0 l1 l2 l3 l4
theorem k_Face_ask_ok {E : CE} {pF : Nat → List Value → xH → Option (Option Value × xH)} (hp0 : xNPc pF) (hL : lcAll E pF) (hF : lcF pF) {d : Nat} {g : CG} {σ : CS} {F : Nat} {l0 : Nat} {l1 : Int32} {l2 : Int32} {l3 : Int32} {l4 : Int32} {res : (Int32) × CS} (bl0 : cob σ 15 l0) (h : k_Face_ask F σ l0 l1 l2 l3 l4 = some res) : cCo E (cQx [4, 14]) pF (d + 14) 204 [.ref (coa E 15 l0), .int l1, .int l2, .int l3, .int l4] (some (.int res.1)) res.2 g σ :=
  cCo_R kk_204 mo_204 ni_204 xm_204 (Nat.le_of_ble_eq_true rfl) (hp0 204 (by decide) _) (k_Face_ask_b0_ok hp0 hL hF g _ σ l0 l1 l2 l3 l4 bl0 rfl rfl rfl rfl rfl _ h)
/-! k_Face_byteAt (206), depth 1 -/
def k_Face_byteAt_b12  (σ : CS) : Option (Int32) :=
  none
set_option maxRecDepth 4000 in
theorem k_Face_byteAt_b12_ok {E : CE} {pF : Nat → List Value → xH → Option (Option Value × xH)} (hp0 : xNPc pF) (hL : lcAll E pF) (hF : lcF pF) {d : Nat}   : ∀ (g : CG) (lv : xL) (σ : CS), ∀ res, k_Face_byteAt_b12  σ = some res → cR E cQ1 pF (d + 0) kT206 15 2 (some FieldType.int) (some (.int res)) σ g σ (12, lv, []) := by
  intro g lv σ res h
  unfold k_Face_byteAt_b12 at h
  cases h
def k_Face_byteAt_b0  (σ : CS) (l0 : Nat) (l1 : Int32) : Option (Int32) :=
  if xc0 .lt l1 = true then (
    k_Face_byteAt_b12  σ
  ) else (
    if xc2 .lt l1 (cI σ 15 l0 7 0) = true then (
      (crd σ 15 l0 6 l1).bind fun x3 =>
      some (x3 &&& ((255 : Int32)))
    ) else (
      k_Face_byteAt_b12  σ
    )
  )
set_option maxRecDepth 4000 in
theorem k_Face_byteAt_b0_ok {E : CE} {pF : Nat → List Value → xH → Option (Option Value × xH)} (hp0 : xNPc pF) (hL : lcAll E pF) (hF : lcF pF) {d : Nat}   : ∀ (g : CG) (lv : xL) (σ : CS) (l0 : Nat) (l1 : Int32), (cob σ 15 l0) → (xg lv 0 = some (.ref (coa E 15 l0))) → (xg lv 1 = some (.int l1)) → ∀ res, k_Face_byteAt_b0  σ l0 l1 = some res → cR E cQ1 pF (d + 0) kT206 15 2 (some FieldType.int) (some (.int res)) σ g σ (0, lv, []) := by
  intro g lv σ l0 l1 bl0 g0 g1 res h
  unfold k_Face_byteAt_b0 at h
  refine cR_lift (fun _ _ kk => eE_iload_n lk206_0 g1 kk) ?_
  refine cR_if (t := 12) lk206_1 (by decide) (fun c1 => ?_) (fun c1 => ?_)
  · rw [if_pos c1] at h
    exact k_Face_byteAt_b12_ok hp0 hL hF  g lv σ  _ h
  · rw [if_neg c1] at h
    refine cR_lift (fun _ _ kk => eE_iload_n lk206_4 g1 kk) ?_
    refine cR_lift (fun _ _ kk => eE_aload_n lk206_5 g0 kk) ?_
    refine cR_getI lk206_6 rf_15_242 rfl bl0 ?_
    refine cR_icmp (t := 20) lk206_9 (by decide) (fun c2 => ?_) (fun c2 => ?_)
    · rw [if_pos c2] at h
      refine cR_lift (fun _ _ kk => eE_aload_n lk206_20 g0 kk) ?_
      refine cR_getA lk206_21 rf_15_25 (by decide) bl0 ?_
      refine cR_lift (fun _ _ kk => eE_iload_n lk206_24 g1 kk) ?_
      obtain ⟨x3, h4, h⟩ := Option.bind_eq_some_iff.mp h
      refine cR_bald (cl := 15) (i := l0) (f := 6) lk206_25 (by decide) (Or.inl rfl) bl0 h4 ?_
      refine cR_lift (fun _ _ kk => eE_sipush (v := 255) lk206_26 (by decide) kk) ?_
      refine cR_lift (fun _ _ kk => eE_iand lk206_29 kk) ?_
      cases h
      exact cR_end lk206_30 rfl rfl rfl
    · rw [if_neg c2] at h
      exact k_Face_byteAt_b12_ok hp0 hL hF  g lv σ  _ h
def k_Face_byteAt (σ : CS) (l0 : Nat) (l1 : Int32) : Option (Int32) := k_Face_byteAt_b0 σ l0 l1
theorem k_Face_byteAt_ok {E : CE} {pF : Nat → List Value → xH → Option (Option Value × xH)} (hp0 : xNPc pF) (hL : lcAll E pF) (hF : lcF pF) {d : Nat} {g : CG} {σ : CS} {l0 : Nat} {l1 : Int32} {res : Int32} (bl0 : cob σ 15 l0) (h : k_Face_byteAt σ l0 l1 = some res) : cCo E cQ1 pF (d + 1) 206 [.ref (coa E 15 l0), .int l1] (some (.int res)) σ g σ :=
  cCo_R kk_206 mo_206 ni_206 xm_206 (Nat.le_of_ble_eq_true rfl) (hp0 206 (by decide) _) (k_Face_byteAt_b0_ok hp0 hL hF g _ σ l0 l1 bl0 rfl rfl _ h)
/-! k_Face_client (207), depth 2 -/
def k_Face_client_b56  (σ : CS) (s0 : Int32) : Option (Int32) :=
  some s0
set_option maxRecDepth 4000 in
theorem k_Face_client_b56_ok {E : CE} {pF : Nat → List Value → xH → Option (Option Value × xH)} (hp0 : xNPc pF) (hL : lcAll E pF) (hF : lcF pF) {d : Nat}   : ∀ (g : CG) (lv : xL) (σ : CS) (s0 : Int32), ∀ res, k_Face_client_b56  σ s0 = some res → cR E cQ1 pF (d + 1) kT207 15 4 (some FieldType.int) (some (.int res)) σ g σ (56, lv, [.int s0]) := by
  intro g lv σ s0 res h
  unfold k_Face_client_b56 at h
  cases h
  exact cR_end lk207_56 rfl rfl rfl
def k_Face_client_b0  (σ : CS) (l0 : Nat) (l1 : Int32) (l2 : Int32) : Option (Int32) :=
  (k_Face_asker σ l0 l1).bind fun p1 =>
  if l2 = (0 : Int32) then (
    if xc0 .eq (cI σ 5 p1 3 0) = true then (
      k_Face_client_b56  σ ((0 : Int32))
    ) else (
      k_Face_client_b56  σ ((1 : Int32))
    )
  ) else (
  if l2 = (1 : Int32) then (
    some (cI σ 5 p1 4 0)
  ) else (
  if l2 = (2 : Int32) then (
    some (cI σ 5 p1 5 0)
  ) else (
  if l2 = (3 : Int32) then (
    some (cI σ 5 p1 6 0)
  ) else (
  if l2 = (4 : Int32) then (
    some (cI σ 5 p1 7 0)
  ) else (
  if l2 = (5 : Int32) then (
    some (cI σ 5 p1 8 0)
  ) else (
    none
  )
  )
  )
  )
  )
  )
set_option maxRecDepth 4000 in
theorem k_Face_client_b0_ok {E : CE} {pF : Nat → List Value → xH → Option (Option Value × xH)} (hp0 : xNPc pF) (hL : lcAll E pF) (hF : lcF pF) {d : Nat}   : ∀ (g : CG) (lv : xL) (σ : CS) (l0 : Nat) (l1 : Int32) (l2 : Int32), (cob σ 15 l0) → (xg lv 0 = some (.ref (coa E 15 l0))) → (xg lv 1 = some (.int l1)) → (xg lv 2 = some (.int l2)) → ∀ res, k_Face_client_b0  σ l0 l1 l2 = some res → cR E cQ1 pF (d + 1) kT207 15 4 (some FieldType.int) (some (.int res)) σ g σ (0, lv, []) := by
  intro g lv σ l0 l1 l2 bl0 g0 g1 g2 res h
  unfold k_Face_client_b0 at h
  refine cR_lift (fun _ _ kk => eE_aload_n lk207_0 g0 kk) ?_
  refine cR_lift (fun _ _ kk => eE_iload_n lk207_1 g1 kk) ?_
  obtain ⟨p1, h2, h⟩ := Option.bind_eq_some_iff.mp h
  refine cR_rep (fun _ hc => k_Face_asker_lt hc bl0 h2) (fun b3 => ?_)
  refine cR_virt (cl := 15) (i := l0) (as := [.int l1]) lk207_2 mr_15_76 na_205 rfl rfl (by first | exact Nat.le_of_ble_eq_true rfl | (simp [xcat, cvo_cat, cat_i, cat_j, cat_r]; done)) wv_205 wc_205 bl0 (k_Face_asker_ok hp0 hL hF (d := d + 0) bl0 h2) (fun m4  => ?_)
  refine cR_stA (j := 3) lk207_5 (Or.inr ⟨_, rfl, rfl⟩) (by decide) (fun vq5 gq6 kq7 => ?_)
  have gq8 := kq7 2 _ (by decide) (fun _ => rfl) g2
  refine cR_lift (fun _ _ kk => eE_iload_n lk207_6 gq8 kk) ?_
  by_cases c9 : l2 = (0 : Int32)
  · rw [if_pos c9] at h
    refine cR_tsw (t := 44) (off := 37) lk207_7 (by rw [c9]; decide) (by rw [c9]; rfl) (by decide) ?_
    refine cR_lift (fun _ _ kk => eE_aload_n lk207_44 gq6 kk) ?_
    refine cR_getI lk207_45 rf_15_84 rfl b3 ?_
    refine cR_if (t := 55) lk207_48 (by decide) (fun c10 => ?_) (fun c10 => ?_)
    · rw [if_pos c10] at h
      refine cR_lift (fun _ _ kk => eE_iconst (v := 0) lk207_55 (by decide) kk) ?_
      exact k_Face_client_b56_ok hp0 hL hF  g vq5 σ ((0 : Int32))  _ h
    · rw [if_neg c10] at h
      refine cR_lift (fun _ _ kk => eE_iconst (v := 1) lk207_51 (by decide) kk) ?_
      refine cR_lift (fun _ _ kk => eE_goto (t := 56) lk207_52 (by decide) kk) ?_
      exact k_Face_client_b56_ok hp0 hL hF  g vq5 σ ((1 : Int32))  _ h
  rw [if_neg c9] at h
  by_cases c11 : l2 = (1 : Int32)
  · rw [if_pos c11] at h
    refine cR_tsw (t := 57) (off := 50) lk207_7 (by rw [c11]; decide) (by rw [c11]; rfl) (by decide) ?_
    refine cR_lift (fun _ _ kk => eE_aload_n lk207_57 gq6 kk) ?_
    refine cR_getI lk207_58 rf_15_275 rfl b3 ?_
    cases h
    exact cR_end lk207_61 rfl rfl rfl
  rw [if_neg c11] at h
  by_cases c12 : l2 = (2 : Int32)
  · rw [if_pos c12] at h
    refine cR_tsw (t := 62) (off := 55) lk207_7 (by rw [c12]; decide) (by rw [c12]; rfl) (by decide) ?_
    refine cR_lift (fun _ _ kk => eE_aload_n lk207_62 gq6 kk) ?_
    refine cR_getI lk207_63 rf_15_278 rfl b3 ?_
    cases h
    exact cR_end lk207_66 rfl rfl rfl
  rw [if_neg c12] at h
  by_cases c13 : l2 = (3 : Int32)
  · rw [if_pos c13] at h
    refine cR_tsw (t := 67) (off := 60) lk207_7 (by rw [c13]; decide) (by rw [c13]; rfl) (by decide) ?_
    refine cR_lift (fun _ _ kk => eE_aload_n lk207_67 gq6 kk) ?_
    refine cR_getI lk207_68 rf_15_281 rfl b3 ?_
    cases h
    exact cR_end lk207_71 rfl rfl rfl
  rw [if_neg c13] at h
  by_cases c14 : l2 = (4 : Int32)
  · rw [if_pos c14] at h
    refine cR_tsw (t := 72) (off := 65) lk207_7 (by rw [c14]; decide) (by rw [c14]; rfl) (by decide) ?_
    refine cR_lift (fun _ _ kk => eE_aload_n lk207_72 gq6 kk) ?_
    refine cR_getI lk207_73 rf_15_284 rfl b3 ?_
    cases h
    exact cR_end lk207_76 rfl rfl rfl
  rw [if_neg c14] at h
  by_cases c15 : l2 = (5 : Int32)
  · rw [if_pos c15] at h
    refine cR_tsw (t := 77) (off := 70) lk207_7 (by rw [c15]; decide) (by rw [c15]; rfl) (by decide) ?_
    refine cR_lift (fun _ _ kk => eE_aload_n lk207_77 gq6 kk) ?_
    refine cR_getI lk207_78 rf_15_287 rfl b3 ?_
    cases h
    exact cR_end lk207_81 rfl rfl rfl
  rw [if_neg c15] at h
  refine cR_tswD (t := 82) lk207_7 (xsw_out (n := 6) (fun j hj => ?_)) (by decide) ?_
  · match j, hj with
    | 0, _ => exact c9
    | 1, _ => exact c11
    | 2, _ => exact c12
    | 3, _ => exact c13
    | 4, _ => exact c14
    | 5, _ => exact c15
    | q + 6, hj => exact absurd hj (by omega)
  cases h
def k_Face_client (σ : CS) (l0 : Nat) (l1 : Int32) (l2 : Int32) : Option (Int32) := k_Face_client_b0 σ l0 l1 l2
theorem k_Face_client_ok {E : CE} {pF : Nat → List Value → xH → Option (Option Value × xH)} (hp0 : xNPc pF) (hL : lcAll E pF) (hF : lcF pF) {d : Nat} {g : CG} {σ : CS} {l0 : Nat} {l1 : Int32} {l2 : Int32} {res : Int32} (bl0 : cob σ 15 l0) (h : k_Face_client σ l0 l1 l2 = some res) : cCo E cQ1 pF (d + 2) 207 [.ref (coa E 15 l0), .int l1, .int l2] (some (.int res)) σ g σ :=
  cCo_R kk_207 mo_207 ni_207 xm_207 (Nat.le_of_ble_eq_true rfl) (hp0 207 (by decide) _) (k_Face_client_b0_ok hp0 hL hF g _ σ l0 l1 l2 bl0 rfl rfl rfl _ h)
/-! k_Face_count (208), depth 10 -/
def k_Face_count_b0  (σ : CS) (l0 : Nat) (l1 : Int32) : Option (Int32) :=
  if l1 = (0 : Int32) then (
    some (clsz σ 14 0 15)
  ) else (
  if l1 = (1 : Int32) then (
    some (cI σ 14 0 3 0)
  ) else (
  if l1 = (2 : Int32) then (
    some (cI σ 14 0 4 0)
  ) else (
  if l1 = (3 : Int32) then (
    some (cI σ 14 0 2 0)
  ) else (
  if l1 = (4 : Int32) then (
    some (cI σ 4 0 0 0)
  ) else (
  if l1 = (5 : Int32) then (
    some (cI σ 4 0 1 0)
  ) else (
  if l1 = (6 : Int32) then (
    some (cI σ 15 l0 5 0)
  ) else (
    some ((-1 : Int32))
  )
  )
  )
  )
  )
  )
  )
set_option maxRecDepth 4000 in
theorem k_Face_count_b0_ok {E : CE} {pF : Nat → List Value → xH → Option (Option Value × xH)} (hp0 : xNPc pF) (hL : lcAll E pF) (hF : lcF pF) {d : Nat}   : ∀ (g : CG) (lv : xL) (σ : CS) (l0 : Nat) (l1 : Int32), (cob σ 15 l0) → (xg lv 0 = some (.ref (coa E 15 l0))) → (xg lv 1 = some (.int l1)) → ∀ res, k_Face_count_b0  σ l0 l1 = some res → cR E cQ1 pF (d + 9) kT208 15 2 (some FieldType.int) (some (.int res)) σ g σ (0, lv, []) := by
  intro g lv σ l0 l1 bl0 g0 g1 res h
  unfold k_Face_count_b0 at h
  refine cR_lift (fun _ _ kk => eE_iload_n lk208_0 g1 kk) ?_
  by_cases c1 : l1 = (0 : Int32)
  · rw [if_pos c1] at h
    refine cR_tsw (t := 44) (off := 43) lk208_1 (by rw [c1]; decide) (by rw [c1]; rfl) (by decide) ?_
    refine cR_lift (fun _ _ kk => eE_aload_n lk208_44 g0 kk) ?_
    refine cR_getO (cl' := 14) (i' := 0) lk208_45 rf_15_42 rfl rfl bl0 ?_
    refine cR_getA lk208_48 rf_15_248 (by decide) (cob_0 (c := σ) (cl := 14) (by decide) rfl rfl) ?_
    refine cR_virtL (cl := 14) (i := 0) (f := 15) (as := []) lk208_51 mr_15_303 na_14 rfl rfl (by first | exact Nat.le_of_ble_eq_true rfl | (simp [xcat, cvo_cat, cat_i, cat_j, cat_r]; done)) wv_14 wc_14 rfl (cob_0 (c := σ) (cl := 14) (by decide) rfl rfl) ((hL (d + 0)).1 E g _ 14 0 15 rfl (cob_0 (c := σ) (cl := 14) (by decide) rfl rfl)) (fun _ => ?_)
    cases h
    exact cR_end lk208_54 rfl rfl rfl
  rw [if_neg c1] at h
  by_cases c2 : l1 = (1 : Int32)
  · rw [if_pos c2] at h
    refine cR_tsw (t := 55) (off := 54) lk208_1 (by rw [c2]; decide) (by rw [c2]; rfl) (by decide) ?_
    refine cR_lift (fun _ _ kk => eE_aload_n lk208_55 g0 kk) ?_
    refine cR_getO (cl' := 14) (i' := 0) lk208_56 rf_15_42 rfl rfl bl0 ?_
    refine cR_getI lk208_59 rf_15_305 rfl (cob_0 (c := σ) (cl := 14) (by decide) rfl rfl) ?_
    cases h
    exact cR_end lk208_62 rfl rfl rfl
  rw [if_neg c2] at h
  by_cases c3 : l1 = (2 : Int32)
  · rw [if_pos c3] at h
    refine cR_tsw (t := 63) (off := 62) lk208_1 (by rw [c3]; decide) (by rw [c3]; rfl) (by decide) ?_
    refine cR_lift (fun _ _ kk => eE_aload_n lk208_63 g0 kk) ?_
    refine cR_getO (cl' := 14) (i' := 0) lk208_64 rf_15_42 rfl rfl bl0 ?_
    refine cR_getI lk208_67 rf_15_308 rfl (cob_0 (c := σ) (cl := 14) (by decide) rfl rfl) ?_
    cases h
    exact cR_end lk208_70 rfl rfl rfl
  rw [if_neg c3] at h
  by_cases c4 : l1 = (3 : Int32)
  · rw [if_pos c4] at h
    refine cR_tsw (t := 71) (off := 70) lk208_1 (by rw [c4]; decide) (by rw [c4]; rfl) (by decide) ?_
    refine cR_lift (fun _ _ kk => eE_aload_n lk208_71 g0 kk) ?_
    refine cR_getO (cl' := 14) (i' := 0) lk208_72 rf_15_42 rfl rfl bl0 ?_
    refine cR_getI lk208_75 rf_15_311 rfl (cob_0 (c := σ) (cl := 14) (by decide) rfl rfl) ?_
    cases h
    exact cR_end lk208_78 rfl rfl rfl
  rw [if_neg c4] at h
  by_cases c5 : l1 = (4 : Int32)
  · rw [if_pos c5] at h
    refine cR_tsw (t := 79) (off := 78) lk208_1 (by rw [c5]; decide) (by rw [c5]; rfl) (by decide) ?_
    refine cR_lift (fun _ _ kk => eE_aload_n lk208_79 g0 kk) ?_
    refine cR_getO (cl' := 4) (i' := 0) lk208_80 rf_15_49 rfl rfl bl0 ?_
    refine cR_getI lk208_83 rf_15_88 rfl (cob_0 (c := σ) (cl := 4) (by decide) rfl rfl) ?_
    cases h
    exact cR_end lk208_86 rfl rfl rfl
  rw [if_neg c5] at h
  by_cases c6 : l1 = (5 : Int32)
  · rw [if_pos c6] at h
    refine cR_tsw (t := 87) (off := 86) lk208_1 (by rw [c6]; decide) (by rw [c6]; rfl) (by decide) ?_
    refine cR_lift (fun _ _ kk => eE_aload_n lk208_87 g0 kk) ?_
    refine cR_getO (cl' := 4) (i' := 0) lk208_88 rf_15_49 rfl rfl bl0 ?_
    refine cR_getI lk208_91 rf_15_314 rfl (cob_0 (c := σ) (cl := 4) (by decide) rfl rfl) ?_
    cases h
    exact cR_end lk208_94 rfl rfl rfl
  rw [if_neg c6] at h
  by_cases c7 : l1 = (6 : Int32)
  · rw [if_pos c7] at h
    refine cR_tsw (t := 95) (off := 94) lk208_1 (by rw [c7]; decide) (by rw [c7]; rfl) (by decide) ?_
    refine cR_lift (fun _ _ kk => eE_aload_n lk208_95 g0 kk) ?_
    refine cR_getI lk208_96 rf_15_63 rfl bl0 ?_
    cases h
    exact cR_end lk208_99 rfl rfl rfl
  rw [if_neg c7] at h
  refine cR_tswD (t := 100) lk208_1 (xsw_out (n := 7) (fun j hj => ?_)) (by decide) ?_
  · match j, hj with
    | 0, _ => exact c1
    | 1, _ => exact c2
    | 2, _ => exact c3
    | 3, _ => exact c4
    | 4, _ => exact c5
    | 5, _ => exact c6
    | 6, _ => exact c7
    | q + 7, hj => exact absurd hj (by omega)
  refine cR_lift (fun _ _ kk => eE_iconst (v := (-1)) lk208_100 (by decide) kk) ?_
  cases h
  exact cR_end lk208_101 rfl rfl rfl
def k_Face_count (σ : CS) (l0 : Nat) (l1 : Int32) : Option (Int32) := k_Face_count_b0 σ l0 l1
theorem k_Face_count_ok {E : CE} {pF : Nat → List Value → xH → Option (Option Value × xH)} (hp0 : xNPc pF) (hL : lcAll E pF) (hF : lcF pF) {d : Nat} {g : CG} {σ : CS} {l0 : Nat} {l1 : Int32} {res : Int32} (bl0 : cob σ 15 l0) (h : k_Face_count σ l0 l1 = some res) : cCo E cQ1 pF (d + 10) 208 [.ref (coa E 15 l0), .int l1] (some (.int res)) σ g σ :=
  cCo_R kk_208 mo_208 ni_208 xm_208 (Nat.le_of_ble_eq_true rfl) (hp0 208 (by decide) _) (k_Face_count_b0_ok hp0 hL hF g _ σ l0 l1 bl0 rfl rfl _ h)
/-! k_Face_host (219), depth 1 -/
def k_Face_host_b10  (σ : CS) : Option (Nat) :=
  none
set_option maxRecDepth 4000 in
theorem k_Face_host_b10_ok {E : CE} {pF : Nat → List Value → xH → Option (Option Value × xH)} (hp0 : xNPc pF) (hL : lcAll E pF) (hF : lcF pF) {d : Nat}   : ∀ (g : CG) (lv : xL) (σ : CS), ∀ res, k_Face_host_b10  σ = some res → cR E cQ1 pF (d + 0) kT219 15 2 (some (FieldType.object "AgreedStore$Server")) (some (.ref (coa E 13 res))) σ g σ (10, lv, []) := by
  intro g lv σ res h
  unfold k_Face_host_b10 at h
  cases h
def k_Face_host_b0  (σ : CS) (l0 : Nat) (l1 : Int32) : Option (Nat) :=
  if xc0 .lt l1 = true then (
    k_Face_host_b10  σ
  ) else (
    if xc2 .lt l1 ((7 : Int32)) = true then (
      (cix 15 2 l1).bind fun n3 =>
      some n3
    ) else (
      k_Face_host_b10  σ
    )
  )
set_option maxRecDepth 4000 in
theorem k_Face_host_b0_ok {E : CE} {pF : Nat → List Value → xH → Option (Option Value × xH)} (hp0 : xNPc pF) (hL : lcAll E pF) (hF : lcF pF) {d : Nat}   : ∀ (g : CG) (lv : xL) (σ : CS) (l0 : Nat) (l1 : Int32), (cob σ 15 l0) → (xg lv 0 = some (.ref (coa E 15 l0))) → (xg lv 1 = some (.int l1)) → ∀ res, k_Face_host_b0  σ l0 l1 = some res → cR E cQ1 pF (d + 0) kT219 15 2 (some (FieldType.object "AgreedStore$Server")) (some (.ref (coa E 13 res))) σ g σ (0, lv, []) := by
  intro g lv σ l0 l1 bl0 g0 g1 res h
  unfold k_Face_host_b0 at h
  refine cR_lift (fun _ _ kk => eE_iload_n lk219_0 g1 kk) ?_
  refine cR_if (t := 10) lk219_1 (by decide) (fun c1 => ?_) (fun c1 => ?_)
  · rw [if_pos c1] at h
    exact k_Face_host_b10_ok hp0 hL hF  g lv σ  _ h
  · rw [if_neg c1] at h
    refine cR_lift (fun _ _ kk => eE_iload_n lk219_4 g1 kk) ?_
    refine cR_lift (fun _ _ kk => eE_bipush (v := 7) lk219_5 (by decide) kk) ?_
    refine cR_icmp (t := 18) lk219_7 (by decide) (fun c2 => ?_) (fun c2 => ?_)
    · rw [if_pos c2] at h
      refine cR_lift (fun _ _ kk => eE_aload_n lk219_18 g0 kk) ?_
      refine cR_getA lk219_19 rf_15_11 (by decide) bl0 ?_
      refine cR_lift (fun _ _ kk => eE_iload_n lk219_22 g1 kk) ?_
      obtain ⟨n3, h4, h⟩ := Option.bind_eq_some_iff.mp h
      refine cR_aald (cl := 15) (i := l0) (f := 2) (cl' := 13) (i' := n3) lk219_23 rfl (by decide) bl0 h4 rfl ?_
      cases h
      exact cR_end lk219_24 rfl rfl rfl
    · rw [if_neg c2] at h
      exact k_Face_host_b10_ok hp0 hL hF  g lv σ  _ h
def k_Face_host (σ : CS) (l0 : Nat) (l1 : Int32) : Option (Nat) := k_Face_host_b0 σ l0 l1
theorem k_Face_host_ok {E : CE} {pF : Nat → List Value → xH → Option (Option Value × xH)} (hp0 : xNPc pF) (hL : lcAll E pF) (hF : lcF pF) {d : Nat} {g : CG} {σ : CS} {l0 : Nat} {l1 : Int32} {res : Nat} (bl0 : cob σ 15 l0) (h : k_Face_host σ l0 l1 = some res) : cCo E cQ1 pF (d + 1) 219 [.ref (coa E 15 l0), .int l1] (some (.ref (coa E 13 res))) σ g σ :=
  cCo_R kk_219 mo_219 ni_219 xm_219 (Nat.le_of_ble_eq_true rfl) (hp0 219 (by decide) _) (k_Face_host_b0_ok hp0 hL hF g _ σ l0 l1 bl0 rfl rfl _ h)
theorem k_Face_host_lt {E : CE} {g : CG} {σ : CS} {h0 : xH} {l0 : Nat} {l1 : Int32} {res : Nat} (_ : CRep E g σ h0) (_ : cob σ 15 l0) (h : k_Face_host σ l0 l1 = some res) : cob σ 13 res := by
  unfold k_Face_host k_Face_host_b0 at h
  split at h
  · cases h
  · split at h
    · obtain ⟨n, hn, h⟩ := Option.bind_eq_some_iff.mp h
      cases h
      exact cob_of_lt (c := σ) (cl := 13) (by decide) rfl (cix_lt hn)
    · cases h
/-! k_Face_crash (209), depth 11 -/
def k_Face_crash_b25 (F : Nat)  (σ : CS) (l5 : Int32) : Option ((Int32) × CS) :=
  if l5 = 0 ∨ l5 = 1 then some (l5, σ) else none
set_option maxRecDepth 4000 in
theorem k_Face_crash_b25_ok {E : CE} {pF : Nat → List Value → xH → Option (Option Value × xH)} (hp0 : xNPc pF) (hL : lcAll E pF) (hF : lcF pF) {d : Nat} {F : Nat}   : ∀ (g : CG) (lv : xL) (σ : CS) (l5 : Int32), (xg lv 5 = some (.int l5)) → ∀ res, k_Face_crash_b25 F  σ l5 = some res → cR E (cQx [11, 14]) pF (d + 10) kT209 15 6 (some FieldType.boolean) (some (.int res.1)) res.2 g σ (25, lv, []) := by
  intro g lv σ l5 g5 res h
  unfold k_Face_crash_b25 at h
  refine cR_lift (fun _ _ kk => eE_iload lk209_25 g5 kk) ?_
  by_cases z1 : l5 = 0 ∨ l5 = 1
  · rw [if_pos z1] at h; cases h
    exact cR_end lk209_27 rfl rfl (by first | (simp only [xfin, if_true, if_pos z1]; done) | simp [xfin, z1])
  · rw [if_neg z1] at h; cases h
def k_Face_crash_b0 (F : Nat)  (σ : CS) (l0 : Nat) (l1 : Int32) (l2 : Int64) : Option ((Int32) × CS) :=
  (k_Face_host σ l0 l1).bind fun p2 =>
  if xc0 .eq (cI σ 13 p2 8 0) = true then (
    k_Face_crash_b25 F  σ (cI σ 13 p2 8 0)
  ) else (
    (k_Server_fall F σ p2 l2).bind fun p16 =>
    k_Face_crash_b25 F  p16 (cI σ 13 p2 8 0)
  )
set_option maxRecDepth 4000 in
theorem k_Face_crash_b0_ok {E : CE} {pF : Nat → List Value → xH → Option (Option Value × xH)} (hp0 : xNPc pF) (hL : lcAll E pF) (hF : lcF pF) {d : Nat} {F : Nat}   : ∀ (g : CG) (lv : xL) (σ : CS) (l0 : Nat) (l1 : Int32) (l2 : Int64), (cob σ 15 l0) → (xg lv 0 = some (.ref (coa E 15 l0))) → (xg lv 1 = some (.int l1)) → (xg lv 2 = some (.long l2)) → ∀ res, k_Face_crash_b0 F  σ l0 l1 l2 = some res → cR E (cQx [11, 14]) pF (d + 10) kT209 15 6 (some FieldType.boolean) (some (.int res.1)) res.2 g σ (0, lv, []) := by
  intro g lv σ l0 l1 l2 bl0 g0 g1 g2 res h
  unfold k_Face_crash_b0 at h
  refine cR_lift (fun _ _ kk => eE_aload_n lk209_0 g0 kk) ?_
  refine cR_lift (fun _ _ kk => eE_iload_n lk209_1 g1 kk) ?_
  obtain ⟨p2, h3, h⟩ := Option.bind_eq_some_iff.mp h
  refine cR_rep (fun _ hc => k_Face_host_lt hc bl0 h3) (fun b4 => ?_)
  refine cR_virt (cl := 15) (i := l0) (as := [.int l1]) lk209_2 mr_15_155 na_219 rfl rfl (by first | exact Nat.le_of_ble_eq_true rfl | (simp [xcat, cvo_cat, cat_i, cat_j, cat_r]; done)) wv_219 wc_219 bl0 (k_Face_host_ok hp0 hL hF (d := d + 9) bl0 h3) (fun m5  => ?_)
  refine cR_stA (j := 4) lk209_5 (Or.inl rfl) (by decide) (fun vq6 gq7 kq8 => ?_)
  have gq9 := kq8 2 _ (by decide) (fun e => absurd e (by decide)) g2
  refine cR_lift (fun _ _ kk => eE_aload lk209_7 gq7 kk) ?_
  refine cR_getI lk209_9 rf_15_165 rfl b4 ?_
  refine cR_stI (j := 5) lk209_12 (Or.inl rfl) (by decide) (fun vq10 gq11 kq12 => ?_)
  have gq13 := kq12 2 _ (by decide) (fun e => absurd e (by decide)) gq9
  have gq14 := kq12 4 _ (by decide) (fun _ => rfl) gq7
  refine cR_lift (fun _ _ kk => eE_iload lk209_14 gq11 kk) ?_
  refine cR_if (t := 25) lk209_16 (by decide) (fun c15 => ?_) (fun c15 => ?_)
  · rw [if_pos c15] at h
    exact k_Face_crash_b25_ok hp0 hL hF  g vq10 σ (cI σ 13 p2 8 0) gq11 _ h
  · rw [if_neg c15] at h
    refine cR_lift (fun _ _ kk => eE_aload lk209_19 gq14 kk) ?_
    refine cR_lift (fun _ _ kk => eE_lload_n lk209_21 gq13 kk) ?_
    obtain ⟨p16, h17, h⟩ := Option.bind_eq_some_iff.mp h
    refine cR_virtG (by exact cQx_sub rfl) (cl := 13) (i := p2) (as := [.long l2]) lk209_22 mr_15_168 na_133 rfl rfl (by first | exact Nat.le_of_ble_eq_true rfl | (simp [xcat, cvo_cat, cat_i, cat_j, cat_r]; done)) wv_133 wc_133 b4 (k_Server_fall_ok hp0 hL hF (d := d + 0) b4 h17) (fun m18 g_19 g_19e => ?_)
    exact k_Face_crash_b25_ok hp0 hL hF  g_19 vq10 p16 (cI σ 13 p2 8 0) gq11 _ h
def k_Face_crash (F : Nat) (σ : CS) (l0 : Nat) (l1 : Int32) (l2 : Int64) : Option ((Int32) × CS) := k_Face_crash_b0 F σ l0 l1 l2
theorem k_Face_crash_ok {E : CE} {pF : Nat → List Value → xH → Option (Option Value × xH)} (hp0 : xNPc pF) (hL : lcAll E pF) (hF : lcF pF) {d : Nat} {g : CG} {σ : CS} {F : Nat} {l0 : Nat} {l1 : Int32} {l2 : Int64} {res : (Int32) × CS} (bl0 : cob σ 15 l0) (h : k_Face_crash F σ l0 l1 l2 = some res) : cCo E (cQx [11, 14]) pF (d + 11) 209 [.ref (coa E 15 l0), .int l1, .long l2] (some (.int res.1)) res.2 g σ :=
  cCo_R kk_209 mo_209 ni_209 xm_209 (Nat.le_of_ble_eq_true rfl) (hp0 209 (by decide) _) (k_Face_crash_b0_ok hp0 hL hF g _ σ l0 l1 l2 bl0 rfl rfl rfl _ h)
/-! k_Face_isEndpoint (222), depth 1 -/
def k_Face_isEndpoint_b21  (σ : CS) (s0 : Int32) : Option (Int32) :=
  if s0 = 0 ∨ s0 = 1 then some s0 else none
set_option maxRecDepth 4000 in
theorem k_Face_isEndpoint_b21_ok {E : CE} {pF : Nat → List Value → xH → Option (Option Value × xH)} (hp0 : xNPc pF) (hL : lcAll E pF) (hF : lcF pF) {d : Nat}   : ∀ (g : CG) (lv : xL) (σ : CS) (s0 : Int32), ∀ res, k_Face_isEndpoint_b21  σ s0 = some res → cR E cQ1 pF (d + 0) kT222 15 1 (some FieldType.boolean) (some (.int res)) σ g σ (21, lv, [.int s0]) := by
  intro g lv σ s0 res h
  unfold k_Face_isEndpoint_b21 at h
  by_cases z1 : s0 = 0 ∨ s0 = 1
  · rw [if_pos z1] at h; cases h
    exact cR_end lk222_21 rfl rfl (by first | (simp only [xfin, if_true, if_pos z1]; done) | simp [xfin, z1])
  · rw [if_neg z1] at h; cases h
def k_Face_isEndpoint_b20  (σ : CS) : Option (Int32) :=
  k_Face_isEndpoint_b21  σ ((0 : Int32))
set_option maxRecDepth 4000 in
theorem k_Face_isEndpoint_b20_ok {E : CE} {pF : Nat → List Value → xH → Option (Option Value × xH)} (hp0 : xNPc pF) (hL : lcAll E pF) (hF : lcF pF) {d : Nat}   : ∀ (g : CG) (lv : xL) (σ : CS), ∀ res, k_Face_isEndpoint_b20  σ = some res → cR E cQ1 pF (d + 0) kT222 15 1 (some FieldType.boolean) (some (.int res)) σ g σ (20, lv, []) := by
  intro g lv σ res h
  unfold k_Face_isEndpoint_b20 at h
  refine cR_lift (fun _ _ kk => eE_iconst (v := 0) lk222_20 (by decide) kk) ?_
  exact k_Face_isEndpoint_b21_ok hp0 hL hF  g lv σ ((0 : Int32))  _ h
def k_Face_isEndpoint_b0  (σ : CS) (l0 : Int32) : Option (Int32) :=
  if xc0 .lt l0 = true then (
    k_Face_isEndpoint_b20  σ
  ) else (
    if xc2 .ge l0 ((16 : Int32)) = true then (
      k_Face_isEndpoint_b20  σ
    ) else (
      if xc2 .eq l0 ((7 : Int32)) = true then (
        k_Face_isEndpoint_b20  σ
      ) else (
        k_Face_isEndpoint_b21  σ ((1 : Int32))
      )
    )
  )
set_option maxRecDepth 4000 in
theorem k_Face_isEndpoint_b0_ok {E : CE} {pF : Nat → List Value → xH → Option (Option Value × xH)} (hp0 : xNPc pF) (hL : lcAll E pF) (hF : lcF pF) {d : Nat}   : ∀ (g : CG) (lv : xL) (σ : CS) (l0 : Int32), (xg lv 0 = some (.int l0)) → ∀ res, k_Face_isEndpoint_b0  σ l0 = some res → cR E cQ1 pF (d + 0) kT222 15 1 (some FieldType.boolean) (some (.int res)) σ g σ (0, lv, []) := by
  intro g lv σ l0 g0 res h
  unfold k_Face_isEndpoint_b0 at h
  refine cR_lift (fun _ _ kk => eE_iload_n lk222_0 g0 kk) ?_
  refine cR_if (t := 20) lk222_1 (by decide) (fun c2 => ?_) (fun c2 => ?_)
  · rw [if_pos c2] at h
    exact k_Face_isEndpoint_b20_ok hp0 hL hF  g lv σ  _ h
  · rw [if_neg c2] at h
    refine cR_lift (fun _ _ kk => eE_iload_n lk222_4 g0 kk) ?_
    refine cR_lift (fun _ _ kk => eE_bipush (v := 16) lk222_5 (by decide) kk) ?_
    refine cR_icmp (t := 20) lk222_7 (by decide) (fun c3 => ?_) (fun c3 => ?_)
    · rw [if_pos c3] at h
      exact k_Face_isEndpoint_b20_ok hp0 hL hF  g lv σ  _ h
    · rw [if_neg c3] at h
      refine cR_lift (fun _ _ kk => eE_iload_n lk222_10 g0 kk) ?_
      refine cR_lift (fun _ _ kk => eE_bipush (v := 7) lk222_11 (by decide) kk) ?_
      refine cR_icmp (t := 20) lk222_13 (by decide) (fun c4 => ?_) (fun c4 => ?_)
      · rw [if_pos c4] at h
        exact k_Face_isEndpoint_b20_ok hp0 hL hF  g lv σ  _ h
      · rw [if_neg c4] at h
        refine cR_lift (fun _ _ kk => eE_iconst (v := 1) lk222_16 (by decide) kk) ?_
        refine cR_lift (fun _ _ kk => eE_goto (t := 21) lk222_17 (by decide) kk) ?_
        exact k_Face_isEndpoint_b21_ok hp0 hL hF  g lv σ ((1 : Int32))  _ h
def k_Face_isEndpoint (σ : CS) (l0 : Int32) : Option (Int32) := k_Face_isEndpoint_b0 σ l0
theorem k_Face_isEndpoint_ok {E : CE} {pF : Nat → List Value → xH → Option (Option Value × xH)} (hp0 : xNPc pF) (hL : lcAll E pF) (hF : lcF pF) {d : Nat} {g : CG} {σ : CS} {l0 : Int32} {res : Int32}  (h : k_Face_isEndpoint σ l0 = some res) : cCo E cQ1 pF (d + 1) 222 [.int l0] (some (.int res)) σ g σ :=
  cCo_R kk_222 mo_222 ni_222 xm_222 (Nat.le_of_ble_eq_true rfl) (hp0 222 (by decide) _) (k_Face_isEndpoint_b0_ok hp0 hL hF g _ σ l0 rfl _ h)
/-! k_Face_delay (210), depth 2 -/
def k_Face_delay_b14  (σ : CS) : Option ((Int32) × CS) :=
  none
set_option maxRecDepth 4000 in
theorem k_Face_delay_b14_ok {E : CE} {pF : Nat → List Value → xH → Option (Option Value × xH)} (hp0 : xNPc pF) (hL : lcAll E pF) (hF : lcF pF) {d : Nat}   : ∀ (g : CG) (lv : xL) (σ : CS), ∀ res, k_Face_delay_b14  σ = some res → cR E cQ1 pF (d + 1) kT210 15 6 (some FieldType.int) (some (.int res.1)) res.2 g σ (14, lv, []) := by
  intro g lv σ res h
  unfold k_Face_delay_b14 at h
  cases h
def k_Face_delay_b34  (σ : CS) : Option ((Int32) × CS) :=
  none
set_option maxRecDepth 4000 in
theorem k_Face_delay_b34_ok {E : CE} {pF : Nat → List Value → xH → Option (Option Value × xH)} (hp0 : xNPc pF) (hL : lcAll E pF) (hF : lcF pF) {d : Nat}   : ∀ (g : CG) (lv : xL) (σ : CS), ∀ res, k_Face_delay_b34  σ = some res → cR E cQ1 pF (d + 1) kT210 15 6 (some FieldType.int) (some (.int res.1)) res.2 g σ (34, lv, []) := by
  intro g lv σ res h
  unfold k_Face_delay_b34 at h
  cases h
def k_Face_delay_b0  (σ : CS) (l0 : Nat) (l1 : Int32) (l2 : Int32) (l3 : Int32) : Option ((Int32) × CS) :=
  (k_Face_isEndpoint σ l1).bind fun p1 =>
  if xc0 .eq p1 = true then (
    k_Face_delay_b14  σ
  ) else (
    (k_Face_isEndpoint σ l2).bind fun p5 =>
    if xc0 .ne p5 = true then (
      if xc2 .lt l3 ((1 : Int32)) = true then (
        k_Face_delay_b34  σ
      ) else (
        if xc2 .le l3 ((1000 : Int32)) = true then (
          (crd σ 14 0 12 ((l1 * ((16 : Int32))) + l2)).bind fun x16 =>
          (cwr σ 14 0 12 ((l1 * ((16 : Int32))) + l2) l3).bind fun σ24 =>
          some (x16, σ24)
        ) else (
          k_Face_delay_b34  σ
        )
      )
    ) else (
      k_Face_delay_b14  σ
    )
  )
set_option maxRecDepth 4000 in
theorem k_Face_delay_b0_ok {E : CE} {pF : Nat → List Value → xH → Option (Option Value × xH)} (hp0 : xNPc pF) (hL : lcAll E pF) (hF : lcF pF) {d : Nat}   : ∀ (g : CG) (lv : xL) (σ : CS) (l0 : Nat) (l1 : Int32) (l2 : Int32) (l3 : Int32), (cob σ 15 l0) → (xg lv 0 = some (.ref (coa E 15 l0))) → (xg lv 1 = some (.int l1)) → (xg lv 2 = some (.int l2)) → (xg lv 3 = some (.int l3)) → ∀ res, k_Face_delay_b0  σ l0 l1 l2 l3 = some res → cR E cQ1 pF (d + 1) kT210 15 6 (some FieldType.int) (some (.int res.1)) res.2 g σ (0, lv, []) := by
  intro g lv σ l0 l1 l2 l3 bl0 g0 g1 g2 g3 res h
  unfold k_Face_delay_b0 at h
  refine cR_lift (fun _ _ kk => eE_iload_n lk210_0 g1 kk) ?_
  obtain ⟨p1, h2, h⟩ := Option.bind_eq_some_iff.mp h
  refine cR_stat (as := [.int l1]) lk210_1 mr_15_114 na_222 rfl rfl (by first | exact Nat.le_of_ble_eq_true rfl | (simp [xcat, cvo_cat, cat_i, cat_j, cat_r]; done)) mm_222 ws_222 (k_Face_isEndpoint_ok hp0 hL hF (d := d + 0)  h2) (fun m3 => ?_)
  refine cR_if (t := 14) lk210_4 (by decide) (fun c4 => ?_) (fun c4 => ?_)
  · rw [if_pos c4] at h
    exact k_Face_delay_b14_ok hp0 hL hF  g lv σ  _ h
  · rw [if_neg c4] at h
    refine cR_lift (fun _ _ kk => eE_iload_n lk210_7 g2 kk) ?_
    obtain ⟨p5, h6, h⟩ := Option.bind_eq_some_iff.mp h
    refine cR_stat (as := [.int l2]) lk210_8 mr_15_114 na_222 rfl rfl (by first | exact Nat.le_of_ble_eq_true rfl | (simp [xcat, cvo_cat, cat_i, cat_j, cat_r]; done)) mm_222 ws_222 (k_Face_isEndpoint_ok hp0 hL hF (d := d + 0)  h6) (fun m7 => ?_)
    refine cR_if (t := 22) lk210_11 (by decide) (fun c8 => ?_) (fun c8 => ?_)
    · rw [if_pos c8] at h
      refine cR_lift (fun _ _ kk => eE_iload_n lk210_22 g3 kk) ?_
      refine cR_lift (fun _ _ kk => eE_iconst (v := 1) lk210_23 (by decide) kk) ?_
      refine cR_icmp (t := 34) lk210_24 (by decide) (fun c9 => ?_) (fun c9 => ?_)
      · rw [if_pos c9] at h
        exact k_Face_delay_b34_ok hp0 hL hF  g lv σ  _ h
      · rw [if_neg c9] at h
        refine cR_lift (fun _ _ kk => eE_iload_n lk210_27 g3 kk) ?_
        refine cR_lift (fun _ _ kk => eE_sipush (v := 1000) lk210_28 (by decide) kk) ?_
        refine cR_icmp (t := 42) lk210_31 (by decide) (fun c10 => ?_) (fun c10 => ?_)
        · rw [if_pos c10] at h
          refine cR_lift (fun _ _ kk => eE_iload_n lk210_42 g1 kk) ?_
          refine cR_lift (fun _ _ kk => eE_bipush (v := 16) lk210_43 (by decide) kk) ?_
          refine cR_lift (fun _ _ kk => eE_imul lk210_45 kk) ?_
          refine cR_lift (fun _ _ kk => eE_iload_n lk210_46 g2 kk) ?_
          refine cR_lift (fun _ _ kk => eE_iadd lk210_47 kk) ?_
          refine cR_stI (j := 4) lk210_48 (Or.inl rfl) (by decide) (fun vq11 gq12 kq13 => ?_)
          have gq14 := kq13 0 _ (by decide) (fun e => absurd e (by decide)) g0
          have gq15 := kq13 3 _ (by decide) (fun _ => rfl) g3
          refine cR_lift (fun _ _ kk => eE_aload_n lk210_50 gq14 kk) ?_
          refine cR_getO (cl' := 14) (i' := 0) lk210_51 rf_15_42 rfl rfl bl0 ?_
          refine cR_getA lk210_54 rf_15_121 (by decide) (cob_0 (c := σ) (cl := 14) (by decide) rfl rfl) ?_
          refine cR_lift (fun _ _ kk => eE_iload lk210_57 gq12 kk) ?_
          obtain ⟨x16, h17, h⟩ := Option.bind_eq_some_iff.mp h
          refine cR_iald (cl := 14) (i := 0) (f := 12) lk210_59 (by decide) rfl (cob_0 (c := σ) (cl := 14) (by decide) rfl rfl) h17 ?_
          refine cR_stI (j := 5) lk210_60 (Or.inl rfl) (by decide) (fun vq18 gq19 kq20 => ?_)
          have gq21 := kq20 0 _ (by decide) (fun e => absurd e (by decide)) gq14
          have gq22 := kq20 3 _ (by decide) (fun e => absurd e (by decide)) gq15
          have gq23 := kq20 4 _ (by decide) (fun _ => rfl) gq12
          refine cR_lift (fun _ _ kk => eE_aload_n lk210_62 gq21 kk) ?_
          refine cR_getO (cl' := 14) (i' := 0) lk210_63 rf_15_42 rfl rfl bl0 ?_
          refine cR_getA lk210_66 rf_15_121 (by decide) (cob_0 (c := σ) (cl := 14) (by decide) rfl rfl) ?_
          refine cR_lift (fun _ _ kk => eE_iload lk210_69 gq23 kk) ?_
          refine cR_lift (fun _ _ kk => eE_iload_n lk210_71 gq22 kk) ?_
          obtain ⟨σ24, h25, h⟩ := Option.bind_eq_some_iff.mp h
          refine cR_iast (cl := 14) (i := 0) (f := 12) lk210_72 (by decide) rfl (cob_0 (c := σ) (cl := 14) (by decide) rfl rfl) h25 ?_
          refine cR_lift (fun _ _ kk => eE_iload lk210_73 gq19 kk) ?_
          cases h
          exact cR_end lk210_75 rfl rfl rfl
        · rw [if_neg c10] at h
          exact k_Face_delay_b34_ok hp0 hL hF  g lv σ  _ h
    · rw [if_neg c8] at h
      exact k_Face_delay_b14_ok hp0 hL hF  g lv σ  _ h
def k_Face_delay (σ : CS) (l0 : Nat) (l1 : Int32) (l2 : Int32) (l3 : Int32) : Option ((Int32) × CS) := k_Face_delay_b0 σ l0 l1 l2 l3
theorem k_Face_delay_ok {E : CE} {pF : Nat → List Value → xH → Option (Option Value × xH)} (hp0 : xNPc pF) (hL : lcAll E pF) (hF : lcF pF) {d : Nat} {g : CG} {σ : CS} {l0 : Nat} {l1 : Int32} {l2 : Int32} {l3 : Int32} {res : (Int32) × CS} (bl0 : cob σ 15 l0) (h : k_Face_delay σ l0 l1 l2 l3 = some res) : cCo E cQ1 pF (d + 2) 210 [.ref (coa E 15 l0), .int l1, .int l2, .int l3] (some (.int res.1)) res.2 g σ :=
  cCo_R kk_210 mo_210 ni_210 xm_210 (Nat.le_of_ble_eq_true rfl) (hp0 210 (by decide) _) (k_Face_delay_b0_ok hp0 hL hF g _ σ l0 l1 l2 l3 bl0 rfl rfl rfl rfl _ h)
/-! k_Face_end (211), depth 1 -/
def k_Face_end_b10  (σ : CS) : Option ((Int32) × CS) :=
  none
set_option maxRecDepth 4000 in
theorem k_Face_end_b10_ok {E : CE} {pF : Nat → List Value → xH → Option (Option Value × xH)} (hp0 : xNPc pF) (hL : lcAll E pF) (hF : lcF pF) {d : Nat}   : ∀ (g : CG) (lv : xL) (σ : CS), ∀ res, k_Face_end_b10  σ = some res → cR E cQ1 pF (d + 0) kT211 15 2 (some FieldType.int) (some (.int res.1)) res.2 g σ (10, lv, []) := by
  intro g lv σ res h
  unfold k_Face_end_b10 at h
  cases h
def k_Face_end_b0  (σ : CS) (l0 : Nat) (l1 : Int32) : Option ((Int32) × CS) :=
  if xc0 .lt l1 = true then (
    k_Face_end_b10  σ
  ) else (
    if xc2 .le l1 ((20 : Int32)) = true then (
      if xc2 .ge (cI σ 15 l0 5 0) ((20 : Int32)) = true then (
        (some (csI σ 15 l0 5 0 ((cI σ 15 l0 5 0) - (((20 : Int32)) - l1)))).bind fun σ4 =>
        some (cI σ4 15 l0 5 0, σ4)
      ) else (
        none
      )
    ) else (
      k_Face_end_b10  σ
    )
  )
set_option maxRecDepth 4000 in
theorem k_Face_end_b0_ok {E : CE} {pF : Nat → List Value → xH → Option (Option Value × xH)} (hp0 : xNPc pF) (hL : lcAll E pF) (hF : lcF pF) {d : Nat}   : ∀ (g : CG) (lv : xL) (σ : CS) (l0 : Nat) (l1 : Int32), (cob σ 15 l0) → (xg lv 0 = some (.ref (coa E 15 l0))) → (xg lv 1 = some (.int l1)) → ∀ res, k_Face_end_b0  σ l0 l1 = some res → cR E cQ1 pF (d + 0) kT211 15 2 (some FieldType.int) (some (.int res.1)) res.2 g σ (0, lv, []) := by
  intro g lv σ l0 l1 bl0 g0 g1 res h
  unfold k_Face_end_b0 at h
  refine cR_lift (fun _ _ kk => eE_iload_n lk211_0 g1 kk) ?_
  refine cR_if (t := 10) lk211_1 (by decide) (fun c1 => ?_) (fun c1 => ?_)
  · rw [if_pos c1] at h
    exact k_Face_end_b10_ok hp0 hL hF  g lv σ  _ h
  · rw [if_neg c1] at h
    refine cR_lift (fun _ _ kk => eE_iload_n lk211_4 g1 kk) ?_
    refine cR_lift (fun _ _ kk => eE_bipush (v := 20) lk211_5 (by decide) kk) ?_
    refine cR_icmp (t := 18) lk211_7 (by decide) (fun c2 => ?_) (fun c2 => ?_)
    · rw [if_pos c2] at h
      refine cR_lift (fun _ _ kk => eE_aload_n lk211_18 g0 kk) ?_
      refine cR_getI lk211_19 rf_15_63 rfl bl0 ?_
      refine cR_lift (fun _ _ kk => eE_bipush (v := 20) lk211_22 (by decide) kk) ?_
      refine cR_icmp (t := 35) lk211_24 (by decide) (fun c3 => ?_) (fun c3 => ?_)
      · rw [if_pos c3] at h
        refine cR_lift (fun _ _ kk => eE_aload_n lk211_35 g0 kk) ?_
        refine cR_lift (fun _ _ kk => eE_dup lk211_36 rfl kk) ?_
        refine cR_getI lk211_37 rf_15_63 rfl bl0 ?_
        refine cR_lift (fun _ _ kk => eE_bipush (v := 20) lk211_40 (by decide) kk) ?_
        refine cR_lift (fun _ _ kk => eE_iload_n lk211_42 g1 kk) ?_
        refine cR_lift (fun _ _ kk => eE_isub lk211_43 kk) ?_
        refine cR_lift (fun _ _ kk => eE_isub lk211_44 kk) ?_
        obtain ⟨σ4, h5, h⟩ := Option.bind_eq_some_iff.mp h
        refine cR_putI lk211_45 rf_15_63 rfl bl0 pf_15_5 rfl h5 ?_
        refine cR_lift (fun _ _ kk => eE_aload_n lk211_48 g0 kk) ?_
        refine cR_getI lk211_49 rf_15_63 rfl (cob_any rfl bl0) ?_
        cases h
        exact cR_end lk211_52 rfl rfl rfl
      · rw [if_neg c3] at h
        cases h
    · rw [if_neg c2] at h
      exact k_Face_end_b10_ok hp0 hL hF  g lv σ  _ h
def k_Face_end (σ : CS) (l0 : Nat) (l1 : Int32) : Option ((Int32) × CS) := k_Face_end_b0 σ l0 l1
theorem k_Face_end_ok {E : CE} {pF : Nat → List Value → xH → Option (Option Value × xH)} (hp0 : xNPc pF) (hL : lcAll E pF) (hF : lcF pF) {d : Nat} {g : CG} {σ : CS} {l0 : Nat} {l1 : Int32} {res : (Int32) × CS} (bl0 : cob σ 15 l0) (h : k_Face_end σ l0 l1 = some res) : cCo E cQ1 pF (d + 1) 211 [.ref (coa E 15 l0), .int l1] (some (.int res.1)) res.2 g σ :=
  cCo_R kk_211 mo_211 ni_211 xm_211 (Nat.le_of_ble_eq_true rfl) (hp0 211 (by decide) _) (k_Face_end_b0_ok hp0 hL hF g _ σ l0 l1 bl0 rfl rfl _ h)
/-! k_Face_entry (212), depth 2 -/
def k_Face_entry_b24  (σ : CS) : Option (Int32) :=
  none
set_option maxRecDepth 4000 in
theorem k_Face_entry_b24_ok {E : CE} {pF : Nat → List Value → xH → Option (Option Value × xH)} (hp0 : xNPc pF) (hL : lcAll E pF) (hF : lcF pF) {d : Nat}   : ∀ (g : CG) (lv : xL) (σ : CS), ∀ res, k_Face_entry_b24  σ = some res → cR E cQ1 pF (d + 1) kT212 15 6 (some FieldType.int) (some (.int res)) σ g σ (24, lv, []) := by
  intro g lv σ res h
  unfold k_Face_entry_b24 at h
  cases h
def k_Face_entry_b58  (σ : CS) (l2 : Int32) (l3 : Int32) (l5 : Nat) : Option (Int32) :=
  (k_Log_has σ l5 l2).bind fun p1 =>
  if xc0 .ne p1 = true then (
    (k_Log_at σ l5 l2).bind fun p5 =>
    (crd σ 9 l5 1 (p5 + l3)).bind fun x8 =>
    some x8
  ) else (
    none
  )
set_option maxRecDepth 4000 in
theorem k_Face_entry_b58_ok {E : CE} {pF : Nat → List Value → xH → Option (Option Value × xH)} (hp0 : xNPc pF) (hL : lcAll E pF) (hF : lcF pF) {d : Nat}   : ∀ (g : CG) (lv : xL) (σ : CS) (l2 : Int32) (l3 : Int32) (l5 : Nat), (cob σ 9 l5) → (xg lv 2 = some (.int l2)) → (xg lv 3 = some (.int l3)) → (xg lv 5 = some (.ref (coa E 9 l5))) → ∀ res, k_Face_entry_b58  σ l2 l3 l5 = some res → cR E cQ1 pF (d + 1) kT212 15 6 (some FieldType.int) (some (.int res)) σ g σ (58, lv, []) := by
  intro g lv σ l2 l3 l5 bl5 g2 g3 g5 res h
  unfold k_Face_entry_b58 at h
  refine cR_lift (fun _ _ kk => eE_aload lk212_58 g5 kk) ?_
  refine cR_lift (fun _ _ kk => eE_iload_n lk212_60 g2 kk) ?_
  obtain ⟨p1, h2, h⟩ := Option.bind_eq_some_iff.mp h
  refine cR_virt (cl := 9) (i := l5) (as := [.int l2]) lk212_61 mr_15_215 na_67 rfl rfl (by first | exact Nat.le_of_ble_eq_true rfl | (simp [xcat, cvo_cat, cat_i, cat_j, cat_r]; done)) wv_67 wc_67 bl5 (k_Log_has_ok hp0 hL hF (d := d + 0) bl5 h2) (fun m3  => ?_)
  refine cR_if (t := 75) lk212_64 (by decide) (fun c4 => ?_) (fun c4 => ?_)
  · rw [if_pos c4] at h
    refine cR_lift (fun _ _ kk => eE_aload lk212_75 g5 kk) ?_
    refine cR_getA lk212_77 rf_15_218 (by decide) bl5 ?_
    refine cR_lift (fun _ _ kk => eE_aload lk212_80 g5 kk) ?_
    refine cR_lift (fun _ _ kk => eE_iload_n lk212_82 g2 kk) ?_
    obtain ⟨p5, h6, h⟩ := Option.bind_eq_some_iff.mp h
    refine cR_virt (cl := 9) (i := l5) (as := [.int l2]) lk212_83 mr_15_221 na_63 rfl rfl (by first | exact Nat.le_of_ble_eq_true rfl | (simp [xcat, cvo_cat, cat_i, cat_j, cat_r]; done)) wv_63 wc_63 bl5 (k_Log_at_ok hp0 hL hF (d := d + 0) bl5 h6) (fun m7  => ?_)
    refine cR_lift (fun _ _ kk => eE_iload_n lk212_86 g3 kk) ?_
    refine cR_lift (fun _ _ kk => eE_iadd lk212_87 kk) ?_
    obtain ⟨x8, h9, h⟩ := Option.bind_eq_some_iff.mp h
    refine cR_iald (cl := 9) (i := l5) (f := 1) lk212_88 (by decide) rfl bl5 h9 ?_
    cases h
    exact cR_end lk212_89 rfl rfl rfl
  · rw [if_neg c4] at h
    cases h
def k_Face_entry_b0  (σ : CS) (l0 : Nat) (l1 : Int32) (l2 : Int32) (l3 : Int32) : Option (Int32) :=
  (k_Face_host σ l0 l1).bind fun p10 =>
  if xc0 .eq (cI σ 13 p10 8 0) = true then (
    k_Face_entry_b24  σ
  ) else (
    if xc0 .lt l3 = true then (
      k_Face_entry_b24  σ
    ) else (
      if xc2 .le l3 ((2 : Int32)) = true then (
        if xc2 .ne l2 (cI σ 9 p10 3 0) = true then (
          k_Face_entry_b58  σ l2 l3 p10
        ) else (
          if xc0 .ne l3 = true then (
            k_Face_entry_b58  σ l2 l3 p10
          ) else (
            some (cI σ 9 p10 4 0)
          )
        )
      ) else (
        k_Face_entry_b24  σ
      )
    )
  )
set_option maxRecDepth 4000 in
theorem k_Face_entry_b0_ok {E : CE} {pF : Nat → List Value → xH → Option (Option Value × xH)} (hp0 : xNPc pF) (hL : lcAll E pF) (hF : lcF pF) {d : Nat}   : ∀ (g : CG) (lv : xL) (σ : CS) (l0 : Nat) (l1 : Int32) (l2 : Int32) (l3 : Int32), (cob σ 15 l0) → (xg lv 0 = some (.ref (coa E 15 l0))) → (xg lv 1 = some (.int l1)) → (xg lv 2 = some (.int l2)) → (xg lv 3 = some (.int l3)) → ∀ res, k_Face_entry_b0  σ l0 l1 l2 l3 = some res → cR E cQ1 pF (d + 1) kT212 15 6 (some FieldType.int) (some (.int res)) σ g σ (0, lv, []) := by
  intro g lv σ l0 l1 l2 l3 bl0 g0 g1 g2 g3 res h
  unfold k_Face_entry_b0 at h
  refine cR_lift (fun _ _ kk => eE_aload_n lk212_0 g0 kk) ?_
  refine cR_lift (fun _ _ kk => eE_iload_n lk212_1 g1 kk) ?_
  obtain ⟨p10, h11, h⟩ := Option.bind_eq_some_iff.mp h
  refine cR_rep (fun _ hc => k_Face_host_lt hc bl0 h11) (fun b12 => ?_)
  refine cR_virt (cl := 15) (i := l0) (as := [.int l1]) lk212_2 mr_15_155 na_219 rfl rfl (by first | exact Nat.le_of_ble_eq_true rfl | (simp [xcat, cvo_cat, cat_i, cat_j, cat_r]; done)) wv_219 wc_219 bl0 (k_Face_host_ok hp0 hL hF (d := d + 0) bl0 h11) (fun m13  => ?_)
  refine cR_stA (j := 4) lk212_5 (Or.inl rfl) (by decide) (fun vq14 gq15 kq16 => ?_)
  have gq17 := kq16 2 _ (by decide) (fun e => absurd e (by decide)) g2
  have gq18 := kq16 3 _ (by decide) (fun _ => rfl) g3
  refine cR_lift (fun _ _ kk => eE_aload lk212_7 gq15 kk) ?_
  refine cR_getI lk212_9 rf_15_165 rfl b12 ?_
  refine cR_if (t := 24) lk212_12 (by decide) (fun c19 => ?_) (fun c19 => ?_)
  · rw [if_pos c19] at h
    exact k_Face_entry_b24_ok hp0 hL hF  g vq14 σ  _ h
  · rw [if_neg c19] at h
    refine cR_lift (fun _ _ kk => eE_iload_n lk212_15 gq18 kk) ?_
    refine cR_if (t := 24) lk212_16 (by decide) (fun c20 => ?_) (fun c20 => ?_)
    · rw [if_pos c20] at h
      exact k_Face_entry_b24_ok hp0 hL hF  g vq14 σ  _ h
    · rw [if_neg c20] at h
      refine cR_lift (fun _ _ kk => eE_iload_n lk212_19 gq18 kk) ?_
      refine cR_lift (fun _ _ kk => eE_iconst (v := 2) lk212_20 (by decide) kk) ?_
      refine cR_icmp (t := 32) lk212_21 (by decide) (fun c21 => ?_) (fun c21 => ?_)
      · rw [if_pos c21] at h
        refine cR_lift (fun _ _ kk => eE_aload lk212_32 gq15 kk) ?_
        refine cR_getO (cl' := 9) (i' := p10) lk212_34 rf_15_184 rfl rfl b12 ?_
        refine cR_stA (j := 5) lk212_37 (Or.inl rfl) (by decide) (fun vq22 gq23 kq24 => ?_)
        have gq25 := kq24 2 _ (by decide) (fun e => absurd e (by decide)) gq17
        have gq26 := kq24 3 _ (by decide) (fun e => absurd e (by decide)) gq18
        refine cR_lift (fun _ _ kk => eE_iload_n lk212_39 gq25 kk) ?_
        refine cR_lift (fun _ _ kk => eE_aload lk212_40 gq23 kk) ?_
        refine cR_getI lk212_42 rf_15_209 rfl (cob_s (cl := 9) b12 (by decide) rfl rfl) ?_
        refine cR_icmp (t := 58) lk212_45 (by decide) (fun c27 => ?_) (fun c27 => ?_)
        · rw [if_pos c27] at h
          exact k_Face_entry_b58_ok hp0 hL hF  g vq22 σ l2 l3 p10 (cob_s (cl := 9) b12 (by decide) rfl rfl) gq25 gq26 gq23 _ h
        · rw [if_neg c27] at h
          refine cR_lift (fun _ _ kk => eE_iload_n lk212_48 gq26 kk) ?_
          refine cR_if (t := 58) lk212_49 (by decide) (fun c28 => ?_) (fun c28 => ?_)
          · rw [if_pos c28] at h
            exact k_Face_entry_b58_ok hp0 hL hF  g vq22 σ l2 l3 p10 (cob_s (cl := 9) b12 (by decide) rfl rfl) gq25 gq26 gq23 _ h
          · rw [if_neg c28] at h
            refine cR_lift (fun _ _ kk => eE_aload lk212_52 gq23 kk) ?_
            refine cR_getI lk212_54 rf_15_212 rfl (cob_s (cl := 9) b12 (by decide) rfl rfl) ?_
            cases h
            exact cR_end lk212_57 rfl rfl rfl
      · rw [if_neg c21] at h
        exact k_Face_entry_b24_ok hp0 hL hF  g vq14 σ  _ h
def k_Face_entry (σ : CS) (l0 : Nat) (l1 : Int32) (l2 : Int32) (l3 : Int32) : Option (Int32) := k_Face_entry_b0 σ l0 l1 l2 l3
theorem k_Face_entry_ok {E : CE} {pF : Nat → List Value → xH → Option (Option Value × xH)} (hp0 : xNPc pF) (hL : lcAll E pF) (hF : lcF pF) {d : Nat} {g : CG} {σ : CS} {l0 : Nat} {l1 : Int32} {l2 : Int32} {l3 : Int32} {res : Int32} (bl0 : cob σ 15 l0) (h : k_Face_entry σ l0 l1 l2 l3 = some res) : cCo E cQ1 pF (d + 2) 212 [.ref (coa E 15 l0), .int l1, .int l2, .int l3] (some (.int res)) σ g σ :=
  cCo_R kk_212 mo_212 ni_212 xm_212 (Nat.le_of_ble_eq_true rfl) (hp0 212 (by decide) _) (k_Face_entry_b0_ok hp0 hL hF g _ σ l0 l1 l2 l3 bl0 rfl rfl rfl rfl _ h)
/-! k_Face_putOnTape (233), depth 1 -/
def k_Face_putOnTape_b40 (F : Nat) (K3 : CS → Nat → Int32 → Int32 → Option (CS)) (σ : CS) (l0 : Nat) (l1 : Int32) (l2 : Int32) : Option (CS) :=
  K3 σ l0 l1 (l2 + (-8 : Int32))
set_option maxRecDepth 4000 in
theorem k_Face_putOnTape_b40_ok {E : CE} {pF : Nat → List Value → xH → Option (Option Value × xH)} (hp0 : xNPc pF) (hL : lcAll E pF) (hF : lcF pF) {d : Nat} {F : Nat} {K3 : CS → Nat → Int32 → Int32 → Option (CS)} (hK3 : ∀ (g : CG) (lv : xL) (σ : CS) (l0 : Nat) (l1 : Int32) (l2 : Int32), (cob σ 15 l0) → (xg lv 0 = some (.ref (coa E 15 l0))) → (xg lv 1 = some (.int l1)) → (xg lv 2 = some (.int l2)) → ∀ res, K3 σ l0 l1 l2 = some res → cR E cQ1 pF (d + 0) kT233 15 3 none none res g σ (3, lv, [])) : ∀ (g : CG) (lv : xL) (σ : CS) (l0 : Nat) (l1 : Int32) (l2 : Int32), (cob σ 15 l0) → (xg lv 0 = some (.ref (coa E 15 l0))) → (xg lv 1 = some (.int l1)) → (xg lv 2 = some (.int l2)) → ∀ res, k_Face_putOnTape_b40 F K3 σ l0 l1 l2 = some res → cR E cQ1 pF (d + 0) kT233 15 3 none none res g σ (40, lv, []) := by
  intro g lv σ l0 l1 l2 bl0 g0 g1 g2 res h
  unfold k_Face_putOnTape_b40 at h
  refine cR_inc (j := 2) (v := l2 + (-8 : Int32)) lk233_40 g2 rfl (by decide) (fun vq1 gq2 kq3 => ?_)
  have gq4 := kq3 0 _ (by decide) (fun e => absurd e (by decide)) g0
  have gq5 := kq3 1 _ (by decide) (fun _ => rfl) g1
  refine cR_lift (fun _ _ kk => eE_goto (t := 3) lk233_43 (by decide) kk) ?_
  exact hK3 g vq1 σ l0 l1 (l2 + (-8 : Int32)) bl0 gq4 gq5 gq2 _ h
def k_Face_putOnTape_b3 (F : Nat)  : Nat → CS → Nat → Int32 → Int32 → Option (CS)
  | 0, _, _, _, _ => none
  | n + 1, σ, l0, l1, l2 =>
    let KK := k_Face_putOnTape_b3 F  n
    if xc0 .lt l2 = true then (
      some σ
    ) else (
      if xc2 .ge (cI σ 15 l0 5 0) ((400 : Int32)) = true then (
        k_Face_putOnTape_b40 F KK σ l0 l1 l2
      ) else (
        (cwr σ 15 l0 4 (cI σ 15 l0 5 0) (((l1 >>> (l2 &&& 31)).toInt8.toInt32).toInt8.toInt32)).bind fun σ8 =>
        (some (csI σ8 15 l0 5 0 ((cI σ8 15 l0 5 0) + ((1 : Int32))))).bind fun σ10 =>
        k_Face_putOnTape_b40 F KK σ10 l0 l1 l2
      )
    )
set_option maxRecDepth 4000 in
theorem k_Face_putOnTape_b3_ok {E : CE} {pF : Nat → List Value → xH → Option (Option Value × xH)} (hp0 : xNPc pF) (hL : lcAll E pF) (hF : lcF pF) {d : Nat} {F : Nat}   : ∀ (n : Nat) (g : CG) (lv : xL) (σ : CS) (l0 : Nat) (l1 : Int32) (l2 : Int32), (cob σ 15 l0) → (xg lv 0 = some (.ref (coa E 15 l0))) → (xg lv 1 = some (.int l1)) → (xg lv 2 = some (.int l2)) → ∀ res, k_Face_putOnTape_b3 F  n σ l0 l1 l2 = some res → cR E cQ1 pF (d + 0) kT233 15 3 none none res g σ (3, lv, []) := by
  intro n
  induction n with
  | zero => intro g lv σ l0 l1 l2 bl0 g0 g1 g2 res h; simp [k_Face_putOnTape_b3] at h
  | succ n hKK =>
    intro g lv σ l0 l1 l2 bl0 g0 g1 g2 res h
    unfold k_Face_putOnTape_b3 at h
    dsimp only at h
    refine cR_lift (fun _ _ kk => eE_iload_n lk233_3 g2 kk) ?_
    refine cR_if (t := 46) lk233_4 (by decide) (fun c6 => ?_) (fun c6 => ?_)
    · rw [if_pos c6] at h
      cases h
      exact cR_end lk233_46 rfl rfl rfl
    · rw [if_neg c6] at h
      refine cR_lift (fun _ _ kk => eE_aload_n lk233_7 g0 kk) ?_
      refine cR_getI lk233_8 rf_15_63 rfl bl0 ?_
      refine cR_lift (fun _ _ kk => eE_sipush (v := 400) lk233_11 (by decide) kk) ?_
      refine cR_icmp (t := 40) lk233_14 (by decide) (fun c7 => ?_) (fun c7 => ?_)
      · rw [if_pos c7] at h
        exact k_Face_putOnTape_b40_ok hp0 hL hF hKK g lv σ l0 l1 l2 bl0 g0 g1 g2 _ h
      · rw [if_neg c7] at h
        refine cR_lift (fun _ _ kk => eE_aload_n lk233_17 g0 kk) ?_
        refine cR_getA lk233_18 rf_15_21 (by decide) bl0 ?_
        refine cR_lift (fun _ _ kk => eE_aload_n lk233_21 g0 kk) ?_
        refine cR_getI lk233_22 rf_15_63 rfl bl0 ?_
        refine cR_lift (fun _ _ kk => eE_iload_n lk233_25 g1 kk) ?_
        refine cR_lift (fun _ _ kk => eE_iload_n lk233_26 g2 kk) ?_
        refine cR_lift (fun _ _ kk => eE_ishr lk233_27 kk) ?_
        refine cR_lift (fun _ _ kk => eE_i2b lk233_28 kk) ?_
        obtain ⟨σ8, h9, h⟩ := Option.bind_eq_some_iff.mp h
        refine cR_bast (cl := 15) (i := l0) (f := 4) lk233_29 (by decide) rfl rfl bl0 h9 ?_
        refine cR_lift (fun _ _ kk => eE_aload_n lk233_30 g0 kk) ?_
        refine cR_lift (fun _ _ kk => eE_dup lk233_31 rfl kk) ?_
        refine cR_getI lk233_32 rf_15_63 rfl (cob_any rfl bl0) ?_
        refine cR_lift (fun _ _ kk => eE_iconst (v := 1) lk233_35 (by decide) kk) ?_
        refine cR_lift (fun _ _ kk => eE_iadd lk233_36 kk) ?_
        obtain ⟨σ10, h11, h⟩ := Option.bind_eq_some_iff.mp h
        refine cR_putI lk233_37 rf_15_63 rfl (cob_any rfl bl0) pf_15_5 rfl h11 ?_
        exact k_Face_putOnTape_b40_ok hp0 hL hF hKK g lv σ10 l0 l1 l2 (cob_any rfl bl0) g0 g1 g2 _ h
def k_Face_putOnTape_b0 (F : Nat)  (σ : CS) (l0 : Nat) (l1 : Int32) : Option (CS) :=
  k_Face_putOnTape_b3 F  F σ l0 l1 ((24 : Int32))
set_option maxRecDepth 4000 in
theorem k_Face_putOnTape_b0_ok {E : CE} {pF : Nat → List Value → xH → Option (Option Value × xH)} (hp0 : xNPc pF) (hL : lcAll E pF) (hF : lcF pF) {d : Nat} {F : Nat}   : ∀ (g : CG) (lv : xL) (σ : CS) (l0 : Nat) (l1 : Int32), (cob σ 15 l0) → (xg lv 0 = some (.ref (coa E 15 l0))) → (xg lv 1 = some (.int l1)) → ∀ res, k_Face_putOnTape_b0 F  σ l0 l1 = some res → cR E cQ1 pF (d + 0) kT233 15 3 none none res g σ (0, lv, []) := by
  intro g lv σ l0 l1 bl0 g0 g1 res h
  unfold k_Face_putOnTape_b0 at h
  refine cR_lift (fun _ _ kk => eE_bipush (v := 24) lk233_0 (by decide) kk) ?_
  refine cR_stI (j := 2) lk233_2 (Or.inr ⟨_, rfl, rfl⟩) (by decide) (fun vq12 gq13 kq14 => ?_)
  have gq15 := kq14 0 _ (by decide) (fun e => absurd e (by decide)) g0
  have gq16 := kq14 1 _ (by decide) (fun _ => rfl) g1
  exact k_Face_putOnTape_b3_ok hp0 hL hF  F g vq12 σ l0 l1 ((24 : Int32)) bl0 gq15 gq16 gq13 _ h
def k_Face_putOnTape (F : Nat) (σ : CS) (l0 : Nat) (l1 : Int32) : Option (CS) := k_Face_putOnTape_b0 F σ l0 l1
theorem k_Face_putOnTape_ok {E : CE} {pF : Nat → List Value → xH → Option (Option Value × xH)} (hp0 : xNPc pF) (hL : lcAll E pF) (hF : lcF pF) {d : Nat} {g : CG} {σ : CS} {F : Nat} {l0 : Nat} {l1 : Int32} {res : CS} (bl0 : cob σ 15 l0) (h : k_Face_putOnTape F σ l0 l1 = some res) : cCo E cQ1 pF (d + 1) 233 [.ref (coa E 15 l0), .int l1] none res g σ :=
  cCo_R kk_233 mo_233 ni_233 xm_233 (Nat.le_of_ble_eq_true rfl) (hp0 233 (by decide) _) (k_Face_putOnTape_b0_ok hp0 hL hF g _ σ l0 l1 bl0 rfl rfl _ h)
/-! k_Face_feed (213), depth 2 -/
def k_Face_feed_b0 (F : Nat)  (σ : CS) (l0 : Nat) (l1 : Int32) (l2 : Int32) (l3 : Int32) (l4 : Int32) (l5 : Int32) : Option ((Int32) × CS) :=
  if xc2 .le ((cI σ 15 l0 5 0) + ((20 : Int32))) ((400 : Int32)) = true then (
    (k_Face_putOnTape F σ l0 l1).bind fun p2 =>
    (k_Face_putOnTape F p2 l0 l2).bind fun p5 =>
    (k_Face_putOnTape F p5 l0 l3).bind fun p8 =>
    (k_Face_putOnTape F p8 l0 l4).bind fun p11 =>
    (k_Face_putOnTape F p11 l0 l5).bind fun p14 =>
    some (cI p14 15 l0 5 0, p14)
  ) else (
    none
  )
set_option maxRecDepth 4000 in
theorem k_Face_feed_b0_ok {E : CE} {pF : Nat → List Value → xH → Option (Option Value × xH)} (hp0 : xNPc pF) (hL : lcAll E pF) (hF : lcF pF) {d : Nat} {F : Nat}   : ∀ (g : CG) (lv : xL) (σ : CS) (l0 : Nat) (l1 : Int32) (l2 : Int32) (l3 : Int32) (l4 : Int32) (l5 : Int32), (cob σ 15 l0) → (xg lv 0 = some (.ref (coa E 15 l0))) → (xg lv 1 = some (.int l1)) → (xg lv 2 = some (.int l2)) → (xg lv 3 = some (.int l3)) → (xg lv 4 = some (.int l4)) → (xg lv 5 = some (.int l5)) → ∀ res, k_Face_feed_b0 F  σ l0 l1 l2 l3 l4 l5 = some res → cR E cQ1 pF (d + 1) kT213 15 6 (some FieldType.int) (some (.int res.1)) res.2 g σ (0, lv, []) := by
  intro g lv σ l0 l1 l2 l3 l4 l5 bl0 g0 g1 g2 g3 g4 g5 res h
  unfold k_Face_feed_b0 at h
  refine cR_lift (fun _ _ kk => eE_aload_n lk213_0 g0 kk) ?_
  refine cR_getI lk213_1 rf_15_63 rfl bl0 ?_
  refine cR_lift (fun _ _ kk => eE_bipush (v := 20) lk213_4 (by decide) kk) ?_
  refine cR_lift (fun _ _ kk => eE_iadd lk213_6 kk) ?_
  refine cR_lift (fun _ _ kk => eE_sipush (v := 400) lk213_7 (by decide) kk) ?_
  refine cR_icmp (t := 21) lk213_10 (by decide) (fun c1 => ?_) (fun c1 => ?_)
  · rw [if_pos c1] at h
    refine cR_lift (fun _ _ kk => eE_aload_n lk213_21 g0 kk) ?_
    refine cR_lift (fun _ _ kk => eE_iload_n lk213_22 g1 kk) ?_
    obtain ⟨p2, h3, h⟩ := Option.bind_eq_some_iff.mp h
    refine cR_virt (cl := 15) (i := l0) (as := [.int l1]) lk213_23 mr_15_70 na_233 rfl rfl (by first | exact Nat.le_of_ble_eq_true rfl | (simp [xcat, cvo_cat, cat_i, cat_j, cat_r]; done)) wv_233 wc_233 bl0 (k_Face_putOnTape_ok hp0 hL hF (d := d + 0) bl0 h3) (fun m4  => ?_)
    refine cR_lift (fun _ _ kk => eE_aload_n lk213_26 g0 kk) ?_
    refine cR_lift (fun _ _ kk => eE_iload_n lk213_27 g2 kk) ?_
    obtain ⟨p5, h6, h⟩ := Option.bind_eq_some_iff.mp h
    refine cR_virt (cl := 15) (i := l0) (as := [.int l2]) lk213_28 mr_15_70 na_233 rfl rfl (by first | exact Nat.le_of_ble_eq_true rfl | (simp [xcat, cvo_cat, cat_i, cat_j, cat_r]; done)) wv_233 wc_233 (cob_any rfl bl0) (k_Face_putOnTape_ok hp0 hL hF (d := d + 0) (cob_any rfl bl0) h6) (fun m7  => ?_)
    refine cR_lift (fun _ _ kk => eE_aload_n lk213_31 g0 kk) ?_
    refine cR_lift (fun _ _ kk => eE_iload_n lk213_32 g3 kk) ?_
    obtain ⟨p8, h9, h⟩ := Option.bind_eq_some_iff.mp h
    refine cR_virt (cl := 15) (i := l0) (as := [.int l3]) lk213_33 mr_15_70 na_233 rfl rfl (by first | exact Nat.le_of_ble_eq_true rfl | (simp [xcat, cvo_cat, cat_i, cat_j, cat_r]; done)) wv_233 wc_233 (cob_any rfl bl0) (k_Face_putOnTape_ok hp0 hL hF (d := d + 0) (cob_any rfl bl0) h9) (fun m10  => ?_)
    refine cR_lift (fun _ _ kk => eE_aload_n lk213_36 g0 kk) ?_
    refine cR_lift (fun _ _ kk => eE_iload lk213_37 g4 kk) ?_
    obtain ⟨p11, h12, h⟩ := Option.bind_eq_some_iff.mp h
    refine cR_virt (cl := 15) (i := l0) (as := [.int l4]) lk213_39 mr_15_70 na_233 rfl rfl (by first | exact Nat.le_of_ble_eq_true rfl | (simp [xcat, cvo_cat, cat_i, cat_j, cat_r]; done)) wv_233 wc_233 (cob_any rfl bl0) (k_Face_putOnTape_ok hp0 hL hF (d := d + 0) (cob_any rfl bl0) h12) (fun m13  => ?_)
    refine cR_lift (fun _ _ kk => eE_aload_n lk213_42 g0 kk) ?_
    refine cR_lift (fun _ _ kk => eE_iload lk213_43 g5 kk) ?_
    obtain ⟨p14, h15, h⟩ := Option.bind_eq_some_iff.mp h
    refine cR_virt (cl := 15) (i := l0) (as := [.int l5]) lk213_45 mr_15_70 na_233 rfl rfl (by first | exact Nat.le_of_ble_eq_true rfl | (simp [xcat, cvo_cat, cat_i, cat_j, cat_r]; done)) wv_233 wc_233 (cob_any rfl bl0) (k_Face_putOnTape_ok hp0 hL hF (d := d + 0) (cob_any rfl bl0) h15) (fun m16  => ?_)
    refine cR_lift (fun _ _ kk => eE_aload_n lk213_48 g0 kk) ?_
    refine cR_getI lk213_49 rf_15_63 rfl (cob_any rfl bl0) ?_
    cases h
    exact cR_end lk213_52 rfl rfl rfl
  · rw [if_neg c1] at h
    cases h
def k_Face_feed (F : Nat) (σ : CS) (l0 : Nat) (l1 : Int32) (l2 : Int32) (l3 : Int32) (l4 : Int32) (l5 : Int32) : Option ((Int32) × CS) := k_Face_feed_b0 F σ l0 l1 l2 l3 l4 l5
theorem k_Face_feed_ok {E : CE} {pF : Nat → List Value → xH → Option (Option Value × xH)} (hp0 : xNPc pF) (hL : lcAll E pF) (hF : lcF pF) {d : Nat} {g : CG} {σ : CS} {F : Nat} {l0 : Nat} {l1 : Int32} {l2 : Int32} {l3 : Int32} {l4 : Int32} {l5 : Int32} {res : (Int32) × CS} (bl0 : cob σ 15 l0) (h : k_Face_feed F σ l0 l1 l2 l3 l4 l5 = some res) : cCo E cQ1 pF (d + 2) 213 [.ref (coa E 15 l0), .int l1, .int l2, .int l3, .int l4, .int l5] (some (.int res.1)) res.2 g σ :=
  cCo_R kk_213 mo_213 ni_213 xm_213 (Nat.le_of_ble_eq_true rfl) (hp0 213 (by decide) _) (k_Face_feed_b0_ok hp0 hL hF g _ σ l0 l1 l2 l3 l4 l5 bl0 rfl rfl rfl rfl rfl rfl _ h)
/-! k_Face_file (214), depth 2 -/
def k_Face_file_b26  (σ : CS) : Option (Int32) :=
  none
set_option maxRecDepth 4000 in
theorem k_Face_file_b26_ok {E : CE} {pF : Nat → List Value → xH → Option (Option Value × xH)} (hp0 : xNPc pF) (hL : lcAll E pF) (hF : lcF pF) {d : Nat}   : ∀ (g : CG) (lv : xL) (σ : CS), ∀ res, k_Face_file_b26  σ = some res → cR E cQ1 pF (d + 1) kT214 15 5 (some FieldType.int) (some (.int res)) σ g σ (26, lv, []) := by
  intro g lv σ res h
  unfold k_Face_file_b26 at h
  cases h
def k_Face_file_b0  (σ : CS) (l0 : Nat) (l1 : Int32) (l2 : Int32) (l3 : Int32) : Option (Int32) :=
  (k_Face_host σ l0 l1).bind fun p1 =>
  if xc0 .lt l2 = true then (
    k_Face_file_b26  σ
  ) else (
    if xc2 .ge l2 ((16 : Int32)) = true then (
      k_Face_file_b26  σ
    ) else (
      if xc0 .lt l3 = true then (
        k_Face_file_b26  σ
      ) else (
        if xc2 .le l3 ((4 : Int32)) = true then (
          (k_Disk_tell σ p1 l2 l3).bind fun p14 =>
          some p14
        ) else (
          k_Face_file_b26  σ
        )
      )
    )
  )
set_option maxRecDepth 4000 in
theorem k_Face_file_b0_ok {E : CE} {pF : Nat → List Value → xH → Option (Option Value × xH)} (hp0 : xNPc pF) (hL : lcAll E pF) (hF : lcF pF) {d : Nat}   : ∀ (g : CG) (lv : xL) (σ : CS) (l0 : Nat) (l1 : Int32) (l2 : Int32) (l3 : Int32), (cob σ 15 l0) → (xg lv 0 = some (.ref (coa E 15 l0))) → (xg lv 1 = some (.int l1)) → (xg lv 2 = some (.int l2)) → (xg lv 3 = some (.int l3)) → ∀ res, k_Face_file_b0  σ l0 l1 l2 l3 = some res → cR E cQ1 pF (d + 1) kT214 15 5 (some FieldType.int) (some (.int res)) σ g σ (0, lv, []) := by
  intro g lv σ l0 l1 l2 l3 bl0 g0 g1 g2 g3 res h
  unfold k_Face_file_b0 at h
  refine cR_lift (fun _ _ kk => eE_aload_n lk214_0 g0 kk) ?_
  refine cR_lift (fun _ _ kk => eE_iload_n lk214_1 g1 kk) ?_
  obtain ⟨p1, h2, h⟩ := Option.bind_eq_some_iff.mp h
  refine cR_rep (fun _ hc => k_Face_host_lt hc bl0 h2) (fun b3 => ?_)
  refine cR_virt (cl := 15) (i := l0) (as := [.int l1]) lk214_2 mr_15_155 na_219 rfl rfl (by first | exact Nat.le_of_ble_eq_true rfl | (simp [xcat, cvo_cat, cat_i, cat_j, cat_r]; done)) wv_219 wc_219 bl0 (k_Face_host_ok hp0 hL hF (d := d + 0) bl0 h2) (fun m4  => ?_)
  refine cR_stA (j := 4) lk214_5 (Or.inl rfl) (by decide) (fun vq5 gq6 kq7 => ?_)
  have gq8 := kq7 2 _ (by decide) (fun e => absurd e (by decide)) g2
  have gq9 := kq7 3 _ (by decide) (fun _ => rfl) g3
  refine cR_lift (fun _ _ kk => eE_iload_n lk214_7 gq8 kk) ?_
  refine cR_if (t := 26) lk214_8 (by decide) (fun c10 => ?_) (fun c10 => ?_)
  · rw [if_pos c10] at h
    exact k_Face_file_b26_ok hp0 hL hF  g vq5 σ  _ h
  · rw [if_neg c10] at h
    refine cR_lift (fun _ _ kk => eE_iload_n lk214_11 gq8 kk) ?_
    refine cR_lift (fun _ _ kk => eE_bipush (v := 16) lk214_12 (by decide) kk) ?_
    refine cR_icmp (t := 26) lk214_14 (by decide) (fun c11 => ?_) (fun c11 => ?_)
    · rw [if_pos c11] at h
      exact k_Face_file_b26_ok hp0 hL hF  g vq5 σ  _ h
    · rw [if_neg c11] at h
      refine cR_lift (fun _ _ kk => eE_iload_n lk214_17 gq9 kk) ?_
      refine cR_if (t := 26) lk214_18 (by decide) (fun c12 => ?_) (fun c12 => ?_)
      · rw [if_pos c12] at h
        exact k_Face_file_b26_ok hp0 hL hF  g vq5 σ  _ h
      · rw [if_neg c12] at h
        refine cR_lift (fun _ _ kk => eE_iload_n lk214_21 gq9 kk) ?_
        refine cR_lift (fun _ _ kk => eE_iconst (v := 4) lk214_22 (by decide) kk) ?_
        refine cR_icmp (t := 34) lk214_23 (by decide) (fun c13 => ?_) (fun c13 => ?_)
        · rw [if_pos c13] at h
          refine cR_lift (fun _ _ kk => eE_aload lk214_34 gq6 kk) ?_
          refine cR_getO (cl' := 6) (i' := p1) lk214_36 rf_15_224 rfl rfl b3 ?_
          refine cR_lift (fun _ _ kk => eE_iload_n lk214_39 gq8 kk) ?_
          refine cR_lift (fun _ _ kk => eE_iload_n lk214_40 gq9 kk) ?_
          obtain ⟨p14, h15, h⟩ := Option.bind_eq_some_iff.mp h
          refine cR_virt (cl := 6) (i := p1) (as := [.int l2, .int l3]) lk214_41 mr_15_228 na_50 rfl rfl (by first | exact Nat.le_of_ble_eq_true rfl | (simp [xcat, cvo_cat, cat_i, cat_j, cat_r]; done)) wv_50 wc_50 (cob_s (cl := 6) b3 (by decide) rfl rfl) (k_Disk_tell_ok hp0 hL hF (d := d + 0) (cob_s (cl := 6) b3 (by decide) rfl rfl) h15) (fun m16  => ?_)
          cases h
          exact cR_end lk214_44 rfl rfl rfl
        · rw [if_neg c13] at h
          exact k_Face_file_b26_ok hp0 hL hF  g vq5 σ  _ h
def k_Face_file (σ : CS) (l0 : Nat) (l1 : Int32) (l2 : Int32) (l3 : Int32) : Option (Int32) := k_Face_file_b0 σ l0 l1 l2 l3
theorem k_Face_file_ok {E : CE} {pF : Nat → List Value → xH → Option (Option Value × xH)} (hp0 : xNPc pF) (hL : lcAll E pF) (hF : lcF pF) {d : Nat} {g : CG} {σ : CS} {l0 : Nat} {l1 : Int32} {l2 : Int32} {l3 : Int32} {res : Int32} (bl0 : cob σ 15 l0) (h : k_Face_file σ l0 l1 l2 l3 = some res) : cCo E cQ1 pF (d + 2) 214 [.ref (coa E 15 l0), .int l1, .int l2, .int l3] (some (.int res)) σ g σ :=
  cCo_R kk_214 mo_214 ni_214 xm_214 (Nat.le_of_ble_eq_true rfl) (hp0 214 (by decide) _) (k_Face_file_b0_ok hp0 hL hF g _ σ l0 l1 l2 l3 bl0 rfl rfl rfl rfl _ h)
/-! k_Face_giveUp (215), depth 4 -/
def k_Face_giveUp_b19  (σ : CS) (l3 : Int32) : Option ((Int32) × CS) :=
  if l3 = 0 ∨ l3 = 1 then some (l3, σ) else none
set_option maxRecDepth 4000 in
theorem k_Face_giveUp_b19_ok {E : CE} {pF : Nat → List Value → xH → Option (Option Value × xH)} (hp0 : xNPc pF) (hL : lcAll E pF) (hF : lcF pF) {d : Nat}   : ∀ (g : CG) (lv : xL) (σ : CS) (l3 : Int32), (xg lv 3 = some (.int l3)) → ∀ res, k_Face_giveUp_b19  σ l3 = some res → cR E cQ1 pF (d + 3) kT215 15 4 (some FieldType.boolean) (some (.int res.1)) res.2 g σ (19, lv, []) := by
  intro g lv σ l3 g3 res h
  unfold k_Face_giveUp_b19 at h
  refine cR_lift (fun _ _ kk => eE_iload_n lk215_19 g3 kk) ?_
  by_cases z1 : l3 = 0 ∨ l3 = 1
  · rw [if_pos z1] at h; cases h
    exact cR_end lk215_20 rfl rfl (by first | (simp only [xfin, if_true, if_pos z1]; done) | simp [xfin, z1])
  · rw [if_neg z1] at h; cases h
def k_Face_giveUp_b0  (σ : CS) (l0 : Nat) (l1 : Int32) : Option ((Int32) × CS) :=
  (k_Face_asker σ l0 l1).bind fun p2 =>
  if xc0 .eq (cI σ 5 p2 3 0) = true then (
    k_Face_giveUp_b19  σ (cI σ 5 p2 3 0)
  ) else (
    (k_Client_giveIn σ p2).bind fun p14 =>
    k_Face_giveUp_b19  p14 (cI σ 5 p2 3 0)
  )
set_option maxRecDepth 4000 in
theorem k_Face_giveUp_b0_ok {E : CE} {pF : Nat → List Value → xH → Option (Option Value × xH)} (hp0 : xNPc pF) (hL : lcAll E pF) (hF : lcF pF) {d : Nat}   : ∀ (g : CG) (lv : xL) (σ : CS) (l0 : Nat) (l1 : Int32), (cob σ 15 l0) → (xg lv 0 = some (.ref (coa E 15 l0))) → (xg lv 1 = some (.int l1)) → ∀ res, k_Face_giveUp_b0  σ l0 l1 = some res → cR E cQ1 pF (d + 3) kT215 15 4 (some FieldType.boolean) (some (.int res.1)) res.2 g σ (0, lv, []) := by
  intro g lv σ l0 l1 bl0 g0 g1 res h
  unfold k_Face_giveUp_b0 at h
  refine cR_lift (fun _ _ kk => eE_aload_n lk215_0 g0 kk) ?_
  refine cR_lift (fun _ _ kk => eE_iload_n lk215_1 g1 kk) ?_
  obtain ⟨p2, h3, h⟩ := Option.bind_eq_some_iff.mp h
  refine cR_rep (fun _ hc => k_Face_asker_lt hc bl0 h3) (fun b4 => ?_)
  refine cR_virt (cl := 15) (i := l0) (as := [.int l1]) lk215_2 mr_15_76 na_205 rfl rfl (by first | exact Nat.le_of_ble_eq_true rfl | (simp [xcat, cvo_cat, cat_i, cat_j, cat_r]; done)) wv_205 wc_205 bl0 (k_Face_asker_ok hp0 hL hF (d := d + 2) bl0 h3) (fun m5  => ?_)
  refine cR_stA (j := 2) lk215_5 (Or.inr ⟨_, rfl, rfl⟩) (by decide) (fun vq6 gq7 kq8 => ?_)
  refine cR_lift (fun _ _ kk => eE_aload_n lk215_6 gq7 kk) ?_
  refine cR_getI lk215_7 rf_15_84 rfl b4 ?_
  refine cR_stI (j := 3) lk215_10 (Or.inr ⟨_, rfl, rfl⟩) (by decide) (fun vq9 gq10 kq11 => ?_)
  have gq12 := kq11 2 _ (by decide) (fun _ => rfl) gq7
  refine cR_lift (fun _ _ kk => eE_iload_n lk215_11 gq10 kk) ?_
  refine cR_if (t := 19) lk215_12 (by decide) (fun c13 => ?_) (fun c13 => ?_)
  · rw [if_pos c13] at h
    exact k_Face_giveUp_b19_ok hp0 hL hF  g vq9 σ (cI σ 5 p2 3 0) gq10 _ h
  · rw [if_neg c13] at h
    refine cR_lift (fun _ _ kk => eE_aload_n lk215_15 gq12 kk) ?_
    obtain ⟨p14, h15, h⟩ := Option.bind_eq_some_iff.mp h
    refine cR_virt (cl := 5) (i := p2) (as := []) lk215_16 mr_15_102 na_22 rfl rfl (by first | exact Nat.le_of_ble_eq_true rfl | (simp [xcat, cvo_cat, cat_i, cat_j, cat_r]; done)) wv_22 wc_22 b4 (k_Client_giveIn_ok hp0 hL hF (d := d + 0) b4 h15) (fun m16  => ?_)
    exact k_Face_giveUp_b19_ok hp0 hL hF  g vq9 p14 (cI σ 5 p2 3 0) gq10 _ h
def k_Face_giveUp (σ : CS) (l0 : Nat) (l1 : Int32) : Option ((Int32) × CS) := k_Face_giveUp_b0 σ l0 l1
theorem k_Face_giveUp_ok {E : CE} {pF : Nat → List Value → xH → Option (Option Value × xH)} (hp0 : xNPc pF) (hL : lcAll E pF) (hF : lcF pF) {d : Nat} {g : CG} {σ : CS} {l0 : Nat} {l1 : Int32} {res : (Int32) × CS} (bl0 : cob σ 15 l0) (h : k_Face_giveUp σ l0 l1 = some res) : cCo E cQ1 pF (d + 4) 215 [.ref (coa E 15 l0), .int l1] (some (.int res.1)) res.2 g σ :=
  cCo_R kk_215 mo_215 ni_215 xm_215 (Nat.le_of_ble_eq_true rfl) (hp0 215 (by decide) _) (k_Face_giveUp_b0_ok hp0 hL hF g _ σ l0 l1 bl0 rfl rfl _ h)
