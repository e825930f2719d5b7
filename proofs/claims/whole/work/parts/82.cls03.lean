/-! printed by wip/whole/gen_face.py -/
/-! k_Face_asker_J (205), depth 1 -/
def k_Face_asker_J_b10  (σ : CS) : Option (Unit) :=
  some ()
set_option maxRecDepth 4000 in
theorem k_Face_asker_J_b10_ok {E : CE} {pF : Nat → List Value → xH → Option (Option Value × xH)} (hp0 : xNPc pF) (hL : lcAll E pF) (hF : lcF pF) {d : Nat}   : ∀ (g : CG) (lv : xL) (σ : CS), ∀ res, k_Face_asker_J_b10  σ = some res → cR E cQ1 pF (d + 0) kt205_J 15 2 Option.none none σ g σ (10, lv, []) := by
  intro g lv σ res h
  unfold k_Face_asker_J_b10 at h
  cases h
  exact cR_end lt205_J_10 rfl rfl rfl
def k_Face_asker_J_b0  (σ : CS) (l0 : Nat) (l1 : Int32) : Option (Unit) :=
  if xc0 .lt l1 = true then (
    k_Face_asker_J_b10  σ
  ) else (
    if xc2 .lt l1 ((8 : Int32)) = true then (
      (cix 15 3 l1).bind fun n3 =>
      none
    ) else (
      k_Face_asker_J_b10  σ
    )
  )
set_option maxRecDepth 4000 in
theorem k_Face_asker_J_b0_ok {E : CE} {pF : Nat → List Value → xH → Option (Option Value × xH)} (hp0 : xNPc pF) (hL : lcAll E pF) (hF : lcF pF) {d : Nat}   : ∀ (g : CG) (lv : xL) (σ : CS) (l0 : Nat) (l1 : Int32), (cob σ 15 l0) → (xg lv 0 = some (.ref (coa E 15 l0))) → (xg lv 1 = some (.int l1)) → ∀ res, k_Face_asker_J_b0  σ l0 l1 = some res → cR E cQ1 pF (d + 0) kt205_J 15 2 Option.none none σ g σ (0, lv, []) := by
  intro g lv σ l0 l1 bl0 g0 g1 res h
  unfold k_Face_asker_J_b0 at h
  refine cR_lift (fun _ _ kk => eE_iload_n lt205_J_0 g1 kk) ?_
  refine cR_if (t := 10) lt205_J_1 (by decide) (fun c1 => ?_) (fun c1 => ?_)
  · rw [if_pos c1] at h
    exact k_Face_asker_J_b10_ok hp0 hL hF  g lv σ  _ h
  · rw [if_neg c1] at h
    refine cR_lift (fun _ _ kk => eE_iload_n lt205_J_4 g1 kk) ?_
    refine cR_lift (fun _ _ kk => eE_bipush (v := 8) lt205_J_5 (by decide) kk) ?_
    refine cR_icmp (t := 18) lt205_J_7 (by decide) (fun c2 => ?_) (fun c2 => ?_)
    · rw [if_pos c2] at h
      refine cR_lift (fun _ _ kk => eE_aload_n lt205_J_18 g0 kk) ?_
      refine cR_getA lt205_J_19 rf_15_17 (by decide) bl0 ?_
      refine cR_lift (fun _ _ kk => eE_iload_n lt205_J_22 g1 kk) ?_
      obtain ⟨n3, h4, h⟩ := Option.bind_eq_some_iff.mp h
      refine cR_aald (cl := 15) (i := l0) (f := 3) (cl' := 5) (i' := n3) lt205_J_23 rfl (by decide) bl0 h4 rfl ?_
      cases h
    · rw [if_neg c2] at h
      exact k_Face_asker_J_b10_ok hp0 hL hF  g lv σ  _ h
def k_Face_asker_J (σ : CS) (l0 : Nat) (l1 : Int32) : Option (Unit) := k_Face_asker_J_b0 σ l0 l1
theorem k_Face_asker_J_ok {E : CE} {pF : Nat → List Value → xH → Option (Option Value × xH)} (hp0 : xNPc pF) (hL : lcAll E pF) (hF : lcF pF) {d : Nat} {g : CG} {σ : CS} {l0 : Nat} {l1 : Int32} {res : Unit} (bl0 : cob σ 15 l0) (h : k_Face_asker_J σ l0 l1 = some res) : cR E cQ1 pF (d + 0) kt205_J 15 2 Option.none none σ g σ (0, lv_args 0 [.ref (coa E 15 l0), .int l1], []) :=
  k_Face_asker_J_b0_ok hp0 hL hF g _ σ l0 l1 bl0 rfl rfl _ h
/-! k_Face_byteAt_J (206), depth 1 -/
def k_Face_byteAt_J_b12  (σ : CS) : Option (Unit) :=
  some ()
set_option maxRecDepth 4000 in
theorem k_Face_byteAt_J_b12_ok {E : CE} {pF : Nat → List Value → xH → Option (Option Value × xH)} (hp0 : xNPc pF) (hL : lcAll E pF) (hF : lcF pF) {d : Nat}   : ∀ (g : CG) (lv : xL) (σ : CS), ∀ res, k_Face_byteAt_J_b12  σ = some res → cR E cQ1 pF (d + 0) kt206_J 15 2 Option.none none σ g σ (12, lv, []) := by
  intro g lv σ res h
  unfold k_Face_byteAt_J_b12 at h
  cases h
  exact cR_end lt206_J_12 rfl rfl rfl
def k_Face_byteAt_J_b0  (σ : CS) (l0 : Nat) (l1 : Int32) : Option (Unit) :=
  if xc0 .lt l1 = true then (
    k_Face_byteAt_J_b12  σ
  ) else (
    if xc2 .lt l1 (cI σ 15 l0 7 0) = true then (
      (crd σ 15 l0 6 l1).bind fun x3 =>
      none
    ) else (
      k_Face_byteAt_J_b12  σ
    )
  )
set_option maxRecDepth 4000 in
theorem k_Face_byteAt_J_b0_ok {E : CE} {pF : Nat → List Value → xH → Option (Option Value × xH)} (hp0 : xNPc pF) (hL : lcAll E pF) (hF : lcF pF) {d : Nat}   : ∀ (g : CG) (lv : xL) (σ : CS) (l0 : Nat) (l1 : Int32), (cob σ 15 l0) → (xg lv 0 = some (.ref (coa E 15 l0))) → (xg lv 1 = some (.int l1)) → ∀ res, k_Face_byteAt_J_b0  σ l0 l1 = some res → cR E cQ1 pF (d + 0) kt206_J 15 2 Option.none none σ g σ (0, lv, []) := by
  intro g lv σ l0 l1 bl0 g0 g1 res h
  unfold k_Face_byteAt_J_b0 at h
  refine cR_lift (fun _ _ kk => eE_iload_n lt206_J_0 g1 kk) ?_
  refine cR_if (t := 12) lt206_J_1 (by decide) (fun c1 => ?_) (fun c1 => ?_)
  · rw [if_pos c1] at h
    exact k_Face_byteAt_J_b12_ok hp0 hL hF  g lv σ  _ h
  · rw [if_neg c1] at h
    refine cR_lift (fun _ _ kk => eE_iload_n lt206_J_4 g1 kk) ?_
    refine cR_lift (fun _ _ kk => eE_aload_n lt206_J_5 g0 kk) ?_
    refine cR_getI lt206_J_6 rf_15_242 rfl bl0 ?_
    refine cR_icmp (t := 20) lt206_J_9 (by decide) (fun c2 => ?_) (fun c2 => ?_)
    · rw [if_pos c2] at h
      refine cR_lift (fun _ _ kk => eE_aload_n lt206_J_20 g0 kk) ?_
      refine cR_getA lt206_J_21 rf_15_25 (by decide) bl0 ?_
      refine cR_lift (fun _ _ kk => eE_iload_n lt206_J_24 g1 kk) ?_
      obtain ⟨x3, h4, h⟩ := Option.bind_eq_some_iff.mp h
      refine cR_bald (cl := 15) (i := l0) (f := 6) lt206_J_25 (by decide) (Or.inl rfl) bl0 h4 ?_
      refine cR_lift (fun _ _ kk => eE_sipush (v := 255) lt206_J_26 (by decide) kk) ?_
      refine cR_lift (fun _ _ kk => eE_iand lt206_J_29 kk) ?_
      cases h
    · rw [if_neg c2] at h
      exact k_Face_byteAt_J_b12_ok hp0 hL hF  g lv σ  _ h
def k_Face_byteAt_J (σ : CS) (l0 : Nat) (l1 : Int32) : Option (Unit) := k_Face_byteAt_J_b0 σ l0 l1
theorem k_Face_byteAt_J_ok {E : CE} {pF : Nat → List Value → xH → Option (Option Value × xH)} (hp0 : xNPc pF) (hL : lcAll E pF) (hF : lcF pF) {d : Nat} {g : CG} {σ : CS} {l0 : Nat} {l1 : Int32} {res : Unit} (bl0 : cob σ 15 l0) (h : k_Face_byteAt_J σ l0 l1 = some res) : cR E cQ1 pF (d + 0) kt206_J 15 2 Option.none none σ g σ (0, lv_args 0 [.ref (coa E 15 l0), .int l1], []) :=
  k_Face_byteAt_J_b0_ok hp0 hL hF g _ σ l0 l1 bl0 rfl rfl _ h
/-! k_Face_client_J (207), depth 2 -/
def k_Face_client_J_b56  (σ : CS) (s0 : Int32) : Option (Unit) :=
  none
set_option maxRecDepth 4000 in
theorem k_Face_client_J_b56_ok {E : CE} {pF : Nat → List Value → xH → Option (Option Value × xH)} (hp0 : xNPc pF) (hL : lcAll E pF) (hF : lcF pF) {d : Nat}   : ∀ (g : CG) (lv : xL) (σ : CS) (s0 : Int32), ∀ res, k_Face_client_J_b56  σ s0 = some res → cR E cQ1 pF (d + 1) kt207_J 15 4 Option.none none σ g σ (56, lv, [.int s0]) := by
  intro g lv σ s0 res h
  unfold k_Face_client_J_b56 at h
  cases h
def k_Face_client_J_b0  (σ : CS) (l0 : Nat) (l1 : Int32) (l2 : Int32) : Option (Unit) :=
  (k_Face_asker σ l0 l1).bind fun p1 =>
  if l2 = (0 : Int32) then (
    if xc0 .eq (cI σ 5 p1 3 0) = true then (
      k_Face_client_J_b56  σ ((0 : Int32))
    ) else (
      k_Face_client_J_b56  σ ((1 : Int32))
    )
  ) else (
  if l2 = (1 : Int32) then (
    none
  ) else (
  if l2 = (2 : Int32) then (
    none
  ) else (
  if l2 = (3 : Int32) then (
    none
  ) else (
  if l2 = (4 : Int32) then (
    none
  ) else (
  if l2 = (5 : Int32) then (
    none
  ) else (
    some ()
  )
  )
  )
  )
  )
  )
set_option maxRecDepth 4000 in
theorem k_Face_client_J_b0_ok {E : CE} {pF : Nat → List Value → xH → Option (Option Value × xH)} (hp0 : xNPc pF) (hL : lcAll E pF) (hF : lcF pF) {d : Nat}   : ∀ (g : CG) (lv : xL) (σ : CS) (l0 : Nat) (l1 : Int32) (l2 : Int32), (cob σ 15 l0) → (xg lv 0 = some (.ref (coa E 15 l0))) → (xg lv 1 = some (.int l1)) → (xg lv 2 = some (.int l2)) → ∀ res, k_Face_client_J_b0  σ l0 l1 l2 = some res → cR E cQ1 pF (d + 1) kt207_J 15 4 Option.none none σ g σ (0, lv, []) := by
  intro g lv σ l0 l1 l2 bl0 g0 g1 g2 res h
  unfold k_Face_client_J_b0 at h
  refine cR_lift (fun _ _ kk => eE_aload_n lt207_J_0 g0 kk) ?_
  refine cR_lift (fun _ _ kk => eE_iload_n lt207_J_1 g1 kk) ?_
  obtain ⟨p1, h2, h⟩ := Option.bind_eq_some_iff.mp h
  refine cR_rep (fun _ hc => k_Face_asker_lt hc bl0 h2) (fun b3 => ?_)
  refine cR_virt (cl := 15) (i := l0) (as := [.int l1]) lt207_J_2 mr_15_76 na_205 rfl rfl (by first | exact Nat.le_of_ble_eq_true rfl | (simp [xcat, cvo_cat, cat_i, cat_j, cat_r]; done)) wv_205 wc_205 bl0 (k_Face_asker_ok hp0 hL hF (d := d + 0) bl0 h2) (fun m4  => ?_)
  refine cR_stA (j := 3) lt207_J_5 (Or.inr ⟨_, rfl, rfl⟩) (by decide) (fun vq5 gq6 kq7 => ?_)
  have gq8 := kq7 2 _ (by decide) (fun _ => rfl) g2
  refine cR_lift (fun _ _ kk => eE_iload_n lt207_J_6 gq8 kk) ?_
  by_cases c9 : l2 = (0 : Int32)
  · rw [if_pos c9] at h
    refine cR_tsw (t := 44) (off := 37) lt207_J_7 (by rw [c9]; decide) (by rw [c9]; rfl) (by decide) ?_
    refine cR_lift (fun _ _ kk => eE_aload_n lt207_J_44 gq6 kk) ?_
    refine cR_getI lt207_J_45 rf_15_84 rfl b3 ?_
    refine cR_if (t := 55) lt207_J_48 (by decide) (fun c10 => ?_) (fun c10 => ?_)
    · rw [if_pos c10] at h
      refine cR_lift (fun _ _ kk => eE_iconst (v := 0) lt207_J_55 (by decide) kk) ?_
      exact k_Face_client_J_b56_ok hp0 hL hF  g vq5 σ ((0 : Int32))  _ h
    · rw [if_neg c10] at h
      refine cR_lift (fun _ _ kk => eE_iconst (v := 1) lt207_J_51 (by decide) kk) ?_
      refine cR_lift (fun _ _ kk => eE_goto (t := 56) lt207_J_52 (by decide) kk) ?_
      exact k_Face_client_J_b56_ok hp0 hL hF  g vq5 σ ((1 : Int32))  _ h
  rw [if_neg c9] at h
  by_cases c11 : l2 = (1 : Int32)
  · rw [if_pos c11] at h
    refine cR_tsw (t := 57) (off := 50) lt207_J_7 (by rw [c11]; decide) (by rw [c11]; rfl) (by decide) ?_
    refine cR_lift (fun _ _ kk => eE_aload_n lt207_J_57 gq6 kk) ?_
    refine cR_getI lt207_J_58 rf_15_275 rfl b3 ?_
    cases h
  rw [if_neg c11] at h
  by_cases c12 : l2 = (2 : Int32)
  · rw [if_pos c12] at h
    refine cR_tsw (t := 62) (off := 55) lt207_J_7 (by rw [c12]; decide) (by rw [c12]; rfl) (by decide) ?_
    refine cR_lift (fun _ _ kk => eE_aload_n lt207_J_62 gq6 kk) ?_
    refine cR_getI lt207_J_63 rf_15_278 rfl b3 ?_
    cases h
  rw [if_neg c12] at h
  by_cases c13 : l2 = (3 : Int32)
  · rw [if_pos c13] at h
    refine cR_tsw (t := 67) (off := 60) lt207_J_7 (by rw [c13]; decide) (by rw [c13]; rfl) (by decide) ?_
    refine cR_lift (fun _ _ kk => eE_aload_n lt207_J_67 gq6 kk) ?_
    refine cR_getI lt207_J_68 rf_15_281 rfl b3 ?_
    cases h
  rw [if_neg c13] at h
  by_cases c14 : l2 = (4 : Int32)
  · rw [if_pos c14] at h
    refine cR_tsw (t := 72) (off := 65) lt207_J_7 (by rw [c14]; decide) (by rw [c14]; rfl) (by decide) ?_
    refine cR_lift (fun _ _ kk => eE_aload_n lt207_J_72 gq6 kk) ?_
    refine cR_getI lt207_J_73 rf_15_284 rfl b3 ?_
    cases h
  rw [if_neg c14] at h
  by_cases c15 : l2 = (5 : Int32)
  · rw [if_pos c15] at h
    refine cR_tsw (t := 77) (off := 70) lt207_J_7 (by rw [c15]; decide) (by rw [c15]; rfl) (by decide) ?_
    refine cR_lift (fun _ _ kk => eE_aload_n lt207_J_77 gq6 kk) ?_
    refine cR_getI lt207_J_78 rf_15_287 rfl b3 ?_
    cases h
  rw [if_neg c15] at h
  refine cR_tswD (t := 82) lt207_J_7 (xsw_out (n := 6) (fun j hj => ?_)) (by decide) ?_
  · match j, hj with
    | 0, _ => exact c9
    | 1, _ => exact c11
    | 2, _ => exact c12
    | 3, _ => exact c13
    | 4, _ => exact c14
    | 5, _ => exact c15
    | q + 6, hj => exact absurd hj (by omega)
  cases h
  exact cR_end lt207_J_82 rfl rfl rfl
def k_Face_client_J (σ : CS) (l0 : Nat) (l1 : Int32) (l2 : Int32) : Option (Unit) := k_Face_client_J_b0 σ l0 l1 l2
theorem k_Face_client_J_ok {E : CE} {pF : Nat → List Value → xH → Option (Option Value × xH)} (hp0 : xNPc pF) (hL : lcAll E pF) (hF : lcF pF) {d : Nat} {g : CG} {σ : CS} {l0 : Nat} {l1 : Int32} {l2 : Int32} {res : Unit} (bl0 : cob σ 15 l0) (h : k_Face_client_J σ l0 l1 l2 = some res) : cR E cQ1 pF (d + 1) kt207_J 15 4 Option.none none σ g σ (0, lv_args 0 [.ref (coa E 15 l0), .int l1, .int l2], []) :=
  k_Face_client_J_b0_ok hp0 hL hF g _ σ l0 l1 l2 bl0 rfl rfl rfl _ h
/-! k_Face_delay_A (210), depth 2 -/
def k_Face_delay_A_b14  (σ : CS) : Option (CS) :=
  none
set_option maxRecDepth 4000 in
theorem k_Face_delay_A_b14_ok {E : CE} {pF : Nat → List Value → xH → Option (Option Value × xH)} (hp0 : xNPc pF) (hL : lcAll E pF) (hF : lcF pF) {d : Nat}   : ∀ (g : CG) (lv : xL) (σ : CS), ∀ res, k_Face_delay_A_b14  σ = some res → cR E cQ1 pF (d + 1) kt210_A 15 6 Option.none none res g σ (14, lv, []) := by
  intro g lv σ res h
  unfold k_Face_delay_A_b14 at h
  cases h
def k_Face_delay_A_b34  (σ : CS) : Option (CS) :=
  some σ
set_option maxRecDepth 4000 in
theorem k_Face_delay_A_b34_ok {E : CE} {pF : Nat → List Value → xH → Option (Option Value × xH)} (hp0 : xNPc pF) (hL : lcAll E pF) (hF : lcF pF) {d : Nat}   : ∀ (g : CG) (lv : xL) (σ : CS), ∀ res, k_Face_delay_A_b34  σ = some res → cR E cQ1 pF (d + 1) kt210_A 15 6 Option.none none res g σ (34, lv, []) := by
  intro g lv σ res h
  unfold k_Face_delay_A_b34 at h
  cases h
  exact cR_end lt210_A_34 rfl rfl rfl
def k_Face_delay_A_b0  (σ : CS) (l0 : Nat) (l1 : Int32) (l2 : Int32) (l3 : Int32) : Option (CS) :=
  (k_Face_isEndpoint σ l1).bind fun p1 =>
  if xc0 .eq p1 = true then (
    k_Face_delay_A_b14  σ
  ) else (
    (k_Face_isEndpoint σ l2).bind fun p5 =>
    if xc0 .ne p5 = true then (
      if xc2 .lt l3 ((1 : Int32)) = true then (
        k_Face_delay_A_b34  σ
      ) else (
        if xc2 .le l3 ((1000 : Int32)) = true then (
          (crd σ 14 0 12 ((l1 * ((16 : Int32))) + l2)).bind fun x16 =>
          (cwr σ 14 0 12 ((l1 * ((16 : Int32))) + l2) l3).bind fun σ24 =>
          none
        ) else (
          k_Face_delay_A_b34  σ
        )
      )
    ) else (
      k_Face_delay_A_b14  σ
    )
  )
set_option maxRecDepth 4000 in
theorem k_Face_delay_A_b0_ok {E : CE} {pF : Nat → List Value → xH → Option (Option Value × xH)} (hp0 : xNPc pF) (hL : lcAll E pF) (hF : lcF pF) {d : Nat}   : ∀ (g : CG) (lv : xL) (σ : CS) (l0 : Nat) (l1 : Int32) (l2 : Int32) (l3 : Int32), (cob σ 15 l0) → (xg lv 0 = some (.ref (coa E 15 l0))) → (xg lv 1 = some (.int l1)) → (xg lv 2 = some (.int l2)) → (xg lv 3 = some (.int l3)) → ∀ res, k_Face_delay_A_b0  σ l0 l1 l2 l3 = some res → cR E cQ1 pF (d + 1) kt210_A 15 6 Option.none none res g σ (0, lv, []) := by
  intro g lv σ l0 l1 l2 l3 bl0 g0 g1 g2 g3 res h
  unfold k_Face_delay_A_b0 at h
  refine cR_lift (fun _ _ kk => eE_iload_n lt210_A_0 g1 kk) ?_
  obtain ⟨p1, h2, h⟩ := Option.bind_eq_some_iff.mp h
  refine cR_stat (as := [.int l1]) lt210_A_1 mr_15_114 na_222 rfl rfl (by first | exact Nat.le_of_ble_eq_true rfl | (simp [xcat, cvo_cat, cat_i, cat_j, cat_r]; done)) mm_222 ws_222 (k_Face_isEndpoint_ok hp0 hL hF (d := d + 0)  h2) (fun m3 => ?_)
  refine cR_if (t := 14) lt210_A_4 (by decide) (fun c4 => ?_) (fun c4 => ?_)
  · rw [if_pos c4] at h
    exact k_Face_delay_A_b14_ok hp0 hL hF  g lv σ  _ h
  · rw [if_neg c4] at h
    refine cR_lift (fun _ _ kk => eE_iload_n lt210_A_7 g2 kk) ?_
    obtain ⟨p5, h6, h⟩ := Option.bind_eq_some_iff.mp h
    refine cR_stat (as := [.int l2]) lt210_A_8 mr_15_114 na_222 rfl rfl (by first | exact Nat.le_of_ble_eq_true rfl | (simp [xcat, cvo_cat, cat_i, cat_j, cat_r]; done)) mm_222 ws_222 (k_Face_isEndpoint_ok hp0 hL hF (d := d + 0)  h6) (fun m7 => ?_)
    refine cR_if (t := 22) lt210_A_11 (by decide) (fun c8 => ?_) (fun c8 => ?_)
    · rw [if_pos c8] at h
      refine cR_lift (fun _ _ kk => eE_iload_n lt210_A_22 g3 kk) ?_
      refine cR_lift (fun _ _ kk => eE_iconst (v := 1) lt210_A_23 (by decide) kk) ?_
      refine cR_icmp (t := 34) lt210_A_24 (by decide) (fun c9 => ?_) (fun c9 => ?_)
      · rw [if_pos c9] at h
        exact k_Face_delay_A_b34_ok hp0 hL hF  g lv σ  _ h
      · rw [if_neg c9] at h
        refine cR_lift (fun _ _ kk => eE_iload_n lt210_A_27 g3 kk) ?_
        refine cR_lift (fun _ _ kk => eE_sipush (v := 1000) lt210_A_28 (by decide) kk) ?_
        refine cR_icmp (t := 42) lt210_A_31 (by decide) (fun c10 => ?_) (fun c10 => ?_)
        · rw [if_pos c10] at h
          refine cR_lift (fun _ _ kk => eE_iload_n lt210_A_42 g1 kk) ?_
          refine cR_lift (fun _ _ kk => eE_bipush (v := 16) lt210_A_43 (by decide) kk) ?_
          refine cR_lift (fun _ _ kk => eE_imul lt210_A_45 kk) ?_
          refine cR_lift (fun _ _ kk => eE_iload_n lt210_A_46 g2 kk) ?_
          refine cR_lift (fun _ _ kk => eE_iadd lt210_A_47 kk) ?_
          refine cR_stI (j := 4) lt210_A_48 (Or.inl rfl) (by decide) (fun vq11 gq12 kq13 => ?_)
          have gq14 := kq13 0 _ (by decide) (fun e => absurd e (by decide)) g0
          have gq15 := kq13 3 _ (by decide) (fun _ => rfl) g3
          refine cR_lift (fun _ _ kk => eE_aload_n lt210_A_50 gq14 kk) ?_
          refine cR_getO (cl' := 14) (i' := 0) lt210_A_51 rf_15_42 rfl rfl bl0 ?_
          refine cR_getA lt210_A_54 rf_15_121 (by decide) (cob_0 (c := σ) (cl := 14) (by decide) rfl rfl) ?_
          refine cR_lift (fun _ _ kk => eE_iload lt210_A_57 gq12 kk) ?_
          obtain ⟨x16, h17, h⟩ := Option.bind_eq_some_iff.mp h
          refine cR_iald (cl := 14) (i := 0) (f := 12) lt210_A_59 (by decide) rfl (cob_0 (c := σ) (cl := 14) (by decide) rfl rfl) h17 ?_
          refine cR_stI (j := 5) lt210_A_60 (Or.inl rfl) (by decide) (fun vq18 gq19 kq20 => ?_)
          have gq21 := kq20 0 _ (by decide) (fun e => absurd e (by decide)) gq14
          have gq22 := kq20 3 _ (by decide) (fun e => absurd e (by decide)) gq15
          have gq23 := kq20 4 _ (by decide) (fun _ => rfl) gq12
          refine cR_lift (fun _ _ kk => eE_aload_n lt210_A_62 gq21 kk) ?_
          refine cR_getO (cl' := 14) (i' := 0) lt210_A_63 rf_15_42 rfl rfl bl0 ?_
          refine cR_getA lt210_A_66 rf_15_121 (by decide) (cob_0 (c := σ) (cl := 14) (by decide) rfl rfl) ?_
          refine cR_lift (fun _ _ kk => eE_iload lt210_A_69 gq23 kk) ?_
          refine cR_lift (fun _ _ kk => eE_iload_n lt210_A_71 gq22 kk) ?_
          obtain ⟨σ24, h25, h⟩ := Option.bind_eq_some_iff.mp h
          refine cR_iast (cl := 14) (i := 0) (f := 12) lt210_A_72 (by decide) rfl (cob_0 (c := σ) (cl := 14) (by decide) rfl rfl) h25 ?_
          refine cR_lift (fun _ _ kk => eE_iload lt210_A_73 gq19 kk) ?_
          cases h
        · rw [if_neg c10] at h
          exact k_Face_delay_A_b34_ok hp0 hL hF  g lv σ  _ h
    · rw [if_neg c8] at h
      exact k_Face_delay_A_b14_ok hp0 hL hF  g lv σ  _ h
def k_Face_delay_A (σ : CS) (l0 : Nat) (l1 : Int32) (l2 : Int32) (l3 : Int32) : Option (CS) := k_Face_delay_A_b0 σ l0 l1 l2 l3
theorem k_Face_delay_A_ok {E : CE} {pF : Nat → List Value → xH → Option (Option Value × xH)} (hp0 : xNPc pF) (hL : lcAll E pF) (hF : lcF pF) {d : Nat} {g : CG} {σ : CS} {l0 : Nat} {l1 : Int32} {l2 : Int32} {l3 : Int32} {res : CS} (bl0 : cob σ 15 l0) (h : k_Face_delay_A σ l0 l1 l2 l3 = some res) : cR E cQ1 pF (d + 1) kt210_A 15 6 Option.none none res g σ (0, lv_args 0 [.ref (coa E 15 l0), .int l1, .int l2, .int l3], []) :=
  k_Face_delay_A_b0_ok hp0 hL hF g _ σ l0 l1 l2 l3 bl0 rfl rfl rfl rfl _ h
/-! k_Face_delay_J (210), depth 2 -/
def k_Face_delay_J_b14  (σ : CS) : Option (CS) :=
  some σ
set_option maxRecDepth 4000 in
theorem k_Face_delay_J_b14_ok {E : CE} {pF : Nat → List Value → xH → Option (Option Value × xH)} (hp0 : xNPc pF) (hL : lcAll E pF) (hF : lcF pF) {d : Nat}   : ∀ (g : CG) (lv : xL) (σ : CS), ∀ res, k_Face_delay_J_b14  σ = some res → cR E cQ1 pF (d + 1) kt210_J 15 6 Option.none none res g σ (14, lv, []) := by
  intro g lv σ res h
  unfold k_Face_delay_J_b14 at h
  cases h
  exact cR_end lt210_J_14 rfl rfl rfl
def k_Face_delay_J_b34  (σ : CS) : Option (CS) :=
  none
set_option maxRecDepth 4000 in
theorem k_Face_delay_J_b34_ok {E : CE} {pF : Nat → List Value → xH → Option (Option Value × xH)} (hp0 : xNPc pF) (hL : lcAll E pF) (hF : lcF pF) {d : Nat}   : ∀ (g : CG) (lv : xL) (σ : CS), ∀ res, k_Face_delay_J_b34  σ = some res → cR E cQ1 pF (d + 1) kt210_J 15 6 Option.none none res g σ (34, lv, []) := by
  intro g lv σ res h
  unfold k_Face_delay_J_b34 at h
  cases h
def k_Face_delay_J_b0  (σ : CS) (l0 : Nat) (l1 : Int32) (l2 : Int32) (l3 : Int32) : Option (CS) :=
  (k_Face_isEndpoint σ l1).bind fun p1 =>
  if xc0 .eq p1 = true then (
    k_Face_delay_J_b14  σ
  ) else (
    (k_Face_isEndpoint σ l2).bind fun p5 =>
    if xc0 .ne p5 = true then (
      if xc2 .lt l3 ((1 : Int32)) = true then (
        k_Face_delay_J_b34  σ
      ) else (
        if xc2 .le l3 ((1000 : Int32)) = true then (
          (crd σ 14 0 12 ((l1 * ((16 : Int32))) + l2)).bind fun x16 =>
          (cwr σ 14 0 12 ((l1 * ((16 : Int32))) + l2) l3).bind fun σ24 =>
          none
        ) else (
          k_Face_delay_J_b34  σ
        )
      )
    ) else (
      k_Face_delay_J_b14  σ
    )
  )
set_option maxRecDepth 4000 in
theorem k_Face_delay_J_b0_ok {E : CE} {pF : Nat → List Value → xH → Option (Option Value × xH)} (hp0 : xNPc pF) (hL : lcAll E pF) (hF : lcF pF) {d : Nat}   : ∀ (g : CG) (lv : xL) (σ : CS) (l0 : Nat) (l1 : Int32) (l2 : Int32) (l3 : Int32), (cob σ 15 l0) → (xg lv 0 = some (.ref (coa E 15 l0))) → (xg lv 1 = some (.int l1)) → (xg lv 2 = some (.int l2)) → (xg lv 3 = some (.int l3)) → ∀ res, k_Face_delay_J_b0  σ l0 l1 l2 l3 = some res → cR E cQ1 pF (d + 1) kt210_J 15 6 Option.none none res g σ (0, lv, []) := by
  intro g lv σ l0 l1 l2 l3 bl0 g0 g1 g2 g3 res h
  unfold k_Face_delay_J_b0 at h
  refine cR_lift (fun _ _ kk => eE_iload_n lt210_J_0 g1 kk) ?_
  obtain ⟨p1, h2, h⟩ := Option.bind_eq_some_iff.mp h
  refine cR_stat (as := [.int l1]) lt210_J_1 mr_15_114 na_222 rfl rfl (by first | exact Nat.le_of_ble_eq_true rfl | (simp [xcat, cvo_cat, cat_i, cat_j, cat_r]; done)) mm_222 ws_222 (k_Face_isEndpoint_ok hp0 hL hF (d := d + 0)  h2) (fun m3 => ?_)
  refine cR_if (t := 14) lt210_J_4 (by decide) (fun c4 => ?_) (fun c4 => ?_)
  · rw [if_pos c4] at h
    exact k_Face_delay_J_b14_ok hp0 hL hF  g lv σ  _ h
  · rw [if_neg c4] at h
    refine cR_lift (fun _ _ kk => eE_iload_n lt210_J_7 g2 kk) ?_
    obtain ⟨p5, h6, h⟩ := Option.bind_eq_some_iff.mp h
    refine cR_stat (as := [.int l2]) lt210_J_8 mr_15_114 na_222 rfl rfl (by first | exact Nat.le_of_ble_eq_true rfl | (simp [xcat, cvo_cat, cat_i, cat_j, cat_r]; done)) mm_222 ws_222 (k_Face_isEndpoint_ok hp0 hL hF (d := d + 0)  h6) (fun m7 => ?_)
    refine cR_if (t := 22) lt210_J_11 (by decide) (fun c8 => ?_) (fun c8 => ?_)
    · rw [if_pos c8] at h
      refine cR_lift (fun _ _ kk => eE_iload_n lt210_J_22 g3 kk) ?_
      refine cR_lift (fun _ _ kk => eE_iconst (v := 1) lt210_J_23 (by decide) kk) ?_
      refine cR_icmp (t := 34) lt210_J_24 (by decide) (fun c9 => ?_) (fun c9 => ?_)
      · rw [if_pos c9] at h
        exact k_Face_delay_J_b34_ok hp0 hL hF  g lv σ  _ h
      · rw [if_neg c9] at h
        refine cR_lift (fun _ _ kk => eE_iload_n lt210_J_27 g3 kk) ?_
        refine cR_lift (fun _ _ kk => eE_sipush (v := 1000) lt210_J_28 (by decide) kk) ?_
        refine cR_icmp (t := 42) lt210_J_31 (by decide) (fun c10 => ?_) (fun c10 => ?_)
        · rw [if_pos c10] at h
          refine cR_lift (fun _ _ kk => eE_iload_n lt210_J_42 g1 kk) ?_
          refine cR_lift (fun _ _ kk => eE_bipush (v := 16) lt210_J_43 (by decide) kk) ?_
          refine cR_lift (fun _ _ kk => eE_imul lt210_J_45 kk) ?_
          refine cR_lift (fun _ _ kk => eE_iload_n lt210_J_46 g2 kk) ?_
          refine cR_lift (fun _ _ kk => eE_iadd lt210_J_47 kk) ?_
          refine cR_stI (j := 4) lt210_J_48 (Or.inl rfl) (by decide) (fun vq11 gq12 kq13 => ?_)
          have gq14 := kq13 0 _ (by decide) (fun e => absurd e (by decide)) g0
          have gq15 := kq13 3 _ (by decide) (fun _ => rfl) g3
          refine cR_lift (fun _ _ kk => eE_aload_n lt210_J_50 gq14 kk) ?_
          refine cR_getO (cl' := 14) (i' := 0) lt210_J_51 rf_15_42 rfl rfl bl0 ?_
          refine cR_getA lt210_J_54 rf_15_121 (by decide) (cob_0 (c := σ) (cl := 14) (by decide) rfl rfl) ?_
          refine cR_lift (fun _ _ kk => eE_iload lt210_J_57 gq12 kk) ?_
          obtain ⟨x16, h17, h⟩ := Option.bind_eq_some_iff.mp h
          refine cR_iald (cl := 14) (i := 0) (f := 12) lt210_J_59 (by decide) rfl (cob_0 (c := σ) (cl := 14) (by decide) rfl rfl) h17 ?_
          refine cR_stI (j := 5) lt210_J_60 (Or.inl rfl) (by decide) (fun vq18 gq19 kq20 => ?_)
          have gq21 := kq20 0 _ (by decide) (fun e => absurd e (by decide)) gq14
          have gq22 := kq20 3 _ (by decide) (fun e => absurd e (by decide)) gq15
          have gq23 := kq20 4 _ (by decide) (fun _ => rfl) gq12
          refine cR_lift (fun _ _ kk => eE_aload_n lt210_J_62 gq21 kk) ?_
          refine cR_getO (cl' := 14) (i' := 0) lt210_J_63 rf_15_42 rfl rfl bl0 ?_
          refine cR_getA lt210_J_66 rf_15_121 (by decide) (cob_0 (c := σ) (cl := 14) (by decide) rfl rfl) ?_
          refine cR_lift (fun _ _ kk => eE_iload lt210_J_69 gq23 kk) ?_
          refine cR_lift (fun _ _ kk => eE_iload_n lt210_J_71 gq22 kk) ?_
          obtain ⟨σ24, h25, h⟩ := Option.bind_eq_some_iff.mp h
          refine cR_iast (cl := 14) (i := 0) (f := 12) lt210_J_72 (by decide) rfl (cob_0 (c := σ) (cl := 14) (by decide) rfl rfl) h25 ?_
          refine cR_lift (fun _ _ kk => eE_iload lt210_J_73 gq19 kk) ?_
          cases h
        · rw [if_neg c10] at h
          exact k_Face_delay_J_b34_ok hp0 hL hF  g lv σ  _ h
    · rw [if_neg c8] at h
      exact k_Face_delay_J_b14_ok hp0 hL hF  g lv σ  _ h
def k_Face_delay_J (σ : CS) (l0 : Nat) (l1 : Int32) (l2 : Int32) (l3 : Int32) : Option (CS) := k_Face_delay_J_b0 σ l0 l1 l2 l3
theorem k_Face_delay_J_ok {E : CE} {pF : Nat → List Value → xH → Option (Option Value × xH)} (hp0 : xNPc pF) (hL : lcAll E pF) (hF : lcF pF) {d : Nat} {g : CG} {σ : CS} {l0 : Nat} {l1 : Int32} {l2 : Int32} {l3 : Int32} {res : CS} (bl0 : cob σ 15 l0) (h : k_Face_delay_J σ l0 l1 l2 l3 = some res) : cR E cQ1 pF (d + 1) kt210_J 15 6 Option.none none res g σ (0, lv_args 0 [.ref (coa E 15 l0), .int l1, .int l2, .int l3], []) :=
  k_Face_delay_J_b0_ok hp0 hL hF g _ σ l0 l1 l2 l3 bl0 rfl rfl rfl rfl _ h
/-! k_Face_end_A (211), depth 1 -/
def k_Face_end_A_b10  (σ : CS) : Option (CS) :=
  some σ
set_option maxRecDepth 4000 in
theorem k_Face_end_A_b10_ok {E : CE} {pF : Nat → List Value → xH → Option (Option Value × xH)} (hp0 : xNPc pF) (hL : lcAll E pF) (hF : lcF pF) {d : Nat}   : ∀ (g : CG) (lv : xL) (σ : CS), ∀ res, k_Face_end_A_b10  σ = some res → cR E cQ1 pF (d + 0) kt211_A 15 2 Option.none none res g σ (10, lv, []) := by
  intro g lv σ res h
  unfold k_Face_end_A_b10 at h
  cases h
  exact cR_end lt211_A_10 rfl rfl rfl
def k_Face_end_A_b0  (σ : CS) (l0 : Nat) (l1 : Int32) : Option (CS) :=
  if xc0 .lt l1 = true then (
    k_Face_end_A_b10  σ
  ) else (
    if xc2 .le l1 ((20 : Int32)) = true then (
      if xc2 .ge (cI σ 15 l0 5 0) ((20 : Int32)) = true then (
        (some (csI σ 15 l0 5 0 ((cI σ 15 l0 5 0) - (((20 : Int32)) - l1)))).bind fun σ4 =>
        none
      ) else (
        none
      )
    ) else (
      k_Face_end_A_b10  σ
    )
  )
set_option maxRecDepth 4000 in
theorem k_Face_end_A_b0_ok {E : CE} {pF : Nat → List Value → xH → Option (Option Value × xH)} (hp0 : xNPc pF) (hL : lcAll E pF) (hF : lcF pF) {d : Nat}   : ∀ (g : CG) (lv : xL) (σ : CS) (l0 : Nat) (l1 : Int32), (cob σ 15 l0) → (xg lv 0 = some (.ref (coa E 15 l0))) → (xg lv 1 = some (.int l1)) → ∀ res, k_Face_end_A_b0  σ l0 l1 = some res → cR E cQ1 pF (d + 0) kt211_A 15 2 Option.none none res g σ (0, lv, []) := by
  intro g lv σ l0 l1 bl0 g0 g1 res h
  unfold k_Face_end_A_b0 at h
  refine cR_lift (fun _ _ kk => eE_iload_n lt211_A_0 g1 kk) ?_
  refine cR_if (t := 10) lt211_A_1 (by decide) (fun c1 => ?_) (fun c1 => ?_)
  · rw [if_pos c1] at h
    exact k_Face_end_A_b10_ok hp0 hL hF  g lv σ  _ h
  · rw [if_neg c1] at h
    refine cR_lift (fun _ _ kk => eE_iload_n lt211_A_4 g1 kk) ?_
    refine cR_lift (fun _ _ kk => eE_bipush (v := 20) lt211_A_5 (by decide) kk) ?_
    refine cR_icmp (t := 18) lt211_A_7 (by decide) (fun c2 => ?_) (fun c2 => ?_)
    · rw [if_pos c2] at h
      refine cR_lift (fun _ _ kk => eE_aload_n lt211_A_18 g0 kk) ?_
      refine cR_getI lt211_A_19 rf_15_63 rfl bl0 ?_
      refine cR_lift (fun _ _ kk => eE_bipush (v := 20) lt211_A_22 (by decide) kk) ?_
      refine cR_icmp (t := 35) lt211_A_24 (by decide) (fun c3 => ?_) (fun c3 => ?_)
      · rw [if_pos c3] at h
        refine cR_lift (fun _ _ kk => eE_aload_n lt211_A_35 g0 kk) ?_
        refine cR_lift (fun _ _ kk => eE_dup lt211_A_36 rfl kk) ?_
        refine cR_getI lt211_A_37 rf_15_63 rfl bl0 ?_
        refine cR_lift (fun _ _ kk => eE_bipush (v := 20) lt211_A_40 (by decide) kk) ?_
        refine cR_lift (fun _ _ kk => eE_iload_n lt211_A_42 g1 kk) ?_
        refine cR_lift (fun _ _ kk => eE_isub lt211_A_43 kk) ?_
        refine cR_lift (fun _ _ kk => eE_isub lt211_A_44 kk) ?_
        obtain ⟨σ4, h5, h⟩ := Option.bind_eq_some_iff.mp h
        refine cR_putI lt211_A_45 rf_15_63 rfl bl0 pf_15_5 rfl h5 ?_
        refine cR_lift (fun _ _ kk => eE_aload_n lt211_A_48 g0 kk) ?_
        refine cR_getI lt211_A_49 rf_15_63 rfl (cob_any rfl bl0) ?_
        cases h
      · rw [if_neg c3] at h
        cases h
    · rw [if_neg c2] at h
      exact k_Face_end_A_b10_ok hp0 hL hF  g lv σ  _ h
def k_Face_end_A (σ : CS) (l0 : Nat) (l1 : Int32) : Option (CS) := k_Face_end_A_b0 σ l0 l1
theorem k_Face_end_A_ok {E : CE} {pF : Nat → List Value → xH → Option (Option Value × xH)} (hp0 : xNPc pF) (hL : lcAll E pF) (hF : lcF pF) {d : Nat} {g : CG} {σ : CS} {l0 : Nat} {l1 : Int32} {res : CS} (bl0 : cob σ 15 l0) (h : k_Face_end_A σ l0 l1 = some res) : cR E cQ1 pF (d + 0) kt211_A 15 2 Option.none none res g σ (0, lv_args 0 [.ref (coa E 15 l0), .int l1], []) :=
  k_Face_end_A_b0_ok hp0 hL hF g _ σ l0 l1 bl0 rfl rfl _ h
/-! k_Face_end_S (211), depth 1 -/
def k_Face_end_S_b10  (σ : CS) : Option (CS) :=
  none
set_option maxRecDepth 4000 in
theorem k_Face_end_S_b10_ok {E : CE} {pF : Nat → List Value → xH → Option (Option Value × xH)} (hp0 : xNPc pF) (hL : lcAll E pF) (hF : lcF pF) {d : Nat}   : ∀ (g : CG) (lv : xL) (σ : CS), ∀ res, k_Face_end_S_b10  σ = some res → cR E cQ1 pF (d + 0) kt211_S 15 2 Option.none none res g σ (10, lv, []) := by
  intro g lv σ res h
  unfold k_Face_end_S_b10 at h
  cases h
def k_Face_end_S_b0  (σ : CS) (l0 : Nat) (l1 : Int32) : Option (CS) :=
  if xc0 .lt l1 = true then (
    k_Face_end_S_b10  σ
  ) else (
    if xc2 .le l1 ((20 : Int32)) = true then (
      if xc2 .ge (cI σ 15 l0 5 0) ((20 : Int32)) = true then (
        (some (csI σ 15 l0 5 0 ((cI σ 15 l0 5 0) - (((20 : Int32)) - l1)))).bind fun σ4 =>
        none
      ) else (
        some σ
      )
    ) else (
      k_Face_end_S_b10  σ
    )
  )
set_option maxRecDepth 4000 in
theorem k_Face_end_S_b0_ok {E : CE} {pF : Nat → List Value → xH → Option (Option Value × xH)} (hp0 : xNPc pF) (hL : lcAll E pF) (hF : lcF pF) {d : Nat}   : ∀ (g : CG) (lv : xL) (σ : CS) (l0 : Nat) (l1 : Int32), (cob σ 15 l0) → (xg lv 0 = some (.ref (coa E 15 l0))) → (xg lv 1 = some (.int l1)) → ∀ res, k_Face_end_S_b0  σ l0 l1 = some res → cR E cQ1 pF (d + 0) kt211_S 15 2 Option.none none res g σ (0, lv, []) := by
  intro g lv σ l0 l1 bl0 g0 g1 res h
  unfold k_Face_end_S_b0 at h
  refine cR_lift (fun _ _ kk => eE_iload_n lt211_S_0 g1 kk) ?_
  refine cR_if (t := 10) lt211_S_1 (by decide) (fun c1 => ?_) (fun c1 => ?_)
  · rw [if_pos c1] at h
    exact k_Face_end_S_b10_ok hp0 hL hF  g lv σ  _ h
  · rw [if_neg c1] at h
    refine cR_lift (fun _ _ kk => eE_iload_n lt211_S_4 g1 kk) ?_
    refine cR_lift (fun _ _ kk => eE_bipush (v := 20) lt211_S_5 (by decide) kk) ?_
    refine cR_icmp (t := 18) lt211_S_7 (by decide) (fun c2 => ?_) (fun c2 => ?_)
    · rw [if_pos c2] at h
      refine cR_lift (fun _ _ kk => eE_aload_n lt211_S_18 g0 kk) ?_
      refine cR_getI lt211_S_19 rf_15_63 rfl bl0 ?_
      refine cR_lift (fun _ _ kk => eE_bipush (v := 20) lt211_S_22 (by decide) kk) ?_
      refine cR_icmp (t := 35) lt211_S_24 (by decide) (fun c3 => ?_) (fun c3 => ?_)
      · rw [if_pos c3] at h
        refine cR_lift (fun _ _ kk => eE_aload_n lt211_S_35 g0 kk) ?_
        refine cR_lift (fun _ _ kk => eE_dup lt211_S_36 rfl kk) ?_
        refine cR_getI lt211_S_37 rf_15_63 rfl bl0 ?_
        refine cR_lift (fun _ _ kk => eE_bipush (v := 20) lt211_S_40 (by decide) kk) ?_
        refine cR_lift (fun _ _ kk => eE_iload_n lt211_S_42 g1 kk) ?_
        refine cR_lift (fun _ _ kk => eE_isub lt211_S_43 kk) ?_
        refine cR_lift (fun _ _ kk => eE_isub lt211_S_44 kk) ?_
        obtain ⟨σ4, h5, h⟩ := Option.bind_eq_some_iff.mp h
        refine cR_putI lt211_S_45 rf_15_63 rfl bl0 pf_15_5 rfl h5 ?_
        refine cR_lift (fun _ _ kk => eE_aload_n lt211_S_48 g0 kk) ?_
        refine cR_getI lt211_S_49 rf_15_63 rfl (cob_any rfl bl0) ?_
        cases h
      · rw [if_neg c3] at h
        cases h
        exact cR_end lt211_S_27 rfl rfl rfl
    · rw [if_neg c2] at h
      exact k_Face_end_S_b10_ok hp0 hL hF  g lv σ  _ h
def k_Face_end_S (σ : CS) (l0 : Nat) (l1 : Int32) : Option (CS) := k_Face_end_S_b0 σ l0 l1
theorem k_Face_end_S_ok {E : CE} {pF : Nat → List Value → xH → Option (Option Value × xH)} (hp0 : xNPc pF) (hL : lcAll E pF) (hF : lcF pF) {d : Nat} {g : CG} {σ : CS} {l0 : Nat} {l1 : Int32} {res : CS} (bl0 : cob σ 15 l0) (h : k_Face_end_S σ l0 l1 = some res) : cR E cQ1 pF (d + 0) kt211_S 15 2 Option.none none res g σ (0, lv_args 0 [.ref (coa E 15 l0), .int l1], []) :=
  k_Face_end_S_b0_ok hp0 hL hF g _ σ l0 l1 bl0 rfl rfl _ h
/-! k_Face_entry_J (212), depth 2 -/
def k_Face_entry_J_b24  (σ : CS) : Option (Unit) :=
  some ()
set_option maxRecDepth 4000 in
theorem k_Face_entry_J_b24_ok {E : CE} {pF : Nat → List Value → xH → Option (Option Value × xH)} (hp0 : xNPc pF) (hL : lcAll E pF) (hF : lcF pF) {d : Nat}   : ∀ (g : CG) (lv : xL) (σ : CS), ∀ res, k_Face_entry_J_b24  σ = some res → cR E cQ1 pF (d + 1) kt212_J 15 6 Option.none none σ g σ (24, lv, []) := by
  intro g lv σ res h
  unfold k_Face_entry_J_b24 at h
  cases h
  exact cR_end lt212_J_24 rfl rfl rfl
def k_Face_entry_J_b58  (σ : CS) (l2 : Int32) (l3 : Int32) (l5 : Nat) : Option (Unit) :=
  (k_Log_has σ l5 l2).bind fun p1 =>
  if xc0 .ne p1 = true then (
    (k_Log_at σ l5 l2).bind fun p5 =>
    (crd σ 9 l5 1 (p5 + l3)).bind fun x8 =>
    none
  ) else (
    some ()
  )
set_option maxRecDepth 4000 in
theorem k_Face_entry_J_b58_ok {E : CE} {pF : Nat → List Value → xH → Option (Option Value × xH)} (hp0 : xNPc pF) (hL : lcAll E pF) (hF : lcF pF) {d : Nat}   : ∀ (g : CG) (lv : xL) (σ : CS) (l2 : Int32) (l3 : Int32) (l5 : Nat), (cob σ 9 l5) → (xg lv 2 = some (.int l2)) → (xg lv 3 = some (.int l3)) → (xg lv 5 = some (.ref (coa E 9 l5))) → ∀ res, k_Face_entry_J_b58  σ l2 l3 l5 = some res → cR E cQ1 pF (d + 1) kt212_J 15 6 Option.none none σ g σ (58, lv, []) := by
  intro g lv σ l2 l3 l5 bl5 g2 g3 g5 res h
  unfold k_Face_entry_J_b58 at h
  refine cR_lift (fun _ _ kk => eE_aload lt212_J_58 g5 kk) ?_
  refine cR_lift (fun _ _ kk => eE_iload_n lt212_J_60 g2 kk) ?_
  obtain ⟨p1, h2, h⟩ := Option.bind_eq_some_iff.mp h
  refine cR_virt (cl := 9) (i := l5) (as := [.int l2]) lt212_J_61 mr_15_215 na_67 rfl rfl (by first | exact Nat.le_of_ble_eq_true rfl | (simp [xcat, cvo_cat, cat_i, cat_j, cat_r]; done)) wv_67 wc_67 bl5 (k_Log_has_ok hp0 hL hF (d := d + 0) bl5 h2) (fun m3  => ?_)
  refine cR_if (t := 75) lt212_J_64 (by decide) (fun c4 => ?_) (fun c4 => ?_)
  · rw [if_pos c4] at h
    refine cR_lift (fun _ _ kk => eE_aload lt212_J_75 g5 kk) ?_
    refine cR_getA lt212_J_77 rf_15_218 (by decide) bl5 ?_
    refine cR_lift (fun _ _ kk => eE_aload lt212_J_80 g5 kk) ?_
    refine cR_lift (fun _ _ kk => eE_iload_n lt212_J_82 g2 kk) ?_
    obtain ⟨p5, h6, h⟩ := Option.bind_eq_some_iff.mp h
    refine cR_virt (cl := 9) (i := l5) (as := [.int l2]) lt212_J_83 mr_15_221 na_63 rfl rfl (by first | exact Nat.le_of_ble_eq_true rfl | (simp [xcat, cvo_cat, cat_i, cat_j, cat_r]; done)) wv_63 wc_63 bl5 (k_Log_at_ok hp0 hL hF (d := d + 0) bl5 h6) (fun m7  => ?_)
    refine cR_lift (fun _ _ kk => eE_iload_n lt212_J_86 g3 kk) ?_
    refine cR_lift (fun _ _ kk => eE_iadd lt212_J_87 kk) ?_
    obtain ⟨x8, h9, h⟩ := Option.bind_eq_some_iff.mp h
    refine cR_iald (cl := 9) (i := l5) (f := 1) lt212_J_88 (by decide) rfl bl5 h9 ?_
    cases h
  · rw [if_neg c4] at h
    cases h
    exact cR_end lt212_J_67 rfl rfl rfl
def k_Face_entry_J_b0  (σ : CS) (l0 : Nat) (l1 : Int32) (l2 : Int32) (l3 : Int32) : Option (Unit) :=
  (k_Face_host σ l0 l1).bind fun p10 =>
  if xc0 .eq (cI σ 13 p10 8 0) = true then (
    k_Face_entry_J_b24  σ
  ) else (
    if xc0 .lt l3 = true then (
      k_Face_entry_J_b24  σ
    ) else (
      if xc2 .le l3 ((2 : Int32)) = true then (
        if xc2 .ne l2 (cI σ 9 p10 3 0) = true then (
          k_Face_entry_J_b58  σ l2 l3 p10
        ) else (
          if xc0 .ne l3 = true then (
            k_Face_entry_J_b58  σ l2 l3 p10
          ) else (
            none
          )
        )
      ) else (
        k_Face_entry_J_b24  σ
      )
    )
  )
set_option maxRecDepth 4000 in
theorem k_Face_entry_J_b0_ok {E : CE} {pF : Nat → List Value → xH → Option (Option Value × xH)} (hp0 : xNPc pF) (hL : lcAll E pF) (hF : lcF pF) {d : Nat}   : ∀ (g : CG) (lv : xL) (σ : CS) (l0 : Nat) (l1 : Int32) (l2 : Int32) (l3 : Int32), (cob σ 15 l0) → (xg lv 0 = some (.ref (coa E 15 l0))) → (xg lv 1 = some (.int l1)) → (xg lv 2 = some (.int l2)) → (xg lv 3 = some (.int l3)) → ∀ res, k_Face_entry_J_b0  σ l0 l1 l2 l3 = some res → cR E cQ1 pF (d + 1) kt212_J 15 6 Option.none none σ g σ (0, lv, []) := by
  intro g lv σ l0 l1 l2 l3 bl0 g0 g1 g2 g3 res h
  unfold k_Face_entry_J_b0 at h
  refine cR_lift (fun _ _ kk => eE_aload_n lt212_J_0 g0 kk) ?_
  refine cR_lift (fun _ _ kk => eE_iload_n lt212_J_1 g1 kk) ?_
  obtain ⟨p10, h11, h⟩ := Option.bind_eq_some_iff.mp h
  refine cR_rep (fun _ hc => k_Face_host_lt hc bl0 h11) (fun b12 => ?_)
  refine cR_virt (cl := 15) (i := l0) (as := [.int l1]) lt212_J_2 mr_15_155 na_219 rfl rfl (by first | exact Nat.le_of_ble_eq_true rfl | (simp [xcat, cvo_cat, cat_i, cat_j, cat_r]; done)) wv_219 wc_219 bl0 (k_Face_host_ok hp0 hL hF (d := d + 0) bl0 h11) (fun m13  => ?_)
  refine cR_stA (j := 4) lt212_J_5 (Or.inl rfl) (by decide) (fun vq14 gq15 kq16 => ?_)
  have gq17 := kq16 2 _ (by decide) (fun e => absurd e (by decide)) g2
  have gq18 := kq16 3 _ (by decide) (fun _ => rfl) g3
  refine cR_lift (fun _ _ kk => eE_aload lt212_J_7 gq15 kk) ?_
  refine cR_getI lt212_J_9 rf_15_165 rfl b12 ?_
  refine cR_if (t := 24) lt212_J_12 (by decide) (fun c19 => ?_) (fun c19 => ?_)
  · rw [if_pos c19] at h
    exact k_Face_entry_J_b24_ok hp0 hL hF  g vq14 σ  _ h
  · rw [if_neg c19] at h
    refine cR_lift (fun _ _ kk => eE_iload_n lt212_J_15 gq18 kk) ?_
    refine cR_if (t := 24) lt212_J_16 (by decide) (fun c20 => ?_) (fun c20 => ?_)
    · rw [if_pos c20] at h
      exact k_Face_entry_J_b24_ok hp0 hL hF  g vq14 σ  _ h
    · rw [if_neg c20] at h
      refine cR_lift (fun _ _ kk => eE_iload_n lt212_J_19 gq18 kk) ?_
      refine cR_lift (fun _ _ kk => eE_iconst (v := 2) lt212_J_20 (by decide) kk) ?_
      refine cR_icmp (t := 32) lt212_J_21 (by decide) (fun c21 => ?_) (fun c21 => ?_)
      · rw [if_pos c21] at h
        refine cR_lift (fun _ _ kk => eE_aload lt212_J_32 gq15 kk) ?_
        refine cR_getO (cl' := 9) (i' := p10) lt212_J_34 rf_15_184 rfl rfl b12 ?_
        refine cR_stA (j := 5) lt212_J_37 (Or.inl rfl) (by decide) (fun vq22 gq23 kq24 => ?_)
        have gq25 := kq24 2 _ (by decide) (fun e => absurd e (by decide)) gq17
        have gq26 := kq24 3 _ (by decide) (fun e => absurd e (by decide)) gq18
        refine cR_lift (fun _ _ kk => eE_iload_n lt212_J_39 gq25 kk) ?_
        refine cR_lift (fun _ _ kk => eE_aload lt212_J_40 gq23 kk) ?_
        refine cR_getI lt212_J_42 rf_15_209 rfl (cob_s (cl := 9) b12 (by decide) rfl rfl) ?_
        refine cR_icmp (t := 58) lt212_J_45 (by decide) (fun c27 => ?_) (fun c27 => ?_)
        · rw [if_pos c27] at h
          exact k_Face_entry_J_b58_ok hp0 hL hF  g vq22 σ l2 l3 p10 (cob_s (cl := 9) b12 (by decide) rfl rfl) gq25 gq26 gq23 _ h
        · rw [if_neg c27] at h
          refine cR_lift (fun _ _ kk => eE_iload_n lt212_J_48 gq26 kk) ?_
          refine cR_if (t := 58) lt212_J_49 (by decide) (fun c28 => ?_) (fun c28 => ?_)
          · rw [if_pos c28] at h
            exact k_Face_entry_J_b58_ok hp0 hL hF  g vq22 σ l2 l3 p10 (cob_s (cl := 9) b12 (by decide) rfl rfl) gq25 gq26 gq23 _ h
          · rw [if_neg c28] at h
            refine cR_lift (fun _ _ kk => eE_aload lt212_J_52 gq23 kk) ?_
            refine cR_getI lt212_J_54 rf_15_212 rfl (cob_s (cl := 9) b12 (by decide) rfl rfl) ?_
            cases h
      · rw [if_neg c21] at h
        exact k_Face_entry_J_b24_ok hp0 hL hF  g vq14 σ  _ h
def k_Face_entry_J (σ : CS) (l0 : Nat) (l1 : Int32) (l2 : Int32) (l3 : Int32) : Option (Unit) := k_Face_entry_J_b0 σ l0 l1 l2 l3
theorem k_Face_entry_J_ok {E : CE} {pF : Nat → List Value → xH → Option (Option Value × xH)} (hp0 : xNPc pF) (hL : lcAll E pF) (hF : lcF pF) {d : Nat} {g : CG} {σ : CS} {l0 : Nat} {l1 : Int32} {l2 : Int32} {l3 : Int32} {res : Unit} (bl0 : cob σ 15 l0) (h : k_Face_entry_J σ l0 l1 l2 l3 = some res) : cR E cQ1 pF (d + 1) kt212_J 15 6 Option.none none σ g σ (0, lv_args 0 [.ref (coa E 15 l0), .int l1, .int l2, .int l3], []) :=
  k_Face_entry_J_b0_ok hp0 hL hF g _ σ l0 l1 l2 l3 bl0 rfl rfl rfl rfl _ h
/-! k_Face_feed_S (213), depth 2 -/
def k_Face_feed_S_b0 (F : Nat)  (σ : CS) (l0 : Nat) (l1 : Int32) (l2 : Int32) (l3 : Int32) (l4 : Int32) (l5 : Int32) : Option (CS) :=
  if xc2 .le ((cI σ 15 l0 5 0) + ((20 : Int32))) ((400 : Int32)) = true then (
    (k_Face_putOnTape F σ l0 l1).bind fun p2 =>
    (k_Face_putOnTape F p2 l0 l2).bind fun p5 =>
    (k_Face_putOnTape F p5 l0 l3).bind fun p8 =>
    (k_Face_putOnTape F p8 l0 l4).bind fun p11 =>
    (k_Face_putOnTape F p11 l0 l5).bind fun p14 =>
    none
  ) else (
    some σ
  )
set_option maxRecDepth 4000 in
theorem k_Face_feed_S_b0_ok {E : CE} {pF : Nat → List Value → xH → Option (Option Value × xH)} (hp0 : xNPc pF) (hL : lcAll E pF) (hF : lcF pF) {d : Nat} {F : Nat}   : ∀ (g : CG) (lv : xL) (σ : CS) (l0 : Nat) (l1 : Int32) (l2 : Int32) (l3 : Int32) (l4 : Int32) (l5 : Int32), (cob σ 15 l0) → (xg lv 0 = some (.ref (coa E 15 l0))) → (xg lv 1 = some (.int l1)) → (xg lv 2 = some (.int l2)) → (xg lv 3 = some (.int l3)) → (xg lv 4 = some (.int l4)) → (xg lv 5 = some (.int l5)) → ∀ res, k_Face_feed_S_b0 F  σ l0 l1 l2 l3 l4 l5 = some res → cR E cQ1 pF (d + 1) kt213_S 15 6 Option.none none res g σ (0, lv, []) := by
  intro g lv σ l0 l1 l2 l3 l4 l5 bl0 g0 g1 g2 g3 g4 g5 res h
  unfold k_Face_feed_S_b0 at h
  refine cR_lift (fun _ _ kk => eE_aload_n lt213_S_0 g0 kk) ?_
  refine cR_getI lt213_S_1 rf_15_63 rfl bl0 ?_
  refine cR_lift (fun _ _ kk => eE_bipush (v := 20) lt213_S_4 (by decide) kk) ?_
  refine cR_lift (fun _ _ kk => eE_iadd lt213_S_6 kk) ?_
  refine cR_lift (fun _ _ kk => eE_sipush (v := 400) lt213_S_7 (by decide) kk) ?_
  refine cR_icmp (t := 21) lt213_S_10 (by decide) (fun c1 => ?_) (fun c1 => ?_)
  · rw [if_pos c1] at h
    refine cR_lift (fun _ _ kk => eE_aload_n lt213_S_21 g0 kk) ?_
    refine cR_lift (fun _ _ kk => eE_iload_n lt213_S_22 g1 kk) ?_
    obtain ⟨p2, h3, h⟩ := Option.bind_eq_some_iff.mp h
    refine cR_virt (cl := 15) (i := l0) (as := [.int l1]) lt213_S_23 mr_15_70 na_233 rfl rfl (by first | exact Nat.le_of_ble_eq_true rfl | (simp [xcat, cvo_cat, cat_i, cat_j, cat_r]; done)) wv_233 wc_233 bl0 (k_Face_putOnTape_ok hp0 hL hF (d := d + 0) bl0 h3) (fun m4  => ?_)
    refine cR_lift (fun _ _ kk => eE_aload_n lt213_S_26 g0 kk) ?_
    refine cR_lift (fun _ _ kk => eE_iload_n lt213_S_27 g2 kk) ?_
    obtain ⟨p5, h6, h⟩ := Option.bind_eq_some_iff.mp h
    refine cR_virt (cl := 15) (i := l0) (as := [.int l2]) lt213_S_28 mr_15_70 na_233 rfl rfl (by first | exact Nat.le_of_ble_eq_true rfl | (simp [xcat, cvo_cat, cat_i, cat_j, cat_r]; done)) wv_233 wc_233 (cob_any rfl bl0) (k_Face_putOnTape_ok hp0 hL hF (d := d + 0) (cob_any rfl bl0) h6) (fun m7  => ?_)
    refine cR_lift (fun _ _ kk => eE_aload_n lt213_S_31 g0 kk) ?_
    refine cR_lift (fun _ _ kk => eE_iload_n lt213_S_32 g3 kk) ?_
    obtain ⟨p8, h9, h⟩ := Option.bind_eq_some_iff.mp h
    refine cR_virt (cl := 15) (i := l0) (as := [.int l3]) lt213_S_33 mr_15_70 na_233 rfl rfl (by first | exact Nat.le_of_ble_eq_true rfl | (simp [xcat, cvo_cat, cat_i, cat_j, cat_r]; done)) wv_233 wc_233 (cob_any rfl bl0) (k_Face_putOnTape_ok hp0 hL hF (d := d + 0) (cob_any rfl bl0) h9) (fun m10  => ?_)
    refine cR_lift (fun _ _ kk => eE_aload_n lt213_S_36 g0 kk) ?_
    refine cR_lift (fun _ _ kk => eE_iload lt213_S_37 g4 kk) ?_
    obtain ⟨p11, h12, h⟩ := Option.bind_eq_some_iff.mp h
    refine cR_virt (cl := 15) (i := l0) (as := [.int l4]) lt213_S_39 mr_15_70 na_233 rfl rfl (by first | exact Nat.le_of_ble_eq_true rfl | (simp [xcat, cvo_cat, cat_i, cat_j, cat_r]; done)) wv_233 wc_233 (cob_any rfl bl0) (k_Face_putOnTape_ok hp0 hL hF (d := d + 0) (cob_any rfl bl0) h12) (fun m13  => ?_)
    refine cR_lift (fun _ _ kk => eE_aload_n lt213_S_42 g0 kk) ?_
    refine cR_lift (fun _ _ kk => eE_iload lt213_S_43 g5 kk) ?_
    obtain ⟨p14, h15, h⟩ := Option.bind_eq_some_iff.mp h
    refine cR_virt (cl := 15) (i := l0) (as := [.int l5]) lt213_S_45 mr_15_70 na_233 rfl rfl (by first | exact Nat.le_of_ble_eq_true rfl | (simp [xcat, cvo_cat, cat_i, cat_j, cat_r]; done)) wv_233 wc_233 (cob_any rfl bl0) (k_Face_putOnTape_ok hp0 hL hF (d := d + 0) (cob_any rfl bl0) h15) (fun m16  => ?_)
    refine cR_lift (fun _ _ kk => eE_aload_n lt213_S_48 g0 kk) ?_
    refine cR_getI lt213_S_49 rf_15_63 rfl (cob_any rfl bl0) ?_
    cases h
  · rw [if_neg c1] at h
    cases h
    exact cR_end lt213_S_13 rfl rfl rfl
def k_Face_feed_S (F : Nat) (σ : CS) (l0 : Nat) (l1 : Int32) (l2 : Int32) (l3 : Int32) (l4 : Int32) (l5 : Int32) : Option (CS) := k_Face_feed_S_b0 F σ l0 l1 l2 l3 l4 l5
theorem k_Face_feed_S_ok {E : CE} {pF : Nat → List Value → xH → Option (Option Value × xH)} (hp0 : xNPc pF) (hL : lcAll E pF) (hF : lcF pF) {d : Nat} {g : CG} {σ : CS} {F : Nat} {l0 : Nat} {l1 : Int32} {l2 : Int32} {l3 : Int32} {l4 : Int32} {l5 : Int32} {res : CS} (bl0 : cob σ 15 l0) (h : k_Face_feed_S F σ l0 l1 l2 l3 l4 l5 = some res) : cR E cQ1 pF (d + 1) kt213_S 15 6 Option.none none res g σ (0, lv_args 0 [.ref (coa E 15 l0), .int l1, .int l2, .int l3, .int l4, .int l5], []) :=
  k_Face_feed_S_b0_ok hp0 hL hF g _ σ l0 l1 l2 l3 l4 l5 bl0 rfl rfl rfl rfl rfl rfl _ h
/-! k_Face_file_J (214), depth 2 -/
def k_Face_file_J_b26  (σ : CS) : Option (Unit) :=
  some ()
set_option maxRecDepth 4000 in
theorem k_Face_file_J_b26_ok {E : CE} {pF : Nat → List Value → xH → Option (Option Value × xH)} (hp0 : xNPc pF) (hL : lcAll E pF) (hF : lcF pF) {d : Nat}   : ∀ (g : CG) (lv : xL) (σ : CS), ∀ res, k_Face_file_J_b26  σ = some res → cR E cQ1 pF (d + 1) kt214_J 15 5 Option.none none σ g σ (26, lv, []) := by
  intro g lv σ res h
  unfold k_Face_file_J_b26 at h
  cases h
  exact cR_end lt214_J_26 rfl rfl rfl
def k_Face_file_J_b0  (σ : CS) (l0 : Nat) (l1 : Int32) (l2 : Int32) (l3 : Int32) : Option (Unit) :=
  (k_Face_host σ l0 l1).bind fun p1 =>
  if xc0 .lt l2 = true then (
    k_Face_file_J_b26  σ
  ) else (
    if xc2 .ge l2 ((16 : Int32)) = true then (
      k_Face_file_J_b26  σ
    ) else (
      if xc0 .lt l3 = true then (
        k_Face_file_J_b26  σ
      ) else (
        if xc2 .le l3 ((4 : Int32)) = true then (
          (k_Disk_tell σ p1 l2 l3).bind fun p14 =>
          none
        ) else (
          k_Face_file_J_b26  σ
        )
      )
    )
  )
set_option maxRecDepth 4000 in
theorem k_Face_file_J_b0_ok {E : CE} {pF : Nat → List Value → xH → Option (Option Value × xH)} (hp0 : xNPc pF) (hL : lcAll E pF) (hF : lcF pF) {d : Nat}   : ∀ (g : CG) (lv : xL) (σ : CS) (l0 : Nat) (l1 : Int32) (l2 : Int32) (l3 : Int32), (cob σ 15 l0) → (xg lv 0 = some (.ref (coa E 15 l0))) → (xg lv 1 = some (.int l1)) → (xg lv 2 = some (.int l2)) → (xg lv 3 = some (.int l3)) → ∀ res, k_Face_file_J_b0  σ l0 l1 l2 l3 = some res → cR E cQ1 pF (d + 1) kt214_J 15 5 Option.none none σ g σ (0, lv, []) := by
  intro g lv σ l0 l1 l2 l3 bl0 g0 g1 g2 g3 res h
  unfold k_Face_file_J_b0 at h
  refine cR_lift (fun _ _ kk => eE_aload_n lt214_J_0 g0 kk) ?_
  refine cR_lift (fun _ _ kk => eE_iload_n lt214_J_1 g1 kk) ?_
  obtain ⟨p1, h2, h⟩ := Option.bind_eq_some_iff.mp h
  refine cR_rep (fun _ hc => k_Face_host_lt hc bl0 h2) (fun b3 => ?_)
  refine cR_virt (cl := 15) (i := l0) (as := [.int l1]) lt214_J_2 mr_15_155 na_219 rfl rfl (by first | exact Nat.le_of_ble_eq_true rfl | (simp [xcat, cvo_cat, cat_i, cat_j, cat_r]; done)) wv_219 wc_219 bl0 (k_Face_host_ok hp0 hL hF (d := d + 0) bl0 h2) (fun m4  => ?_)
  refine cR_stA (j := 4) lt214_J_5 (Or.inl rfl) (by decide) (fun vq5 gq6 kq7 => ?_)
  have gq8 := kq7 2 _ (by decide) (fun e => absurd e (by decide)) g2
  have gq9 := kq7 3 _ (by decide) (fun _ => rfl) g3
  refine cR_lift (fun _ _ kk => eE_iload_n lt214_J_7 gq8 kk) ?_
  refine cR_if (t := 26) lt214_J_8 (by decide) (fun c10 => ?_) (fun c10 => ?_)
  · rw [if_pos c10] at h
    exact k_Face_file_J_b26_ok hp0 hL hF  g vq5 σ  _ h
  · rw [if_neg c10] at h
    refine cR_lift (fun _ _ kk => eE_iload_n lt214_J_11 gq8 kk) ?_
    refine cR_lift (fun _ _ kk => eE_bipush (v := 16) lt214_J_12 (by decide) kk) ?_
    refine cR_icmp (t := 26) lt214_J_14 (by decide) (fun c11 => ?_) (fun c11 => ?_)
    · rw [if_pos c11] at h
      exact k_Face_file_J_b26_ok hp0 hL hF  g vq5 σ  _ h
    · rw [if_neg c11] at h
      refine cR_lift (fun _ _ kk => eE_iload_n lt214_J_17 gq9 kk) ?_
      refine cR_if (t := 26) lt214_J_18 (by decide) (fun c12 => ?_) (fun c12 => ?_)
      · rw [if_pos c12] at h
        exact k_Face_file_J_b26_ok hp0 hL hF  g vq5 σ  _ h
      · rw [if_neg c12] at h
        refine cR_lift (fun _ _ kk => eE_iload_n lt214_J_21 gq9 kk) ?_
        refine cR_lift (fun _ _ kk => eE_iconst (v := 4) lt214_J_22 (by decide) kk) ?_
        refine cR_icmp (t := 34) lt214_J_23 (by decide) (fun c13 => ?_) (fun c13 => ?_)
        · rw [if_pos c13] at h
          refine cR_lift (fun _ _ kk => eE_aload lt214_J_34 gq6 kk) ?_
          refine cR_getO (cl' := 6) (i' := p1) lt214_J_36 rf_15_224 rfl rfl b3 ?_
          refine cR_lift (fun _ _ kk => eE_iload_n lt214_J_39 gq8 kk) ?_
          refine cR_lift (fun _ _ kk => eE_iload_n lt214_J_40 gq9 kk) ?_
          obtain ⟨p14, h15, h⟩ := Option.bind_eq_some_iff.mp h
          refine cR_virt (cl := 6) (i := p1) (as := [.int l2, .int l3]) lt214_J_41 mr_15_228 na_50 rfl rfl (by first | exact Nat.le_of_ble_eq_true rfl | (simp [xcat, cvo_cat, cat_i, cat_j, cat_r]; done)) wv_50 wc_50 (cob_s (cl := 6) b3 (by decide) rfl rfl) (k_Disk_tell_ok hp0 hL hF (d := d + 0) (cob_s (cl := 6) b3 (by decide) rfl rfl) h15) (fun m16  => ?_)
          cases h
        · rw [if_neg c13] at h
          exact k_Face_file_J_b26_ok hp0 hL hF  g vq5 σ  _ h
def k_Face_file_J (σ : CS) (l0 : Nat) (l1 : Int32) (l2 : Int32) (l3 : Int32) : Option (Unit) := k_Face_file_J_b0 σ l0 l1 l2 l3
theorem k_Face_file_J_ok {E : CE} {pF : Nat → List Value → xH → Option (Option Value × xH)} (hp0 : xNPc pF) (hL : lcAll E pF) (hF : lcF pF) {d : Nat} {g : CG} {σ : CS} {l0 : Nat} {l1 : Int32} {l2 : Int32} {l3 : Int32} {res : Unit} (bl0 : cob σ 15 l0) (h : k_Face_file_J σ l0 l1 l2 l3 = some res) : cR E cQ1 pF (d + 1) kt214_J 15 5 Option.none none σ g σ (0, lv_args 0 [.ref (coa E 15 l0), .int l1, .int l2, .int l3], []) :=
  k_Face_file_J_b0_ok hp0 hL hF g _ σ l0 l1 l2 l3 bl0 rfl rfl rfl rfl _ h
/-! k_Face_history_J (218), depth 2 -/
def k_Face_history_J_b24  (σ : CS) : Option (Unit) :=
  some ()
set_option maxRecDepth 4000 in
theorem k_Face_history_J_b24_ok {E : CE} {pF : Nat → List Value → xH → Option (Option Value × xH)} (hp0 : xNPc pF) (hL : lcAll E pF) (hF : lcF pF) {d : Nat}   : ∀ (g : CG) (lv : xL) (σ : CS), ∀ res, k_Face_history_J_b24  σ = some res → cR E cQ1 pF (d + 1) kt218_J 15 3 Option.none none σ g σ (24, lv, []) := by
  intro g lv σ res h
  unfold k_Face_history_J_b24 at h
  cases h
  exact cR_end lt218_J_24 rfl rfl rfl
def k_Face_history_J_b0  (σ : CS) (l0 : Nat) (l1 : Int32) (l2 : Int32) : Option (Unit) :=
  if xc0 .lt l1 = true then (
    k_Face_history_J_b24  σ
  ) else (
    if xc2 .ge l1 (cI σ 4 0 0 0) = true then (
      k_Face_history_J_b24  σ
    ) else (
      if xc0 .lt l2 = true then (
        k_Face_history_J_b24  σ
      ) else (
        if xc2 .le l2 ((5 : Int32)) = true then (
          (k_Askings_tell σ 0 l1 l2).bind fun p5 =>
          none
        ) else (
          k_Face_history_J_b24  σ
        )
      )
    )
  )
set_option maxRecDepth 4000 in
theorem k_Face_history_J_b0_ok {E : CE} {pF : Nat → List Value → xH → Option (Option Value × xH)} (hp0 : xNPc pF) (hL : lcAll E pF) (hF : lcF pF) {d : Nat}   : ∀ (g : CG) (lv : xL) (σ : CS) (l0 : Nat) (l1 : Int32) (l2 : Int32), (cob σ 15 l0) → (xg lv 0 = some (.ref (coa E 15 l0))) → (xg lv 1 = some (.int l1)) → (xg lv 2 = some (.int l2)) → ∀ res, k_Face_history_J_b0  σ l0 l1 l2 = some res → cR E cQ1 pF (d + 1) kt218_J 15 3 Option.none none σ g σ (0, lv, []) := by
  intro g lv σ l0 l1 l2 bl0 g0 g1 g2 res h
  unfold k_Face_history_J_b0 at h
  refine cR_lift (fun _ _ kk => eE_iload_n lt218_J_0 g1 kk) ?_
  refine cR_if (t := 24) lt218_J_1 (by decide) (fun c1 => ?_) (fun c1 => ?_)
  · rw [if_pos c1] at h
    exact k_Face_history_J_b24_ok hp0 hL hF  g lv σ  _ h
  · rw [if_neg c1] at h
    refine cR_lift (fun _ _ kk => eE_iload_n lt218_J_4 g1 kk) ?_
    refine cR_lift (fun _ _ kk => eE_aload_n lt218_J_5 g0 kk) ?_
    refine cR_getO (cl' := 4) (i' := 0) lt218_J_6 rf_15_49 rfl rfl bl0 ?_
    refine cR_getI lt218_J_9 rf_15_88 rfl (cob_0 (c := σ) (cl := 4) (by decide) rfl rfl) ?_
    refine cR_icmp (t := 24) lt218_J_12 (by decide) (fun c2 => ?_) (fun c2 => ?_)
    · rw [if_pos c2] at h
      exact k_Face_history_J_b24_ok hp0 hL hF  g lv σ  _ h
    · rw [if_neg c2] at h
      refine cR_lift (fun _ _ kk => eE_iload_n lt218_J_15 g2 kk) ?_
      refine cR_if (t := 24) lt218_J_16 (by decide) (fun c3 => ?_) (fun c3 => ?_)
      · rw [if_pos c3] at h
        exact k_Face_history_J_b24_ok hp0 hL hF  g lv σ  _ h
      · rw [if_neg c3] at h
        refine cR_lift (fun _ _ kk => eE_iload_n lt218_J_19 g2 kk) ?_
        refine cR_lift (fun _ _ kk => eE_iconst (v := 5) lt218_J_20 (by decide) kk) ?_
        refine cR_icmp (t := 32) lt218_J_21 (by decide) (fun c4 => ?_) (fun c4 => ?_)
        · rw [if_pos c4] at h
          refine cR_lift (fun _ _ kk => eE_aload_n lt218_J_32 g0 kk) ?_
          refine cR_getO (cl' := 4) (i' := 0) lt218_J_33 rf_15_49 rfl rfl bl0 ?_
          refine cR_lift (fun _ _ kk => eE_iload_n lt218_J_36 g1 kk) ?_
          refine cR_lift (fun _ _ kk => eE_iload_n lt218_J_37 g2 kk) ?_
          obtain ⟨p5, h6, h⟩ := Option.bind_eq_some_iff.mp h
          refine cR_virt (cl := 4) (i := 0) (as := [.int l1, .int l2]) lt218_J_38 mr_15_302 na_19 rfl rfl (by first | exact Nat.le_of_ble_eq_true rfl | (simp [xcat, cvo_cat, cat_i, cat_j, cat_r]; done)) wv_19 wc_19 (cob_0 (c := σ) (cl := 4) (by decide) rfl rfl) (k_Askings_tell_ok hp0 hL hF (d := d + 0) (cob_0 (c := σ) (cl := 4) (by decide) rfl rfl) h6) (fun m7  => ?_)
          cases h
        · rw [if_neg c4] at h
          exact k_Face_history_J_b24_ok hp0 hL hF  g lv σ  _ h
def k_Face_history_J (σ : CS) (l0 : Nat) (l1 : Int32) (l2 : Int32) : Option (Unit) := k_Face_history_J_b0 σ l0 l1 l2
theorem k_Face_history_J_ok {E : CE} {pF : Nat → List Value → xH → Option (Option Value × xH)} (hp0 : xNPc pF) (hL : lcAll E pF) (hF : lcF pF) {d : Nat} {g : CG} {σ : CS} {l0 : Nat} {l1 : Int32} {l2 : Int32} {res : Unit} (bl0 : cob σ 15 l0) (h : k_Face_history_J σ l0 l1 l2 = some res) : cR E cQ1 pF (d + 1) kt218_J 15 3 Option.none none σ g σ (0, lv_args 0 [.ref (coa E 15 l0), .int l1, .int l2], []) :=
  k_Face_history_J_b0_ok hp0 hL hF g _ σ l0 l1 l2 bl0 rfl rfl rfl _ h
/-! k_Face_host_J (219), depth 1 -/
def k_Face_host_J_b10  (σ : CS) : Option (Unit) :=
  some ()
set_option maxRecDepth 4000 in
theorem k_Face_host_J_b10_ok {E : CE} {pF : Nat → List Value → xH → Option (Option Value × xH)} (hp0 : xNPc pF) (hL : lcAll E pF) (hF : lcF pF) {d : Nat}   : ∀ (g : CG) (lv : xL) (σ : CS), ∀ res, k_Face_host_J_b10  σ = some res → cR E cQ1 pF (d + 0) kt219_J 15 2 Option.none none σ g σ (10, lv, []) := by
  intro g lv σ res h
  unfold k_Face_host_J_b10 at h
  cases h
  exact cR_end lt219_J_10 rfl rfl rfl
def k_Face_host_J_b0  (σ : CS) (l0 : Nat) (l1 : Int32) : Option (Unit) :=
  if xc0 .lt l1 = true then (
    k_Face_host_J_b10  σ
  ) else (
    if xc2 .lt l1 ((7 : Int32)) = true then (
      (cix 15 2 l1).bind fun n3 =>
      none
    ) else (
      k_Face_host_J_b10  σ
    )
  )
set_option maxRecDepth 4000 in
theorem k_Face_host_J_b0_ok {E : CE} {pF : Nat → List Value → xH → Option (Option Value × xH)} (hp0 : xNPc pF) (hL : lcAll E pF) (hF : lcF pF) {d : Nat}   : ∀ (g : CG) (lv : xL) (σ : CS) (l0 : Nat) (l1 : Int32), (cob σ 15 l0) → (xg lv 0 = some (.ref (coa E 15 l0))) → (xg lv 1 = some (.int l1)) → ∀ res, k_Face_host_J_b0  σ l0 l1 = some res → cR E cQ1 pF (d + 0) kt219_J 15 2 Option.none none σ g σ (0, lv, []) := by
  intro g lv σ l0 l1 bl0 g0 g1 res h
  unfold k_Face_host_J_b0 at h
  refine cR_lift (fun _ _ kk => eE_iload_n lt219_J_0 g1 kk) ?_
  refine cR_if (t := 10) lt219_J_1 (by decide) (fun c1 => ?_) (fun c1 => ?_)
  · rw [if_pos c1] at h
    exact k_Face_host_J_b10_ok hp0 hL hF  g lv σ  _ h
  · rw [if_neg c1] at h
    refine cR_lift (fun _ _ kk => eE_iload_n lt219_J_4 g1 kk) ?_
    refine cR_lift (fun _ _ kk => eE_bipush (v := 7) lt219_J_5 (by decide) kk) ?_
    refine cR_icmp (t := 18) lt219_J_7 (by decide) (fun c2 => ?_) (fun c2 => ?_)
    · rw [if_pos c2] at h
      refine cR_lift (fun _ _ kk => eE_aload_n lt219_J_18 g0 kk) ?_
      refine cR_getA lt219_J_19 rf_15_11 (by decide) bl0 ?_
      refine cR_lift (fun _ _ kk => eE_iload_n lt219_J_22 g1 kk) ?_
      obtain ⟨n3, h4, h⟩ := Option.bind_eq_some_iff.mp h
      refine cR_aald (cl := 15) (i := l0) (f := 2) (cl' := 13) (i' := n3) lt219_J_23 rfl (by decide) bl0 h4 rfl ?_
      cases h
    · rw [if_neg c2] at h
      exact k_Face_host_J_b10_ok hp0 hL hF  g lv σ  _ h
def k_Face_host_J (σ : CS) (l0 : Nat) (l1 : Int32) : Option (Unit) := k_Face_host_J_b0 σ l0 l1
theorem k_Face_host_J_ok {E : CE} {pF : Nat → List Value → xH → Option (Option Value × xH)} (hp0 : xNPc pF) (hL : lcAll E pF) (hF : lcF pF) {d : Nat} {g : CG} {σ : CS} {l0 : Nat} {l1 : Int32} {res : Unit} (bl0 : cob σ 15 l0) (h : k_Face_host_J σ l0 l1 = some res) : cR E cQ1 pF (d + 0) kt219_J 15 2 Option.none none σ g σ (0, lv_args 0 [.ref (coa E 15 l0), .int l1], []) :=
  k_Face_host_J_b0_ok hp0 hL hF g _ σ l0 l1 bl0 rfl rfl _ h
/-! k_Face_latency_A (224), depth 2 -/
def k_Face_latency_A_b17  (σ : CS) : Option (CS) :=
  some σ
set_option maxRecDepth 4000 in
theorem k_Face_latency_A_b17_ok {E : CE} {pF : Nat → List Value → xH → Option (Option Value × xH)} (hp0 : xNPc pF) (hL : lcAll E pF) (hF : lcF pF) {d : Nat}   : ∀ (g : CG) (lv : xL) (σ : CS), ∀ res, k_Face_latency_A_b17  σ = some res → cR E cQ1 pF (d + 1) kt224_A 15 5 Option.none none res g σ (17, lv, []) := by
  intro g lv σ res h
  unfold k_Face_latency_A_b17 at h
  cases h
  exact cR_end lt224_A_17 rfl rfl rfl
def k_Face_latency_A_b0  (σ : CS) (l0 : Nat) (l1 : Int32) (l2 : Int32) : Option (CS) :=
  (k_Face_host σ l0 l1).bind fun p1 =>
  if xc0 .lt l2 = true then (
    k_Face_latency_A_b17  σ
  ) else (
    if xc2 .le l2 ((1000 : Int32)) = true then (
      (crd σ 14 0 13 (cI σ 13 p1 0 0)).bind fun x12 =>
      (cwr σ 14 0 13 (cI σ 13 p1 0 0) l2).bind fun σ20 =>
      none
    ) else (
      k_Face_latency_A_b17  σ
    )
  )
set_option maxRecDepth 4000 in
theorem k_Face_latency_A_b0_ok {E : CE} {pF : Nat → List Value → xH → Option (Option Value × xH)} (hp0 : xNPc pF) (hL : lcAll E pF) (hF : lcF pF) {d : Nat}   : ∀ (g : CG) (lv : xL) (σ : CS) (l0 : Nat) (l1 : Int32) (l2 : Int32), (cob σ 15 l0) → (xg lv 0 = some (.ref (coa E 15 l0))) → (xg lv 1 = some (.int l1)) → (xg lv 2 = some (.int l2)) → ∀ res, k_Face_latency_A_b0  σ l0 l1 l2 = some res → cR E cQ1 pF (d + 1) kt224_A 15 5 Option.none none res g σ (0, lv, []) := by
  intro g lv σ l0 l1 l2 bl0 g0 g1 g2 res h
  unfold k_Face_latency_A_b0 at h
  refine cR_lift (fun _ _ kk => eE_aload_n lt224_A_0 g0 kk) ?_
  refine cR_lift (fun _ _ kk => eE_iload_n lt224_A_1 g1 kk) ?_
  obtain ⟨p1, h2, h⟩ := Option.bind_eq_some_iff.mp h
  refine cR_rep (fun _ hc => k_Face_host_lt hc bl0 h2) (fun b3 => ?_)
  refine cR_virt (cl := 15) (i := l0) (as := [.int l1]) lt224_A_2 mr_15_155 na_219 rfl rfl (by first | exact Nat.le_of_ble_eq_true rfl | (simp [xcat, cvo_cat, cat_i, cat_j, cat_r]; done)) wv_219 wc_219 bl0 (k_Face_host_ok hp0 hL hF (d := d + 0) bl0 h2) (fun m4  => ?_)
  refine cR_stA (j := 3) lt224_A_5 (Or.inr ⟨_, rfl, rfl⟩) (by decide) (fun vq5 gq6 kq7 => ?_)
  have gq8 := kq7 0 _ (by decide) (fun e => absurd e (by decide)) g0
  have gq9 := kq7 2 _ (by decide) (fun _ => rfl) g2
  refine cR_lift (fun _ _ kk => eE_iload_n lt224_A_6 gq9 kk) ?_
  refine cR_if (t := 17) lt224_A_7 (by decide) (fun c10 => ?_) (fun c10 => ?_)
  · rw [if_pos c10] at h
    exact k_Face_latency_A_b17_ok hp0 hL hF  g vq5 σ  _ h
  · rw [if_neg c10] at h
    refine cR_lift (fun _ _ kk => eE_iload_n lt224_A_10 gq9 kk) ?_
    refine cR_lift (fun _ _ kk => eE_sipush (v := 1000) lt224_A_11 (by decide) kk) ?_
    refine cR_icmp (t := 25) lt224_A_14 (by decide) (fun c11 => ?_) (fun c11 => ?_)
    · rw [if_pos c11] at h
      refine cR_lift (fun _ _ kk => eE_aload_n lt224_A_25 gq8 kk) ?_
      refine cR_getO (cl' := 14) (i' := 0) lt224_A_26 rf_15_42 rfl rfl bl0 ?_
      refine cR_getA lt224_A_29 rf_15_159 (by decide) (cob_0 (c := σ) (cl := 14) (by decide) rfl rfl) ?_
      refine cR_lift (fun _ _ kk => eE_aload_n lt224_A_32 gq6 kk) ?_
      refine cR_getI lt224_A_33 rf_15_162 rfl b3 ?_
      obtain ⟨x12, h13, h⟩ := Option.bind_eq_some_iff.mp h
      refine cR_iald (cl := 14) (i := 0) (f := 13) lt224_A_36 (by decide) rfl (cob_0 (c := σ) (cl := 14) (by decide) rfl rfl) h13 ?_
      refine cR_stI (j := 4) lt224_A_37 (Or.inl rfl) (by decide) (fun vq14 gq15 kq16 => ?_)
      have gq17 := kq16 0 _ (by decide) (fun e => absurd e (by decide)) gq8
      have gq18 := kq16 2 _ (by decide) (fun e => absurd e (by decide)) gq9
      have gq19 := kq16 3 _ (by decide) (fun _ => rfl) gq6
      refine cR_lift (fun _ _ kk => eE_aload_n lt224_A_39 gq17 kk) ?_
      refine cR_getO (cl' := 14) (i' := 0) lt224_A_40 rf_15_42 rfl rfl bl0 ?_
      refine cR_getA lt224_A_43 rf_15_159 (by decide) (cob_0 (c := σ) (cl := 14) (by decide) rfl rfl) ?_
      refine cR_lift (fun _ _ kk => eE_aload_n lt224_A_46 gq19 kk) ?_
      refine cR_getI lt224_A_47 rf_15_162 rfl b3 ?_
      refine cR_lift (fun _ _ kk => eE_iload_n lt224_A_50 gq18 kk) ?_
      obtain ⟨σ20, h21, h⟩ := Option.bind_eq_some_iff.mp h
      refine cR_iast (cl := 14) (i := 0) (f := 13) lt224_A_51 (by decide) rfl (cob_0 (c := σ) (cl := 14) (by decide) rfl rfl) h21 ?_
      refine cR_lift (fun _ _ kk => eE_iload lt224_A_52 gq15 kk) ?_
      cases h
    · rw [if_neg c11] at h
      exact k_Face_latency_A_b17_ok hp0 hL hF  g vq5 σ  _ h
def k_Face_latency_A (σ : CS) (l0 : Nat) (l1 : Int32) (l2 : Int32) : Option (CS) := k_Face_latency_A_b0 σ l0 l1 l2
theorem k_Face_latency_A_ok {E : CE} {pF : Nat → List Value → xH → Option (Option Value × xH)} (hp0 : xNPc pF) (hL : lcAll E pF) (hF : lcF pF) {d : Nat} {g : CG} {σ : CS} {l0 : Nat} {l1 : Int32} {l2 : Int32} {res : CS} (bl0 : cob σ 15 l0) (h : k_Face_latency_A σ l0 l1 l2 = some res) : cR E cQ1 pF (d + 1) kt224_A 15 5 Option.none none res g σ (0, lv_args 0 [.ref (coa E 15 l0), .int l1, .int l2], []) :=
  k_Face_latency_A_b0_ok hp0 hL hF g _ σ l0 l1 l2 bl0 rfl rfl rfl _ h
/-! k_Face_machineWith_J (226), depth 2 -/
def k_Face_machineWith_J_b28  (σ : CS) : Option (Unit) :=
  some ()
set_option maxRecDepth 4000 in
theorem k_Face_machineWith_J_b28_ok {E : CE} {pF : Nat → List Value → xH → Option (Option Value × xH)} (hp0 : xNPc pF) (hL : lcAll E pF) (hF : lcF pF) {d : Nat}   : ∀ (g : CG) (lv : xL) (σ : CS), ∀ res, k_Face_machineWith_J_b28  σ = some res → cR E cQ1 pF (d + 1) kt226_J 15 4 Option.none none σ g σ (28, lv, []) := by
  intro g lv σ res h
  unfold k_Face_machineWith_J_b28 at h
  cases h
  exact cR_end lt226_J_28 rfl rfl rfl
def k_Face_machineWith_J_b0  (σ : CS) (l0 : Nat) (l1 : Int32) (l2 : Int32) : Option (Unit) :=
  (k_Face_host σ l0 l1).bind fun p1 =>
  if xc0 .eq (cI σ 13 p1 8 0) = true then (
    k_Face_machineWith_J_b28  σ
  ) else (
    if xc0 .lt l2 = true then (
      k_Face_machineWith_J_b28  σ
    ) else (
      if xc2 .lt l2 (cI σ 10 p1 4 0) = true then (
        none
      ) else (
        k_Face_machineWith_J_b28  σ
      )
    )
  )
set_option maxRecDepth 4000 in
theorem k_Face_machineWith_J_b0_ok {E : CE} {pF : Nat → List Value → xH → Option (Option Value × xH)} (hp0 : xNPc pF) (hL : lcAll E pF) (hF : lcF pF) {d : Nat}   : ∀ (g : CG) (lv : xL) (σ : CS) (l0 : Nat) (l1 : Int32) (l2 : Int32), (cob σ 15 l0) → (xg lv 0 = some (.ref (coa E 15 l0))) → (xg lv 1 = some (.int l1)) → (xg lv 2 = some (.int l2)) → ∀ res, k_Face_machineWith_J_b0  σ l0 l1 l2 = some res → cR E cQ1 pF (d + 1) kt226_J 15 4 Option.none none σ g σ (0, lv, []) := by
  intro g lv σ l0 l1 l2 bl0 g0 g1 g2 res h
  unfold k_Face_machineWith_J_b0 at h
  refine cR_lift (fun _ _ kk => eE_aload_n lt226_J_0 g0 kk) ?_
  refine cR_lift (fun _ _ kk => eE_iload_n lt226_J_1 g1 kk) ?_
  obtain ⟨p1, h2, h⟩ := Option.bind_eq_some_iff.mp h
  refine cR_rep (fun _ hc => k_Face_host_lt hc bl0 h2) (fun b3 => ?_)
  refine cR_virt (cl := 15) (i := l0) (as := [.int l1]) lt226_J_2 mr_15_155 na_219 rfl rfl (by first | exact Nat.le_of_ble_eq_true rfl | (simp [xcat, cvo_cat, cat_i, cat_j, cat_r]; done)) wv_219 wc_219 bl0 (k_Face_host_ok hp0 hL hF (d := d + 0) bl0 h2) (fun m4  => ?_)
  refine cR_stA (j := 3) lt226_J_5 (Or.inr ⟨_, rfl, rfl⟩) (by decide) (fun vq5 gq6 kq7 => ?_)
  have gq8 := kq7 2 _ (by decide) (fun _ => rfl) g2
  refine cR_lift (fun _ _ kk => eE_aload_n lt226_J_6 gq6 kk) ?_
  refine cR_getI lt226_J_7 rf_15_165 rfl b3 ?_
  refine cR_if (t := 28) lt226_J_10 (by decide) (fun c9 => ?_) (fun c9 => ?_)
  · rw [if_pos c9] at h
    exact k_Face_machineWith_J_b28_ok hp0 hL hF  g vq5 σ  _ h
  · rw [if_neg c9] at h
    refine cR_lift (fun _ _ kk => eE_iload_n lt226_J_13 gq8 kk) ?_
    refine cR_if (t := 28) lt226_J_14 (by decide) (fun c10 => ?_) (fun c10 => ?_)
    · rw [if_pos c10] at h
      exact k_Face_machineWith_J_b28_ok hp0 hL hF  g vq5 σ  _ h
    · rw [if_neg c10] at h
      refine cR_lift (fun _ _ kk => eE_iload_n lt226_J_17 gq8 kk) ?_
      refine cR_lift (fun _ _ kk => eE_aload_n lt226_J_18 gq6 kk) ?_
      refine cR_getO (cl' := 10) (i' := p1) lt226_J_19 rf_15_317 rfl rfl b3 ?_
      refine cR_getI lt226_J_22 rf_15_321 rfl (cob_s (cl := 10) b3 (by decide) rfl rfl) ?_
      refine cR_icmp (t := 36) lt226_J_25 (by decide) (fun c11 => ?_) (fun c11 => ?_)
      · rw [if_pos c11] at h
        refine cR_lift (fun _ _ kk => eE_aload_n lt226_J_36 gq6 kk) ?_
        refine cR_getO (cl' := 10) (i' := p1) lt226_J_37 rf_15_317 rfl rfl b3 ?_
        cases h
      · rw [if_neg c11] at h
        exact k_Face_machineWith_J_b28_ok hp0 hL hF  g vq5 σ  _ h
def k_Face_machineWith_J (σ : CS) (l0 : Nat) (l1 : Int32) (l2 : Int32) : Option (Unit) := k_Face_machineWith_J_b0 σ l0 l1 l2
theorem k_Face_machineWith_J_ok {E : CE} {pF : Nat → List Value → xH → Option (Option Value × xH)} (hp0 : xNPc pF) (hL : lcAll E pF) (hF : lcF pF) {d : Nat} {g : CG} {σ : CS} {l0 : Nat} {l1 : Int32} {l2 : Int32} {res : Unit} (bl0 : cob σ 15 l0) (h : k_Face_machineWith_J σ l0 l1 l2 = some res) : cR E cQ1 pF (d + 1) kt226_J 15 4 Option.none none σ g σ (0, lv_args 0 [.ref (coa E 15 l0), .int l1, .int l2], []) :=
  k_Face_machineWith_J_b0_ok hp0 hL hF g _ σ l0 l1 l2 bl0 rfl rfl rfl _ h
/-! k_Face_meddle_A (227), depth 12 -/
def k_Face_meddle_A_b20 (F : Nat)  (σ : CS) : Option (CS) :=
  some σ
set_option maxRecDepth 4000 in
theorem k_Face_meddle_A_b20_ok {E : CE} {pF : Nat → List Value → xH → Option (Option Value × xH)} (hp0 : xNPc pF) (hL : lcAll E pF) (hF : lcF pF) {d : Nat} {F : Nat}   : ∀ (g : CG) (lv : xL) (σ : CS), ∀ res, k_Face_meddle_A_b20 F  σ = some res → cR E (cQx [14]) pF (d + 11) kt227_A 15 4 Option.none none res g σ (20, lv, []) := by
  intro g lv σ res h
  unfold k_Face_meddle_A_b20 at h
  cases h
  exact cR_end lt227_A_20 rfl rfl rfl
def k_Face_meddle_A_b81 (F : Nat)  (σ : CS) : Option (CS) :=
  none
set_option maxRecDepth 4000 in
theorem k_Face_meddle_A_b81_ok {E : CE} {pF : Nat → List Value → xH → Option (Option Value × xH)} (hp0 : xNPc pF) (hL : lcAll E pF) (hF : lcF pF) {d : Nat} {F : Nat}   : ∀ (g : CG) (lv : xL) (σ : CS), ∀ res, k_Face_meddle_A_b81 F  σ = some res → cR E (cQx [14]) pF (d + 11) kt227_A 15 4 Option.none none res g σ (81, lv, []) := by
  intro g lv σ res h
  unfold k_Face_meddle_A_b81 at h
  refine cR_lift (fun _ _ kk => eE_iconst (v := 1) lt227_A_81 (by decide) kk) ?_
  cases h
def k_Face_meddle_A_b0 (F : Nat)  (σ : CS) (l0 : Nat) (l1 : Int32) (l2 : Int32) (l3 : Int32) : Option (CS) :=
  if xc0 .lt l2 = true then (
    k_Face_meddle_A_b20 F  σ
  ) else (
    if xc2 .gt l2 ((2 : Int32)) = true then (
      k_Face_meddle_A_b20 F  σ
    ) else (
      if xc0 .lt l3 = true then (
        k_Face_meddle_A_b20 F  σ
      ) else (
        if xc2 .le l3 ((1000 : Int32)) = true then (
          (k_World_hasLetter σ 0 l1).bind fun p5 =>
          if xc0 .ne p5 = true then (
            if xc0 .ne l2 = true then (
              if xc2 .ne l2 ((1 : Int32)) = true then (
                (k_World_deferLetter F σ 0 l1 l3).bind fun p11 =>
                k_Face_meddle_A_b81 F  p11
              ) else (
                (k_World_doubleLetter F σ 0 l1).bind fun p15 =>
                k_Face_meddle_A_b81 F  p15
              )
            ) else (
              (k_World_dropLetter σ 0 l1).bind fun p19 =>
              k_Face_meddle_A_b81 F  p19
            )
          ) else (
            none
          )
        ) else (
          k_Face_meddle_A_b20 F  σ
        )
      )
    )
  )
set_option maxRecDepth 4000 in
theorem k_Face_meddle_A_b0_ok {E : CE} {pF : Nat → List Value → xH → Option (Option Value × xH)} (hp0 : xNPc pF) (hL : lcAll E pF) (hF : lcF pF) {d : Nat} {F : Nat}   : ∀ (g : CG) (lv : xL) (σ : CS) (l0 : Nat) (l1 : Int32) (l2 : Int32) (l3 : Int32), (cob σ 15 l0) → (xg lv 0 = some (.ref (coa E 15 l0))) → (xg lv 1 = some (.int l1)) → (xg lv 2 = some (.int l2)) → (xg lv 3 = some (.int l3)) → ∀ res, k_Face_meddle_A_b0 F  σ l0 l1 l2 l3 = some res → cR E (cQx [14]) pF (d + 11) kt227_A 15 4 Option.none none res g σ (0, lv, []) := by
  intro g lv σ l0 l1 l2 l3 bl0 g0 g1 g2 g3 res h
  unfold k_Face_meddle_A_b0 at h
  refine cR_lift (fun _ _ kk => eE_iload_n lt227_A_0 g2 kk) ?_
  refine cR_if (t := 20) lt227_A_1 (by decide) (fun c1 => ?_) (fun c1 => ?_)
  · rw [if_pos c1] at h
    exact k_Face_meddle_A_b20_ok hp0 hL hF  g lv σ  _ h
  · rw [if_neg c1] at h
    refine cR_lift (fun _ _ kk => eE_iload_n lt227_A_4 g2 kk) ?_
    refine cR_lift (fun _ _ kk => eE_iconst (v := 2) lt227_A_5 (by decide) kk) ?_
    refine cR_icmp (t := 20) lt227_A_6 (by decide) (fun c2 => ?_) (fun c2 => ?_)
    · rw [if_pos c2] at h
      exact k_Face_meddle_A_b20_ok hp0 hL hF  g lv σ  _ h
    · rw [if_neg c2] at h
      refine cR_lift (fun _ _ kk => eE_iload_n lt227_A_9 g3 kk) ?_
      refine cR_if (t := 20) lt227_A_10 (by decide) (fun c3 => ?_) (fun c3 => ?_)
      · rw [if_pos c3] at h
        exact k_Face_meddle_A_b20_ok hp0 hL hF  g lv σ  _ h
      · rw [if_neg c3] at h
        refine cR_lift (fun _ _ kk => eE_iload_n lt227_A_13 g3 kk) ?_
        refine cR_lift (fun _ _ kk => eE_sipush (v := 1000) lt227_A_14 (by decide) kk) ?_
        refine cR_icmp (t := 28) lt227_A_17 (by decide) (fun c4 => ?_) (fun c4 => ?_)
        · rw [if_pos c4] at h
          refine cR_lift (fun _ _ kk => eE_aload_n lt227_A_28 g0 kk) ?_
          refine cR_getO (cl' := 14) (i' := 0) lt227_A_29 rf_15_42 rfl rfl bl0 ?_
          refine cR_lift (fun _ _ kk => eE_iload_n lt227_A_32 g1 kk) ?_
          obtain ⟨p5, h6, h⟩ := Option.bind_eq_some_iff.mp h
          refine cR_virt (cl := 14) (i := 0) (as := [.int l1]) lt227_A_33 mr_15_142 na_193 rfl rfl (by first | exact Nat.le_of_ble_eq_true rfl | (simp [xcat, cvo_cat, cat_i, cat_j, cat_r]; done)) wv_193 wc_193 (cob_0 (c := σ) (cl := 14) (by decide) rfl rfl) (k_World_hasLetter_ok hp0 hL hF (d := d + 1) (cob_0 (c := σ) (cl := 14) (by decide) rfl rfl) h6) (fun m7  => ?_)
          refine cR_if (t := 41) lt227_A_36 (by decide) (fun c8 => ?_) (fun c8 => ?_)
          · rw [if_pos c8] at h
            refine cR_lift (fun _ _ kk => eE_iload_n lt227_A_41 g2 kk) ?_
            refine cR_if (t := 56) lt227_A_42 (by decide) (fun c9 => ?_) (fun c9 => ?_)
            · rw [if_pos c9] at h
              refine cR_lift (fun _ _ kk => eE_iload_n lt227_A_56 g2 kk) ?_
              refine cR_lift (fun _ _ kk => eE_iconst (v := 1) lt227_A_57 (by decide) kk) ?_
              refine cR_icmp (t := 72) lt227_A_58 (by decide) (fun c10 => ?_) (fun c10 => ?_)
              · rw [if_pos c10] at h
                refine cR_lift (fun _ _ kk => eE_aload_n lt227_A_72 g0 kk) ?_
                refine cR_getO (cl' := 14) (i' := 0) lt227_A_73 rf_15_42 rfl rfl bl0 ?_
                refine cR_lift (fun _ _ kk => eE_iload_n lt227_A_76 g1 kk) ?_
                refine cR_lift (fun _ _ kk => eE_iload_n lt227_A_77 g3 kk) ?_
                obtain ⟨p11, h12, h⟩ := Option.bind_eq_some_iff.mp h
                refine cR_virtG (by exact cQx_sub rfl) (cl := 14) (i := 0) (as := [.int l1, .int l3]) lt227_A_78 mr_15_151 na_186 rfl rfl (by first | exact Nat.le_of_ble_eq_true rfl | (simp [xcat, cvo_cat, cat_i, cat_j, cat_r]; done)) wv_186 wc_186 (cob_0 (c := σ) (cl := 14) (by decide) rfl rfl) (k_World_deferLetter_ok hp0 hL hF (d := d + 0) (cob_0 (c := σ) (cl := 14) (by decide) rfl rfl) h12) (fun m13 g_14 g_14e => ?_)
                exact k_Face_meddle_A_b81_ok hp0 hL hF  g_14 lv p11  _ h
              · rw [if_neg c10] at h
                refine cR_lift (fun _ _ kk => eE_aload_n lt227_A_61 g0 kk) ?_
                refine cR_getO (cl' := 14) (i' := 0) lt227_A_62 rf_15_42 rfl rfl bl0 ?_
                refine cR_lift (fun _ _ kk => eE_iload_n lt227_A_65 g1 kk) ?_
                obtain ⟨p15, h16, h⟩ := Option.bind_eq_some_iff.mp h
                refine cR_virtG (by exact cQx_sub rfl) (cl := 14) (i := 0) (as := [.int l1]) lt227_A_66 mr_15_148 na_187 rfl rfl (by first | exact Nat.le_of_ble_eq_true rfl | (simp [xcat, cvo_cat, cat_i, cat_j, cat_r]; done)) wv_187 wc_187 (cob_0 (c := σ) (cl := 14) (by decide) rfl rfl) (k_World_doubleLetter_ok hp0 hL hF (d := d + 0) (cob_0 (c := σ) (cl := 14) (by decide) rfl rfl) h16) (fun m17 g_18 g_18e => ?_)
                refine cR_lift (fun _ _ kk => eE_goto (t := 81) lt227_A_69 (by decide) kk) ?_
                exact k_Face_meddle_A_b81_ok hp0 hL hF  g_18 lv p15  _ h
            · rw [if_neg c9] at h
              refine cR_lift (fun _ _ kk => eE_aload_n lt227_A_45 g0 kk) ?_
              refine cR_getO (cl' := 14) (i' := 0) lt227_A_46 rf_15_42 rfl rfl bl0 ?_
              refine cR_lift (fun _ _ kk => eE_iload_n lt227_A_49 g1 kk) ?_
              obtain ⟨p19, h20, h⟩ := Option.bind_eq_some_iff.mp h
              refine cR_virtG (by exact cQx_sub rfl) (cl := 14) (i := 0) (as := [.int l1]) lt227_A_50 mr_15_145 na_190 rfl rfl (by first | exact Nat.le_of_ble_eq_true rfl | (simp [xcat, cvo_cat, cat_i, cat_j, cat_r]; done)) wv_190 wc_190 (cob_0 (c := σ) (cl := 14) (by decide) rfl rfl) (k_World_dropLetter_ok hp0 hL hF (d := d + 0) (cob_0 (c := σ) (cl := 14) (by decide) rfl rfl) h20) (fun m21 g_22 g_22e => ?_)
              refine cR_lift (fun _ _ kk => eE_goto (t := 81) lt227_A_53 (by decide) kk) ?_
              exact k_Face_meddle_A_b81_ok hp0 hL hF  g_22 lv p19  _ h
          · rw [if_neg c8] at h
            refine cR_lift (fun _ _ kk => eE_iconst (v := 0) lt227_A_39 (by decide) kk) ?_
            cases h
        · rw [if_neg c4] at h
          exact k_Face_meddle_A_b20_ok hp0 hL hF  g lv σ  _ h
def k_Face_meddle_A (F : Nat) (σ : CS) (l0 : Nat) (l1 : Int32) (l2 : Int32) (l3 : Int32) : Option (CS) := k_Face_meddle_A_b0 F σ l0 l1 l2 l3
theorem k_Face_meddle_A_ok {E : CE} {pF : Nat → List Value → xH → Option (Option Value × xH)} (hp0 : xNPc pF) (hL : lcAll E pF) (hF : lcF pF) {d : Nat} {g : CG} {σ : CS} {F : Nat} {l0 : Nat} {l1 : Int32} {l2 : Int32} {l3 : Int32} {res : CS} (bl0 : cob σ 15 l0) (h : k_Face_meddle_A F σ l0 l1 l2 l3 = some res) : cR E (cQx [14]) pF (d + 11) kt227_A 15 4 Option.none none res g σ (0, lv_args 0 [.ref (coa E 15 l0), .int l1, .int l2, .int l3], []) :=
  k_Face_meddle_A_b0_ok hp0 hL hF g _ σ l0 l1 l2 l3 bl0 rfl rfl rfl rfl _ h
/-! k_Face_message_J (229), depth 11 -/
def k_Face_message_J_b20  (σ : CS) : Option (Unit) :=
  some ()
set_option maxRecDepth 4000 in
theorem k_Face_message_J_b20_ok {E : CE} {pF : Nat → List Value → xH → Option (Option Value × xH)} (hp0 : xNPc pF) (hL : lcAll E pF) (hF : lcF pF) {d : Nat}   : ∀ (g : CG) (lv : xL) (σ : CS), ∀ res, k_Face_message_J_b20  σ = some res → cR E cQ1 pF (d + 10) kt229_J 15 4 Option.none none σ g σ (20, lv, []) := by
  intro g lv σ res h
  unfold k_Face_message_J_b20 at h
  cases h
  exact cR_end lt229_J_20 rfl rfl rfl
def k_Face_message_J_b0  (σ : CS) (l0 : Nat) (l1 : Int32) (l2 : Int32) : Option (Unit) :=
  (k_World_hasLetter σ 0 l1).bind fun p1 =>
  if xc0 .eq p1 = true then (
    k_Face_message_J_b20  σ
  ) else (
    if xc0 .lt l2 = true then (
      k_Face_message_J_b20  σ
    ) else (
      if xc2 .le l2 ((4 : Int32)) = true then (
        (clget σ 14 0 15 l1).bind fun a8 =>
        if l2 = (0 : Int32) then (
          none
        ) else (
        if l2 = (1 : Int32) then (
          none
        ) else (
        if l2 = (2 : Int32) then (
          none
        ) else (
        if l2 = (3 : Int32) then (
          none
        ) else (
          none
        )
        )
        )
        )
      ) else (
        k_Face_message_J_b20  σ
      )
    )
  )
set_option maxRecDepth 4000 in
theorem k_Face_message_J_b0_ok {E : CE} {pF : Nat → List Value → xH → Option (Option Value × xH)} (hp0 : xNPc pF) (hL : lcAll E pF) (hF : lcF pF) {d : Nat}   : ∀ (g : CG) (lv : xL) (σ : CS) (l0 : Nat) (l1 : Int32) (l2 : Int32), (cob σ 15 l0) → (xg lv 0 = some (.ref (coa E 15 l0))) → (xg lv 1 = some (.int l1)) → (xg lv 2 = some (.int l2)) → ∀ res, k_Face_message_J_b0  σ l0 l1 l2 = some res → cR E cQ1 pF (d + 10) kt229_J 15 4 Option.none none σ g σ (0, lv, []) := by
  intro g lv σ l0 l1 l2 bl0 g0 g1 g2 res h
  unfold k_Face_message_J_b0 at h
  refine cR_lift (fun _ _ kk => eE_aload_n lt229_J_0 g0 kk) ?_
  refine cR_getO (cl' := 14) (i' := 0) lt229_J_1 rf_15_42 rfl rfl bl0 ?_
  refine cR_lift (fun _ _ kk => eE_iload_n lt229_J_4 g1 kk) ?_
  obtain ⟨p1, h2, h⟩ := Option.bind_eq_some_iff.mp h
  refine cR_virt (cl := 14) (i := 0) (as := [.int l1]) lt229_J_5 mr_15_142 na_193 rfl rfl (by first | exact Nat.le_of_ble_eq_true rfl | (simp [xcat, cvo_cat, cat_i, cat_j, cat_r]; done)) wv_193 wc_193 (cob_0 (c := σ) (cl := 14) (by decide) rfl rfl) (k_World_hasLetter_ok hp0 hL hF (d := d + 0) (cob_0 (c := σ) (cl := 14) (by decide) rfl rfl) h2) (fun m3  => ?_)
  refine cR_if (t := 20) lt229_J_8 (by decide) (fun c4 => ?_) (fun c4 => ?_)
  · rw [if_pos c4] at h
    exact k_Face_message_J_b20_ok hp0 hL hF  g lv σ  _ h
  · rw [if_neg c4] at h
    refine cR_lift (fun _ _ kk => eE_iload_n lt229_J_11 g2 kk) ?_
    refine cR_if (t := 20) lt229_J_12 (by decide) (fun c5 => ?_) (fun c5 => ?_)
    · rw [if_pos c5] at h
      exact k_Face_message_J_b20_ok hp0 hL hF  g lv σ  _ h
    · rw [if_neg c5] at h
      refine cR_lift (fun _ _ kk => eE_iload_n lt229_J_15 g2 kk) ?_
      refine cR_lift (fun _ _ kk => eE_iconst (v := 4) lt229_J_16 (by decide) kk) ?_
      refine cR_icmp (t := 28) lt229_J_17 (by decide) (fun c6 => ?_) (fun c6 => ?_)
      · rw [if_pos c6] at h
        refine cR_lift (fun _ _ kk => eE_aload_n lt229_J_28 g0 kk) ?_
        refine cR_getO (cl' := 14) (i' := 0) lt229_J_29 rf_15_42 rfl rfl bl0 ?_
        refine cR_getA lt229_J_32 rf_15_248 (by decide) (cob_0 (c := σ) (cl := 14) (by decide) rfl rfl) ?_
        refine cR_lift (fun _ _ kk => eE_iload_n lt229_J_35 g1 kk) ?_
        obtain ⟨a8, h9, h⟩ := Option.bind_eq_some_iff.mp h
        refine cR_rep (fun _ hc => cob8 (clget_lt hc h9)) (fun b7 => ?_)
        refine cR_virtL (cl := 14) (i := 0) (f := 15) (as := [.int l1]) lt229_J_36 mr_15_252 na_6 rfl rfl (by first | exact Nat.le_of_ble_eq_true rfl | (simp [xcat, cvo_cat, cat_i, cat_j, cat_r]; done)) wv_6 wc_6 rfl (cob_0 (c := σ) (cl := 14) (by decide) rfl rfl) ((hL (d + 1)).2.2.1 E g _ 14 0 15 _ _ rfl (cob_0 (c := σ) (cl := 14) (by decide) rfl rfl) h9) (fun _ => ?_)
        refine cR_cast lt229_J_39 xk_15_258 b7 ?_
        refine cR_stA (j := 3) lt229_J_42 (Or.inr ⟨_, rfl, rfl⟩) (by decide) (fun vq10 gq11 kq12 => ?_)
        have gq13 := kq12 2 _ (by decide) (fun _ => rfl) g2
        refine cR_lift (fun _ _ kk => eE_iload_n lt229_J_43 gq13 kk) ?_
        by_cases c14 : l2 = (0 : Int32)
        · rw [if_pos c14] at h
          refine cR_tsw (t := 76) (off := 32) lt229_J_44 (by rw [c14]; decide) (by rw [c14]; rfl) (by decide) ?_
          refine cR_lift (fun _ _ kk => eE_aload_n lt229_J_76 gq11 kk) ?_
          refine cR_getI lt229_J_77 rf_15_260 rfl b7 ?_
          cases h
        rw [if_neg c14] at h
        by_cases c15 : l2 = (1 : Int32)
        · rw [if_pos c15] at h
          refine cR_tsw (t := 81) (off := 37) lt229_J_44 (by rw [c15]; decide) (by rw [c15]; rfl) (by decide) ?_
          refine cR_lift (fun _ _ kk => eE_aload_n lt229_J_81 gq11 kk) ?_
          refine cR_getI lt229_J_82 rf_15_263 rfl b7 ?_
          cases h
        rw [if_neg c15] at h
        by_cases c16 : l2 = (2 : Int32)
        · rw [if_pos c16] at h
          refine cR_tsw (t := 86) (off := 42) lt229_J_44 (by rw [c16]; decide) (by rw [c16]; rfl) (by decide) ?_
          refine cR_lift (fun _ _ kk => eE_aload_n lt229_J_86 gq11 kk) ?_
          refine cR_getI lt229_J_87 rf_15_266 rfl b7 ?_
          cases h
        rw [if_neg c16] at h
        by_cases c17 : l2 = (3 : Int32)
        · rw [if_pos c17] at h
          refine cR_tsw (t := 91) (off := 47) lt229_J_44 (by rw [c17]; decide) (by rw [c17]; rfl) (by decide) ?_
          refine cR_lift (fun _ _ kk => eE_aload_n lt229_J_91 gq11 kk) ?_
          refine cR_getI lt229_J_92 rf_15_269 rfl b7 ?_
          cases h
        rw [if_neg c17] at h
        refine cR_tswD (t := 96) lt229_J_44 (xsw_out (n := 4) (fun j hj => ?_)) (by decide) ?_
        · match j, hj with
          | 0, _ => exact c14
          | 1, _ => exact c15
          | 2, _ => exact c16
          | 3, _ => exact c17
          | q + 4, hj => exact absurd hj (by omega)
        refine cR_lift (fun _ _ kk => eE_aload_n lt229_J_96 gq11 kk) ?_
        refine cR_getI lt229_J_97 rf_15_272 rfl b7 ?_
        cases h
      · rw [if_neg c6] at h
        exact k_Face_message_J_b20_ok hp0 hL hF  g lv σ  _ h
def k_Face_message_J (σ : CS) (l0 : Nat) (l1 : Int32) (l2 : Int32) : Option (Unit) := k_Face_message_J_b0 σ l0 l1 l2
theorem k_Face_message_J_ok {E : CE} {pF : Nat → List Value → xH → Option (Option Value × xH)} (hp0 : xNPc pF) (hL : lcAll E pF) (hF : lcF pF) {d : Nat} {g : CG} {σ : CS} {l0 : Nat} {l1 : Int32} {l2 : Int32} {res : Unit} (bl0 : cob σ 15 l0) (h : k_Face_message_J σ l0 l1 l2 = some res) : cR E cQ1 pF (d + 10) kt229_J 15 4 Option.none none σ g σ (0, lv_args 0 [.ref (coa E 15 l0), .int l1, .int l2], []) :=
  k_Face_message_J_b0_ok hp0 hL hF g _ σ l0 l1 l2 bl0 rfl rfl rfl _ h
/-! k_Face_noise_A (230), depth 1 -/
def k_Face_noise_A_b33  (σ : CS) : Option (CS) :=
  some σ
set_option maxRecDepth 4000 in
theorem k_Face_noise_A_b33_ok {E : CE} {pF : Nat → List Value → xH → Option (Option Value × xH)} (hp0 : xNPc pF) (hL : lcAll E pF) (hF : lcF pF) {d : Nat}   : ∀ (g : CG) (lv : xL) (σ : CS), ∀ res, k_Face_noise_A_b33  σ = some res → cR E cQ1 pF (d + 0) kt230_A 15 6 Option.none none res g σ (33, lv, []) := by
  intro g lv σ res h
  unfold k_Face_noise_A_b33 at h
  cases h
  exact cR_end lt230_A_33 rfl rfl rfl
def k_Face_noise_A_b0  (σ : CS) (l0 : Nat) (l1 : Int32) (l2 : Int32) (l3 : Int32) (l4 : Int64) : Option (CS) :=
  if xc0 .lt l1 = true then (
    k_Face_noise_A_b33  σ
  ) else (
    if xc2 .gt l1 ((1000 : Int32)) = true then (
      k_Face_noise_A_b33  σ
    ) else (
      if xc0 .lt l2 = true then (
        k_Face_noise_A_b33  σ
      ) else (
        if xc2 .gt l2 ((1000 : Int32)) = true then (
          k_Face_noise_A_b33  σ
        ) else (
          if xc0 .lt l3 = true then (
            k_Face_noise_A_b33  σ
          ) else (
            if xc2 .le l3 ((1000 : Int32)) = true then (
              (some (csI σ 14 0 6 0 l1)).bind fun σ7 =>
              (some (csI σ7 14 0 7 0 l2)).bind fun σ9 =>
              (some (csI σ9 14 0 8 0 l3)).bind fun σ11 =>
              (some (csJ σ11 14 0 9 0 l4)).bind fun σ13 =>
              none
            ) else (
              k_Face_noise_A_b33  σ
            )
          )
        )
      )
    )
  )
set_option maxRecDepth 4000 in
theorem k_Face_noise_A_b0_ok {E : CE} {pF : Nat → List Value → xH → Option (Option Value × xH)} (hp0 : xNPc pF) (hL : lcAll E pF) (hF : lcF pF) {d : Nat}   : ∀ (g : CG) (lv : xL) (σ : CS) (l0 : Nat) (l1 : Int32) (l2 : Int32) (l3 : Int32) (l4 : Int64), (cob σ 15 l0) → (xg lv 0 = some (.ref (coa E 15 l0))) → (xg lv 1 = some (.int l1)) → (xg lv 2 = some (.int l2)) → (xg lv 3 = some (.int l3)) → (xg lv 4 = some (.long l4)) → ∀ res, k_Face_noise_A_b0  σ l0 l1 l2 l3 l4 = some res → cR E cQ1 pF (d + 0) kt230_A 15 6 Option.none none res g σ (0, lv, []) := by
  intro g lv σ l0 l1 l2 l3 l4 bl0 g0 g1 g2 g3 g4 res h
  unfold k_Face_noise_A_b0 at h
  refine cR_lift (fun _ _ kk => eE_iload_n lt230_A_0 g1 kk) ?_
  refine cR_if (t := 33) lt230_A_1 (by decide) (fun c1 => ?_) (fun c1 => ?_)
  · rw [if_pos c1] at h
    exact k_Face_noise_A_b33_ok hp0 hL hF  g lv σ  _ h
  · rw [if_neg c1] at h
    refine cR_lift (fun _ _ kk => eE_iload_n lt230_A_4 g1 kk) ?_
    refine cR_lift (fun _ _ kk => eE_sipush (v := 1000) lt230_A_5 (by decide) kk) ?_
    refine cR_icmp (t := 33) lt230_A_8 (by decide) (fun c2 => ?_) (fun c2 => ?_)
    · rw [if_pos c2] at h
      exact k_Face_noise_A_b33_ok hp0 hL hF  g lv σ  _ h
    · rw [if_neg c2] at h
      refine cR_lift (fun _ _ kk => eE_iload_n lt230_A_11 g2 kk) ?_
      refine cR_if (t := 33) lt230_A_12 (by decide) (fun c3 => ?_) (fun c3 => ?_)
      · rw [if_pos c3] at h
        exact k_Face_noise_A_b33_ok hp0 hL hF  g lv σ  _ h
      · rw [if_neg c3] at h
        refine cR_lift (fun _ _ kk => eE_iload_n lt230_A_15 g2 kk) ?_
        refine cR_lift (fun _ _ kk => eE_sipush (v := 1000) lt230_A_16 (by decide) kk) ?_
        refine cR_icmp (t := 33) lt230_A_19 (by decide) (fun c4 => ?_) (fun c4 => ?_)
        · rw [if_pos c4] at h
          exact k_Face_noise_A_b33_ok hp0 hL hF  g lv σ  _ h
        · rw [if_neg c4] at h
          refine cR_lift (fun _ _ kk => eE_iload_n lt230_A_22 g3 kk) ?_
          refine cR_if (t := 33) lt230_A_23 (by decide) (fun c5 => ?_) (fun c5 => ?_)
          · rw [if_pos c5] at h
            exact k_Face_noise_A_b33_ok hp0 hL hF  g lv σ  _ h
          · rw [if_neg c5] at h
            refine cR_lift (fun _ _ kk => eE_iload_n lt230_A_26 g3 kk) ?_
            refine cR_lift (fun _ _ kk => eE_sipush (v := 1000) lt230_A_27 (by decide) kk) ?_
            refine cR_icmp (t := 41) lt230_A_30 (by decide) (fun c6 => ?_) (fun c6 => ?_)
            · rw [if_pos c6] at h
              refine cR_lift (fun _ _ kk => eE_aload_n lt230_A_41 g0 kk) ?_
              refine cR_getO (cl' := 14) (i' := 0) lt230_A_42 rf_15_42 rfl rfl bl0 ?_
              refine cR_lift (fun _ _ kk => eE_iload_n lt230_A_45 g1 kk) ?_
              obtain ⟨σ7, h8, h⟩ := Option.bind_eq_some_iff.mp h
              refine cR_putI lt230_A_46 rf_15_129 rfl (cob_0 (c := σ) (cl := 14) (by decide) rfl rfl) pf_14_6 rfl h8 ?_
              refine cR_lift (fun _ _ kk => eE_aload_n lt230_A_49 g0 kk) ?_
              refine cR_getO (cl' := 14) (i' := 0) lt230_A_50 rf_15_42 rfl rfl (cob_any rfl bl0) ?_
              refine cR_lift (fun _ _ kk => eE_iload_n lt230_A_53 g2 kk) ?_
              obtain ⟨σ9, h10, h⟩ := Option.bind_eq_some_iff.mp h
              refine cR_putI lt230_A_54 rf_15_132 rfl (cob_0 (c := σ7) (cl := 14) (by decide) rfl rfl) pf_14_7 rfl h10 ?_
              refine cR_lift (fun _ _ kk => eE_aload_n lt230_A_57 g0 kk) ?_
              refine cR_getO (cl' := 14) (i' := 0) lt230_A_58 rf_15_42 rfl rfl (cob_any rfl bl0) ?_
              refine cR_lift (fun _ _ kk => eE_iload_n lt230_A_61 g3 kk) ?_
              obtain ⟨σ11, h12, h⟩ := Option.bind_eq_some_iff.mp h
              refine cR_putI lt230_A_62 rf_15_135 rfl (cob_0 (c := σ9) (cl := 14) (by decide) rfl rfl) pf_14_8 rfl h12 ?_
              refine cR_lift (fun _ _ kk => eE_aload_n lt230_A_65 g0 kk) ?_
              refine cR_getO (cl' := 14) (i' := 0) lt230_A_66 rf_15_42 rfl rfl (cob_any rfl bl0) ?_
              refine cR_lift (fun _ _ kk => eE_lload lt230_A_69 g4 kk) ?_
              obtain ⟨σ13, h14, h⟩ := Option.bind_eq_some_iff.mp h
              refine cR_putJ lt230_A_71 rf_15_138 rfl (cob_0 (c := σ11) (cl := 14) (by decide) rfl rfl) pf_14_9 h14 ?_
              cases h
            · rw [if_neg c6] at h
              exact k_Face_noise_A_b33_ok hp0 hL hF  g lv σ  _ h
def k_Face_noise_A (σ : CS) (l0 : Nat) (l1 : Int32) (l2 : Int32) (l3 : Int32) (l4 : Int64) : Option (CS) := k_Face_noise_A_b0 σ l0 l1 l2 l3 l4
theorem k_Face_noise_A_ok {E : CE} {pF : Nat → List Value → xH → Option (Option Value × xH)} (hp0 : xNPc pF) (hL : lcAll E pF) (hF : lcF pF) {d : Nat} {g : CG} {σ : CS} {l0 : Nat} {l1 : Int32} {l2 : Int32} {l3 : Int32} {l4 : Int64} {res : CS} (bl0 : cob σ 15 l0) (h : k_Face_noise_A σ l0 l1 l2 l3 l4 = some res) : cR E cQ1 pF (d + 0) kt230_A 15 6 Option.none none res g σ (0, lv_args 0 [.ref (coa E 15 l0), .int l1, .int l2, .int l3, .long l4], []) :=
  k_Face_noise_A_b0_ok hp0 hL hF g _ σ l0 l1 l2 l3 l4 bl0 rfl rfl rfl rfl rfl _ h
/-! k_Face_part_A (232), depth 1 -/
def k_Face_part_A_b10  (σ : CS) : Option (CS) :=
  some σ
set_option maxRecDepth 4000 in
theorem k_Face_part_A_b10_ok {E : CE} {pF : Nat → List Value → xH → Option (Option Value × xH)} (hp0 : xNPc pF) (hL : lcAll E pF) (hF : lcF pF) {d : Nat}   : ∀ (g : CG) (lv : xL) (σ : CS), ∀ res, k_Face_part_A_b10  σ = some res → cR E cQ1 pF (d + 0) kt232_A 15 3 Option.none none res g σ (10, lv, []) := by
  intro g lv σ res h
  unfold k_Face_part_A_b10 at h
  cases h
  exact cR_end lt232_A_10 rfl rfl rfl
def k_Face_part_A_b0  (σ : CS) (l0 : Nat) (l1 : Int32) : Option (CS) :=
  if xc0 .lt l1 = true then (
    k_Face_part_A_b10  σ
  ) else (
    if xc2 .lt l1 ((65536 : Int32)) = true then (
      (some (csI σ 14 0 5 0 l1)).bind fun σ8 =>
      none
    ) else (
      k_Face_part_A_b10  σ
    )
  )
set_option maxRecDepth 4000 in
theorem k_Face_part_A_b0_ok {E : CE} {pF : Nat → List Value → xH → Option (Option Value × xH)} (hp0 : xNPc pF) (hL : lcAll E pF) (hF : lcF pF) {d : Nat}   : ∀ (g : CG) (lv : xL) (σ : CS) (l0 : Nat) (l1 : Int32), (cob σ 15 l0) → (xg lv 0 = some (.ref (coa E 15 l0))) → (xg lv 1 = some (.int l1)) → ∀ res, k_Face_part_A_b0  σ l0 l1 = some res → cR E cQ1 pF (d + 0) kt232_A 15 3 Option.none none res g σ (0, lv, []) := by
  intro g lv σ l0 l1 bl0 g0 g1 res h
  unfold k_Face_part_A_b0 at h
  refine cR_lift (fun _ _ kk => eE_iload_n lt232_A_0 g1 kk) ?_
  refine cR_if (t := 10) lt232_A_1 (by decide) (fun c1 => ?_) (fun c1 => ?_)
  · rw [if_pos c1] at h
    exact k_Face_part_A_b10_ok hp0 hL hF  g lv σ  _ h
  · rw [if_neg c1] at h
    refine cR_lift (fun _ _ kk => eE_iload_n lt232_A_4 g1 kk) ?_
    refine cR_lift (fun _ _ kk => eE_ldc (v := 65536) lt232_A_5 xc_15_125 kk) ?_
    refine cR_icmp (t := 18) lt232_A_7 (by decide) (fun c2 => ?_) (fun c2 => ?_)
    · rw [if_pos c2] at h
      refine cR_lift (fun _ _ kk => eE_aload_n lt232_A_18 g0 kk) ?_
      refine cR_getO (cl' := 14) (i' := 0) lt232_A_19 rf_15_42 rfl rfl bl0 ?_
      refine cR_getI lt232_A_22 rf_15_126 rfl (cob_0 (c := σ) (cl := 14) (by decide) rfl rfl) ?_
      refine cR_stI (j := 2) lt232_A_25 (Or.inr ⟨_, rfl, rfl⟩) (by decide) (fun vq3 gq4 kq5 => ?_)
      have gq6 := kq5 0 _ (by decide) (fun e => absurd e (by decide)) g0
      have gq7 := kq5 1 _ (by decide) (fun _ => rfl) g1
      refine cR_lift (fun _ _ kk => eE_aload_n lt232_A_26 gq6 kk) ?_
      refine cR_getO (cl' := 14) (i' := 0) lt232_A_27 rf_15_42 rfl rfl bl0 ?_
      refine cR_lift (fun _ _ kk => eE_iload_n lt232_A_30 gq7 kk) ?_
      obtain ⟨σ8, h9, h⟩ := Option.bind_eq_some_iff.mp h
      refine cR_putI lt232_A_31 rf_15_126 rfl (cob_0 (c := σ) (cl := 14) (by decide) rfl rfl) pf_14_5 rfl h9 ?_
      refine cR_lift (fun _ _ kk => eE_iload_n lt232_A_34 gq4 kk) ?_
      cases h
    · rw [if_neg c2] at h
      exact k_Face_part_A_b10_ok hp0 hL hF  g lv σ  _ h
def k_Face_part_A (σ : CS) (l0 : Nat) (l1 : Int32) : Option (CS) := k_Face_part_A_b0 σ l0 l1
theorem k_Face_part_A_ok {E : CE} {pF : Nat → List Value → xH → Option (Option Value × xH)} (hp0 : xNPc pF) (hL : lcAll E pF) (hF : lcF pF) {d : Nat} {g : CG} {σ : CS} {l0 : Nat} {l1 : Int32} {res : CS} (bl0 : cob σ 15 l0) (h : k_Face_part_A σ l0 l1 = some res) : cR E cQ1 pF (d + 0) kt232_A 15 3 Option.none none res g σ (0, lv_args 0 [.ref (coa E 15 l0), .int l1], []) :=
  k_Face_part_A_b0_ok hp0 hL hF g _ σ l0 l1 bl0 rfl rfl _ h
/-! k_Face_run_A (234), depth 17 -/
def k_Face_run_A_b12 (F : Nat)  (σ : CS) : Option (CS) :=
  some σ
set_option maxRecDepth 4000 in
theorem k_Face_run_A_b12_ok {E : CE} {pF : Nat → List Value → xH → Option (Option Value × xH)} (hp0 : xNPc pF) (hL : lcAll E pF) (hF : lcF pF) {d : Nat} {F : Nat}   : ∀ (g : CG) (lv : xL) (σ : CS), ∀ res, k_Face_run_A_b12 F  σ = some res → cR E (cQx [10, 11, 13, 14]) pF (d + 16) kt234_A 15 4 Option.none none res g σ (12, lv, []) := by
  intro g lv σ res h
  unfold k_Face_run_A_b12 at h
  cases h
  exact cR_end lt234_A_12 rfl rfl rfl
def k_Face_run_A_b53 (F : Nat)  (σ : CS) (l0 : Nat) (l2 : Int32) (l3 : Int32) : Option (CS) :=
  (some (csI σ 14 0 0 0 l2)).bind fun σ1 =>
  none
set_option maxRecDepth 4000 in
theorem k_Face_run_A_b53_ok {E : CE} {pF : Nat → List Value → xH → Option (Option Value × xH)} (hp0 : xNPc pF) (hL : lcAll E pF) (hF : lcF pF) {d : Nat} {F : Nat}   : ∀ (g : CG) (lv : xL) (σ : CS) (l0 : Nat) (l2 : Int32) (l3 : Int32), (cob σ 15 l0) → (xg lv 0 = some (.ref (coa E 15 l0))) → (xg lv 2 = some (.int l2)) → (xg lv 3 = some (.int l3)) → ∀ res, k_Face_run_A_b53 F  σ l0 l2 l3 = some res → cR E (cQx [10, 11, 13, 14]) pF (d + 16) kt234_A 15 4 Option.none none res g σ (53, lv, []) := by
  intro g lv σ l0 l2 l3 bl0 g0 g2 g3 res h
  unfold k_Face_run_A_b53 at h
  refine cR_lift (fun _ _ kk => eE_aload_n lt234_A_53 g0 kk) ?_
  refine cR_getO (cl' := 14) (i' := 0) lt234_A_54 rf_15_42 rfl rfl bl0 ?_
  refine cR_lift (fun _ _ kk => eE_iload_n lt234_A_57 g2 kk) ?_
  obtain ⟨σ1, h2, h⟩ := Option.bind_eq_some_iff.mp h
  refine cR_putI lt234_A_58 rf_15_105 rfl (cob_0 (c := σ) (cl := 14) (by decide) rfl rfl) pf_14_0 rfl h2 ?_
  refine cR_lift (fun _ _ kk => eE_iload_n lt234_A_61 g3 kk) ?_
  cases h
def k_Face_run_A_b32 (F : Nat)  : Nat → CS → Nat → Int32 → Int32 → Option (CS)
  | 0, _, _, _, _ => none
  | n + 1, σ, l0, l2, l3 =>
    let KK := k_Face_run_A_b32 F  n
    if xc2 .ge l3 ((1000000 : Int32)) = true then (
      k_Face_run_A_b53 F  σ l0 l2 l3
    ) else (
      (k_Face_happen F σ l0 l2).bind fun p4 =>
      if xc2 .eq p4.1 ((-1 : Int32)) = true then (
        k_Face_run_A_b53 F  p4.2 l0 l2 l3
      ) else (
        KK p4.2 l0 l2 (l3 + (1 : Int32))
      )
    )
set_option maxRecDepth 4000 in
theorem k_Face_run_A_b32_ok {E : CE} {pF : Nat → List Value → xH → Option (Option Value × xH)} (hp0 : xNPc pF) (hL : lcAll E pF) (hF : lcF pF) {d : Nat} {F : Nat}   : ∀ (n : Nat) (g : CG) (lv : xL) (σ : CS) (l0 : Nat) (l2 : Int32) (l3 : Int32), (cob σ 15 l0) → (xg lv 0 = some (.ref (coa E 15 l0))) → (xg lv 2 = some (.int l2)) → (xg lv 3 = some (.int l3)) → ∀ res, k_Face_run_A_b32 F  n σ l0 l2 l3 = some res → cR E (cQx [10, 11, 13, 14]) pF (d + 16) kt234_A 15 4 Option.none none res g σ (32, lv, []) := by
  intro n
  induction n with
  | zero => intro g lv σ l0 l2 l3 bl0 g0 g2 g3 res h; simp [k_Face_run_A_b32] at h
  | succ n hKK =>
    intro g lv σ l0 l2 l3 bl0 g0 g2 g3 res h
    unfold k_Face_run_A_b32 at h
    dsimp only at h
    refine cR_lift (fun _ _ kk => eE_iload_n lt234_A_32 g3 kk) ?_
    refine cR_lift (fun _ _ kk => eE_ldc (v := 1000000) lt234_A_33 xc_15_108 kk) ?_
    refine cR_icmp (t := 53) lt234_A_35 (by decide) (fun c3 => ?_) (fun c3 => ?_)
    · rw [if_pos c3] at h
      exact k_Face_run_A_b53_ok hp0 hL hF  g lv σ l0 l2 l3 bl0 g0 g2 g3 _ h
    · rw [if_neg c3] at h
      refine cR_lift (fun _ _ kk => eE_aload_n lt234_A_38 g0 kk) ?_
      refine cR_lift (fun _ _ kk => eE_iload_n lt234_A_39 g2 kk) ?_
      obtain ⟨p4, h5, h⟩ := Option.bind_eq_some_iff.mp h
      refine cR_virtG (by exact cQx_sub rfl) (cl := 15) (i := l0) (as := [.int l2]) lt234_A_40 mr_15_109 na_217 rfl rfl (by first | exact Nat.le_of_ble_eq_true rfl | (simp [xcat, cvo_cat, cat_i, cat_j, cat_r]; done)) wv_217 wc_217 bl0 (k_Face_happen_ok hp0 hL hF (d := d + 0) bl0 h5) (fun m6 g_7 g_7e => ?_)
      refine cR_lift (fun _ _ kk => eE_iconst (v := (-1)) lt234_A_43 (by decide) kk) ?_
      refine cR_icmp (t := 53) lt234_A_44 (by decide) (fun c8 => ?_) (fun c8 => ?_)
      · rw [if_pos c8] at h
        exact k_Face_run_A_b53_ok hp0 hL hF  g_7 lv p4.2 l0 l2 l3 (cob_any rfl bl0) g0 g2 g3 _ h
      · rw [if_neg c8] at h
        refine cR_inc (j := 3) (v := l3 + (1 : Int32)) lt234_A_47 g3 rfl (by decide) (fun vq9 gq10 kq11 => ?_)
        have gq12 := kq11 0 _ (by decide) (fun e => absurd e (by decide)) g0
        have gq13 := kq11 2 _ (by decide) (fun _ => rfl) g2
        refine cR_lift (fun _ _ kk => eE_goto (t := 32) lt234_A_50 (by decide) kk) ?_
        exact hKK g_7 vq9 p4.2 l0 l2 (l3 + (1 : Int32)) (cob_any rfl bl0) gq12 gq13 gq10 _ h
def k_Face_run_A_b0 (F : Nat)  (σ : CS) (l0 : Nat) (l1 : Int32) : Option (CS) :=
  if xc2 .lt l1 ((1 : Int32)) = true then (
    k_Face_run_A_b12 F  σ
  ) else (
    if xc2 .le l1 ((1000 : Int32)) = true then (
      k_Face_run_A_b32 F  F σ l0 ((cI σ 14 0 0 0) + l1) ((0 : Int32))
    ) else (
      k_Face_run_A_b12 F  σ
    )
  )
set_option maxRecDepth 4000 in
theorem k_Face_run_A_b0_ok {E : CE} {pF : Nat → List Value → xH → Option (Option Value × xH)} (hp0 : xNPc pF) (hL : lcAll E pF) (hF : lcF pF) {d : Nat} {F : Nat}   : ∀ (g : CG) (lv : xL) (σ : CS) (l0 : Nat) (l1 : Int32), (cob σ 15 l0) → (xg lv 0 = some (.ref (coa E 15 l0))) → (xg lv 1 = some (.int l1)) → ∀ res, k_Face_run_A_b0 F  σ l0 l1 = some res → cR E (cQx [10, 11, 13, 14]) pF (d + 16) kt234_A 15 4 Option.none none res g σ (0, lv, []) := by
  intro g lv σ l0 l1 bl0 g0 g1 res h
  unfold k_Face_run_A_b0 at h
  refine cR_lift (fun _ _ kk => eE_iload_n lt234_A_0 g1 kk) ?_
  refine cR_lift (fun _ _ kk => eE_iconst (v := 1) lt234_A_1 (by decide) kk) ?_
  refine cR_icmp (t := 12) lt234_A_2 (by decide) (fun c14 => ?_) (fun c14 => ?_)
  · rw [if_pos c14] at h
    exact k_Face_run_A_b12_ok hp0 hL hF  g lv σ  _ h
  · rw [if_neg c14] at h
    refine cR_lift (fun _ _ kk => eE_iload_n lt234_A_5 g1 kk) ?_
    refine cR_lift (fun _ _ kk => eE_sipush (v := 1000) lt234_A_6 (by decide) kk) ?_
    refine cR_icmp (t := 20) lt234_A_9 (by decide) (fun c15 => ?_) (fun c15 => ?_)
    · rw [if_pos c15] at h
      refine cR_lift (fun _ _ kk => eE_aload_n lt234_A_20 g0 kk) ?_
      refine cR_getO (cl' := 14) (i' := 0) lt234_A_21 rf_15_42 rfl rfl bl0 ?_
      refine cR_getI lt234_A_24 rf_15_105 rfl (cob_0 (c := σ) (cl := 14) (by decide) rfl rfl) ?_
      refine cR_lift (fun _ _ kk => eE_iload_n lt234_A_27 g1 kk) ?_
      refine cR_lift (fun _ _ kk => eE_iadd lt234_A_28 kk) ?_
      refine cR_stI (j := 2) lt234_A_29 (Or.inr ⟨_, rfl, rfl⟩) (by decide) (fun vq16 gq17 kq18 => ?_)
      have gq19 := kq18 0 _ (by decide) (fun e => absurd e (by decide)) g0
      refine cR_lift (fun _ _ kk => eE_iconst (v := 0) lt234_A_30 (by decide) kk) ?_
      refine cR_stI (j := 3) lt234_A_31 (Or.inr ⟨_, rfl, rfl⟩) (by decide) (fun vq20 gq21 kq22 => ?_)
      have gq23 := kq22 0 _ (by decide) (fun e => absurd e (by decide)) gq19
      have gq24 := kq22 2 _ (by decide) (fun _ => rfl) gq17
      exact k_Face_run_A_b32_ok hp0 hL hF  F g vq20 σ l0 ((cI σ 14 0 0 0) + l1) ((0 : Int32)) bl0 gq23 gq24 gq21 _ h
    · rw [if_neg c15] at h
      exact k_Face_run_A_b12_ok hp0 hL hF  g lv σ  _ h
def k_Face_run_A (F : Nat) (σ : CS) (l0 : Nat) (l1 : Int32) : Option (CS) := k_Face_run_A_b0 F σ l0 l1
theorem k_Face_run_A_ok {E : CE} {pF : Nat → List Value → xH → Option (Option Value × xH)} (hp0 : xNPc pF) (hL : lcAll E pF) (hF : lcF pF) {d : Nat} {g : CG} {σ : CS} {F : Nat} {l0 : Nat} {l1 : Int32} {res : CS} (bl0 : cob σ 15 l0) (h : k_Face_run_A F σ l0 l1 = some res) : cR E (cQx [10, 11, 13, 14]) pF (d + 16) kt234_A 15 4 Option.none none res g σ (0, lv_args 0 [.ref (coa E 15 l0), .int l1], []) :=
  k_Face_run_A_b0_ok hp0 hL hF g _ σ l0 l1 bl0 rfl rfl _ h
/-! k_Face_server_J (235), depth 11 -/
def k_Face_server_J_b16  (σ : CS) : Option (Unit) :=
  some ()
set_option maxRecDepth 4000 in
theorem k_Face_server_J_b16_ok {E : CE} {pF : Nat → List Value → xH → Option (Option Value × xH)} (hp0 : xNPc pF) (hL : lcAll E pF) (hF : lcF pF) {d : Nat}   : ∀ (g : CG) (lv : xL) (σ : CS), ∀ res, k_Face_server_J_b16  σ = some res → cR E cQ1 pF (d + 10) kt235_J 15 4 Option.none none σ g σ (16, lv, []) := by
  intro g lv σ res h
  unfold k_Face_server_J_b16 at h
  cases h
  exact cR_end lt235_J_16 rfl rfl rfl
def k_Face_server_J_b40  (σ : CS) (s0 : Int32) : Option (Unit) :=
  none
set_option maxRecDepth 4000 in
theorem k_Face_server_J_b40_ok {E : CE} {pF : Nat → List Value → xH → Option (Option Value × xH)} (hp0 : xNPc pF) (hL : lcAll E pF) (hF : lcF pF) {d : Nat}   : ∀ (g : CG) (lv : xL) (σ : CS) (s0 : Int32), ∀ res, k_Face_server_J_b40  σ s0 = some res → cR E cQ1 pF (d + 10) kt235_J 15 4 Option.none none σ g σ (40, lv, [.int s0]) := by
  intro g lv σ s0 res h
  unfold k_Face_server_J_b40 at h
  cases h
def k_Face_server_J_b57  (σ : CS) (s0 : Int32) : Option (Unit) :=
  none
set_option maxRecDepth 4000 in
theorem k_Face_server_J_b57_ok {E : CE} {pF : Nat → List Value → xH → Option (Option Value × xH)} (hp0 : xNPc pF) (hL : lcAll E pF) (hF : lcF pF) {d : Nat}   : ∀ (g : CG) (lv : xL) (σ : CS) (s0 : Int32), ∀ res, k_Face_server_J_b57  σ s0 = some res → cR E cQ1 pF (d + 10) kt235_J 15 4 Option.none none σ g σ (57, lv, [.int s0]) := by
  intro g lv σ s0 res h
  unfold k_Face_server_J_b57 at h
  cases h
def k_Face_server_J_b0  (σ : CS) (l0 : Nat) (l1 : Int32) (l2 : Int32) : Option (Unit) :=
  (k_Face_host σ l0 l1).bind fun p1 =>
  if xc0 .lt l2 = true then (
    k_Face_server_J_b16  σ
  ) else (
    if xc2 .le l2 ((20 : Int32)) = true then (
      if xc0 .ne l2 = true then (
        if xc0 .eq (cI σ 13 p1 8 0) = true then (
          k_Face_server_J_b57  σ ((-1 : Int32))
        ) else (
          (k_Server_tell σ p1 l2).bind fun p13 =>
          k_Face_server_J_b57  σ p13
        )
      ) else (
        if xc0 .eq (cI σ 13 p1 8 0) = true then (
          k_Face_server_J_b40  σ ((0 : Int32))
        ) else (
          k_Face_server_J_b40  σ ((1 : Int32))
        )
      )
    ) else (
      k_Face_server_J_b16  σ
    )
  )
set_option maxRecDepth 4000 in
theorem k_Face_server_J_b0_ok {E : CE} {pF : Nat → List Value → xH → Option (Option Value × xH)} (hp0 : xNPc pF) (hL : lcAll E pF) (hF : lcF pF) {d : Nat}   : ∀ (g : CG) (lv : xL) (σ : CS) (l0 : Nat) (l1 : Int32) (l2 : Int32), (cob σ 15 l0) → (xg lv 0 = some (.ref (coa E 15 l0))) → (xg lv 1 = some (.int l1)) → (xg lv 2 = some (.int l2)) → ∀ res, k_Face_server_J_b0  σ l0 l1 l2 = some res → cR E cQ1 pF (d + 10) kt235_J 15 4 Option.none none σ g σ (0, lv, []) := by
  intro g lv σ l0 l1 l2 bl0 g0 g1 g2 res h
  unfold k_Face_server_J_b0 at h
  refine cR_lift (fun _ _ kk => eE_aload_n lt235_J_0 g0 kk) ?_
  refine cR_lift (fun _ _ kk => eE_iload_n lt235_J_1 g1 kk) ?_
  obtain ⟨p1, h2, h⟩ := Option.bind_eq_some_iff.mp h
  refine cR_rep (fun _ hc => k_Face_host_lt hc bl0 h2) (fun b3 => ?_)
  refine cR_virt (cl := 15) (i := l0) (as := [.int l1]) lt235_J_2 mr_15_155 na_219 rfl rfl (by first | exact Nat.le_of_ble_eq_true rfl | (simp [xcat, cvo_cat, cat_i, cat_j, cat_r]; done)) wv_219 wc_219 bl0 (k_Face_host_ok hp0 hL hF (d := d + 9) bl0 h2) (fun m4  => ?_)
  refine cR_stA (j := 3) lt235_J_5 (Or.inr ⟨_, rfl, rfl⟩) (by decide) (fun vq5 gq6 kq7 => ?_)
  have gq8 := kq7 2 _ (by decide) (fun _ => rfl) g2
  refine cR_lift (fun _ _ kk => eE_iload_n lt235_J_6 gq8 kk) ?_
  refine cR_if (t := 16) lt235_J_7 (by decide) (fun c9 => ?_) (fun c9 => ?_)
  · rw [if_pos c9] at h
    exact k_Face_server_J_b16_ok hp0 hL hF  g vq5 σ  _ h
  · rw [if_neg c9] at h
    refine cR_lift (fun _ _ kk => eE_iload_n lt235_J_10 gq8 kk) ?_
    refine cR_lift (fun _ _ kk => eE_bipush (v := 20) lt235_J_11 (by decide) kk) ?_
    refine cR_icmp (t := 24) lt235_J_13 (by decide) (fun c10 => ?_) (fun c10 => ?_)
    · rw [if_pos c10] at h
      refine cR_lift (fun _ _ kk => eE_iload_n lt235_J_24 gq8 kk) ?_
      refine cR_if (t := 41) lt235_J_25 (by decide) (fun c11 => ?_) (fun c11 => ?_)
      · rw [if_pos c11] at h
        refine cR_lift (fun _ _ kk => eE_aload_n lt235_J_41 gq6 kk) ?_
        refine cR_getI lt235_J_42 rf_15_165 rfl b3 ?_
        refine cR_if (t := 56) lt235_J_45 (by decide) (fun c12 => ?_) (fun c12 => ?_)
        · rw [if_pos c12] at h
          refine cR_lift (fun _ _ kk => eE_iconst (v := (-1)) lt235_J_56 (by decide) kk) ?_
          exact k_Face_server_J_b57_ok hp0 hL hF  g vq5 σ ((-1 : Int32))  _ h
        · rw [if_neg c12] at h
          refine cR_lift (fun _ _ kk => eE_aload_n lt235_J_48 gq6 kk) ?_
          refine cR_lift (fun _ _ kk => eE_iload_n lt235_J_49 gq8 kk) ?_
          obtain ⟨p13, h14, h⟩ := Option.bind_eq_some_iff.mp h
          refine cR_virt (cl := 13) (i := p1) (as := [.int l2]) lt235_J_50 mr_15_206 na_181 rfl rfl (by first | exact Nat.le_of_ble_eq_true rfl | (simp [xcat, cvo_cat, cat_i, cat_j, cat_r]; done)) wv_181 wc_181 b3 (k_Server_tell_ok hp0 hL hF (d := d + 0) b3 h14) (fun m15  => ?_)
          refine cR_lift (fun _ _ kk => eE_goto (t := 57) lt235_J_53 (by decide) kk) ?_
          exact k_Face_server_J_b57_ok hp0 hL hF  g vq5 σ p13  _ h
      · rw [if_neg c11] at h
        refine cR_lift (fun _ _ kk => eE_aload_n lt235_J_28 gq6 kk) ?_
        refine cR_getI lt235_J_29 rf_15_165 rfl b3 ?_
        refine cR_if (t := 39) lt235_J_32 (by decide) (fun c16 => ?_) (fun c16 => ?_)
        · rw [if_pos c16] at h
          refine cR_lift (fun _ _ kk => eE_iconst (v := 0) lt235_J_39 (by decide) kk) ?_
          exact k_Face_server_J_b40_ok hp0 hL hF  g vq5 σ ((0 : Int32))  _ h
        · rw [if_neg c16] at h
          refine cR_lift (fun _ _ kk => eE_iconst (v := 1) lt235_J_35 (by decide) kk) ?_
          refine cR_lift (fun _ _ kk => eE_goto (t := 40) lt235_J_36 (by decide) kk) ?_
          exact k_Face_server_J_b40_ok hp0 hL hF  g vq5 σ ((1 : Int32))  _ h
    · rw [if_neg c10] at h
      exact k_Face_server_J_b16_ok hp0 hL hF  g vq5 σ  _ h
def k_Face_server_J (σ : CS) (l0 : Nat) (l1 : Int32) (l2 : Int32) : Option (Unit) := k_Face_server_J_b0 σ l0 l1 l2
theorem k_Face_server_J_ok {E : CE} {pF : Nat → List Value → xH → Option (Option Value × xH)} (hp0 : xNPc pF) (hL : lcAll E pF) (hF : lcF pF) {d : Nat} {g : CG} {σ : CS} {l0 : Nat} {l1 : Int32} {l2 : Int32} {res : Unit} (bl0 : cob σ 15 l0) (h : k_Face_server_J σ l0 l1 l2 = some res) : cR E cQ1 pF (d + 10) kt235_J 15 4 Option.none none σ g σ (0, lv_args 0 [.ref (coa E 15 l0), .int l1, .int l2], []) :=
  k_Face_server_J_b0_ok hp0 hL hF g _ σ l0 l1 l2 bl0 rfl rfl rfl _ h
