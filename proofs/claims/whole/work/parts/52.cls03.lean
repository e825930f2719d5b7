/-! printed by wip/whole/gen_cls.py -/
/-! k_Machine_clear (77), depth 1 -/
def k_Machine_clear_b0  (σ : CS) (l0 : Nat) : Option (CS) :=
  (some (csI σ 10 l0 1 0 ((0 : Int32)))).bind fun σ1 =>
  (some (csI σ1 10 l0 4 0 ((0 : Int32)))).bind fun σ3 =>
  (some (csI σ3 10 l0 5 0 ((0 : Int32)))).bind fun σ5 =>
  some σ5
set_option maxRecDepth 4000 in
theorem k_Machine_clear_b0_ok {E : CE} {pF : Nat → List Value → xH → Option (Option Value × xH)} (hp0 : xNPc pF) (hL : lcAll E pF) (hF : lcF pF) {d : Nat}   : ∀ (g : CG) (lv : xL) (σ : CS) (l0 : Nat), (cob σ 10 l0) → (xg lv 0 = some (.ref (coa E 10 l0))) → ∀ res, k_Machine_clear_b0  σ l0 = some res → cR E cQ1 pF (d + 0) kT77 10 1 none none res g σ (0, lv, []) := by
  intro g lv σ l0 bl0 g0 res h
  unfold k_Machine_clear_b0 at h
  refine cR_lift (fun _ _ kk => eE_aload_n lk77_0 g0 kk) ?_
  refine cR_lift (fun _ _ kk => eE_iconst (v := 0) lk77_1 (by decide) kk) ?_
  obtain ⟨σ1, h2, h⟩ := Option.bind_eq_some_iff.mp h
  refine cR_putI lk77_2 rf_10_41 rfl bl0 pf_10_1 rfl h2 ?_
  refine cR_lift (fun _ _ kk => eE_aload_n lk77_5 g0 kk) ?_
  refine cR_lift (fun _ _ kk => eE_iconst (v := 0) lk77_6 (by decide) kk) ?_
  obtain ⟨σ3, h4, h⟩ := Option.bind_eq_some_iff.mp h
  refine cR_putI lk77_7 rf_10_45 rfl (cob_any rfl bl0) pf_10_4 rfl h4 ?_
  refine cR_lift (fun _ _ kk => eE_aload_n lk77_10 g0 kk) ?_
  refine cR_lift (fun _ _ kk => eE_iconst (v := 0) lk77_11 (by decide) kk) ?_
  obtain ⟨σ5, h6, h⟩ := Option.bind_eq_some_iff.mp h
  refine cR_putI lk77_12 rf_10_48 rfl (cob_any rfl bl0) pf_10_5 rfl h6 ?_
  cases h
  exact cR_end lk77_15 rfl rfl rfl
def k_Machine_clear (σ : CS) (l0 : Nat) : Option (CS) := k_Machine_clear_b0 σ l0
theorem k_Machine_clear_ok {E : CE} {pF : Nat → List Value → xH → Option (Option Value × xH)} (hp0 : xNPc pF) (hL : lcAll E pF) (hF : lcF pF) {d : Nat} {g : CG} {σ : CS} {l0 : Nat} {res : CS} (bl0 : cob σ 10 l0) (h : k_Machine_clear σ l0 = some res) : cCo E cQ1 pF (d + 1) 77 [.ref (coa E 10 l0)] none res g σ :=
  cCo_R kk_77 mo_77 ni_77 xm_77 (Nat.le_of_ble_eq_true rfl) (hp0 77 (by decide) _) (k_Machine_clear_b0_ok hp0 hL hF g _ σ l0 bl0 rfl _ h)
/-! k_Machine_compare (78), depth 1 -/
def k_Machine_compare_b74 (F : Nat)  (σ : CS) (l3 : Int32) (l4 : Int32) : Option (Int32) :=
  some (l4 - l3)
set_option maxRecDepth 4000 in
theorem k_Machine_compare_b74_ok {E : CE} {pF : Nat → List Value → xH → Option (Option Value × xH)} (hp0 : xNPc pF) (hL : lcAll E pF) (hF : lcF pF) {d : Nat} {F : Nat}   : ∀ (g : CG) (lv : xL) (σ : CS) (l3 : Int32) (l4 : Int32), (xg lv 3 = some (.int l3)) → (xg lv 4 = some (.int l4)) → ∀ res, k_Machine_compare_b74 F  σ l3 l4 = some res → cR E cQ1 pF (d + 0) kT78 10 7 (some FieldType.int) (some (.int res)) σ g σ (74, lv, []) := by
  intro g lv σ l3 l4 g3 g4 res h
  unfold k_Machine_compare_b74 at h
  refine cR_lift (fun _ _ kk => eE_iload lk78_74 g4 kk) ?_
  refine cR_lift (fun _ _ kk => eE_iload_n lk78_76 g3 kk) ?_
  refine cR_lift (fun _ _ kk => eE_isub lk78_77 kk) ?_
  cases h
  exact cR_end lk78_78 rfl rfl rfl
def k_Machine_compare_b11 (F : Nat)  : Nat → CS → Nat → Int32 → Int32 → Int32 → Int32 → Int32 → Option (Int32)
  | 0, _, _, _, _, _, _, _ => none
  | n + 1, σ, l0, l1, l2, l3, l4, l5 =>
    let KK := k_Machine_compare_b11 F  n
    if xc2 .ge l5 l4 = true then (
      k_Machine_compare_b74 F  σ l3 l4
    ) else (
      if xc2 .ge l5 l3 = true then (
        k_Machine_compare_b74 F  σ l3 l4
      ) else (
        (crd σ 10 l0 9 ((l1 * ((132 : Int32))) + l5)).bind fun x3 =>
        (crd σ 4 0 3 (l2 + l5)).bind fun x5 =>
        if xc0 .eq ((x3 &&& ((255 : Int32))) - (x5 &&& ((255 : Int32)))) = true then (
          KK σ l0 l1 l2 l3 l4 (l5 + (1 : Int32))
        ) else (
          some ((x3 &&& ((255 : Int32))) - (x5 &&& ((255 : Int32))))
        )
      )
    )
set_option maxRecDepth 4000 in
theorem k_Machine_compare_b11_ok {E : CE} {pF : Nat → List Value → xH → Option (Option Value × xH)} (hp0 : xNPc pF) (hL : lcAll E pF) (hF : lcF pF) {d : Nat} {F : Nat}   : ∀ (n : Nat) (g : CG) (lv : xL) (σ : CS) (l0 : Nat) (l1 : Int32) (l2 : Int32) (l3 : Int32) (l4 : Int32) (l5 : Int32), (cob σ 10 l0) → (xg lv 0 = some (.ref (coa E 10 l0))) → (xg lv 1 = some (.int l1)) → (xg lv 2 = some (.int l2)) → (xg lv 3 = some (.int l3)) → (xg lv 4 = some (.int l4)) → (xg lv 5 = some (.int l5)) → ∀ res, k_Machine_compare_b11 F  n σ l0 l1 l2 l3 l4 l5 = some res → cR E cQ1 pF (d + 0) kT78 10 7 (some FieldType.int) (some (.int res)) σ g σ (11, lv, []) := by
  intro n
  induction n with
  | zero => intro g lv σ l0 l1 l2 l3 l4 l5 bl0 g0 g1 g2 g3 g4 g5 res h; simp [k_Machine_compare_b11] at h
  | succ n hKK =>
    intro g lv σ l0 l1 l2 l3 l4 l5 bl0 g0 g1 g2 g3 g4 g5 res h
    unfold k_Machine_compare_b11 at h
    dsimp only at h
    refine cR_lift (fun _ _ kk => eE_iload lk78_11 g5 kk) ?_
    refine cR_lift (fun _ _ kk => eE_iload lk78_13 g4 kk) ?_
    refine cR_icmp (t := 74) lk78_15 (by decide) (fun c1 => ?_) (fun c1 => ?_)
    · rw [if_pos c1] at h
      exact k_Machine_compare_b74_ok hp0 hL hF  g lv σ l3 l4 g3 g4 _ h
    · rw [if_neg c1] at h
      refine cR_lift (fun _ _ kk => eE_iload lk78_18 g5 kk) ?_
      refine cR_lift (fun _ _ kk => eE_iload_n lk78_20 g3 kk) ?_
      refine cR_icmp (t := 74) lk78_21 (by decide) (fun c2 => ?_) (fun c2 => ?_)
      · rw [if_pos c2] at h
        exact k_Machine_compare_b74_ok hp0 hL hF  g lv σ l3 l4 g3 g4 _ h
      · rw [if_neg c2] at h
        refine cR_lift (fun _ _ kk => eE_aload_n lk78_24 g0 kk) ?_
        refine cR_getA lk78_25 rf_10_28 (by decide) bl0 ?_
        refine cR_lift (fun _ _ kk => eE_iload_n lk78_28 g1 kk) ?_
        refine cR_lift (fun _ _ kk => eE_sipush (v := 132) lk78_29 (by decide) kk) ?_
        refine cR_lift (fun _ _ kk => eE_imul lk78_32 kk) ?_
        refine cR_lift (fun _ _ kk => eE_iload lk78_33 g5 kk) ?_
        refine cR_lift (fun _ _ kk => eE_iadd lk78_35 kk) ?_
        obtain ⟨x3, h4, h⟩ := Option.bind_eq_some_iff.mp h
        refine cR_bald (cl := 10) (i := l0) (f := 9) lk78_36 (by decide) (Or.inl rfl) bl0 h4 ?_
        refine cR_lift (fun _ _ kk => eE_sipush (v := 255) lk78_37 (by decide) kk) ?_
        refine cR_lift (fun _ _ kk => eE_iand lk78_40 kk) ?_
        refine cR_lift (fun _ _ kk => eE_aload_n lk78_41 g0 kk) ?_
        refine cR_getO (cl' := 4) (i' := 0) lk78_42 rf_10_37 rfl rfl bl0 ?_
        refine cR_getA lk78_45 rf_10_139 (by decide) (cob_0 (c := σ) (cl := 4) (by decide) rfl rfl) ?_
        refine cR_lift (fun _ _ kk => eE_iload_n lk78_48 g2 kk) ?_
        refine cR_lift (fun _ _ kk => eE_iload lk78_49 g5 kk) ?_
        refine cR_lift (fun _ _ kk => eE_iadd lk78_51 kk) ?_
        obtain ⟨x5, h6, h⟩ := Option.bind_eq_some_iff.mp h
        refine cR_bald (cl := 4) (i := 0) (f := 3) lk78_52 (by decide) (Or.inl rfl) (cob_0 (c := σ) (cl := 4) (by decide) rfl rfl) h6 ?_
        refine cR_lift (fun _ _ kk => eE_sipush (v := 255) lk78_53 (by decide) kk) ?_
        refine cR_lift (fun _ _ kk => eE_iand lk78_56 kk) ?_
        refine cR_lift (fun _ _ kk => eE_isub lk78_57 kk) ?_
        refine cR_stI (j := 6) lk78_58 (Or.inl rfl) (by decide) (fun vq7 gq8 kq9 => ?_)
        have gq10 := kq9 0 _ (by decide) (fun e => absurd e (by decide)) g0
        have gq11 := kq9 1 _ (by decide) (fun e => absurd e (by decide)) g1
        have gq12 := kq9 2 _ (by decide) (fun e => absurd e (by decide)) g2
        have gq13 := kq9 3 _ (by decide) (fun e => absurd e (by decide)) g3
        have gq14 := kq9 4 _ (by decide) (fun e => absurd e (by decide)) g4
        have gq15 := kq9 5 _ (by decide) (fun _ => rfl) g5
        refine cR_lift (fun _ _ kk => eE_iload lk78_60 gq8 kk) ?_
        refine cR_if (t := 68) lk78_62 (by decide) (fun c16 => ?_) (fun c16 => ?_)
        · rw [if_pos c16] at h
          refine cR_inc (j := 5) (v := l5 + (1 : Int32)) lk78_68 gq15 rfl (by decide) (fun vq17 gq18 kq19 => ?_)
          have gq20 := kq19 0 _ (by decide) (fun e => absurd e (by decide)) gq10
          have gq21 := kq19 1 _ (by decide) (fun e => absurd e (by decide)) gq11
          have gq22 := kq19 2 _ (by decide) (fun e => absurd e (by decide)) gq12
          have gq23 := kq19 3 _ (by decide) (fun e => absurd e (by decide)) gq13
          have gq24 := kq19 4 _ (by decide) (fun _ => rfl) gq14
          refine cR_lift (fun _ _ kk => eE_goto (t := 11) lk78_71 (by decide) kk) ?_
          exact hKK g vq17 σ l0 l1 l2 l3 l4 (l5 + (1 : Int32)) bl0 gq20 gq21 gq22 gq23 gq24 gq18 _ h
        · rw [if_neg c16] at h
          refine cR_lift (fun _ _ kk => eE_iload lk78_65 gq8 kk) ?_
          cases h
          exact cR_end lk78_67 rfl rfl rfl
def k_Machine_compare_b0 (F : Nat)  (σ : CS) (l0 : Nat) (l1 : Int32) (l2 : Int32) (l3 : Int32) : Option (Int32) :=
  (crd σ 10 l0 7 l1).bind fun x25 =>
  k_Machine_compare_b11 F  F σ l0 l1 l2 l3 x25 ((0 : Int32))
set_option maxRecDepth 4000 in
theorem k_Machine_compare_b0_ok {E : CE} {pF : Nat → List Value → xH → Option (Option Value × xH)} (hp0 : xNPc pF) (hL : lcAll E pF) (hF : lcF pF) {d : Nat} {F : Nat}   : ∀ (g : CG) (lv : xL) (σ : CS) (l0 : Nat) (l1 : Int32) (l2 : Int32) (l3 : Int32), (cob σ 10 l0) → (xg lv 0 = some (.ref (coa E 10 l0))) → (xg lv 1 = some (.int l1)) → (xg lv 2 = some (.int l2)) → (xg lv 3 = some (.int l3)) → ∀ res, k_Machine_compare_b0 F  σ l0 l1 l2 l3 = some res → cR E cQ1 pF (d + 0) kT78 10 7 (some FieldType.int) (some (.int res)) σ g σ (0, lv, []) := by
  intro g lv σ l0 l1 l2 l3 bl0 g0 g1 g2 g3 res h
  unfold k_Machine_compare_b0 at h
  refine cR_lift (fun _ _ kk => eE_aload_n lk78_0 g0 kk) ?_
  refine cR_getA lk78_1 rf_10_22 (by decide) bl0 ?_
  refine cR_lift (fun _ _ kk => eE_iload_n lk78_4 g1 kk) ?_
  obtain ⟨x25, h26, h⟩ := Option.bind_eq_some_iff.mp h
  refine cR_iald (cl := 10) (i := l0) (f := 7) lk78_5 (by decide) rfl bl0 h26 ?_
  refine cR_stI (j := 4) lk78_6 (Or.inl rfl) (by decide) (fun vq27 gq28 kq29 => ?_)
  have gq30 := kq29 0 _ (by decide) (fun e => absurd e (by decide)) g0
  have gq31 := kq29 1 _ (by decide) (fun e => absurd e (by decide)) g1
  have gq32 := kq29 2 _ (by decide) (fun e => absurd e (by decide)) g2
  have gq33 := kq29 3 _ (by decide) (fun _ => rfl) g3
  refine cR_lift (fun _ _ kk => eE_iconst (v := 0) lk78_8 (by decide) kk) ?_
  refine cR_stI (j := 5) lk78_9 (Or.inl rfl) (by decide) (fun vq34 gq35 kq36 => ?_)
  have gq37 := kq36 0 _ (by decide) (fun e => absurd e (by decide)) gq30
  have gq38 := kq36 1 _ (by decide) (fun e => absurd e (by decide)) gq31
  have gq39 := kq36 2 _ (by decide) (fun e => absurd e (by decide)) gq32
  have gq40 := kq36 3 _ (by decide) (fun e => absurd e (by decide)) gq33
  have gq41 := kq36 4 _ (by decide) (fun _ => rfl) gq28
  exact k_Machine_compare_b11_ok hp0 hL hF  F g vq34 σ l0 l1 l2 l3 x25 ((0 : Int32)) bl0 gq37 gq38 gq39 gq40 gq41 gq35 _ h
def k_Machine_compare (F : Nat) (σ : CS) (l0 : Nat) (l1 : Int32) (l2 : Int32) (l3 : Int32) : Option (Int32) := k_Machine_compare_b0 F σ l0 l1 l2 l3
theorem k_Machine_compare_ok {E : CE} {pF : Nat → List Value → xH → Option (Option Value × xH)} (hp0 : xNPc pF) (hL : lcAll E pF) (hF : lcF pF) {d : Nat} {g : CG} {σ : CS} {F : Nat} {l0 : Nat} {l1 : Int32} {l2 : Int32} {l3 : Int32} {res : Int32} (bl0 : cob σ 10 l0) (h : k_Machine_compare F σ l0 l1 l2 l3 = some res) : cCo E cQ1 pF (d + 1) 78 [.ref (coa E 10 l0), .int l1, .int l2, .int l3] (some (.int res)) σ g σ :=
  cCo_R kk_78 mo_78 ni_78 xm_78 (Nat.le_of_ble_eq_true rfl) (hp0 78 (by decide) _) (k_Machine_compare_b0_ok hp0 hL hF g _ σ l0 l1 l2 l3 bl0 rfl rfl rfl rfl _ h)
/-! k_Machine_dropOldestSession (81), depth 1 -/
def k_Machine_dropOldestSession_b37 (F : Nat) (K4 : CS → Nat → Int32 → Int32 → Option (CS)) (σ : CS) (l0 : Nat) (l1 : Int32) (l2 : Int32) : Option (CS) :=
  K4 σ l0 l1 (l2 + (1 : Int32))
set_option maxRecDepth 4000 in
theorem k_Machine_dropOldestSession_b37_ok {E : CE} {pF : Nat → List Value → xH → Option (Option Value × xH)} (hp0 : xNPc pF) (hL : lcAll E pF) (hF : lcF pF) {d : Nat} {F : Nat} {K4 : CS → Nat → Int32 → Int32 → Option (CS)} (hK4 : ∀ (g : CG) (lv : xL) (σ : CS) (l0 : Nat) (l1 : Int32) (l2 : Int32), (cob σ 10 l0) → (xg lv 0 = some (.ref (coa E 10 l0))) → (xg lv 1 = some (.int l1)) → (xg lv 2 = some (.int l2)) → ∀ res, K4 σ l0 l1 l2 = some res → cR E cQ1 pF (d + 0) kT81 10 4 none none res g σ (4, lv, [])) : ∀ (g : CG) (lv : xL) (σ : CS) (l0 : Nat) (l1 : Int32) (l2 : Int32), (cob σ 10 l0) → (xg lv 0 = some (.ref (coa E 10 l0))) → (xg lv 1 = some (.int l1)) → (xg lv 2 = some (.int l2)) → ∀ res, k_Machine_dropOldestSession_b37 F K4 σ l0 l1 l2 = some res → cR E cQ1 pF (d + 0) kT81 10 4 none none res g σ (37, lv, []) := by
  intro g lv σ l0 l1 l2 bl0 g0 g1 g2 res h
  unfold k_Machine_dropOldestSession_b37 at h
  refine cR_inc (j := 2) (v := l2 + (1 : Int32)) lk81_37 g2 rfl (by decide) (fun vq1 gq2 kq3 => ?_)
  have gq4 := kq3 0 _ (by decide) (fun e => absurd e (by decide)) g0
  have gq5 := kq3 1 _ (by decide) (fun _ => rfl) g1
  refine cR_lift (fun _ _ kk => eE_goto (t := 4) lk81_40 (by decide) kk) ?_
  exact hK4 g vq1 σ l0 l1 (l2 + (1 : Int32)) bl0 gq4 gq5 gq2 _ h
def k_Machine_dropOldestSession_b4 (F : Nat)  : Nat → CS → Nat → Int32 → Int32 → Option (CS)
  | 0, _, _, _, _ => none
  | n + 1, σ, l0, l1, l2 =>
    let KK := k_Machine_dropOldestSession_b4 F  n
    if xc2 .ge l2 (cI σ 10 l0 1 0) = true then (
      (some (csI σ 10 l0 1 0 ((cI σ 10 l0 1 0) - ((1 : Int32))))).bind fun σ7 =>
      (ccpy σ7 10 l0 2 ((l1 + ((1 : Int32))) * ((5 : Int32))) 10 l0 2 (l1 * ((5 : Int32))) (((cI σ7 10 l0 1 0) - l1) * ((5 : Int32)))).bind fun σ20 =>
      (ccpy σ20 10 l0 3 ((l1 + ((1 : Int32))) * ((101 : Int32))) 10 l0 3 (l1 * ((101 : Int32))) (((cI σ7 10 l0 1 0) - l1) * ((101 : Int32)))).bind fun σ22 =>
      some σ22
    ) else (
      (crd σ 10 l0 2 ((l2 * ((5 : Int32))) + ((1 : Int32)))).bind fun x24 =>
      (crd σ 10 l0 2 ((l1 * ((5 : Int32))) + ((1 : Int32)))).bind fun x26 =>
      if xc2 .ge x24 x26 = true then (
        k_Machine_dropOldestSession_b37 F KK σ l0 l1 l2
      ) else (
        k_Machine_dropOldestSession_b37 F KK σ l0 l2 l2
      )
    )
set_option maxRecDepth 4000 in
theorem k_Machine_dropOldestSession_b4_ok {E : CE} {pF : Nat → List Value → xH → Option (Option Value × xH)} (hp0 : xNPc pF) (hL : lcAll E pF) (hF : lcF pF) {d : Nat} {F : Nat}   : ∀ (n : Nat) (g : CG) (lv : xL) (σ : CS) (l0 : Nat) (l1 : Int32) (l2 : Int32), (cob σ 10 l0) → (xg lv 0 = some (.ref (coa E 10 l0))) → (xg lv 1 = some (.int l1)) → (xg lv 2 = some (.int l2)) → ∀ res, k_Machine_dropOldestSession_b4 F  n σ l0 l1 l2 = some res → cR E cQ1 pF (d + 0) kT81 10 4 none none res g σ (4, lv, []) := by
  intro n
  induction n with
  | zero => intro g lv σ l0 l1 l2 bl0 g0 g1 g2 res h; simp [k_Machine_dropOldestSession_b4] at h
  | succ n hKK =>
    intro g lv σ l0 l1 l2 bl0 g0 g1 g2 res h
    unfold k_Machine_dropOldestSession_b4 at h
    dsimp only at h
    refine cR_lift (fun _ _ kk => eE_iload_n lk81_4 g2 kk) ?_
    refine cR_lift (fun _ _ kk => eE_aload_n lk81_5 g0 kk) ?_
    refine cR_getI lk81_6 rf_10_41 rfl bl0 ?_
    refine cR_icmp (t := 43) lk81_9 (by decide) (fun c6 => ?_) (fun c6 => ?_)
    · rw [if_pos c6] at h
      refine cR_lift (fun _ _ kk => eE_aload_n lk81_43 g0 kk) ?_
      refine cR_lift (fun _ _ kk => eE_dup lk81_44 rfl kk) ?_
      refine cR_getI lk81_45 rf_10_41 rfl bl0 ?_
      refine cR_lift (fun _ _ kk => eE_iconst (v := 1) lk81_48 (by decide) kk) ?_
      refine cR_lift (fun _ _ kk => eE_isub lk81_49 kk) ?_
      obtain ⟨σ7, h8, h⟩ := Option.bind_eq_some_iff.mp h
      refine cR_putI lk81_50 rf_10_41 rfl bl0 pf_10_1 rfl h8 ?_
      refine cR_lift (fun _ _ kk => eE_aload_n lk81_53 g0 kk) ?_
      refine cR_getI lk81_54 rf_10_41 rfl (cob_any rfl bl0) ?_
      refine cR_lift (fun _ _ kk => eE_iload_n lk81_57 g1 kk) ?_
      refine cR_lift (fun _ _ kk => eE_isub lk81_58 kk) ?_
      refine cR_stI (j := 2) lk81_59 (Or.inr ⟨_, rfl, rfl⟩) (by decide) (fun vq9 gq10 kq11 => ?_)
      have gq12 := kq11 0 _ (by decide) (fun e => absurd e (by decide)) g0
      have gq13 := kq11 1 _ (by decide) (fun _ => rfl) g1
      refine cR_lift (fun _ _ kk => eE_iload_n lk81_60 gq13 kk) ?_
      refine cR_lift (fun _ _ kk => eE_iconst (v := 1) lk81_61 (by decide) kk) ?_
      refine cR_lift (fun _ _ kk => eE_iadd lk81_62 kk) ?_
      refine cR_stI (j := 3) lk81_63 (Or.inr ⟨_, rfl, rfl⟩) (by decide) (fun vq14 gq15 kq16 => ?_)
      have gq17 := kq16 0 _ (by decide) (fun e => absurd e (by decide)) gq12
      have gq18 := kq16 1 _ (by decide) (fun e => absurd e (by decide)) gq13
      have gq19 := kq16 2 _ (by decide) (fun _ => rfl) gq10
      refine cR_lift (fun _ _ kk => eE_aload_n lk81_64 gq17 kk) ?_
      refine cR_getA lk81_65 rf_10_11 (by decide) (cob_any rfl bl0) ?_
      refine cR_lift (fun _ _ kk => eE_iload_n lk81_68 gq15 kk) ?_
      refine cR_lift (fun _ _ kk => eE_iconst (v := 5) lk81_69 (by decide) kk) ?_
      refine cR_lift (fun _ _ kk => eE_imul lk81_70 kk) ?_
      refine cR_lift (fun _ _ kk => eE_aload_n lk81_71 gq17 kk) ?_
      refine cR_getA lk81_72 rf_10_11 (by decide) (cob_any rfl bl0) ?_
      refine cR_lift (fun _ _ kk => eE_iload_n lk81_75 gq18 kk) ?_
      refine cR_lift (fun _ _ kk => eE_iconst (v := 5) lk81_76 (by decide) kk) ?_
      refine cR_lift (fun _ _ kk => eE_imul lk81_77 kk) ?_
      refine cR_lift (fun _ _ kk => eE_iload_n lk81_78 gq19 kk) ?_
      refine cR_lift (fun _ _ kk => eE_iconst (v := 5) lk81_79 (by decide) kk) ?_
      refine cR_lift (fun _ _ kk => eE_imul lk81_80 kk) ?_
      obtain ⟨σ20, h21, h⟩ := Option.bind_eq_some_iff.mp h
      refine cR_cpy (a := 10) (i := l0) (f := 2) (a' := 10) (i' := l0) (f' := 2) lk81_81 yc_10_68.1 yc_10_68.2 (by decide) (by decide) (by decide) (cob_any rfl bl0) (cob_any rfl bl0) (by first | exact Nat.le_of_ble_eq_true rfl | (simp [xcat, cvo_cat, cat_i, cat_j, cat_r]; done)) h21 ?_
      refine cR_lift (fun _ _ kk => eE_aload_n lk81_84 gq17 kk) ?_
      refine cR_getA lk81_85 rf_10_15 (by decide) (cob_any rfl bl0) ?_
      refine cR_lift (fun _ _ kk => eE_iload_n lk81_88 gq15 kk) ?_
      refine cR_lift (fun _ _ kk => eE_bipush (v := 101) lk81_89 (by decide) kk) ?_
      refine cR_lift (fun _ _ kk => eE_imul lk81_91 kk) ?_
      refine cR_lift (fun _ _ kk => eE_aload_n lk81_92 gq17 kk) ?_
      refine cR_getA lk81_93 rf_10_15 (by decide) (cob_any rfl bl0) ?_
      refine cR_lift (fun _ _ kk => eE_iload_n lk81_96 gq18 kk) ?_
      refine cR_lift (fun _ _ kk => eE_bipush (v := 101) lk81_97 (by decide) kk) ?_
      refine cR_lift (fun _ _ kk => eE_imul lk81_99 kk) ?_
      refine cR_lift (fun _ _ kk => eE_iload_n lk81_100 gq19 kk) ?_
      refine cR_lift (fun _ _ kk => eE_bipush (v := 101) lk81_101 (by decide) kk) ?_
      refine cR_lift (fun _ _ kk => eE_imul lk81_103 kk) ?_
      obtain ⟨σ22, h23, h⟩ := Option.bind_eq_some_iff.mp h
      refine cR_cpy (a := 10) (i := l0) (f := 3) (a' := 10) (i' := l0) (f' := 3) lk81_104 yc_10_68.1 yc_10_68.2 (by decide) (by decide) (by decide) (cob_any rfl bl0) (cob_any rfl bl0) (by first | exact Nat.le_of_ble_eq_true rfl | (simp [xcat, cvo_cat, cat_i, cat_j, cat_r]; done)) h23 ?_
      cases h
      exact cR_end lk81_107 rfl rfl rfl
    · rw [if_neg c6] at h
      refine cR_lift (fun _ _ kk => eE_aload_n lk81_12 g0 kk) ?_
      refine cR_getA lk81_13 rf_10_11 (by decide) bl0 ?_
      refine cR_lift (fun _ _ kk => eE_iload_n lk81_16 g2 kk) ?_
      refine cR_lift (fun _ _ kk => eE_iconst (v := 5) lk81_17 (by decide) kk) ?_
      refine cR_lift (fun _ _ kk => eE_imul lk81_18 kk) ?_
      refine cR_lift (fun _ _ kk => eE_iconst (v := 1) lk81_19 (by decide) kk) ?_
      refine cR_lift (fun _ _ kk => eE_iadd lk81_20 kk) ?_
      obtain ⟨x24, h25, h⟩ := Option.bind_eq_some_iff.mp h
      refine cR_iald (cl := 10) (i := l0) (f := 2) lk81_21 (by decide) rfl bl0 h25 ?_
      refine cR_lift (fun _ _ kk => eE_aload_n lk81_22 g0 kk) ?_
      refine cR_getA lk81_23 rf_10_11 (by decide) bl0 ?_
      refine cR_lift (fun _ _ kk => eE_iload_n lk81_26 g1 kk) ?_
      refine cR_lift (fun _ _ kk => eE_iconst (v := 5) lk81_27 (by decide) kk) ?_
      refine cR_lift (fun _ _ kk => eE_imul lk81_28 kk) ?_
      refine cR_lift (fun _ _ kk => eE_iconst (v := 1) lk81_29 (by decide) kk) ?_
      refine cR_lift (fun _ _ kk => eE_iadd lk81_30 kk) ?_
      obtain ⟨x26, h27, h⟩ := Option.bind_eq_some_iff.mp h
      refine cR_iald (cl := 10) (i := l0) (f := 2) lk81_31 (by decide) rfl bl0 h27 ?_
      refine cR_icmp (t := 37) lk81_32 (by decide) (fun c28 => ?_) (fun c28 => ?_)
      · rw [if_pos c28] at h
        exact k_Machine_dropOldestSession_b37_ok hp0 hL hF hKK g lv σ l0 l1 l2 bl0 g0 g1 g2 _ h
      · rw [if_neg c28] at h
        refine cR_lift (fun _ _ kk => eE_iload_n lk81_35 g2 kk) ?_
        refine cR_stI (j := 1) lk81_36 (Or.inr ⟨_, rfl, rfl⟩) (by decide) (fun vq29 gq30 kq31 => ?_)
        have gq32 := kq31 0 _ (by decide) (fun _ => rfl) g0
        have gq33 := kq31 2 _ (by decide) (fun e => absurd e (by decide)) g2
        exact k_Machine_dropOldestSession_b37_ok hp0 hL hF hKK g vq29 σ l0 l2 l2 bl0 gq32 gq30 gq33 _ h
def k_Machine_dropOldestSession_b0 (F : Nat)  (σ : CS) (l0 : Nat) : Option (CS) :=
  k_Machine_dropOldestSession_b4 F  F σ l0 ((0 : Int32)) ((1 : Int32))
set_option maxRecDepth 4000 in
theorem k_Machine_dropOldestSession_b0_ok {E : CE} {pF : Nat → List Value → xH → Option (Option Value × xH)} (hp0 : xNPc pF) (hL : lcAll E pF) (hF : lcF pF) {d : Nat} {F : Nat}   : ∀ (g : CG) (lv : xL) (σ : CS) (l0 : Nat), (cob σ 10 l0) → (xg lv 0 = some (.ref (coa E 10 l0))) → ∀ res, k_Machine_dropOldestSession_b0 F  σ l0 = some res → cR E cQ1 pF (d + 0) kT81 10 4 none none res g σ (0, lv, []) := by
  intro g lv σ l0 bl0 g0 res h
  unfold k_Machine_dropOldestSession_b0 at h
  refine cR_lift (fun _ _ kk => eE_iconst (v := 0) lk81_0 (by decide) kk) ?_
  refine cR_stI (j := 1) lk81_1 (Or.inr ⟨_, rfl, rfl⟩) (by decide) (fun vq34 gq35 kq36 => ?_)
  have gq37 := kq36 0 _ (by decide) (fun _ => rfl) g0
  refine cR_lift (fun _ _ kk => eE_iconst (v := 1) lk81_2 (by decide) kk) ?_
  refine cR_stI (j := 2) lk81_3 (Or.inr ⟨_, rfl, rfl⟩) (by decide) (fun vq38 gq39 kq40 => ?_)
  have gq41 := kq40 0 _ (by decide) (fun e => absurd e (by decide)) gq37
  have gq42 := kq40 1 _ (by decide) (fun _ => rfl) gq35
  exact k_Machine_dropOldestSession_b4_ok hp0 hL hF  F g vq38 σ l0 ((0 : Int32)) ((1 : Int32)) bl0 gq41 gq42 gq39 _ h
def k_Machine_dropOldestSession (F : Nat) (σ : CS) (l0 : Nat) : Option (CS) := k_Machine_dropOldestSession_b0 F σ l0
theorem k_Machine_dropOldestSession_ok {E : CE} {pF : Nat → List Value → xH → Option (Option Value × xH)} (hp0 : xNPc pF) (hL : lcAll E pF) (hF : lcF pF) {d : Nat} {g : CG} {σ : CS} {F : Nat} {l0 : Nat} {res : CS} (bl0 : cob σ 10 l0) (h : k_Machine_dropOldestSession F σ l0 = some res) : cCo E cQ1 pF (d + 1) 81 [.ref (coa E 10 l0)] none res g σ :=
  cCo_R kk_81 mo_81 ni_81 xm_81 (Nat.le_of_ble_eq_true rfl) (hp0 81 (by decide) _) (k_Machine_dropOldestSession_b0_ok hp0 hL hF g _ σ l0 bl0 rfl _ h)
/-! k_Machine_findSession (82), depth 1 -/
def k_Machine_findSession_b2 (F : Nat)  : Nat → CS → Nat → Int32 → Int32 → Option (Int32)
  | 0, _, _, _, _ => none
  | n + 1, σ, l0, l1, l2 =>
    let KK := k_Machine_findSession_b2 F  n
    if xc2 .ge l2 (cI σ 10 l0 1 0) = true then (
      some ((-1 : Int32))
    ) else (
      (crd σ 10 l0 2 (l2 * ((5 : Int32)))).bind fun x2 =>
      if xc2 .ne x2 l1 = true then (
        KK σ l0 l1 (l2 + (1 : Int32))
      ) else (
        some l2
      )
    )
set_option maxRecDepth 4000 in
theorem k_Machine_findSession_b2_ok {E : CE} {pF : Nat → List Value → xH → Option (Option Value × xH)} (hp0 : xNPc pF) (hL : lcAll E pF) (hF : lcF pF) {d : Nat} {F : Nat}   : ∀ (n : Nat) (g : CG) (lv : xL) (σ : CS) (l0 : Nat) (l1 : Int32) (l2 : Int32), (cob σ 10 l0) → (xg lv 0 = some (.ref (coa E 10 l0))) → (xg lv 1 = some (.int l1)) → (xg lv 2 = some (.int l2)) → ∀ res, k_Machine_findSession_b2 F  n σ l0 l1 l2 = some res → cR E cQ1 pF (d + 0) kT82 10 3 (some FieldType.int) (some (.int res)) σ g σ (2, lv, []) := by
  intro n
  induction n with
  | zero => intro g lv σ l0 l1 l2 bl0 g0 g1 g2 res h; simp [k_Machine_findSession_b2] at h
  | succ n hKK =>
    intro g lv σ l0 l1 l2 bl0 g0 g1 g2 res h
    unfold k_Machine_findSession_b2 at h
    dsimp only at h
    refine cR_lift (fun _ _ kk => eE_iload_n lk82_2 g2 kk) ?_
    refine cR_lift (fun _ _ kk => eE_aload_n lk82_3 g0 kk) ?_
    refine cR_getI lk82_4 rf_10_41 rfl bl0 ?_
    refine cR_icmp (t := 30) lk82_7 (by decide) (fun c1 => ?_) (fun c1 => ?_)
    · rw [if_pos c1] at h
      refine cR_lift (fun _ _ kk => eE_iconst (v := (-1)) lk82_30 (by decide) kk) ?_
      cases h
      exact cR_end lk82_31 rfl rfl rfl
    · rw [if_neg c1] at h
      refine cR_lift (fun _ _ kk => eE_aload_n lk82_10 g0 kk) ?_
      refine cR_getA lk82_11 rf_10_11 (by decide) bl0 ?_
      refine cR_lift (fun _ _ kk => eE_iload_n lk82_14 g2 kk) ?_
      refine cR_lift (fun _ _ kk => eE_iconst (v := 5) lk82_15 (by decide) kk) ?_
      refine cR_lift (fun _ _ kk => eE_imul lk82_16 kk) ?_
      obtain ⟨x2, h3, h⟩ := Option.bind_eq_some_iff.mp h
      refine cR_iald (cl := 10) (i := l0) (f := 2) lk82_17 (by decide) rfl bl0 h3 ?_
      refine cR_lift (fun _ _ kk => eE_iload_n lk82_18 g1 kk) ?_
      refine cR_icmp (t := 24) lk82_19 (by decide) (fun c4 => ?_) (fun c4 => ?_)
      · rw [if_pos c4] at h
        refine cR_inc (j := 2) (v := l2 + (1 : Int32)) lk82_24 g2 rfl (by decide) (fun vq5 gq6 kq7 => ?_)
        have gq8 := kq7 0 _ (by decide) (fun e => absurd e (by decide)) g0
        have gq9 := kq7 1 _ (by decide) (fun _ => rfl) g1
        refine cR_lift (fun _ _ kk => eE_goto (t := 2) lk82_27 (by decide) kk) ?_
        exact hKK g vq5 σ l0 l1 (l2 + (1 : Int32)) bl0 gq8 gq9 gq6 _ h
      · rw [if_neg c4] at h
        refine cR_lift (fun _ _ kk => eE_iload_n lk82_22 g2 kk) ?_
        cases h
        exact cR_end lk82_23 rfl rfl rfl
def k_Machine_findSession_b0 (F : Nat)  (σ : CS) (l0 : Nat) (l1 : Int32) : Option (Int32) :=
  k_Machine_findSession_b2 F  F σ l0 l1 ((0 : Int32))
set_option maxRecDepth 4000 in
theorem k_Machine_findSession_b0_ok {E : CE} {pF : Nat → List Value → xH → Option (Option Value × xH)} (hp0 : xNPc pF) (hL : lcAll E pF) (hF : lcF pF) {d : Nat} {F : Nat}   : ∀ (g : CG) (lv : xL) (σ : CS) (l0 : Nat) (l1 : Int32), (cob σ 10 l0) → (xg lv 0 = some (.ref (coa E 10 l0))) → (xg lv 1 = some (.int l1)) → ∀ res, k_Machine_findSession_b0 F  σ l0 l1 = some res → cR E cQ1 pF (d + 0) kT82 10 3 (some FieldType.int) (some (.int res)) σ g σ (0, lv, []) := by
  intro g lv σ l0 l1 bl0 g0 g1 res h
  unfold k_Machine_findSession_b0 at h
  refine cR_lift (fun _ _ kk => eE_iconst (v := 0) lk82_0 (by decide) kk) ?_
  refine cR_stI (j := 2) lk82_1 (Or.inr ⟨_, rfl, rfl⟩) (by decide) (fun vq10 gq11 kq12 => ?_)
  have gq13 := kq12 0 _ (by decide) (fun e => absurd e (by decide)) g0
  have gq14 := kq12 1 _ (by decide) (fun _ => rfl) g1
  exact k_Machine_findSession_b2_ok hp0 hL hF  F g vq10 σ l0 l1 ((0 : Int32)) bl0 gq13 gq14 gq11 _ h
def k_Machine_findSession (F : Nat) (σ : CS) (l0 : Nat) (l1 : Int32) : Option (Int32) := k_Machine_findSession_b0 F σ l0 l1
theorem k_Machine_findSession_ok {E : CE} {pF : Nat → List Value → xH → Option (Option Value × xH)} (hp0 : xNPc pF) (hL : lcAll E pF) (hF : lcF pF) {d : Nat} {g : CG} {σ : CS} {F : Nat} {l0 : Nat} {l1 : Int32} {res : Int32} (bl0 : cob σ 10 l0) (h : k_Machine_findSession F σ l0 l1 = some res) : cCo E cQ1 pF (d + 1) 82 [.ref (coa E 10 l0), .int l1] (some (.int res)) σ g σ :=
  cCo_R kk_82 mo_82 ni_82 xm_82 (Nat.le_of_ble_eq_true rfl) (hp0 82 (by decide) _) (k_Machine_findSession_b0_ok hp0 hL hF g _ σ l0 l1 bl0 rfl rfl _ h)
/-! k_Machine_hasValue (83), depth 1 -/
def k_Machine_hasValue_b24 (F : Nat)  : Nat → CS → Nat → Int32 → Int32 → Int32 → Int32 → Option (Int32)
  | 0, _, _, _, _, _, _ => none
  | n + 1, σ, l0, l2, l3, l4, l5 =>
    let KK := k_Machine_hasValue_b24 F  n
    if xc2 .ge l5 l3 = true then (
      if ((1 : Int32)) = 0 ∨ ((1 : Int32)) = 1 then some ((1 : Int32)) else none
    ) else (
      (crd σ 10 l0 9 (((l4 * ((132 : Int32))) + ((32 : Int32))) + l5)).bind fun x3 =>
      (crd σ 4 0 3 (l2 + l5)).bind fun x5 =>
      if xc2 .eq x3 x5 = true then (
        KK σ l0 l2 l3 l4 (l5 + (1 : Int32))
      ) else (
        if ((0 : Int32)) = 0 ∨ ((0 : Int32)) = 1 then some ((0 : Int32)) else none
      )
    )
set_option maxRecDepth 4000 in
theorem k_Machine_hasValue_b24_ok {E : CE} {pF : Nat → List Value → xH → Option (Option Value × xH)} (hp0 : xNPc pF) (hL : lcAll E pF) (hF : lcF pF) {d : Nat} {F : Nat}   : ∀ (n : Nat) (g : CG) (lv : xL) (σ : CS) (l0 : Nat) (l2 : Int32) (l3 : Int32) (l4 : Int32) (l5 : Int32), (cob σ 10 l0) → (xg lv 0 = some (.ref (coa E 10 l0))) → (xg lv 2 = some (.int l2)) → (xg lv 3 = some (.int l3)) → (xg lv 4 = some (.int l4)) → (xg lv 5 = some (.int l5)) → ∀ res, k_Machine_hasValue_b24 F  n σ l0 l2 l3 l4 l5 = some res → cR E cQ1 pF (d + 0) kT83 10 6 (some FieldType.boolean) (some (.int res)) σ g σ (24, lv, []) := by
  intro n
  induction n with
  | zero => intro g lv σ l0 l2 l3 l4 l5 bl0 g0 g2 g3 g4 g5 res h; simp [k_Machine_hasValue_b24] at h
  | succ n hKK =>
    intro g lv σ l0 l2 l3 l4 l5 bl0 g0 g2 g3 g4 g5 res h
    unfold k_Machine_hasValue_b24 at h
    dsimp only at h
    refine cR_lift (fun _ _ kk => eE_iload lk83_24 g5 kk) ?_
    refine cR_lift (fun _ _ kk => eE_iload_n lk83_26 g3 kk) ?_
    refine cR_icmp (t := 70) lk83_27 (by decide) (fun c1 => ?_) (fun c1 => ?_)
    · rw [if_pos c1] at h
      refine cR_lift (fun _ _ kk => eE_iconst (v := 1) lk83_70 (by decide) kk) ?_
      by_cases z2 : ((1 : Int32)) = 0 ∨ ((1 : Int32)) = 1
      · rw [if_pos z2] at h; cases h
        exact cR_end lk83_71 rfl rfl (by first | (simp only [xfin, if_true, if_pos z2]; done) | simp [xfin, z2])
      · rw [if_neg z2] at h; cases h
    · rw [if_neg c1] at h
      refine cR_lift (fun _ _ kk => eE_aload_n lk83_30 g0 kk) ?_
      refine cR_getA lk83_31 rf_10_28 (by decide) bl0 ?_
      refine cR_lift (fun _ _ kk => eE_iload lk83_34 g4 kk) ?_
      refine cR_lift (fun _ _ kk => eE_sipush (v := 132) lk83_36 (by decide) kk) ?_
      refine cR_lift (fun _ _ kk => eE_imul lk83_39 kk) ?_
      refine cR_lift (fun _ _ kk => eE_bipush (v := 32) lk83_40 (by decide) kk) ?_
      refine cR_lift (fun _ _ kk => eE_iadd lk83_42 kk) ?_
      refine cR_lift (fun _ _ kk => eE_iload lk83_43 g5 kk) ?_
      refine cR_lift (fun _ _ kk => eE_iadd lk83_45 kk) ?_
      obtain ⟨x3, h4, h⟩ := Option.bind_eq_some_iff.mp h
      refine cR_bald (cl := 10) (i := l0) (f := 9) lk83_46 (by decide) (Or.inl rfl) bl0 h4 ?_
      refine cR_lift (fun _ _ kk => eE_aload_n lk83_47 g0 kk) ?_
      refine cR_getO (cl' := 4) (i' := 0) lk83_48 rf_10_37 rfl rfl bl0 ?_
      refine cR_getA lk83_51 rf_10_139 (by decide) (cob_0 (c := σ) (cl := 4) (by decide) rfl rfl) ?_
      refine cR_lift (fun _ _ kk => eE_iload_n lk83_54 g2 kk) ?_
      refine cR_lift (fun _ _ kk => eE_iload lk83_55 g5 kk) ?_
      refine cR_lift (fun _ _ kk => eE_iadd lk83_57 kk) ?_
      obtain ⟨x5, h6, h⟩ := Option.bind_eq_some_iff.mp h
      refine cR_bald (cl := 4) (i := 0) (f := 3) lk83_58 (by decide) (Or.inl rfl) (cob_0 (c := σ) (cl := 4) (by decide) rfl rfl) h6 ?_
      refine cR_icmp (t := 64) lk83_59 (by decide) (fun c7 => ?_) (fun c7 => ?_)
      · rw [if_pos c7] at h
        refine cR_inc (j := 5) (v := l5 + (1 : Int32)) lk83_64 g5 rfl (by decide) (fun vq8 gq9 kq10 => ?_)
        have gq11 := kq10 0 _ (by decide) (fun e => absurd e (by decide)) g0
        have gq12 := kq10 2 _ (by decide) (fun e => absurd e (by decide)) g2
        have gq13 := kq10 3 _ (by decide) (fun e => absurd e (by decide)) g3
        have gq14 := kq10 4 _ (by decide) (fun _ => rfl) g4
        refine cR_lift (fun _ _ kk => eE_goto (t := 24) lk83_67 (by decide) kk) ?_
        exact hKK g vq8 σ l0 l2 l3 l4 (l5 + (1 : Int32)) bl0 gq11 gq12 gq13 gq14 gq9 _ h
      · rw [if_neg c7] at h
        refine cR_lift (fun _ _ kk => eE_iconst (v := 0) lk83_62 (by decide) kk) ?_
        by_cases z15 : ((0 : Int32)) = 0 ∨ ((0 : Int32)) = 1
        · rw [if_pos z15] at h; cases h
          exact cR_end lk83_63 rfl rfl (by first | (simp only [xfin, if_true, if_pos z15]; done) | simp [xfin, z15])
        · rw [if_neg z15] at h; cases h
def k_Machine_hasValue_b0 (F : Nat)  (σ : CS) (l0 : Nat) (l1 : Int32) (l2 : Int32) (l3 : Int32) : Option (Int32) :=
  (crd σ 10 l0 6 l1).bind fun x16 =>
  (crd σ 10 l0 8 x16).bind fun x24 =>
  if xc2 .eq x24 l3 = true then (
    k_Machine_hasValue_b24 F  F σ l0 l2 l3 x16 ((0 : Int32))
  ) else (
    if ((0 : Int32)) = 0 ∨ ((0 : Int32)) = 1 then some ((0 : Int32)) else none
  )
set_option maxRecDepth 4000 in
theorem k_Machine_hasValue_b0_ok {E : CE} {pF : Nat → List Value → xH → Option (Option Value × xH)} (hp0 : xNPc pF) (hL : lcAll E pF) (hF : lcF pF) {d : Nat} {F : Nat}   : ∀ (g : CG) (lv : xL) (σ : CS) (l0 : Nat) (l1 : Int32) (l2 : Int32) (l3 : Int32), (cob σ 10 l0) → (xg lv 0 = some (.ref (coa E 10 l0))) → (xg lv 1 = some (.int l1)) → (xg lv 2 = some (.int l2)) → (xg lv 3 = some (.int l3)) → ∀ res, k_Machine_hasValue_b0 F  σ l0 l1 l2 l3 = some res → cR E cQ1 pF (d + 0) kT83 10 6 (some FieldType.boolean) (some (.int res)) σ g σ (0, lv, []) := by
  intro g lv σ l0 l1 l2 l3 bl0 g0 g1 g2 g3 res h
  unfold k_Machine_hasValue_b0 at h
  refine cR_lift (fun _ _ kk => eE_aload_n lk83_0 g0 kk) ?_
  refine cR_getA lk83_1 rf_10_19 (by decide) bl0 ?_
  refine cR_lift (fun _ _ kk => eE_iload_n lk83_4 g1 kk) ?_
  obtain ⟨x16, h17, h⟩ := Option.bind_eq_some_iff.mp h
  refine cR_iald (cl := 10) (i := l0) (f := 6) lk83_5 (by decide) rfl bl0 h17 ?_
  refine cR_stI (j := 4) lk83_6 (Or.inl rfl) (by decide) (fun vq18 gq19 kq20 => ?_)
  have gq21 := kq20 0 _ (by decide) (fun e => absurd e (by decide)) g0
  have gq22 := kq20 2 _ (by decide) (fun e => absurd e (by decide)) g2
  have gq23 := kq20 3 _ (by decide) (fun _ => rfl) g3
  refine cR_lift (fun _ _ kk => eE_aload_n lk83_8 gq21 kk) ?_
  refine cR_getA lk83_9 rf_10_25 (by decide) bl0 ?_
  refine cR_lift (fun _ _ kk => eE_iload lk83_12 gq19 kk) ?_
  obtain ⟨x24, h25, h⟩ := Option.bind_eq_some_iff.mp h
  refine cR_iald (cl := 10) (i := l0) (f := 8) lk83_14 (by decide) rfl bl0 h25 ?_
  refine cR_lift (fun _ _ kk => eE_iload_n lk83_15 gq23 kk) ?_
  refine cR_icmp (t := 21) lk83_16 (by decide) (fun c26 => ?_) (fun c26 => ?_)
  · rw [if_pos c26] at h
    refine cR_lift (fun _ _ kk => eE_iconst (v := 0) lk83_21 (by decide) kk) ?_
    refine cR_stI (j := 5) lk83_22 (Or.inl rfl) (by decide) (fun vq27 gq28 kq29 => ?_)
    have gq30 := kq29 0 _ (by decide) (fun e => absurd e (by decide)) gq21
    have gq31 := kq29 2 _ (by decide) (fun e => absurd e (by decide)) gq22
    have gq32 := kq29 3 _ (by decide) (fun e => absurd e (by decide)) gq23
    have gq33 := kq29 4 _ (by decide) (fun _ => rfl) gq19
    exact k_Machine_hasValue_b24_ok hp0 hL hF  F g vq27 σ l0 l2 l3 x16 ((0 : Int32)) bl0 gq30 gq31 gq32 gq33 gq28 _ h
  · rw [if_neg c26] at h
    refine cR_lift (fun _ _ kk => eE_iconst (v := 0) lk83_19 (by decide) kk) ?_
    by_cases z34 : ((0 : Int32)) = 0 ∨ ((0 : Int32)) = 1
    · rw [if_pos z34] at h; cases h
      exact cR_end lk83_20 rfl rfl (by first | (simp only [xfin, if_true, if_pos z34]; done) | simp [xfin, z34])
    · rw [if_neg z34] at h; cases h
def k_Machine_hasValue (F : Nat) (σ : CS) (l0 : Nat) (l1 : Int32) (l2 : Int32) (l3 : Int32) : Option (Int32) := k_Machine_hasValue_b0 F σ l0 l1 l2 l3
theorem k_Machine_hasValue_ok {E : CE} {pF : Nat → List Value → xH → Option (Option Value × xH)} (hp0 : xNPc pF) (hL : lcAll E pF) (hF : lcF pF) {d : Nat} {g : CG} {σ : CS} {F : Nat} {l0 : Nat} {l1 : Int32} {l2 : Int32} {l3 : Int32} {res : Int32} (bl0 : cob σ 10 l0) (h : k_Machine_hasValue F σ l0 l1 l2 l3 = some res) : cCo E cQ1 pF (d + 1) 83 [.ref (coa E 10 l0), .int l1, .int l2, .int l3] (some (.int res)) σ g σ :=
  cCo_R kk_83 mo_83 ni_83 xm_83 (Nat.le_of_ble_eq_true rfl) (hp0 83 (by decide) _) (k_Machine_hasValue_b0_ok hp0 hL hF g _ σ l0 l1 l2 l3 bl0 rfl rfl rfl rfl _ h)
/-! k_Machine_unitsOf (104), depth 1 -/
def k_Machine_unitsOf_b0  (σ : CS) (l0 : Nat) (l1 : Int32) : Option (Int32) :=
  (crd σ 10 l0 6 l1).bind fun x1 =>
  (crd σ 10 l0 7 x1).bind fun x7 =>
  (crd σ 10 l0 8 x1).bind fun x9 =>
  if ((16 : Int32)) = 0 then none else
  some (((x7 + x9) + ((15 : Int32))) / ((16 : Int32)))
set_option maxRecDepth 4000 in
theorem k_Machine_unitsOf_b0_ok {E : CE} {pF : Nat → List Value → xH → Option (Option Value × xH)} (hp0 : xNPc pF) (hL : lcAll E pF) (hF : lcF pF) {d : Nat}   : ∀ (g : CG) (lv : xL) (σ : CS) (l0 : Nat) (l1 : Int32), (cob σ 10 l0) → (xg lv 0 = some (.ref (coa E 10 l0))) → (xg lv 1 = some (.int l1)) → ∀ res, k_Machine_unitsOf_b0  σ l0 l1 = some res → cR E cQ1 pF (d + 0) kT104 10 3 (some FieldType.int) (some (.int res)) σ g σ (0, lv, []) := by
  intro g lv σ l0 l1 bl0 g0 g1 res h
  unfold k_Machine_unitsOf_b0 at h
  refine cR_lift (fun _ _ kk => eE_aload_n lk104_0 g0 kk) ?_
  refine cR_getA lk104_1 rf_10_19 (by decide) bl0 ?_
  refine cR_lift (fun _ _ kk => eE_iload_n lk104_4 g1 kk) ?_
  obtain ⟨x1, h2, h⟩ := Option.bind_eq_some_iff.mp h
  refine cR_iald (cl := 10) (i := l0) (f := 6) lk104_5 (by decide) rfl bl0 h2 ?_
  refine cR_stI (j := 2) lk104_6 (Or.inr ⟨_, rfl, rfl⟩) (by decide) (fun vq3 gq4 kq5 => ?_)
  have gq6 := kq5 0 _ (by decide) (fun e => absurd e (by decide)) g0
  refine cR_lift (fun _ _ kk => eE_aload_n lk104_7 gq6 kk) ?_
  refine cR_getA lk104_8 rf_10_22 (by decide) bl0 ?_
  refine cR_lift (fun _ _ kk => eE_iload_n lk104_11 gq4 kk) ?_
  obtain ⟨x7, h8, h⟩ := Option.bind_eq_some_iff.mp h
  refine cR_iald (cl := 10) (i := l0) (f := 7) lk104_12 (by decide) rfl bl0 h8 ?_
  refine cR_lift (fun _ _ kk => eE_aload_n lk104_13 gq6 kk) ?_
  refine cR_getA lk104_14 rf_10_25 (by decide) bl0 ?_
  refine cR_lift (fun _ _ kk => eE_iload_n lk104_17 gq4 kk) ?_
  obtain ⟨x9, h10, h⟩ := Option.bind_eq_some_iff.mp h
  refine cR_iald (cl := 10) (i := l0) (f := 8) lk104_18 (by decide) rfl bl0 h10 ?_
  refine cR_lift (fun _ _ kk => eE_iadd lk104_19 kk) ?_
  refine cR_lift (fun _ _ kk => eE_bipush (v := 15) lk104_20 (by decide) kk) ?_
  refine cR_lift (fun _ _ kk => eE_iadd lk104_22 kk) ?_
  refine cR_lift (fun _ _ kk => eE_bipush (v := 16) lk104_23 (by decide) kk) ?_
  by_cases z11 : ((16 : Int32)) = 0
  · rw [if_pos z11] at h; cases h
  rw [if_neg z11] at h
  refine cR_lift (fun _ _ kk => eE_idiv lk104_25 z11 kk) ?_
  cases h
  exact cR_end lk104_26 rfl rfl rfl
def k_Machine_unitsOf (σ : CS) (l0 : Nat) (l1 : Int32) : Option (Int32) := k_Machine_unitsOf_b0 σ l0 l1
theorem k_Machine_unitsOf_ok {E : CE} {pF : Nat → List Value → xH → Option (Option Value × xH)} (hp0 : xNPc pF) (hL : lcAll E pF) (hF : lcF pF) {d : Nat} {g : CG} {σ : CS} {l0 : Nat} {l1 : Int32} {res : Int32} (bl0 : cob σ 10 l0) (h : k_Machine_unitsOf σ l0 l1 = some res) : cCo E cQ1 pF (d + 1) 104 [.ref (coa E 10 l0), .int l1] (some (.int res)) σ g σ :=
  cCo_R kk_104 mo_104 ni_104 xm_104 (Nat.le_of_ble_eq_true rfl) (hp0 104 (by decide) _) (k_Machine_unitsOf_b0_ok hp0 hL hF g _ σ l0 l1 bl0 rfl rfl _ h)
/-! k_Machine_insertKey (85), depth 2 -/
def k_Machine_insertKey_b0  (σ : CS) (l0 : Nat) (l1 : Int32) (l2 : Int32) (l3 : Int32) : Option (CS) :=
  (crd σ 10 l0 6 (cI σ 10 l0 4 0)).bind fun x1 =>
  (ccpy σ 10 l0 6 l1 10 l0 6 (l1 + ((1 : Int32))) ((cI σ 10 l0 4 0) - l1)).bind fun σ10 =>
  (cwr σ10 10 l0 6 l1 x1).bind fun σ12 =>
  (some (csI σ12 10 l0 4 0 ((cI σ12 10 l0 4 0) + ((1 : Int32))))).bind fun σ14 =>
  (cwr σ14 10 l0 7 x1 l3).bind fun σ16 =>
  (cwr σ16 10 l0 8 x1 ((0 : Int32))).bind fun σ18 =>
  (ccpy σ18 4 0 3 l2 10 l0 9 (x1 * ((132 : Int32))) l3).bind fun σ20 =>
  (k_Machine_unitsOf σ20 l0 l1).bind fun p22 =>
  (some (csI σ20 10 l0 5 0 ((cI σ20 10 l0 5 0) + p22))).bind fun σ25 =>
  some σ25
set_option maxRecDepth 4000 in
theorem k_Machine_insertKey_b0_ok {E : CE} {pF : Nat → List Value → xH → Option (Option Value × xH)} (hp0 : xNPc pF) (hL : lcAll E pF) (hF : lcF pF) {d : Nat}   : ∀ (g : CG) (lv : xL) (σ : CS) (l0 : Nat) (l1 : Int32) (l2 : Int32) (l3 : Int32), (cob σ 10 l0) → (xg lv 0 = some (.ref (coa E 10 l0))) → (xg lv 1 = some (.int l1)) → (xg lv 2 = some (.int l2)) → (xg lv 3 = some (.int l3)) → ∀ res, k_Machine_insertKey_b0  σ l0 l1 l2 l3 = some res → cR E cQ1 pF (d + 1) kT85 10 5 none none res g σ (0, lv, []) := by
  intro g lv σ l0 l1 l2 l3 bl0 g0 g1 g2 g3 res h
  unfold k_Machine_insertKey_b0 at h
  refine cR_lift (fun _ _ kk => eE_aload_n lk85_0 g0 kk) ?_
  refine cR_getA lk85_1 rf_10_19 (by decide) bl0 ?_
  refine cR_lift (fun _ _ kk => eE_aload_n lk85_4 g0 kk) ?_
  refine cR_getI lk85_5 rf_10_45 rfl bl0 ?_
  obtain ⟨x1, h2, h⟩ := Option.bind_eq_some_iff.mp h
  refine cR_iald (cl := 10) (i := l0) (f := 6) lk85_8 (by decide) rfl bl0 h2 ?_
  refine cR_stI (j := 4) lk85_9 (Or.inl rfl) (by decide) (fun vq3 gq4 kq5 => ?_)
  have gq6 := kq5 0 _ (by decide) (fun e => absurd e (by decide)) g0
  have gq7 := kq5 1 _ (by decide) (fun e => absurd e (by decide)) g1
  have gq8 := kq5 2 _ (by decide) (fun e => absurd e (by decide)) g2
  have gq9 := kq5 3 _ (by decide) (fun _ => rfl) g3
  refine cR_lift (fun _ _ kk => eE_aload_n lk85_11 gq6 kk) ?_
  refine cR_getA lk85_12 rf_10_19 (by decide) bl0 ?_
  refine cR_lift (fun _ _ kk => eE_iload_n lk85_15 gq7 kk) ?_
  refine cR_lift (fun _ _ kk => eE_aload_n lk85_16 gq6 kk) ?_
  refine cR_getA lk85_17 rf_10_19 (by decide) bl0 ?_
  refine cR_lift (fun _ _ kk => eE_iload_n lk85_20 gq7 kk) ?_
  refine cR_lift (fun _ _ kk => eE_iconst (v := 1) lk85_21 (by decide) kk) ?_
  refine cR_lift (fun _ _ kk => eE_iadd lk85_22 kk) ?_
  refine cR_lift (fun _ _ kk => eE_aload_n lk85_23 gq6 kk) ?_
  refine cR_getI lk85_24 rf_10_45 rfl bl0 ?_
  refine cR_lift (fun _ _ kk => eE_iload_n lk85_27 gq7 kk) ?_
  refine cR_lift (fun _ _ kk => eE_isub lk85_28 kk) ?_
  obtain ⟨σ10, h11, h⟩ := Option.bind_eq_some_iff.mp h
  refine cR_cpy (a := 10) (i := l0) (f := 6) (a' := 10) (i' := l0) (f' := 6) lk85_29 yc_10_68.1 yc_10_68.2 (by decide) (by decide) (by decide) bl0 bl0 (by first | exact Nat.le_of_ble_eq_true rfl | (simp [xcat, cvo_cat, cat_i, cat_j, cat_r]; done)) h11 ?_
  refine cR_lift (fun _ _ kk => eE_aload_n lk85_32 gq6 kk) ?_
  refine cR_getA lk85_33 rf_10_19 (by decide) (cob_any rfl bl0) ?_
  refine cR_lift (fun _ _ kk => eE_iload_n lk85_36 gq7 kk) ?_
  refine cR_lift (fun _ _ kk => eE_iload lk85_37 gq4 kk) ?_
  obtain ⟨σ12, h13, h⟩ := Option.bind_eq_some_iff.mp h
  refine cR_iast (cl := 10) (i := l0) (f := 6) lk85_39 (by decide) rfl (cob_any rfl bl0) h13 ?_
  refine cR_lift (fun _ _ kk => eE_aload_n lk85_40 gq6 kk) ?_
  refine cR_lift (fun _ _ kk => eE_dup lk85_41 rfl kk) ?_
  refine cR_getI lk85_42 rf_10_45 rfl (cob_any rfl bl0) ?_
  refine cR_lift (fun _ _ kk => eE_iconst (v := 1) lk85_45 (by decide) kk) ?_
  refine cR_lift (fun _ _ kk => eE_iadd lk85_46 kk) ?_
  obtain ⟨σ14, h15, h⟩ := Option.bind_eq_some_iff.mp h
  refine cR_putI lk85_47 rf_10_45 rfl (cob_any rfl bl0) pf_10_4 rfl h15 ?_
  refine cR_lift (fun _ _ kk => eE_aload_n lk85_50 gq6 kk) ?_
  refine cR_getA lk85_51 rf_10_22 (by decide) (cob_any rfl bl0) ?_
  refine cR_lift (fun _ _ kk => eE_iload lk85_54 gq4 kk) ?_
  refine cR_lift (fun _ _ kk => eE_iload_n lk85_56 gq9 kk) ?_
  obtain ⟨σ16, h17, h⟩ := Option.bind_eq_some_iff.mp h
  refine cR_iast (cl := 10) (i := l0) (f := 7) lk85_57 (by decide) rfl (cob_any rfl bl0) h17 ?_
  refine cR_lift (fun _ _ kk => eE_aload_n lk85_58 gq6 kk) ?_
  refine cR_getA lk85_59 rf_10_25 (by decide) (cob_any rfl bl0) ?_
  refine cR_lift (fun _ _ kk => eE_iload lk85_62 gq4 kk) ?_
  refine cR_lift (fun _ _ kk => eE_iconst (v := 0) lk85_64 (by decide) kk) ?_
  obtain ⟨σ18, h19, h⟩ := Option.bind_eq_some_iff.mp h
  refine cR_iast (cl := 10) (i := l0) (f := 8) lk85_65 (by decide) rfl (cob_any rfl bl0) h19 ?_
  refine cR_lift (fun _ _ kk => eE_aload_n lk85_66 gq6 kk) ?_
  refine cR_getO (cl' := 4) (i' := 0) lk85_67 rf_10_37 rfl rfl (cob_any rfl bl0) ?_
  refine cR_getA lk85_70 rf_10_139 (by decide) (cob_0 (c := σ18) (cl := 4) (by decide) rfl rfl) ?_
  refine cR_lift (fun _ _ kk => eE_iload_n lk85_73 gq8 kk) ?_
  refine cR_lift (fun _ _ kk => eE_aload_n lk85_74 gq6 kk) ?_
  refine cR_getA lk85_75 rf_10_28 (by decide) (cob_any rfl bl0) ?_
  refine cR_lift (fun _ _ kk => eE_iload lk85_78 gq4 kk) ?_
  refine cR_lift (fun _ _ kk => eE_sipush (v := 132) lk85_80 (by decide) kk) ?_
  refine cR_lift (fun _ _ kk => eE_imul lk85_83 kk) ?_
  refine cR_lift (fun _ _ kk => eE_iload_n lk85_84 gq9 kk) ?_
  obtain ⟨σ20, h21, h⟩ := Option.bind_eq_some_iff.mp h
  refine cR_cpy (a := 4) (i := 0) (f := 3) (a' := 10) (i' := l0) (f' := 9) lk85_85 yc_10_68.1 yc_10_68.2 (by decide) (by decide) (by decide) (cob_0 (c := σ18) (cl := 4) (by decide) rfl rfl) (cob_any rfl bl0) (by first | exact Nat.le_of_ble_eq_true rfl | (simp [xcat, cvo_cat, cat_i, cat_j, cat_r]; done)) h21 ?_
  refine cR_lift (fun _ _ kk => eE_aload_n lk85_88 gq6 kk) ?_
  refine cR_lift (fun _ _ kk => eE_dup lk85_89 rfl kk) ?_
  refine cR_getI lk85_90 rf_10_48 rfl (cob_any rfl bl0) ?_
  refine cR_lift (fun _ _ kk => eE_aload_n lk85_93 gq6 kk) ?_
  refine cR_lift (fun _ _ kk => eE_iload_n lk85_94 gq7 kk) ?_
  obtain ⟨p22, h23, h⟩ := Option.bind_eq_some_iff.mp h
  refine cR_virt (cl := 10) (i := l0) (as := [.int l1]) lk85_95 mr_10_124 na_104 rfl rfl (by first | exact Nat.le_of_ble_eq_true rfl | (simp [xcat, cvo_cat, cat_i, cat_j, cat_r]; done)) wv_104 wc_104 (cob_any rfl bl0) (k_Machine_unitsOf_ok hp0 hL hF (d := d + 0) (cob_any rfl bl0) h23) (fun m24  => ?_)
  refine cR_lift (fun _ _ kk => eE_iadd lk85_98 kk) ?_
  obtain ⟨σ25, h26, h⟩ := Option.bind_eq_some_iff.mp h
  refine cR_putI lk85_99 rf_10_48 rfl (cob_any rfl bl0) pf_10_5 rfl h26 ?_
  cases h
  exact cR_end lk85_102 rfl rfl rfl
def k_Machine_insertKey (σ : CS) (l0 : Nat) (l1 : Int32) (l2 : Int32) (l3 : Int32) : Option (CS) := k_Machine_insertKey_b0 σ l0 l1 l2 l3
theorem k_Machine_insertKey_ok {E : CE} {pF : Nat → List Value → xH → Option (Option Value × xH)} (hp0 : xNPc pF) (hL : lcAll E pF) (hF : lcF pF) {d : Nat} {g : CG} {σ : CS} {l0 : Nat} {l1 : Int32} {l2 : Int32} {l3 : Int32} {res : CS} (bl0 : cob σ 10 l0) (h : k_Machine_insertKey σ l0 l1 l2 l3 = some res) : cCo E cQ1 pF (d + 2) 85 [.ref (coa E 10 l0), .int l1, .int l2, .int l3] none res g σ :=
  cCo_R kk_85 mo_85 ni_85 xm_85 (Nat.le_of_ble_eq_true rfl) (hp0 85 (by decide) _) (k_Machine_insertKey_b0_ok hp0 hL hF g _ σ l0 l1 l2 l3 bl0 rfl rfl rfl rfl _ h)
/-! k_Machine_isKey (86), depth 2 -/
def k_Machine_isKey_b28 (F : Nat)  (σ : CS) (s0 : Int32) : Option (Int32) :=
  if s0 = 0 ∨ s0 = 1 then some s0 else none
set_option maxRecDepth 4000 in
theorem k_Machine_isKey_b28_ok {E : CE} {pF : Nat → List Value → xH → Option (Option Value × xH)} (hp0 : xNPc pF) (hL : lcAll E pF) (hF : lcF pF) {d : Nat} {F : Nat}   : ∀ (g : CG) (lv : xL) (σ : CS) (s0 : Int32), ∀ res, k_Machine_isKey_b28 F  σ s0 = some res → cR E cQ1 pF (d + 1) kT86 10 4 (some FieldType.boolean) (some (.int res)) σ g σ (28, lv, [.int s0]) := by
  intro g lv σ s0 res h
  unfold k_Machine_isKey_b28 at h
  by_cases z1 : s0 = 0 ∨ s0 = 1
  · rw [if_pos z1] at h; cases h
    exact cR_end lk86_28 rfl rfl (by first | (simp only [xfin, if_true, if_pos z1]; done) | simp [xfin, z1])
  · rw [if_neg z1] at h; cases h
def k_Machine_isKey_b27 (F : Nat)  (σ : CS) : Option (Int32) :=
  k_Machine_isKey_b28 F  σ ((0 : Int32))
set_option maxRecDepth 4000 in
theorem k_Machine_isKey_b27_ok {E : CE} {pF : Nat → List Value → xH → Option (Option Value × xH)} (hp0 : xNPc pF) (hL : lcAll E pF) (hF : lcF pF) {d : Nat} {F : Nat}   : ∀ (g : CG) (lv : xL) (σ : CS), ∀ res, k_Machine_isKey_b27 F  σ = some res → cR E cQ1 pF (d + 1) kT86 10 4 (some FieldType.boolean) (some (.int res)) σ g σ (27, lv, []) := by
  intro g lv σ res h
  unfold k_Machine_isKey_b27 at h
  refine cR_lift (fun _ _ kk => eE_iconst (v := 0) lk86_27 (by decide) kk) ?_
  exact k_Machine_isKey_b28_ok hp0 hL hF  g lv σ ((0 : Int32))  _ h
def k_Machine_isKey_b0 (F : Nat)  (σ : CS) (l0 : Nat) (l1 : Int32) (l2 : Int32) (l3 : Int32) : Option (Int32) :=
  if xc2 .ge l1 (cI σ 10 l0 4 0) = true then (
    k_Machine_isKey_b27 F  σ
  ) else (
    (crd σ 10 l0 6 l1).bind fun x3 =>
    (k_Machine_compare F σ l0 x3 l2 l3).bind fun p5 =>
    if xc0 .ne p5 = true then (
      k_Machine_isKey_b27 F  σ
    ) else (
      k_Machine_isKey_b28 F  σ ((1 : Int32))
    )
  )
set_option maxRecDepth 4000 in
theorem k_Machine_isKey_b0_ok {E : CE} {pF : Nat → List Value → xH → Option (Option Value × xH)} (hp0 : xNPc pF) (hL : lcAll E pF) (hF : lcF pF) {d : Nat} {F : Nat}   : ∀ (g : CG) (lv : xL) (σ : CS) (l0 : Nat) (l1 : Int32) (l2 : Int32) (l3 : Int32), (cob σ 10 l0) → (xg lv 0 = some (.ref (coa E 10 l0))) → (xg lv 1 = some (.int l1)) → (xg lv 2 = some (.int l2)) → (xg lv 3 = some (.int l3)) → ∀ res, k_Machine_isKey_b0 F  σ l0 l1 l2 l3 = some res → cR E cQ1 pF (d + 1) kT86 10 4 (some FieldType.boolean) (some (.int res)) σ g σ (0, lv, []) := by
  intro g lv σ l0 l1 l2 l3 bl0 g0 g1 g2 g3 res h
  unfold k_Machine_isKey_b0 at h
  refine cR_lift (fun _ _ kk => eE_iload_n lk86_0 g1 kk) ?_
  refine cR_lift (fun _ _ kk => eE_aload_n lk86_1 g0 kk) ?_
  refine cR_getI lk86_2 rf_10_45 rfl bl0 ?_
  refine cR_icmp (t := 27) lk86_5 (by decide) (fun c2 => ?_) (fun c2 => ?_)
  · rw [if_pos c2] at h
    exact k_Machine_isKey_b27_ok hp0 hL hF  g lv σ  _ h
  · rw [if_neg c2] at h
    refine cR_lift (fun _ _ kk => eE_aload_n lk86_8 g0 kk) ?_
    refine cR_lift (fun _ _ kk => eE_aload_n lk86_9 g0 kk) ?_
    refine cR_getA lk86_10 rf_10_19 (by decide) bl0 ?_
    refine cR_lift (fun _ _ kk => eE_iload_n lk86_13 g1 kk) ?_
    obtain ⟨x3, h4, h⟩ := Option.bind_eq_some_iff.mp h
    refine cR_iald (cl := 10) (i := l0) (f := 6) lk86_14 (by decide) rfl bl0 h4 ?_
    refine cR_lift (fun _ _ kk => eE_iload_n lk86_15 g2 kk) ?_
    refine cR_lift (fun _ _ kk => eE_iload_n lk86_16 g3 kk) ?_
    obtain ⟨p5, h6, h⟩ := Option.bind_eq_some_iff.mp h
    refine cR_virt (cl := 10) (i := l0) (as := [.int x3, .int l2, .int l3]) lk86_17 mr_10_135 na_78 rfl rfl (by first | exact Nat.le_of_ble_eq_true rfl | (simp [xcat, cvo_cat, cat_i, cat_j, cat_r]; done)) wv_78 wc_78 bl0 (k_Machine_compare_ok hp0 hL hF (d := d + 0) bl0 h6) (fun m7  => ?_)
    refine cR_if (t := 27) lk86_20 (by decide) (fun c8 => ?_) (fun c8 => ?_)
    · rw [if_pos c8] at h
      exact k_Machine_isKey_b27_ok hp0 hL hF  g lv σ  _ h
    · rw [if_neg c8] at h
      refine cR_lift (fun _ _ kk => eE_iconst (v := 1) lk86_23 (by decide) kk) ?_
      refine cR_lift (fun _ _ kk => eE_goto (t := 28) lk86_24 (by decide) kk) ?_
      exact k_Machine_isKey_b28_ok hp0 hL hF  g lv σ ((1 : Int32))  _ h
def k_Machine_isKey (F : Nat) (σ : CS) (l0 : Nat) (l1 : Int32) (l2 : Int32) (l3 : Int32) : Option (Int32) := k_Machine_isKey_b0 F σ l0 l1 l2 l3
theorem k_Machine_isKey_ok {E : CE} {pF : Nat → List Value → xH → Option (Option Value × xH)} (hp0 : xNPc pF) (hL : lcAll E pF) (hF : lcF pF) {d : Nat} {g : CG} {σ : CS} {F : Nat} {l0 : Nat} {l1 : Int32} {l2 : Int32} {l3 : Int32} {res : Int32} (bl0 : cob σ 10 l0) (h : k_Machine_isKey F σ l0 l1 l2 l3 = some res) : cCo E cQ1 pF (d + 2) 86 [.ref (coa E 10 l0), .int l1, .int l2, .int l3] (some (.int res)) σ g σ :=
  cCo_R kk_86 mo_86 ni_86 xm_86 (Nat.le_of_ble_eq_true rfl) (hp0 86 (by decide) _) (k_Machine_isKey_b0_ok hp0 hL hF g _ σ l0 l1 l2 l3 bl0 rfl rfl rfl rfl _ h)
/-! k_Machine_lowerBound (90), depth 2 -/
def k_Machine_lowerBound_b50 (F : Nat) (K8 : CS → Nat → Int32 → Int32 → Int32 → Int32 → Option (Int32)) (σ : CS) (l0 : Nat) (l1 : Int32) (l2 : Int32) (l3 : Int32) (l4 : Int32) : Option (Int32) :=
  K8 σ l0 l1 l2 l3 l4
set_option maxRecDepth 4000 in
theorem k_Machine_lowerBound_b50_ok {E : CE} {pF : Nat → List Value → xH → Option (Option Value × xH)} (hp0 : xNPc pF) (hL : lcAll E pF) (hF : lcF pF) {d : Nat} {F : Nat} {K8 : CS → Nat → Int32 → Int32 → Int32 → Int32 → Option (Int32)} (hK8 : ∀ (g : CG) (lv : xL) (σ : CS) (l0 : Nat) (l1 : Int32) (l2 : Int32) (l3 : Int32) (l4 : Int32), (cob σ 10 l0) → (xg lv 0 = some (.ref (coa E 10 l0))) → (xg lv 1 = some (.int l1)) → (xg lv 2 = some (.int l2)) → (xg lv 3 = some (.int l3)) → (xg lv 4 = some (.int l4)) → ∀ res, K8 σ l0 l1 l2 l3 l4 = some res → cR E cQ1 pF (d + 1) kT90 10 6 (some FieldType.int) (some (.int res)) σ g σ (8, lv, [])) : ∀ (g : CG) (lv : xL) (σ : CS) (l0 : Nat) (l1 : Int32) (l2 : Int32) (l3 : Int32) (l4 : Int32), (cob σ 10 l0) → (xg lv 0 = some (.ref (coa E 10 l0))) → (xg lv 1 = some (.int l1)) → (xg lv 2 = some (.int l2)) → (xg lv 3 = some (.int l3)) → (xg lv 4 = some (.int l4)) → ∀ res, k_Machine_lowerBound_b50 F K8 σ l0 l1 l2 l3 l4 = some res → cR E cQ1 pF (d + 1) kT90 10 6 (some FieldType.int) (some (.int res)) σ g σ (50, lv, []) := by
  intro g lv σ l0 l1 l2 l3 l4 bl0 g0 g1 g2 g3 g4 res h
  unfold k_Machine_lowerBound_b50 at h
  refine cR_lift (fun _ _ kk => eE_goto (t := 8) lk90_50 (by decide) kk) ?_
  exact hK8 g lv σ l0 l1 l2 l3 l4 bl0 g0 g1 g2 g3 g4 _ h
def k_Machine_lowerBound_b8 (F : Nat)  : Nat → CS → Nat → Int32 → Int32 → Int32 → Int32 → Option (Int32)
  | 0, _, _, _, _, _, _ => none
  | n + 1, σ, l0, l1, l2, l3, l4 =>
    let KK := k_Machine_lowerBound_b8 F  n
    if xc2 .ge l3 l4 = true then (
      some l3
    ) else (
      if ((2 : Int32)) = 0 then none else
      (crd σ 10 l0 6 ((l3 + l4) / ((2 : Int32)))).bind fun x11 =>
      (k_Machine_compare F σ l0 x11 l1 l2).bind fun p13 =>
      if xc0 .ge p13 = true then (
        k_Machine_lowerBound_b50 F KK σ l0 l1 l2 l3 ((l3 + l4) / ((2 : Int32)))
      ) else (
        k_Machine_lowerBound_b50 F KK σ l0 l1 l2 (((l3 + l4) / ((2 : Int32))) + ((1 : Int32))) l4
      )
    )
set_option maxRecDepth 4000 in
theorem k_Machine_lowerBound_b8_ok {E : CE} {pF : Nat → List Value → xH → Option (Option Value × xH)} (hp0 : xNPc pF) (hL : lcAll E pF) (hF : lcF pF) {d : Nat} {F : Nat}   : ∀ (n : Nat) (g : CG) (lv : xL) (σ : CS) (l0 : Nat) (l1 : Int32) (l2 : Int32) (l3 : Int32) (l4 : Int32), (cob σ 10 l0) → (xg lv 0 = some (.ref (coa E 10 l0))) → (xg lv 1 = some (.int l1)) → (xg lv 2 = some (.int l2)) → (xg lv 3 = some (.int l3)) → (xg lv 4 = some (.int l4)) → ∀ res, k_Machine_lowerBound_b8 F  n σ l0 l1 l2 l3 l4 = some res → cR E cQ1 pF (d + 1) kT90 10 6 (some FieldType.int) (some (.int res)) σ g σ (8, lv, []) := by
  intro n
  induction n with
  | zero => intro g lv σ l0 l1 l2 l3 l4 bl0 g0 g1 g2 g3 g4 res h; simp [k_Machine_lowerBound_b8] at h
  | succ n hKK =>
    intro g lv σ l0 l1 l2 l3 l4 bl0 g0 g1 g2 g3 g4 res h
    unfold k_Machine_lowerBound_b8 at h
    dsimp only at h
    refine cR_lift (fun _ _ kk => eE_iload_n lk90_8 g3 kk) ?_
    refine cR_lift (fun _ _ kk => eE_iload lk90_9 g4 kk) ?_
    refine cR_icmp (t := 53) lk90_11 (by decide) (fun c1 => ?_) (fun c1 => ?_)
    · rw [if_pos c1] at h
      refine cR_lift (fun _ _ kk => eE_iload_n lk90_53 g3 kk) ?_
      cases h
      exact cR_end lk90_54 rfl rfl rfl
    · rw [if_neg c1] at h
      refine cR_lift (fun _ _ kk => eE_iload_n lk90_14 g3 kk) ?_
      refine cR_lift (fun _ _ kk => eE_iload lk90_15 g4 kk) ?_
      refine cR_lift (fun _ _ kk => eE_iadd lk90_17 kk) ?_
      refine cR_lift (fun _ _ kk => eE_iconst (v := 2) lk90_18 (by decide) kk) ?_
      by_cases z2 : ((2 : Int32)) = 0
      · rw [if_pos z2] at h; cases h
      rw [if_neg z2] at h
      refine cR_lift (fun _ _ kk => eE_idiv lk90_19 z2 kk) ?_
      refine cR_stI (j := 5) lk90_20 (Or.inl rfl) (by decide) (fun vq3 gq4 kq5 => ?_)
      have gq6 := kq5 0 _ (by decide) (fun e => absurd e (by decide)) g0
      have gq7 := kq5 1 _ (by decide) (fun e => absurd e (by decide)) g1
      have gq8 := kq5 2 _ (by decide) (fun e => absurd e (by decide)) g2
      have gq9 := kq5 3 _ (by decide) (fun e => absurd e (by decide)) g3
      have gq10 := kq5 4 _ (by decide) (fun _ => rfl) g4
      refine cR_lift (fun _ _ kk => eE_aload_n lk90_22 gq6 kk) ?_
      refine cR_lift (fun _ _ kk => eE_aload_n lk90_23 gq6 kk) ?_
      refine cR_getA lk90_24 rf_10_19 (by decide) bl0 ?_
      refine cR_lift (fun _ _ kk => eE_iload lk90_27 gq4 kk) ?_
      obtain ⟨x11, h12, h⟩ := Option.bind_eq_some_iff.mp h
      refine cR_iald (cl := 10) (i := l0) (f := 6) lk90_29 (by decide) rfl bl0 h12 ?_
      refine cR_lift (fun _ _ kk => eE_iload_n lk90_30 gq7 kk) ?_
      refine cR_lift (fun _ _ kk => eE_iload_n lk90_31 gq8 kk) ?_
      obtain ⟨p13, h14, h⟩ := Option.bind_eq_some_iff.mp h
      refine cR_virt (cl := 10) (i := l0) (as := [.int x11, .int l1, .int l2]) lk90_32 mr_10_135 na_78 rfl rfl (by first | exact Nat.le_of_ble_eq_true rfl | (simp [xcat, cvo_cat, cat_i, cat_j, cat_r]; done)) wv_78 wc_78 bl0 (k_Machine_compare_ok hp0 hL hF (d := d + 0) bl0 h14) (fun m15  => ?_)
      refine cR_if (t := 46) lk90_35 (by decide) (fun c16 => ?_) (fun c16 => ?_)
      · rw [if_pos c16] at h
        refine cR_lift (fun _ _ kk => eE_iload lk90_46 gq4 kk) ?_
        refine cR_stI (j := 4) lk90_48 (Or.inl rfl) (by decide) (fun vq17 gq18 kq19 => ?_)
        have gq20 := kq19 0 _ (by decide) (fun e => absurd e (by decide)) gq6
        have gq21 := kq19 1 _ (by decide) (fun e => absurd e (by decide)) gq7
        have gq22 := kq19 2 _ (by decide) (fun e => absurd e (by decide)) gq8
        have gq23 := kq19 3 _ (by decide) (fun _ => rfl) gq9
        exact k_Machine_lowerBound_b50_ok hp0 hL hF hKK g vq17 σ l0 l1 l2 l3 ((l3 + l4) / ((2 : Int32))) bl0 gq20 gq21 gq22 gq23 gq18 _ h
      · rw [if_neg c16] at h
        refine cR_lift (fun _ _ kk => eE_iload lk90_38 gq4 kk) ?_
        refine cR_lift (fun _ _ kk => eE_iconst (v := 1) lk90_40 (by decide) kk) ?_
        refine cR_lift (fun _ _ kk => eE_iadd lk90_41 kk) ?_
        refine cR_stI (j := 3) lk90_42 (Or.inr ⟨_, rfl, rfl⟩) (by decide) (fun vq24 gq25 kq26 => ?_)
        have gq27 := kq26 0 _ (by decide) (fun e => absurd e (by decide)) gq6
        have gq28 := kq26 1 _ (by decide) (fun e => absurd e (by decide)) gq7
        have gq29 := kq26 2 _ (by decide) (fun _ => rfl) gq8
        have gq30 := kq26 4 _ (by decide) (fun e => absurd e (by decide)) gq10
        refine cR_lift (fun _ _ kk => eE_goto (t := 50) lk90_43 (by decide) kk) ?_
        exact k_Machine_lowerBound_b50_ok hp0 hL hF hKK g vq24 σ l0 l1 l2 (((l3 + l4) / ((2 : Int32))) + ((1 : Int32))) l4 bl0 gq27 gq28 gq29 gq25 gq30 _ h
def k_Machine_lowerBound_b0 (F : Nat)  (σ : CS) (l0 : Nat) (l1 : Int32) (l2 : Int32) : Option (Int32) :=
  k_Machine_lowerBound_b8 F  F σ l0 l1 l2 ((0 : Int32)) (cI σ 10 l0 4 0)
set_option maxRecDepth 4000 in
theorem k_Machine_lowerBound_b0_ok {E : CE} {pF : Nat → List Value → xH → Option (Option Value × xH)} (hp0 : xNPc pF) (hL : lcAll E pF) (hF : lcF pF) {d : Nat} {F : Nat}   : ∀ (g : CG) (lv : xL) (σ : CS) (l0 : Nat) (l1 : Int32) (l2 : Int32), (cob σ 10 l0) → (xg lv 0 = some (.ref (coa E 10 l0))) → (xg lv 1 = some (.int l1)) → (xg lv 2 = some (.int l2)) → ∀ res, k_Machine_lowerBound_b0 F  σ l0 l1 l2 = some res → cR E cQ1 pF (d + 1) kT90 10 6 (some FieldType.int) (some (.int res)) σ g σ (0, lv, []) := by
  intro g lv σ l0 l1 l2 bl0 g0 g1 g2 res h
  unfold k_Machine_lowerBound_b0 at h
  refine cR_lift (fun _ _ kk => eE_iconst (v := 0) lk90_0 (by decide) kk) ?_
  refine cR_stI (j := 3) lk90_1 (Or.inr ⟨_, rfl, rfl⟩) (by decide) (fun vq31 gq32 kq33 => ?_)
  have gq34 := kq33 0 _ (by decide) (fun e => absurd e (by decide)) g0
  have gq35 := kq33 1 _ (by decide) (fun e => absurd e (by decide)) g1
  have gq36 := kq33 2 _ (by decide) (fun _ => rfl) g2
  refine cR_lift (fun _ _ kk => eE_aload_n lk90_2 gq34 kk) ?_
  refine cR_getI lk90_3 rf_10_45 rfl bl0 ?_
  refine cR_stI (j := 4) lk90_6 (Or.inl rfl) (by decide) (fun vq37 gq38 kq39 => ?_)
  have gq40 := kq39 0 _ (by decide) (fun e => absurd e (by decide)) gq34
  have gq41 := kq39 1 _ (by decide) (fun e => absurd e (by decide)) gq35
  have gq42 := kq39 2 _ (by decide) (fun e => absurd e (by decide)) gq36
  have gq43 := kq39 3 _ (by decide) (fun _ => rfl) gq32
  exact k_Machine_lowerBound_b8_ok hp0 hL hF  F g vq37 σ l0 l1 l2 ((0 : Int32)) (cI σ 10 l0 4 0) bl0 gq40 gq41 gq42 gq43 gq38 _ h
def k_Machine_lowerBound (F : Nat) (σ : CS) (l0 : Nat) (l1 : Int32) (l2 : Int32) : Option (Int32) := k_Machine_lowerBound_b0 F σ l0 l1 l2
theorem k_Machine_lowerBound_ok {E : CE} {pF : Nat → List Value → xH → Option (Option Value × xH)} (hp0 : xNPc pF) (hL : lcAll E pF) (hF : lcF pF) {d : Nat} {g : CG} {σ : CS} {F : Nat} {l0 : Nat} {l1 : Int32} {l2 : Int32} {res : Int32} (bl0 : cob σ 10 l0) (h : k_Machine_lowerBound F σ l0 l1 l2 = some res) : cCo E cQ1 pF (d + 2) 90 [.ref (coa E 10 l0), .int l1, .int l2] (some (.int res)) σ g σ :=
  cCo_R kk_90 mo_90 ni_90 xm_90 (Nat.le_of_ble_eq_true rfl) (hp0 90 (by decide) _) (k_Machine_lowerBound_b0_ok hp0 hL hF g _ σ l0 l1 l2 bl0 rfl rfl rfl _ h)
/-! k_Machine_say (100), depth 1 -/
def k_Machine_say_b73  (σ : CS) : Option (CS) :=
  some σ
set_option maxRecDepth 4000 in
theorem k_Machine_say_b73_ok {E : CE} {pF : Nat → List Value → xH → Option (Option Value × xH)} (hp0 : xNPc pF) (hL : lcAll E pF) (hF : lcF pF) {d : Nat}   : ∀ (g : CG) (lv : xL) (σ : CS), ∀ res, k_Machine_say_b73  σ = some res → cR E cQ1 pF (d + 0) kT100 10 4 none none res g σ (73, lv, []) := by
  intro g lv σ res h
  unfold k_Machine_say_b73 at h
  cases h
  exact cR_end lk100_73 rfl rfl rfl
def k_Machine_say_b0  (σ : CS) (l0 : Nat) (l1 : Int32) (l2 : Int32) : Option (CS) :=
  (cwr σ 10 l0 10 ((0 : Int32)) ((l1.toInt8.toInt32).toInt8.toInt32)).bind fun σ1 =>
  (some (csI σ1 10 l0 11 0 ((1 : Int32)))).bind fun σ3 =>
  if xc0 .lt l2 = true then (
    k_Machine_say_b73  σ3
  ) else (
    if xc2 .ge l2 (cI σ3 10 l0 4 0) = true then (
      k_Machine_say_b73  σ3
    ) else (
      (crd σ3 10 l0 6 l2).bind fun x7 =>
      (crd σ3 10 l0 8 x7).bind fun x13 =>
      (ccpy σ3 10 l0 9 ((x7 * ((132 : Int32))) + ((32 : Int32))) 10 l0 10 ((1 : Int32)) x13).bind fun σ15 =>
      (crd σ15 10 l0 8 x7).bind fun x17 =>
      (some (csI σ15 10 l0 11 0 ((cI σ15 10 l0 11 0) + x17))).bind fun σ19 =>
      k_Machine_say_b73  σ19
    )
  )
set_option maxRecDepth 4000 in
theorem k_Machine_say_b0_ok {E : CE} {pF : Nat → List Value → xH → Option (Option Value × xH)} (hp0 : xNPc pF) (hL : lcAll E pF) (hF : lcF pF) {d : Nat}   : ∀ (g : CG) (lv : xL) (σ : CS) (l0 : Nat) (l1 : Int32) (l2 : Int32), (cob σ 10 l0) → (xg lv 0 = some (.ref (coa E 10 l0))) → (xg lv 1 = some (.int l1)) → (xg lv 2 = some (.int l2)) → ∀ res, k_Machine_say_b0  σ l0 l1 l2 = some res → cR E cQ1 pF (d + 0) kT100 10 4 none none res g σ (0, lv, []) := by
  intro g lv σ l0 l1 l2 bl0 g0 g1 g2 res h
  unfold k_Machine_say_b0 at h
  refine cR_lift (fun _ _ kk => eE_aload_n lk100_0 g0 kk) ?_
  refine cR_getA lk100_1 rf_10_31 (by decide) bl0 ?_
  refine cR_lift (fun _ _ kk => eE_iconst (v := 0) lk100_4 (by decide) kk) ?_
  refine cR_lift (fun _ _ kk => eE_iload_n lk100_5 g1 kk) ?_
  refine cR_lift (fun _ _ kk => eE_i2b lk100_6 kk) ?_
  obtain ⟨σ1, h2, h⟩ := Option.bind_eq_some_iff.mp h
  refine cR_bast (cl := 10) (i := l0) (f := 10) lk100_7 (by decide) rfl rfl bl0 h2 ?_
  refine cR_lift (fun _ _ kk => eE_aload_n lk100_8 g0 kk) ?_
  refine cR_lift (fun _ _ kk => eE_iconst (v := 1) lk100_9 (by decide) kk) ?_
  obtain ⟨σ3, h4, h⟩ := Option.bind_eq_some_iff.mp h
  refine cR_putI lk100_10 rf_10_57 rfl (cob_any rfl bl0) pf_10_11 rfl h4 ?_
  refine cR_lift (fun _ _ kk => eE_iload_n lk100_13 g2 kk) ?_
  refine cR_if (t := 73) lk100_14 (by decide) (fun c5 => ?_) (fun c5 => ?_)
  · rw [if_pos c5] at h
    exact k_Machine_say_b73_ok hp0 hL hF  g lv σ3  _ h
  · rw [if_neg c5] at h
    refine cR_lift (fun _ _ kk => eE_iload_n lk100_17 g2 kk) ?_
    refine cR_lift (fun _ _ kk => eE_aload_n lk100_18 g0 kk) ?_
    refine cR_getI lk100_19 rf_10_45 rfl (cob_any rfl bl0) ?_
    refine cR_icmp (t := 73) lk100_22 (by decide) (fun c6 => ?_) (fun c6 => ?_)
    · rw [if_pos c6] at h
      exact k_Machine_say_b73_ok hp0 hL hF  g lv σ3  _ h
    · rw [if_neg c6] at h
      refine cR_lift (fun _ _ kk => eE_aload_n lk100_25 g0 kk) ?_
      refine cR_getA lk100_26 rf_10_19 (by decide) (cob_any rfl bl0) ?_
      refine cR_lift (fun _ _ kk => eE_iload_n lk100_29 g2 kk) ?_
      obtain ⟨x7, h8, h⟩ := Option.bind_eq_some_iff.mp h
      refine cR_iald (cl := 10) (i := l0) (f := 6) lk100_30 (by decide) rfl (cob_any rfl bl0) h8 ?_
      refine cR_stI (j := 3) lk100_31 (Or.inr ⟨_, rfl, rfl⟩) (by decide) (fun vq9 gq10 kq11 => ?_)
      have gq12 := kq11 0 _ (by decide) (fun e => absurd e (by decide)) g0
      refine cR_lift (fun _ _ kk => eE_aload_n lk100_32 gq12 kk) ?_
      refine cR_getA lk100_33 rf_10_28 (by decide) (cob_any rfl bl0) ?_
      refine cR_lift (fun _ _ kk => eE_iload_n lk100_36 gq10 kk) ?_
      refine cR_lift (fun _ _ kk => eE_sipush (v := 132) lk100_37 (by decide) kk) ?_
      refine cR_lift (fun _ _ kk => eE_imul lk100_40 kk) ?_
      refine cR_lift (fun _ _ kk => eE_bipush (v := 32) lk100_41 (by decide) kk) ?_
      refine cR_lift (fun _ _ kk => eE_iadd lk100_43 kk) ?_
      refine cR_lift (fun _ _ kk => eE_aload_n lk100_44 gq12 kk) ?_
      refine cR_getA lk100_45 rf_10_31 (by decide) (cob_any rfl bl0) ?_
      refine cR_lift (fun _ _ kk => eE_iconst (v := 1) lk100_48 (by decide) kk) ?_
      refine cR_lift (fun _ _ kk => eE_aload_n lk100_49 gq12 kk) ?_
      refine cR_getA lk100_50 rf_10_25 (by decide) (cob_any rfl bl0) ?_
      refine cR_lift (fun _ _ kk => eE_iload_n lk100_53 gq10 kk) ?_
      obtain ⟨x13, h14, h⟩ := Option.bind_eq_some_iff.mp h
      refine cR_iald (cl := 10) (i := l0) (f := 8) lk100_54 (by decide) rfl (cob_any rfl bl0) h14 ?_
      obtain ⟨σ15, h16, h⟩ := Option.bind_eq_some_iff.mp h
      refine cR_cpy (a := 10) (i := l0) (f := 9) (a' := 10) (i' := l0) (f' := 10) lk100_55 yc_10_68.1 yc_10_68.2 (by decide) (by decide) (by decide) (cob_any rfl bl0) (cob_any rfl bl0) (by first | exact Nat.le_of_ble_eq_true rfl | (simp [xcat, cvo_cat, cat_i, cat_j, cat_r]; done)) h16 ?_
      refine cR_lift (fun _ _ kk => eE_aload_n lk100_58 gq12 kk) ?_
      refine cR_lift (fun _ _ kk => eE_dup lk100_59 rfl kk) ?_
      refine cR_getI lk100_60 rf_10_57 rfl (cob_any rfl bl0) ?_
      refine cR_lift (fun _ _ kk => eE_aload_n lk100_63 gq12 kk) ?_
      refine cR_getA lk100_64 rf_10_25 (by decide) (cob_any rfl bl0) ?_
      refine cR_lift (fun _ _ kk => eE_iload_n lk100_67 gq10 kk) ?_
      obtain ⟨x17, h18, h⟩ := Option.bind_eq_some_iff.mp h
      refine cR_iald (cl := 10) (i := l0) (f := 8) lk100_68 (by decide) rfl (cob_any rfl bl0) h18 ?_
      refine cR_lift (fun _ _ kk => eE_iadd lk100_69 kk) ?_
      obtain ⟨σ19, h20, h⟩ := Option.bind_eq_some_iff.mp h
      refine cR_putI lk100_70 rf_10_57 rfl (cob_any rfl bl0) pf_10_11 rfl h20 ?_
      exact k_Machine_say_b73_ok hp0 hL hF  g vq9 σ19  _ h
def k_Machine_say (σ : CS) (l0 : Nat) (l1 : Int32) (l2 : Int32) : Option (CS) := k_Machine_say_b0 σ l0 l1 l2
theorem k_Machine_say_ok {E : CE} {pF : Nat → List Value → xH → Option (Option Value × xH)} (hp0 : xNPc pF) (hL : lcAll E pF) (hF : lcF pF) {d : Nat} {g : CG} {σ : CS} {l0 : Nat} {l1 : Int32} {l2 : Int32} {res : CS} (bl0 : cob σ 10 l0) (h : k_Machine_say σ l0 l1 l2 = some res) : cCo E cQ1 pF (d + 1) 100 [.ref (coa E 10 l0), .int l1, .int l2] none res g σ :=
  cCo_R kk_100 mo_100 ni_100 xm_100 (Nat.le_of_ble_eq_true rfl) (hp0 100 (by decide) _) (k_Machine_say_b0_ok hp0 hL hF g _ σ l0 l1 l2 bl0 rfl rfl rfl _ h)
/-! k_Machine_sayNext (101), depth 2 -/
def k_Machine_sayNext_b121  (σ : CS) : Option (CS) :=
  some σ
set_option maxRecDepth 4000 in
theorem k_Machine_sayNext_b121_ok {E : CE} {pF : Nat → List Value → xH → Option (Option Value × xH)} (hp0 : xNPc pF) (hL : lcAll E pF) (hF : lcF pF) {d : Nat}   : ∀ (g : CG) (lv : xL) (σ : CS), ∀ res, k_Machine_sayNext_b121  σ = some res → cR E cQ1 pF (d + 1) kT101 10 3 none none res g σ (121, lv, []) := by
  intro g lv σ res h
  unfold k_Machine_sayNext_b121 at h
  cases h
  exact cR_end lk101_121 rfl rfl rfl
def k_Machine_sayNext_b14  (σ : CS) (s0 : Nat) (s1 : Int32) (l0 : Nat) (l1 : Int32) : Option (CS) :=
  (k_Machine_say σ s0 s1 ((-1 : Int32))).bind fun p1 =>
  if xc2 .ge l1 (cI p1 10 l0 4 0) = true then (
    k_Machine_sayNext_b121  p1
  ) else (
    (crd p1 10 l0 6 l1).bind fun x5 =>
    (crd p1 10 l0 7 x5).bind fun x11 =>
    (cwr p1 10 l0 10 ((1 : Int32)) ((x11.toInt8.toInt32).toInt8.toInt32)).bind fun σ13 =>
    (crd σ13 10 l0 7 x5).bind fun x15 =>
    (ccpy σ13 10 l0 9 (x5 * ((132 : Int32))) 10 l0 10 ((2 : Int32)) x15).bind fun σ17 =>
    (crd σ17 10 l0 7 x5).bind fun x19 =>
    (crd σ17 10 l0 8 x5).bind fun x21 =>
    (ccpy σ17 10 l0 9 ((x5 * ((132 : Int32))) + ((32 : Int32))) 10 l0 10 (((2 : Int32)) + x19) x21).bind fun σ23 =>
    (crd σ23 10 l0 7 x5).bind fun x25 =>
    (crd σ23 10 l0 8 x5).bind fun x27 =>
    (some (csI σ23 10 l0 11 0 ((((2 : Int32)) + x25) + x27))).bind fun σ29 =>
    k_Machine_sayNext_b121  σ29
  )
set_option maxRecDepth 4000 in
theorem k_Machine_sayNext_b14_ok {E : CE} {pF : Nat → List Value → xH → Option (Option Value × xH)} (hp0 : xNPc pF) (hL : lcAll E pF) (hF : lcF pF) {d : Nat}   : ∀ (g : CG) (lv : xL) (σ : CS) (s0 : Nat) (s1 : Int32) (l0 : Nat) (l1 : Int32), (cob σ 10 s0) → (cob σ 10 l0) → (xg lv 0 = some (.ref (coa E 10 l0))) → (xg lv 1 = some (.int l1)) → ∀ res, k_Machine_sayNext_b14  σ s0 s1 l0 l1 = some res → cR E cQ1 pF (d + 1) kT101 10 3 none none res g σ (14, lv, [.int s1, .ref (coa E 10 s0)]) := by
  intro g lv σ s0 s1 l0 l1 bs0 bl0 g0 g1 res h
  unfold k_Machine_sayNext_b14 at h
  refine cR_lift (fun _ _ kk => eE_iconst (v := (-1)) lk101_14 (by decide) kk) ?_
  obtain ⟨p1, h2, h⟩ := Option.bind_eq_some_iff.mp h
  refine cR_virt (cl := 10) (i := s0) (as := [.int s1, .int ((-1 : Int32))]) lk101_15 mr_10_112 na_100 rfl rfl (by first | exact Nat.le_of_ble_eq_true rfl | (simp [xcat, cvo_cat, cat_i, cat_j, cat_r]; done)) wv_100 wc_100 bs0 (k_Machine_say_ok hp0 hL hF (d := d + 0) bs0 h2) (fun m3  => ?_)
  refine cR_lift (fun _ _ kk => eE_iload_n lk101_18 g1 kk) ?_
  refine cR_lift (fun _ _ kk => eE_aload_n lk101_19 g0 kk) ?_
  refine cR_getI lk101_20 rf_10_45 rfl (cob_any rfl bl0) ?_
  refine cR_icmp (t := 121) lk101_23 (by decide) (fun c4 => ?_) (fun c4 => ?_)
  · rw [if_pos c4] at h
    exact k_Machine_sayNext_b121_ok hp0 hL hF  g lv p1  _ h
  · rw [if_neg c4] at h
    refine cR_lift (fun _ _ kk => eE_aload_n lk101_26 g0 kk) ?_
    refine cR_getA lk101_27 rf_10_19 (by decide) (cob_any rfl bl0) ?_
    refine cR_lift (fun _ _ kk => eE_iload_n lk101_30 g1 kk) ?_
    obtain ⟨x5, h6, h⟩ := Option.bind_eq_some_iff.mp h
    refine cR_iald (cl := 10) (i := l0) (f := 6) lk101_31 (by decide) rfl (cob_any rfl bl0) h6 ?_
    refine cR_stI (j := 2) lk101_32 (Or.inr ⟨_, rfl, rfl⟩) (by decide) (fun vq7 gq8 kq9 => ?_)
    have gq10 := kq9 0 _ (by decide) (fun e => absurd e (by decide)) g0
    refine cR_lift (fun _ _ kk => eE_aload_n lk101_33 gq10 kk) ?_
    refine cR_getA lk101_34 rf_10_31 (by decide) (cob_any rfl bl0) ?_
    refine cR_lift (fun _ _ kk => eE_iconst (v := 1) lk101_37 (by decide) kk) ?_
    refine cR_lift (fun _ _ kk => eE_aload_n lk101_38 gq10 kk) ?_
    refine cR_getA lk101_39 rf_10_22 (by decide) (cob_any rfl bl0) ?_
    refine cR_lift (fun _ _ kk => eE_iload_n lk101_42 gq8 kk) ?_
    obtain ⟨x11, h12, h⟩ := Option.bind_eq_some_iff.mp h
    refine cR_iald (cl := 10) (i := l0) (f := 7) lk101_43 (by decide) rfl (cob_any rfl bl0) h12 ?_
    refine cR_lift (fun _ _ kk => eE_i2b lk101_44 kk) ?_
    obtain ⟨σ13, h14, h⟩ := Option.bind_eq_some_iff.mp h
    refine cR_bast (cl := 10) (i := l0) (f := 10) lk101_45 (by decide) rfl rfl (cob_any rfl bl0) h14 ?_
    refine cR_lift (fun _ _ kk => eE_aload_n lk101_46 gq10 kk) ?_
    refine cR_getA lk101_47 rf_10_28 (by decide) (cob_any rfl bl0) ?_
    refine cR_lift (fun _ _ kk => eE_iload_n lk101_50 gq8 kk) ?_
    refine cR_lift (fun _ _ kk => eE_sipush (v := 132) lk101_51 (by decide) kk) ?_
    refine cR_lift (fun _ _ kk => eE_imul lk101_54 kk) ?_
    refine cR_lift (fun _ _ kk => eE_aload_n lk101_55 gq10 kk) ?_
    refine cR_getA lk101_56 rf_10_31 (by decide) (cob_any rfl bl0) ?_
    refine cR_lift (fun _ _ kk => eE_iconst (v := 2) lk101_59 (by decide) kk) ?_
    refine cR_lift (fun _ _ kk => eE_aload_n lk101_60 gq10 kk) ?_
    refine cR_getA lk101_61 rf_10_22 (by decide) (cob_any rfl bl0) ?_
    refine cR_lift (fun _ _ kk => eE_iload_n lk101_64 gq8 kk) ?_
    obtain ⟨x15, h16, h⟩ := Option.bind_eq_some_iff.mp h
    refine cR_iald (cl := 10) (i := l0) (f := 7) lk101_65 (by decide) rfl (cob_any rfl bl0) h16 ?_
    obtain ⟨σ17, h18, h⟩ := Option.bind_eq_some_iff.mp h
    refine cR_cpy (a := 10) (i := l0) (f := 9) (a' := 10) (i' := l0) (f' := 10) lk101_66 yc_10_68.1 yc_10_68.2 (by decide) (by decide) (by decide) (cob_any rfl bl0) (cob_any rfl bl0) (by first | exact Nat.le_of_ble_eq_true rfl | (simp [xcat, cvo_cat, cat_i, cat_j, cat_r]; done)) h18 ?_
    refine cR_lift (fun _ _ kk => eE_aload_n lk101_69 gq10 kk) ?_
    refine cR_getA lk101_70 rf_10_28 (by decide) (cob_any rfl bl0) ?_
    refine cR_lift (fun _ _ kk => eE_iload_n lk101_73 gq8 kk) ?_
    refine cR_lift (fun _ _ kk => eE_sipush (v := 132) lk101_74 (by decide) kk) ?_
    refine cR_lift (fun _ _ kk => eE_imul lk101_77 kk) ?_
    refine cR_lift (fun _ _ kk => eE_bipush (v := 32) lk101_78 (by decide) kk) ?_
    refine cR_lift (fun _ _ kk => eE_iadd lk101_80 kk) ?_
    refine cR_lift (fun _ _ kk => eE_aload_n lk101_81 gq10 kk) ?_
    refine cR_getA lk101_82 rf_10_31 (by decide) (cob_any rfl bl0) ?_
    refine cR_lift (fun _ _ kk => eE_iconst (v := 2) lk101_85 (by decide) kk) ?_
    refine cR_lift (fun _ _ kk => eE_aload_n lk101_86 gq10 kk) ?_
    refine cR_getA lk101_87 rf_10_22 (by decide) (cob_any rfl bl0) ?_
    refine cR_lift (fun _ _ kk => eE_iload_n lk101_90 gq8 kk) ?_
    obtain ⟨x19, h20, h⟩ := Option.bind_eq_some_iff.mp h
    refine cR_iald (cl := 10) (i := l0) (f := 7) lk101_91 (by decide) rfl (cob_any rfl bl0) h20 ?_
    refine cR_lift (fun _ _ kk => eE_iadd lk101_92 kk) ?_
    refine cR_lift (fun _ _ kk => eE_aload_n lk101_93 gq10 kk) ?_
    refine cR_getA lk101_94 rf_10_25 (by decide) (cob_any rfl bl0) ?_
    refine cR_lift (fun _ _ kk => eE_iload_n lk101_97 gq8 kk) ?_
    obtain ⟨x21, h22, h⟩ := Option.bind_eq_some_iff.mp h
    refine cR_iald (cl := 10) (i := l0) (f := 8) lk101_98 (by decide) rfl (cob_any rfl bl0) h22 ?_
    obtain ⟨σ23, h24, h⟩ := Option.bind_eq_some_iff.mp h
    refine cR_cpy (a := 10) (i := l0) (f := 9) (a' := 10) (i' := l0) (f' := 10) lk101_99 yc_10_68.1 yc_10_68.2 (by decide) (by decide) (by decide) (cob_any rfl bl0) (cob_any rfl bl0) (by first | exact Nat.le_of_ble_eq_true rfl | (simp [xcat, cvo_cat, cat_i, cat_j, cat_r]; done)) h24 ?_
    refine cR_lift (fun _ _ kk => eE_aload_n lk101_102 gq10 kk) ?_
    refine cR_lift (fun _ _ kk => eE_iconst (v := 2) lk101_103 (by decide) kk) ?_
    refine cR_lift (fun _ _ kk => eE_aload_n lk101_104 gq10 kk) ?_
    refine cR_getA lk101_105 rf_10_22 (by decide) (cob_any rfl bl0) ?_
    refine cR_lift (fun _ _ kk => eE_iload_n lk101_108 gq8 kk) ?_
    obtain ⟨x25, h26, h⟩ := Option.bind_eq_some_iff.mp h
    refine cR_iald (cl := 10) (i := l0) (f := 7) lk101_109 (by decide) rfl (cob_any rfl bl0) h26 ?_
    refine cR_lift (fun _ _ kk => eE_iadd lk101_110 kk) ?_
    refine cR_lift (fun _ _ kk => eE_aload_n lk101_111 gq10 kk) ?_
    refine cR_getA lk101_112 rf_10_25 (by decide) (cob_any rfl bl0) ?_
    refine cR_lift (fun _ _ kk => eE_iload_n lk101_115 gq8 kk) ?_
    obtain ⟨x27, h28, h⟩ := Option.bind_eq_some_iff.mp h
    refine cR_iald (cl := 10) (i := l0) (f := 8) lk101_116 (by decide) rfl (cob_any rfl bl0) h28 ?_
    refine cR_lift (fun _ _ kk => eE_iadd lk101_117 kk) ?_
    obtain ⟨σ29, h30, h⟩ := Option.bind_eq_some_iff.mp h
    refine cR_putI lk101_118 rf_10_57 rfl (cob_any rfl bl0) pf_10_11 rfl h30 ?_
    exact k_Machine_sayNext_b121_ok hp0 hL hF  g vq7 σ29  _ h
def k_Machine_sayNext_b0  (σ : CS) (l0 : Nat) (l1 : Int32) : Option (CS) :=
  if xc2 .ge l1 (cI σ 10 l0 4 0) = true then (
    k_Machine_sayNext_b14  σ l0 ((0 : Int32)) l0 l1
  ) else (
    k_Machine_sayNext_b14  σ l0 ((1 : Int32)) l0 l1
  )
set_option maxRecDepth 4000 in
theorem k_Machine_sayNext_b0_ok {E : CE} {pF : Nat → List Value → xH → Option (Option Value × xH)} (hp0 : xNPc pF) (hL : lcAll E pF) (hF : lcF pF) {d : Nat}   : ∀ (g : CG) (lv : xL) (σ : CS) (l0 : Nat) (l1 : Int32), (cob σ 10 l0) → (xg lv 0 = some (.ref (coa E 10 l0))) → (xg lv 1 = some (.int l1)) → ∀ res, k_Machine_sayNext_b0  σ l0 l1 = some res → cR E cQ1 pF (d + 1) kT101 10 3 none none res g σ (0, lv, []) := by
  intro g lv σ l0 l1 bl0 g0 g1 res h
  unfold k_Machine_sayNext_b0 at h
  refine cR_lift (fun _ _ kk => eE_aload_n lk101_0 g0 kk) ?_
  refine cR_lift (fun _ _ kk => eE_iload_n lk101_1 g1 kk) ?_
  refine cR_lift (fun _ _ kk => eE_aload_n lk101_2 g0 kk) ?_
  refine cR_getI lk101_3 rf_10_45 rfl bl0 ?_
  refine cR_icmp (t := 13) lk101_6 (by decide) (fun c31 => ?_) (fun c31 => ?_)
  · rw [if_pos c31] at h
    refine cR_lift (fun _ _ kk => eE_iconst (v := 0) lk101_13 (by decide) kk) ?_
    exact k_Machine_sayNext_b14_ok hp0 hL hF  g lv σ l0 ((0 : Int32)) l0 l1 bl0 bl0 g0 g1 _ h
  · rw [if_neg c31] at h
    refine cR_lift (fun _ _ kk => eE_iconst (v := 1) lk101_9 (by decide) kk) ?_
    refine cR_lift (fun _ _ kk => eE_goto (t := 14) lk101_10 (by decide) kk) ?_
    exact k_Machine_sayNext_b14_ok hp0 hL hF  g lv σ l0 ((1 : Int32)) l0 l1 bl0 bl0 g0 g1 _ h
def k_Machine_sayNext (σ : CS) (l0 : Nat) (l1 : Int32) : Option (CS) := k_Machine_sayNext_b0 σ l0 l1
theorem k_Machine_sayNext_ok {E : CE} {pF : Nat → List Value → xH → Option (Option Value × xH)} (hp0 : xNPc pF) (hL : lcAll E pF) (hF : lcF pF) {d : Nat} {g : CG} {σ : CS} {l0 : Nat} {l1 : Int32} {res : CS} (bl0 : cob σ 10 l0) (h : k_Machine_sayNext σ l0 l1 = some res) : cCo E cQ1 pF (d + 2) 101 [.ref (coa E 10 l0), .int l1] none res g σ :=
  cCo_R kk_101 mo_101 ni_101 xm_101 (Nat.le_of_ble_eq_true rfl) (hp0 101 (by decide) _) (k_Machine_sayNext_b0_ok hp0 hL hF g _ σ l0 l1 bl0 rfl rfl _ h)
/-! k_Machine_look (89), depth 3 -/
def k_Machine_look_b177 (F : Nat)  (σ : CS) : Option (CS) :=
  some σ
set_option maxRecDepth 4000 in
theorem k_Machine_look_b177_ok {E : CE} {pF : Nat → List Value → xH → Option (Option Value × xH)} (hp0 : xNPc pF) (hL : lcAll E pF) (hF : lcF pF) {d : Nat} {F : Nat}   : ∀ (g : CG) (lv : xL) (σ : CS), ∀ res, k_Machine_look_b177 F  σ = some res → cR E cQ1 pF (d + 2) kT89 10 8 none none res g σ (177, lv, []) := by
  intro g lv σ res h
  unfold k_Machine_look_b177 at h
  cases h
  exact cR_end lk89_177 rfl rfl rfl
def k_Machine_look_b116 (F : Nat)  (σ : CS) (s0 : Nat) (s1 : Int32) (s2 : Int32) : Option (CS) :=
  (k_Machine_say σ s0 s1 s2).bind fun p1 =>
  k_Machine_look_b177 F  p1
set_option maxRecDepth 4000 in
theorem k_Machine_look_b116_ok {E : CE} {pF : Nat → List Value → xH → Option (Option Value × xH)} (hp0 : xNPc pF) (hL : lcAll E pF) (hF : lcF pF) {d : Nat} {F : Nat}   : ∀ (g : CG) (lv : xL) (σ : CS) (s0 : Nat) (s1 : Int32) (s2 : Int32), (cob σ 10 s0) → ∀ res, k_Machine_look_b116 F  σ s0 s1 s2 = some res → cR E cQ1 pF (d + 2) kT89 10 8 none none res g σ (116, lv, [.int s2, .int s1, .ref (coa E 10 s0)]) := by
  intro g lv σ s0 s1 s2 bs0 res h
  unfold k_Machine_look_b116 at h
  obtain ⟨p1, h2, h⟩ := Option.bind_eq_some_iff.mp h
  refine cR_virt (cl := 10) (i := s0) (as := [.int s1, .int s2]) lk89_116 mr_10_112 na_100 rfl rfl (by first | exact Nat.le_of_ble_eq_true rfl | (simp [xcat, cvo_cat, cat_i, cat_j, cat_r]; done)) wv_100 wc_100 bs0 (k_Machine_say_ok hp0 hL hF (d := d + 1) bs0 h2) (fun m3  => ?_)
  refine cR_lift (fun _ _ kk => eE_goto (t := 177) lk89_119 (by decide) kk) ?_
  exact k_Machine_look_b177_ok hp0 hL hF  g lv p1  _ h
def k_Machine_look_b105 (F : Nat)  (σ : CS) (s0 : Nat) (s1 : Int32) (l5 : Int32) (l6 : Int32) : Option (CS) :=
  if xc0 .eq l6 = true then (
    k_Machine_look_b116 F  σ s0 s1 ((-1 : Int32))
  ) else (
    k_Machine_look_b116 F  σ s0 s1 l5
  )
set_option maxRecDepth 4000 in
theorem k_Machine_look_b105_ok {E : CE} {pF : Nat → List Value → xH → Option (Option Value × xH)} (hp0 : xNPc pF) (hL : lcAll E pF) (hF : lcF pF) {d : Nat} {F : Nat}   : ∀ (g : CG) (lv : xL) (σ : CS) (s0 : Nat) (s1 : Int32) (l5 : Int32) (l6 : Int32), (cob σ 10 s0) → (xg lv 5 = some (.int l5)) → (xg lv 6 = some (.int l6)) → ∀ res, k_Machine_look_b105 F  σ s0 s1 l5 l6 = some res → cR E cQ1 pF (d + 2) kT89 10 8 none none res g σ (105, lv, [.int s1, .ref (coa E 10 s0)]) := by
  intro g lv σ s0 s1 l5 l6 bs0 g5 g6 res h
  unfold k_Machine_look_b105 at h
  refine cR_lift (fun _ _ kk => eE_iload lk89_105 g6 kk) ?_
  refine cR_if (t := 115) lk89_107 (by decide) (fun c4 => ?_) (fun c4 => ?_)
  · rw [if_pos c4] at h
    refine cR_lift (fun _ _ kk => eE_iconst (v := (-1)) lk89_115 (by decide) kk) ?_
    exact k_Machine_look_b116_ok hp0 hL hF  g lv σ s0 s1 ((-1 : Int32)) bs0 _ h
  · rw [if_neg c4] at h
    refine cR_lift (fun _ _ kk => eE_iload lk89_110 g5 kk) ?_
    refine cR_lift (fun _ _ kk => eE_goto (t := 116) lk89_112 (by decide) kk) ?_
    exact k_Machine_look_b116_ok hp0 hL hF  g lv σ s0 s1 l5 bs0 _ h
def k_Machine_look_b0 (F : Nat)  (σ : CS) (l0 : Nat) (l1 : Int32) : Option (CS) :=
  (some (csI σ 10 l0 11 0 ((0 : Int32)))).bind fun σ5 =>
  (k_Askings_tell σ5 0 l1 ((6 : Int32))).bind fun p7 =>
  (k_Askings_tell σ5 0 l1 ((7 : Int32))).bind fun p15 =>
  (k_Askings_tell σ5 0 l1 ((9 : Int32))).bind fun p24 =>
  (k_Machine_lowerBound F σ5 l0 p7 p15).bind fun p34 =>
  (k_Askings_tell σ5 0 l1 ((1 : Int32))).bind fun p45 =>
  if p45 = (3 : Int32) then (
    (k_Machine_isKey F σ5 l0 p34 p7 p15).bind fun p49 =>
    if xc0 .eq p49 = true then (
      k_Machine_look_b105 F  σ5 l0 ((0 : Int32)) p34 p49
    ) else (
      k_Machine_look_b105 F  σ5 l0 ((1 : Int32)) p34 p49
    )
  ) else (
  if p45 = (4 : Int32) then (
    (k_Machine_lowerBound F σ5 l0 (p7 + p15) (p24 - p15)).bind fun p59 =>
    (k_Machine_say σ5 l0 ((cmax ((0 : Int32)) (p59 - p34)) &&& ((255 : Int32))) ((-1 : Int32))).bind fun p66 =>
    (cwr p66 10 l0 10 ((1 : Int32)) ((((cmax ((0 : Int32)) (p59 - p34)) >>> (((8 : Int32)) &&& 31)).toInt8.toInt32).toInt8.toInt32)).bind fun σ69 =>
    (some (csI σ69 10 l0 11 0 ((2 : Int32)))).bind fun σ71 =>
    k_Machine_look_b177 F  σ71
  ) else (
    (k_Machine_sayNext σ5 l0 p34).bind fun p73 =>
    k_Machine_look_b177 F  p73
  )
  )
set_option maxRecDepth 4000 in
theorem k_Machine_look_b0_ok {E : CE} {pF : Nat → List Value → xH → Option (Option Value × xH)} (hp0 : xNPc pF) (hL : lcAll E pF) (hF : lcF pF) {d : Nat} {F : Nat}   : ∀ (g : CG) (lv : xL) (σ : CS) (l0 : Nat) (l1 : Int32), (cob σ 10 l0) → (xg lv 0 = some (.ref (coa E 10 l0))) → (xg lv 1 = some (.int l1)) → ∀ res, k_Machine_look_b0 F  σ l0 l1 = some res → cR E cQ1 pF (d + 2) kT89 10 8 none none res g σ (0, lv, []) := by
  intro g lv σ l0 l1 bl0 g0 g1 res h
  unfold k_Machine_look_b0 at h
  refine cR_lift (fun _ _ kk => eE_aload_n lk89_0 g0 kk) ?_
  refine cR_lift (fun _ _ kk => eE_iconst (v := 0) lk89_1 (by decide) kk) ?_
  obtain ⟨σ5, h6, h⟩ := Option.bind_eq_some_iff.mp h
  refine cR_putI lk89_2 rf_10_57 rfl bl0 pf_10_11 rfl h6 ?_
  refine cR_lift (fun _ _ kk => eE_aload_n lk89_5 g0 kk) ?_
  refine cR_getO (cl' := 4) (i' := 0) lk89_6 rf_10_37 rfl rfl (cob_any rfl bl0) ?_
  refine cR_lift (fun _ _ kk => eE_iload_n lk89_9 g1 kk) ?_
  refine cR_lift (fun _ _ kk => eE_bipush (v := 6) lk89_10 (by decide) kk) ?_
  obtain ⟨p7, h8, h⟩ := Option.bind_eq_some_iff.mp h
  refine cR_virt (cl := 4) (i := 0) (as := [.int l1, .int ((6 : Int32))]) lk89_12 mr_10_76 na_19 rfl rfl (by first | exact Nat.le_of_ble_eq_true rfl | (simp [xcat, cvo_cat, cat_i, cat_j, cat_r]; done)) wv_19 wc_19 (cob_0 (c := σ5) (cl := 4) (by decide) rfl rfl) (k_Askings_tell_ok hp0 hL hF (d := d + 1) (cob_0 (c := σ5) (cl := 4) (by decide) rfl rfl) h8) (fun m9  => ?_)
  refine cR_stI (j := 2) lk89_15 (Or.inr ⟨_, rfl, rfl⟩) (by decide) (fun vq10 gq11 kq12 => ?_)
  have gq13 := kq12 0 _ (by decide) (fun e => absurd e (by decide)) g0
  have gq14 := kq12 1 _ (by decide) (fun _ => rfl) g1
  refine cR_lift (fun _ _ kk => eE_aload_n lk89_16 gq13 kk) ?_
  refine cR_getO (cl' := 4) (i' := 0) lk89_17 rf_10_37 rfl rfl (cob_any rfl bl0) ?_
  refine cR_lift (fun _ _ kk => eE_iload_n lk89_20 gq14 kk) ?_
  refine cR_lift (fun _ _ kk => eE_bipush (v := 7) lk89_21 (by decide) kk) ?_
  obtain ⟨p15, h16, h⟩ := Option.bind_eq_some_iff.mp h
  refine cR_virt (cl := 4) (i := 0) (as := [.int l1, .int ((7 : Int32))]) lk89_23 mr_10_76 na_19 rfl rfl (by first | exact Nat.le_of_ble_eq_true rfl | (simp [xcat, cvo_cat, cat_i, cat_j, cat_r]; done)) wv_19 wc_19 (cob_0 (c := σ5) (cl := 4) (by decide) rfl rfl) (k_Askings_tell_ok hp0 hL hF (d := d + 1) (cob_0 (c := σ5) (cl := 4) (by decide) rfl rfl) h16) (fun m17  => ?_)
  refine cR_stI (j := 3) lk89_26 (Or.inr ⟨_, rfl, rfl⟩) (by decide) (fun vq18 gq19 kq20 => ?_)
  have gq21 := kq20 0 _ (by decide) (fun e => absurd e (by decide)) gq13
  have gq22 := kq20 1 _ (by decide) (fun e => absurd e (by decide)) gq14
  have gq23 := kq20 2 _ (by decide) (fun _ => rfl) gq11
  refine cR_lift (fun _ _ kk => eE_aload_n lk89_27 gq21 kk) ?_
  refine cR_getO (cl' := 4) (i' := 0) lk89_28 rf_10_37 rfl rfl (cob_any rfl bl0) ?_
  refine cR_lift (fun _ _ kk => eE_iload_n lk89_31 gq22 kk) ?_
  refine cR_lift (fun _ _ kk => eE_bipush (v := 9) lk89_32 (by decide) kk) ?_
  obtain ⟨p24, h25, h⟩ := Option.bind_eq_some_iff.mp h
  refine cR_virt (cl := 4) (i := 0) (as := [.int l1, .int ((9 : Int32))]) lk89_34 mr_10_76 na_19 rfl rfl (by first | exact Nat.le_of_ble_eq_true rfl | (simp [xcat, cvo_cat, cat_i, cat_j, cat_r]; done)) wv_19 wc_19 (cob_0 (c := σ5) (cl := 4) (by decide) rfl rfl) (k_Askings_tell_ok hp0 hL hF (d := d + 1) (cob_0 (c := σ5) (cl := 4) (by decide) rfl rfl) h25) (fun m26  => ?_)
  refine cR_lift (fun _ _ kk => eE_iload_n lk89_37 gq19 kk) ?_
  refine cR_lift (fun _ _ kk => eE_isub lk89_38 kk) ?_
  refine cR_stI (j := 4) lk89_39 (Or.inl rfl) (by decide) (fun vq27 gq28 kq29 => ?_)
  have gq30 := kq29 0 _ (by decide) (fun e => absurd e (by decide)) gq21
  have gq31 := kq29 1 _ (by decide) (fun e => absurd e (by decide)) gq22
  have gq32 := kq29 2 _ (by decide) (fun e => absurd e (by decide)) gq23
  have gq33 := kq29 3 _ (by decide) (fun _ => rfl) gq19
  refine cR_lift (fun _ _ kk => eE_aload_n lk89_41 gq30 kk) ?_
  refine cR_lift (fun _ _ kk => eE_iload_n lk89_42 gq32 kk) ?_
  refine cR_lift (fun _ _ kk => eE_iload_n lk89_43 gq33 kk) ?_
  obtain ⟨p34, h35, h⟩ := Option.bind_eq_some_iff.mp h
  refine cR_virt (cl := 10) (i := l0) (as := [.int p7, .int p15]) lk89_44 mr_10_101 na_90 rfl rfl (by first | exact Nat.le_of_ble_eq_true rfl | (simp [xcat, cvo_cat, cat_i, cat_j, cat_r]; done)) wv_90 wc_90 (cob_any rfl bl0) (k_Machine_lowerBound_ok hp0 hL hF (d := d + 0) (cob_any rfl bl0) h35) (fun m36  => ?_)
  refine cR_stI (j := 5) lk89_47 (Or.inl rfl) (by decide) (fun vq37 gq38 kq39 => ?_)
  have gq40 := kq39 0 _ (by decide) (fun e => absurd e (by decide)) gq30
  have gq41 := kq39 1 _ (by decide) (fun e => absurd e (by decide)) gq31
  have gq42 := kq39 2 _ (by decide) (fun e => absurd e (by decide)) gq32
  have gq43 := kq39 3 _ (by decide) (fun e => absurd e (by decide)) gq33
  have gq44 := kq39 4 _ (by decide) (fun _ => rfl) gq28
  refine cR_lift (fun _ _ kk => eE_aload_n lk89_49 gq40 kk) ?_
  refine cR_getO (cl' := 4) (i' := 0) lk89_50 rf_10_37 rfl rfl (cob_any rfl bl0) ?_
  refine cR_lift (fun _ _ kk => eE_iload_n lk89_53 gq41 kk) ?_
  refine cR_lift (fun _ _ kk => eE_iconst (v := 1) lk89_54 (by decide) kk) ?_
  obtain ⟨p45, h46, h⟩ := Option.bind_eq_some_iff.mp h
  refine cR_virt (cl := 4) (i := 0) (as := [.int l1, .int ((1 : Int32))]) lk89_55 mr_10_76 na_19 rfl rfl (by first | exact Nat.le_of_ble_eq_true rfl | (simp [xcat, cvo_cat, cat_i, cat_j, cat_r]; done)) wv_19 wc_19 (cob_0 (c := σ5) (cl := 4) (by decide) rfl rfl) (k_Askings_tell_ok hp0 hL hF (d := d + 1) (cob_0 (c := σ5) (cl := 4) (by decide) rfl rfl) h46) (fun m47  => ?_)
  by_cases c48 : p45 = (3 : Int32)
  · rw [if_pos c48] at h
    refine cR_lsw (t := 84) (off := 26) lk89_58 (by decide) (by rw [c48]; rfl) (by decide) ?_
    refine cR_lift (fun _ _ kk => eE_aload_n lk89_84 gq40 kk) ?_
    refine cR_lift (fun _ _ kk => eE_iload lk89_85 gq38 kk) ?_
    refine cR_lift (fun _ _ kk => eE_iload_n lk89_87 gq42 kk) ?_
    refine cR_lift (fun _ _ kk => eE_iload_n lk89_88 gq43 kk) ?_
    obtain ⟨p49, h50, h⟩ := Option.bind_eq_some_iff.mp h
    refine cR_virt (cl := 10) (i := l0) (as := [.int p34, .int p7, .int p15]) lk89_89 mr_10_104 na_86 rfl rfl (by first | exact Nat.le_of_ble_eq_true rfl | (simp [xcat, cvo_cat, cat_i, cat_j, cat_r]; done)) wv_86 wc_86 (cob_any rfl bl0) (k_Machine_isKey_ok hp0 hL hF (d := d + 0) (cob_any rfl bl0) h50) (fun m51  => ?_)
    refine cR_stI (j := 6) lk89_92 (Or.inl rfl) (by decide) (fun vq52 gq53 kq54 => ?_)
    have gq55 := kq54 0 _ (by decide) (fun e => absurd e (by decide)) gq40
    have gq56 := kq54 5 _ (by decide) (fun _ => rfl) gq38
    refine cR_lift (fun _ _ kk => eE_aload_n lk89_94 gq55 kk) ?_
    refine cR_lift (fun _ _ kk => eE_iload lk89_95 gq53 kk) ?_
    refine cR_if (t := 104) lk89_97 (by decide) (fun c57 => ?_) (fun c57 => ?_)
    · rw [if_pos c57] at h
      refine cR_lift (fun _ _ kk => eE_iconst (v := 0) lk89_104 (by decide) kk) ?_
      exact k_Machine_look_b105_ok hp0 hL hF  g vq52 σ5 l0 ((0 : Int32)) p34 p49 (cob_any rfl bl0) gq56 gq53 _ h
    · rw [if_neg c57] at h
      refine cR_lift (fun _ _ kk => eE_iconst (v := 1) lk89_100 (by decide) kk) ?_
      refine cR_lift (fun _ _ kk => eE_goto (t := 105) lk89_101 (by decide) kk) ?_
      exact k_Machine_look_b105_ok hp0 hL hF  g vq52 σ5 l0 ((1 : Int32)) p34 p49 (cob_any rfl bl0) gq56 gq53 _ h
  rw [if_neg c48] at h
  by_cases c58 : p45 = (4 : Int32)
  · rw [if_pos c58] at h
    refine cR_lsw (t := 122) (off := 64) lk89_58 (by decide) (by rw [c58]; rfl) (by decide) ?_
    refine cR_lift (fun _ _ kk => eE_iconst (v := 0) lk89_122 (by decide) kk) ?_
    refine cR_lift (fun _ _ kk => eE_aload_n lk89_123 gq40 kk) ?_
    refine cR_lift (fun _ _ kk => eE_iload_n lk89_124 gq42 kk) ?_
    refine cR_lift (fun _ _ kk => eE_iload_n lk89_125 gq43 kk) ?_
    refine cR_lift (fun _ _ kk => eE_iadd lk89_126 kk) ?_
    refine cR_lift (fun _ _ kk => eE_iload lk89_127 gq44 kk) ?_
    obtain ⟨p59, h60, h⟩ := Option.bind_eq_some_iff.mp h
    refine cR_virt (cl := 10) (i := l0) (as := [.int (p7 + p15), .int (p24 - p15)]) lk89_129 mr_10_101 na_90 rfl rfl (by first | exact Nat.le_of_ble_eq_true rfl | (simp [xcat, cvo_cat, cat_i, cat_j, cat_r]; done)) wv_90 wc_90 (cob_any rfl bl0) (k_Machine_lowerBound_ok hp0 hL hF (d := d + 0) (cob_any rfl bl0) h60) (fun m61  => ?_)
    refine cR_lift (fun _ _ kk => eE_iload lk89_132 gq38 kk) ?_
    refine cR_lift (fun _ _ kk => eE_isub lk89_134 kk) ?_
    refine cR_max lk89_135 mr_10_127 (by first | exact Nat.le_of_ble_eq_true rfl | (simp [xcat, cvo_cat, cat_i, cat_j, cat_r]; done)) ?_
    refine cR_stI (j := 7) lk89_138 (Or.inl rfl) (by decide) (fun vq62 gq63 kq64 => ?_)
    have gq65 := kq64 0 _ (by decide) (fun e => absurd e (by decide)) gq40
    refine cR_lift (fun _ _ kk => eE_aload_n lk89_140 gq65 kk) ?_
    refine cR_lift (fun _ _ kk => eE_iload lk89_141 gq63 kk) ?_
    refine cR_lift (fun _ _ kk => eE_sipush (v := 255) lk89_143 (by decide) kk) ?_
    refine cR_lift (fun _ _ kk => eE_iand lk89_146 kk) ?_
    refine cR_lift (fun _ _ kk => eE_iconst (v := (-1)) lk89_147 (by decide) kk) ?_
    obtain ⟨p66, h67, h⟩ := Option.bind_eq_some_iff.mp h
    refine cR_virt (cl := 10) (i := l0) (as := [.int ((cmax ((0 : Int32)) (p59 - p34)) &&& ((255 : Int32))), .int ((-1 : Int32))]) lk89_148 mr_10_112 na_100 rfl rfl (by first | exact Nat.le_of_ble_eq_true rfl | (simp [xcat, cvo_cat, cat_i, cat_j, cat_r]; done)) wv_100 wc_100 (cob_any rfl bl0) (k_Machine_say_ok hp0 hL hF (d := d + 1) (cob_any rfl bl0) h67) (fun m68  => ?_)
    refine cR_lift (fun _ _ kk => eE_aload_n lk89_151 gq65 kk) ?_
    refine cR_getA lk89_152 rf_10_31 (by decide) (cob_any rfl bl0) ?_
    refine cR_lift (fun _ _ kk => eE_iconst (v := 1) lk89_155 (by decide) kk) ?_
    refine cR_lift (fun _ _ kk => eE_iload lk89_156 gq63 kk) ?_
    refine cR_lift (fun _ _ kk => eE_bipush (v := 8) lk89_158 (by decide) kk) ?_
    refine cR_lift (fun _ _ kk => eE_ishr lk89_160 kk) ?_
    refine cR_lift (fun _ _ kk => eE_i2b lk89_161 kk) ?_
    obtain ⟨σ69, h70, h⟩ := Option.bind_eq_some_iff.mp h
    refine cR_bast (cl := 10) (i := l0) (f := 10) lk89_162 (by decide) rfl rfl (cob_any rfl bl0) h70 ?_
    refine cR_lift (fun _ _ kk => eE_aload_n lk89_163 gq65 kk) ?_
    refine cR_lift (fun _ _ kk => eE_iconst (v := 2) lk89_164 (by decide) kk) ?_
    obtain ⟨σ71, h72, h⟩ := Option.bind_eq_some_iff.mp h
    refine cR_putI lk89_165 rf_10_57 rfl (cob_any rfl bl0) pf_10_11 rfl h72 ?_
    refine cR_lift (fun _ _ kk => eE_goto (t := 177) lk89_168 (by decide) kk) ?_
    exact k_Machine_look_b177_ok hp0 hL hF  g vq62 σ71  _ h
  rw [if_neg c58] at h
  refine cR_lsw (t := 171) (off := 113) lk89_58 (by decide) ((lv_osw c48 (by decide)).trans ((lv_osw c58 (by decide)).trans rfl)) (by decide) ?_
  refine cR_lift (fun _ _ kk => eE_aload_n lk89_171 gq40 kk) ?_
  refine cR_lift (fun _ _ kk => eE_iload lk89_172 gq38 kk) ?_
  obtain ⟨p73, h74, h⟩ := Option.bind_eq_some_iff.mp h
  refine cR_virt (cl := 10) (i := l0) (as := [.int p34]) lk89_174 mr_10_132 na_101 rfl rfl (by first | exact Nat.le_of_ble_eq_true rfl | (simp [xcat, cvo_cat, cat_i, cat_j, cat_r]; done)) wv_101 wc_101 (cob_any rfl bl0) (k_Machine_sayNext_ok hp0 hL hF (d := d + 0) (cob_any rfl bl0) h74) (fun m75  => ?_)
  exact k_Machine_look_b177_ok hp0 hL hF  g vq37 p73  _ h
def k_Machine_look (F : Nat) (σ : CS) (l0 : Nat) (l1 : Int32) : Option (CS) := k_Machine_look_b0 F σ l0 l1
theorem k_Machine_look_ok {E : CE} {pF : Nat → List Value → xH → Option (Option Value × xH)} (hp0 : xNPc pF) (hL : lcAll E pF) (hF : lcF pF) {d : Nat} {g : CG} {σ : CS} {F : Nat} {l0 : Nat} {l1 : Int32} {res : CS} (bl0 : cob σ 10 l0) (h : k_Machine_look F σ l0 l1 = some res) : cCo E cQ1 pF (d + 3) 89 [.ref (coa E 10 l0), .int l1] none res g σ :=
  cCo_R kk_89 mo_89 ni_89 xm_89 (Nat.le_of_ble_eq_true rfl) (hp0 89 (by decide) _) (k_Machine_look_b0_ok hp0 hL hF g _ σ l0 l1 bl0 rfl rfl _ h)
/-! k_Machine_mayStore (91), depth 2 -/
def k_Machine_mayStore_b55  (σ : CS) (s0 : Int32) : Option (Int32) :=
  if s0 = 0 ∨ s0 = 1 then some s0 else none
set_option maxRecDepth 4000 in
theorem k_Machine_mayStore_b55_ok {E : CE} {pF : Nat → List Value → xH → Option (Option Value × xH)} (hp0 : xNPc pF) (hL : lcAll E pF) (hF : lcF pF) {d : Nat}   : ∀ (g : CG) (lv : xL) (σ : CS) (s0 : Int32), ∀ res, k_Machine_mayStore_b55  σ s0 = some res → cR E cQ1 pF (d + 1) kT91 10 5 (some FieldType.boolean) (some (.int res)) σ g σ (55, lv, [.int s0]) := by
  intro g lv σ s0 res h
  unfold k_Machine_mayStore_b55 at h
  by_cases z1 : s0 = 0 ∨ s0 = 1
  · rw [if_pos z1] at h; cases h
    exact cR_end lk91_55 rfl rfl (by first | (simp only [xfin, if_true, if_pos z1]; done) | simp [xfin, z1])
  · rw [if_neg z1] at h; cases h
def k_Machine_mayStore_b54  (σ : CS) : Option (Int32) :=
  k_Machine_mayStore_b55  σ ((0 : Int32))
set_option maxRecDepth 4000 in
theorem k_Machine_mayStore_b54_ok {E : CE} {pF : Nat → List Value → xH → Option (Option Value × xH)} (hp0 : xNPc pF) (hL : lcAll E pF) (hF : lcF pF) {d : Nat}   : ∀ (g : CG) (lv : xL) (σ : CS), ∀ res, k_Machine_mayStore_b54  σ = some res → cR E cQ1 pF (d + 1) kT91 10 5 (some FieldType.boolean) (some (.int res)) σ g σ (54, lv, []) := by
  intro g lv σ res h
  unfold k_Machine_mayStore_b54 at h
  refine cR_lift (fun _ _ kk => eE_iconst (v := 0) lk91_54 (by decide) kk) ?_
  exact k_Machine_mayStore_b55_ok hp0 hL hF  g lv σ ((0 : Int32))  _ h
def k_Machine_mayStore_b29  (σ : CS) (l0 : Nat) (l3 : Int32) (l4 : Int32) : Option (Int32) :=
  if ((16 : Int32)) = 0 then none else
  if xc2 .gt (((cI σ 10 l0 5 0) - l4) + ((l3 + ((15 : Int32))) / ((16 : Int32)))) ((700 : Int32)) = true then (
    k_Machine_mayStore_b54  σ
  ) else (
    k_Machine_mayStore_b55  σ ((1 : Int32))
  )
set_option maxRecDepth 4000 in
theorem k_Machine_mayStore_b29_ok {E : CE} {pF : Nat → List Value → xH → Option (Option Value × xH)} (hp0 : xNPc pF) (hL : lcAll E pF) (hF : lcF pF) {d : Nat}   : ∀ (g : CG) (lv : xL) (σ : CS) (l0 : Nat) (l3 : Int32) (l4 : Int32), (cob σ 10 l0) → (xg lv 0 = some (.ref (coa E 10 l0))) → (xg lv 3 = some (.int l3)) → (xg lv 4 = some (.int l4)) → ∀ res, k_Machine_mayStore_b29  σ l0 l3 l4 = some res → cR E cQ1 pF (d + 1) kT91 10 5 (some FieldType.boolean) (some (.int res)) σ g σ (29, lv, []) := by
  intro g lv σ l0 l3 l4 bl0 g0 g3 g4 res h
  unfold k_Machine_mayStore_b29 at h
  refine cR_lift (fun _ _ kk => eE_aload_n lk91_29 g0 kk) ?_
  refine cR_getI lk91_30 rf_10_48 rfl bl0 ?_
  refine cR_lift (fun _ _ kk => eE_iload lk91_33 g4 kk) ?_
  refine cR_lift (fun _ _ kk => eE_isub lk91_35 kk) ?_
  refine cR_lift (fun _ _ kk => eE_iload_n lk91_36 g3 kk) ?_
  refine cR_lift (fun _ _ kk => eE_bipush (v := 15) lk91_37 (by decide) kk) ?_
  refine cR_lift (fun _ _ kk => eE_iadd lk91_39 kk) ?_
  refine cR_lift (fun _ _ kk => eE_bipush (v := 16) lk91_40 (by decide) kk) ?_
  by_cases z2 : ((16 : Int32)) = 0
  · rw [if_pos z2] at h; cases h
  rw [if_neg z2] at h
  refine cR_lift (fun _ _ kk => eE_idiv lk91_42 z2 kk) ?_
  refine cR_lift (fun _ _ kk => eE_iadd lk91_43 kk) ?_
  refine cR_lift (fun _ _ kk => eE_sipush (v := 700) lk91_44 (by decide) kk) ?_
  refine cR_icmp (t := 54) lk91_47 (by decide) (fun c3 => ?_) (fun c3 => ?_)
  · rw [if_pos c3] at h
    exact k_Machine_mayStore_b54_ok hp0 hL hF  g lv σ  _ h
  · rw [if_neg c3] at h
    refine cR_lift (fun _ _ kk => eE_iconst (v := 1) lk91_50 (by decide) kk) ?_
    refine cR_lift (fun _ _ kk => eE_goto (t := 55) lk91_51 (by decide) kk) ?_
    exact k_Machine_mayStore_b55_ok hp0 hL hF  g lv σ ((1 : Int32))  _ h
def k_Machine_mayStore_b13  (σ : CS) (s0 : Int32) (l0 : Nat) (l2 : Int32) (l3 : Int32) : Option (Int32) :=
  if xc0 .ne l2 = true then (
    k_Machine_mayStore_b29  σ l0 l3 s0
  ) else (
    if xc2 .ge (cI σ 10 l0 4 0) ((128 : Int32)) = true then (
      k_Machine_mayStore_b54  σ
    ) else (
      k_Machine_mayStore_b29  σ l0 l3 s0
    )
  )
set_option maxRecDepth 4000 in
theorem k_Machine_mayStore_b13_ok {E : CE} {pF : Nat → List Value → xH → Option (Option Value × xH)} (hp0 : xNPc pF) (hL : lcAll E pF) (hF : lcF pF) {d : Nat}   : ∀ (g : CG) (lv : xL) (σ : CS) (s0 : Int32) (l0 : Nat) (l2 : Int32) (l3 : Int32), (cob σ 10 l0) → (xg lv 0 = some (.ref (coa E 10 l0))) → (xg lv 2 = some (.int l2)) → (xg lv 3 = some (.int l3)) → ∀ res, k_Machine_mayStore_b13  σ s0 l0 l2 l3 = some res → cR E cQ1 pF (d + 1) kT91 10 5 (some FieldType.boolean) (some (.int res)) σ g σ (13, lv, [.int s0]) := by
  intro g lv σ s0 l0 l2 l3 bl0 g0 g2 g3 res h
  unfold k_Machine_mayStore_b13 at h
  refine cR_stI (j := 4) lk91_13 (Or.inl rfl) (by decide) (fun vq4 gq5 kq6 => ?_)
  have gq7 := kq6 0 _ (by decide) (fun e => absurd e (by decide)) g0
  have gq8 := kq6 2 _ (by decide) (fun e => absurd e (by decide)) g2
  have gq9 := kq6 3 _ (by decide) (fun _ => rfl) g3
  refine cR_lift (fun _ _ kk => eE_iload_n lk91_15 gq8 kk) ?_
  refine cR_if (t := 29) lk91_16 (by decide) (fun c10 => ?_) (fun c10 => ?_)
  · rw [if_pos c10] at h
    exact k_Machine_mayStore_b29_ok hp0 hL hF  g vq4 σ l0 l3 s0 bl0 gq7 gq9 gq5 _ h
  · rw [if_neg c10] at h
    refine cR_lift (fun _ _ kk => eE_aload_n lk91_19 gq7 kk) ?_
    refine cR_getI lk91_20 rf_10_45 rfl bl0 ?_
    refine cR_lift (fun _ _ kk => eE_sipush (v := 128) lk91_23 (by decide) kk) ?_
    refine cR_icmp (t := 54) lk91_26 (by decide) (fun c11 => ?_) (fun c11 => ?_)
    · rw [if_pos c11] at h
      exact k_Machine_mayStore_b54_ok hp0 hL hF  g vq4 σ  _ h
    · rw [if_neg c11] at h
      exact k_Machine_mayStore_b29_ok hp0 hL hF  g vq4 σ l0 l3 s0 bl0 gq7 gq9 gq5 _ h
def k_Machine_mayStore_b0  (σ : CS) (l0 : Nat) (l1 : Int32) (l2 : Int32) (l3 : Int32) : Option (Int32) :=
  if xc0 .eq l2 = true then (
    k_Machine_mayStore_b13  σ ((0 : Int32)) l0 l2 l3
  ) else (
    (k_Machine_unitsOf σ l0 l1).bind fun p13 =>
    k_Machine_mayStore_b13  σ p13 l0 l2 l3
  )
set_option maxRecDepth 4000 in
theorem k_Machine_mayStore_b0_ok {E : CE} {pF : Nat → List Value → xH → Option (Option Value × xH)} (hp0 : xNPc pF) (hL : lcAll E pF) (hF : lcF pF) {d : Nat}   : ∀ (g : CG) (lv : xL) (σ : CS) (l0 : Nat) (l1 : Int32) (l2 : Int32) (l3 : Int32), (cob σ 10 l0) → (xg lv 0 = some (.ref (coa E 10 l0))) → (xg lv 1 = some (.int l1)) → (xg lv 2 = some (.int l2)) → (xg lv 3 = some (.int l3)) → ∀ res, k_Machine_mayStore_b0  σ l0 l1 l2 l3 = some res → cR E cQ1 pF (d + 1) kT91 10 5 (some FieldType.boolean) (some (.int res)) σ g σ (0, lv, []) := by
  intro g lv σ l0 l1 l2 l3 bl0 g0 g1 g2 g3 res h
  unfold k_Machine_mayStore_b0 at h
  refine cR_lift (fun _ _ kk => eE_iload_n lk91_0 g2 kk) ?_
  refine cR_if (t := 12) lk91_1 (by decide) (fun c12 => ?_) (fun c12 => ?_)
  · rw [if_pos c12] at h
    refine cR_lift (fun _ _ kk => eE_iconst (v := 0) lk91_12 (by decide) kk) ?_
    exact k_Machine_mayStore_b13_ok hp0 hL hF  g lv σ ((0 : Int32)) l0 l2 l3 bl0 g0 g2 g3 _ h
  · rw [if_neg c12] at h
    refine cR_lift (fun _ _ kk => eE_aload_n lk91_4 g0 kk) ?_
    refine cR_lift (fun _ _ kk => eE_iload_n lk91_5 g1 kk) ?_
    obtain ⟨p13, h14, h⟩ := Option.bind_eq_some_iff.mp h
    refine cR_virt (cl := 10) (i := l0) (as := [.int l1]) lk91_6 mr_10_124 na_104 rfl rfl (by first | exact Nat.le_of_ble_eq_true rfl | (simp [xcat, cvo_cat, cat_i, cat_j, cat_r]; done)) wv_104 wc_104 bl0 (k_Machine_unitsOf_ok hp0 hL hF (d := d + 0) bl0 h14) (fun m15  => ?_)
    refine cR_lift (fun _ _ kk => eE_goto (t := 13) lk91_9 (by decide) kk) ?_
    exact k_Machine_mayStore_b13_ok hp0 hL hF  g lv σ p13 l0 l2 l3 bl0 g0 g2 g3 _ h
def k_Machine_mayStore (σ : CS) (l0 : Nat) (l1 : Int32) (l2 : Int32) (l3 : Int32) : Option (Int32) := k_Machine_mayStore_b0 σ l0 l1 l2 l3
theorem k_Machine_mayStore_ok {E : CE} {pF : Nat → List Value → xH → Option (Option Value × xH)} (hp0 : xNPc pF) (hL : lcAll E pF) (hF : lcF pF) {d : Nat} {g : CG} {σ : CS} {l0 : Nat} {l1 : Int32} {l2 : Int32} {l3 : Int32} {res : Int32} (bl0 : cob σ 10 l0) (h : k_Machine_mayStore σ l0 l1 l2 l3 = some res) : cCo E cQ1 pF (d + 2) 91 [.ref (coa E 10 l0), .int l1, .int l2, .int l3] (some (.int res)) σ g σ :=
  cCo_R kk_91 mo_91 ni_91 xm_91 (Nat.le_of_ble_eq_true rfl) (hp0 91 (by decide) _) (k_Machine_mayStore_b0_ok hp0 hL hF g _ σ l0 l1 l2 l3 bl0 rfl rfl rfl rfl _ h)
/-! k_Machine_openSession (93), depth 10 -/
def k_Machine_openSession_b13 (F : Nat)  (σ : CS) (l0 : Nat) (l1 : Int32) : Option (CS) :=
  (csfillr σ 10 l0 2 ((cI σ 10 l0 1 0) * ((5 : Int32))) (((cI σ 10 l0 1 0) * ((5 : Int32))) + ((5 : Int32))) ((0 : Int32))).bind fun σ6 =>
  (cwr σ6 10 l0 2 ((cI σ 10 l0 1 0) * ((5 : Int32))) l1).bind fun σ8 =>
  (cwr σ8 10 l0 2 (((cI σ 10 l0 1 0) * ((5 : Int32))) + ((1 : Int32))) l1).bind fun σ10 =>
  (some (csI σ10 10 l0 1 0 ((cI σ10 10 l0 1 0) + ((1 : Int32))))).bind fun σ12 =>
  some σ12
set_option maxRecDepth 4000 in
theorem k_Machine_openSession_b13_ok {E : CE} {pF : Nat → List Value → xH → Option (Option Value × xH)} (hp0 : xNPc pF) (hL : lcAll E pF) (hF : lcF pF) {d : Nat} {F : Nat}   : ∀ (g : CG) (lv : xL) (σ : CS) (l0 : Nat) (l1 : Int32), (cob σ 10 l0) → (xg lv 0 = some (.ref (coa E 10 l0))) → (xg lv 1 = some (.int l1)) → ∀ res, k_Machine_openSession_b13 F  σ l0 l1 = some res → cR E cQ1 pF (d + 9) kT93 10 3 none none res g σ (13, lv, []) := by
  intro g lv σ l0 l1 bl0 g0 g1 res h
  unfold k_Machine_openSession_b13 at h
  refine cR_lift (fun _ _ kk => eE_aload_n lk93_13 g0 kk) ?_
  refine cR_getI lk93_14 rf_10_41 rfl bl0 ?_
  refine cR_lift (fun _ _ kk => eE_iconst (v := 5) lk93_17 (by decide) kk) ?_
  refine cR_lift (fun _ _ kk => eE_imul lk93_18 kk) ?_
  refine cR_stI (j := 2) lk93_19 (Or.inr ⟨_, rfl, rfl⟩) (by decide) (fun vq1 gq2 kq3 => ?_)
  have gq4 := kq3 0 _ (by decide) (fun e => absurd e (by decide)) g0
  have gq5 := kq3 1 _ (by decide) (fun _ => rfl) g1
  refine cR_lift (fun _ _ kk => eE_aload_n lk93_20 gq4 kk) ?_
  refine cR_getA lk93_21 rf_10_11 (by decide) bl0 ?_
  refine cR_lift (fun _ _ kk => eE_iload_n lk93_24 gq2 kk) ?_
  refine cR_lift (fun _ _ kk => eE_iload_n lk93_25 gq2 kk) ?_
  refine cR_lift (fun _ _ kk => eE_iconst (v := 5) lk93_26 (by decide) kk) ?_
  refine cR_lift (fun _ _ kk => eE_iadd lk93_27 kk) ?_
  refine cR_lift (fun _ _ kk => eE_iconst (v := 0) lk93_28 (by decide) kk) ?_
  obtain ⟨σ6, h7, h⟩ := Option.bind_eq_some_iff.mp h
  refine cR_stat (as := [.ref (caa E 10 l0 2), .int ((cI σ 10 l0 1 0) * ((5 : Int32))), .int (((cI σ 10 l0 1 0) * ((5 : Int32))) + ((5 : Int32))), .int ((0 : Int32))]) lk93_29 mr_10_95 na_394 rfl rfl (by first | exact Nat.le_of_ble_eq_true rfl | (simp [xcat, cvo_cat, cat_i, cat_j, cat_r]; done)) mm_394 ws_394 ((hF (d + 0)).2 E g _ _ 10 l0 2 ((cI σ 10 l0 1 0) * ((5 : Int32))) (((cI σ 10 l0 1 0) * ((5 : Int32))) + ((5 : Int32))) ((0 : Int32)) (by decide) rfl bl0 h7) (fun _ => ?_)
  refine cR_lift (fun _ _ kk => eE_aload_n lk93_32 gq4 kk) ?_
  refine cR_getA lk93_33 rf_10_11 (by decide) (cob_any rfl bl0) ?_
  refine cR_lift (fun _ _ kk => eE_iload_n lk93_36 gq2 kk) ?_
  refine cR_lift (fun _ _ kk => eE_iload_n lk93_37 gq5 kk) ?_
  obtain ⟨σ8, h9, h⟩ := Option.bind_eq_some_iff.mp h
  refine cR_iast (cl := 10) (i := l0) (f := 2) lk93_38 (by decide) rfl (cob_any rfl bl0) h9 ?_
  refine cR_lift (fun _ _ kk => eE_aload_n lk93_39 gq4 kk) ?_
  refine cR_getA lk93_40 rf_10_11 (by decide) (cob_any rfl bl0) ?_
  refine cR_lift (fun _ _ kk => eE_iload_n lk93_43 gq2 kk) ?_
  refine cR_lift (fun _ _ kk => eE_iconst (v := 1) lk93_44 (by decide) kk) ?_
  refine cR_lift (fun _ _ kk => eE_iadd lk93_45 kk) ?_
  refine cR_lift (fun _ _ kk => eE_iload_n lk93_46 gq5 kk) ?_
  obtain ⟨σ10, h11, h⟩ := Option.bind_eq_some_iff.mp h
  refine cR_iast (cl := 10) (i := l0) (f := 2) lk93_47 (by decide) rfl (cob_any rfl bl0) h11 ?_
  refine cR_lift (fun _ _ kk => eE_aload_n lk93_48 gq4 kk) ?_
  refine cR_lift (fun _ _ kk => eE_dup lk93_49 rfl kk) ?_
  refine cR_getI lk93_50 rf_10_41 rfl (cob_any rfl bl0) ?_
  refine cR_lift (fun _ _ kk => eE_iconst (v := 1) lk93_53 (by decide) kk) ?_
  refine cR_lift (fun _ _ kk => eE_iadd lk93_54 kk) ?_
  obtain ⟨σ12, h13, h⟩ := Option.bind_eq_some_iff.mp h
  refine cR_putI lk93_55 rf_10_41 rfl (cob_any rfl bl0) pf_10_1 rfl h13 ?_
  cases h
  exact cR_end lk93_58 rfl rfl rfl
def k_Machine_openSession_b0 (F : Nat)  (σ : CS) (l0 : Nat) (l1 : Int32) : Option (CS) :=
  if xc2 .ne (cI σ 10 l0 1 0) ((16 : Int32)) = true then (
    k_Machine_openSession_b13 F  σ l0 l1
  ) else (
    (k_Machine_dropOldestSession F σ l0).bind fun p15 =>
    k_Machine_openSession_b13 F  p15 l0 l1
  )
set_option maxRecDepth 4000 in
theorem k_Machine_openSession_b0_ok {E : CE} {pF : Nat → List Value → xH → Option (Option Value × xH)} (hp0 : xNPc pF) (hL : lcAll E pF) (hF : lcF pF) {d : Nat} {F : Nat}   : ∀ (g : CG) (lv : xL) (σ : CS) (l0 : Nat) (l1 : Int32), (cob σ 10 l0) → (xg lv 0 = some (.ref (coa E 10 l0))) → (xg lv 1 = some (.int l1)) → ∀ res, k_Machine_openSession_b0 F  σ l0 l1 = some res → cR E cQ1 pF (d + 9) kT93 10 3 none none res g σ (0, lv, []) := by
  intro g lv σ l0 l1 bl0 g0 g1 res h
  unfold k_Machine_openSession_b0 at h
  refine cR_lift (fun _ _ kk => eE_aload_n lk93_0 g0 kk) ?_
  refine cR_getI lk93_1 rf_10_41 rfl bl0 ?_
  refine cR_lift (fun _ _ kk => eE_bipush (v := 16) lk93_4 (by decide) kk) ?_
  refine cR_icmp (t := 13) lk93_6 (by decide) (fun c14 => ?_) (fun c14 => ?_)
  · rw [if_pos c14] at h
    exact k_Machine_openSession_b13_ok hp0 hL hF  g lv σ l0 l1 bl0 g0 g1 _ h
  · rw [if_neg c14] at h
    refine cR_lift (fun _ _ kk => eE_aload_n lk93_9 g0 kk) ?_
    obtain ⟨p15, h16, h⟩ := Option.bind_eq_some_iff.mp h
    refine cR_virt (cl := 10) (i := l0) (as := []) lk93_10 mr_10_92 na_81 rfl rfl (by first | exact Nat.le_of_ble_eq_true rfl | (simp [xcat, cvo_cat, cat_i, cat_j, cat_r]; done)) wv_81 wc_81 bl0 (k_Machine_dropOldestSession_ok hp0 hL hF (d := d + 8) bl0 h16) (fun m17  => ?_)
    exact k_Machine_openSession_b13_ok hp0 hL hF  g lv p15 l0 l1 (cob_any rfl bl0) g0 g1 _ h
def k_Machine_openSession (F : Nat) (σ : CS) (l0 : Nat) (l1 : Int32) : Option (CS) := k_Machine_openSession_b0 F σ l0 l1
theorem k_Machine_openSession_ok {E : CE} {pF : Nat → List Value → xH → Option (Option Value × xH)} (hp0 : xNPc pF) (hL : lcAll E pF) (hF : lcF pF) {d : Nat} {g : CG} {σ : CS} {F : Nat} {l0 : Nat} {l1 : Int32} {res : CS} (bl0 : cob σ 10 l0) (h : k_Machine_openSession F σ l0 l1 = some res) : cCo E cQ1 pF (d + 10) 93 [.ref (coa E 10 l0), .int l1] none res g σ :=
  cCo_R kk_93 mo_93 ni_93 xm_93 (Nat.le_of_ble_eq_true rfl) (hp0 93 (by decide) _) (k_Machine_openSession_b0_ok hp0 hL hF g _ σ l0 l1 bl0 rfl rfl _ h)
/-! k_Machine_removeKey (96), depth 3 -/
def k_Machine_removeKey_b0 (F : Nat)  (σ : CS) (l0 : Nat) (l1 : Int32) (l2 : Int32) : Option (CS) :=
  (k_Machine_lowerBound F σ l0 l1 l2).bind fun p1 =>
  (k_Machine_isKey F σ l0 p1 l1 l2).bind fun p10 =>
  if xc0 .ne p10 = true then (
    (k_Machine_say σ l0 ((1 : Int32)) p1).bind fun p14 =>
    (crd p14 10 l0 6 p1).bind fun x17 =>
    (k_Machine_unitsOf p14 l0 p1).bind fun p24 =>
    (some (csI p14 10 l0 5 0 ((cI p14 10 l0 5 0) - p24))).bind fun σ27 =>
    (some (csI σ27 10 l0 4 0 ((cI σ27 10 l0 4 0) - ((1 : Int32))))).bind fun σ29 =>
    (ccpy σ29 10 l0 6 (p1 + ((1 : Int32))) 10 l0 6 p1 ((cI σ29 10 l0 4 0) - p1)).bind fun σ31 =>
    (cwr σ31 10 l0 6 (cI σ31 10 l0 4 0) x17).bind fun σ33 =>
    some σ33
  ) else (
    (k_Machine_say σ l0 ((0 : Int32)) ((-1 : Int32))).bind fun p35 =>
    some p35
  )
set_option maxRecDepth 4000 in
theorem k_Machine_removeKey_b0_ok {E : CE} {pF : Nat → List Value → xH → Option (Option Value × xH)} (hp0 : xNPc pF) (hL : lcAll E pF) (hF : lcF pF) {d : Nat} {F : Nat}   : ∀ (g : CG) (lv : xL) (σ : CS) (l0 : Nat) (l1 : Int32) (l2 : Int32), (cob σ 10 l0) → (xg lv 0 = some (.ref (coa E 10 l0))) → (xg lv 1 = some (.int l1)) → (xg lv 2 = some (.int l2)) → ∀ res, k_Machine_removeKey_b0 F  σ l0 l1 l2 = some res → cR E cQ1 pF (d + 2) kT96 10 5 none none res g σ (0, lv, []) := by
  intro g lv σ l0 l1 l2 bl0 g0 g1 g2 res h
  unfold k_Machine_removeKey_b0 at h
  refine cR_lift (fun _ _ kk => eE_aload_n lk96_0 g0 kk) ?_
  refine cR_lift (fun _ _ kk => eE_iload_n lk96_1 g1 kk) ?_
  refine cR_lift (fun _ _ kk => eE_iload_n lk96_2 g2 kk) ?_
  obtain ⟨p1, h2, h⟩ := Option.bind_eq_some_iff.mp h
  refine cR_virt (cl := 10) (i := l0) (as := [.int l1, .int l2]) lk96_3 mr_10_101 na_90 rfl rfl (by first | exact Nat.le_of_ble_eq_true rfl | (simp [xcat, cvo_cat, cat_i, cat_j, cat_r]; done)) wv_90 wc_90 bl0 (k_Machine_lowerBound_ok hp0 hL hF (d := d + 0) bl0 h2) (fun m3  => ?_)
  refine cR_stI (j := 3) lk96_6 (Or.inr ⟨_, rfl, rfl⟩) (by decide) (fun vq4 gq5 kq6 => ?_)
  have gq7 := kq6 0 _ (by decide) (fun e => absurd e (by decide)) g0
  have gq8 := kq6 1 _ (by decide) (fun e => absurd e (by decide)) g1
  have gq9 := kq6 2 _ (by decide) (fun _ => rfl) g2
  refine cR_lift (fun _ _ kk => eE_aload_n lk96_7 gq7 kk) ?_
  refine cR_lift (fun _ _ kk => eE_iload_n lk96_8 gq5 kk) ?_
  refine cR_lift (fun _ _ kk => eE_iload_n lk96_9 gq8 kk) ?_
  refine cR_lift (fun _ _ kk => eE_iload_n lk96_10 gq9 kk) ?_
  obtain ⟨p10, h11, h⟩ := Option.bind_eq_some_iff.mp h
  refine cR_virt (cl := 10) (i := l0) (as := [.int p1, .int l1, .int l2]) lk96_11 mr_10_104 na_86 rfl rfl (by first | exact Nat.le_of_ble_eq_true rfl | (simp [xcat, cvo_cat, cat_i, cat_j, cat_r]; done)) wv_86 wc_86 bl0 (k_Machine_isKey_ok hp0 hL hF (d := d + 0) bl0 h11) (fun m12  => ?_)
  refine cR_if (t := 24) lk96_14 (by decide) (fun c13 => ?_) (fun c13 => ?_)
  · rw [if_pos c13] at h
    refine cR_lift (fun _ _ kk => eE_aload_n lk96_24 gq7 kk) ?_
    refine cR_lift (fun _ _ kk => eE_iconst (v := 1) lk96_25 (by decide) kk) ?_
    refine cR_lift (fun _ _ kk => eE_iload_n lk96_26 gq5 kk) ?_
    obtain ⟨p14, h15, h⟩ := Option.bind_eq_some_iff.mp h
    refine cR_virt (cl := 10) (i := l0) (as := [.int ((1 : Int32)), .int p1]) lk96_27 mr_10_112 na_100 rfl rfl (by first | exact Nat.le_of_ble_eq_true rfl | (simp [xcat, cvo_cat, cat_i, cat_j, cat_r]; done)) wv_100 wc_100 bl0 (k_Machine_say_ok hp0 hL hF (d := d + 1) bl0 h15) (fun m16  => ?_)
    refine cR_lift (fun _ _ kk => eE_aload_n lk96_30 gq7 kk) ?_
    refine cR_getA lk96_31 rf_10_19 (by decide) (cob_any rfl bl0) ?_
    refine cR_lift (fun _ _ kk => eE_iload_n lk96_34 gq5 kk) ?_
    obtain ⟨x17, h18, h⟩ := Option.bind_eq_some_iff.mp h
    refine cR_iald (cl := 10) (i := l0) (f := 6) lk96_35 (by decide) rfl (cob_any rfl bl0) h18 ?_
    refine cR_stI (j := 4) lk96_36 (Or.inl rfl) (by decide) (fun vq19 gq20 kq21 => ?_)
    have gq22 := kq21 0 _ (by decide) (fun e => absurd e (by decide)) gq7
    have gq23 := kq21 3 _ (by decide) (fun _ => rfl) gq5
    refine cR_lift (fun _ _ kk => eE_aload_n lk96_38 gq22 kk) ?_
    refine cR_lift (fun _ _ kk => eE_dup lk96_39 rfl kk) ?_
    refine cR_getI lk96_40 rf_10_48 rfl (cob_any rfl bl0) ?_
    refine cR_lift (fun _ _ kk => eE_aload_n lk96_43 gq22 kk) ?_
    refine cR_lift (fun _ _ kk => eE_iload_n lk96_44 gq23 kk) ?_
    obtain ⟨p24, h25, h⟩ := Option.bind_eq_some_iff.mp h
    refine cR_virt (cl := 10) (i := l0) (as := [.int p1]) lk96_45 mr_10_124 na_104 rfl rfl (by first | exact Nat.le_of_ble_eq_true rfl | (simp [xcat, cvo_cat, cat_i, cat_j, cat_r]; done)) wv_104 wc_104 (cob_any rfl bl0) (k_Machine_unitsOf_ok hp0 hL hF (d := d + 1) (cob_any rfl bl0) h25) (fun m26  => ?_)
    refine cR_lift (fun _ _ kk => eE_isub lk96_48 kk) ?_
    obtain ⟨σ27, h28, h⟩ := Option.bind_eq_some_iff.mp h
    refine cR_putI lk96_49 rf_10_48 rfl (cob_any rfl bl0) pf_10_5 rfl h28 ?_
    refine cR_lift (fun _ _ kk => eE_aload_n lk96_52 gq22 kk) ?_
    refine cR_lift (fun _ _ kk => eE_dup lk96_53 rfl kk) ?_
    refine cR_getI lk96_54 rf_10_45 rfl (cob_any rfl bl0) ?_
    refine cR_lift (fun _ _ kk => eE_iconst (v := 1) lk96_57 (by decide) kk) ?_
    refine cR_lift (fun _ _ kk => eE_isub lk96_58 kk) ?_
    obtain ⟨σ29, h30, h⟩ := Option.bind_eq_some_iff.mp h
    refine cR_putI lk96_59 rf_10_45 rfl (cob_any rfl bl0) pf_10_4 rfl h30 ?_
    refine cR_lift (fun _ _ kk => eE_aload_n lk96_62 gq22 kk) ?_
    refine cR_getA lk96_63 rf_10_19 (by decide) (cob_any rfl bl0) ?_
    refine cR_lift (fun _ _ kk => eE_iload_n lk96_66 gq23 kk) ?_
    refine cR_lift (fun _ _ kk => eE_iconst (v := 1) lk96_67 (by decide) kk) ?_
    refine cR_lift (fun _ _ kk => eE_iadd lk96_68 kk) ?_
    refine cR_lift (fun _ _ kk => eE_aload_n lk96_69 gq22 kk) ?_
    refine cR_getA lk96_70 rf_10_19 (by decide) (cob_any rfl bl0) ?_
    refine cR_lift (fun _ _ kk => eE_iload_n lk96_73 gq23 kk) ?_
    refine cR_lift (fun _ _ kk => eE_aload_n lk96_74 gq22 kk) ?_
    refine cR_getI lk96_75 rf_10_45 rfl (cob_any rfl bl0) ?_
    refine cR_lift (fun _ _ kk => eE_iload_n lk96_78 gq23 kk) ?_
    refine cR_lift (fun _ _ kk => eE_isub lk96_79 kk) ?_
    obtain ⟨σ31, h32, h⟩ := Option.bind_eq_some_iff.mp h
    refine cR_cpy (a := 10) (i := l0) (f := 6) (a' := 10) (i' := l0) (f' := 6) lk96_80 yc_10_68.1 yc_10_68.2 (by decide) (by decide) (by decide) (cob_any rfl bl0) (cob_any rfl bl0) (by first | exact Nat.le_of_ble_eq_true rfl | (simp [xcat, cvo_cat, cat_i, cat_j, cat_r]; done)) h32 ?_
    refine cR_lift (fun _ _ kk => eE_aload_n lk96_83 gq22 kk) ?_
    refine cR_getA lk96_84 rf_10_19 (by decide) (cob_any rfl bl0) ?_
    refine cR_lift (fun _ _ kk => eE_aload_n lk96_87 gq22 kk) ?_
    refine cR_getI lk96_88 rf_10_45 rfl (cob_any rfl bl0) ?_
    refine cR_lift (fun _ _ kk => eE_iload lk96_91 gq20 kk) ?_
    obtain ⟨σ33, h34, h⟩ := Option.bind_eq_some_iff.mp h
    refine cR_iast (cl := 10) (i := l0) (f := 6) lk96_93 (by decide) rfl (cob_any rfl bl0) h34 ?_
    cases h
    exact cR_end lk96_94 rfl rfl rfl
  · rw [if_neg c13] at h
    refine cR_lift (fun _ _ kk => eE_aload_n lk96_17 gq7 kk) ?_
    refine cR_lift (fun _ _ kk => eE_iconst (v := 0) lk96_18 (by decide) kk) ?_
    refine cR_lift (fun _ _ kk => eE_iconst (v := (-1)) lk96_19 (by decide) kk) ?_
    obtain ⟨p35, h36, h⟩ := Option.bind_eq_some_iff.mp h
    refine cR_virt (cl := 10) (i := l0) (as := [.int ((0 : Int32)), .int ((-1 : Int32))]) lk96_20 mr_10_112 na_100 rfl rfl (by first | exact Nat.le_of_ble_eq_true rfl | (simp [xcat, cvo_cat, cat_i, cat_j, cat_r]; done)) wv_100 wc_100 bl0 (k_Machine_say_ok hp0 hL hF (d := d + 1) bl0 h36) (fun m37  => ?_)
    cases h
    exact cR_end lk96_23 rfl rfl rfl
def k_Machine_removeKey (F : Nat) (σ : CS) (l0 : Nat) (l1 : Int32) (l2 : Int32) : Option (CS) := k_Machine_removeKey_b0 F σ l0 l1 l2
theorem k_Machine_removeKey_ok {E : CE} {pF : Nat → List Value → xH → Option (Option Value × xH)} (hp0 : xNPc pF) (hL : lcAll E pF) (hF : lcF pF) {d : Nat} {g : CG} {σ : CS} {F : Nat} {l0 : Nat} {l1 : Int32} {l2 : Int32} {res : CS} (bl0 : cob σ 10 l0) (h : k_Machine_removeKey F σ l0 l1 l2 = some res) : cCo E cQ1 pF (d + 3) 96 [.ref (coa E 10 l0), .int l1, .int l2] none res g σ :=
  cCo_R kk_96 mo_96 ni_96 xm_96 (Nat.le_of_ble_eq_true rfl) (hp0 96 (by decide) _) (k_Machine_removeKey_b0_ok hp0 hL hF g _ σ l0 l1 l2 bl0 rfl rfl rfl _ h)
/-! k_Machine_storeValue (102), depth 2 -/
def k_Machine_storeValue_b0  (σ : CS) (l0 : Nat) (l1 : Int32) (l2 : Int32) (l3 : Int32) : Option (CS) :=
  (crd σ 10 l0 6 l1).bind fun x1 =>
  (k_Machine_unitsOf σ l0 l1).bind fun p10 =>
  (some (csI σ 10 l0 5 0 ((cI σ 10 l0 5 0) - p10))).bind fun σ13 =>
  (cwr σ13 10 l0 8 x1 l3).bind fun σ15 =>
  (ccpy σ15 4 0 3 l2 10 l0 9 ((x1 * ((132 : Int32))) + ((32 : Int32))) l3).bind fun σ17 =>
  (k_Machine_unitsOf σ17 l0 l1).bind fun p19 =>
  (some (csI σ17 10 l0 5 0 ((cI σ17 10 l0 5 0) + p19))).bind fun σ22 =>
  some σ22
set_option maxRecDepth 4000 in
theorem k_Machine_storeValue_b0_ok {E : CE} {pF : Nat → List Value → xH → Option (Option Value × xH)} (hp0 : xNPc pF) (hL : lcAll E pF) (hF : lcF pF) {d : Nat}   : ∀ (g : CG) (lv : xL) (σ : CS) (l0 : Nat) (l1 : Int32) (l2 : Int32) (l3 : Int32), (cob σ 10 l0) → (xg lv 0 = some (.ref (coa E 10 l0))) → (xg lv 1 = some (.int l1)) → (xg lv 2 = some (.int l2)) → (xg lv 3 = some (.int l3)) → ∀ res, k_Machine_storeValue_b0  σ l0 l1 l2 l3 = some res → cR E cQ1 pF (d + 1) kT102 10 5 none none res g σ (0, lv, []) := by
  intro g lv σ l0 l1 l2 l3 bl0 g0 g1 g2 g3 res h
  unfold k_Machine_storeValue_b0 at h
  refine cR_lift (fun _ _ kk => eE_aload_n lk102_0 g0 kk) ?_
  refine cR_getA lk102_1 rf_10_19 (by decide) bl0 ?_
  refine cR_lift (fun _ _ kk => eE_iload_n lk102_4 g1 kk) ?_
  obtain ⟨x1, h2, h⟩ := Option.bind_eq_some_iff.mp h
  refine cR_iald (cl := 10) (i := l0) (f := 6) lk102_5 (by decide) rfl bl0 h2 ?_
  refine cR_stI (j := 4) lk102_6 (Or.inl rfl) (by decide) (fun vq3 gq4 kq5 => ?_)
  have gq6 := kq5 0 _ (by decide) (fun e => absurd e (by decide)) g0
  have gq7 := kq5 1 _ (by decide) (fun e => absurd e (by decide)) g1
  have gq8 := kq5 2 _ (by decide) (fun e => absurd e (by decide)) g2
  have gq9 := kq5 3 _ (by decide) (fun _ => rfl) g3
  refine cR_lift (fun _ _ kk => eE_aload_n lk102_8 gq6 kk) ?_
  refine cR_lift (fun _ _ kk => eE_dup lk102_9 rfl kk) ?_
  refine cR_getI lk102_10 rf_10_48 rfl bl0 ?_
  refine cR_lift (fun _ _ kk => eE_aload_n lk102_13 gq6 kk) ?_
  refine cR_lift (fun _ _ kk => eE_iload_n lk102_14 gq7 kk) ?_
  obtain ⟨p10, h11, h⟩ := Option.bind_eq_some_iff.mp h
  refine cR_virt (cl := 10) (i := l0) (as := [.int l1]) lk102_15 mr_10_124 na_104 rfl rfl (by first | exact Nat.le_of_ble_eq_true rfl | (simp [xcat, cvo_cat, cat_i, cat_j, cat_r]; done)) wv_104 wc_104 bl0 (k_Machine_unitsOf_ok hp0 hL hF (d := d + 0) bl0 h11) (fun m12  => ?_)
  refine cR_lift (fun _ _ kk => eE_isub lk102_18 kk) ?_
  obtain ⟨σ13, h14, h⟩ := Option.bind_eq_some_iff.mp h
  refine cR_putI lk102_19 rf_10_48 rfl bl0 pf_10_5 rfl h14 ?_
  refine cR_lift (fun _ _ kk => eE_aload_n lk102_22 gq6 kk) ?_
  refine cR_getA lk102_23 rf_10_25 (by decide) (cob_any rfl bl0) ?_
  refine cR_lift (fun _ _ kk => eE_iload lk102_26 gq4 kk) ?_
  refine cR_lift (fun _ _ kk => eE_iload_n lk102_28 gq9 kk) ?_
  obtain ⟨σ15, h16, h⟩ := Option.bind_eq_some_iff.mp h
  refine cR_iast (cl := 10) (i := l0) (f := 8) lk102_29 (by decide) rfl (cob_any rfl bl0) h16 ?_
  refine cR_lift (fun _ _ kk => eE_aload_n lk102_30 gq6 kk) ?_
  refine cR_getO (cl' := 4) (i' := 0) lk102_31 rf_10_37 rfl rfl (cob_any rfl bl0) ?_
  refine cR_getA lk102_34 rf_10_139 (by decide) (cob_0 (c := σ15) (cl := 4) (by decide) rfl rfl) ?_
  refine cR_lift (fun _ _ kk => eE_iload_n lk102_37 gq8 kk) ?_
  refine cR_lift (fun _ _ kk => eE_aload_n lk102_38 gq6 kk) ?_
  refine cR_getA lk102_39 rf_10_28 (by decide) (cob_any rfl bl0) ?_
  refine cR_lift (fun _ _ kk => eE_iload lk102_42 gq4 kk) ?_
  refine cR_lift (fun _ _ kk => eE_sipush (v := 132) lk102_44 (by decide) kk) ?_
  refine cR_lift (fun _ _ kk => eE_imul lk102_47 kk) ?_
  refine cR_lift (fun _ _ kk => eE_bipush (v := 32) lk102_48 (by decide) kk) ?_
  refine cR_lift (fun _ _ kk => eE_iadd lk102_50 kk) ?_
  refine cR_lift (fun _ _ kk => eE_iload_n lk102_51 gq9 kk) ?_
  obtain ⟨σ17, h18, h⟩ := Option.bind_eq_some_iff.mp h
  refine cR_cpy (a := 4) (i := 0) (f := 3) (a' := 10) (i' := l0) (f' := 9) lk102_52 yc_10_68.1 yc_10_68.2 (by decide) (by decide) (by decide) (cob_0 (c := σ15) (cl := 4) (by decide) rfl rfl) (cob_any rfl bl0) (by first | exact Nat.le_of_ble_eq_true rfl | (simp [xcat, cvo_cat, cat_i, cat_j, cat_r]; done)) h18 ?_
  refine cR_lift (fun _ _ kk => eE_aload_n lk102_55 gq6 kk) ?_
  refine cR_lift (fun _ _ kk => eE_dup lk102_56 rfl kk) ?_
  refine cR_getI lk102_57 rf_10_48 rfl (cob_any rfl bl0) ?_
  refine cR_lift (fun _ _ kk => eE_aload_n lk102_60 gq6 kk) ?_
  refine cR_lift (fun _ _ kk => eE_iload_n lk102_61 gq7 kk) ?_
  obtain ⟨p19, h20, h⟩ := Option.bind_eq_some_iff.mp h
  refine cR_virt (cl := 10) (i := l0) (as := [.int l1]) lk102_62 mr_10_124 na_104 rfl rfl (by first | exact Nat.le_of_ble_eq_true rfl | (simp [xcat, cvo_cat, cat_i, cat_j, cat_r]; done)) wv_104 wc_104 (cob_any rfl bl0) (k_Machine_unitsOf_ok hp0 hL hF (d := d + 0) (cob_any rfl bl0) h20) (fun m21  => ?_)
  refine cR_lift (fun _ _ kk => eE_iadd lk102_65 kk) ?_
  obtain ⟨σ22, h23, h⟩ := Option.bind_eq_some_iff.mp h
  refine cR_putI lk102_66 rf_10_48 rfl (cob_any rfl bl0) pf_10_5 rfl h23 ?_
  cases h
  exact cR_end lk102_69 rfl rfl rfl
def k_Machine_storeValue (σ : CS) (l0 : Nat) (l1 : Int32) (l2 : Int32) (l3 : Int32) : Option (CS) := k_Machine_storeValue_b0 σ l0 l1 l2 l3
theorem k_Machine_storeValue_ok {E : CE} {pF : Nat → List Value → xH → Option (Option Value × xH)} (hp0 : xNPc pF) (hL : lcAll E pF) (hF : lcF pF) {d : Nat} {g : CG} {σ : CS} {l0 : Nat} {l1 : Int32} {l2 : Int32} {l3 : Int32} {res : CS} (bl0 : cob σ 10 l0) (h : k_Machine_storeValue σ l0 l1 l2 l3 = some res) : cCo E cQ1 pF (d + 2) 102 [.ref (coa E 10 l0), .int l1, .int l2, .int l3] none res g σ :=
  cCo_R kk_102 mo_102 ni_102 xm_102 (Nat.le_of_ble_eq_true rfl) (hp0 102 (by decide) _) (k_Machine_storeValue_b0_ok hp0 hL hF g _ σ l0 l1 l2 l3 bl0 rfl rfl rfl rfl _ h)
/-! k_Machine_swapKey (103), depth 3 -/
def k_Machine_swapKey_b93 (F : Nat)  (σ : CS) : Option (CS) :=
  some σ
set_option maxRecDepth 4000 in
theorem k_Machine_swapKey_b93_ok {E : CE} {pF : Nat → List Value → xH → Option (Option Value × xH)} (hp0 : xNPc pF) (hL : lcAll E pF) (hF : lcF pF) {d : Nat} {F : Nat}   : ∀ (g : CG) (lv : xL) (σ : CS), ∀ res, k_Machine_swapKey_b93 F  σ = some res → cR E cQ1 pF (d + 2) kT103 10 6 none none res g σ (93, lv, []) := by
  intro g lv σ res h
  unfold k_Machine_swapKey_b93 at h
  cases h
  exact cR_end lk103_93 rfl rfl rfl
def k_Machine_swapKey_b0 (F : Nat)  (σ : CS) (l0 : Nat) (l1 : Int32) (l2 : Int32) (l3 : Int32) (l4 : Int32) : Option (CS) :=
  (k_Machine_lowerBound F σ l0 l1 l2).bind fun p1 =>
  (k_Machine_isKey F σ l0 p1 l1 l2).bind fun p12 =>
  if xc0 .ne p12 = true then (
    (k_Machine_hasValue F σ l0 p1 (l1 + l2) l3).bind fun p16 =>
    if xc0 .ne p16 = true then (
      (k_Machine_mayStore σ l0 p1 ((1 : Int32)) (l2 + l4)).bind fun p20 =>
      if xc0 .ne p20 = true then (
        (k_Machine_say σ l0 ((1 : Int32)) ((-1 : Int32))).bind fun p24 =>
        (k_Machine_storeValue p24 l0 p1 ((l1 + l2) + l3) l4).bind fun p27 =>
        k_Machine_swapKey_b93 F  p27
      ) else (
        (k_Machine_say σ l0 ((2 : Int32)) ((-1 : Int32))).bind fun p30 =>
        k_Machine_swapKey_b93 F  p30
      )
    ) else (
      (k_Machine_say σ l0 ((0 : Int32)) p1).bind fun p33 =>
      k_Machine_swapKey_b93 F  p33
    )
  ) else (
    (k_Machine_say σ l0 ((3 : Int32)) ((-1 : Int32))).bind fun p36 =>
    k_Machine_swapKey_b93 F  p36
  )
set_option maxRecDepth 4000 in
theorem k_Machine_swapKey_b0_ok {E : CE} {pF : Nat → List Value → xH → Option (Option Value × xH)} (hp0 : xNPc pF) (hL : lcAll E pF) (hF : lcF pF) {d : Nat} {F : Nat}   : ∀ (g : CG) (lv : xL) (σ : CS) (l0 : Nat) (l1 : Int32) (l2 : Int32) (l3 : Int32) (l4 : Int32), (cob σ 10 l0) → (xg lv 0 = some (.ref (coa E 10 l0))) → (xg lv 1 = some (.int l1)) → (xg lv 2 = some (.int l2)) → (xg lv 3 = some (.int l3)) → (xg lv 4 = some (.int l4)) → ∀ res, k_Machine_swapKey_b0 F  σ l0 l1 l2 l3 l4 = some res → cR E cQ1 pF (d + 2) kT103 10 6 none none res g σ (0, lv, []) := by
  intro g lv σ l0 l1 l2 l3 l4 bl0 g0 g1 g2 g3 g4 res h
  unfold k_Machine_swapKey_b0 at h
  refine cR_lift (fun _ _ kk => eE_aload_n lk103_0 g0 kk) ?_
  refine cR_lift (fun _ _ kk => eE_iload_n lk103_1 g1 kk) ?_
  refine cR_lift (fun _ _ kk => eE_iload_n lk103_2 g2 kk) ?_
  obtain ⟨p1, h2, h⟩ := Option.bind_eq_some_iff.mp h
  refine cR_virt (cl := 10) (i := l0) (as := [.int l1, .int l2]) lk103_3 mr_10_101 na_90 rfl rfl (by first | exact Nat.le_of_ble_eq_true rfl | (simp [xcat, cvo_cat, cat_i, cat_j, cat_r]; done)) wv_90 wc_90 bl0 (k_Machine_lowerBound_ok hp0 hL hF (d := d + 0) bl0 h2) (fun m3  => ?_)
  refine cR_stI (j := 5) lk103_6 (Or.inl rfl) (by decide) (fun vq4 gq5 kq6 => ?_)
  have gq7 := kq6 0 _ (by decide) (fun e => absurd e (by decide)) g0
  have gq8 := kq6 1 _ (by decide) (fun e => absurd e (by decide)) g1
  have gq9 := kq6 2 _ (by decide) (fun e => absurd e (by decide)) g2
  have gq10 := kq6 3 _ (by decide) (fun e => absurd e (by decide)) g3
  have gq11 := kq6 4 _ (by decide) (fun _ => rfl) g4
  refine cR_lift (fun _ _ kk => eE_aload_n lk103_8 gq7 kk) ?_
  refine cR_lift (fun _ _ kk => eE_iload lk103_9 gq5 kk) ?_
  refine cR_lift (fun _ _ kk => eE_iload_n lk103_11 gq8 kk) ?_
  refine cR_lift (fun _ _ kk => eE_iload_n lk103_12 gq9 kk) ?_
  obtain ⟨p12, h13, h⟩ := Option.bind_eq_some_iff.mp h
  refine cR_virt (cl := 10) (i := l0) (as := [.int p1, .int l1, .int l2]) lk103_13 mr_10_104 na_86 rfl rfl (by first | exact Nat.le_of_ble_eq_true rfl | (simp [xcat, cvo_cat, cat_i, cat_j, cat_r]; done)) wv_86 wc_86 bl0 (k_Machine_isKey_ok hp0 hL hF (d := d + 0) bl0 h13) (fun m14  => ?_)
  refine cR_if (t := 28) lk103_16 (by decide) (fun c15 => ?_) (fun c15 => ?_)
  · rw [if_pos c15] at h
    refine cR_lift (fun _ _ kk => eE_aload_n lk103_28 gq7 kk) ?_
    refine cR_lift (fun _ _ kk => eE_iload lk103_29 gq5 kk) ?_
    refine cR_lift (fun _ _ kk => eE_iload_n lk103_31 gq8 kk) ?_
    refine cR_lift (fun _ _ kk => eE_iload_n lk103_32 gq9 kk) ?_
    refine cR_lift (fun _ _ kk => eE_iadd lk103_33 kk) ?_
    refine cR_lift (fun _ _ kk => eE_iload_n lk103_34 gq10 kk) ?_
    obtain ⟨p16, h17, h⟩ := Option.bind_eq_some_iff.mp h
    refine cR_virt (cl := 10) (i := l0) (as := [.int p1, .int (l1 + l2), .int l3]) lk103_35 mr_10_121 na_83 rfl rfl (by first | exact Nat.le_of_ble_eq_true rfl | (simp [xcat, cvo_cat, cat_i, cat_j, cat_r]; done)) wv_83 wc_83 bl0 (k_Machine_hasValue_ok hp0 hL hF (d := d + 1) bl0 h17) (fun m18  => ?_)
    refine cR_if (t := 51) lk103_38 (by decide) (fun c19 => ?_) (fun c19 => ?_)
    · rw [if_pos c19] at h
      refine cR_lift (fun _ _ kk => eE_aload_n lk103_51 gq7 kk) ?_
      refine cR_lift (fun _ _ kk => eE_iload lk103_52 gq5 kk) ?_
      refine cR_lift (fun _ _ kk => eE_iconst (v := 1) lk103_54 (by decide) kk) ?_
      refine cR_lift (fun _ _ kk => eE_iload_n lk103_55 gq9 kk) ?_
      refine cR_lift (fun _ _ kk => eE_iload lk103_56 gq11 kk) ?_
      refine cR_lift (fun _ _ kk => eE_iadd lk103_58 kk) ?_
      obtain ⟨p20, h21, h⟩ := Option.bind_eq_some_iff.mp h
      refine cR_virt (cl := 10) (i := l0) (as := [.int p1, .int ((1 : Int32)), .int (l2 + l4)]) lk103_59 mr_10_108 na_91 rfl rfl (by first | exact Nat.le_of_ble_eq_true rfl | (simp [xcat, cvo_cat, cat_i, cat_j, cat_r]; done)) wv_91 wc_91 bl0 (k_Machine_mayStore_ok hp0 hL hF (d := d + 0) bl0 h21) (fun m22  => ?_)
      refine cR_if (t := 74) lk103_62 (by decide) (fun c23 => ?_) (fun c23 => ?_)
      · rw [if_pos c23] at h
        refine cR_lift (fun _ _ kk => eE_aload_n lk103_74 gq7 kk) ?_
        refine cR_lift (fun _ _ kk => eE_iconst (v := 1) lk103_75 (by decide) kk) ?_
        refine cR_lift (fun _ _ kk => eE_iconst (v := (-1)) lk103_76 (by decide) kk) ?_
        obtain ⟨p24, h25, h⟩ := Option.bind_eq_some_iff.mp h
        refine cR_virt (cl := 10) (i := l0) (as := [.int ((1 : Int32)), .int ((-1 : Int32))]) lk103_77 mr_10_112 na_100 rfl rfl (by first | exact Nat.le_of_ble_eq_true rfl | (simp [xcat, cvo_cat, cat_i, cat_j, cat_r]; done)) wv_100 wc_100 bl0 (k_Machine_say_ok hp0 hL hF (d := d + 1) bl0 h25) (fun m26  => ?_)
        refine cR_lift (fun _ _ kk => eE_aload_n lk103_80 gq7 kk) ?_
        refine cR_lift (fun _ _ kk => eE_iload lk103_81 gq5 kk) ?_
        refine cR_lift (fun _ _ kk => eE_iload_n lk103_83 gq8 kk) ?_
        refine cR_lift (fun _ _ kk => eE_iload_n lk103_84 gq9 kk) ?_
        refine cR_lift (fun _ _ kk => eE_iadd lk103_85 kk) ?_
        refine cR_lift (fun _ _ kk => eE_iload_n lk103_86 gq10 kk) ?_
        refine cR_lift (fun _ _ kk => eE_iadd lk103_87 kk) ?_
        refine cR_lift (fun _ _ kk => eE_iload lk103_88 gq11 kk) ?_
        obtain ⟨p27, h28, h⟩ := Option.bind_eq_some_iff.mp h
        refine cR_virt (cl := 10) (i := l0) (as := [.int p1, .int ((l1 + l2) + l3), .int l4]) lk103_90 mr_10_118 na_102 rfl rfl (by first | exact Nat.le_of_ble_eq_true rfl | (simp [xcat, cvo_cat, cat_i, cat_j, cat_r]; done)) wv_102 wc_102 (cob_any rfl bl0) (k_Machine_storeValue_ok hp0 hL hF (d := d + 0) (cob_any rfl bl0) h28) (fun m29  => ?_)
        exact k_Machine_swapKey_b93_ok hp0 hL hF  g vq4 p27  _ h
      · rw [if_neg c23] at h
        refine cR_lift (fun _ _ kk => eE_aload_n lk103_65 gq7 kk) ?_
        refine cR_lift (fun _ _ kk => eE_iconst (v := 2) lk103_66 (by decide) kk) ?_
        refine cR_lift (fun _ _ kk => eE_iconst (v := (-1)) lk103_67 (by decide) kk) ?_
        obtain ⟨p30, h31, h⟩ := Option.bind_eq_some_iff.mp h
        refine cR_virt (cl := 10) (i := l0) (as := [.int ((2 : Int32)), .int ((-1 : Int32))]) lk103_68 mr_10_112 na_100 rfl rfl (by first | exact Nat.le_of_ble_eq_true rfl | (simp [xcat, cvo_cat, cat_i, cat_j, cat_r]; done)) wv_100 wc_100 bl0 (k_Machine_say_ok hp0 hL hF (d := d + 1) bl0 h31) (fun m32  => ?_)
        refine cR_lift (fun _ _ kk => eE_goto (t := 93) lk103_71 (by decide) kk) ?_
        exact k_Machine_swapKey_b93_ok hp0 hL hF  g vq4 p30  _ h
    · rw [if_neg c19] at h
      refine cR_lift (fun _ _ kk => eE_aload_n lk103_41 gq7 kk) ?_
      refine cR_lift (fun _ _ kk => eE_iconst (v := 0) lk103_42 (by decide) kk) ?_
      refine cR_lift (fun _ _ kk => eE_iload lk103_43 gq5 kk) ?_
      obtain ⟨p33, h34, h⟩ := Option.bind_eq_some_iff.mp h
      refine cR_virt (cl := 10) (i := l0) (as := [.int ((0 : Int32)), .int p1]) lk103_45 mr_10_112 na_100 rfl rfl (by first | exact Nat.le_of_ble_eq_true rfl | (simp [xcat, cvo_cat, cat_i, cat_j, cat_r]; done)) wv_100 wc_100 bl0 (k_Machine_say_ok hp0 hL hF (d := d + 1) bl0 h34) (fun m35  => ?_)
      refine cR_lift (fun _ _ kk => eE_goto (t := 93) lk103_48 (by decide) kk) ?_
      exact k_Machine_swapKey_b93_ok hp0 hL hF  g vq4 p33  _ h
  · rw [if_neg c15] at h
    refine cR_lift (fun _ _ kk => eE_aload_n lk103_19 gq7 kk) ?_
    refine cR_lift (fun _ _ kk => eE_iconst (v := 3) lk103_20 (by decide) kk) ?_
    refine cR_lift (fun _ _ kk => eE_iconst (v := (-1)) lk103_21 (by decide) kk) ?_
    obtain ⟨p36, h37, h⟩ := Option.bind_eq_some_iff.mp h
    refine cR_virt (cl := 10) (i := l0) (as := [.int ((3 : Int32)), .int ((-1 : Int32))]) lk103_22 mr_10_112 na_100 rfl rfl (by first | exact Nat.le_of_ble_eq_true rfl | (simp [xcat, cvo_cat, cat_i, cat_j, cat_r]; done)) wv_100 wc_100 bl0 (k_Machine_say_ok hp0 hL hF (d := d + 1) bl0 h37) (fun m38  => ?_)
    refine cR_lift (fun _ _ kk => eE_goto (t := 93) lk103_25 (by decide) kk) ?_
    exact k_Machine_swapKey_b93_ok hp0 hL hF  g vq4 p36  _ h
def k_Machine_swapKey (F : Nat) (σ : CS) (l0 : Nat) (l1 : Int32) (l2 : Int32) (l3 : Int32) (l4 : Int32) : Option (CS) := k_Machine_swapKey_b0 F σ l0 l1 l2 l3 l4
theorem k_Machine_swapKey_ok {E : CE} {pF : Nat → List Value → xH → Option (Option Value × xH)} (hp0 : xNPc pF) (hL : lcAll E pF) (hF : lcF pF) {d : Nat} {g : CG} {σ : CS} {F : Nat} {l0 : Nat} {l1 : Int32} {l2 : Int32} {l3 : Int32} {l4 : Int32} {res : CS} (bl0 : cob σ 10 l0) (h : k_Machine_swapKey F σ l0 l1 l2 l3 l4 = some res) : cCo E cQ1 pF (d + 3) 103 [.ref (coa E 10 l0), .int l1, .int l2, .int l3, .int l4] none res g σ :=
  cCo_R kk_103 mo_103 ni_103 xm_103 (Nat.le_of_ble_eq_true rfl) (hp0 103 (by decide) _) (k_Machine_swapKey_b0_ok hp0 hL hF g _ σ l0 l1 l2 l3 l4 bl0 rfl rfl rfl rfl rfl _ h)
/-! k_Machine_putKey (95), depth 3 -/
def k_Machine_putKey_b77 (F : Nat)  (σ : CS) (l0 : Nat) (l1 : Int32) (l2 : Int32) (l3 : Int32) (l4 : Int32) : Option (CS) :=
  (k_Machine_storeValue σ l0 l4 (l1 + l2) l3).bind fun p1 =>
  some p1
set_option maxRecDepth 4000 in
theorem k_Machine_putKey_b77_ok {E : CE} {pF : Nat → List Value → xH → Option (Option Value × xH)} (hp0 : xNPc pF) (hL : lcAll E pF) (hF : lcF pF) {d : Nat} {F : Nat}   : ∀ (g : CG) (lv : xL) (σ : CS) (l0 : Nat) (l1 : Int32) (l2 : Int32) (l3 : Int32) (l4 : Int32), (cob σ 10 l0) → (xg lv 0 = some (.ref (coa E 10 l0))) → (xg lv 1 = some (.int l1)) → (xg lv 2 = some (.int l2)) → (xg lv 3 = some (.int l3)) → (xg lv 4 = some (.int l4)) → ∀ res, k_Machine_putKey_b77 F  σ l0 l1 l2 l3 l4 = some res → cR E cQ1 pF (d + 2) kT95 10 6 none none res g σ (77, lv, []) := by
  intro g lv σ l0 l1 l2 l3 l4 bl0 g0 g1 g2 g3 g4 res h
  unfold k_Machine_putKey_b77 at h
  refine cR_lift (fun _ _ kk => eE_aload_n lk95_77 g0 kk) ?_
  refine cR_lift (fun _ _ kk => eE_iload lk95_78 g4 kk) ?_
  refine cR_lift (fun _ _ kk => eE_iload_n lk95_80 g1 kk) ?_
  refine cR_lift (fun _ _ kk => eE_iload_n lk95_81 g2 kk) ?_
  refine cR_lift (fun _ _ kk => eE_iadd lk95_82 kk) ?_
  refine cR_lift (fun _ _ kk => eE_iload_n lk95_83 g3 kk) ?_
  obtain ⟨p1, h2, h⟩ := Option.bind_eq_some_iff.mp h
  refine cR_virt (cl := 10) (i := l0) (as := [.int l4, .int (l1 + l2), .int l3]) lk95_84 mr_10_118 na_102 rfl rfl (by first | exact Nat.le_of_ble_eq_true rfl | (simp [xcat, cvo_cat, cat_i, cat_j, cat_r]; done)) wv_102 wc_102 bl0 (k_Machine_storeValue_ok hp0 hL hF (d := d + 0) bl0 h2) (fun m3  => ?_)
  cases h
  exact cR_end lk95_87 rfl rfl rfl
def k_Machine_putKey_b61 (F : Nat)  (σ : CS) (s0 : Nat) (s1 : Int32) (s2 : Int32) (l0 : Nat) (l1 : Int32) (l2 : Int32) (l3 : Int32) (l4 : Int32) (l5 : Int32) : Option (CS) :=
  (k_Machine_say σ s0 s1 s2).bind fun p4 =>
  if xc0 .ne l5 = true then (
    k_Machine_putKey_b77 F  p4 l0 l1 l2 l3 l4
  ) else (
    (k_Machine_insertKey p4 l0 l4 l1 l2).bind fun p8 =>
    k_Machine_putKey_b77 F  p8 l0 l1 l2 l3 l4
  )
set_option maxRecDepth 4000 in
theorem k_Machine_putKey_b61_ok {E : CE} {pF : Nat → List Value → xH → Option (Option Value × xH)} (hp0 : xNPc pF) (hL : lcAll E pF) (hF : lcF pF) {d : Nat} {F : Nat}   : ∀ (g : CG) (lv : xL) (σ : CS) (s0 : Nat) (s1 : Int32) (s2 : Int32) (l0 : Nat) (l1 : Int32) (l2 : Int32) (l3 : Int32) (l4 : Int32) (l5 : Int32), (cob σ 10 s0) → (cob σ 10 l0) → (xg lv 0 = some (.ref (coa E 10 l0))) → (xg lv 1 = some (.int l1)) → (xg lv 2 = some (.int l2)) → (xg lv 3 = some (.int l3)) → (xg lv 4 = some (.int l4)) → (xg lv 5 = some (.int l5)) → ∀ res, k_Machine_putKey_b61 F  σ s0 s1 s2 l0 l1 l2 l3 l4 l5 = some res → cR E cQ1 pF (d + 2) kT95 10 6 none none res g σ (61, lv, [.int s2, .int s1, .ref (coa E 10 s0)]) := by
  intro g lv σ s0 s1 s2 l0 l1 l2 l3 l4 l5 bs0 bl0 g0 g1 g2 g3 g4 g5 res h
  unfold k_Machine_putKey_b61 at h
  obtain ⟨p4, h5, h⟩ := Option.bind_eq_some_iff.mp h
  refine cR_virt (cl := 10) (i := s0) (as := [.int s1, .int s2]) lk95_61 mr_10_112 na_100 rfl rfl (by first | exact Nat.le_of_ble_eq_true rfl | (simp [xcat, cvo_cat, cat_i, cat_j, cat_r]; done)) wv_100 wc_100 bs0 (k_Machine_say_ok hp0 hL hF (d := d + 1) bs0 h5) (fun m6  => ?_)
  refine cR_lift (fun _ _ kk => eE_iload lk95_64 g5 kk) ?_
  refine cR_if (t := 77) lk95_66 (by decide) (fun c7 => ?_) (fun c7 => ?_)
  · rw [if_pos c7] at h
    exact k_Machine_putKey_b77_ok hp0 hL hF  g lv p4 l0 l1 l2 l3 l4 (cob_any rfl bl0) g0 g1 g2 g3 g4 _ h
  · rw [if_neg c7] at h
    refine cR_lift (fun _ _ kk => eE_aload_n lk95_69 g0 kk) ?_
    refine cR_lift (fun _ _ kk => eE_iload lk95_70 g4 kk) ?_
    refine cR_lift (fun _ _ kk => eE_iload_n lk95_72 g1 kk) ?_
    refine cR_lift (fun _ _ kk => eE_iload_n lk95_73 g2 kk) ?_
    obtain ⟨p8, h9, h⟩ := Option.bind_eq_some_iff.mp h
    refine cR_virt (cl := 10) (i := l0) (as := [.int l4, .int l1, .int l2]) lk95_74 mr_10_115 na_85 rfl rfl (by first | exact Nat.le_of_ble_eq_true rfl | (simp [xcat, cvo_cat, cat_i, cat_j, cat_r]; done)) wv_85 wc_85 (cob_any rfl bl0) (k_Machine_insertKey_ok hp0 hL hF (d := d + 0) (cob_any rfl bl0) h9) (fun m10  => ?_)
    exact k_Machine_putKey_b77_ok hp0 hL hF  g lv p8 l0 l1 l2 l3 l4 (cob_any rfl bl0) g0 g1 g2 g3 g4 _ h
def k_Machine_putKey_b50 (F : Nat)  (σ : CS) (s0 : Nat) (s1 : Int32) (l0 : Nat) (l1 : Int32) (l2 : Int32) (l3 : Int32) (l4 : Int32) (l5 : Int32) : Option (CS) :=
  if xc0 .eq l5 = true then (
    k_Machine_putKey_b61 F  σ s0 s1 ((-1 : Int32)) l0 l1 l2 l3 l4 l5
  ) else (
    k_Machine_putKey_b61 F  σ s0 s1 l4 l0 l1 l2 l3 l4 l5
  )
set_option maxRecDepth 4000 in
theorem k_Machine_putKey_b50_ok {E : CE} {pF : Nat → List Value → xH → Option (Option Value × xH)} (hp0 : xNPc pF) (hL : lcAll E pF) (hF : lcF pF) {d : Nat} {F : Nat}   : ∀ (g : CG) (lv : xL) (σ : CS) (s0 : Nat) (s1 : Int32) (l0 : Nat) (l1 : Int32) (l2 : Int32) (l3 : Int32) (l4 : Int32) (l5 : Int32), (cob σ 10 s0) → (cob σ 10 l0) → (xg lv 0 = some (.ref (coa E 10 l0))) → (xg lv 1 = some (.int l1)) → (xg lv 2 = some (.int l2)) → (xg lv 3 = some (.int l3)) → (xg lv 4 = some (.int l4)) → (xg lv 5 = some (.int l5)) → ∀ res, k_Machine_putKey_b50 F  σ s0 s1 l0 l1 l2 l3 l4 l5 = some res → cR E cQ1 pF (d + 2) kT95 10 6 none none res g σ (50, lv, [.int s1, .ref (coa E 10 s0)]) := by
  intro g lv σ s0 s1 l0 l1 l2 l3 l4 l5 bs0 bl0 g0 g1 g2 g3 g4 g5 res h
  unfold k_Machine_putKey_b50 at h
  refine cR_lift (fun _ _ kk => eE_iload lk95_50 g5 kk) ?_
  refine cR_if (t := 60) lk95_52 (by decide) (fun c11 => ?_) (fun c11 => ?_)
  · rw [if_pos c11] at h
    refine cR_lift (fun _ _ kk => eE_iconst (v := (-1)) lk95_60 (by decide) kk) ?_
    exact k_Machine_putKey_b61_ok hp0 hL hF  g lv σ s0 s1 ((-1 : Int32)) l0 l1 l2 l3 l4 l5 bs0 bl0 g0 g1 g2 g3 g4 g5 _ h
  · rw [if_neg c11] at h
    refine cR_lift (fun _ _ kk => eE_iload lk95_55 g4 kk) ?_
    refine cR_lift (fun _ _ kk => eE_goto (t := 61) lk95_57 (by decide) kk) ?_
    exact k_Machine_putKey_b61_ok hp0 hL hF  g lv σ s0 s1 l4 l0 l1 l2 l3 l4 l5 bs0 bl0 g0 g1 g2 g3 g4 g5 _ h
def k_Machine_putKey_b0 (F : Nat)  (σ : CS) (l0 : Nat) (l1 : Int32) (l2 : Int32) (l3 : Int32) : Option (CS) :=
  (k_Machine_lowerBound F σ l0 l1 l2).bind fun p12 =>
  (k_Machine_isKey F σ l0 p12 l1 l2).bind fun p22 =>
  (k_Machine_mayStore σ l0 p12 p22 (l2 + l3)).bind fun p33 =>
  if xc0 .ne p33 = true then (
    if xc0 .eq p22 = true then (
      k_Machine_putKey_b50 F  σ l0 ((0 : Int32)) l0 l1 l2 l3 p12 p22
    ) else (
      k_Machine_putKey_b50 F  σ l0 ((1 : Int32)) l0 l1 l2 l3 p12 p22
    )
  ) else (
    (k_Machine_say σ l0 ((2 : Int32)) ((-1 : Int32))).bind fun p38 =>
    some p38
  )
set_option maxRecDepth 4000 in
theorem k_Machine_putKey_b0_ok {E : CE} {pF : Nat → List Value → xH → Option (Option Value × xH)} (hp0 : xNPc pF) (hL : lcAll E pF) (hF : lcF pF) {d : Nat} {F : Nat}   : ∀ (g : CG) (lv : xL) (σ : CS) (l0 : Nat) (l1 : Int32) (l2 : Int32) (l3 : Int32), (cob σ 10 l0) → (xg lv 0 = some (.ref (coa E 10 l0))) → (xg lv 1 = some (.int l1)) → (xg lv 2 = some (.int l2)) → (xg lv 3 = some (.int l3)) → ∀ res, k_Machine_putKey_b0 F  σ l0 l1 l2 l3 = some res → cR E cQ1 pF (d + 2) kT95 10 6 none none res g σ (0, lv, []) := by
  intro g lv σ l0 l1 l2 l3 bl0 g0 g1 g2 g3 res h
  unfold k_Machine_putKey_b0 at h
  refine cR_lift (fun _ _ kk => eE_aload_n lk95_0 g0 kk) ?_
  refine cR_lift (fun _ _ kk => eE_iload_n lk95_1 g1 kk) ?_
  refine cR_lift (fun _ _ kk => eE_iload_n lk95_2 g2 kk) ?_
  obtain ⟨p12, h13, h⟩ := Option.bind_eq_some_iff.mp h
  refine cR_virt (cl := 10) (i := l0) (as := [.int l1, .int l2]) lk95_3 mr_10_101 na_90 rfl rfl (by first | exact Nat.le_of_ble_eq_true rfl | (simp [xcat, cvo_cat, cat_i, cat_j, cat_r]; done)) wv_90 wc_90 bl0 (k_Machine_lowerBound_ok hp0 hL hF (d := d + 0) bl0 h13) (fun m14  => ?_)
  refine cR_stI (j := 4) lk95_6 (Or.inl rfl) (by decide) (fun vq15 gq16 kq17 => ?_)
  have gq18 := kq17 0 _ (by decide) (fun e => absurd e (by decide)) g0
  have gq19 := kq17 1 _ (by decide) (fun e => absurd e (by decide)) g1
  have gq20 := kq17 2 _ (by decide) (fun e => absurd e (by decide)) g2
  have gq21 := kq17 3 _ (by decide) (fun _ => rfl) g3
  refine cR_lift (fun _ _ kk => eE_aload_n lk95_8 gq18 kk) ?_
  refine cR_lift (fun _ _ kk => eE_iload lk95_9 gq16 kk) ?_
  refine cR_lift (fun _ _ kk => eE_iload_n lk95_11 gq19 kk) ?_
  refine cR_lift (fun _ _ kk => eE_iload_n lk95_12 gq20 kk) ?_
  obtain ⟨p22, h23, h⟩ := Option.bind_eq_some_iff.mp h
  refine cR_virt (cl := 10) (i := l0) (as := [.int p12, .int l1, .int l2]) lk95_13 mr_10_104 na_86 rfl rfl (by first | exact Nat.le_of_ble_eq_true rfl | (simp [xcat, cvo_cat, cat_i, cat_j, cat_r]; done)) wv_86 wc_86 bl0 (k_Machine_isKey_ok hp0 hL hF (d := d + 0) bl0 h23) (fun m24  => ?_)
  refine cR_stI (j := 5) lk95_16 (Or.inl rfl) (by decide) (fun vq25 gq26 kq27 => ?_)
  have gq28 := kq27 0 _ (by decide) (fun e => absurd e (by decide)) gq18
  have gq29 := kq27 1 _ (by decide) (fun e => absurd e (by decide)) gq19
  have gq30 := kq27 2 _ (by decide) (fun e => absurd e (by decide)) gq20
  have gq31 := kq27 3 _ (by decide) (fun e => absurd e (by decide)) gq21
  have gq32 := kq27 4 _ (by decide) (fun _ => rfl) gq16
  refine cR_lift (fun _ _ kk => eE_aload_n lk95_18 gq28 kk) ?_
  refine cR_lift (fun _ _ kk => eE_iload lk95_19 gq32 kk) ?_
  refine cR_lift (fun _ _ kk => eE_iload lk95_21 gq26 kk) ?_
  refine cR_lift (fun _ _ kk => eE_iload_n lk95_23 gq30 kk) ?_
  refine cR_lift (fun _ _ kk => eE_iload_n lk95_24 gq31 kk) ?_
  refine cR_lift (fun _ _ kk => eE_iadd lk95_25 kk) ?_
  obtain ⟨p33, h34, h⟩ := Option.bind_eq_some_iff.mp h
  refine cR_virt (cl := 10) (i := l0) (as := [.int p12, .int p22, .int (l2 + l3)]) lk95_26 mr_10_108 na_91 rfl rfl (by first | exact Nat.le_of_ble_eq_true rfl | (simp [xcat, cvo_cat, cat_i, cat_j, cat_r]; done)) wv_91 wc_91 bl0 (k_Machine_mayStore_ok hp0 hL hF (d := d + 0) bl0 h34) (fun m35  => ?_)
  refine cR_if (t := 39) lk95_29 (by decide) (fun c36 => ?_) (fun c36 => ?_)
  · rw [if_pos c36] at h
    refine cR_lift (fun _ _ kk => eE_aload_n lk95_39 gq28 kk) ?_
    refine cR_lift (fun _ _ kk => eE_iload lk95_40 gq26 kk) ?_
    refine cR_if (t := 49) lk95_42 (by decide) (fun c37 => ?_) (fun c37 => ?_)
    · rw [if_pos c37] at h
      refine cR_lift (fun _ _ kk => eE_iconst (v := 0) lk95_49 (by decide) kk) ?_
      exact k_Machine_putKey_b50_ok hp0 hL hF  g vq25 σ l0 ((0 : Int32)) l0 l1 l2 l3 p12 p22 bl0 bl0 gq28 gq29 gq30 gq31 gq32 gq26 _ h
    · rw [if_neg c37] at h
      refine cR_lift (fun _ _ kk => eE_iconst (v := 1) lk95_45 (by decide) kk) ?_
      refine cR_lift (fun _ _ kk => eE_goto (t := 50) lk95_46 (by decide) kk) ?_
      exact k_Machine_putKey_b50_ok hp0 hL hF  g vq25 σ l0 ((1 : Int32)) l0 l1 l2 l3 p12 p22 bl0 bl0 gq28 gq29 gq30 gq31 gq32 gq26 _ h
  · rw [if_neg c36] at h
    refine cR_lift (fun _ _ kk => eE_aload_n lk95_32 gq28 kk) ?_
    refine cR_lift (fun _ _ kk => eE_iconst (v := 2) lk95_33 (by decide) kk) ?_
    refine cR_lift (fun _ _ kk => eE_iconst (v := (-1)) lk95_34 (by decide) kk) ?_
    obtain ⟨p38, h39, h⟩ := Option.bind_eq_some_iff.mp h
    refine cR_virt (cl := 10) (i := l0) (as := [.int ((2 : Int32)), .int ((-1 : Int32))]) lk95_35 mr_10_112 na_100 rfl rfl (by first | exact Nat.le_of_ble_eq_true rfl | (simp [xcat, cvo_cat, cat_i, cat_j, cat_r]; done)) wv_100 wc_100 bl0 (k_Machine_say_ok hp0 hL hF (d := d + 1) bl0 h39) (fun m40  => ?_)
    cases h
    exact cR_end lk95_38 rfl rfl rfl
def k_Machine_putKey (F : Nat) (σ : CS) (l0 : Nat) (l1 : Int32) (l2 : Int32) (l3 : Int32) : Option (CS) := k_Machine_putKey_b0 F σ l0 l1 l2 l3
theorem k_Machine_putKey_ok {E : CE} {pF : Nat → List Value → xH → Option (Option Value × xH)} (hp0 : xNPc pF) (hL : lcAll E pF) (hF : lcF pF) {d : Nat} {g : CG} {σ : CS} {F : Nat} {l0 : Nat} {l1 : Int32} {l2 : Int32} {l3 : Int32} {res : CS} (bl0 : cob σ 10 l0) (h : k_Machine_putKey F σ l0 l1 l2 l3 = some res) : cCo E cQ1 pF (d + 3) 95 [.ref (coa E 10 l0), .int l1, .int l2, .int l3] none res g σ :=
  cCo_R kk_95 mo_95 ni_95 xm_95 (Nat.le_of_ble_eq_true rfl) (hp0 95 (by decide) _) (k_Machine_putKey_b0_ok hp0 hL hF g _ σ l0 l1 l2 l3 bl0 rfl rfl rfl rfl _ h)
/-! k_Machine_operate (94), depth 4 -/
def k_Machine_operate_b127 (F : Nat)  (σ : CS) (l0 : Nat) (l1 : Int32) (l2 : Int32) : Option (CS) :=
  (cwr σ 10 l0 2 ((l1 * ((5 : Int32))) + ((2 : Int32))) l2).bind fun σ7 =>
  (cwr σ7 10 l0 2 ((l1 * ((5 : Int32))) + ((3 : Int32))) (cI σ7 10 l0 13 0)).bind fun σ9 =>
  (cwr σ9 10 l0 2 ((l1 * ((5 : Int32))) + ((4 : Int32))) (cI σ9 10 l0 11 0)).bind fun σ11 =>
  (ccpy σ11 10 l0 10 ((0 : Int32)) 10 l0 3 (l1 * ((101 : Int32))) (cI σ11 10 l0 11 0)).bind fun σ13 =>
  some σ13
set_option maxRecDepth 4000 in
theorem k_Machine_operate_b127_ok {E : CE} {pF : Nat → List Value → xH → Option (Option Value × xH)} (hp0 : xNPc pF) (hL : lcAll E pF) (hF : lcF pF) {d : Nat} {F : Nat}   : ∀ (g : CG) (lv : xL) (σ : CS) (l0 : Nat) (l1 : Int32) (l2 : Int32), (cob σ 10 l0) → (xg lv 0 = some (.ref (coa E 10 l0))) → (xg lv 1 = some (.int l1)) → (xg lv 2 = some (.int l2)) → ∀ res, k_Machine_operate_b127 F  σ l0 l1 l2 = some res → cR E cQ1 pF (d + 3) kT94 10 9 none none res g σ (127, lv, []) := by
  intro g lv σ l0 l1 l2 bl0 g0 g1 g2 res h
  unfold k_Machine_operate_b127 at h
  refine cR_lift (fun _ _ kk => eE_iload_n lk94_127 g1 kk) ?_
  refine cR_lift (fun _ _ kk => eE_iconst (v := 5) lk94_128 (by decide) kk) ?_
  refine cR_lift (fun _ _ kk => eE_imul lk94_129 kk) ?_
  refine cR_stI (j := 8) lk94_130 (Or.inl rfl) (by decide) (fun vq1 gq2 kq3 => ?_)
  have gq4 := kq3 0 _ (by decide) (fun e => absurd e (by decide)) g0
  have gq5 := kq3 1 _ (by decide) (fun e => absurd e (by decide)) g1
  have gq6 := kq3 2 _ (by decide) (fun e => absurd e (by decide)) g2
  refine cR_lift (fun _ _ kk => eE_aload_n lk94_132 gq4 kk) ?_
  refine cR_getA lk94_133 rf_10_11 (by decide) bl0 ?_
  refine cR_lift (fun _ _ kk => eE_iload lk94_136 gq2 kk) ?_
  refine cR_lift (fun _ _ kk => eE_iconst (v := 2) lk94_138 (by decide) kk) ?_
  refine cR_lift (fun _ _ kk => eE_iadd lk94_139 kk) ?_
  refine cR_lift (fun _ _ kk => eE_iload_n lk94_140 gq6 kk) ?_
  obtain ⟨σ7, h8, h⟩ := Option.bind_eq_some_iff.mp h
  refine cR_iast (cl := 10) (i := l0) (f := 2) lk94_141 (by decide) rfl bl0 h8 ?_
  refine cR_lift (fun _ _ kk => eE_aload_n lk94_142 gq4 kk) ?_
  refine cR_getA lk94_143 rf_10_11 (by decide) (cob_any rfl bl0) ?_
  refine cR_lift (fun _ _ kk => eE_iload lk94_146 gq2 kk) ?_
  refine cR_lift (fun _ _ kk => eE_iconst (v := 3) lk94_148 (by decide) kk) ?_
  refine cR_lift (fun _ _ kk => eE_iadd lk94_149 kk) ?_
  refine cR_lift (fun _ _ kk => eE_aload_n lk94_150 gq4 kk) ?_
  refine cR_getI lk94_151 rf_10_54 rfl (cob_any rfl bl0) ?_
  obtain ⟨σ9, h10, h⟩ := Option.bind_eq_some_iff.mp h
  refine cR_iast (cl := 10) (i := l0) (f := 2) lk94_154 (by decide) rfl (cob_any rfl bl0) h10 ?_
  refine cR_lift (fun _ _ kk => eE_aload_n lk94_155 gq4 kk) ?_
  refine cR_getA lk94_156 rf_10_11 (by decide) (cob_any rfl bl0) ?_
  refine cR_lift (fun _ _ kk => eE_iload lk94_159 gq2 kk) ?_
  refine cR_lift (fun _ _ kk => eE_iconst (v := 4) lk94_161 (by decide) kk) ?_
  refine cR_lift (fun _ _ kk => eE_iadd lk94_162 kk) ?_
  refine cR_lift (fun _ _ kk => eE_aload_n lk94_163 gq4 kk) ?_
  refine cR_getI lk94_164 rf_10_57 rfl (cob_any rfl bl0) ?_
  obtain ⟨σ11, h12, h⟩ := Option.bind_eq_some_iff.mp h
  refine cR_iast (cl := 10) (i := l0) (f := 2) lk94_167 (by decide) rfl (cob_any rfl bl0) h12 ?_
  refine cR_lift (fun _ _ kk => eE_aload_n lk94_168 gq4 kk) ?_
  refine cR_getA lk94_169 rf_10_31 (by decide) (cob_any rfl bl0) ?_
  refine cR_lift (fun _ _ kk => eE_iconst (v := 0) lk94_172 (by decide) kk) ?_
  refine cR_lift (fun _ _ kk => eE_aload_n lk94_173 gq4 kk) ?_
  refine cR_getA lk94_174 rf_10_15 (by decide) (cob_any rfl bl0) ?_
  refine cR_lift (fun _ _ kk => eE_iload_n lk94_177 gq5 kk) ?_
  refine cR_lift (fun _ _ kk => eE_bipush (v := 101) lk94_178 (by decide) kk) ?_
  refine cR_lift (fun _ _ kk => eE_imul lk94_180 kk) ?_
  refine cR_lift (fun _ _ kk => eE_aload_n lk94_181 gq4 kk) ?_
  refine cR_getI lk94_182 rf_10_57 rfl (cob_any rfl bl0) ?_
  obtain ⟨σ13, h14, h⟩ := Option.bind_eq_some_iff.mp h
  refine cR_cpy (a := 10) (i := l0) (f := 10) (a' := 10) (i' := l0) (f' := 3) lk94_185 yc_10_68.1 yc_10_68.2 (by decide) (by decide) (by decide) (cob_any rfl bl0) (cob_any rfl bl0) (by first | exact Nat.le_of_ble_eq_true rfl | (simp [xcat, cvo_cat, cat_i, cat_j, cat_r]; done)) h14 ?_
  cases h
  exact cR_end lk94_188 rfl rfl rfl
def k_Machine_operate_b0 (F : Nat)  (σ : CS) (l0 : Nat) (l1 : Int32) (l2 : Int32) (l3 : Int32) : Option (CS) :=
  (k_Askings_tell σ 0 l3 ((6 : Int32))).bind fun p15 =>
  (k_Askings_tell σ 0 l3 ((7 : Int32))).bind fun p25 =>
  (k_Askings_tell σ 0 l3 ((8 : Int32))).bind fun p36 =>
  (k_Askings_tell σ 0 l3 ((9 : Int32))).bind fun p48 =>
  (k_Askings_tell σ 0 l3 ((1 : Int32))).bind fun p61 =>
  if p61 = (0 : Int32) then (
    (k_Machine_putKey F σ l0 p15 p25 (p48 - p25)).bind fun p65 =>
    k_Machine_operate_b127 F  p65 l0 l1 l2
  ) else (
  if p61 = (1 : Int32) then (
    (k_Machine_swapKey F σ l0 p15 p25 p36 ((p48 - p25) - p36)).bind fun p69 =>
    k_Machine_operate_b127 F  p69 l0 l1 l2
  ) else (
    (k_Machine_removeKey F σ l0 p15 p25).bind fun p72 =>
    k_Machine_operate_b127 F  p72 l0 l1 l2
  )
  )
set_option maxRecDepth 4000 in
theorem k_Machine_operate_b0_ok {E : CE} {pF : Nat → List Value → xH → Option (Option Value × xH)} (hp0 : xNPc pF) (hL : lcAll E pF) (hF : lcF pF) {d : Nat} {F : Nat}   : ∀ (g : CG) (lv : xL) (σ : CS) (l0 : Nat) (l1 : Int32) (l2 : Int32) (l3 : Int32), (cob σ 10 l0) → (xg lv 0 = some (.ref (coa E 10 l0))) → (xg lv 1 = some (.int l1)) → (xg lv 2 = some (.int l2)) → (xg lv 3 = some (.int l3)) → ∀ res, k_Machine_operate_b0 F  σ l0 l1 l2 l3 = some res → cR E cQ1 pF (d + 3) kT94 10 9 none none res g σ (0, lv, []) := by
  intro g lv σ l0 l1 l2 l3 bl0 g0 g1 g2 g3 res h
  unfold k_Machine_operate_b0 at h
  refine cR_lift (fun _ _ kk => eE_aload_n lk94_0 g0 kk) ?_
  refine cR_getO (cl' := 4) (i' := 0) lk94_1 rf_10_37 rfl rfl bl0 ?_
  refine cR_lift (fun _ _ kk => eE_iload_n lk94_4 g3 kk) ?_
  refine cR_lift (fun _ _ kk => eE_bipush (v := 6) lk94_5 (by decide) kk) ?_
  obtain ⟨p15, h16, h⟩ := Option.bind_eq_some_iff.mp h
  refine cR_virt (cl := 4) (i := 0) (as := [.int l3, .int ((6 : Int32))]) lk94_7 mr_10_76 na_19 rfl rfl (by first | exact Nat.le_of_ble_eq_true rfl | (simp [xcat, cvo_cat, cat_i, cat_j, cat_r]; done)) wv_19 wc_19 (cob_0 (c := σ) (cl := 4) (by decide) rfl rfl) (k_Askings_tell_ok hp0 hL hF (d := d + 2) (cob_0 (c := σ) (cl := 4) (by decide) rfl rfl) h16) (fun m17  => ?_)
  refine cR_stI (j := 4) lk94_10 (Or.inl rfl) (by decide) (fun vq18 gq19 kq20 => ?_)
  have gq21 := kq20 0 _ (by decide) (fun e => absurd e (by decide)) g0
  have gq22 := kq20 1 _ (by decide) (fun e => absurd e (by decide)) g1
  have gq23 := kq20 2 _ (by decide) (fun e => absurd e (by decide)) g2
  have gq24 := kq20 3 _ (by decide) (fun _ => rfl) g3
  refine cR_lift (fun _ _ kk => eE_aload_n lk94_12 gq21 kk) ?_
  refine cR_getO (cl' := 4) (i' := 0) lk94_13 rf_10_37 rfl rfl bl0 ?_
  refine cR_lift (fun _ _ kk => eE_iload_n lk94_16 gq24 kk) ?_
  refine cR_lift (fun _ _ kk => eE_bipush (v := 7) lk94_17 (by decide) kk) ?_
  obtain ⟨p25, h26, h⟩ := Option.bind_eq_some_iff.mp h
  refine cR_virt (cl := 4) (i := 0) (as := [.int l3, .int ((7 : Int32))]) lk94_19 mr_10_76 na_19 rfl rfl (by first | exact Nat.le_of_ble_eq_true rfl | (simp [xcat, cvo_cat, cat_i, cat_j, cat_r]; done)) wv_19 wc_19 (cob_0 (c := σ) (cl := 4) (by decide) rfl rfl) (k_Askings_tell_ok hp0 hL hF (d := d + 2) (cob_0 (c := σ) (cl := 4) (by decide) rfl rfl) h26) (fun m27  => ?_)
  refine cR_stI (j := 5) lk94_22 (Or.inl rfl) (by decide) (fun vq28 gq29 kq30 => ?_)
  have gq31 := kq30 0 _ (by decide) (fun e => absurd e (by decide)) gq21
  have gq32 := kq30 1 _ (by decide) (fun e => absurd e (by decide)) gq22
  have gq33 := kq30 2 _ (by decide) (fun e => absurd e (by decide)) gq23
  have gq34 := kq30 3 _ (by decide) (fun e => absurd e (by decide)) gq24
  have gq35 := kq30 4 _ (by decide) (fun _ => rfl) gq19
  refine cR_lift (fun _ _ kk => eE_aload_n lk94_24 gq31 kk) ?_
  refine cR_getO (cl' := 4) (i' := 0) lk94_25 rf_10_37 rfl rfl bl0 ?_
  refine cR_lift (fun _ _ kk => eE_iload_n lk94_28 gq34 kk) ?_
  refine cR_lift (fun _ _ kk => eE_bipush (v := 8) lk94_29 (by decide) kk) ?_
  obtain ⟨p36, h37, h⟩ := Option.bind_eq_some_iff.mp h
  refine cR_virt (cl := 4) (i := 0) (as := [.int l3, .int ((8 : Int32))]) lk94_31 mr_10_76 na_19 rfl rfl (by first | exact Nat.le_of_ble_eq_true rfl | (simp [xcat, cvo_cat, cat_i, cat_j, cat_r]; done)) wv_19 wc_19 (cob_0 (c := σ) (cl := 4) (by decide) rfl rfl) (k_Askings_tell_ok hp0 hL hF (d := d + 2) (cob_0 (c := σ) (cl := 4) (by decide) rfl rfl) h37) (fun m38  => ?_)
  refine cR_stI (j := 6) lk94_34 (Or.inl rfl) (by decide) (fun vq39 gq40 kq41 => ?_)
  have gq42 := kq41 0 _ (by decide) (fun e => absurd e (by decide)) gq31
  have gq43 := kq41 1 _ (by decide) (fun e => absurd e (by decide)) gq32
  have gq44 := kq41 2 _ (by decide) (fun e => absurd e (by decide)) gq33
  have gq45 := kq41 3 _ (by decide) (fun e => absurd e (by decide)) gq34
  have gq46 := kq41 4 _ (by decide) (fun e => absurd e (by decide)) gq35
  have gq47 := kq41 5 _ (by decide) (fun _ => rfl) gq29
  refine cR_lift (fun _ _ kk => eE_aload_n lk94_36 gq42 kk) ?_
  refine cR_getO (cl' := 4) (i' := 0) lk94_37 rf_10_37 rfl rfl bl0 ?_
  refine cR_lift (fun _ _ kk => eE_iload_n lk94_40 gq45 kk) ?_
  refine cR_lift (fun _ _ kk => eE_bipush (v := 9) lk94_41 (by decide) kk) ?_
  obtain ⟨p48, h49, h⟩ := Option.bind_eq_some_iff.mp h
  refine cR_virt (cl := 4) (i := 0) (as := [.int l3, .int ((9 : Int32))]) lk94_43 mr_10_76 na_19 rfl rfl (by first | exact Nat.le_of_ble_eq_true rfl | (simp [xcat, cvo_cat, cat_i, cat_j, cat_r]; done)) wv_19 wc_19 (cob_0 (c := σ) (cl := 4) (by decide) rfl rfl) (k_Askings_tell_ok hp0 hL hF (d := d + 2) (cob_0 (c := σ) (cl := 4) (by decide) rfl rfl) h49) (fun m50  => ?_)
  refine cR_lift (fun _ _ kk => eE_iload lk94_46 gq47 kk) ?_
  refine cR_lift (fun _ _ kk => eE_isub lk94_48 kk) ?_
  refine cR_stI (j := 7) lk94_49 (Or.inl rfl) (by decide) (fun vq51 gq52 kq53 => ?_)
  have gq54 := kq53 0 _ (by decide) (fun e => absurd e (by decide)) gq42
  have gq55 := kq53 1 _ (by decide) (fun e => absurd e (by decide)) gq43
  have gq56 := kq53 2 _ (by decide) (fun e => absurd e (by decide)) gq44
  have gq57 := kq53 3 _ (by decide) (fun e => absurd e (by decide)) gq45
  have gq58 := kq53 4 _ (by decide) (fun e => absurd e (by decide)) gq46
  have gq59 := kq53 5 _ (by decide) (fun e => absurd e (by decide)) gq47
  have gq60 := kq53 6 _ (by decide) (fun _ => rfl) gq40
  refine cR_lift (fun _ _ kk => eE_aload_n lk94_51 gq54 kk) ?_
  refine cR_getO (cl' := 4) (i' := 0) lk94_52 rf_10_37 rfl rfl bl0 ?_
  refine cR_lift (fun _ _ kk => eE_iload_n lk94_55 gq57 kk) ?_
  refine cR_lift (fun _ _ kk => eE_iconst (v := 1) lk94_56 (by decide) kk) ?_
  obtain ⟨p61, h62, h⟩ := Option.bind_eq_some_iff.mp h
  refine cR_virt (cl := 4) (i := 0) (as := [.int l3, .int ((1 : Int32))]) lk94_57 mr_10_76 na_19 rfl rfl (by first | exact Nat.le_of_ble_eq_true rfl | (simp [xcat, cvo_cat, cat_i, cat_j, cat_r]; done)) wv_19 wc_19 (cob_0 (c := σ) (cl := 4) (by decide) rfl rfl) (k_Askings_tell_ok hp0 hL hF (d := d + 2) (cob_0 (c := σ) (cl := 4) (by decide) rfl rfl) h62) (fun m63  => ?_)
  by_cases c64 : p61 = (0 : Int32)
  · rw [if_pos c64] at h
    refine cR_lsw (t := 88) (off := 28) lk94_60 (by decide) (by rw [c64]; rfl) (by decide) ?_
    refine cR_lift (fun _ _ kk => eE_aload_n lk94_88 gq54 kk) ?_
    refine cR_lift (fun _ _ kk => eE_iload lk94_89 gq58 kk) ?_
    refine cR_lift (fun _ _ kk => eE_iload lk94_91 gq59 kk) ?_
    refine cR_lift (fun _ _ kk => eE_iload lk94_93 gq52 kk) ?_
    obtain ⟨p65, h66, h⟩ := Option.bind_eq_some_iff.mp h
    refine cR_virt (cl := 10) (i := l0) (as := [.int p15, .int p25, .int (p48 - p25)]) lk94_95 mr_10_80 na_95 rfl rfl (by first | exact Nat.le_of_ble_eq_true rfl | (simp [xcat, cvo_cat, cat_i, cat_j, cat_r]; done)) wv_95 wc_95 bl0 (k_Machine_putKey_ok hp0 hL hF (d := d + 0) bl0 h66) (fun m67  => ?_)
    refine cR_lift (fun _ _ kk => eE_goto (t := 127) lk94_98 (by decide) kk) ?_
    exact k_Machine_operate_b127_ok hp0 hL hF  g vq51 p65 l0 l1 l2 (cob_any rfl bl0) gq54 gq55 gq56 _ h
  rw [if_neg c64] at h
  by_cases c68 : p61 = (1 : Int32)
  · rw [if_pos c68] at h
    refine cR_lsw (t := 101) (off := 41) lk94_60 (by decide) (by rw [c68]; rfl) (by decide) ?_
    refine cR_lift (fun _ _ kk => eE_aload_n lk94_101 gq54 kk) ?_
    refine cR_lift (fun _ _ kk => eE_iload lk94_102 gq58 kk) ?_
    refine cR_lift (fun _ _ kk => eE_iload lk94_104 gq59 kk) ?_
    refine cR_lift (fun _ _ kk => eE_iload lk94_106 gq60 kk) ?_
    refine cR_lift (fun _ _ kk => eE_iload lk94_108 gq52 kk) ?_
    refine cR_lift (fun _ _ kk => eE_iload lk94_110 gq60 kk) ?_
    refine cR_lift (fun _ _ kk => eE_isub lk94_112 kk) ?_
    obtain ⟨p69, h70, h⟩ := Option.bind_eq_some_iff.mp h
    refine cR_virt (cl := 10) (i := l0) (as := [.int p15, .int p25, .int p36, .int ((p48 - p25) - p36)]) lk94_113 mr_10_84 na_103 rfl rfl (by first | exact Nat.le_of_ble_eq_true rfl | (simp [xcat, cvo_cat, cat_i, cat_j, cat_r]; done)) wv_103 wc_103 bl0 (k_Machine_swapKey_ok hp0 hL hF (d := d + 0) bl0 h70) (fun m71  => ?_)
    refine cR_lift (fun _ _ kk => eE_goto (t := 127) lk94_116 (by decide) kk) ?_
    exact k_Machine_operate_b127_ok hp0 hL hF  g vq51 p69 l0 l1 l2 (cob_any rfl bl0) gq54 gq55 gq56 _ h
  rw [if_neg c68] at h
  refine cR_lsw (t := 119) (off := 59) lk94_60 (by decide) ((lv_osw c64 (by decide)).trans ((lv_osw c68 (by decide)).trans rfl)) (by decide) ?_
  refine cR_lift (fun _ _ kk => eE_aload_n lk94_119 gq54 kk) ?_
  refine cR_lift (fun _ _ kk => eE_iload lk94_120 gq58 kk) ?_
  refine cR_lift (fun _ _ kk => eE_iload lk94_122 gq59 kk) ?_
  obtain ⟨p72, h73, h⟩ := Option.bind_eq_some_iff.mp h
  refine cR_virt (cl := 10) (i := l0) (as := [.int p15, .int p25]) lk94_124 mr_10_88 na_96 rfl rfl (by first | exact Nat.le_of_ble_eq_true rfl | (simp [xcat, cvo_cat, cat_i, cat_j, cat_r]; done)) wv_96 wc_96 bl0 (k_Machine_removeKey_ok hp0 hL hF (d := d + 0) bl0 h73) (fun m74  => ?_)
  exact k_Machine_operate_b127_ok hp0 hL hF  g vq51 p72 l0 l1 l2 (cob_any rfl bl0) gq54 gq55 gq56 _ h
def k_Machine_operate (F : Nat) (σ : CS) (l0 : Nat) (l1 : Int32) (l2 : Int32) (l3 : Int32) : Option (CS) := k_Machine_operate_b0 F σ l0 l1 l2 l3
theorem k_Machine_operate_ok {E : CE} {pF : Nat → List Value → xH → Option (Option Value × xH)} (hp0 : xNPc pF) (hL : lcAll E pF) (hF : lcF pF) {d : Nat} {g : CG} {σ : CS} {F : Nat} {l0 : Nat} {l1 : Int32} {l2 : Int32} {l3 : Int32} {res : CS} (bl0 : cob σ 10 l0) (h : k_Machine_operate F σ l0 l1 l2 l3 = some res) : cCo E cQ1 pF (d + 4) 94 [.ref (coa E 10 l0), .int l1, .int l2, .int l3] none res g σ :=
  cCo_R kk_94 mo_94 ni_94 xm_94 (Nat.le_of_ble_eq_true rfl) (hp0 94 (by decide) _) (k_Machine_operate_b0_ok hp0 hL hF g _ σ l0 l1 l2 l3 bl0 rfl rfl rfl rfl _ h)
/-! k_Machine_savedSize (99), depth 1 -/
def k_Machine_savedSize_b37 (F : Nat)  : Nat → CS → Nat → Int32 → Int32 → Option (Int32)
  | 0, _, _, _, _ => none
  | n + 1, σ, l0, l1, l2 =>
    let KK := k_Machine_savedSize_b37 F  n
    if xc2 .ge l2 (cI σ 10 l0 4 0) = true then (
      some l1
    ) else (
      (crd σ 10 l0 6 l2).bind fun x2 =>
      (crd σ 10 l0 7 x2).bind fun x4 =>
      (crd σ 10 l0 6 l2).bind fun x6 =>
      (crd σ 10 l0 8 x6).bind fun x8 =>
      KK σ l0 (l1 + ((((3 : Int32)) + x4) + x8)) (l2 + (1 : Int32))
    )
set_option maxRecDepth 4000 in
theorem k_Machine_savedSize_b37_ok {E : CE} {pF : Nat → List Value → xH → Option (Option Value × xH)} (hp0 : xNPc pF) (hL : lcAll E pF) (hF : lcF pF) {d : Nat} {F : Nat}   : ∀ (n : Nat) (g : CG) (lv : xL) (σ : CS) (l0 : Nat) (l1 : Int32) (l2 : Int32), (cob σ 10 l0) → (xg lv 0 = some (.ref (coa E 10 l0))) → (xg lv 1 = some (.int l1)) → (xg lv 2 = some (.int l2)) → ∀ res, k_Machine_savedSize_b37 F  n σ l0 l1 l2 = some res → cR E cQ1 pF (d + 0) kT99 10 3 (some FieldType.int) (some (.int res)) σ g σ (37, lv, []) := by
  intro n
  induction n with
  | zero => intro g lv σ l0 l1 l2 bl0 g0 g1 g2 res h; simp [k_Machine_savedSize_b37] at h
  | succ n hKK =>
    intro g lv σ l0 l1 l2 bl0 g0 g1 g2 res h
    unfold k_Machine_savedSize_b37 at h
    dsimp only at h
    refine cR_lift (fun _ _ kk => eE_iload_n lk99_37 g2 kk) ?_
    refine cR_lift (fun _ _ kk => eE_aload_n lk99_38 g0 kk) ?_
    refine cR_getI lk99_39 rf_10_45 rfl bl0 ?_
    refine cR_icmp (t := 79) lk99_42 (by decide) (fun c1 => ?_) (fun c1 => ?_)
    · rw [if_pos c1] at h
      refine cR_lift (fun _ _ kk => eE_iload_n lk99_79 g1 kk) ?_
      cases h
      exact cR_end lk99_80 rfl rfl rfl
    · rw [if_neg c1] at h
      refine cR_lift (fun _ _ kk => eE_iload_n lk99_45 g1 kk) ?_
      refine cR_lift (fun _ _ kk => eE_iconst (v := 3) lk99_46 (by decide) kk) ?_
      refine cR_lift (fun _ _ kk => eE_aload_n lk99_47 g0 kk) ?_
      refine cR_getA lk99_48 rf_10_22 (by decide) bl0 ?_
      refine cR_lift (fun _ _ kk => eE_aload_n lk99_51 g0 kk) ?_
      refine cR_getA lk99_52 rf_10_19 (by decide) bl0 ?_
      refine cR_lift (fun _ _ kk => eE_iload_n lk99_55 g2 kk) ?_
      obtain ⟨x2, h3, h⟩ := Option.bind_eq_some_iff.mp h
      refine cR_iald (cl := 10) (i := l0) (f := 6) lk99_56 (by decide) rfl bl0 h3 ?_
      obtain ⟨x4, h5, h⟩ := Option.bind_eq_some_iff.mp h
      refine cR_iald (cl := 10) (i := l0) (f := 7) lk99_57 (by decide) rfl bl0 h5 ?_
      refine cR_lift (fun _ _ kk => eE_iadd lk99_58 kk) ?_
      refine cR_lift (fun _ _ kk => eE_aload_n lk99_59 g0 kk) ?_
      refine cR_getA lk99_60 rf_10_25 (by decide) bl0 ?_
      refine cR_lift (fun _ _ kk => eE_aload_n lk99_63 g0 kk) ?_
      refine cR_getA lk99_64 rf_10_19 (by decide) bl0 ?_
      refine cR_lift (fun _ _ kk => eE_iload_n lk99_67 g2 kk) ?_
      obtain ⟨x6, h7, h⟩ := Option.bind_eq_some_iff.mp h
      refine cR_iald (cl := 10) (i := l0) (f := 6) lk99_68 (by decide) rfl bl0 h7 ?_
      obtain ⟨x8, h9, h⟩ := Option.bind_eq_some_iff.mp h
      refine cR_iald (cl := 10) (i := l0) (f := 8) lk99_69 (by decide) rfl bl0 h9 ?_
      refine cR_lift (fun _ _ kk => eE_iadd lk99_70 kk) ?_
      refine cR_lift (fun _ _ kk => eE_iadd lk99_71 kk) ?_
      refine cR_stI (j := 1) lk99_72 (Or.inr ⟨_, rfl, rfl⟩) (by decide) (fun vq10 gq11 kq12 => ?_)
      have gq13 := kq12 0 _ (by decide) (fun _ => rfl) g0
      have gq14 := kq12 2 _ (by decide) (fun e => absurd e (by decide)) g2
      refine cR_inc (j := 2) (v := l2 + (1 : Int32)) lk99_73 gq14 rfl (by decide) (fun vq15 gq16 kq17 => ?_)
      have gq18 := kq17 0 _ (by decide) (fun e => absurd e (by decide)) gq13
      have gq19 := kq17 1 _ (by decide) (fun _ => rfl) gq11
      refine cR_lift (fun _ _ kk => eE_goto (t := 37) lk99_76 (by decide) kk) ?_
      exact hKK g vq15 σ l0 (l1 + ((((3 : Int32)) + x4) + x8)) (l2 + (1 : Int32)) bl0 gq18 gq19 gq16 _ h
def k_Machine_savedSize_b5 (F : Nat)  : Nat → CS → Nat → Int32 → Int32 → Option (Int32)
  | 0, _, _, _, _ => none
  | n + 1, σ, l0, l1, l2 =>
    let KK := k_Machine_savedSize_b5 F  n
    if xc2 .ge l2 (cI σ 10 l0 1 0) = true then (
      k_Machine_savedSize_b37 F  F σ l0 l1 ((0 : Int32))
    ) else (
      (crd σ 10 l0 2 ((l2 * ((5 : Int32))) + ((4 : Int32)))).bind fun x26 =>
      KK σ l0 (l1 + (((18 : Int32)) + x26)) (l2 + (1 : Int32))
    )
set_option maxRecDepth 4000 in
theorem k_Machine_savedSize_b5_ok {E : CE} {pF : Nat → List Value → xH → Option (Option Value × xH)} (hp0 : xNPc pF) (hL : lcAll E pF) (hF : lcF pF) {d : Nat} {F : Nat}   : ∀ (n : Nat) (g : CG) (lv : xL) (σ : CS) (l0 : Nat) (l1 : Int32) (l2 : Int32), (cob σ 10 l0) → (xg lv 0 = some (.ref (coa E 10 l0))) → (xg lv 1 = some (.int l1)) → (xg lv 2 = some (.int l2)) → ∀ res, k_Machine_savedSize_b5 F  n σ l0 l1 l2 = some res → cR E cQ1 pF (d + 0) kT99 10 3 (some FieldType.int) (some (.int res)) σ g σ (5, lv, []) := by
  intro n
  induction n with
  | zero => intro g lv σ l0 l1 l2 bl0 g0 g1 g2 res h; simp [k_Machine_savedSize_b5] at h
  | succ n hKK =>
    intro g lv σ l0 l1 l2 bl0 g0 g1 g2 res h
    unfold k_Machine_savedSize_b5 at h
    dsimp only at h
    refine cR_lift (fun _ _ kk => eE_iload_n lk99_5 g2 kk) ?_
    refine cR_lift (fun _ _ kk => eE_aload_n lk99_6 g0 kk) ?_
    refine cR_getI lk99_7 rf_10_41 rfl bl0 ?_
    refine cR_icmp (t := 35) lk99_10 (by decide) (fun c20 => ?_) (fun c20 => ?_)
    · rw [if_pos c20] at h
      refine cR_lift (fun _ _ kk => eE_iconst (v := 0) lk99_35 (by decide) kk) ?_
      refine cR_stI (j := 2) lk99_36 (Or.inr ⟨_, rfl, rfl⟩) (by decide) (fun vq21 gq22 kq23 => ?_)
      have gq24 := kq23 0 _ (by decide) (fun e => absurd e (by decide)) g0
      have gq25 := kq23 1 _ (by decide) (fun _ => rfl) g1
      exact k_Machine_savedSize_b37_ok hp0 hL hF  F g vq21 σ l0 l1 ((0 : Int32)) bl0 gq24 gq25 gq22 _ h
    · rw [if_neg c20] at h
      refine cR_lift (fun _ _ kk => eE_iload_n lk99_13 g1 kk) ?_
      refine cR_lift (fun _ _ kk => eE_bipush (v := 18) lk99_14 (by decide) kk) ?_
      refine cR_lift (fun _ _ kk => eE_aload_n lk99_16 g0 kk) ?_
      refine cR_getA lk99_17 rf_10_11 (by decide) bl0 ?_
      refine cR_lift (fun _ _ kk => eE_iload_n lk99_20 g2 kk) ?_
      refine cR_lift (fun _ _ kk => eE_iconst (v := 5) lk99_21 (by decide) kk) ?_
      refine cR_lift (fun _ _ kk => eE_imul lk99_22 kk) ?_
      refine cR_lift (fun _ _ kk => eE_iconst (v := 4) lk99_23 (by decide) kk) ?_
      refine cR_lift (fun _ _ kk => eE_iadd lk99_24 kk) ?_
      obtain ⟨x26, h27, h⟩ := Option.bind_eq_some_iff.mp h
      refine cR_iald (cl := 10) (i := l0) (f := 2) lk99_25 (by decide) rfl bl0 h27 ?_
      refine cR_lift (fun _ _ kk => eE_iadd lk99_26 kk) ?_
      refine cR_lift (fun _ _ kk => eE_iadd lk99_27 kk) ?_
      refine cR_stI (j := 1) lk99_28 (Or.inr ⟨_, rfl, rfl⟩) (by decide) (fun vq28 gq29 kq30 => ?_)
      have gq31 := kq30 0 _ (by decide) (fun _ => rfl) g0
      have gq32 := kq30 2 _ (by decide) (fun e => absurd e (by decide)) g2
      refine cR_inc (j := 2) (v := l2 + (1 : Int32)) lk99_29 gq32 rfl (by decide) (fun vq33 gq34 kq35 => ?_)
      have gq36 := kq35 0 _ (by decide) (fun e => absurd e (by decide)) gq31
      have gq37 := kq35 1 _ (by decide) (fun _ => rfl) gq29
      refine cR_lift (fun _ _ kk => eE_goto (t := 5) lk99_32 (by decide) kk) ?_
      exact hKK g vq33 σ l0 (l1 + (((18 : Int32)) + x26)) (l2 + (1 : Int32)) bl0 gq36 gq37 gq34 _ h
def k_Machine_savedSize_b0 (F : Nat)  (σ : CS) (l0 : Nat) : Option (Int32) :=
  k_Machine_savedSize_b5 F  F σ l0 ((8 : Int32)) ((0 : Int32))
set_option maxRecDepth 4000 in
theorem k_Machine_savedSize_b0_ok {E : CE} {pF : Nat → List Value → xH → Option (Option Value × xH)} (hp0 : xNPc pF) (hL : lcAll E pF) (hF : lcF pF) {d : Nat} {F : Nat}   : ∀ (g : CG) (lv : xL) (σ : CS) (l0 : Nat), (cob σ 10 l0) → (xg lv 0 = some (.ref (coa E 10 l0))) → ∀ res, k_Machine_savedSize_b0 F  σ l0 = some res → cR E cQ1 pF (d + 0) kT99 10 3 (some FieldType.int) (some (.int res)) σ g σ (0, lv, []) := by
  intro g lv σ l0 bl0 g0 res h
  unfold k_Machine_savedSize_b0 at h
  refine cR_lift (fun _ _ kk => eE_bipush (v := 8) lk99_0 (by decide) kk) ?_
  refine cR_stI (j := 1) lk99_2 (Or.inr ⟨_, rfl, rfl⟩) (by decide) (fun vq38 gq39 kq40 => ?_)
  have gq41 := kq40 0 _ (by decide) (fun _ => rfl) g0
  refine cR_lift (fun _ _ kk => eE_iconst (v := 0) lk99_3 (by decide) kk) ?_
  refine cR_stI (j := 2) lk99_4 (Or.inr ⟨_, rfl, rfl⟩) (by decide) (fun vq42 gq43 kq44 => ?_)
  have gq45 := kq44 0 _ (by decide) (fun e => absurd e (by decide)) gq41
  have gq46 := kq44 1 _ (by decide) (fun _ => rfl) gq39
  exact k_Machine_savedSize_b5_ok hp0 hL hF  F g vq42 σ l0 ((8 : Int32)) ((0 : Int32)) bl0 gq45 gq46 gq43 _ h
def k_Machine_savedSize (F : Nat) (σ : CS) (l0 : Nat) : Option (Int32) := k_Machine_savedSize_b0 F σ l0
theorem k_Machine_savedSize_ok {E : CE} {pF : Nat → List Value → xH → Option (Option Value × xH)} (hp0 : xNPc pF) (hL : lcAll E pF) (hF : lcF pF) {d : Nat} {g : CG} {σ : CS} {F : Nat} {l0 : Nat} {res : Int32} (bl0 : cob σ 10 l0) (h : k_Machine_savedSize F σ l0 = some res) : cCo E cQ1 pF (d + 1) 99 [.ref (coa E 10 l0)] (some (.int res)) σ g σ :=
  cCo_R kk_99 mo_99 ni_99 xm_99 (Nat.le_of_ble_eq_true rfl) (hp0 99 (by decide) _) (k_Machine_savedSize_b0_ok hp0 hL hF g _ σ l0 bl0 rfl _ h)
/-! k_Machine_saveNumber (98), depth 1 -/
def k_Machine_saveNumber_b2 (F : Nat)  : Nat → CS → Nat → Int32 → Int32 → Int32 → Option ((Int32) × CS)
  | 0, _, _, _, _, _ => none
  | n + 1, σ, l0, l1, l2, l3 =>
    let KK := k_Machine_saveNumber_b2 F  n
    if xc2 .ge l3 ((4 : Int32)) = true then (
      some (l1 + ((4 : Int32)), σ)
    ) else (
      (cwr σ 10 l0 14 (l1 + l3) (((l2 >>> ((((24 : Int32)) - (((8 : Int32)) * l3)) &&& 31)).toInt8.toInt32).toInt8.toInt32)).bind fun σ2 =>
      KK σ2 l0 l1 l2 (l3 + (1 : Int32))
    )
set_option maxRecDepth 4000 in
theorem k_Machine_saveNumber_b2_ok {E : CE} {pF : Nat → List Value → xH → Option (Option Value × xH)} (hp0 : xNPc pF) (hL : lcAll E pF) (hF : lcF pF) {d : Nat} {F : Nat}   : ∀ (n : Nat) (g : CG) (lv : xL) (σ : CS) (l0 : Nat) (l1 : Int32) (l2 : Int32) (l3 : Int32), (cob σ 10 l0) → (xg lv 0 = some (.ref (coa E 10 l0))) → (xg lv 1 = some (.int l1)) → (xg lv 2 = some (.int l2)) → (xg lv 3 = some (.int l3)) → ∀ res, k_Machine_saveNumber_b2 F  n σ l0 l1 l2 l3 = some res → cR E cQ1 pF (d + 0) kT98 10 4 (some FieldType.int) (some (.int res.1)) res.2 g σ (2, lv, []) := by
  intro n
  induction n with
  | zero => intro g lv σ l0 l1 l2 l3 bl0 g0 g1 g2 g3 res h; simp [k_Machine_saveNumber_b2] at h
  | succ n hKK =>
    intro g lv σ l0 l1 l2 l3 bl0 g0 g1 g2 g3 res h
    unfold k_Machine_saveNumber_b2 at h
    dsimp only at h
    refine cR_lift (fun _ _ kk => eE_iload_n lk98_2 g3 kk) ?_
    refine cR_lift (fun _ _ kk => eE_iconst (v := 4) lk98_3 (by decide) kk) ?_
    refine cR_icmp (t := 31) lk98_4 (by decide) (fun c1 => ?_) (fun c1 => ?_)
    · rw [if_pos c1] at h
      refine cR_lift (fun _ _ kk => eE_iload_n lk98_31 g1 kk) ?_
      refine cR_lift (fun _ _ kk => eE_iconst (v := 4) lk98_32 (by decide) kk) ?_
      refine cR_lift (fun _ _ kk => eE_iadd lk98_33 kk) ?_
      cases h
      exact cR_end lk98_34 rfl rfl rfl
    · rw [if_neg c1] at h
      refine cR_lift (fun _ _ kk => eE_aload_n lk98_7 g0 kk) ?_
      refine cR_getA lk98_8 rf_10_34 (by decide) bl0 ?_
      refine cR_lift (fun _ _ kk => eE_iload_n lk98_11 g1 kk) ?_
      refine cR_lift (fun _ _ kk => eE_iload_n lk98_12 g3 kk) ?_
      refine cR_lift (fun _ _ kk => eE_iadd lk98_13 kk) ?_
      refine cR_lift (fun _ _ kk => eE_iload_n lk98_14 g2 kk) ?_
      refine cR_lift (fun _ _ kk => eE_bipush (v := 24) lk98_15 (by decide) kk) ?_
      refine cR_lift (fun _ _ kk => eE_bipush (v := 8) lk98_17 (by decide) kk) ?_
      refine cR_lift (fun _ _ kk => eE_iload_n lk98_19 g3 kk) ?_
      refine cR_lift (fun _ _ kk => eE_imul lk98_20 kk) ?_
      refine cR_lift (fun _ _ kk => eE_isub lk98_21 kk) ?_
      refine cR_lift (fun _ _ kk => eE_ishr lk98_22 kk) ?_
      refine cR_lift (fun _ _ kk => eE_i2b lk98_23 kk) ?_
      obtain ⟨σ2, h3, h⟩ := Option.bind_eq_some_iff.mp h
      refine cR_bast (cl := 10) (i := l0) (f := 14) lk98_24 (by decide) rfl rfl bl0 h3 ?_
      refine cR_inc (j := 3) (v := l3 + (1 : Int32)) lk98_25 g3 rfl (by decide) (fun vq4 gq5 kq6 => ?_)
      have gq7 := kq6 0 _ (by decide) (fun e => absurd e (by decide)) g0
      have gq8 := kq6 1 _ (by decide) (fun e => absurd e (by decide)) g1
      have gq9 := kq6 2 _ (by decide) (fun _ => rfl) g2
      refine cR_lift (fun _ _ kk => eE_goto (t := 2) lk98_28 (by decide) kk) ?_
      exact hKK g vq4 σ2 l0 l1 l2 (l3 + (1 : Int32)) (cob_any rfl bl0) gq7 gq8 gq9 gq5 _ h
def k_Machine_saveNumber_b0 (F : Nat)  (σ : CS) (l0 : Nat) (l1 : Int32) (l2 : Int32) : Option ((Int32) × CS) :=
  k_Machine_saveNumber_b2 F  F σ l0 l1 l2 ((0 : Int32))
set_option maxRecDepth 4000 in
theorem k_Machine_saveNumber_b0_ok {E : CE} {pF : Nat → List Value → xH → Option (Option Value × xH)} (hp0 : xNPc pF) (hL : lcAll E pF) (hF : lcF pF) {d : Nat} {F : Nat}   : ∀ (g : CG) (lv : xL) (σ : CS) (l0 : Nat) (l1 : Int32) (l2 : Int32), (cob σ 10 l0) → (xg lv 0 = some (.ref (coa E 10 l0))) → (xg lv 1 = some (.int l1)) → (xg lv 2 = some (.int l2)) → ∀ res, k_Machine_saveNumber_b0 F  σ l0 l1 l2 = some res → cR E cQ1 pF (d + 0) kT98 10 4 (some FieldType.int) (some (.int res.1)) res.2 g σ (0, lv, []) := by
  intro g lv σ l0 l1 l2 bl0 g0 g1 g2 res h
  unfold k_Machine_saveNumber_b0 at h
  refine cR_lift (fun _ _ kk => eE_iconst (v := 0) lk98_0 (by decide) kk) ?_
  refine cR_stI (j := 3) lk98_1 (Or.inr ⟨_, rfl, rfl⟩) (by decide) (fun vq10 gq11 kq12 => ?_)
  have gq13 := kq12 0 _ (by decide) (fun e => absurd e (by decide)) g0
  have gq14 := kq12 1 _ (by decide) (fun e => absurd e (by decide)) g1
  have gq15 := kq12 2 _ (by decide) (fun _ => rfl) g2
  exact k_Machine_saveNumber_b2_ok hp0 hL hF  F g vq10 σ l0 l1 l2 ((0 : Int32)) bl0 gq13 gq14 gq15 gq11 _ h
def k_Machine_saveNumber (F : Nat) (σ : CS) (l0 : Nat) (l1 : Int32) (l2 : Int32) : Option ((Int32) × CS) := k_Machine_saveNumber_b0 F σ l0 l1 l2
theorem k_Machine_saveNumber_ok {E : CE} {pF : Nat → List Value → xH → Option (Option Value × xH)} (hp0 : xNPc pF) (hL : lcAll E pF) (hF : lcF pF) {d : Nat} {g : CG} {σ : CS} {F : Nat} {l0 : Nat} {l1 : Int32} {l2 : Int32} {res : (Int32) × CS} (bl0 : cob σ 10 l0) (h : k_Machine_saveNumber F σ l0 l1 l2 = some res) : cCo E cQ1 pF (d + 1) 98 [.ref (coa E 10 l0), .int l1, .int l2] (some (.int res.1)) res.2 g σ :=
  cCo_R kk_98 mo_98 ni_98 xm_98 (Nat.le_of_ble_eq_true rfl) (hp0 98 (by decide) _) (k_Machine_saveNumber_b0_ok hp0 hL hF g _ σ l0 l1 l2 bl0 rfl rfl rfl _ h)
/-! k_Machine_save (97), depth 2 -/
def k_Machine_save_b53 (F : Nat) (K37 : CS → Nat → Int32 → Int32 → Int32 → Option ((Int32) × CS)) : Nat → CS → Nat → Int32 → Int32 → Int32 → Int32 → Int32 → Option ((Int32) × CS)
  | 0, _, _, _, _, _, _, _ => none
  | n + 1, σ, l0, l1, l2, l3, l4, l5 =>
    let KK := k_Machine_save_b53 F K37 n
    if xc2 .ge l5 ((4 : Int32)) = true then (
      (crd σ 10 l0 2 (l4 + ((4 : Int32)))).bind fun x2 =>
      (cwr σ 10 l0 14 l2 (((x2 >>> (((8 : Int32)) &&& 31)).toInt8.toInt32).toInt8.toInt32)).bind fun σ11 =>
      (cwr σ11 10 l0 14 (l2 + ((1 : Int32))) ((x2.toInt8.toInt32).toInt8.toInt32)).bind fun σ13 =>
      (ccpy σ13 10 l0 3 (l3 * ((101 : Int32))) 10 l0 14 (l2 + ((2 : Int32))) x2).bind fun σ15 =>
      K37 σ15 l0 l1 (l2 + (((2 : Int32)) + x2)) (l3 + (1 : Int32))
    ) else (
      (crd σ 10 l0 2 (l4 + l5)).bind fun x29 =>
      (k_Machine_saveNumber F σ l0 l2 x29).bind fun p31 =>
      KK p31.2 l0 l1 p31.1 l3 l4 (l5 + (1 : Int32))
    )
set_option maxRecDepth 4000 in
theorem k_Machine_save_b53_ok {E : CE} {pF : Nat → List Value → xH → Option (Option Value × xH)} (hp0 : xNPc pF) (hL : lcAll E pF) (hF : lcF pF) {d : Nat} {F : Nat} {K37 : CS → Nat → Int32 → Int32 → Int32 → Option ((Int32) × CS)} (hK37 : ∀ (g : CG) (lv : xL) (σ : CS) (l0 : Nat) (l1 : Int32) (l2 : Int32) (l3 : Int32), (cob σ 10 l0) → (xg lv 0 = some (.ref (coa E 10 l0))) → (xg lv 1 = some (.int l1)) → (xg lv 2 = some (.int l2)) → (xg lv 3 = some (.int l3)) → ∀ res, K37 σ l0 l1 l2 l3 = some res → cR E (cQx [10]) pF (d + 1) kT97 10 6 (some FieldType.int) (some (.int res.1)) res.2 g σ (37, lv, [])) : ∀ (n : Nat) (g : CG) (lv : xL) (σ : CS) (l0 : Nat) (l1 : Int32) (l2 : Int32) (l3 : Int32) (l4 : Int32) (l5 : Int32), (cob σ 10 l0) → (xg lv 0 = some (.ref (coa E 10 l0))) → (xg lv 1 = some (.int l1)) → (xg lv 2 = some (.int l2)) → (xg lv 3 = some (.int l3)) → (xg lv 4 = some (.int l4)) → (xg lv 5 = some (.int l5)) → ∀ res, k_Machine_save_b53 F K37 n σ l0 l1 l2 l3 l4 l5 = some res → cR E (cQx [10]) pF (d + 1) kT97 10 6 (some FieldType.int) (some (.int res.1)) res.2 g σ (53, lv, []) := by
  intro n
  induction n with
  | zero => intro g lv σ l0 l1 l2 l3 l4 l5 bl0 g0 g1 g2 g3 g4 g5 res h; simp [k_Machine_save_b53] at h
  | succ n hKK =>
    intro g lv σ l0 l1 l2 l3 l4 l5 bl0 g0 g1 g2 g3 g4 g5 res h
    unfold k_Machine_save_b53 at h
    dsimp only at h
    refine cR_lift (fun _ _ kk => eE_iload lk97_53 g5 kk) ?_
    refine cR_lift (fun _ _ kk => eE_iconst (v := 4) lk97_55 (by decide) kk) ?_
    refine cR_icmp (t := 81) lk97_56 (by decide) (fun c1 => ?_) (fun c1 => ?_)
    · rw [if_pos c1] at h
      refine cR_lift (fun _ _ kk => eE_aload_n lk97_81 g0 kk) ?_
      refine cR_getA lk97_82 rf_10_11 (by decide) bl0 ?_
      refine cR_lift (fun _ _ kk => eE_iload lk97_85 g4 kk) ?_
      refine cR_lift (fun _ _ kk => eE_iconst (v := 4) lk97_87 (by decide) kk) ?_
      refine cR_lift (fun _ _ kk => eE_iadd lk97_88 kk) ?_
      obtain ⟨x2, h3, h⟩ := Option.bind_eq_some_iff.mp h
      refine cR_iald (cl := 10) (i := l0) (f := 2) lk97_89 (by decide) rfl bl0 h3 ?_
      refine cR_stI (j := 5) lk97_90 (Or.inl rfl) (by decide) (fun vq4 gq5 kq6 => ?_)
      have gq7 := kq6 0 _ (by decide) (fun e => absurd e (by decide)) g0
      have gq8 := kq6 1 _ (by decide) (fun e => absurd e (by decide)) g1
      have gq9 := kq6 2 _ (by decide) (fun e => absurd e (by decide)) g2
      have gq10 := kq6 3 _ (by decide) (fun e => absurd e (by decide)) g3
      refine cR_lift (fun _ _ kk => eE_aload_n lk97_92 gq7 kk) ?_
      refine cR_getA lk97_93 rf_10_34 (by decide) bl0 ?_
      refine cR_lift (fun _ _ kk => eE_iload_n lk97_96 gq9 kk) ?_
      refine cR_lift (fun _ _ kk => eE_iload lk97_97 gq5 kk) ?_
      refine cR_lift (fun _ _ kk => eE_bipush (v := 8) lk97_99 (by decide) kk) ?_
      refine cR_lift (fun _ _ kk => eE_ishr lk97_101 kk) ?_
      refine cR_lift (fun _ _ kk => eE_i2b lk97_102 kk) ?_
      obtain ⟨σ11, h12, h⟩ := Option.bind_eq_some_iff.mp h
      refine cR_bast (cl := 10) (i := l0) (f := 14) lk97_103 (by decide) rfl rfl bl0 h12 ?_
      refine cR_lift (fun _ _ kk => eE_aload_n lk97_104 gq7 kk) ?_
      refine cR_getA lk97_105 rf_10_34 (by decide) (cob_any rfl bl0) ?_
      refine cR_lift (fun _ _ kk => eE_iload_n lk97_108 gq9 kk) ?_
      refine cR_lift (fun _ _ kk => eE_iconst (v := 1) lk97_109 (by decide) kk) ?_
      refine cR_lift (fun _ _ kk => eE_iadd lk97_110 kk) ?_
      refine cR_lift (fun _ _ kk => eE_iload lk97_111 gq5 kk) ?_
      refine cR_lift (fun _ _ kk => eE_i2b lk97_113 kk) ?_
      obtain ⟨σ13, h14, h⟩ := Option.bind_eq_some_iff.mp h
      refine cR_bast (cl := 10) (i := l0) (f := 14) lk97_114 (by decide) rfl rfl (cob_any rfl bl0) h14 ?_
      refine cR_lift (fun _ _ kk => eE_aload_n lk97_115 gq7 kk) ?_
      refine cR_getA lk97_116 rf_10_15 (by decide) (cob_any rfl bl0) ?_
      refine cR_lift (fun _ _ kk => eE_iload_n lk97_119 gq10 kk) ?_
      refine cR_lift (fun _ _ kk => eE_bipush (v := 101) lk97_120 (by decide) kk) ?_
      refine cR_lift (fun _ _ kk => eE_imul lk97_122 kk) ?_
      refine cR_lift (fun _ _ kk => eE_aload_n lk97_123 gq7 kk) ?_
      refine cR_getA lk97_124 rf_10_34 (by decide) (cob_any rfl bl0) ?_
      refine cR_lift (fun _ _ kk => eE_iload_n lk97_127 gq9 kk) ?_
      refine cR_lift (fun _ _ kk => eE_iconst (v := 2) lk97_128 (by decide) kk) ?_
      refine cR_lift (fun _ _ kk => eE_iadd lk97_129 kk) ?_
      refine cR_lift (fun _ _ kk => eE_iload lk97_130 gq5 kk) ?_
      obtain ⟨σ15, h16, h⟩ := Option.bind_eq_some_iff.mp h
      refine cR_cpy (a := 10) (i := l0) (f := 3) (a' := 10) (i' := l0) (f' := 14) lk97_132 yc_10_68.1 yc_10_68.2 (by decide) (by decide) (by decide) (cob_any rfl bl0) (cob_any rfl bl0) (by first | exact Nat.le_of_ble_eq_true rfl | (simp [xcat, cvo_cat, cat_i, cat_j, cat_r]; done)) h16 ?_
      refine cR_lift (fun _ _ kk => eE_iload_n lk97_135 gq9 kk) ?_
      refine cR_lift (fun _ _ kk => eE_iconst (v := 2) lk97_136 (by decide) kk) ?_
      refine cR_lift (fun _ _ kk => eE_iload lk97_137 gq5 kk) ?_
      refine cR_lift (fun _ _ kk => eE_iadd lk97_139 kk) ?_
      refine cR_lift (fun _ _ kk => eE_iadd lk97_140 kk) ?_
      refine cR_stI (j := 2) lk97_141 (Or.inr ⟨_, rfl, rfl⟩) (by decide) (fun vq17 gq18 kq19 => ?_)
      have gq20 := kq19 0 _ (by decide) (fun e => absurd e (by decide)) gq7
      have gq21 := kq19 1 _ (by decide) (fun _ => rfl) gq8
      have gq22 := kq19 3 _ (by decide) (fun e => absurd e (by decide)) gq10
      refine cR_inc (j := 3) (v := l3 + (1 : Int32)) lk97_142 gq22 rfl (by decide) (fun vq23 gq24 kq25 => ?_)
      have gq26 := kq25 0 _ (by decide) (fun e => absurd e (by decide)) gq20
      have gq27 := kq25 1 _ (by decide) (fun e => absurd e (by decide)) gq21
      have gq28 := kq25 2 _ (by decide) (fun _ => rfl) gq18
      refine cR_lift (fun _ _ kk => eE_goto (t := 37) lk97_145 (by decide) kk) ?_
      exact hK37 g vq23 σ15 l0 l1 (l2 + (((2 : Int32)) + x2)) (l3 + (1 : Int32)) (cob_any rfl bl0) gq26 gq27 gq28 gq24 _ h
    · rw [if_neg c1] at h
      refine cR_lift (fun _ _ kk => eE_aload_n lk97_59 g0 kk) ?_
      refine cR_lift (fun _ _ kk => eE_iload_n lk97_60 g2 kk) ?_
      refine cR_lift (fun _ _ kk => eE_aload_n lk97_61 g0 kk) ?_
      refine cR_getA lk97_62 rf_10_11 (by decide) bl0 ?_
      refine cR_lift (fun _ _ kk => eE_iload lk97_65 g4 kk) ?_
      refine cR_lift (fun _ _ kk => eE_iload lk97_67 g5 kk) ?_
      refine cR_lift (fun _ _ kk => eE_iadd lk97_69 kk) ?_
      obtain ⟨x29, h30, h⟩ := Option.bind_eq_some_iff.mp h
      refine cR_iald (cl := 10) (i := l0) (f := 2) lk97_70 (by decide) rfl bl0 h30 ?_
      obtain ⟨p31, h32, h⟩ := Option.bind_eq_some_iff.mp h
      refine cR_virt (cl := 10) (i := l0) (as := [.int l2, .int x29]) lk97_71 mr_10_146 na_98 rfl rfl (by first | exact Nat.le_of_ble_eq_true rfl | (simp [xcat, cvo_cat, cat_i, cat_j, cat_r]; done)) wv_98 wc_98 bl0 (k_Machine_saveNumber_ok hp0 hL hF (d := d + 0) bl0 h32) (fun m33  => ?_)
      refine cR_stI (j := 2) lk97_74 (Or.inr ⟨_, rfl, rfl⟩) (by decide) (fun vq34 gq35 kq36 => ?_)
      have gq37 := kq36 0 _ (by decide) (fun e => absurd e (by decide)) g0
      have gq38 := kq36 1 _ (by decide) (fun _ => rfl) g1
      have gq39 := kq36 3 _ (by decide) (fun e => absurd e (by decide)) g3
      have gq40 := kq36 4 _ (by decide) (fun e => absurd e (by decide)) g4
      have gq41 := kq36 5 _ (by decide) (fun e => absurd e (by decide)) g5
      refine cR_inc (j := 5) (v := l5 + (1 : Int32)) lk97_75 gq41 rfl (by decide) (fun vq42 gq43 kq44 => ?_)
      have gq45 := kq44 0 _ (by decide) (fun e => absurd e (by decide)) gq37
      have gq46 := kq44 1 _ (by decide) (fun e => absurd e (by decide)) gq38
      have gq47 := kq44 3 _ (by decide) (fun e => absurd e (by decide)) gq39
      have gq48 := kq44 4 _ (by decide) (fun _ => rfl) gq40
      have gq49 := kq44 2 _ (by decide) (fun e => absurd e (by decide)) gq35
      refine cR_lift (fun _ _ kk => eE_goto (t := 53) lk97_78 (by decide) kk) ?_
      exact hKK g vq42 p31.2 l0 l1 p31.1 l3 l4 (l5 + (1 : Int32)) (cob_any rfl bl0) gq45 gq46 gq49 gq47 gq48 gq43 _ h
def k_Machine_save_b160 (F : Nat)  : Nat → CS → Nat → Int32 → Int32 → Int32 → Option ((Int32) × CS)
  | 0, _, _, _, _, _ => none
  | n + 1, σ, l0, l1, l2, l3 =>
    let KK := k_Machine_save_b160 F  n
    if xc2 .ge l3 (cI σ 10 l0 4 0) = true then (
      some (l1, σ)
    ) else (
      (crd σ 10 l0 6 l3).bind fun x51 =>
      (crd σ 10 l0 7 x51).bind fun x60 =>
      (cwr σ 10 l0 14 l2 ((x60.toInt8.toInt32).toInt8.toInt32)).bind fun σ62 =>
      (crd σ62 10 l0 8 x51).bind fun x64 =>
      (cwr σ62 10 l0 14 (l2 + ((1 : Int32))) (((x64 >>> (((8 : Int32)) &&& 31)).toInt8.toInt32).toInt8.toInt32)).bind fun σ66 =>
      (crd σ66 10 l0 8 x51).bind fun x68 =>
      (cwr σ66 10 l0 14 (l2 + ((2 : Int32))) ((x68.toInt8.toInt32).toInt8.toInt32)).bind fun σ70 =>
      (crd σ70 10 l0 7 x51).bind fun x72 =>
      (ccpy σ70 10 l0 9 (x51 * ((132 : Int32))) 10 l0 14 (l2 + ((3 : Int32))) x72).bind fun σ74 =>
      (crd σ74 10 l0 7 x51).bind fun x76 =>
      (crd σ74 10 l0 8 x51).bind fun x85 =>
      (ccpy σ74 10 l0 9 ((x51 * ((132 : Int32))) + ((32 : Int32))) 10 l0 14 (l2 + (((3 : Int32)) + x76)) x85).bind fun σ87 =>
      (crd σ87 10 l0 8 x51).bind fun x89 =>
      KK σ87 l0 l1 ((l2 + (((3 : Int32)) + x76)) + x89) (l3 + (1 : Int32))
    )
set_option maxRecDepth 4000 in
theorem k_Machine_save_b160_ok {E : CE} {pF : Nat → List Value → xH → Option (Option Value × xH)} (hp0 : xNPc pF) (hL : lcAll E pF) (hF : lcF pF) {d : Nat} {F : Nat}   : ∀ (n : Nat) (g : CG) (lv : xL) (σ : CS) (l0 : Nat) (l1 : Int32) (l2 : Int32) (l3 : Int32), (cob σ 10 l0) → (xg lv 0 = some (.ref (coa E 10 l0))) → (xg lv 1 = some (.int l1)) → (xg lv 2 = some (.int l2)) → (xg lv 3 = some (.int l3)) → ∀ res, k_Machine_save_b160 F  n σ l0 l1 l2 l3 = some res → cR E (cQx [10]) pF (d + 1) kT97 10 6 (some FieldType.int) (some (.int res.1)) res.2 g σ (160, lv, []) := by
  intro n
  induction n with
  | zero => intro g lv σ l0 l1 l2 l3 bl0 g0 g1 g2 g3 res h; simp [k_Machine_save_b160] at h
  | succ n hKK =>
    intro g lv σ l0 l1 l2 l3 bl0 g0 g1 g2 g3 res h
    unfold k_Machine_save_b160 at h
    dsimp only at h
    refine cR_lift (fun _ _ kk => eE_iload_n lk97_160 g3 kk) ?_
    refine cR_lift (fun _ _ kk => eE_aload_n lk97_161 g0 kk) ?_
    refine cR_getI lk97_162 rf_10_45 rfl bl0 ?_
    refine cR_icmp (t := 308) lk97_165 (by decide) (fun c50 => ?_) (fun c50 => ?_)
    · rw [if_pos c50] at h
      refine cR_lift (fun _ _ kk => eE_iload_n lk97_308 g1 kk) ?_
      cases h
      exact cR_end lk97_309 rfl rfl rfl
    · rw [if_neg c50] at h
      refine cR_lift (fun _ _ kk => eE_aload_n lk97_168 g0 kk) ?_
      refine cR_getA lk97_169 rf_10_19 (by decide) bl0 ?_
      refine cR_lift (fun _ _ kk => eE_iload_n lk97_172 g3 kk) ?_
      obtain ⟨x51, h52, h⟩ := Option.bind_eq_some_iff.mp h
      refine cR_iald (cl := 10) (i := l0) (f := 6) lk97_173 (by decide) rfl bl0 h52 ?_
      refine cR_stI (j := 4) lk97_174 (Or.inl rfl) (by decide) (fun vq53 gq54 kq55 => ?_)
      have gq56 := kq55 0 _ (by decide) (fun e => absurd e (by decide)) g0
      have gq57 := kq55 1 _ (by decide) (fun e => absurd e (by decide)) g1
      have gq58 := kq55 2 _ (by decide) (fun e => absurd e (by decide)) g2
      have gq59 := kq55 3 _ (by decide) (fun _ => rfl) g3
      refine cR_lift (fun _ _ kk => eE_aload_n lk97_176 gq56 kk) ?_
      refine cR_getA lk97_177 rf_10_34 (by decide) bl0 ?_
      refine cR_lift (fun _ _ kk => eE_iload_n lk97_180 gq58 kk) ?_
      refine cR_lift (fun _ _ kk => eE_aload_n lk97_181 gq56 kk) ?_
      refine cR_getA lk97_182 rf_10_22 (by decide) bl0 ?_
      refine cR_lift (fun _ _ kk => eE_iload lk97_185 gq54 kk) ?_
      obtain ⟨x60, h61, h⟩ := Option.bind_eq_some_iff.mp h
      refine cR_iald (cl := 10) (i := l0) (f := 7) lk97_187 (by decide) rfl bl0 h61 ?_
      refine cR_lift (fun _ _ kk => eE_i2b lk97_188 kk) ?_
      obtain ⟨σ62, h63, h⟩ := Option.bind_eq_some_iff.mp h
      refine cR_bast (cl := 10) (i := l0) (f := 14) lk97_189 (by decide) rfl rfl bl0 h63 ?_
      refine cR_lift (fun _ _ kk => eE_aload_n lk97_190 gq56 kk) ?_
      refine cR_getA lk97_191 rf_10_34 (by decide) (cob_any rfl bl0) ?_
      refine cR_lift (fun _ _ kk => eE_iload_n lk97_194 gq58 kk) ?_
      refine cR_lift (fun _ _ kk => eE_iconst (v := 1) lk97_195 (by decide) kk) ?_
      refine cR_lift (fun _ _ kk => eE_iadd lk97_196 kk) ?_
      refine cR_lift (fun _ _ kk => eE_aload_n lk97_197 gq56 kk) ?_
      refine cR_getA lk97_198 rf_10_25 (by decide) (cob_any rfl bl0) ?_
      refine cR_lift (fun _ _ kk => eE_iload lk97_201 gq54 kk) ?_
      obtain ⟨x64, h65, h⟩ := Option.bind_eq_some_iff.mp h
      refine cR_iald (cl := 10) (i := l0) (f := 8) lk97_203 (by decide) rfl (cob_any rfl bl0) h65 ?_
      refine cR_lift (fun _ _ kk => eE_bipush (v := 8) lk97_204 (by decide) kk) ?_
      refine cR_lift (fun _ _ kk => eE_ishr lk97_206 kk) ?_
      refine cR_lift (fun _ _ kk => eE_i2b lk97_207 kk) ?_
      obtain ⟨σ66, h67, h⟩ := Option.bind_eq_some_iff.mp h
      refine cR_bast (cl := 10) (i := l0) (f := 14) lk97_208 (by decide) rfl rfl (cob_any rfl bl0) h67 ?_
      refine cR_lift (fun _ _ kk => eE_aload_n lk97_209 gq56 kk) ?_
      refine cR_getA lk97_210 rf_10_34 (by decide) (cob_any rfl bl0) ?_
      refine cR_lift (fun _ _ kk => eE_iload_n lk97_213 gq58 kk) ?_
      refine cR_lift (fun _ _ kk => eE_iconst (v := 2) lk97_214 (by decide) kk) ?_
      refine cR_lift (fun _ _ kk => eE_iadd lk97_215 kk) ?_
      refine cR_lift (fun _ _ kk => eE_aload_n lk97_216 gq56 kk) ?_
      refine cR_getA lk97_217 rf_10_25 (by decide) (cob_any rfl bl0) ?_
      refine cR_lift (fun _ _ kk => eE_iload lk97_220 gq54 kk) ?_
      obtain ⟨x68, h69, h⟩ := Option.bind_eq_some_iff.mp h
      refine cR_iald (cl := 10) (i := l0) (f := 8) lk97_222 (by decide) rfl (cob_any rfl bl0) h69 ?_
      refine cR_lift (fun _ _ kk => eE_i2b lk97_223 kk) ?_
      obtain ⟨σ70, h71, h⟩ := Option.bind_eq_some_iff.mp h
      refine cR_bast (cl := 10) (i := l0) (f := 14) lk97_224 (by decide) rfl rfl (cob_any rfl bl0) h71 ?_
      refine cR_lift (fun _ _ kk => eE_aload_n lk97_225 gq56 kk) ?_
      refine cR_getA lk97_226 rf_10_28 (by decide) (cob_any rfl bl0) ?_
      refine cR_lift (fun _ _ kk => eE_iload lk97_229 gq54 kk) ?_
      refine cR_lift (fun _ _ kk => eE_sipush (v := 132) lk97_231 (by decide) kk) ?_
      refine cR_lift (fun _ _ kk => eE_imul lk97_234 kk) ?_
      refine cR_lift (fun _ _ kk => eE_aload_n lk97_235 gq56 kk) ?_
      refine cR_getA lk97_236 rf_10_34 (by decide) (cob_any rfl bl0) ?_
      refine cR_lift (fun _ _ kk => eE_iload_n lk97_239 gq58 kk) ?_
      refine cR_lift (fun _ _ kk => eE_iconst (v := 3) lk97_240 (by decide) kk) ?_
      refine cR_lift (fun _ _ kk => eE_iadd lk97_241 kk) ?_
      refine cR_lift (fun _ _ kk => eE_aload_n lk97_242 gq56 kk) ?_
      refine cR_getA lk97_243 rf_10_22 (by decide) (cob_any rfl bl0) ?_
      refine cR_lift (fun _ _ kk => eE_iload lk97_246 gq54 kk) ?_
      obtain ⟨x72, h73, h⟩ := Option.bind_eq_some_iff.mp h
      refine cR_iald (cl := 10) (i := l0) (f := 7) lk97_248 (by decide) rfl (cob_any rfl bl0) h73 ?_
      obtain ⟨σ74, h75, h⟩ := Option.bind_eq_some_iff.mp h
      refine cR_cpy (a := 10) (i := l0) (f := 9) (a' := 10) (i' := l0) (f' := 14) lk97_249 yc_10_68.1 yc_10_68.2 (by decide) (by decide) (by decide) (cob_any rfl bl0) (cob_any rfl bl0) (by first | exact Nat.le_of_ble_eq_true rfl | (simp [xcat, cvo_cat, cat_i, cat_j, cat_r]; done)) h75 ?_
      refine cR_lift (fun _ _ kk => eE_iload_n lk97_252 gq58 kk) ?_
      refine cR_lift (fun _ _ kk => eE_iconst (v := 3) lk97_253 (by decide) kk) ?_
      refine cR_lift (fun _ _ kk => eE_aload_n lk97_254 gq56 kk) ?_
      refine cR_getA lk97_255 rf_10_22 (by decide) (cob_any rfl bl0) ?_
      refine cR_lift (fun _ _ kk => eE_iload lk97_258 gq54 kk) ?_
      obtain ⟨x76, h77, h⟩ := Option.bind_eq_some_iff.mp h
      refine cR_iald (cl := 10) (i := l0) (f := 7) lk97_260 (by decide) rfl (cob_any rfl bl0) h77 ?_
      refine cR_lift (fun _ _ kk => eE_iadd lk97_261 kk) ?_
      refine cR_lift (fun _ _ kk => eE_iadd lk97_262 kk) ?_
      refine cR_stI (j := 2) lk97_263 (Or.inr ⟨_, rfl, rfl⟩) (by decide) (fun vq78 gq79 kq80 => ?_)
      have gq81 := kq80 0 _ (by decide) (fun e => absurd e (by decide)) gq56
      have gq82 := kq80 1 _ (by decide) (fun _ => rfl) gq57
      have gq83 := kq80 3 _ (by decide) (fun e => absurd e (by decide)) gq59
      have gq84 := kq80 4 _ (by decide) (fun e => absurd e (by decide)) gq54
      refine cR_lift (fun _ _ kk => eE_aload_n lk97_264 gq81 kk) ?_
      refine cR_getA lk97_265 rf_10_28 (by decide) (cob_any rfl bl0) ?_
      refine cR_lift (fun _ _ kk => eE_iload lk97_268 gq84 kk) ?_
      refine cR_lift (fun _ _ kk => eE_sipush (v := 132) lk97_270 (by decide) kk) ?_
      refine cR_lift (fun _ _ kk => eE_imul lk97_273 kk) ?_
      refine cR_lift (fun _ _ kk => eE_bipush (v := 32) lk97_274 (by decide) kk) ?_
      refine cR_lift (fun _ _ kk => eE_iadd lk97_276 kk) ?_
      refine cR_lift (fun _ _ kk => eE_aload_n lk97_277 gq81 kk) ?_
      refine cR_getA lk97_278 rf_10_34 (by decide) (cob_any rfl bl0) ?_
      refine cR_lift (fun _ _ kk => eE_iload_n lk97_281 gq79 kk) ?_
      refine cR_lift (fun _ _ kk => eE_aload_n lk97_282 gq81 kk) ?_
      refine cR_getA lk97_283 rf_10_25 (by decide) (cob_any rfl bl0) ?_
      refine cR_lift (fun _ _ kk => eE_iload lk97_286 gq84 kk) ?_
      obtain ⟨x85, h86, h⟩ := Option.bind_eq_some_iff.mp h
      refine cR_iald (cl := 10) (i := l0) (f := 8) lk97_288 (by decide) rfl (cob_any rfl bl0) h86 ?_
      obtain ⟨σ87, h88, h⟩ := Option.bind_eq_some_iff.mp h
      refine cR_cpy (a := 10) (i := l0) (f := 9) (a' := 10) (i' := l0) (f' := 14) lk97_289 yc_10_68.1 yc_10_68.2 (by decide) (by decide) (by decide) (cob_any rfl bl0) (cob_any rfl bl0) (by first | exact Nat.le_of_ble_eq_true rfl | (simp [xcat, cvo_cat, cat_i, cat_j, cat_r]; done)) h88 ?_
      refine cR_lift (fun _ _ kk => eE_iload_n lk97_292 gq79 kk) ?_
      refine cR_lift (fun _ _ kk => eE_aload_n lk97_293 gq81 kk) ?_
      refine cR_getA lk97_294 rf_10_25 (by decide) (cob_any rfl bl0) ?_
      refine cR_lift (fun _ _ kk => eE_iload lk97_297 gq84 kk) ?_
      obtain ⟨x89, h90, h⟩ := Option.bind_eq_some_iff.mp h
      refine cR_iald (cl := 10) (i := l0) (f := 8) lk97_299 (by decide) rfl (cob_any rfl bl0) h90 ?_
      refine cR_lift (fun _ _ kk => eE_iadd lk97_300 kk) ?_
      refine cR_stI (j := 2) lk97_301 (Or.inr ⟨_, rfl, rfl⟩) (by decide) (fun vq91 gq92 kq93 => ?_)
      have gq94 := kq93 0 _ (by decide) (fun e => absurd e (by decide)) gq81
      have gq95 := kq93 1 _ (by decide) (fun _ => rfl) gq82
      have gq96 := kq93 3 _ (by decide) (fun e => absurd e (by decide)) gq83
      refine cR_inc (j := 3) (v := l3 + (1 : Int32)) lk97_302 gq96 rfl (by decide) (fun vq97 gq98 kq99 => ?_)
      have gq100 := kq99 0 _ (by decide) (fun e => absurd e (by decide)) gq94
      have gq101 := kq99 1 _ (by decide) (fun e => absurd e (by decide)) gq95
      have gq102 := kq99 2 _ (by decide) (fun _ => rfl) gq92
      refine cR_lift (fun _ _ kk => eE_goto (t := 160) lk97_305 (by decide) kk) ?_
      exact hKK g vq97 σ87 l0 l1 ((l2 + (((3 : Int32)) + x76)) + x89) (l3 + (1 : Int32)) (cob_any rfl bl0) gq100 gq101 gq102 gq98 _ h
def k_Machine_save_b37 (F : Nat)  : Nat → CS → Nat → Int32 → Int32 → Int32 → Option ((Int32) × CS)
  | 0, _, _, _, _, _ => none
  | n + 1, σ, l0, l1, l2, l3 =>
    let KK := k_Machine_save_b37 F  n
    if xc2 .ge l3 (cI σ 10 l0 1 0) = true then (
      (k_Machine_saveNumber F σ l0 l2 (cI σ 10 l0 4 0)).bind fun p104 =>
      k_Machine_save_b160 F  F p104.2 l0 l1 p104.1 ((0 : Int32))
    ) else (
      k_Machine_save_b53 F KK F σ l0 l1 l2 l3 (l3 * ((5 : Int32))) ((0 : Int32))
    )
set_option maxRecDepth 4000 in
theorem k_Machine_save_b37_ok {E : CE} {pF : Nat → List Value → xH → Option (Option Value × xH)} (hp0 : xNPc pF) (hL : lcAll E pF) (hF : lcF pF) {d : Nat} {F : Nat}   : ∀ (n : Nat) (g : CG) (lv : xL) (σ : CS) (l0 : Nat) (l1 : Int32) (l2 : Int32) (l3 : Int32), (cob σ 10 l0) → (xg lv 0 = some (.ref (coa E 10 l0))) → (xg lv 1 = some (.int l1)) → (xg lv 2 = some (.int l2)) → (xg lv 3 = some (.int l3)) → ∀ res, k_Machine_save_b37 F  n σ l0 l1 l2 l3 = some res → cR E (cQx [10]) pF (d + 1) kT97 10 6 (some FieldType.int) (some (.int res.1)) res.2 g σ (37, lv, []) := by
  intro n
  induction n with
  | zero => intro g lv σ l0 l1 l2 l3 bl0 g0 g1 g2 g3 res h; simp [k_Machine_save_b37] at h
  | succ n hKK =>
    intro g lv σ l0 l1 l2 l3 bl0 g0 g1 g2 g3 res h
    unfold k_Machine_save_b37 at h
    dsimp only at h
    refine cR_lift (fun _ _ kk => eE_iload_n lk97_37 g3 kk) ?_
    refine cR_lift (fun _ _ kk => eE_aload_n lk97_38 g0 kk) ?_
    refine cR_getI lk97_39 rf_10_41 rfl bl0 ?_
    refine cR_icmp (t := 148) lk97_42 (by decide) (fun c103 => ?_) (fun c103 => ?_)
    · rw [if_pos c103] at h
      refine cR_lift (fun _ _ kk => eE_aload_n lk97_148 g0 kk) ?_
      refine cR_lift (fun _ _ kk => eE_iload_n lk97_149 g2 kk) ?_
      refine cR_lift (fun _ _ kk => eE_aload_n lk97_150 g0 kk) ?_
      refine cR_getI lk97_151 rf_10_45 rfl bl0 ?_
      obtain ⟨p104, h105, h⟩ := Option.bind_eq_some_iff.mp h
      refine cR_virt (cl := 10) (i := l0) (as := [.int l2, .int (cI σ 10 l0 4 0)]) lk97_154 mr_10_146 na_98 rfl rfl (by first | exact Nat.le_of_ble_eq_true rfl | (simp [xcat, cvo_cat, cat_i, cat_j, cat_r]; done)) wv_98 wc_98 bl0 (k_Machine_saveNumber_ok hp0 hL hF (d := d + 0) bl0 h105) (fun m106  => ?_)
      refine cR_stI (j := 2) lk97_157 (Or.inr ⟨_, rfl, rfl⟩) (by decide) (fun vq107 gq108 kq109 => ?_)
      have gq110 := kq109 0 _ (by decide) (fun e => absurd e (by decide)) g0
      have gq111 := kq109 1 _ (by decide) (fun _ => rfl) g1
      refine cR_lift (fun _ _ kk => eE_iconst (v := 0) lk97_158 (by decide) kk) ?_
      refine cR_stI (j := 3) lk97_159 (Or.inr ⟨_, rfl, rfl⟩) (by decide) (fun vq112 gq113 kq114 => ?_)
      have gq115 := kq114 0 _ (by decide) (fun e => absurd e (by decide)) gq110
      have gq116 := kq114 1 _ (by decide) (fun e => absurd e (by decide)) gq111
      have gq117 := kq114 2 _ (by decide) (fun _ => rfl) gq108
      exact k_Machine_save_b160_ok hp0 hL hF  F g vq112 p104.2 l0 l1 p104.1 ((0 : Int32)) (cob_any rfl bl0) gq115 gq116 gq117 gq113 _ h
    · rw [if_neg c103] at h
      refine cR_lift (fun _ _ kk => eE_iload_n lk97_45 g3 kk) ?_
      refine cR_lift (fun _ _ kk => eE_iconst (v := 5) lk97_46 (by decide) kk) ?_
      refine cR_lift (fun _ _ kk => eE_imul lk97_47 kk) ?_
      refine cR_stI (j := 4) lk97_48 (Or.inl rfl) (by decide) (fun vq118 gq119 kq120 => ?_)
      have gq121 := kq120 0 _ (by decide) (fun e => absurd e (by decide)) g0
      have gq122 := kq120 1 _ (by decide) (fun e => absurd e (by decide)) g1
      have gq123 := kq120 2 _ (by decide) (fun e => absurd e (by decide)) g2
      have gq124 := kq120 3 _ (by decide) (fun _ => rfl) g3
      refine cR_lift (fun _ _ kk => eE_iconst (v := 0) lk97_50 (by decide) kk) ?_
      refine cR_stI (j := 5) lk97_51 (Or.inl rfl) (by decide) (fun vq125 gq126 kq127 => ?_)
      have gq128 := kq127 0 _ (by decide) (fun e => absurd e (by decide)) gq121
      have gq129 := kq127 1 _ (by decide) (fun e => absurd e (by decide)) gq122
      have gq130 := kq127 2 _ (by decide) (fun e => absurd e (by decide)) gq123
      have gq131 := kq127 3 _ (by decide) (fun e => absurd e (by decide)) gq124
      have gq132 := kq127 4 _ (by decide) (fun _ => rfl) gq119
      exact k_Machine_save_b53_ok hp0 hL hF hKK F g vq125 σ l0 l1 l2 l3 (l3 * ((5 : Int32))) ((0 : Int32)) bl0 gq128 gq129 gq130 gq131 gq132 gq126 _ h
def k_Machine_save_b25 (F : Nat)  (σ : CS) (l0 : Nat) (l1 : Int32) : Option ((Int32) × CS) :=
  (k_Machine_saveNumber F σ l0 ((0 : Int32)) (cI σ 10 l0 1 0)).bind fun p133 =>
  k_Machine_save_b37 F  F p133.2 l0 l1 p133.1 ((0 : Int32))
set_option maxRecDepth 4000 in
theorem k_Machine_save_b25_ok {E : CE} {pF : Nat → List Value → xH → Option (Option Value × xH)} (hp0 : xNPc pF) (hL : lcAll E pF) (hF : lcF pF) {d : Nat} {F : Nat}   : ∀ (g : CG) (lv : xL) (σ : CS) (l0 : Nat) (l1 : Int32), (cob σ 10 l0) → (xg lv 0 = some (.ref (coa E 10 l0))) → (xg lv 1 = some (.int l1)) → ∀ res, k_Machine_save_b25 F  σ l0 l1 = some res → cR E (cQx [10]) pF (d + 1) kT97 10 6 (some FieldType.int) (some (.int res.1)) res.2 g σ (25, lv, []) := by
  intro g lv σ l0 l1 bl0 g0 g1 res h
  unfold k_Machine_save_b25 at h
  refine cR_lift (fun _ _ kk => eE_aload_n lk97_25 g0 kk) ?_
  refine cR_lift (fun _ _ kk => eE_iconst (v := 0) lk97_26 (by decide) kk) ?_
  refine cR_lift (fun _ _ kk => eE_aload_n lk97_27 g0 kk) ?_
  refine cR_getI lk97_28 rf_10_41 rfl bl0 ?_
  obtain ⟨p133, h134, h⟩ := Option.bind_eq_some_iff.mp h
  refine cR_virt (cl := 10) (i := l0) (as := [.int ((0 : Int32)), .int (cI σ 10 l0 1 0)]) lk97_31 mr_10_146 na_98 rfl rfl (by first | exact Nat.le_of_ble_eq_true rfl | (simp [xcat, cvo_cat, cat_i, cat_j, cat_r]; done)) wv_98 wc_98 bl0 (k_Machine_saveNumber_ok hp0 hL hF (d := d + 0) bl0 h134) (fun m135  => ?_)
  refine cR_stI (j := 2) lk97_34 (Or.inr ⟨_, rfl, rfl⟩) (by decide) (fun vq136 gq137 kq138 => ?_)
  have gq139 := kq138 0 _ (by decide) (fun e => absurd e (by decide)) g0
  have gq140 := kq138 1 _ (by decide) (fun _ => rfl) g1
  refine cR_lift (fun _ _ kk => eE_iconst (v := 0) lk97_35 (by decide) kk) ?_
  refine cR_stI (j := 3) lk97_36 (Or.inr ⟨_, rfl, rfl⟩) (by decide) (fun vq141 gq142 kq143 => ?_)
  have gq144 := kq143 0 _ (by decide) (fun e => absurd e (by decide)) gq139
  have gq145 := kq143 1 _ (by decide) (fun e => absurd e (by decide)) gq140
  have gq146 := kq143 2 _ (by decide) (fun _ => rfl) gq137
  exact k_Machine_save_b37_ok hp0 hL hF  F g vq141 p133.2 l0 l1 p133.1 ((0 : Int32)) (cob_any rfl bl0) gq144 gq145 gq146 gq142 _ h
def k_Machine_save_b0 (F : Nat)  (σ : CS) (l0 : Nat) : Option ((Int32) × CS) :=
  (k_Machine_savedSize F σ l0).bind fun p147 =>
  if xc2 .ge (Int32.ofNat (cal σ 10 l0 14)) p147 = true then (
    k_Machine_save_b25 F  σ l0 p147
  ) else (
    if ((2 : Int32)) = 0 then none else
    (cgrow σ 10 l0 14 (p147 + (p147 / ((2 : Int32))))).bind fun σ156 =>
    k_Machine_save_b25 F  σ156 l0 p147
  )
set_option maxRecDepth 4000 in
theorem k_Machine_save_b0_ok {E : CE} {pF : Nat → List Value → xH → Option (Option Value × xH)} (hp0 : xNPc pF) (hL : lcAll E pF) (hF : lcF pF) {d : Nat} {F : Nat}   : ∀ (g : CG) (lv : xL) (σ : CS) (l0 : Nat), (cob σ 10 l0) → (xg lv 0 = some (.ref (coa E 10 l0))) → ∀ res, k_Machine_save_b0 F  σ l0 = some res → cR E (cQx [10]) pF (d + 1) kT97 10 6 (some FieldType.int) (some (.int res.1)) res.2 g σ (0, lv, []) := by
  intro g lv σ l0 bl0 g0 res h
  unfold k_Machine_save_b0 at h
  refine cR_lift (fun _ _ kk => eE_aload_n lk97_0 g0 kk) ?_
  obtain ⟨p147, h148, h⟩ := Option.bind_eq_some_iff.mp h
  refine cR_virt (cl := 10) (i := l0) (as := []) lk97_1 mr_10_142 na_99 rfl rfl (by first | exact Nat.le_of_ble_eq_true rfl | (simp [xcat, cvo_cat, cat_i, cat_j, cat_r]; done)) wv_99 wc_99 bl0 (k_Machine_savedSize_ok hp0 hL hF (d := d + 0) bl0 h148) (fun m149  => ?_)
  refine cR_stI (j := 1) lk97_4 (Or.inr ⟨_, rfl, rfl⟩) (by decide) (fun vq150 gq151 kq152 => ?_)
  have gq153 := kq152 0 _ (by decide) (fun _ => rfl) g0
  refine cR_lift (fun _ _ kk => eE_aload_n lk97_5 gq153 kk) ?_
  refine cR_getA lk97_6 rf_10_34 (by decide) bl0 ?_
  refine cR_alen (cl := 10) (i := l0) (f := 14) lk97_9 (by decide) (by decide) bl0 ?_
  refine cR_lift (fun _ _ kk => eE_iload_n lk97_10 gq151 kk) ?_
  refine cR_icmp (t := 25) lk97_11 (by decide) (fun c154 => ?_) (fun c154 => ?_)
  · rw [if_pos c154] at h
    exact k_Machine_save_b25_ok hp0 hL hF  g vq150 σ l0 p147 bl0 gq153 gq151 _ h
  · rw [if_neg c154] at h
    refine cR_lift (fun _ _ kk => eE_aload_n lk97_14 gq153 kk) ?_
    refine cR_lift (fun _ _ kk => eE_iload_n lk97_15 gq151 kk) ?_
    refine cR_lift (fun _ _ kk => eE_iload_n lk97_16 gq151 kk) ?_
    refine cR_lift (fun _ _ kk => eE_iconst (v := 2) lk97_17 (by decide) kk) ?_
    by_cases z155 : ((2 : Int32)) = 0
    · rw [if_pos z155] at h; cases h
    rw [if_neg z155] at h
    refine cR_lift (fun _ _ kk => eE_idiv lk97_18 z155 kk) ?_
    refine cR_lift (fun _ _ kk => eE_iadd lk97_19 kk) ?_
    obtain ⟨σ156, h157, h⟩ := Option.bind_eq_some_iff.mp h
    refine cR_newG (cl := 10) (i := l0) (f := 14) lk97_20 lk97_22 rfl rfl (by decide) rfl rf_10_34 rfl bl0 pf_10_14 h157 (by decide) (fun g_158 g_158e => ?_)
    exact k_Machine_save_b25_ok hp0 hL hF  g_158 vq150 σ156 l0 p147 (cob_any rfl bl0) gq153 gq151 _ h
def k_Machine_save (F : Nat) (σ : CS) (l0 : Nat) : Option ((Int32) × CS) := k_Machine_save_b0 F σ l0
theorem k_Machine_save_ok {E : CE} {pF : Nat → List Value → xH → Option (Option Value × xH)} (hp0 : xNPc pF) (hL : lcAll E pF) (hF : lcF pF) {d : Nat} {g : CG} {σ : CS} {F : Nat} {l0 : Nat} {res : (Int32) × CS} (bl0 : cob σ 10 l0) (h : k_Machine_save F σ l0 = some res) : cCo E (cQx [10]) pF (d + 2) 97 [.ref (coa E 10 l0)] (some (.int res.1)) res.2 g σ :=
  cCo_R kk_97 mo_97 ni_97 xm_97 (Nat.le_of_ble_eq_true rfl) (hp0 97 (by decide) _) (k_Machine_save_b0_ok hp0 hL hF g _ σ l0 bl0 rfl _ h)
